set_option maxHeartbeats 4000000 in
set_option maxRecDepth 100000 in
theorem c_MD_layOut {l : Launch} {D : va_G} {cG cZ cI cJ : ClassId} {am : Nat → Nat} (τ : mS) (c0 la : Nat) (h1 : 1 ≤ c0) (h4 : c0 ≤ 4) (hla2 : la ≤ 256) : gMet l D (gT cG cZ cI cJ) y_MD_layOut b_MD_layOut 5 none ({ frames := 2, cells := 0, slots := 0, locals := 40 }) (wm am cI cZ τ) [.ref (am 0), .int (nI c0), .int (nI la)] (wm am cI cZ (mLays (mLay0 τ c0) c0 la c0)) (none) := by
  refine gMet_of (by decide) (Nat.le_of_ble_eq_true rfl) ?_
  intro p e s m below meth c A ls hC hA hI hl
  obtain ⟨hx, hb, hr, hlk, hown, hml, hg, hK⟩ := hC
  have hown : s.vm.findClass "GroupBitmapsModel" = some m.cls := hown
  have hl : lv_has ls 5 [(0, .ref (am 0)), (1, .int (nI c0)), (2, .int (nI la))] := hl
  refine lv_aload_n hx hb d_MD_layOut_0 rfl (lv_at hl 0 rfl) ?_
  refine lv_iload_n hx hb d_MD_layOut_1 rfl (lv_at hl 1 rfl) ?_
  refine g_put (ws' := (wm am cI cZ (vGr τ c0))) (own := "GroupBitmapsModel") (C := R_MD) (T := F_MD) (N := 11) (ci := 3) (v := .int (nI c0)) hx hb hg ku_MD t_MD t_MD_ok n_MD hown hK hI (0) (wm_0) rfl 1 (by decide) kw_471 rfl rfl (rfl) (rfl) (Nat.le_of_ble_eq_true rfl) (wm_vGr) d_MD_layOut_2 (fun H locs hI => ?_)
  refine lv_aload_n hx hb d_MD_layOut_5 rfl (lv_at hl 0 rfl) ?_
  refine lv_iconst (v := nI 0) hx hb d_MD_layOut_6 (by decide) ?_
  refine g_put (ws' := (wm am cI cZ (vRs (vGr τ c0) 0))) (own := "GroupBitmapsModel") (C := R_MD) (T := F_MD) (N := 11) (ci := 3) (v := .int (nI 0)) hx hb hg ku_MD t_MD t_MD_ok n_MD hown hK hI (0) (wm_0) rfl 6 (by decide) kw_476 rfl rfl (rfl) (rfl) (Nat.le_of_ble_eq_true rfl) (wm_vRs) d_MD_layOut_7 (fun H locs hI => ?_)
  refine lv_aload_n hx hb d_MD_layOut_10 rfl (lv_at hl 0 rfl) ?_
  refine lv_iconst (v := nI 0) hx hb d_MD_layOut_11 (by decide) ?_
  refine g_put (ws' := (wm am cI cZ (vLt (vRs (vGr τ c0) 0) 0))) (own := "GroupBitmapsModel") (C := R_MD) (T := F_MD) (N := 11) (ci := 3) (v := .int (nI 0)) hx hb hg ku_MD t_MD t_MD_ok n_MD hown hK hI (0) (wm_0) rfl 7 (by decide) kw_477 rfl rfl (rfl) (rfl) (Nat.le_of_ble_eq_true rfl) (wm_vLt) d_MD_layOut_12 (fun H locs hI => ?_)
  refine lv_aload_n hx hb d_MD_layOut_15 rfl (lv_at hl 0 rfl) ?_
  refine g_get (own := "GroupBitmapsModel") (C := R_MD) (T := F_MD) (N := 11) (ci := 3) (v := .ref (am 5)) hx hb hg ku_MD hown hK hI (0) (wm_0) rfl 8 (by decide) kw_478 rfl d_MD_layOut_16 ?_
  refine lv_iconst (v := nI 1) hx hb d_MD_layOut_19 (by decide) ?_
  refine lv_iconst (v := bI true) hx hb d_MD_layOut_20 (by decide) ?_
  refine g_zast (ws' := (wm am cI cZ (mLay0 τ c0))) (B := (mTo (vLt (vRs (vGr τ c0) 0) 0))) (i := 1) (b := true) hx hb hK hI (5) 1 (wm_To) rfl (by omega) (by omega) (wm_vTo (f := setb (mTo τ) 1 true)) d_MD_layOut_21 (fun H locs hI => ?_)
  refine lv_iconst (v := bI false) hx hb d_MD_layOut_22 (by decide) ?_
  refine lv_istore_n (lv' := [(3, .int (bI false)), (0, .ref (am 0)), (1, .int (nI c0)), (2, .int (nI la))]) hx hb d_MD_layOut_23 rfl hl (by decide) rfl (fun ls hl => ?_)
  have loop : ∀ (fuel : Nat) (g : Nat), c0 + 1 ≤ fuel + g → (g ≤ c0) → ∀ (H : Heap) (locs : List Loc) (ls : Array Slot), gI D A s.heap (wm am cI cZ (mLays (mLay0 τ c0) c0 la g)) H locs → lv_has ls 5 [(0, .ref (am 0)), (1, .int (nI c0)), (2, .int (nI la)), (3, .int (nI g))] → W p l e ({ frames := 2, cells := 0, slots := 0, locals := 40 }) s m ([.ref (am 0), .int (nI c0), .int (nI la)] : List Value).toArray below meth c H locs 0 0 (gQ D below ([.ref (am 0), .int (nI c0), .int (nI la)] : List Value).toArray s A (wm am cI cZ (mLays (mLay0 τ c0) c0 la c0)) (none)) (F0 m 24 ls []) := by
    intro fuel
    induction fuel with
    | zero => intro g hfu hgc; exact absurd hfu (by omega)
    | succ fuel ih =>
      intro g hfu hgc H locs ls hI hl
      have hcn : mGr (mLays (mLay0 τ c0) c0 la g) = c0 := by rw [mGr_mLays]; rfl
      have hhd := gHd_le g
      refine lv_iload_n hx hb d_MD_layOut_24 rfl (lv_at hl 3 rfl) ?_
      refine lv_aload_n hx hb d_MD_layOut_25 rfl (lv_at hl 0 rfl) ?_
      refine g_get (own := "GroupBitmapsModel") (C := R_MD) (T := F_MD) (N := 11) (ci := 3) (v := .int (nI (mGr (mLays (mLay0 τ c0) c0 la g)))) hx hb hg ku_MD hown hK hI (0) (wm_0) rfl 1 (by decide) kw_471 rfl d_MD_layOut_26 ?_
      refine r_ge (a := g) (b := mGr (mLays (mLay0 τ c0) c0 la g)) (tgt := 180) hx hb d_MD_layOut_29 (by decide) (by omega) (by omega) (fun h => ?_) (fun h => ?_)
      · obtain rfl : c0 = g := by omega
        exact g_rv hx hb hr hlk hI (rfl) d_MD_layOut_180
      · refine lv_aload_n hx hb d_MD_layOut_32 rfl (lv_at hl 0 rfl) ?_
        refine g_get (own := "GroupBitmapsModel") (C := R_MD) (T := F_MD) (N := 11) (ci := 3) (v := .ref (am 1)) hx hb hg ku_MD hown hK hI (0) (wm_0) rfl 2 (by decide) kw_472 rfl d_MD_layOut_33 ?_
        refine lv_iload_n hx hb d_MD_layOut_36 rfl (lv_at hl 3 rfl) ?_
        refine lv_iload_n hx hb d_MD_layOut_37 rfl (lv_at hl 3 rfl) ?_
        refine lv_aload_n hx hb d_MD_layOut_38 rfl (lv_at hl 0 rfl) ?_
        refine g_get (own := "GroupBitmapsModel") (C := R_MD) (T := F_MD) (N := 11) (ci := 3) (v := .int (nI (mGr (mLays (mLay0 τ c0) c0 la g)))) hx hb hg ku_MD hown hK hI (0) (wm_0) rfl 1 (by decide) kw_471 rfl d_MD_layOut_39 ?_
        refine lv_iconst (v := nI 1) hx hb d_MD_layOut_42 (by decide) ?_
        refine r_isub (a := mGr (mLays (mLay0 τ c0) c0 la g)) (b := 1) hx hb (by omega) d_MD_layOut_43 ?_
        refine r_ne (a := g) (b := (mGr (mLays (mLay0 τ c0) c0 la g)) - 1) (tgt := 51) hx hb d_MD_layOut_44 (by decide) (by omega) (by omega) (fun h2 => ?_) (fun h2 => ?_)
        · have ei : (if g = c0 - 1 then la else 256) = 256 := if_neg (by omega)
          have es : mLays (mLay0 τ c0) c0 la (g + 1) = mLayG (mLays (mLay0 τ c0) c0 la g) g 256 := by rw [mLays, ei]
          refine lv_sipush (v := nI 256) hx hb d_MD_layOut_51 (by decide) ?_
          refine g_iast (ws' := (wm am cI cZ (vSz (mLays (mLay0 τ c0) c0 la g) (setn (mSz (mLays (mLay0 τ c0) c0 la g)) g 256)))) (F := (mSz (mLays (mLay0 τ c0) c0 la g))) (i := g) (v := 256) hx hb hK hI (1) 2 (wm_Sz) rfl (by omega) (by omega) (wm_vSz (f := setn (mSz (mLays (mLay0 τ c0) c0 la g)) g 256)) d_MD_layOut_54 (fun H locs hI => ?_)
          refine lv_aload_n hx hb d_MD_layOut_55 rfl (lv_at hl 0 rfl) ?_
          refine g_get (own := "GroupBitmapsModel") (C := R_MD) (T := F_MD) (N := 11) (ci := 3) (v := .ref (am 4)) hx hb hg ku_MD hown hK hI (0) (wm_0) rfl 5 (by decide) kw_475 rfl d_MD_layOut_56 ?_
          refine lv_iload_n hx hb d_MD_layOut_59 rfl (lv_at hl 3 rfl) ?_
          refine lv_iconst (v := nI 0) hx hb d_MD_layOut_60 (by decide) ?_
          refine g_iast (ws' := (wm am cI cZ (vFd (vSz (mLays (mLay0 τ c0) c0 la g) (setn (mSz (mLays (mLay0 τ c0) c0 la g)) g 256)) (setn (mFd (mLays (mLay0 τ c0) c0 la g)) g 0)))) (F := (mFd (vSz (mLays (mLay0 τ c0) c0 la g) (setn (mSz (mLays (mLay0 τ c0) c0 la g)) g 256)))) (i := g) (v := 0) hx hb hK hI (4) 2 (wm_Fd) rfl (by omega) (by omega) (wm_vFd (f := setn (mFd (mLays (mLay0 τ c0) c0 la g)) g 0)) d_MD_layOut_61 (fun H locs hI => ?_)
          refine lv_aload_n hx hb d_MD_layOut_62 rfl (lv_at hl 0 rfl) ?_
          refine g_get (own := "GroupBitmapsModel") (C := R_MD) (T := F_MD) (N := 11) (ci := 3) (v := .ref (am 5)) hx hb hg ku_MD hown hK hI (0) (wm_0) rfl 8 (by decide) kw_478 rfl d_MD_layOut_63 ?_
          refine lv_iload_n hx hb d_MD_layOut_66 rfl (lv_at hl 3 rfl) ?_
          refine g_callS (own := "GroupBitmapsModel") (k := 1) (As := [.int (nI g)]) (rest := [.ref (am 5)]) (c_MD_bitmap (vFd (vSz (mLays (mLay0 τ c0) c0 la g) (setn (mSz (mLays (mLay0 τ c0) c0 la g)) g 256)) (setn (mFd (mLays (mLay0 τ c0) c0 la g)) g 0)) g (by omega)) hx hb hml hown hg hK hI hA kw_461 kw_462 kw_4 kw_463 ky_MD_bitmap ⟨Nat.le_of_ble_eq_true rfl, Nat.le_of_ble_eq_true rfl⟩ rfl rfl rfl hl.1 (Nat.le_of_ble_eq_true rfl) ⟨Nat.zero_le _, Nat.zero_le _⟩ d_MD_layOut_67 rfl rfl (fun H locs hI => ?_)
          refine lv_iconst (v := bI true) hx hb d_MD_layOut_70 (by decide) ?_
          refine g_zast (ws' := (wm am cI cZ (vTo (vFd (vSz (mLays (mLay0 τ c0) c0 la g) (setn (mSz (mLays (mLay0 τ c0) c0 la g)) g 256)) (setn (mFd (mLays (mLay0 τ c0) c0 la g)) g 0)) (setb (mTo (mLays (mLay0 τ c0) c0 la g)) (256 * g + gHd g) true)))) (B := (mTo (vFd (vSz (mLays (mLay0 τ c0) c0 la g) (setn (mSz (mLays (mLay0 τ c0) c0 la g)) g 256)) (setn (mFd (mLays (mLay0 τ c0) c0 la g)) g 0)))) (i := 256 * g + gHd g) (b := true) hx hb hK hI (5) 1 (wm_To) rfl (by omega) (by omega) (wm_vTo (f := setb (mTo (mLays (mLay0 τ c0) c0 la g)) (256 * g + gHd g) true)) d_MD_layOut_71 (fun H locs hI => ?_)
          refine lv_aload_n hx hb d_MD_layOut_72 rfl (lv_at hl 0 rfl) ?_
          refine g_get (own := "GroupBitmapsModel") (C := R_MD) (T := F_MD) (N := 11) (ci := 3) (v := .ref (am 5)) hx hb hg ku_MD hown hK hI (0) (wm_0) rfl 8 (by decide) kw_478 rfl d_MD_layOut_73 ?_
          refine lv_iload_n hx hb d_MD_layOut_76 rfl (lv_at hl 3 rfl) ?_
          refine g_callS (own := "GroupBitmapsModel") (k := 1) (As := [.int (nI g)]) (rest := [.ref (am 5)]) (c_MD_bitmap (vTo (vFd (vSz (mLays (mLay0 τ c0) c0 la g) (setn (mSz (mLays (mLay0 τ c0) c0 la g)) g 256)) (setn (mFd (mLays (mLay0 τ c0) c0 la g)) g 0)) (setb (mTo (mLays (mLay0 τ c0) c0 la g)) (256 * g + gHd g) true)) g (by omega)) hx hb hml hown hg hK hI hA kw_461 kw_462 kw_4 kw_463 ky_MD_bitmap ⟨Nat.le_of_ble_eq_true rfl, Nat.le_of_ble_eq_true rfl⟩ rfl rfl rfl hl.1 (Nat.le_of_ble_eq_true rfl) ⟨Nat.zero_le _, Nat.zero_le _⟩ d_MD_layOut_77 rfl rfl (fun H locs hI => ?_)
          refine lv_iconst (v := nI 1) hx hb d_MD_layOut_80 (by decide) ?_
          refine r_iadd (a := 256 * g + gHd g) (b := 1) hx hb d_MD_layOut_81 ?_
          refine lv_iconst (v := bI true) hx hb d_MD_layOut_82 (by decide) ?_
          refine g_zast (ws' := (wm am cI cZ (mLay1 (mLays (mLay0 τ c0) c0 la g) g 256))) (B := (mTo (vTo (vFd (vSz (mLays (mLay0 τ c0) c0 la g) (setn (mSz (mLays (mLay0 τ c0) c0 la g)) g 256)) (setn (mFd (mLays (mLay0 τ c0) c0 la g)) g 0)) (setb (mTo (mLays (mLay0 τ c0) c0 la g)) (256 * g + gHd g) true)))) (i := (256 * g + gHd g) + 1) (b := true) hx hb hK hI (5) 1 (wm_To) rfl (by omega) (by omega) (wm_vTo (f := setb (setb (mTo (mLays (mLay0 τ c0) c0 la g)) (256 * g + gHd g) true) (256 * g + gHd g + 1) true)) d_MD_layOut_83 (fun H locs hI => ?_)
          refine lv_iconst (v := nI 0) hx hb d_MD_layOut_84 (by decide) ?_
          refine lv_istore (lv' := [(4, .int (nI 0)), (0, .ref (am 0)), (1, .int (nI c0)), (2, .int (nI la)), (3, .int (nI g))]) hx hb d_MD_layOut_85 hl (by decide) rfl (fun ls hl => ?_)
          have loop2 : ∀ (fuel : Nat) (k : Nat), 257 ≤ fuel + k → (k ≤ 256) → ∀ (H : Heap) (locs : List Loc) (ls : Array Slot), gI D A s.heap (wm am cI cZ (vBk (mLay1 (mLays (mLay0 τ c0) c0 la g) g 256) (rowB (mBk (mLays (mLay0 τ c0) c0 la g)) g k))) H locs → lv_has ls 5 [(0, .ref (am 0)), (1, .int (nI c0)), (2, .int (nI la)), (3, .int (nI g)), (4, .int (nI k))] → W p l e ({ frames := 2, cells := 0, slots := 0, locals := 40 }) s m ([.ref (am 0), .int (nI c0), .int (nI la)] : List Value).toArray below meth c H locs 0 0 (gQ D below ([.ref (am 0), .int (nI c0), .int (nI la)] : List Value).toArray s A (wm am cI cZ (mLays (mLay0 τ c0) c0 la c0)) (none)) (F0 m 87 ls []) := by
            intro fuel
            induction fuel with
            | zero => intro k hfu hk; exact absurd hfu (by omega)
            | succ fuel ih2 =>
              intro k hfu hk H locs ls hI hl
              refine lv_iload hx hb d_MD_layOut_87 (lv_at hl 4 rfl) ?_
              refine lv_sipush (v := nI 256) hx hb d_MD_layOut_89 (by decide) ?_
              refine r_ge (a := k) (b := 256) (tgt := 128) hx hb d_MD_layOut_92 (by decide) (by omega) (by omega) (fun h3 => ?_) (fun h3 => ?_)
              · obtain rfl : k = 256 := by omega
                refine lv_iconst (v := nI 0) hx hb d_MD_layOut_128 (by decide) ?_
                refine lv_istore (lv' := [(4, .int (nI 0)), (0, .ref (am 0)), (1, .int (nI c0)), (2, .int (nI la)), (3, .int (nI g))]) hx hb d_MD_layOut_129 hl (by decide) rfl (fun ls hl => ?_)
                have loop3 : ∀ (fuel : Nat) (k : Nat), 129 ≤ fuel + k → (k ≤ 128) → ∀ (H : Heap) (locs : List Loc) (ls : Array Slot), gI D A s.heap (wm am cI cZ (vFl (vBk (mLay1 (mLays (mLay0 τ c0) c0 la g) g 256) (rowB (mBk (mLays (mLay0 τ c0) c0 la g)) g 256)) (rowF (mFl (mLays (mLay0 τ c0) c0 la g)) g k))) H locs → lv_has ls 5 [(0, .ref (am 0)), (1, .int (nI c0)), (2, .int (nI la)), (3, .int (nI g)), (4, .int (nI k))] → W p l e ({ frames := 2, cells := 0, slots := 0, locals := 40 }) s m ([.ref (am 0), .int (nI c0), .int (nI la)] : List Value).toArray below meth c H locs 0 0 (gQ D below ([.ref (am 0), .int (nI c0), .int (nI la)] : List Value).toArray s A (wm am cI cZ (mLays (mLay0 τ c0) c0 la c0)) (none)) (F0 m 131 ls []) := by
                  intro fuel
                  induction fuel with
                  | zero => intro k hfu hk; exact absurd hfu (by omega)
                  | succ fuel ih3 =>
                    intro k hfu hk H locs ls hI hl
                    refine lv_iload hx hb d_MD_layOut_131 (lv_at hl 4 rfl) ?_
                    refine lv_sipush (v := nI 128) hx hb d_MD_layOut_133 (by decide) ?_
                    refine r_ge (a := k) (b := 128) (tgt := 174) hx hb d_MD_layOut_136 (by decide) (by omega) (by omega) (fun h6 => ?_) (fun h6 => ?_)
                    · obtain rfl : k = 128 := by omega
                      refine lv_iinc (v := nI (g + 1)) (lv' := [(3, .int (nI (g + 1))), (0, .ref (am 0)), (1, .int (nI c0)), (2, .int (nI la)), (4, .int (nI ((128))))]) hx hb d_MD_layOut_174 hl (k := 3) rfl (nI_1 _) (by decide) rfl (fun ls hl => ?_)
                      refine lv_goto (tgt := 24) hx hb d_MD_layOut_177 (by decide) ?_
                      exact ih (g + 1) (by omega) (by omega) _ _ _ (by rw [es]; exact hI) (lv_sub hl [1, 2, 3, 0] rfl)
                    · refine lv_aload_n hx hb d_MD_layOut_139 rfl (lv_at hl 0 rfl) ?_
                      refine g_get (own := "GroupBitmapsModel") (C := R_MD) (T := F_MD) (N := 11) (ci := 3) (v := .ref (am 3)) hx hb hg ku_MD hown hK hI (0) (wm_0) rfl 4 (by decide) kw_474 rfl d_MD_layOut_140 ?_
                      refine lv_sipush (v := nI 128) hx hb d_MD_layOut_143 (by decide) ?_
                      refine lv_iload_n hx hb d_MD_layOut_146 rfl (lv_at hl 3 rfl) ?_
                      refine r_imul (a := 128) (b := g) hx hb d_MD_layOut_147 ?_
                      refine lv_iload hx hb d_MD_layOut_148 (lv_at hl 4 rfl) ?_
                      refine r_iadd (a := 128 * g) (b := k) hx hb d_MD_layOut_150 ?_
                      refine lv_iload_n hx hb d_MD_layOut_151 rfl (lv_at hl 3 rfl) ?_
                      refine r_zne (a := g) (tgt := 166) hx hb d_MD_layOut_152 (by decide) (by omega) (fun h7 => ?_) (fun h7 => ?_)
                      · refine lv_iconst (v := bI false) hx hb d_MD_layOut_166 (by decide) ?_
                        refine g_zast (ws' := (wm am cI cZ (vFl (vBk (mLay1 (mLays (mLay0 τ c0) c0 la g) g 256) (rowB (mBk (mLays (mLay0 τ c0) c0 la g)) g 256)) (rowF (mFl (mLays (mLay0 τ c0) c0 la g)) g (k + 1))))) (B := (mFl (vFl (vBk (mLay1 (mLays (mLay0 τ c0) c0 la g) g 256) (rowB (mBk (mLays (mLay0 τ c0) c0 la g)) g 256)) (rowF (mFl (mLays (mLay0 τ c0) c0 la g)) g k)))) (i := (128 * g) + k) (b := false) hx hb hK hI (3) 1 (wm_Fl) rfl (by omega) (by omega) ((wm_vFl (f := setb (rowF (mFl (mLays (mLay0 τ c0) c0 la g)) g k) (128 * g + k) false)).trans (by rw [rowF_s (by simp; omega), vFl_vFl])) d_MD_layOut_167 (fun H locs hI => ?_)
                        refine lv_iinc (v := nI (k + 1)) (lv' := [(4, .int (nI (k + 1))), (0, .ref (am 0)), (1, .int (nI c0)), (2, .int (nI la)), (3, .int (nI g))]) hx hb d_MD_layOut_168 hl (k := 4) rfl (nI_1 _) (by decide) rfl (fun ls hl => ?_)
                        refine lv_goto (tgt := 131) hx hb d_MD_layOut_171 (by decide) ?_
                        exact ih3 (k + 1) (by omega) (by omega) _ _ _ hI (lv_sub hl [1, 2, 3, 4, 0] rfl)
                      · refine lv_iload hx hb d_MD_layOut_155 (lv_at hl 4 rfl) ?_
                        refine lv_bipush (v := nI 10) hx hb d_MD_layOut_157 (by decide) ?_
                        refine r_ge (a := k) (b := 10) (tgt := 166) hx hb d_MD_layOut_159 (by decide) (by omega) (by omega) (fun h8 => ?_) (fun h8 => ?_)
                        · refine lv_iconst (v := bI false) hx hb d_MD_layOut_166 (by decide) ?_
                          refine g_zast (ws' := (wm am cI cZ (vFl (vBk (mLay1 (mLays (mLay0 τ c0) c0 la g) g 256) (rowB (mBk (mLays (mLay0 τ c0) c0 la g)) g 256)) (rowF (mFl (mLays (mLay0 τ c0) c0 la g)) g (k + 1))))) (B := (mFl (vFl (vBk (mLay1 (mLays (mLay0 τ c0) c0 la g) g 256) (rowB (mBk (mLays (mLay0 τ c0) c0 la g)) g 256)) (rowF (mFl (mLays (mLay0 τ c0) c0 la g)) g k)))) (i := (128 * g) + k) (b := false) hx hb hK hI (3) 1 (wm_Fl) rfl (by omega) (by omega) ((wm_vFl (f := setb (rowF (mFl (mLays (mLay0 τ c0) c0 la g)) g k) (128 * g + k) false)).trans (by rw [rowF_s (by simp; omega), vFl_vFl])) d_MD_layOut_167 (fun H locs hI => ?_)
                          refine lv_iinc (v := nI (k + 1)) (lv' := [(4, .int (nI (k + 1))), (0, .ref (am 0)), (1, .int (nI c0)), (2, .int (nI la)), (3, .int (nI g))]) hx hb d_MD_layOut_168 hl (k := 4) rfl (nI_1 _) (by decide) rfl (fun ls hl => ?_)
                          refine lv_goto (tgt := 131) hx hb d_MD_layOut_171 (by decide) ?_
                          exact ih3 (k + 1) (by omega) (by omega) _ _ _ hI (lv_sub hl [1, 2, 3, 4, 0] rfl)
                        · refine lv_iconst (v := bI true) hx hb d_MD_layOut_162 (by decide) ?_
                          refine lv_goto (tgt := 167) hx hb d_MD_layOut_163 (by decide) ?_
                          refine g_zast (ws' := (wm am cI cZ (vFl (vBk (mLay1 (mLays (mLay0 τ c0) c0 la g) g 256) (rowB (mBk (mLays (mLay0 τ c0) c0 la g)) g 256)) (rowF (mFl (mLays (mLay0 τ c0) c0 la g)) g (k + 1))))) (B := (mFl (vFl (vBk (mLay1 (mLays (mLay0 τ c0) c0 la g) g 256) (rowB (mBk (mLays (mLay0 τ c0) c0 la g)) g 256)) (rowF (mFl (mLays (mLay0 τ c0) c0 la g)) g k)))) (i := (128 * g) + k) (b := true) hx hb hK hI (3) 1 (wm_Fl) rfl (by omega) (by omega) ((wm_vFl (f := setb (rowF (mFl (mLays (mLay0 τ c0) c0 la g)) g k) (128 * g + k) true)).trans (by rw [rowF_s (by simp; omega), vFl_vFl])) d_MD_layOut_167 (fun H locs hI => ?_)
                          refine lv_iinc (v := nI (k + 1)) (lv' := [(4, .int (nI (k + 1))), (0, .ref (am 0)), (1, .int (nI c0)), (2, .int (nI la)), (3, .int (nI g))]) hx hb d_MD_layOut_168 hl (k := 4) rfl (nI_1 _) (by decide) rfl (fun ls hl => ?_)
                          refine lv_goto (tgt := 131) hx hb d_MD_layOut_171 (by decide) ?_
                          exact ih3 (k + 1) (by omega) (by omega) _ _ _ hI (lv_sub hl [1, 2, 3, 4, 0] rfl)
                exact loop3 129 0 (by omega) (Nat.zero_le _) _ _ _ (by rw [rowF_0]; exact hI) (lv_sub hl [1, 2, 3, 4, 0] rfl)
              · refine lv_aload_n hx hb d_MD_layOut_95 rfl (lv_at hl 0 rfl) ?_
                refine g_get (own := "GroupBitmapsModel") (C := R_MD) (T := F_MD) (N := 11) (ci := 3) (v := .ref (am 2)) hx hb hg ku_MD hown hK hI (0) (wm_0) rfl 3 (by decide) kw_473 rfl d_MD_layOut_96 ?_
                refine lv_sipush (v := nI 256) hx hb d_MD_layOut_99 (by decide) ?_
                refine lv_iload_n hx hb d_MD_layOut_102 rfl (lv_at hl 3 rfl) ?_
                refine r_imul (a := 256) (b := g) hx hb d_MD_layOut_103 ?_
                refine lv_iload hx hb d_MD_layOut_104 (lv_at hl 4 rfl) ?_
                refine r_iadd (a := 256 * g) (b := k) hx hb d_MD_layOut_106 ?_
                refine lv_iload hx hb d_MD_layOut_107 (lv_at hl 4 rfl) ?_
                refine lv_iload_n hx hb d_MD_layOut_109 rfl (lv_at hl 3 rfl) ?_
                refine g_callS (own := "GroupBitmapsModel") (k := 1) (As := [.int (nI g)]) (rest := [.int (nI k), .int (nI ((256 * g) + k)), .ref (am 2)]) (c_MD_fixed (vBk (mLay1 (mLays (mLay0 τ c0) c0 la g) g 256) (rowB (mBk (mLays (mLay0 τ c0) c0 la g)) g k)) g (by omega)) hx hb hml hown hg hK hI hA kw_467 kw_468 kw_4 kw_469 ky_MD_fixed ⟨Nat.le_of_ble_eq_true rfl, Nat.le_of_ble_eq_true rfl⟩ rfl rfl rfl hl.1 (Nat.le_of_ble_eq_true rfl) ⟨Nat.zero_le _, Nat.zero_le _⟩ d_MD_layOut_110 rfl rfl (fun H locs hI => ?_)
                refine r_ge (a := k) (b := gHd g + 10) (tgt := 120) hx hb d_MD_layOut_113 (by decide) (by omega) (by omega) (fun h5 => ?_) (fun h5 => ?_)
                · refine lv_iconst (v := bI false) hx hb d_MD_layOut_120 (by decide) ?_
                  refine g_zast (ws' := (wm am cI cZ (vBk (mLay1 (mLays (mLay0 τ c0) c0 la g) g 256) (rowB (mBk (mLays (mLay0 τ c0) c0 la g)) g (k + 1))))) (B := (mBk (vBk (mLay1 (mLays (mLay0 τ c0) c0 la g) g 256) (rowB (mBk (mLays (mLay0 τ c0) c0 la g)) g k)))) (i := (256 * g) + k) (b := false) hx hb hK hI (2) 1 (wm_Bk) rfl (by omega) (by omega) ((wm_vBk (f := setb (rowB (mBk (mLays (mLay0 τ c0) c0 la g)) g k) (256 * g + k) false)).trans (by rw [rowB_s (by simp; omega), vBk_vBk])) d_MD_layOut_121 (fun H locs hI => ?_)
                  refine lv_iinc (v := nI (k + 1)) (lv' := [(4, .int (nI (k + 1))), (0, .ref (am 0)), (1, .int (nI c0)), (2, .int (nI la)), (3, .int (nI g))]) hx hb d_MD_layOut_122 hl (k := 4) rfl (nI_1 _) (by decide) rfl (fun ls hl => ?_)
                  refine lv_goto (tgt := 87) hx hb d_MD_layOut_125 (by decide) ?_
                  exact ih2 (k + 1) (by omega) (by omega) _ _ _ hI (lv_sub hl [1, 2, 3, 4, 0] rfl)
                · refine lv_iconst (v := bI true) hx hb d_MD_layOut_116 (by decide) ?_
                  refine lv_goto (tgt := 121) hx hb d_MD_layOut_117 (by decide) ?_
                  refine g_zast (ws' := (wm am cI cZ (vBk (mLay1 (mLays (mLay0 τ c0) c0 la g) g 256) (rowB (mBk (mLays (mLay0 τ c0) c0 la g)) g (k + 1))))) (B := (mBk (vBk (mLay1 (mLays (mLay0 τ c0) c0 la g) g 256) (rowB (mBk (mLays (mLay0 τ c0) c0 la g)) g k)))) (i := (256 * g) + k) (b := true) hx hb hK hI (2) 1 (wm_Bk) rfl (by omega) (by omega) ((wm_vBk (f := setb (rowB (mBk (mLays (mLay0 τ c0) c0 la g)) g k) (256 * g + k) true)).trans (by rw [rowB_s (by simp; omega), vBk_vBk])) d_MD_layOut_121 (fun H locs hI => ?_)
                  refine lv_iinc (v := nI (k + 1)) (lv' := [(4, .int (nI (k + 1))), (0, .ref (am 0)), (1, .int (nI c0)), (2, .int (nI la)), (3, .int (nI g))]) hx hb d_MD_layOut_122 hl (k := 4) rfl (nI_1 _) (by decide) rfl (fun ls hl => ?_)
                  refine lv_goto (tgt := 87) hx hb d_MD_layOut_125 (by decide) ?_
                  exact ih2 (k + 1) (by omega) (by omega) _ _ _ hI (lv_sub hl [1, 2, 3, 4, 0] rfl)
          exact loop2 257 0 (by omega) (Nat.zero_le _) _ _ _ (by rw [rowB_0]; exact hI) (lv_sub hl [1, 2, 3, 4, 0] rfl)
        · have ei : (if g = c0 - 1 then la else 256) = la := if_pos (by omega)
          have es : mLays (mLay0 τ c0) c0 la (g + 1) = mLayG (mLays (mLay0 τ c0) c0 la g) g la := by rw [mLays, ei]
          refine lv_iload_n hx hb d_MD_layOut_47 rfl (lv_at hl 2 rfl) ?_
          refine lv_goto (tgt := 54) hx hb d_MD_layOut_48 (by decide) ?_
          refine g_iast (ws' := (wm am cI cZ (vSz (mLays (mLay0 τ c0) c0 la g) (setn (mSz (mLays (mLay0 τ c0) c0 la g)) g la)))) (F := (mSz (mLays (mLay0 τ c0) c0 la g))) (i := g) (v := la) hx hb hK hI (1) 2 (wm_Sz) rfl (by omega) (by omega) (wm_vSz (f := setn (mSz (mLays (mLay0 τ c0) c0 la g)) g la)) d_MD_layOut_54 (fun H locs hI => ?_)
          refine lv_aload_n hx hb d_MD_layOut_55 rfl (lv_at hl 0 rfl) ?_
          refine g_get (own := "GroupBitmapsModel") (C := R_MD) (T := F_MD) (N := 11) (ci := 3) (v := .ref (am 4)) hx hb hg ku_MD hown hK hI (0) (wm_0) rfl 5 (by decide) kw_475 rfl d_MD_layOut_56 ?_
          refine lv_iload_n hx hb d_MD_layOut_59 rfl (lv_at hl 3 rfl) ?_
          refine lv_iconst (v := nI 0) hx hb d_MD_layOut_60 (by decide) ?_
          refine g_iast (ws' := (wm am cI cZ (vFd (vSz (mLays (mLay0 τ c0) c0 la g) (setn (mSz (mLays (mLay0 τ c0) c0 la g)) g la)) (setn (mFd (mLays (mLay0 τ c0) c0 la g)) g 0)))) (F := (mFd (vSz (mLays (mLay0 τ c0) c0 la g) (setn (mSz (mLays (mLay0 τ c0) c0 la g)) g la)))) (i := g) (v := 0) hx hb hK hI (4) 2 (wm_Fd) rfl (by omega) (by omega) (wm_vFd (f := setn (mFd (mLays (mLay0 τ c0) c0 la g)) g 0)) d_MD_layOut_61 (fun H locs hI => ?_)
          refine lv_aload_n hx hb d_MD_layOut_62 rfl (lv_at hl 0 rfl) ?_
          refine g_get (own := "GroupBitmapsModel") (C := R_MD) (T := F_MD) (N := 11) (ci := 3) (v := .ref (am 5)) hx hb hg ku_MD hown hK hI (0) (wm_0) rfl 8 (by decide) kw_478 rfl d_MD_layOut_63 ?_
          refine lv_iload_n hx hb d_MD_layOut_66 rfl (lv_at hl 3 rfl) ?_
          refine g_callS (own := "GroupBitmapsModel") (k := 1) (As := [.int (nI g)]) (rest := [.ref (am 5)]) (c_MD_bitmap (vFd (vSz (mLays (mLay0 τ c0) c0 la g) (setn (mSz (mLays (mLay0 τ c0) c0 la g)) g la)) (setn (mFd (mLays (mLay0 τ c0) c0 la g)) g 0)) g (by omega)) hx hb hml hown hg hK hI hA kw_461 kw_462 kw_4 kw_463 ky_MD_bitmap ⟨Nat.le_of_ble_eq_true rfl, Nat.le_of_ble_eq_true rfl⟩ rfl rfl rfl hl.1 (Nat.le_of_ble_eq_true rfl) ⟨Nat.zero_le _, Nat.zero_le _⟩ d_MD_layOut_67 rfl rfl (fun H locs hI => ?_)
          refine lv_iconst (v := bI true) hx hb d_MD_layOut_70 (by decide) ?_
          refine g_zast (ws' := (wm am cI cZ (vTo (vFd (vSz (mLays (mLay0 τ c0) c0 la g) (setn (mSz (mLays (mLay0 τ c0) c0 la g)) g la)) (setn (mFd (mLays (mLay0 τ c0) c0 la g)) g 0)) (setb (mTo (mLays (mLay0 τ c0) c0 la g)) (256 * g + gHd g) true)))) (B := (mTo (vFd (vSz (mLays (mLay0 τ c0) c0 la g) (setn (mSz (mLays (mLay0 τ c0) c0 la g)) g la)) (setn (mFd (mLays (mLay0 τ c0) c0 la g)) g 0)))) (i := 256 * g + gHd g) (b := true) hx hb hK hI (5) 1 (wm_To) rfl (by omega) (by omega) (wm_vTo (f := setb (mTo (mLays (mLay0 τ c0) c0 la g)) (256 * g + gHd g) true)) d_MD_layOut_71 (fun H locs hI => ?_)
          refine lv_aload_n hx hb d_MD_layOut_72 rfl (lv_at hl 0 rfl) ?_
          refine g_get (own := "GroupBitmapsModel") (C := R_MD) (T := F_MD) (N := 11) (ci := 3) (v := .ref (am 5)) hx hb hg ku_MD hown hK hI (0) (wm_0) rfl 8 (by decide) kw_478 rfl d_MD_layOut_73 ?_
          refine lv_iload_n hx hb d_MD_layOut_76 rfl (lv_at hl 3 rfl) ?_
          refine g_callS (own := "GroupBitmapsModel") (k := 1) (As := [.int (nI g)]) (rest := [.ref (am 5)]) (c_MD_bitmap (vTo (vFd (vSz (mLays (mLay0 τ c0) c0 la g) (setn (mSz (mLays (mLay0 τ c0) c0 la g)) g la)) (setn (mFd (mLays (mLay0 τ c0) c0 la g)) g 0)) (setb (mTo (mLays (mLay0 τ c0) c0 la g)) (256 * g + gHd g) true)) g (by omega)) hx hb hml hown hg hK hI hA kw_461 kw_462 kw_4 kw_463 ky_MD_bitmap ⟨Nat.le_of_ble_eq_true rfl, Nat.le_of_ble_eq_true rfl⟩ rfl rfl rfl hl.1 (Nat.le_of_ble_eq_true rfl) ⟨Nat.zero_le _, Nat.zero_le _⟩ d_MD_layOut_77 rfl rfl (fun H locs hI => ?_)
          refine lv_iconst (v := nI 1) hx hb d_MD_layOut_80 (by decide) ?_
          refine r_iadd (a := 256 * g + gHd g) (b := 1) hx hb d_MD_layOut_81 ?_
          refine lv_iconst (v := bI true) hx hb d_MD_layOut_82 (by decide) ?_
          refine g_zast (ws' := (wm am cI cZ (mLay1 (mLays (mLay0 τ c0) c0 la g) g la))) (B := (mTo (vTo (vFd (vSz (mLays (mLay0 τ c0) c0 la g) (setn (mSz (mLays (mLay0 τ c0) c0 la g)) g la)) (setn (mFd (mLays (mLay0 τ c0) c0 la g)) g 0)) (setb (mTo (mLays (mLay0 τ c0) c0 la g)) (256 * g + gHd g) true)))) (i := (256 * g + gHd g) + 1) (b := true) hx hb hK hI (5) 1 (wm_To) rfl (by omega) (by omega) (wm_vTo (f := setb (setb (mTo (mLays (mLay0 τ c0) c0 la g)) (256 * g + gHd g) true) (256 * g + gHd g + 1) true)) d_MD_layOut_83 (fun H locs hI => ?_)
          refine lv_iconst (v := nI 0) hx hb d_MD_layOut_84 (by decide) ?_
          refine lv_istore (lv' := [(4, .int (nI 0)), (0, .ref (am 0)), (1, .int (nI c0)), (2, .int (nI la)), (3, .int (nI g))]) hx hb d_MD_layOut_85 hl (by decide) rfl (fun ls hl => ?_)
          have loop2 : ∀ (fuel : Nat) (k : Nat), 257 ≤ fuel + k → (k ≤ 256) → ∀ (H : Heap) (locs : List Loc) (ls : Array Slot), gI D A s.heap (wm am cI cZ (vBk (mLay1 (mLays (mLay0 τ c0) c0 la g) g la) (rowB (mBk (mLays (mLay0 τ c0) c0 la g)) g k))) H locs → lv_has ls 5 [(0, .ref (am 0)), (1, .int (nI c0)), (2, .int (nI la)), (3, .int (nI g)), (4, .int (nI k))] → W p l e ({ frames := 2, cells := 0, slots := 0, locals := 40 }) s m ([.ref (am 0), .int (nI c0), .int (nI la)] : List Value).toArray below meth c H locs 0 0 (gQ D below ([.ref (am 0), .int (nI c0), .int (nI la)] : List Value).toArray s A (wm am cI cZ (mLays (mLay0 τ c0) c0 la c0)) (none)) (F0 m 87 ls []) := by
            intro fuel
            induction fuel with
            | zero => intro k hfu hk; exact absurd hfu (by omega)
            | succ fuel ih2 =>
              intro k hfu hk H locs ls hI hl
              refine lv_iload hx hb d_MD_layOut_87 (lv_at hl 4 rfl) ?_
              refine lv_sipush (v := nI 256) hx hb d_MD_layOut_89 (by decide) ?_
              refine r_ge (a := k) (b := 256) (tgt := 128) hx hb d_MD_layOut_92 (by decide) (by omega) (by omega) (fun h3 => ?_) (fun h3 => ?_)
              · obtain rfl : k = 256 := by omega
                refine lv_iconst (v := nI 0) hx hb d_MD_layOut_128 (by decide) ?_
                refine lv_istore (lv' := [(4, .int (nI 0)), (0, .ref (am 0)), (1, .int (nI c0)), (2, .int (nI la)), (3, .int (nI g))]) hx hb d_MD_layOut_129 hl (by decide) rfl (fun ls hl => ?_)
                have loop3 : ∀ (fuel : Nat) (k : Nat), 129 ≤ fuel + k → (k ≤ 128) → ∀ (H : Heap) (locs : List Loc) (ls : Array Slot), gI D A s.heap (wm am cI cZ (vFl (vBk (mLay1 (mLays (mLay0 τ c0) c0 la g) g la) (rowB (mBk (mLays (mLay0 τ c0) c0 la g)) g 256)) (rowF (mFl (mLays (mLay0 τ c0) c0 la g)) g k))) H locs → lv_has ls 5 [(0, .ref (am 0)), (1, .int (nI c0)), (2, .int (nI la)), (3, .int (nI g)), (4, .int (nI k))] → W p l e ({ frames := 2, cells := 0, slots := 0, locals := 40 }) s m ([.ref (am 0), .int (nI c0), .int (nI la)] : List Value).toArray below meth c H locs 0 0 (gQ D below ([.ref (am 0), .int (nI c0), .int (nI la)] : List Value).toArray s A (wm am cI cZ (mLays (mLay0 τ c0) c0 la c0)) (none)) (F0 m 131 ls []) := by
                  intro fuel
                  induction fuel with
                  | zero => intro k hfu hk; exact absurd hfu (by omega)
                  | succ fuel ih3 =>
                    intro k hfu hk H locs ls hI hl
                    refine lv_iload hx hb d_MD_layOut_131 (lv_at hl 4 rfl) ?_
                    refine lv_sipush (v := nI 128) hx hb d_MD_layOut_133 (by decide) ?_
                    refine r_ge (a := k) (b := 128) (tgt := 174) hx hb d_MD_layOut_136 (by decide) (by omega) (by omega) (fun h6 => ?_) (fun h6 => ?_)
                    · obtain rfl : k = 128 := by omega
                      refine lv_iinc (v := nI (g + 1)) (lv' := [(3, .int (nI (g + 1))), (0, .ref (am 0)), (1, .int (nI c0)), (2, .int (nI la)), (4, .int (nI ((128))))]) hx hb d_MD_layOut_174 hl (k := 3) rfl (nI_1 _) (by decide) rfl (fun ls hl => ?_)
                      refine lv_goto (tgt := 24) hx hb d_MD_layOut_177 (by decide) ?_
                      exact ih (g + 1) (by omega) (by omega) _ _ _ (by rw [es]; exact hI) (lv_sub hl [1, 2, 3, 0] rfl)
                    · refine lv_aload_n hx hb d_MD_layOut_139 rfl (lv_at hl 0 rfl) ?_
                      refine g_get (own := "GroupBitmapsModel") (C := R_MD) (T := F_MD) (N := 11) (ci := 3) (v := .ref (am 3)) hx hb hg ku_MD hown hK hI (0) (wm_0) rfl 4 (by decide) kw_474 rfl d_MD_layOut_140 ?_
                      refine lv_sipush (v := nI 128) hx hb d_MD_layOut_143 (by decide) ?_
                      refine lv_iload_n hx hb d_MD_layOut_146 rfl (lv_at hl 3 rfl) ?_
                      refine r_imul (a := 128) (b := g) hx hb d_MD_layOut_147 ?_
                      refine lv_iload hx hb d_MD_layOut_148 (lv_at hl 4 rfl) ?_
                      refine r_iadd (a := 128 * g) (b := k) hx hb d_MD_layOut_150 ?_
                      refine lv_iload_n hx hb d_MD_layOut_151 rfl (lv_at hl 3 rfl) ?_
                      refine r_zne (a := g) (tgt := 166) hx hb d_MD_layOut_152 (by decide) (by omega) (fun h7 => ?_) (fun h7 => ?_)
                      · refine lv_iconst (v := bI false) hx hb d_MD_layOut_166 (by decide) ?_
                        refine g_zast (ws' := (wm am cI cZ (vFl (vBk (mLay1 (mLays (mLay0 τ c0) c0 la g) g la) (rowB (mBk (mLays (mLay0 τ c0) c0 la g)) g 256)) (rowF (mFl (mLays (mLay0 τ c0) c0 la g)) g (k + 1))))) (B := (mFl (vFl (vBk (mLay1 (mLays (mLay0 τ c0) c0 la g) g la) (rowB (mBk (mLays (mLay0 τ c0) c0 la g)) g 256)) (rowF (mFl (mLays (mLay0 τ c0) c0 la g)) g k)))) (i := (128 * g) + k) (b := false) hx hb hK hI (3) 1 (wm_Fl) rfl (by omega) (by omega) ((wm_vFl (f := setb (rowF (mFl (mLays (mLay0 τ c0) c0 la g)) g k) (128 * g + k) false)).trans (by rw [rowF_s (by simp; omega), vFl_vFl])) d_MD_layOut_167 (fun H locs hI => ?_)
                        refine lv_iinc (v := nI (k + 1)) (lv' := [(4, .int (nI (k + 1))), (0, .ref (am 0)), (1, .int (nI c0)), (2, .int (nI la)), (3, .int (nI g))]) hx hb d_MD_layOut_168 hl (k := 4) rfl (nI_1 _) (by decide) rfl (fun ls hl => ?_)
                        refine lv_goto (tgt := 131) hx hb d_MD_layOut_171 (by decide) ?_
                        exact ih3 (k + 1) (by omega) (by omega) _ _ _ hI (lv_sub hl [1, 2, 3, 4, 0] rfl)
                      · refine lv_iload hx hb d_MD_layOut_155 (lv_at hl 4 rfl) ?_
                        refine lv_bipush (v := nI 10) hx hb d_MD_layOut_157 (by decide) ?_
                        refine r_ge (a := k) (b := 10) (tgt := 166) hx hb d_MD_layOut_159 (by decide) (by omega) (by omega) (fun h8 => ?_) (fun h8 => ?_)
                        · refine lv_iconst (v := bI false) hx hb d_MD_layOut_166 (by decide) ?_
                          refine g_zast (ws' := (wm am cI cZ (vFl (vBk (mLay1 (mLays (mLay0 τ c0) c0 la g) g la) (rowB (mBk (mLays (mLay0 τ c0) c0 la g)) g 256)) (rowF (mFl (mLays (mLay0 τ c0) c0 la g)) g (k + 1))))) (B := (mFl (vFl (vBk (mLay1 (mLays (mLay0 τ c0) c0 la g) g la) (rowB (mBk (mLays (mLay0 τ c0) c0 la g)) g 256)) (rowF (mFl (mLays (mLay0 τ c0) c0 la g)) g k)))) (i := (128 * g) + k) (b := false) hx hb hK hI (3) 1 (wm_Fl) rfl (by omega) (by omega) ((wm_vFl (f := setb (rowF (mFl (mLays (mLay0 τ c0) c0 la g)) g k) (128 * g + k) false)).trans (by rw [rowF_s (by simp; omega), vFl_vFl])) d_MD_layOut_167 (fun H locs hI => ?_)
                          refine lv_iinc (v := nI (k + 1)) (lv' := [(4, .int (nI (k + 1))), (0, .ref (am 0)), (1, .int (nI c0)), (2, .int (nI la)), (3, .int (nI g))]) hx hb d_MD_layOut_168 hl (k := 4) rfl (nI_1 _) (by decide) rfl (fun ls hl => ?_)
                          refine lv_goto (tgt := 131) hx hb d_MD_layOut_171 (by decide) ?_
                          exact ih3 (k + 1) (by omega) (by omega) _ _ _ hI (lv_sub hl [1, 2, 3, 4, 0] rfl)
                        · refine lv_iconst (v := bI true) hx hb d_MD_layOut_162 (by decide) ?_
                          refine lv_goto (tgt := 167) hx hb d_MD_layOut_163 (by decide) ?_
                          refine g_zast (ws' := (wm am cI cZ (vFl (vBk (mLay1 (mLays (mLay0 τ c0) c0 la g) g la) (rowB (mBk (mLays (mLay0 τ c0) c0 la g)) g 256)) (rowF (mFl (mLays (mLay0 τ c0) c0 la g)) g (k + 1))))) (B := (mFl (vFl (vBk (mLay1 (mLays (mLay0 τ c0) c0 la g) g la) (rowB (mBk (mLays (mLay0 τ c0) c0 la g)) g 256)) (rowF (mFl (mLays (mLay0 τ c0) c0 la g)) g k)))) (i := (128 * g) + k) (b := true) hx hb hK hI (3) 1 (wm_Fl) rfl (by omega) (by omega) ((wm_vFl (f := setb (rowF (mFl (mLays (mLay0 τ c0) c0 la g)) g k) (128 * g + k) true)).trans (by rw [rowF_s (by simp; omega), vFl_vFl])) d_MD_layOut_167 (fun H locs hI => ?_)
                          refine lv_iinc (v := nI (k + 1)) (lv' := [(4, .int (nI (k + 1))), (0, .ref (am 0)), (1, .int (nI c0)), (2, .int (nI la)), (3, .int (nI g))]) hx hb d_MD_layOut_168 hl (k := 4) rfl (nI_1 _) (by decide) rfl (fun ls hl => ?_)
                          refine lv_goto (tgt := 131) hx hb d_MD_layOut_171 (by decide) ?_
                          exact ih3 (k + 1) (by omega) (by omega) _ _ _ hI (lv_sub hl [1, 2, 3, 4, 0] rfl)
                exact loop3 129 0 (by omega) (Nat.zero_le _) _ _ _ (by rw [rowF_0]; exact hI) (lv_sub hl [1, 2, 3, 4, 0] rfl)
              · refine lv_aload_n hx hb d_MD_layOut_95 rfl (lv_at hl 0 rfl) ?_
                refine g_get (own := "GroupBitmapsModel") (C := R_MD) (T := F_MD) (N := 11) (ci := 3) (v := .ref (am 2)) hx hb hg ku_MD hown hK hI (0) (wm_0) rfl 3 (by decide) kw_473 rfl d_MD_layOut_96 ?_
                refine lv_sipush (v := nI 256) hx hb d_MD_layOut_99 (by decide) ?_
                refine lv_iload_n hx hb d_MD_layOut_102 rfl (lv_at hl 3 rfl) ?_
                refine r_imul (a := 256) (b := g) hx hb d_MD_layOut_103 ?_
                refine lv_iload hx hb d_MD_layOut_104 (lv_at hl 4 rfl) ?_
                refine r_iadd (a := 256 * g) (b := k) hx hb d_MD_layOut_106 ?_
                refine lv_iload hx hb d_MD_layOut_107 (lv_at hl 4 rfl) ?_
                refine lv_iload_n hx hb d_MD_layOut_109 rfl (lv_at hl 3 rfl) ?_
                refine g_callS (own := "GroupBitmapsModel") (k := 1) (As := [.int (nI g)]) (rest := [.int (nI k), .int (nI ((256 * g) + k)), .ref (am 2)]) (c_MD_fixed (vBk (mLay1 (mLays (mLay0 τ c0) c0 la g) g la) (rowB (mBk (mLays (mLay0 τ c0) c0 la g)) g k)) g (by omega)) hx hb hml hown hg hK hI hA kw_467 kw_468 kw_4 kw_469 ky_MD_fixed ⟨Nat.le_of_ble_eq_true rfl, Nat.le_of_ble_eq_true rfl⟩ rfl rfl rfl hl.1 (Nat.le_of_ble_eq_true rfl) ⟨Nat.zero_le _, Nat.zero_le _⟩ d_MD_layOut_110 rfl rfl (fun H locs hI => ?_)
                refine r_ge (a := k) (b := gHd g + 10) (tgt := 120) hx hb d_MD_layOut_113 (by decide) (by omega) (by omega) (fun h5 => ?_) (fun h5 => ?_)
                · refine lv_iconst (v := bI false) hx hb d_MD_layOut_120 (by decide) ?_
                  refine g_zast (ws' := (wm am cI cZ (vBk (mLay1 (mLays (mLay0 τ c0) c0 la g) g la) (rowB (mBk (mLays (mLay0 τ c0) c0 la g)) g (k + 1))))) (B := (mBk (vBk (mLay1 (mLays (mLay0 τ c0) c0 la g) g la) (rowB (mBk (mLays (mLay0 τ c0) c0 la g)) g k)))) (i := (256 * g) + k) (b := false) hx hb hK hI (2) 1 (wm_Bk) rfl (by omega) (by omega) ((wm_vBk (f := setb (rowB (mBk (mLays (mLay0 τ c0) c0 la g)) g k) (256 * g + k) false)).trans (by rw [rowB_s (by simp; omega), vBk_vBk])) d_MD_layOut_121 (fun H locs hI => ?_)
                  refine lv_iinc (v := nI (k + 1)) (lv' := [(4, .int (nI (k + 1))), (0, .ref (am 0)), (1, .int (nI c0)), (2, .int (nI la)), (3, .int (nI g))]) hx hb d_MD_layOut_122 hl (k := 4) rfl (nI_1 _) (by decide) rfl (fun ls hl => ?_)
                  refine lv_goto (tgt := 87) hx hb d_MD_layOut_125 (by decide) ?_
                  exact ih2 (k + 1) (by omega) (by omega) _ _ _ hI (lv_sub hl [1, 2, 3, 4, 0] rfl)
                · refine lv_iconst (v := bI true) hx hb d_MD_layOut_116 (by decide) ?_
                  refine lv_goto (tgt := 121) hx hb d_MD_layOut_117 (by decide) ?_
                  refine g_zast (ws' := (wm am cI cZ (vBk (mLay1 (mLays (mLay0 τ c0) c0 la g) g la) (rowB (mBk (mLays (mLay0 τ c0) c0 la g)) g (k + 1))))) (B := (mBk (vBk (mLay1 (mLays (mLay0 τ c0) c0 la g) g la) (rowB (mBk (mLays (mLay0 τ c0) c0 la g)) g k)))) (i := (256 * g) + k) (b := true) hx hb hK hI (2) 1 (wm_Bk) rfl (by omega) (by omega) ((wm_vBk (f := setb (rowB (mBk (mLays (mLay0 τ c0) c0 la g)) g k) (256 * g + k) true)).trans (by rw [rowB_s (by simp; omega), vBk_vBk])) d_MD_layOut_121 (fun H locs hI => ?_)
                  refine lv_iinc (v := nI (k + 1)) (lv' := [(4, .int (nI (k + 1))), (0, .ref (am 0)), (1, .int (nI c0)), (2, .int (nI la)), (3, .int (nI g))]) hx hb d_MD_layOut_122 hl (k := 4) rfl (nI_1 _) (by decide) rfl (fun ls hl => ?_)
                  refine lv_goto (tgt := 87) hx hb d_MD_layOut_125 (by decide) ?_
                  exact ih2 (k + 1) (by omega) (by omega) _ _ _ hI (lv_sub hl [1, 2, 3, 4, 0] rfl)
          exact loop2 257 0 (by omega) (Nat.zero_le _) _ _ _ (by rw [rowB_0]; exact hI) (lv_sub hl [1, 2, 3, 4, 0] rfl)
  exact loop (c0 + 1) 0 (by omega) (Nat.zero_le _) _ _ _ hI (lv_sub hl [1, 2, 3, 0] rfl)
