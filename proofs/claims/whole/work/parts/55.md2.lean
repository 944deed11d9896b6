set_option maxHeartbeats 4000000 in
set_option maxRecDepth 100000 in
theorem c_MD_mark {l : Launch} {D : va_G} {cG cZ cI cJ : ClassId} {am : Nat → Nat} (τ : mS) (a q : Nat) (v : Bool) (haq : a + q ≤ 1024) : gMet l D (gT cG cZ cI cJ) y_MD_mark b_MD_mark 5 none ({ frames := 2, cells := 0, slots := 0, locals := 40 }) (wm am cI cZ τ) [.ref (am 0), .int (nI a), .int (nI q), .int (bI v)] (wm am cI cZ (mMark τ a v q)) (none) := by
  refine gMet_of (by decide) (Nat.le_of_ble_eq_true rfl) ?_
  intro p e s m below meth c A ls hC hA hI hl
  obtain ⟨hx, hb, hr, hlk, hown, hml, hg, hK⟩ := hC
  have hown : s.vm.findClass "GroupBitmapsModel" = some m.cls := hown
  have hl : lv_has ls 5 [(0, .ref (am 0)), (1, .int (nI a)), (2, .int (nI q)), (3, .int (bI v))] := hl
  refine lv_aload_n hx hb d_MD_mark_0 rfl (lv_at hl 0 rfl) ?_
  refine g_get (own := "GroupBitmapsModel") (C := R_MD) (T := F_MD) (N := 11) (ci := 3) (v := .ref (am 5)) hx hb hg ku_MD hown hK hI (0) (wm_0) rfl 8 (by decide) kw_478 rfl d_MD_mark_1 ?_
  refine lv_iconst (v := nI 1) hx hb d_MD_mark_4 (by decide) ?_
  refine lv_iconst (v := bI true) hx hb d_MD_mark_5 (by decide) ?_
  refine g_zast (ws' := (wm am cI cZ (mMark τ a v 0))) (B := (mTo τ)) (i := 1) (b := true) hx hb hK hI (5) 1 (wm_To) rfl (by omega) (by omega) (wm_vTo (f := setb (mTo τ) 1 true)) d_MD_mark_6 (fun H locs hI => ?_)
  refine lv_iload_n hx hb d_MD_mark_7 rfl (lv_at hl 1 rfl) ?_
  refine lv_istore (lv' := [(4, .int (nI a)), (0, .ref (am 0)), (1, .int (nI a)), (2, .int (nI q)), (3, .int (bI v))]) hx hb d_MD_mark_8 hl (by decide) rfl (fun ls hl => ?_)
  have loop : ∀ (fuel : Nat) (t : Nat), q + 1 ≤ fuel + t → (t ≤ q) → ∀ (H : Heap) (locs : List Loc) (ls : Array Slot), gI D A s.heap (wm am cI cZ (mMark τ a v t)) H locs → lv_has ls 5 [(0, .ref (am 0)), (1, .int (nI a)), (2, .int (nI q)), (3, .int (bI v)), (4, .int (nI (a + t)))] → W p l e ({ frames := 2, cells := 0, slots := 0, locals := 40 }) s m ([.ref (am 0), .int (nI a), .int (nI q), .int (bI v)] : List Value).toArray below meth c H locs 0 0 (gQ D below ([.ref (am 0), .int (nI a), .int (nI q), .int (bI v)] : List Value).toArray s A (wm am cI cZ (mMark τ a v q)) (none)) (F0 m 10 ls []) := by
    intro fuel
    induction fuel with
    | zero => intro t hfu ht; exact absurd hfu (by omega)
    | succ fuel ih =>
      intro t hfu ht H locs ls hI hl
      refine lv_iload hx hb d_MD_mark_10 (lv_at hl 4 rfl) ?_
      refine lv_iload_n hx hb d_MD_mark_12 rfl (lv_at hl 1 rfl) ?_
      refine lv_iload_n hx hb d_MD_mark_13 rfl (lv_at hl 2 rfl) ?_
      refine r_iadd (a := a) (b := q) hx hb d_MD_mark_14 ?_
      refine r_ge (a := a + t) (b := a + q) (tgt := 47) hx hb d_MD_mark_15 (by decide) (by omega) (by omega) (fun h => ?_) (fun h => ?_)
      · obtain rfl : q = t := by omega
        exact g_rv hx hb hr hlk hI (rfl) d_MD_mark_47
      · have hhd := gHd_le ((a + t) / 256)
        refine lv_aload_n hx hb d_MD_mark_18 rfl (lv_at hl 0 rfl) ?_
        refine g_get (own := "GroupBitmapsModel") (C := R_MD) (T := F_MD) (N := 11) (ci := 3) (v := .ref (am 2)) hx hb hg ku_MD hown hK hI (0) (wm_0) rfl 3 (by decide) kw_473 rfl d_MD_mark_19 ?_
        refine lv_iload hx hb d_MD_mark_22 (lv_at hl 4 rfl) ?_
        refine lv_iload_n hx hb d_MD_mark_24 rfl (lv_at hl 3 rfl) ?_
        refine g_zast (ws' := (wm am cI cZ (vBk (mMark τ a v t) (setb (mBk (mMark τ a v t)) (a + t) v)))) (B := (mBk (mMark τ a v t))) (i := a + t) (b := v) hx hb hK hI (2) 1 (wm_Bk) rfl (by omega) (by omega) (wm_vBk (f := setb (mBk (mMark τ a v t)) (a + t) v)) d_MD_mark_25 (fun H locs hI => ?_)
        refine lv_aload_n hx hb d_MD_mark_26 rfl (lv_at hl 0 rfl) ?_
        refine g_get (own := "GroupBitmapsModel") (C := R_MD) (T := F_MD) (N := 11) (ci := 3) (v := .ref (am 5)) hx hb hg ku_MD hown hK hI (0) (wm_0) rfl 8 (by decide) kw_478 rfl d_MD_mark_27 ?_
        refine lv_iload hx hb d_MD_mark_30 (lv_at hl 4 rfl) ?_
        refine lv_sipush (v := nI 256) hx hb d_MD_mark_32 (by decide) ?_
        refine r_idiv (a := a + t) (b := 256) hx hb (by omega) (by omega) (by omega) d_MD_mark_35 ?_
        refine g_callS (own := "GroupBitmapsModel") (k := 1) (As := [.int (nI ((a + t) / 256))]) (rest := [.ref (am 5)]) (c_MD_bitmap (vBk (mMark τ a v t) (setb (mBk (mMark τ a v t)) (a + t) v)) ((a + t) / 256) (by omega)) hx hb hml hown hg hK hI hA kw_461 kw_462 kw_4 kw_463 ky_MD_bitmap ⟨Nat.le_of_ble_eq_true rfl, Nat.le_of_ble_eq_true rfl⟩ rfl rfl rfl hl.1 (Nat.le_of_ble_eq_true rfl) ⟨Nat.zero_le _, Nat.zero_le _⟩ d_MD_mark_36 rfl rfl (fun H locs hI => ?_)
        refine lv_iconst (v := bI true) hx hb d_MD_mark_39 (by decide) ?_
        refine g_zast (ws' := (wm am cI cZ (mMark τ a v (t + 1)))) (B := (mTo (vBk (mMark τ a v t) (setb (mBk (mMark τ a v t)) (a + t) v)))) (i := 256 * ((a + t) / 256) + gHd ((a + t) / 256)) (b := true) hx hb hK hI (5) 1 (wm_To) rfl (by omega) (by omega) (wm_vTo (f := setb (mTo (mMark τ a v t)) (256 * ((a + t) / 256) + gHd ((a + t) / 256)) true)) d_MD_mark_40 (fun H locs hI => ?_)
        refine lv_iinc (v := nI ((a + t) + 1)) (lv' := [(4, .int (nI ((a + t) + 1))), (0, .ref (am 0)), (1, .int (nI a)), (2, .int (nI q)), (3, .int (bI v))]) hx hb d_MD_mark_41 hl (k := 4) rfl (nI_1 _) (by decide) rfl (fun ls hl => ?_)
        refine lv_goto (tgt := 10) hx hb d_MD_mark_44 (by decide) ?_
        exact ih (t + 1) (by omega) (by omega) _ _ _ hI (lv_sub hl [1, 2, 3, 4, 0] rfl)
  exact loop (q + 1) 0 (by omega) (Nat.zero_le _) _ _ _ hI (lv_sub hl [1, 2, 3, 4, 0] rfl)
set_option maxHeartbeats 4000000 in
set_option maxRecDepth 100000 in
theorem c_MD_markFile {l : Launch} {D : va_G} {cG cZ cI cJ : ClassId} {am : Nat → Nat} (τ : mS) (hτ : mOk τ) (g k : Nat) (v fo : Bool) (hg4 : g < 4) (hk : k < 128) (hfo : fo = true → v = false → 1 ≤ mFd τ g) : gMet l D (gT cG cZ cI cJ) y_MD_markFile b_MD_markFile 5 none ({ frames := 2, cells := 0, slots := 0, locals := 40 }) (wm am cI cZ τ) [.ref (am 0), .int (nI g), .int (nI k), .int (bI v), .int (bI fo)] (wm am cI cZ (mMkF τ g k v fo)) (none) := by
  refine gMet_of (by decide) (Nat.le_of_ble_eq_true rfl) ?_
  intro p e s m below meth c A ls hC hA hI hl
  obtain ⟨hx, hb, hr, hlk, hown, hml, hg, hK⟩ := hC
  have hown : s.vm.findClass "GroupBitmapsModel" = some m.cls := hown
  have hl : lv_has ls 5 [(0, .ref (am 0)), (1, .int (nI g)), (2, .int (nI k)), (3, .int (bI v)), (4, .int (bI fo))] := hl
  have hhd := gHd_le g
  have hfd := hτ.2.2.2.2 g hg4
  refine lv_aload_n hx hb d_MD_markFile_0 rfl (lv_at hl 0 rfl) ?_
  refine g_get (own := "GroupBitmapsModel") (C := R_MD) (T := F_MD) (N := 11) (ci := 3) (v := .ref (am 3)) hx hb hg ku_MD hown hK hI (0) (wm_0) rfl 4 (by decide) kw_474 rfl d_MD_markFile_1 ?_
  refine lv_sipush (v := nI 128) hx hb d_MD_markFile_4 (by decide) ?_
  refine lv_iload_n hx hb d_MD_markFile_7 rfl (lv_at hl 1 rfl) ?_
  refine r_imul (a := 128) (b := g) hx hb d_MD_markFile_8 ?_
  refine lv_iload_n hx hb d_MD_markFile_9 rfl (lv_at hl 2 rfl) ?_
  refine r_iadd (a := 128 * g) (b := k) hx hb d_MD_markFile_10 ?_
  refine lv_iload_n hx hb d_MD_markFile_11 rfl (lv_at hl 3 rfl) ?_
  refine g_zast (ws' := (wm am cI cZ (vFl τ (setb (mFl τ) (128 * g + k) v)))) (B := (mFl τ)) (i := (128 * g) + k) (b := v) hx hb hK hI (3) 1 (wm_Fl) rfl (by omega) (by omega) (wm_vFl (f := setb (mFl τ) (128 * g + k) v)) d_MD_markFile_12 (fun H locs hI => ?_)
  refine lv_aload_n hx hb d_MD_markFile_13 rfl (lv_at hl 0 rfl) ?_
  refine g_get (own := "GroupBitmapsModel") (C := R_MD) (T := F_MD) (N := 11) (ci := 3) (v := .ref (am 4)) hx hb hg ku_MD hown hK hI (0) (wm_0) rfl 5 (by decide) kw_475 rfl d_MD_markFile_14 ?_
  refine lv_iload_n hx hb d_MD_markFile_17 rfl (lv_at hl 1 rfl) ?_
  refine lv_iload hx hb d_MD_markFile_18 (lv_at hl 4 rfl) ?_
  refine r_bnz (b := fo) (tgt := 32) hx hb d_MD_markFile_20 (by decide) (fun h => ?_) (fun h => ?_)
  · refine lv_iload_n hx hb d_MD_markFile_32 rfl (lv_at hl 3 rfl) ?_
    refine r_bz (b := v) (tgt := 47) hx hb d_MD_markFile_33 (by decide) (fun h2 => ?_) (fun h2 => ?_)
    · have h1 : 1 ≤ mFd τ g := hfo h h2
      refine lv_aload_n hx hb d_MD_markFile_47 rfl (lv_at hl 0 rfl) ?_
      refine g_get (own := "GroupBitmapsModel") (C := R_MD) (T := F_MD) (N := 11) (ci := 3) (v := .ref (am 4)) hx hb hg ku_MD hown hK hI (0) (wm_0) rfl 5 (by decide) kw_475 rfl d_MD_markFile_48 ?_
      refine lv_iload_n hx hb d_MD_markFile_51 rfl (lv_at hl 1 rfl) ?_
      refine g_iald (F := (mFd (vFl τ (setb (mFl τ) (128 * g + k) v)))) (i := g) hx hb hK hI (4) 2 (wm_Fd) rfl (by omega) (by omega) d_MD_markFile_52 ?_
      refine lv_iconst (v := nI 1) hx hb d_MD_markFile_53 (by decide) ?_
      refine r_isub (a := mFd τ g) (b := 1) hx hb (by omega) d_MD_markFile_54 ?_
      have hv : mFdN τ g v fo = mFd τ g - 1 := by rw [mFdN, if_neg (by rw [h]; decide), if_neg (by rw [h2]; decide)]
      rw [show nI ((mFd τ g) - 1) = nI (mFdN τ g v fo) from congrArg nI (show (mFd τ g) - 1 = mFdN τ g v fo from hv.symm)]
      refine g_iast (ws' := (wm am cI cZ (vFd (vFl τ (setb (mFl τ) (128 * g + k) v)) (setn (mFd τ) g (mFdN τ g v fo))))) (F := (mFd (vFl τ (setb (mFl τ) (128 * g + k) v)))) (i := g) (v := mFdN τ g v fo) hx hb hK hI (4) 2 (wm_Fd) rfl (by omega) (by omega) (wm_vFd (f := setn (mFd τ) g (mFdN τ g v fo))) d_MD_markFile_55 (fun H locs hI => ?_)
      refine lv_aload_n hx hb d_MD_markFile_56 rfl (lv_at hl 0 rfl) ?_
      refine g_get (own := "GroupBitmapsModel") (C := R_MD) (T := F_MD) (N := 11) (ci := 3) (v := .ref (am 5)) hx hb hg ku_MD hown hK hI (0) (wm_0) rfl 8 (by decide) kw_478 rfl d_MD_markFile_57 ?_
      refine lv_iconst (v := nI 1) hx hb d_MD_markFile_60 (by decide) ?_
      refine lv_iconst (v := bI true) hx hb d_MD_markFile_61 (by decide) ?_
      refine g_zast (ws' := (wm am cI cZ (vTo (vFd (vFl τ (setb (mFl τ) (128 * g + k) v)) (setn (mFd τ) g (mFdN τ g v fo))) (setb (mTo τ) 1 true)))) (B := (mTo (vFd (vFl τ (setb (mFl τ) (128 * g + k) v)) (setn (mFd τ) g (mFdN τ g v fo))))) (i := 1) (b := true) hx hb hK hI (5) 1 (wm_To) rfl (by omega) (by omega) (wm_vTo (f := setb (mTo τ) 1 true)) d_MD_markFile_62 (fun H locs hI => ?_)
      refine lv_aload_n hx hb d_MD_markFile_63 rfl (lv_at hl 0 rfl) ?_
      refine g_get (own := "GroupBitmapsModel") (C := R_MD) (T := F_MD) (N := 11) (ci := 3) (v := .ref (am 5)) hx hb hg ku_MD hown hK hI (0) (wm_0) rfl 8 (by decide) kw_478 rfl d_MD_markFile_64 ?_
      refine lv_iload_n hx hb d_MD_markFile_67 rfl (lv_at hl 1 rfl) ?_
      refine g_callS (own := "GroupBitmapsModel") (k := 1) (As := [.int (nI g)]) (rest := [.ref (am 5)]) (c_MD_bitmap (vTo (vFd (vFl τ (setb (mFl τ) (128 * g + k) v)) (setn (mFd τ) g (mFdN τ g v fo))) (setb (mTo τ) 1 true)) g (by omega)) hx hb hml hown hg hK hI hA kw_461 kw_462 kw_4 kw_463 ky_MD_bitmap ⟨Nat.le_of_ble_eq_true rfl, Nat.le_of_ble_eq_true rfl⟩ rfl rfl rfl hl.1 (Nat.le_of_ble_eq_true rfl) ⟨Nat.zero_le _, Nat.zero_le _⟩ d_MD_markFile_68 rfl rfl (fun H locs hI => ?_)
      refine lv_iconst (v := nI 1) hx hb d_MD_markFile_71 (by decide) ?_
      refine r_iadd (a := 256 * g + gHd g) (b := 1) hx hb d_MD_markFile_72 ?_
      refine lv_iconst (v := bI true) hx hb d_MD_markFile_73 (by decide) ?_
      refine g_zast (ws' := (wm am cI cZ (mMkF τ g k v fo))) (B := (mTo (vTo (vFd (vFl τ (setb (mFl τ) (128 * g + k) v)) (setn (mFd τ) g (mFdN τ g v fo))) (setb (mTo τ) 1 true)))) (i := (256 * g + gHd g) + 1) (b := true) hx hb hK hI (5) 1 (wm_To) rfl (by omega) (by omega) (wm_vTo (f := setb (setb (mTo τ) 1 true) (256 * g + gHd g + 1) true)) d_MD_markFile_74 (fun H locs hI => ?_)
      exact g_rv hx hb hr hlk hI (rfl) d_MD_markFile_75
    · refine lv_aload_n hx hb d_MD_markFile_36 rfl (lv_at hl 0 rfl) ?_
      refine g_get (own := "GroupBitmapsModel") (C := R_MD) (T := F_MD) (N := 11) (ci := 3) (v := .ref (am 4)) hx hb hg ku_MD hown hK hI (0) (wm_0) rfl 5 (by decide) kw_475 rfl d_MD_markFile_37 ?_
      refine lv_iload_n hx hb d_MD_markFile_40 rfl (lv_at hl 1 rfl) ?_
      refine g_iald (F := (mFd (vFl τ (setb (mFl τ) (128 * g + k) v)))) (i := g) hx hb hK hI (4) 2 (wm_Fd) rfl (by omega) (by omega) d_MD_markFile_41 ?_
      refine lv_iconst (v := nI 1) hx hb d_MD_markFile_42 (by decide) ?_
      refine r_iadd (a := mFd τ g) (b := 1) hx hb d_MD_markFile_43 ?_
      refine lv_goto (tgt := 55) hx hb d_MD_markFile_44 (by decide) ?_
      have hv : mFdN τ g v fo = mFd τ g + 1 := by rw [mFdN, if_neg (by rw [h]; decide), if_pos h2]
      rw [show nI ((mFd τ g) + 1) = nI (mFdN τ g v fo) from congrArg nI (show (mFd τ g) + 1 = mFdN τ g v fo from hv.symm)]
      refine g_iast (ws' := (wm am cI cZ (vFd (vFl τ (setb (mFl τ) (128 * g + k) v)) (setn (mFd τ) g (mFdN τ g v fo))))) (F := (mFd (vFl τ (setb (mFl τ) (128 * g + k) v)))) (i := g) (v := mFdN τ g v fo) hx hb hK hI (4) 2 (wm_Fd) rfl (by omega) (by omega) (wm_vFd (f := setn (mFd τ) g (mFdN τ g v fo))) d_MD_markFile_55 (fun H locs hI => ?_)
      refine lv_aload_n hx hb d_MD_markFile_56 rfl (lv_at hl 0 rfl) ?_
      refine g_get (own := "GroupBitmapsModel") (C := R_MD) (T := F_MD) (N := 11) (ci := 3) (v := .ref (am 5)) hx hb hg ku_MD hown hK hI (0) (wm_0) rfl 8 (by decide) kw_478 rfl d_MD_markFile_57 ?_
      refine lv_iconst (v := nI 1) hx hb d_MD_markFile_60 (by decide) ?_
      refine lv_iconst (v := bI true) hx hb d_MD_markFile_61 (by decide) ?_
      refine g_zast (ws' := (wm am cI cZ (vTo (vFd (vFl τ (setb (mFl τ) (128 * g + k) v)) (setn (mFd τ) g (mFdN τ g v fo))) (setb (mTo τ) 1 true)))) (B := (mTo (vFd (vFl τ (setb (mFl τ) (128 * g + k) v)) (setn (mFd τ) g (mFdN τ g v fo))))) (i := 1) (b := true) hx hb hK hI (5) 1 (wm_To) rfl (by omega) (by omega) (wm_vTo (f := setb (mTo τ) 1 true)) d_MD_markFile_62 (fun H locs hI => ?_)
      refine lv_aload_n hx hb d_MD_markFile_63 rfl (lv_at hl 0 rfl) ?_
      refine g_get (own := "GroupBitmapsModel") (C := R_MD) (T := F_MD) (N := 11) (ci := 3) (v := .ref (am 5)) hx hb hg ku_MD hown hK hI (0) (wm_0) rfl 8 (by decide) kw_478 rfl d_MD_markFile_64 ?_
      refine lv_iload_n hx hb d_MD_markFile_67 rfl (lv_at hl 1 rfl) ?_
      refine g_callS (own := "GroupBitmapsModel") (k := 1) (As := [.int (nI g)]) (rest := [.ref (am 5)]) (c_MD_bitmap (vTo (vFd (vFl τ (setb (mFl τ) (128 * g + k) v)) (setn (mFd τ) g (mFdN τ g v fo))) (setb (mTo τ) 1 true)) g (by omega)) hx hb hml hown hg hK hI hA kw_461 kw_462 kw_4 kw_463 ky_MD_bitmap ⟨Nat.le_of_ble_eq_true rfl, Nat.le_of_ble_eq_true rfl⟩ rfl rfl rfl hl.1 (Nat.le_of_ble_eq_true rfl) ⟨Nat.zero_le _, Nat.zero_le _⟩ d_MD_markFile_68 rfl rfl (fun H locs hI => ?_)
      refine lv_iconst (v := nI 1) hx hb d_MD_markFile_71 (by decide) ?_
      refine r_iadd (a := 256 * g + gHd g) (b := 1) hx hb d_MD_markFile_72 ?_
      refine lv_iconst (v := bI true) hx hb d_MD_markFile_73 (by decide) ?_
      refine g_zast (ws' := (wm am cI cZ (mMkF τ g k v fo))) (B := (mTo (vTo (vFd (vFl τ (setb (mFl τ) (128 * g + k) v)) (setn (mFd τ) g (mFdN τ g v fo))) (setb (mTo τ) 1 true)))) (i := (256 * g + gHd g) + 1) (b := true) hx hb hK hI (5) 1 (wm_To) rfl (by omega) (by omega) (wm_vTo (f := setb (setb (mTo τ) 1 true) (256 * g + gHd g + 1) true)) d_MD_markFile_74 (fun H locs hI => ?_)
      exact g_rv hx hb hr hlk hI (rfl) d_MD_markFile_75
  · refine lv_aload_n hx hb d_MD_markFile_23 rfl (lv_at hl 0 rfl) ?_
    refine g_get (own := "GroupBitmapsModel") (C := R_MD) (T := F_MD) (N := 11) (ci := 3) (v := .ref (am 4)) hx hb hg ku_MD hown hK hI (0) (wm_0) rfl 5 (by decide) kw_475 rfl d_MD_markFile_24 ?_
    refine lv_iload_n hx hb d_MD_markFile_27 rfl (lv_at hl 1 rfl) ?_
    refine g_iald (F := (mFd (vFl τ (setb (mFl τ) (128 * g + k) v)))) (i := g) hx hb hK hI (4) 2 (wm_Fd) rfl (by omega) (by omega) d_MD_markFile_28 ?_
    refine lv_goto (tgt := 55) hx hb d_MD_markFile_29 (by decide) ?_
    have hv : mFdN τ g v fo = mFd τ g := by rw [mFdN, if_pos h]
    rw [show nI ((mFd (vFl τ (setb (mFl τ) (128 * g + k) v))) g) = nI (mFdN τ g v fo) from congrArg nI (show (mFd (vFl τ (setb (mFl τ) (128 * g + k) v))) g = mFdN τ g v fo from hv.symm)]
    refine g_iast (ws' := (wm am cI cZ (vFd (vFl τ (setb (mFl τ) (128 * g + k) v)) (setn (mFd τ) g (mFdN τ g v fo))))) (F := (mFd (vFl τ (setb (mFl τ) (128 * g + k) v)))) (i := g) (v := mFdN τ g v fo) hx hb hK hI (4) 2 (wm_Fd) rfl (by omega) (by omega) (wm_vFd (f := setn (mFd τ) g (mFdN τ g v fo))) d_MD_markFile_55 (fun H locs hI => ?_)
    refine lv_aload_n hx hb d_MD_markFile_56 rfl (lv_at hl 0 rfl) ?_
    refine g_get (own := "GroupBitmapsModel") (C := R_MD) (T := F_MD) (N := 11) (ci := 3) (v := .ref (am 5)) hx hb hg ku_MD hown hK hI (0) (wm_0) rfl 8 (by decide) kw_478 rfl d_MD_markFile_57 ?_
    refine lv_iconst (v := nI 1) hx hb d_MD_markFile_60 (by decide) ?_
    refine lv_iconst (v := bI true) hx hb d_MD_markFile_61 (by decide) ?_
    refine g_zast (ws' := (wm am cI cZ (vTo (vFd (vFl τ (setb (mFl τ) (128 * g + k) v)) (setn (mFd τ) g (mFdN τ g v fo))) (setb (mTo τ) 1 true)))) (B := (mTo (vFd (vFl τ (setb (mFl τ) (128 * g + k) v)) (setn (mFd τ) g (mFdN τ g v fo))))) (i := 1) (b := true) hx hb hK hI (5) 1 (wm_To) rfl (by omega) (by omega) (wm_vTo (f := setb (mTo τ) 1 true)) d_MD_markFile_62 (fun H locs hI => ?_)
    refine lv_aload_n hx hb d_MD_markFile_63 rfl (lv_at hl 0 rfl) ?_
    refine g_get (own := "GroupBitmapsModel") (C := R_MD) (T := F_MD) (N := 11) (ci := 3) (v := .ref (am 5)) hx hb hg ku_MD hown hK hI (0) (wm_0) rfl 8 (by decide) kw_478 rfl d_MD_markFile_64 ?_
    refine lv_iload_n hx hb d_MD_markFile_67 rfl (lv_at hl 1 rfl) ?_
    refine g_callS (own := "GroupBitmapsModel") (k := 1) (As := [.int (nI g)]) (rest := [.ref (am 5)]) (c_MD_bitmap (vTo (vFd (vFl τ (setb (mFl τ) (128 * g + k) v)) (setn (mFd τ) g (mFdN τ g v fo))) (setb (mTo τ) 1 true)) g (by omega)) hx hb hml hown hg hK hI hA kw_461 kw_462 kw_4 kw_463 ky_MD_bitmap ⟨Nat.le_of_ble_eq_true rfl, Nat.le_of_ble_eq_true rfl⟩ rfl rfl rfl hl.1 (Nat.le_of_ble_eq_true rfl) ⟨Nat.zero_le _, Nat.zero_le _⟩ d_MD_markFile_68 rfl rfl (fun H locs hI => ?_)
    refine lv_iconst (v := nI 1) hx hb d_MD_markFile_71 (by decide) ?_
    refine r_iadd (a := 256 * g + gHd g) (b := 1) hx hb d_MD_markFile_72 ?_
    refine lv_iconst (v := bI true) hx hb d_MD_markFile_73 (by decide) ?_
    refine g_zast (ws' := (wm am cI cZ (mMkF τ g k v fo))) (B := (mTo (vTo (vFd (vFl τ (setb (mFl τ) (128 * g + k) v)) (setn (mFd τ) g (mFdN τ g v fo))) (setb (mTo τ) 1 true)))) (i := (256 * g + gHd g) + 1) (b := true) hx hb hK hI (5) 1 (wm_To) rfl (by omega) (by omega) (wm_vTo (f := setb (setb (mTo τ) 1 true) (256 * g + gHd g + 1) true)) d_MD_markFile_74 (fun H locs hI => ?_)
    exact g_rv hx hb hr hlk hI (rfl) d_MD_markFile_75
set_option maxHeartbeats 4000000 in
set_option maxRecDepth 100000 in
theorem c_MD_areFree {l : Launch} {D : va_G} {cG cZ cI cJ : ClassId} {am : Nat → Nat} (τ : mS) (hτ : mOk τ) (a q : Nat) (ha : a < 65536) (hq : q < 65536) : gMet l D (gT cG cZ cI cJ) y_MD_areFree b_MD_areFree 5 (some .boolean) ({ frames := 1, cells := 0, slots := 0, locals := 21 }) (wm am cI cZ τ) [.ref (am 0), .int (nI a), .int (nI q)] (wm am cI cZ τ) (some (.int (bI (mAf τ a q)))) := by
  refine gMet_of (by decide) (Nat.le_of_ble_eq_true rfl) ?_
  intro p e s m below meth c A ls hC hA hI hl
  obtain ⟨hx, hb, hr, hlk, hown, hml, hg, hK⟩ := hC
  have hown : s.vm.findClass "GroupBitmapsModel" = some m.cls := hown
  have hl : lv_has ls 5 [(0, .ref (am 0)), (1, .int (nI a)), (2, .int (nI q))] := hl
  have hc1 := hτ.1
  have hc2 := hτ.2.1
  refine lv_iconst (v := bI true) hx hb d_MD_areFree_0 (by decide) ?_
  refine lv_istore_n (lv' := [(3, .int (bI true)), (0, .ref (am 0)), (1, .int (nI a)), (2, .int (nI q))]) hx hb d_MD_areFree_1 rfl hl (by decide) rfl (fun ls hl => ?_)
  refine lv_iload_n hx hb d_MD_areFree_2 rfl (lv_at hl 2 rfl) ?_
  refine lv_istore (lv' := [(4, .int (nI a)), (3, .int (bI true)), (0, .ref (am 0)), (1, .int (nI a)), (2, .int (nI q))]) hx hb d_MD_areFree_3 hl (by decide) rfl (fun ls hl => ?_)
  have loop : ∀ (fuel : Nat) (t : Nat), q + 1 ≤ fuel + t → (t ≤ q) → ∀ (H : Heap) (locs : List Loc) (ls : Array Slot), gI D A s.heap (wm am cI cZ τ) H locs → lv_has ls 5 [(0, .ref (am 0)), (1, .int (nI a)), (2, .int (nI q)), (3, .int (bI (mAf τ a t))), (4, .int (nI (a + t)))] → W p l e ({ frames := 1, cells := 0, slots := 0, locals := 21 }) s m ([.ref (am 0), .int (nI a), .int (nI q)] : List Value).toArray below meth c H locs 0 0 (gQ D below ([.ref (am 0), .int (nI a), .int (nI q)] : List Value).toArray s A (wm am cI cZ τ) (some (.int (bI (mAf τ a q))))) (F0 m 5 ls []) := by
    intro fuel
    induction fuel with
    | zero => intro t hfu ht; exact absurd hfu (by omega)
    | succ fuel ih =>
      intro t hfu ht H locs ls hI hl
      refine lv_iload hx hb d_MD_areFree_5 (lv_at hl 4 rfl) ?_
      refine lv_iload_n hx hb d_MD_areFree_7 rfl (lv_at hl 1 rfl) ?_
      refine lv_iload_n hx hb d_MD_areFree_8 rfl (lv_at hl 2 rfl) ?_
      refine r_iadd (a := a) (b := q) hx hb d_MD_areFree_9 ?_
      refine r_ge (a := a + t) (b := a + q) (tgt := 62) hx hb d_MD_areFree_10 (by decide) (by omega) (by omega) (fun h => ?_) (fun h => ?_)
      · obtain rfl : q = t := by omega
        refine lv_iload_n hx hb d_MD_areFree_62 rfl (lv_at hl 3 rfl) ?_
        exact g_rz hx hb hr hlk hI (rfl) d_MD_areFree_63
      · refine lv_iload_n hx hb d_MD_areFree_13 rfl (lv_at hl 3 rfl) ?_
        refine r_bz (b := mAf τ a t) (tgt := 54) hx hb d_MD_areFree_14 (by decide) (fun h2 => ?_) (fun h2 => ?_)
        · have e1 := mAf_f h2
          refine lv_iconst (v := bI false) hx hb d_MD_areFree_54 (by decide) ?_
          refine lv_istore_n (lv' := [(3, .int (bI false)), (0, .ref (am 0)), (1, .int (nI a)), (2, .int (nI q)), (4, .int (nI (a + t)))]) hx hb d_MD_areFree_55 rfl hl (by decide) rfl (fun ls hl => ?_)
          refine lv_iinc (v := nI ((a + t) + 1)) (lv' := [(4, .int (nI ((a + t) + 1))), (3, .int (bI false)), (0, .ref (am 0)), (1, .int (nI a)), (2, .int (nI q))]) hx hb d_MD_areFree_56 hl (k := 4) rfl (nI_1 _) (by decide) rfl (fun ls hl => ?_)
          refine lv_goto (tgt := 5) hx hb d_MD_areFree_59 (by decide) ?_
          exact ih (t + 1) (by omega) (by omega) _ _ _ hI (by rw [e1]; exact lv_sub hl [2, 3, 4, 1, 0] rfl)
        · refine lv_aload_n hx hb d_MD_areFree_17 rfl (lv_at hl 0 rfl) ?_
          refine lv_iload hx hb d_MD_areFree_18 (lv_at hl 4 rfl) ?_
          refine g_callV (own := "GroupBitmapsModel") (C := "GroupBitmapsModel") (T := F_MD) (N := 11) (k := 1) (q0 := 0) (ci := 3) (a := am 0) (As := [.int (nI (a + t))]) (rest := []) (c_MD_isBlock τ hτ (nI (a + t))) hx hb hml hown hg hK hI hA kw_529 kw_531 kp_24 kw_4 kw_532 ky_MD_isBlock ⟨Nat.le_of_ble_eq_true rfl, Nat.le_of_ble_eq_true rfl⟩ rfl rfl (wm_0) rfl rfl hl.1 (Nat.le_of_ble_eq_true rfl) ⟨Nat.zero_le _, Nat.zero_le _⟩ d_MD_areFree_20 rfl rfl (fun H locs hI => ?_)
          refine r_bz (b := mIsB τ (nI (a + t))) (tgt := 54) hx hb d_MD_areFree_23 (by decide) (fun h3 => ?_) (fun h3 => ?_)
          · have e1 := mAf_1 h3
            refine lv_iconst (v := bI false) hx hb d_MD_areFree_54 (by decide) ?_
            refine lv_istore_n (lv' := [(3, .int (bI false)), (0, .ref (am 0)), (1, .int (nI a)), (2, .int (nI q)), (4, .int (nI (a + t)))]) hx hb d_MD_areFree_55 rfl hl (by decide) rfl (fun ls hl => ?_)
            refine lv_iinc (v := nI ((a + t) + 1)) (lv' := [(4, .int (nI ((a + t) + 1))), (3, .int (bI false)), (0, .ref (am 0)), (1, .int (nI a)), (2, .int (nI q))]) hx hb d_MD_areFree_56 hl (k := 4) rfl (nI_1 _) (by decide) rfl (fun ls hl => ?_)
            refine lv_goto (tgt := 5) hx hb d_MD_areFree_59 (by decide) ?_
            exact ih (t + 1) (by omega) (by omega) _ _ _ hI (by rw [e1]; exact lv_sub hl [2, 3, 4, 1, 0] rfl)
          · have hlt := mIsB_lt hτ (by omega) h3
            refine lv_iload hx hb d_MD_areFree_26 (lv_at hl 4 rfl) ?_
            refine lv_sipush (v := nI 256) hx hb d_MD_areFree_28 (by decide) ?_
            refine r_idiv (a := a + t) (b := 256) hx hb (by omega) (by omega) (by omega) d_MD_areFree_31 ?_
            refine lv_iload_n hx hb d_MD_areFree_32 rfl (lv_at hl 1 rfl) ?_
            refine lv_sipush (v := nI 256) hx hb d_MD_areFree_33 (by decide) ?_
            refine r_idiv (a := a) (b := 256) hx hb (by omega) (by omega) (by omega) d_MD_areFree_36 ?_
            refine r_ne (a := (a + t) / 256) (b := a / 256) (tgt := 54) hx hb d_MD_areFree_37 (by decide) (by omega) (by omega) (fun h4 => ?_) (fun h4 => ?_)
            · have e1 := mAf_2 (τ := τ) h4
              refine lv_iconst (v := bI false) hx hb d_MD_areFree_54 (by decide) ?_
              refine lv_istore_n (lv' := [(3, .int (bI false)), (0, .ref (am 0)), (1, .int (nI a)), (2, .int (nI q)), (4, .int (nI (a + t)))]) hx hb d_MD_areFree_55 rfl hl (by decide) rfl (fun ls hl => ?_)
              refine lv_iinc (v := nI ((a + t) + 1)) (lv' := [(4, .int (nI ((a + t) + 1))), (3, .int (bI false)), (0, .ref (am 0)), (1, .int (nI a)), (2, .int (nI q))]) hx hb d_MD_areFree_56 hl (k := 4) rfl (nI_1 _) (by decide) rfl (fun ls hl => ?_)
              refine lv_goto (tgt := 5) hx hb d_MD_areFree_59 (by decide) ?_
              exact ih (t + 1) (by omega) (by omega) _ _ _ hI (by rw [e1]; exact lv_sub hl [2, 3, 4, 1, 0] rfl)
            · refine lv_aload_n hx hb d_MD_areFree_40 rfl (lv_at hl 0 rfl) ?_
              refine g_get (own := "GroupBitmapsModel") (C := R_MD) (T := F_MD) (N := 11) (ci := 3) (v := .ref (am 2)) hx hb hg ku_MD hown hK hI (0) (wm_0) rfl 3 (by decide) kw_473 rfl d_MD_areFree_41 ?_
              refine lv_iload hx hb d_MD_areFree_44 (lv_at hl 4 rfl) ?_
              refine g_zald (B := (mBk τ)) (i := a + t) hx hb hK hI (2) 1 (wm_Bk) rfl (by omega) (by omega) d_MD_areFree_46 ?_
              refine r_bnz (b := (mBk τ) (a + t)) (tgt := 54) hx hb d_MD_areFree_47 (by decide) (fun h5 => ?_) (fun h5 => ?_)
              · have e1 := mAf_3 h5
                refine lv_iconst (v := bI false) hx hb d_MD_areFree_54 (by decide) ?_
                refine lv_istore_n (lv' := [(3, .int (bI false)), (0, .ref (am 0)), (1, .int (nI a)), (2, .int (nI q)), (4, .int (nI (a + t)))]) hx hb d_MD_areFree_55 rfl hl (by decide) rfl (fun ls hl => ?_)
                refine lv_iinc (v := nI ((a + t) + 1)) (lv' := [(4, .int (nI ((a + t) + 1))), (3, .int (bI false)), (0, .ref (am 0)), (1, .int (nI a)), (2, .int (nI q))]) hx hb d_MD_areFree_56 hl (k := 4) rfl (nI_1 _) (by decide) rfl (fun ls hl => ?_)
                refine lv_goto (tgt := 5) hx hb d_MD_areFree_59 (by decide) ?_
                exact ih (t + 1) (by omega) (by omega) _ _ _ hI (by rw [e1]; exact lv_sub hl [2, 3, 4, 1, 0] rfl)
              · have e1 := mAf_4 h2 h3 h4 h5
                refine lv_iconst (v := bI true) hx hb d_MD_areFree_50 (by decide) ?_
                refine lv_goto (tgt := 55) hx hb d_MD_areFree_51 (by decide) ?_
                refine lv_istore_n (lv' := [(3, .int (bI true)), (0, .ref (am 0)), (1, .int (nI a)), (2, .int (nI q)), (4, .int (nI (a + t)))]) hx hb d_MD_areFree_55 rfl hl (by decide) rfl (fun ls hl => ?_)
                refine lv_iinc (v := nI ((a + t) + 1)) (lv' := [(4, .int (nI ((a + t) + 1))), (3, .int (bI true)), (0, .ref (am 0)), (1, .int (nI a)), (2, .int (nI q))]) hx hb d_MD_areFree_56 hl (k := 4) rfl (nI_1 _) (by decide) rfl (fun ls hl => ?_)
                refine lv_goto (tgt := 5) hx hb d_MD_areFree_59 (by decide) ?_
                exact ih (t + 1) (by omega) (by omega) _ _ _ hI (by rw [e1]; exact lv_sub hl [2, 3, 4, 1, 0] rfl)
  exact loop (q + 1) 0 (by omega) (Nat.zero_le _) _ _ _ hI (lv_sub hl [2, 3, 4, 1, 0] rfl)
set_option maxHeartbeats 4000000 in
set_option maxRecDepth 100000 in
theorem c_MD_settle {l : Launch} {D : va_G} {cG cZ cI cJ : ClassId} {am : Nat → Nat} (τ : mS)  : gMet l D (gT cG cZ cI cJ) y_MD_settle b_MD_settle 3 (some .int) ({ frames := 0, cells := 0, slots := 0, locals := 0 }) (wm am cI cZ τ) [.ref (am 0)] (wm am cI cZ (mSet τ)) (some (.int (nI (cT (mTo τ) 1024)))) := by
  refine gMet_of (by decide) (Nat.le_of_ble_eq_true rfl) ?_
  intro p e s m below meth c A ls hC hA hI hl
  obtain ⟨hx, hb, hr, hlk, hown, hml, hg, hK⟩ := hC
  have hown : s.vm.findClass "GroupBitmapsModel" = some m.cls := hown
  have hl : lv_has ls 3 [(0, .ref (am 0))] := hl
  refine lv_aload_n hx hb d_MD_settle_0 rfl (lv_at hl 0 rfl) ?_
  refine lv_iconst (v := nI 0) hx hb d_MD_settle_1 (by decide) ?_
  refine g_put (ws' := (wm am cI cZ (vTh τ 0))) (own := "GroupBitmapsModel") (C := R_MD) (T := F_MD) (N := 11) (ci := 3) (v := .int (nI 0)) hx hb hg ku_MD t_MD t_MD_ok n_MD hown hK hI (0) (wm_0) rfl 0 (by decide) kw_470 rfl rfl (rfl) (rfl) (Nat.le_of_ble_eq_true rfl) (wm_vTh) d_MD_settle_2 (fun H locs hI => ?_)
  refine lv_iconst (v := nI 0) hx hb d_MD_settle_5 (by decide) ?_
  refine lv_istore_n (lv' := [(1, .int (nI 0)), (0, .ref (am 0))]) hx hb d_MD_settle_6 rfl hl (by decide) rfl (fun ls hl => ?_)
  refine lv_iconst (v := nI 0) hx hb d_MD_settle_7 (by decide) ?_
  refine lv_istore_n (lv' := [(2, .int (nI 0)), (1, .int (nI 0)), (0, .ref (am 0))]) hx hb d_MD_settle_8 rfl hl (by decide) rfl (fun ls hl => ?_)
  have loop : ∀ (fuel : Nat) (k : Nat), 1025 ≤ fuel + k → (k ≤ 1024) → ∀ (H : Heap) (locs : List Loc) (ls : Array Slot), gI D A s.heap (wm am cI cZ (vTo (vTh τ 0) (clr (mTo τ) k))) H locs → lv_has ls 3 [(0, .ref (am 0)), (1, .int (nI (cT (mTo τ) k))), (2, .int (nI k))] → W p l e ({ frames := 0, cells := 0, slots := 0, locals := 0 }) s m ([.ref (am 0)] : List Value).toArray below meth c H locs 0 0 (gQ D below ([.ref (am 0)] : List Value).toArray s A (wm am cI cZ (mSet τ)) (some (.int (nI (cT (mTo τ) 1024))))) (F0 m 9 ls []) := by
    intro fuel
    induction fuel with
    | zero => intro k hfu hk; exact absurd hfu (by omega)
    | succ fuel ih =>
      intro k hfu hk H locs ls hI hl
      have hct := cT_le (mTo τ) k
      refine lv_iload_n hx hb d_MD_settle_9 rfl (lv_at hl 2 rfl) ?_
      refine lv_sipush (v := nI 1024) hx hb d_MD_settle_10 (by decide) ?_
      refine r_ge (a := k) (b := 1024) (tgt := 46) hx hb d_MD_settle_13 (by decide) (by omega) (by omega) (fun h => ?_) (fun h => ?_)
      · obtain rfl : k = 1024 := by omega
        refine lv_iload_n hx hb d_MD_settle_46 rfl (lv_at hl 1 rfl) ?_
        exact g_ri hx hb hr hlk hI (rfl) d_MD_settle_47
      · refine lv_aload_n hx hb d_MD_settle_16 rfl (lv_at hl 0 rfl) ?_
        refine g_get (own := "GroupBitmapsModel") (C := R_MD) (T := F_MD) (N := 11) (ci := 3) (v := .ref (am 5)) hx hb hg ku_MD hown hK hI (0) (wm_0) rfl 8 (by decide) kw_478 rfl d_MD_settle_17 ?_
        refine lv_iload_n hx hb d_MD_settle_20 rfl (lv_at hl 2 rfl) ?_
        refine g_zald (B := (mTo (vTo (vTh τ 0) (clr (mTo τ) k)))) (i := k) hx hb hK hI (5) 1 (wm_To) rfl (by omega) (by omega) d_MD_settle_21 ?_
        refine r_bz (b := (mTo (vTo (vTh τ 0) (clr (mTo τ) k))) k) (tgt := 31) hx hb d_MD_settle_22 (by decide) (fun h2 => ?_) (fun h2 => ?_)
        · have e1 := cT_f ((clr_at (mTo τ) k).symm.trans h2)
          refine lv_iload_n hx hb d_MD_settle_31 rfl (lv_at hl 1 rfl) ?_
          refine lv_istore_n (lv' := [(1, .int (nI (cT (mTo τ) k))), (0, .ref (am 0)), (2, .int (nI k))]) hx hb d_MD_settle_32 rfl hl (by decide) rfl (fun ls hl => ?_)
          refine lv_aload_n hx hb d_MD_settle_33 rfl (lv_at hl 1 rfl) ?_
          refine g_get (own := "GroupBitmapsModel") (C := R_MD) (T := F_MD) (N := 11) (ci := 3) (v := .ref (am 5)) hx hb hg ku_MD hown hK hI (0) (wm_0) rfl 8 (by decide) kw_478 rfl d_MD_settle_34 ?_
          refine lv_iload_n hx hb d_MD_settle_37 rfl (lv_at hl 2 rfl) ?_
          refine lv_iconst (v := bI false) hx hb d_MD_settle_38 (by decide) ?_
          refine g_zast (ws' := (wm am cI cZ (vTo (vTh τ 0) (clr (mTo τ) (k + 1))))) (B := (mTo (vTo (vTh τ 0) (clr (mTo τ) k)))) (i := k) (b := false) hx hb hK hI (5) 1 (wm_To) rfl (by omega) (by omega) ((wm_vTo (f := setb (clr (mTo τ) k) k false)).trans (by rw [clr_s, vTo_vTo])) d_MD_settle_39 (fun H locs hI => ?_)
          refine lv_iinc (v := nI (k + 1)) (lv' := [(2, .int (nI (k + 1))), (1, .int (nI (cT (mTo τ) k))), (0, .ref (am 0))]) hx hb d_MD_settle_40 hl (k := 2) rfl (nI_1 _) (by decide) rfl (fun ls hl => ?_)
          refine lv_goto (tgt := 9) hx hb d_MD_settle_43 (by decide) ?_
          exact ih (k + 1) (by omega) (by omega) _ _ _ hI (by rw [e1]; exact lv_sub hl [2, 1, 0] rfl)
        · have e1 := cT_t ((clr_at (mTo τ) k).symm.trans h2)
          refine lv_iload_n hx hb d_MD_settle_25 rfl (lv_at hl 1 rfl) ?_
          refine lv_iconst (v := nI 1) hx hb d_MD_settle_26 (by decide) ?_
          refine r_iadd (a := cT (mTo τ) k) (b := 1) hx hb d_MD_settle_27 ?_
          refine lv_goto (tgt := 32) hx hb d_MD_settle_28 (by decide) ?_
          refine lv_istore_n (lv' := [(1, .int (nI ((cT (mTo τ) k) + 1))), (0, .ref (am 0)), (2, .int (nI k))]) hx hb d_MD_settle_32 rfl hl (by decide) rfl (fun ls hl => ?_)
          refine lv_aload_n hx hb d_MD_settle_33 rfl (lv_at hl 1 rfl) ?_
          refine g_get (own := "GroupBitmapsModel") (C := R_MD) (T := F_MD) (N := 11) (ci := 3) (v := .ref (am 5)) hx hb hg ku_MD hown hK hI (0) (wm_0) rfl 8 (by decide) kw_478 rfl d_MD_settle_34 ?_
          refine lv_iload_n hx hb d_MD_settle_37 rfl (lv_at hl 2 rfl) ?_
          refine lv_iconst (v := bI false) hx hb d_MD_settle_38 (by decide) ?_
          refine g_zast (ws' := (wm am cI cZ (vTo (vTh τ 0) (clr (mTo τ) (k + 1))))) (B := (mTo (vTo (vTh τ 0) (clr (mTo τ) k)))) (i := k) (b := false) hx hb hK hI (5) 1 (wm_To) rfl (by omega) (by omega) ((wm_vTo (f := setb (clr (mTo τ) k) k false)).trans (by rw [clr_s, vTo_vTo])) d_MD_settle_39 (fun H locs hI => ?_)
          refine lv_iinc (v := nI (k + 1)) (lv' := [(2, .int (nI (k + 1))), (1, .int (nI ((cT (mTo τ) k) + 1))), (0, .ref (am 0))]) hx hb d_MD_settle_40 hl (k := 2) rfl (nI_1 _) (by decide) rfl (fun ls hl => ?_)
          refine lv_goto (tgt := 9) hx hb d_MD_settle_43 (by decide) ?_
          exact ih (k + 1) (by omega) (by omega) _ _ _ hI (by rw [e1]; exact lv_sub hl [2, 1, 0] rfl)
  exact loop 1025 0 (by omega) (Nat.zero_le _) _ _ _ (by rw [clr_0]; exact hI) (lv_sub hl [2, 1, 0] rfl)
set_option maxHeartbeats 4000000 in
set_option maxRecDepth 100000 in
theorem c_MD_taken {l : Launch} {D : va_G} {cG cZ cI cJ : ClassId} {am : Nat → Nat} (τ : mS)  : gMet l D (gT cG cZ cI cJ) y_MD_taken b_MD_taken 1 (some .int) ({ frames := 0, cells := 0, slots := 0, locals := 0 }) (wm am cI cZ τ) [.ref (am 0)] (wm am cI cZ (vTh τ 0)) (some (.int (nI (mLt τ)))) := by
  refine gMet_of (by decide) (Nat.le_of_ble_eq_true rfl) ?_
  intro p e s m below meth c A ls hC hA hI hl
  obtain ⟨hx, hb, hr, hlk, hown, hml, hg, hK⟩ := hC
  have hown : s.vm.findClass "GroupBitmapsModel" = some m.cls := hown
  have hl : lv_has ls 1 [(0, .ref (am 0))] := hl
  refine lv_aload_n hx hb d_MD_taken_0 rfl (lv_at hl 0 rfl) ?_
  refine lv_iconst (v := nI 0) hx hb d_MD_taken_1 (by decide) ?_
  refine g_put (ws' := (wm am cI cZ (vTh τ 0))) (own := "GroupBitmapsModel") (C := R_MD) (T := F_MD) (N := 11) (ci := 3) (v := .int (nI 0)) hx hb hg ku_MD t_MD t_MD_ok n_MD hown hK hI (0) (wm_0) rfl 0 (by decide) kw_470 rfl rfl (rfl) (rfl) (Nat.le_of_ble_eq_true rfl) (wm_vTh) d_MD_taken_2 (fun H locs hI => ?_)
  refine lv_aload_n hx hb d_MD_taken_5 rfl (lv_at hl 0 rfl) ?_
  refine g_get (own := "GroupBitmapsModel") (C := R_MD) (T := F_MD) (N := 11) (ci := 3) (v := .int (nI (mLt (vTh τ 0)))) hx hb hg ku_MD hown hK hI (0) (wm_0) rfl 7 (by decide) kw_477 rfl d_MD_taken_6 ?_
  exact g_ri hx hb hr hlk hI (rfl) d_MD_taken_9
set_option maxHeartbeats 4000000 in
set_option maxRecDepth 100000 in
theorem c_MD_isTold {l : Launch} {D : va_G} {cG cZ cI cJ : ClassId} {am : Nat → Nat} (τ : mS) (q : Nat) (hq : q < 1024) : gMet l D (gT cG cZ cI cJ) y_MD_isTold b_MD_isTold 2 (some .boolean) ({ frames := 0, cells := 0, slots := 0, locals := 0 }) (wm am cI cZ τ) [.ref (am 0), .int (nI q)] (wm am cI cZ (vTh τ 0)) (some (.int (bI (mTo τ q)))) := by
  refine gMet_of (by decide) (Nat.le_of_ble_eq_true rfl) ?_
  intro p e s m below meth c A ls hC hA hI hl
  obtain ⟨hx, hb, hr, hlk, hown, hml, hg, hK⟩ := hC
  have hown : s.vm.findClass "GroupBitmapsModel" = some m.cls := hown
  have hl : lv_has ls 2 [(0, .ref (am 0)), (1, .int (nI q))] := hl
  refine lv_aload_n hx hb d_MD_isTold_0 rfl (lv_at hl 0 rfl) ?_
  refine lv_iload_n hx hb d_MD_isTold_1 rfl (lv_at hl 1 rfl) ?_
  refine r_zlt (a := q) (tgt := 12) hx hb d_MD_isTold_2 (by decide) (by omega) ?_
  refine lv_iload_n hx hb d_MD_isTold_5 rfl (lv_at hl 1 rfl) ?_
  refine lv_sipush (v := nI 1023) hx hb d_MD_isTold_6 (by decide) ?_
  refine r_le (a := q) (b := 1023) (tgt := 16) hx hb d_MD_isTold_9 (by decide) (by omega) (by omega) (fun h9 => ?_) (fun h9 => ?_)
  · refine lv_iconst (v := nI 0) hx hb d_MD_isTold_16 (by decide) ?_
    refine g_put (ws' := (wm am cI cZ (vTh τ 0))) (own := "GroupBitmapsModel") (C := R_MD) (T := F_MD) (N := 11) (ci := 3) (v := .int (nI 0)) hx hb hg ku_MD t_MD t_MD_ok n_MD hown hK hI (0) (wm_0) rfl 0 (by decide) kw_470 rfl rfl (rfl) (rfl) (Nat.le_of_ble_eq_true rfl) (wm_vTh) d_MD_isTold_17 (fun H locs hI => ?_)
    refine lv_aload_n hx hb d_MD_isTold_20 rfl (lv_at hl 0 rfl) ?_
    refine g_get (own := "GroupBitmapsModel") (C := R_MD) (T := F_MD) (N := 11) (ci := 3) (v := .int (nI 0)) hx hb hg ku_MD hown hK hI (0) (wm_0) rfl 0 (by decide) kw_470 rfl d_MD_isTold_21 ?_
    refine r_zne (a := 0) (tgt := 40) hx hb d_MD_isTold_24 (by decide) (by omega) (fun h9 => ?_) (fun h9 => ?_)
    · exact absurd h9 (by omega)
    · refine lv_aload_n hx hb d_MD_isTold_27 rfl (lv_at hl 0 rfl) ?_
      refine g_get (own := "GroupBitmapsModel") (C := R_MD) (T := F_MD) (N := 11) (ci := 3) (v := .ref (am 5)) hx hb hg ku_MD hown hK hI (0) (wm_0) rfl 8 (by decide) kw_478 rfl d_MD_isTold_28 ?_
      refine lv_iload_n hx hb d_MD_isTold_31 rfl (lv_at hl 1 rfl) ?_
      refine g_zald (B := (mTo (vTh τ 0))) (i := q) hx hb hK hI (5) 1 (wm_To) rfl (by omega) (by omega) d_MD_isTold_32 ?_
      refine r_bz (b := (mTo (vTh τ 0)) q) (tgt := 40) hx hb d_MD_isTold_33 (by decide) (fun h2 => ?_) (fun h2 => ?_)
      · refine lv_iconst (v := bI false) hx hb d_MD_isTold_40 (by decide) ?_
        exact g_rz hx hb hr hlk hI (by rw [show mTo τ q = false from h2]) d_MD_isTold_41
      · refine lv_iconst (v := bI true) hx hb d_MD_isTold_36 (by decide) ?_
        refine lv_goto (tgt := 41) hx hb d_MD_isTold_37 (by decide) ?_
        exact g_rz hx hb hr hlk hI (by rw [show mTo τ q = true from h2]) d_MD_isTold_41
  · exact absurd h9 (by omega)
set_option maxHeartbeats 4000000 in
set_option maxRecDepth 100000 in
theorem c_MD_isTold_bad {l : Launch} {D : va_G} {cG cZ cI cJ : ClassId} {am : Nat → Nat} (τ : mS) (x : Int32) (hbad : ¬ (¬ x < 0 ∧ x ≤ nI 1023)) : gMet l D (gT cG cZ cI cJ) y_MD_isTold b_MD_isTold 2 (some .boolean) ({ frames := 0, cells := 0, slots := 0, locals := 0 }) (wm am cI cZ τ) [.ref (am 0), .int x] (wm am cI cZ (vTh τ 1)) (some (.int (bI false))) := by
  refine gMet_of (by decide) (Nat.le_of_ble_eq_true rfl) ?_
  intro p e s m below meth c A ls hC hA hI hl
  obtain ⟨hx, hb, hr, hlk, hown, hml, hg, hK⟩ := hC
  have hown : s.vm.findClass "GroupBitmapsModel" = some m.cls := hown
  have hl : lv_has ls 2 [(0, .ref (am 0)), (1, .int x)] := hl
  refine lv_aload_n hx hb d_MD_isTold_0 rfl (lv_at hl 0 rfl) ?_
  refine lv_iload_n hx hb d_MD_isTold_1 rfl (lv_at hl 1 rfl) ?_
  refine lv_if_lt (tgt := 12) hx hb d_MD_isTold_2 (by decide) (fun h => ?_) (fun h => ?_)
  · refine lv_iconst (v := nI 1) hx hb d_MD_isTold_12 (by decide) ?_
    refine lv_goto (tgt := 17) hx hb d_MD_isTold_13 (by decide) ?_
    refine g_put (ws' := (wm am cI cZ (vTh τ 1))) (own := "GroupBitmapsModel") (C := R_MD) (T := F_MD) (N := 11) (ci := 3) (v := .int (nI 1)) hx hb hg ku_MD t_MD t_MD_ok n_MD hown hK hI (0) (wm_0) rfl 0 (by decide) kw_470 rfl rfl (rfl) (rfl) (Nat.le_of_ble_eq_true rfl) (wm_vTh) d_MD_isTold_17 (fun H locs hI => ?_)
    refine lv_aload_n hx hb d_MD_isTold_20 rfl (lv_at hl 0 rfl) ?_
    refine g_get (own := "GroupBitmapsModel") (C := R_MD) (T := F_MD) (N := 11) (ci := 3) (v := .int (nI 1)) hx hb hg ku_MD hown hK hI (0) (wm_0) rfl 0 (by decide) kw_470 rfl d_MD_isTold_21 ?_
    refine r_zne (a := 1) (tgt := 40) hx hb d_MD_isTold_24 (by decide) (by omega) (fun h9 => ?_) (fun h9 => ?_)
    · refine lv_iconst (v := bI false) hx hb d_MD_isTold_40 (by decide) ?_
      exact g_rz hx hb hr hlk hI (rfl) d_MD_isTold_41
    · exact absurd h9 (by omega)
  · refine lv_iload_n hx hb d_MD_isTold_5 rfl (lv_at hl 1 rfl) ?_
    refine lv_sipush (v := nI 1023) hx hb d_MD_isTold_6 (by decide) ?_
    refine lv_icmp_le (tgt := 16) hx hb d_MD_isTold_9 (by decide) (fun h2 => ?_) (fun h2 => ?_)
    · exact absurd ⟨h, h2⟩ hbad
    · refine lv_iconst (v := nI 1) hx hb d_MD_isTold_12 (by decide) ?_
      refine lv_goto (tgt := 17) hx hb d_MD_isTold_13 (by decide) ?_
      refine g_put (ws' := (wm am cI cZ (vTh τ 1))) (own := "GroupBitmapsModel") (C := R_MD) (T := F_MD) (N := 11) (ci := 3) (v := .int (nI 1)) hx hb hg ku_MD t_MD t_MD_ok n_MD hown hK hI (0) (wm_0) rfl 0 (by decide) kw_470 rfl rfl (rfl) (rfl) (Nat.le_of_ble_eq_true rfl) (wm_vTh) d_MD_isTold_17 (fun H locs hI => ?_)
      refine lv_aload_n hx hb d_MD_isTold_20 rfl (lv_at hl 0 rfl) ?_
      refine g_get (own := "GroupBitmapsModel") (C := R_MD) (T := F_MD) (N := 11) (ci := 3) (v := .int (nI 1)) hx hb hg ku_MD hown hK hI (0) (wm_0) rfl 0 (by decide) kw_470 rfl d_MD_isTold_21 ?_
      refine r_zne (a := 1) (tgt := 40) hx hb d_MD_isTold_24 (by decide) (by omega) (fun h9 => ?_) (fun h9 => ?_)
      · refine lv_iconst (v := bI false) hx hb d_MD_isTold_40 (by decide) ?_
        exact g_rz hx hb hr hlk hI (rfl) d_MD_isTold_41
      · exact absurd h9 (by omega)
