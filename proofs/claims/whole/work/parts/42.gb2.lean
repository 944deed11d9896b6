set_option maxHeartbeats 4000000 in
set_option maxRecDepth 100000 in
theorem c_GB_layOut {l : Launch} {D : va_G} {cG cZ cI cJ : ClassId} {ad : Nat → Nat} (σ : gS) (c0 la : Nat) (h1 : 1 ≤ c0) (h4 : c0 ≤ 4) (hla : 16 ≤ la) (hla2 : la ≤ 256) : gMet l D (gT cG cZ cI cJ) y_GB_layOut b_GB_layOut 4 none ({ frames := 2, cells := 0, slots := 0, locals := 44 }) (wd ad cG cZ σ) [.ref (ad 0), .int (nI c0), .int (nI la)] (wd ad cG cZ (sLayAll σ c0 la)) (none) := by
  refine gMet_of (by decide) (Nat.le_of_ble_eq_true rfl) ?_
  intro p e s m below meth c A ls hC hA hI hl
  obtain ⟨hx, hb, hr, hlk, hown, hml, hg, hK⟩ := hC
  have hown : s.vm.findClass "GroupBitmaps" = some m.cls := hown
  have hl : lv_has ls 4 [(0, .ref (ad 0)), (1, .int (nI c0)), (2, .int (nI la))] := hl
  refine lv_aload_n hx hb d_GB_layOut_0 rfl (lv_at hl 0 rfl) ?_
  refine lv_iload_n hx hb d_GB_layOut_1 rfl (lv_at hl 1 rfl) ?_
  refine g_put (ws' := (wd ad cG cZ (uCnt σ c0))) (own := "GroupBitmaps") (C := R_GB) (T := F_GB) (N := 5) (ci := 0) (v := .int (nI c0)) hx hb hg ku_GB t_GB t_GB_ok n_GB hown hK hI (0) (wd_GB) rfl 1 (by decide) kw_92 rfl rfl (rfl) (rfl) (Nat.le_of_ble_eq_true rfl) (wd_uCnt) d_GB_layOut_2 (fun H locs hI => ?_)
  refine lv_iconst (v := nI 0) hx hb d_GB_layOut_5 (by decide) ?_
  refine lv_istore_n (lv' := [(3, .int (nI 0)), (0, .ref (ad 0)), (1, .int (nI c0)), (2, .int (nI la))]) hx hb d_GB_layOut_6 rfl hl (by decide) rfl (fun ls hl => ?_)
  have loop : ∀ (fuel : Nat) (g : Nat), c0 + 1 ≤ fuel + g → (g ≤ c0) → ∀ (H : Heap) (locs : List Loc) (ls : Array Slot), gI D A s.heap (wd ad cG cZ (sGLays (uCnt σ c0) c0 la g)) H locs → lv_has ls 4 [(0, .ref (ad 0)), (1, .int (nI c0)), (2, .int (nI la)), (3, .int (nI g))] → W p l e ({ frames := 2, cells := 0, slots := 0, locals := 44 }) s m ([.ref (ad 0), .int (nI c0), .int (nI la)] : List Value).toArray below meth c H locs 0 0 (gQ D below ([.ref (ad 0), .int (nI c0), .int (nI la)] : List Value).toArray s A (wd ad cG cZ (sLayAll σ c0 la)) (none)) (F0 m 7 ls []) := by
    intro fuel
    induction fuel with
    | zero => intro g hfu hgc; exact absurd hfu (by omega)
    | succ fuel ih =>
      intro g hfu hgc H locs ls hI hl
      have hcn : sCnt (sGLays (uCnt σ c0) c0 la g) = c0 := by rw [sCnt_sGLays]; rfl
      refine lv_iload_n hx hb d_GB_layOut_7 rfl (lv_at hl 3 rfl) ?_
      refine lv_aload_n hx hb d_GB_layOut_8 rfl (lv_at hl 0 rfl) ?_
      refine g_get (own := "GroupBitmaps") (C := R_GB) (T := F_GB) (N := 5) (ci := 0) (v := .int (nI (sCnt (sGLays (uCnt σ c0) c0 la g)))) hx hb hg ku_GB hown hK hI (0) (wd_GB) rfl 1 (by decide) kw_92 rfl d_GB_layOut_9 ?_
      refine r_ge (a := g) (b := sCnt (sGLays (uCnt σ c0) c0 la g)) (tgt := 47) hx hb d_GB_layOut_12 (by decide) (by omega) (by omega) (fun h => ?_) (fun h => ?_)
      · obtain rfl : c0 = g := by omega
        refine lv_aload_n hx hb d_GB_layOut_47 rfl (lv_at hl 0 rfl) ?_
        refine lv_iconst (v := nI 0) hx hb d_GB_layOut_48 (by decide) ?_
        refine g_put (ws' := (wd ad cG cZ (uRsv (sGLays (uCnt σ c0) c0 la c0) 0))) (own := "GroupBitmaps") (C := R_GB) (T := F_GB) (N := 5) (ci := 0) (v := .int (nI 0)) hx hb hg ku_GB t_GB t_GB_ok n_GB hown hK hI (0) (wd_GB) rfl 2 (by decide) kw_93 rfl rfl (rfl) (rfl) (Nat.le_of_ble_eq_true rfl) (wd_uRsv) d_GB_layOut_49 (fun H locs hI => ?_)
        refine lv_aload_n hx hb d_GB_layOut_52 rfl (lv_at hl 0 rfl) ?_
        refine lv_iconst (v := nI 0) hx hb d_GB_layOut_53 (by decide) ?_
        refine g_put (ws' := (wd ad cG cZ (uLat (uRsv (sGLays (uCnt σ c0) c0 la c0) 0) 0))) (own := "GroupBitmaps") (C := R_GB) (T := F_GB) (N := 5) (ci := 0) (v := .int (nI 0)) hx hb hg ku_GB t_GB t_GB_ok n_GB hown hK hI (0) (wd_GB) rfl 3 (by decide) kw_94 rfl rfl (rfl) (rfl) (Nat.le_of_ble_eq_true rfl) (wd_uLat) d_GB_layOut_54 (fun H locs hI => ?_)
        refine lv_aload_n hx hb d_GB_layOut_57 rfl (lv_at hl 0 rfl) ?_
        refine lv_iconst (v := bI true) hx hb d_GB_layOut_58 (by decide) ?_
        refine g_put (ws' := (wd ad cG cZ (sLayAll σ c0 la))) (own := "GroupBitmaps") (C := R_GB) (T := F_GB) (N := 5) (ci := 0) (v := .int (bI true)) hx hb hg ku_GB t_GB t_GB_ok n_GB hown hK hI (0) (wd_GB) rfl 4 (by decide) kw_95 rfl rfl (bI_n _) (bI_fit _) (Nat.le_of_ble_eq_true rfl) (wd_uTT) d_GB_layOut_59 (fun H locs hI => ?_)
        exact g_rv hx hb hr hlk hI (rfl) d_GB_layOut_62
      · refine lv_aload_n hx hb d_GB_layOut_15 rfl (lv_at hl 0 rfl) ?_
        refine g_get (own := "GroupBitmaps") (C := R_GB) (T := F_GB) (N := 5) (ci := 0) (v := .ref (ad 1)) hx hb hg ku_GB hown hK hI (0) (wd_GB) rfl 0 (by decide) kw_91 rfl d_GB_layOut_16 ?_
        refine lv_iload_n hx hb d_GB_layOut_19 rfl (lv_at hl 3 rfl) ?_
        refine g_aldq (r := ad (2 + g)) (i := g) hx hb hK hI (1) 0 (wd_GA) rfl (by omega) (by decide) rfl d_GB_layOut_20 ?_
        have hq0 := show g < 4 by omega
        have hr0 : 2 * g < 8 := by omega
        have hs0 : 2 * g + 1 < 8 := by omega
        have hhd := gHd_le g
        refine lv_iload_n hx hb d_GB_layOut_21 rfl (lv_at hl 3 rfl) ?_
        refine lv_aload_n hx hb d_GB_layOut_22 rfl (lv_at hl 0 rfl) ?_
        refine g_get (own := "GroupBitmaps") (C := R_GB) (T := F_GB) (N := 5) (ci := 0) (v := .int (nI (sCnt (sGLays (uCnt σ c0) c0 la g)))) hx hb hg ku_GB hown hK hI (0) (wd_GB) rfl 1 (by decide) kw_92 rfl d_GB_layOut_23 ?_
        refine lv_iconst (v := nI 1) hx hb d_GB_layOut_26 (by decide) ?_
        refine r_isub (a := sCnt (sGLays (uCnt σ c0) c0 la g)) (b := 1) hx hb (by omega) d_GB_layOut_27 ?_
        refine r_ne (a := g) (b := (sCnt (sGLays (uCnt σ c0) c0 la g)) - 1) (tgt := 35) hx hb d_GB_layOut_28 (by decide) (by omega) (by omega) (fun h2 => ?_) (fun h2 => ?_)
        · have ei : (if g = c0 - 1 then la else 256) = 256 := if_neg (by omega)
          have es : sGLays (uCnt σ c0) c0 la (g + 1) = sGLay (sGLays (uCnt σ c0) c0 la g) g 256 := by rw [sGLays, ei]
          refine lv_sipush (v := nI 256) hx hb d_GB_layOut_35 (by decide) ?_
          refine g_callV (own := "GroupBitmaps") (C := "GroupBitmaps$Group") (T := F_GR) (N := 6) (k := 1) (q0 := 2 + g) (ci := 1) (a := ad (2 + g)) (As := [.int (nI 256)]) (rest := []) (c_GR_layOut (sGLays (uCnt σ c0) c0 la g) g (by omega) 256 (by omega) (by omega)) hx hb hml hown hg hK hI hA kw_83 kw_84 kw_85 kw_2 kw_86 ky_GR_layOut ⟨Nat.le_of_ble_eq_true rfl, Nat.le_of_ble_eq_true rfl⟩ rfl rfl (wd_GR hq0) rfl rfl hl.1 (Nat.le_of_ble_eq_true rfl) ⟨Nat.zero_le _, Nat.zero_le _⟩ d_GB_layOut_38 rfl rfl (fun H locs hI => ?_)
          refine lv_iinc (v := nI (g + 1)) (lv' := [(3, .int (nI (g + 1))), (0, .ref (ad 0)), (1, .int (nI c0)), (2, .int (nI la))]) hx hb d_GB_layOut_41 hl (k := 3) rfl (nI_1 _) (by decide) rfl (fun ls hl => ?_)
          refine lv_goto (tgt := 7) hx hb d_GB_layOut_44 (by decide) ?_
          exact ih (g + 1) (by omega) (by omega) _ _ _ (by rw [es]; exact hI) (lv_sub hl [1, 2, 3, 0] rfl)
        · have ei : (if g = c0 - 1 then la else 256) = la := if_pos (by omega)
          have es : sGLays (uCnt σ c0) c0 la (g + 1) = sGLay (sGLays (uCnt σ c0) c0 la g) g la := by rw [sGLays, ei]
          refine lv_iload_n hx hb d_GB_layOut_31 rfl (lv_at hl 2 rfl) ?_
          refine lv_goto (tgt := 38) hx hb d_GB_layOut_32 (by decide) ?_
          refine g_callV (own := "GroupBitmaps") (C := "GroupBitmaps$Group") (T := F_GR) (N := 6) (k := 1) (q0 := 2 + g) (ci := 1) (a := ad (2 + g)) (As := [.int (nI la)]) (rest := []) (c_GR_layOut (sGLays (uCnt σ c0) c0 la g) g (by omega) la (by omega) (by omega)) hx hb hml hown hg hK hI hA kw_83 kw_84 kw_85 kw_2 kw_86 ky_GR_layOut ⟨Nat.le_of_ble_eq_true rfl, Nat.le_of_ble_eq_true rfl⟩ rfl rfl (wd_GR hq0) rfl rfl hl.1 (Nat.le_of_ble_eq_true rfl) ⟨Nat.zero_le _, Nat.zero_le _⟩ d_GB_layOut_38 rfl rfl (fun H locs hI => ?_)
          refine lv_iinc (v := nI (g + 1)) (lv' := [(3, .int (nI (g + 1))), (0, .ref (ad 0)), (1, .int (nI c0)), (2, .int (nI la))]) hx hb d_GB_layOut_41 hl (k := 3) rfl (nI_1 _) (by decide) rfl (fun ls hl => ?_)
          refine lv_goto (tgt := 7) hx hb d_GB_layOut_44 (by decide) ?_
          exact ih (g + 1) (by omega) (by omega) _ _ _ (by rw [es]; exact hI) (lv_sub hl [1, 2, 3, 0] rfl)
  exact loop (c0 + 1) 0 (by omega) (Nat.zero_le _) _ _ _ hI (lv_sub hl [1, 2, 3, 0] rfl)
set_option maxHeartbeats 4000000 in
set_option maxRecDepth 100000 in
theorem c_GB_firstWithFile {l : Launch} {D : va_G} {cG cZ cI cJ : ClassId} {ad : Nat → Nat} (σ : gS) (hσ : sB σ) (g : Nat) (hg4 : g < 4) : gMet l D (gT cG cZ cI cJ) y_GB_firstWithFile b_GB_firstWithFile 4 (some (.object "GroupBitmaps$Group")) ({ frames := 1, cells := 0, slots := 0, locals := 22 }) (wd ad cG cZ σ) [.ref (ad 0), .ref (ad (2 + g))] (wd ad cG cZ σ) (some (gR ad (sFst σ g (pFile σ) (sCnt σ)))) := by
  refine gMet_of (by decide) (Nat.le_of_ble_eq_true rfl) ?_
  intro p e s m below meth c A ls hC hA hI hl
  obtain ⟨hx, hb, hr, hlk, hown, hml, hg, hK⟩ := hC
  have hown : s.vm.findClass "GroupBitmaps" = some m.cls := hown
  have hl : lv_has ls 4 [(0, .ref (ad 0)), (1, .ref (ad (2 + g)))] := hl
  have hc1 := hσ.1
  have hc2 := hσ.2.1
  refine lv_iconst (v := nI 0) hx hb d_GB_firstWithFile_0 (by decide) ?_
  refine lv_istore_n (lv' := [(2, .int (nI 0)), (0, .ref (ad 0)), (1, .ref (ad (2 + g)))]) hx hb d_GB_firstWithFile_1 rfl hl (by decide) rfl (fun ls hl => ?_)
  have loop : ∀ (fuel : Nat) (k : Nat), sCnt σ + 1 ≤ fuel + k → (k ≤ sCnt σ) → (sFst σ g (pFile σ) k = none) → ∀ (H : Heap) (locs : List Loc) (ls : Array Slot), gI D A s.heap (wd ad cG cZ σ) H locs → lv_has ls 4 [(0, .ref (ad 0)), (1, .ref (ad (2 + g))), (2, .int (nI k))] → W p l e ({ frames := 1, cells := 0, slots := 0, locals := 22 }) s m ([.ref (ad 0), .ref (ad (2 + g))] : List Value).toArray below meth c H locs 0 0 (gQ D below ([.ref (ad 0), .ref (ad (2 + g))] : List Value).toArray s A (wd ad cG cZ σ) (some (gR ad (sFst σ g (pFile σ) (sCnt σ))))) (F0 m 2 ls []) := by
    intro fuel
    induction fuel with
    | zero => intro k hfu hk hn; exact absurd hfu (by omega)
    | succ fuel ih =>
      intro k hfu hk hn H locs ls hI hl
      refine lv_iload_n hx hb d_GB_firstWithFile_2 rfl (lv_at hl 2 rfl) ?_
      refine lv_aload_n hx hb d_GB_firstWithFile_3 rfl (lv_at hl 0 rfl) ?_
      refine g_get (own := "GroupBitmaps") (C := R_GB) (T := F_GB) (N := 5) (ci := 0) (v := .int (nI (sCnt σ))) hx hb hg ku_GB hown hK hI (0) (wd_GB) rfl 1 (by decide) kw_92 rfl d_GB_firstWithFile_4 ?_
      refine r_ge (a := k) (b := sCnt σ) (tgt := 36) hx hb d_GB_firstWithFile_7 (by decide) (by omega) (by omega) (fun h => ?_) (fun h => ?_)
      · obtain rfl : k = sCnt σ := by omega
        refine lv_null hx hb d_GB_firstWithFile_36 ?_
        exact g_ra hx hb hr hlk (Or.inl rfl) hI (by rw [hn]; rfl) d_GB_firstWithFile_37
      · refine lv_aload_n hx hb d_GB_firstWithFile_10 rfl (lv_at hl 0 rfl) ?_
        refine lv_aload_n hx hb d_GB_firstWithFile_11 rfl (lv_at hl 1 rfl) ?_
        refine lv_iload_n hx hb d_GB_firstWithFile_12 rfl (lv_at hl 2 rfl) ?_
        refine g_callV (own := "GroupBitmaps") (C := "GroupBitmaps") (T := F_GB) (N := 5) (k := 2) (q0 := 0) (ci := 0) (a := ad 0) (As := [.ref (ad (2 + g)), .int (nI k)]) (rest := []) (c_GB_groupBehind σ hσ g k hg4 (by omega)) hx hb hml hown hg hK hI hA kw_276 kw_278 kp_9 kw_1 kw_279 ky_GB_groupBehind ⟨Nat.le_of_ble_eq_true rfl, Nat.le_of_ble_eq_true rfl⟩ rfl rfl (wd_GB) rfl rfl hl.1 (Nat.le_of_ble_eq_true rfl) ⟨Nat.zero_le _, Nat.zero_le _⟩ d_GB_firstWithFile_13 rfl rfl (fun H locs hI => ?_)
        have hq0 := sNx_lt hσ g k
        have hr0 : 2 * (sNx σ g k) < 8 := by omega
        have hs0 : 2 * (sNx σ g k) + 1 < 8 := by omega
        have hfb := (hσ.2.2.2.1 _ hs0).2
        refine lv_astore_n (lv' := [(3, .ref (ad (2 + (sNx σ g k)))), (0, .ref (ad 0)), (1, .ref (ad (2 + g))), (2, .int (nI k))]) hx hb d_GB_firstWithFile_16 rfl hl (by decide) rfl (fun ls hl => ?_)
        refine lv_aload_n hx hb d_GB_firstWithFile_17 rfl (lv_at hl 0 rfl) ?_
        refine g_getN (own := "GroupBitmaps") (C := R_GR) (T := F_GR) (N := 6) (ci := 1) (v := .ref (ad (6 + (2 * (sNx σ g k) + 1)))) hx hb hg ku_GR hown hK hI (2 + (sNx σ g k)) (wd_GR hq0) rfl 4 (by decide) kw_63 rfl d_GB_firstWithFile_18 ?_
        refine g_getN (own := "GroupBitmaps") (C := R_BM) (T := F_BM) (N := 5) (ci := 2) (v := .int (nI (sFr σ (2 * (sNx σ g k) + 1)))) hx hb hg ku_BM hown hK hI (6 + (2 * (sNx σ g k) + 1)) (wd_BM hs0) rfl 3 (by decide) kw_40 rfl d_GB_firstWithFile_21 ?_
        refine lv_iconst (v := nI 1) hx hb d_GB_firstWithFile_24 (by decide) ?_
        refine r_lt (a := sFr σ (2 * (sNx σ g k) + 1)) (b := 1) (tgt := 30) hx hb d_GB_firstWithFile_25 (by decide) (by omega) (by omega) (fun h2 => ?_) (fun h2 => ?_)
        · refine lv_iinc (v := nI (k + 1)) (lv' := [(2, .int (nI (k + 1))), (3, .ref (ad (2 + (sNx σ g k)))), (0, .ref (ad 0)), (1, .ref (ad (2 + g)))]) hx hb d_GB_firstWithFile_30 hl (k := 3) rfl (nI_1 _) (by decide) rfl (fun ls hl => ?_)
          refine lv_goto (tgt := 2) hx hb d_GB_firstWithFile_33 (by decide) ?_
          exact ih (k + 1) (by omega) (by omega) (sFst_step hn (by simp [pFile]; omega)) _ _ _ hI (lv_sub hl [2, 3, 0] rfl)
        · refine lv_aload_n hx hb d_GB_firstWithFile_28 rfl (lv_at hl 0 rfl) ?_
          exact g_ra hx hb hr hlk (Or.inr ⟨_, rfl⟩) hI (by rw [sFst_some hn (by simp [pFile]; omega) h]; rfl) d_GB_firstWithFile_29
  exact loop (sCnt σ + 1) 0 (by omega) (Nat.zero_le _) rfl _ _ _ hI (lv_sub hl [1, 2, 0] rfl)
set_option maxHeartbeats 4000000 in
set_option maxRecDepth 100000 in
theorem c_GB_firstWithRoom {l : Launch} {D : va_G} {cG cZ cI cJ : ClassId} {ad : Nat → Nat} (σ : gS) (hσ : sB σ) (g : Nat) (hg4 : g < 4) : gMet l D (gT cG cZ cI cJ) y_GB_firstWithRoom b_GB_firstWithRoom 5 (some (.object "GroupBitmaps$Group")) ({ frames := 1, cells := 0, slots := 0, locals := 22 }) (wd ad cG cZ σ) [.ref (ad 0), .ref (ad (2 + g))] (wd ad cG cZ σ) (some (gR ad (sFst σ g (pRoom σ) (sCnt σ)))) := by
  refine gMet_of (by decide) (Nat.le_of_ble_eq_true rfl) ?_
  intro p e s m below meth c A ls hC hA hI hl
  obtain ⟨hx, hb, hr, hlk, hown, hml, hg, hK⟩ := hC
  have hown : s.vm.findClass "GroupBitmaps" = some m.cls := hown
  have hl : lv_has ls 5 [(0, .ref (ad 0)), (1, .ref (ad (2 + g)))] := hl
  have hc1 := hσ.1
  have hc2 := hσ.2.1
  have hff := sFF_le hσ (sCnt σ) hc2
  have hdv : sFF σ (sCnt σ) / sCnt σ ≤ sFF σ (sCnt σ) := Nat.div_le_self _ _
  refine lv_aload_n hx hb d_GB_firstWithRoom_0 rfl (lv_at hl 0 rfl) ?_
  refine g_callV (own := "GroupBitmaps") (C := "GroupBitmaps") (T := F_GB) (N := 5) (k := 0) (q0 := 0) (ci := 0) (a := ad 0) (As := []) (rest := []) (c_GB_freeFiles σ hσ) hx hb hml hown hg hK hI hA kw_336 kw_338 kp_16 kw_1 kw_339 ky_GB_freeFiles ⟨Nat.le_of_ble_eq_true rfl, Nat.le_of_ble_eq_true rfl⟩ rfl rfl (wd_GB) rfl rfl hl.1 (Nat.le_of_ble_eq_true rfl) ⟨Nat.zero_le _, Nat.zero_le _⟩ d_GB_firstWithRoom_1 rfl rfl (fun H locs hI => ?_)
  refine lv_aload_n hx hb d_GB_firstWithRoom_4 rfl (lv_at hl 0 rfl) ?_
  refine g_get (own := "GroupBitmaps") (C := R_GB) (T := F_GB) (N := 5) (ci := 0) (v := .int (nI (sCnt σ))) hx hb hg ku_GB hown hK hI (0) (wd_GB) rfl 1 (by decide) kw_92 rfl d_GB_firstWithRoom_5 ?_
  refine r_idiv (a := sFF σ (sCnt σ)) (b := sCnt σ) hx hb (by omega) (by omega) (by omega) d_GB_firstWithRoom_8 ?_
  refine lv_iconst (v := nI 2) hx hb d_GB_firstWithRoom_9 (by decide) ?_
  refine r_idiv (a := (sFF σ (sCnt σ)) / (sCnt σ)) (b := 2) hx hb (by omega) (by omega) (by omega) d_GB_firstWithRoom_10 ?_
  refine lv_istore_n (lv' := [(2, .int (nI (((sFF σ (sCnt σ)) / (sCnt σ)) / 2))), (0, .ref (ad 0)), (1, .ref (ad (2 + g)))]) hx hb d_GB_firstWithRoom_11 rfl hl (by decide) rfl (fun ls hl => ?_)
  refine lv_iconst (v := nI 0) hx hb d_GB_firstWithRoom_12 (by decide) ?_
  refine lv_istore_n (lv' := [(3, .int (nI 0)), (2, .int (nI (((sFF σ (sCnt σ)) / (sCnt σ)) / 2))), (0, .ref (ad 0)), (1, .ref (ad (2 + g)))]) hx hb d_GB_firstWithRoom_13 rfl hl (by decide) rfl (fun ls hl => ?_)
  have loop : ∀ (fuel : Nat) (k : Nat), sCnt σ + 1 ≤ fuel + k → (k ≤ sCnt σ) → (sFst σ g (pRoom σ) k = none) → ∀ (H : Heap) (locs : List Loc) (ls : Array Slot), gI D A s.heap (wd ad cG cZ σ) H locs → lv_has ls 5 [(0, .ref (ad 0)), (1, .ref (ad (2 + g))), (2, .int (nI (sFF σ (sCnt σ) / sCnt σ / 2))), (3, .int (nI k))] → W p l e ({ frames := 1, cells := 0, slots := 0, locals := 22 }) s m ([.ref (ad 0), .ref (ad (2 + g))] : List Value).toArray below meth c H locs 0 0 (gQ D below ([.ref (ad 0), .ref (ad (2 + g))] : List Value).toArray s A (wd ad cG cZ σ) (some (gR ad (sFst σ g (pRoom σ) (sCnt σ))))) (F0 m 14 ls []) := by
    intro fuel
    induction fuel with
    | zero => intro k hfu hk hn; exact absurd hfu (by omega)
    | succ fuel ih =>
      intro k hfu hk hn H locs ls hI hl
      refine lv_iload_n hx hb d_GB_firstWithRoom_14 rfl (lv_at hl 3 rfl) ?_
      refine lv_aload_n hx hb d_GB_firstWithRoom_15 rfl (lv_at hl 0 rfl) ?_
      refine g_get (own := "GroupBitmaps") (C := R_GB) (T := F_GB) (N := 5) (ci := 0) (v := .int (nI (sCnt σ))) hx hb hg ku_GB hown hK hI (0) (wd_GB) rfl 1 (by decide) kw_92 rfl d_GB_firstWithRoom_16 ?_
      refine r_ge (a := k) (b := sCnt σ) (tgt := 59) hx hb d_GB_firstWithRoom_19 (by decide) (by omega) (by omega) (fun h => ?_) (fun h => ?_)
      · obtain rfl : k = sCnt σ := by omega
        refine lv_null hx hb d_GB_firstWithRoom_59 ?_
        exact g_ra hx hb hr hlk (Or.inl rfl) hI (by rw [hn]; rfl) d_GB_firstWithRoom_60
      · refine lv_aload_n hx hb d_GB_firstWithRoom_22 rfl (lv_at hl 0 rfl) ?_
        refine lv_aload_n hx hb d_GB_firstWithRoom_23 rfl (lv_at hl 1 rfl) ?_
        refine lv_iload_n hx hb d_GB_firstWithRoom_24 rfl (lv_at hl 3 rfl) ?_
        refine g_callV (own := "GroupBitmaps") (C := "GroupBitmaps") (T := F_GB) (N := 5) (k := 2) (q0 := 0) (ci := 0) (a := ad 0) (As := [.ref (ad (2 + g)), .int (nI k)]) (rest := []) (c_GB_groupBehind σ hσ g k hg4 (by omega)) hx hb hml hown hg hK hI hA kw_276 kw_278 kp_9 kw_1 kw_279 ky_GB_groupBehind ⟨Nat.le_of_ble_eq_true rfl, Nat.le_of_ble_eq_true rfl⟩ rfl rfl (wd_GB) rfl rfl hl.1 (Nat.le_of_ble_eq_true rfl) ⟨Nat.zero_le _, Nat.zero_le _⟩ d_GB_firstWithRoom_25 rfl rfl (fun H locs hI => ?_)
        have hq0 := sNx_lt hσ g k
        have hr0 : 2 * (sNx σ g k) < 8 := by omega
        have hs0 : 2 * (sNx σ g k) + 1 < 8 := by omega
        have hfb := (hσ.2.2.2.1 _ hs0).2
        refine lv_astore (lv' := [(4, .ref (ad (2 + (sNx σ g k)))), (0, .ref (ad 0)), (1, .ref (ad (2 + g))), (2, .int (nI (sFF σ (sCnt σ) / sCnt σ / 2))), (3, .int (nI k))]) hx hb d_GB_firstWithRoom_28 hl (by decide) rfl (fun ls hl => ?_)
        refine lv_aload hx hb d_GB_firstWithRoom_30 (lv_at hl 0 rfl) ?_
        refine g_getN (own := "GroupBitmaps") (C := R_GR) (T := F_GR) (N := 6) (ci := 1) (v := .ref (ad (6 + (2 * (sNx σ g k) + 1)))) hx hb hg ku_GR hown hK hI (2 + (sNx σ g k)) (wd_GR hq0) rfl 4 (by decide) kw_63 rfl d_GB_firstWithRoom_32 ?_
        refine g_getN (own := "GroupBitmaps") (C := R_BM) (T := F_BM) (N := 5) (ci := 2) (v := .int (nI (sFr σ (2 * (sNx σ g k) + 1)))) hx hb hg ku_BM hown hK hI (6 + (2 * (sNx σ g k) + 1)) (wd_BM hs0) rfl 3 (by decide) kw_40 rfl d_GB_firstWithRoom_35 ?_
        refine lv_iload_n hx hb d_GB_firstWithRoom_38 rfl (lv_at hl 3 rfl) ?_
        refine r_lt (a := sFr σ (2 * (sNx σ g k) + 1)) (b := sFF σ (sCnt σ) / sCnt σ / 2) (tgt := 53) hx hb d_GB_firstWithRoom_39 (by decide) (by omega) (by omega) (fun h2 => ?_) (fun h2 => ?_)
        · refine lv_iinc (v := nI (k + 1)) (lv' := [(3, .int (nI (k + 1))), (4, .ref (ad (2 + (sNx σ g k)))), (0, .ref (ad 0)), (1, .ref (ad (2 + g))), (2, .int (nI (sFF σ (sCnt σ) / sCnt σ / 2)))]) hx hb d_GB_firstWithRoom_53 hl (k := 4) rfl (nI_1 _) (by decide) rfl (fun ls hl => ?_)
          refine lv_goto (tgt := 14) hx hb d_GB_firstWithRoom_56 (by decide) ?_
          exact ih (k + 1) (by omega) (by omega) (sFst_step hn (by unfold pRoom; rw [decide_eq_false (Nat.not_le.mpr h2), Bool.false_and])) _ _ _ hI (lv_sub hl [2, 3, 4, 0] rfl)
        · refine lv_aload hx hb d_GB_firstWithRoom_42 (lv_at hl 0 rfl) ?_
          refine g_callV (own := "GroupBitmaps") (C := "GroupBitmaps$Group") (T := F_GR) (N := 6) (k := 0) (q0 := 2 + (sNx σ g k)) (ci := 1) (a := ad (2 + (sNx σ g k))) (As := []) (rest := []) (c_GR_hasFileAndBlock σ (sNx σ g k) hq0 hσ) hx hb hml hown hg hK hI hA kw_344 kw_345 kw_346 kw_2 kw_347 ky_GR_hasFileAndBlock ⟨Nat.le_of_ble_eq_true rfl, Nat.le_of_ble_eq_true rfl⟩ rfl rfl (wd_GR hq0) rfl rfl hl.1 (Nat.le_of_ble_eq_true rfl) ⟨Nat.zero_le _, Nat.zero_le _⟩ d_GB_firstWithRoom_44 rfl rfl (fun H locs hI => ?_)
          refine r_bz (b := sHas σ (sNx σ g k)) (tgt := 53) hx hb d_GB_firstWithRoom_47 (by decide) (fun h3 => ?_) (fun h3 => ?_)
          · refine lv_iinc (v := nI (k + 1)) (lv' := [(3, .int (nI (k + 1))), (4, .ref (ad (2 + (sNx σ g k)))), (0, .ref (ad 0)), (1, .ref (ad (2 + g))), (2, .int (nI (sFF σ (sCnt σ) / sCnt σ / 2)))]) hx hb d_GB_firstWithRoom_53 hl (k := 4) rfl (nI_1 _) (by decide) rfl (fun ls hl => ?_)
            refine lv_goto (tgt := 14) hx hb d_GB_firstWithRoom_56 (by decide) ?_
            exact ih (k + 1) (by omega) (by omega) (sFst_step hn (by unfold pRoom; rw [h3, Bool.and_false])) _ _ _ hI (lv_sub hl [2, 3, 4, 0] rfl)
          · refine lv_aload hx hb d_GB_firstWithRoom_50 (lv_at hl 0 rfl) ?_
            exact g_ra hx hb hr hlk (Or.inr ⟨_, rfl⟩) hI (by rw [sFst_some hn (by unfold pRoom; rw [decide_eq_true h2, h3]; rfl) h]; rfl) d_GB_firstWithRoom_52
  exact loop (sCnt σ + 1) 0 (by omega) (Nat.zero_le _) rfl _ _ _ hI (lv_sub hl [2, 3, 1, 0] rfl)
set_option maxHeartbeats 4000000 in
set_option maxRecDepth 100000 in
theorem c_GB_leastFolders {l : Launch} {D : va_G} {cG cZ cI cJ : ClassId} {ad : Nat → Nat} (σ : gS) (hσ : sB σ) (g : Nat) (hg4 : g < 4) : gMet l D (gT cG cZ cI cJ) y_GB_leastFolders b_GB_leastFolders 8 (some (.object "GroupBitmaps$Group")) ({ frames := 1, cells := 0, slots := 0, locals := 22 }) (wd ad cG cZ σ) [.ref (ad 0), .ref (ad (2 + g))] (wd ad cG cZ σ) (some (gR ad (sLeast σ g (sCnt σ)))) := by
  refine gMet_of (by decide) (Nat.le_of_ble_eq_true rfl) ?_
  intro p e s m below meth c A ls hC hA hI hl
  obtain ⟨hx, hb, hr, hlk, hown, hml, hg, hK⟩ := hC
  have hown : s.vm.findClass "GroupBitmaps" = some m.cls := hown
  have hl : lv_has ls 8 [(0, .ref (ad 0)), (1, .ref (ad (2 + g)))] := hl
  have hc1 := hσ.1
  have hc2 := hσ.2.1
  have hff := sFF_le hσ (sCnt σ) hc2
  have hfb0 := sFB_le hσ (sCnt σ) hc2
  have hdv : sFF σ (sCnt σ) / sCnt σ ≤ sFF σ (sCnt σ) := Nat.div_le_self _ _
  have hdv2 : sFB σ (sCnt σ) / sCnt σ ≤ sFB σ (sCnt σ) := Nat.div_le_self _ _
  have hmx : Nat.max 1 (sFF σ (sCnt σ) / sCnt σ) ≤ 1025 := Nat.max_le.mpr ⟨by omega, by omega⟩
  refine lv_iconst (v := nI 1) hx hb d_GB_leastFolders_0 (by decide) ?_
  refine lv_aload_n hx hb d_GB_leastFolders_1 rfl (lv_at hl 0 rfl) ?_
  refine g_callV (own := "GroupBitmaps") (C := "GroupBitmaps") (T := F_GB) (N := 5) (k := 0) (q0 := 0) (ci := 0) (a := ad 0) (As := []) (rest := [.int (nI 1)]) (c_GB_freeFiles σ hσ) hx hb hml hown hg hK hI hA kw_336 kw_338 kp_16 kw_1 kw_339 ky_GB_freeFiles ⟨Nat.le_of_ble_eq_true rfl, Nat.le_of_ble_eq_true rfl⟩ rfl rfl (wd_GB) rfl rfl hl.1 (Nat.le_of_ble_eq_true rfl) ⟨Nat.zero_le _, Nat.zero_le _⟩ d_GB_leastFolders_2 rfl rfl (fun H locs hI => ?_)
  refine lv_aload_n hx hb d_GB_leastFolders_5 rfl (lv_at hl 0 rfl) ?_
  refine g_get (own := "GroupBitmaps") (C := R_GB) (T := F_GB) (N := 5) (ci := 0) (v := .int (nI (sCnt σ))) hx hb hg ku_GB hown hK hI (0) (wd_GB) rfl 1 (by decide) kw_92 rfl d_GB_leastFolders_6 ?_
  refine r_idiv (a := sFF σ (sCnt σ)) (b := sCnt σ) hx hb (by omega) (by omega) (by omega) d_GB_leastFolders_9 ?_
  refine r_max (a := 1) (b := (sFF σ (sCnt σ)) / (sCnt σ)) (own := "GroupBitmaps") hx hb hml hl.1 hown hg kw_212 kw_213 kw_9 kw_214 (Nat.le_of_ble_eq_true rfl) (Nat.le_of_ble_eq_true rfl) (Nat.zero_le _) (Nat.zero_le _) (by omega) (by omega) d_GB_leastFolders_10 ?_
  refine lv_istore_n (lv' := [(2, .int (nI (Nat.max 1 ((sFF σ (sCnt σ)) / (sCnt σ))))), (0, .ref (ad 0)), (1, .ref (ad (2 + g)))]) hx hb d_GB_leastFolders_13 rfl hl (by decide) rfl (fun ls hl => ?_)
  refine lv_aload_n hx hb d_GB_leastFolders_14 rfl (lv_at hl 1 rfl) ?_
  refine g_callV (own := "GroupBitmaps") (C := "GroupBitmaps") (T := F_GB) (N := 5) (k := 0) (q0 := 0) (ci := 0) (a := ad 0) (As := []) (rest := []) (c_GB_freeBlocks σ hσ) hx hb hml hown hg hK hI hA kw_196 kw_198 kp_2 kw_1 kw_199 ky_GB_freeBlocks ⟨Nat.le_of_ble_eq_true rfl, Nat.le_of_ble_eq_true rfl⟩ rfl rfl (wd_GB) rfl rfl hl.1 (Nat.le_of_ble_eq_true rfl) ⟨Nat.zero_le _, Nat.zero_le _⟩ d_GB_leastFolders_15 rfl rfl (fun H locs hI => ?_)
  refine lv_aload_n hx hb d_GB_leastFolders_18 rfl (lv_at hl 1 rfl) ?_
  refine g_get (own := "GroupBitmaps") (C := R_GB) (T := F_GB) (N := 5) (ci := 0) (v := .int (nI (sCnt σ))) hx hb hg ku_GB hown hK hI (0) (wd_GB) rfl 1 (by decide) kw_92 rfl d_GB_leastFolders_19 ?_
  refine r_idiv (a := sFB σ (sCnt σ)) (b := sCnt σ) hx hb (by omega) (by omega) (by omega) d_GB_leastFolders_22 ?_
  refine lv_istore_n (lv' := [(3, .int (nI ((sFB σ (sCnt σ)) / (sCnt σ)))), (2, .int (nI (Nat.max 1 ((sFF σ (sCnt σ)) / (sCnt σ))))), (0, .ref (ad 0)), (1, .ref (ad (2 + g)))]) hx hb d_GB_leastFolders_23 rfl hl (by decide) rfl (fun ls hl => ?_)
  refine lv_null hx hb d_GB_leastFolders_24 ?_
  refine lv_astoreN (lv' := [(4, .null), (3, .int (nI ((sFB σ (sCnt σ)) / (sCnt σ)))), (2, .int (nI (Nat.max 1 ((sFF σ (sCnt σ)) / (sCnt σ))))), (0, .ref (ad 0)), (1, .ref (ad (2 + g)))]) hx hb d_GB_leastFolders_25 hl (by decide) rfl (fun ls hl => ?_)
  refine lv_iconst (v := nI 0) hx hb d_GB_leastFolders_27 (by decide) ?_
  refine lv_istore (lv' := [(5, .int (nI 0)), (4, .null), (3, .int (nI ((sFB σ (sCnt σ)) / (sCnt σ)))), (2, .int (nI (Nat.max 1 ((sFF σ (sCnt σ)) / (sCnt σ))))), (0, .ref (ad 0)), (1, .ref (ad (2 + g)))]) hx hb d_GB_leastFolders_28 hl (by decide) rfl (fun ls hl => ?_)
  have loop : ∀ (fuel : Nat) (k : Nat) (o : Option Nat), sCnt σ + 1 ≤ fuel + k → (k ≤ sCnt σ) → (o = sLeast σ g k) → ∀ (H : Heap) (locs : List Loc) (ls : Array Slot), gI D A s.heap (wd ad cG cZ σ) H locs → lv_has ls 8 [(0, .ref (ad 0)), (1, .ref (ad (2 + g))), (2, .int (nI (Nat.max 1 (sFF σ (sCnt σ) / sCnt σ)))), (3, .int (nI (sFB σ (sCnt σ) / sCnt σ))), (4, gR ad o), (5, .int (nI k))] → W p l e ({ frames := 1, cells := 0, slots := 0, locals := 22 }) s m ([.ref (ad 0), .ref (ad (2 + g))] : List Value).toArray below meth c H locs 0 0 (gQ D below ([.ref (ad 0), .ref (ad (2 + g))] : List Value).toArray s A (wd ad cG cZ σ) (some (gR ad (sLeast σ g (sCnt σ))))) (F0 m 30 ls []) := by
    intro fuel
    induction fuel with
    | zero => intro k o hfu hk ho; exact absurd hfu (by omega)
    | succ fuel ih =>
      intro k o hfu hk ho H locs ls hI hl
      refine lv_iload hx hb d_GB_leastFolders_30 (lv_at hl 5 rfl) ?_
      refine lv_aload_n hx hb d_GB_leastFolders_32 rfl (lv_at hl 0 rfl) ?_
      refine g_get (own := "GroupBitmaps") (C := R_GB) (T := F_GB) (N := 5) (ci := 0) (v := .int (nI (sCnt σ))) hx hb hg ku_GB hown hK hI (0) (wd_GB) rfl 1 (by decide) kw_92 rfl d_GB_leastFolders_33 ?_
      refine r_ge (a := k) (b := sCnt σ) (tgt := 112) hx hb d_GB_leastFolders_36 (by decide) (by omega) (by omega) (fun h => ?_) (fun h => ?_)
      · obtain rfl : k = sCnt σ := by omega
        rcases o with _ | y
        · have hl : lv_has ls 8 [(0, .ref (ad 0)), (1, .ref (ad (2 + g))), (2, .int (nI (Nat.max 1 (sFF σ (sCnt σ) / sCnt σ)))), (3, .int (nI (sFB σ (sCnt σ) / sCnt σ))), (4, .null), (5, .int (nI ((sCnt σ))))] := hl
          refine lv_aloadN hx hb d_GB_leastFolders_112 (lv_at hl 4 rfl) ?_
          exact g_ra hx hb hr hlk (Or.inl rfl) hI (by rw [← ho]; rfl) d_GB_leastFolders_114
        · have hl : lv_has ls 8 [(0, .ref (ad 0)), (1, .ref (ad (2 + g))), (2, .int (nI (Nat.max 1 (sFF σ (sCnt σ) / sCnt σ)))), (3, .int (nI (sFB σ (sCnt σ) / sCnt σ))), (4, .ref (ad (2 + y))), (5, .int (nI ((sCnt σ))))] := hl
          refine lv_aload hx hb d_GB_leastFolders_112 (lv_at hl 4 rfl) ?_
          exact g_ra hx hb hr hlk (Or.inr ⟨_, rfl⟩) hI (by rw [← ho]; rfl) d_GB_leastFolders_114
      · rcases o with _ | y
        · have hl : lv_has ls 8 [(0, .ref (ad 0)), (1, .ref (ad (2 + g))), (2, .int (nI (Nat.max 1 (sFF σ (sCnt σ) / sCnt σ)))), (3, .int (nI (sFB σ (sCnt σ) / sCnt σ))), (4, .null), (5, .int (nI k))] := hl
          refine lv_aload_n hx hb d_GB_leastFolders_39 rfl (lv_at hl 0 rfl) ?_
          refine lv_aload_n hx hb d_GB_leastFolders_40 rfl (lv_at hl 1 rfl) ?_
          refine lv_iload hx hb d_GB_leastFolders_41 (lv_at hl 5 rfl) ?_
          refine g_callV (own := "GroupBitmaps") (C := "GroupBitmaps") (T := F_GB) (N := 5) (k := 2) (q0 := 0) (ci := 0) (a := ad 0) (As := [.ref (ad (2 + g)), .int (nI k)]) (rest := []) (c_GB_groupBehind σ hσ g k hg4 (by omega)) hx hb hml hown hg hK hI hA kw_276 kw_278 kp_9 kw_1 kw_279 ky_GB_groupBehind ⟨Nat.le_of_ble_eq_true rfl, Nat.le_of_ble_eq_true rfl⟩ rfl rfl (wd_GB) rfl rfl hl.1 (Nat.le_of_ble_eq_true rfl) ⟨Nat.zero_le _, Nat.zero_le _⟩ d_GB_leastFolders_43 rfl rfl (fun H locs hI => ?_)
          have hq0 := sNx_lt hσ g k
          have hr0 : 2 * (sNx σ g k) < 8 := by omega
          have hs0 : 2 * (sNx σ g k) + 1 < 8 := by omega
          have hfb := (hσ.2.2.2.1 _ hs0).2
          have hfb2 := (hσ.2.2.2.1 _ hr0).2
          have hfdx := hσ.2.2.2.2 _ hq0
          have es : sLeast σ g (k + 1) = sLeastN σ none (sNx σ g k) := by rw [ho]; rfl
          refine lv_astore (lv' := [(6, .ref (ad (2 + (sNx σ g k)))), (0, .ref (ad 0)), (1, .ref (ad (2 + g))), (2, .int (nI (Nat.max 1 (sFF σ (sCnt σ) / sCnt σ)))), (3, .int (nI (sFB σ (sCnt σ) / sCnt σ))), (4, .null), (5, .int (nI k))]) hx hb d_GB_leastFolders_46 hl (by decide) rfl (fun ls hl => ?_)
          refine lv_aload hx hb d_GB_leastFolders_48 (lv_at hl 0 rfl) ?_
          refine g_getN (own := "GroupBitmaps") (C := R_GR) (T := F_GR) (N := 6) (ci := 1) (v := .ref (ad (6 + (2 * (sNx σ g k) + 1)))) hx hb hg ku_GR hown hK hI (2 + (sNx σ g k)) (wd_GR hq0) rfl 4 (by decide) kw_63 rfl d_GB_leastFolders_50 ?_
          refine g_getN (own := "GroupBitmaps") (C := R_BM) (T := F_BM) (N := 5) (ci := 2) (v := .int (nI (sFr σ (2 * (sNx σ g k) + 1)))) hx hb hg ku_BM hown hK hI (6 + (2 * (sNx σ g k) + 1)) (wd_BM hs0) rfl 3 (by decide) kw_40 rfl d_GB_leastFolders_53 ?_
          refine lv_iload_n hx hb d_GB_leastFolders_56 rfl (lv_at hl 3 rfl) ?_
          refine r_lt (a := sFr σ (2 * (sNx σ g k) + 1)) (b := Nat.max 1 (sFF σ (sCnt σ) / sCnt σ)) (tgt := 76) hx hb d_GB_leastFolders_57 (by decide) (by omega) (by omega) (fun h2 => ?_) (fun h2 => ?_)
          · have hp : pLeast σ (sNx σ g k) = false := by unfold pLeast; rw [decide_eq_false (Nat.not_le.mpr h2), Bool.false_and]
            refine lv_iconst (v := bI false) hx hb d_GB_leastFolders_76 (by decide) ?_
            refine lv_istore (lv' := [(7, .int (bI false)), (6, .ref (ad (2 + (sNx σ g k)))), (0, .ref (ad 0)), (1, .ref (ad (2 + g))), (2, .int (nI (Nat.max 1 (sFF σ (sCnt σ) / sCnt σ)))), (3, .int (nI (sFB σ (sCnt σ) / sCnt σ))), (4, .null), (5, .int (nI k))]) hx hb d_GB_leastFolders_77 hl (by decide) rfl (fun ls hl => ?_)
            refine lv_iload hx hb d_GB_leastFolders_79 (lv_at hl 0 rfl) ?_
            refine r_bz (b := false) (tgt := 106) hx hb d_GB_leastFolders_81 (by decide) (fun h9 => ?_) (fun h9 => ?_)
            · refine lv_iinc (v := nI (k + 1)) (lv' := [(5, .int (nI (k + 1))), (7, .int (bI false)), (6, .ref (ad (2 + (sNx σ g k)))), (0, .ref (ad 0)), (1, .ref (ad (2 + g))), (2, .int (nI (Nat.max 1 (sFF σ (sCnt σ) / sCnt σ)))), (3, .int (nI (sFB σ (sCnt σ) / sCnt σ))), (4, .null)]) hx hb d_GB_leastFolders_106 hl (k := 7) rfl (nI_1 _) (by decide) rfl (fun ls hl => ?_)
              refine lv_goto (tgt := 30) hx hb d_GB_leastFolders_109 (by decide) ?_
              exact ih (k + 1) none (by omega) (by omega) (by rw [es, sLeastN, hp]; rfl) _ _ _ hI (lv_sub hl [3, 4, 5, 6, 7, 0] rfl)
            · exact absurd h9 (by decide)
          · refine lv_aload hx hb d_GB_leastFolders_60 (lv_at hl 0 rfl) ?_
            refine g_getN (own := "GroupBitmaps") (C := R_GR) (T := F_GR) (N := 6) (ci := 1) (v := .ref (ad (6 + (2 * (sNx σ g k))))) hx hb hg ku_GR hown hK hI (2 + (sNx σ g k)) (wd_GR hq0) rfl 3 (by decide) kw_61 rfl d_GB_leastFolders_62 ?_
            refine g_getN (own := "GroupBitmaps") (C := R_BM) (T := F_BM) (N := 5) (ci := 2) (v := .int (nI (sFr σ (2 * (sNx σ g k))))) hx hb hg ku_BM hown hK hI (6 + (2 * (sNx σ g k))) (wd_BM hr0) rfl 3 (by decide) kw_40 rfl d_GB_leastFolders_65 ?_
            refine lv_iload_n hx hb d_GB_leastFolders_68 rfl (lv_at hl 4 rfl) ?_
            refine r_lt (a := sFr σ (2 * (sNx σ g k))) (b := sFB σ (sCnt σ) / sCnt σ) (tgt := 76) hx hb d_GB_leastFolders_69 (by decide) (by omega) (by omega) (fun h3 => ?_) (fun h3 => ?_)
            · have hp : pLeast σ (sNx σ g k) = false := by unfold pLeast; rw [decide_eq_false (Nat.not_le.mpr h3), Bool.and_false]
              refine lv_iconst (v := bI false) hx hb d_GB_leastFolders_76 (by decide) ?_
              refine lv_istore (lv' := [(7, .int (bI false)), (6, .ref (ad (2 + (sNx σ g k)))), (0, .ref (ad 0)), (1, .ref (ad (2 + g))), (2, .int (nI (Nat.max 1 (sFF σ (sCnt σ) / sCnt σ)))), (3, .int (nI (sFB σ (sCnt σ) / sCnt σ))), (4, .null), (5, .int (nI k))]) hx hb d_GB_leastFolders_77 hl (by decide) rfl (fun ls hl => ?_)
              refine lv_iload hx hb d_GB_leastFolders_79 (lv_at hl 0 rfl) ?_
              refine r_bz (b := false) (tgt := 106) hx hb d_GB_leastFolders_81 (by decide) (fun h9 => ?_) (fun h9 => ?_)
              · refine lv_iinc (v := nI (k + 1)) (lv' := [(5, .int (nI (k + 1))), (7, .int (bI false)), (6, .ref (ad (2 + (sNx σ g k)))), (0, .ref (ad 0)), (1, .ref (ad (2 + g))), (2, .int (nI (Nat.max 1 (sFF σ (sCnt σ) / sCnt σ)))), (3, .int (nI (sFB σ (sCnt σ) / sCnt σ))), (4, .null)]) hx hb d_GB_leastFolders_106 hl (k := 7) rfl (nI_1 _) (by decide) rfl (fun ls hl => ?_)
                refine lv_goto (tgt := 30) hx hb d_GB_leastFolders_109 (by decide) ?_
                exact ih (k + 1) none (by omega) (by omega) (by rw [es, sLeastN, hp]; rfl) _ _ _ hI (lv_sub hl [3, 4, 5, 6, 7, 0] rfl)
              · exact absurd h9 (by decide)
            · have hp : pLeast σ (sNx σ g k) = true := by unfold pLeast; rw [decide_eq_true h2, decide_eq_true h3]; rfl
              refine lv_iconst (v := bI true) hx hb d_GB_leastFolders_72 (by decide) ?_
              refine lv_goto (tgt := 77) hx hb d_GB_leastFolders_73 (by decide) ?_
              refine lv_istore (lv' := [(7, .int (bI true)), (6, .ref (ad (2 + (sNx σ g k)))), (0, .ref (ad 0)), (1, .ref (ad (2 + g))), (2, .int (nI (Nat.max 1 (sFF σ (sCnt σ) / sCnt σ)))), (3, .int (nI (sFB σ (sCnt σ) / sCnt σ))), (4, .null), (5, .int (nI k))]) hx hb d_GB_leastFolders_77 hl (by decide) rfl (fun ls hl => ?_)
              refine lv_iload hx hb d_GB_leastFolders_79 (lv_at hl 0 rfl) ?_
              refine r_bz (b := true) (tgt := 106) hx hb d_GB_leastFolders_81 (by decide) (fun h9 => ?_) (fun h9 => ?_)
              · exact absurd h9 (by decide)
              · refine lv_aloadN hx hb d_GB_leastFolders_84 (lv_at hl 6 rfl) ?_
                refine lv_ifnullN (tgt := 102) hx hb d_GB_leastFolders_86 (by decide) ?_
                refine lv_aload hx hb d_GB_leastFolders_102 (lv_at hl 1 rfl) ?_
                refine lv_astore (lv' := [(4, .ref (ad (2 + (sNx σ g k)))), (7, .int (bI true)), (6, .ref (ad (2 + (sNx σ g k)))), (0, .ref (ad 0)), (1, .ref (ad (2 + g))), (2, .int (nI (Nat.max 1 (sFF σ (sCnt σ) / sCnt σ)))), (3, .int (nI (sFB σ (sCnt σ) / sCnt σ))), (5, .int (nI k))]) hx hb d_GB_leastFolders_104 hl (by decide) rfl (fun ls hl => ?_)
                refine lv_iinc (v := nI (k + 1)) (lv' := [(5, .int (nI (k + 1))), (4, .ref (ad (2 + (sNx σ g k)))), (7, .int (bI true)), (6, .ref (ad (2 + (sNx σ g k)))), (0, .ref (ad 0)), (1, .ref (ad (2 + g))), (2, .int (nI (Nat.max 1 (sFF σ (sCnt σ) / sCnt σ)))), (3, .int (nI (sFB σ (sCnt σ) / sCnt σ)))]) hx hb d_GB_leastFolders_106 hl (k := 7) rfl (nI_1 _) (by decide) rfl (fun ls hl => ?_)
                refine lv_goto (tgt := 30) hx hb d_GB_leastFolders_109 (by decide) ?_
                exact ih (k + 1) (some (sNx σ g k)) (by omega) (by omega) (by rw [es, sLeastN, hp]; rfl) _ _ _ hI (lv_sub hl [4, 5, 6, 7, 1, 0] rfl)
        · have hl : lv_has ls 8 [(0, .ref (ad 0)), (1, .ref (ad (2 + g))), (2, .int (nI (Nat.max 1 (sFF σ (sCnt σ) / sCnt σ)))), (3, .int (nI (sFB σ (sCnt σ) / sCnt σ))), (4, .ref (ad (2 + y))), (5, .int (nI k))] := hl
          refine lv_aload_n hx hb d_GB_leastFolders_39 rfl (lv_at hl 0 rfl) ?_
          refine lv_aload_n hx hb d_GB_leastFolders_40 rfl (lv_at hl 1 rfl) ?_
          refine lv_iload hx hb d_GB_leastFolders_41 (lv_at hl 5 rfl) ?_
          refine g_callV (own := "GroupBitmaps") (C := "GroupBitmaps") (T := F_GB) (N := 5) (k := 2) (q0 := 0) (ci := 0) (a := ad 0) (As := [.ref (ad (2 + g)), .int (nI k)]) (rest := []) (c_GB_groupBehind σ hσ g k hg4 (by omega)) hx hb hml hown hg hK hI hA kw_276 kw_278 kp_9 kw_1 kw_279 ky_GB_groupBehind ⟨Nat.le_of_ble_eq_true rfl, Nat.le_of_ble_eq_true rfl⟩ rfl rfl (wd_GB) rfl rfl hl.1 (Nat.le_of_ble_eq_true rfl) ⟨Nat.zero_le _, Nat.zero_le _⟩ d_GB_leastFolders_43 rfl rfl (fun H locs hI => ?_)
          have hq1 := sNx_lt hσ g k
          have hr1 : 2 * (sNx σ g k) < 8 := by omega
          have hs1 : 2 * (sNx σ g k) + 1 < 8 := by omega
          have hfb := (hσ.2.2.2.1 _ hs1).2
          have hfb2 := (hσ.2.2.2.1 _ hr1).2
          have hfdx := hσ.2.2.2.2 _ hq1
          have es : sLeast σ g (k + 1) = sLeastN σ (some y) (sNx σ g k) := by rw [ho]; rfl
          refine lv_astore (lv' := [(6, .ref (ad (2 + (sNx σ g k)))), (0, .ref (ad 0)), (1, .ref (ad (2 + g))), (2, .int (nI (Nat.max 1 (sFF σ (sCnt σ) / sCnt σ)))), (3, .int (nI (sFB σ (sCnt σ) / sCnt σ))), (4, .ref (ad (2 + y))), (5, .int (nI k))]) hx hb d_GB_leastFolders_46 hl (by decide) rfl (fun ls hl => ?_)
          refine lv_aload hx hb d_GB_leastFolders_48 (lv_at hl 0 rfl) ?_
          refine g_getN (own := "GroupBitmaps") (C := R_GR) (T := F_GR) (N := 6) (ci := 1) (v := .ref (ad (6 + (2 * (sNx σ g k) + 1)))) hx hb hg ku_GR hown hK hI (2 + (sNx σ g k)) (wd_GR hq1) rfl 4 (by decide) kw_63 rfl d_GB_leastFolders_50 ?_
          refine g_getN (own := "GroupBitmaps") (C := R_BM) (T := F_BM) (N := 5) (ci := 2) (v := .int (nI (sFr σ (2 * (sNx σ g k) + 1)))) hx hb hg ku_BM hown hK hI (6 + (2 * (sNx σ g k) + 1)) (wd_BM hs1) rfl 3 (by decide) kw_40 rfl d_GB_leastFolders_53 ?_
          refine lv_iload_n hx hb d_GB_leastFolders_56 rfl (lv_at hl 3 rfl) ?_
          refine r_lt (a := sFr σ (2 * (sNx σ g k) + 1)) (b := Nat.max 1 (sFF σ (sCnt σ) / sCnt σ)) (tgt := 76) hx hb d_GB_leastFolders_57 (by decide) (by omega) (by omega) (fun h2 => ?_) (fun h2 => ?_)
          · have hp : pLeast σ (sNx σ g k) = false := by unfold pLeast; rw [decide_eq_false (Nat.not_le.mpr h2), Bool.false_and]
            refine lv_iconst (v := bI false) hx hb d_GB_leastFolders_76 (by decide) ?_
            refine lv_istore (lv' := [(7, .int (bI false)), (6, .ref (ad (2 + (sNx σ g k)))), (0, .ref (ad 0)), (1, .ref (ad (2 + g))), (2, .int (nI (Nat.max 1 (sFF σ (sCnt σ) / sCnt σ)))), (3, .int (nI (sFB σ (sCnt σ) / sCnt σ))), (4, .ref (ad (2 + y))), (5, .int (nI k))]) hx hb d_GB_leastFolders_77 hl (by decide) rfl (fun ls hl => ?_)
            refine lv_iload hx hb d_GB_leastFolders_79 (lv_at hl 0 rfl) ?_
            refine r_bz (b := false) (tgt := 106) hx hb d_GB_leastFolders_81 (by decide) (fun h9 => ?_) (fun h9 => ?_)
            · refine lv_iinc (v := nI (k + 1)) (lv' := [(5, .int (nI (k + 1))), (7, .int (bI false)), (6, .ref (ad (2 + (sNx σ g k)))), (0, .ref (ad 0)), (1, .ref (ad (2 + g))), (2, .int (nI (Nat.max 1 (sFF σ (sCnt σ) / sCnt σ)))), (3, .int (nI (sFB σ (sCnt σ) / sCnt σ))), (4, .ref (ad (2 + y)))]) hx hb d_GB_leastFolders_106 hl (k := 7) rfl (nI_1 _) (by decide) rfl (fun ls hl => ?_)
              refine lv_goto (tgt := 30) hx hb d_GB_leastFolders_109 (by decide) ?_
              exact ih (k + 1) (some y) (by omega) (by omega) (by rw [es, sLeastN, hp]; rfl) _ _ _ hI (lv_sub hl [3, 4, 5, 6, 7, 0] rfl)
            · exact absurd h9 (by decide)
          · refine lv_aload hx hb d_GB_leastFolders_60 (lv_at hl 0 rfl) ?_
            refine g_getN (own := "GroupBitmaps") (C := R_GR) (T := F_GR) (N := 6) (ci := 1) (v := .ref (ad (6 + (2 * (sNx σ g k))))) hx hb hg ku_GR hown hK hI (2 + (sNx σ g k)) (wd_GR hq1) rfl 3 (by decide) kw_61 rfl d_GB_leastFolders_62 ?_
            refine g_getN (own := "GroupBitmaps") (C := R_BM) (T := F_BM) (N := 5) (ci := 2) (v := .int (nI (sFr σ (2 * (sNx σ g k))))) hx hb hg ku_BM hown hK hI (6 + (2 * (sNx σ g k))) (wd_BM hr1) rfl 3 (by decide) kw_40 rfl d_GB_leastFolders_65 ?_
            refine lv_iload_n hx hb d_GB_leastFolders_68 rfl (lv_at hl 4 rfl) ?_
            refine r_lt (a := sFr σ (2 * (sNx σ g k))) (b := sFB σ (sCnt σ) / sCnt σ) (tgt := 76) hx hb d_GB_leastFolders_69 (by decide) (by omega) (by omega) (fun h3 => ?_) (fun h3 => ?_)
            · have hp : pLeast σ (sNx σ g k) = false := by unfold pLeast; rw [decide_eq_false (Nat.not_le.mpr h3), Bool.and_false]
              refine lv_iconst (v := bI false) hx hb d_GB_leastFolders_76 (by decide) ?_
              refine lv_istore (lv' := [(7, .int (bI false)), (6, .ref (ad (2 + (sNx σ g k)))), (0, .ref (ad 0)), (1, .ref (ad (2 + g))), (2, .int (nI (Nat.max 1 (sFF σ (sCnt σ) / sCnt σ)))), (3, .int (nI (sFB σ (sCnt σ) / sCnt σ))), (4, .ref (ad (2 + y))), (5, .int (nI k))]) hx hb d_GB_leastFolders_77 hl (by decide) rfl (fun ls hl => ?_)
              refine lv_iload hx hb d_GB_leastFolders_79 (lv_at hl 0 rfl) ?_
              refine r_bz (b := false) (tgt := 106) hx hb d_GB_leastFolders_81 (by decide) (fun h9 => ?_) (fun h9 => ?_)
              · refine lv_iinc (v := nI (k + 1)) (lv' := [(5, .int (nI (k + 1))), (7, .int (bI false)), (6, .ref (ad (2 + (sNx σ g k)))), (0, .ref (ad 0)), (1, .ref (ad (2 + g))), (2, .int (nI (Nat.max 1 (sFF σ (sCnt σ) / sCnt σ)))), (3, .int (nI (sFB σ (sCnt σ) / sCnt σ))), (4, .ref (ad (2 + y)))]) hx hb d_GB_leastFolders_106 hl (k := 7) rfl (nI_1 _) (by decide) rfl (fun ls hl => ?_)
                refine lv_goto (tgt := 30) hx hb d_GB_leastFolders_109 (by decide) ?_
                exact ih (k + 1) (some y) (by omega) (by omega) (by rw [es, sLeastN, hp]; rfl) _ _ _ hI (lv_sub hl [3, 4, 5, 6, 7, 0] rfl)
              · exact absurd h9 (by decide)
            · have hp : pLeast σ (sNx σ g k) = true := by unfold pLeast; rw [decide_eq_true h2, decide_eq_true h3]; rfl
              refine lv_iconst (v := bI true) hx hb d_GB_leastFolders_72 (by decide) ?_
              refine lv_goto (tgt := 77) hx hb d_GB_leastFolders_73 (by decide) ?_
              refine lv_istore (lv' := [(7, .int (bI true)), (6, .ref (ad (2 + (sNx σ g k)))), (0, .ref (ad 0)), (1, .ref (ad (2 + g))), (2, .int (nI (Nat.max 1 (sFF σ (sCnt σ) / sCnt σ)))), (3, .int (nI (sFB σ (sCnt σ) / sCnt σ))), (4, .ref (ad (2 + y))), (5, .int (nI k))]) hx hb d_GB_leastFolders_77 hl (by decide) rfl (fun ls hl => ?_)
              refine lv_iload hx hb d_GB_leastFolders_79 (lv_at hl 0 rfl) ?_
              refine r_bz (b := true) (tgt := 106) hx hb d_GB_leastFolders_81 (by decide) (fun h9 => ?_) (fun h9 => ?_)
              · exact absurd h9 (by decide)
              · have hy4 := sLeast_lt hσ ho.symm
                have hq2 := hy4
                have hr2 : 2 * y < 8 := by omega
                have hs2 : 2 * y + 1 < 8 := by omega
                have hfdy := hσ.2.2.2.2 _ hy4
                refine lv_aload hx hb d_GB_leastFolders_84 (lv_at hl 6 rfl) ?_
                refine lv_ifnull hx hb d_GB_leastFolders_86 ?_
                refine lv_aload hx hb d_GB_leastFolders_89 (lv_at hl 1 rfl) ?_
                refine g_getN (own := "GroupBitmaps") (C := R_GR) (T := F_GR) (N := 6) (ci := 1) (v := .int (nI (sFd σ (sNx σ g k)))) hx hb hg ku_GR hown hK hI (2 + (sNx σ g k)) (wd_GR hq1) rfl 5 (by decide) kw_65 rfl d_GB_leastFolders_91 ?_
                refine lv_aload hx hb d_GB_leastFolders_94 (lv_at hl 6 rfl) ?_
                refine g_getN (own := "GroupBitmaps") (C := R_GR) (T := F_GR) (N := 6) (ci := 1) (v := .int (nI (sFd σ y))) hx hb hg ku_GR hown hK hI (2 + y) (wd_GR hq2) rfl 5 (by decide) kw_65 rfl d_GB_leastFolders_96 ?_
                refine r_ge (a := sFd σ (sNx σ g k)) (b := sFd σ y) (tgt := 106) hx hb d_GB_leastFolders_99 (by decide) (by omega) (by omega) (fun h4 => ?_) (fun h4 => ?_)
                · refine lv_iinc (v := nI (k + 1)) (lv' := [(5, .int (nI (k + 1))), (7, .int (bI true)), (6, .ref (ad (2 + (sNx σ g k)))), (0, .ref (ad 0)), (1, .ref (ad (2 + g))), (2, .int (nI (Nat.max 1 (sFF σ (sCnt σ) / sCnt σ)))), (3, .int (nI (sFB σ (sCnt σ) / sCnt σ))), (4, .ref (ad (2 + y)))]) hx hb d_GB_leastFolders_106 hl (k := 7) rfl (nI_1 _) (by decide) rfl (fun ls hl => ?_)
                  refine lv_goto (tgt := 30) hx hb d_GB_leastFolders_109 (by decide) ?_
                  exact ih (k + 1) (some y) (by omega) (by omega) (by rw [es, sLeastN, if_pos hp]; exact (if_neg (Nat.not_lt.mpr h4)).symm) _ _ _ hI (lv_sub hl [3, 4, 5, 6, 7, 0] rfl)
                · refine lv_aload hx hb d_GB_leastFolders_102 (lv_at hl 1 rfl) ?_
                  refine lv_astore (lv' := [(4, .ref (ad (2 + (sNx σ g k)))), (7, .int (bI true)), (6, .ref (ad (2 + (sNx σ g k)))), (0, .ref (ad 0)), (1, .ref (ad (2 + g))), (2, .int (nI (Nat.max 1 (sFF σ (sCnt σ) / sCnt σ)))), (3, .int (nI (sFB σ (sCnt σ) / sCnt σ))), (5, .int (nI k))]) hx hb d_GB_leastFolders_104 hl (by decide) rfl (fun ls hl => ?_)
                  refine lv_iinc (v := nI (k + 1)) (lv' := [(5, .int (nI (k + 1))), (4, .ref (ad (2 + (sNx σ g k)))), (7, .int (bI true)), (6, .ref (ad (2 + (sNx σ g k)))), (0, .ref (ad 0)), (1, .ref (ad (2 + g))), (2, .int (nI (Nat.max 1 (sFF σ (sCnt σ) / sCnt σ)))), (3, .int (nI (sFB σ (sCnt σ) / sCnt σ)))]) hx hb d_GB_leastFolders_106 hl (k := 7) rfl (nI_1 _) (by decide) rfl (fun ls hl => ?_)
                  refine lv_goto (tgt := 30) hx hb d_GB_leastFolders_109 (by decide) ?_
                  exact ih (k + 1) (some (sNx σ g k)) (by omega) (by omega) (by rw [es, sLeastN, if_pos hp]; exact (if_pos h4).symm) _ _ _ hI (lv_sub hl [4, 5, 6, 7, 1, 0] rfl)
  exact loop (sCnt σ + 1) 0 none (by omega) (Nat.zero_le _) rfl _ _ _ hI (lv_sub hl [4, 5, 3, 2, 1, 0] rfl)
set_option maxHeartbeats 4000000 in
set_option maxRecDepth 100000 in
theorem c_GB_groupForFolder {l : Launch} {D : va_G} {cG cZ cI cJ : ClassId} {ad : Nat → Nat} (σ : gS) (hσ : sB σ) (f : Nat) (hf1 : 1 ≤ f) (hf : f ≤ 512) : gMet l D (gT cG cZ cI cJ) y_GB_groupForFolder b_GB_groupForFolder 4 (some (.object "GroupBitmaps$Group")) ({ frames := 2, cells := 0, slots := 0, locals := 49 }) (wd ad cG cZ σ) [.ref (ad 0), .int (nI f)] (wd ad cG cZ σ) (some (gR ad (sFolder σ f))) := by
  refine gMet_of (by decide) (Nat.le_of_ble_eq_true rfl) ?_
  intro p e s m below meth c A ls hC hA hI hl
  obtain ⟨hx, hb, hr, hlk, hown, hml, hg, hK⟩ := hC
  have hown : s.vm.findClass "GroupBitmaps" = some m.cls := hown
  have hl : lv_has ls 4 [(0, .ref (ad 0)), (1, .int (nI f))] := hl
  have hc1 := hσ.1
  have hc2 := hσ.2.1
  have hg4 : (f - 1) / 128 < 4 := by omega
  refine lv_aload_n hx hb d_GB_groupForFolder_0 rfl (lv_at hl 0 rfl) ?_
  refine lv_iload_n hx hb d_GB_groupForFolder_1 rfl (lv_at hl 1 rfl) ?_
  refine g_callV (own := "GroupBitmaps") (C := "GroupBitmaps") (T := F_GB) (N := 5) (k := 1) (q0 := 0) (ci := 0) (a := ad 0) (As := [.int (nI f)]) (rest := []) (c_GB_groupOfFile σ f hf hf1) hx hb hml hown hg hK hI hA kw_328 kw_330 kp_14 kw_1 kw_331 ky_GB_groupOfFile ⟨Nat.le_of_ble_eq_true rfl, Nat.le_of_ble_eq_true rfl⟩ rfl rfl (wd_GB) rfl rfl hl.1 (Nat.le_of_ble_eq_true rfl) ⟨Nat.zero_le _, Nat.zero_le _⟩ d_GB_groupForFolder_2 rfl rfl (fun H locs hI => ?_)
  refine lv_astore_n (lv' := [(2, .ref (ad (2 + ((f - 1) / 128)))), (0, .ref (ad 0)), (1, .int (nI f))]) hx hb d_GB_groupForFolder_5 rfl hl (by decide) rfl (fun ls hl => ?_)
  refine lv_iload_n hx hb d_GB_groupForFolder_6 rfl (lv_at hl 2 rfl) ?_
  refine lv_iconst (v := nI 2) hx hb d_GB_groupForFolder_7 (by decide) ?_
  refine r_ne (a := f) (b := 2) (tgt := 19) hx hb d_GB_groupForFolder_8 (by decide) (by omega) (by omega) (fun h => ?_) (fun h => ?_)
  · refine lv_null hx hb d_GB_groupForFolder_19 ?_
    refine lv_astore_nN (lv' := [(3, .null), (2, .ref (ad (2 + ((f - 1) / 128)))), (0, .ref (ad 0)), (1, .int (nI f))]) hx hb d_GB_groupForFolder_20 rfl hl (by decide) rfl (fun ls hl => ?_)
    refine lv_aload_nN hx hb d_GB_groupForFolder_21 rfl (lv_at hl 0 rfl) ?_
    refine lv_ifnonnullN hx hb d_GB_groupForFolder_22 ?_
    refine lv_aload_n hx hb d_GB_groupForFolder_25 rfl (lv_at hl 2 rfl) ?_
    refine lv_aload_n hx hb d_GB_groupForFolder_26 rfl (lv_at hl 1 rfl) ?_
    refine g_callV (own := "GroupBitmaps") (C := "GroupBitmaps") (T := F_GB) (N := 5) (k := 1) (q0 := 0) (ci := 0) (a := ad 0) (As := [.ref (ad (2 + ((f - 1) / 128)))]) (rest := []) (c_GB_firstWithRoom σ hσ ((f - 1) / 128) hg4) hx hb hml hown hg hK hI hA kw_340 kw_342 kp_17 kw_1 kw_343 ky_GB_firstWithRoom ⟨Nat.le_of_ble_eq_true rfl, Nat.le_of_ble_eq_true rfl⟩ rfl rfl (wd_GB) rfl rfl hl.1 (Nat.le_of_ble_eq_true rfl) ⟨Nat.zero_le _, Nat.zero_le _⟩ d_GB_groupForFolder_27 rfl rfl (fun H locs hI => ?_)
    rcases h5 : sFst σ ((f - 1) / 128) (pRoom σ) (sCnt σ) with _ | z
    · refine lv_astore_nN (lv' := [(3, .null), (2, .ref (ad (2 + ((f - 1) / 128)))), (0, .ref (ad 0)), (1, .int (nI f))]) hx hb d_GB_groupForFolder_30 rfl hl (by decide) rfl (fun ls hl => ?_)
      refine lv_aload_nN hx hb d_GB_groupForFolder_31 rfl (lv_at hl 0 rfl) ?_
      refine lv_ifnonnullN hx hb d_GB_groupForFolder_32 ?_
      refine lv_aload_n hx hb d_GB_groupForFolder_35 rfl (lv_at hl 2 rfl) ?_
      refine lv_aload_n hx hb d_GB_groupForFolder_36 rfl (lv_at hl 1 rfl) ?_
      refine g_callV (own := "GroupBitmaps") (C := "GroupBitmaps") (T := F_GB) (N := 5) (k := 1) (q0 := 0) (ci := 0) (a := ad 0) (As := [.ref (ad (2 + ((f - 1) / 128)))]) (rest := []) (c_GB_firstWithFile σ hσ ((f - 1) / 128) hg4) hx hb hml hown hg hK hI hA kw_348 kw_350 kp_18 kw_1 kw_351 ky_GB_firstWithFile ⟨Nat.le_of_ble_eq_true rfl, Nat.le_of_ble_eq_true rfl⟩ rfl rfl (wd_GB) rfl rfl hl.1 (Nat.le_of_ble_eq_true rfl) ⟨Nat.zero_le _, Nat.zero_le _⟩ d_GB_groupForFolder_37 rfl rfl (fun H locs hI => ?_)
      rcases h6 : sFst σ ((f - 1) / 128) (pFile σ) (sCnt σ) with _ | z
      · refine lv_goto (tgt := 44) hx hb d_GB_groupForFolder_40 (by decide) ?_
        exact g_ra hx hb hr hlk (Or.inl rfl) hI (by rw [sFolder, if_neg h]; dsimp only; rw [h5, h6]) d_GB_groupForFolder_44
      · refine lv_goto (tgt := 44) hx hb d_GB_groupForFolder_40 (by decide) ?_
        exact g_ra hx hb hr hlk (Or.inr ⟨_, rfl⟩) hI (by rw [sFolder, if_neg h]; dsimp only; rw [h5, h6]) d_GB_groupForFolder_44
    · refine lv_astore_n (lv' := [(3, .ref (ad (2 + z))), (2, .ref (ad (2 + ((f - 1) / 128)))), (0, .ref (ad 0)), (1, .int (nI f))]) hx hb d_GB_groupForFolder_30 rfl hl (by decide) rfl (fun ls hl => ?_)
      refine lv_aload_n hx hb d_GB_groupForFolder_31 rfl (lv_at hl 0 rfl) ?_
      refine lv_ifnonnull (tgt := 43) hx hb d_GB_groupForFolder_32 (by decide) ?_
      refine lv_aload_n hx hb d_GB_groupForFolder_43 rfl (lv_at hl 0 rfl) ?_
      exact g_ra hx hb hr hlk (Or.inr ⟨_, rfl⟩) hI (by rw [sFolder, if_neg h]; dsimp only; rw [h5]; rfl) d_GB_groupForFolder_44
  · refine lv_aload_n hx hb d_GB_groupForFolder_11 rfl (lv_at hl 1 rfl) ?_
    refine lv_aload_n hx hb d_GB_groupForFolder_12 rfl (lv_at hl 0 rfl) ?_
    refine g_callV (own := "GroupBitmaps") (C := "GroupBitmaps") (T := F_GB) (N := 5) (k := 1) (q0 := 0) (ci := 0) (a := ad 0) (As := [.ref (ad (2 + ((f - 1) / 128)))]) (rest := []) (c_GB_leastFolders σ hσ ((f - 1) / 128) hg4) hx hb hml hown hg hK hI hA kw_332 kw_334 kp_15 kw_1 kw_335 ky_GB_leastFolders ⟨Nat.le_of_ble_eq_true rfl, Nat.le_of_ble_eq_true rfl⟩ rfl rfl (wd_GB) rfl rfl hl.1 (Nat.le_of_ble_eq_true rfl) ⟨Nat.zero_le _, Nat.zero_le _⟩ d_GB_groupForFolder_13 rfl rfl (fun H locs hI => ?_)
    rcases h3 : sLeast σ ((f - 1) / 128) (sCnt σ) with _ | y
    · refine lv_goto (tgt := 20) hx hb d_GB_groupForFolder_16 (by decide) ?_
      refine lv_astore_nN (lv' := [(3, .null), (2, .ref (ad (2 + ((f - 1) / 128)))), (0, .ref (ad 0)), (1, .int (nI f))]) hx hb d_GB_groupForFolder_20 rfl hl (by decide) rfl (fun ls hl => ?_)
      refine lv_aload_nN hx hb d_GB_groupForFolder_21 rfl (lv_at hl 0 rfl) ?_
      refine lv_ifnonnullN hx hb d_GB_groupForFolder_22 ?_
      refine lv_aload_n hx hb d_GB_groupForFolder_25 rfl (lv_at hl 2 rfl) ?_
      refine lv_aload_n hx hb d_GB_groupForFolder_26 rfl (lv_at hl 1 rfl) ?_
      refine g_callV (own := "GroupBitmaps") (C := "GroupBitmaps") (T := F_GB) (N := 5) (k := 1) (q0 := 0) (ci := 0) (a := ad 0) (As := [.ref (ad (2 + ((f - 1) / 128)))]) (rest := []) (c_GB_firstWithRoom σ hσ ((f - 1) / 128) hg4) hx hb hml hown hg hK hI hA kw_340 kw_342 kp_17 kw_1 kw_343 ky_GB_firstWithRoom ⟨Nat.le_of_ble_eq_true rfl, Nat.le_of_ble_eq_true rfl⟩ rfl rfl (wd_GB) rfl rfl hl.1 (Nat.le_of_ble_eq_true rfl) ⟨Nat.zero_le _, Nat.zero_le _⟩ d_GB_groupForFolder_27 rfl rfl (fun H locs hI => ?_)
      rcases h5 : sFst σ ((f - 1) / 128) (pRoom σ) (sCnt σ) with _ | z
      · refine lv_astore_nN (lv' := [(3, .null), (2, .ref (ad (2 + ((f - 1) / 128)))), (0, .ref (ad 0)), (1, .int (nI f))]) hx hb d_GB_groupForFolder_30 rfl hl (by decide) rfl (fun ls hl => ?_)
        refine lv_aload_nN hx hb d_GB_groupForFolder_31 rfl (lv_at hl 0 rfl) ?_
        refine lv_ifnonnullN hx hb d_GB_groupForFolder_32 ?_
        refine lv_aload_n hx hb d_GB_groupForFolder_35 rfl (lv_at hl 2 rfl) ?_
        refine lv_aload_n hx hb d_GB_groupForFolder_36 rfl (lv_at hl 1 rfl) ?_
        refine g_callV (own := "GroupBitmaps") (C := "GroupBitmaps") (T := F_GB) (N := 5) (k := 1) (q0 := 0) (ci := 0) (a := ad 0) (As := [.ref (ad (2 + ((f - 1) / 128)))]) (rest := []) (c_GB_firstWithFile σ hσ ((f - 1) / 128) hg4) hx hb hml hown hg hK hI hA kw_348 kw_350 kp_18 kw_1 kw_351 ky_GB_firstWithFile ⟨Nat.le_of_ble_eq_true rfl, Nat.le_of_ble_eq_true rfl⟩ rfl rfl (wd_GB) rfl rfl hl.1 (Nat.le_of_ble_eq_true rfl) ⟨Nat.zero_le _, Nat.zero_le _⟩ d_GB_groupForFolder_37 rfl rfl (fun H locs hI => ?_)
        rcases h6 : sFst σ ((f - 1) / 128) (pFile σ) (sCnt σ) with _ | z
        · refine lv_goto (tgt := 44) hx hb d_GB_groupForFolder_40 (by decide) ?_
          exact g_ra hx hb hr hlk (Or.inl rfl) hI (by rw [sFolder, if_pos h, h3]; dsimp only; rw [h5, h6]) d_GB_groupForFolder_44
        · refine lv_goto (tgt := 44) hx hb d_GB_groupForFolder_40 (by decide) ?_
          exact g_ra hx hb hr hlk (Or.inr ⟨_, rfl⟩) hI (by rw [sFolder, if_pos h, h3]; dsimp only; rw [h5, h6]) d_GB_groupForFolder_44
      · refine lv_astore_n (lv' := [(3, .ref (ad (2 + z))), (2, .ref (ad (2 + ((f - 1) / 128)))), (0, .ref (ad 0)), (1, .int (nI f))]) hx hb d_GB_groupForFolder_30 rfl hl (by decide) rfl (fun ls hl => ?_)
        refine lv_aload_n hx hb d_GB_groupForFolder_31 rfl (lv_at hl 0 rfl) ?_
        refine lv_ifnonnull (tgt := 43) hx hb d_GB_groupForFolder_32 (by decide) ?_
        refine lv_aload_n hx hb d_GB_groupForFolder_43 rfl (lv_at hl 0 rfl) ?_
        exact g_ra hx hb hr hlk (Or.inr ⟨_, rfl⟩) hI (by rw [sFolder, if_pos h, h3]; dsimp only; rw [h5]; rfl) d_GB_groupForFolder_44
    · refine lv_goto (tgt := 20) hx hb d_GB_groupForFolder_16 (by decide) ?_
      refine lv_astore_n (lv' := [(3, .ref (ad (2 + y))), (2, .ref (ad (2 + ((f - 1) / 128)))), (0, .ref (ad 0)), (1, .int (nI f))]) hx hb d_GB_groupForFolder_20 rfl hl (by decide) rfl (fun ls hl => ?_)
      refine lv_aload_n hx hb d_GB_groupForFolder_21 rfl (lv_at hl 0 rfl) ?_
      refine lv_ifnonnull (tgt := 31) hx hb d_GB_groupForFolder_22 (by decide) ?_
      refine lv_aload_n hx hb d_GB_groupForFolder_31 rfl (lv_at hl 0 rfl) ?_
      refine lv_ifnonnull (tgt := 43) hx hb d_GB_groupForFolder_32 (by decide) ?_
      refine lv_aload_n hx hb d_GB_groupForFolder_43 rfl (lv_at hl 0 rfl) ?_
      exact g_ra hx hb hr hlk (Or.inr ⟨_, rfl⟩) hI (by rw [sFolder, if_pos h, h3]; rfl) d_GB_groupForFolder_44
set_option maxHeartbeats 4000000 in
set_option maxRecDepth 100000 in
theorem c_GB_tableByte {l : Launch} {D : va_G} {cG cZ cI cJ : ClassId} {ad : Nat → Nat} (σ : gS) (hσ : sB σ) (t : Nat) (ht : t < 4096) : gMet l D (gT cG cZ cI cJ) y_GB_tableByte b_GB_tableByte 3 (some .int) ({ frames := 2, cells := 0, slots := 0, locals := 42 }) (wd ad cG cZ σ) [.ref (ad 0), .int (nI t)] (wd ad cG cZ σ) (some (.int (nI (sTb σ t)))) := by
  refine gMet_of (by decide) (Nat.le_of_ble_eq_true rfl) ?_
  intro p e s m below meth c A ls hC hA hI hl
  obtain ⟨hx, hb, hr, hlk, hown, hml, hg, hK⟩ := hC
  have hown : s.vm.findClass "GroupBitmaps" = some m.cls := hown
  have hl : lv_has ls 3 [(0, .ref (ad 0)), (1, .int (nI t))] := hl
  have hc1 := hσ.1
  have hc2 := hσ.2.1
  refine lv_iload_n hx hb d_GB_tableByte_0 rfl (lv_at hl 1 rfl) ?_
  refine lv_bipush (v := nI 32) hx hb d_GB_tableByte_1 (by decide) ?_
  refine r_idiv (a := t) (b := 32) hx hb (by omega) (by omega) (by omega) d_GB_tableByte_3 ?_
  refine lv_istore_n (lv' := [(2, .int (nI (t / 32))), (0, .ref (ad 0)), (1, .int (nI t))]) hx hb d_GB_tableByte_4 rfl hl (by decide) rfl (fun ls hl => ?_)
  refine lv_iload_n hx hb d_GB_tableByte_5 rfl (lv_at hl 0 rfl) ?_
  refine lv_aload_n hx hb d_GB_tableByte_6 rfl (lv_at hl 1 rfl) ?_
  refine g_get (own := "GroupBitmaps") (C := R_GB) (T := F_GB) (N := 5) (ci := 0) (v := .int (nI (sCnt σ))) hx hb hg ku_GB hown hK hI (0) (wd_GB) rfl 1 (by decide) kw_92 rfl d_GB_tableByte_7 ?_
  refine r_ge (a := t / 32) (b := sCnt σ) (tgt := 29) hx hb d_GB_tableByte_10 (by decide) (by omega) (by omega) (fun h => ?_) (fun h => ?_)
  · refine lv_iconst (v := nI 0) hx hb d_GB_tableByte_29 (by decide) ?_
    exact g_ri hx hb hr hlk hI (by rw [sTb, if_neg (Nat.not_lt.mpr h)]) d_GB_tableByte_30
  · refine lv_aload_n hx hb d_GB_tableByte_13 rfl (lv_at hl 1 rfl) ?_
    refine g_get (own := "GroupBitmaps") (C := R_GB) (T := F_GB) (N := 5) (ci := 0) (v := .ref (ad 1)) hx hb hg ku_GB hown hK hI (0) (wd_GB) rfl 0 (by decide) kw_91 rfl d_GB_tableByte_14 ?_
    refine lv_iload_n hx hb d_GB_tableByte_17 rfl (lv_at hl 0 rfl) ?_
    refine g_aldq (r := ad (2 + (t / 32))) (i := t / 32) hx hb hK hI (1) 0 (wd_GA) rfl (by omega) (by decide) rfl d_GB_tableByte_18 ?_
    have hq0 := show t / 32 < 4 by omega
    have hr0 : 2 * (t / 32) < 8 := by omega
    have hs0 : 2 * (t / 32) + 1 < 8 := by omega
    refine lv_iload_n hx hb d_GB_tableByte_19 rfl (lv_at hl 2 rfl) ?_
    refine lv_bipush (v := nI 32) hx hb d_GB_tableByte_20 (by decide) ?_
    refine r_irem (a := t) (b := 32) hx hb (by omega) (by omega) (by omega) d_GB_tableByte_22 ?_
    refine g_callV (own := "GroupBitmaps") (C := "GroupBitmaps$Group") (T := F_GR) (N := 6) (k := 1) (q0 := 2 + (t / 32)) (ci := 1) (a := ad (2 + (t / 32))) (As := [.int (nI (t % 32))]) (rest := []) (c_GR_tableByte σ (t / 32) hq0 hσ (t % 32) (by omega)) hx hb hml hown hg hK hI hA kw_428 kw_429 kw_430 kw_2 kw_431 ky_GR_tableByte ⟨Nat.le_of_ble_eq_true rfl, Nat.le_of_ble_eq_true rfl⟩ rfl rfl (wd_GR hq0) rfl rfl hl.1 (Nat.le_of_ble_eq_true rfl) ⟨Nat.zero_le _, Nat.zero_le _⟩ d_GB_tableByte_23 rfl rfl (fun H locs hI => ?_)
    refine lv_goto (tgt := 30) hx hb d_GB_tableByte_26 (by decide) ?_
    exact g_ri hx hb hr hlk hI (by rw [sTb, if_pos h]) d_GB_tableByte_30
set_option maxHeartbeats 4000000 in
set_option maxRecDepth 100000 in
theorem c_GB_taken {l : Launch} {D : va_G} {cG cZ cI cJ : ClassId} {ad : Nat → Nat} (σ : gS)  : gMet l D (gT cG cZ cI cJ) y_GB_taken b_GB_taken 1 (some .int) ({ frames := 0, cells := 0, slots := 0, locals := 0 }) (wd ad cG cZ σ) [.ref (ad 0)] (wd ad cG cZ σ) (some (.int (nI (sLat σ)))) := by
  refine gMet_of (by decide) (Nat.le_of_ble_eq_true rfl) ?_
  intro p e s m below meth c A ls hC hA hI hl
  obtain ⟨hx, hb, hr, hlk, hown, hml, hg, hK⟩ := hC
  have hown : s.vm.findClass "GroupBitmaps" = some m.cls := hown
  have hl : lv_has ls 1 [(0, .ref (ad 0))] := hl
  refine lv_aload_n hx hb d_GB_taken_0 rfl (lv_at hl 0 rfl) ?_
  refine g_get (own := "GroupBitmaps") (C := R_GB) (T := F_GB) (N := 5) (ci := 0) (v := .int (nI (sLat σ))) hx hb hg ku_GB hown hK hI (0) (wd_GB) rfl 3 (by decide) kw_94 rfl d_GB_taken_1 ?_
  exact g_ri hx hb hr hlk hI (rfl) d_GB_taken_4
set_option maxHeartbeats 4000000 in
set_option maxRecDepth 100000 in
theorem c_GB_settle {l : Launch} {D : va_G} {cG cZ cI cJ : ClassId} {ad : Nat → Nat} (σ : gS)  : gMet l D (gT cG cZ cI cJ) y_GB_settle b_GB_settle 3 (some .int) ({ frames := 1, cells := 0, slots := 0, locals := 21 }) (wd ad cG cZ σ) [.ref (ad 0)] (wd ad cG cZ (sStl σ 4)) (some (.int (nI (sSc σ 4)))) := by
  refine gMet_of (by decide) (Nat.le_of_ble_eq_true rfl) ?_
  intro p e s m below meth c A ls hC hA hI hl
  obtain ⟨hx, hb, hr, hlk, hown, hml, hg, hK⟩ := hC
  have hown : s.vm.findClass "GroupBitmaps" = some m.cls := hown
  have hl : lv_has ls 3 [(0, .ref (ad 0))] := hl
  refine lv_aload_n hx hb d_GB_settle_0 rfl (lv_at hl 0 rfl) ?_
  refine g_get (own := "GroupBitmaps") (C := R_GB) (T := F_GB) (N := 5) (ci := 0) (v := .int (bI (sTT σ))) hx hb hg ku_GB hown hK hI (0) (wd_GB) rfl 4 (by decide) kw_95 rfl d_GB_settle_1 ?_
  refine r_bz (b := sTT σ) (tgt := 11) hx hb d_GB_settle_4 (by decide) (fun h => ?_) (fun h => ?_)
  · have e0 : sSc σ 0 = 0 := by rw [sSc, h]; rfl
    refine lv_iconst (v := nI 0) hx hb d_GB_settle_11 (by decide) ?_
    refine lv_istore_n (lv' := [(1, .int (nI 0)), (0, .ref (ad 0))]) hx hb d_GB_settle_12 rfl hl (by decide) rfl (fun ls hl => ?_)
    refine lv_aload_n hx hb d_GB_settle_13 rfl (lv_at hl 1 rfl) ?_
    refine lv_iconst (v := bI false) hx hb d_GB_settle_14 (by decide) ?_
    refine g_put (ws' := (wd ad cG cZ (uTT σ false))) (own := "GroupBitmaps") (C := R_GB) (T := F_GB) (N := 5) (ci := 0) (v := .int (bI false)) hx hb hg ku_GB t_GB t_GB_ok n_GB hown hK hI (0) (wd_GB) rfl 4 (by decide) kw_95 rfl rfl (bI_n _) (bI_fit _) (Nat.le_of_ble_eq_true rfl) (wd_uTT) d_GB_settle_15 (fun H locs hI => ?_)
    refine lv_iconst (v := nI 0) hx hb d_GB_settle_18 (by decide) ?_
    refine lv_istore_n (lv' := [(2, .int (nI 0)), (1, .int (nI 0)), (0, .ref (ad 0))]) hx hb d_GB_settle_19 rfl hl (by decide) rfl (fun ls hl => ?_)
    have loop : ∀ (fuel : Nat) (g : Nat), 5 ≤ fuel + g → (g ≤ 4) → ∀ (H : Heap) (locs : List Loc) (ls : Array Slot), gI D A s.heap (wd ad cG cZ (sStl σ g)) H locs → lv_has ls 3 [(0, .ref (ad 0)), (1, .int (nI (sSc σ g))), (2, .int (nI g))] → W p l e ({ frames := 1, cells := 0, slots := 0, locals := 21 }) s m ([.ref (ad 0)] : List Value).toArray below meth c H locs 0 0 (gQ D below ([.ref (ad 0)] : List Value).toArray s A (wd ad cG cZ (sStl σ 4)) (some (.int (nI (sSc σ 4))))) (F0 m 20 ls []) := by
      intro fuel
      induction fuel with
      | zero => intro g hfu hgl; exact absurd hfu (by omega)
      | succ fuel ih =>
        intro g hfu hgl H locs ls hI hl
        have hsc := sSc_le σ g
        refine lv_iload_n hx hb d_GB_settle_20 rfl (lv_at hl 2 rfl) ?_
        refine lv_iconst (v := nI 4) hx hb d_GB_settle_21 (by decide) ?_
        refine r_ge (a := g) (b := 4) (tgt := 61) hx hb d_GB_settle_22 (by decide) (by omega) (by omega) (fun h2 => ?_) (fun h2 => ?_)
        · obtain rfl : g = 4 := by omega
          refine lv_iload_n hx hb d_GB_settle_61 rfl (lv_at hl 1 rfl) ?_
          exact g_ri hx hb hr hlk hI (rfl) d_GB_settle_62
        · refine lv_iload_n hx hb d_GB_settle_25 rfl (lv_at hl 1 rfl) ?_
          refine lv_aload_n hx hb d_GB_settle_26 rfl (lv_at hl 0 rfl) ?_
          refine g_get (own := "GroupBitmaps") (C := R_GB) (T := F_GB) (N := 5) (ci := 0) (v := .ref (ad 1)) hx hb hg ku_GB hown hK hI (0) (wd_GB) rfl 0 (by decide) kw_91 rfl d_GB_settle_27 ?_
          refine lv_iload_n hx hb d_GB_settle_30 rfl (lv_at hl 2 rfl) ?_
          refine g_aldq (r := ad (2 + g)) (i := g) hx hb hK hI (1) 0 (wd_GA) rfl (by omega) (by decide) rfl d_GB_settle_31 ?_
          have hq0 := show g < 4 by omega
          have hr0 : 2 * g < 8 := by omega
          have hs0 : 2 * g + 1 < 8 := by omega
          refine g_getN (own := "GroupBitmaps") (C := R_GR) (T := F_GR) (N := 6) (ci := 1) (v := .ref (ad (6 + (2 * g)))) hx hb hg ku_GR hown hK hI (2 + g) (wd_GR hq0) rfl 3 (by decide) kw_61 rfl d_GB_settle_32 ?_
          refine g_callV (own := "GroupBitmaps") (C := "GroupBitmaps$Bitmap") (T := F_BM) (N := 5) (k := 0) (q0 := 6 + (2 * g)) (ci := 2) (a := ad (6 + (2 * g))) (As := []) (rest := [.int (nI (sSc σ g))]) (c_BM_forgetTold (sStl σ g) (2 * g) hr0) hx hb hml hown hg hK hI hA kw_115 kw_116 kw_117 kw_3 kw_118 ky_BM_forgetTold ⟨Nat.le_of_ble_eq_true rfl, Nat.le_of_ble_eq_true rfl⟩ rfl rfl (wd_BM hr0) rfl rfl hl.1 (Nat.le_of_ble_eq_true rfl) ⟨Nat.zero_le _, Nat.zero_le _⟩ d_GB_settle_35 rfl rfl (fun H locs hI => ?_)
          refine r_iadd (a := sSc σ g) (b := b1 (sTd (sStl σ g) (2 * g))) hx hb d_GB_settle_38 ?_
          refine lv_istore_n (lv' := [(1, .int (nI ((sSc σ g) + (b1 (sTd (sStl σ g) (2 * g)))))), (0, .ref (ad 0)), (2, .int (nI g))]) hx hb d_GB_settle_39 rfl hl (by decide) rfl (fun ls hl => ?_)
          refine lv_iload_n hx hb d_GB_settle_40 rfl (lv_at hl 0 rfl) ?_
          refine lv_aload_n hx hb d_GB_settle_41 rfl (lv_at hl 1 rfl) ?_
          refine g_get (own := "GroupBitmaps") (C := R_GB) (T := F_GB) (N := 5) (ci := 0) (v := .ref (ad 1)) hx hb hg ku_GB hown hK hI (0) (wd_GB) rfl 0 (by decide) kw_91 rfl d_GB_settle_42 ?_
          refine lv_iload_n hx hb d_GB_settle_45 rfl (lv_at hl 2 rfl) ?_
          refine g_aldq (r := ad (2 + g)) (i := g) hx hb hK hI (1) 0 (wd_GA) rfl (by omega) (by decide) rfl d_GB_settle_46 ?_
          refine g_getN (own := "GroupBitmaps") (C := R_GR) (T := F_GR) (N := 6) (ci := 1) (v := .ref (ad (6 + (2 * g + 1)))) hx hb hg ku_GR hown hK hI (2 + g) (wd_GR hq0) rfl 4 (by decide) kw_63 rfl d_GB_settle_47 ?_
          refine g_callV (own := "GroupBitmaps") (C := "GroupBitmaps$Bitmap") (T := F_BM) (N := 5) (k := 0) (q0 := 6 + (2 * g + 1)) (ci := 2) (a := ad (6 + (2 * g + 1))) (As := []) (rest := [.int (nI ((sSc σ g) + (b1 (sTd (sStl σ g) (2 * g)))))]) (c_BM_forgetTold (uTd (sStl σ g) (2 * g) false) (2 * g + 1) hs0) hx hb hml hown hg hK hI hA kw_115 kw_116 kw_117 kw_3 kw_118 ky_BM_forgetTold ⟨Nat.le_of_ble_eq_true rfl, Nat.le_of_ble_eq_true rfl⟩ rfl rfl (wd_BM hs0) rfl rfl hl.1 (Nat.le_of_ble_eq_true rfl) ⟨Nat.zero_le _, Nat.zero_le _⟩ d_GB_settle_50 rfl rfl (fun H locs hI => ?_)
          refine r_iadd (a := (sSc σ g) + (b1 (sTd (sStl σ g) (2 * g)))) (b := b1 (sTd (uTd (sStl σ g) (2 * g) false) (2 * g + 1))) hx hb d_GB_settle_53 ?_
          refine lv_istore_n (lv' := [(1, .int (nI (((sSc σ g) + (b1 (sTd (sStl σ g) (2 * g)))) + (b1 (sTd (uTd (sStl σ g) (2 * g) false) (2 * g + 1)))))), (0, .ref (ad 0)), (2, .int (nI g))]) hx hb d_GB_settle_54 rfl hl (by decide) rfl (fun ls hl => ?_)
          refine lv_iinc (v := nI (g + 1)) (lv' := [(2, .int (nI (g + 1))), (1, .int (nI (((sSc σ g) + (b1 (sTd (sStl σ g) (2 * g)))) + (b1 (sTd (uTd (sStl σ g) (2 * g) false) (2 * g + 1)))))), (0, .ref (ad 0))]) hx hb d_GB_settle_55 hl (k := 2) rfl (nI_1 _) (by decide) rfl (fun ls hl => ?_)
          refine lv_goto (tgt := 20) hx hb d_GB_settle_58 (by decide) ?_
          exact ih (g + 1) (by omega) (by omega) _ _ _ hI (lv_sub hl [2, 1, 0] rfl)
    exact loop 5 0 (by omega) (by omega) _ _ _ hI (by rw [e0]; exact lv_sub hl [2, 1, 0] rfl)
  · have e0 : sSc σ 0 = 1 := by rw [sSc, h]; rfl
    refine lv_iconst (v := nI 1) hx hb d_GB_settle_7 (by decide) ?_
    refine lv_goto (tgt := 12) hx hb d_GB_settle_8 (by decide) ?_
    refine lv_istore_n (lv' := [(1, .int (nI 1)), (0, .ref (ad 0))]) hx hb d_GB_settle_12 rfl hl (by decide) rfl (fun ls hl => ?_)
    refine lv_aload_n hx hb d_GB_settle_13 rfl (lv_at hl 1 rfl) ?_
    refine lv_iconst (v := bI false) hx hb d_GB_settle_14 (by decide) ?_
    refine g_put (ws' := (wd ad cG cZ (uTT σ false))) (own := "GroupBitmaps") (C := R_GB) (T := F_GB) (N := 5) (ci := 0) (v := .int (bI false)) hx hb hg ku_GB t_GB t_GB_ok n_GB hown hK hI (0) (wd_GB) rfl 4 (by decide) kw_95 rfl rfl (bI_n _) (bI_fit _) (Nat.le_of_ble_eq_true rfl) (wd_uTT) d_GB_settle_15 (fun H locs hI => ?_)
    refine lv_iconst (v := nI 0) hx hb d_GB_settle_18 (by decide) ?_
    refine lv_istore_n (lv' := [(2, .int (nI 0)), (1, .int (nI 1)), (0, .ref (ad 0))]) hx hb d_GB_settle_19 rfl hl (by decide) rfl (fun ls hl => ?_)
    have loop : ∀ (fuel : Nat) (g : Nat), 5 ≤ fuel + g → (g ≤ 4) → ∀ (H : Heap) (locs : List Loc) (ls : Array Slot), gI D A s.heap (wd ad cG cZ (sStl σ g)) H locs → lv_has ls 3 [(0, .ref (ad 0)), (1, .int (nI (sSc σ g))), (2, .int (nI g))] → W p l e ({ frames := 1, cells := 0, slots := 0, locals := 21 }) s m ([.ref (ad 0)] : List Value).toArray below meth c H locs 0 0 (gQ D below ([.ref (ad 0)] : List Value).toArray s A (wd ad cG cZ (sStl σ 4)) (some (.int (nI (sSc σ 4))))) (F0 m 20 ls []) := by
      intro fuel
      induction fuel with
      | zero => intro g hfu hgl; exact absurd hfu (by omega)
      | succ fuel ih =>
        intro g hfu hgl H locs ls hI hl
        have hsc := sSc_le σ g
        refine lv_iload_n hx hb d_GB_settle_20 rfl (lv_at hl 2 rfl) ?_
        refine lv_iconst (v := nI 4) hx hb d_GB_settle_21 (by decide) ?_
        refine r_ge (a := g) (b := 4) (tgt := 61) hx hb d_GB_settle_22 (by decide) (by omega) (by omega) (fun h2 => ?_) (fun h2 => ?_)
        · obtain rfl : g = 4 := by omega
          refine lv_iload_n hx hb d_GB_settle_61 rfl (lv_at hl 1 rfl) ?_
          exact g_ri hx hb hr hlk hI (rfl) d_GB_settle_62
        · refine lv_iload_n hx hb d_GB_settle_25 rfl (lv_at hl 1 rfl) ?_
          refine lv_aload_n hx hb d_GB_settle_26 rfl (lv_at hl 0 rfl) ?_
          refine g_get (own := "GroupBitmaps") (C := R_GB) (T := F_GB) (N := 5) (ci := 0) (v := .ref (ad 1)) hx hb hg ku_GB hown hK hI (0) (wd_GB) rfl 0 (by decide) kw_91 rfl d_GB_settle_27 ?_
          refine lv_iload_n hx hb d_GB_settle_30 rfl (lv_at hl 2 rfl) ?_
          refine g_aldq (r := ad (2 + g)) (i := g) hx hb hK hI (1) 0 (wd_GA) rfl (by omega) (by decide) rfl d_GB_settle_31 ?_
          have hq1 := show g < 4 by omega
          have hr1 : 2 * g < 8 := by omega
          have hs1 : 2 * g + 1 < 8 := by omega
          refine g_getN (own := "GroupBitmaps") (C := R_GR) (T := F_GR) (N := 6) (ci := 1) (v := .ref (ad (6 + (2 * g)))) hx hb hg ku_GR hown hK hI (2 + g) (wd_GR hq1) rfl 3 (by decide) kw_61 rfl d_GB_settle_32 ?_
          refine g_callV (own := "GroupBitmaps") (C := "GroupBitmaps$Bitmap") (T := F_BM) (N := 5) (k := 0) (q0 := 6 + (2 * g)) (ci := 2) (a := ad (6 + (2 * g))) (As := []) (rest := [.int (nI (sSc σ g))]) (c_BM_forgetTold (sStl σ g) (2 * g) hr1) hx hb hml hown hg hK hI hA kw_115 kw_116 kw_117 kw_3 kw_118 ky_BM_forgetTold ⟨Nat.le_of_ble_eq_true rfl, Nat.le_of_ble_eq_true rfl⟩ rfl rfl (wd_BM hr1) rfl rfl hl.1 (Nat.le_of_ble_eq_true rfl) ⟨Nat.zero_le _, Nat.zero_le _⟩ d_GB_settle_35 rfl rfl (fun H locs hI => ?_)
          refine r_iadd (a := sSc σ g) (b := b1 (sTd (sStl σ g) (2 * g))) hx hb d_GB_settle_38 ?_
          refine lv_istore_n (lv' := [(1, .int (nI ((sSc σ g) + (b1 (sTd (sStl σ g) (2 * g)))))), (0, .ref (ad 0)), (2, .int (nI g))]) hx hb d_GB_settle_39 rfl hl (by decide) rfl (fun ls hl => ?_)
          refine lv_iload_n hx hb d_GB_settle_40 rfl (lv_at hl 0 rfl) ?_
          refine lv_aload_n hx hb d_GB_settle_41 rfl (lv_at hl 1 rfl) ?_
          refine g_get (own := "GroupBitmaps") (C := R_GB) (T := F_GB) (N := 5) (ci := 0) (v := .ref (ad 1)) hx hb hg ku_GB hown hK hI (0) (wd_GB) rfl 0 (by decide) kw_91 rfl d_GB_settle_42 ?_
          refine lv_iload_n hx hb d_GB_settle_45 rfl (lv_at hl 2 rfl) ?_
          refine g_aldq (r := ad (2 + g)) (i := g) hx hb hK hI (1) 0 (wd_GA) rfl (by omega) (by decide) rfl d_GB_settle_46 ?_
          refine g_getN (own := "GroupBitmaps") (C := R_GR) (T := F_GR) (N := 6) (ci := 1) (v := .ref (ad (6 + (2 * g + 1)))) hx hb hg ku_GR hown hK hI (2 + g) (wd_GR hq1) rfl 4 (by decide) kw_63 rfl d_GB_settle_47 ?_
          refine g_callV (own := "GroupBitmaps") (C := "GroupBitmaps$Bitmap") (T := F_BM) (N := 5) (k := 0) (q0 := 6 + (2 * g + 1)) (ci := 2) (a := ad (6 + (2 * g + 1))) (As := []) (rest := [.int (nI ((sSc σ g) + (b1 (sTd (sStl σ g) (2 * g)))))]) (c_BM_forgetTold (uTd (sStl σ g) (2 * g) false) (2 * g + 1) hs1) hx hb hml hown hg hK hI hA kw_115 kw_116 kw_117 kw_3 kw_118 ky_BM_forgetTold ⟨Nat.le_of_ble_eq_true rfl, Nat.le_of_ble_eq_true rfl⟩ rfl rfl (wd_BM hs1) rfl rfl hl.1 (Nat.le_of_ble_eq_true rfl) ⟨Nat.zero_le _, Nat.zero_le _⟩ d_GB_settle_50 rfl rfl (fun H locs hI => ?_)
          refine r_iadd (a := (sSc σ g) + (b1 (sTd (sStl σ g) (2 * g)))) (b := b1 (sTd (uTd (sStl σ g) (2 * g) false) (2 * g + 1))) hx hb d_GB_settle_53 ?_
          refine lv_istore_n (lv' := [(1, .int (nI (((sSc σ g) + (b1 (sTd (sStl σ g) (2 * g)))) + (b1 (sTd (uTd (sStl σ g) (2 * g) false) (2 * g + 1)))))), (0, .ref (ad 0)), (2, .int (nI g))]) hx hb d_GB_settle_54 rfl hl (by decide) rfl (fun ls hl => ?_)
          refine lv_iinc (v := nI (g + 1)) (lv' := [(2, .int (nI (g + 1))), (1, .int (nI (((sSc σ g) + (b1 (sTd (sStl σ g) (2 * g)))) + (b1 (sTd (uTd (sStl σ g) (2 * g) false) (2 * g + 1)))))), (0, .ref (ad 0))]) hx hb d_GB_settle_55 hl (k := 2) rfl (nI_1 _) (by decide) rfl (fun ls hl => ?_)
          refine lv_goto (tgt := 20) hx hb d_GB_settle_58 (by decide) ?_
          exact ih (g + 1) (by omega) (by omega) _ _ _ hI (lv_sub hl [2, 1, 0] rfl)
    exact loop 5 0 (by omega) (by omega) _ _ _ hI (by rw [e0]; exact lv_sub hl [2, 1, 0] rfl)
