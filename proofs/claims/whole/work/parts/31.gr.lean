set_option maxHeartbeats 4000000 in
set_option maxRecDepth 100000 in
theorem c_GR_layOut {l : Launch} {D : va_G} {cG cZ cI cJ : ClassId} {ad : Nat → Nat} (σ : gS) (g : Nat) (hg4 : g < 4) (a : Nat) (ha : a < 65536) (ha2 : gHd g + 10 ≤ a) : gMet l D (gT cG cZ cI cJ) y_GR_layOut b_GR_layOut 2 none ({ frames := 1, cells := 0, slots := 0, locals := 23 }) (wd ad cG cZ σ) [.ref (ad (2 + g)), .int (nI a)] (wd ad cG cZ (sGLay σ g a)) (none) := by
  refine gMet_of (by decide) (Nat.le_of_ble_eq_true rfl) ?_
  intro p e s m below meth c A ls hC hA hI hl
  obtain ⟨hx, hb, hr, hlk, hown, hml, hg, hK⟩ := hC
  have hown : s.vm.findClass "GroupBitmaps$Group" = some m.cls := hown
  have hl : lv_has ls 2 [(0, .ref (ad (2 + g))), (1, .int (nI a))] := hl
  have h2g : 2 * g < 8 := by omega
  have h2h : 2 * g + 1 < 8 := by omega
  have hhd := gHd_le g
  refine lv_aload_n hx hb d_GR_layOut_0 rfl (lv_at hl 0 rfl) ?_
  refine g_get (own := "GroupBitmaps$Group") (C := R_GR) (T := F_GR) (N := 6) (ci := 1) (v := .ref (ad (6 + (2 * g)))) hx hb hg ku_GR hown hK hI (2 + g) (wd_GR hg4) rfl 3 (by decide) kw_60 rfl d_GR_layOut_1 ?_
  refine lv_iload_n hx hb d_GR_layOut_4 rfl (lv_at hl 1 rfl) ?_
  refine lv_aload_n hx hb d_GR_layOut_5 rfl (lv_at hl 0 rfl) ?_
  refine g_get (own := "GroupBitmaps$Group") (C := R_GR) (T := F_GR) (N := 6) (ci := 1) (v := .int (nI (gHd g + 10))) hx hb hg ku_GR hown hK hI (2 + g) (wd_GR hg4) rfl 1 (by decide) kw_57 rfl d_GR_layOut_6 ?_
  refine g_callV (own := "GroupBitmaps$Group") (C := "GroupBitmaps$Bitmap") (T := F_BM) (N := 5) (k := 2) (q0 := 6 + (2 * g)) (ci := 2) (a := ad (6 + (2 * g))) (As := [.int (nI a), .int (nI (gHd g + 10))]) (rest := []) (c_BM_layOut σ (2 * g) h2g a (gHd g + 10) (by omega) ha2) hx hb hml hown hg hK hI hA kw_87 kw_88 kw_89 kw_3 kw_90 ky_BM_layOut ⟨Nat.le_of_ble_eq_true rfl, Nat.le_of_ble_eq_true rfl⟩ rfl rfl (wd_BM h2g) rfl rfl hl.1 (Nat.le_of_ble_eq_true rfl) ⟨Nat.zero_le _, Nat.zero_le _⟩ d_GR_layOut_9 rfl rfl (fun H locs hI => ?_)
  refine lv_aload_n hx hb d_GR_layOut_12 rfl (lv_at hl 0 rfl) ?_
  refine g_get (own := "GroupBitmaps$Group") (C := R_GR) (T := F_GR) (N := 6) (ci := 1) (v := .ref (ad (6 + (2 * g + 1)))) hx hb hg ku_GR hown hK hI (2 + g) (wd_GR hg4) rfl 4 (by decide) kw_62 rfl d_GR_layOut_13 ?_
  refine lv_sipush (v := nI 128) hx hb d_GR_layOut_16 (by decide) ?_
  refine lv_aload_n hx hb d_GR_layOut_19 rfl (lv_at hl 0 rfl) ?_
  refine g_get (own := "GroupBitmaps$Group") (C := R_GR) (T := F_GR) (N := 6) (ci := 1) (v := .int (nI (256 * g))) hx hb hg ku_GR hown hK hI (2 + g) (wd_GR hg4) rfl 0 (by decide) kw_55 rfl d_GR_layOut_20 ?_
  refine r_zne (a := 256 * g) (tgt := 31) hx hb d_GR_layOut_23 (by decide) (by omega) (fun h => ?_) (fun h => ?_)
  · have hff : gFf g = 0 := by simp [gFf]; omega
    have hs : sGLay σ g a = uFd (sLay (sLay σ (2 * g) a (gHd g + 10)) (2 * g + 1) 128 0) g 0 := by unfold sGLay; rw [hff]
    rw [hs]
    refine lv_iconst (v := nI 0) hx hb d_GR_layOut_31 (by decide) ?_
    refine g_callV (own := "GroupBitmaps$Group") (C := "GroupBitmaps$Bitmap") (T := F_BM) (N := 5) (k := 2) (q0 := 6 + (2 * g + 1)) (ci := 2) (a := ad (6 + (2 * g + 1))) (As := [.int (nI 128), .int (nI 0)]) (rest := []) (c_BM_layOut (sLay σ (2 * g) a (gHd g + 10)) (2 * g + 1) h2h 128 0 (by omega) (by omega)) hx hb hml hown hg hK hI hA kw_87 kw_88 kw_89 kw_3 kw_90 ky_BM_layOut ⟨Nat.le_of_ble_eq_true rfl, Nat.le_of_ble_eq_true rfl⟩ rfl rfl (wd_BM h2h) rfl rfl hl.1 (Nat.le_of_ble_eq_true rfl) ⟨Nat.zero_le _, Nat.zero_le _⟩ d_GR_layOut_32 rfl rfl (fun H locs hI => ?_)
    refine lv_aload_n hx hb d_GR_layOut_35 rfl (lv_at hl 0 rfl) ?_
    refine lv_iconst (v := nI 0) hx hb d_GR_layOut_36 (by decide) ?_
    refine g_put (ws' := (wd ad cG cZ (uFd (sLay (sLay σ (2 * g) a (gHd g + 10)) (2 * g + 1) 128 0) g 0))) (own := "GroupBitmaps$Group") (C := R_GR) (T := F_GR) (N := 6) (ci := 1) (v := .int (nI 0)) hx hb hg ku_GR t_GR t_GR_ok n_GR hown hK hI (2 + g) (wd_GR hg4) rfl 5 (by decide) kw_64 rfl rfl (rfl) (rfl) (Nat.le_of_ble_eq_true rfl) (wd_uFd hg4) d_GR_layOut_37 (fun H locs hI => ?_)
    exact g_rv hx hb hr hlk hI (rfl) d_GR_layOut_40
  · have hff : gFf g = 10 := by simp [gFf]; omega
    have hs : sGLay σ g a = uFd (sLay (sLay σ (2 * g) a (gHd g + 10)) (2 * g + 1) 128 10) g 0 := by unfold sGLay; rw [hff]
    rw [hs]
    refine lv_bipush (v := nI 10) hx hb d_GR_layOut_26 (by decide) ?_
    refine lv_goto (tgt := 32) hx hb d_GR_layOut_28 (by decide) ?_
    refine g_callV (own := "GroupBitmaps$Group") (C := "GroupBitmaps$Bitmap") (T := F_BM) (N := 5) (k := 2) (q0 := 6 + (2 * g + 1)) (ci := 2) (a := ad (6 + (2 * g + 1))) (As := [.int (nI 128), .int (nI 10)]) (rest := []) (c_BM_layOut (sLay σ (2 * g) a (gHd g + 10)) (2 * g + 1) h2h 128 10 (by omega) (by omega)) hx hb hml hown hg hK hI hA kw_87 kw_88 kw_89 kw_3 kw_90 ky_BM_layOut ⟨Nat.le_of_ble_eq_true rfl, Nat.le_of_ble_eq_true rfl⟩ rfl rfl (wd_BM h2h) rfl rfl hl.1 (Nat.le_of_ble_eq_true rfl) ⟨Nat.zero_le _, Nat.zero_le _⟩ d_GR_layOut_32 rfl rfl (fun H locs hI => ?_)
    refine lv_aload_n hx hb d_GR_layOut_35 rfl (lv_at hl 0 rfl) ?_
    refine lv_iconst (v := nI 0) hx hb d_GR_layOut_36 (by decide) ?_
    refine g_put (ws' := (wd ad cG cZ (uFd (sLay (sLay σ (2 * g) a (gHd g + 10)) (2 * g + 1) 128 10) g 0))) (own := "GroupBitmaps$Group") (C := R_GR) (T := F_GR) (N := 6) (ci := 1) (v := .int (nI 0)) hx hb hg ku_GR t_GR t_GR_ok n_GR hown hK hI (2 + g) (wd_GR hg4) rfl 5 (by decide) kw_64 rfl rfl (rfl) (rfl) (Nat.le_of_ble_eq_true rfl) (wd_uFd hg4) d_GR_layOut_37 (fun H locs hI => ?_)
    exact g_rv hx hb hr hlk hI (rfl) d_GR_layOut_40
set_option maxHeartbeats 4000000 in
set_option maxRecDepth 100000 in
theorem c_GR_bitmapIn {l : Launch} {D : va_G} {cG cZ cI cJ : ClassId} {ad : Nat → Nat} (σ : gS) (g : Nat) (hg4 : g < 4) (q : Nat) (hq : q < 65536) : gMet l D (gT cG cZ cI cJ) y_GR_bitmapIn b_GR_bitmapIn 2 (some (.object "GroupBitmaps$Bitmap")) ({ frames := 0, cells := 0, slots := 0, locals := 0 }) (wd ad cG cZ σ) [.ref (ad (2 + g)), .int (nI q)] (wd ad cG cZ σ) (some (bmR ad g q)) := by
  refine gMet_of (by decide) (Nat.le_of_ble_eq_true rfl) ?_
  intro p e s m below meth c A ls hC hA hI hl
  obtain ⟨hx, hb, hr, hlk, hown, hml, hg, hK⟩ := hC
  have hown : s.vm.findClass "GroupBitmaps$Group" = some m.cls := hown
  have hl : lv_has ls 2 [(0, .ref (ad (2 + g))), (1, .int (nI q))] := hl
  have h2g : 2 * g < 8 := by omega
  have h2h : 2 * g + 1 < 8 := by omega
  have hp1 := gPl_lt h2g
  have hp2 := gPl_lt h2h
  refine lv_iload_n hx hb d_GR_bitmapIn_0 rfl (lv_at hl 1 rfl) ?_
  refine lv_aload_n hx hb d_GR_bitmapIn_1 rfl (lv_at hl 0 rfl) ?_
  refine g_get (own := "GroupBitmaps$Group") (C := R_GR) (T := F_GR) (N := 6) (ci := 1) (v := .ref (ad (6 + (2 * g)))) hx hb hg ku_GR hown hK hI (2 + g) (wd_GR hg4) rfl 3 (by decide) kw_60 rfl d_GR_bitmapIn_2 ?_
  refine g_getN (own := "GroupBitmaps$Group") (C := R_BM) (T := F_BM) (N := 5) (ci := 2) (v := .int (nI (gPl (2 * g)))) hx hb hg ku_BM hown hK hI (6 + (2 * g)) (wd_BM h2g) rfl 0 (by decide) kw_34 rfl d_GR_bitmapIn_5 ?_
  refine r_ne (a := q) (b := gPl (2 * g)) (tgt := 16) hx hb d_GR_bitmapIn_8 (by decide) (by omega) (by omega) (fun h => ?_) (fun h => ?_)
  · refine lv_iload_n hx hb d_GR_bitmapIn_16 rfl (lv_at hl 1 rfl) ?_
    refine lv_aload_n hx hb d_GR_bitmapIn_17 rfl (lv_at hl 0 rfl) ?_
    refine g_get (own := "GroupBitmaps$Group") (C := R_GR) (T := F_GR) (N := 6) (ci := 1) (v := .ref (ad (6 + (2 * g + 1)))) hx hb hg ku_GR hown hK hI (2 + g) (wd_GR hg4) rfl 4 (by decide) kw_62 rfl d_GR_bitmapIn_18 ?_
    refine g_getN (own := "GroupBitmaps$Group") (C := R_BM) (T := F_BM) (N := 5) (ci := 2) (v := .int (nI (gPl (2 * g + 1)))) hx hb hg ku_BM hown hK hI (6 + (2 * g + 1)) (wd_BM h2h) rfl 0 (by decide) kw_34 rfl d_GR_bitmapIn_21 ?_
    refine r_ne (a := q) (b := gPl (2 * g + 1)) (tgt := 34) hx hb d_GR_bitmapIn_24 (by decide) (by omega) (by omega) (fun h2 => ?_) (fun h2 => ?_)
    · refine lv_null hx hb d_GR_bitmapIn_34 ?_
      exact g_ra hx hb hr hlk (Or.inl rfl) hI (by rw [bmR, if_neg h, if_neg h2]) d_GR_bitmapIn_35
    · refine lv_aload_n hx hb d_GR_bitmapIn_27 rfl (lv_at hl 0 rfl) ?_
      refine g_get (own := "GroupBitmaps$Group") (C := R_GR) (T := F_GR) (N := 6) (ci := 1) (v := .ref (ad (6 + (2 * g + 1)))) hx hb hg ku_GR hown hK hI (2 + g) (wd_GR hg4) rfl 4 (by decide) kw_62 rfl d_GR_bitmapIn_28 ?_
      refine lv_goto (tgt := 35) hx hb d_GR_bitmapIn_31 (by decide) ?_
      exact g_ra hx hb hr hlk (Or.inr ⟨_, rfl⟩) hI (by rw [bmR, if_neg h, if_pos h2]) d_GR_bitmapIn_35
  · refine lv_aload_n hx hb d_GR_bitmapIn_11 rfl (lv_at hl 0 rfl) ?_
    refine g_get (own := "GroupBitmaps$Group") (C := R_GR) (T := F_GR) (N := 6) (ci := 1) (v := .ref (ad (6 + (2 * g)))) hx hb hg ku_GR hown hK hI (2 + g) (wd_GR hg4) rfl 3 (by decide) kw_60 rfl d_GR_bitmapIn_12 ?_
    exact g_ra hx hb hr hlk (Or.inr ⟨_, rfl⟩) hI (by rw [bmR, if_pos h]) d_GR_bitmapIn_15
set_option maxHeartbeats 4000000 in
set_option maxRecDepth 100000 in
theorem c_GR_hasFileAndBlock {l : Launch} {D : va_G} {cG cZ cI cJ : ClassId} {ad : Nat → Nat} (σ : gS) (g : Nat) (hg4 : g < 4) (hσ : sB σ) : gMet l D (gT cG cZ cI cJ) y_GR_hasFileAndBlock b_GR_hasFileAndBlock 1 (some .boolean) ({ frames := 0, cells := 0, slots := 0, locals := 0 }) (wd ad cG cZ σ) [.ref (ad (2 + g))] (wd ad cG cZ σ) (some (.int (bI (sHas σ g)))) := by
  refine gMet_of (by decide) (Nat.le_of_ble_eq_true rfl) ?_
  intro p e s m below meth c A ls hC hA hI hl
  obtain ⟨hx, hb, hr, hlk, hown, hml, hg, hK⟩ := hC
  have hown : s.vm.findClass "GroupBitmaps$Group" = some m.cls := hown
  have hl : lv_has ls 1 [(0, .ref (ad (2 + g)))] := hl
  have h2g : 2 * g < 8 := by omega
  have h2h : 2 * g + 1 < 8 := by omega
  have hb1 := (hσ.2.2.2.1 (2 * g) h2g).2
  have hb2 := (hσ.2.2.2.1 (2 * g + 1) h2h).2
  refine lv_aload_n hx hb d_GR_hasFileAndBlock_0 rfl (lv_at hl 0 rfl) ?_
  refine g_get (own := "GroupBitmaps$Group") (C := R_GR) (T := F_GR) (N := 6) (ci := 1) (v := .ref (ad (6 + (2 * g + 1)))) hx hb hg ku_GR hown hK hI (2 + g) (wd_GR hg4) rfl 4 (by decide) kw_62 rfl d_GR_hasFileAndBlock_1 ?_
  refine g_getN (own := "GroupBitmaps$Group") (C := R_BM) (T := F_BM) (N := 5) (ci := 2) (v := .int (nI (sFr σ (2 * g + 1)))) hx hb hg ku_BM hown hK hI (6 + (2 * g + 1)) (wd_BM h2h) rfl 3 (by decide) kw_39 rfl d_GR_hasFileAndBlock_4 ?_
  refine lv_iconst (v := nI 1) hx hb d_GR_hasFileAndBlock_7 (by decide) ?_
  refine r_lt (a := sFr σ (2 * g + 1)) (b := 1) (tgt := 26) hx hb d_GR_hasFileAndBlock_8 (by decide) (by omega) (by omega) (fun h => ?_) (fun h => ?_)
  · refine lv_iconst (v := bI false) hx hb d_GR_hasFileAndBlock_26 (by decide) ?_
    exact g_rz hx hb hr hlk hI (by rw [sHas_1 h]) d_GR_hasFileAndBlock_27
  · refine lv_aload_n hx hb d_GR_hasFileAndBlock_11 rfl (lv_at hl 0 rfl) ?_
    refine g_get (own := "GroupBitmaps$Group") (C := R_GR) (T := F_GR) (N := 6) (ci := 1) (v := .ref (ad (6 + (2 * g)))) hx hb hg ku_GR hown hK hI (2 + g) (wd_GR hg4) rfl 3 (by decide) kw_60 rfl d_GR_hasFileAndBlock_12 ?_
    refine g_getN (own := "GroupBitmaps$Group") (C := R_BM) (T := F_BM) (N := 5) (ci := 2) (v := .int (nI (sFr σ (2 * g)))) hx hb hg ku_BM hown hK hI (6 + (2 * g)) (wd_BM h2g) rfl 3 (by decide) kw_39 rfl d_GR_hasFileAndBlock_15 ?_
    refine lv_iconst (v := nI 1) hx hb d_GR_hasFileAndBlock_18 (by decide) ?_
    refine r_lt (a := sFr σ (2 * g)) (b := 1) (tgt := 26) hx hb d_GR_hasFileAndBlock_19 (by decide) (by omega) (by omega) (fun h2 => ?_) (fun h2 => ?_)
    · refine lv_iconst (v := bI false) hx hb d_GR_hasFileAndBlock_26 (by decide) ?_
      exact g_rz hx hb hr hlk hI (by rw [sHas_2 h2]) d_GR_hasFileAndBlock_27
    · refine lv_iconst (v := bI true) hx hb d_GR_hasFileAndBlock_22 (by decide) ?_
      refine lv_goto (tgt := 27) hx hb d_GR_hasFileAndBlock_23 (by decide) ?_
      exact g_rz hx hb hr hlk hI (by rw [sHas_3 h h2]) d_GR_hasFileAndBlock_27
set_option maxHeartbeats 4000000 in
set_option maxRecDepth 100000 in
theorem c_GR_occupyFile {l : Launch} {D : va_G} {cG cZ cI cJ : ClassId} {ad : Nat → Nat} (σ : gS) (g : Nat) (hg4 : g < 4) (hσ : sB σ) (k : Nat) (fo : Bool) (hk : sLf σ (2 * g + 1) (sSz σ (2 * g + 1)) = some k) (hk2 : k < 128) (hfr : 0 < sFr σ (2 * g + 1)) : gMet l D (gT cG cZ cI cJ) y_GR_occupyFile b_GR_occupyFile 3 (some .int) ({ frames := 2, cells := 0, slots := 0, locals := 42 }) (wd ad cG cZ σ) [.ref (ad (2 + g)), .int (bI fo)] (wd ad cG cZ (sOccF σ g k fo)) (some (.int (nI (128 * g + k + 1)))) := by
  refine gMet_of (by decide) (Nat.le_of_ble_eq_true rfl) ?_
  intro p e s m below meth c A ls hC hA hI hl
  obtain ⟨hx, hb, hr, hlk, hown, hml, hg, hK⟩ := hC
  have hown : s.vm.findClass "GroupBitmaps$Group" = some m.cls := hown
  have hl : lv_has ls 3 [(0, .ref (ad (2 + g))), (1, .int (bI fo))] := hl
  have h2g : 2 * g < 8 := by omega
  have h2h : 2 * g + 1 < 8 := by omega
  have hz := (hσ.2.2.2.1 (2 * g + 1) h2h).1
  have hfd := hσ.2.2.2.2 g hg4
  refine lv_aload_n hx hb d_GR_occupyFile_0 rfl (lv_at hl 0 rfl) ?_
  refine g_get (own := "GroupBitmaps$Group") (C := R_GR) (T := F_GR) (N := 6) (ci := 1) (v := .ref (ad (6 + (2 * g + 1)))) hx hb hg ku_GR hown hK hI (2 + g) (wd_GR hg4) rfl 4 (by decide) kw_62 rfl d_GR_occupyFile_1 ?_
  refine g_callV (own := "GroupBitmaps$Group") (C := "GroupBitmaps$Bitmap") (T := F_BM) (N := 5) (k := 0) (q0 := 6 + (2 * g + 1)) (ci := 2) (a := ad (6 + (2 * g + 1))) (As := []) (rest := []) (c_BM_leastFree σ (2 * g + 1) h2h hz) hx hb hml hown hg hK hI hA kw_363 kw_364 kw_365 kw_3 kw_366 ky_BM_leastFree ⟨Nat.le_of_ble_eq_true rfl, Nat.le_of_ble_eq_true rfl⟩ rfl rfl (wd_BM h2h) rfl rfl hl.1 (Nat.le_of_ble_eq_true rfl) ⟨Nat.zero_le _, Nat.zero_le _⟩ d_GR_occupyFile_4 rfl rfl (fun H locs hI => ?_)
  rw [hk]
  show W _ _ _ _ _ _ _ _ _ _ _ _ _ _ _ (F0 m _ ls [.int (nI k)])
  refine lv_istore_n (lv' := [(2, .int (nI k)), (0, .ref (ad (2 + g))), (1, .int (bI fo))]) hx hb d_GR_occupyFile_7 rfl hl (by decide) rfl (fun ls hl => ?_)
  refine lv_aload_n hx hb d_GR_occupyFile_8 rfl (lv_at hl 1 rfl) ?_
  refine g_get (own := "GroupBitmaps$Group") (C := R_GR) (T := F_GR) (N := 6) (ci := 1) (v := .ref (ad (6 + (2 * g + 1)))) hx hb hg ku_GR hown hK hI (2 + g) (wd_GR hg4) rfl 4 (by decide) kw_62 rfl d_GR_occupyFile_9 ?_
  refine lv_iload_n hx hb d_GR_occupyFile_12 rfl (lv_at hl 0 rfl) ?_
  refine g_callV (own := "GroupBitmaps$Group") (C := "GroupBitmaps$Bitmap") (T := F_BM) (N := 5) (k := 1) (q0 := 6 + (2 * g + 1)) (ci := 2) (a := ad (6 + (2 * g + 1))) (As := [.int (nI k)]) (rest := []) (c_BM_occupy σ (2 * g + 1) h2h k (by omega) (fun _ => hfr)) hx hb hml hown hg hK hI hA kw_367 kw_273 kw_274 kw_3 kw_275 ky_BM_occupy ⟨Nat.le_of_ble_eq_true rfl, Nat.le_of_ble_eq_true rfl⟩ rfl rfl (wd_BM h2h) rfl rfl hl.1 (Nat.le_of_ble_eq_true rfl) ⟨Nat.zero_le _, Nat.zero_le _⟩ d_GR_occupyFile_13 rfl rfl (fun H locs hI => ?_)
  have hfd2 : sFd (sOcc σ (2 * g + 1) k) g = sFd σ g := by rw [sFd_sOcc]
  refine lv_iload_n hx hb d_GR_occupyFile_16 rfl (lv_at hl 2 rfl) ?_
  refine r_bz (b := fo) (tgt := 30) hx hb d_GR_occupyFile_17 (by decide) (fun h => ?_) (fun h => ?_)
  · have hs : sOccF σ g k fo = sOcc σ (2 * g + 1) k := by rw [h]; rfl
    rw [hs]
    refine lv_aload_n hx hb d_GR_occupyFile_30 rfl (lv_at hl 1 rfl) ?_
    refine g_get (own := "GroupBitmaps$Group") (C := R_GR) (T := F_GR) (N := 6) (ci := 1) (v := .int (nI (256 * g))) hx hb hg ku_GR hown hK hI (2 + g) (wd_GR hg4) rfl 0 (by decide) kw_55 rfl d_GR_occupyFile_31 ?_
    refine lv_sipush (v := nI 256) hx hb d_GR_occupyFile_34 (by decide) ?_
    refine r_idiv (a := 256 * g) (b := 256) hx hb (by omega) (by omega) (by omega) d_GR_occupyFile_37 ?_
    refine lv_sipush (v := nI 128) hx hb d_GR_occupyFile_38 (by decide) ?_
    refine r_imul (a := (256 * g) / 256) (b := 128) hx hb d_GR_occupyFile_41 ?_
    refine lv_iload_n hx hb d_GR_occupyFile_42 rfl (lv_at hl 0 rfl) ?_
    refine r_iadd (a := ((256 * g) / 256) * 128) (b := k) hx hb d_GR_occupyFile_43 ?_
    refine lv_iconst (v := nI 1) hx hb d_GR_occupyFile_44 (by decide) ?_
    refine r_iadd (a := (((256 * g) / 256) * 128) + k) (b := 1) hx hb d_GR_occupyFile_45 ?_
    exact g_ri hx hb hr hlk hI (by rw [show 256 * g / 256 * 128 + k + 1 = 128 * g + k + 1 by omega]) d_GR_occupyFile_46
  · have hs : sOccF σ g k fo = uFd (sOcc σ (2 * g + 1) k) g (sFd σ g + 1) := by rw [h]; rfl
    rw [hs]
    refine lv_aload_n hx hb d_GR_occupyFile_20 rfl (lv_at hl 1 rfl) ?_
    refine lv_dup hx hb d_GR_occupyFile_21 rfl ?_
    refine g_get (own := "GroupBitmaps$Group") (C := R_GR) (T := F_GR) (N := 6) (ci := 1) (v := .int (nI (sFd (sOcc σ (2 * g + 1) k) g))) hx hb hg ku_GR hown hK hI (2 + g) (wd_GR hg4) rfl 5 (by decide) kw_64 rfl d_GR_occupyFile_22 ?_
    refine lv_iconst (v := nI 1) hx hb d_GR_occupyFile_25 (by decide) ?_
    refine r_iadd (a := sFd (sOcc σ (2 * g + 1) k) g) (b := 1) hx hb d_GR_occupyFile_26 ?_
    rw [hfd2]
    refine g_put (ws' := (wd ad cG cZ (uFd (sOcc σ (2 * g + 1) k) g (sFd σ g + 1)))) (own := "GroupBitmaps$Group") (C := R_GR) (T := F_GR) (N := 6) (ci := 1) (v := .int (nI (sFd σ g + 1))) hx hb hg ku_GR t_GR t_GR_ok n_GR hown hK hI (2 + g) (wd_GR hg4) rfl 5 (by decide) kw_64 rfl rfl (rfl) (rfl) (Nat.le_of_ble_eq_true rfl) (wd_uFd hg4) d_GR_occupyFile_27 (fun H locs hI => ?_)
    refine lv_aload_n hx hb d_GR_occupyFile_30 rfl (lv_at hl 1 rfl) ?_
    refine g_get (own := "GroupBitmaps$Group") (C := R_GR) (T := F_GR) (N := 6) (ci := 1) (v := .int (nI (256 * g))) hx hb hg ku_GR hown hK hI (2 + g) (wd_GR hg4) rfl 0 (by decide) kw_55 rfl d_GR_occupyFile_31 ?_
    refine lv_sipush (v := nI 256) hx hb d_GR_occupyFile_34 (by decide) ?_
    refine r_idiv (a := 256 * g) (b := 256) hx hb (by omega) (by omega) (by omega) d_GR_occupyFile_37 ?_
    refine lv_sipush (v := nI 128) hx hb d_GR_occupyFile_38 (by decide) ?_
    refine r_imul (a := (256 * g) / 256) (b := 128) hx hb d_GR_occupyFile_41 ?_
    refine lv_iload_n hx hb d_GR_occupyFile_42 rfl (lv_at hl 0 rfl) ?_
    refine r_iadd (a := ((256 * g) / 256) * 128) (b := k) hx hb d_GR_occupyFile_43 ?_
    refine lv_iconst (v := nI 1) hx hb d_GR_occupyFile_44 (by decide) ?_
    refine r_iadd (a := (((256 * g) / 256) * 128) + k) (b := 1) hx hb d_GR_occupyFile_45 ?_
    exact g_ri hx hb hr hlk hI (by rw [show 256 * g / 256 * 128 + k + 1 = 128 * g + k + 1 by omega]) d_GR_occupyFile_46
set_option maxHeartbeats 4000000 in
set_option maxRecDepth 100000 in
theorem c_GR_freeFile {l : Launch} {D : va_G} {cG cZ cI cJ : ClassId} {ad : Nat → Nat} (σ : gS) (g : Nat) (hg4 : g < 4) (hσ : sB σ) (k : Nat) (hk : k < 65536) (fo : Bool) (hfo : fo = true → 1 ≤ sFd σ g) : gMet l D (gT cG cZ cI cJ) y_GR_freeFile b_GR_freeFile 3 none ({ frames := 1, cells := 0, slots := 0, locals := 21 }) (wd ad cG cZ σ) [.ref (ad (2 + g)), .int (nI k), .int (bI fo)] (wd ad cG cZ (sFreF σ g k fo)) (none) := by
  refine gMet_of (by decide) (Nat.le_of_ble_eq_true rfl) ?_
  intro p e s m below meth c A ls hC hA hI hl
  obtain ⟨hx, hb, hr, hlk, hown, hml, hg, hK⟩ := hC
  have hown : s.vm.findClass "GroupBitmaps$Group" = some m.cls := hown
  have hl : lv_has ls 3 [(0, .ref (ad (2 + g))), (1, .int (nI k)), (2, .int (bI fo))] := hl
  have h2g : 2 * g < 8 := by omega
  have h2h : 2 * g + 1 < 8 := by omega
  have hz := (hσ.2.2.2.1 (2 * g + 1) h2h).1
  have hfd := hσ.2.2.2.2 g hg4
  refine lv_aload_n hx hb d_GR_freeFile_0 rfl (lv_at hl 0 rfl) ?_
  refine g_get (own := "GroupBitmaps$Group") (C := R_GR) (T := F_GR) (N := 6) (ci := 1) (v := .ref (ad (6 + (2 * g + 1)))) hx hb hg ku_GR hown hK hI (2 + g) (wd_GR hg4) rfl 4 (by decide) kw_62 rfl d_GR_freeFile_1 ?_
  refine lv_iload_n hx hb d_GR_freeFile_4 rfl (lv_at hl 1 rfl) ?_
  refine g_callV (own := "GroupBitmaps$Group") (C := "GroupBitmaps$Bitmap") (T := F_BM) (N := 5) (k := 1) (q0 := 6 + (2 * g + 1)) (ci := 2) (a := ad (6 + (2 * g + 1))) (As := [.int (nI k)]) (rest := []) (c_BM_free σ (2 * g + 1) h2h k (by omega) hz) hx hb hml hown hg hK hI hA kw_382 kw_309 kw_310 kw_3 kw_311 ky_BM_free ⟨Nat.le_of_ble_eq_true rfl, Nat.le_of_ble_eq_true rfl⟩ rfl rfl (wd_BM h2h) rfl rfl hl.1 (Nat.le_of_ble_eq_true rfl) ⟨Nat.zero_le _, Nat.zero_le _⟩ d_GR_freeFile_5 rfl rfl (fun H locs hI => ?_)
  have hfd2 : sFd (sFre σ (2 * g + 1) k) g = sFd σ g := by rw [sFd_sFre]
  refine lv_iload_n hx hb d_GR_freeFile_8 rfl (lv_at hl 2 rfl) ?_
  refine r_bz (b := fo) (tgt := 22) hx hb d_GR_freeFile_9 (by decide) (fun h => ?_) (fun h => ?_)
  · have hs : sFreF σ g k fo = sFre σ (2 * g + 1) k := by rw [h]; rfl
    rw [hs]
    exact g_rv hx hb hr hlk hI (rfl) d_GR_freeFile_22
  · have hs : sFreF σ g k fo = uFd (sFre σ (2 * g + 1) k) g (sFd σ g - 1) := by rw [h]; rfl
    rw [hs]
    have hfo := hfo h
    refine lv_aload_n hx hb d_GR_freeFile_12 rfl (lv_at hl 0 rfl) ?_
    refine lv_dup hx hb d_GR_freeFile_13 rfl ?_
    refine g_get (own := "GroupBitmaps$Group") (C := R_GR) (T := F_GR) (N := 6) (ci := 1) (v := .int (nI (sFd (sFre σ (2 * g + 1) k) g))) hx hb hg ku_GR hown hK hI (2 + g) (wd_GR hg4) rfl 5 (by decide) kw_64 rfl d_GR_freeFile_14 ?_
    refine lv_iconst (v := nI 1) hx hb d_GR_freeFile_17 (by decide) ?_
    refine r_isub (a := sFd (sFre σ (2 * g + 1) k) g) (b := 1) hx hb (by omega) d_GR_freeFile_18 ?_
    rw [hfd2]
    refine g_put (ws' := (wd ad cG cZ (uFd (sFre σ (2 * g + 1) k) g (sFd σ g - 1)))) (own := "GroupBitmaps$Group") (C := R_GR) (T := F_GR) (N := 6) (ci := 1) (v := .int (nI (sFd σ g - 1))) hx hb hg ku_GR t_GR t_GR_ok n_GR hown hK hI (2 + g) (wd_GR hg4) rfl 5 (by decide) kw_64 rfl rfl (rfl) (rfl) (Nat.le_of_ble_eq_true rfl) (wd_uFd hg4) d_GR_freeFile_19 (fun H locs hI => ?_)
    exact g_rv hx hb hr hlk hI (rfl) d_GR_freeFile_22
set_option maxHeartbeats 4000000 in
set_option maxRecDepth 100000 in
theorem c_GR_byteOfNumber {l : Launch} {D : va_G} {cG cZ cI cJ : ClassId} {ad : Nat → Nat} (σ : gS) (x k : Nat) (hx0 : x < 2 ^ 31) (hk : k < 4) : gMet l D (gT cG cZ cI cJ) y_GR_byteOfNumber b_GR_byteOfNumber 2 (some .int) ({ frames := 0, cells := 0, slots := 0, locals := 0 }) (wd ad cG cZ σ) [.int (nI x), .int (nI k)] (wd ad cG cZ σ) (some (.int (nI (byN x k)))) := by
  refine gMet_of (by decide) (Nat.le_of_ble_eq_true rfl) ?_
  intro p e s m below meth c A ls hC hA hI hl
  obtain ⟨hx, hb, hr, hlk, hown, hml, hg, hK⟩ := hC
  have hown : s.vm.findClass "GroupBitmaps$Group" = some m.cls := hown
  have hl : lv_has ls 2 [(0, .int (nI x)), (1, .int (nI k))] := hl
  refine lv_iload_n hx hb d_GR_byteOfNumber_0 rfl (lv_at hl 0 rfl) ?_
  refine lv_bipush (v := nI 8) hx hb d_GR_byteOfNumber_1 (by decide) ?_
  refine lv_iload_n hx hb d_GR_byteOfNumber_3 rfl (lv_at hl 1 rfl) ?_
  refine r_imul (a := 8) (b := k) hx hb d_GR_byteOfNumber_4 ?_
  refine lv_ishr hx hb d_GR_byteOfNumber_5 ?_
  refine lv_sipush (v := nI 255) hx hb d_GR_byteOfNumber_6 (by decide) ?_
  refine lv_iand hx hb d_GR_byteOfNumber_9 ?_
  rw [byN_eq hx0 hk]
  exact g_ri hx hb hr hlk hI (rfl) d_GR_byteOfNumber_10
set_option maxHeartbeats 4000000 in
set_option maxRecDepth 100000 in
theorem c_GR_tableByte {l : Launch} {D : va_G} {cG cZ cI cJ : ClassId} {ad : Nat → Nat} (σ : gS) (g : Nat) (hg4 : g < 4) (hσ : sB σ) (t : Nat) (ht : t < 32) : gMet l D (gT cG cZ cI cJ) y_GR_tableByte b_GR_tableByte 2 (some .int) ({ frames := 1, cells := 0, slots := 0, locals := 21 }) (wd ad cG cZ σ) [.ref (ad (2 + g)), .int (nI t)] (wd ad cG cZ σ) (some (.int (nI (gTb σ g t)))) := by
  refine gMet_of (by decide) (Nat.le_of_ble_eq_true rfl) ?_
  intro p e s m below meth c A ls hC hA hI hl
  obtain ⟨hx, hb, hr, hlk, hown, hml, hg, hK⟩ := hC
  have hown : s.vm.findClass "GroupBitmaps$Group" = some m.cls := hown
  have hl : lv_has ls 2 [(0, .ref (ad (2 + g))), (1, .int (nI t))] := hl
  have h2g : 2 * g < 8 := by omega
  have h2h : 2 * g + 1 < 8 := by omega
  have hp1 := gPl_lt h2g
  have hp2 := gPl_lt h2h
  have hhd := gHd_le g
  have hb1 := (hσ.2.2.2.1 (2 * g) h2g).2
  have hb2 := (hσ.2.2.2.1 (2 * g + 1) h2h).2
  have hfd := hσ.2.2.2.2 g hg4
  refine lv_iload_n hx hb d_GR_tableByte_0 rfl (lv_at hl 1 rfl) ?_
  refine lv_iconst (v := nI 4) hx hb d_GR_tableByte_1 (by decide) ?_
  refine r_ge (a := t) (b := 4) (tgt := 17) hx hb d_GR_tableByte_2 (by decide) (by omega) (by omega) (fun h0 => ?_) (fun h0 => ?_)
  · refine lv_iload_n hx hb d_GR_tableByte_17 rfl (lv_at hl 1 rfl) ?_
    refine lv_bipush (v := nI 8) hx hb d_GR_tableByte_18 (by decide) ?_
    refine r_ge (a := t) (b := 8) (tgt := 37) hx hb d_GR_tableByte_20 (by decide) (by omega) (by omega) (fun h1 => ?_) (fun h1 => ?_)
    · refine lv_iload_n hx hb d_GR_tableByte_37 rfl (lv_at hl 1 rfl) ?_
      refine lv_bipush (v := nI 12) hx hb d_GR_tableByte_38 (by decide) ?_
      refine r_ge (a := t) (b := 12) (tgt := 55) hx hb d_GR_tableByte_40 (by decide) (by omega) (by omega) (fun h2 => ?_) (fun h2 => ?_)
      · refine lv_iload_n hx hb d_GR_tableByte_55 rfl (lv_at hl 1 rfl) ?_
        refine lv_bipush (v := nI 14) hx hb d_GR_tableByte_56 (by decide) ?_
        refine r_ge (a := t) (b := 14) (tgt := 76) hx hb d_GR_tableByte_58 (by decide) (by omega) (by omega) (fun h3 => ?_) (fun h3 => ?_)
        · refine lv_iload_n hx hb d_GR_tableByte_76 rfl (lv_at hl 1 rfl) ?_
          refine lv_bipush (v := nI 16) hx hb d_GR_tableByte_77 (by decide) ?_
          refine r_ge (a := t) (b := 16) (tgt := 97) hx hb d_GR_tableByte_79 (by decide) (by omega) (by omega) (fun h4 => ?_) (fun h4 => ?_)
          · refine lv_iload_n hx hb d_GR_tableByte_97 rfl (lv_at hl 1 rfl) ?_
            refine lv_bipush (v := nI 18) hx hb d_GR_tableByte_98 (by decide) ?_
            refine r_ge (a := t) (b := 18) (tgt := 117) hx hb d_GR_tableByte_100 (by decide) (by omega) (by omega) (fun h5 => ?_) (fun h5 => ?_)
            · refine lv_iconst (v := nI 0) hx hb d_GR_tableByte_117 (by decide) ?_
              exact g_ri hx hb hr hlk hI (by rw [gTb, if_neg (Nat.not_lt.mpr h0), if_neg (Nat.not_lt.mpr h1), if_neg (Nat.not_lt.mpr h2), if_neg (Nat.not_lt.mpr h3), if_neg (Nat.not_lt.mpr h4), if_neg (Nat.not_lt.mpr h5)]) d_GR_tableByte_118
            · refine lv_aload_n hx hb d_GR_tableByte_103 rfl (lv_at hl 0 rfl) ?_
              refine g_get (own := "GroupBitmaps$Group") (C := R_GR) (T := F_GR) (N := 6) (ci := 1) (v := .int (nI (sFd σ g))) hx hb hg ku_GR hown hK hI (2 + g) (wd_GR hg4) rfl 5 (by decide) kw_64 rfl d_GR_tableByte_104 ?_
              refine lv_iload_n hx hb d_GR_tableByte_107 rfl (lv_at hl 1 rfl) ?_
              refine lv_bipush (v := nI 16) hx hb d_GR_tableByte_108 (by decide) ?_
              refine r_isub (a := t) (b := 16) hx hb (by omega) d_GR_tableByte_110 ?_
              refine g_callS (own := "GroupBitmaps$Group") (k := 2) (As := [.int (nI (sFd σ g)), .int (nI (t - 16))]) (rest := []) (c_GR_byteOfNumber σ (sFd σ g) (t - 16) (by omega) (by omega)) hx hb hml hown hg hK hI hA kw_432 kw_433 kw_2 kw_434 ky_GR_byteOfNumber ⟨Nat.le_of_ble_eq_true rfl, Nat.le_of_ble_eq_true rfl⟩ rfl rfl rfl hl.1 (Nat.le_of_ble_eq_true rfl) ⟨Nat.zero_le _, Nat.zero_le _⟩ d_GR_tableByte_111 rfl rfl (fun H locs hI => ?_)
              refine lv_goto (tgt := 118) hx hb d_GR_tableByte_114 (by decide) ?_
              exact g_ri hx hb hr hlk hI (by rw [gTb, if_neg (Nat.not_lt.mpr h0), if_neg (Nat.not_lt.mpr h1), if_neg (Nat.not_lt.mpr h2), if_neg (Nat.not_lt.mpr h3), if_neg (Nat.not_lt.mpr h4), if_pos h5]) d_GR_tableByte_118
          · refine lv_aload_n hx hb d_GR_tableByte_82 rfl (lv_at hl 0 rfl) ?_
            refine g_get (own := "GroupBitmaps$Group") (C := R_GR) (T := F_GR) (N := 6) (ci := 1) (v := .ref (ad (6 + (2 * g + 1)))) hx hb hg ku_GR hown hK hI (2 + g) (wd_GR hg4) rfl 4 (by decide) kw_62 rfl d_GR_tableByte_83 ?_
            refine g_getN (own := "GroupBitmaps$Group") (C := R_BM) (T := F_BM) (N := 5) (ci := 2) (v := .int (nI (sFr σ (2 * g + 1)))) hx hb hg ku_BM hown hK hI (6 + (2 * g + 1)) (wd_BM h2h) rfl 3 (by decide) kw_39 rfl d_GR_tableByte_86 ?_
            refine lv_iload_n hx hb d_GR_tableByte_89 rfl (lv_at hl 1 rfl) ?_
            refine lv_bipush (v := nI 14) hx hb d_GR_tableByte_90 (by decide) ?_
            refine r_isub (a := t) (b := 14) hx hb (by omega) d_GR_tableByte_92 ?_
            refine g_callS (own := "GroupBitmaps$Group") (k := 2) (As := [.int (nI (sFr σ (2 * g + 1))), .int (nI (t - 14))]) (rest := []) (c_GR_byteOfNumber σ (sFr σ (2 * g + 1)) (t - 14) (by omega) (by omega)) hx hb hml hown hg hK hI hA kw_432 kw_433 kw_2 kw_434 ky_GR_byteOfNumber ⟨Nat.le_of_ble_eq_true rfl, Nat.le_of_ble_eq_true rfl⟩ rfl rfl rfl hl.1 (Nat.le_of_ble_eq_true rfl) ⟨Nat.zero_le _, Nat.zero_le _⟩ d_GR_tableByte_93 rfl rfl (fun H locs hI => ?_)
            exact g_ri hx hb hr hlk hI (by rw [gTb, if_neg (Nat.not_lt.mpr h0), if_neg (Nat.not_lt.mpr h1), if_neg (Nat.not_lt.mpr h2), if_neg (Nat.not_lt.mpr h3), if_pos h4]) d_GR_tableByte_96
        · refine lv_aload_n hx hb d_GR_tableByte_61 rfl (lv_at hl 0 rfl) ?_
          refine g_get (own := "GroupBitmaps$Group") (C := R_GR) (T := F_GR) (N := 6) (ci := 1) (v := .ref (ad (6 + (2 * g)))) hx hb hg ku_GR hown hK hI (2 + g) (wd_GR hg4) rfl 3 (by decide) kw_60 rfl d_GR_tableByte_62 ?_
          refine g_getN (own := "GroupBitmaps$Group") (C := R_BM) (T := F_BM) (N := 5) (ci := 2) (v := .int (nI (sFr σ (2 * g)))) hx hb hg ku_BM hown hK hI (6 + (2 * g)) (wd_BM h2g) rfl 3 (by decide) kw_39 rfl d_GR_tableByte_65 ?_
          refine lv_iload_n hx hb d_GR_tableByte_68 rfl (lv_at hl 1 rfl) ?_
          refine lv_bipush (v := nI 12) hx hb d_GR_tableByte_69 (by decide) ?_
          refine r_isub (a := t) (b := 12) hx hb (by omega) d_GR_tableByte_71 ?_
          refine g_callS (own := "GroupBitmaps$Group") (k := 2) (As := [.int (nI (sFr σ (2 * g))), .int (nI (t - 12))]) (rest := []) (c_GR_byteOfNumber σ (sFr σ (2 * g)) (t - 12) (by omega) (by omega)) hx hb hml hown hg hK hI hA kw_432 kw_433 kw_2 kw_434 ky_GR_byteOfNumber ⟨Nat.le_of_ble_eq_true rfl, Nat.le_of_ble_eq_true rfl⟩ rfl rfl rfl hl.1 (Nat.le_of_ble_eq_true rfl) ⟨Nat.zero_le _, Nat.zero_le _⟩ d_GR_tableByte_72 rfl rfl (fun H locs hI => ?_)
          exact g_ri hx hb hr hlk hI (by rw [gTb, if_neg (Nat.not_lt.mpr h0), if_neg (Nat.not_lt.mpr h1), if_neg (Nat.not_lt.mpr h2), if_pos h3]) d_GR_tableByte_75
      · refine lv_aload_n hx hb d_GR_tableByte_43 rfl (lv_at hl 0 rfl) ?_
        refine g_get (own := "GroupBitmaps$Group") (C := R_GR) (T := F_GR) (N := 6) (ci := 1) (v := .int (nI (256 * g + gHd g + 2))) hx hb hg ku_GR hown hK hI (2 + g) (wd_GR hg4) rfl 2 (by decide) kw_59 rfl d_GR_tableByte_44 ?_
        refine lv_iload_n hx hb d_GR_tableByte_47 rfl (lv_at hl 1 rfl) ?_
        refine lv_bipush (v := nI 8) hx hb d_GR_tableByte_48 (by decide) ?_
        refine r_isub (a := t) (b := 8) hx hb (by omega) d_GR_tableByte_50 ?_
        refine g_callS (own := "GroupBitmaps$Group") (k := 2) (As := [.int (nI (256 * g + gHd g + 2)), .int (nI (t - 8))]) (rest := []) (c_GR_byteOfNumber σ (256 * g + gHd g + 2) (t - 8) (by omega) (by omega)) hx hb hml hown hg hK hI hA kw_432 kw_433 kw_2 kw_434 ky_GR_byteOfNumber ⟨Nat.le_of_ble_eq_true rfl, Nat.le_of_ble_eq_true rfl⟩ rfl rfl rfl hl.1 (Nat.le_of_ble_eq_true rfl) ⟨Nat.zero_le _, Nat.zero_le _⟩ d_GR_tableByte_51 rfl rfl (fun H locs hI => ?_)
        exact g_ri hx hb hr hlk hI (by rw [gTb, if_neg (Nat.not_lt.mpr h0), if_neg (Nat.not_lt.mpr h1), if_pos h2]) d_GR_tableByte_54
    · refine lv_aload_n hx hb d_GR_tableByte_23 rfl (lv_at hl 0 rfl) ?_
      refine g_get (own := "GroupBitmaps$Group") (C := R_GR) (T := F_GR) (N := 6) (ci := 1) (v := .ref (ad (6 + (2 * g + 1)))) hx hb hg ku_GR hown hK hI (2 + g) (wd_GR hg4) rfl 4 (by decide) kw_62 rfl d_GR_tableByte_24 ?_
      refine g_getN (own := "GroupBitmaps$Group") (C := R_BM) (T := F_BM) (N := 5) (ci := 2) (v := .int (nI (gPl (2 * g + 1)))) hx hb hg ku_BM hown hK hI (6 + (2 * g + 1)) (wd_BM h2h) rfl 0 (by decide) kw_34 rfl d_GR_tableByte_27 ?_
      refine lv_iload_n hx hb d_GR_tableByte_30 rfl (lv_at hl 1 rfl) ?_
      refine lv_iconst (v := nI 4) hx hb d_GR_tableByte_31 (by decide) ?_
      refine r_isub (a := t) (b := 4) hx hb (by omega) d_GR_tableByte_32 ?_
      refine g_callS (own := "GroupBitmaps$Group") (k := 2) (As := [.int (nI (gPl (2 * g + 1))), .int (nI (t - 4))]) (rest := []) (c_GR_byteOfNumber σ (gPl (2 * g + 1)) (t - 4) (by omega) (by omega)) hx hb hml hown hg hK hI hA kw_432 kw_433 kw_2 kw_434 ky_GR_byteOfNumber ⟨Nat.le_of_ble_eq_true rfl, Nat.le_of_ble_eq_true rfl⟩ rfl rfl rfl hl.1 (Nat.le_of_ble_eq_true rfl) ⟨Nat.zero_le _, Nat.zero_le _⟩ d_GR_tableByte_33 rfl rfl (fun H locs hI => ?_)
      exact g_ri hx hb hr hlk hI (by rw [gTb, if_neg (Nat.not_lt.mpr h0), if_pos h1]) d_GR_tableByte_36
  · refine lv_aload_n hx hb d_GR_tableByte_5 rfl (lv_at hl 0 rfl) ?_
    refine g_get (own := "GroupBitmaps$Group") (C := R_GR) (T := F_GR) (N := 6) (ci := 1) (v := .ref (ad (6 + (2 * g)))) hx hb hg ku_GR hown hK hI (2 + g) (wd_GR hg4) rfl 3 (by decide) kw_60 rfl d_GR_tableByte_6 ?_
    refine g_getN (own := "GroupBitmaps$Group") (C := R_BM) (T := F_BM) (N := 5) (ci := 2) (v := .int (nI (gPl (2 * g)))) hx hb hg ku_BM hown hK hI (6 + (2 * g)) (wd_BM h2g) rfl 0 (by decide) kw_34 rfl d_GR_tableByte_9 ?_
    refine lv_iload_n hx hb d_GR_tableByte_12 rfl (lv_at hl 1 rfl) ?_
    refine g_callS (own := "GroupBitmaps$Group") (k := 2) (As := [.int (nI (gPl (2 * g))), .int (nI t)]) (rest := []) (c_GR_byteOfNumber σ (gPl (2 * g)) (t) (by omega) (by omega)) hx hb hml hown hg hK hI hA kw_432 kw_433 kw_2 kw_434 ky_GR_byteOfNumber ⟨Nat.le_of_ble_eq_true rfl, Nat.le_of_ble_eq_true rfl⟩ rfl rfl rfl hl.1 (Nat.le_of_ble_eq_true rfl) ⟨Nat.zero_le _, Nat.zero_le _⟩ d_GR_tableByte_13 rfl rfl (fun H locs hI => ?_)
    exact g_ri hx hb hr hlk hI (by rw [gTb, if_pos h0]) d_GR_tableByte_16
