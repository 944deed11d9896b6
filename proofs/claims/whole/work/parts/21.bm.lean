set_option maxHeartbeats 4000000 in
set_option maxRecDepth 100000 in
/-- isSet(k) -/
theorem c_BM_isSet {l : Launch} {D : va_G} {cG cZ cI cJ : ClassId} {ad : Nat → Nat} (σ : gS) (j : Nat) (hj : j < 8) (k : Nat) (hk : k < 2 ^ 31) : gMet l D (gT cG cZ cI cJ) y_BM_isSet b_BM_isSet 2 (some .boolean) ({ frames := 0, cells := 0, slots := 0, locals := 0 }) (wd ad cG cZ σ) [.ref (ad (6 + j)), .int (nI k)] (wd ad cG cZ σ) (some (.int (bI (sSet σ j k)))) := by
  refine gMet_of (by decide) (Nat.le_of_ble_eq_true rfl) ?_
  intro p e s m below meth c A ls hC hA hI hl
  obtain ⟨hx, hb, hr, hlk, hown, hml, hg, hK⟩ := hC
  have hown : s.vm.findClass "GroupBitmaps$Bitmap" = some m.cls := hown
  have hl : lv_has ls 2 [(0, .ref (ad (6 + j))), (1, .int (nI k))] := hl
  refine lv_iload_n hx hb d_BM_isSet_0 rfl (lv_at hl 1 rfl) ?_
  refine r_zlt (a := k) (tgt := 22) hx hb d_BM_isSet_1 (by decide) (hk) ?_
  refine lv_iload_n hx hb d_BM_isSet_4 rfl (lv_at hl 1 rfl) ?_
  refine lv_aload_n hx hb d_BM_isSet_5 rfl (lv_at hl 0 rfl) ?_
  refine g_get (own := "GroupBitmaps$Bitmap") (C := R_BM) (T := F_BM) (N := 5) (ci := 2) (v := .ref (ad (14 + j))) hx hb hg ku_BM hown hK hI (6 + j) (wd_BM hj) rfl 1 (by decide) kw_35 rfl d_BM_isSet_6 ?_
  refine g_alen hx hb hK hI (14 + j) 1 (wd_BA hj) rfl d_BM_isSet_9 ?_
  refine r_ge (a := k) (b := gLen j) (tgt := 22) hx hb d_BM_isSet_10 (by decide) (hk) (gLen_lt _) (fun h => ?_) (fun h => ?_)
  · refine lv_iconst (v := bI true) hx hb d_BM_isSet_22 (by decide) ?_
    refine lv_goto (tgt := 27) hx hb d_BM_isSet_23 (by decide) ?_
    exact g_rz hx hb hr hlk hI (by rw [sSet_ge h]) d_BM_isSet_27
  · refine lv_aload_n hx hb d_BM_isSet_13 rfl (lv_at hl 0 rfl) ?_
    refine g_get (own := "GroupBitmaps$Bitmap") (C := R_BM) (T := F_BM) (N := 5) (ci := 2) (v := .ref (ad (14 + j))) hx hb hg ku_BM hown hK hI (6 + j) (wd_BM hj) rfl 1 (by decide) kw_35 rfl d_BM_isSet_14 ?_
    refine lv_iload_n hx hb d_BM_isSet_17 rfl (lv_at hl 1 rfl) ?_
    refine g_zald (B := (sBt σ j)) (i := k) hx hb hK hI (14 + j) 1 (wd_BA hj) rfl (h) (gLen_lt _) d_BM_isSet_18 ?_
    refine r_bz (b := (sBt σ j) k) (tgt := 26) hx hb d_BM_isSet_19 (by decide) (fun h2 => ?_) (fun h2 => ?_)
    · refine lv_iconst (v := bI false) hx hb d_BM_isSet_26 (by decide) ?_
      exact g_rz hx hb hr hlk hI (by rw [sSet_lt h, h2]) d_BM_isSet_27
    · refine lv_iconst (v := bI true) hx hb d_BM_isSet_22 (by decide) ?_
      refine lv_goto (tgt := 27) hx hb d_BM_isSet_23 (by decide) ?_
      exact g_rz hx hb hr hlk hI (by rw [sSet_lt h, h2]) d_BM_isSet_27
set_option maxHeartbeats 4000000 in
set_option maxRecDepth 100000 in
/-- occupy(k) -/
theorem c_BM_occupy {l : Launch} {D : va_G} {cG cZ cI cJ : ClassId} {ad : Nat → Nat} (σ : gS) (j : Nat) (hj : j < 8) (k : Nat) (hk : k < 2 ^ 31) (hf : sSet σ j k = false → 0 < sFr σ j) : gMet l D (gT cG cZ cI cJ) y_BM_occupy b_BM_occupy 2 none ({ frames := 1, cells := 0, slots := 0, locals := 21 }) (wd ad cG cZ σ) [.ref (ad (6 + j)), .int (nI k)] (wd ad cG cZ (sOcc σ j k)) (none) := by
  refine gMet_of (by decide) (Nat.le_of_ble_eq_true rfl) ?_
  intro p e s m below meth c A ls hC hA hI hl
  obtain ⟨hx, hb, hr, hlk, hown, hml, hg, hK⟩ := hC
  have hown : s.vm.findClass "GroupBitmaps$Bitmap" = some m.cls := hown
  have hl : lv_has ls 2 [(0, .ref (ad (6 + j))), (1, .int (nI k))] := hl
  refine lv_aload_n hx hb d_BM_occupy_0 rfl (lv_at hl 0 rfl) ?_
  refine lv_iload_n hx hb d_BM_occupy_1 rfl (lv_at hl 1 rfl) ?_
  refine g_callV (own := "GroupBitmaps$Bitmap") (C := "GroupBitmaps$Bitmap") (T := F_BM) (N := 5) (k := 1) (q0 := 6 + j) (ci := 2) (a := ad (6 + j)) (As := [.int (nI k)]) (rest := []) (c_BM_isSet σ j hj k hk) hx hb hml hown hg hK hI hA kw_264 kw_265 kw_266 kw_3 kw_267 ky_BM_isSet ⟨Nat.le_of_ble_eq_true rfl, Nat.le_of_ble_eq_true rfl⟩ rfl rfl (wd_BM hj) rfl rfl hl.1 (Nat.le_of_ble_eq_true rfl) ⟨Nat.zero_le _, Nat.zero_le _⟩ d_BM_occupy_2 rfl rfl (fun H locs hI => ?_)
  refine r_bnz (b := sSet σ j k) (tgt := 30) hx hb d_BM_occupy_5 (by decide) (fun h => ?_) (fun h => ?_)
  · rw [sOcc_t h]
    exact g_rv hx hb hr hlk hI (rfl) d_BM_occupy_30
  · rw [sOcc_f h]
    have hkl : k < gLen j := Nat.lt_of_not_le (fun q => by rw [sSet_ge q] at h; exact absurd h (by decide))
    have hf : 0 < sFr (uBt σ j (setb (sBt σ j) k true)) j := hf h
    refine lv_aload_n hx hb d_BM_occupy_8 rfl (lv_at hl 0 rfl) ?_
    refine g_get (own := "GroupBitmaps$Bitmap") (C := R_BM) (T := F_BM) (N := 5) (ci := 2) (v := .ref (ad (14 + j))) hx hb hg ku_BM hown hK hI (6 + j) (wd_BM hj) rfl 1 (by decide) kw_35 rfl d_BM_occupy_9 ?_
    refine lv_iload_n hx hb d_BM_occupy_12 rfl (lv_at hl 1 rfl) ?_
    refine lv_iconst (v := bI true) hx hb d_BM_occupy_13 (by decide) ?_
    refine g_zast (ws' := (wd ad cG cZ (uBt σ j (setb (sBt σ j) k true)))) (B := (sBt σ j)) (i := k) (b := true) hx hb hK hI (14 + j) 1 (wd_BA hj) rfl (hkl) (gLen_lt _) (wd_uBt (f := setb (sBt σ j) k true) hj) d_BM_occupy_14 (fun H locs hI => ?_)
    refine lv_aload_n hx hb d_BM_occupy_15 rfl (lv_at hl 0 rfl) ?_
    refine lv_dup hx hb d_BM_occupy_16 rfl ?_
    refine g_get (own := "GroupBitmaps$Bitmap") (C := R_BM) (T := F_BM) (N := 5) (ci := 2) (v := .int (nI (sFr (uBt σ j (setb (sBt σ j) k true)) j))) hx hb hg ku_BM hown hK hI (6 + j) (wd_BM hj) rfl 3 (by decide) kw_38 rfl d_BM_occupy_17 ?_
    refine lv_iconst (v := nI 1) hx hb d_BM_occupy_20 (by decide) ?_
    refine r_isub (a := sFr (uBt σ j (setb (sBt σ j) k true)) j) (b := 1) hx hb (by omega) d_BM_occupy_21 ?_
    refine g_put (ws' := (wd ad cG cZ (uFr (uBt σ j (setb (sBt σ j) k true)) j (sFr σ j - 1)))) (own := "GroupBitmaps$Bitmap") (C := R_BM) (T := F_BM) (N := 5) (ci := 2) (v := .int (nI ((sFr (uBt σ j (setb (sBt σ j) k true)) j) - 1))) hx hb hg ku_BM t_BM t_BM_ok n_BM hown hK hI (6 + j) (wd_BM hj) rfl 3 (by decide) kw_38 rfl rfl (rfl) (rfl) (Nat.le_of_ble_eq_true rfl) (wd_uFr hj) d_BM_occupy_22 (fun H locs hI => ?_)
    refine lv_aload_n hx hb d_BM_occupy_25 rfl (lv_at hl 0 rfl) ?_
    refine lv_iconst (v := bI true) hx hb d_BM_occupy_26 (by decide) ?_
    refine g_put (ws' := (wd ad cG cZ (uTd (uFr (uBt σ j (setb (sBt σ j) k true)) j (sFr σ j - 1)) j true))) (own := "GroupBitmaps$Bitmap") (C := R_BM) (T := F_BM) (N := 5) (ci := 2) (v := .int (bI true)) hx hb hg ku_BM t_BM t_BM_ok n_BM hown hK hI (6 + j) (wd_BM hj) rfl 4 (by decide) kw_41 rfl rfl (bI_n _) (bI_fit _) (Nat.le_of_ble_eq_true rfl) (wd_uTd hj) d_BM_occupy_27 (fun H locs hI => ?_)
    exact g_rv hx hb hr hlk hI (rfl) d_BM_occupy_30
set_option maxHeartbeats 4000000 in
set_option maxRecDepth 100000 in
/-- free(k) -/
theorem c_BM_free {l : Launch} {D : va_G} {cG cZ cI cJ : ClassId} {ad : Nat → Nat} (σ : gS) (j : Nat) (hj : j < 8) (k : Nat) (hk : k < 2 ^ 31) (hz : sSz σ j ≤ gLen j) : gMet l D (gT cG cZ cI cJ) y_BM_free b_BM_free 2 none ({ frames := 0, cells := 0, slots := 0, locals := 0 }) (wd ad cG cZ σ) [.ref (ad (6 + j)), .int (nI k)] (wd ad cG cZ (sFre σ j k)) (none) := by
  refine gMet_of (by decide) (Nat.le_of_ble_eq_true rfl) ?_
  intro p e s m below meth c A ls hC hA hI hl
  obtain ⟨hx, hb, hr, hlk, hown, hml, hg, hK⟩ := hC
  have hown : s.vm.findClass "GroupBitmaps$Bitmap" = some m.cls := hown
  have hl : lv_has ls 2 [(0, .ref (ad (6 + j))), (1, .int (nI k))] := hl
  have hz2 := gLen_le j
  refine lv_iload_n hx hb d_BM_free_0 rfl (lv_at hl 1 rfl) ?_
  refine r_zlt (a := k) (tgt := 43) hx hb d_BM_free_1 (by decide) (hk) ?_
  refine lv_iload_n hx hb d_BM_free_4 rfl (lv_at hl 1 rfl) ?_
  refine lv_aload_n hx hb d_BM_free_5 rfl (lv_at hl 0 rfl) ?_
  refine g_get (own := "GroupBitmaps$Bitmap") (C := R_BM) (T := F_BM) (N := 5) (ci := 2) (v := .int (nI (sSz σ j))) hx hb hg ku_BM hown hK hI (6 + j) (wd_BM hj) rfl 2 (by decide) kw_36 rfl d_BM_free_6 ?_
  refine r_ge (a := k) (b := sSz σ j) (tgt := 43) hx hb d_BM_free_9 (by decide) (by omega) (by omega) (fun h => ?_) (fun h => ?_)
  · rw [sFre_f1 h]
    exact g_rv hx hb hr hlk hI (rfl) d_BM_free_43
  · refine lv_aload_n hx hb d_BM_free_12 rfl (lv_at hl 0 rfl) ?_
    refine g_get (own := "GroupBitmaps$Bitmap") (C := R_BM) (T := F_BM) (N := 5) (ci := 2) (v := .ref (ad (14 + j))) hx hb hg ku_BM hown hK hI (6 + j) (wd_BM hj) rfl 1 (by decide) kw_35 rfl d_BM_free_13 ?_
    refine lv_iload_n hx hb d_BM_free_16 rfl (lv_at hl 1 rfl) ?_
    refine g_zald (B := (sBt σ j)) (i := k) hx hb hK hI (14 + j) 1 (wd_BA hj) rfl (by omega) (gLen_lt _) d_BM_free_17 ?_
    refine r_bz (b := (sBt σ j) k) (tgt := 43) hx hb d_BM_free_18 (by decide) (fun h2 => ?_) (fun h2 => ?_)
    · rw [sFre_f2 h2]
      exact g_rv hx hb hr hlk hI (rfl) d_BM_free_43
    · rw [sFre_t h h2]
      refine lv_aload_n hx hb d_BM_free_21 rfl (lv_at hl 0 rfl) ?_
      refine g_get (own := "GroupBitmaps$Bitmap") (C := R_BM) (T := F_BM) (N := 5) (ci := 2) (v := .ref (ad (14 + j))) hx hb hg ku_BM hown hK hI (6 + j) (wd_BM hj) rfl 1 (by decide) kw_35 rfl d_BM_free_22 ?_
      refine lv_iload_n hx hb d_BM_free_25 rfl (lv_at hl 1 rfl) ?_
      refine lv_iconst (v := bI false) hx hb d_BM_free_26 (by decide) ?_
      refine g_zast (ws' := (wd ad cG cZ (uBt σ j (setb (sBt σ j) k false)))) (B := (sBt σ j)) (i := k) (b := false) hx hb hK hI (14 + j) 1 (wd_BA hj) rfl (by omega) (gLen_lt _) (wd_uBt (f := setb (sBt σ j) k false) hj) d_BM_free_27 (fun H locs hI => ?_)
      refine lv_aload_n hx hb d_BM_free_28 rfl (lv_at hl 0 rfl) ?_
      refine lv_dup hx hb d_BM_free_29 rfl ?_
      refine g_get (own := "GroupBitmaps$Bitmap") (C := R_BM) (T := F_BM) (N := 5) (ci := 2) (v := .int (nI (sFr (uBt σ j (setb (sBt σ j) k false)) j))) hx hb hg ku_BM hown hK hI (6 + j) (wd_BM hj) rfl 3 (by decide) kw_38 rfl d_BM_free_30 ?_
      refine lv_iconst (v := nI 1) hx hb d_BM_free_33 (by decide) ?_
      refine r_iadd (a := sFr (uBt σ j (setb (sBt σ j) k false)) j) (b := 1) hx hb d_BM_free_34 ?_
      refine g_put (ws' := (wd ad cG cZ (uFr (uBt σ j (setb (sBt σ j) k false)) j (sFr σ j + 1)))) (own := "GroupBitmaps$Bitmap") (C := R_BM) (T := F_BM) (N := 5) (ci := 2) (v := .int (nI ((sFr (uBt σ j (setb (sBt σ j) k false)) j) + 1))) hx hb hg ku_BM t_BM t_BM_ok n_BM hown hK hI (6 + j) (wd_BM hj) rfl 3 (by decide) kw_38 rfl rfl (rfl) (rfl) (Nat.le_of_ble_eq_true rfl) (wd_uFr hj) d_BM_free_35 (fun H locs hI => ?_)
      refine lv_aload_n hx hb d_BM_free_38 rfl (lv_at hl 0 rfl) ?_
      refine lv_iconst (v := bI true) hx hb d_BM_free_39 (by decide) ?_
      refine g_put (ws' := (wd ad cG cZ (uTd (uFr (uBt σ j (setb (sBt σ j) k false)) j (sFr σ j + 1)) j true))) (own := "GroupBitmaps$Bitmap") (C := R_BM) (T := F_BM) (N := 5) (ci := 2) (v := .int (bI true)) hx hb hg ku_BM t_BM t_BM_ok n_BM hown hK hI (6 + j) (wd_BM hj) rfl 4 (by decide) kw_41 rfl rfl (bI_n _) (bI_fit _) (Nat.le_of_ble_eq_true rfl) (wd_uTd hj) d_BM_free_40 (fun H locs hI => ?_)
      exact g_rv hx hb hr hlk hI (rfl) d_BM_free_43
set_option maxHeartbeats 4000000 in
set_option maxRecDepth 100000 in
/-- layOut(a, f) -/
theorem c_BM_layOut {l : Launch} {D : va_G} {cG cZ cI cJ : ClassId} {ad : Nat → Nat} (σ : gS) (j : Nat) (hj : j < 8) (a f : Nat) (ha : a < 2 ^ 31) (hfa : f ≤ a) : gMet l D (gT cG cZ cI cJ) y_BM_layOut b_BM_layOut 4 none ({ frames := 0, cells := 0, slots := 0, locals := 0 }) (wd ad cG cZ σ) [.ref (ad (6 + j)), .int (nI a), .int (nI f)] (wd ad cG cZ (sLay σ j a f)) (none) := by
  refine gMet_of (by decide) (Nat.le_of_ble_eq_true rfl) ?_
  intro p e s m below meth c A ls hC hA hI hl
  obtain ⟨hx, hb, hr, hlk, hown, hml, hg, hK⟩ := hC
  have hown : s.vm.findClass "GroupBitmaps$Bitmap" = some m.cls := hown
  have hl : lv_has ls 4 [(0, .ref (ad (6 + j))), (1, .int (nI a)), (2, .int (nI f))] := hl
  have hz2 := gLen_le j
  refine lv_iconst (v := nI 0) hx hb d_BM_layOut_0 (by decide) ?_
  refine lv_istore_n (lv' := [(3, .int (nI 0)), (0, .ref (ad (6 + j))), (1, .int (nI a)), (2, .int (nI f))]) hx hb d_BM_layOut_1 rfl hl (by decide) rfl (fun ls hl => ?_)
  have loop : ∀ (fuel : Nat) (k : Nat), gLen j + 1 ≤ fuel + k → (k ≤ gLen j) → ∀ (H : Heap) (locs : List Loc) (ls : Array Slot), gI D A s.heap (wd ad cG cZ (uBt σ j (lyf (sBt σ j) f a k))) H locs → lv_has ls 4 [(0, .ref (ad (6 + j))), (1, .int (nI a)), (2, .int (nI f)), (3, .int (nI k))] → W p l e ({ frames := 0, cells := 0, slots := 0, locals := 0 }) s m ([.ref (ad (6 + j)), .int (nI a), .int (nI f)] : List Value).toArray below meth c H locs 0 0 (gQ D below ([.ref (ad (6 + j)), .int (nI a), .int (nI f)] : List Value).toArray s A (wd ad cG cZ (sLay σ j a f)) (none)) (F0 m 2 ls []) := by
    intro fuel
    induction fuel with
    | zero => intro k hfu hk; exact absurd hfu (by omega)
    | succ fuel ih =>
      intro k hfu hk H locs ls hI hl
      refine lv_iload_n hx hb d_BM_layOut_2 rfl (lv_at hl 3 rfl) ?_
      refine lv_aload_n hx hb d_BM_layOut_3 rfl (lv_at hl 0 rfl) ?_
      refine g_get (own := "GroupBitmaps$Bitmap") (C := R_BM) (T := F_BM) (N := 5) (ci := 2) (v := .ref (ad (14 + j))) hx hb hg ku_BM hown hK hI (6 + j) (wd_BM hj) rfl 1 (by decide) kw_35 rfl d_BM_layOut_4 ?_
      refine g_alen hx hb hK hI (14 + j) 1 (wd_BA hj) rfl d_BM_layOut_7 ?_
      refine r_ge (a := k) (b := gLen j) (tgt := 38) hx hb d_BM_layOut_8 (by decide) (by omega) (gLen_lt _) (fun h => ?_) (fun h => ?_)
      · obtain rfl : k = gLen j := by omega
        refine lv_aload_n hx hb d_BM_layOut_38 rfl (lv_at hl 0 rfl) ?_
        refine lv_iload_n hx hb d_BM_layOut_39 rfl (lv_at hl 1 rfl) ?_
        refine g_put (ws' := (wd ad cG cZ (uSz (uBt σ j (lyf (sBt σ j) f a (gLen j))) j a))) (own := "GroupBitmaps$Bitmap") (C := R_BM) (T := F_BM) (N := 5) (ci := 2) (v := .int (nI a)) hx hb hg ku_BM t_BM t_BM_ok n_BM hown hK hI (6 + j) (wd_BM hj) rfl 2 (by decide) kw_36 rfl rfl (rfl) (rfl) (Nat.le_of_ble_eq_true rfl) (wd_uSz hj) d_BM_layOut_40 (fun H locs hI => ?_)
        refine lv_aload_n hx hb d_BM_layOut_43 rfl (lv_at hl 0 rfl) ?_
        refine lv_iload_n hx hb d_BM_layOut_44 rfl (lv_at hl 1 rfl) ?_
        refine lv_iload_n hx hb d_BM_layOut_45 rfl (lv_at hl 2 rfl) ?_
        refine r_isub (a := a) (b := f) hx hb (by omega) d_BM_layOut_46 ?_
        refine g_put (ws' := (wd ad cG cZ (uFr (uSz (uBt σ j (lyf (sBt σ j) f a (gLen j))) j a) j (a - f)))) (own := "GroupBitmaps$Bitmap") (C := R_BM) (T := F_BM) (N := 5) (ci := 2) (v := .int (nI (a - f))) hx hb hg ku_BM t_BM t_BM_ok n_BM hown hK hI (6 + j) (wd_BM hj) rfl 3 (by decide) kw_38 rfl rfl (rfl) (rfl) (Nat.le_of_ble_eq_true rfl) (wd_uFr hj) d_BM_layOut_47 (fun H locs hI => ?_)
        refine lv_aload_n hx hb d_BM_layOut_50 rfl (lv_at hl 0 rfl) ?_
        refine lv_iconst (v := bI true) hx hb d_BM_layOut_51 (by decide) ?_
        refine g_put (ws' := (wd ad cG cZ (uTd (uFr (uSz (uBt σ j (lyf (sBt σ j) f a (gLen j))) j a) j (a - f)) j true))) (own := "GroupBitmaps$Bitmap") (C := R_BM) (T := F_BM) (N := 5) (ci := 2) (v := .int (bI true)) hx hb hg ku_BM t_BM t_BM_ok n_BM hown hK hI (6 + j) (wd_BM hj) rfl 4 (by decide) kw_41 rfl rfl (bI_n _) (bI_fit _) (Nat.le_of_ble_eq_true rfl) (wd_uTd hj) d_BM_layOut_52 (fun H locs hI => ?_)
        exact g_rv hx hb hr hlk hI (rfl) d_BM_layOut_55
      · refine lv_aload_n hx hb d_BM_layOut_11 rfl (lv_at hl 0 rfl) ?_
        refine g_get (own := "GroupBitmaps$Bitmap") (C := R_BM) (T := F_BM) (N := 5) (ci := 2) (v := .ref (ad (14 + j))) hx hb hg ku_BM hown hK hI (6 + j) (wd_BM hj) rfl 1 (by decide) kw_35 rfl d_BM_layOut_12 ?_
        refine lv_iload_n hx hb d_BM_layOut_15 rfl (lv_at hl 3 rfl) ?_
        refine lv_iload_n hx hb d_BM_layOut_16 rfl (lv_at hl 3 rfl) ?_
        refine lv_iload_n hx hb d_BM_layOut_17 rfl (lv_at hl 2 rfl) ?_
        refine r_lt (a := k) (b := f) (tgt := 26) hx hb d_BM_layOut_18 (by decide) (by omega) (by omega) (fun h2 => ?_) (fun h2 => ?_)
        · refine lv_iconst (v := bI true) hx hb d_BM_layOut_26 (by decide) ?_
          refine lv_goto (tgt := 31) hx hb d_BM_layOut_27 (by decide) ?_
          refine g_zast (ws' := (wd ad cG cZ (uBt σ j (lyf (sBt σ j) f a (k + 1))))) (B := (sBt (uBt σ j (lyf (sBt σ j) f a k)) j)) (i := k) (b := true) hx hb hK hI (14 + j) 1 (wd_BA hj) rfl (by omega) (gLen_lt _) (lay_step hj (by simp [lyv]; omega)) d_BM_layOut_31 (fun H locs hI => ?_)
          refine lv_iinc (v := nI (k + 1)) (lv' := [(3, .int (nI (k + 1))), (0, .ref (ad (6 + j))), (1, .int (nI a)), (2, .int (nI f))]) hx hb d_BM_layOut_32 hl (k := 3) rfl (nI_1 _) (by decide) rfl (fun ls hl => ?_)
          refine lv_goto (tgt := 2) hx hb d_BM_layOut_35 (by decide) ?_
          exact ih (k + 1) (by omega) (by omega) _ _ _ hI (lv_sub hl [1, 2, 3, 0] rfl)
        · refine lv_iload_n hx hb d_BM_layOut_21 rfl (lv_at hl 3 rfl) ?_
          refine lv_iload_n hx hb d_BM_layOut_22 rfl (lv_at hl 1 rfl) ?_
          refine r_lt (a := k) (b := a) (tgt := 30) hx hb d_BM_layOut_23 (by decide) (by omega) (by omega) (fun h3 => ?_) (fun h3 => ?_)
          · refine lv_iconst (v := bI false) hx hb d_BM_layOut_30 (by decide) ?_
            refine g_zast (ws' := (wd ad cG cZ (uBt σ j (lyf (sBt σ j) f a (k + 1))))) (B := (sBt (uBt σ j (lyf (sBt σ j) f a k)) j)) (i := k) (b := false) hx hb hK hI (14 + j) 1 (wd_BA hj) rfl (by omega) (gLen_lt _) (lay_step hj (by simp [lyv]; omega)) d_BM_layOut_31 (fun H locs hI => ?_)
            refine lv_iinc (v := nI (k + 1)) (lv' := [(3, .int (nI (k + 1))), (0, .ref (ad (6 + j))), (1, .int (nI a)), (2, .int (nI f))]) hx hb d_BM_layOut_32 hl (k := 3) rfl (nI_1 _) (by decide) rfl (fun ls hl => ?_)
            refine lv_goto (tgt := 2) hx hb d_BM_layOut_35 (by decide) ?_
            exact ih (k + 1) (by omega) (by omega) _ _ _ hI (lv_sub hl [1, 2, 3, 0] rfl)
          · refine lv_iconst (v := bI true) hx hb d_BM_layOut_26 (by decide) ?_
            refine lv_goto (tgt := 31) hx hb d_BM_layOut_27 (by decide) ?_
            refine g_zast (ws' := (wd ad cG cZ (uBt σ j (lyf (sBt σ j) f a (k + 1))))) (B := (sBt (uBt σ j (lyf (sBt σ j) f a k)) j)) (i := k) (b := true) hx hb hK hI (14 + j) 1 (wd_BA hj) rfl (by omega) (gLen_lt _) (lay_step hj (by simp [lyv]; omega)) d_BM_layOut_31 (fun H locs hI => ?_)
            refine lv_iinc (v := nI (k + 1)) (lv' := [(3, .int (nI (k + 1))), (0, .ref (ad (6 + j))), (1, .int (nI a)), (2, .int (nI f))]) hx hb d_BM_layOut_32 hl (k := 3) rfl (nI_1 _) (by decide) rfl (fun ls hl => ?_)
            refine lv_goto (tgt := 2) hx hb d_BM_layOut_35 (by decide) ?_
            exact ih (k + 1) (by omega) (by omega) _ _ _ hI (lv_sub hl [1, 2, 3, 0] rfl)
  exact loop (gLen j + 1) 0 (by omega) (Nat.zero_le _) _ _ _ (by rw [lyf_0, uBt_id]; exact hI) (lv_sub hl [1, 2, 3, 0] rfl)
set_option maxHeartbeats 4000000 in
set_option maxRecDepth 100000 in
/-- forgetTold() -/
theorem c_BM_forgetTold {l : Launch} {D : va_G} {cG cZ cI cJ : ClassId} {ad : Nat → Nat} (σ : gS) (j : Nat) (hj : j < 8)  : gMet l D (gT cG cZ cI cJ) y_BM_forgetTold b_BM_forgetTold 2 (some .int) ({ frames := 0, cells := 0, slots := 0, locals := 0 }) (wd ad cG cZ σ) [.ref (ad (6 + j))] (wd ad cG cZ (uTd σ j false)) (some (.int (nI (if sTd σ j = true then 1 else 0)))) := by
  refine gMet_of (by decide) (Nat.le_of_ble_eq_true rfl) ?_
  intro p e s m below meth c A ls hC hA hI hl
  obtain ⟨hx, hb, hr, hlk, hown, hml, hg, hK⟩ := hC
  have hown : s.vm.findClass "GroupBitmaps$Bitmap" = some m.cls := hown
  have hl : lv_has ls 2 [(0, .ref (ad (6 + j)))] := hl
  refine lv_aload_n hx hb d_BM_forgetTold_0 rfl (lv_at hl 0 rfl) ?_
  refine g_get (own := "GroupBitmaps$Bitmap") (C := R_BM) (T := F_BM) (N := 5) (ci := 2) (v := .int (bI (sTd σ j))) hx hb hg ku_BM hown hK hI (6 + j) (wd_BM hj) rfl 4 (by decide) kw_41 rfl d_BM_forgetTold_1 ?_
  refine r_bz (b := sTd σ j) (tgt := 11) hx hb d_BM_forgetTold_4 (by decide) (fun h => ?_) (fun h => ?_)
  · refine lv_iconst (v := nI 0) hx hb d_BM_forgetTold_11 (by decide) ?_
    refine lv_istore_n (lv' := [(1, .int (nI 0)), (0, .ref (ad (6 + j)))]) hx hb d_BM_forgetTold_12 rfl hl (by decide) rfl (fun ls hl => ?_)
    refine lv_aload_n hx hb d_BM_forgetTold_13 rfl (lv_at hl 1 rfl) ?_
    refine lv_iconst (v := bI false) hx hb d_BM_forgetTold_14 (by decide) ?_
    refine g_put (ws' := (wd ad cG cZ (uTd σ j false))) (own := "GroupBitmaps$Bitmap") (C := R_BM) (T := F_BM) (N := 5) (ci := 2) (v := .int (bI false)) hx hb hg ku_BM t_BM t_BM_ok n_BM hown hK hI (6 + j) (wd_BM hj) rfl 4 (by decide) kw_41 rfl rfl (bI_n _) (bI_fit _) (Nat.le_of_ble_eq_true rfl) (wd_uTd hj) d_BM_forgetTold_15 (fun H locs hI => ?_)
    refine lv_iload_n hx hb d_BM_forgetTold_18 rfl (lv_at hl 0 rfl) ?_
    exact g_ri hx hb hr hlk hI (by rw [h]; rfl) d_BM_forgetTold_19
  · refine lv_iconst (v := nI 1) hx hb d_BM_forgetTold_7 (by decide) ?_
    refine lv_goto (tgt := 12) hx hb d_BM_forgetTold_8 (by decide) ?_
    refine lv_istore_n (lv' := [(1, .int (nI 1)), (0, .ref (ad (6 + j)))]) hx hb d_BM_forgetTold_12 rfl hl (by decide) rfl (fun ls hl => ?_)
    refine lv_aload_n hx hb d_BM_forgetTold_13 rfl (lv_at hl 1 rfl) ?_
    refine lv_iconst (v := bI false) hx hb d_BM_forgetTold_14 (by decide) ?_
    refine g_put (ws' := (wd ad cG cZ (uTd σ j false))) (own := "GroupBitmaps$Bitmap") (C := R_BM) (T := F_BM) (N := 5) (ci := 2) (v := .int (bI false)) hx hb hg ku_BM t_BM t_BM_ok n_BM hown hK hI (6 + j) (wd_BM hj) rfl 4 (by decide) kw_41 rfl rfl (bI_n _) (bI_fit _) (Nat.le_of_ble_eq_true rfl) (wd_uTd hj) d_BM_forgetTold_15 (fun H locs hI => ?_)
    refine lv_iload_n hx hb d_BM_forgetTold_18 rfl (lv_at hl 0 rfl) ?_
    exact g_ri hx hb hr hlk hI (by rw [h]; rfl) d_BM_forgetTold_19
