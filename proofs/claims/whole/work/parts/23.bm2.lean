set_option maxHeartbeats 4000000 in
set_option maxRecDepth 100000 in
/-- byteAt(i) -/
theorem c_BM_byteAt {l : Launch} {D : va_G} {cG cZ cI cJ : ClassId} {ad : Nat → Nat} (σ : gS) (j : Nat) (hj : j < 8) (i : Nat) (hi : i < 4096) : gMet l D (gT cG cZ cI cJ) y_BM_byteAt b_BM_byteAt 4 (some .int) ({ frames := 1, cells := 0, slots := 0, locals := 21 }) (wd ad cG cZ σ) [.ref (ad (6 + j)), .int (nI i)] (wd ad cG cZ σ) (some (.int (nI (sBy σ j i 8)))) := by
  refine gMet_of (by decide) (Nat.le_of_ble_eq_true rfl) ?_
  intro p e s m below meth c A ls hC hA hI hl
  obtain ⟨hx, hb, hr, hlk, hown, hml, hg, hK⟩ := hC
  have hown : s.vm.findClass "GroupBitmaps$Bitmap" = some m.cls := hown
  have hl : lv_has ls 4 [(0, .ref (ad (6 + j))), (1, .int (nI i))] := hl
  have hz2 := gLen_le j
  refine lv_iconst (v := nI 0) hx hb d_BM_byteAt_0 (by decide) ?_
  refine lv_istore_n (lv' := [(2, .int (nI 0)), (0, .ref (ad (6 + j))), (1, .int (nI i))]) hx hb d_BM_byteAt_1 rfl hl (by decide) rfl (fun ls hl => ?_)
  refine lv_iconst (v := nI 0) hx hb d_BM_byteAt_2 (by decide) ?_
  refine lv_istore_n (lv' := [(3, .int (nI 0)), (2, .int (nI 0)), (0, .ref (ad (6 + j))), (1, .int (nI i))]) hx hb d_BM_byteAt_3 rfl hl (by decide) rfl (fun ls hl => ?_)
  have loop : ∀ (fuel : Nat) (k : Nat), 9 ≤ fuel + k → (k ≤ 8) → ∀ (H : Heap) (locs : List Loc) (ls : Array Slot), gI D A s.heap (wd ad cG cZ σ) H locs → lv_has ls 4 [(0, .ref (ad (6 + j))), (1, .int (nI i)), (2, .int (nI (sBy σ j i k))), (3, .int (nI k))] → W p l e ({ frames := 1, cells := 0, slots := 0, locals := 21 }) s m ([.ref (ad (6 + j)), .int (nI i)] : List Value).toArray below meth c H locs 0 0 (gQ D below ([.ref (ad (6 + j)), .int (nI i)] : List Value).toArray s A (wd ad cG cZ σ) (some (.int (nI (sBy σ j i 8))))) (F0 m 4 ls []) := by
    intro fuel
    induction fuel with
    | zero => intro k hfu hk; exact absurd hfu (by omega)
    | succ fuel ih =>
      intro k hfu hk H locs ls hI hl
      refine lv_iload_n hx hb d_BM_byteAt_4 rfl (lv_at hl 3 rfl) ?_
      refine lv_bipush (v := nI 8) hx hb d_BM_byteAt_5 (by decide) ?_
      refine r_ge (a := k) (b := 8) (tgt := 35) hx hb d_BM_byteAt_7 (by decide) (by omega) (by omega) (fun h => ?_) (fun h => ?_)
      · obtain rfl : k = 8 := by omega
        refine lv_iload_n hx hb d_BM_byteAt_35 rfl (lv_at hl 2 rfl) ?_
        exact g_ri hx hb hr hlk hI (rfl) d_BM_byteAt_36
      · refine lv_aload_n hx hb d_BM_byteAt_10 rfl (lv_at hl 0 rfl) ?_
        refine lv_bipush (v := nI 8) hx hb d_BM_byteAt_11 (by decide) ?_
        refine lv_iload_n hx hb d_BM_byteAt_13 rfl (lv_at hl 1 rfl) ?_
        refine r_imul (a := 8) (b := i) hx hb d_BM_byteAt_14 ?_
        refine lv_iload_n hx hb d_BM_byteAt_15 rfl (lv_at hl 3 rfl) ?_
        refine r_iadd (a := 8 * i) (b := k) hx hb d_BM_byteAt_16 ?_
        refine g_callV (own := "GroupBitmaps$Bitmap") (C := "GroupBitmaps$Bitmap") (T := F_BM) (N := 5) (k := 1) (q0 := 6 + j) (ci := 2) (a := ad (6 + j)) (As := [.int (nI ((8 * i) + k))]) (rest := []) (c_BM_isSet σ j hj (8 * i + k) (by omega)) hx hb hml hown hg hK hI hA kw_264 kw_265 kw_266 kw_3 kw_267 ky_BM_isSet ⟨Nat.le_of_ble_eq_true rfl, Nat.le_of_ble_eq_true rfl⟩ rfl rfl (wd_BM hj) rfl rfl hl.1 (Nat.le_of_ble_eq_true rfl) ⟨Nat.zero_le _, Nat.zero_le _⟩ d_BM_byteAt_17 rfl rfl (fun H locs hI => ?_)
        refine r_bz (b := sSet σ j (8 * i + k)) (tgt := 29) hx hb d_BM_byteAt_20 (by decide) (fun h2 => ?_) (fun h2 => ?_)
        · have e1 : sBy σ j i (k + 1) = sBy σ j i k := by simp [sBy, h2]
          refine lv_iinc (v := nI (k + 1)) (lv' := [(3, .int (nI (k + 1))), (0, .ref (ad (6 + j))), (1, .int (nI i)), (2, .int (nI (sBy σ j i k)))]) hx hb d_BM_byteAt_29 hl (k := 3) rfl (nI_1 _) (by decide) rfl (fun ls hl => ?_)
          refine lv_goto (tgt := 4) hx hb d_BM_byteAt_32 (by decide) ?_
          exact ih (k + 1) (by omega) (by omega) _ _ _ hI (by rw [e1]; exact lv_sub hl [1, 2, 3, 0] rfl)
        · have e1 : sBy σ j i (k + 1) = sBy σ j i k + 2 ^ k := by simp [sBy, h2]
          refine lv_iload_n hx hb d_BM_byteAt_23 rfl (lv_at hl 2 rfl) ?_
          refine lv_iconst (v := nI 1) hx hb d_BM_byteAt_24 (by decide) ?_
          refine lv_iload_n hx hb d_BM_byteAt_25 rfl (lv_at hl 3 rfl) ?_
          refine lv_ishl hx hb d_BM_byteAt_26 ?_
          refine lv_ior hx hb d_BM_byteAt_27 ?_
          rw [byo k (by omega) _ (sBy_lt σ j i k)]
          refine lv_istore_n (lv' := [(2, .int (nI (sBy σ j i k + 2 ^ k))), (0, .ref (ad (6 + j))), (1, .int (nI i)), (3, .int (nI k))]) hx hb d_BM_byteAt_28 rfl hl (by decide) rfl (fun ls hl => ?_)
          refine lv_iinc (v := nI (k + 1)) (lv' := [(3, .int (nI (k + 1))), (2, .int (nI (sBy σ j i k + 2 ^ k))), (0, .ref (ad (6 + j))), (1, .int (nI i))]) hx hb d_BM_byteAt_29 hl (k := 3) rfl (nI_1 _) (by decide) rfl (fun ls hl => ?_)
          refine lv_goto (tgt := 4) hx hb d_BM_byteAt_32 (by decide) ?_
          exact ih (k + 1) (by omega) (by omega) _ _ _ hI (by rw [e1]; exact lv_sub hl [2, 3, 1, 0] rfl)
  exact loop 9 0 (by omega) (by omega) _ _ _ hI (lv_sub hl [2, 3, 1, 0] rfl)
set_option maxHeartbeats 4000000 in
set_option maxRecDepth 100000 in
/-- leastFree() -/
theorem c_BM_leastFree {l : Launch} {D : va_G} {cG cZ cI cJ : ClassId} {ad : Nat → Nat} (σ : gS) (j : Nat) (hj : j < 8) (hz : sSz σ j ≤ gLen j) : gMet l D (gT cG cZ cI cJ) y_BM_leastFree b_BM_leastFree 2 (some .int) ({ frames := 1, cells := 0, slots := 0, locals := 21 }) (wd ad cG cZ σ) [.ref (ad (6 + j))] (wd ad cG cZ σ) (some (.int (oI (sLf σ j (sSz σ j))))) := by
  refine gMet_of (by decide) (Nat.le_of_ble_eq_true rfl) ?_
  intro p e s m below meth c A ls hC hA hI hl
  obtain ⟨hx, hb, hr, hlk, hown, hml, hg, hK⟩ := hC
  have hown : s.vm.findClass "GroupBitmaps$Bitmap" = some m.cls := hown
  have hl : lv_has ls 2 [(0, .ref (ad (6 + j)))] := hl
  have hz2 := gLen_le j
  refine lv_iconst (v := nI 0) hx hb d_BM_leastFree_0 (by decide) ?_
  refine lv_istore_n (lv' := [(1, .int (nI 0)), (0, .ref (ad (6 + j)))]) hx hb d_BM_leastFree_1 rfl hl (by decide) rfl (fun ls hl => ?_)
  have loop : ∀ (fuel : Nat) (k : Nat), sSz σ j + 1 ≤ fuel + k → (k ≤ sSz σ j) → (sLf σ j k = none) → ∀ (H : Heap) (locs : List Loc) (ls : Array Slot), gI D A s.heap (wd ad cG cZ σ) H locs → lv_has ls 2 [(0, .ref (ad (6 + j))), (1, .int (nI k))] → W p l e ({ frames := 1, cells := 0, slots := 0, locals := 21 }) s m ([.ref (ad (6 + j))] : List Value).toArray below meth c H locs 0 0 (gQ D below ([.ref (ad (6 + j))] : List Value).toArray s A (wd ad cG cZ σ) (some (.int (oI (sLf σ j (sSz σ j)))))) (F0 m 2 ls []) := by
    intro fuel
    induction fuel with
    | zero => intro k hfu hk hn; exact absurd hfu (by omega)
    | succ fuel ih =>
      intro k hfu hk hn H locs ls hI hl
      refine lv_iload_n hx hb d_BM_leastFree_2 rfl (lv_at hl 1 rfl) ?_
      refine lv_aload_n hx hb d_BM_leastFree_3 rfl (lv_at hl 0 rfl) ?_
      refine g_get (own := "GroupBitmaps$Bitmap") (C := R_BM) (T := F_BM) (N := 5) (ci := 2) (v := .int (nI (sSz σ j))) hx hb hg ku_BM hown hK hI (6 + j) (wd_BM hj) rfl 2 (by decide) kw_36 rfl d_BM_leastFree_4 ?_
      refine r_ge (a := k) (b := sSz σ j) (tgt := 26) hx hb d_BM_leastFree_7 (by decide) (by omega) (by omega) (fun h => ?_) (fun h => ?_)
      · obtain rfl : k = sSz σ j := by omega
        refine lv_iconst (v := (-1)) hx hb d_BM_leastFree_26 (by decide) ?_
        exact g_ri hx hb hr hlk hI (by rw [hn]; rfl) d_BM_leastFree_27
      · refine lv_aload_n hx hb d_BM_leastFree_10 rfl (lv_at hl 0 rfl) ?_
        refine lv_iload_n hx hb d_BM_leastFree_11 rfl (lv_at hl 1 rfl) ?_
        refine g_callV (own := "GroupBitmaps$Bitmap") (C := "GroupBitmaps$Bitmap") (T := F_BM) (N := 5) (k := 1) (q0 := 6 + j) (ci := 2) (a := ad (6 + j)) (As := [.int (nI k)]) (rest := []) (c_BM_isSet σ j hj k (by omega)) hx hb hml hown hg hK hI hA kw_264 kw_265 kw_266 kw_3 kw_267 ky_BM_isSet ⟨Nat.le_of_ble_eq_true rfl, Nat.le_of_ble_eq_true rfl⟩ rfl rfl (wd_BM hj) rfl rfl hl.1 (Nat.le_of_ble_eq_true rfl) ⟨Nat.zero_le _, Nat.zero_le _⟩ d_BM_leastFree_12 rfl rfl (fun H locs hI => ?_)
        refine r_bnz (b := sSet σ j k) (tgt := 20) hx hb d_BM_leastFree_15 (by decide) (fun h2 => ?_) (fun h2 => ?_)
        · refine lv_iinc (v := nI (k + 1)) (lv' := [(1, .int (nI (k + 1))), (0, .ref (ad (6 + j)))]) hx hb d_BM_leastFree_20 hl (k := 1) rfl (nI_1 _) (by decide) rfl (fun ls hl => ?_)
          refine lv_goto (tgt := 2) hx hb d_BM_leastFree_23 (by decide) ?_
          exact ih (k + 1) (by omega) (by omega) (sLf_step hn h2) _ _ _ hI (lv_sub hl [1, 0] rfl)
        · refine lv_iload_n hx hb d_BM_leastFree_18 rfl (lv_at hl 1 rfl) ?_
          exact g_ri hx hb hr hlk hI (by rw [sLf_some hn h2 h]; rfl) d_BM_leastFree_19
  exact loop (sSz σ j + 1) 0 (by omega) (Nat.zero_le _) rfl _ _ _ hI (lv_sub hl [1, 0] rfl)
set_option maxHeartbeats 4000000 in
set_option maxRecDepth 100000 in
/-- areFree(a, q) -/
theorem c_BM_areFree {l : Launch} {D : va_G} {cG cZ cI cJ : ClassId} {ad : Nat → Nat} (σ : gS) (j : Nat) (hj : j < 8) (a q : Nat) (ha : a < 65536) (hq : q < 65536) : gMet l D (gT cG cZ cI cJ) y_BM_areFree b_BM_areFree 4 (some .boolean) ({ frames := 1, cells := 0, slots := 0, locals := 21 }) (wd ad cG cZ σ) [.ref (ad (6 + j)), .int (nI a), .int (nI q)] (wd ad cG cZ σ) (some (.int (bI (sAf σ j a q)))) := by
  refine gMet_of (by decide) (Nat.le_of_ble_eq_true rfl) ?_
  intro p e s m below meth c A ls hC hA hI hl
  obtain ⟨hx, hb, hr, hlk, hown, hml, hg, hK⟩ := hC
  have hown : s.vm.findClass "GroupBitmaps$Bitmap" = some m.cls := hown
  have hl : lv_has ls 4 [(0, .ref (ad (6 + j))), (1, .int (nI a)), (2, .int (nI q))] := hl
  have hz2 := gLen_le j
  refine lv_iload_n hx hb d_BM_areFree_0 rfl (lv_at hl 1 rfl) ?_
  refine lv_istore_n (lv' := [(3, .int (nI a)), (0, .ref (ad (6 + j))), (1, .int (nI a)), (2, .int (nI q))]) hx hb d_BM_areFree_1 rfl hl (by decide) rfl (fun ls hl => ?_)
  have loop : ∀ (fuel : Nat) (t : Nat), q + 1 ≤ fuel + t → (t ≤ q) → (sAf σ j a t = true) → ∀ (H : Heap) (locs : List Loc) (ls : Array Slot), gI D A s.heap (wd ad cG cZ σ) H locs → lv_has ls 4 [(0, .ref (ad (6 + j))), (1, .int (nI a)), (2, .int (nI q)), (3, .int (nI (a + t)))] → W p l e ({ frames := 1, cells := 0, slots := 0, locals := 21 }) s m ([.ref (ad (6 + j)), .int (nI a), .int (nI q)] : List Value).toArray below meth c H locs 0 0 (gQ D below ([.ref (ad (6 + j)), .int (nI a), .int (nI q)] : List Value).toArray s A (wd ad cG cZ σ) (some (.int (bI (sAf σ j a q))))) (F0 m 2 ls []) := by
    intro fuel
    induction fuel with
    | zero => intro t hfu ht hn; exact absurd hfu (by omega)
    | succ fuel ih =>
      intro t hfu ht hn H locs ls hI hl
      refine lv_iload_n hx hb d_BM_areFree_2 rfl (lv_at hl 3 rfl) ?_
      refine lv_iload_n hx hb d_BM_areFree_3 rfl (lv_at hl 1 rfl) ?_
      refine lv_iload_n hx hb d_BM_areFree_4 rfl (lv_at hl 2 rfl) ?_
      refine r_iadd (a := a) (b := q) hx hb d_BM_areFree_5 ?_
      refine r_ge (a := a + t) (b := a + q) (tgt := 25) hx hb d_BM_areFree_6 (by decide) (by omega) (by omega) (fun h => ?_) (fun h => ?_)
      · obtain rfl : t = q := by omega
        refine lv_iconst (v := bI true) hx hb d_BM_areFree_25 (by decide) ?_
        exact g_rz hx hb hr hlk hI (by rw [hn]) d_BM_areFree_26
      · refine lv_aload_n hx hb d_BM_areFree_9 rfl (lv_at hl 0 rfl) ?_
        refine lv_iload_n hx hb d_BM_areFree_10 rfl (lv_at hl 3 rfl) ?_
        refine g_callV (own := "GroupBitmaps$Bitmap") (C := "GroupBitmaps$Bitmap") (T := F_BM) (N := 5) (k := 1) (q0 := 6 + j) (ci := 2) (a := ad (6 + j)) (As := [.int (nI (a + t))]) (rest := []) (c_BM_isSet σ j hj (a + t) (by omega)) hx hb hml hown hg hK hI hA kw_264 kw_265 kw_266 kw_3 kw_267 ky_BM_isSet ⟨Nat.le_of_ble_eq_true rfl, Nat.le_of_ble_eq_true rfl⟩ rfl rfl (wd_BM hj) rfl rfl hl.1 (Nat.le_of_ble_eq_true rfl) ⟨Nat.zero_le _, Nat.zero_le _⟩ d_BM_areFree_11 rfl rfl (fun H locs hI => ?_)
        refine r_bz (b := sSet σ j (a + t)) (tgt := 19) hx hb d_BM_areFree_14 (by decide) (fun h2 => ?_) (fun h2 => ?_)
        · refine lv_iinc (v := nI ((a + t) + 1)) (lv' := [(3, .int (nI ((a + t) + 1))), (0, .ref (ad (6 + j))), (1, .int (nI a)), (2, .int (nI q))]) hx hb d_BM_areFree_19 hl (k := 3) rfl (nI_1 _) (by decide) rfl (fun ls hl => ?_)
          refine lv_goto (tgt := 2) hx hb d_BM_areFree_22 (by decide) ?_
          exact ih (t + 1) (by omega) (by omega) (sAf_step hn h2) _ _ _ hI (lv_sub hl [1, 2, 3, 0] rfl)
        · refine lv_iconst (v := bI false) hx hb d_BM_areFree_17 (by decide) ?_
          exact g_rz hx hb hr hlk hI (by rw [sAf_false h2 (by omega)]) d_BM_areFree_18
  exact loop (q + 1) 0 (by omega) (Nat.zero_le _) rfl _ _ _ hI (lv_sub hl [1, 2, 3, 0] rfl)
set_option maxHeartbeats 4000000 in
set_option maxRecDepth 100000 in
/-- longestRun() -/
theorem c_BM_longestRun {l : Launch} {D : va_G} {cG cZ cI cJ : ClassId} {ad : Nat → Nat} (σ : gS) (j : Nat) (hj : j < 8) (hz : sSz σ j ≤ gLen j) : gMet l D (gT cG cZ cI cJ) y_BM_longestRun b_BM_longestRun 4 (some .int) ({ frames := 1, cells := 0, slots := 0, locals := 21 }) (wd ad cG cZ σ) [.ref (ad (6 + j))] (wd ad cG cZ σ) (some (.int (nI (sLr σ j (sSz σ j)).1))) := by
  refine gMet_of (by decide) (Nat.le_of_ble_eq_true rfl) ?_
  intro p e s m below meth c A ls hC hA hI hl
  obtain ⟨hx, hb, hr, hlk, hown, hml, hg, hK⟩ := hC
  have hown : s.vm.findClass "GroupBitmaps$Bitmap" = some m.cls := hown
  have hl : lv_has ls 4 [(0, .ref (ad (6 + j)))] := hl
  have hz2 := gLen_le j
  refine lv_iconst (v := nI 0) hx hb d_BM_longestRun_0 (by decide) ?_
  refine lv_istore_n (lv' := [(1, .int (nI 0)), (0, .ref (ad (6 + j)))]) hx hb d_BM_longestRun_1 rfl hl (by decide) rfl (fun ls hl => ?_)
  refine lv_iconst (v := nI 0) hx hb d_BM_longestRun_2 (by decide) ?_
  refine lv_istore_n (lv' := [(2, .int (nI 0)), (1, .int (nI 0)), (0, .ref (ad (6 + j)))]) hx hb d_BM_longestRun_3 rfl hl (by decide) rfl (fun ls hl => ?_)
  refine lv_iconst (v := nI 0) hx hb d_BM_longestRun_4 (by decide) ?_
  refine lv_istore_n (lv' := [(3, .int (nI 0)), (2, .int (nI 0)), (1, .int (nI 0)), (0, .ref (ad (6 + j)))]) hx hb d_BM_longestRun_5 rfl hl (by decide) rfl (fun ls hl => ?_)
  have loop : ∀ (fuel : Nat) (k : Nat), sSz σ j + 1 ≤ fuel + k → (k ≤ sSz σ j) → ∀ (H : Heap) (locs : List Loc) (ls : Array Slot), gI D A s.heap (wd ad cG cZ σ) H locs → lv_has ls 4 [(0, .ref (ad (6 + j))), (1, .int (nI ((sLr σ j k).1))), (2, .int (nI ((sLr σ j k).2))), (3, .int (nI k))] → W p l e ({ frames := 1, cells := 0, slots := 0, locals := 21 }) s m ([.ref (ad (6 + j))] : List Value).toArray below meth c H locs 0 0 (gQ D below ([.ref (ad (6 + j))] : List Value).toArray s A (wd ad cG cZ σ) (some (.int (nI (sLr σ j (sSz σ j)).1)))) (F0 m 6 ls []) := by
    intro fuel
    induction fuel with
    | zero => intro k hfu hk; exact absurd hfu (by omega)
    | succ fuel ih =>
      intro k hfu hk H locs ls hI hl
      have hle := sLr_le σ j k
      refine lv_iload_n hx hb d_BM_longestRun_6 rfl (lv_at hl 3 rfl) ?_
      refine lv_aload_n hx hb d_BM_longestRun_7 rfl (lv_at hl 0 rfl) ?_
      refine g_get (own := "GroupBitmaps$Bitmap") (C := R_BM) (T := F_BM) (N := 5) (ci := 2) (v := .int (nI (sSz σ j))) hx hb hg ku_BM hown hK hI (6 + j) (wd_BM hj) rfl 2 (by decide) kw_36 rfl d_BM_longestRun_8 ?_
      refine r_ge (a := k) (b := sSz σ j) (tgt := 42) hx hb d_BM_longestRun_11 (by decide) (by omega) (by omega) (fun h => ?_) (fun h => ?_)
      · obtain rfl : k = sSz σ j := by omega
        refine lv_iload_n hx hb d_BM_longestRun_42 rfl (lv_at hl 1 rfl) ?_
        exact g_ri hx hb hr hlk hI (rfl) d_BM_longestRun_43
      · refine lv_aload_n hx hb d_BM_longestRun_14 rfl (lv_at hl 0 rfl) ?_
        refine lv_iload_n hx hb d_BM_longestRun_15 rfl (lv_at hl 3 rfl) ?_
        refine g_callV (own := "GroupBitmaps$Bitmap") (C := "GroupBitmaps$Bitmap") (T := F_BM) (N := 5) (k := 1) (q0 := 6 + j) (ci := 2) (a := ad (6 + j)) (As := [.int (nI k)]) (rest := []) (c_BM_isSet σ j hj k (by omega)) hx hb hml hown hg hK hI hA kw_264 kw_265 kw_266 kw_3 kw_267 ky_BM_isSet ⟨Nat.le_of_ble_eq_true rfl, Nat.le_of_ble_eq_true rfl⟩ rfl rfl (wd_BM hj) rfl rfl hl.1 (Nat.le_of_ble_eq_true rfl) ⟨Nat.zero_le _, Nat.zero_le _⟩ d_BM_longestRun_16 rfl rfl (fun H locs hI => ?_)
        refine r_bz (b := sSet σ j k) (tgt := 26) hx hb d_BM_longestRun_19 (by decide) (fun h2 => ?_) (fun h2 => ?_)
        · have e1 := sLr_f h2
          refine lv_iload_n hx hb d_BM_longestRun_26 rfl (lv_at hl 2 rfl) ?_
          refine lv_iconst (v := nI 1) hx hb d_BM_longestRun_27 (by decide) ?_
          refine r_iadd (a := (sLr σ j k).2) (b := 1) hx hb d_BM_longestRun_28 ?_
          refine lv_istore_n (lv' := [(2, .int (nI (((sLr σ j k).2) + 1))), (0, .ref (ad (6 + j))), (1, .int (nI ((sLr σ j k).1))), (3, .int (nI k))]) hx hb d_BM_longestRun_29 rfl hl (by decide) rfl (fun ls hl => ?_)
          refine lv_iload_n hx hb d_BM_longestRun_30 rfl (lv_at hl 2 rfl) ?_
          refine lv_iload_n hx hb d_BM_longestRun_31 rfl (lv_at hl 0 rfl) ?_
          refine r_max (a := (sLr σ j k).1) (b := ((sLr σ j k).2) + 1) (own := "GroupBitmaps$Bitmap") hx hb hml hl.1 hown hg kw_292 kw_213 kw_9 kw_214 (Nat.le_of_ble_eq_true rfl) (Nat.le_of_ble_eq_true rfl) (Nat.zero_le _) (Nat.zero_le _) (by omega) (by omega) d_BM_longestRun_32 ?_
          refine lv_istore_n (lv' := [(1, .int (nI (Nat.max ((sLr σ j k).1) (((sLr σ j k).2) + 1)))), (2, .int (nI (((sLr σ j k).2) + 1))), (0, .ref (ad (6 + j))), (3, .int (nI k))]) hx hb d_BM_longestRun_35 rfl hl (by decide) rfl (fun ls hl => ?_)
          refine lv_iinc (v := nI (k + 1)) (lv' := [(3, .int (nI (k + 1))), (1, .int (nI (Nat.max ((sLr σ j k).1) (((sLr σ j k).2) + 1)))), (2, .int (nI (((sLr σ j k).2) + 1))), (0, .ref (ad (6 + j)))]) hx hb d_BM_longestRun_36 hl (k := 3) rfl (nI_1 _) (by decide) rfl (fun ls hl => ?_)
          refine lv_goto (tgt := 6) hx hb d_BM_longestRun_39 (by decide) ?_
          exact ih (k + 1) (by omega) (by omega) _ _ _ hI (by rw [e1]; exact lv_sub hl [3, 1, 2, 0] rfl)
        · have e1 := sLr_t h2
          refine lv_iconst (v := nI 0) hx hb d_BM_longestRun_22 (by decide) ?_
          refine lv_goto (tgt := 29) hx hb d_BM_longestRun_23 (by decide) ?_
          refine lv_istore_n (lv' := [(2, .int (nI 0)), (0, .ref (ad (6 + j))), (1, .int (nI ((sLr σ j k).1))), (3, .int (nI k))]) hx hb d_BM_longestRun_29 rfl hl (by decide) rfl (fun ls hl => ?_)
          refine lv_iload_n hx hb d_BM_longestRun_30 rfl (lv_at hl 2 rfl) ?_
          refine lv_iload_n hx hb d_BM_longestRun_31 rfl (lv_at hl 0 rfl) ?_
          refine r_max (a := (sLr σ j k).1) (b := 0) (own := "GroupBitmaps$Bitmap") hx hb hml hl.1 hown hg kw_292 kw_213 kw_9 kw_214 (Nat.le_of_ble_eq_true rfl) (Nat.le_of_ble_eq_true rfl) (Nat.zero_le _) (Nat.zero_le _) (by omega) (by omega) d_BM_longestRun_32 ?_
          refine lv_istore_n (lv' := [(1, .int (nI (Nat.max ((sLr σ j k).1) 0))), (2, .int (nI 0)), (0, .ref (ad (6 + j))), (3, .int (nI k))]) hx hb d_BM_longestRun_35 rfl hl (by decide) rfl (fun ls hl => ?_)
          refine lv_iinc (v := nI (k + 1)) (lv' := [(3, .int (nI (k + 1))), (1, .int (nI (Nat.max ((sLr σ j k).1) 0))), (2, .int (nI 0)), (0, .ref (ad (6 + j)))]) hx hb d_BM_longestRun_36 hl (k := 3) rfl (nI_1 _) (by decide) rfl (fun ls hl => ?_)
          refine lv_goto (tgt := 6) hx hb d_BM_longestRun_39 (by decide) ?_
          exact ih (k + 1) (by omega) (by omega) _ _ _ hI (by rw [e1]; exact lv_sub hl [3, 1, 2, 0] rfl)
  exact loop (sSz σ j + 1) 0 (by omega) (Nat.zero_le _) _ _ _ hI (lv_sub hl [3, 2, 1, 0] rfl)
set_option maxHeartbeats 4000000 in
set_option maxRecDepth 100000 in
/-- shortestRun(q) -/
theorem c_BM_shortestRun {l : Launch} {D : va_G} {cG cZ cI cJ : ClassId} {ad : Nat → Nat} (σ : gS) (j : Nat) (hj : j < 8) (q : Nat) (hq : q < 65536) (hz : sSz σ j ≤ gLen j) : gMet l D (gT cG cZ cI cJ) y_BM_shortestRun b_BM_shortestRun 6 (some .int) ({ frames := 1, cells := 0, slots := 0, locals := 21 }) (wd ad cG cZ σ) [.ref (ad (6 + j)), .int (nI q)] (wd ad cG cZ σ) (some (.int (oI (sSr σ j q (sSz σ j)).1))) := by
  refine gMet_of (by decide) (Nat.le_of_ble_eq_true rfl) ?_
  intro p e s m below meth c A ls hC hA hI hl
  obtain ⟨hx, hb, hr, hlk, hown, hml, hg, hK⟩ := hC
  have hown : s.vm.findClass "GroupBitmaps$Bitmap" = some m.cls := hown
  have hl : lv_has ls 6 [(0, .ref (ad (6 + j))), (1, .int (nI q))] := hl
  have hz2 := gLen_le j
  refine lv_iconst (v := (-1)) hx hb d_BM_shortestRun_0 (by decide) ?_
  refine lv_istore_n (lv' := [(2, .int ((-1))), (0, .ref (ad (6 + j))), (1, .int (nI q))]) hx hb d_BM_shortestRun_1 rfl hl (by decide) rfl (fun ls hl => ?_)
  refine lv_aload_n hx hb d_BM_shortestRun_2 rfl (lv_at hl 1 rfl) ?_
  refine g_get (own := "GroupBitmaps$Bitmap") (C := R_BM) (T := F_BM) (N := 5) (ci := 2) (v := .int (nI (sSz σ j))) hx hb hg ku_BM hown hK hI (6 + j) (wd_BM hj) rfl 2 (by decide) kw_36 rfl d_BM_shortestRun_3 ?_
  refine lv_iconst (v := nI 1) hx hb d_BM_shortestRun_6 (by decide) ?_
  refine r_iadd (a := sSz σ j) (b := 1) hx hb d_BM_shortestRun_7 ?_
  refine lv_istore_n (lv' := [(3, .int (nI ((sSz σ j) + 1))), (2, .int ((-1))), (0, .ref (ad (6 + j))), (1, .int (nI q))]) hx hb d_BM_shortestRun_8 rfl hl (by decide) rfl (fun ls hl => ?_)
  refine lv_iconst (v := nI 0) hx hb d_BM_shortestRun_9 (by decide) ?_
  refine lv_istore (lv' := [(4, .int (nI 0)), (3, .int (nI ((sSz σ j) + 1))), (2, .int ((-1))), (0, .ref (ad (6 + j))), (1, .int (nI q))]) hx hb d_BM_shortestRun_10 hl (by decide) rfl (fun ls hl => ?_)
  refine lv_iconst (v := nI 0) hx hb d_BM_shortestRun_12 (by decide) ?_
  refine lv_istore (lv' := [(5, .int (nI 0)), (4, .int (nI 0)), (3, .int (nI ((sSz σ j) + 1))), (2, .int ((-1))), (0, .ref (ad (6 + j))), (1, .int (nI q))]) hx hb d_BM_shortestRun_13 hl (by decide) rfl (fun ls hl => ?_)
  have loop : ∀ (fuel : Nat) (k : Nat), sSz σ j + 1 ≤ fuel + k → (k ≤ sSz σ j) → ∀ (H : Heap) (locs : List Loc) (ls : Array Slot), gI D A s.heap (wd ad cG cZ σ) H locs → lv_has ls 6 [(0, .ref (ad (6 + j))), (1, .int (nI q)), (2, .int (oI (sSr σ j q k).1)), (3, .int (nI ((sSr σ j q k).2.1))), (4, .int (nI ((sSr σ j q k).2.2))), (5, .int (nI k))] → W p l e ({ frames := 1, cells := 0, slots := 0, locals := 21 }) s m ([.ref (ad (6 + j)), .int (nI q)] : List Value).toArray below meth c H locs 0 0 (gQ D below ([.ref (ad (6 + j)), .int (nI q)] : List Value).toArray s A (wd ad cG cZ σ) (some (.int (oI (sSr σ j q (sSz σ j)).1)))) (F0 m 15 ls []) := by
    intro fuel
    induction fuel with
    | zero => intro k hfu hk; exact absurd hfu (by omega)
    | succ fuel ih =>
      intro k hfu hk H locs ls hI hl
      have hle := sSr_le σ j q k
      refine lv_iload hx hb d_BM_shortestRun_15 (lv_at hl 5 rfl) ?_
      refine lv_aload_n hx hb d_BM_shortestRun_17 rfl (lv_at hl 0 rfl) ?_
      refine g_get (own := "GroupBitmaps$Bitmap") (C := R_BM) (T := F_BM) (N := 5) (ci := 2) (v := .int (nI (sSz σ j))) hx hb hg ku_BM hown hK hI (6 + j) (wd_BM hj) rfl 2 (by decide) kw_36 rfl d_BM_shortestRun_18 ?_
      refine r_ge (a := k) (b := sSz σ j) (tgt := 83) hx hb d_BM_shortestRun_21 (by decide) (by omega) (by omega) (fun h => ?_) (fun h => ?_)
      · obtain rfl : k = sSz σ j := by omega
        refine lv_iload_n hx hb d_BM_shortestRun_83 rfl (lv_at hl 2 rfl) ?_
        exact g_ri hx hb hr hlk hI (rfl) d_BM_shortestRun_84
      · refine lv_aload_n hx hb d_BM_shortestRun_24 rfl (lv_at hl 0 rfl) ?_
        refine lv_iload hx hb d_BM_shortestRun_25 (lv_at hl 5 rfl) ?_
        refine g_callV (own := "GroupBitmaps$Bitmap") (C := "GroupBitmaps$Bitmap") (T := F_BM) (N := 5) (k := 1) (q0 := 6 + j) (ci := 2) (a := ad (6 + j)) (As := [.int (nI k)]) (rest := []) (c_BM_isSet σ j hj k (by omega)) hx hb hml hown hg hK hI hA kw_264 kw_265 kw_266 kw_3 kw_267 ky_BM_isSet ⟨Nat.le_of_ble_eq_true rfl, Nat.le_of_ble_eq_true rfl⟩ rfl rfl (wd_BM hj) rfl rfl hl.1 (Nat.le_of_ble_eq_true rfl) ⟨Nat.zero_le _, Nat.zero_le _⟩ d_BM_shortestRun_27 rfl rfl (fun H locs hI => ?_)
        refine r_bz (b := sSet σ j k) (tgt := 37) hx hb d_BM_shortestRun_30 (by decide) (fun h2 => ?_) (fun h2 => ?_)
        · have e0 := sSr_s (n := q) (show sLen (sSet σ j k) (sSr σ j q k).2.2 = (sSr σ j q k).2.2 + 1 by rw [h2]; rfl)
          refine lv_iload hx hb d_BM_shortestRun_37 (lv_at hl 4 rfl) ?_
          refine lv_iconst (v := nI 1) hx hb d_BM_shortestRun_39 (by decide) ?_
          refine r_iadd (a := (sSr σ j q k).2.2) (b := 1) hx hb d_BM_shortestRun_40 ?_
          refine lv_istore (lv' := [(4, .int (nI (((sSr σ j q k).2.2) + 1))), (0, .ref (ad (6 + j))), (1, .int (nI q)), (2, .int (oI (sSr σ j q k).1)), (3, .int (nI ((sSr σ j q k).2.1))), (5, .int (nI k))]) hx hb d_BM_shortestRun_41 hl (by decide) rfl (fun ls hl => ?_)
          refine lv_iload hx hb d_BM_shortestRun_43 (lv_at hl 0 rfl) ?_
          refine lv_iload_n hx hb d_BM_shortestRun_45 rfl (lv_at hl 2 rfl) ?_
          refine r_lt (a := ((sSr σ j q k).2.2) + 1) (b := q) (tgt := 77) hx hb d_BM_shortestRun_46 (by decide) (by omega) (by omega) (fun h3 => ?_) (fun h3 => ?_)
          · have e1 := e0.trans (sSrN_1 h3)
            refine lv_iinc (v := nI (k + 1)) (lv' := [(5, .int (nI (k + 1))), (4, .int (nI (((sSr σ j q k).2.2) + 1))), (0, .ref (ad (6 + j))), (1, .int (nI q)), (2, .int (oI (sSr σ j q k).1)), (3, .int (nI ((sSr σ j q k).2.1)))]) hx hb d_BM_shortestRun_77 hl (k := 5) rfl (nI_1 _) (by decide) rfl (fun ls hl => ?_)
            refine lv_goto (tgt := 15) hx hb d_BM_shortestRun_80 (by decide) ?_
            exact ih (k + 1) (by omega) (by omega) _ _ _ hI (by rw [e1]; exact lv_sub hl [2, 3, 4, 5, 1, 0] rfl)
          · refine lv_iload hx hb d_BM_shortestRun_49 (lv_at hl 0 rfl) ?_
            refine lv_iload_n hx hb d_BM_shortestRun_51 rfl (lv_at hl 4 rfl) ?_
            refine r_ge (a := ((sSr σ j q k).2.2) + 1) (b := (sSr σ j q k).2.1) (tgt := 77) hx hb d_BM_shortestRun_52 (by decide) (by omega) (by omega) (fun h4 => ?_) (fun h4 => ?_)
            · have e1 := e0.trans (sSrN_2 h4)
              refine lv_iinc (v := nI (k + 1)) (lv' := [(5, .int (nI (k + 1))), (4, .int (nI (((sSr σ j q k).2.2) + 1))), (0, .ref (ad (6 + j))), (1, .int (nI q)), (2, .int (oI (sSr σ j q k).1)), (3, .int (nI ((sSr σ j q k).2.1)))]) hx hb d_BM_shortestRun_77 hl (k := 5) rfl (nI_1 _) (by decide) rfl (fun ls hl => ?_)
              refine lv_goto (tgt := 15) hx hb d_BM_shortestRun_80 (by decide) ?_
              exact ih (k + 1) (by omega) (by omega) _ _ _ hI (by rw [e1]; exact lv_sub hl [2, 3, 4, 5, 1, 0] rfl)
            · refine lv_aload_n hx hb d_BM_shortestRun_55 rfl (lv_at hl 1 rfl) ?_
              refine lv_iload hx hb d_BM_shortestRun_56 (lv_at hl 5 rfl) ?_
              refine lv_iconst (v := nI 1) hx hb d_BM_shortestRun_58 (by decide) ?_
              refine r_iadd (a := k) (b := 1) hx hb d_BM_shortestRun_59 ?_
              refine g_callV (own := "GroupBitmaps$Bitmap") (C := "GroupBitmaps$Bitmap") (T := F_BM) (N := 5) (k := 1) (q0 := 6 + j) (ci := 2) (a := ad (6 + j)) (As := [.int (nI (k + 1))]) (rest := []) (c_BM_isSet σ j hj (k + 1) (by omega)) hx hb hml hown hg hK hI hA kw_264 kw_265 kw_266 kw_3 kw_267 ky_BM_isSet ⟨Nat.le_of_ble_eq_true rfl, Nat.le_of_ble_eq_true rfl⟩ rfl rfl (wd_BM hj) rfl rfl hl.1 (Nat.le_of_ble_eq_true rfl) ⟨Nat.zero_le _, Nat.zero_le _⟩ d_BM_shortestRun_60 rfl rfl (fun H locs hI => ?_)
              refine r_bz (b := sSet σ j (k + 1)) (tgt := 77) hx hb d_BM_shortestRun_63 (by decide) (fun h5 => ?_) (fun h5 => ?_)
              · have e1 := e0.trans (sSrN_3 h5)
                refine lv_iinc (v := nI (k + 1)) (lv' := [(5, .int (nI (k + 1))), (4, .int (nI (((sSr σ j q k).2.2) + 1))), (0, .ref (ad (6 + j))), (1, .int (nI q)), (2, .int (oI (sSr σ j q k).1)), (3, .int (nI ((sSr σ j q k).2.1)))]) hx hb d_BM_shortestRun_77 hl (k := 5) rfl (nI_1 _) (by decide) rfl (fun ls hl => ?_)
                refine lv_goto (tgt := 15) hx hb d_BM_shortestRun_80 (by decide) ?_
                exact ih (k + 1) (by omega) (by omega) _ _ _ hI (by rw [e1]; exact lv_sub hl [2, 3, 4, 5, 1, 0] rfl)
              · have e1 := e0.trans (sSrN_4 h3 h4 h5)
                refine lv_iload hx hb d_BM_shortestRun_66 (lv_at hl 0 rfl) ?_
                refine lv_istore_n (lv' := [(3, .int (nI (((sSr σ j q k).2.2) + 1))), (4, .int (nI (((sSr σ j q k).2.2) + 1))), (0, .ref (ad (6 + j))), (1, .int (nI q)), (2, .int (oI (sSr σ j q k).1)), (5, .int (nI k))]) hx hb d_BM_shortestRun_68 rfl hl (by decide) rfl (fun ls hl => ?_)
                refine lv_iload hx hb d_BM_shortestRun_69 (lv_at hl 5 rfl) ?_
                refine lv_iconst (v := nI 1) hx hb d_BM_shortestRun_71 (by decide) ?_
                refine r_iadd (a := k) (b := 1) hx hb d_BM_shortestRun_72 ?_
                refine lv_iload hx hb d_BM_shortestRun_73 (lv_at hl 1 rfl) ?_
                refine r_isub (a := k + 1) (b := ((sSr σ j q k).2.2) + 1) hx hb (by omega) d_BM_shortestRun_75 ?_
                refine lv_istore_n (lv' := [(2, .int (nI ((k + 1) - (((sSr σ j q k).2.2) + 1)))), (3, .int (nI (((sSr σ j q k).2.2) + 1))), (4, .int (nI (((sSr σ j q k).2.2) + 1))), (0, .ref (ad (6 + j))), (1, .int (nI q)), (5, .int (nI k))]) hx hb d_BM_shortestRun_76 rfl hl (by decide) rfl (fun ls hl => ?_)
                refine lv_iinc (v := nI (k + 1)) (lv' := [(5, .int (nI (k + 1))), (2, .int (nI ((k + 1) - (((sSr σ j q k).2.2) + 1)))), (3, .int (nI (((sSr σ j q k).2.2) + 1))), (4, .int (nI (((sSr σ j q k).2.2) + 1))), (0, .ref (ad (6 + j))), (1, .int (nI q))]) hx hb d_BM_shortestRun_77 hl (k := 5) rfl (nI_1 _) (by decide) rfl (fun ls hl => ?_)
                refine lv_goto (tgt := 15) hx hb d_BM_shortestRun_80 (by decide) ?_
                exact ih (k + 1) (by omega) (by omega) _ _ _ hI (by rw [e1]; exact lv_sub hl [4, 5, 1, 2, 3, 0] rfl)
        · have e0 := sSr_s (n := q) (show sLen (sSet σ j k) (sSr σ j q k).2.2 = 0 by rw [h2]; rfl)
          refine lv_iconst (v := nI 0) hx hb d_BM_shortestRun_33 (by decide) ?_
          refine lv_goto (tgt := 41) hx hb d_BM_shortestRun_34 (by decide) ?_
          refine lv_istore (lv' := [(4, .int (nI 0)), (0, .ref (ad (6 + j))), (1, .int (nI q)), (2, .int (oI (sSr σ j q k).1)), (3, .int (nI ((sSr σ j q k).2.1))), (5, .int (nI k))]) hx hb d_BM_shortestRun_41 hl (by decide) rfl (fun ls hl => ?_)
          refine lv_iload hx hb d_BM_shortestRun_43 (lv_at hl 0 rfl) ?_
          refine lv_iload_n hx hb d_BM_shortestRun_45 rfl (lv_at hl 2 rfl) ?_
          refine r_lt (a := 0) (b := q) (tgt := 77) hx hb d_BM_shortestRun_46 (by decide) (by omega) (by omega) (fun h3 => ?_) (fun h3 => ?_)
          · have e1 := e0.trans (sSrN_1 h3)
            refine lv_iinc (v := nI (k + 1)) (lv' := [(5, .int (nI (k + 1))), (4, .int (nI 0)), (0, .ref (ad (6 + j))), (1, .int (nI q)), (2, .int (oI (sSr σ j q k).1)), (3, .int (nI ((sSr σ j q k).2.1)))]) hx hb d_BM_shortestRun_77 hl (k := 5) rfl (nI_1 _) (by decide) rfl (fun ls hl => ?_)
            refine lv_goto (tgt := 15) hx hb d_BM_shortestRun_80 (by decide) ?_
            exact ih (k + 1) (by omega) (by omega) _ _ _ hI (by rw [e1]; exact lv_sub hl [2, 3, 4, 5, 1, 0] rfl)
          · refine lv_iload hx hb d_BM_shortestRun_49 (lv_at hl 0 rfl) ?_
            refine lv_iload_n hx hb d_BM_shortestRun_51 rfl (lv_at hl 4 rfl) ?_
            refine r_ge (a := 0) (b := (sSr σ j q k).2.1) (tgt := 77) hx hb d_BM_shortestRun_52 (by decide) (by omega) (by omega) (fun h4 => ?_) (fun h4 => ?_)
            · have e1 := e0.trans (sSrN_2 h4)
              refine lv_iinc (v := nI (k + 1)) (lv' := [(5, .int (nI (k + 1))), (4, .int (nI 0)), (0, .ref (ad (6 + j))), (1, .int (nI q)), (2, .int (oI (sSr σ j q k).1)), (3, .int (nI ((sSr σ j q k).2.1)))]) hx hb d_BM_shortestRun_77 hl (k := 5) rfl (nI_1 _) (by decide) rfl (fun ls hl => ?_)
              refine lv_goto (tgt := 15) hx hb d_BM_shortestRun_80 (by decide) ?_
              exact ih (k + 1) (by omega) (by omega) _ _ _ hI (by rw [e1]; exact lv_sub hl [2, 3, 4, 5, 1, 0] rfl)
            · refine lv_aload_n hx hb d_BM_shortestRun_55 rfl (lv_at hl 1 rfl) ?_
              refine lv_iload hx hb d_BM_shortestRun_56 (lv_at hl 5 rfl) ?_
              refine lv_iconst (v := nI 1) hx hb d_BM_shortestRun_58 (by decide) ?_
              refine r_iadd (a := k) (b := 1) hx hb d_BM_shortestRun_59 ?_
              refine g_callV (own := "GroupBitmaps$Bitmap") (C := "GroupBitmaps$Bitmap") (T := F_BM) (N := 5) (k := 1) (q0 := 6 + j) (ci := 2) (a := ad (6 + j)) (As := [.int (nI (k + 1))]) (rest := []) (c_BM_isSet σ j hj (k + 1) (by omega)) hx hb hml hown hg hK hI hA kw_264 kw_265 kw_266 kw_3 kw_267 ky_BM_isSet ⟨Nat.le_of_ble_eq_true rfl, Nat.le_of_ble_eq_true rfl⟩ rfl rfl (wd_BM hj) rfl rfl hl.1 (Nat.le_of_ble_eq_true rfl) ⟨Nat.zero_le _, Nat.zero_le _⟩ d_BM_shortestRun_60 rfl rfl (fun H locs hI => ?_)
              refine r_bz (b := sSet σ j (k + 1)) (tgt := 77) hx hb d_BM_shortestRun_63 (by decide) (fun h5 => ?_) (fun h5 => ?_)
              · have e1 := e0.trans (sSrN_3 h5)
                refine lv_iinc (v := nI (k + 1)) (lv' := [(5, .int (nI (k + 1))), (4, .int (nI 0)), (0, .ref (ad (6 + j))), (1, .int (nI q)), (2, .int (oI (sSr σ j q k).1)), (3, .int (nI ((sSr σ j q k).2.1)))]) hx hb d_BM_shortestRun_77 hl (k := 5) rfl (nI_1 _) (by decide) rfl (fun ls hl => ?_)
                refine lv_goto (tgt := 15) hx hb d_BM_shortestRun_80 (by decide) ?_
                exact ih (k + 1) (by omega) (by omega) _ _ _ hI (by rw [e1]; exact lv_sub hl [2, 3, 4, 5, 1, 0] rfl)
              · have e1 := e0.trans (sSrN_4 h3 h4 h5)
                refine lv_iload hx hb d_BM_shortestRun_66 (lv_at hl 0 rfl) ?_
                refine lv_istore_n (lv' := [(3, .int (nI 0)), (4, .int (nI 0)), (0, .ref (ad (6 + j))), (1, .int (nI q)), (2, .int (oI (sSr σ j q k).1)), (5, .int (nI k))]) hx hb d_BM_shortestRun_68 rfl hl (by decide) rfl (fun ls hl => ?_)
                refine lv_iload hx hb d_BM_shortestRun_69 (lv_at hl 5 rfl) ?_
                refine lv_iconst (v := nI 1) hx hb d_BM_shortestRun_71 (by decide) ?_
                refine r_iadd (a := k) (b := 1) hx hb d_BM_shortestRun_72 ?_
                refine lv_iload hx hb d_BM_shortestRun_73 (lv_at hl 1 rfl) ?_
                refine r_isub (a := k + 1) (b := 0) hx hb (by omega) d_BM_shortestRun_75 ?_
                refine lv_istore_n (lv' := [(2, .int (nI ((k + 1) - 0))), (3, .int (nI 0)), (4, .int (nI 0)), (0, .ref (ad (6 + j))), (1, .int (nI q)), (5, .int (nI k))]) hx hb d_BM_shortestRun_76 rfl hl (by decide) rfl (fun ls hl => ?_)
                refine lv_iinc (v := nI (k + 1)) (lv' := [(5, .int (nI (k + 1))), (2, .int (nI ((k + 1) - 0))), (3, .int (nI 0)), (4, .int (nI 0)), (0, .ref (ad (6 + j))), (1, .int (nI q))]) hx hb d_BM_shortestRun_77 hl (k := 5) rfl (nI_1 _) (by decide) rfl (fun ls hl => ?_)
                refine lv_goto (tgt := 15) hx hb d_BM_shortestRun_80 (by decide) ?_
                exact ih (k + 1) (by omega) (by omega) _ _ _ hI (by rw [e1]; exact lv_sub hl [4, 5, 1, 2, 3, 0] rfl)
  exact loop (sSz σ j + 1) 0 (by omega) (Nat.zero_le _) _ _ _ hI (lv_sub hl [4, 5, 3, 2, 1, 0] rfl)
