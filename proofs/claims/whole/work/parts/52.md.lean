set_option maxHeartbeats 4000000 in
set_option maxRecDepth 100000 in
theorem c_MD_heads {l : Launch} {D : va_G} {cG cZ cI cJ : ClassId} {am : Nat → Nat} (τ : mS) (g : Nat) (hg4 : g < 65536) : gMet l D (gT cG cZ cI cJ) y_MD_heads b_MD_heads 1 (some .int) ({ frames := 0, cells := 0, slots := 0, locals := 0 }) (wm am cI cZ τ) [.int (nI g)] (wm am cI cZ τ) (some (.int (nI (gHd g)))) := by
  refine gMet_of (by decide) (Nat.le_of_ble_eq_true rfl) ?_
  intro p e s m below meth c A ls hC hA hI hl
  obtain ⟨hx, hb, hr, hlk, hown, hml, hg, hK⟩ := hC
  have hown : s.vm.findClass "GroupBitmapsModel" = some m.cls := hown
  have hl : lv_has ls 1 [(0, .int (nI g))] := hl
  refine lv_iload_n hx hb d_MD_heads_0 rfl (lv_at hl 0 rfl) ?_
  refine lv_iconst (v := nI 2) hx hb d_MD_heads_1 (by decide) ?_
  refine r_ne (a := g) (b := 2) (tgt := 9) hx hb d_MD_heads_2 (by decide) (by omega) (by omega) (fun h => ?_) (fun h => ?_)
  · refine lv_iconst (v := nI 2) hx hb d_MD_heads_9 (by decide) ?_
    exact g_ri hx hb hr hlk hI (by rw [gHd, if_neg h]) d_MD_heads_10
  · refine lv_iconst (v := nI 0) hx hb d_MD_heads_5 (by decide) ?_
    refine lv_goto (tgt := 10) hx hb d_MD_heads_6 (by decide) ?_
    exact g_ri hx hb hr hlk hI (by rw [gHd, if_pos h]) d_MD_heads_10
set_option maxHeartbeats 4000000 in
set_option maxRecDepth 100000 in
theorem c_MD_bitmap {l : Launch} {D : va_G} {cG cZ cI cJ : ClassId} {am : Nat → Nat} (τ : mS) (g : Nat) (hg4 : g < 65536) : gMet l D (gT cG cZ cI cJ) y_MD_bitmap b_MD_bitmap 1 (some .int) ({ frames := 1, cells := 0, slots := 0, locals := 20 }) (wm am cI cZ τ) [.int (nI g)] (wm am cI cZ τ) (some (.int (nI (256 * g + gHd g)))) := by
  refine gMet_of (by decide) (Nat.le_of_ble_eq_true rfl) ?_
  intro p e s m below meth c A ls hC hA hI hl
  obtain ⟨hx, hb, hr, hlk, hown, hml, hg, hK⟩ := hC
  have hown : s.vm.findClass "GroupBitmapsModel" = some m.cls := hown
  have hl : lv_has ls 1 [(0, .int (nI g))] := hl
  refine lv_sipush (v := nI 256) hx hb d_MD_bitmap_0 (by decide) ?_
  refine lv_iload_n hx hb d_MD_bitmap_3 rfl (lv_at hl 0 rfl) ?_
  refine r_imul (a := 256) (b := g) hx hb d_MD_bitmap_4 ?_
  refine lv_iload_n hx hb d_MD_bitmap_5 rfl (lv_at hl 0 rfl) ?_
  refine g_callS (own := "GroupBitmapsModel") (k := 1) (As := [.int (nI g)]) (rest := [.int (nI (256 * g))]) (c_MD_heads τ g hg4) hx hb hml hown hg hK hI hA kw_464 kw_465 kw_4 kw_466 ky_MD_heads ⟨Nat.le_of_ble_eq_true rfl, Nat.le_of_ble_eq_true rfl⟩ rfl rfl rfl hl.1 (Nat.le_of_ble_eq_true rfl) ⟨Nat.zero_le _, Nat.zero_le _⟩ d_MD_bitmap_6 rfl rfl (fun H locs hI => ?_)
  refine r_iadd (a := 256 * g) (b := gHd g) hx hb d_MD_bitmap_9 ?_
  exact g_ri hx hb hr hlk hI (rfl) d_MD_bitmap_10
set_option maxHeartbeats 4000000 in
set_option maxRecDepth 100000 in
theorem c_MD_fixed {l : Launch} {D : va_G} {cG cZ cI cJ : ClassId} {am : Nat → Nat} (τ : mS) (g : Nat) (hg4 : g < 65536) : gMet l D (gT cG cZ cI cJ) y_MD_fixed b_MD_fixed 1 (some .int) ({ frames := 1, cells := 0, slots := 0, locals := 20 }) (wm am cI cZ τ) [.int (nI g)] (wm am cI cZ τ) (some (.int (nI (gHd g + 10)))) := by
  refine gMet_of (by decide) (Nat.le_of_ble_eq_true rfl) ?_
  intro p e s m below meth c A ls hC hA hI hl
  obtain ⟨hx, hb, hr, hlk, hown, hml, hg, hK⟩ := hC
  have hown : s.vm.findClass "GroupBitmapsModel" = some m.cls := hown
  have hl : lv_has ls 1 [(0, .int (nI g))] := hl
  refine lv_iload_n hx hb d_MD_fixed_0 rfl (lv_at hl 0 rfl) ?_
  refine g_callS (own := "GroupBitmapsModel") (k := 1) (As := [.int (nI g)]) (rest := []) (c_MD_heads τ g hg4) hx hb hml hown hg hK hI hA kw_464 kw_465 kw_4 kw_466 ky_MD_heads ⟨Nat.le_of_ble_eq_true rfl, Nat.le_of_ble_eq_true rfl⟩ rfl rfl rfl hl.1 (Nat.le_of_ble_eq_true rfl) ⟨Nat.zero_le _, Nat.zero_le _⟩ d_MD_fixed_1 rfl rfl (fun H locs hI => ?_)
  refine lv_bipush (v := nI 10) hx hb d_MD_fixed_4 (by decide) ?_
  refine r_iadd (a := gHd g) (b := 10) hx hb d_MD_fixed_6 ?_
  exact g_ri hx hb hr hlk hI (rfl) d_MD_fixed_7
set_option maxHeartbeats 4000000 in
set_option maxRecDepth 100000 in
theorem c_MD_thrown {l : Launch} {D : va_G} {cG cZ cI cJ : ClassId} {am : Nat → Nat} (τ : mS)  : gMet l D (gT cG cZ cI cJ) y_MD_thrown b_MD_thrown 1 (some .int) ({ frames := 0, cells := 0, slots := 0, locals := 0 }) (wm am cI cZ τ) [.ref (am 0)] (wm am cI cZ τ) (some (.int (nI (mTh τ)))) := by
  refine gMet_of (by decide) (Nat.le_of_ble_eq_true rfl) ?_
  intro p e s m below meth c A ls hC hA hI hl
  obtain ⟨hx, hb, hr, hlk, hown, hml, hg, hK⟩ := hC
  have hown : s.vm.findClass "GroupBitmapsModel" = some m.cls := hown
  have hl : lv_has ls 1 [(0, .ref (am 0))] := hl
  refine lv_aload_n hx hb d_MD_thrown_0 rfl (lv_at hl 0 rfl) ?_
  refine g_get (own := "GroupBitmapsModel") (C := R_MD) (T := F_MD) (N := 11) (ci := 3) (v := .int (nI (mTh τ))) hx hb hg ku_MD hown hK hI (0) (wm_0) rfl 0 (by decide) kw_470 rfl d_MD_thrown_1 ?_
  exact g_ri hx hb hr hlk hI (rfl) d_MD_thrown_4
set_option maxHeartbeats 4000000 in
set_option maxRecDepth 100000 in
theorem c_MD_freeBlocks {l : Launch} {D : va_G} {cG cZ cI cJ : ClassId} {am : Nat → Nat} (τ : mS) (hτ : mOk τ) (g : Nat) (hg4 : g < 4) : gMet l D (gT cG cZ cI cJ) y_MD_freeBlocks b_MD_freeBlocks 4 (some .int) ({ frames := 0, cells := 0, slots := 0, locals := 0 }) (wm am cI cZ τ) [.ref (am 0), .int (nI g)] (wm am cI cZ τ) (some (.int (nI (mCB τ g)))) := by
  refine gMet_of (by decide) (Nat.le_of_ble_eq_true rfl) ?_
  intro p e s m below meth c A ls hC hA hI hl
  obtain ⟨hx, hb, hr, hlk, hown, hml, hg, hK⟩ := hC
  have hown : s.vm.findClass "GroupBitmapsModel" = some m.cls := hown
  have hl : lv_has ls 4 [(0, .ref (am 0)), (1, .int (nI g))] := hl
  have hc1 := hτ.1
  have hc2 := hτ.2.1
  have hz := hτ.2.2.2.1 g hg4
  refine lv_iconst (v := nI 0) hx hb d_MD_freeBlocks_0 (by decide) ?_
  refine lv_istore_n (lv' := [(2, .int (nI 0)), (0, .ref (am 0)), (1, .int (nI g))]) hx hb d_MD_freeBlocks_1 rfl hl (by decide) rfl (fun ls hl => ?_)
  refine lv_iconst (v := nI 0) hx hb d_MD_freeBlocks_2 (by decide) ?_
  refine lv_istore_n (lv' := [(3, .int (nI 0)), (2, .int (nI 0)), (0, .ref (am 0)), (1, .int (nI g))]) hx hb d_MD_freeBlocks_3 rfl hl (by decide) rfl (fun ls hl => ?_)
  have loop : ∀ (fuel : Nat) (k : Nat), mSz τ g + 1 ≤ fuel + k → (k ≤ mSz τ g) → ∀ (H : Heap) (locs : List Loc) (ls : Array Slot), gI D A s.heap (wm am cI cZ τ) H locs → lv_has ls 4 [(0, .ref (am 0)), (1, .int (nI g)), (2, .int (nI (c0 (fun k => mBk τ (256 * g + k)) k))), (3, .int (nI k))] → W p l e ({ frames := 0, cells := 0, slots := 0, locals := 0 }) s m ([.ref (am 0), .int (nI g)] : List Value).toArray below meth c H locs 0 0 (gQ D below ([.ref (am 0), .int (nI g)] : List Value).toArray s A (wm am cI cZ τ) (some (.int (nI (mCB τ g))))) (F0 m 4 ls []) := by
    intro fuel
    induction fuel with
    | zero => intro k hfu hk; exact absurd hfu (by omega)
    | succ fuel ih =>
      intro k hfu hk H locs ls hI hl
      have hcl := c0_le (fun k => mBk τ (256 * g + k)) k
      refine lv_iload_n hx hb d_MD_freeBlocks_4 rfl (lv_at hl 3 rfl) ?_
      refine lv_aload_n hx hb d_MD_freeBlocks_5 rfl (lv_at hl 0 rfl) ?_
      refine g_get (own := "GroupBitmapsModel") (C := R_MD) (T := F_MD) (N := 11) (ci := 3) (v := .ref (am 1)) hx hb hg ku_MD hown hK hI (0) (wm_0) rfl 2 (by decide) kw_472 rfl d_MD_freeBlocks_6 ?_
      refine lv_iload_n hx hb d_MD_freeBlocks_9 rfl (lv_at hl 1 rfl) ?_
      refine g_iald (F := (mSz τ)) (i := g) hx hb hK hI (1) 2 (wm_Sz) rfl (hg4) (by omega) d_MD_freeBlocks_10 ?_
      refine r_ge (a := k) (b := (mSz τ) g) (tgt := 43) hx hb d_MD_freeBlocks_11 (by decide) (by omega) (by omega) (fun h => ?_) (fun h => ?_)
      · obtain rfl : k = mSz τ g := by omega
        refine lv_iload_n hx hb d_MD_freeBlocks_43 rfl (lv_at hl 2 rfl) ?_
        exact g_ri hx hb hr hlk hI (rfl) d_MD_freeBlocks_44
      · refine lv_aload_n hx hb d_MD_freeBlocks_14 rfl (lv_at hl 0 rfl) ?_
        refine g_get (own := "GroupBitmapsModel") (C := R_MD) (T := F_MD) (N := 11) (ci := 3) (v := .ref (am 2)) hx hb hg ku_MD hown hK hI (0) (wm_0) rfl 3 (by decide) kw_473 rfl d_MD_freeBlocks_15 ?_
        refine lv_sipush (v := nI 256) hx hb d_MD_freeBlocks_18 (by decide) ?_
        refine lv_iload_n hx hb d_MD_freeBlocks_21 rfl (lv_at hl 1 rfl) ?_
        refine r_imul (a := 256) (b := g) hx hb d_MD_freeBlocks_22 ?_
        refine lv_iload_n hx hb d_MD_freeBlocks_23 rfl (lv_at hl 3 rfl) ?_
        refine r_iadd (a := 256 * g) (b := k) hx hb d_MD_freeBlocks_24 ?_
        refine g_zald (B := (mBk τ)) (i := (256 * g) + k) hx hb hK hI (2) 1 (wm_Bk) rfl (by omega) (by omega) d_MD_freeBlocks_25 ?_
        refine r_bz (b := (mBk τ) ((256 * g) + k)) (tgt := 33) hx hb d_MD_freeBlocks_26 (by decide) (fun h2 => ?_) (fun h2 => ?_)
        · have e1 := c0_f (B := (fun k => mBk τ (256 * g + k))) h2
          refine lv_iload_n hx hb d_MD_freeBlocks_33 rfl (lv_at hl 2 rfl) ?_
          refine lv_iconst (v := nI 1) hx hb d_MD_freeBlocks_34 (by decide) ?_
          refine r_iadd (a := c0 (fun k => mBk τ (256 * g + k)) k) (b := 1) hx hb d_MD_freeBlocks_35 ?_
          refine lv_istore_n (lv' := [(2, .int (nI ((c0 (fun k => mBk τ (256 * g + k)) k) + 1))), (0, .ref (am 0)), (1, .int (nI g)), (3, .int (nI k))]) hx hb d_MD_freeBlocks_36 rfl hl (by decide) rfl (fun ls hl => ?_)
          refine lv_iinc (v := nI (k + 1)) (lv' := [(3, .int (nI (k + 1))), (2, .int (nI ((c0 (fun k => mBk τ (256 * g + k)) k) + 1))), (0, .ref (am 0)), (1, .int (nI g))]) hx hb d_MD_freeBlocks_37 hl (k := 3) rfl (nI_1 _) (by decide) rfl (fun ls hl => ?_)
          refine lv_goto (tgt := 4) hx hb d_MD_freeBlocks_40 (by decide) ?_
          exact ih (k + 1) (by omega) (by omega) _ _ _ hI (by rw [e1]; exact lv_sub hl [2, 3, 1, 0] rfl)
        · have e1 := c0_t (B := (fun k => mBk τ (256 * g + k))) h2
          refine lv_iload_n hx hb d_MD_freeBlocks_29 rfl (lv_at hl 2 rfl) ?_
          refine lv_goto (tgt := 36) hx hb d_MD_freeBlocks_30 (by decide) ?_
          refine lv_istore_n (lv' := [(2, .int (nI (c0 (fun k => mBk τ (256 * g + k)) k))), (0, .ref (am 0)), (1, .int (nI g)), (3, .int (nI k))]) hx hb d_MD_freeBlocks_36 rfl hl (by decide) rfl (fun ls hl => ?_)
          refine lv_iinc (v := nI (k + 1)) (lv' := [(3, .int (nI (k + 1))), (2, .int (nI (c0 (fun k => mBk τ (256 * g + k)) k))), (0, .ref (am 0)), (1, .int (nI g))]) hx hb d_MD_freeBlocks_37 hl (k := 3) rfl (nI_1 _) (by decide) rfl (fun ls hl => ?_)
          refine lv_goto (tgt := 4) hx hb d_MD_freeBlocks_40 (by decide) ?_
          exact ih (k + 1) (by omega) (by omega) _ _ _ hI (by rw [e1]; exact lv_sub hl [2, 3, 1, 0] rfl)
  exact loop (mSz τ g + 1) 0 (by omega) (Nat.zero_le _) _ _ _ hI (lv_sub hl [2, 3, 1, 0] rfl)
set_option maxHeartbeats 4000000 in
set_option maxRecDepth 100000 in
theorem c_MD_freeFiles {l : Launch} {D : va_G} {cG cZ cI cJ : ClassId} {am : Nat → Nat} (τ : mS) (g : Nat) (hg4 : g < 4) : gMet l D (gT cG cZ cI cJ) y_MD_freeFiles b_MD_freeFiles 4 (some .int) ({ frames := 0, cells := 0, slots := 0, locals := 0 }) (wm am cI cZ τ) [.ref (am 0), .int (nI g)] (wm am cI cZ τ) (some (.int (nI (mCF τ g)))) := by
  refine gMet_of (by decide) (Nat.le_of_ble_eq_true rfl) ?_
  intro p e s m below meth c A ls hC hA hI hl
  obtain ⟨hx, hb, hr, hlk, hown, hml, hg, hK⟩ := hC
  have hown : s.vm.findClass "GroupBitmapsModel" = some m.cls := hown
  have hl : lv_has ls 4 [(0, .ref (am 0)), (1, .int (nI g))] := hl
  refine lv_iconst (v := nI 0) hx hb d_MD_freeFiles_0 (by decide) ?_
  refine lv_istore_n (lv' := [(2, .int (nI 0)), (0, .ref (am 0)), (1, .int (nI g))]) hx hb d_MD_freeFiles_1 rfl hl (by decide) rfl (fun ls hl => ?_)
  refine lv_iconst (v := nI 0) hx hb d_MD_freeFiles_2 (by decide) ?_
  refine lv_istore_n (lv' := [(3, .int (nI 0)), (2, .int (nI 0)), (0, .ref (am 0)), (1, .int (nI g))]) hx hb d_MD_freeFiles_3 rfl hl (by decide) rfl (fun ls hl => ?_)
  have loop : ∀ (fuel : Nat) (k : Nat), 129 ≤ fuel + k → (k ≤ 128) → ∀ (H : Heap) (locs : List Loc) (ls : Array Slot), gI D A s.heap (wm am cI cZ τ) H locs → lv_has ls 4 [(0, .ref (am 0)), (1, .int (nI g)), (2, .int (nI (c0 (fun k => mFl τ (128 * g + k)) k))), (3, .int (nI k))] → W p l e ({ frames := 0, cells := 0, slots := 0, locals := 0 }) s m ([.ref (am 0), .int (nI g)] : List Value).toArray below meth c H locs 0 0 (gQ D below ([.ref (am 0), .int (nI g)] : List Value).toArray s A (wm am cI cZ τ) (some (.int (nI (mCF τ g))))) (F0 m 4 ls []) := by
    intro fuel
    induction fuel with
    | zero => intro k hfu hk; exact absurd hfu (by omega)
    | succ fuel ih =>
      intro k hfu hk H locs ls hI hl
      have hcl := c0_le (fun k => mFl τ (128 * g + k)) k
      refine lv_iload_n hx hb d_MD_freeFiles_4 rfl (lv_at hl 3 rfl) ?_
      refine lv_sipush (v := nI 128) hx hb d_MD_freeFiles_5 (by decide) ?_
      refine r_ge (a := k) (b := 128) (tgt := 40) hx hb d_MD_freeFiles_8 (by decide) (by omega) (by omega) (fun h => ?_) (fun h => ?_)
      · obtain rfl : k = 128 := by omega
        refine lv_iload_n hx hb d_MD_freeFiles_40 rfl (lv_at hl 2 rfl) ?_
        exact g_ri hx hb hr hlk hI (rfl) d_MD_freeFiles_41
      · refine lv_aload_n hx hb d_MD_freeFiles_11 rfl (lv_at hl 0 rfl) ?_
        refine g_get (own := "GroupBitmapsModel") (C := R_MD) (T := F_MD) (N := 11) (ci := 3) (v := .ref (am 3)) hx hb hg ku_MD hown hK hI (0) (wm_0) rfl 4 (by decide) kw_474 rfl d_MD_freeFiles_12 ?_
        refine lv_sipush (v := nI 128) hx hb d_MD_freeFiles_15 (by decide) ?_
        refine lv_iload_n hx hb d_MD_freeFiles_18 rfl (lv_at hl 1 rfl) ?_
        refine r_imul (a := 128) (b := g) hx hb d_MD_freeFiles_19 ?_
        refine lv_iload_n hx hb d_MD_freeFiles_20 rfl (lv_at hl 3 rfl) ?_
        refine r_iadd (a := 128 * g) (b := k) hx hb d_MD_freeFiles_21 ?_
        refine g_zald (B := (mFl τ)) (i := (128 * g) + k) hx hb hK hI (3) 1 (wm_Fl) rfl (by omega) (by omega) d_MD_freeFiles_22 ?_
        refine r_bz (b := (mFl τ) ((128 * g) + k)) (tgt := 30) hx hb d_MD_freeFiles_23 (by decide) (fun h2 => ?_) (fun h2 => ?_)
        · have e1 := c0_f (B := (fun k => mFl τ (128 * g + k))) h2
          refine lv_iload_n hx hb d_MD_freeFiles_30 rfl (lv_at hl 2 rfl) ?_
          refine lv_iconst (v := nI 1) hx hb d_MD_freeFiles_31 (by decide) ?_
          refine r_iadd (a := c0 (fun k => mFl τ (128 * g + k)) k) (b := 1) hx hb d_MD_freeFiles_32 ?_
          refine lv_istore_n (lv' := [(2, .int (nI ((c0 (fun k => mFl τ (128 * g + k)) k) + 1))), (0, .ref (am 0)), (1, .int (nI g)), (3, .int (nI k))]) hx hb d_MD_freeFiles_33 rfl hl (by decide) rfl (fun ls hl => ?_)
          refine lv_iinc (v := nI (k + 1)) (lv' := [(3, .int (nI (k + 1))), (2, .int (nI ((c0 (fun k => mFl τ (128 * g + k)) k) + 1))), (0, .ref (am 0)), (1, .int (nI g))]) hx hb d_MD_freeFiles_34 hl (k := 3) rfl (nI_1 _) (by decide) rfl (fun ls hl => ?_)
          refine lv_goto (tgt := 4) hx hb d_MD_freeFiles_37 (by decide) ?_
          exact ih (k + 1) (by omega) (by omega) _ _ _ hI (by rw [e1]; exact lv_sub hl [2, 3, 1, 0] rfl)
        · have e1 := c0_t (B := (fun k => mFl τ (128 * g + k))) h2
          refine lv_iload_n hx hb d_MD_freeFiles_26 rfl (lv_at hl 2 rfl) ?_
          refine lv_goto (tgt := 33) hx hb d_MD_freeFiles_27 (by decide) ?_
          refine lv_istore_n (lv' := [(2, .int (nI (c0 (fun k => mFl τ (128 * g + k)) k))), (0, .ref (am 0)), (1, .int (nI g)), (3, .int (nI k))]) hx hb d_MD_freeFiles_33 rfl hl (by decide) rfl (fun ls hl => ?_)
          refine lv_iinc (v := nI (k + 1)) (lv' := [(3, .int (nI (k + 1))), (2, .int (nI (c0 (fun k => mFl τ (128 * g + k)) k))), (0, .ref (am 0)), (1, .int (nI g))]) hx hb d_MD_freeFiles_34 hl (k := 3) rfl (nI_1 _) (by decide) rfl (fun ls hl => ?_)
          refine lv_goto (tgt := 4) hx hb d_MD_freeFiles_37 (by decide) ?_
          exact ih (k + 1) (by omega) (by omega) _ _ _ hI (by rw [e1]; exact lv_sub hl [2, 3, 1, 0] rfl)
  exact loop 129 0 (by omega) (Nat.zero_le _) _ _ _ hI (lv_sub hl [2, 3, 1, 0] rfl)
set_option maxHeartbeats 4000000 in
set_option maxRecDepth 100000 in
theorem c_MD_allBlocks {l : Launch} {D : va_G} {cG cZ cI cJ : ClassId} {am : Nat → Nat} (τ : mS) (hτ : mOk τ)  : gMet l D (gT cG cZ cI cJ) y_MD_allBlocks b_MD_allBlocks 3 (some .int) ({ frames := 1, cells := 0, slots := 0, locals := 23 }) (wm am cI cZ τ) [.ref (am 0)] (wm am cI cZ τ) (some (.int (nI (mAB τ (mGr τ))))) := by
  refine gMet_of (by decide) (Nat.le_of_ble_eq_true rfl) ?_
  intro p e s m below meth c A ls hC hA hI hl
  obtain ⟨hx, hb, hr, hlk, hown, hml, hg, hK⟩ := hC
  have hown : s.vm.findClass "GroupBitmapsModel" = some m.cls := hown
  have hl : lv_has ls 3 [(0, .ref (am 0))] := hl
  have hc1 := hτ.1
  have hc2 := hτ.2.1
  refine lv_iconst (v := nI 0) hx hb d_MD_allBlocks_0 (by decide) ?_
  refine lv_istore_n (lv' := [(1, .int (nI 0)), (0, .ref (am 0))]) hx hb d_MD_allBlocks_1 rfl hl (by decide) rfl (fun ls hl => ?_)
  refine lv_iconst (v := nI 0) hx hb d_MD_allBlocks_2 (by decide) ?_
  refine lv_istore_n (lv' := [(2, .int (nI 0)), (1, .int (nI 0)), (0, .ref (am 0))]) hx hb d_MD_allBlocks_3 rfl hl (by decide) rfl (fun ls hl => ?_)
  have loop : ∀ (fuel : Nat) (g : Nat), mGr τ + 1 ≤ fuel + g → (g ≤ mGr τ) → ∀ (H : Heap) (locs : List Loc) (ls : Array Slot), gI D A s.heap (wm am cI cZ τ) H locs → lv_has ls 3 [(0, .ref (am 0)), (1, .int (nI (mAB τ g))), (2, .int (nI g))] → W p l e ({ frames := 1, cells := 0, slots := 0, locals := 23 }) s m ([.ref (am 0)] : List Value).toArray below meth c H locs 0 0 (gQ D below ([.ref (am 0)] : List Value).toArray s A (wm am cI cZ τ) (some (.int (nI (mAB τ (mGr τ)))))) (F0 m 4 ls []) := by
    intro fuel
    induction fuel with
    | zero => intro g hfu hgc; exact absurd hfu (by omega)
    | succ fuel ih =>
      intro g hfu hgc H locs ls hI hl
      refine lv_iload_n hx hb d_MD_allBlocks_4 rfl (lv_at hl 2 rfl) ?_
      refine lv_aload_n hx hb d_MD_allBlocks_5 rfl (lv_at hl 0 rfl) ?_
      refine g_get (own := "GroupBitmapsModel") (C := R_MD) (T := F_MD) (N := 11) (ci := 3) (v := .int (nI (mGr τ))) hx hb hg ku_MD hown hK hI (0) (wm_0) rfl 1 (by decide) kw_471 rfl d_MD_allBlocks_6 ?_
      refine r_ge (a := g) (b := mGr τ) (tgt := 26) hx hb d_MD_allBlocks_9 (by decide) (by omega) (by omega) (fun h => ?_) (fun h => ?_)
      · obtain rfl : g = mGr τ := by omega
        refine lv_iload_n hx hb d_MD_allBlocks_26 rfl (lv_at hl 1 rfl) ?_
        exact g_ri hx hb hr hlk hI (rfl) d_MD_allBlocks_27
      · refine lv_iload_n hx hb d_MD_allBlocks_12 rfl (lv_at hl 1 rfl) ?_
        refine lv_aload_n hx hb d_MD_allBlocks_13 rfl (lv_at hl 0 rfl) ?_
        refine lv_iload_n hx hb d_MD_allBlocks_14 rfl (lv_at hl 2 rfl) ?_
        refine g_callV (own := "GroupBitmapsModel") (C := "GroupBitmapsModel") (T := F_MD) (N := 11) (k := 1) (q0 := 0) (ci := 3) (a := am 0) (As := [.int (nI g)]) (rest := [.int (nI (mAB τ g))]) (c_MD_freeBlocks τ hτ g (by omega)) hx hb hml hown hg hK hI hA kw_517 kw_519 kp_23 kw_4 kw_520 ky_MD_freeBlocks ⟨Nat.le_of_ble_eq_true rfl, Nat.le_of_ble_eq_true rfl⟩ rfl rfl (wm_0) rfl rfl hl.1 (Nat.le_of_ble_eq_true rfl) ⟨Nat.zero_le _, Nat.zero_le _⟩ d_MD_allBlocks_15 rfl rfl (fun H locs hI => ?_)
        refine r_iadd (a := mAB τ g) (b := mCB τ g) hx hb d_MD_allBlocks_18 ?_
        refine lv_istore_n (lv' := [(1, .int (nI ((mAB τ g) + (mCB τ g)))), (0, .ref (am 0)), (2, .int (nI g))]) hx hb d_MD_allBlocks_19 rfl hl (by decide) rfl (fun ls hl => ?_)
        refine lv_iinc (v := nI (g + 1)) (lv' := [(2, .int (nI (g + 1))), (1, .int (nI ((mAB τ g) + (mCB τ g)))), (0, .ref (am 0))]) hx hb d_MD_allBlocks_20 hl (k := 2) rfl (nI_1 _) (by decide) rfl (fun ls hl => ?_)
        refine lv_goto (tgt := 4) hx hb d_MD_allBlocks_23 (by decide) ?_
        exact ih (g + 1) (by omega) (by omega) _ _ _ hI (lv_sub hl [2, 1, 0] rfl)
  exact loop (mGr τ + 1) 0 (by omega) (Nat.zero_le _) _ _ _ hI (lv_sub hl [2, 1, 0] rfl)
set_option maxHeartbeats 4000000 in
set_option maxRecDepth 100000 in
theorem c_MD_allFiles {l : Launch} {D : va_G} {cG cZ cI cJ : ClassId} {am : Nat → Nat} (τ : mS) (hτ : mOk τ)  : gMet l D (gT cG cZ cI cJ) y_MD_allFiles b_MD_allFiles 3 (some .int) ({ frames := 1, cells := 0, slots := 0, locals := 23 }) (wm am cI cZ τ) [.ref (am 0)] (wm am cI cZ τ) (some (.int (nI (mAF τ (mGr τ))))) := by
  refine gMet_of (by decide) (Nat.le_of_ble_eq_true rfl) ?_
  intro p e s m below meth c A ls hC hA hI hl
  obtain ⟨hx, hb, hr, hlk, hown, hml, hg, hK⟩ := hC
  have hown : s.vm.findClass "GroupBitmapsModel" = some m.cls := hown
  have hl : lv_has ls 3 [(0, .ref (am 0))] := hl
  have hc1 := hτ.1
  have hc2 := hτ.2.1
  refine lv_iconst (v := nI 0) hx hb d_MD_allFiles_0 (by decide) ?_
  refine lv_istore_n (lv' := [(1, .int (nI 0)), (0, .ref (am 0))]) hx hb d_MD_allFiles_1 rfl hl (by decide) rfl (fun ls hl => ?_)
  refine lv_iconst (v := nI 0) hx hb d_MD_allFiles_2 (by decide) ?_
  refine lv_istore_n (lv' := [(2, .int (nI 0)), (1, .int (nI 0)), (0, .ref (am 0))]) hx hb d_MD_allFiles_3 rfl hl (by decide) rfl (fun ls hl => ?_)
  have loop : ∀ (fuel : Nat) (g : Nat), mGr τ + 1 ≤ fuel + g → (g ≤ mGr τ) → ∀ (H : Heap) (locs : List Loc) (ls : Array Slot), gI D A s.heap (wm am cI cZ τ) H locs → lv_has ls 3 [(0, .ref (am 0)), (1, .int (nI (mAF τ g))), (2, .int (nI g))] → W p l e ({ frames := 1, cells := 0, slots := 0, locals := 23 }) s m ([.ref (am 0)] : List Value).toArray below meth c H locs 0 0 (gQ D below ([.ref (am 0)] : List Value).toArray s A (wm am cI cZ τ) (some (.int (nI (mAF τ (mGr τ)))))) (F0 m 4 ls []) := by
    intro fuel
    induction fuel with
    | zero => intro g hfu hgc; exact absurd hfu (by omega)
    | succ fuel ih =>
      intro g hfu hgc H locs ls hI hl
      refine lv_iload_n hx hb d_MD_allFiles_4 rfl (lv_at hl 2 rfl) ?_
      refine lv_aload_n hx hb d_MD_allFiles_5 rfl (lv_at hl 0 rfl) ?_
      refine g_get (own := "GroupBitmapsModel") (C := R_MD) (T := F_MD) (N := 11) (ci := 3) (v := .int (nI (mGr τ))) hx hb hg ku_MD hown hK hI (0) (wm_0) rfl 1 (by decide) kw_471 rfl d_MD_allFiles_6 ?_
      refine r_ge (a := g) (b := mGr τ) (tgt := 26) hx hb d_MD_allFiles_9 (by decide) (by omega) (by omega) (fun h => ?_) (fun h => ?_)
      · obtain rfl : g = mGr τ := by omega
        refine lv_iload_n hx hb d_MD_allFiles_26 rfl (lv_at hl 1 rfl) ?_
        exact g_ri hx hb hr hlk hI (rfl) d_MD_allFiles_27
      · refine lv_iload_n hx hb d_MD_allFiles_12 rfl (lv_at hl 1 rfl) ?_
        refine lv_aload_n hx hb d_MD_allFiles_13 rfl (lv_at hl 0 rfl) ?_
        refine lv_iload_n hx hb d_MD_allFiles_14 rfl (lv_at hl 2 rfl) ?_
        refine g_callV (own := "GroupBitmapsModel") (C := "GroupBitmapsModel") (T := F_MD) (N := 11) (k := 1) (q0 := 0) (ci := 3) (a := am 0) (As := [.int (nI g)]) (rest := [.int (nI (mAF τ g))]) (c_MD_freeFiles τ g (by omega)) hx hb hml hown hg hK hI hA kw_565 kw_567 kp_30 kw_4 kw_568 ky_MD_freeFiles ⟨Nat.le_of_ble_eq_true rfl, Nat.le_of_ble_eq_true rfl⟩ rfl rfl (wm_0) rfl rfl hl.1 (Nat.le_of_ble_eq_true rfl) ⟨Nat.zero_le _, Nat.zero_le _⟩ d_MD_allFiles_15 rfl rfl (fun H locs hI => ?_)
        refine r_iadd (a := mAF τ g) (b := mCF τ g) hx hb d_MD_allFiles_18 ?_
        refine lv_istore_n (lv' := [(1, .int (nI ((mAF τ g) + (mCF τ g)))), (0, .ref (am 0)), (2, .int (nI g))]) hx hb d_MD_allFiles_19 rfl hl (by decide) rfl (fun ls hl => ?_)
        refine lv_iinc (v := nI (g + 1)) (lv' := [(2, .int (nI (g + 1))), (1, .int (nI ((mAF τ g) + (mCF τ g)))), (0, .ref (am 0))]) hx hb d_MD_allFiles_20 hl (k := 2) rfl (nI_1 _) (by decide) rfl (fun ls hl => ?_)
        refine lv_goto (tgt := 4) hx hb d_MD_allFiles_23 (by decide) ?_
        exact ih (g + 1) (by omega) (by omega) _ _ _ hI (lv_sub hl [2, 1, 0] rfl)
  exact loop (mGr τ + 1) 0 (by omega) (Nat.zero_le _) _ _ _ hI (lv_sub hl [2, 1, 0] rfl)
set_option maxHeartbeats 4000000 in
set_option maxRecDepth 100000 in
theorem c_MD_isBlock {l : Launch} {D : va_G} {cG cZ cI cJ : ClassId} {am : Nat → Nat} (τ : mS) (hτ : mOk τ) (x : Int32) : gMet l D (gT cG cZ cI cJ) y_MD_isBlock b_MD_isBlock 2 (some .boolean) ({ frames := 0, cells := 0, slots := 0, locals := 0 }) (wm am cI cZ τ) [.ref (am 0), .int x] (wm am cI cZ τ) (some (.int (bI (mIsB τ x)))) := by
  refine gMet_of (by decide) (Nat.le_of_ble_eq_true rfl) ?_
  intro p e s m below meth c A ls hC hA hI hl
  obtain ⟨hx, hb, hr, hlk, hown, hml, hg, hK⟩ := hC
  have hown : s.vm.findClass "GroupBitmapsModel" = some m.cls := hown
  have hl : lv_has ls 2 [(0, .ref (am 0)), (1, .int x)] := hl
  have hc1 := hτ.1
  have hc2 := hτ.2.1
  refine lv_iload_n hx hb d_MD_isBlock_0 rfl (lv_at hl 1 rfl) ?_
  refine lv_if_lt (tgt := 38) hx hb d_MD_isBlock_1 (by decide) (fun h => ?_) (fun h => ?_)
  · refine lv_iconst (v := bI false) hx hb d_MD_isBlock_38 (by decide) ?_
    exact g_rz hx hb hr hlk hI (by rw [mIsB_neg h]) d_MD_isBlock_39
  · refine lv_iload_n hx hb d_MD_isBlock_4 rfl (lv_at hl 1 rfl) ?_
    refine lv_sipush (v := nI 256) hx hb d_MD_isBlock_5 (by decide) ?_
    refine lv_aload_n hx hb d_MD_isBlock_8 rfl (lv_at hl 0 rfl) ?_
    refine g_get (own := "GroupBitmapsModel") (C := R_MD) (T := F_MD) (N := 11) (ci := 3) (v := .int (nI (mGr τ))) hx hb hg ku_MD hown hK hI (0) (wm_0) rfl 1 (by decide) kw_471 rfl d_MD_isBlock_9 ?_
    refine r_imul (a := 256) (b := mGr τ) hx hb d_MD_isBlock_12 ?_
    refine lv_icmp_ge (tgt := 38) hx hb d_MD_isBlock_13 (by decide) (fun h2 => ?_) (fun h2 => ?_)
    · refine lv_iconst (v := bI false) hx hb d_MD_isBlock_38 (by decide) ?_
      exact g_rz hx hb hr hlk hI (by rw [mIsB_ge hτ h2]) d_MD_isBlock_39
    · obtain ⟨j, hj, rfl⟩ := in_of h h2 (by omega)
      have hz := hτ.2.2.2.1 (j / 256) (by omega)
      refine lv_iload_n hx hb d_MD_isBlock_16 rfl (lv_at hl 1 rfl) ?_
      refine lv_sipush (v := nI 256) hx hb d_MD_isBlock_17 (by decide) ?_
      refine r_irem (a := j) (b := 256) hx hb (by omega) (by omega) (by omega) d_MD_isBlock_20 ?_
      refine lv_aload_n hx hb d_MD_isBlock_21 rfl (lv_at hl 0 rfl) ?_
      refine g_get (own := "GroupBitmapsModel") (C := R_MD) (T := F_MD) (N := 11) (ci := 3) (v := .ref (am 1)) hx hb hg ku_MD hown hK hI (0) (wm_0) rfl 2 (by decide) kw_472 rfl d_MD_isBlock_22 ?_
      refine lv_iload_n hx hb d_MD_isBlock_25 rfl (lv_at hl 1 rfl) ?_
      refine lv_sipush (v := nI 256) hx hb d_MD_isBlock_26 (by decide) ?_
      refine r_idiv (a := j) (b := 256) hx hb (by omega) (by omega) (by omega) d_MD_isBlock_29 ?_
      refine g_iald (F := (mSz τ)) (i := j / 256) hx hb hK hI (1) 2 (wm_Sz) rfl (by omega) (by omega) d_MD_isBlock_30 ?_
      refine r_ge (a := j % 256) (b := (mSz τ) (j / 256)) (tgt := 38) hx hb d_MD_isBlock_31 (by decide) (by omega) (by omega) (fun h3 => ?_) (fun h3 => ?_)
      · refine lv_iconst (v := bI false) hx hb d_MD_isBlock_38 (by decide) ?_
        exact g_rz hx hb hr hlk hI (by rw [mIsB_nI hj hc2, decide_eq_false (Nat.not_lt.mpr h3)]) d_MD_isBlock_39
      · refine lv_iconst (v := bI true) hx hb d_MD_isBlock_34 (by decide) ?_
        refine lv_goto (tgt := 39) hx hb d_MD_isBlock_35 (by decide) ?_
        exact g_rz hx hb hr hlk hI (by rw [mIsB_nI hj hc2, decide_eq_true h3]) d_MD_isBlock_39
set_option maxHeartbeats 4000000 in
set_option maxRecDepth 100000 in
theorem c_MD_isFile {l : Launch} {D : va_G} {cG cZ cI cJ : ClassId} {am : Nat → Nat} (τ : mS) (hτ : mOk τ) (x : Int32) : gMet l D (gT cG cZ cI cJ) y_MD_isFile b_MD_isFile 2 (some .boolean) ({ frames := 0, cells := 0, slots := 0, locals := 0 }) (wm am cI cZ τ) [.ref (am 0), .int x] (wm am cI cZ τ) (some (.int (bI (mIsF τ x)))) := by
  refine gMet_of (by decide) (Nat.le_of_ble_eq_true rfl) ?_
  intro p e s m below meth c A ls hC hA hI hl
  obtain ⟨hx, hb, hr, hlk, hown, hml, hg, hK⟩ := hC
  have hown : s.vm.findClass "GroupBitmapsModel" = some m.cls := hown
  have hl : lv_has ls 2 [(0, .ref (am 0)), (1, .int x)] := hl
  have hc1 := hτ.1
  have hc2 := hτ.2.1
  refine lv_iload_n hx hb d_MD_isFile_0 rfl (lv_at hl 1 rfl) ?_
  refine lv_iconst (v := nI 1) hx hb d_MD_isFile_1 (by decide) ?_
  refine lv_icmp_lt (tgt := 21) hx hb d_MD_isFile_2 (by decide) (fun h => ?_) (fun h => ?_)
  · refine lv_iconst (v := bI false) hx hb d_MD_isFile_21 (by decide) ?_
    exact g_rz hx hb hr hlk hI (by rw [mIsF_lo h]) d_MD_isFile_22
  · refine lv_iload_n hx hb d_MD_isFile_5 rfl (lv_at hl 1 rfl) ?_
    refine lv_sipush (v := nI 128) hx hb d_MD_isFile_6 (by decide) ?_
    refine lv_aload_n hx hb d_MD_isFile_9 rfl (lv_at hl 0 rfl) ?_
    refine g_get (own := "GroupBitmapsModel") (C := R_MD) (T := F_MD) (N := 11) (ci := 3) (v := .int (nI (mGr τ))) hx hb hg ku_MD hown hK hI (0) (wm_0) rfl 1 (by decide) kw_471 rfl d_MD_isFile_10 ?_
    refine r_imul (a := 128) (b := mGr τ) hx hb d_MD_isFile_13 ?_
    refine lv_icmp_gt (tgt := 21) hx hb d_MD_isFile_14 (by decide) (fun h2 => ?_) (fun h2 => ?_)
    · refine lv_iconst (v := bI false) hx hb d_MD_isFile_21 (by decide) ?_
      exact g_rz hx hb hr hlk hI (by rw [mIsF_hi hτ h2]) d_MD_isFile_22
    · refine lv_iconst (v := bI true) hx hb d_MD_isFile_17 (by decide) ?_
      refine lv_goto (tgt := 22) hx hb d_MD_isFile_18 (by decide) ?_
      exact g_rz hx hb hr hlk hI (by rw [mIsF_t hτ h h2]) d_MD_isFile_22
