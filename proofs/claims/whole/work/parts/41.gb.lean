set_option maxHeartbeats 4000000 in
set_option maxRecDepth 100000 in
theorem c_GB_allBlocks {l : Launch} {D : va_G} {cG cZ cI cJ : ClassId} {ad : Nat → Nat} (σ : gS) (hσ : sB σ)  : gMet l D (gT cG cZ cI cJ) y_GB_allBlocks b_GB_allBlocks 1 (some .int) ({ frames := 0, cells := 0, slots := 0, locals := 0 }) (wd ad cG cZ σ) [.ref (ad 0)] (wd ad cG cZ σ) (some (.int (nI (sAll σ)))) := by
  refine gMet_of (by decide) (Nat.le_of_ble_eq_true rfl) ?_
  intro p e s m below meth c A ls hC hA hI hl
  obtain ⟨hx, hb, hr, hlk, hown, hml, hg, hK⟩ := hC
  have hown : s.vm.findClass "GroupBitmaps" = some m.cls := hown
  have hl : lv_has ls 1 [(0, .ref (ad 0))] := hl
  have hc1 := hσ.1
  have hc2 := hσ.2.1
  refine lv_aload_n hx hb d_GB_allBlocks_0 rfl (lv_at hl 0 rfl) ?_
  refine g_get (own := "GroupBitmaps") (C := R_GB) (T := F_GB) (N := 5) (ci := 0) (v := .int (nI (sCnt σ))) hx hb hg ku_GB hown hK hI (0) (wd_GB) rfl 1 (by decide) kw_92 rfl d_GB_allBlocks_1 ?_
  refine lv_iconst (v := nI 1) hx hb d_GB_allBlocks_4 (by decide) ?_
  refine r_isub (a := sCnt σ) (b := 1) hx hb (by omega) d_GB_allBlocks_5 ?_
  refine lv_sipush (v := nI 256) hx hb d_GB_allBlocks_6 (by decide) ?_
  refine r_imul (a := (sCnt σ) - 1) (b := 256) hx hb d_GB_allBlocks_9 ?_
  refine lv_aload_n hx hb d_GB_allBlocks_10 rfl (lv_at hl 0 rfl) ?_
  refine g_get (own := "GroupBitmaps") (C := R_GB) (T := F_GB) (N := 5) (ci := 0) (v := .ref (ad 1)) hx hb hg ku_GB hown hK hI (0) (wd_GB) rfl 0 (by decide) kw_91 rfl d_GB_allBlocks_11 ?_
  refine lv_aload_n hx hb d_GB_allBlocks_14 rfl (lv_at hl 0 rfl) ?_
  refine g_get (own := "GroupBitmaps") (C := R_GB) (T := F_GB) (N := 5) (ci := 0) (v := .int (nI (sCnt σ))) hx hb hg ku_GB hown hK hI (0) (wd_GB) rfl 1 (by decide) kw_92 rfl d_GB_allBlocks_15 ?_
  refine lv_iconst (v := nI 1) hx hb d_GB_allBlocks_18 (by decide) ?_
  refine r_isub (a := sCnt σ) (b := 1) hx hb (by omega) d_GB_allBlocks_19 ?_
  refine g_aldq (r := ad (2 + ((sCnt σ) - 1))) (i := (sCnt σ) - 1) hx hb hK hI (1) 0 (wd_GA) rfl (by omega) (by decide) rfl d_GB_allBlocks_20 ?_
  have hq0 := show sCnt σ - 1 < 4 by omega
  have hr0 : 2 * (sCnt σ - 1) < 8 := by omega
  have hs0 : 2 * (sCnt σ - 1) + 1 < 8 := by omega
  refine g_getN (own := "GroupBitmaps") (C := R_GR) (T := F_GR) (N := 6) (ci := 1) (v := .ref (ad (6 + (2 * (sCnt σ - 1))))) hx hb hg ku_GR hown hK hI (2 + (sCnt σ - 1)) (wd_GR hq0) rfl 3 (by decide) kw_61 rfl d_GB_allBlocks_21 ?_
  refine g_getN (own := "GroupBitmaps") (C := R_BM) (T := F_BM) (N := 5) (ci := 2) (v := .int (nI (sSz σ (2 * (sCnt σ - 1))))) hx hb hg ku_BM hown hK hI (6 + (2 * (sCnt σ - 1))) (wd_BM hr0) rfl 2 (by decide) kw_37 rfl d_GB_allBlocks_24 ?_
  refine r_iadd (a := ((sCnt σ) - 1) * 256) (b := sSz σ (2 * (sCnt σ - 1))) hx hb d_GB_allBlocks_27 ?_
  exact g_ri hx hb hr hlk hI (rfl) d_GB_allBlocks_28
set_option maxHeartbeats 4000000 in
set_option maxRecDepth 100000 in
theorem c_GB_hasBlock {l : Launch} {D : va_G} {cG cZ cI cJ : ClassId} {ad : Nat → Nat} (σ : gS) (hσ : sB σ) (x : Int32) : gMet l D (gT cG cZ cI cJ) y_GB_hasBlock b_GB_hasBlock 2 (some .boolean) ({ frames := 1, cells := 0, slots := 0, locals := 20 }) (wd ad cG cZ σ) [.ref (ad 0), .int x] (wd ad cG cZ σ) (some (.int (bI (sHasB σ x)))) := by
  refine gMet_of (by decide) (Nat.le_of_ble_eq_true rfl) ?_
  intro p e s m below meth c A ls hC hA hI hl
  obtain ⟨hx, hb, hr, hlk, hown, hml, hg, hK⟩ := hC
  have hown : s.vm.findClass "GroupBitmaps" = some m.cls := hown
  have hl : lv_has ls 2 [(0, .ref (ad 0)), (1, .int x)] := hl
  have hc1 := hσ.1
  have hc2 := hσ.2.1
  refine lv_iload_n hx hb d_GB_hasBlock_0 rfl (lv_at hl 1 rfl) ?_
  refine lv_if_lt (tgt := 16) hx hb d_GB_hasBlock_1 (by decide) (fun h => ?_) (fun h => ?_)
  · refine lv_iconst (v := bI false) hx hb d_GB_hasBlock_16 (by decide) ?_
    exact g_rz hx hb hr hlk hI (by rw [sHasB_neg h]) d_GB_hasBlock_17
  · refine lv_iload_n hx hb d_GB_hasBlock_4 rfl (lv_at hl 1 rfl) ?_
    refine lv_aload_n hx hb d_GB_hasBlock_5 rfl (lv_at hl 0 rfl) ?_
    refine g_callV (own := "GroupBitmaps") (C := "GroupBitmaps") (T := F_GB) (N := 5) (k := 0) (q0 := 0) (ci := 0) (a := ad 0) (As := []) (rest := [.int x]) (c_GB_allBlocks σ hσ) hx hb hml hown hg hK hI hA kw_227 kw_229 kp_5 kw_1 kw_230 ky_GB_allBlocks ⟨Nat.le_of_ble_eq_true rfl, Nat.le_of_ble_eq_true rfl⟩ rfl rfl (wd_GB) rfl rfl hl.1 (Nat.le_of_ble_eq_true rfl) ⟨Nat.zero_le _, Nat.zero_le _⟩ d_GB_hasBlock_6 rfl rfl (fun H locs hI => ?_)
    refine lv_icmp_ge (tgt := 16) hx hb d_GB_hasBlock_9 (by decide) (fun h2 => ?_) (fun h2 => ?_)
    · refine lv_iconst (v := bI false) hx hb d_GB_hasBlock_16 (by decide) ?_
      exact g_rz hx hb hr hlk hI (by rw [sHasB_ge hσ h2]) d_GB_hasBlock_17
    · refine lv_iconst (v := bI true) hx hb d_GB_hasBlock_12 (by decide) ?_
      refine lv_goto (tgt := 17) hx hb d_GB_hasBlock_13 (by decide) ?_
      exact g_rz hx hb hr hlk hI (by rw [sHasB_t hσ h h2]) d_GB_hasBlock_17
set_option maxHeartbeats 4000000 in
set_option maxRecDepth 100000 in
theorem c_GB_hasFile {l : Launch} {D : va_G} {cG cZ cI cJ : ClassId} {ad : Nat → Nat} (σ : gS) (hσ : sB σ) (x : Int32) : gMet l D (gT cG cZ cI cJ) y_GB_hasFile b_GB_hasFile 2 (some .boolean) ({ frames := 0, cells := 0, slots := 0, locals := 0 }) (wd ad cG cZ σ) [.ref (ad 0), .int x] (wd ad cG cZ σ) (some (.int (bI (sHasF σ x)))) := by
  refine gMet_of (by decide) (Nat.le_of_ble_eq_true rfl) ?_
  intro p e s m below meth c A ls hC hA hI hl
  obtain ⟨hx, hb, hr, hlk, hown, hml, hg, hK⟩ := hC
  have hown : s.vm.findClass "GroupBitmaps" = some m.cls := hown
  have hl : lv_has ls 2 [(0, .ref (ad 0)), (1, .int x)] := hl
  have hc1 := hσ.1
  have hc2 := hσ.2.1
  refine lv_iload_n hx hb d_GB_hasFile_0 rfl (lv_at hl 1 rfl) ?_
  refine lv_iconst (v := nI 1) hx hb d_GB_hasFile_1 (by decide) ?_
  refine lv_icmp_lt (tgt := 21) hx hb d_GB_hasFile_2 (by decide) (fun h => ?_) (fun h => ?_)
  · refine lv_iconst (v := bI false) hx hb d_GB_hasFile_21 (by decide) ?_
    exact g_rz hx hb hr hlk hI (by rw [sHasF_lo h]) d_GB_hasFile_22
  · refine lv_iload_n hx hb d_GB_hasFile_5 rfl (lv_at hl 1 rfl) ?_
    refine lv_aload_n hx hb d_GB_hasFile_6 rfl (lv_at hl 0 rfl) ?_
    refine g_get (own := "GroupBitmaps") (C := R_GB) (T := F_GB) (N := 5) (ci := 0) (v := .int (nI (sCnt σ))) hx hb hg ku_GB hown hK hI (0) (wd_GB) rfl 1 (by decide) kw_92 rfl d_GB_hasFile_7 ?_
    refine lv_sipush (v := nI 128) hx hb d_GB_hasFile_10 (by decide) ?_
    refine r_imul (a := sCnt σ) (b := 128) hx hb d_GB_hasFile_13 ?_
    refine lv_icmp_gt (tgt := 21) hx hb d_GB_hasFile_14 (by decide) (fun h2 => ?_) (fun h2 => ?_)
    · refine lv_iconst (v := bI false) hx hb d_GB_hasFile_21 (by decide) ?_
      exact g_rz hx hb hr hlk hI (by rw [sHasF_hi hσ h2]) d_GB_hasFile_22
    · refine lv_iconst (v := bI true) hx hb d_GB_hasFile_17 (by decide) ?_
      refine lv_goto (tgt := 22) hx hb d_GB_hasFile_18 (by decide) ?_
      exact g_rz hx hb hr hlk hI (by rw [sHasF_t hσ h h2]) d_GB_hasFile_22
set_option maxHeartbeats 4000000 in
set_option maxRecDepth 100000 in
theorem c_GB_groupOfBlock {l : Launch} {D : va_G} {cG cZ cI cJ : ClassId} {ad : Nat → Nat} (σ : gS) (q : Nat) (hq : q < 1024) : gMet l D (gT cG cZ cI cJ) y_GB_groupOfBlock b_GB_groupOfBlock 2 (some (.object "GroupBitmaps$Group")) ({ frames := 0, cells := 0, slots := 0, locals := 0 }) (wd ad cG cZ σ) [.ref (ad 0), .int (nI q)] (wd ad cG cZ σ) (some (.ref (ad (2 + q / 256)))) := by
  refine gMet_of (by decide) (Nat.le_of_ble_eq_true rfl) ?_
  intro p e s m below meth c A ls hC hA hI hl
  obtain ⟨hx, hb, hr, hlk, hown, hml, hg, hK⟩ := hC
  have hown : s.vm.findClass "GroupBitmaps" = some m.cls := hown
  have hl : lv_has ls 2 [(0, .ref (ad 0)), (1, .int (nI q))] := hl
  refine lv_aload_n hx hb d_GB_groupOfBlock_0 rfl (lv_at hl 0 rfl) ?_
  refine g_get (own := "GroupBitmaps") (C := R_GB) (T := F_GB) (N := 5) (ci := 0) (v := .ref (ad 1)) hx hb hg ku_GB hown hK hI (0) (wd_GB) rfl 0 (by decide) kw_91 rfl d_GB_groupOfBlock_1 ?_
  refine lv_iload_n hx hb d_GB_groupOfBlock_4 rfl (lv_at hl 1 rfl) ?_
  refine lv_sipush (v := nI 256) hx hb d_GB_groupOfBlock_5 (by decide) ?_
  refine r_idiv (a := q) (b := 256) hx hb (by omega) (by omega) (by omega) d_GB_groupOfBlock_8 ?_
  refine g_aldq (r := ad (2 + (q / 256))) (i := q / 256) hx hb hK hI (1) 0 (wd_GA) rfl (by omega) (by decide) rfl d_GB_groupOfBlock_9 ?_
  exact g_ra hx hb hr hlk (Or.inr ⟨_, rfl⟩) hI (rfl) d_GB_groupOfBlock_10
set_option maxHeartbeats 4000000 in
set_option maxRecDepth 100000 in
theorem c_GB_groupOfFile {l : Launch} {D : va_G} {cG cZ cI cJ : ClassId} {ad : Nat → Nat} (σ : gS) (q : Nat) (hq : q ≤ 512) (hq1 : 1 ≤ q) : gMet l D (gT cG cZ cI cJ) y_GB_groupOfFile b_GB_groupOfFile 2 (some (.object "GroupBitmaps$Group")) ({ frames := 0, cells := 0, slots := 0, locals := 0 }) (wd ad cG cZ σ) [.ref (ad 0), .int (nI q)] (wd ad cG cZ σ) (some (.ref (ad (2 + (q - 1) / 128)))) := by
  refine gMet_of (by decide) (Nat.le_of_ble_eq_true rfl) ?_
  intro p e s m below meth c A ls hC hA hI hl
  obtain ⟨hx, hb, hr, hlk, hown, hml, hg, hK⟩ := hC
  have hown : s.vm.findClass "GroupBitmaps" = some m.cls := hown
  have hl : lv_has ls 2 [(0, .ref (ad 0)), (1, .int (nI q))] := hl
  refine lv_aload_n hx hb d_GB_groupOfFile_0 rfl (lv_at hl 0 rfl) ?_
  refine g_get (own := "GroupBitmaps") (C := R_GB) (T := F_GB) (N := 5) (ci := 0) (v := .ref (ad 1)) hx hb hg ku_GB hown hK hI (0) (wd_GB) rfl 0 (by decide) kw_91 rfl d_GB_groupOfFile_1 ?_
  refine lv_iload_n hx hb d_GB_groupOfFile_4 rfl (lv_at hl 1 rfl) ?_
  refine lv_iconst (v := nI 1) hx hb d_GB_groupOfFile_5 (by decide) ?_
  refine r_isub (a := q) (b := 1) hx hb (by omega) d_GB_groupOfFile_6 ?_
  refine lv_sipush (v := nI 128) hx hb d_GB_groupOfFile_7 (by decide) ?_
  refine r_idiv (a := q - 1) (b := 128) hx hb (by omega) (by omega) (by omega) d_GB_groupOfFile_10 ?_
  refine g_aldq (r := ad (2 + ((q - 1) / 128))) (i := (q - 1) / 128) hx hb hK hI (1) 0 (wd_GA) rfl (by omega) (by decide) rfl d_GB_groupOfFile_11 ?_
  exact g_ra hx hb hr hlk (Or.inr ⟨_, rfl⟩) hI (rfl) d_GB_groupOfFile_12
set_option maxHeartbeats 4000000 in
set_option maxRecDepth 100000 in
theorem c_GB_groupBehind {l : Launch} {D : va_G} {cG cZ cI cJ : ClassId} {ad : Nat → Nat} (σ : gS) (hσ : sB σ) (g k : Nat) (hg4 : g < 4) (hk : k < 65536) : gMet l D (gT cG cZ cI cJ) y_GB_groupBehind b_GB_groupBehind 3 (some (.object "GroupBitmaps$Group")) ({ frames := 0, cells := 0, slots := 0, locals := 0 }) (wd ad cG cZ σ) [.ref (ad 0), .ref (ad (2 + g)), .int (nI k)] (wd ad cG cZ σ) (some (.ref (ad (2 + sNx σ g k)))) := by
  refine gMet_of (by decide) (Nat.le_of_ble_eq_true rfl) ?_
  intro p e s m below meth c A ls hC hA hI hl
  obtain ⟨hx, hb, hr, hlk, hown, hml, hg, hK⟩ := hC
  have hown : s.vm.findClass "GroupBitmaps" = some m.cls := hown
  have hl : lv_has ls 3 [(0, .ref (ad 0)), (1, .ref (ad (2 + g))), (2, .int (nI k))] := hl
  have hc1 := hσ.1
  have hc2 := hσ.2.1
  have hq0 := hg4
  have hr0 : 2 * g < 8 := by omega
  have hs0 : 2 * g + 1 < 8 := by omega
  refine lv_aload_n hx hb d_GB_groupBehind_0 rfl (lv_at hl 0 rfl) ?_
  refine g_get (own := "GroupBitmaps") (C := R_GB) (T := F_GB) (N := 5) (ci := 0) (v := .ref (ad 1)) hx hb hg ku_GB hown hK hI (0) (wd_GB) rfl 0 (by decide) kw_91 rfl d_GB_groupBehind_1 ?_
  refine lv_aload_n hx hb d_GB_groupBehind_4 rfl (lv_at hl 1 rfl) ?_
  refine g_getN (own := "GroupBitmaps") (C := R_GR) (T := F_GR) (N := 6) (ci := 1) (v := .int (nI (256 * g))) hx hb hg ku_GR hown hK hI (2 + g) (wd_GR hq0) rfl 0 (by decide) kw_56 rfl d_GB_groupBehind_5 ?_
  refine lv_sipush (v := nI 256) hx hb d_GB_groupBehind_8 (by decide) ?_
  refine r_idiv (a := 256 * g) (b := 256) hx hb (by omega) (by omega) (by omega) d_GB_groupBehind_11 ?_
  refine lv_iload_n hx hb d_GB_groupBehind_12 rfl (lv_at hl 2 rfl) ?_
  refine r_iadd (a := (256 * g) / 256) (b := k) hx hb d_GB_groupBehind_13 ?_
  refine lv_aload_n hx hb d_GB_groupBehind_14 rfl (lv_at hl 0 rfl) ?_
  refine g_get (own := "GroupBitmaps") (C := R_GB) (T := F_GB) (N := 5) (ci := 0) (v := .int (nI (sCnt σ))) hx hb hg ku_GB hown hK hI (0) (wd_GB) rfl 1 (by decide) kw_92 rfl d_GB_groupBehind_15 ?_
  refine r_irem (a := ((256 * g) / 256) + k) (b := sCnt σ) hx hb (by omega) (by omega) (by omega) d_GB_groupBehind_18 ?_
  refine g_aldq (r := ad (2 + ((((256 * g) / 256) + k) % (sCnt σ)))) (i := (((256 * g) / 256) + k) % (sCnt σ)) hx hb hK hI (1) 0 (wd_GA) rfl (Nat.lt_of_lt_of_le (Nat.mod_lt _ hc1) hc2) (by decide) rfl d_GB_groupBehind_19 ?_
  exact g_ra hx hb hr hlk (Or.inr ⟨_, rfl⟩) hI (by rw [sNx, show 256 * g / 256 = g by omega]) d_GB_groupBehind_20
set_option maxHeartbeats 4000000 in
set_option maxRecDepth 100000 in
theorem c_GB_freeBlocks {l : Launch} {D : va_G} {cG cZ cI cJ : ClassId} {ad : Nat → Nat} (σ : gS) (hσ : sB σ)  : gMet l D (gT cG cZ cI cJ) y_GB_freeBlocks b_GB_freeBlocks 3 (some .int) ({ frames := 0, cells := 0, slots := 0, locals := 0 }) (wd ad cG cZ σ) [.ref (ad 0)] (wd ad cG cZ σ) (some (.int (nI (sFB σ (sCnt σ))))) := by
  refine gMet_of (by decide) (Nat.le_of_ble_eq_true rfl) ?_
  intro p e s m below meth c A ls hC hA hI hl
  obtain ⟨hx, hb, hr, hlk, hown, hml, hg, hK⟩ := hC
  have hown : s.vm.findClass "GroupBitmaps" = some m.cls := hown
  have hl : lv_has ls 3 [(0, .ref (ad 0))] := hl
  have hc1 := hσ.1
  have hc2 := hσ.2.1
  refine lv_iconst (v := nI 0) hx hb d_GB_freeBlocks_0 (by decide) ?_
  refine lv_istore_n (lv' := [(1, .int (nI 0)), (0, .ref (ad 0))]) hx hb d_GB_freeBlocks_1 rfl hl (by decide) rfl (fun ls hl => ?_)
  refine lv_iconst (v := nI 0) hx hb d_GB_freeBlocks_2 (by decide) ?_
  refine lv_istore_n (lv' := [(2, .int (nI 0)), (1, .int (nI 0)), (0, .ref (ad 0))]) hx hb d_GB_freeBlocks_3 rfl hl (by decide) rfl (fun ls hl => ?_)
  have loop : ∀ (fuel : Nat) (g : Nat), sCnt σ + 1 ≤ fuel + g → (g ≤ sCnt σ) → ∀ (H : Heap) (locs : List Loc) (ls : Array Slot), gI D A s.heap (wd ad cG cZ σ) H locs → lv_has ls 3 [(0, .ref (ad 0)), (1, .int (nI (sFB σ g))), (2, .int (nI g))] → W p l e ({ frames := 0, cells := 0, slots := 0, locals := 0 }) s m ([.ref (ad 0)] : List Value).toArray below meth c H locs 0 0 (gQ D below ([.ref (ad 0)] : List Value).toArray s A (wd ad cG cZ σ) (some (.int (nI (sFB σ (sCnt σ)))))) (F0 m 4 ls []) := by
    intro fuel
    induction fuel with
    | zero => intro g hfu hgc; exact absurd hfu (by omega)
    | succ fuel ih =>
      intro g hfu hgc H locs ls hI hl
      refine lv_iload_n hx hb d_GB_freeBlocks_4 rfl (lv_at hl 2 rfl) ?_
      refine lv_aload_n hx hb d_GB_freeBlocks_5 rfl (lv_at hl 0 rfl) ?_
      refine g_get (own := "GroupBitmaps") (C := R_GB) (T := F_GB) (N := 5) (ci := 0) (v := .int (nI (sCnt σ))) hx hb hg ku_GB hown hK hI (0) (wd_GB) rfl 1 (by decide) kw_92 rfl d_GB_freeBlocks_6 ?_
      refine r_ge (a := g) (b := sCnt σ) (tgt := 33) hx hb d_GB_freeBlocks_9 (by decide) (by omega) (by omega) (fun h => ?_) (fun h => ?_)
      · obtain rfl : g = sCnt σ := by omega
        refine lv_iload_n hx hb d_GB_freeBlocks_33 rfl (lv_at hl 1 rfl) ?_
        exact g_ri hx hb hr hlk hI (rfl) d_GB_freeBlocks_34
      · refine lv_iload_n hx hb d_GB_freeBlocks_12 rfl (lv_at hl 1 rfl) ?_
        refine lv_aload_n hx hb d_GB_freeBlocks_13 rfl (lv_at hl 0 rfl) ?_
        refine g_get (own := "GroupBitmaps") (C := R_GB) (T := F_GB) (N := 5) (ci := 0) (v := .ref (ad 1)) hx hb hg ku_GB hown hK hI (0) (wd_GB) rfl 0 (by decide) kw_91 rfl d_GB_freeBlocks_14 ?_
        refine lv_iload_n hx hb d_GB_freeBlocks_17 rfl (lv_at hl 2 rfl) ?_
        refine g_aldq (r := ad (2 + g)) (i := g) hx hb hK hI (1) 0 (wd_GA) rfl (by omega) (by decide) rfl d_GB_freeBlocks_18 ?_
        have hq0 := show g < 4 by omega
        have hr0 : 2 * g < 8 := by omega
        have hs0 : 2 * g + 1 < 8 := by omega
        refine g_getN (own := "GroupBitmaps") (C := R_GR) (T := F_GR) (N := 6) (ci := 1) (v := .ref (ad (6 + (2 * g)))) hx hb hg ku_GR hown hK hI (2 + g) (wd_GR hq0) rfl 3 (by decide) kw_61 rfl d_GB_freeBlocks_19 ?_
        refine g_getN (own := "GroupBitmaps") (C := R_BM) (T := F_BM) (N := 5) (ci := 2) (v := .int (nI (sFr σ (2 * g)))) hx hb hg ku_BM hown hK hI (6 + (2 * g)) (wd_BM hr0) rfl 3 (by decide) kw_40 rfl d_GB_freeBlocks_22 ?_
        refine r_iadd (a := sFB σ g) (b := sFr σ (2 * g)) hx hb d_GB_freeBlocks_25 ?_
        refine lv_istore_n (lv' := [(1, .int (nI ((sFB σ g) + (sFr σ (2 * g))))), (0, .ref (ad 0)), (2, .int (nI g))]) hx hb d_GB_freeBlocks_26 rfl hl (by decide) rfl (fun ls hl => ?_)
        refine lv_iinc (v := nI (g + 1)) (lv' := [(2, .int (nI (g + 1))), (1, .int (nI ((sFB σ g) + (sFr σ (2 * g))))), (0, .ref (ad 0))]) hx hb d_GB_freeBlocks_27 hl (k := 2) rfl (nI_1 _) (by decide) rfl (fun ls hl => ?_)
        refine lv_goto (tgt := 4) hx hb d_GB_freeBlocks_30 (by decide) ?_
        exact ih (g + 1) (by omega) (by omega) _ _ _ hI (lv_sub hl [2, 1, 0] rfl)
  exact loop (sCnt σ + 1) 0 (by omega) (Nat.zero_le _) _ _ _ hI (lv_sub hl [2, 1, 0] rfl)
set_option maxHeartbeats 4000000 in
set_option maxRecDepth 100000 in
theorem c_GB_freeFiles {l : Launch} {D : va_G} {cG cZ cI cJ : ClassId} {ad : Nat → Nat} (σ : gS) (hσ : sB σ)  : gMet l D (gT cG cZ cI cJ) y_GB_freeFiles b_GB_freeFiles 3 (some .int) ({ frames := 0, cells := 0, slots := 0, locals := 0 }) (wd ad cG cZ σ) [.ref (ad 0)] (wd ad cG cZ σ) (some (.int (nI (sFF σ (sCnt σ))))) := by
  refine gMet_of (by decide) (Nat.le_of_ble_eq_true rfl) ?_
  intro p e s m below meth c A ls hC hA hI hl
  obtain ⟨hx, hb, hr, hlk, hown, hml, hg, hK⟩ := hC
  have hown : s.vm.findClass "GroupBitmaps" = some m.cls := hown
  have hl : lv_has ls 3 [(0, .ref (ad 0))] := hl
  have hc1 := hσ.1
  have hc2 := hσ.2.1
  refine lv_iconst (v := nI 0) hx hb d_GB_freeFiles_0 (by decide) ?_
  refine lv_istore_n (lv' := [(1, .int (nI 0)), (0, .ref (ad 0))]) hx hb d_GB_freeFiles_1 rfl hl (by decide) rfl (fun ls hl => ?_)
  refine lv_iconst (v := nI 0) hx hb d_GB_freeFiles_2 (by decide) ?_
  refine lv_istore_n (lv' := [(2, .int (nI 0)), (1, .int (nI 0)), (0, .ref (ad 0))]) hx hb d_GB_freeFiles_3 rfl hl (by decide) rfl (fun ls hl => ?_)
  have loop : ∀ (fuel : Nat) (g : Nat), sCnt σ + 1 ≤ fuel + g → (g ≤ sCnt σ) → ∀ (H : Heap) (locs : List Loc) (ls : Array Slot), gI D A s.heap (wd ad cG cZ σ) H locs → lv_has ls 3 [(0, .ref (ad 0)), (1, .int (nI (sFF σ g))), (2, .int (nI g))] → W p l e ({ frames := 0, cells := 0, slots := 0, locals := 0 }) s m ([.ref (ad 0)] : List Value).toArray below meth c H locs 0 0 (gQ D below ([.ref (ad 0)] : List Value).toArray s A (wd ad cG cZ σ) (some (.int (nI (sFF σ (sCnt σ)))))) (F0 m 4 ls []) := by
    intro fuel
    induction fuel with
    | zero => intro g hfu hgc; exact absurd hfu (by omega)
    | succ fuel ih =>
      intro g hfu hgc H locs ls hI hl
      refine lv_iload_n hx hb d_GB_freeFiles_4 rfl (lv_at hl 2 rfl) ?_
      refine lv_aload_n hx hb d_GB_freeFiles_5 rfl (lv_at hl 0 rfl) ?_
      refine g_get (own := "GroupBitmaps") (C := R_GB) (T := F_GB) (N := 5) (ci := 0) (v := .int (nI (sCnt σ))) hx hb hg ku_GB hown hK hI (0) (wd_GB) rfl 1 (by decide) kw_92 rfl d_GB_freeFiles_6 ?_
      refine r_ge (a := g) (b := sCnt σ) (tgt := 33) hx hb d_GB_freeFiles_9 (by decide) (by omega) (by omega) (fun h => ?_) (fun h => ?_)
      · obtain rfl : g = sCnt σ := by omega
        refine lv_iload_n hx hb d_GB_freeFiles_33 rfl (lv_at hl 1 rfl) ?_
        exact g_ri hx hb hr hlk hI (rfl) d_GB_freeFiles_34
      · refine lv_iload_n hx hb d_GB_freeFiles_12 rfl (lv_at hl 1 rfl) ?_
        refine lv_aload_n hx hb d_GB_freeFiles_13 rfl (lv_at hl 0 rfl) ?_
        refine g_get (own := "GroupBitmaps") (C := R_GB) (T := F_GB) (N := 5) (ci := 0) (v := .ref (ad 1)) hx hb hg ku_GB hown hK hI (0) (wd_GB) rfl 0 (by decide) kw_91 rfl d_GB_freeFiles_14 ?_
        refine lv_iload_n hx hb d_GB_freeFiles_17 rfl (lv_at hl 2 rfl) ?_
        refine g_aldq (r := ad (2 + g)) (i := g) hx hb hK hI (1) 0 (wd_GA) rfl (by omega) (by decide) rfl d_GB_freeFiles_18 ?_
        have hq0 := show g < 4 by omega
        have hr0 : 2 * g < 8 := by omega
        have hs0 : 2 * g + 1 < 8 := by omega
        refine g_getN (own := "GroupBitmaps") (C := R_GR) (T := F_GR) (N := 6) (ci := 1) (v := .ref (ad (6 + (2 * g + 1)))) hx hb hg ku_GR hown hK hI (2 + g) (wd_GR hq0) rfl 4 (by decide) kw_63 rfl d_GB_freeFiles_19 ?_
        refine g_getN (own := "GroupBitmaps") (C := R_BM) (T := F_BM) (N := 5) (ci := 2) (v := .int (nI (sFr σ (2 * g + 1)))) hx hb hg ku_BM hown hK hI (6 + (2 * g + 1)) (wd_BM hs0) rfl 3 (by decide) kw_40 rfl d_GB_freeFiles_22 ?_
        refine r_iadd (a := sFF σ g) (b := sFr σ (2 * g + 1)) hx hb d_GB_freeFiles_25 ?_
        refine lv_istore_n (lv' := [(1, .int (nI ((sFF σ g) + (sFr σ (2 * g + 1))))), (0, .ref (ad 0)), (2, .int (nI g))]) hx hb d_GB_freeFiles_26 rfl hl (by decide) rfl (fun ls hl => ?_)
        refine lv_iinc (v := nI (g + 1)) (lv' := [(2, .int (nI (g + 1))), (1, .int (nI ((sFF σ g) + (sFr σ (2 * g + 1))))), (0, .ref (ad 0))]) hx hb d_GB_freeFiles_27 hl (k := 2) rfl (nI_1 _) (by decide) rfl (fun ls hl => ?_)
        refine lv_goto (tgt := 4) hx hb d_GB_freeFiles_30 (by decide) ?_
        exact ih (g + 1) (by omega) (by omega) _ _ _ hI (lv_sub hl [2, 1, 0] rfl)
  exact loop (sCnt σ + 1) 0 (by omega) (Nat.zero_le _) _ _ _ hI (lv_sub hl [2, 1, 0] rfl)
set_option maxHeartbeats 4000000 in
set_option maxRecDepth 100000 in
theorem c_GB_takeable {l : Launch} {D : va_G} {cG cZ cI cJ : ClassId} {ad : Nat → Nat} (σ : gS) (hσ : sB σ) (al : Bool) : gMet l D (gT cG cZ cI cJ) y_GB_takeable b_GB_takeable 2 (some .int) ({ frames := 1, cells := 0, slots := 0, locals := 22 }) (wd ad cG cZ σ) [.ref (ad 0), .int (bI al)] (wd ad cG cZ σ) (some (.int (nI (sMay σ al)))) := by
  refine gMet_of (by decide) (Nat.le_of_ble_eq_true rfl) ?_
  intro p e s m below meth c A ls hC hA hI hl
  obtain ⟨hx, hb, hr, hlk, hown, hml, hg, hK⟩ := hC
  have hown : s.vm.findClass "GroupBitmaps" = some m.cls := hown
  have hl : lv_has ls 2 [(0, .ref (ad 0)), (1, .int (bI al))] := hl
  have hc1 := hσ.1
  have hc2 := hσ.2.1
  have hfb := sFB_le hσ (sCnt σ) hc2
  have hrs := hσ.2.2.1
  refine lv_iload_n hx hb d_GB_takeable_0 rfl (lv_at hl 1 rfl) ?_
  refine r_bz (b := al) (tgt := 11) hx hb d_GB_takeable_1 (by decide) (fun h => ?_) (fun h => ?_)
  · refine lv_iconst (v := nI 0) hx hb d_GB_takeable_11 (by decide) ?_
    refine lv_aload_n hx hb d_GB_takeable_12 rfl (lv_at hl 0 rfl) ?_
    refine g_callV (own := "GroupBitmaps") (C := "GroupBitmaps") (T := F_GB) (N := 5) (k := 0) (q0 := 0) (ci := 0) (a := ad 0) (As := []) (rest := [.int (nI 0)]) (c_GB_freeBlocks σ hσ) hx hb hml hown hg hK hI hA kw_196 kw_198 kp_2 kw_1 kw_199 ky_GB_freeBlocks ⟨Nat.le_of_ble_eq_true rfl, Nat.le_of_ble_eq_true rfl⟩ rfl rfl (wd_GB) rfl rfl hl.1 (Nat.le_of_ble_eq_true rfl) ⟨Nat.zero_le _, Nat.zero_le _⟩ d_GB_takeable_13 rfl rfl (fun H locs hI => ?_)
    refine lv_aload_n hx hb d_GB_takeable_16 rfl (lv_at hl 0 rfl) ?_
    refine g_get (own := "GroupBitmaps") (C := R_GB) (T := F_GB) (N := 5) (ci := 0) (v := .int (nI (sRsv σ))) hx hb hg ku_GB hown hK hI (0) (wd_GB) rfl 2 (by decide) kw_93 rfl d_GB_takeable_17 ?_
    refine lv_isub hx hb d_GB_takeable_20 ?_
    refine va_mmax hx hb (hml.trans hl.1.symm) hown (hg _ kw_212) (hg _ kw_213) (hg _ kw_9) (hg _ kw_214) (Nat.le_of_ble_eq_true rfl) (Nat.le_of_ble_eq_true rfl) (Nat.zero_le _) (Nat.zero_le _) d_GB_takeable_21 ?_
    rw [max0_sub (by omega) (by omega)]
    exact g_ri hx hb hr hlk hI (by rw [sMay, h]; rfl) d_GB_takeable_24
  · refine lv_aload_n hx hb d_GB_takeable_4 rfl (lv_at hl 0 rfl) ?_
    refine g_callV (own := "GroupBitmaps") (C := "GroupBitmaps") (T := F_GB) (N := 5) (k := 0) (q0 := 0) (ci := 0) (a := ad 0) (As := []) (rest := []) (c_GB_freeBlocks σ hσ) hx hb hml hown hg hK hI hA kw_196 kw_198 kp_2 kw_1 kw_199 ky_GB_freeBlocks ⟨Nat.le_of_ble_eq_true rfl, Nat.le_of_ble_eq_true rfl⟩ rfl rfl (wd_GB) rfl rfl hl.1 (Nat.le_of_ble_eq_true rfl) ⟨Nat.zero_le _, Nat.zero_le _⟩ d_GB_takeable_5 rfl rfl (fun H locs hI => ?_)
    refine lv_goto (tgt := 24) hx hb d_GB_takeable_8 (by decide) ?_
    exact g_ri hx hb hr hlk hI (by rw [sMay, h]; rfl) d_GB_takeable_24
set_option maxHeartbeats 4000000 in
set_option maxRecDepth 100000 in
theorem c_GB_takeRun {l : Launch} {D : va_G} {cG cZ cI cJ : ClassId} {ad : Nat → Nat} (σ : gS) (g a q : Nat) (hg4 : g < 4) (ha : a < 65536) (hq : q < 65536) (hs : sSafe σ (2 * g) a q) : gMet l D (gT cG cZ cI cJ) y_GB_takeRun b_GB_takeRun 5 (some .int) ({ frames := 2, cells := 0, slots := 0, locals := 42 }) (wd ad cG cZ σ) [.ref (ad 0), .ref (ad (2 + g)), .int (nI a), .int (nI q)] (wd ad cG cZ (sRun σ g a q)) (some (.int (nI (256 * g + a)))) := by
  refine gMet_of (by decide) (Nat.le_of_ble_eq_true rfl) ?_
  intro p e s m below meth c A ls hC hA hI hl
  obtain ⟨hx, hb, hr, hlk, hown, hml, hg, hK⟩ := hC
  have hown : s.vm.findClass "GroupBitmaps" = some m.cls := hown
  have hl : lv_has ls 5 [(0, .ref (ad 0)), (1, .ref (ad (2 + g))), (2, .int (nI a)), (3, .int (nI q))] := hl
  have hq0 := hg4
  have hr0 : 2 * g < 8 := by omega
  have hs0 : 2 * g + 1 < 8 := by omega
  refine lv_iload_n hx hb d_GB_takeRun_0 rfl (lv_at hl 2 rfl) ?_
  refine lv_istore (lv' := [(4, .int (nI a)), (0, .ref (ad 0)), (1, .ref (ad (2 + g))), (2, .int (nI a)), (3, .int (nI q))]) hx hb d_GB_takeRun_1 hl (by decide) rfl (fun ls hl => ?_)
  have loop : ∀ (fuel : Nat) (t : Nat), q + 1 ≤ fuel + t → (t ≤ q) → ∀ (H : Heap) (locs : List Loc) (ls : Array Slot), gI D A s.heap (wd ad cG cZ (sOccs σ (2 * g) a t)) H locs → lv_has ls 5 [(0, .ref (ad 0)), (1, .ref (ad (2 + g))), (2, .int (nI a)), (3, .int (nI q)), (4, .int (nI (a + t)))] → W p l e ({ frames := 2, cells := 0, slots := 0, locals := 42 }) s m ([.ref (ad 0), .ref (ad (2 + g)), .int (nI a), .int (nI q)] : List Value).toArray below meth c H locs 0 0 (gQ D below ([.ref (ad 0), .ref (ad (2 + g)), .int (nI a), .int (nI q)] : List Value).toArray s A (wd ad cG cZ (sRun σ g a q)) (some (.int (nI (256 * g + a))))) (F0 m 3 ls []) := by
    intro fuel
    induction fuel with
    | zero => intro t hfu ht; exact absurd hfu (by omega)
    | succ fuel ih =>
      intro t hfu ht H locs ls hI hl
      refine lv_iload hx hb d_GB_takeRun_3 (lv_at hl 4 rfl) ?_
      refine lv_iload_n hx hb d_GB_takeRun_5 rfl (lv_at hl 2 rfl) ?_
      refine lv_iload_n hx hb d_GB_takeRun_6 rfl (lv_at hl 3 rfl) ?_
      refine r_iadd (a := a) (b := q) hx hb d_GB_takeRun_7 ?_
      refine r_ge (a := a + t) (b := a + q) (tgt := 26) hx hb d_GB_takeRun_8 (by decide) (by omega) (by omega) (fun h => ?_) (fun h => ?_)
      · obtain rfl : q = t := by omega
        refine lv_aload_n hx hb d_GB_takeRun_26 rfl (lv_at hl 0 rfl) ?_
        refine lv_iload_n hx hb d_GB_takeRun_27 rfl (lv_at hl 3 rfl) ?_
        refine g_put (ws' := (wd ad cG cZ (uLat (sOccs σ (2 * g) a q) q))) (own := "GroupBitmaps") (C := R_GB) (T := F_GB) (N := 5) (ci := 0) (v := .int (nI q)) hx hb hg ku_GB t_GB t_GB_ok n_GB hown hK hI (0) (wd_GB) rfl 3 (by decide) kw_94 rfl rfl (rfl) (rfl) (Nat.le_of_ble_eq_true rfl) (wd_uLat) d_GB_takeRun_28 (fun H locs hI => ?_)
        refine lv_aload_n hx hb d_GB_takeRun_31 rfl (lv_at hl 0 rfl) ?_
        refine lv_iconst (v := bI true) hx hb d_GB_takeRun_32 (by decide) ?_
        refine g_put (ws' := (wd ad cG cZ (sRun σ g a q))) (own := "GroupBitmaps") (C := R_GB) (T := F_GB) (N := 5) (ci := 0) (v := .int (bI true)) hx hb hg ku_GB t_GB t_GB_ok n_GB hown hK hI (0) (wd_GB) rfl 4 (by decide) kw_95 rfl rfl (bI_n _) (bI_fit _) (Nat.le_of_ble_eq_true rfl) (wd_uTT) d_GB_takeRun_33 (fun H locs hI => ?_)
        refine lv_aload_n hx hb d_GB_takeRun_36 rfl (lv_at hl 1 rfl) ?_
        refine g_getN (own := "GroupBitmaps") (C := R_GR) (T := F_GR) (N := 6) (ci := 1) (v := .int (nI (256 * g))) hx hb hg ku_GR hown hK hI (2 + g) (wd_GR hq0) rfl 0 (by decide) kw_56 rfl d_GB_takeRun_37 ?_
        refine lv_iload_n hx hb d_GB_takeRun_40 rfl (lv_at hl 2 rfl) ?_
        refine r_iadd (a := 256 * g) (b := a) hx hb d_GB_takeRun_41 ?_
        exact g_ri hx hb hr hlk hI (rfl) d_GB_takeRun_42
      · refine lv_aload_n hx hb d_GB_takeRun_11 rfl (lv_at hl 1 rfl) ?_
        refine g_getN (own := "GroupBitmaps") (C := R_GR) (T := F_GR) (N := 6) (ci := 1) (v := .ref (ad (6 + (2 * g)))) hx hb hg ku_GR hown hK hI (2 + g) (wd_GR hq0) rfl 3 (by decide) kw_61 rfl d_GB_takeRun_12 ?_
        refine lv_iload hx hb d_GB_takeRun_15 (lv_at hl 4 rfl) ?_
        refine g_callV (own := "GroupBitmaps") (C := "GroupBitmaps$Bitmap") (T := F_BM) (N := 5) (k := 1) (q0 := 6 + (2 * g)) (ci := 2) (a := ad (6 + (2 * g))) (As := [.int (nI (a + t))]) (rest := []) (c_BM_occupy (sOccs σ (2 * g) a t) (2 * g) hr0 (a + t) (by omega) (hs t (by omega))) hx hb hml hown hg hK hI hA kw_272 kw_273 kw_274 kw_3 kw_275 ky_BM_occupy ⟨Nat.le_of_ble_eq_true rfl, Nat.le_of_ble_eq_true rfl⟩ rfl rfl (wd_BM hr0) rfl rfl hl.1 (Nat.le_of_ble_eq_true rfl) ⟨Nat.zero_le _, Nat.zero_le _⟩ d_GB_takeRun_17 rfl rfl (fun H locs hI => ?_)
        refine lv_iinc (v := nI ((a + t) + 1)) (lv' := [(4, .int (nI ((a + t) + 1))), (0, .ref (ad 0)), (1, .ref (ad (2 + g))), (2, .int (nI a)), (3, .int (nI q))]) hx hb d_GB_takeRun_20 hl (k := 4) rfl (nI_1 _) (by decide) rfl (fun ls hl => ?_)
        refine lv_goto (tgt := 3) hx hb d_GB_takeRun_23 (by decide) ?_
        exact ih (t + 1) (by omega) (by omega) _ _ _ hI (lv_sub hl [1, 2, 3, 4, 0] rfl)
  exact loop (q + 1) 0 (by omega) (Nat.zero_le _) _ _ _ hI (lv_sub hl [1, 2, 3, 4, 0] rfl)
set_option maxHeartbeats 4000000 in
set_option maxRecDepth 100000 in
theorem c_GB_takeLongestRun {l : Launch} {D : va_G} {cG cZ cI cJ : ClassId} {ad : Nat → Nat} (σ : gS) (hσ : sB σ) (g a : Nat) (hg4 : g < 4) (ha : a < 65536) (hsr : (sSr σ (2 * (sBest σ g (sCnt σ - 1)).1) (sBest σ g (sCnt σ - 1)).2 (sSz σ (2 * (sBest σ g (sCnt σ - 1)).1))).1 = some a) (hs : sSafe σ (2 * (sBest σ g (sCnt σ - 1)).1) a (sBest σ g (sCnt σ - 1)).2) : gMet l D (gT cG cZ cI cJ) y_GB_takeLongestRun b_GB_takeLongestRun 7 (some .int) ({ frames := 3, cells := 0, slots := 0, locals := 66 }) (wd ad cG cZ σ) [.ref (ad 0), .ref (ad (2 + g))] (wd ad cG cZ (sRun σ (sBest σ g (sCnt σ - 1)).1 a (sBest σ g (sCnt σ - 1)).2)) (some (.int (nI (256 * (sBest σ g (sCnt σ - 1)).1 + a)))) := by
  refine gMet_of (by decide) (Nat.le_of_ble_eq_true rfl) ?_
  intro p e s m below meth c A ls hC hA hI hl
  obtain ⟨hx, hb, hr, hlk, hown, hml, hg, hK⟩ := hC
  have hown : s.vm.findClass "GroupBitmaps" = some m.cls := hown
  have hl : lv_has ls 7 [(0, .ref (ad 0)), (1, .ref (ad (2 + g)))] := hl
  have hc1 := hσ.1
  have hc2 := hσ.2.1
  have hq0 := hg4
  have hr0 : 2 * g < 8 := by omega
  have hs0 : 2 * g + 1 < 8 := by omega
  refine lv_aload_n hx hb d_GB_takeLongestRun_0 rfl (lv_at hl 1 rfl) ?_
  refine lv_astore_n (lv' := [(2, .ref (ad (2 + g))), (0, .ref (ad 0)), (1, .ref (ad (2 + g)))]) hx hb d_GB_takeLongestRun_1 rfl hl (by decide) rfl (fun ls hl => ?_)
  refine lv_aload_n hx hb d_GB_takeLongestRun_2 rfl (lv_at hl 2 rfl) ?_
  refine g_getN (own := "GroupBitmaps") (C := R_GR) (T := F_GR) (N := 6) (ci := 1) (v := .ref (ad (6 + (2 * g)))) hx hb hg ku_GR hown hK hI (2 + g) (wd_GR hq0) rfl 3 (by decide) kw_61 rfl d_GB_takeLongestRun_3 ?_
  refine g_callV (own := "GroupBitmaps") (C := "GroupBitmaps$Bitmap") (T := F_BM) (N := 5) (k := 0) (q0 := 6 + (2 * g)) (ci := 2) (a := ad (6 + (2 * g))) (As := []) (rest := []) (c_BM_longestRun σ (2 * g) hr0 (hσ.2.2.2.1 _ hr0).1) hx hb hml hown hg hK hI hA kw_288 kw_289 kw_290 kw_3 kw_291 ky_BM_longestRun ⟨Nat.le_of_ble_eq_true rfl, Nat.le_of_ble_eq_true rfl⟩ rfl rfl (wd_BM hr0) rfl rfl hl.1 (Nat.le_of_ble_eq_true rfl) ⟨Nat.zero_le _, Nat.zero_le _⟩ d_GB_takeLongestRun_6 rfl rfl (fun H locs hI => ?_)
  refine lv_istore_n (lv' := [(3, .int (nI (sLen5 σ g))), (2, .ref (ad (2 + g))), (0, .ref (ad 0)), (1, .ref (ad (2 + g)))]) hx hb d_GB_takeLongestRun_9 rfl hl (by decide) rfl (fun ls hl => ?_)
  refine lv_iconst (v := nI 1) hx hb d_GB_takeLongestRun_10 (by decide) ?_
  refine lv_istore (lv' := [(4, .int (nI 1)), (3, .int (nI (sLen5 σ g))), (2, .ref (ad (2 + g))), (0, .ref (ad 0)), (1, .ref (ad (2 + g)))]) hx hb d_GB_takeLongestRun_11 hl (by decide) rfl (fun ls hl => ?_)
  have loop : ∀ (fuel : Nat) (k : Nat), sCnt σ ≤ fuel + k → (k + 1 ≤ sCnt σ) → ∀ (H : Heap) (locs : List Loc) (ls : Array Slot), gI D A s.heap (wd ad cG cZ σ) H locs → lv_has ls 7 [(0, .ref (ad 0)), (1, .ref (ad (2 + g))), (2, .ref (ad (2 + ((sBest σ g k).1)))), (3, .int (nI ((sBest σ g k).2))), (4, .int (nI (k + 1)))] → W p l e ({ frames := 3, cells := 0, slots := 0, locals := 66 }) s m ([.ref (ad 0), .ref (ad (2 + g))] : List Value).toArray below meth c H locs 0 0 (gQ D below ([.ref (ad 0), .ref (ad (2 + g))] : List Value).toArray s A (wd ad cG cZ (sRun σ (sBest σ g (sCnt σ - 1)).1 a (sBest σ g (sCnt σ - 1)).2)) (some (.int (nI (256 * (sBest σ g (sCnt σ - 1)).1 + a))))) (F0 m 13 ls []) := by
    intro fuel
    induction fuel with
    | zero => intro k hfu hk; exact absurd hfu (by omega)
    | succ fuel ih =>
      intro k hfu hk H locs ls hI hl
      have hbl := sBest_le hσ hg4 k
      refine lv_iload hx hb d_GB_takeLongestRun_13 (lv_at hl 4 rfl) ?_
      refine lv_aload_n hx hb d_GB_takeLongestRun_15 rfl (lv_at hl 0 rfl) ?_
      refine g_get (own := "GroupBitmaps") (C := R_GB) (T := F_GB) (N := 5) (ci := 0) (v := .int (nI (sCnt σ))) hx hb hg ku_GB hown hK hI (0) (wd_GB) rfl 1 (by decide) kw_92 rfl d_GB_takeLongestRun_16 ?_
      refine r_ge (a := k + 1) (b := sCnt σ) (tgt := 59) hx hb d_GB_takeLongestRun_19 (by decide) (by omega) (by omega) (fun h => ?_) (fun h => ?_)
      · obtain rfl : k = sCnt σ - 1 := by omega
        have hq1 := hbl.1
        have hr1 : 2 * ((sBest σ g (sCnt σ - 1)).1) < 8 := by omega
        have hs1 : 2 * ((sBest σ g (sCnt σ - 1)).1) + 1 < 8 := by omega
        refine lv_aload_n hx hb d_GB_takeLongestRun_59 rfl (lv_at hl 0 rfl) ?_
        refine lv_aload_n hx hb d_GB_takeLongestRun_60 rfl (lv_at hl 2 rfl) ?_
        refine lv_aload_n hx hb d_GB_takeLongestRun_61 rfl (lv_at hl 2 rfl) ?_
        refine g_getN (own := "GroupBitmaps") (C := R_GR) (T := F_GR) (N := 6) (ci := 1) (v := .ref (ad (6 + (2 * ((sBest σ g (sCnt σ - 1)).1))))) hx hb hg ku_GR hown hK hI (2 + ((sBest σ g (sCnt σ - 1)).1)) (wd_GR hq1) rfl 3 (by decide) kw_61 rfl d_GB_takeLongestRun_62 ?_
        refine lv_iload_n hx hb d_GB_takeLongestRun_65 rfl (lv_at hl 3 rfl) ?_
        refine g_callV (own := "GroupBitmaps") (C := "GroupBitmaps$Bitmap") (T := F_BM) (N := 5) (k := 1) (q0 := 6 + (2 * ((sBest σ g (sCnt σ - 1)).1))) (ci := 2) (a := ad (6 + (2 * ((sBest σ g (sCnt σ - 1)).1)))) (As := [.int (nI ((sBest σ g (sCnt σ - 1)).2))]) (rest := [.ref (ad (2 + ((sBest σ g (sCnt σ - 1)).1))), .ref (ad 0)]) (c_BM_shortestRun σ (2 * (sBest σ g (sCnt σ - 1)).1) hr1 (sBest σ g (sCnt σ - 1)).2 (by omega) (hσ.2.2.2.1 _ hr1).1) hx hb hml hown hg hK hI hA kw_280 kw_281 kw_282 kw_3 kw_283 ky_BM_shortestRun ⟨Nat.le_of_ble_eq_true rfl, Nat.le_of_ble_eq_true rfl⟩ rfl rfl (wd_BM hr1) rfl rfl hl.1 (Nat.le_of_ble_eq_true rfl) ⟨Nat.zero_le _, Nat.zero_le _⟩ d_GB_takeLongestRun_66 rfl rfl (fun H locs hI => ?_)
        rw [hsr]
        refine lv_iload_n hx hb d_GB_takeLongestRun_69 rfl (lv_at hl 3 rfl) ?_
        refine g_callV (own := "GroupBitmaps") (C := "GroupBitmaps") (T := F_GB) (N := 5) (k := 3) (q0 := 0) (ci := 0) (a := ad 0) (As := [.ref (ad (2 + ((sBest σ g (sCnt σ - 1)).1))), .int (nI a), .int (nI ((sBest σ g (sCnt σ - 1)).2))]) (rest := []) (c_GB_takeRun σ (sBest σ g (sCnt σ - 1)).1 a (sBest σ g (sCnt σ - 1)).2 hbl.1 ha (by omega) hs) hx hb hml hown hg hK hI hA kw_268 kw_270 kp_8 kw_1 kw_271 ky_GB_takeRun ⟨Nat.le_of_ble_eq_true rfl, Nat.le_of_ble_eq_true rfl⟩ rfl rfl (wd_GB) rfl rfl hl.1 (Nat.le_of_ble_eq_true rfl) ⟨Nat.zero_le _, Nat.zero_le _⟩ d_GB_takeLongestRun_70 rfl rfl (fun H locs hI => ?_)
        exact g_ri hx hb hr hlk hI (rfl) d_GB_takeLongestRun_73
      · refine lv_aload_n hx hb d_GB_takeLongestRun_22 rfl (lv_at hl 0 rfl) ?_
        refine lv_aload_n hx hb d_GB_takeLongestRun_23 rfl (lv_at hl 1 rfl) ?_
        refine lv_iload hx hb d_GB_takeLongestRun_24 (lv_at hl 4 rfl) ?_
        refine g_callV (own := "GroupBitmaps") (C := "GroupBitmaps") (T := F_GB) (N := 5) (k := 2) (q0 := 0) (ci := 0) (a := ad 0) (As := [.ref (ad (2 + g)), .int (nI (k + 1))]) (rest := []) (c_GB_groupBehind σ hσ g (k + 1) hg4 (by omega)) hx hb hml hown hg hK hI hA kw_276 kw_278 kp_9 kw_1 kw_279 ky_GB_groupBehind ⟨Nat.le_of_ble_eq_true rfl, Nat.le_of_ble_eq_true rfl⟩ rfl rfl (wd_GB) rfl rfl hl.1 (Nat.le_of_ble_eq_true rfl) ⟨Nat.zero_le _, Nat.zero_le _⟩ d_GB_takeLongestRun_26 rfl rfl (fun H locs hI => ?_)
        have hq2 := sNx_lt hσ g (k + 1)
        have hr2 : 2 * (sNx σ g (k + 1)) < 8 := by omega
        have hs2 : 2 * (sNx σ g (k + 1)) + 1 < 8 := by omega
        have hl5 := sLen5_le hσ hq2
        refine lv_astore (lv' := [(5, .ref (ad (2 + (sNx σ g (k + 1))))), (0, .ref (ad 0)), (1, .ref (ad (2 + g))), (2, .ref (ad (2 + ((sBest σ g k).1)))), (3, .int (nI ((sBest σ g k).2))), (4, .int (nI (k + 1)))]) hx hb d_GB_takeLongestRun_29 hl (by decide) rfl (fun ls hl => ?_)
        refine lv_aload hx hb d_GB_takeLongestRun_31 (lv_at hl 0 rfl) ?_
        refine g_getN (own := "GroupBitmaps") (C := R_GR) (T := F_GR) (N := 6) (ci := 1) (v := .ref (ad (6 + (2 * (sNx σ g (k + 1)))))) hx hb hg ku_GR hown hK hI (2 + (sNx σ g (k + 1))) (wd_GR hq2) rfl 3 (by decide) kw_61 rfl d_GB_takeLongestRun_33 ?_
        refine g_callV (own := "GroupBitmaps") (C := "GroupBitmaps$Bitmap") (T := F_BM) (N := 5) (k := 0) (q0 := 6 + (2 * (sNx σ g (k + 1)))) (ci := 2) (a := ad (6 + (2 * (sNx σ g (k + 1))))) (As := []) (rest := []) (c_BM_longestRun σ (2 * (sNx σ g (k + 1))) hr2 (hσ.2.2.2.1 _ hr2).1) hx hb hml hown hg hK hI hA kw_288 kw_289 kw_290 kw_3 kw_291 ky_BM_longestRun ⟨Nat.le_of_ble_eq_true rfl, Nat.le_of_ble_eq_true rfl⟩ rfl rfl (wd_BM hr2) rfl rfl hl.1 (Nat.le_of_ble_eq_true rfl) ⟨Nat.zero_le _, Nat.zero_le _⟩ d_GB_takeLongestRun_36 rfl rfl (fun H locs hI => ?_)
        refine lv_istore (lv' := [(6, .int (nI (sLen5 σ (sNx σ g (k + 1))))), (5, .ref (ad (2 + (sNx σ g (k + 1))))), (0, .ref (ad 0)), (1, .ref (ad (2 + g))), (2, .ref (ad (2 + ((sBest σ g k).1)))), (3, .int (nI ((sBest σ g k).2))), (4, .int (nI (k + 1)))]) hx hb d_GB_takeLongestRun_39 hl (by decide) rfl (fun ls hl => ?_)
        refine lv_iload hx hb d_GB_takeLongestRun_41 (lv_at hl 0 rfl) ?_
        refine lv_iload_n hx hb d_GB_takeLongestRun_43 rfl (lv_at hl 5 rfl) ?_
        refine r_le (a := sLen5 σ (sNx σ g (k + 1))) (b := (sBest σ g k).2) (tgt := 53) hx hb d_GB_takeLongestRun_44 (by decide) (by omega) (by omega) (fun h2 => ?_) (fun h2 => ?_)
        · have e1 : sBest σ g (k + 1) = sBest σ g k := if_neg (Nat.not_lt.mpr h2)
          refine lv_iinc (v := nI ((k + 1) + 1)) (lv' := [(4, .int (nI ((k + 1) + 1))), (6, .int (nI (sLen5 σ (sNx σ g (k + 1))))), (5, .ref (ad (2 + (sNx σ g (k + 1))))), (0, .ref (ad 0)), (1, .ref (ad (2 + g))), (2, .ref (ad (2 + ((sBest σ g k).1)))), (3, .int (nI ((sBest σ g k).2)))]) hx hb d_GB_takeLongestRun_53 hl (k := 6) rfl (nI_1 _) (by decide) rfl (fun ls hl => ?_)
          refine lv_goto (tgt := 13) hx hb d_GB_takeLongestRun_56 (by decide) ?_
          exact ih (k + 1) (by omega) (by omega) _ _ _ hI (by rw [e1]; exact lv_sub hl [3, 4, 5, 6, 0] rfl)
        · have e1 : sBest σ g (k + 1) = (sNx σ g (k + 1), sLen5 σ (sNx σ g (k + 1))) := if_pos h2
          refine lv_iload hx hb d_GB_takeLongestRun_47 (lv_at hl 0 rfl) ?_
          refine lv_istore_n (lv' := [(3, .int (nI (sLen5 σ (sNx σ g (k + 1))))), (6, .int (nI (sLen5 σ (sNx σ g (k + 1))))), (5, .ref (ad (2 + (sNx σ g (k + 1))))), (0, .ref (ad 0)), (1, .ref (ad (2 + g))), (2, .ref (ad (2 + ((sBest σ g k).1)))), (4, .int (nI (k + 1)))]) hx hb d_GB_takeLongestRun_49 rfl hl (by decide) rfl (fun ls hl => ?_)
          refine lv_aload hx hb d_GB_takeLongestRun_50 (lv_at hl 2 rfl) ?_
          refine lv_astore_n (lv' := [(2, .ref (ad (2 + (sNx σ g (k + 1))))), (3, .int (nI (sLen5 σ (sNx σ g (k + 1))))), (6, .int (nI (sLen5 σ (sNx σ g (k + 1))))), (5, .ref (ad (2 + (sNx σ g (k + 1))))), (0, .ref (ad 0)), (1, .ref (ad (2 + g))), (4, .int (nI (k + 1)))]) hx hb d_GB_takeLongestRun_52 rfl hl (by decide) rfl (fun ls hl => ?_)
          refine lv_iinc (v := nI ((k + 1) + 1)) (lv' := [(4, .int (nI ((k + 1) + 1))), (2, .ref (ad (2 + (sNx σ g (k + 1))))), (3, .int (nI (sLen5 σ (sNx σ g (k + 1))))), (6, .int (nI (sLen5 σ (sNx σ g (k + 1))))), (5, .ref (ad (2 + (sNx σ g (k + 1))))), (0, .ref (ad 0)), (1, .ref (ad (2 + g)))]) hx hb d_GB_takeLongestRun_53 hl (k := 6) rfl (nI_1 _) (by decide) rfl (fun ls hl => ?_)
          refine lv_goto (tgt := 13) hx hb d_GB_takeLongestRun_56 (by decide) ?_
          exact ih (k + 1) (by omega) (by omega) _ _ _ hI (by rw [e1]; exact lv_sub hl [5, 6, 1, 2, 0] rfl)
  exact loop (sCnt σ) 0 (by omega) (by omega) _ _ _ hI (lv_sub hl [3, 4, 2, 1, 0] rfl)
set_option maxHeartbeats 4000000 in
set_option maxRecDepth 100000 in
theorem c_GB_takeNear {l : Launch} {D : va_G} {cG cZ cI cJ : ClassId} {ad : Nat → Nat} (σ : gS) (hσ : sB σ) (goal q : Nat) (hgo : goal < 1024) (hq : q < 65536) (hs : sSafe σ (2 * (sPick σ goal q).1) (sPick σ goal q).2.1 (sPick σ goal q).2.2) (hlr : sAf σ (2 * (goal / 256)) (goal % 256) q = false → sFind σ (goal / 256) q (sCnt σ) = none → ∃ a, a < 65536 ∧ (sSr σ (2 * (sBest σ (goal / 256) (sCnt σ - 1)).1) (sBest σ (goal / 256) (sCnt σ - 1)).2 (sSz σ (2 * (sBest σ (goal / 256) (sCnt σ - 1)).1))).1 = some a) (hfa : ∀ g a, sFind σ (goal / 256) q (sCnt σ) = some (g, a) → a < 65536) : gMet l D (gT cG cZ cI cJ) y_GB_takeNear b_GB_takeNear 8 (some .int) ({ frames := 4, cells := 0, slots := 0, locals := 92 }) (wd ad cG cZ σ) [.ref (ad 0), .int (nI goal), .int (nI q)] (wd ad cG cZ (sRun σ (sPick σ goal q).1 (sPick σ goal q).2.1 (sPick σ goal q).2.2)) (some (.int (nI (256 * (sPick σ goal q).1 + (sPick σ goal q).2.1)))) := by
  refine gMet_of (by decide) (Nat.le_of_ble_eq_true rfl) ?_
  intro p e s m below meth c A ls hC hA hI hl
  obtain ⟨hx, hb, hr, hlk, hown, hml, hg, hK⟩ := hC
  have hown : s.vm.findClass "GroupBitmaps" = some m.cls := hown
  have hl : lv_has ls 8 [(0, .ref (ad 0)), (1, .int (nI goal)), (2, .int (nI q))] := hl
  have hc1 := hσ.1
  have hc2 := hσ.2.1
  refine lv_aload_n hx hb d_GB_takeNear_0 rfl (lv_at hl 0 rfl) ?_
  refine lv_iload_n hx hb d_GB_takeNear_1 rfl (lv_at hl 1 rfl) ?_
  refine g_callV (own := "GroupBitmaps") (C := "GroupBitmaps") (T := F_GB) (N := 5) (k := 1) (q0 := 0) (ci := 0) (a := ad 0) (As := [.int (nI goal)]) (rest := []) (c_GB_groupOfBlock σ goal hgo) hx hb hml hown hg hK hI hA kw_256 kw_258 kp_7 kw_1 kw_259 ky_GB_groupOfBlock ⟨Nat.le_of_ble_eq_true rfl, Nat.le_of_ble_eq_true rfl⟩ rfl rfl (wd_GB) rfl rfl hl.1 (Nat.le_of_ble_eq_true rfl) ⟨Nat.zero_le _, Nat.zero_le _⟩ d_GB_takeNear_2 rfl rfl (fun H locs hI => ?_)
  have hq0 := show goal / 256 < 4 by omega
  have hr0 : 2 * (goal / 256) < 8 := by omega
  have hs0 : 2 * (goal / 256) + 1 < 8 := by omega
  refine lv_astore_n (lv' := [(3, .ref (ad (2 + (goal / 256)))), (0, .ref (ad 0)), (1, .int (nI goal)), (2, .int (nI q))]) hx hb d_GB_takeNear_5 rfl hl (by decide) rfl (fun ls hl => ?_)
  refine lv_iload_n hx hb d_GB_takeNear_6 rfl (lv_at hl 2 rfl) ?_
  refine lv_sipush (v := nI 256) hx hb d_GB_takeNear_7 (by decide) ?_
  refine r_irem (a := goal) (b := 256) hx hb (by omega) (by omega) (by omega) d_GB_takeNear_10 ?_
  refine lv_istore (lv' := [(4, .int (nI (goal % 256))), (3, .ref (ad (2 + (goal / 256)))), (0, .ref (ad 0)), (1, .int (nI goal)), (2, .int (nI q))]) hx hb d_GB_takeNear_11 hl (by decide) rfl (fun ls hl => ?_)
  refine lv_aload_n hx hb d_GB_takeNear_13 rfl (lv_at hl 1 rfl) ?_
  refine g_getN (own := "GroupBitmaps") (C := R_GR) (T := F_GR) (N := 6) (ci := 1) (v := .ref (ad (6 + (2 * (goal / 256))))) hx hb hg ku_GR hown hK hI (2 + (goal / 256)) (wd_GR hq0) rfl 3 (by decide) kw_61 rfl d_GB_takeNear_14 ?_
  refine lv_iload hx hb d_GB_takeNear_17 (lv_at hl 0 rfl) ?_
  refine lv_iload_n hx hb d_GB_takeNear_19 rfl (lv_at hl 4 rfl) ?_
  refine g_callV (own := "GroupBitmaps") (C := "GroupBitmaps$Bitmap") (T := F_BM) (N := 5) (k := 2) (q0 := 6 + (2 * (goal / 256))) (ci := 2) (a := ad (6 + (2 * (goal / 256)))) (As := [.int (nI (goal % 256)), .int (nI q)]) (rest := []) (c_BM_areFree σ (2 * (goal / 256)) hr0 (goal % 256) q (by omega) hq) hx hb hml hown hg hK hI hA kw_260 kw_261 kw_262 kw_3 kw_263 ky_BM_areFree ⟨Nat.le_of_ble_eq_true rfl, Nat.le_of_ble_eq_true rfl⟩ rfl rfl (wd_BM hr0) rfl rfl hl.1 (Nat.le_of_ble_eq_true rfl) ⟨Nat.zero_le _, Nat.zero_le _⟩ d_GB_takeNear_20 rfl rfl (fun H locs hI => ?_)
  refine r_bz (b := sAf σ (2 * (goal / 256)) (goal % 256) q) (tgt := 35) hx hb d_GB_takeNear_23 (by decide) (fun h => ?_) (fun h => ?_)
  · refine lv_iconst (v := nI 0) hx hb d_GB_takeNear_35 (by decide) ?_
    refine lv_istore (lv' := [(5, .int (nI 0)), (4, .int (nI (goal % 256))), (3, .ref (ad (2 + (goal / 256)))), (0, .ref (ad 0)), (1, .int (nI goal)), (2, .int (nI q))]) hx hb d_GB_takeNear_36 hl (by decide) rfl (fun ls hl => ?_)
    have loop : ∀ (fuel : Nat) (k : Nat), sCnt σ + 1 ≤ fuel + k → (k ≤ sCnt σ) → (sFind σ (goal / 256) q k = none) → ∀ (H : Heap) (locs : List Loc) (ls : Array Slot), gI D A s.heap (wd ad cG cZ σ) H locs → lv_has ls 8 [(0, .ref (ad 0)), (1, .int (nI goal)), (2, .int (nI q)), (3, .ref (ad (2 + (goal / 256)))), (5, .int (nI k))] → W p l e ({ frames := 4, cells := 0, slots := 0, locals := 92 }) s m ([.ref (ad 0), .int (nI goal), .int (nI q)] : List Value).toArray below meth c H locs 0 0 (gQ D below ([.ref (ad 0), .int (nI goal), .int (nI q)] : List Value).toArray s A (wd ad cG cZ (sRun σ (sPick σ goal q).1 (sPick σ goal q).2.1 (sPick σ goal q).2.2)) (some (.int (nI (256 * (sPick σ goal q).1 + (sPick σ goal q).2.1))))) (F0 m 38 ls []) := by
      intro fuel
      induction fuel with
      | zero => intro k hfu hk hn; exact absurd hfu (by omega)
      | succ fuel ih =>
        intro k hfu hk hn H locs ls hI hl
        refine lv_iload hx hb d_GB_takeNear_38 (lv_at hl 4 rfl) ?_
        refine lv_aload_n hx hb d_GB_takeNear_40 rfl (lv_at hl 0 rfl) ?_
        refine g_get (own := "GroupBitmaps") (C := R_GB) (T := F_GB) (N := 5) (ci := 0) (v := .int (nI (sCnt σ))) hx hb hg ku_GB hown hK hI (0) (wd_GB) rfl 1 (by decide) kw_92 rfl d_GB_takeNear_41 ?_
        refine r_ge (a := k) (b := sCnt σ) (tgt := 88) hx hb d_GB_takeNear_44 (by decide) (by omega) (by omega) (fun h2 => ?_) (fun h2 => ?_)
        · obtain rfl : k = sCnt σ := by omega
          obtain ⟨a, ha, hsr⟩ := hlr h hn
          have hp : sPick σ goal q = ((sBest σ (goal / 256) (sCnt σ - 1)).1, a, (sBest σ (goal / 256) (sCnt σ - 1)).2) := by unfold sPick; rw [if_neg (by rw [h]; decide), hn]; dsimp only; rw [hsr]; rfl
          rw [hp] at hs ⊢
          refine lv_aload_n hx hb d_GB_takeNear_88 rfl (lv_at hl 0 rfl) ?_
          refine lv_aload_n hx hb d_GB_takeNear_89 rfl (lv_at hl 3 rfl) ?_
          refine g_callV (own := "GroupBitmaps") (C := "GroupBitmaps") (T := F_GB) (N := 5) (k := 1) (q0 := 0) (ci := 0) (a := ad 0) (As := [.ref (ad (2 + (goal / 256)))]) (rest := []) (c_GB_takeLongestRun σ hσ (goal / 256) a hq0 ha hsr hs) hx hb hml hown hg hK hI hA kw_284 kw_286 kp_10 kw_1 kw_287 ky_GB_takeLongestRun ⟨Nat.le_of_ble_eq_true rfl, Nat.le_of_ble_eq_true rfl⟩ rfl rfl (wd_GB) rfl rfl hl.1 (Nat.le_of_ble_eq_true rfl) ⟨Nat.zero_le _, Nat.zero_le _⟩ d_GB_takeNear_90 rfl rfl (fun H locs hI => ?_)
          exact g_ri hx hb hr hlk hI (rfl) d_GB_takeNear_93
        · refine lv_aload_n hx hb d_GB_takeNear_47 rfl (lv_at hl 0 rfl) ?_
          refine lv_aload_n hx hb d_GB_takeNear_48 rfl (lv_at hl 3 rfl) ?_
          refine lv_iload hx hb d_GB_takeNear_49 (lv_at hl 4 rfl) ?_
          refine g_callV (own := "GroupBitmaps") (C := "GroupBitmaps") (T := F_GB) (N := 5) (k := 2) (q0 := 0) (ci := 0) (a := ad 0) (As := [.ref (ad (2 + (goal / 256))), .int (nI k)]) (rest := []) (c_GB_groupBehind σ hσ (goal / 256) k hq0 (by omega)) hx hb hml hown hg hK hI hA kw_276 kw_278 kp_9 kw_1 kw_279 ky_GB_groupBehind ⟨Nat.le_of_ble_eq_true rfl, Nat.le_of_ble_eq_true rfl⟩ rfl rfl (wd_GB) rfl rfl hl.1 (Nat.le_of_ble_eq_true rfl) ⟨Nat.zero_le _, Nat.zero_le _⟩ d_GB_takeNear_51 rfl rfl (fun H locs hI => ?_)
          have hq1 := sNx_lt hσ (goal / 256) k
          have hr1 : 2 * (sNx σ (goal / 256) k) < 8 := by omega
          have hs1 : 2 * (sNx σ (goal / 256) k) + 1 < 8 := by omega
          refine lv_astore (lv' := [(6, .ref (ad (2 + (sNx σ (goal / 256) k)))), (0, .ref (ad 0)), (1, .int (nI goal)), (2, .int (nI q)), (3, .ref (ad (2 + (goal / 256)))), (5, .int (nI k))]) hx hb d_GB_takeNear_54 hl (by decide) rfl (fun ls hl => ?_)
          refine lv_aload hx hb d_GB_takeNear_56 (lv_at hl 0 rfl) ?_
          refine g_getN (own := "GroupBitmaps") (C := R_GR) (T := F_GR) (N := 6) (ci := 1) (v := .ref (ad (6 + (2 * (sNx σ (goal / 256) k))))) hx hb hg ku_GR hown hK hI (2 + (sNx σ (goal / 256) k)) (wd_GR hq1) rfl 3 (by decide) kw_61 rfl d_GB_takeNear_58 ?_
          refine lv_iload_n hx hb d_GB_takeNear_61 rfl (lv_at hl 3 rfl) ?_
          refine g_callV (own := "GroupBitmaps") (C := "GroupBitmaps$Bitmap") (T := F_BM) (N := 5) (k := 1) (q0 := 6 + (2 * (sNx σ (goal / 256) k))) (ci := 2) (a := ad (6 + (2 * (sNx σ (goal / 256) k)))) (As := [.int (nI q)]) (rest := []) (c_BM_shortestRun σ (2 * (sNx σ (goal / 256) k)) hr1 q hq (hσ.2.2.2.1 _ hr1).1) hx hb hml hown hg hK hI hA kw_280 kw_281 kw_282 kw_3 kw_283 ky_BM_shortestRun ⟨Nat.le_of_ble_eq_true rfl, Nat.le_of_ble_eq_true rfl⟩ rfl rfl (wd_BM hr1) rfl rfl hl.1 (Nat.le_of_ble_eq_true rfl) ⟨Nat.zero_le _, Nat.zero_le _⟩ d_GB_takeNear_62 rfl rfl (fun H locs hI => ?_)
          rcases h3 : (sSr σ (2 * (sNx σ (goal / 256) k)) q (sSz σ (2 * (sNx σ (goal / 256) k)))).1 with _ | a
          · refine lv_istore (lv' := [(7, .int (oI none)), (6, .ref (ad (2 + (sNx σ (goal / 256) k)))), (0, .ref (ad 0)), (1, .int (nI goal)), (2, .int (nI q)), (3, .ref (ad (2 + (goal / 256)))), (5, .int (nI k))]) hx hb d_GB_takeNear_65 hl (by decide) rfl (fun ls hl => ?_)
            refine lv_iload hx hb d_GB_takeNear_67 (lv_at hl 0 rfl) ?_
            refine lv_if_lt (tgt := 82) hx hb d_GB_takeNear_69 (by decide) (fun _ => ?_) (fun h9 => absurd (by decide) h9)
            refine lv_iinc (v := nI (k + 1)) (lv' := [(5, .int (nI (k + 1))), (7, .int (oI none)), (6, .ref (ad (2 + (sNx σ (goal / 256) k)))), (0, .ref (ad 0)), (1, .int (nI goal)), (2, .int (nI q)), (3, .ref (ad (2 + (goal / 256))))]) hx hb d_GB_takeNear_82 hl (k := 6) rfl (nI_1 _) (by decide) rfl (fun ls hl => ?_)
            refine lv_goto (tgt := 38) hx hb d_GB_takeNear_85 (by decide) ?_
            exact ih (k + 1) (by omega) (by omega) (sFind_step hn h3) _ _ _ hI (lv_sub hl [3, 4, 5, 6, 0] rfl)
          · have hff := sFind_some hn h3 h2
            have ha := hfa _ _ hff
            have hp : sPick σ goal q = (sNx σ (goal / 256) k, a, q) := by unfold sPick; rw [if_neg (by rw [h]; decide), hff]
            rw [hp] at hs ⊢
            refine lv_istore (lv' := [(7, .int (nI a)), (6, .ref (ad (2 + (sNx σ (goal / 256) k)))), (0, .ref (ad 0)), (1, .int (nI goal)), (2, .int (nI q)), (3, .ref (ad (2 + (goal / 256)))), (5, .int (nI k))]) hx hb d_GB_takeNear_65 hl (by decide) rfl (fun ls hl => ?_)
            refine lv_iload hx hb d_GB_takeNear_67 (lv_at hl 0 rfl) ?_
            refine r_zlt (a := a) (tgt := 82) hx hb d_GB_takeNear_69 (by decide) (by omega) ?_
            refine lv_aload_n hx hb d_GB_takeNear_72 rfl (lv_at hl 2 rfl) ?_
            refine lv_aload hx hb d_GB_takeNear_73 (lv_at hl 1 rfl) ?_
            refine lv_iload hx hb d_GB_takeNear_75 (lv_at hl 0 rfl) ?_
            refine lv_iload_n hx hb d_GB_takeNear_77 rfl (lv_at hl 4 rfl) ?_
            refine g_callV (own := "GroupBitmaps") (C := "GroupBitmaps") (T := F_GB) (N := 5) (k := 3) (q0 := 0) (ci := 0) (a := ad 0) (As := [.ref (ad (2 + (sNx σ (goal / 256) k))), .int (nI a), .int (nI q)]) (rest := []) (c_GB_takeRun σ (sNx σ (goal / 256) k) a q hq1 ha hq hs) hx hb hml hown hg hK hI hA kw_268 kw_270 kp_8 kw_1 kw_271 ky_GB_takeRun ⟨Nat.le_of_ble_eq_true rfl, Nat.le_of_ble_eq_true rfl⟩ rfl rfl (wd_GB) rfl rfl hl.1 (Nat.le_of_ble_eq_true rfl) ⟨Nat.zero_le _, Nat.zero_le _⟩ d_GB_takeNear_78 rfl rfl (fun H locs hI => ?_)
            exact g_ri hx hb hr hlk hI (rfl) d_GB_takeNear_81
    exact loop (sCnt σ + 1) 0 (by omega) (Nat.zero_le _) rfl _ _ _ hI (lv_sub hl [3, 4, 5, 2, 0] rfl)
  · have hp : sPick σ goal q = (goal / 256, goal % 256, q) := if_pos h
    rw [hp] at hs ⊢
    refine lv_aload_n hx hb d_GB_takeNear_26 rfl (lv_at hl 2 rfl) ?_
    refine lv_aload_n hx hb d_GB_takeNear_27 rfl (lv_at hl 1 rfl) ?_
    refine lv_iload hx hb d_GB_takeNear_28 (lv_at hl 0 rfl) ?_
    refine lv_iload_n hx hb d_GB_takeNear_30 rfl (lv_at hl 4 rfl) ?_
    refine g_callV (own := "GroupBitmaps") (C := "GroupBitmaps") (T := F_GB) (N := 5) (k := 3) (q0 := 0) (ci := 0) (a := ad 0) (As := [.ref (ad (2 + (goal / 256))), .int (nI (goal % 256)), .int (nI q)]) (rest := []) (c_GB_takeRun σ (goal / 256) (goal % 256) q hq0 (by omega) hq hs) hx hb hml hown hg hK hI hA kw_268 kw_270 kp_8 kw_1 kw_271 ky_GB_takeRun ⟨Nat.le_of_ble_eq_true rfl, Nat.le_of_ble_eq_true rfl⟩ rfl rfl (wd_GB) rfl rfl hl.1 (Nat.le_of_ble_eq_true rfl) ⟨Nat.zero_le _, Nat.zero_le _⟩ d_GB_takeNear_31 rfl rfl (fun H locs hI => ?_)
    exact g_ri hx hb hr hlk hI (rfl) d_GB_takeNear_34
set_option maxHeartbeats 4000000 in
set_option maxRecDepth 100000 in
theorem c_GB_areGivable {l : Launch} {D : va_G} {cG cZ cI cJ : ClassId} {ad : Nat → Nat} (σ : gS) (a q : Nat) (haq : a + q ≤ 1024) : gMet l D (gT cG cZ cI cJ) y_GB_areGivable b_GB_areGivable 6 (some .boolean) ({ frames := 1, cells := 0, slots := 0, locals := 21 }) (wd ad cG cZ σ) [.ref (ad 0), .int (nI a), .int (nI q)] (wd ad cG cZ σ) (some (.int (bI (sGv σ a q)))) := by
  refine gMet_of (by decide) (Nat.le_of_ble_eq_true rfl) ?_
  intro p e s m below meth c A ls hC hA hI hl
  obtain ⟨hx, hb, hr, hlk, hown, hml, hg, hK⟩ := hC
  have hown : s.vm.findClass "GroupBitmaps" = some m.cls := hown
  have hl : lv_has ls 6 [(0, .ref (ad 0)), (1, .int (nI a)), (2, .int (nI q))] := hl
  refine lv_iload_n hx hb d_GB_areGivable_0 rfl (lv_at hl 1 rfl) ?_
  refine lv_istore_n (lv' := [(3, .int (nI a)), (0, .ref (ad 0)), (1, .int (nI a)), (2, .int (nI q))]) hx hb d_GB_areGivable_1 rfl hl (by decide) rfl (fun ls hl => ?_)
  have loop : ∀ (fuel : Nat) (t : Nat), q + 1 ≤ fuel + t → (t ≤ q) → (sGv σ a t = true) → ∀ (H : Heap) (locs : List Loc) (ls : Array Slot), gI D A s.heap (wd ad cG cZ σ) H locs → lv_has ls 6 [(0, .ref (ad 0)), (1, .int (nI a)), (2, .int (nI q)), (3, .int (nI (a + t)))] → W p l e ({ frames := 1, cells := 0, slots := 0, locals := 21 }) s m ([.ref (ad 0), .int (nI a), .int (nI q)] : List Value).toArray below meth c H locs 0 0 (gQ D below ([.ref (ad 0), .int (nI a), .int (nI q)] : List Value).toArray s A (wd ad cG cZ σ) (some (.int (bI (sGv σ a q))))) (F0 m 2 ls []) := by
    intro fuel
    induction fuel with
    | zero => intro t hfu ht hn; exact absurd hfu (by omega)
    | succ fuel ih =>
      intro t hfu ht hn H locs ls hI hl
      refine lv_iload_n hx hb d_GB_areGivable_2 rfl (lv_at hl 3 rfl) ?_
      refine lv_iload_n hx hb d_GB_areGivable_3 rfl (lv_at hl 1 rfl) ?_
      refine lv_iload_n hx hb d_GB_areGivable_4 rfl (lv_at hl 2 rfl) ?_
      refine r_iadd (a := a) (b := q) hx hb d_GB_areGivable_5 ?_
      refine r_ge (a := a + t) (b := a + q) (tgt := 54) hx hb d_GB_areGivable_6 (by decide) (by omega) (by omega) (fun h => ?_) (fun h => ?_)
      · obtain rfl : t = q := by omega
        refine lv_iconst (v := bI true) hx hb d_GB_areGivable_54 (by decide) ?_
        exact g_rz hx hb hr hlk hI (by rw [hn]) d_GB_areGivable_55
      · refine lv_aload_n hx hb d_GB_areGivable_9 rfl (lv_at hl 0 rfl) ?_
        refine lv_iload_n hx hb d_GB_areGivable_10 rfl (lv_at hl 3 rfl) ?_
        refine g_callV (own := "GroupBitmaps") (C := "GroupBitmaps") (T := F_GB) (N := 5) (k := 1) (q0 := 0) (ci := 0) (a := ad 0) (As := [.int (nI (a + t))]) (rest := []) (c_GB_groupOfBlock σ (a + t) (by omega)) hx hb hml hown hg hK hI hA kw_256 kw_258 kp_7 kw_1 kw_259 ky_GB_groupOfBlock ⟨Nat.le_of_ble_eq_true rfl, Nat.le_of_ble_eq_true rfl⟩ rfl rfl (wd_GB) rfl rfl hl.1 (Nat.le_of_ble_eq_true rfl) ⟨Nat.zero_le _, Nat.zero_le _⟩ d_GB_areGivable_11 rfl rfl (fun H locs hI => ?_)
        have hq0 := show (a + t) / 256 < 4 by omega
        have hr0 : 2 * ((a + t) / 256) < 8 := by omega
        have hs0 : 2 * ((a + t) / 256) + 1 < 8 := by omega
        have hhd := gHd_le ((a + t) / 256)
        refine lv_astore (lv' := [(4, .ref (ad (2 + ((a + t) / 256)))), (0, .ref (ad 0)), (1, .int (nI a)), (2, .int (nI q)), (3, .int (nI (a + t)))]) hx hb d_GB_areGivable_14 hl (by decide) rfl (fun ls hl => ?_)
        refine lv_iload_n hx hb d_GB_areGivable_16 rfl (lv_at hl 4 rfl) ?_
        refine lv_sipush (v := nI 256) hx hb d_GB_areGivable_17 (by decide) ?_
        refine r_irem (a := a + t) (b := 256) hx hb (by omega) (by omega) (by omega) d_GB_areGivable_20 ?_
        refine lv_istore (lv' := [(5, .int (nI ((a + t) % 256))), (4, .ref (ad (2 + ((a + t) / 256)))), (0, .ref (ad 0)), (1, .int (nI a)), (2, .int (nI q)), (3, .int (nI (a + t)))]) hx hb d_GB_areGivable_21 hl (by decide) rfl (fun ls hl => ?_)
        refine lv_iload hx hb d_GB_areGivable_23 (lv_at hl 0 rfl) ?_
        refine lv_aload hx hb d_GB_areGivable_25 (lv_at hl 1 rfl) ?_
        refine g_getN (own := "GroupBitmaps") (C := R_GR) (T := F_GR) (N := 6) (ci := 1) (v := .int (nI (gHd ((a + t) / 256) + 10))) hx hb hg ku_GR hown hK hI (2 + ((a + t) / 256)) (wd_GR hq0) rfl 1 (by decide) kw_58 rfl d_GB_areGivable_27 ?_
        refine r_lt (a := (a + t) % 256) (b := gHd ((a + t) / 256) + 10) (tgt := 46) hx hb d_GB_areGivable_30 (by decide) (by omega) (by omega) (fun h2 => ?_) (fun h2 => ?_)
        · refine lv_iconst (v := bI false) hx hb d_GB_areGivable_46 (by decide) ?_
          exact g_rz hx hb hr hlk hI (by rw [sGv_false (t := t) (by simp [sGv1]; omega) (by omega)]) d_GB_areGivable_47
        · refine lv_aload hx hb d_GB_areGivable_33 (lv_at hl 1 rfl) ?_
          refine g_getN (own := "GroupBitmaps") (C := R_GR) (T := F_GR) (N := 6) (ci := 1) (v := .ref (ad (6 + (2 * ((a + t) / 256))))) hx hb hg ku_GR hown hK hI (2 + ((a + t) / 256)) (wd_GR hq0) rfl 3 (by decide) kw_61 rfl d_GB_areGivable_35 ?_
          refine lv_iload hx hb d_GB_areGivable_38 (lv_at hl 0 rfl) ?_
          refine g_callV (own := "GroupBitmaps") (C := "GroupBitmaps$Bitmap") (T := F_BM) (N := 5) (k := 1) (q0 := 6 + (2 * ((a + t) / 256))) (ci := 2) (a := ad (6 + (2 * ((a + t) / 256)))) (As := [.int (nI ((a + t) % 256))]) (rest := []) (c_BM_isSet σ (2 * ((a + t) / 256)) hr0 ((a + t) % 256) (by omega)) hx hb hml hown hg hK hI hA kw_306 kw_265 kw_266 kw_3 kw_267 ky_BM_isSet ⟨Nat.le_of_ble_eq_true rfl, Nat.le_of_ble_eq_true rfl⟩ rfl rfl (wd_BM hr0) rfl rfl hl.1 (Nat.le_of_ble_eq_true rfl) ⟨Nat.zero_le _, Nat.zero_le _⟩ d_GB_areGivable_40 rfl rfl (fun H locs hI => ?_)
          refine r_bnz (b := sSet σ (2 * ((a + t) / 256)) ((a + t) % 256)) (tgt := 48) hx hb d_GB_areGivable_43 (by decide) (fun h3 => ?_) (fun h3 => ?_)
          · refine lv_iinc (v := nI ((a + t) + 1)) (lv' := [(3, .int (nI ((a + t) + 1))), (5, .int (nI ((a + t) % 256))), (4, .ref (ad (2 + ((a + t) / 256)))), (0, .ref (ad 0)), (1, .int (nI a)), (2, .int (nI q))]) hx hb d_GB_areGivable_48 hl (k := 5) rfl (nI_1 _) (by decide) rfl (fun ls hl => ?_)
            refine lv_goto (tgt := 2) hx hb d_GB_areGivable_51 (by decide) ?_
            exact ih (t + 1) (by omega) (by omega) (sGv_step hn (by simp [sGv1, h3]; omega)) _ _ _ hI (lv_sub hl [3, 4, 5, 0] rfl)
          · refine lv_iconst (v := bI false) hx hb d_GB_areGivable_46 (by decide) ?_
            exact g_rz hx hb hr hlk hI (by rw [sGv_false (t := t) (by simp [sGv1, h3]) (by omega)]) d_GB_areGivable_47
  exact loop (q + 1) 0 (by omega) (Nat.zero_le _) rfl _ _ _ hI (lv_sub hl [1, 2, 3, 0] rfl)
