set_option maxHeartbeats 4000000 in
set_option maxRecDepth 100000 in
theorem k_ff {l : Launch} {D : va_G} {cG cZ cI cJ : ClassId} {am : Nat → Nat} (σ : gS) (τ : mS) (hR : RI σ τ) (g : Nat) (hg4 : g < 4) : gMet l D (gT cG cZ cI cJ) y_MD_freeFiles b_MD_freeFiles 4 (some .int) ({ frames := 0, cells := 0, slots := 0, locals := 0 }) (wm am cI cZ τ) [.ref (am 0), .int (nI g)] (wm am cI cZ τ) (some (.int (nI (sFr σ (2 * g + 1))))) := by
  rw [← hR.cf hg4]
  exact c_MD_freeFiles τ g hg4
set_option maxHeartbeats 4000000 in
set_option maxRecDepth 100000 in
theorem k_fb {l : Launch} {D : va_G} {cG cZ cI cJ : ClassId} {am : Nat → Nat} (σ : gS) (τ : mS) (hR : RI σ τ) (g : Nat) (hg4 : g < 4) : gMet l D (gT cG cZ cI cJ) y_MD_freeBlocks b_MD_freeBlocks 4 (some .int) ({ frames := 0, cells := 0, slots := 0, locals := 0 }) (wm am cI cZ τ) [.ref (am 0), .int (nI g)] (wm am cI cZ τ) (some (.int (nI (sFr σ (2 * g))))) := by
  rw [← hR.cb hg4]
  exact c_MD_freeBlocks τ hR.ok g hg4
set_option maxHeartbeats 4000000 in
set_option maxRecDepth 100000 in
theorem k_af {l : Launch} {D : va_G} {cG cZ cI cJ : ClassId} {am : Nat → Nat} (σ : gS) (τ : mS) (hR : RI σ τ)  : gMet l D (gT cG cZ cI cJ) y_MD_allFiles b_MD_allFiles 3 (some .int) ({ frames := 1, cells := 0, slots := 0, locals := 23 }) (wm am cI cZ τ) [.ref (am 0)] (wm am cI cZ τ) (some (.int (nI (sFF σ (sCnt σ))))) := by
  rw [← hR.af _ hR.sb.2.1, ← hR.gr]
  exact c_MD_allFiles τ hR.ok
set_option maxHeartbeats 4000000 in
set_option maxRecDepth 100000 in
theorem k_ab {l : Launch} {D : va_G} {cG cZ cI cJ : ClassId} {am : Nat → Nat} (σ : gS) (τ : mS) (hR : RI σ τ)  : gMet l D (gT cG cZ cI cJ) y_MD_allBlocks b_MD_allBlocks 3 (some .int) ({ frames := 1, cells := 0, slots := 0, locals := 23 }) (wm am cI cZ τ) [.ref (am 0)] (wm am cI cZ τ) (some (.int (nI (sFB σ (sCnt σ))))) := by
  rw [← hR.ab _ hR.sb.2.1, ← hR.gr]
  exact c_MD_allBlocks τ hR.ok
set_option maxHeartbeats 4000000 in
set_option maxRecDepth 100000 in
theorem k_ib {l : Launch} {D : va_G} {cG cZ cI cJ : ClassId} {am : Nat → Nat} (σ : gS) (τ : mS) (hR : RI σ τ) (x : Int32) : gMet l D (gT cG cZ cI cJ) y_MD_isBlock b_MD_isBlock 2 (some .boolean) ({ frames := 0, cells := 0, slots := 0, locals := 0 }) (wm am cI cZ τ) [.ref (am 0), .int x] (wm am cI cZ τ) (some (.int (bI (sHasB σ x)))) := by
  rw [← hR.hb x]
  exact c_MD_isBlock τ hR.ok x
set_option maxHeartbeats 4000000 in
set_option maxRecDepth 100000 in
theorem k_if {l : Launch} {D : va_G} {cG cZ cI cJ : ClassId} {am : Nat → Nat} (σ : gS) (τ : mS) (hR : RI σ τ) (x : Int32) : gMet l D (gT cG cZ cI cJ) y_MD_isFile b_MD_isFile 2 (some .boolean) ({ frames := 0, cells := 0, slots := 0, locals := 0 }) (wm am cI cZ τ) [.ref (am 0), .int x] (wm am cI cZ τ) (some (.int (bI (sHasF σ x)))) := by
  rw [← hR.hf x]
  exact c_MD_isFile τ hR.ok x
set_option maxHeartbeats 4000000 in
set_option maxRecDepth 100000 in
theorem c_MD_firstFree {l : Launch} {D : va_G} {cG cZ cI cJ : ClassId} {am : Nat → Nat} (σ : gS) (τ : mS) (hR : RI σ τ) (p0 : Nat) (hp0 : p0 < 4) : gMet l D (gT cG cZ cI cJ) y_MD_firstFree b_MD_firstFree 3 (some .int) ({ frames := 1, cells := 0, slots := 0, locals := 23 }) (wm am cI cZ τ) [.ref (am 0), .int (nI p0)] (wm am cI cZ τ) (some (.int (oI (sFst σ p0 (pFile σ) (sCnt σ))))) := by
  refine gMet_of (by decide) (Nat.le_of_ble_eq_true rfl) ?_
  intro p e s m below meth c A ls hC hA hI hl
  obtain ⟨hx, hb, hr, hlk, hown, hml, hg, hK⟩ := hC
  have hown : s.vm.findClass "GroupBitmapsModel" = some m.cls := hown
  have hl : lv_has ls 3 [(0, .ref (am 0)), (1, .int (nI p0))] := hl
  have hτ := hR.ok
  have hσ := hR.sb
  have hgr := hR.gr
  have hc1 := hσ.1
  have hc2 := hσ.2.1
  refine lv_iconst (v := nI 0) hx hb d_MD_firstFree_0 (by decide) ?_
  refine lv_istore_n (lv' := [(2, .int (nI 0)), (0, .ref (am 0)), (1, .int (nI p0))]) hx hb d_MD_firstFree_1 rfl hl (by decide) rfl (fun ls hl => ?_)
  have loop : ∀ (fuel : Nat) (k : Nat), sCnt σ + 1 ≤ fuel + k → (k ≤ sCnt σ) → (sFst σ p0 (pFile σ) k = none) → ∀ (H : Heap) (locs : List Loc) (ls : Array Slot), gI D A s.heap (wm am cI cZ τ) H locs → lv_has ls 3 [(0, .ref (am 0)), (1, .int (nI p0)), (2, .int (nI k))] → W p l e ({ frames := 1, cells := 0, slots := 0, locals := 23 }) s m ([.ref (am 0), .int (nI p0)] : List Value).toArray below meth c H locs 0 0 (gQ D below ([.ref (am 0), .int (nI p0)] : List Value).toArray s A (wm am cI cZ τ) (some (.int (oI (sFst σ p0 (pFile σ) (sCnt σ)))))) (F0 m 2 ls []) := by
    intro fuel
    induction fuel with
    | zero => intro k hfu hk hn; exact absurd hfu (by omega)
    | succ fuel ih =>
      intro k hfu hk hn H locs ls hI hl
      refine lv_iload_n hx hb d_MD_firstFree_2 rfl (lv_at hl 2 rfl) ?_
      refine lv_aload_n hx hb d_MD_firstFree_3 rfl (lv_at hl 0 rfl) ?_
      refine g_get (own := "GroupBitmapsModel") (C := R_MD) (T := F_MD) (N := 11) (ci := 3) (v := .int (nI (mGr τ))) hx hb hg ku_MD hown hK hI (0) (wm_0) rfl 1 (by decide) kw_471 rfl d_MD_firstFree_4 ?_
      rw [show mGr τ = sCnt σ from hgr]
      refine r_ge (a := k) (b := sCnt σ) (tgt := 40) hx hb d_MD_firstFree_7 (by decide) (by omega) (by omega) (fun h => ?_) (fun h => ?_)
      · obtain rfl : k = sCnt σ := by omega
        refine lv_iconst (v := (-1)) hx hb d_MD_firstFree_40 (by decide) ?_
        exact g_ri hx hb hr hlk hI (by rw [hn]; rfl) d_MD_firstFree_41
      · have hx4 := sNx_lt hσ p0 k
        have hfa1 := (hσ.2.2.2.1 (2 * (sNx σ p0 k)) (by omega)).2
        have hfb1 := (hσ.2.2.2.1 (2 * (sNx σ p0 k) + 1) (by omega)).2
        refine lv_aload_n hx hb d_MD_firstFree_10 rfl (lv_at hl 0 rfl) ?_
        refine lv_iload_n hx hb d_MD_firstFree_11 rfl (lv_at hl 1 rfl) ?_
        refine lv_iload_n hx hb d_MD_firstFree_12 rfl (lv_at hl 2 rfl) ?_
        refine r_iadd (a := p0) (b := k) hx hb d_MD_firstFree_13 ?_
        refine lv_aload_n hx hb d_MD_firstFree_14 rfl (lv_at hl 0 rfl) ?_
        refine g_get (own := "GroupBitmapsModel") (C := R_MD) (T := F_MD) (N := 11) (ci := 3) (v := .int (nI (mGr τ))) hx hb hg ku_MD hown hK hI (0) (wm_0) rfl 1 (by decide) kw_471 rfl d_MD_firstFree_15 ?_
        refine r_irem (a := p0 + k) (b := mGr τ) hx hb (by omega) (by omega) (by omega) d_MD_firstFree_18 ?_
        rw [show (p0 + k) % (mGr τ) = sNx σ p0 k from by rw [hgr]; rfl]
        refine g_callV (own := "GroupBitmapsModel") (C := "GroupBitmapsModel") (T := F_MD) (N := 11) (k := 1) (q0 := 0) (ci := 3) (a := am 0) (As := [.int (nI (sNx σ p0 k))]) (rest := []) (k_ff σ τ hR (sNx σ p0 k) hx4) hx hb hml hown hg hK hI hA kw_565 kw_567 kp_30 kw_4 kw_568 ky_MD_freeFiles ⟨Nat.le_of_ble_eq_true rfl, Nat.le_of_ble_eq_true rfl⟩ rfl rfl (wm_0) rfl rfl hl.1 (Nat.le_of_ble_eq_true rfl) ⟨Nat.zero_le _, Nat.zero_le _⟩ d_MD_firstFree_19 rfl rfl (fun H locs hI => ?_)
        refine r_zle (a := sFr σ (2 * (sNx σ p0 k) + 1)) (tgt := 34) hx hb d_MD_firstFree_22 (by decide) (by omega) (fun h2 => ?_) (fun h2 => ?_)
        · refine lv_iinc (v := nI (k + 1)) (lv' := [(2, .int (nI (k + 1))), (0, .ref (am 0)), (1, .int (nI p0))]) hx hb d_MD_firstFree_34 hl (k := 2) rfl (nI_1 _) (by decide) rfl (fun ls hl => ?_)
          refine lv_goto (tgt := 2) hx hb d_MD_firstFree_37 (by decide) ?_
          exact ih (k + 1) (by omega) (by omega) (sFst_step hn (by simp [pFile]; omega)) _ _ _ hI (lv_sub hl [1, 2, 0] rfl)
        · refine lv_iload_n hx hb d_MD_firstFree_25 rfl (lv_at hl 1 rfl) ?_
          refine lv_iload_n hx hb d_MD_firstFree_26 rfl (lv_at hl 2 rfl) ?_
          refine r_iadd (a := p0) (b := k) hx hb d_MD_firstFree_27 ?_
          refine lv_aload_n hx hb d_MD_firstFree_28 rfl (lv_at hl 0 rfl) ?_
          refine g_get (own := "GroupBitmapsModel") (C := R_MD) (T := F_MD) (N := 11) (ci := 3) (v := .int (nI (mGr τ))) hx hb hg ku_MD hown hK hI (0) (wm_0) rfl 1 (by decide) kw_471 rfl d_MD_firstFree_29 ?_
          refine r_irem (a := p0 + k) (b := mGr τ) hx hb (by omega) (by omega) (by omega) d_MD_firstFree_32 ?_
          rw [show (p0 + k) % (mGr τ) = sNx σ p0 k from by rw [hgr]; rfl]
          exact g_ri hx hb hr hlk hI (by rw [sFst_some hn (by simp [pFile]; omega) h]; rfl) d_MD_firstFree_33
  exact loop (sCnt σ + 1) 0 (by omega) (Nat.zero_le _) rfl _ _ _ hI (lv_sub hl [1, 2, 0] rfl)
set_option maxHeartbeats 4000000 in
set_option maxRecDepth 100000 in
theorem c_MD_groupOfPlain {l : Launch} {D : va_G} {cG cZ cI cJ : ClassId} {am : Nat → Nat} (σ : gS) (τ : mS) (hR : RI σ τ) (p0 : Nat) (hp0 : p0 < sCnt σ) : gMet l D (gT cG cZ cI cJ) y_MD_groupOfPlain b_MD_groupOfPlain 4 (some .int) ({ frames := 2, cells := 0, slots := 0, locals := 45 }) (wm am cI cZ τ) [.ref (am 0), .int (nI p0)] (wm am cI cZ τ) (some (.int (oI (sPlain σ p0)))) := by
  refine gMet_of (by decide) (Nat.le_of_ble_eq_true rfl) ?_
  intro p e s m below meth c A ls hC hA hI hl
  obtain ⟨hx, hb, hr, hlk, hown, hml, hg, hK⟩ := hC
  have hown : s.vm.findClass "GroupBitmapsModel" = some m.cls := hown
  have hl : lv_has ls 4 [(0, .ref (am 0)), (1, .int (nI p0))] := hl
  have hτ := hR.ok
  have hσ := hR.sb
  have hgr := hR.gr
  have hc1 := hσ.1
  have hc2 := hσ.2.1
  have hfa0 := (hσ.2.2.2.1 (2 * p0) (by omega)).2
  have hfb0 := (hσ.2.2.2.1 (2 * p0 + 1) (by omega)).2
  have e00 : sNx σ p0 (pst 0) = p0 := sNx_0 hp0
  have hn0 : sPl σ p0 0 = none := rfl
  refine lv_aload_n hx hb d_MD_groupOfPlain_0 rfl (lv_at hl 0 rfl) ?_
  refine lv_iload_n hx hb d_MD_groupOfPlain_1 rfl (lv_at hl 1 rfl) ?_
  refine g_callV (own := "GroupBitmapsModel") (C := "GroupBitmapsModel") (T := F_MD) (N := 11) (k := 1) (q0 := 0) (ci := 3) (a := am 0) (As := [.int (nI p0)]) (rest := []) (k_ff σ τ hR (p0) (by omega)) hx hb hml hown hg hK hI hA kw_565 kw_567 kp_30 kw_4 kw_568 ky_MD_freeFiles ⟨Nat.le_of_ble_eq_true rfl, Nat.le_of_ble_eq_true rfl⟩ rfl rfl (wm_0) rfl rfl hl.1 (Nat.le_of_ble_eq_true rfl) ⟨Nat.zero_le _, Nat.zero_le _⟩ d_MD_groupOfPlain_2 rfl rfl (fun H locs hI => ?_)
  refine r_zle (a := sFr σ (2 * p0 + 1)) (tgt := 18) hx hb d_MD_groupOfPlain_5 (by decide) (by omega) (fun h0a => ?_) (fun h0a => ?_)
  · have hn1 := sPl_step hn0 (by rw [e00]; exact sHas_1 (by omega))
    refine lv_iconst (v := nI 1) hx hb d_MD_groupOfPlain_18 (by decide) ?_
    refine lv_istore_n (lv' := [(2, .int (nI 1)), (0, .ref (am 0)), (1, .int (nI p0))]) hx hb d_MD_groupOfPlain_19 rfl hl (by decide) rfl (fun ls hl => ?_)
    refine lv_iload_n hx hb d_MD_groupOfPlain_20 rfl (lv_at hl 0 rfl) ?_
    refine lv_bipush (v := nI 8) hx hb d_MD_groupOfPlain_21 (by decide) ?_
    refine r_ge (a := 1) (b := 8) (tgt := 62) hx hb d_MD_groupOfPlain_23 (by decide) (by omega) (by omega) (fun h9 => ?_) (fun h9 => ?_)
    · exact absurd h9 (by omega)
    · have hx1 := sNx_lt hσ p0 1
      have hfa1 := (hσ.2.2.2.1 (2 * (sNx σ p0 1)) (by omega)).2
      have hfb1 := (hσ.2.2.2.1 (2 * (sNx σ p0 1) + 1) (by omega)).2
      have e10 : sNx σ p0 (pst 1) = sNx σ p0 1 := rfl
      refine lv_iload_n hx hb d_MD_groupOfPlain_26 rfl (lv_at hl 2 rfl) ?_
      refine lv_iload_n hx hb d_MD_groupOfPlain_27 rfl (lv_at hl 0 rfl) ?_
      refine r_iadd (a := p0) (b := 1) hx hb d_MD_groupOfPlain_28 ?_
      refine lv_aload_n hx hb d_MD_groupOfPlain_29 rfl (lv_at hl 1 rfl) ?_
      refine g_get (own := "GroupBitmapsModel") (C := R_MD) (T := F_MD) (N := 11) (ci := 3) (v := .int (nI (mGr τ))) hx hb hg ku_MD hown hK hI (0) (wm_0) rfl 1 (by decide) kw_471 rfl d_MD_groupOfPlain_30 ?_
      refine r_irem (a := p0 + 1) (b := mGr τ) hx hb (by omega) (by omega) (by omega) d_MD_groupOfPlain_33 ?_
      rw [show (p0 + 1) % (mGr τ) = sNx σ p0 1 from by rw [hgr]; rfl]
      refine lv_istore_n (lv' := [(3, .int (nI (sNx σ p0 1))), (2, .int (nI 1)), (0, .ref (am 0)), (1, .int (nI p0))]) hx hb d_MD_groupOfPlain_34 rfl hl (by decide) rfl (fun ls hl => ?_)
      refine lv_aload_n hx hb d_MD_groupOfPlain_35 rfl (lv_at hl 2 rfl) ?_
      refine lv_iload_n hx hb d_MD_groupOfPlain_36 rfl (lv_at hl 0 rfl) ?_
      refine g_callV (own := "GroupBitmapsModel") (C := "GroupBitmapsModel") (T := F_MD) (N := 11) (k := 1) (q0 := 0) (ci := 3) (a := am 0) (As := [.int (nI (sNx σ p0 1))]) (rest := []) (k_ff σ τ hR (sNx σ p0 1) (by omega)) hx hb hml hown hg hK hI hA kw_565 kw_567 kp_30 kw_4 kw_568 ky_MD_freeFiles ⟨Nat.le_of_ble_eq_true rfl, Nat.le_of_ble_eq_true rfl⟩ rfl rfl (wm_0) rfl rfl hl.1 (Nat.le_of_ble_eq_true rfl) ⟨Nat.zero_le _, Nat.zero_le _⟩ d_MD_groupOfPlain_37 rfl rfl (fun H locs hI => ?_)
      refine r_zle (a := sFr σ (2 * (sNx σ p0 1) + 1)) (tgt := 53) hx hb d_MD_groupOfPlain_40 (by decide) (by omega) (fun h1a => ?_) (fun h1a => ?_)
      · have hn2 := sPl_step hn1 (by rw [e10]; exact sHas_1 (by omega))
        refine lv_iconst (v := nI 2) hx hb d_MD_groupOfPlain_53 (by decide) ?_
        refine lv_iload_n hx hb d_MD_groupOfPlain_54 rfl (lv_at hl 1 rfl) ?_
        refine r_imul (a := 2) (b := 1) hx hb d_MD_groupOfPlain_55 ?_
        refine lv_iconst (v := nI 1) hx hb d_MD_groupOfPlain_56 (by decide) ?_
        refine r_iadd (a := 2 * 1) (b := 1) hx hb d_MD_groupOfPlain_57 ?_
        refine lv_istore_n (lv' := [(2, .int (nI ((2 * 1) + 1))), (3, .int (nI (sNx σ p0 1))), (0, .ref (am 0)), (1, .int (nI p0))]) hx hb d_MD_groupOfPlain_58 rfl hl (by decide) rfl (fun ls hl => ?_)
        refine lv_goto (tgt := 20) hx hb d_MD_groupOfPlain_59 (by decide) ?_
        refine lv_iload_n hx hb d_MD_groupOfPlain_20 rfl (lv_at hl 0 rfl) ?_
        refine lv_bipush (v := nI 8) hx hb d_MD_groupOfPlain_21 (by decide) ?_
        refine r_ge (a := (2 * 1) + 1) (b := 8) (tgt := 62) hx hb d_MD_groupOfPlain_23 (by decide) (by omega) (by omega) (fun h9 => ?_) (fun h9 => ?_)
        · exact absurd h9 (by omega)
        · have hx3 := sNx_lt hσ p0 3
          have hfa3 := (hσ.2.2.2.1 (2 * (sNx σ p0 3)) (by omega)).2
          have hfb3 := (hσ.2.2.2.1 (2 * (sNx σ p0 3) + 1) (by omega)).2
          have e20 : sNx σ p0 (pst 2) = sNx σ p0 3 := rfl
          refine lv_iload_n hx hb d_MD_groupOfPlain_26 rfl (lv_at hl 3 rfl) ?_
          refine lv_iload_n hx hb d_MD_groupOfPlain_27 rfl (lv_at hl 0 rfl) ?_
          refine r_iadd (a := p0) (b := (2 * 1) + 1) hx hb d_MD_groupOfPlain_28 ?_
          refine lv_aload_n hx hb d_MD_groupOfPlain_29 rfl (lv_at hl 2 rfl) ?_
          refine g_get (own := "GroupBitmapsModel") (C := R_MD) (T := F_MD) (N := 11) (ci := 3) (v := .int (nI (mGr τ))) hx hb hg ku_MD hown hK hI (0) (wm_0) rfl 1 (by decide) kw_471 rfl d_MD_groupOfPlain_30 ?_
          refine r_irem (a := p0 + ((2 * 1) + 1)) (b := mGr τ) hx hb (by omega) (by omega) (by omega) d_MD_groupOfPlain_33 ?_
          rw [show (p0 + ((2 * 1) + 1)) % (mGr τ) = sNx σ p0 3 from by rw [hgr]; rfl]
          refine lv_istore_n (lv' := [(3, .int (nI (sNx σ p0 3))), (2, .int (nI ((2 * 1) + 1))), (0, .ref (am 0)), (1, .int (nI p0))]) hx hb d_MD_groupOfPlain_34 rfl hl (by decide) rfl (fun ls hl => ?_)
          refine lv_aload_n hx hb d_MD_groupOfPlain_35 rfl (lv_at hl 2 rfl) ?_
          refine lv_iload_n hx hb d_MD_groupOfPlain_36 rfl (lv_at hl 0 rfl) ?_
          refine g_callV (own := "GroupBitmapsModel") (C := "GroupBitmapsModel") (T := F_MD) (N := 11) (k := 1) (q0 := 0) (ci := 3) (a := am 0) (As := [.int (nI (sNx σ p0 3))]) (rest := []) (k_ff σ τ hR (sNx σ p0 3) (by omega)) hx hb hml hown hg hK hI hA kw_565 kw_567 kp_30 kw_4 kw_568 ky_MD_freeFiles ⟨Nat.le_of_ble_eq_true rfl, Nat.le_of_ble_eq_true rfl⟩ rfl rfl (wm_0) rfl rfl hl.1 (Nat.le_of_ble_eq_true rfl) ⟨Nat.zero_le _, Nat.zero_le _⟩ d_MD_groupOfPlain_37 rfl rfl (fun H locs hI => ?_)
          refine r_zle (a := sFr σ (2 * (sNx σ p0 3) + 1)) (tgt := 53) hx hb d_MD_groupOfPlain_40 (by decide) (by omega) (fun h2a => ?_) (fun h2a => ?_)
          · have hn3 := sPl_step hn2 (by rw [e20]; exact sHas_1 (by omega))
            refine lv_iconst (v := nI 2) hx hb d_MD_groupOfPlain_53 (by decide) ?_
            refine lv_iload_n hx hb d_MD_groupOfPlain_54 rfl (lv_at hl 1 rfl) ?_
            refine r_imul (a := 2) (b := (2 * 1) + 1) hx hb d_MD_groupOfPlain_55 ?_
            refine lv_iconst (v := nI 1) hx hb d_MD_groupOfPlain_56 (by decide) ?_
            refine r_iadd (a := 2 * ((2 * 1) + 1)) (b := 1) hx hb d_MD_groupOfPlain_57 ?_
            refine lv_istore_n (lv' := [(2, .int (nI ((2 * ((2 * 1) + 1)) + 1))), (3, .int (nI (sNx σ p0 3))), (0, .ref (am 0)), (1, .int (nI p0))]) hx hb d_MD_groupOfPlain_58 rfl hl (by decide) rfl (fun ls hl => ?_)
            refine lv_goto (tgt := 20) hx hb d_MD_groupOfPlain_59 (by decide) ?_
            refine lv_iload_n hx hb d_MD_groupOfPlain_20 rfl (lv_at hl 0 rfl) ?_
            refine lv_bipush (v := nI 8) hx hb d_MD_groupOfPlain_21 (by decide) ?_
            refine r_ge (a := (2 * ((2 * 1) + 1)) + 1) (b := 8) (tgt := 62) hx hb d_MD_groupOfPlain_23 (by decide) (by omega) (by omega) (fun h9 => ?_) (fun h9 => ?_)
            · exact absurd h9 (by omega)
            · have hx7 := sNx_lt hσ p0 7
              have hfa7 := (hσ.2.2.2.1 (2 * (sNx σ p0 7)) (by omega)).2
              have hfb7 := (hσ.2.2.2.1 (2 * (sNx σ p0 7) + 1) (by omega)).2
              have e30 : sNx σ p0 (pst 3) = sNx σ p0 7 := rfl
              refine lv_iload_n hx hb d_MD_groupOfPlain_26 rfl (lv_at hl 3 rfl) ?_
              refine lv_iload_n hx hb d_MD_groupOfPlain_27 rfl (lv_at hl 0 rfl) ?_
              refine r_iadd (a := p0) (b := (2 * ((2 * 1) + 1)) + 1) hx hb d_MD_groupOfPlain_28 ?_
              refine lv_aload_n hx hb d_MD_groupOfPlain_29 rfl (lv_at hl 2 rfl) ?_
              refine g_get (own := "GroupBitmapsModel") (C := R_MD) (T := F_MD) (N := 11) (ci := 3) (v := .int (nI (mGr τ))) hx hb hg ku_MD hown hK hI (0) (wm_0) rfl 1 (by decide) kw_471 rfl d_MD_groupOfPlain_30 ?_
              refine r_irem (a := p0 + ((2 * ((2 * 1) + 1)) + 1)) (b := mGr τ) hx hb (by omega) (by omega) (by omega) d_MD_groupOfPlain_33 ?_
              rw [show (p0 + ((2 * ((2 * 1) + 1)) + 1)) % (mGr τ) = sNx σ p0 7 from by rw [hgr]; rfl]
              refine lv_istore_n (lv' := [(3, .int (nI (sNx σ p0 7))), (2, .int (nI ((2 * ((2 * 1) + 1)) + 1))), (0, .ref (am 0)), (1, .int (nI p0))]) hx hb d_MD_groupOfPlain_34 rfl hl (by decide) rfl (fun ls hl => ?_)
              refine lv_aload_n hx hb d_MD_groupOfPlain_35 rfl (lv_at hl 2 rfl) ?_
              refine lv_iload_n hx hb d_MD_groupOfPlain_36 rfl (lv_at hl 0 rfl) ?_
              refine g_callV (own := "GroupBitmapsModel") (C := "GroupBitmapsModel") (T := F_MD) (N := 11) (k := 1) (q0 := 0) (ci := 3) (a := am 0) (As := [.int (nI (sNx σ p0 7))]) (rest := []) (k_ff σ τ hR (sNx σ p0 7) (by omega)) hx hb hml hown hg hK hI hA kw_565 kw_567 kp_30 kw_4 kw_568 ky_MD_freeFiles ⟨Nat.le_of_ble_eq_true rfl, Nat.le_of_ble_eq_true rfl⟩ rfl rfl (wm_0) rfl rfl hl.1 (Nat.le_of_ble_eq_true rfl) ⟨Nat.zero_le _, Nat.zero_le _⟩ d_MD_groupOfPlain_37 rfl rfl (fun H locs hI => ?_)
              refine r_zle (a := sFr σ (2 * (sNx σ p0 7) + 1)) (tgt := 53) hx hb d_MD_groupOfPlain_40 (by decide) (by omega) (fun h3a => ?_) (fun h3a => ?_)
              · have hn4 := sPl_step hn3 (by rw [e30]; exact sHas_1 (by omega))
                refine lv_iconst (v := nI 2) hx hb d_MD_groupOfPlain_53 (by decide) ?_
                refine lv_iload_n hx hb d_MD_groupOfPlain_54 rfl (lv_at hl 1 rfl) ?_
                refine r_imul (a := 2) (b := (2 * ((2 * 1) + 1)) + 1) hx hb d_MD_groupOfPlain_55 ?_
                refine lv_iconst (v := nI 1) hx hb d_MD_groupOfPlain_56 (by decide) ?_
                refine r_iadd (a := 2 * ((2 * ((2 * 1) + 1)) + 1)) (b := 1) hx hb d_MD_groupOfPlain_57 ?_
                refine lv_istore_n (lv' := [(2, .int (nI ((2 * ((2 * ((2 * 1) + 1)) + 1)) + 1))), (3, .int (nI (sNx σ p0 7))), (0, .ref (am 0)), (1, .int (nI p0))]) hx hb d_MD_groupOfPlain_58 rfl hl (by decide) rfl (fun ls hl => ?_)
                refine lv_goto (tgt := 20) hx hb d_MD_groupOfPlain_59 (by decide) ?_
                refine lv_iload_n hx hb d_MD_groupOfPlain_20 rfl (lv_at hl 0 rfl) ?_
                refine lv_bipush (v := nI 8) hx hb d_MD_groupOfPlain_21 (by decide) ?_
                refine r_ge (a := (2 * ((2 * ((2 * 1) + 1)) + 1)) + 1) (b := 8) (tgt := 62) hx hb d_MD_groupOfPlain_23 (by decide) (by omega) (by omega) (fun h9 => ?_) (fun h9 => ?_)
                · refine lv_aload_n hx hb d_MD_groupOfPlain_62 rfl (lv_at hl 2 rfl) ?_
                  refine lv_iload_n hx hb d_MD_groupOfPlain_63 rfl (lv_at hl 3 rfl) ?_
                  refine g_callV (own := "GroupBitmapsModel") (C := "GroupBitmapsModel") (T := F_MD) (N := 11) (k := 1) (q0 := 0) (ci := 3) (a := am 0) (As := [.int (nI p0)]) (rest := []) (c_MD_firstFree σ τ hR p0 (by omega)) hx hb hml hown hg hK hI hA kw_573 kw_575 kp_32 kw_4 kw_576 ky_MD_firstFree ⟨Nat.le_of_ble_eq_true rfl, Nat.le_of_ble_eq_true rfl⟩ rfl rfl (wm_0) rfl rfl hl.1 (Nat.le_of_ble_eq_true rfl) ⟨Nat.zero_le _, Nat.zero_le _⟩ d_MD_groupOfPlain_64 rfl rfl (fun H locs hI => ?_)
                  exact g_ri hx hb hr hlk hI (by rw [sPlain, hn4]) d_MD_groupOfPlain_67
                · exact absurd h9 (by omega)
              · refine lv_aload_n hx hb d_MD_groupOfPlain_43 rfl (lv_at hl 2 rfl) ?_
                refine lv_iload_n hx hb d_MD_groupOfPlain_44 rfl (lv_at hl 0 rfl) ?_
                refine g_callV (own := "GroupBitmapsModel") (C := "GroupBitmapsModel") (T := F_MD) (N := 11) (k := 1) (q0 := 0) (ci := 3) (a := am 0) (As := [.int (nI (sNx σ p0 7))]) (rest := []) (k_fb σ τ hR (sNx σ p0 7) (by omega)) hx hb hml hown hg hK hI hA kw_517 kw_519 kp_23 kw_4 kw_520 ky_MD_freeBlocks ⟨Nat.le_of_ble_eq_true rfl, Nat.le_of_ble_eq_true rfl⟩ rfl rfl (wm_0) rfl rfl hl.1 (Nat.le_of_ble_eq_true rfl) ⟨Nat.zero_le _, Nat.zero_le _⟩ d_MD_groupOfPlain_45 rfl rfl (fun H locs hI => ?_)
                refine r_zle (a := sFr σ (2 * (sNx σ p0 7))) (tgt := 53) hx hb d_MD_groupOfPlain_48 (by decide) (by omega) (fun h3b => ?_) (fun h3b => ?_)
                · have hn4 := sPl_step hn3 (by rw [e30]; exact sHas_2 (by omega))
                  refine lv_iconst (v := nI 2) hx hb d_MD_groupOfPlain_53 (by decide) ?_
                  refine lv_iload_n hx hb d_MD_groupOfPlain_54 rfl (lv_at hl 1 rfl) ?_
                  refine r_imul (a := 2) (b := (2 * ((2 * 1) + 1)) + 1) hx hb d_MD_groupOfPlain_55 ?_
                  refine lv_iconst (v := nI 1) hx hb d_MD_groupOfPlain_56 (by decide) ?_
                  refine r_iadd (a := 2 * ((2 * ((2 * 1) + 1)) + 1)) (b := 1) hx hb d_MD_groupOfPlain_57 ?_
                  refine lv_istore_n (lv' := [(2, .int (nI ((2 * ((2 * ((2 * 1) + 1)) + 1)) + 1))), (3, .int (nI (sNx σ p0 7))), (0, .ref (am 0)), (1, .int (nI p0))]) hx hb d_MD_groupOfPlain_58 rfl hl (by decide) rfl (fun ls hl => ?_)
                  refine lv_goto (tgt := 20) hx hb d_MD_groupOfPlain_59 (by decide) ?_
                  refine lv_iload_n hx hb d_MD_groupOfPlain_20 rfl (lv_at hl 0 rfl) ?_
                  refine lv_bipush (v := nI 8) hx hb d_MD_groupOfPlain_21 (by decide) ?_
                  refine r_ge (a := (2 * ((2 * ((2 * 1) + 1)) + 1)) + 1) (b := 8) (tgt := 62) hx hb d_MD_groupOfPlain_23 (by decide) (by omega) (by omega) (fun h9 => ?_) (fun h9 => ?_)
                  · refine lv_aload_n hx hb d_MD_groupOfPlain_62 rfl (lv_at hl 2 rfl) ?_
                    refine lv_iload_n hx hb d_MD_groupOfPlain_63 rfl (lv_at hl 3 rfl) ?_
                    refine g_callV (own := "GroupBitmapsModel") (C := "GroupBitmapsModel") (T := F_MD) (N := 11) (k := 1) (q0 := 0) (ci := 3) (a := am 0) (As := [.int (nI p0)]) (rest := []) (c_MD_firstFree σ τ hR p0 (by omega)) hx hb hml hown hg hK hI hA kw_573 kw_575 kp_32 kw_4 kw_576 ky_MD_firstFree ⟨Nat.le_of_ble_eq_true rfl, Nat.le_of_ble_eq_true rfl⟩ rfl rfl (wm_0) rfl rfl hl.1 (Nat.le_of_ble_eq_true rfl) ⟨Nat.zero_le _, Nat.zero_le _⟩ d_MD_groupOfPlain_64 rfl rfl (fun H locs hI => ?_)
                    exact g_ri hx hb hr hlk hI (by rw [sPlain, hn4]) d_MD_groupOfPlain_67
                  · exact absurd h9 (by omega)
                · refine lv_iload_n hx hb d_MD_groupOfPlain_51 rfl (lv_at hl 0 rfl) ?_
                  exact g_ri hx hb hr hlk hI (by rw [sPlain, sPl_some hn3 (by rw [e30]; exact sHas_3 h3a h3b) (by omega), e30]; rfl) d_MD_groupOfPlain_52
          · refine lv_aload_n hx hb d_MD_groupOfPlain_43 rfl (lv_at hl 2 rfl) ?_
            refine lv_iload_n hx hb d_MD_groupOfPlain_44 rfl (lv_at hl 0 rfl) ?_
            refine g_callV (own := "GroupBitmapsModel") (C := "GroupBitmapsModel") (T := F_MD) (N := 11) (k := 1) (q0 := 0) (ci := 3) (a := am 0) (As := [.int (nI (sNx σ p0 3))]) (rest := []) (k_fb σ τ hR (sNx σ p0 3) (by omega)) hx hb hml hown hg hK hI hA kw_517 kw_519 kp_23 kw_4 kw_520 ky_MD_freeBlocks ⟨Nat.le_of_ble_eq_true rfl, Nat.le_of_ble_eq_true rfl⟩ rfl rfl (wm_0) rfl rfl hl.1 (Nat.le_of_ble_eq_true rfl) ⟨Nat.zero_le _, Nat.zero_le _⟩ d_MD_groupOfPlain_45 rfl rfl (fun H locs hI => ?_)
            refine r_zle (a := sFr σ (2 * (sNx σ p0 3))) (tgt := 53) hx hb d_MD_groupOfPlain_48 (by decide) (by omega) (fun h2b => ?_) (fun h2b => ?_)
            · have hn3 := sPl_step hn2 (by rw [e20]; exact sHas_2 (by omega))
              refine lv_iconst (v := nI 2) hx hb d_MD_groupOfPlain_53 (by decide) ?_
              refine lv_iload_n hx hb d_MD_groupOfPlain_54 rfl (lv_at hl 1 rfl) ?_
              refine r_imul (a := 2) (b := (2 * 1) + 1) hx hb d_MD_groupOfPlain_55 ?_
              refine lv_iconst (v := nI 1) hx hb d_MD_groupOfPlain_56 (by decide) ?_
              refine r_iadd (a := 2 * ((2 * 1) + 1)) (b := 1) hx hb d_MD_groupOfPlain_57 ?_
              refine lv_istore_n (lv' := [(2, .int (nI ((2 * ((2 * 1) + 1)) + 1))), (3, .int (nI (sNx σ p0 3))), (0, .ref (am 0)), (1, .int (nI p0))]) hx hb d_MD_groupOfPlain_58 rfl hl (by decide) rfl (fun ls hl => ?_)
              refine lv_goto (tgt := 20) hx hb d_MD_groupOfPlain_59 (by decide) ?_
              refine lv_iload_n hx hb d_MD_groupOfPlain_20 rfl (lv_at hl 0 rfl) ?_
              refine lv_bipush (v := nI 8) hx hb d_MD_groupOfPlain_21 (by decide) ?_
              refine r_ge (a := (2 * ((2 * 1) + 1)) + 1) (b := 8) (tgt := 62) hx hb d_MD_groupOfPlain_23 (by decide) (by omega) (by omega) (fun h9 => ?_) (fun h9 => ?_)
              · exact absurd h9 (by omega)
              · have hx7 := sNx_lt hσ p0 7
                have hfa7 := (hσ.2.2.2.1 (2 * (sNx σ p0 7)) (by omega)).2
                have hfb7 := (hσ.2.2.2.1 (2 * (sNx σ p0 7) + 1) (by omega)).2
                have e30 : sNx σ p0 (pst 3) = sNx σ p0 7 := rfl
                refine lv_iload_n hx hb d_MD_groupOfPlain_26 rfl (lv_at hl 3 rfl) ?_
                refine lv_iload_n hx hb d_MD_groupOfPlain_27 rfl (lv_at hl 0 rfl) ?_
                refine r_iadd (a := p0) (b := (2 * ((2 * 1) + 1)) + 1) hx hb d_MD_groupOfPlain_28 ?_
                refine lv_aload_n hx hb d_MD_groupOfPlain_29 rfl (lv_at hl 2 rfl) ?_
                refine g_get (own := "GroupBitmapsModel") (C := R_MD) (T := F_MD) (N := 11) (ci := 3) (v := .int (nI (mGr τ))) hx hb hg ku_MD hown hK hI (0) (wm_0) rfl 1 (by decide) kw_471 rfl d_MD_groupOfPlain_30 ?_
                refine r_irem (a := p0 + ((2 * ((2 * 1) + 1)) + 1)) (b := mGr τ) hx hb (by omega) (by omega) (by omega) d_MD_groupOfPlain_33 ?_
                rw [show (p0 + ((2 * ((2 * 1) + 1)) + 1)) % (mGr τ) = sNx σ p0 7 from by rw [hgr]; rfl]
                refine lv_istore_n (lv' := [(3, .int (nI (sNx σ p0 7))), (2, .int (nI ((2 * ((2 * 1) + 1)) + 1))), (0, .ref (am 0)), (1, .int (nI p0))]) hx hb d_MD_groupOfPlain_34 rfl hl (by decide) rfl (fun ls hl => ?_)
                refine lv_aload_n hx hb d_MD_groupOfPlain_35 rfl (lv_at hl 2 rfl) ?_
                refine lv_iload_n hx hb d_MD_groupOfPlain_36 rfl (lv_at hl 0 rfl) ?_
                refine g_callV (own := "GroupBitmapsModel") (C := "GroupBitmapsModel") (T := F_MD) (N := 11) (k := 1) (q0 := 0) (ci := 3) (a := am 0) (As := [.int (nI (sNx σ p0 7))]) (rest := []) (k_ff σ τ hR (sNx σ p0 7) (by omega)) hx hb hml hown hg hK hI hA kw_565 kw_567 kp_30 kw_4 kw_568 ky_MD_freeFiles ⟨Nat.le_of_ble_eq_true rfl, Nat.le_of_ble_eq_true rfl⟩ rfl rfl (wm_0) rfl rfl hl.1 (Nat.le_of_ble_eq_true rfl) ⟨Nat.zero_le _, Nat.zero_le _⟩ d_MD_groupOfPlain_37 rfl rfl (fun H locs hI => ?_)
                refine r_zle (a := sFr σ (2 * (sNx σ p0 7) + 1)) (tgt := 53) hx hb d_MD_groupOfPlain_40 (by decide) (by omega) (fun h3a => ?_) (fun h3a => ?_)
                · have hn4 := sPl_step hn3 (by rw [e30]; exact sHas_1 (by omega))
                  refine lv_iconst (v := nI 2) hx hb d_MD_groupOfPlain_53 (by decide) ?_
                  refine lv_iload_n hx hb d_MD_groupOfPlain_54 rfl (lv_at hl 1 rfl) ?_
                  refine r_imul (a := 2) (b := (2 * ((2 * 1) + 1)) + 1) hx hb d_MD_groupOfPlain_55 ?_
                  refine lv_iconst (v := nI 1) hx hb d_MD_groupOfPlain_56 (by decide) ?_
                  refine r_iadd (a := 2 * ((2 * ((2 * 1) + 1)) + 1)) (b := 1) hx hb d_MD_groupOfPlain_57 ?_
                  refine lv_istore_n (lv' := [(2, .int (nI ((2 * ((2 * ((2 * 1) + 1)) + 1)) + 1))), (3, .int (nI (sNx σ p0 7))), (0, .ref (am 0)), (1, .int (nI p0))]) hx hb d_MD_groupOfPlain_58 rfl hl (by decide) rfl (fun ls hl => ?_)
                  refine lv_goto (tgt := 20) hx hb d_MD_groupOfPlain_59 (by decide) ?_
                  refine lv_iload_n hx hb d_MD_groupOfPlain_20 rfl (lv_at hl 0 rfl) ?_
                  refine lv_bipush (v := nI 8) hx hb d_MD_groupOfPlain_21 (by decide) ?_
                  refine r_ge (a := (2 * ((2 * ((2 * 1) + 1)) + 1)) + 1) (b := 8) (tgt := 62) hx hb d_MD_groupOfPlain_23 (by decide) (by omega) (by omega) (fun h9 => ?_) (fun h9 => ?_)
                  · refine lv_aload_n hx hb d_MD_groupOfPlain_62 rfl (lv_at hl 2 rfl) ?_
                    refine lv_iload_n hx hb d_MD_groupOfPlain_63 rfl (lv_at hl 3 rfl) ?_
                    refine g_callV (own := "GroupBitmapsModel") (C := "GroupBitmapsModel") (T := F_MD) (N := 11) (k := 1) (q0 := 0) (ci := 3) (a := am 0) (As := [.int (nI p0)]) (rest := []) (c_MD_firstFree σ τ hR p0 (by omega)) hx hb hml hown hg hK hI hA kw_573 kw_575 kp_32 kw_4 kw_576 ky_MD_firstFree ⟨Nat.le_of_ble_eq_true rfl, Nat.le_of_ble_eq_true rfl⟩ rfl rfl (wm_0) rfl rfl hl.1 (Nat.le_of_ble_eq_true rfl) ⟨Nat.zero_le _, Nat.zero_le _⟩ d_MD_groupOfPlain_64 rfl rfl (fun H locs hI => ?_)
                    exact g_ri hx hb hr hlk hI (by rw [sPlain, hn4]) d_MD_groupOfPlain_67
                  · exact absurd h9 (by omega)
                · refine lv_aload_n hx hb d_MD_groupOfPlain_43 rfl (lv_at hl 2 rfl) ?_
                  refine lv_iload_n hx hb d_MD_groupOfPlain_44 rfl (lv_at hl 0 rfl) ?_
                  refine g_callV (own := "GroupBitmapsModel") (C := "GroupBitmapsModel") (T := F_MD) (N := 11) (k := 1) (q0 := 0) (ci := 3) (a := am 0) (As := [.int (nI (sNx σ p0 7))]) (rest := []) (k_fb σ τ hR (sNx σ p0 7) (by omega)) hx hb hml hown hg hK hI hA kw_517 kw_519 kp_23 kw_4 kw_520 ky_MD_freeBlocks ⟨Nat.le_of_ble_eq_true rfl, Nat.le_of_ble_eq_true rfl⟩ rfl rfl (wm_0) rfl rfl hl.1 (Nat.le_of_ble_eq_true rfl) ⟨Nat.zero_le _, Nat.zero_le _⟩ d_MD_groupOfPlain_45 rfl rfl (fun H locs hI => ?_)
                  refine r_zle (a := sFr σ (2 * (sNx σ p0 7))) (tgt := 53) hx hb d_MD_groupOfPlain_48 (by decide) (by omega) (fun h3b => ?_) (fun h3b => ?_)
                  · have hn4 := sPl_step hn3 (by rw [e30]; exact sHas_2 (by omega))
                    refine lv_iconst (v := nI 2) hx hb d_MD_groupOfPlain_53 (by decide) ?_
                    refine lv_iload_n hx hb d_MD_groupOfPlain_54 rfl (lv_at hl 1 rfl) ?_
                    refine r_imul (a := 2) (b := (2 * ((2 * 1) + 1)) + 1) hx hb d_MD_groupOfPlain_55 ?_
                    refine lv_iconst (v := nI 1) hx hb d_MD_groupOfPlain_56 (by decide) ?_
                    refine r_iadd (a := 2 * ((2 * ((2 * 1) + 1)) + 1)) (b := 1) hx hb d_MD_groupOfPlain_57 ?_
                    refine lv_istore_n (lv' := [(2, .int (nI ((2 * ((2 * ((2 * 1) + 1)) + 1)) + 1))), (3, .int (nI (sNx σ p0 7))), (0, .ref (am 0)), (1, .int (nI p0))]) hx hb d_MD_groupOfPlain_58 rfl hl (by decide) rfl (fun ls hl => ?_)
                    refine lv_goto (tgt := 20) hx hb d_MD_groupOfPlain_59 (by decide) ?_
                    refine lv_iload_n hx hb d_MD_groupOfPlain_20 rfl (lv_at hl 0 rfl) ?_
                    refine lv_bipush (v := nI 8) hx hb d_MD_groupOfPlain_21 (by decide) ?_
                    refine r_ge (a := (2 * ((2 * ((2 * 1) + 1)) + 1)) + 1) (b := 8) (tgt := 62) hx hb d_MD_groupOfPlain_23 (by decide) (by omega) (by omega) (fun h9 => ?_) (fun h9 => ?_)
                    · refine lv_aload_n hx hb d_MD_groupOfPlain_62 rfl (lv_at hl 2 rfl) ?_
                      refine lv_iload_n hx hb d_MD_groupOfPlain_63 rfl (lv_at hl 3 rfl) ?_
                      refine g_callV (own := "GroupBitmapsModel") (C := "GroupBitmapsModel") (T := F_MD) (N := 11) (k := 1) (q0 := 0) (ci := 3) (a := am 0) (As := [.int (nI p0)]) (rest := []) (c_MD_firstFree σ τ hR p0 (by omega)) hx hb hml hown hg hK hI hA kw_573 kw_575 kp_32 kw_4 kw_576 ky_MD_firstFree ⟨Nat.le_of_ble_eq_true rfl, Nat.le_of_ble_eq_true rfl⟩ rfl rfl (wm_0) rfl rfl hl.1 (Nat.le_of_ble_eq_true rfl) ⟨Nat.zero_le _, Nat.zero_le _⟩ d_MD_groupOfPlain_64 rfl rfl (fun H locs hI => ?_)
                      exact g_ri hx hb hr hlk hI (by rw [sPlain, hn4]) d_MD_groupOfPlain_67
                    · exact absurd h9 (by omega)
                  · refine lv_iload_n hx hb d_MD_groupOfPlain_51 rfl (lv_at hl 0 rfl) ?_
                    exact g_ri hx hb hr hlk hI (by rw [sPlain, sPl_some hn3 (by rw [e30]; exact sHas_3 h3a h3b) (by omega), e30]; rfl) d_MD_groupOfPlain_52
            · refine lv_iload_n hx hb d_MD_groupOfPlain_51 rfl (lv_at hl 0 rfl) ?_
              exact g_ri hx hb hr hlk hI (by rw [sPlain, sPl_some hn2 (by rw [e20]; exact sHas_3 h2a h2b) (by omega), e20]; rfl) d_MD_groupOfPlain_52
      · refine lv_aload_n hx hb d_MD_groupOfPlain_43 rfl (lv_at hl 2 rfl) ?_
        refine lv_iload_n hx hb d_MD_groupOfPlain_44 rfl (lv_at hl 0 rfl) ?_
        refine g_callV (own := "GroupBitmapsModel") (C := "GroupBitmapsModel") (T := F_MD) (N := 11) (k := 1) (q0 := 0) (ci := 3) (a := am 0) (As := [.int (nI (sNx σ p0 1))]) (rest := []) (k_fb σ τ hR (sNx σ p0 1) (by omega)) hx hb hml hown hg hK hI hA kw_517 kw_519 kp_23 kw_4 kw_520 ky_MD_freeBlocks ⟨Nat.le_of_ble_eq_true rfl, Nat.le_of_ble_eq_true rfl⟩ rfl rfl (wm_0) rfl rfl hl.1 (Nat.le_of_ble_eq_true rfl) ⟨Nat.zero_le _, Nat.zero_le _⟩ d_MD_groupOfPlain_45 rfl rfl (fun H locs hI => ?_)
        refine r_zle (a := sFr σ (2 * (sNx σ p0 1))) (tgt := 53) hx hb d_MD_groupOfPlain_48 (by decide) (by omega) (fun h1b => ?_) (fun h1b => ?_)
        · have hn2 := sPl_step hn1 (by rw [e10]; exact sHas_2 (by omega))
          refine lv_iconst (v := nI 2) hx hb d_MD_groupOfPlain_53 (by decide) ?_
          refine lv_iload_n hx hb d_MD_groupOfPlain_54 rfl (lv_at hl 1 rfl) ?_
          refine r_imul (a := 2) (b := 1) hx hb d_MD_groupOfPlain_55 ?_
          refine lv_iconst (v := nI 1) hx hb d_MD_groupOfPlain_56 (by decide) ?_
          refine r_iadd (a := 2 * 1) (b := 1) hx hb d_MD_groupOfPlain_57 ?_
          refine lv_istore_n (lv' := [(2, .int (nI ((2 * 1) + 1))), (3, .int (nI (sNx σ p0 1))), (0, .ref (am 0)), (1, .int (nI p0))]) hx hb d_MD_groupOfPlain_58 rfl hl (by decide) rfl (fun ls hl => ?_)
          refine lv_goto (tgt := 20) hx hb d_MD_groupOfPlain_59 (by decide) ?_
          refine lv_iload_n hx hb d_MD_groupOfPlain_20 rfl (lv_at hl 0 rfl) ?_
          refine lv_bipush (v := nI 8) hx hb d_MD_groupOfPlain_21 (by decide) ?_
          refine r_ge (a := (2 * 1) + 1) (b := 8) (tgt := 62) hx hb d_MD_groupOfPlain_23 (by decide) (by omega) (by omega) (fun h9 => ?_) (fun h9 => ?_)
          · exact absurd h9 (by omega)
          · have hx3 := sNx_lt hσ p0 3
            have hfa3 := (hσ.2.2.2.1 (2 * (sNx σ p0 3)) (by omega)).2
            have hfb3 := (hσ.2.2.2.1 (2 * (sNx σ p0 3) + 1) (by omega)).2
            have e20 : sNx σ p0 (pst 2) = sNx σ p0 3 := rfl
            refine lv_iload_n hx hb d_MD_groupOfPlain_26 rfl (lv_at hl 3 rfl) ?_
            refine lv_iload_n hx hb d_MD_groupOfPlain_27 rfl (lv_at hl 0 rfl) ?_
            refine r_iadd (a := p0) (b := (2 * 1) + 1) hx hb d_MD_groupOfPlain_28 ?_
            refine lv_aload_n hx hb d_MD_groupOfPlain_29 rfl (lv_at hl 2 rfl) ?_
            refine g_get (own := "GroupBitmapsModel") (C := R_MD) (T := F_MD) (N := 11) (ci := 3) (v := .int (nI (mGr τ))) hx hb hg ku_MD hown hK hI (0) (wm_0) rfl 1 (by decide) kw_471 rfl d_MD_groupOfPlain_30 ?_
            refine r_irem (a := p0 + ((2 * 1) + 1)) (b := mGr τ) hx hb (by omega) (by omega) (by omega) d_MD_groupOfPlain_33 ?_
            rw [show (p0 + ((2 * 1) + 1)) % (mGr τ) = sNx σ p0 3 from by rw [hgr]; rfl]
            refine lv_istore_n (lv' := [(3, .int (nI (sNx σ p0 3))), (2, .int (nI ((2 * 1) + 1))), (0, .ref (am 0)), (1, .int (nI p0))]) hx hb d_MD_groupOfPlain_34 rfl hl (by decide) rfl (fun ls hl => ?_)
            refine lv_aload_n hx hb d_MD_groupOfPlain_35 rfl (lv_at hl 2 rfl) ?_
            refine lv_iload_n hx hb d_MD_groupOfPlain_36 rfl (lv_at hl 0 rfl) ?_
            refine g_callV (own := "GroupBitmapsModel") (C := "GroupBitmapsModel") (T := F_MD) (N := 11) (k := 1) (q0 := 0) (ci := 3) (a := am 0) (As := [.int (nI (sNx σ p0 3))]) (rest := []) (k_ff σ τ hR (sNx σ p0 3) (by omega)) hx hb hml hown hg hK hI hA kw_565 kw_567 kp_30 kw_4 kw_568 ky_MD_freeFiles ⟨Nat.le_of_ble_eq_true rfl, Nat.le_of_ble_eq_true rfl⟩ rfl rfl (wm_0) rfl rfl hl.1 (Nat.le_of_ble_eq_true rfl) ⟨Nat.zero_le _, Nat.zero_le _⟩ d_MD_groupOfPlain_37 rfl rfl (fun H locs hI => ?_)
            refine r_zle (a := sFr σ (2 * (sNx σ p0 3) + 1)) (tgt := 53) hx hb d_MD_groupOfPlain_40 (by decide) (by omega) (fun h2a => ?_) (fun h2a => ?_)
            · have hn3 := sPl_step hn2 (by rw [e20]; exact sHas_1 (by omega))
              refine lv_iconst (v := nI 2) hx hb d_MD_groupOfPlain_53 (by decide) ?_
              refine lv_iload_n hx hb d_MD_groupOfPlain_54 rfl (lv_at hl 1 rfl) ?_
              refine r_imul (a := 2) (b := (2 * 1) + 1) hx hb d_MD_groupOfPlain_55 ?_
              refine lv_iconst (v := nI 1) hx hb d_MD_groupOfPlain_56 (by decide) ?_
              refine r_iadd (a := 2 * ((2 * 1) + 1)) (b := 1) hx hb d_MD_groupOfPlain_57 ?_
              refine lv_istore_n (lv' := [(2, .int (nI ((2 * ((2 * 1) + 1)) + 1))), (3, .int (nI (sNx σ p0 3))), (0, .ref (am 0)), (1, .int (nI p0))]) hx hb d_MD_groupOfPlain_58 rfl hl (by decide) rfl (fun ls hl => ?_)
              refine lv_goto (tgt := 20) hx hb d_MD_groupOfPlain_59 (by decide) ?_
              refine lv_iload_n hx hb d_MD_groupOfPlain_20 rfl (lv_at hl 0 rfl) ?_
              refine lv_bipush (v := nI 8) hx hb d_MD_groupOfPlain_21 (by decide) ?_
              refine r_ge (a := (2 * ((2 * 1) + 1)) + 1) (b := 8) (tgt := 62) hx hb d_MD_groupOfPlain_23 (by decide) (by omega) (by omega) (fun h9 => ?_) (fun h9 => ?_)
              · exact absurd h9 (by omega)
              · have hx7 := sNx_lt hσ p0 7
                have hfa7 := (hσ.2.2.2.1 (2 * (sNx σ p0 7)) (by omega)).2
                have hfb7 := (hσ.2.2.2.1 (2 * (sNx σ p0 7) + 1) (by omega)).2
                have e30 : sNx σ p0 (pst 3) = sNx σ p0 7 := rfl
                refine lv_iload_n hx hb d_MD_groupOfPlain_26 rfl (lv_at hl 3 rfl) ?_
                refine lv_iload_n hx hb d_MD_groupOfPlain_27 rfl (lv_at hl 0 rfl) ?_
                refine r_iadd (a := p0) (b := (2 * ((2 * 1) + 1)) + 1) hx hb d_MD_groupOfPlain_28 ?_
                refine lv_aload_n hx hb d_MD_groupOfPlain_29 rfl (lv_at hl 2 rfl) ?_
                refine g_get (own := "GroupBitmapsModel") (C := R_MD) (T := F_MD) (N := 11) (ci := 3) (v := .int (nI (mGr τ))) hx hb hg ku_MD hown hK hI (0) (wm_0) rfl 1 (by decide) kw_471 rfl d_MD_groupOfPlain_30 ?_
                refine r_irem (a := p0 + ((2 * ((2 * 1) + 1)) + 1)) (b := mGr τ) hx hb (by omega) (by omega) (by omega) d_MD_groupOfPlain_33 ?_
                rw [show (p0 + ((2 * ((2 * 1) + 1)) + 1)) % (mGr τ) = sNx σ p0 7 from by rw [hgr]; rfl]
                refine lv_istore_n (lv' := [(3, .int (nI (sNx σ p0 7))), (2, .int (nI ((2 * ((2 * 1) + 1)) + 1))), (0, .ref (am 0)), (1, .int (nI p0))]) hx hb d_MD_groupOfPlain_34 rfl hl (by decide) rfl (fun ls hl => ?_)
                refine lv_aload_n hx hb d_MD_groupOfPlain_35 rfl (lv_at hl 2 rfl) ?_
                refine lv_iload_n hx hb d_MD_groupOfPlain_36 rfl (lv_at hl 0 rfl) ?_
                refine g_callV (own := "GroupBitmapsModel") (C := "GroupBitmapsModel") (T := F_MD) (N := 11) (k := 1) (q0 := 0) (ci := 3) (a := am 0) (As := [.int (nI (sNx σ p0 7))]) (rest := []) (k_ff σ τ hR (sNx σ p0 7) (by omega)) hx hb hml hown hg hK hI hA kw_565 kw_567 kp_30 kw_4 kw_568 ky_MD_freeFiles ⟨Nat.le_of_ble_eq_true rfl, Nat.le_of_ble_eq_true rfl⟩ rfl rfl (wm_0) rfl rfl hl.1 (Nat.le_of_ble_eq_true rfl) ⟨Nat.zero_le _, Nat.zero_le _⟩ d_MD_groupOfPlain_37 rfl rfl (fun H locs hI => ?_)
                refine r_zle (a := sFr σ (2 * (sNx σ p0 7) + 1)) (tgt := 53) hx hb d_MD_groupOfPlain_40 (by decide) (by omega) (fun h3a => ?_) (fun h3a => ?_)
                · have hn4 := sPl_step hn3 (by rw [e30]; exact sHas_1 (by omega))
                  refine lv_iconst (v := nI 2) hx hb d_MD_groupOfPlain_53 (by decide) ?_
                  refine lv_iload_n hx hb d_MD_groupOfPlain_54 rfl (lv_at hl 1 rfl) ?_
                  refine r_imul (a := 2) (b := (2 * ((2 * 1) + 1)) + 1) hx hb d_MD_groupOfPlain_55 ?_
                  refine lv_iconst (v := nI 1) hx hb d_MD_groupOfPlain_56 (by decide) ?_
                  refine r_iadd (a := 2 * ((2 * ((2 * 1) + 1)) + 1)) (b := 1) hx hb d_MD_groupOfPlain_57 ?_
                  refine lv_istore_n (lv' := [(2, .int (nI ((2 * ((2 * ((2 * 1) + 1)) + 1)) + 1))), (3, .int (nI (sNx σ p0 7))), (0, .ref (am 0)), (1, .int (nI p0))]) hx hb d_MD_groupOfPlain_58 rfl hl (by decide) rfl (fun ls hl => ?_)
                  refine lv_goto (tgt := 20) hx hb d_MD_groupOfPlain_59 (by decide) ?_
                  refine lv_iload_n hx hb d_MD_groupOfPlain_20 rfl (lv_at hl 0 rfl) ?_
                  refine lv_bipush (v := nI 8) hx hb d_MD_groupOfPlain_21 (by decide) ?_
                  refine r_ge (a := (2 * ((2 * ((2 * 1) + 1)) + 1)) + 1) (b := 8) (tgt := 62) hx hb d_MD_groupOfPlain_23 (by decide) (by omega) (by omega) (fun h9 => ?_) (fun h9 => ?_)
                  · refine lv_aload_n hx hb d_MD_groupOfPlain_62 rfl (lv_at hl 2 rfl) ?_
                    refine lv_iload_n hx hb d_MD_groupOfPlain_63 rfl (lv_at hl 3 rfl) ?_
                    refine g_callV (own := "GroupBitmapsModel") (C := "GroupBitmapsModel") (T := F_MD) (N := 11) (k := 1) (q0 := 0) (ci := 3) (a := am 0) (As := [.int (nI p0)]) (rest := []) (c_MD_firstFree σ τ hR p0 (by omega)) hx hb hml hown hg hK hI hA kw_573 kw_575 kp_32 kw_4 kw_576 ky_MD_firstFree ⟨Nat.le_of_ble_eq_true rfl, Nat.le_of_ble_eq_true rfl⟩ rfl rfl (wm_0) rfl rfl hl.1 (Nat.le_of_ble_eq_true rfl) ⟨Nat.zero_le _, Nat.zero_le _⟩ d_MD_groupOfPlain_64 rfl rfl (fun H locs hI => ?_)
                    exact g_ri hx hb hr hlk hI (by rw [sPlain, hn4]) d_MD_groupOfPlain_67
                  · exact absurd h9 (by omega)
                · refine lv_aload_n hx hb d_MD_groupOfPlain_43 rfl (lv_at hl 2 rfl) ?_
                  refine lv_iload_n hx hb d_MD_groupOfPlain_44 rfl (lv_at hl 0 rfl) ?_
                  refine g_callV (own := "GroupBitmapsModel") (C := "GroupBitmapsModel") (T := F_MD) (N := 11) (k := 1) (q0 := 0) (ci := 3) (a := am 0) (As := [.int (nI (sNx σ p0 7))]) (rest := []) (k_fb σ τ hR (sNx σ p0 7) (by omega)) hx hb hml hown hg hK hI hA kw_517 kw_519 kp_23 kw_4 kw_520 ky_MD_freeBlocks ⟨Nat.le_of_ble_eq_true rfl, Nat.le_of_ble_eq_true rfl⟩ rfl rfl (wm_0) rfl rfl hl.1 (Nat.le_of_ble_eq_true rfl) ⟨Nat.zero_le _, Nat.zero_le _⟩ d_MD_groupOfPlain_45 rfl rfl (fun H locs hI => ?_)
                  refine r_zle (a := sFr σ (2 * (sNx σ p0 7))) (tgt := 53) hx hb d_MD_groupOfPlain_48 (by decide) (by omega) (fun h3b => ?_) (fun h3b => ?_)
                  · have hn4 := sPl_step hn3 (by rw [e30]; exact sHas_2 (by omega))
                    refine lv_iconst (v := nI 2) hx hb d_MD_groupOfPlain_53 (by decide) ?_
                    refine lv_iload_n hx hb d_MD_groupOfPlain_54 rfl (lv_at hl 1 rfl) ?_
                    refine r_imul (a := 2) (b := (2 * ((2 * 1) + 1)) + 1) hx hb d_MD_groupOfPlain_55 ?_
                    refine lv_iconst (v := nI 1) hx hb d_MD_groupOfPlain_56 (by decide) ?_
                    refine r_iadd (a := 2 * ((2 * ((2 * 1) + 1)) + 1)) (b := 1) hx hb d_MD_groupOfPlain_57 ?_
                    refine lv_istore_n (lv' := [(2, .int (nI ((2 * ((2 * ((2 * 1) + 1)) + 1)) + 1))), (3, .int (nI (sNx σ p0 7))), (0, .ref (am 0)), (1, .int (nI p0))]) hx hb d_MD_groupOfPlain_58 rfl hl (by decide) rfl (fun ls hl => ?_)
                    refine lv_goto (tgt := 20) hx hb d_MD_groupOfPlain_59 (by decide) ?_
                    refine lv_iload_n hx hb d_MD_groupOfPlain_20 rfl (lv_at hl 0 rfl) ?_
                    refine lv_bipush (v := nI 8) hx hb d_MD_groupOfPlain_21 (by decide) ?_
                    refine r_ge (a := (2 * ((2 * ((2 * 1) + 1)) + 1)) + 1) (b := 8) (tgt := 62) hx hb d_MD_groupOfPlain_23 (by decide) (by omega) (by omega) (fun h9 => ?_) (fun h9 => ?_)
                    · refine lv_aload_n hx hb d_MD_groupOfPlain_62 rfl (lv_at hl 2 rfl) ?_
                      refine lv_iload_n hx hb d_MD_groupOfPlain_63 rfl (lv_at hl 3 rfl) ?_
                      refine g_callV (own := "GroupBitmapsModel") (C := "GroupBitmapsModel") (T := F_MD) (N := 11) (k := 1) (q0 := 0) (ci := 3) (a := am 0) (As := [.int (nI p0)]) (rest := []) (c_MD_firstFree σ τ hR p0 (by omega)) hx hb hml hown hg hK hI hA kw_573 kw_575 kp_32 kw_4 kw_576 ky_MD_firstFree ⟨Nat.le_of_ble_eq_true rfl, Nat.le_of_ble_eq_true rfl⟩ rfl rfl (wm_0) rfl rfl hl.1 (Nat.le_of_ble_eq_true rfl) ⟨Nat.zero_le _, Nat.zero_le _⟩ d_MD_groupOfPlain_64 rfl rfl (fun H locs hI => ?_)
                      exact g_ri hx hb hr hlk hI (by rw [sPlain, hn4]) d_MD_groupOfPlain_67
                    · exact absurd h9 (by omega)
                  · refine lv_iload_n hx hb d_MD_groupOfPlain_51 rfl (lv_at hl 0 rfl) ?_
                    exact g_ri hx hb hr hlk hI (by rw [sPlain, sPl_some hn3 (by rw [e30]; exact sHas_3 h3a h3b) (by omega), e30]; rfl) d_MD_groupOfPlain_52
            · refine lv_aload_n hx hb d_MD_groupOfPlain_43 rfl (lv_at hl 2 rfl) ?_
              refine lv_iload_n hx hb d_MD_groupOfPlain_44 rfl (lv_at hl 0 rfl) ?_
              refine g_callV (own := "GroupBitmapsModel") (C := "GroupBitmapsModel") (T := F_MD) (N := 11) (k := 1) (q0 := 0) (ci := 3) (a := am 0) (As := [.int (nI (sNx σ p0 3))]) (rest := []) (k_fb σ τ hR (sNx σ p0 3) (by omega)) hx hb hml hown hg hK hI hA kw_517 kw_519 kp_23 kw_4 kw_520 ky_MD_freeBlocks ⟨Nat.le_of_ble_eq_true rfl, Nat.le_of_ble_eq_true rfl⟩ rfl rfl (wm_0) rfl rfl hl.1 (Nat.le_of_ble_eq_true rfl) ⟨Nat.zero_le _, Nat.zero_le _⟩ d_MD_groupOfPlain_45 rfl rfl (fun H locs hI => ?_)
              refine r_zle (a := sFr σ (2 * (sNx σ p0 3))) (tgt := 53) hx hb d_MD_groupOfPlain_48 (by decide) (by omega) (fun h2b => ?_) (fun h2b => ?_)
              · have hn3 := sPl_step hn2 (by rw [e20]; exact sHas_2 (by omega))
                refine lv_iconst (v := nI 2) hx hb d_MD_groupOfPlain_53 (by decide) ?_
                refine lv_iload_n hx hb d_MD_groupOfPlain_54 rfl (lv_at hl 1 rfl) ?_
                refine r_imul (a := 2) (b := (2 * 1) + 1) hx hb d_MD_groupOfPlain_55 ?_
                refine lv_iconst (v := nI 1) hx hb d_MD_groupOfPlain_56 (by decide) ?_
                refine r_iadd (a := 2 * ((2 * 1) + 1)) (b := 1) hx hb d_MD_groupOfPlain_57 ?_
                refine lv_istore_n (lv' := [(2, .int (nI ((2 * ((2 * 1) + 1)) + 1))), (3, .int (nI (sNx σ p0 3))), (0, .ref (am 0)), (1, .int (nI p0))]) hx hb d_MD_groupOfPlain_58 rfl hl (by decide) rfl (fun ls hl => ?_)
                refine lv_goto (tgt := 20) hx hb d_MD_groupOfPlain_59 (by decide) ?_
                refine lv_iload_n hx hb d_MD_groupOfPlain_20 rfl (lv_at hl 0 rfl) ?_
                refine lv_bipush (v := nI 8) hx hb d_MD_groupOfPlain_21 (by decide) ?_
                refine r_ge (a := (2 * ((2 * 1) + 1)) + 1) (b := 8) (tgt := 62) hx hb d_MD_groupOfPlain_23 (by decide) (by omega) (by omega) (fun h9 => ?_) (fun h9 => ?_)
                · exact absurd h9 (by omega)
                · have hx7 := sNx_lt hσ p0 7
                  have hfa7 := (hσ.2.2.2.1 (2 * (sNx σ p0 7)) (by omega)).2
                  have hfb7 := (hσ.2.2.2.1 (2 * (sNx σ p0 7) + 1) (by omega)).2
                  have e30 : sNx σ p0 (pst 3) = sNx σ p0 7 := rfl
                  refine lv_iload_n hx hb d_MD_groupOfPlain_26 rfl (lv_at hl 3 rfl) ?_
                  refine lv_iload_n hx hb d_MD_groupOfPlain_27 rfl (lv_at hl 0 rfl) ?_
                  refine r_iadd (a := p0) (b := (2 * ((2 * 1) + 1)) + 1) hx hb d_MD_groupOfPlain_28 ?_
                  refine lv_aload_n hx hb d_MD_groupOfPlain_29 rfl (lv_at hl 2 rfl) ?_
                  refine g_get (own := "GroupBitmapsModel") (C := R_MD) (T := F_MD) (N := 11) (ci := 3) (v := .int (nI (mGr τ))) hx hb hg ku_MD hown hK hI (0) (wm_0) rfl 1 (by decide) kw_471 rfl d_MD_groupOfPlain_30 ?_
                  refine r_irem (a := p0 + ((2 * ((2 * 1) + 1)) + 1)) (b := mGr τ) hx hb (by omega) (by omega) (by omega) d_MD_groupOfPlain_33 ?_
                  rw [show (p0 + ((2 * ((2 * 1) + 1)) + 1)) % (mGr τ) = sNx σ p0 7 from by rw [hgr]; rfl]
                  refine lv_istore_n (lv' := [(3, .int (nI (sNx σ p0 7))), (2, .int (nI ((2 * ((2 * 1) + 1)) + 1))), (0, .ref (am 0)), (1, .int (nI p0))]) hx hb d_MD_groupOfPlain_34 rfl hl (by decide) rfl (fun ls hl => ?_)
                  refine lv_aload_n hx hb d_MD_groupOfPlain_35 rfl (lv_at hl 2 rfl) ?_
                  refine lv_iload_n hx hb d_MD_groupOfPlain_36 rfl (lv_at hl 0 rfl) ?_
                  refine g_callV (own := "GroupBitmapsModel") (C := "GroupBitmapsModel") (T := F_MD) (N := 11) (k := 1) (q0 := 0) (ci := 3) (a := am 0) (As := [.int (nI (sNx σ p0 7))]) (rest := []) (k_ff σ τ hR (sNx σ p0 7) (by omega)) hx hb hml hown hg hK hI hA kw_565 kw_567 kp_30 kw_4 kw_568 ky_MD_freeFiles ⟨Nat.le_of_ble_eq_true rfl, Nat.le_of_ble_eq_true rfl⟩ rfl rfl (wm_0) rfl rfl hl.1 (Nat.le_of_ble_eq_true rfl) ⟨Nat.zero_le _, Nat.zero_le _⟩ d_MD_groupOfPlain_37 rfl rfl (fun H locs hI => ?_)
                  refine r_zle (a := sFr σ (2 * (sNx σ p0 7) + 1)) (tgt := 53) hx hb d_MD_groupOfPlain_40 (by decide) (by omega) (fun h3a => ?_) (fun h3a => ?_)
                  · have hn4 := sPl_step hn3 (by rw [e30]; exact sHas_1 (by omega))
                    refine lv_iconst (v := nI 2) hx hb d_MD_groupOfPlain_53 (by decide) ?_
                    refine lv_iload_n hx hb d_MD_groupOfPlain_54 rfl (lv_at hl 1 rfl) ?_
                    refine r_imul (a := 2) (b := (2 * ((2 * 1) + 1)) + 1) hx hb d_MD_groupOfPlain_55 ?_
                    refine lv_iconst (v := nI 1) hx hb d_MD_groupOfPlain_56 (by decide) ?_
                    refine r_iadd (a := 2 * ((2 * ((2 * 1) + 1)) + 1)) (b := 1) hx hb d_MD_groupOfPlain_57 ?_
                    refine lv_istore_n (lv' := [(2, .int (nI ((2 * ((2 * ((2 * 1) + 1)) + 1)) + 1))), (3, .int (nI (sNx σ p0 7))), (0, .ref (am 0)), (1, .int (nI p0))]) hx hb d_MD_groupOfPlain_58 rfl hl (by decide) rfl (fun ls hl => ?_)
                    refine lv_goto (tgt := 20) hx hb d_MD_groupOfPlain_59 (by decide) ?_
                    refine lv_iload_n hx hb d_MD_groupOfPlain_20 rfl (lv_at hl 0 rfl) ?_
                    refine lv_bipush (v := nI 8) hx hb d_MD_groupOfPlain_21 (by decide) ?_
                    refine r_ge (a := (2 * ((2 * ((2 * 1) + 1)) + 1)) + 1) (b := 8) (tgt := 62) hx hb d_MD_groupOfPlain_23 (by decide) (by omega) (by omega) (fun h9 => ?_) (fun h9 => ?_)
                    · refine lv_aload_n hx hb d_MD_groupOfPlain_62 rfl (lv_at hl 2 rfl) ?_
                      refine lv_iload_n hx hb d_MD_groupOfPlain_63 rfl (lv_at hl 3 rfl) ?_
                      refine g_callV (own := "GroupBitmapsModel") (C := "GroupBitmapsModel") (T := F_MD) (N := 11) (k := 1) (q0 := 0) (ci := 3) (a := am 0) (As := [.int (nI p0)]) (rest := []) (c_MD_firstFree σ τ hR p0 (by omega)) hx hb hml hown hg hK hI hA kw_573 kw_575 kp_32 kw_4 kw_576 ky_MD_firstFree ⟨Nat.le_of_ble_eq_true rfl, Nat.le_of_ble_eq_true rfl⟩ rfl rfl (wm_0) rfl rfl hl.1 (Nat.le_of_ble_eq_true rfl) ⟨Nat.zero_le _, Nat.zero_le _⟩ d_MD_groupOfPlain_64 rfl rfl (fun H locs hI => ?_)
                      exact g_ri hx hb hr hlk hI (by rw [sPlain, hn4]) d_MD_groupOfPlain_67
                    · exact absurd h9 (by omega)
                  · refine lv_aload_n hx hb d_MD_groupOfPlain_43 rfl (lv_at hl 2 rfl) ?_
                    refine lv_iload_n hx hb d_MD_groupOfPlain_44 rfl (lv_at hl 0 rfl) ?_
                    refine g_callV (own := "GroupBitmapsModel") (C := "GroupBitmapsModel") (T := F_MD) (N := 11) (k := 1) (q0 := 0) (ci := 3) (a := am 0) (As := [.int (nI (sNx σ p0 7))]) (rest := []) (k_fb σ τ hR (sNx σ p0 7) (by omega)) hx hb hml hown hg hK hI hA kw_517 kw_519 kp_23 kw_4 kw_520 ky_MD_freeBlocks ⟨Nat.le_of_ble_eq_true rfl, Nat.le_of_ble_eq_true rfl⟩ rfl rfl (wm_0) rfl rfl hl.1 (Nat.le_of_ble_eq_true rfl) ⟨Nat.zero_le _, Nat.zero_le _⟩ d_MD_groupOfPlain_45 rfl rfl (fun H locs hI => ?_)
                    refine r_zle (a := sFr σ (2 * (sNx σ p0 7))) (tgt := 53) hx hb d_MD_groupOfPlain_48 (by decide) (by omega) (fun h3b => ?_) (fun h3b => ?_)
                    · have hn4 := sPl_step hn3 (by rw [e30]; exact sHas_2 (by omega))
                      refine lv_iconst (v := nI 2) hx hb d_MD_groupOfPlain_53 (by decide) ?_
                      refine lv_iload_n hx hb d_MD_groupOfPlain_54 rfl (lv_at hl 1 rfl) ?_
                      refine r_imul (a := 2) (b := (2 * ((2 * 1) + 1)) + 1) hx hb d_MD_groupOfPlain_55 ?_
                      refine lv_iconst (v := nI 1) hx hb d_MD_groupOfPlain_56 (by decide) ?_
                      refine r_iadd (a := 2 * ((2 * ((2 * 1) + 1)) + 1)) (b := 1) hx hb d_MD_groupOfPlain_57 ?_
                      refine lv_istore_n (lv' := [(2, .int (nI ((2 * ((2 * ((2 * 1) + 1)) + 1)) + 1))), (3, .int (nI (sNx σ p0 7))), (0, .ref (am 0)), (1, .int (nI p0))]) hx hb d_MD_groupOfPlain_58 rfl hl (by decide) rfl (fun ls hl => ?_)
                      refine lv_goto (tgt := 20) hx hb d_MD_groupOfPlain_59 (by decide) ?_
                      refine lv_iload_n hx hb d_MD_groupOfPlain_20 rfl (lv_at hl 0 rfl) ?_
                      refine lv_bipush (v := nI 8) hx hb d_MD_groupOfPlain_21 (by decide) ?_
                      refine r_ge (a := (2 * ((2 * ((2 * 1) + 1)) + 1)) + 1) (b := 8) (tgt := 62) hx hb d_MD_groupOfPlain_23 (by decide) (by omega) (by omega) (fun h9 => ?_) (fun h9 => ?_)
                      · refine lv_aload_n hx hb d_MD_groupOfPlain_62 rfl (lv_at hl 2 rfl) ?_
                        refine lv_iload_n hx hb d_MD_groupOfPlain_63 rfl (lv_at hl 3 rfl) ?_
                        refine g_callV (own := "GroupBitmapsModel") (C := "GroupBitmapsModel") (T := F_MD) (N := 11) (k := 1) (q0 := 0) (ci := 3) (a := am 0) (As := [.int (nI p0)]) (rest := []) (c_MD_firstFree σ τ hR p0 (by omega)) hx hb hml hown hg hK hI hA kw_573 kw_575 kp_32 kw_4 kw_576 ky_MD_firstFree ⟨Nat.le_of_ble_eq_true rfl, Nat.le_of_ble_eq_true rfl⟩ rfl rfl (wm_0) rfl rfl hl.1 (Nat.le_of_ble_eq_true rfl) ⟨Nat.zero_le _, Nat.zero_le _⟩ d_MD_groupOfPlain_64 rfl rfl (fun H locs hI => ?_)
                        exact g_ri hx hb hr hlk hI (by rw [sPlain, hn4]) d_MD_groupOfPlain_67
                      · exact absurd h9 (by omega)
                    · refine lv_iload_n hx hb d_MD_groupOfPlain_51 rfl (lv_at hl 0 rfl) ?_
                      exact g_ri hx hb hr hlk hI (by rw [sPlain, sPl_some hn3 (by rw [e30]; exact sHas_3 h3a h3b) (by omega), e30]; rfl) d_MD_groupOfPlain_52
              · refine lv_iload_n hx hb d_MD_groupOfPlain_51 rfl (lv_at hl 0 rfl) ?_
                exact g_ri hx hb hr hlk hI (by rw [sPlain, sPl_some hn2 (by rw [e20]; exact sHas_3 h2a h2b) (by omega), e20]; rfl) d_MD_groupOfPlain_52
        · refine lv_iload_n hx hb d_MD_groupOfPlain_51 rfl (lv_at hl 0 rfl) ?_
          exact g_ri hx hb hr hlk hI (by rw [sPlain, sPl_some hn1 (by rw [e10]; exact sHas_3 h1a h1b) (by omega), e10]; rfl) d_MD_groupOfPlain_52
  · refine lv_aload_n hx hb d_MD_groupOfPlain_8 rfl (lv_at hl 0 rfl) ?_
    refine lv_iload_n hx hb d_MD_groupOfPlain_9 rfl (lv_at hl 1 rfl) ?_
    refine g_callV (own := "GroupBitmapsModel") (C := "GroupBitmapsModel") (T := F_MD) (N := 11) (k := 1) (q0 := 0) (ci := 3) (a := am 0) (As := [.int (nI p0)]) (rest := []) (k_fb σ τ hR (p0) (by omega)) hx hb hml hown hg hK hI hA kw_517 kw_519 kp_23 kw_4 kw_520 ky_MD_freeBlocks ⟨Nat.le_of_ble_eq_true rfl, Nat.le_of_ble_eq_true rfl⟩ rfl rfl (wm_0) rfl rfl hl.1 (Nat.le_of_ble_eq_true rfl) ⟨Nat.zero_le _, Nat.zero_le _⟩ d_MD_groupOfPlain_10 rfl rfl (fun H locs hI => ?_)
    refine r_zle (a := sFr σ (2 * p0)) (tgt := 18) hx hb d_MD_groupOfPlain_13 (by decide) (by omega) (fun h0b => ?_) (fun h0b => ?_)
    · have hn1 := sPl_step hn0 (by rw [e00]; exact sHas_2 (by omega))
      refine lv_iconst (v := nI 1) hx hb d_MD_groupOfPlain_18 (by decide) ?_
      refine lv_istore_n (lv' := [(2, .int (nI 1)), (0, .ref (am 0)), (1, .int (nI p0))]) hx hb d_MD_groupOfPlain_19 rfl hl (by decide) rfl (fun ls hl => ?_)
      refine lv_iload_n hx hb d_MD_groupOfPlain_20 rfl (lv_at hl 0 rfl) ?_
      refine lv_bipush (v := nI 8) hx hb d_MD_groupOfPlain_21 (by decide) ?_
      refine r_ge (a := 1) (b := 8) (tgt := 62) hx hb d_MD_groupOfPlain_23 (by decide) (by omega) (by omega) (fun h9 => ?_) (fun h9 => ?_)
      · exact absurd h9 (by omega)
      · have hx1 := sNx_lt hσ p0 1
        have hfa1 := (hσ.2.2.2.1 (2 * (sNx σ p0 1)) (by omega)).2
        have hfb1 := (hσ.2.2.2.1 (2 * (sNx σ p0 1) + 1) (by omega)).2
        have e10 : sNx σ p0 (pst 1) = sNx σ p0 1 := rfl
        refine lv_iload_n hx hb d_MD_groupOfPlain_26 rfl (lv_at hl 2 rfl) ?_
        refine lv_iload_n hx hb d_MD_groupOfPlain_27 rfl (lv_at hl 0 rfl) ?_
        refine r_iadd (a := p0) (b := 1) hx hb d_MD_groupOfPlain_28 ?_
        refine lv_aload_n hx hb d_MD_groupOfPlain_29 rfl (lv_at hl 1 rfl) ?_
        refine g_get (own := "GroupBitmapsModel") (C := R_MD) (T := F_MD) (N := 11) (ci := 3) (v := .int (nI (mGr τ))) hx hb hg ku_MD hown hK hI (0) (wm_0) rfl 1 (by decide) kw_471 rfl d_MD_groupOfPlain_30 ?_
        refine r_irem (a := p0 + 1) (b := mGr τ) hx hb (by omega) (by omega) (by omega) d_MD_groupOfPlain_33 ?_
        rw [show (p0 + 1) % (mGr τ) = sNx σ p0 1 from by rw [hgr]; rfl]
        refine lv_istore_n (lv' := [(3, .int (nI (sNx σ p0 1))), (2, .int (nI 1)), (0, .ref (am 0)), (1, .int (nI p0))]) hx hb d_MD_groupOfPlain_34 rfl hl (by decide) rfl (fun ls hl => ?_)
        refine lv_aload_n hx hb d_MD_groupOfPlain_35 rfl (lv_at hl 2 rfl) ?_
        refine lv_iload_n hx hb d_MD_groupOfPlain_36 rfl (lv_at hl 0 rfl) ?_
        refine g_callV (own := "GroupBitmapsModel") (C := "GroupBitmapsModel") (T := F_MD) (N := 11) (k := 1) (q0 := 0) (ci := 3) (a := am 0) (As := [.int (nI (sNx σ p0 1))]) (rest := []) (k_ff σ τ hR (sNx σ p0 1) (by omega)) hx hb hml hown hg hK hI hA kw_565 kw_567 kp_30 kw_4 kw_568 ky_MD_freeFiles ⟨Nat.le_of_ble_eq_true rfl, Nat.le_of_ble_eq_true rfl⟩ rfl rfl (wm_0) rfl rfl hl.1 (Nat.le_of_ble_eq_true rfl) ⟨Nat.zero_le _, Nat.zero_le _⟩ d_MD_groupOfPlain_37 rfl rfl (fun H locs hI => ?_)
        refine r_zle (a := sFr σ (2 * (sNx σ p0 1) + 1)) (tgt := 53) hx hb d_MD_groupOfPlain_40 (by decide) (by omega) (fun h1a => ?_) (fun h1a => ?_)
        · have hn2 := sPl_step hn1 (by rw [e10]; exact sHas_1 (by omega))
          refine lv_iconst (v := nI 2) hx hb d_MD_groupOfPlain_53 (by decide) ?_
          refine lv_iload_n hx hb d_MD_groupOfPlain_54 rfl (lv_at hl 1 rfl) ?_
          refine r_imul (a := 2) (b := 1) hx hb d_MD_groupOfPlain_55 ?_
          refine lv_iconst (v := nI 1) hx hb d_MD_groupOfPlain_56 (by decide) ?_
          refine r_iadd (a := 2 * 1) (b := 1) hx hb d_MD_groupOfPlain_57 ?_
          refine lv_istore_n (lv' := [(2, .int (nI ((2 * 1) + 1))), (3, .int (nI (sNx σ p0 1))), (0, .ref (am 0)), (1, .int (nI p0))]) hx hb d_MD_groupOfPlain_58 rfl hl (by decide) rfl (fun ls hl => ?_)
          refine lv_goto (tgt := 20) hx hb d_MD_groupOfPlain_59 (by decide) ?_
          refine lv_iload_n hx hb d_MD_groupOfPlain_20 rfl (lv_at hl 0 rfl) ?_
          refine lv_bipush (v := nI 8) hx hb d_MD_groupOfPlain_21 (by decide) ?_
          refine r_ge (a := (2 * 1) + 1) (b := 8) (tgt := 62) hx hb d_MD_groupOfPlain_23 (by decide) (by omega) (by omega) (fun h9 => ?_) (fun h9 => ?_)
          · exact absurd h9 (by omega)
          · have hx3 := sNx_lt hσ p0 3
            have hfa3 := (hσ.2.2.2.1 (2 * (sNx σ p0 3)) (by omega)).2
            have hfb3 := (hσ.2.2.2.1 (2 * (sNx σ p0 3) + 1) (by omega)).2
            have e20 : sNx σ p0 (pst 2) = sNx σ p0 3 := rfl
            refine lv_iload_n hx hb d_MD_groupOfPlain_26 rfl (lv_at hl 3 rfl) ?_
            refine lv_iload_n hx hb d_MD_groupOfPlain_27 rfl (lv_at hl 0 rfl) ?_
            refine r_iadd (a := p0) (b := (2 * 1) + 1) hx hb d_MD_groupOfPlain_28 ?_
            refine lv_aload_n hx hb d_MD_groupOfPlain_29 rfl (lv_at hl 2 rfl) ?_
            refine g_get (own := "GroupBitmapsModel") (C := R_MD) (T := F_MD) (N := 11) (ci := 3) (v := .int (nI (mGr τ))) hx hb hg ku_MD hown hK hI (0) (wm_0) rfl 1 (by decide) kw_471 rfl d_MD_groupOfPlain_30 ?_
            refine r_irem (a := p0 + ((2 * 1) + 1)) (b := mGr τ) hx hb (by omega) (by omega) (by omega) d_MD_groupOfPlain_33 ?_
            rw [show (p0 + ((2 * 1) + 1)) % (mGr τ) = sNx σ p0 3 from by rw [hgr]; rfl]
            refine lv_istore_n (lv' := [(3, .int (nI (sNx σ p0 3))), (2, .int (nI ((2 * 1) + 1))), (0, .ref (am 0)), (1, .int (nI p0))]) hx hb d_MD_groupOfPlain_34 rfl hl (by decide) rfl (fun ls hl => ?_)
            refine lv_aload_n hx hb d_MD_groupOfPlain_35 rfl (lv_at hl 2 rfl) ?_
            refine lv_iload_n hx hb d_MD_groupOfPlain_36 rfl (lv_at hl 0 rfl) ?_
            refine g_callV (own := "GroupBitmapsModel") (C := "GroupBitmapsModel") (T := F_MD) (N := 11) (k := 1) (q0 := 0) (ci := 3) (a := am 0) (As := [.int (nI (sNx σ p0 3))]) (rest := []) (k_ff σ τ hR (sNx σ p0 3) (by omega)) hx hb hml hown hg hK hI hA kw_565 kw_567 kp_30 kw_4 kw_568 ky_MD_freeFiles ⟨Nat.le_of_ble_eq_true rfl, Nat.le_of_ble_eq_true rfl⟩ rfl rfl (wm_0) rfl rfl hl.1 (Nat.le_of_ble_eq_true rfl) ⟨Nat.zero_le _, Nat.zero_le _⟩ d_MD_groupOfPlain_37 rfl rfl (fun H locs hI => ?_)
            refine r_zle (a := sFr σ (2 * (sNx σ p0 3) + 1)) (tgt := 53) hx hb d_MD_groupOfPlain_40 (by decide) (by omega) (fun h2a => ?_) (fun h2a => ?_)
            · have hn3 := sPl_step hn2 (by rw [e20]; exact sHas_1 (by omega))
              refine lv_iconst (v := nI 2) hx hb d_MD_groupOfPlain_53 (by decide) ?_
              refine lv_iload_n hx hb d_MD_groupOfPlain_54 rfl (lv_at hl 1 rfl) ?_
              refine r_imul (a := 2) (b := (2 * 1) + 1) hx hb d_MD_groupOfPlain_55 ?_
              refine lv_iconst (v := nI 1) hx hb d_MD_groupOfPlain_56 (by decide) ?_
              refine r_iadd (a := 2 * ((2 * 1) + 1)) (b := 1) hx hb d_MD_groupOfPlain_57 ?_
              refine lv_istore_n (lv' := [(2, .int (nI ((2 * ((2 * 1) + 1)) + 1))), (3, .int (nI (sNx σ p0 3))), (0, .ref (am 0)), (1, .int (nI p0))]) hx hb d_MD_groupOfPlain_58 rfl hl (by decide) rfl (fun ls hl => ?_)
              refine lv_goto (tgt := 20) hx hb d_MD_groupOfPlain_59 (by decide) ?_
              refine lv_iload_n hx hb d_MD_groupOfPlain_20 rfl (lv_at hl 0 rfl) ?_
              refine lv_bipush (v := nI 8) hx hb d_MD_groupOfPlain_21 (by decide) ?_
              refine r_ge (a := (2 * ((2 * 1) + 1)) + 1) (b := 8) (tgt := 62) hx hb d_MD_groupOfPlain_23 (by decide) (by omega) (by omega) (fun h9 => ?_) (fun h9 => ?_)
              · exact absurd h9 (by omega)
              · have hx7 := sNx_lt hσ p0 7
                have hfa7 := (hσ.2.2.2.1 (2 * (sNx σ p0 7)) (by omega)).2
                have hfb7 := (hσ.2.2.2.1 (2 * (sNx σ p0 7) + 1) (by omega)).2
                have e30 : sNx σ p0 (pst 3) = sNx σ p0 7 := rfl
                refine lv_iload_n hx hb d_MD_groupOfPlain_26 rfl (lv_at hl 3 rfl) ?_
                refine lv_iload_n hx hb d_MD_groupOfPlain_27 rfl (lv_at hl 0 rfl) ?_
                refine r_iadd (a := p0) (b := (2 * ((2 * 1) + 1)) + 1) hx hb d_MD_groupOfPlain_28 ?_
                refine lv_aload_n hx hb d_MD_groupOfPlain_29 rfl (lv_at hl 2 rfl) ?_
                refine g_get (own := "GroupBitmapsModel") (C := R_MD) (T := F_MD) (N := 11) (ci := 3) (v := .int (nI (mGr τ))) hx hb hg ku_MD hown hK hI (0) (wm_0) rfl 1 (by decide) kw_471 rfl d_MD_groupOfPlain_30 ?_
                refine r_irem (a := p0 + ((2 * ((2 * 1) + 1)) + 1)) (b := mGr τ) hx hb (by omega) (by omega) (by omega) d_MD_groupOfPlain_33 ?_
                rw [show (p0 + ((2 * ((2 * 1) + 1)) + 1)) % (mGr τ) = sNx σ p0 7 from by rw [hgr]; rfl]
                refine lv_istore_n (lv' := [(3, .int (nI (sNx σ p0 7))), (2, .int (nI ((2 * ((2 * 1) + 1)) + 1))), (0, .ref (am 0)), (1, .int (nI p0))]) hx hb d_MD_groupOfPlain_34 rfl hl (by decide) rfl (fun ls hl => ?_)
                refine lv_aload_n hx hb d_MD_groupOfPlain_35 rfl (lv_at hl 2 rfl) ?_
                refine lv_iload_n hx hb d_MD_groupOfPlain_36 rfl (lv_at hl 0 rfl) ?_
                refine g_callV (own := "GroupBitmapsModel") (C := "GroupBitmapsModel") (T := F_MD) (N := 11) (k := 1) (q0 := 0) (ci := 3) (a := am 0) (As := [.int (nI (sNx σ p0 7))]) (rest := []) (k_ff σ τ hR (sNx σ p0 7) (by omega)) hx hb hml hown hg hK hI hA kw_565 kw_567 kp_30 kw_4 kw_568 ky_MD_freeFiles ⟨Nat.le_of_ble_eq_true rfl, Nat.le_of_ble_eq_true rfl⟩ rfl rfl (wm_0) rfl rfl hl.1 (Nat.le_of_ble_eq_true rfl) ⟨Nat.zero_le _, Nat.zero_le _⟩ d_MD_groupOfPlain_37 rfl rfl (fun H locs hI => ?_)
                refine r_zle (a := sFr σ (2 * (sNx σ p0 7) + 1)) (tgt := 53) hx hb d_MD_groupOfPlain_40 (by decide) (by omega) (fun h3a => ?_) (fun h3a => ?_)
                · have hn4 := sPl_step hn3 (by rw [e30]; exact sHas_1 (by omega))
                  refine lv_iconst (v := nI 2) hx hb d_MD_groupOfPlain_53 (by decide) ?_
                  refine lv_iload_n hx hb d_MD_groupOfPlain_54 rfl (lv_at hl 1 rfl) ?_
                  refine r_imul (a := 2) (b := (2 * ((2 * 1) + 1)) + 1) hx hb d_MD_groupOfPlain_55 ?_
                  refine lv_iconst (v := nI 1) hx hb d_MD_groupOfPlain_56 (by decide) ?_
                  refine r_iadd (a := 2 * ((2 * ((2 * 1) + 1)) + 1)) (b := 1) hx hb d_MD_groupOfPlain_57 ?_
                  refine lv_istore_n (lv' := [(2, .int (nI ((2 * ((2 * ((2 * 1) + 1)) + 1)) + 1))), (3, .int (nI (sNx σ p0 7))), (0, .ref (am 0)), (1, .int (nI p0))]) hx hb d_MD_groupOfPlain_58 rfl hl (by decide) rfl (fun ls hl => ?_)
                  refine lv_goto (tgt := 20) hx hb d_MD_groupOfPlain_59 (by decide) ?_
                  refine lv_iload_n hx hb d_MD_groupOfPlain_20 rfl (lv_at hl 0 rfl) ?_
                  refine lv_bipush (v := nI 8) hx hb d_MD_groupOfPlain_21 (by decide) ?_
                  refine r_ge (a := (2 * ((2 * ((2 * 1) + 1)) + 1)) + 1) (b := 8) (tgt := 62) hx hb d_MD_groupOfPlain_23 (by decide) (by omega) (by omega) (fun h9 => ?_) (fun h9 => ?_)
                  · refine lv_aload_n hx hb d_MD_groupOfPlain_62 rfl (lv_at hl 2 rfl) ?_
                    refine lv_iload_n hx hb d_MD_groupOfPlain_63 rfl (lv_at hl 3 rfl) ?_
                    refine g_callV (own := "GroupBitmapsModel") (C := "GroupBitmapsModel") (T := F_MD) (N := 11) (k := 1) (q0 := 0) (ci := 3) (a := am 0) (As := [.int (nI p0)]) (rest := []) (c_MD_firstFree σ τ hR p0 (by omega)) hx hb hml hown hg hK hI hA kw_573 kw_575 kp_32 kw_4 kw_576 ky_MD_firstFree ⟨Nat.le_of_ble_eq_true rfl, Nat.le_of_ble_eq_true rfl⟩ rfl rfl (wm_0) rfl rfl hl.1 (Nat.le_of_ble_eq_true rfl) ⟨Nat.zero_le _, Nat.zero_le _⟩ d_MD_groupOfPlain_64 rfl rfl (fun H locs hI => ?_)
                    exact g_ri hx hb hr hlk hI (by rw [sPlain, hn4]) d_MD_groupOfPlain_67
                  · exact absurd h9 (by omega)
                · refine lv_aload_n hx hb d_MD_groupOfPlain_43 rfl (lv_at hl 2 rfl) ?_
                  refine lv_iload_n hx hb d_MD_groupOfPlain_44 rfl (lv_at hl 0 rfl) ?_
                  refine g_callV (own := "GroupBitmapsModel") (C := "GroupBitmapsModel") (T := F_MD) (N := 11) (k := 1) (q0 := 0) (ci := 3) (a := am 0) (As := [.int (nI (sNx σ p0 7))]) (rest := []) (k_fb σ τ hR (sNx σ p0 7) (by omega)) hx hb hml hown hg hK hI hA kw_517 kw_519 kp_23 kw_4 kw_520 ky_MD_freeBlocks ⟨Nat.le_of_ble_eq_true rfl, Nat.le_of_ble_eq_true rfl⟩ rfl rfl (wm_0) rfl rfl hl.1 (Nat.le_of_ble_eq_true rfl) ⟨Nat.zero_le _, Nat.zero_le _⟩ d_MD_groupOfPlain_45 rfl rfl (fun H locs hI => ?_)
                  refine r_zle (a := sFr σ (2 * (sNx σ p0 7))) (tgt := 53) hx hb d_MD_groupOfPlain_48 (by decide) (by omega) (fun h3b => ?_) (fun h3b => ?_)
                  · have hn4 := sPl_step hn3 (by rw [e30]; exact sHas_2 (by omega))
                    refine lv_iconst (v := nI 2) hx hb d_MD_groupOfPlain_53 (by decide) ?_
                    refine lv_iload_n hx hb d_MD_groupOfPlain_54 rfl (lv_at hl 1 rfl) ?_
                    refine r_imul (a := 2) (b := (2 * ((2 * 1) + 1)) + 1) hx hb d_MD_groupOfPlain_55 ?_
                    refine lv_iconst (v := nI 1) hx hb d_MD_groupOfPlain_56 (by decide) ?_
                    refine r_iadd (a := 2 * ((2 * ((2 * 1) + 1)) + 1)) (b := 1) hx hb d_MD_groupOfPlain_57 ?_
                    refine lv_istore_n (lv' := [(2, .int (nI ((2 * ((2 * ((2 * 1) + 1)) + 1)) + 1))), (3, .int (nI (sNx σ p0 7))), (0, .ref (am 0)), (1, .int (nI p0))]) hx hb d_MD_groupOfPlain_58 rfl hl (by decide) rfl (fun ls hl => ?_)
                    refine lv_goto (tgt := 20) hx hb d_MD_groupOfPlain_59 (by decide) ?_
                    refine lv_iload_n hx hb d_MD_groupOfPlain_20 rfl (lv_at hl 0 rfl) ?_
                    refine lv_bipush (v := nI 8) hx hb d_MD_groupOfPlain_21 (by decide) ?_
                    refine r_ge (a := (2 * ((2 * ((2 * 1) + 1)) + 1)) + 1) (b := 8) (tgt := 62) hx hb d_MD_groupOfPlain_23 (by decide) (by omega) (by omega) (fun h9 => ?_) (fun h9 => ?_)
                    · refine lv_aload_n hx hb d_MD_groupOfPlain_62 rfl (lv_at hl 2 rfl) ?_
                      refine lv_iload_n hx hb d_MD_groupOfPlain_63 rfl (lv_at hl 3 rfl) ?_
                      refine g_callV (own := "GroupBitmapsModel") (C := "GroupBitmapsModel") (T := F_MD) (N := 11) (k := 1) (q0 := 0) (ci := 3) (a := am 0) (As := [.int (nI p0)]) (rest := []) (c_MD_firstFree σ τ hR p0 (by omega)) hx hb hml hown hg hK hI hA kw_573 kw_575 kp_32 kw_4 kw_576 ky_MD_firstFree ⟨Nat.le_of_ble_eq_true rfl, Nat.le_of_ble_eq_true rfl⟩ rfl rfl (wm_0) rfl rfl hl.1 (Nat.le_of_ble_eq_true rfl) ⟨Nat.zero_le _, Nat.zero_le _⟩ d_MD_groupOfPlain_64 rfl rfl (fun H locs hI => ?_)
                      exact g_ri hx hb hr hlk hI (by rw [sPlain, hn4]) d_MD_groupOfPlain_67
                    · exact absurd h9 (by omega)
                  · refine lv_iload_n hx hb d_MD_groupOfPlain_51 rfl (lv_at hl 0 rfl) ?_
                    exact g_ri hx hb hr hlk hI (by rw [sPlain, sPl_some hn3 (by rw [e30]; exact sHas_3 h3a h3b) (by omega), e30]; rfl) d_MD_groupOfPlain_52
            · refine lv_aload_n hx hb d_MD_groupOfPlain_43 rfl (lv_at hl 2 rfl) ?_
              refine lv_iload_n hx hb d_MD_groupOfPlain_44 rfl (lv_at hl 0 rfl) ?_
              refine g_callV (own := "GroupBitmapsModel") (C := "GroupBitmapsModel") (T := F_MD) (N := 11) (k := 1) (q0 := 0) (ci := 3) (a := am 0) (As := [.int (nI (sNx σ p0 3))]) (rest := []) (k_fb σ τ hR (sNx σ p0 3) (by omega)) hx hb hml hown hg hK hI hA kw_517 kw_519 kp_23 kw_4 kw_520 ky_MD_freeBlocks ⟨Nat.le_of_ble_eq_true rfl, Nat.le_of_ble_eq_true rfl⟩ rfl rfl (wm_0) rfl rfl hl.1 (Nat.le_of_ble_eq_true rfl) ⟨Nat.zero_le _, Nat.zero_le _⟩ d_MD_groupOfPlain_45 rfl rfl (fun H locs hI => ?_)
              refine r_zle (a := sFr σ (2 * (sNx σ p0 3))) (tgt := 53) hx hb d_MD_groupOfPlain_48 (by decide) (by omega) (fun h2b => ?_) (fun h2b => ?_)
              · have hn3 := sPl_step hn2 (by rw [e20]; exact sHas_2 (by omega))
                refine lv_iconst (v := nI 2) hx hb d_MD_groupOfPlain_53 (by decide) ?_
                refine lv_iload_n hx hb d_MD_groupOfPlain_54 rfl (lv_at hl 1 rfl) ?_
                refine r_imul (a := 2) (b := (2 * 1) + 1) hx hb d_MD_groupOfPlain_55 ?_
                refine lv_iconst (v := nI 1) hx hb d_MD_groupOfPlain_56 (by decide) ?_
                refine r_iadd (a := 2 * ((2 * 1) + 1)) (b := 1) hx hb d_MD_groupOfPlain_57 ?_
                refine lv_istore_n (lv' := [(2, .int (nI ((2 * ((2 * 1) + 1)) + 1))), (3, .int (nI (sNx σ p0 3))), (0, .ref (am 0)), (1, .int (nI p0))]) hx hb d_MD_groupOfPlain_58 rfl hl (by decide) rfl (fun ls hl => ?_)
                refine lv_goto (tgt := 20) hx hb d_MD_groupOfPlain_59 (by decide) ?_
                refine lv_iload_n hx hb d_MD_groupOfPlain_20 rfl (lv_at hl 0 rfl) ?_
                refine lv_bipush (v := nI 8) hx hb d_MD_groupOfPlain_21 (by decide) ?_
                refine r_ge (a := (2 * ((2 * 1) + 1)) + 1) (b := 8) (tgt := 62) hx hb d_MD_groupOfPlain_23 (by decide) (by omega) (by omega) (fun h9 => ?_) (fun h9 => ?_)
                · exact absurd h9 (by omega)
                · have hx7 := sNx_lt hσ p0 7
                  have hfa7 := (hσ.2.2.2.1 (2 * (sNx σ p0 7)) (by omega)).2
                  have hfb7 := (hσ.2.2.2.1 (2 * (sNx σ p0 7) + 1) (by omega)).2
                  have e30 : sNx σ p0 (pst 3) = sNx σ p0 7 := rfl
                  refine lv_iload_n hx hb d_MD_groupOfPlain_26 rfl (lv_at hl 3 rfl) ?_
                  refine lv_iload_n hx hb d_MD_groupOfPlain_27 rfl (lv_at hl 0 rfl) ?_
                  refine r_iadd (a := p0) (b := (2 * ((2 * 1) + 1)) + 1) hx hb d_MD_groupOfPlain_28 ?_
                  refine lv_aload_n hx hb d_MD_groupOfPlain_29 rfl (lv_at hl 2 rfl) ?_
                  refine g_get (own := "GroupBitmapsModel") (C := R_MD) (T := F_MD) (N := 11) (ci := 3) (v := .int (nI (mGr τ))) hx hb hg ku_MD hown hK hI (0) (wm_0) rfl 1 (by decide) kw_471 rfl d_MD_groupOfPlain_30 ?_
                  refine r_irem (a := p0 + ((2 * ((2 * 1) + 1)) + 1)) (b := mGr τ) hx hb (by omega) (by omega) (by omega) d_MD_groupOfPlain_33 ?_
                  rw [show (p0 + ((2 * ((2 * 1) + 1)) + 1)) % (mGr τ) = sNx σ p0 7 from by rw [hgr]; rfl]
                  refine lv_istore_n (lv' := [(3, .int (nI (sNx σ p0 7))), (2, .int (nI ((2 * ((2 * 1) + 1)) + 1))), (0, .ref (am 0)), (1, .int (nI p0))]) hx hb d_MD_groupOfPlain_34 rfl hl (by decide) rfl (fun ls hl => ?_)
                  refine lv_aload_n hx hb d_MD_groupOfPlain_35 rfl (lv_at hl 2 rfl) ?_
                  refine lv_iload_n hx hb d_MD_groupOfPlain_36 rfl (lv_at hl 0 rfl) ?_
                  refine g_callV (own := "GroupBitmapsModel") (C := "GroupBitmapsModel") (T := F_MD) (N := 11) (k := 1) (q0 := 0) (ci := 3) (a := am 0) (As := [.int (nI (sNx σ p0 7))]) (rest := []) (k_ff σ τ hR (sNx σ p0 7) (by omega)) hx hb hml hown hg hK hI hA kw_565 kw_567 kp_30 kw_4 kw_568 ky_MD_freeFiles ⟨Nat.le_of_ble_eq_true rfl, Nat.le_of_ble_eq_true rfl⟩ rfl rfl (wm_0) rfl rfl hl.1 (Nat.le_of_ble_eq_true rfl) ⟨Nat.zero_le _, Nat.zero_le _⟩ d_MD_groupOfPlain_37 rfl rfl (fun H locs hI => ?_)
                  refine r_zle (a := sFr σ (2 * (sNx σ p0 7) + 1)) (tgt := 53) hx hb d_MD_groupOfPlain_40 (by decide) (by omega) (fun h3a => ?_) (fun h3a => ?_)
                  · have hn4 := sPl_step hn3 (by rw [e30]; exact sHas_1 (by omega))
                    refine lv_iconst (v := nI 2) hx hb d_MD_groupOfPlain_53 (by decide) ?_
                    refine lv_iload_n hx hb d_MD_groupOfPlain_54 rfl (lv_at hl 1 rfl) ?_
                    refine r_imul (a := 2) (b := (2 * ((2 * 1) + 1)) + 1) hx hb d_MD_groupOfPlain_55 ?_
                    refine lv_iconst (v := nI 1) hx hb d_MD_groupOfPlain_56 (by decide) ?_
                    refine r_iadd (a := 2 * ((2 * ((2 * 1) + 1)) + 1)) (b := 1) hx hb d_MD_groupOfPlain_57 ?_
                    refine lv_istore_n (lv' := [(2, .int (nI ((2 * ((2 * ((2 * 1) + 1)) + 1)) + 1))), (3, .int (nI (sNx σ p0 7))), (0, .ref (am 0)), (1, .int (nI p0))]) hx hb d_MD_groupOfPlain_58 rfl hl (by decide) rfl (fun ls hl => ?_)
                    refine lv_goto (tgt := 20) hx hb d_MD_groupOfPlain_59 (by decide) ?_
                    refine lv_iload_n hx hb d_MD_groupOfPlain_20 rfl (lv_at hl 0 rfl) ?_
                    refine lv_bipush (v := nI 8) hx hb d_MD_groupOfPlain_21 (by decide) ?_
                    refine r_ge (a := (2 * ((2 * ((2 * 1) + 1)) + 1)) + 1) (b := 8) (tgt := 62) hx hb d_MD_groupOfPlain_23 (by decide) (by omega) (by omega) (fun h9 => ?_) (fun h9 => ?_)
                    · refine lv_aload_n hx hb d_MD_groupOfPlain_62 rfl (lv_at hl 2 rfl) ?_
                      refine lv_iload_n hx hb d_MD_groupOfPlain_63 rfl (lv_at hl 3 rfl) ?_
                      refine g_callV (own := "GroupBitmapsModel") (C := "GroupBitmapsModel") (T := F_MD) (N := 11) (k := 1) (q0 := 0) (ci := 3) (a := am 0) (As := [.int (nI p0)]) (rest := []) (c_MD_firstFree σ τ hR p0 (by omega)) hx hb hml hown hg hK hI hA kw_573 kw_575 kp_32 kw_4 kw_576 ky_MD_firstFree ⟨Nat.le_of_ble_eq_true rfl, Nat.le_of_ble_eq_true rfl⟩ rfl rfl (wm_0) rfl rfl hl.1 (Nat.le_of_ble_eq_true rfl) ⟨Nat.zero_le _, Nat.zero_le _⟩ d_MD_groupOfPlain_64 rfl rfl (fun H locs hI => ?_)
                      exact g_ri hx hb hr hlk hI (by rw [sPlain, hn4]) d_MD_groupOfPlain_67
                    · exact absurd h9 (by omega)
                  · refine lv_aload_n hx hb d_MD_groupOfPlain_43 rfl (lv_at hl 2 rfl) ?_
                    refine lv_iload_n hx hb d_MD_groupOfPlain_44 rfl (lv_at hl 0 rfl) ?_
                    refine g_callV (own := "GroupBitmapsModel") (C := "GroupBitmapsModel") (T := F_MD) (N := 11) (k := 1) (q0 := 0) (ci := 3) (a := am 0) (As := [.int (nI (sNx σ p0 7))]) (rest := []) (k_fb σ τ hR (sNx σ p0 7) (by omega)) hx hb hml hown hg hK hI hA kw_517 kw_519 kp_23 kw_4 kw_520 ky_MD_freeBlocks ⟨Nat.le_of_ble_eq_true rfl, Nat.le_of_ble_eq_true rfl⟩ rfl rfl (wm_0) rfl rfl hl.1 (Nat.le_of_ble_eq_true rfl) ⟨Nat.zero_le _, Nat.zero_le _⟩ d_MD_groupOfPlain_45 rfl rfl (fun H locs hI => ?_)
                    refine r_zle (a := sFr σ (2 * (sNx σ p0 7))) (tgt := 53) hx hb d_MD_groupOfPlain_48 (by decide) (by omega) (fun h3b => ?_) (fun h3b => ?_)
                    · have hn4 := sPl_step hn3 (by rw [e30]; exact sHas_2 (by omega))
                      refine lv_iconst (v := nI 2) hx hb d_MD_groupOfPlain_53 (by decide) ?_
                      refine lv_iload_n hx hb d_MD_groupOfPlain_54 rfl (lv_at hl 1 rfl) ?_
                      refine r_imul (a := 2) (b := (2 * ((2 * 1) + 1)) + 1) hx hb d_MD_groupOfPlain_55 ?_
                      refine lv_iconst (v := nI 1) hx hb d_MD_groupOfPlain_56 (by decide) ?_
                      refine r_iadd (a := 2 * ((2 * ((2 * 1) + 1)) + 1)) (b := 1) hx hb d_MD_groupOfPlain_57 ?_
                      refine lv_istore_n (lv' := [(2, .int (nI ((2 * ((2 * ((2 * 1) + 1)) + 1)) + 1))), (3, .int (nI (sNx σ p0 7))), (0, .ref (am 0)), (1, .int (nI p0))]) hx hb d_MD_groupOfPlain_58 rfl hl (by decide) rfl (fun ls hl => ?_)
                      refine lv_goto (tgt := 20) hx hb d_MD_groupOfPlain_59 (by decide) ?_
                      refine lv_iload_n hx hb d_MD_groupOfPlain_20 rfl (lv_at hl 0 rfl) ?_
                      refine lv_bipush (v := nI 8) hx hb d_MD_groupOfPlain_21 (by decide) ?_
                      refine r_ge (a := (2 * ((2 * ((2 * 1) + 1)) + 1)) + 1) (b := 8) (tgt := 62) hx hb d_MD_groupOfPlain_23 (by decide) (by omega) (by omega) (fun h9 => ?_) (fun h9 => ?_)
                      · refine lv_aload_n hx hb d_MD_groupOfPlain_62 rfl (lv_at hl 2 rfl) ?_
                        refine lv_iload_n hx hb d_MD_groupOfPlain_63 rfl (lv_at hl 3 rfl) ?_
                        refine g_callV (own := "GroupBitmapsModel") (C := "GroupBitmapsModel") (T := F_MD) (N := 11) (k := 1) (q0 := 0) (ci := 3) (a := am 0) (As := [.int (nI p0)]) (rest := []) (c_MD_firstFree σ τ hR p0 (by omega)) hx hb hml hown hg hK hI hA kw_573 kw_575 kp_32 kw_4 kw_576 ky_MD_firstFree ⟨Nat.le_of_ble_eq_true rfl, Nat.le_of_ble_eq_true rfl⟩ rfl rfl (wm_0) rfl rfl hl.1 (Nat.le_of_ble_eq_true rfl) ⟨Nat.zero_le _, Nat.zero_le _⟩ d_MD_groupOfPlain_64 rfl rfl (fun H locs hI => ?_)
                        exact g_ri hx hb hr hlk hI (by rw [sPlain, hn4]) d_MD_groupOfPlain_67
                      · exact absurd h9 (by omega)
                    · refine lv_iload_n hx hb d_MD_groupOfPlain_51 rfl (lv_at hl 0 rfl) ?_
                      exact g_ri hx hb hr hlk hI (by rw [sPlain, sPl_some hn3 (by rw [e30]; exact sHas_3 h3a h3b) (by omega), e30]; rfl) d_MD_groupOfPlain_52
              · refine lv_iload_n hx hb d_MD_groupOfPlain_51 rfl (lv_at hl 0 rfl) ?_
                exact g_ri hx hb hr hlk hI (by rw [sPlain, sPl_some hn2 (by rw [e20]; exact sHas_3 h2a h2b) (by omega), e20]; rfl) d_MD_groupOfPlain_52
        · refine lv_aload_n hx hb d_MD_groupOfPlain_43 rfl (lv_at hl 2 rfl) ?_
          refine lv_iload_n hx hb d_MD_groupOfPlain_44 rfl (lv_at hl 0 rfl) ?_
          refine g_callV (own := "GroupBitmapsModel") (C := "GroupBitmapsModel") (T := F_MD) (N := 11) (k := 1) (q0 := 0) (ci := 3) (a := am 0) (As := [.int (nI (sNx σ p0 1))]) (rest := []) (k_fb σ τ hR (sNx σ p0 1) (by omega)) hx hb hml hown hg hK hI hA kw_517 kw_519 kp_23 kw_4 kw_520 ky_MD_freeBlocks ⟨Nat.le_of_ble_eq_true rfl, Nat.le_of_ble_eq_true rfl⟩ rfl rfl (wm_0) rfl rfl hl.1 (Nat.le_of_ble_eq_true rfl) ⟨Nat.zero_le _, Nat.zero_le _⟩ d_MD_groupOfPlain_45 rfl rfl (fun H locs hI => ?_)
          refine r_zle (a := sFr σ (2 * (sNx σ p0 1))) (tgt := 53) hx hb d_MD_groupOfPlain_48 (by decide) (by omega) (fun h1b => ?_) (fun h1b => ?_)
          · have hn2 := sPl_step hn1 (by rw [e10]; exact sHas_2 (by omega))
            refine lv_iconst (v := nI 2) hx hb d_MD_groupOfPlain_53 (by decide) ?_
            refine lv_iload_n hx hb d_MD_groupOfPlain_54 rfl (lv_at hl 1 rfl) ?_
            refine r_imul (a := 2) (b := 1) hx hb d_MD_groupOfPlain_55 ?_
            refine lv_iconst (v := nI 1) hx hb d_MD_groupOfPlain_56 (by decide) ?_
            refine r_iadd (a := 2 * 1) (b := 1) hx hb d_MD_groupOfPlain_57 ?_
            refine lv_istore_n (lv' := [(2, .int (nI ((2 * 1) + 1))), (3, .int (nI (sNx σ p0 1))), (0, .ref (am 0)), (1, .int (nI p0))]) hx hb d_MD_groupOfPlain_58 rfl hl (by decide) rfl (fun ls hl => ?_)
            refine lv_goto (tgt := 20) hx hb d_MD_groupOfPlain_59 (by decide) ?_
            refine lv_iload_n hx hb d_MD_groupOfPlain_20 rfl (lv_at hl 0 rfl) ?_
            refine lv_bipush (v := nI 8) hx hb d_MD_groupOfPlain_21 (by decide) ?_
            refine r_ge (a := (2 * 1) + 1) (b := 8) (tgt := 62) hx hb d_MD_groupOfPlain_23 (by decide) (by omega) (by omega) (fun h9 => ?_) (fun h9 => ?_)
            · exact absurd h9 (by omega)
            · have hx3 := sNx_lt hσ p0 3
              have hfa3 := (hσ.2.2.2.1 (2 * (sNx σ p0 3)) (by omega)).2
              have hfb3 := (hσ.2.2.2.1 (2 * (sNx σ p0 3) + 1) (by omega)).2
              have e20 : sNx σ p0 (pst 2) = sNx σ p0 3 := rfl
              refine lv_iload_n hx hb d_MD_groupOfPlain_26 rfl (lv_at hl 3 rfl) ?_
              refine lv_iload_n hx hb d_MD_groupOfPlain_27 rfl (lv_at hl 0 rfl) ?_
              refine r_iadd (a := p0) (b := (2 * 1) + 1) hx hb d_MD_groupOfPlain_28 ?_
              refine lv_aload_n hx hb d_MD_groupOfPlain_29 rfl (lv_at hl 2 rfl) ?_
              refine g_get (own := "GroupBitmapsModel") (C := R_MD) (T := F_MD) (N := 11) (ci := 3) (v := .int (nI (mGr τ))) hx hb hg ku_MD hown hK hI (0) (wm_0) rfl 1 (by decide) kw_471 rfl d_MD_groupOfPlain_30 ?_
              refine r_irem (a := p0 + ((2 * 1) + 1)) (b := mGr τ) hx hb (by omega) (by omega) (by omega) d_MD_groupOfPlain_33 ?_
              rw [show (p0 + ((2 * 1) + 1)) % (mGr τ) = sNx σ p0 3 from by rw [hgr]; rfl]
              refine lv_istore_n (lv' := [(3, .int (nI (sNx σ p0 3))), (2, .int (nI ((2 * 1) + 1))), (0, .ref (am 0)), (1, .int (nI p0))]) hx hb d_MD_groupOfPlain_34 rfl hl (by decide) rfl (fun ls hl => ?_)
              refine lv_aload_n hx hb d_MD_groupOfPlain_35 rfl (lv_at hl 2 rfl) ?_
              refine lv_iload_n hx hb d_MD_groupOfPlain_36 rfl (lv_at hl 0 rfl) ?_
              refine g_callV (own := "GroupBitmapsModel") (C := "GroupBitmapsModel") (T := F_MD) (N := 11) (k := 1) (q0 := 0) (ci := 3) (a := am 0) (As := [.int (nI (sNx σ p0 3))]) (rest := []) (k_ff σ τ hR (sNx σ p0 3) (by omega)) hx hb hml hown hg hK hI hA kw_565 kw_567 kp_30 kw_4 kw_568 ky_MD_freeFiles ⟨Nat.le_of_ble_eq_true rfl, Nat.le_of_ble_eq_true rfl⟩ rfl rfl (wm_0) rfl rfl hl.1 (Nat.le_of_ble_eq_true rfl) ⟨Nat.zero_le _, Nat.zero_le _⟩ d_MD_groupOfPlain_37 rfl rfl (fun H locs hI => ?_)
              refine r_zle (a := sFr σ (2 * (sNx σ p0 3) + 1)) (tgt := 53) hx hb d_MD_groupOfPlain_40 (by decide) (by omega) (fun h2a => ?_) (fun h2a => ?_)
              · have hn3 := sPl_step hn2 (by rw [e20]; exact sHas_1 (by omega))
                refine lv_iconst (v := nI 2) hx hb d_MD_groupOfPlain_53 (by decide) ?_
                refine lv_iload_n hx hb d_MD_groupOfPlain_54 rfl (lv_at hl 1 rfl) ?_
                refine r_imul (a := 2) (b := (2 * 1) + 1) hx hb d_MD_groupOfPlain_55 ?_
                refine lv_iconst (v := nI 1) hx hb d_MD_groupOfPlain_56 (by decide) ?_
                refine r_iadd (a := 2 * ((2 * 1) + 1)) (b := 1) hx hb d_MD_groupOfPlain_57 ?_
                refine lv_istore_n (lv' := [(2, .int (nI ((2 * ((2 * 1) + 1)) + 1))), (3, .int (nI (sNx σ p0 3))), (0, .ref (am 0)), (1, .int (nI p0))]) hx hb d_MD_groupOfPlain_58 rfl hl (by decide) rfl (fun ls hl => ?_)
                refine lv_goto (tgt := 20) hx hb d_MD_groupOfPlain_59 (by decide) ?_
                refine lv_iload_n hx hb d_MD_groupOfPlain_20 rfl (lv_at hl 0 rfl) ?_
                refine lv_bipush (v := nI 8) hx hb d_MD_groupOfPlain_21 (by decide) ?_
                refine r_ge (a := (2 * ((2 * 1) + 1)) + 1) (b := 8) (tgt := 62) hx hb d_MD_groupOfPlain_23 (by decide) (by omega) (by omega) (fun h9 => ?_) (fun h9 => ?_)
                · exact absurd h9 (by omega)
                · have hx7 := sNx_lt hσ p0 7
                  have hfa7 := (hσ.2.2.2.1 (2 * (sNx σ p0 7)) (by omega)).2
                  have hfb7 := (hσ.2.2.2.1 (2 * (sNx σ p0 7) + 1) (by omega)).2
                  have e30 : sNx σ p0 (pst 3) = sNx σ p0 7 := rfl
                  refine lv_iload_n hx hb d_MD_groupOfPlain_26 rfl (lv_at hl 3 rfl) ?_
                  refine lv_iload_n hx hb d_MD_groupOfPlain_27 rfl (lv_at hl 0 rfl) ?_
                  refine r_iadd (a := p0) (b := (2 * ((2 * 1) + 1)) + 1) hx hb d_MD_groupOfPlain_28 ?_
                  refine lv_aload_n hx hb d_MD_groupOfPlain_29 rfl (lv_at hl 2 rfl) ?_
                  refine g_get (own := "GroupBitmapsModel") (C := R_MD) (T := F_MD) (N := 11) (ci := 3) (v := .int (nI (mGr τ))) hx hb hg ku_MD hown hK hI (0) (wm_0) rfl 1 (by decide) kw_471 rfl d_MD_groupOfPlain_30 ?_
                  refine r_irem (a := p0 + ((2 * ((2 * 1) + 1)) + 1)) (b := mGr τ) hx hb (by omega) (by omega) (by omega) d_MD_groupOfPlain_33 ?_
                  rw [show (p0 + ((2 * ((2 * 1) + 1)) + 1)) % (mGr τ) = sNx σ p0 7 from by rw [hgr]; rfl]
                  refine lv_istore_n (lv' := [(3, .int (nI (sNx σ p0 7))), (2, .int (nI ((2 * ((2 * 1) + 1)) + 1))), (0, .ref (am 0)), (1, .int (nI p0))]) hx hb d_MD_groupOfPlain_34 rfl hl (by decide) rfl (fun ls hl => ?_)
                  refine lv_aload_n hx hb d_MD_groupOfPlain_35 rfl (lv_at hl 2 rfl) ?_
                  refine lv_iload_n hx hb d_MD_groupOfPlain_36 rfl (lv_at hl 0 rfl) ?_
                  refine g_callV (own := "GroupBitmapsModel") (C := "GroupBitmapsModel") (T := F_MD) (N := 11) (k := 1) (q0 := 0) (ci := 3) (a := am 0) (As := [.int (nI (sNx σ p0 7))]) (rest := []) (k_ff σ τ hR (sNx σ p0 7) (by omega)) hx hb hml hown hg hK hI hA kw_565 kw_567 kp_30 kw_4 kw_568 ky_MD_freeFiles ⟨Nat.le_of_ble_eq_true rfl, Nat.le_of_ble_eq_true rfl⟩ rfl rfl (wm_0) rfl rfl hl.1 (Nat.le_of_ble_eq_true rfl) ⟨Nat.zero_le _, Nat.zero_le _⟩ d_MD_groupOfPlain_37 rfl rfl (fun H locs hI => ?_)
                  refine r_zle (a := sFr σ (2 * (sNx σ p0 7) + 1)) (tgt := 53) hx hb d_MD_groupOfPlain_40 (by decide) (by omega) (fun h3a => ?_) (fun h3a => ?_)
                  · have hn4 := sPl_step hn3 (by rw [e30]; exact sHas_1 (by omega))
                    refine lv_iconst (v := nI 2) hx hb d_MD_groupOfPlain_53 (by decide) ?_
                    refine lv_iload_n hx hb d_MD_groupOfPlain_54 rfl (lv_at hl 1 rfl) ?_
                    refine r_imul (a := 2) (b := (2 * ((2 * 1) + 1)) + 1) hx hb d_MD_groupOfPlain_55 ?_
                    refine lv_iconst (v := nI 1) hx hb d_MD_groupOfPlain_56 (by decide) ?_
                    refine r_iadd (a := 2 * ((2 * ((2 * 1) + 1)) + 1)) (b := 1) hx hb d_MD_groupOfPlain_57 ?_
                    refine lv_istore_n (lv' := [(2, .int (nI ((2 * ((2 * ((2 * 1) + 1)) + 1)) + 1))), (3, .int (nI (sNx σ p0 7))), (0, .ref (am 0)), (1, .int (nI p0))]) hx hb d_MD_groupOfPlain_58 rfl hl (by decide) rfl (fun ls hl => ?_)
                    refine lv_goto (tgt := 20) hx hb d_MD_groupOfPlain_59 (by decide) ?_
                    refine lv_iload_n hx hb d_MD_groupOfPlain_20 rfl (lv_at hl 0 rfl) ?_
                    refine lv_bipush (v := nI 8) hx hb d_MD_groupOfPlain_21 (by decide) ?_
                    refine r_ge (a := (2 * ((2 * ((2 * 1) + 1)) + 1)) + 1) (b := 8) (tgt := 62) hx hb d_MD_groupOfPlain_23 (by decide) (by omega) (by omega) (fun h9 => ?_) (fun h9 => ?_)
                    · refine lv_aload_n hx hb d_MD_groupOfPlain_62 rfl (lv_at hl 2 rfl) ?_
                      refine lv_iload_n hx hb d_MD_groupOfPlain_63 rfl (lv_at hl 3 rfl) ?_
                      refine g_callV (own := "GroupBitmapsModel") (C := "GroupBitmapsModel") (T := F_MD) (N := 11) (k := 1) (q0 := 0) (ci := 3) (a := am 0) (As := [.int (nI p0)]) (rest := []) (c_MD_firstFree σ τ hR p0 (by omega)) hx hb hml hown hg hK hI hA kw_573 kw_575 kp_32 kw_4 kw_576 ky_MD_firstFree ⟨Nat.le_of_ble_eq_true rfl, Nat.le_of_ble_eq_true rfl⟩ rfl rfl (wm_0) rfl rfl hl.1 (Nat.le_of_ble_eq_true rfl) ⟨Nat.zero_le _, Nat.zero_le _⟩ d_MD_groupOfPlain_64 rfl rfl (fun H locs hI => ?_)
                      exact g_ri hx hb hr hlk hI (by rw [sPlain, hn4]) d_MD_groupOfPlain_67
                    · exact absurd h9 (by omega)
                  · refine lv_aload_n hx hb d_MD_groupOfPlain_43 rfl (lv_at hl 2 rfl) ?_
                    refine lv_iload_n hx hb d_MD_groupOfPlain_44 rfl (lv_at hl 0 rfl) ?_
                    refine g_callV (own := "GroupBitmapsModel") (C := "GroupBitmapsModel") (T := F_MD) (N := 11) (k := 1) (q0 := 0) (ci := 3) (a := am 0) (As := [.int (nI (sNx σ p0 7))]) (rest := []) (k_fb σ τ hR (sNx σ p0 7) (by omega)) hx hb hml hown hg hK hI hA kw_517 kw_519 kp_23 kw_4 kw_520 ky_MD_freeBlocks ⟨Nat.le_of_ble_eq_true rfl, Nat.le_of_ble_eq_true rfl⟩ rfl rfl (wm_0) rfl rfl hl.1 (Nat.le_of_ble_eq_true rfl) ⟨Nat.zero_le _, Nat.zero_le _⟩ d_MD_groupOfPlain_45 rfl rfl (fun H locs hI => ?_)
                    refine r_zle (a := sFr σ (2 * (sNx σ p0 7))) (tgt := 53) hx hb d_MD_groupOfPlain_48 (by decide) (by omega) (fun h3b => ?_) (fun h3b => ?_)
                    · have hn4 := sPl_step hn3 (by rw [e30]; exact sHas_2 (by omega))
                      refine lv_iconst (v := nI 2) hx hb d_MD_groupOfPlain_53 (by decide) ?_
                      refine lv_iload_n hx hb d_MD_groupOfPlain_54 rfl (lv_at hl 1 rfl) ?_
                      refine r_imul (a := 2) (b := (2 * ((2 * 1) + 1)) + 1) hx hb d_MD_groupOfPlain_55 ?_
                      refine lv_iconst (v := nI 1) hx hb d_MD_groupOfPlain_56 (by decide) ?_
                      refine r_iadd (a := 2 * ((2 * ((2 * 1) + 1)) + 1)) (b := 1) hx hb d_MD_groupOfPlain_57 ?_
                      refine lv_istore_n (lv' := [(2, .int (nI ((2 * ((2 * ((2 * 1) + 1)) + 1)) + 1))), (3, .int (nI (sNx σ p0 7))), (0, .ref (am 0)), (1, .int (nI p0))]) hx hb d_MD_groupOfPlain_58 rfl hl (by decide) rfl (fun ls hl => ?_)
                      refine lv_goto (tgt := 20) hx hb d_MD_groupOfPlain_59 (by decide) ?_
                      refine lv_iload_n hx hb d_MD_groupOfPlain_20 rfl (lv_at hl 0 rfl) ?_
                      refine lv_bipush (v := nI 8) hx hb d_MD_groupOfPlain_21 (by decide) ?_
                      refine r_ge (a := (2 * ((2 * ((2 * 1) + 1)) + 1)) + 1) (b := 8) (tgt := 62) hx hb d_MD_groupOfPlain_23 (by decide) (by omega) (by omega) (fun h9 => ?_) (fun h9 => ?_)
                      · refine lv_aload_n hx hb d_MD_groupOfPlain_62 rfl (lv_at hl 2 rfl) ?_
                        refine lv_iload_n hx hb d_MD_groupOfPlain_63 rfl (lv_at hl 3 rfl) ?_
                        refine g_callV (own := "GroupBitmapsModel") (C := "GroupBitmapsModel") (T := F_MD) (N := 11) (k := 1) (q0 := 0) (ci := 3) (a := am 0) (As := [.int (nI p0)]) (rest := []) (c_MD_firstFree σ τ hR p0 (by omega)) hx hb hml hown hg hK hI hA kw_573 kw_575 kp_32 kw_4 kw_576 ky_MD_firstFree ⟨Nat.le_of_ble_eq_true rfl, Nat.le_of_ble_eq_true rfl⟩ rfl rfl (wm_0) rfl rfl hl.1 (Nat.le_of_ble_eq_true rfl) ⟨Nat.zero_le _, Nat.zero_le _⟩ d_MD_groupOfPlain_64 rfl rfl (fun H locs hI => ?_)
                        exact g_ri hx hb hr hlk hI (by rw [sPlain, hn4]) d_MD_groupOfPlain_67
                      · exact absurd h9 (by omega)
                    · refine lv_iload_n hx hb d_MD_groupOfPlain_51 rfl (lv_at hl 0 rfl) ?_
                      exact g_ri hx hb hr hlk hI (by rw [sPlain, sPl_some hn3 (by rw [e30]; exact sHas_3 h3a h3b) (by omega), e30]; rfl) d_MD_groupOfPlain_52
              · refine lv_aload_n hx hb d_MD_groupOfPlain_43 rfl (lv_at hl 2 rfl) ?_
                refine lv_iload_n hx hb d_MD_groupOfPlain_44 rfl (lv_at hl 0 rfl) ?_
                refine g_callV (own := "GroupBitmapsModel") (C := "GroupBitmapsModel") (T := F_MD) (N := 11) (k := 1) (q0 := 0) (ci := 3) (a := am 0) (As := [.int (nI (sNx σ p0 3))]) (rest := []) (k_fb σ τ hR (sNx σ p0 3) (by omega)) hx hb hml hown hg hK hI hA kw_517 kw_519 kp_23 kw_4 kw_520 ky_MD_freeBlocks ⟨Nat.le_of_ble_eq_true rfl, Nat.le_of_ble_eq_true rfl⟩ rfl rfl (wm_0) rfl rfl hl.1 (Nat.le_of_ble_eq_true rfl) ⟨Nat.zero_le _, Nat.zero_le _⟩ d_MD_groupOfPlain_45 rfl rfl (fun H locs hI => ?_)
                refine r_zle (a := sFr σ (2 * (sNx σ p0 3))) (tgt := 53) hx hb d_MD_groupOfPlain_48 (by decide) (by omega) (fun h2b => ?_) (fun h2b => ?_)
                · have hn3 := sPl_step hn2 (by rw [e20]; exact sHas_2 (by omega))
                  refine lv_iconst (v := nI 2) hx hb d_MD_groupOfPlain_53 (by decide) ?_
                  refine lv_iload_n hx hb d_MD_groupOfPlain_54 rfl (lv_at hl 1 rfl) ?_
                  refine r_imul (a := 2) (b := (2 * 1) + 1) hx hb d_MD_groupOfPlain_55 ?_
                  refine lv_iconst (v := nI 1) hx hb d_MD_groupOfPlain_56 (by decide) ?_
                  refine r_iadd (a := 2 * ((2 * 1) + 1)) (b := 1) hx hb d_MD_groupOfPlain_57 ?_
                  refine lv_istore_n (lv' := [(2, .int (nI ((2 * ((2 * 1) + 1)) + 1))), (3, .int (nI (sNx σ p0 3))), (0, .ref (am 0)), (1, .int (nI p0))]) hx hb d_MD_groupOfPlain_58 rfl hl (by decide) rfl (fun ls hl => ?_)
                  refine lv_goto (tgt := 20) hx hb d_MD_groupOfPlain_59 (by decide) ?_
                  refine lv_iload_n hx hb d_MD_groupOfPlain_20 rfl (lv_at hl 0 rfl) ?_
                  refine lv_bipush (v := nI 8) hx hb d_MD_groupOfPlain_21 (by decide) ?_
                  refine r_ge (a := (2 * ((2 * 1) + 1)) + 1) (b := 8) (tgt := 62) hx hb d_MD_groupOfPlain_23 (by decide) (by omega) (by omega) (fun h9 => ?_) (fun h9 => ?_)
                  · exact absurd h9 (by omega)
                  · have hx7 := sNx_lt hσ p0 7
                    have hfa7 := (hσ.2.2.2.1 (2 * (sNx σ p0 7)) (by omega)).2
                    have hfb7 := (hσ.2.2.2.1 (2 * (sNx σ p0 7) + 1) (by omega)).2
                    have e30 : sNx σ p0 (pst 3) = sNx σ p0 7 := rfl
                    refine lv_iload_n hx hb d_MD_groupOfPlain_26 rfl (lv_at hl 3 rfl) ?_
                    refine lv_iload_n hx hb d_MD_groupOfPlain_27 rfl (lv_at hl 0 rfl) ?_
                    refine r_iadd (a := p0) (b := (2 * ((2 * 1) + 1)) + 1) hx hb d_MD_groupOfPlain_28 ?_
                    refine lv_aload_n hx hb d_MD_groupOfPlain_29 rfl (lv_at hl 2 rfl) ?_
                    refine g_get (own := "GroupBitmapsModel") (C := R_MD) (T := F_MD) (N := 11) (ci := 3) (v := .int (nI (mGr τ))) hx hb hg ku_MD hown hK hI (0) (wm_0) rfl 1 (by decide) kw_471 rfl d_MD_groupOfPlain_30 ?_
                    refine r_irem (a := p0 + ((2 * ((2 * 1) + 1)) + 1)) (b := mGr τ) hx hb (by omega) (by omega) (by omega) d_MD_groupOfPlain_33 ?_
                    rw [show (p0 + ((2 * ((2 * 1) + 1)) + 1)) % (mGr τ) = sNx σ p0 7 from by rw [hgr]; rfl]
                    refine lv_istore_n (lv' := [(3, .int (nI (sNx σ p0 7))), (2, .int (nI ((2 * ((2 * 1) + 1)) + 1))), (0, .ref (am 0)), (1, .int (nI p0))]) hx hb d_MD_groupOfPlain_34 rfl hl (by decide) rfl (fun ls hl => ?_)
                    refine lv_aload_n hx hb d_MD_groupOfPlain_35 rfl (lv_at hl 2 rfl) ?_
                    refine lv_iload_n hx hb d_MD_groupOfPlain_36 rfl (lv_at hl 0 rfl) ?_
                    refine g_callV (own := "GroupBitmapsModel") (C := "GroupBitmapsModel") (T := F_MD) (N := 11) (k := 1) (q0 := 0) (ci := 3) (a := am 0) (As := [.int (nI (sNx σ p0 7))]) (rest := []) (k_ff σ τ hR (sNx σ p0 7) (by omega)) hx hb hml hown hg hK hI hA kw_565 kw_567 kp_30 kw_4 kw_568 ky_MD_freeFiles ⟨Nat.le_of_ble_eq_true rfl, Nat.le_of_ble_eq_true rfl⟩ rfl rfl (wm_0) rfl rfl hl.1 (Nat.le_of_ble_eq_true rfl) ⟨Nat.zero_le _, Nat.zero_le _⟩ d_MD_groupOfPlain_37 rfl rfl (fun H locs hI => ?_)
                    refine r_zle (a := sFr σ (2 * (sNx σ p0 7) + 1)) (tgt := 53) hx hb d_MD_groupOfPlain_40 (by decide) (by omega) (fun h3a => ?_) (fun h3a => ?_)
                    · have hn4 := sPl_step hn3 (by rw [e30]; exact sHas_1 (by omega))
                      refine lv_iconst (v := nI 2) hx hb d_MD_groupOfPlain_53 (by decide) ?_
                      refine lv_iload_n hx hb d_MD_groupOfPlain_54 rfl (lv_at hl 1 rfl) ?_
                      refine r_imul (a := 2) (b := (2 * ((2 * 1) + 1)) + 1) hx hb d_MD_groupOfPlain_55 ?_
                      refine lv_iconst (v := nI 1) hx hb d_MD_groupOfPlain_56 (by decide) ?_
                      refine r_iadd (a := 2 * ((2 * ((2 * 1) + 1)) + 1)) (b := 1) hx hb d_MD_groupOfPlain_57 ?_
                      refine lv_istore_n (lv' := [(2, .int (nI ((2 * ((2 * ((2 * 1) + 1)) + 1)) + 1))), (3, .int (nI (sNx σ p0 7))), (0, .ref (am 0)), (1, .int (nI p0))]) hx hb d_MD_groupOfPlain_58 rfl hl (by decide) rfl (fun ls hl => ?_)
                      refine lv_goto (tgt := 20) hx hb d_MD_groupOfPlain_59 (by decide) ?_
                      refine lv_iload_n hx hb d_MD_groupOfPlain_20 rfl (lv_at hl 0 rfl) ?_
                      refine lv_bipush (v := nI 8) hx hb d_MD_groupOfPlain_21 (by decide) ?_
                      refine r_ge (a := (2 * ((2 * ((2 * 1) + 1)) + 1)) + 1) (b := 8) (tgt := 62) hx hb d_MD_groupOfPlain_23 (by decide) (by omega) (by omega) (fun h9 => ?_) (fun h9 => ?_)
                      · refine lv_aload_n hx hb d_MD_groupOfPlain_62 rfl (lv_at hl 2 rfl) ?_
                        refine lv_iload_n hx hb d_MD_groupOfPlain_63 rfl (lv_at hl 3 rfl) ?_
                        refine g_callV (own := "GroupBitmapsModel") (C := "GroupBitmapsModel") (T := F_MD) (N := 11) (k := 1) (q0 := 0) (ci := 3) (a := am 0) (As := [.int (nI p0)]) (rest := []) (c_MD_firstFree σ τ hR p0 (by omega)) hx hb hml hown hg hK hI hA kw_573 kw_575 kp_32 kw_4 kw_576 ky_MD_firstFree ⟨Nat.le_of_ble_eq_true rfl, Nat.le_of_ble_eq_true rfl⟩ rfl rfl (wm_0) rfl rfl hl.1 (Nat.le_of_ble_eq_true rfl) ⟨Nat.zero_le _, Nat.zero_le _⟩ d_MD_groupOfPlain_64 rfl rfl (fun H locs hI => ?_)
                        exact g_ri hx hb hr hlk hI (by rw [sPlain, hn4]) d_MD_groupOfPlain_67
                      · exact absurd h9 (by omega)
                    · refine lv_aload_n hx hb d_MD_groupOfPlain_43 rfl (lv_at hl 2 rfl) ?_
                      refine lv_iload_n hx hb d_MD_groupOfPlain_44 rfl (lv_at hl 0 rfl) ?_
                      refine g_callV (own := "GroupBitmapsModel") (C := "GroupBitmapsModel") (T := F_MD) (N := 11) (k := 1) (q0 := 0) (ci := 3) (a := am 0) (As := [.int (nI (sNx σ p0 7))]) (rest := []) (k_fb σ τ hR (sNx σ p0 7) (by omega)) hx hb hml hown hg hK hI hA kw_517 kw_519 kp_23 kw_4 kw_520 ky_MD_freeBlocks ⟨Nat.le_of_ble_eq_true rfl, Nat.le_of_ble_eq_true rfl⟩ rfl rfl (wm_0) rfl rfl hl.1 (Nat.le_of_ble_eq_true rfl) ⟨Nat.zero_le _, Nat.zero_le _⟩ d_MD_groupOfPlain_45 rfl rfl (fun H locs hI => ?_)
                      refine r_zle (a := sFr σ (2 * (sNx σ p0 7))) (tgt := 53) hx hb d_MD_groupOfPlain_48 (by decide) (by omega) (fun h3b => ?_) (fun h3b => ?_)
                      · have hn4 := sPl_step hn3 (by rw [e30]; exact sHas_2 (by omega))
                        refine lv_iconst (v := nI 2) hx hb d_MD_groupOfPlain_53 (by decide) ?_
                        refine lv_iload_n hx hb d_MD_groupOfPlain_54 rfl (lv_at hl 1 rfl) ?_
                        refine r_imul (a := 2) (b := (2 * ((2 * 1) + 1)) + 1) hx hb d_MD_groupOfPlain_55 ?_
                        refine lv_iconst (v := nI 1) hx hb d_MD_groupOfPlain_56 (by decide) ?_
                        refine r_iadd (a := 2 * ((2 * ((2 * 1) + 1)) + 1)) (b := 1) hx hb d_MD_groupOfPlain_57 ?_
                        refine lv_istore_n (lv' := [(2, .int (nI ((2 * ((2 * ((2 * 1) + 1)) + 1)) + 1))), (3, .int (nI (sNx σ p0 7))), (0, .ref (am 0)), (1, .int (nI p0))]) hx hb d_MD_groupOfPlain_58 rfl hl (by decide) rfl (fun ls hl => ?_)
                        refine lv_goto (tgt := 20) hx hb d_MD_groupOfPlain_59 (by decide) ?_
                        refine lv_iload_n hx hb d_MD_groupOfPlain_20 rfl (lv_at hl 0 rfl) ?_
                        refine lv_bipush (v := nI 8) hx hb d_MD_groupOfPlain_21 (by decide) ?_
                        refine r_ge (a := (2 * ((2 * ((2 * 1) + 1)) + 1)) + 1) (b := 8) (tgt := 62) hx hb d_MD_groupOfPlain_23 (by decide) (by omega) (by omega) (fun h9 => ?_) (fun h9 => ?_)
                        · refine lv_aload_n hx hb d_MD_groupOfPlain_62 rfl (lv_at hl 2 rfl) ?_
                          refine lv_iload_n hx hb d_MD_groupOfPlain_63 rfl (lv_at hl 3 rfl) ?_
                          refine g_callV (own := "GroupBitmapsModel") (C := "GroupBitmapsModel") (T := F_MD) (N := 11) (k := 1) (q0 := 0) (ci := 3) (a := am 0) (As := [.int (nI p0)]) (rest := []) (c_MD_firstFree σ τ hR p0 (by omega)) hx hb hml hown hg hK hI hA kw_573 kw_575 kp_32 kw_4 kw_576 ky_MD_firstFree ⟨Nat.le_of_ble_eq_true rfl, Nat.le_of_ble_eq_true rfl⟩ rfl rfl (wm_0) rfl rfl hl.1 (Nat.le_of_ble_eq_true rfl) ⟨Nat.zero_le _, Nat.zero_le _⟩ d_MD_groupOfPlain_64 rfl rfl (fun H locs hI => ?_)
                          exact g_ri hx hb hr hlk hI (by rw [sPlain, hn4]) d_MD_groupOfPlain_67
                        · exact absurd h9 (by omega)
                      · refine lv_iload_n hx hb d_MD_groupOfPlain_51 rfl (lv_at hl 0 rfl) ?_
                        exact g_ri hx hb hr hlk hI (by rw [sPlain, sPl_some hn3 (by rw [e30]; exact sHas_3 h3a h3b) (by omega), e30]; rfl) d_MD_groupOfPlain_52
                · refine lv_iload_n hx hb d_MD_groupOfPlain_51 rfl (lv_at hl 0 rfl) ?_
                  exact g_ri hx hb hr hlk hI (by rw [sPlain, sPl_some hn2 (by rw [e20]; exact sHas_3 h2a h2b) (by omega), e20]; rfl) d_MD_groupOfPlain_52
          · refine lv_iload_n hx hb d_MD_groupOfPlain_51 rfl (lv_at hl 0 rfl) ?_
            exact g_ri hx hb hr hlk hI (by rw [sPlain, sPl_some hn1 (by rw [e10]; exact sHas_3 h1a h1b) (by omega), e10]; rfl) d_MD_groupOfPlain_52
    · refine lv_iload_n hx hb d_MD_groupOfPlain_16 rfl (lv_at hl 1 rfl) ?_
      exact g_ri hx hb hr hlk hI (by rw [sPlain, sPl_some hn0 (by rw [e00]; exact sHas_3 h0a h0b) (by omega), e00]; rfl) d_MD_groupOfPlain_17
set_option maxHeartbeats 4000000 in
set_option maxRecDepth 100000 in
theorem c_MD_groupOfFolder {l : Launch} {D : va_G} {cG cZ cI cJ : ClassId} {am : Nat → Nat} (σ : gS) (τ : mS) (hR : RI σ τ) (p0 : Nat) (hp0 : p0 < 4) (sp : Bool) : gMet l D (gT cG cZ cI cJ) y_MD_groupOfFolder b_MD_groupOfFolder 9 (some .int) ({ frames := 2, cells := 0, slots := 0, locals := 45 }) (wm am cI cZ τ) [.ref (am 0), .int (nI p0), .int (bI sp)] (wm am cI cZ τ) (some (.int (oI (sFolG σ p0 sp)))) := by
  refine gMet_of (by decide) (Nat.le_of_ble_eq_true rfl) ?_
  intro p e s m below meth c A ls hC hA hI hl
  obtain ⟨hx, hb, hr, hlk, hown, hml, hg, hK⟩ := hC
  have hown : s.vm.findClass "GroupBitmapsModel" = some m.cls := hown
  have hl : lv_has ls 9 [(0, .ref (am 0)), (1, .int (nI p0)), (2, .int (bI sp))] := hl
  have hτ := hR.ok
  have hσ := hR.sb
  have hgr := hR.gr
  have hc1 := hσ.1
  have hc2 := hσ.2.1
  have hff := sFF_le hσ (sCnt σ) hc2
  have hfb0 := sFB_le hσ (sCnt σ) hc2
  have hdv : sFF σ (sCnt σ) / sCnt σ ≤ sFF σ (sCnt σ) := Nat.div_le_self _ _
  have hdv2 : sFB σ (sCnt σ) / sCnt σ ≤ sFB σ (sCnt σ) := Nat.div_le_self _ _
  refine lv_aload_n hx hb d_MD_groupOfFolder_0 rfl (lv_at hl 0 rfl) ?_
  refine g_callV (own := "GroupBitmapsModel") (C := "GroupBitmapsModel") (T := F_MD) (N := 11) (k := 0) (q0 := 0) (ci := 3) (a := am 0) (As := []) (rest := []) (k_af σ τ hR) hx hb hml hown hg hK hI hA kw_561 kw_563 kp_29 kw_4 kw_564 ky_MD_allFiles ⟨Nat.le_of_ble_eq_true rfl, Nat.le_of_ble_eq_true rfl⟩ rfl rfl (wm_0) rfl rfl hl.1 (Nat.le_of_ble_eq_true rfl) ⟨Nat.zero_le _, Nat.zero_le _⟩ d_MD_groupOfFolder_1 rfl rfl (fun H locs hI => ?_)
  refine lv_aload_n hx hb d_MD_groupOfFolder_4 rfl (lv_at hl 0 rfl) ?_
  refine g_get (own := "GroupBitmapsModel") (C := R_MD) (T := F_MD) (N := 11) (ci := 3) (v := .int (nI (mGr τ))) hx hb hg ku_MD hown hK hI (0) (wm_0) rfl 1 (by decide) kw_471 rfl d_MD_groupOfFolder_5 ?_
  rw [show mGr τ = sCnt σ from hgr]
  refine r_idiv (a := sFF σ (sCnt σ)) (b := sCnt σ) hx hb (by omega) (by omega) (by omega) d_MD_groupOfFolder_8 ?_
  refine lv_istore_n (lv' := [(3, .int (nI ((sFF σ (sCnt σ)) / (sCnt σ)))), (0, .ref (am 0)), (1, .int (nI p0)), (2, .int (bI sp))]) hx hb d_MD_groupOfFolder_9 rfl hl (by decide) rfl (fun ls hl => ?_)
  refine lv_aload_n hx hb d_MD_groupOfFolder_10 rfl (lv_at hl 1 rfl) ?_
  refine g_callV (own := "GroupBitmapsModel") (C := "GroupBitmapsModel") (T := F_MD) (N := 11) (k := 0) (q0 := 0) (ci := 3) (a := am 0) (As := []) (rest := []) (k_ab σ τ hR) hx hb hml hown hg hK hI hA kw_513 kw_515 kp_22 kw_4 kw_516 ky_MD_allBlocks ⟨Nat.le_of_ble_eq_true rfl, Nat.le_of_ble_eq_true rfl⟩ rfl rfl (wm_0) rfl rfl hl.1 (Nat.le_of_ble_eq_true rfl) ⟨Nat.zero_le _, Nat.zero_le _⟩ d_MD_groupOfFolder_11 rfl rfl (fun H locs hI => ?_)
  refine lv_aload_n hx hb d_MD_groupOfFolder_14 rfl (lv_at hl 1 rfl) ?_
  refine g_get (own := "GroupBitmapsModel") (C := R_MD) (T := F_MD) (N := 11) (ci := 3) (v := .int (nI (mGr τ))) hx hb hg ku_MD hown hK hI (0) (wm_0) rfl 1 (by decide) kw_471 rfl d_MD_groupOfFolder_15 ?_
  rw [show mGr τ = sCnt σ from hgr]
  refine r_idiv (a := sFB σ (sCnt σ)) (b := sCnt σ) hx hb (by omega) (by omega) (by omega) d_MD_groupOfFolder_18 ?_
  refine lv_istore (lv' := [(4, .int (nI ((sFB σ (sCnt σ)) / (sCnt σ)))), (3, .int (nI ((sFF σ (sCnt σ)) / (sCnt σ)))), (0, .ref (am 0)), (1, .int (nI p0)), (2, .int (bI sp))]) hx hb d_MD_groupOfFolder_19 hl (by decide) rfl (fun ls hl => ?_)
  refine lv_iconst (v := (-1)) hx hb d_MD_groupOfFolder_21 (by decide) ?_
  refine lv_istore (lv' := [(5, .int ((-1))), (4, .int (nI ((sFB σ (sCnt σ)) / (sCnt σ)))), (3, .int (nI ((sFF σ (sCnt σ)) / (sCnt σ)))), (0, .ref (am 0)), (1, .int (nI p0)), (2, .int (bI sp))]) hx hb d_MD_groupOfFolder_22 hl (by decide) rfl (fun ls hl => ?_)
  refine lv_iconst (v := nI 0) hx hb d_MD_groupOfFolder_24 (by decide) ?_
  refine lv_istore (lv' := [(6, .int (nI 0)), (5, .int ((-1))), (4, .int (nI ((sFB σ (sCnt σ)) / (sCnt σ)))), (3, .int (nI ((sFF σ (sCnt σ)) / (sCnt σ)))), (0, .ref (am 0)), (1, .int (nI p0)), (2, .int (bI sp))]) hx hb d_MD_groupOfFolder_25 hl (by decide) rfl (fun ls hl => ?_)
  have t3 : ∀ (o : Option Nat), ((∀ z, o = some z → z < 4 ∧ sFolG σ p0 sp = some z) ∧ (o = none → sFolG σ p0 sp = sFst σ p0 (pFile σ) (sCnt σ))) → ∀ (H : Heap) (locs : List Loc) (ls : Array Slot), gI D A s.heap (wm am cI cZ τ) H locs → lv_has ls 9 [(0, .ref (am 0)), (1, .int (nI p0)), (2, .int (bI sp)), (3, .int (nI (sFF σ (sCnt σ) / sCnt σ))), (4, .int (nI (sFB σ (sCnt σ) / sCnt σ))), (5, .int (oI o))] → W p l e ({ frames := 2, cells := 0, slots := 0, locals := 45 }) s m ([.ref (am 0), .int (nI p0), .int (bI sp)] : List Value).toArray below meth c H locs 0 0 (gQ D below ([.ref (am 0), .int (nI p0), .int (bI sp)] : List Value).toArray s A (wm am cI cZ τ) (some (.int (oI (sFolG σ p0 sp))))) (F0 m 215 ls []) := by
    intro o ho3 H locs ls hI hl
    rcases o with _ | z
    · have hl : lv_has ls 9 [(0, .ref (am 0)), (1, .int (nI p0)), (2, .int (bI sp)), (3, .int (nI (sFF σ (sCnt σ) / sCnt σ))), (4, .int (nI (sFB σ (sCnt σ) / sCnt σ))), (5, .int ((-1)))] := hl
      refine lv_iload hx hb d_MD_groupOfFolder_215 (lv_at hl 5 rfl) ?_
      refine lv_if_ge (tgt := 228) hx hb d_MD_groupOfFolder_217 (by decide) (fun h9 => absurd h9 (by decide)) (fun _ => ?_)
      refine lv_aload_n hx hb d_MD_groupOfFolder_220 rfl (lv_at hl 0 rfl) ?_
      refine lv_iload_n hx hb d_MD_groupOfFolder_221 rfl (lv_at hl 1 rfl) ?_
      refine g_callV (own := "GroupBitmapsModel") (C := "GroupBitmapsModel") (T := F_MD) (N := 11) (k := 1) (q0 := 0) (ci := 3) (a := am 0) (As := [.int (nI p0)]) (rest := []) (c_MD_firstFree σ τ hR p0 hp0) hx hb hml hown hg hK hI hA kw_573 kw_575 kp_32 kw_4 kw_576 ky_MD_firstFree ⟨Nat.le_of_ble_eq_true rfl, Nat.le_of_ble_eq_true rfl⟩ rfl rfl (wm_0) rfl rfl hl.1 (Nat.le_of_ble_eq_true rfl) ⟨Nat.zero_le _, Nat.zero_le _⟩ d_MD_groupOfFolder_222 rfl rfl (fun H locs hI => ?_)
      refine lv_goto (tgt := 230) hx hb d_MD_groupOfFolder_225 (by decide) ?_
      exact g_ri hx hb hr hlk hI (by rw [ho3.2 rfl]) d_MD_groupOfFolder_230
    · have hl : lv_has ls 9 [(0, .ref (am 0)), (1, .int (nI p0)), (2, .int (bI sp)), (3, .int (nI (sFF σ (sCnt σ) / sCnt σ))), (4, .int (nI (sFB σ (sCnt σ) / sCnt σ))), (5, .int (nI z))] := hl
      have hz := ho3.1 z rfl
      refine lv_iload hx hb d_MD_groupOfFolder_215 (lv_at hl 5 rfl) ?_
      refine r_zge (a := z) (tgt := 228) hx hb d_MD_groupOfFolder_217 (by decide) (by omega) ?_
      refine lv_iload hx hb d_MD_groupOfFolder_228 (lv_at hl 5 rfl) ?_
      exact g_ri hx hb hr hlk hI (by rw [hz.2]; rfl) d_MD_groupOfFolder_230
  have loop2 : ∀ (fuel : Nat) (k : Nat) (o : Option Nat), sCnt σ + 1 ≤ fuel + k → (k ≤ sCnt σ) → ((∀ z, o = some z → z < 4 ∧ sFolG σ p0 sp = some z) ∧ (o = none → (if sp = true then sLeast σ p0 (sCnt σ) else none) = none ∧ sFst σ p0 (pRoom σ) k = none)) → ∀ (H : Heap) (locs : List Loc) (ls : Array Slot), gI D A s.heap (wm am cI cZ τ) H locs → lv_has ls 9 [(0, .ref (am 0)), (1, .int (nI p0)), (2, .int (bI sp)), (3, .int (nI (sFF σ (sCnt σ) / sCnt σ))), (4, .int (nI (sFB σ (sCnt σ) / sCnt σ))), (5, .int (oI o)), (6, .int (nI k))] → W p l e ({ frames := 2, cells := 0, slots := 0, locals := 45 }) s m ([.ref (am 0), .int (nI p0), .int (bI sp)] : List Value).toArray below meth c H locs 0 0 (gQ D below ([.ref (am 0), .int (nI p0), .int (bI sp)] : List Value).toArray s A (wm am cI cZ τ) (some (.int (oI (sFolG σ p0 sp))))) (F0 m 133 ls []) := by
    intro fuel
    induction fuel with
    | zero => intro k o hfu hk ho; exact absurd hfu (by omega)
    | succ fuel ih =>
      intro k o hfu hk ho H locs ls hI hl
      refine lv_iload hx hb d_MD_groupOfFolder_133 (lv_at hl 6 rfl) ?_
      refine lv_aload_n hx hb d_MD_groupOfFolder_135 rfl (lv_at hl 0 rfl) ?_
      refine g_get (own := "GroupBitmapsModel") (C := R_MD) (T := F_MD) (N := 11) (ci := 3) (v := .int (nI (mGr τ))) hx hb hg ku_MD hown hK hI (0) (wm_0) rfl 1 (by decide) kw_471 rfl d_MD_groupOfFolder_136 ?_
      rw [show mGr τ = sCnt σ from hgr]
      refine r_ge (a := k) (b := sCnt σ) (tgt := 215) hx hb d_MD_groupOfFolder_139 (by decide) (by omega) (by omega) (fun h => ?_) (fun h => ?_)
      · obtain rfl : k = sCnt σ := by omega
        exact t3 o ⟨ho.1, fun hz => by obtain ⟨q1, q2⟩ := ho.2 hz; rw [sFolG, q1]; dsimp only; rw [q2]⟩ _ _ _ hI (lv_sub hl [0, 1, 2, 3, 4, 5] rfl)
      · rcases o with _ | z
        · have hl : lv_has ls 9 [(0, .ref (am 0)), (1, .int (nI p0)), (2, .int (bI sp)), (3, .int (nI (sFF σ (sCnt σ) / sCnt σ))), (4, .int (nI (sFB σ (sCnt σ) / sCnt σ))), (5, .int ((-1))), (6, .int (nI k))] := hl
          obtain ⟨q1, q2⟩ := ho.2 rfl
          refine lv_iload hx hb d_MD_groupOfFolder_142 (lv_at hl 5 rfl) ?_
          refine lv_if_ge (tgt := 215) hx hb d_MD_groupOfFolder_144 (by decide) (fun h9 => absurd h9 (by decide)) (fun _ => ?_)
          have hx4 := sNx_lt hσ p0 k
          have hfa1 := (hσ.2.2.2.1 (2 * (sNx σ p0 k)) (by omega)).2
          have hfb1 := (hσ.2.2.2.1 (2 * (sNx σ p0 k) + 1) (by omega)).2
          refine lv_iload_n hx hb d_MD_groupOfFolder_147 rfl (lv_at hl 1 rfl) ?_
          refine lv_iload hx hb d_MD_groupOfFolder_148 (lv_at hl 6 rfl) ?_
          refine r_iadd (a := p0) (b := k) hx hb d_MD_groupOfFolder_150 ?_
          refine lv_aload_n hx hb d_MD_groupOfFolder_151 rfl (lv_at hl 0 rfl) ?_
          refine g_get (own := "GroupBitmapsModel") (C := R_MD) (T := F_MD) (N := 11) (ci := 3) (v := .int (nI (mGr τ))) hx hb hg ku_MD hown hK hI (0) (wm_0) rfl 1 (by decide) kw_471 rfl d_MD_groupOfFolder_152 ?_
          refine r_irem (a := p0 + k) (b := mGr τ) hx hb (by omega) (by omega) (by omega) d_MD_groupOfFolder_155 ?_
          rw [show (p0 + k) % (mGr τ) = sNx σ p0 k from by rw [hgr]; rfl]
          refine lv_istore (lv' := [(7, .int (nI (sNx σ p0 k))), (0, .ref (am 0)), (1, .int (nI p0)), (2, .int (bI sp)), (3, .int (nI (sFF σ (sCnt σ) / sCnt σ))), (4, .int (nI (sFB σ (sCnt σ) / sCnt σ))), (5, .int ((-1))), (6, .int (nI k))]) hx hb d_MD_groupOfFolder_156 hl (by decide) rfl (fun ls hl => ?_)
          refine lv_aload_n hx hb d_MD_groupOfFolder_158 rfl (lv_at hl 1 rfl) ?_
          refine lv_iload hx hb d_MD_groupOfFolder_159 (lv_at hl 0 rfl) ?_
          refine g_callV (own := "GroupBitmapsModel") (C := "GroupBitmapsModel") (T := F_MD) (N := 11) (k := 1) (q0 := 0) (ci := 3) (a := am 0) (As := [.int (nI (sNx σ p0 k))]) (rest := []) (k_ff σ τ hR (sNx σ p0 k) hx4) hx hb hml hown hg hK hI hA kw_565 kw_567 kp_30 kw_4 kw_568 ky_MD_freeFiles ⟨Nat.le_of_ble_eq_true rfl, Nat.le_of_ble_eq_true rfl⟩ rfl rfl (wm_0) rfl rfl hl.1 (Nat.le_of_ble_eq_true rfl) ⟨Nat.zero_le _, Nat.zero_le _⟩ d_MD_groupOfFolder_161 rfl rfl (fun H locs hI => ?_)
          refine lv_iload_n hx hb d_MD_groupOfFolder_164 rfl (lv_at hl 4 rfl) ?_
          refine lv_iconst (v := nI 2) hx hb d_MD_groupOfFolder_165 (by decide) ?_
          refine r_idiv (a := sFF σ (sCnt σ) / sCnt σ) (b := 2) hx hb (by omega) (by omega) (by omega) d_MD_groupOfFolder_166 ?_
          refine r_lt (a := sFr σ (2 * (sNx σ p0 k) + 1)) (b := (sFF σ (sCnt σ) / sCnt σ) / 2) (tgt := 192) hx hb d_MD_groupOfFolder_167 (by decide) (by omega) (by omega) (fun h3 => ?_) (fun h3 => ?_)
          · have hp : pRoom σ (sNx σ p0 k) = false := pRoom_1 h3
            refine lv_iconst (v := bI false) hx hb d_MD_groupOfFolder_192 (by decide) ?_
            refine lv_istore (lv' := [(8, .int (bI false)), (7, .int (nI (sNx σ p0 k))), (0, .ref (am 0)), (1, .int (nI p0)), (2, .int (bI sp)), (3, .int (nI (sFF σ (sCnt σ) / sCnt σ))), (4, .int (nI (sFB σ (sCnt σ) / sCnt σ))), (5, .int ((-1))), (6, .int (nI k))]) hx hb d_MD_groupOfFolder_193 hl (by decide) rfl (fun ls hl => ?_)
            refine lv_iload hx hb d_MD_groupOfFolder_195 (lv_at hl 0 rfl) ?_
            refine r_bz (b := false) (tgt := 205) hx hb d_MD_groupOfFolder_197 (by decide) (fun h9 => ?_) (fun h9 => ?_)
            · refine lv_iload hx hb d_MD_groupOfFolder_205 (lv_at hl 7 rfl) ?_
              refine lv_istore (lv' := [(5, .int ((-1))), (8, .int (bI false)), (7, .int (nI (sNx σ p0 k))), (0, .ref (am 0)), (1, .int (nI p0)), (2, .int (bI sp)), (3, .int (nI (sFF σ (sCnt σ) / sCnt σ))), (4, .int (nI (sFB σ (sCnt σ) / sCnt σ))), (6, .int (nI k))]) hx hb d_MD_groupOfFolder_207 hl (by decide) rfl (fun ls hl => ?_)
              refine lv_iinc (v := nI (k + 1)) (lv' := [(6, .int (nI (k + 1))), (5, .int ((-1))), (8, .int (bI false)), (7, .int (nI (sNx σ p0 k))), (0, .ref (am 0)), (1, .int (nI p0)), (2, .int (bI sp)), (3, .int (nI (sFF σ (sCnt σ) / sCnt σ))), (4, .int (nI (sFB σ (sCnt σ) / sCnt σ)))]) hx hb d_MD_groupOfFolder_209 hl (k := 8) rfl (nI_1 _) (by decide) rfl (fun ls hl => ?_)
              refine lv_goto (tgt := 133) hx hb d_MD_groupOfFolder_212 (by decide) ?_
              exact ih (k + 1) none (by omega) (by omega) ⟨fun z hz => (by cases hz), fun _ => ⟨q1, sFst_step q2 hp⟩⟩ _ _ _ hI (lv_sub hl [4, 5, 6, 7, 8, 1, 0] rfl)
            · exact absurd h9 (by decide)
          · refine lv_aload_n hx hb d_MD_groupOfFolder_170 rfl (lv_at hl 1 rfl) ?_
            refine lv_iload hx hb d_MD_groupOfFolder_171 (lv_at hl 0 rfl) ?_
            refine g_callV (own := "GroupBitmapsModel") (C := "GroupBitmapsModel") (T := F_MD) (N := 11) (k := 1) (q0 := 0) (ci := 3) (a := am 0) (As := [.int (nI (sNx σ p0 k))]) (rest := []) (k_ff σ τ hR (sNx σ p0 k) hx4) hx hb hml hown hg hK hI hA kw_565 kw_567 kp_30 kw_4 kw_568 ky_MD_freeFiles ⟨Nat.le_of_ble_eq_true rfl, Nat.le_of_ble_eq_true rfl⟩ rfl rfl (wm_0) rfl rfl hl.1 (Nat.le_of_ble_eq_true rfl) ⟨Nat.zero_le _, Nat.zero_le _⟩ d_MD_groupOfFolder_173 rfl rfl (fun H locs hI => ?_)
            refine r_zle (a := sFr σ (2 * (sNx σ p0 k) + 1)) (tgt := 192) hx hb d_MD_groupOfFolder_176 (by decide) (by omega) (fun h4 => ?_) (fun h4 => ?_)
            · have hp : pRoom σ (sNx σ p0 k) = false := pRoom_2 h4
              refine lv_iconst (v := bI false) hx hb d_MD_groupOfFolder_192 (by decide) ?_
              refine lv_istore (lv' := [(8, .int (bI false)), (7, .int (nI (sNx σ p0 k))), (0, .ref (am 0)), (1, .int (nI p0)), (2, .int (bI sp)), (3, .int (nI (sFF σ (sCnt σ) / sCnt σ))), (4, .int (nI (sFB σ (sCnt σ) / sCnt σ))), (5, .int ((-1))), (6, .int (nI k))]) hx hb d_MD_groupOfFolder_193 hl (by decide) rfl (fun ls hl => ?_)
              refine lv_iload hx hb d_MD_groupOfFolder_195 (lv_at hl 0 rfl) ?_
              refine r_bz (b := false) (tgt := 205) hx hb d_MD_groupOfFolder_197 (by decide) (fun h9 => ?_) (fun h9 => ?_)
              · refine lv_iload hx hb d_MD_groupOfFolder_205 (lv_at hl 7 rfl) ?_
                refine lv_istore (lv' := [(5, .int ((-1))), (8, .int (bI false)), (7, .int (nI (sNx σ p0 k))), (0, .ref (am 0)), (1, .int (nI p0)), (2, .int (bI sp)), (3, .int (nI (sFF σ (sCnt σ) / sCnt σ))), (4, .int (nI (sFB σ (sCnt σ) / sCnt σ))), (6, .int (nI k))]) hx hb d_MD_groupOfFolder_207 hl (by decide) rfl (fun ls hl => ?_)
                refine lv_iinc (v := nI (k + 1)) (lv' := [(6, .int (nI (k + 1))), (5, .int ((-1))), (8, .int (bI false)), (7, .int (nI (sNx σ p0 k))), (0, .ref (am 0)), (1, .int (nI p0)), (2, .int (bI sp)), (3, .int (nI (sFF σ (sCnt σ) / sCnt σ))), (4, .int (nI (sFB σ (sCnt σ) / sCnt σ)))]) hx hb d_MD_groupOfFolder_209 hl (k := 8) rfl (nI_1 _) (by decide) rfl (fun ls hl => ?_)
                refine lv_goto (tgt := 133) hx hb d_MD_groupOfFolder_212 (by decide) ?_
                exact ih (k + 1) none (by omega) (by omega) ⟨fun z hz => (by cases hz), fun _ => ⟨q1, sFst_step q2 hp⟩⟩ _ _ _ hI (lv_sub hl [4, 5, 6, 7, 8, 1, 0] rfl)
              · exact absurd h9 (by decide)
            · refine lv_aload_n hx hb d_MD_groupOfFolder_179 rfl (lv_at hl 1 rfl) ?_
              refine lv_iload hx hb d_MD_groupOfFolder_180 (lv_at hl 0 rfl) ?_
              refine g_callV (own := "GroupBitmapsModel") (C := "GroupBitmapsModel") (T := F_MD) (N := 11) (k := 1) (q0 := 0) (ci := 3) (a := am 0) (As := [.int (nI (sNx σ p0 k))]) (rest := []) (k_fb σ τ hR (sNx σ p0 k) hx4) hx hb hml hown hg hK hI hA kw_517 kw_519 kp_23 kw_4 kw_520 ky_MD_freeBlocks ⟨Nat.le_of_ble_eq_true rfl, Nat.le_of_ble_eq_true rfl⟩ rfl rfl (wm_0) rfl rfl hl.1 (Nat.le_of_ble_eq_true rfl) ⟨Nat.zero_le _, Nat.zero_le _⟩ d_MD_groupOfFolder_182 rfl rfl (fun H locs hI => ?_)
              refine r_zle (a := sFr σ (2 * (sNx σ p0 k))) (tgt := 192) hx hb d_MD_groupOfFolder_185 (by decide) (by omega) (fun h5 => ?_) (fun h5 => ?_)
              · have hp : pRoom σ (sNx σ p0 k) = false := pRoom_3 h5
                refine lv_iconst (v := bI false) hx hb d_MD_groupOfFolder_192 (by decide) ?_
                refine lv_istore (lv' := [(8, .int (bI false)), (7, .int (nI (sNx σ p0 k))), (0, .ref (am 0)), (1, .int (nI p0)), (2, .int (bI sp)), (3, .int (nI (sFF σ (sCnt σ) / sCnt σ))), (4, .int (nI (sFB σ (sCnt σ) / sCnt σ))), (5, .int ((-1))), (6, .int (nI k))]) hx hb d_MD_groupOfFolder_193 hl (by decide) rfl (fun ls hl => ?_)
                refine lv_iload hx hb d_MD_groupOfFolder_195 (lv_at hl 0 rfl) ?_
                refine r_bz (b := false) (tgt := 205) hx hb d_MD_groupOfFolder_197 (by decide) (fun h9 => ?_) (fun h9 => ?_)
                · refine lv_iload hx hb d_MD_groupOfFolder_205 (lv_at hl 7 rfl) ?_
                  refine lv_istore (lv' := [(5, .int ((-1))), (8, .int (bI false)), (7, .int (nI (sNx σ p0 k))), (0, .ref (am 0)), (1, .int (nI p0)), (2, .int (bI sp)), (3, .int (nI (sFF σ (sCnt σ) / sCnt σ))), (4, .int (nI (sFB σ (sCnt σ) / sCnt σ))), (6, .int (nI k))]) hx hb d_MD_groupOfFolder_207 hl (by decide) rfl (fun ls hl => ?_)
                  refine lv_iinc (v := nI (k + 1)) (lv' := [(6, .int (nI (k + 1))), (5, .int ((-1))), (8, .int (bI false)), (7, .int (nI (sNx σ p0 k))), (0, .ref (am 0)), (1, .int (nI p0)), (2, .int (bI sp)), (3, .int (nI (sFF σ (sCnt σ) / sCnt σ))), (4, .int (nI (sFB σ (sCnt σ) / sCnt σ)))]) hx hb d_MD_groupOfFolder_209 hl (k := 8) rfl (nI_1 _) (by decide) rfl (fun ls hl => ?_)
                  refine lv_goto (tgt := 133) hx hb d_MD_groupOfFolder_212 (by decide) ?_
                  exact ih (k + 1) none (by omega) (by omega) ⟨fun z hz => (by cases hz), fun _ => ⟨q1, sFst_step q2 hp⟩⟩ _ _ _ hI (lv_sub hl [4, 5, 6, 7, 8, 1, 0] rfl)
                · exact absurd h9 (by decide)
              · have hp := pRoom_4 h3 h4 h5
                refine lv_iconst (v := bI true) hx hb d_MD_groupOfFolder_188 (by decide) ?_
                refine lv_goto (tgt := 193) hx hb d_MD_groupOfFolder_189 (by decide) ?_
                refine lv_istore (lv' := [(8, .int (bI true)), (7, .int (nI (sNx σ p0 k))), (0, .ref (am 0)), (1, .int (nI p0)), (2, .int (bI sp)), (3, .int (nI (sFF σ (sCnt σ) / sCnt σ))), (4, .int (nI (sFB σ (sCnt σ) / sCnt σ))), (5, .int ((-1))), (6, .int (nI k))]) hx hb d_MD_groupOfFolder_193 hl (by decide) rfl (fun ls hl => ?_)
                refine lv_iload hx hb d_MD_groupOfFolder_195 (lv_at hl 0 rfl) ?_
                refine r_bz (b := true) (tgt := 205) hx hb d_MD_groupOfFolder_197 (by decide) (fun h9 => ?_) (fun h9 => ?_)
                · exact absurd h9 (by decide)
                · refine lv_iload hx hb d_MD_groupOfFolder_200 (lv_at hl 1 rfl) ?_
                  refine lv_goto (tgt := 207) hx hb d_MD_groupOfFolder_202 (by decide) ?_
                  refine lv_istore (lv' := [(5, .int (nI (sNx σ p0 k))), (8, .int (bI true)), (7, .int (nI (sNx σ p0 k))), (0, .ref (am 0)), (1, .int (nI p0)), (2, .int (bI sp)), (3, .int (nI (sFF σ (sCnt σ) / sCnt σ))), (4, .int (nI (sFB σ (sCnt σ) / sCnt σ))), (6, .int (nI k))]) hx hb d_MD_groupOfFolder_207 hl (by decide) rfl (fun ls hl => ?_)
                  refine lv_iinc (v := nI (k + 1)) (lv' := [(6, .int (nI (k + 1))), (5, .int (nI (sNx σ p0 k))), (8, .int (bI true)), (7, .int (nI (sNx σ p0 k))), (0, .ref (am 0)), (1, .int (nI p0)), (2, .int (bI sp)), (3, .int (nI (sFF σ (sCnt σ) / sCnt σ))), (4, .int (nI (sFB σ (sCnt σ) / sCnt σ)))]) hx hb d_MD_groupOfFolder_209 hl (k := 8) rfl (nI_1 _) (by decide) rfl (fun ls hl => ?_)
                  refine lv_goto (tgt := 133) hx hb d_MD_groupOfFolder_212 (by decide) ?_
                  exact ih (k + 1) (some (sNx σ p0 k)) (by omega) (by omega) ⟨fun z hz => (by cases hz; exact ⟨hx4, by rw [sFolG, q1]; dsimp only; rw [sFst_some q2 hp h]⟩), fun hz => (by cases hz)⟩ _ _ _ hI (lv_sub hl [4, 5, 6, 7, 8, 1, 0] rfl)
        · have hl : lv_has ls 9 [(0, .ref (am 0)), (1, .int (nI p0)), (2, .int (bI sp)), (3, .int (nI (sFF σ (sCnt σ) / sCnt σ))), (4, .int (nI (sFB σ (sCnt σ) / sCnt σ))), (5, .int (nI z)), (6, .int (nI k))] := hl
          have hz4 := (ho.1 z rfl).1
          refine lv_iload hx hb d_MD_groupOfFolder_142 (lv_at hl 5 rfl) ?_
          refine r_zge (a := z) (tgt := 215) hx hb d_MD_groupOfFolder_144 (by decide) (by omega) ?_
          exact t3 (some z) ⟨ho.1, fun hz => (by cases hz)⟩ _ _ _ hI (lv_sub hl [0, 1, 2, 3, 4, 5] rfl)
  have t1 : ∀ (o : Option Nat), (o = (if sp = true then sLeast σ p0 (sCnt σ) else none)) → ∀ (H : Heap) (locs : List Loc) (ls : Array Slot), gI D A s.heap (wm am cI cZ τ) H locs → lv_has ls 9 [(0, .ref (am 0)), (1, .int (nI p0)), (2, .int (bI sp)), (3, .int (nI (sFF σ (sCnt σ) / sCnt σ))), (4, .int (nI (sFB σ (sCnt σ) / sCnt σ))), (5, .int (oI o))] → W p l e ({ frames := 2, cells := 0, slots := 0, locals := 45 }) s m ([.ref (am 0), .int (nI p0), .int (bI sp)] : List Value).toArray below meth c H locs 0 0 (gQ D below ([.ref (am 0), .int (nI p0), .int (bI sp)] : List Value).toArray s A (wm am cI cZ τ) (some (.int (oI (sFolG σ p0 sp))))) (F0 m 130 ls []) := by
    intro o ho1 H locs ls hI hl
    refine lv_iconst (v := nI 0) hx hb d_MD_groupOfFolder_130 (by decide) ?_
    refine lv_istore (lv' := [(6, .int (nI 0)), (0, .ref (am 0)), (1, .int (nI p0)), (2, .int (bI sp)), (3, .int (nI (sFF σ (sCnt σ) / sCnt σ))), (4, .int (nI (sFB σ (sCnt σ) / sCnt σ))), (5, .int (oI o))]) hx hb d_MD_groupOfFolder_131 hl (by decide) rfl (fun ls hl => ?_)
    exact loop2 (sCnt σ + 1) 0 o (by omega) (Nat.zero_le _) ⟨fun z hz => (by have q3 : (if sp = true then sLeast σ p0 (sCnt σ) else none) = some z := ho1.symm.trans hz; exact ⟨sl_lt hσ q3, by rw [sFolG, q3]⟩), fun hz => ⟨ho1.symm.trans hz, rfl⟩⟩ _ _ _ hI (lv_sub hl [1, 2, 3, 4, 5, 6, 0] rfl)
  have loop : ∀ (fuel : Nat) (k : Nat) (o : Option Nat), sCnt σ + 1 ≤ fuel + k → (k ≤ sCnt σ) → (o = (if sp = true then sLeast σ p0 k else none)) → ∀ (H : Heap) (locs : List Loc) (ls : Array Slot), gI D A s.heap (wm am cI cZ τ) H locs → lv_has ls 9 [(0, .ref (am 0)), (1, .int (nI p0)), (2, .int (bI sp)), (3, .int (nI (sFF σ (sCnt σ) / sCnt σ))), (4, .int (nI (sFB σ (sCnt σ) / sCnt σ))), (5, .int (oI o)), (6, .int (nI k))] → W p l e ({ frames := 2, cells := 0, slots := 0, locals := 45 }) s m ([.ref (am 0), .int (nI p0), .int (bI sp)] : List Value).toArray below meth c H locs 0 0 (gQ D below ([.ref (am 0), .int (nI p0), .int (bI sp)] : List Value).toArray s A (wm am cI cZ τ) (some (.int (oI (sFolG σ p0 sp))))) (F0 m 27 ls []) := by
    intro fuel
    induction fuel with
    | zero => intro k o hfu hk ho; exact absurd hfu (by omega)
    | succ fuel ih =>
      intro k o hfu hk ho H locs ls hI hl
      refine lv_iload hx hb d_MD_groupOfFolder_27 (lv_at hl 6 rfl) ?_
      refine lv_aload_n hx hb d_MD_groupOfFolder_29 rfl (lv_at hl 0 rfl) ?_
      refine g_get (own := "GroupBitmapsModel") (C := R_MD) (T := F_MD) (N := 11) (ci := 3) (v := .int (nI (mGr τ))) hx hb hg ku_MD hown hK hI (0) (wm_0) rfl 1 (by decide) kw_471 rfl d_MD_groupOfFolder_30 ?_
      rw [show mGr τ = sCnt σ from hgr]
      refine r_ge (a := k) (b := sCnt σ) (tgt := 130) hx hb d_MD_groupOfFolder_33 (by decide) (by omega) (by omega) (fun h => ?_) (fun h => ?_)
      · obtain rfl : k = sCnt σ := by omega
        exact t1 o ho _ _ _ hI (lv_sub hl [0, 1, 2, 3, 4, 5] rfl)
      · refine lv_iload_n hx hb d_MD_groupOfFolder_36 rfl (lv_at hl 2 rfl) ?_
        refine r_bz (b := sp) (tgt := 130) hx hb d_MD_groupOfFolder_37 (by decide) (fun h2 => ?_) (fun h2 => ?_)
        · exact t1 o (by rw [ho, h2]; rfl) _ _ _ hI (lv_sub hl [0, 1, 2, 3, 4, 5] rfl)
        · rw [h2, if_pos rfl] at ho
          have hx4 := sNx_lt hσ p0 k
          have hfa1 := (hσ.2.2.2.1 (2 * (sNx σ p0 k)) (by omega)).2
          have hfb1 := (hσ.2.2.2.1 (2 * (sNx σ p0 k) + 1) (by omega)).2
          have hfdx := hσ.2.2.2.2 _ hx4
          rcases o with _ | z
          · have hl : lv_has ls 9 [(0, .ref (am 0)), (1, .int (nI p0)), (2, .int (bI sp)), (3, .int (nI (sFF σ (sCnt σ) / sCnt σ))), (4, .int (nI (sFB σ (sCnt σ) / sCnt σ))), (5, .int ((-1))), (6, .int (nI k))] := hl
            have es : sLeast σ p0 (k + 1) = sLeastN σ none (sNx σ p0 k) := by rw [ho]; rfl
            refine lv_iload_n hx hb d_MD_groupOfFolder_40 rfl (lv_at hl 1 rfl) ?_
            refine lv_iload hx hb d_MD_groupOfFolder_41 (lv_at hl 6 rfl) ?_
            refine r_iadd (a := p0) (b := k) hx hb d_MD_groupOfFolder_43 ?_
            refine lv_aload_n hx hb d_MD_groupOfFolder_44 rfl (lv_at hl 0 rfl) ?_
            refine g_get (own := "GroupBitmapsModel") (C := R_MD) (T := F_MD) (N := 11) (ci := 3) (v := .int (nI (mGr τ))) hx hb hg ku_MD hown hK hI (0) (wm_0) rfl 1 (by decide) kw_471 rfl d_MD_groupOfFolder_45 ?_
            refine r_irem (a := p0 + k) (b := mGr τ) hx hb (by omega) (by omega) (by omega) d_MD_groupOfFolder_48 ?_
            rw [show (p0 + k) % (mGr τ) = sNx σ p0 k from by rw [hgr]; rfl]
            refine lv_istore (lv' := [(7, .int (nI (sNx σ p0 k))), (0, .ref (am 0)), (1, .int (nI p0)), (2, .int (bI sp)), (3, .int (nI (sFF σ (sCnt σ) / sCnt σ))), (4, .int (nI (sFB σ (sCnt σ) / sCnt σ))), (5, .int ((-1))), (6, .int (nI k))]) hx hb d_MD_groupOfFolder_49 hl (by decide) rfl (fun ls hl => ?_)
            refine lv_aload_n hx hb d_MD_groupOfFolder_51 rfl (lv_at hl 1 rfl) ?_
            refine lv_iload hx hb d_MD_groupOfFolder_52 (lv_at hl 0 rfl) ?_
            refine g_callV (own := "GroupBitmapsModel") (C := "GroupBitmapsModel") (T := F_MD) (N := 11) (k := 1) (q0 := 0) (ci := 3) (a := am 0) (As := [.int (nI (sNx σ p0 k))]) (rest := []) (k_ff σ τ hR (sNx σ p0 k) hx4) hx hb hml hown hg hK hI hA kw_565 kw_567 kp_30 kw_4 kw_568 ky_MD_freeFiles ⟨Nat.le_of_ble_eq_true rfl, Nat.le_of_ble_eq_true rfl⟩ rfl rfl (wm_0) rfl rfl hl.1 (Nat.le_of_ble_eq_true rfl) ⟨Nat.zero_le _, Nat.zero_le _⟩ d_MD_groupOfFolder_54 rfl rfl (fun H locs hI => ?_)
            refine lv_iload_n hx hb d_MD_groupOfFolder_57 rfl (lv_at hl 4 rfl) ?_
            refine r_lt (a := sFr σ (2 * (sNx σ p0 k) + 1)) (b := sFF σ (sCnt σ) / sCnt σ) (tgt := 85) hx hb d_MD_groupOfFolder_58 (by decide) (by omega) (by omega) (fun h3 => ?_) (fun h3 => ?_)
            · have hp : pLeast σ (sNx σ p0 k) = false := pLeast_1 h3
              refine lv_iconst (v := bI false) hx hb d_MD_groupOfFolder_85 (by decide) ?_
              refine lv_istore (lv' := [(8, .int (bI false)), (7, .int (nI (sNx σ p0 k))), (0, .ref (am 0)), (1, .int (nI p0)), (2, .int (bI sp)), (3, .int (nI (sFF σ (sCnt σ) / sCnt σ))), (4, .int (nI (sFB σ (sCnt σ) / sCnt σ))), (5, .int ((-1))), (6, .int (nI k))]) hx hb d_MD_groupOfFolder_86 hl (by decide) rfl (fun ls hl => ?_)
              refine lv_iload hx hb d_MD_groupOfFolder_88 (lv_at hl 0 rfl) ?_
              refine r_bz (b := false) (tgt := 120) hx hb d_MD_groupOfFolder_90 (by decide) (fun h9 => ?_) (fun h9 => ?_)
              · refine lv_iload hx hb d_MD_groupOfFolder_120 (lv_at hl 7 rfl) ?_
                refine lv_istore (lv' := [(5, .int ((-1))), (8, .int (bI false)), (7, .int (nI (sNx σ p0 k))), (0, .ref (am 0)), (1, .int (nI p0)), (2, .int (bI sp)), (3, .int (nI (sFF σ (sCnt σ) / sCnt σ))), (4, .int (nI (sFB σ (sCnt σ) / sCnt σ))), (6, .int (nI k))]) hx hb d_MD_groupOfFolder_122 hl (by decide) rfl (fun ls hl => ?_)
                refine lv_iinc (v := nI (k + 1)) (lv' := [(6, .int (nI (k + 1))), (5, .int ((-1))), (8, .int (bI false)), (7, .int (nI (sNx σ p0 k))), (0, .ref (am 0)), (1, .int (nI p0)), (2, .int (bI sp)), (3, .int (nI (sFF σ (sCnt σ) / sCnt σ))), (4, .int (nI (sFB σ (sCnt σ) / sCnt σ)))]) hx hb d_MD_groupOfFolder_124 hl (k := 8) rfl (nI_1 _) (by decide) rfl (fun ls hl => ?_)
                refine lv_goto (tgt := 27) hx hb d_MD_groupOfFolder_127 (by decide) ?_
                exact ih (k + 1) none (by omega) (by omega) (by rw [h2, if_pos rfl, es, sLeastN, hp]; rfl) _ _ _ hI (lv_sub hl [4, 5, 6, 7, 8, 1, 0] rfl)
              · exact absurd h9 (by decide)
            · refine lv_aload_n hx hb d_MD_groupOfFolder_61 rfl (lv_at hl 1 rfl) ?_
              refine lv_iload hx hb d_MD_groupOfFolder_62 (lv_at hl 0 rfl) ?_
              refine g_callV (own := "GroupBitmapsModel") (C := "GroupBitmapsModel") (T := F_MD) (N := 11) (k := 1) (q0 := 0) (ci := 3) (a := am 0) (As := [.int (nI (sNx σ p0 k))]) (rest := []) (k_fb σ τ hR (sNx σ p0 k) hx4) hx hb hml hown hg hK hI hA kw_517 kw_519 kp_23 kw_4 kw_520 ky_MD_freeBlocks ⟨Nat.le_of_ble_eq_true rfl, Nat.le_of_ble_eq_true rfl⟩ rfl rfl (wm_0) rfl rfl hl.1 (Nat.le_of_ble_eq_true rfl) ⟨Nat.zero_le _, Nat.zero_le _⟩ d_MD_groupOfFolder_64 rfl rfl (fun H locs hI => ?_)
              refine lv_iload hx hb d_MD_groupOfFolder_67 (lv_at hl 5 rfl) ?_
              refine r_lt (a := sFr σ (2 * (sNx σ p0 k))) (b := sFB σ (sCnt σ) / sCnt σ) (tgt := 85) hx hb d_MD_groupOfFolder_69 (by decide) (by omega) (by omega) (fun h4 => ?_) (fun h4 => ?_)
              · have hp : pLeast σ (sNx σ p0 k) = false := pLeast_2 h4
                refine lv_iconst (v := bI false) hx hb d_MD_groupOfFolder_85 (by decide) ?_
                refine lv_istore (lv' := [(8, .int (bI false)), (7, .int (nI (sNx σ p0 k))), (0, .ref (am 0)), (1, .int (nI p0)), (2, .int (bI sp)), (3, .int (nI (sFF σ (sCnt σ) / sCnt σ))), (4, .int (nI (sFB σ (sCnt σ) / sCnt σ))), (5, .int ((-1))), (6, .int (nI k))]) hx hb d_MD_groupOfFolder_86 hl (by decide) rfl (fun ls hl => ?_)
                refine lv_iload hx hb d_MD_groupOfFolder_88 (lv_at hl 0 rfl) ?_
                refine r_bz (b := false) (tgt := 120) hx hb d_MD_groupOfFolder_90 (by decide) (fun h9 => ?_) (fun h9 => ?_)
                · refine lv_iload hx hb d_MD_groupOfFolder_120 (lv_at hl 7 rfl) ?_
                  refine lv_istore (lv' := [(5, .int ((-1))), (8, .int (bI false)), (7, .int (nI (sNx σ p0 k))), (0, .ref (am 0)), (1, .int (nI p0)), (2, .int (bI sp)), (3, .int (nI (sFF σ (sCnt σ) / sCnt σ))), (4, .int (nI (sFB σ (sCnt σ) / sCnt σ))), (6, .int (nI k))]) hx hb d_MD_groupOfFolder_122 hl (by decide) rfl (fun ls hl => ?_)
                  refine lv_iinc (v := nI (k + 1)) (lv' := [(6, .int (nI (k + 1))), (5, .int ((-1))), (8, .int (bI false)), (7, .int (nI (sNx σ p0 k))), (0, .ref (am 0)), (1, .int (nI p0)), (2, .int (bI sp)), (3, .int (nI (sFF σ (sCnt σ) / sCnt σ))), (4, .int (nI (sFB σ (sCnt σ) / sCnt σ)))]) hx hb d_MD_groupOfFolder_124 hl (k := 8) rfl (nI_1 _) (by decide) rfl (fun ls hl => ?_)
                  refine lv_goto (tgt := 27) hx hb d_MD_groupOfFolder_127 (by decide) ?_
                  exact ih (k + 1) none (by omega) (by omega) (by rw [h2, if_pos rfl, es, sLeastN, hp]; rfl) _ _ _ hI (lv_sub hl [4, 5, 6, 7, 8, 1, 0] rfl)
                · exact absurd h9 (by decide)
              · refine lv_aload_n hx hb d_MD_groupOfFolder_72 rfl (lv_at hl 1 rfl) ?_
                refine lv_iload hx hb d_MD_groupOfFolder_73 (lv_at hl 0 rfl) ?_
                refine g_callV (own := "GroupBitmapsModel") (C := "GroupBitmapsModel") (T := F_MD) (N := 11) (k := 1) (q0 := 0) (ci := 3) (a := am 0) (As := [.int (nI (sNx σ p0 k))]) (rest := []) (k_ff σ τ hR (sNx σ p0 k) hx4) hx hb hml hown hg hK hI hA kw_565 kw_567 kp_30 kw_4 kw_568 ky_MD_freeFiles ⟨Nat.le_of_ble_eq_true rfl, Nat.le_of_ble_eq_true rfl⟩ rfl rfl (wm_0) rfl rfl hl.1 (Nat.le_of_ble_eq_true rfl) ⟨Nat.zero_le _, Nat.zero_le _⟩ d_MD_groupOfFolder_75 rfl rfl (fun H locs hI => ?_)
                refine r_zle (a := sFr σ (2 * (sNx σ p0 k) + 1)) (tgt := 85) hx hb d_MD_groupOfFolder_78 (by decide) (by omega) (fun h5 => ?_) (fun h5 => ?_)
                · have hp : pLeast σ (sNx σ p0 k) = false := pLeast_0 h5
                  refine lv_iconst (v := bI false) hx hb d_MD_groupOfFolder_85 (by decide) ?_
                  refine lv_istore (lv' := [(8, .int (bI false)), (7, .int (nI (sNx σ p0 k))), (0, .ref (am 0)), (1, .int (nI p0)), (2, .int (bI sp)), (3, .int (nI (sFF σ (sCnt σ) / sCnt σ))), (4, .int (nI (sFB σ (sCnt σ) / sCnt σ))), (5, .int ((-1))), (6, .int (nI k))]) hx hb d_MD_groupOfFolder_86 hl (by decide) rfl (fun ls hl => ?_)
                  refine lv_iload hx hb d_MD_groupOfFolder_88 (lv_at hl 0 rfl) ?_
                  refine r_bz (b := false) (tgt := 120) hx hb d_MD_groupOfFolder_90 (by decide) (fun h9 => ?_) (fun h9 => ?_)
                  · refine lv_iload hx hb d_MD_groupOfFolder_120 (lv_at hl 7 rfl) ?_
                    refine lv_istore (lv' := [(5, .int ((-1))), (8, .int (bI false)), (7, .int (nI (sNx σ p0 k))), (0, .ref (am 0)), (1, .int (nI p0)), (2, .int (bI sp)), (3, .int (nI (sFF σ (sCnt σ) / sCnt σ))), (4, .int (nI (sFB σ (sCnt σ) / sCnt σ))), (6, .int (nI k))]) hx hb d_MD_groupOfFolder_122 hl (by decide) rfl (fun ls hl => ?_)
                    refine lv_iinc (v := nI (k + 1)) (lv' := [(6, .int (nI (k + 1))), (5, .int ((-1))), (8, .int (bI false)), (7, .int (nI (sNx σ p0 k))), (0, .ref (am 0)), (1, .int (nI p0)), (2, .int (bI sp)), (3, .int (nI (sFF σ (sCnt σ) / sCnt σ))), (4, .int (nI (sFB σ (sCnt σ) / sCnt σ)))]) hx hb d_MD_groupOfFolder_124 hl (k := 8) rfl (nI_1 _) (by decide) rfl (fun ls hl => ?_)
                    refine lv_goto (tgt := 27) hx hb d_MD_groupOfFolder_127 (by decide) ?_
                    exact ih (k + 1) none (by omega) (by omega) (by rw [h2, if_pos rfl, es, sLeastN, hp]; rfl) _ _ _ hI (lv_sub hl [4, 5, 6, 7, 8, 1, 0] rfl)
                  · exact absurd h9 (by decide)
                · have hp := pLeast_3 h3 h4 h5
                  refine lv_iconst (v := bI true) hx hb d_MD_groupOfFolder_81 (by decide) ?_
                  refine lv_goto (tgt := 86) hx hb d_MD_groupOfFolder_82 (by decide) ?_
                  refine lv_istore (lv' := [(8, .int (bI true)), (7, .int (nI (sNx σ p0 k))), (0, .ref (am 0)), (1, .int (nI p0)), (2, .int (bI sp)), (3, .int (nI (sFF σ (sCnt σ) / sCnt σ))), (4, .int (nI (sFB σ (sCnt σ) / sCnt σ))), (5, .int ((-1))), (6, .int (nI k))]) hx hb d_MD_groupOfFolder_86 hl (by decide) rfl (fun ls hl => ?_)
                  refine lv_iload hx hb d_MD_groupOfFolder_88 (lv_at hl 0 rfl) ?_
                  refine r_bz (b := true) (tgt := 120) hx hb d_MD_groupOfFolder_90 (by decide) (fun h9 => ?_) (fun h9 => ?_)
                  · exact absurd h9 (by decide)
                  · refine lv_iload hx hb d_MD_groupOfFolder_93 (lv_at hl 7 rfl) ?_
                    refine lv_if_lt (tgt := 115) hx hb d_MD_groupOfFolder_95 (by decide) (fun _ => ?_) (fun h9 => absurd (by decide) h9)
                    refine lv_iload hx hb d_MD_groupOfFolder_115 (lv_at hl 1 rfl) ?_
                    refine lv_goto (tgt := 122) hx hb d_MD_groupOfFolder_117 (by decide) ?_
                    refine lv_istore (lv' := [(5, .int (nI (sNx σ p0 k))), (8, .int (bI true)), (7, .int (nI (sNx σ p0 k))), (0, .ref (am 0)), (1, .int (nI p0)), (2, .int (bI sp)), (3, .int (nI (sFF σ (sCnt σ) / sCnt σ))), (4, .int (nI (sFB σ (sCnt σ) / sCnt σ))), (6, .int (nI k))]) hx hb d_MD_groupOfFolder_122 hl (by decide) rfl (fun ls hl => ?_)
                    refine lv_iinc (v := nI (k + 1)) (lv' := [(6, .int (nI (k + 1))), (5, .int (nI (sNx σ p0 k))), (8, .int (bI true)), (7, .int (nI (sNx σ p0 k))), (0, .ref (am 0)), (1, .int (nI p0)), (2, .int (bI sp)), (3, .int (nI (sFF σ (sCnt σ) / sCnt σ))), (4, .int (nI (sFB σ (sCnt σ) / sCnt σ)))]) hx hb d_MD_groupOfFolder_124 hl (k := 8) rfl (nI_1 _) (by decide) rfl (fun ls hl => ?_)
                    refine lv_goto (tgt := 27) hx hb d_MD_groupOfFolder_127 (by decide) ?_
                    exact ih (k + 1) (some (sNx σ p0 k)) (by omega) (by omega) (by rw [h2, if_pos rfl, es, sLeastN, hp]; rfl) _ _ _ hI (lv_sub hl [4, 5, 6, 7, 8, 1, 0] rfl)
          · have hl : lv_has ls 9 [(0, .ref (am 0)), (1, .int (nI p0)), (2, .int (bI sp)), (3, .int (nI (sFF σ (sCnt σ) / sCnt σ))), (4, .int (nI (sFB σ (sCnt σ) / sCnt σ))), (5, .int (nI z)), (6, .int (nI k))] := hl
            have hz4 := sLeast_lt hσ ho.symm
            have hfdz := hσ.2.2.2.2 _ hz4
            have es : sLeast σ p0 (k + 1) = sLeastN σ (some z) (sNx σ p0 k) := by rw [ho]; rfl
            refine lv_iload_n hx hb d_MD_groupOfFolder_40 rfl (lv_at hl 1 rfl) ?_
            refine lv_iload hx hb d_MD_groupOfFolder_41 (lv_at hl 6 rfl) ?_
            refine r_iadd (a := p0) (b := k) hx hb d_MD_groupOfFolder_43 ?_
            refine lv_aload_n hx hb d_MD_groupOfFolder_44 rfl (lv_at hl 0 rfl) ?_
            refine g_get (own := "GroupBitmapsModel") (C := R_MD) (T := F_MD) (N := 11) (ci := 3) (v := .int (nI (mGr τ))) hx hb hg ku_MD hown hK hI (0) (wm_0) rfl 1 (by decide) kw_471 rfl d_MD_groupOfFolder_45 ?_
            refine r_irem (a := p0 + k) (b := mGr τ) hx hb (by omega) (by omega) (by omega) d_MD_groupOfFolder_48 ?_
            rw [show (p0 + k) % (mGr τ) = sNx σ p0 k from by rw [hgr]; rfl]
            refine lv_istore (lv' := [(7, .int (nI (sNx σ p0 k))), (0, .ref (am 0)), (1, .int (nI p0)), (2, .int (bI sp)), (3, .int (nI (sFF σ (sCnt σ) / sCnt σ))), (4, .int (nI (sFB σ (sCnt σ) / sCnt σ))), (5, .int (nI z)), (6, .int (nI k))]) hx hb d_MD_groupOfFolder_49 hl (by decide) rfl (fun ls hl => ?_)
            refine lv_aload_n hx hb d_MD_groupOfFolder_51 rfl (lv_at hl 1 rfl) ?_
            refine lv_iload hx hb d_MD_groupOfFolder_52 (lv_at hl 0 rfl) ?_
            refine g_callV (own := "GroupBitmapsModel") (C := "GroupBitmapsModel") (T := F_MD) (N := 11) (k := 1) (q0 := 0) (ci := 3) (a := am 0) (As := [.int (nI (sNx σ p0 k))]) (rest := []) (k_ff σ τ hR (sNx σ p0 k) hx4) hx hb hml hown hg hK hI hA kw_565 kw_567 kp_30 kw_4 kw_568 ky_MD_freeFiles ⟨Nat.le_of_ble_eq_true rfl, Nat.le_of_ble_eq_true rfl⟩ rfl rfl (wm_0) rfl rfl hl.1 (Nat.le_of_ble_eq_true rfl) ⟨Nat.zero_le _, Nat.zero_le _⟩ d_MD_groupOfFolder_54 rfl rfl (fun H locs hI => ?_)
            refine lv_iload_n hx hb d_MD_groupOfFolder_57 rfl (lv_at hl 4 rfl) ?_
            refine r_lt (a := sFr σ (2 * (sNx σ p0 k) + 1)) (b := sFF σ (sCnt σ) / sCnt σ) (tgt := 85) hx hb d_MD_groupOfFolder_58 (by decide) (by omega) (by omega) (fun h3 => ?_) (fun h3 => ?_)
            · have hp : pLeast σ (sNx σ p0 k) = false := pLeast_1 h3
              refine lv_iconst (v := bI false) hx hb d_MD_groupOfFolder_85 (by decide) ?_
              refine lv_istore (lv' := [(8, .int (bI false)), (7, .int (nI (sNx σ p0 k))), (0, .ref (am 0)), (1, .int (nI p0)), (2, .int (bI sp)), (3, .int (nI (sFF σ (sCnt σ) / sCnt σ))), (4, .int (nI (sFB σ (sCnt σ) / sCnt σ))), (5, .int (nI z)), (6, .int (nI k))]) hx hb d_MD_groupOfFolder_86 hl (by decide) rfl (fun ls hl => ?_)
              refine lv_iload hx hb d_MD_groupOfFolder_88 (lv_at hl 0 rfl) ?_
              refine r_bz (b := false) (tgt := 120) hx hb d_MD_groupOfFolder_90 (by decide) (fun h9 => ?_) (fun h9 => ?_)
              · refine lv_iload hx hb d_MD_groupOfFolder_120 (lv_at hl 7 rfl) ?_
                refine lv_istore (lv' := [(5, .int (nI z)), (8, .int (bI false)), (7, .int (nI (sNx σ p0 k))), (0, .ref (am 0)), (1, .int (nI p0)), (2, .int (bI sp)), (3, .int (nI (sFF σ (sCnt σ) / sCnt σ))), (4, .int (nI (sFB σ (sCnt σ) / sCnt σ))), (6, .int (nI k))]) hx hb d_MD_groupOfFolder_122 hl (by decide) rfl (fun ls hl => ?_)
                refine lv_iinc (v := nI (k + 1)) (lv' := [(6, .int (nI (k + 1))), (5, .int (nI z)), (8, .int (bI false)), (7, .int (nI (sNx σ p0 k))), (0, .ref (am 0)), (1, .int (nI p0)), (2, .int (bI sp)), (3, .int (nI (sFF σ (sCnt σ) / sCnt σ))), (4, .int (nI (sFB σ (sCnt σ) / sCnt σ)))]) hx hb d_MD_groupOfFolder_124 hl (k := 8) rfl (nI_1 _) (by decide) rfl (fun ls hl => ?_)
                refine lv_goto (tgt := 27) hx hb d_MD_groupOfFolder_127 (by decide) ?_
                exact ih (k + 1) (some z) (by omega) (by omega) (by rw [h2, if_pos rfl, es, sLeastN, hp]; rfl) _ _ _ hI (lv_sub hl [4, 5, 6, 7, 8, 1, 0] rfl)
              · exact absurd h9 (by decide)
            · refine lv_aload_n hx hb d_MD_groupOfFolder_61 rfl (lv_at hl 1 rfl) ?_
              refine lv_iload hx hb d_MD_groupOfFolder_62 (lv_at hl 0 rfl) ?_
              refine g_callV (own := "GroupBitmapsModel") (C := "GroupBitmapsModel") (T := F_MD) (N := 11) (k := 1) (q0 := 0) (ci := 3) (a := am 0) (As := [.int (nI (sNx σ p0 k))]) (rest := []) (k_fb σ τ hR (sNx σ p0 k) hx4) hx hb hml hown hg hK hI hA kw_517 kw_519 kp_23 kw_4 kw_520 ky_MD_freeBlocks ⟨Nat.le_of_ble_eq_true rfl, Nat.le_of_ble_eq_true rfl⟩ rfl rfl (wm_0) rfl rfl hl.1 (Nat.le_of_ble_eq_true rfl) ⟨Nat.zero_le _, Nat.zero_le _⟩ d_MD_groupOfFolder_64 rfl rfl (fun H locs hI => ?_)
              refine lv_iload hx hb d_MD_groupOfFolder_67 (lv_at hl 5 rfl) ?_
              refine r_lt (a := sFr σ (2 * (sNx σ p0 k))) (b := sFB σ (sCnt σ) / sCnt σ) (tgt := 85) hx hb d_MD_groupOfFolder_69 (by decide) (by omega) (by omega) (fun h4 => ?_) (fun h4 => ?_)
              · have hp : pLeast σ (sNx σ p0 k) = false := pLeast_2 h4
                refine lv_iconst (v := bI false) hx hb d_MD_groupOfFolder_85 (by decide) ?_
                refine lv_istore (lv' := [(8, .int (bI false)), (7, .int (nI (sNx σ p0 k))), (0, .ref (am 0)), (1, .int (nI p0)), (2, .int (bI sp)), (3, .int (nI (sFF σ (sCnt σ) / sCnt σ))), (4, .int (nI (sFB σ (sCnt σ) / sCnt σ))), (5, .int (nI z)), (6, .int (nI k))]) hx hb d_MD_groupOfFolder_86 hl (by decide) rfl (fun ls hl => ?_)
                refine lv_iload hx hb d_MD_groupOfFolder_88 (lv_at hl 0 rfl) ?_
                refine r_bz (b := false) (tgt := 120) hx hb d_MD_groupOfFolder_90 (by decide) (fun h9 => ?_) (fun h9 => ?_)
                · refine lv_iload hx hb d_MD_groupOfFolder_120 (lv_at hl 7 rfl) ?_
                  refine lv_istore (lv' := [(5, .int (nI z)), (8, .int (bI false)), (7, .int (nI (sNx σ p0 k))), (0, .ref (am 0)), (1, .int (nI p0)), (2, .int (bI sp)), (3, .int (nI (sFF σ (sCnt σ) / sCnt σ))), (4, .int (nI (sFB σ (sCnt σ) / sCnt σ))), (6, .int (nI k))]) hx hb d_MD_groupOfFolder_122 hl (by decide) rfl (fun ls hl => ?_)
                  refine lv_iinc (v := nI (k + 1)) (lv' := [(6, .int (nI (k + 1))), (5, .int (nI z)), (8, .int (bI false)), (7, .int (nI (sNx σ p0 k))), (0, .ref (am 0)), (1, .int (nI p0)), (2, .int (bI sp)), (3, .int (nI (sFF σ (sCnt σ) / sCnt σ))), (4, .int (nI (sFB σ (sCnt σ) / sCnt σ)))]) hx hb d_MD_groupOfFolder_124 hl (k := 8) rfl (nI_1 _) (by decide) rfl (fun ls hl => ?_)
                  refine lv_goto (tgt := 27) hx hb d_MD_groupOfFolder_127 (by decide) ?_
                  exact ih (k + 1) (some z) (by omega) (by omega) (by rw [h2, if_pos rfl, es, sLeastN, hp]; rfl) _ _ _ hI (lv_sub hl [4, 5, 6, 7, 8, 1, 0] rfl)
                · exact absurd h9 (by decide)
              · refine lv_aload_n hx hb d_MD_groupOfFolder_72 rfl (lv_at hl 1 rfl) ?_
                refine lv_iload hx hb d_MD_groupOfFolder_73 (lv_at hl 0 rfl) ?_
                refine g_callV (own := "GroupBitmapsModel") (C := "GroupBitmapsModel") (T := F_MD) (N := 11) (k := 1) (q0 := 0) (ci := 3) (a := am 0) (As := [.int (nI (sNx σ p0 k))]) (rest := []) (k_ff σ τ hR (sNx σ p0 k) hx4) hx hb hml hown hg hK hI hA kw_565 kw_567 kp_30 kw_4 kw_568 ky_MD_freeFiles ⟨Nat.le_of_ble_eq_true rfl, Nat.le_of_ble_eq_true rfl⟩ rfl rfl (wm_0) rfl rfl hl.1 (Nat.le_of_ble_eq_true rfl) ⟨Nat.zero_le _, Nat.zero_le _⟩ d_MD_groupOfFolder_75 rfl rfl (fun H locs hI => ?_)
                refine r_zle (a := sFr σ (2 * (sNx σ p0 k) + 1)) (tgt := 85) hx hb d_MD_groupOfFolder_78 (by decide) (by omega) (fun h5 => ?_) (fun h5 => ?_)
                · have hp : pLeast σ (sNx σ p0 k) = false := pLeast_0 h5
                  refine lv_iconst (v := bI false) hx hb d_MD_groupOfFolder_85 (by decide) ?_
                  refine lv_istore (lv' := [(8, .int (bI false)), (7, .int (nI (sNx σ p0 k))), (0, .ref (am 0)), (1, .int (nI p0)), (2, .int (bI sp)), (3, .int (nI (sFF σ (sCnt σ) / sCnt σ))), (4, .int (nI (sFB σ (sCnt σ) / sCnt σ))), (5, .int (nI z)), (6, .int (nI k))]) hx hb d_MD_groupOfFolder_86 hl (by decide) rfl (fun ls hl => ?_)
                  refine lv_iload hx hb d_MD_groupOfFolder_88 (lv_at hl 0 rfl) ?_
                  refine r_bz (b := false) (tgt := 120) hx hb d_MD_groupOfFolder_90 (by decide) (fun h9 => ?_) (fun h9 => ?_)
                  · refine lv_iload hx hb d_MD_groupOfFolder_120 (lv_at hl 7 rfl) ?_
                    refine lv_istore (lv' := [(5, .int (nI z)), (8, .int (bI false)), (7, .int (nI (sNx σ p0 k))), (0, .ref (am 0)), (1, .int (nI p0)), (2, .int (bI sp)), (3, .int (nI (sFF σ (sCnt σ) / sCnt σ))), (4, .int (nI (sFB σ (sCnt σ) / sCnt σ))), (6, .int (nI k))]) hx hb d_MD_groupOfFolder_122 hl (by decide) rfl (fun ls hl => ?_)
                    refine lv_iinc (v := nI (k + 1)) (lv' := [(6, .int (nI (k + 1))), (5, .int (nI z)), (8, .int (bI false)), (7, .int (nI (sNx σ p0 k))), (0, .ref (am 0)), (1, .int (nI p0)), (2, .int (bI sp)), (3, .int (nI (sFF σ (sCnt σ) / sCnt σ))), (4, .int (nI (sFB σ (sCnt σ) / sCnt σ)))]) hx hb d_MD_groupOfFolder_124 hl (k := 8) rfl (nI_1 _) (by decide) rfl (fun ls hl => ?_)
                    refine lv_goto (tgt := 27) hx hb d_MD_groupOfFolder_127 (by decide) ?_
                    exact ih (k + 1) (some z) (by omega) (by omega) (by rw [h2, if_pos rfl, es, sLeastN, hp]; rfl) _ _ _ hI (lv_sub hl [4, 5, 6, 7, 8, 1, 0] rfl)
                  · exact absurd h9 (by decide)
                · have hp := pLeast_3 h3 h4 h5
                  refine lv_iconst (v := bI true) hx hb d_MD_groupOfFolder_81 (by decide) ?_
                  refine lv_goto (tgt := 86) hx hb d_MD_groupOfFolder_82 (by decide) ?_
                  refine lv_istore (lv' := [(8, .int (bI true)), (7, .int (nI (sNx σ p0 k))), (0, .ref (am 0)), (1, .int (nI p0)), (2, .int (bI sp)), (3, .int (nI (sFF σ (sCnt σ) / sCnt σ))), (4, .int (nI (sFB σ (sCnt σ) / sCnt σ))), (5, .int (nI z)), (6, .int (nI k))]) hx hb d_MD_groupOfFolder_86 hl (by decide) rfl (fun ls hl => ?_)
                  refine lv_iload hx hb d_MD_groupOfFolder_88 (lv_at hl 0 rfl) ?_
                  refine r_bz (b := true) (tgt := 120) hx hb d_MD_groupOfFolder_90 (by decide) (fun h9 => ?_) (fun h9 => ?_)
                  · exact absurd h9 (by decide)
                  · refine lv_iload hx hb d_MD_groupOfFolder_93 (lv_at hl 7 rfl) ?_
                    refine r_zlt (a := z) (tgt := 115) hx hb d_MD_groupOfFolder_95 (by decide) (by omega) ?_
                    refine lv_aload_n hx hb d_MD_groupOfFolder_98 rfl (lv_at hl 2 rfl) ?_
                    refine g_get (own := "GroupBitmapsModel") (C := R_MD) (T := F_MD) (N := 11) (ci := 3) (v := .ref (am 4)) hx hb hg ku_MD hown hK hI (0) (wm_0) rfl 5 (by decide) kw_475 rfl d_MD_groupOfFolder_99 ?_
                    refine lv_iload hx hb d_MD_groupOfFolder_102 (lv_at hl 1 rfl) ?_
                    refine g_iald (F := (mFd τ)) (i := sNx σ p0 k) hx hb hK hI (4) 2 (wm_Fd) rfl (hx4) (by omega) d_MD_groupOfFolder_104 ?_
                    rw [show (mFd τ) (sNx σ p0 k) = sFd σ (sNx σ p0 k) from hR.fd hx4]
                    refine lv_aload_n hx hb d_MD_groupOfFolder_105 rfl (lv_at hl 2 rfl) ?_
                    refine g_get (own := "GroupBitmapsModel") (C := R_MD) (T := F_MD) (N := 11) (ci := 3) (v := .ref (am 4)) hx hb hg ku_MD hown hK hI (0) (wm_0) rfl 5 (by decide) kw_475 rfl d_MD_groupOfFolder_106 ?_
                    refine lv_iload hx hb d_MD_groupOfFolder_109 (lv_at hl 7 rfl) ?_
                    refine g_iald (F := (mFd τ)) (i := z) hx hb hK hI (4) 2 (wm_Fd) rfl (hz4) (by omega) d_MD_groupOfFolder_111 ?_
                    rw [show (mFd τ) z = sFd σ z from hR.fd hz4]
                    refine r_ge (a := sFd σ (sNx σ p0 k)) (b := sFd σ z) (tgt := 120) hx hb d_MD_groupOfFolder_112 (by decide) (by omega) (by omega) (fun h6 => ?_) (fun h6 => ?_)
                    · refine lv_iload hx hb d_MD_groupOfFolder_120 (lv_at hl 7 rfl) ?_
                      refine lv_istore (lv' := [(5, .int (nI z)), (8, .int (bI true)), (7, .int (nI (sNx σ p0 k))), (0, .ref (am 0)), (1, .int (nI p0)), (2, .int (bI sp)), (3, .int (nI (sFF σ (sCnt σ) / sCnt σ))), (4, .int (nI (sFB σ (sCnt σ) / sCnt σ))), (6, .int (nI k))]) hx hb d_MD_groupOfFolder_122 hl (by decide) rfl (fun ls hl => ?_)
                      refine lv_iinc (v := nI (k + 1)) (lv' := [(6, .int (nI (k + 1))), (5, .int (nI z)), (8, .int (bI true)), (7, .int (nI (sNx σ p0 k))), (0, .ref (am 0)), (1, .int (nI p0)), (2, .int (bI sp)), (3, .int (nI (sFF σ (sCnt σ) / sCnt σ))), (4, .int (nI (sFB σ (sCnt σ) / sCnt σ)))]) hx hb d_MD_groupOfFolder_124 hl (k := 8) rfl (nI_1 _) (by decide) rfl (fun ls hl => ?_)
                      refine lv_goto (tgt := 27) hx hb d_MD_groupOfFolder_127 (by decide) ?_
                      exact ih (k + 1) (some z) (by omega) (by omega) (by rw [h2, if_pos rfl, es, sLeastN, if_pos hp]; exact (if_neg (Nat.not_lt.mpr h6)).symm) _ _ _ hI (lv_sub hl [4, 5, 6, 7, 8, 1, 0] rfl)
                    · refine lv_iload hx hb d_MD_groupOfFolder_115 (lv_at hl 1 rfl) ?_
                      refine lv_goto (tgt := 122) hx hb d_MD_groupOfFolder_117 (by decide) ?_
                      refine lv_istore (lv' := [(5, .int (nI (sNx σ p0 k))), (8, .int (bI true)), (7, .int (nI (sNx σ p0 k))), (0, .ref (am 0)), (1, .int (nI p0)), (2, .int (bI sp)), (3, .int (nI (sFF σ (sCnt σ) / sCnt σ))), (4, .int (nI (sFB σ (sCnt σ) / sCnt σ))), (6, .int (nI k))]) hx hb d_MD_groupOfFolder_122 hl (by decide) rfl (fun ls hl => ?_)
                      refine lv_iinc (v := nI (k + 1)) (lv' := [(6, .int (nI (k + 1))), (5, .int (nI (sNx σ p0 k))), (8, .int (bI true)), (7, .int (nI (sNx σ p0 k))), (0, .ref (am 0)), (1, .int (nI p0)), (2, .int (bI sp)), (3, .int (nI (sFF σ (sCnt σ) / sCnt σ))), (4, .int (nI (sFB σ (sCnt σ) / sCnt σ)))]) hx hb d_MD_groupOfFolder_124 hl (k := 8) rfl (nI_1 _) (by decide) rfl (fun ls hl => ?_)
                      refine lv_goto (tgt := 27) hx hb d_MD_groupOfFolder_127 (by decide) ?_
                      exact ih (k + 1) (some (sNx σ p0 k)) (by omega) (by omega) (by rw [h2, if_pos rfl, es, sLeastN, if_pos hp]; exact (if_pos h6).symm) _ _ _ hI (lv_sub hl [4, 5, 6, 7, 8, 1, 0] rfl)
  exact loop (sCnt σ + 1) 0 none (by omega) (Nat.zero_le _) (by cases sp <;> rfl) _ _ _ hI (lv_sub hl [4, 5, 6, 3, 2, 1, 0] rfl)
