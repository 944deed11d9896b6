set_option maxHeartbeats 4000000 in
set_option maxRecDepth 100000 in
theorem c_MD_give {l : Launch} {D : va_G} {cG cZ cI cJ : ClassId} {am : Nat → Nat} (σ : gS) (τ : mS) (N : Nat) (hK0 : RK N σ τ) (hN : N < 65536) (a q : Nat) (hq1 : 1 ≤ q) (hq : q ≤ 1024) (haq : a + q ≤ sAll σ) (hgv : sGv σ a q = true) : gMet l D (gT cG cZ cI cJ) y_MD_give b_MD_give 6 (some .int) ({ frames := 3, cells := 0, slots := 0, locals := 64 }) (wm am cI cZ τ) [.ref (am 0), .int (nI a), .int (nI q)] (wm am cI cZ (mMark (vTh τ 0) a false q)) (some (.int (nI (sFB (uTT (sGives σ a q) true) (sCnt (uTT (sGives σ a q) true)))))) := by
  refine gMet_of (by decide) (Nat.le_of_ble_eq_true rfl) ?_
  intro p e s m below meth c A ls hC hA hI hl
  obtain ⟨hx, hb, hr, hlk, hown, hml, hg, hK⟩ := hC
  have hown : s.vm.findClass "GroupBitmapsModel" = some m.cls := hown
  have hl : lv_has ls 6 [(0, .ref (am 0)), (1, .int (nI a)), (2, .int (nI q))] := hl
  have hR := hK0.ri hN
  have hτ := hR.ok
  have hσ := hR.sb
  have hgr := hR.gr
  have hc1 := hσ.1
  have hc2 := hσ.2.1
  have hal := sAll_le hσ
  have hR1 := ((hK0.th 0).give hN haq hgv).ri hN
  refine lv_iload_n hx hb d_MD_give_0 rfl (lv_at hl 2 rfl) ?_
  refine lv_iconst (v := nI 1) hx hb d_MD_give_1 (by decide) ?_
  refine r_lt (a := q) (b := 1) (tgt := 16) hx hb d_MD_give_2 (by decide) (by omega) (by omega) (fun h9 => ?_) (fun h9 => ?_)
  · exact absurd h9 (by omega)
  · refine lv_iload_n hx hb d_MD_give_5 rfl (lv_at hl 2 rfl) ?_
    refine lv_sipush (v := nI 1024) hx hb d_MD_give_6 (by decide) ?_
    refine r_gt (a := q) (b := 1024) (tgt := 16) hx hb d_MD_give_9 (by decide) (by omega) (by omega) (fun h9 => ?_) (fun h9 => ?_)
    · exact absurd h9 (by omega)
    · refine lv_iconst (v := bI true) hx hb d_MD_give_12 (by decide) ?_
      refine lv_goto (tgt := 17) hx hb d_MD_give_13 (by decide) ?_
      refine lv_istore_n (lv' := [(3, .int (bI true)), (0, .ref (am 0)), (1, .int (nI a)), (2, .int (nI q))]) hx hb d_MD_give_17 rfl hl (by decide) rfl (fun ls hl => ?_)
      refine lv_iconst (v := nI 0) hx hb d_MD_give_18 (by decide) ?_
      refine lv_istore (lv' := [(4, .int (nI 0)), (3, .int (bI true)), (0, .ref (am 0)), (1, .int (nI a)), (2, .int (nI q))]) hx hb d_MD_give_19 hl (by decide) rfl (fun ls hl => ?_)
      have loop : ∀ (fuel : Nat) (k : Nat), q + 1 ≤ fuel + k → (k ≤ q) → ∀ (H : Heap) (locs : List Loc) (ls : Array Slot), gI D A s.heap (wm am cI cZ τ) H locs → lv_has ls 6 [(0, .ref (am 0)), (1, .int (nI a)), (2, .int (nI q)), (3, .int (bI true)), (4, .int (nI k))] → W p l e ({ frames := 3, cells := 0, slots := 0, locals := 64 }) s m ([.ref (am 0), .int (nI a), .int (nI q)] : List Value).toArray below meth c H locs 0 0 (gQ D below ([.ref (am 0), .int (nI a), .int (nI q)] : List Value).toArray s A (wm am cI cZ (mMark (vTh τ 0) a false q)) (some (.int (nI (sFB (uTT (sGives σ a q) true) (sCnt (uTT (sGives σ a q) true))))))) (F0 m 21 ls []) := by
        intro fuel
        induction fuel with
        | zero => intro k hfu hk; exact absurd hfu (by omega)
        | succ fuel ih =>
          intro k hfu hk H locs ls hI hl
          refine lv_iload hx hb d_MD_give_21 (lv_at hl 4 rfl) ?_
          refine lv_iload_n hx hb d_MD_give_23 rfl (lv_at hl 2 rfl) ?_
          refine r_ge (a := k) (b := q) (tgt := 65) hx hb d_MD_give_24 (by decide) (by omega) (by omega) (fun h => ?_) (fun h => ?_)
          · refine lv_aload_n hx hb d_MD_give_65 rfl (lv_at hl 0 rfl) ?_
            refine lv_iload_n hx hb d_MD_give_66 rfl (lv_at hl 3 rfl) ?_
            refine r_bz (b := true) (tgt := 74) hx hb d_MD_give_67 (by decide) (fun h9 => ?_) (fun h9 => ?_)
            · exact absurd h9 (by decide)
            · refine lv_iconst (v := nI 0) hx hb d_MD_give_70 (by decide) ?_
              refine lv_goto (tgt := 75) hx hb d_MD_give_71 (by decide) ?_
              refine g_put (ws' := (wm am cI cZ (vTh τ 0))) (own := "GroupBitmapsModel") (C := R_MD) (T := F_MD) (N := 11) (ci := 3) (v := .int (nI 0)) hx hb hg ku_MD t_MD t_MD_ok n_MD hown hK hI (0) (wm_0) rfl 0 (by decide) kw_470 rfl rfl (rfl) (rfl) (Nat.le_of_ble_eq_true rfl) (wm_vTh) d_MD_give_75 (fun H locs hI => ?_)
              refine lv_iconst (v := nI 0) hx hb d_MD_give_78 (by decide) ?_
              refine lv_istore (lv' := [(4, .int (nI 0)), (0, .ref (am 0)), (1, .int (nI a)), (2, .int (nI q)), (3, .int (bI true))]) hx hb d_MD_give_79 hl (by decide) rfl (fun ls hl => ?_)
              have loop2 : ∀ (fuel : Nat) (k : Nat), q + 1 ≤ fuel + k → (k ≤ q) → ∀ (H : Heap) (locs : List Loc) (ls : Array Slot), gI D A s.heap (wm am cI cZ (vTh τ (thv (sGv σ a k)))) H locs → lv_has ls 6 [(0, .ref (am 0)), (1, .int (nI a)), (2, .int (nI q)), (3, .int (bI true)), (4, .int (nI k))] → W p l e ({ frames := 3, cells := 0, slots := 0, locals := 64 }) s m ([.ref (am 0), .int (nI a), .int (nI q)] : List Value).toArray below meth c H locs 0 0 (gQ D below ([.ref (am 0), .int (nI a), .int (nI q)] : List Value).toArray s A (wm am cI cZ (mMark (vTh τ 0) a false q)) (some (.int (nI (sFB (uTT (sGives σ a q) true) (sCnt (uTT (sGives σ a q) true))))))) (F0 m 81 ls []) := by
                intro fuel
                induction fuel with
                | zero => intro k hfu hk; exact absurd hfu (by omega)
                | succ fuel ih2 =>
                  intro k hfu hk H locs ls hI hl
                  refine lv_iload hx hb d_MD_give_81 (lv_at hl 4 rfl) ?_
                  refine lv_iload_n hx hb d_MD_give_83 rfl (lv_at hl 2 rfl) ?_
                  refine r_ge (a := k) (b := q) (tgt := 143) hx hb d_MD_give_84 (by decide) (by omega) (by omega) (fun h2 => ?_) (fun h2 => ?_)
                  · obtain rfl : q = k := by omega
                    have ev : mTh (vTh τ (thv (sGv σ a q))) = 0 := congrArg thv hgv
                    refine lv_aload_n hx hb d_MD_give_143 rfl (lv_at hl 0 rfl) ?_
                    refine g_get (own := "GroupBitmapsModel") (C := R_MD) (T := F_MD) (N := 11) (ci := 3) (v := .int (nI (mTh (vTh τ (thv (sGv σ a q)))))) hx hb hg ku_MD hown hK hI (0) (wm_0) rfl 0 (by decide) kw_470 rfl d_MD_give_144 ?_
                    refine r_zle (a := mTh (vTh τ (thv (sGv σ a q)))) (tgt := 152) hx hb d_MD_give_147 (by decide) (by omega) (fun h9 => ?_) (fun h9 => ?_)
                    · have hI : gI D A s.heap (wm am cI cZ (vTh τ 0)) H locs := by rw [show thv (sGv σ a q) = 0 from congrArg thv hgv] at hI; exact hI
                      refine lv_aload_n hx hb d_MD_give_152 rfl (lv_at hl 0 rfl) ?_
                      refine lv_iload_n hx hb d_MD_give_153 rfl (lv_at hl 1 rfl) ?_
                      refine lv_iload_n hx hb d_MD_give_154 rfl (lv_at hl 2 rfl) ?_
                      refine lv_iconst (v := bI false) hx hb d_MD_give_155 (by decide) ?_
                      refine g_callV (own := "GroupBitmapsModel") (C := "GroupBitmapsModel") (T := F_MD) (N := 11) (k := 3) (q0 := 0) (ci := 3) (a := am 0) (As := [.int (nI a), .int (nI q), .int (bI false)]) (rest := []) (c_MD_mark (vTh τ 0) a q false (by omega)) hx hb hml hown hg hK hI hA kw_541 kw_543 kp_27 kw_4 kw_544 ky_MD_mark ⟨Nat.le_of_ble_eq_true rfl, Nat.le_of_ble_eq_true rfl⟩ rfl rfl (wm_0) rfl rfl hl.1 (Nat.le_of_ble_eq_true rfl) ⟨Nat.zero_le _, Nat.zero_le _⟩ d_MD_give_156 rfl rfl (fun H locs hI => ?_)
                      refine lv_aload_n hx hb d_MD_give_159 rfl (lv_at hl 0 rfl) ?_
                      refine g_callV (own := "GroupBitmapsModel") (C := "GroupBitmapsModel") (T := F_MD) (N := 11) (k := 0) (q0 := 0) (ci := 3) (a := am 0) (As := []) (rest := []) (k_ab (uTT (sGives σ a q) true) (mMark (vTh τ 0) a false q) hR1) hx hb hml hown hg hK hI hA kw_513 kw_515 kp_22 kw_4 kw_516 ky_MD_allBlocks ⟨Nat.le_of_ble_eq_true rfl, Nat.le_of_ble_eq_true rfl⟩ rfl rfl (wm_0) rfl rfl hl.1 (Nat.le_of_ble_eq_true rfl) ⟨Nat.zero_le _, Nat.zero_le _⟩ d_MD_give_160 rfl rfl (fun H locs hI => ?_)
                      exact g_ri hx hb hr hlk hI (rfl) d_MD_give_163
                    · exact absurd h9 (by rw [ev]; omega)
                  · refine lv_iload_n hx hb d_MD_give_87 rfl (lv_at hl 3 rfl) ?_
                    refine r_bz (b := true) (tgt := 143) hx hb d_MD_give_88 (by decide) (fun h9 => ?_) (fun h9 => ?_)
                    · exact absurd h9 (by decide)
                    · have htk := hR.tk (q := a + k) (by omega)
                      have hhd := gHd_le ((a + k) / 256)
                      refine lv_iload_n hx hb d_MD_give_91 rfl (lv_at hl 1 rfl) ?_
                      refine lv_iload hx hb d_MD_give_92 (lv_at hl 4 rfl) ?_
                      refine r_iadd (a := a) (b := k) hx hb d_MD_give_94 ?_
                      refine lv_istore (lv' := [(5, .int (nI (a + k))), (0, .ref (am 0)), (1, .int (nI a)), (2, .int (nI q)), (3, .int (bI true)), (4, .int (nI k))]) hx hb d_MD_give_95 hl (by decide) rfl (fun ls hl => ?_)
                      refine lv_aload_n hx hb d_MD_give_97 rfl (lv_at hl 1 rfl) ?_
                      refine lv_aload_n hx hb d_MD_give_98 rfl (lv_at hl 1 rfl) ?_
                      refine g_get (own := "GroupBitmapsModel") (C := R_MD) (T := F_MD) (N := 11) (ci := 3) (v := .ref (am 2)) hx hb hg ku_MD hown hK hI (0) (wm_0) rfl 3 (by decide) kw_473 rfl d_MD_give_99 ?_
                      refine lv_iload hx hb d_MD_give_102 (lv_at hl 0 rfl) ?_
                      refine g_zald (B := (mBk (vTh τ (thv (sGv σ a k))))) (i := a + k) hx hb hK hI (2) 1 (wm_Bk) rfl (by omega) (by omega) d_MD_give_104 ?_
                      refine r_bz (b := (mBk (vTh τ (thv (sGv σ a k)))) (a + k)) (tgt := 126) hx hb d_MD_give_105 (by decide) (fun h3 => ?_) (fun h3 => ?_)
                      · have e1 : thv (sGv σ a (k + 1)) = 2 := by rw [sGv_s, show sGv1 σ (a + k) = false from by unfold sGv1; rw [htk, show mBk τ (a + k) = false from h3, Bool.and_false], Bool.and_false]; rfl
                        refine lv_iconst (v := nI 2) hx hb d_MD_give_126 (by decide) ?_
                        refine lv_goto (tgt := 134) hx hb d_MD_give_127 (by decide) ?_
                        refine g_put (ws' := (wm am cI cZ (vTh τ 2))) (own := "GroupBitmapsModel") (C := R_MD) (T := F_MD) (N := 11) (ci := 3) (v := .int (nI 2)) hx hb hg ku_MD t_MD t_MD_ok n_MD hown hK hI (0) (wm_0) rfl 0 (by decide) kw_470 rfl rfl (rfl) (rfl) (Nat.le_of_ble_eq_true rfl) (wm_vTh) d_MD_give_134 (fun H locs hI => ?_)
                        refine lv_iinc (v := nI (k + 1)) (lv' := [(4, .int (nI (k + 1))), (5, .int (nI (a + k))), (0, .ref (am 0)), (1, .int (nI a)), (2, .int (nI q)), (3, .int (bI true))]) hx hb d_MD_give_137 hl (k := 5) rfl (nI_1 _) (by decide) rfl (fun ls hl => ?_)
                        refine lv_goto (tgt := 81) hx hb d_MD_give_140 (by decide) ?_
                        exact ih2 (k + 1) (by omega) (by omega) _ _ _ (by rw [e1]; exact hI) (lv_sub hl [2, 3, 4, 5, 0] rfl)
                      · refine lv_iload hx hb d_MD_give_108 (lv_at hl 0 rfl) ?_
                        refine lv_sipush (v := nI 256) hx hb d_MD_give_110 (by decide) ?_
                        refine r_irem (a := a + k) (b := 256) hx hb (by omega) (by omega) (by omega) d_MD_give_113 ?_
                        refine lv_iload hx hb d_MD_give_114 (lv_at hl 0 rfl) ?_
                        refine lv_sipush (v := nI 256) hx hb d_MD_give_116 (by decide) ?_
                        refine r_idiv (a := a + k) (b := 256) hx hb (by omega) (by omega) (by omega) d_MD_give_119 ?_
                        refine g_callS (own := "GroupBitmapsModel") (k := 1) (As := [.int (nI ((a + k) / 256))]) (rest := [.int (nI ((a + k) % 256)), .ref (am 0)]) (c_MD_fixed (vTh τ (thv (sGv σ a k))) ((a + k) / 256) (by omega)) hx hb hml hown hg hK hI hA kw_467 kw_468 kw_4 kw_469 ky_MD_fixed ⟨Nat.le_of_ble_eq_true rfl, Nat.le_of_ble_eq_true rfl⟩ rfl rfl rfl hl.1 (Nat.le_of_ble_eq_true rfl) ⟨Nat.zero_le _, Nat.zero_le _⟩ d_MD_give_120 rfl rfl (fun H locs hI => ?_)
                        refine r_ge (a := (a + k) % 256) (b := gHd ((a + k) / 256) + 10) (tgt := 130) hx hb d_MD_give_123 (by decide) (by omega) (by omega) (fun h4 => ?_) (fun h4 => ?_)
                        · have e1 : thv (sGv σ a (k + 1)) = thv (sGv σ a k) := by rw [sGv_s, show sGv1 σ (a + k) = true from by unfold sGv1; rw [decide_eq_true h4, htk, show mBk τ (a + k) = true from h3]; rfl, Bool.and_true]
                          refine lv_aload_n hx hb d_MD_give_130 rfl (lv_at hl 1 rfl) ?_
                          refine g_get (own := "GroupBitmapsModel") (C := R_MD) (T := F_MD) (N := 11) (ci := 3) (v := .int (nI (mTh (vTh τ (thv (sGv σ a k)))))) hx hb hg ku_MD hown hK hI (0) (wm_0) rfl 0 (by decide) kw_470 rfl d_MD_give_131 ?_
                          refine g_put (ws' := (wm am cI cZ (vTh τ (thv (sGv σ a k))))) (own := "GroupBitmapsModel") (C := R_MD) (T := F_MD) (N := 11) (ci := 3) (v := .int (nI (mTh (vTh τ (thv (sGv σ a k)))))) hx hb hg ku_MD t_MD t_MD_ok n_MD hown hK hI (0) (wm_0) rfl 0 (by decide) kw_470 rfl rfl (rfl) (rfl) (Nat.le_of_ble_eq_true rfl) (wm_vTh) d_MD_give_134 (fun H locs hI => ?_)
                          refine lv_iinc (v := nI (k + 1)) (lv' := [(4, .int (nI (k + 1))), (5, .int (nI (a + k))), (0, .ref (am 0)), (1, .int (nI a)), (2, .int (nI q)), (3, .int (bI true))]) hx hb d_MD_give_137 hl (k := 5) rfl (nI_1 _) (by decide) rfl (fun ls hl => ?_)
                          refine lv_goto (tgt := 81) hx hb d_MD_give_140 (by decide) ?_
                          exact ih2 (k + 1) (by omega) (by omega) _ _ _ (by rw [e1]; exact hI) (lv_sub hl [2, 3, 4, 5, 0] rfl)
                        · have e1 : thv (sGv σ a (k + 1)) = 2 := by rw [sGv_s, show sGv1 σ (a + k) = false from by unfold sGv1; rw [decide_eq_false (Nat.not_le.mpr h4), Bool.false_and], Bool.and_false]; rfl
                          refine lv_iconst (v := nI 2) hx hb d_MD_give_126 (by decide) ?_
                          refine lv_goto (tgt := 134) hx hb d_MD_give_127 (by decide) ?_
                          refine g_put (ws' := (wm am cI cZ (vTh τ 2))) (own := "GroupBitmapsModel") (C := R_MD) (T := F_MD) (N := 11) (ci := 3) (v := .int (nI 2)) hx hb hg ku_MD t_MD t_MD_ok n_MD hown hK hI (0) (wm_0) rfl 0 (by decide) kw_470 rfl rfl (rfl) (rfl) (Nat.le_of_ble_eq_true rfl) (wm_vTh) d_MD_give_134 (fun H locs hI => ?_)
                          refine lv_iinc (v := nI (k + 1)) (lv' := [(4, .int (nI (k + 1))), (5, .int (nI (a + k))), (0, .ref (am 0)), (1, .int (nI a)), (2, .int (nI q)), (3, .int (bI true))]) hx hb d_MD_give_137 hl (k := 5) rfl (nI_1 _) (by decide) rfl (fun ls hl => ?_)
                          refine lv_goto (tgt := 81) hx hb d_MD_give_140 (by decide) ?_
                          exact ih2 (k + 1) (by omega) (by omega) _ _ _ (by rw [e1]; exact hI) (lv_sub hl [2, 3, 4, 5, 0] rfl)
              exact loop2 (q + 1) 0 (by omega) (Nat.zero_le _) _ _ _ hI (lv_sub hl [1, 2, 3, 4, 0] rfl)
          · refine lv_iload_n hx hb d_MD_give_27 rfl (lv_at hl 3 rfl) ?_
            refine r_bz (b := true) (tgt := 65) hx hb d_MD_give_28 (by decide) (fun h9 => ?_) (fun h9 => ?_)
            · exact absurd h9 (by decide)
            · refine lv_iload_n hx hb d_MD_give_31 rfl (lv_at hl 1 rfl) ?_
              refine r_zlt (a := a) (tgt := 57) hx hb d_MD_give_32 (by decide) (by omega) ?_
              refine lv_iload_n hx hb d_MD_give_35 rfl (lv_at hl 1 rfl) ?_
              refine lv_sipush (v := nI 1024) hx hb d_MD_give_36 (by decide) ?_
              refine r_ge (a := a) (b := 1024) (tgt := 57) hx hb d_MD_give_39 (by decide) (by omega) (by omega) (fun h9 => ?_) (fun h9 => ?_)
              · exact absurd h9 (by omega)
              · refine lv_aload_n hx hb d_MD_give_42 rfl (lv_at hl 0 rfl) ?_
                refine lv_iload_n hx hb d_MD_give_43 rfl (lv_at hl 1 rfl) ?_
                refine lv_iload hx hb d_MD_give_44 (lv_at hl 4 rfl) ?_
                refine r_iadd (a := a) (b := k) hx hb d_MD_give_46 ?_
                refine g_callV (own := "GroupBitmapsModel") (C := "GroupBitmapsModel") (T := F_MD) (N := 11) (k := 1) (q0 := 0) (ci := 3) (a := am 0) (As := [.int (nI (a + k))]) (rest := []) (k_ib σ τ hR (nI (a + k))) hx hb hml hown hg hK hI hA kw_529 kw_531 kp_24 kw_4 kw_532 ky_MD_isBlock ⟨Nat.le_of_ble_eq_true rfl, Nat.le_of_ble_eq_true rfl⟩ rfl rfl (wm_0) rfl rfl hl.1 (Nat.le_of_ble_eq_true rfl) ⟨Nat.zero_le _, Nat.zero_le _⟩ d_MD_give_47 rfl rfl (fun H locs hI => ?_)
                refine r_bz (b := sHasB σ (nI (a + k))) (tgt := 57) hx hb d_MD_give_50 (by decide) (fun h8 => ?_) (fun h8 => ?_)
                · exact absurd ((sHasB_nI hσ (by omega)).symm.trans h8) (by decide)
                · refine lv_iconst (v := bI true) hx hb d_MD_give_53 (by decide) ?_
                  refine lv_goto (tgt := 58) hx hb d_MD_give_54 (by decide) ?_
                  refine lv_istore_n (lv' := [(3, .int (bI true)), (0, .ref (am 0)), (1, .int (nI a)), (2, .int (nI q)), (4, .int (nI k))]) hx hb d_MD_give_58 rfl hl (by decide) rfl (fun ls hl => ?_)
                  refine lv_iinc (v := nI (k + 1)) (lv' := [(4, .int (nI (k + 1))), (3, .int (bI true)), (0, .ref (am 0)), (1, .int (nI a)), (2, .int (nI q))]) hx hb d_MD_give_59 hl (k := 4) rfl (nI_1 _) (by decide) rfl (fun ls hl => ?_)
                  refine lv_goto (tgt := 21) hx hb d_MD_give_62 (by decide) ?_
                  exact ih (k + 1) (by omega) (by omega) _ _ _ hI (lv_sub hl [2, 3, 4, 1, 0] rfl)
      exact loop (q + 1) 0 (by omega) (Nat.zero_le _) _ _ _ hI (lv_sub hl [2, 3, 4, 1, 0] rfl)
set_option maxHeartbeats 4000000 in
set_option maxRecDepth 100000 in
theorem c_MD_give_no {l : Launch} {D : va_G} {cG cZ cI cJ : ClassId} {am : Nat → Nat} (σ : gS) (τ : mS) (N : Nat) (hK0 : RK N σ τ) (hN : N < 65536) (a q : Nat) (hq1 : 1 ≤ q) (hq : q ≤ 1024) (haq : a + q ≤ sAll σ) (hgv : sGv σ a q = false) : gMet l D (gT cG cZ cI cJ) y_MD_give b_MD_give 6 (some .int) ({ frames := 3, cells := 0, slots := 0, locals := 64 }) (wm am cI cZ τ) [.ref (am 0), .int (nI a), .int (nI q)] (wm am cI cZ (vTh τ 2)) (some (.int (nI 0))) := by
  refine gMet_of (by decide) (Nat.le_of_ble_eq_true rfl) ?_
  intro p e s m below meth c A ls hC hA hI hl
  obtain ⟨hx, hb, hr, hlk, hown, hml, hg, hK⟩ := hC
  have hown : s.vm.findClass "GroupBitmapsModel" = some m.cls := hown
  have hl : lv_has ls 6 [(0, .ref (am 0)), (1, .int (nI a)), (2, .int (nI q))] := hl
  have hR := hK0.ri hN
  have hτ := hR.ok
  have hσ := hR.sb
  have hgr := hR.gr
  have hc1 := hσ.1
  have hc2 := hσ.2.1
  have hal := sAll_le hσ
  refine lv_iload_n hx hb d_MD_give_0 rfl (lv_at hl 2 rfl) ?_
  refine lv_iconst (v := nI 1) hx hb d_MD_give_1 (by decide) ?_
  refine r_lt (a := q) (b := 1) (tgt := 16) hx hb d_MD_give_2 (by decide) (by omega) (by omega) (fun h9 => ?_) (fun h9 => ?_)
  · exact absurd h9 (by omega)
  · refine lv_iload_n hx hb d_MD_give_5 rfl (lv_at hl 2 rfl) ?_
    refine lv_sipush (v := nI 1024) hx hb d_MD_give_6 (by decide) ?_
    refine r_gt (a := q) (b := 1024) (tgt := 16) hx hb d_MD_give_9 (by decide) (by omega) (by omega) (fun h9 => ?_) (fun h9 => ?_)
    · exact absurd h9 (by omega)
    · refine lv_iconst (v := bI true) hx hb d_MD_give_12 (by decide) ?_
      refine lv_goto (tgt := 17) hx hb d_MD_give_13 (by decide) ?_
      refine lv_istore_n (lv' := [(3, .int (bI true)), (0, .ref (am 0)), (1, .int (nI a)), (2, .int (nI q))]) hx hb d_MD_give_17 rfl hl (by decide) rfl (fun ls hl => ?_)
      refine lv_iconst (v := nI 0) hx hb d_MD_give_18 (by decide) ?_
      refine lv_istore (lv' := [(4, .int (nI 0)), (3, .int (bI true)), (0, .ref (am 0)), (1, .int (nI a)), (2, .int (nI q))]) hx hb d_MD_give_19 hl (by decide) rfl (fun ls hl => ?_)
      have loop : ∀ (fuel : Nat) (k : Nat), q + 1 ≤ fuel + k → (k ≤ q) → ∀ (H : Heap) (locs : List Loc) (ls : Array Slot), gI D A s.heap (wm am cI cZ τ) H locs → lv_has ls 6 [(0, .ref (am 0)), (1, .int (nI a)), (2, .int (nI q)), (3, .int (bI true)), (4, .int (nI k))] → W p l e ({ frames := 3, cells := 0, slots := 0, locals := 64 }) s m ([.ref (am 0), .int (nI a), .int (nI q)] : List Value).toArray below meth c H locs 0 0 (gQ D below ([.ref (am 0), .int (nI a), .int (nI q)] : List Value).toArray s A (wm am cI cZ (vTh τ 2)) (some (.int (nI 0)))) (F0 m 21 ls []) := by
        intro fuel
        induction fuel with
        | zero => intro k hfu hk; exact absurd hfu (by omega)
        | succ fuel ih =>
          intro k hfu hk H locs ls hI hl
          refine lv_iload hx hb d_MD_give_21 (lv_at hl 4 rfl) ?_
          refine lv_iload_n hx hb d_MD_give_23 rfl (lv_at hl 2 rfl) ?_
          refine r_ge (a := k) (b := q) (tgt := 65) hx hb d_MD_give_24 (by decide) (by omega) (by omega) (fun h => ?_) (fun h => ?_)
          · refine lv_aload_n hx hb d_MD_give_65 rfl (lv_at hl 0 rfl) ?_
            refine lv_iload_n hx hb d_MD_give_66 rfl (lv_at hl 3 rfl) ?_
            refine r_bz (b := true) (tgt := 74) hx hb d_MD_give_67 (by decide) (fun h9 => ?_) (fun h9 => ?_)
            · exact absurd h9 (by decide)
            · refine lv_iconst (v := nI 0) hx hb d_MD_give_70 (by decide) ?_
              refine lv_goto (tgt := 75) hx hb d_MD_give_71 (by decide) ?_
              refine g_put (ws' := (wm am cI cZ (vTh τ 0))) (own := "GroupBitmapsModel") (C := R_MD) (T := F_MD) (N := 11) (ci := 3) (v := .int (nI 0)) hx hb hg ku_MD t_MD t_MD_ok n_MD hown hK hI (0) (wm_0) rfl 0 (by decide) kw_470 rfl rfl (rfl) (rfl) (Nat.le_of_ble_eq_true rfl) (wm_vTh) d_MD_give_75 (fun H locs hI => ?_)
              refine lv_iconst (v := nI 0) hx hb d_MD_give_78 (by decide) ?_
              refine lv_istore (lv' := [(4, .int (nI 0)), (0, .ref (am 0)), (1, .int (nI a)), (2, .int (nI q)), (3, .int (bI true))]) hx hb d_MD_give_79 hl (by decide) rfl (fun ls hl => ?_)
              have loop2 : ∀ (fuel : Nat) (k : Nat), q + 1 ≤ fuel + k → (k ≤ q) → ∀ (H : Heap) (locs : List Loc) (ls : Array Slot), gI D A s.heap (wm am cI cZ (vTh τ (thv (sGv σ a k)))) H locs → lv_has ls 6 [(0, .ref (am 0)), (1, .int (nI a)), (2, .int (nI q)), (3, .int (bI true)), (4, .int (nI k))] → W p l e ({ frames := 3, cells := 0, slots := 0, locals := 64 }) s m ([.ref (am 0), .int (nI a), .int (nI q)] : List Value).toArray below meth c H locs 0 0 (gQ D below ([.ref (am 0), .int (nI a), .int (nI q)] : List Value).toArray s A (wm am cI cZ (vTh τ 2)) (some (.int (nI 0)))) (F0 m 81 ls []) := by
                intro fuel
                induction fuel with
                | zero => intro k hfu hk; exact absurd hfu (by omega)
                | succ fuel ih2 =>
                  intro k hfu hk H locs ls hI hl
                  refine lv_iload hx hb d_MD_give_81 (lv_at hl 4 rfl) ?_
                  refine lv_iload_n hx hb d_MD_give_83 rfl (lv_at hl 2 rfl) ?_
                  refine r_ge (a := k) (b := q) (tgt := 143) hx hb d_MD_give_84 (by decide) (by omega) (by omega) (fun h2 => ?_) (fun h2 => ?_)
                  · obtain rfl : q = k := by omega
                    have ev : mTh (vTh τ (thv (sGv σ a q))) = 2 := congrArg thv hgv
                    refine lv_aload_n hx hb d_MD_give_143 rfl (lv_at hl 0 rfl) ?_
                    refine g_get (own := "GroupBitmapsModel") (C := R_MD) (T := F_MD) (N := 11) (ci := 3) (v := .int (nI (mTh (vTh τ (thv (sGv σ a q)))))) hx hb hg ku_MD hown hK hI (0) (wm_0) rfl 0 (by decide) kw_470 rfl d_MD_give_144 ?_
                    refine r_zle (a := mTh (vTh τ (thv (sGv σ a q)))) (tgt := 152) hx hb d_MD_give_147 (by decide) (by rw [ev]; omega) (fun h9 => ?_) (fun h9 => ?_)
                    · exact absurd h9 (by rw [ev]; omega)
                    · have hI : gI D A s.heap (wm am cI cZ (vTh τ 2)) H locs := by rw [show thv (sGv σ a q) = 2 from congrArg thv hgv] at hI; exact hI
                      refine lv_iconst (v := nI 0) hx hb d_MD_give_150 (by decide) ?_
                      exact g_ri hx hb hr hlk hI (rfl) d_MD_give_151
                  · refine lv_iload_n hx hb d_MD_give_87 rfl (lv_at hl 3 rfl) ?_
                    refine r_bz (b := true) (tgt := 143) hx hb d_MD_give_88 (by decide) (fun h9 => ?_) (fun h9 => ?_)
                    · exact absurd h9 (by decide)
                    · have htk := hR.tk (q := a + k) (by omega)
                      have hhd := gHd_le ((a + k) / 256)
                      refine lv_iload_n hx hb d_MD_give_91 rfl (lv_at hl 1 rfl) ?_
                      refine lv_iload hx hb d_MD_give_92 (lv_at hl 4 rfl) ?_
                      refine r_iadd (a := a) (b := k) hx hb d_MD_give_94 ?_
                      refine lv_istore (lv' := [(5, .int (nI (a + k))), (0, .ref (am 0)), (1, .int (nI a)), (2, .int (nI q)), (3, .int (bI true)), (4, .int (nI k))]) hx hb d_MD_give_95 hl (by decide) rfl (fun ls hl => ?_)
                      refine lv_aload_n hx hb d_MD_give_97 rfl (lv_at hl 1 rfl) ?_
                      refine lv_aload_n hx hb d_MD_give_98 rfl (lv_at hl 1 rfl) ?_
                      refine g_get (own := "GroupBitmapsModel") (C := R_MD) (T := F_MD) (N := 11) (ci := 3) (v := .ref (am 2)) hx hb hg ku_MD hown hK hI (0) (wm_0) rfl 3 (by decide) kw_473 rfl d_MD_give_99 ?_
                      refine lv_iload hx hb d_MD_give_102 (lv_at hl 0 rfl) ?_
                      refine g_zald (B := (mBk (vTh τ (thv (sGv σ a k))))) (i := a + k) hx hb hK hI (2) 1 (wm_Bk) rfl (by omega) (by omega) d_MD_give_104 ?_
                      refine r_bz (b := (mBk (vTh τ (thv (sGv σ a k)))) (a + k)) (tgt := 126) hx hb d_MD_give_105 (by decide) (fun h3 => ?_) (fun h3 => ?_)
                      · have e1 : thv (sGv σ a (k + 1)) = 2 := by rw [sGv_s, show sGv1 σ (a + k) = false from by unfold sGv1; rw [htk, show mBk τ (a + k) = false from h3, Bool.and_false], Bool.and_false]; rfl
                        refine lv_iconst (v := nI 2) hx hb d_MD_give_126 (by decide) ?_
                        refine lv_goto (tgt := 134) hx hb d_MD_give_127 (by decide) ?_
                        refine g_put (ws' := (wm am cI cZ (vTh τ 2))) (own := "GroupBitmapsModel") (C := R_MD) (T := F_MD) (N := 11) (ci := 3) (v := .int (nI 2)) hx hb hg ku_MD t_MD t_MD_ok n_MD hown hK hI (0) (wm_0) rfl 0 (by decide) kw_470 rfl rfl (rfl) (rfl) (Nat.le_of_ble_eq_true rfl) (wm_vTh) d_MD_give_134 (fun H locs hI => ?_)
                        refine lv_iinc (v := nI (k + 1)) (lv' := [(4, .int (nI (k + 1))), (5, .int (nI (a + k))), (0, .ref (am 0)), (1, .int (nI a)), (2, .int (nI q)), (3, .int (bI true))]) hx hb d_MD_give_137 hl (k := 5) rfl (nI_1 _) (by decide) rfl (fun ls hl => ?_)
                        refine lv_goto (tgt := 81) hx hb d_MD_give_140 (by decide) ?_
                        exact ih2 (k + 1) (by omega) (by omega) _ _ _ (by rw [e1]; exact hI) (lv_sub hl [2, 3, 4, 5, 0] rfl)
                      · refine lv_iload hx hb d_MD_give_108 (lv_at hl 0 rfl) ?_
                        refine lv_sipush (v := nI 256) hx hb d_MD_give_110 (by decide) ?_
                        refine r_irem (a := a + k) (b := 256) hx hb (by omega) (by omega) (by omega) d_MD_give_113 ?_
                        refine lv_iload hx hb d_MD_give_114 (lv_at hl 0 rfl) ?_
                        refine lv_sipush (v := nI 256) hx hb d_MD_give_116 (by decide) ?_
                        refine r_idiv (a := a + k) (b := 256) hx hb (by omega) (by omega) (by omega) d_MD_give_119 ?_
                        refine g_callS (own := "GroupBitmapsModel") (k := 1) (As := [.int (nI ((a + k) / 256))]) (rest := [.int (nI ((a + k) % 256)), .ref (am 0)]) (c_MD_fixed (vTh τ (thv (sGv σ a k))) ((a + k) / 256) (by omega)) hx hb hml hown hg hK hI hA kw_467 kw_468 kw_4 kw_469 ky_MD_fixed ⟨Nat.le_of_ble_eq_true rfl, Nat.le_of_ble_eq_true rfl⟩ rfl rfl rfl hl.1 (Nat.le_of_ble_eq_true rfl) ⟨Nat.zero_le _, Nat.zero_le _⟩ d_MD_give_120 rfl rfl (fun H locs hI => ?_)
                        refine r_ge (a := (a + k) % 256) (b := gHd ((a + k) / 256) + 10) (tgt := 130) hx hb d_MD_give_123 (by decide) (by omega) (by omega) (fun h4 => ?_) (fun h4 => ?_)
                        · have e1 : thv (sGv σ a (k + 1)) = thv (sGv σ a k) := by rw [sGv_s, show sGv1 σ (a + k) = true from by unfold sGv1; rw [decide_eq_true h4, htk, show mBk τ (a + k) = true from h3]; rfl, Bool.and_true]
                          refine lv_aload_n hx hb d_MD_give_130 rfl (lv_at hl 1 rfl) ?_
                          refine g_get (own := "GroupBitmapsModel") (C := R_MD) (T := F_MD) (N := 11) (ci := 3) (v := .int (nI (mTh (vTh τ (thv (sGv σ a k)))))) hx hb hg ku_MD hown hK hI (0) (wm_0) rfl 0 (by decide) kw_470 rfl d_MD_give_131 ?_
                          refine g_put (ws' := (wm am cI cZ (vTh τ (thv (sGv σ a k))))) (own := "GroupBitmapsModel") (C := R_MD) (T := F_MD) (N := 11) (ci := 3) (v := .int (nI (mTh (vTh τ (thv (sGv σ a k)))))) hx hb hg ku_MD t_MD t_MD_ok n_MD hown hK hI (0) (wm_0) rfl 0 (by decide) kw_470 rfl rfl (rfl) (rfl) (Nat.le_of_ble_eq_true rfl) (wm_vTh) d_MD_give_134 (fun H locs hI => ?_)
                          refine lv_iinc (v := nI (k + 1)) (lv' := [(4, .int (nI (k + 1))), (5, .int (nI (a + k))), (0, .ref (am 0)), (1, .int (nI a)), (2, .int (nI q)), (3, .int (bI true))]) hx hb d_MD_give_137 hl (k := 5) rfl (nI_1 _) (by decide) rfl (fun ls hl => ?_)
                          refine lv_goto (tgt := 81) hx hb d_MD_give_140 (by decide) ?_
                          exact ih2 (k + 1) (by omega) (by omega) _ _ _ (by rw [e1]; exact hI) (lv_sub hl [2, 3, 4, 5, 0] rfl)
                        · have e1 : thv (sGv σ a (k + 1)) = 2 := by rw [sGv_s, show sGv1 σ (a + k) = false from by unfold sGv1; rw [decide_eq_false (Nat.not_le.mpr h4), Bool.false_and], Bool.and_false]; rfl
                          refine lv_iconst (v := nI 2) hx hb d_MD_give_126 (by decide) ?_
                          refine lv_goto (tgt := 134) hx hb d_MD_give_127 (by decide) ?_
                          refine g_put (ws' := (wm am cI cZ (vTh τ 2))) (own := "GroupBitmapsModel") (C := R_MD) (T := F_MD) (N := 11) (ci := 3) (v := .int (nI 2)) hx hb hg ku_MD t_MD t_MD_ok n_MD hown hK hI (0) (wm_0) rfl 0 (by decide) kw_470 rfl rfl (rfl) (rfl) (Nat.le_of_ble_eq_true rfl) (wm_vTh) d_MD_give_134 (fun H locs hI => ?_)
                          refine lv_iinc (v := nI (k + 1)) (lv' := [(4, .int (nI (k + 1))), (5, .int (nI (a + k))), (0, .ref (am 0)), (1, .int (nI a)), (2, .int (nI q)), (3, .int (bI true))]) hx hb d_MD_give_137 hl (k := 5) rfl (nI_1 _) (by decide) rfl (fun ls hl => ?_)
                          refine lv_goto (tgt := 81) hx hb d_MD_give_140 (by decide) ?_
                          exact ih2 (k + 1) (by omega) (by omega) _ _ _ (by rw [e1]; exact hI) (lv_sub hl [2, 3, 4, 5, 0] rfl)
              exact loop2 (q + 1) 0 (by omega) (Nat.zero_le _) _ _ _ hI (lv_sub hl [1, 2, 3, 4, 0] rfl)
          · refine lv_iload_n hx hb d_MD_give_27 rfl (lv_at hl 3 rfl) ?_
            refine r_bz (b := true) (tgt := 65) hx hb d_MD_give_28 (by decide) (fun h9 => ?_) (fun h9 => ?_)
            · exact absurd h9 (by decide)
            · refine lv_iload_n hx hb d_MD_give_31 rfl (lv_at hl 1 rfl) ?_
              refine r_zlt (a := a) (tgt := 57) hx hb d_MD_give_32 (by decide) (by omega) ?_
              refine lv_iload_n hx hb d_MD_give_35 rfl (lv_at hl 1 rfl) ?_
              refine lv_sipush (v := nI 1024) hx hb d_MD_give_36 (by decide) ?_
              refine r_ge (a := a) (b := 1024) (tgt := 57) hx hb d_MD_give_39 (by decide) (by omega) (by omega) (fun h9 => ?_) (fun h9 => ?_)
              · exact absurd h9 (by omega)
              · refine lv_aload_n hx hb d_MD_give_42 rfl (lv_at hl 0 rfl) ?_
                refine lv_iload_n hx hb d_MD_give_43 rfl (lv_at hl 1 rfl) ?_
                refine lv_iload hx hb d_MD_give_44 (lv_at hl 4 rfl) ?_
                refine r_iadd (a := a) (b := k) hx hb d_MD_give_46 ?_
                refine g_callV (own := "GroupBitmapsModel") (C := "GroupBitmapsModel") (T := F_MD) (N := 11) (k := 1) (q0 := 0) (ci := 3) (a := am 0) (As := [.int (nI (a + k))]) (rest := []) (k_ib σ τ hR (nI (a + k))) hx hb hml hown hg hK hI hA kw_529 kw_531 kp_24 kw_4 kw_532 ky_MD_isBlock ⟨Nat.le_of_ble_eq_true rfl, Nat.le_of_ble_eq_true rfl⟩ rfl rfl (wm_0) rfl rfl hl.1 (Nat.le_of_ble_eq_true rfl) ⟨Nat.zero_le _, Nat.zero_le _⟩ d_MD_give_47 rfl rfl (fun H locs hI => ?_)
                refine r_bz (b := sHasB σ (nI (a + k))) (tgt := 57) hx hb d_MD_give_50 (by decide) (fun h8 => ?_) (fun h8 => ?_)
                · exact absurd ((sHasB_nI hσ (by omega)).symm.trans h8) (by decide)
                · refine lv_iconst (v := bI true) hx hb d_MD_give_53 (by decide) ?_
                  refine lv_goto (tgt := 58) hx hb d_MD_give_54 (by decide) ?_
                  refine lv_istore_n (lv' := [(3, .int (bI true)), (0, .ref (am 0)), (1, .int (nI a)), (2, .int (nI q)), (4, .int (nI k))]) hx hb d_MD_give_58 rfl hl (by decide) rfl (fun ls hl => ?_)
                  refine lv_iinc (v := nI (k + 1)) (lv' := [(4, .int (nI (k + 1))), (3, .int (bI true)), (0, .ref (am 0)), (1, .int (nI a)), (2, .int (nI q))]) hx hb d_MD_give_59 hl (k := 4) rfl (nI_1 _) (by decide) rfl (fun ls hl => ?_)
                  refine lv_goto (tgt := 21) hx hb d_MD_give_62 (by decide) ?_
                  exact ih (k + 1) (by omega) (by omega) _ _ _ hI (lv_sub hl [2, 3, 4, 1, 0] rfl)
      exact loop (q + 1) 0 (by omega) (Nat.zero_le _) _ _ _ hI (lv_sub hl [2, 3, 4, 1, 0] rfl)
set_option maxHeartbeats 4000000 in
set_option maxRecDepth 100000 in
theorem c_MD_give_bad1 {l : Launch} {D : va_G} {cG cZ cI cJ : ClassId} {am : Nat → Nat} (σ : gS) (τ : mS) (N : Nat) (hK0 : RK N σ τ) (hN : N < 65536) (x y : Int32) (hbad : ¬ (¬ y < nI 1 ∧ ¬ nI 1024 < y)) : gMet l D (gT cG cZ cI cJ) y_MD_give b_MD_give 6 (some .int) ({ frames := 3, cells := 0, slots := 0, locals := 64 }) (wm am cI cZ τ) [.ref (am 0), .int x, .int y] (wm am cI cZ (vTh τ 1)) (some (.int (nI 0))) := by
  refine gMet_of (by decide) (Nat.le_of_ble_eq_true rfl) ?_
  intro p e s m below meth c A ls hC hA hI hl
  obtain ⟨hx, hb, hr, hlk, hown, hml, hg, hK⟩ := hC
  have hown : s.vm.findClass "GroupBitmapsModel" = some m.cls := hown
  have hl : lv_has ls 6 [(0, .ref (am 0)), (1, .int x), (2, .int y)] := hl
  have hR := hK0.ri hN
  have hτ := hR.ok
  have hσ := hR.sb
  have hgr := hR.gr
  have hc1 := hσ.1
  have hc2 := hσ.2.1
  refine lv_iload_n hx hb d_MD_give_0 rfl (lv_at hl 2 rfl) ?_
  refine lv_iconst (v := nI 1) hx hb d_MD_give_1 (by decide) ?_
  refine lv_icmp_lt (tgt := 16) hx hb d_MD_give_2 (by decide) (fun h => ?_) (fun h => ?_)
  · refine lv_iconst (v := bI false) hx hb d_MD_give_16 (by decide) ?_
    refine lv_istore_n (lv' := [(3, .int (bI false)), (0, .ref (am 0)), (1, .int x), (2, .int y)]) hx hb d_MD_give_17 rfl hl (by decide) rfl (fun ls hl => ?_)
    refine lv_iconst (v := nI 0) hx hb d_MD_give_18 (by decide) ?_
    refine lv_istore (lv' := [(4, .int (nI 0)), (3, .int (bI false)), (0, .ref (am 0)), (1, .int x), (2, .int y)]) hx hb d_MD_give_19 hl (by decide) rfl (fun ls hl => ?_)
    refine lv_iload hx hb d_MD_give_21 (lv_at hl 0 rfl) ?_
    refine lv_iload_n hx hb d_MD_give_23 rfl (lv_at hl 4 rfl) ?_
    refine lv_icmp_ge (tgt := 65) hx hb d_MD_give_24 (by decide) (fun h4 => ?_) (fun h4 => ?_)
    · refine lv_aload_n hx hb d_MD_give_65 rfl (lv_at hl 2 rfl) ?_
      refine lv_iload_n hx hb d_MD_give_66 rfl (lv_at hl 1 rfl) ?_
      refine r_bz (b := false) (tgt := 74) hx hb d_MD_give_67 (by decide) (fun h9 => ?_) (fun h9 => ?_)
      · refine lv_iconst (v := nI 1) hx hb d_MD_give_74 (by decide) ?_
        refine g_put (ws' := (wm am cI cZ (vTh τ 1))) (own := "GroupBitmapsModel") (C := R_MD) (T := F_MD) (N := 11) (ci := 3) (v := .int (nI 1)) hx hb hg ku_MD t_MD t_MD_ok n_MD hown hK hI (0) (wm_0) rfl 0 (by decide) kw_470 rfl rfl (rfl) (rfl) (Nat.le_of_ble_eq_true rfl) (wm_vTh) d_MD_give_75 (fun H locs hI => ?_)
        refine lv_iconst (v := nI 0) hx hb d_MD_give_78 (by decide) ?_
        refine lv_istore (lv' := [(4, .int (nI 0)), (3, .int (bI false)), (0, .ref (am 0)), (1, .int x), (2, .int y)]) hx hb d_MD_give_79 hl (by decide) rfl (fun ls hl => ?_)
        refine lv_iload hx hb d_MD_give_81 (lv_at hl 0 rfl) ?_
        refine lv_iload_n hx hb d_MD_give_83 rfl (lv_at hl 4 rfl) ?_
        refine lv_icmp_ge (tgt := 143) hx hb d_MD_give_84 (by decide) (fun h5 => ?_) (fun h5 => ?_)
        · refine lv_aload_n hx hb d_MD_give_143 rfl (lv_at hl 2 rfl) ?_
          refine g_get (own := "GroupBitmapsModel") (C := R_MD) (T := F_MD) (N := 11) (ci := 3) (v := .int (nI 1)) hx hb hg ku_MD hown hK hI (0) (wm_0) rfl 0 (by decide) kw_470 rfl d_MD_give_144 ?_
          refine r_zle (a := 1) (tgt := 152) hx hb d_MD_give_147 (by decide) (by omega) (fun h9 => ?_) (fun h9 => ?_)
          · exact absurd h9 (by omega)
          · refine lv_iconst (v := nI 0) hx hb d_MD_give_150 (by decide) ?_
            exact g_ri hx hb hr hlk hI (rfl) d_MD_give_151
        · refine lv_iload_n hx hb d_MD_give_87 rfl (lv_at hl 1 rfl) ?_
          refine r_bz (b := false) (tgt := 143) hx hb d_MD_give_88 (by decide) (fun h9 => ?_) (fun h9 => ?_)
          · refine lv_aload_n hx hb d_MD_give_143 rfl (lv_at hl 2 rfl) ?_
            refine g_get (own := "GroupBitmapsModel") (C := R_MD) (T := F_MD) (N := 11) (ci := 3) (v := .int (nI 1)) hx hb hg ku_MD hown hK hI (0) (wm_0) rfl 0 (by decide) kw_470 rfl d_MD_give_144 ?_
            refine r_zle (a := 1) (tgt := 152) hx hb d_MD_give_147 (by decide) (by omega) (fun h9 => ?_) (fun h9 => ?_)
            · exact absurd h9 (by omega)
            · refine lv_iconst (v := nI 0) hx hb d_MD_give_150 (by decide) ?_
              exact g_ri hx hb hr hlk hI (rfl) d_MD_give_151
          · exact absurd h9 (by decide)
      · exact absurd h9 (by decide)
    · refine lv_iload_n hx hb d_MD_give_27 rfl (lv_at hl 1 rfl) ?_
      refine r_bz (b := false) (tgt := 65) hx hb d_MD_give_28 (by decide) (fun h9 => ?_) (fun h9 => ?_)
      · refine lv_aload_n hx hb d_MD_give_65 rfl (lv_at hl 2 rfl) ?_
        refine lv_iload_n hx hb d_MD_give_66 rfl (lv_at hl 1 rfl) ?_
        refine r_bz (b := false) (tgt := 74) hx hb d_MD_give_67 (by decide) (fun h9 => ?_) (fun h9 => ?_)
        · refine lv_iconst (v := nI 1) hx hb d_MD_give_74 (by decide) ?_
          refine g_put (ws' := (wm am cI cZ (vTh τ 1))) (own := "GroupBitmapsModel") (C := R_MD) (T := F_MD) (N := 11) (ci := 3) (v := .int (nI 1)) hx hb hg ku_MD t_MD t_MD_ok n_MD hown hK hI (0) (wm_0) rfl 0 (by decide) kw_470 rfl rfl (rfl) (rfl) (Nat.le_of_ble_eq_true rfl) (wm_vTh) d_MD_give_75 (fun H locs hI => ?_)
          refine lv_iconst (v := nI 0) hx hb d_MD_give_78 (by decide) ?_
          refine lv_istore (lv' := [(4, .int (nI 0)), (3, .int (bI false)), (0, .ref (am 0)), (1, .int x), (2, .int y)]) hx hb d_MD_give_79 hl (by decide) rfl (fun ls hl => ?_)
          refine lv_iload hx hb d_MD_give_81 (lv_at hl 0 rfl) ?_
          refine lv_iload_n hx hb d_MD_give_83 rfl (lv_at hl 4 rfl) ?_
          refine lv_icmp_ge (tgt := 143) hx hb d_MD_give_84 (by decide) (fun h5 => ?_) (fun h5 => ?_)
          · refine lv_aload_n hx hb d_MD_give_143 rfl (lv_at hl 2 rfl) ?_
            refine g_get (own := "GroupBitmapsModel") (C := R_MD) (T := F_MD) (N := 11) (ci := 3) (v := .int (nI 1)) hx hb hg ku_MD hown hK hI (0) (wm_0) rfl 0 (by decide) kw_470 rfl d_MD_give_144 ?_
            refine r_zle (a := 1) (tgt := 152) hx hb d_MD_give_147 (by decide) (by omega) (fun h9 => ?_) (fun h9 => ?_)
            · exact absurd h9 (by omega)
            · refine lv_iconst (v := nI 0) hx hb d_MD_give_150 (by decide) ?_
              exact g_ri hx hb hr hlk hI (rfl) d_MD_give_151
          · refine lv_iload_n hx hb d_MD_give_87 rfl (lv_at hl 1 rfl) ?_
            refine r_bz (b := false) (tgt := 143) hx hb d_MD_give_88 (by decide) (fun h9 => ?_) (fun h9 => ?_)
            · refine lv_aload_n hx hb d_MD_give_143 rfl (lv_at hl 2 rfl) ?_
              refine g_get (own := "GroupBitmapsModel") (C := R_MD) (T := F_MD) (N := 11) (ci := 3) (v := .int (nI 1)) hx hb hg ku_MD hown hK hI (0) (wm_0) rfl 0 (by decide) kw_470 rfl d_MD_give_144 ?_
              refine r_zle (a := 1) (tgt := 152) hx hb d_MD_give_147 (by decide) (by omega) (fun h9 => ?_) (fun h9 => ?_)
              · exact absurd h9 (by omega)
              · refine lv_iconst (v := nI 0) hx hb d_MD_give_150 (by decide) ?_
                exact g_ri hx hb hr hlk hI (rfl) d_MD_give_151
            · exact absurd h9 (by decide)
        · exact absurd h9 (by decide)
      · exact absurd h9 (by decide)
  · refine lv_iload_n hx hb d_MD_give_5 rfl (lv_at hl 2 rfl) ?_
    refine lv_sipush (v := nI 1024) hx hb d_MD_give_6 (by decide) ?_
    refine lv_icmp_gt (tgt := 16) hx hb d_MD_give_9 (by decide) (fun h2 => ?_) (fun h2 => ?_)
    · refine lv_iconst (v := bI false) hx hb d_MD_give_16 (by decide) ?_
      refine lv_istore_n (lv' := [(3, .int (bI false)), (0, .ref (am 0)), (1, .int x), (2, .int y)]) hx hb d_MD_give_17 rfl hl (by decide) rfl (fun ls hl => ?_)
      refine lv_iconst (v := nI 0) hx hb d_MD_give_18 (by decide) ?_
      refine lv_istore (lv' := [(4, .int (nI 0)), (3, .int (bI false)), (0, .ref (am 0)), (1, .int x), (2, .int y)]) hx hb d_MD_give_19 hl (by decide) rfl (fun ls hl => ?_)
      refine lv_iload hx hb d_MD_give_21 (lv_at hl 0 rfl) ?_
      refine lv_iload_n hx hb d_MD_give_23 rfl (lv_at hl 4 rfl) ?_
      refine lv_icmp_ge (tgt := 65) hx hb d_MD_give_24 (by decide) (fun h4 => ?_) (fun h4 => ?_)
      · refine lv_aload_n hx hb d_MD_give_65 rfl (lv_at hl 2 rfl) ?_
        refine lv_iload_n hx hb d_MD_give_66 rfl (lv_at hl 1 rfl) ?_
        refine r_bz (b := false) (tgt := 74) hx hb d_MD_give_67 (by decide) (fun h9 => ?_) (fun h9 => ?_)
        · refine lv_iconst (v := nI 1) hx hb d_MD_give_74 (by decide) ?_
          refine g_put (ws' := (wm am cI cZ (vTh τ 1))) (own := "GroupBitmapsModel") (C := R_MD) (T := F_MD) (N := 11) (ci := 3) (v := .int (nI 1)) hx hb hg ku_MD t_MD t_MD_ok n_MD hown hK hI (0) (wm_0) rfl 0 (by decide) kw_470 rfl rfl (rfl) (rfl) (Nat.le_of_ble_eq_true rfl) (wm_vTh) d_MD_give_75 (fun H locs hI => ?_)
          refine lv_iconst (v := nI 0) hx hb d_MD_give_78 (by decide) ?_
          refine lv_istore (lv' := [(4, .int (nI 0)), (3, .int (bI false)), (0, .ref (am 0)), (1, .int x), (2, .int y)]) hx hb d_MD_give_79 hl (by decide) rfl (fun ls hl => ?_)
          refine lv_iload hx hb d_MD_give_81 (lv_at hl 0 rfl) ?_
          refine lv_iload_n hx hb d_MD_give_83 rfl (lv_at hl 4 rfl) ?_
          refine lv_icmp_ge (tgt := 143) hx hb d_MD_give_84 (by decide) (fun h5 => ?_) (fun h5 => ?_)
          · refine lv_aload_n hx hb d_MD_give_143 rfl (lv_at hl 2 rfl) ?_
            refine g_get (own := "GroupBitmapsModel") (C := R_MD) (T := F_MD) (N := 11) (ci := 3) (v := .int (nI 1)) hx hb hg ku_MD hown hK hI (0) (wm_0) rfl 0 (by decide) kw_470 rfl d_MD_give_144 ?_
            refine r_zle (a := 1) (tgt := 152) hx hb d_MD_give_147 (by decide) (by omega) (fun h9 => ?_) (fun h9 => ?_)
            · exact absurd h9 (by omega)
            · refine lv_iconst (v := nI 0) hx hb d_MD_give_150 (by decide) ?_
              exact g_ri hx hb hr hlk hI (rfl) d_MD_give_151
          · refine lv_iload_n hx hb d_MD_give_87 rfl (lv_at hl 1 rfl) ?_
            refine r_bz (b := false) (tgt := 143) hx hb d_MD_give_88 (by decide) (fun h9 => ?_) (fun h9 => ?_)
            · refine lv_aload_n hx hb d_MD_give_143 rfl (lv_at hl 2 rfl) ?_
              refine g_get (own := "GroupBitmapsModel") (C := R_MD) (T := F_MD) (N := 11) (ci := 3) (v := .int (nI 1)) hx hb hg ku_MD hown hK hI (0) (wm_0) rfl 0 (by decide) kw_470 rfl d_MD_give_144 ?_
              refine r_zle (a := 1) (tgt := 152) hx hb d_MD_give_147 (by decide) (by omega) (fun h9 => ?_) (fun h9 => ?_)
              · exact absurd h9 (by omega)
              · refine lv_iconst (v := nI 0) hx hb d_MD_give_150 (by decide) ?_
                exact g_ri hx hb hr hlk hI (rfl) d_MD_give_151
            · exact absurd h9 (by decide)
        · exact absurd h9 (by decide)
      · refine lv_iload_n hx hb d_MD_give_27 rfl (lv_at hl 1 rfl) ?_
        refine r_bz (b := false) (tgt := 65) hx hb d_MD_give_28 (by decide) (fun h9 => ?_) (fun h9 => ?_)
        · refine lv_aload_n hx hb d_MD_give_65 rfl (lv_at hl 2 rfl) ?_
          refine lv_iload_n hx hb d_MD_give_66 rfl (lv_at hl 1 rfl) ?_
          refine r_bz (b := false) (tgt := 74) hx hb d_MD_give_67 (by decide) (fun h9 => ?_) (fun h9 => ?_)
          · refine lv_iconst (v := nI 1) hx hb d_MD_give_74 (by decide) ?_
            refine g_put (ws' := (wm am cI cZ (vTh τ 1))) (own := "GroupBitmapsModel") (C := R_MD) (T := F_MD) (N := 11) (ci := 3) (v := .int (nI 1)) hx hb hg ku_MD t_MD t_MD_ok n_MD hown hK hI (0) (wm_0) rfl 0 (by decide) kw_470 rfl rfl (rfl) (rfl) (Nat.le_of_ble_eq_true rfl) (wm_vTh) d_MD_give_75 (fun H locs hI => ?_)
            refine lv_iconst (v := nI 0) hx hb d_MD_give_78 (by decide) ?_
            refine lv_istore (lv' := [(4, .int (nI 0)), (3, .int (bI false)), (0, .ref (am 0)), (1, .int x), (2, .int y)]) hx hb d_MD_give_79 hl (by decide) rfl (fun ls hl => ?_)
            refine lv_iload hx hb d_MD_give_81 (lv_at hl 0 rfl) ?_
            refine lv_iload_n hx hb d_MD_give_83 rfl (lv_at hl 4 rfl) ?_
            refine lv_icmp_ge (tgt := 143) hx hb d_MD_give_84 (by decide) (fun h5 => ?_) (fun h5 => ?_)
            · refine lv_aload_n hx hb d_MD_give_143 rfl (lv_at hl 2 rfl) ?_
              refine g_get (own := "GroupBitmapsModel") (C := R_MD) (T := F_MD) (N := 11) (ci := 3) (v := .int (nI 1)) hx hb hg ku_MD hown hK hI (0) (wm_0) rfl 0 (by decide) kw_470 rfl d_MD_give_144 ?_
              refine r_zle (a := 1) (tgt := 152) hx hb d_MD_give_147 (by decide) (by omega) (fun h9 => ?_) (fun h9 => ?_)
              · exact absurd h9 (by omega)
              · refine lv_iconst (v := nI 0) hx hb d_MD_give_150 (by decide) ?_
                exact g_ri hx hb hr hlk hI (rfl) d_MD_give_151
            · refine lv_iload_n hx hb d_MD_give_87 rfl (lv_at hl 1 rfl) ?_
              refine r_bz (b := false) (tgt := 143) hx hb d_MD_give_88 (by decide) (fun h9 => ?_) (fun h9 => ?_)
              · refine lv_aload_n hx hb d_MD_give_143 rfl (lv_at hl 2 rfl) ?_
                refine g_get (own := "GroupBitmapsModel") (C := R_MD) (T := F_MD) (N := 11) (ci := 3) (v := .int (nI 1)) hx hb hg ku_MD hown hK hI (0) (wm_0) rfl 0 (by decide) kw_470 rfl d_MD_give_144 ?_
                refine r_zle (a := 1) (tgt := 152) hx hb d_MD_give_147 (by decide) (by omega) (fun h9 => ?_) (fun h9 => ?_)
                · exact absurd h9 (by omega)
                · refine lv_iconst (v := nI 0) hx hb d_MD_give_150 (by decide) ?_
                  exact g_ri hx hb hr hlk hI (rfl) d_MD_give_151
              · exact absurd h9 (by decide)
          · exact absurd h9 (by decide)
        · exact absurd h9 (by decide)
    · exact absurd ⟨h, h2⟩ hbad
set_option maxHeartbeats 4000000 in
set_option maxRecDepth 100000 in
theorem c_MD_give_bad2 {l : Launch} {D : va_G} {cG cZ cI cJ : ClassId} {am : Nat → Nat} (σ : gS) (τ : mS) (N : Nat) (hK0 : RK N σ τ) (hN : N < 65536) (x : Int32) (q : Nat) (hq1 : 1 ≤ q) (hq : q ≤ 1024) (hbad : x < 0 ∨ nI 1024 ≤ x) : gMet l D (gT cG cZ cI cJ) y_MD_give b_MD_give 6 (some .int) ({ frames := 3, cells := 0, slots := 0, locals := 64 }) (wm am cI cZ τ) [.ref (am 0), .int x, .int (nI q)] (wm am cI cZ (vTh τ 1)) (some (.int (nI 0))) := by
  refine gMet_of (by decide) (Nat.le_of_ble_eq_true rfl) ?_
  intro p e s m below meth c A ls hC hA hI hl
  obtain ⟨hx, hb, hr, hlk, hown, hml, hg, hK⟩ := hC
  have hown : s.vm.findClass "GroupBitmapsModel" = some m.cls := hown
  have hl : lv_has ls 6 [(0, .ref (am 0)), (1, .int x), (2, .int (nI q))] := hl
  have hR := hK0.ri hN
  have hτ := hR.ok
  have hσ := hR.sb
  have hgr := hR.gr
  have hc1 := hσ.1
  have hc2 := hσ.2.1
  refine lv_iload_n hx hb d_MD_give_0 rfl (lv_at hl 2 rfl) ?_
  refine lv_iconst (v := nI 1) hx hb d_MD_give_1 (by decide) ?_
  refine r_lt (a := q) (b := 1) (tgt := 16) hx hb d_MD_give_2 (by decide) (by omega) (by omega) (fun h9 => ?_) (fun h9 => ?_)
  · exact absurd h9 (by omega)
  · refine lv_iload_n hx hb d_MD_give_5 rfl (lv_at hl 2 rfl) ?_
    refine lv_sipush (v := nI 1024) hx hb d_MD_give_6 (by decide) ?_
    refine r_gt (a := q) (b := 1024) (tgt := 16) hx hb d_MD_give_9 (by decide) (by omega) (by omega) (fun h9 => ?_) (fun h9 => ?_)
    · exact absurd h9 (by omega)
    · refine lv_iconst (v := bI true) hx hb d_MD_give_12 (by decide) ?_
      refine lv_goto (tgt := 17) hx hb d_MD_give_13 (by decide) ?_
      refine lv_istore_n (lv' := [(3, .int (bI true)), (0, .ref (am 0)), (1, .int x), (2, .int (nI q))]) hx hb d_MD_give_17 rfl hl (by decide) rfl (fun ls hl => ?_)
      refine lv_iconst (v := nI 0) hx hb d_MD_give_18 (by decide) ?_
      refine lv_istore (lv' := [(4, .int (nI 0)), (3, .int (bI true)), (0, .ref (am 0)), (1, .int x), (2, .int (nI q))]) hx hb d_MD_give_19 hl (by decide) rfl (fun ls hl => ?_)
      refine lv_iload hx hb d_MD_give_21 (lv_at hl 0 rfl) ?_
      refine lv_iload_n hx hb d_MD_give_23 rfl (lv_at hl 4 rfl) ?_
      refine r_ge (a := 0) (b := q) (tgt := 65) hx hb d_MD_give_24 (by decide) (by omega) (by omega) (fun h9 => ?_) (fun h9 => ?_)
      · exact absurd h9 (by omega)
      · refine lv_iload_n hx hb d_MD_give_27 rfl (lv_at hl 1 rfl) ?_
        refine r_bz (b := true) (tgt := 65) hx hb d_MD_give_28 (by decide) (fun h9 => ?_) (fun h9 => ?_)
        · exact absurd h9 (by decide)
        · refine lv_iload_n hx hb d_MD_give_31 rfl (lv_at hl 3 rfl) ?_
          refine lv_if_lt (tgt := 57) hx hb d_MD_give_32 (by decide) (fun h7 => ?_) (fun h7 => ?_)
          · refine lv_iconst (v := bI false) hx hb d_MD_give_57 (by decide) ?_
            refine lv_istore_n (lv' := [(3, .int (bI false)), (4, .int (nI 0)), (0, .ref (am 0)), (1, .int x), (2, .int (nI q))]) hx hb d_MD_give_58 rfl hl (by decide) rfl (fun ls hl => ?_)
            refine lv_iinc (v := nI (0 + 1)) (lv' := [(4, .int (nI (0 + 1))), (3, .int (bI false)), (0, .ref (am 0)), (1, .int x), (2, .int (nI q))]) hx hb d_MD_give_59 hl (k := 1) rfl (nI_1 _) (by decide) rfl (fun ls hl => ?_)
            refine lv_goto (tgt := 21) hx hb d_MD_give_62 (by decide) ?_
            refine lv_iload hx hb d_MD_give_21 (lv_at hl 0 rfl) ?_
            refine lv_iload_n hx hb d_MD_give_23 rfl (lv_at hl 4 rfl) ?_
            refine r_ge (a := 0 + 1) (b := q) (tgt := 65) hx hb d_MD_give_24 (by decide) (by omega) (by omega) (fun h6 => ?_) (fun h6 => ?_)
            · refine lv_aload_n hx hb d_MD_give_65 rfl (lv_at hl 2 rfl) ?_
              refine lv_iload_n hx hb d_MD_give_66 rfl (lv_at hl 1 rfl) ?_
              refine r_bz (b := false) (tgt := 74) hx hb d_MD_give_67 (by decide) (fun h9 => ?_) (fun h9 => ?_)
              · refine lv_iconst (v := nI 1) hx hb d_MD_give_74 (by decide) ?_
                refine g_put (ws' := (wm am cI cZ (vTh τ 1))) (own := "GroupBitmapsModel") (C := R_MD) (T := F_MD) (N := 11) (ci := 3) (v := .int (nI 1)) hx hb hg ku_MD t_MD t_MD_ok n_MD hown hK hI (0) (wm_0) rfl 0 (by decide) kw_470 rfl rfl (rfl) (rfl) (Nat.le_of_ble_eq_true rfl) (wm_vTh) d_MD_give_75 (fun H locs hI => ?_)
                refine lv_iconst (v := nI 0) hx hb d_MD_give_78 (by decide) ?_
                refine lv_istore (lv' := [(4, .int (nI 0)), (3, .int (bI false)), (0, .ref (am 0)), (1, .int x), (2, .int (nI q))]) hx hb d_MD_give_79 hl (by decide) rfl (fun ls hl => ?_)
                refine lv_iload hx hb d_MD_give_81 (lv_at hl 0 rfl) ?_
                refine lv_iload_n hx hb d_MD_give_83 rfl (lv_at hl 4 rfl) ?_
                refine r_ge (a := 0) (b := q) (tgt := 143) hx hb d_MD_give_84 (by decide) (by omega) (by omega) (fun h5 => ?_) (fun h5 => ?_)
                · refine lv_aload_n hx hb d_MD_give_143 rfl (lv_at hl 2 rfl) ?_
                  refine g_get (own := "GroupBitmapsModel") (C := R_MD) (T := F_MD) (N := 11) (ci := 3) (v := .int (nI 1)) hx hb hg ku_MD hown hK hI (0) (wm_0) rfl 0 (by decide) kw_470 rfl d_MD_give_144 ?_
                  refine r_zle (a := 1) (tgt := 152) hx hb d_MD_give_147 (by decide) (by omega) (fun h9 => ?_) (fun h9 => ?_)
                  · exact absurd h9 (by omega)
                  · refine lv_iconst (v := nI 0) hx hb d_MD_give_150 (by decide) ?_
                    exact g_ri hx hb hr hlk hI (rfl) d_MD_give_151
                · refine lv_iload_n hx hb d_MD_give_87 rfl (lv_at hl 1 rfl) ?_
                  refine r_bz (b := false) (tgt := 143) hx hb d_MD_give_88 (by decide) (fun h9 => ?_) (fun h9 => ?_)
                  · refine lv_aload_n hx hb d_MD_give_143 rfl (lv_at hl 2 rfl) ?_
                    refine g_get (own := "GroupBitmapsModel") (C := R_MD) (T := F_MD) (N := 11) (ci := 3) (v := .int (nI 1)) hx hb hg ku_MD hown hK hI (0) (wm_0) rfl 0 (by decide) kw_470 rfl d_MD_give_144 ?_
                    refine r_zle (a := 1) (tgt := 152) hx hb d_MD_give_147 (by decide) (by omega) (fun h9 => ?_) (fun h9 => ?_)
                    · exact absurd h9 (by omega)
                    · refine lv_iconst (v := nI 0) hx hb d_MD_give_150 (by decide) ?_
                      exact g_ri hx hb hr hlk hI (rfl) d_MD_give_151
                  · exact absurd h9 (by decide)
              · exact absurd h9 (by decide)
            · refine lv_iload_n hx hb d_MD_give_27 rfl (lv_at hl 1 rfl) ?_
              refine r_bz (b := false) (tgt := 65) hx hb d_MD_give_28 (by decide) (fun h9 => ?_) (fun h9 => ?_)
              · refine lv_aload_n hx hb d_MD_give_65 rfl (lv_at hl 2 rfl) ?_
                refine lv_iload_n hx hb d_MD_give_66 rfl (lv_at hl 1 rfl) ?_
                refine r_bz (b := false) (tgt := 74) hx hb d_MD_give_67 (by decide) (fun h9 => ?_) (fun h9 => ?_)
                · refine lv_iconst (v := nI 1) hx hb d_MD_give_74 (by decide) ?_
                  refine g_put (ws' := (wm am cI cZ (vTh τ 1))) (own := "GroupBitmapsModel") (C := R_MD) (T := F_MD) (N := 11) (ci := 3) (v := .int (nI 1)) hx hb hg ku_MD t_MD t_MD_ok n_MD hown hK hI (0) (wm_0) rfl 0 (by decide) kw_470 rfl rfl (rfl) (rfl) (Nat.le_of_ble_eq_true rfl) (wm_vTh) d_MD_give_75 (fun H locs hI => ?_)
                  refine lv_iconst (v := nI 0) hx hb d_MD_give_78 (by decide) ?_
                  refine lv_istore (lv' := [(4, .int (nI 0)), (3, .int (bI false)), (0, .ref (am 0)), (1, .int x), (2, .int (nI q))]) hx hb d_MD_give_79 hl (by decide) rfl (fun ls hl => ?_)
                  refine lv_iload hx hb d_MD_give_81 (lv_at hl 0 rfl) ?_
                  refine lv_iload_n hx hb d_MD_give_83 rfl (lv_at hl 4 rfl) ?_
                  refine r_ge (a := 0) (b := q) (tgt := 143) hx hb d_MD_give_84 (by decide) (by omega) (by omega) (fun h5 => ?_) (fun h5 => ?_)
                  · refine lv_aload_n hx hb d_MD_give_143 rfl (lv_at hl 2 rfl) ?_
                    refine g_get (own := "GroupBitmapsModel") (C := R_MD) (T := F_MD) (N := 11) (ci := 3) (v := .int (nI 1)) hx hb hg ku_MD hown hK hI (0) (wm_0) rfl 0 (by decide) kw_470 rfl d_MD_give_144 ?_
                    refine r_zle (a := 1) (tgt := 152) hx hb d_MD_give_147 (by decide) (by omega) (fun h9 => ?_) (fun h9 => ?_)
                    · exact absurd h9 (by omega)
                    · refine lv_iconst (v := nI 0) hx hb d_MD_give_150 (by decide) ?_
                      exact g_ri hx hb hr hlk hI (rfl) d_MD_give_151
                  · refine lv_iload_n hx hb d_MD_give_87 rfl (lv_at hl 1 rfl) ?_
                    refine r_bz (b := false) (tgt := 143) hx hb d_MD_give_88 (by decide) (fun h9 => ?_) (fun h9 => ?_)
                    · refine lv_aload_n hx hb d_MD_give_143 rfl (lv_at hl 2 rfl) ?_
                      refine g_get (own := "GroupBitmapsModel") (C := R_MD) (T := F_MD) (N := 11) (ci := 3) (v := .int (nI 1)) hx hb hg ku_MD hown hK hI (0) (wm_0) rfl 0 (by decide) kw_470 rfl d_MD_give_144 ?_
                      refine r_zle (a := 1) (tgt := 152) hx hb d_MD_give_147 (by decide) (by omega) (fun h9 => ?_) (fun h9 => ?_)
                      · exact absurd h9 (by omega)
                      · refine lv_iconst (v := nI 0) hx hb d_MD_give_150 (by decide) ?_
                        exact g_ri hx hb hr hlk hI (rfl) d_MD_give_151
                    · exact absurd h9 (by decide)
                · exact absurd h9 (by decide)
              · exact absurd h9 (by decide)
          · refine lv_iload_n hx hb d_MD_give_35 rfl (lv_at hl 3 rfl) ?_
            refine lv_sipush (v := nI 1024) hx hb d_MD_give_36 (by decide) ?_
            refine lv_icmp_ge (tgt := 57) hx hb d_MD_give_39 (by decide) (fun h8 => ?_) (fun h8 => ?_)
            · refine lv_iconst (v := bI false) hx hb d_MD_give_57 (by decide) ?_
              refine lv_istore_n (lv' := [(3, .int (bI false)), (4, .int (nI 0)), (0, .ref (am 0)), (1, .int x), (2, .int (nI q))]) hx hb d_MD_give_58 rfl hl (by decide) rfl (fun ls hl => ?_)
              refine lv_iinc (v := nI (0 + 1)) (lv' := [(4, .int (nI (0 + 1))), (3, .int (bI false)), (0, .ref (am 0)), (1, .int x), (2, .int (nI q))]) hx hb d_MD_give_59 hl (k := 1) rfl (nI_1 _) (by decide) rfl (fun ls hl => ?_)
              refine lv_goto (tgt := 21) hx hb d_MD_give_62 (by decide) ?_
              refine lv_iload hx hb d_MD_give_21 (lv_at hl 0 rfl) ?_
              refine lv_iload_n hx hb d_MD_give_23 rfl (lv_at hl 4 rfl) ?_
              refine r_ge (a := 0 + 1) (b := q) (tgt := 65) hx hb d_MD_give_24 (by decide) (by omega) (by omega) (fun h6 => ?_) (fun h6 => ?_)
              · refine lv_aload_n hx hb d_MD_give_65 rfl (lv_at hl 2 rfl) ?_
                refine lv_iload_n hx hb d_MD_give_66 rfl (lv_at hl 1 rfl) ?_
                refine r_bz (b := false) (tgt := 74) hx hb d_MD_give_67 (by decide) (fun h9 => ?_) (fun h9 => ?_)
                · refine lv_iconst (v := nI 1) hx hb d_MD_give_74 (by decide) ?_
                  refine g_put (ws' := (wm am cI cZ (vTh τ 1))) (own := "GroupBitmapsModel") (C := R_MD) (T := F_MD) (N := 11) (ci := 3) (v := .int (nI 1)) hx hb hg ku_MD t_MD t_MD_ok n_MD hown hK hI (0) (wm_0) rfl 0 (by decide) kw_470 rfl rfl (rfl) (rfl) (Nat.le_of_ble_eq_true rfl) (wm_vTh) d_MD_give_75 (fun H locs hI => ?_)
                  refine lv_iconst (v := nI 0) hx hb d_MD_give_78 (by decide) ?_
                  refine lv_istore (lv' := [(4, .int (nI 0)), (3, .int (bI false)), (0, .ref (am 0)), (1, .int x), (2, .int (nI q))]) hx hb d_MD_give_79 hl (by decide) rfl (fun ls hl => ?_)
                  refine lv_iload hx hb d_MD_give_81 (lv_at hl 0 rfl) ?_
                  refine lv_iload_n hx hb d_MD_give_83 rfl (lv_at hl 4 rfl) ?_
                  refine r_ge (a := 0) (b := q) (tgt := 143) hx hb d_MD_give_84 (by decide) (by omega) (by omega) (fun h5 => ?_) (fun h5 => ?_)
                  · refine lv_aload_n hx hb d_MD_give_143 rfl (lv_at hl 2 rfl) ?_
                    refine g_get (own := "GroupBitmapsModel") (C := R_MD) (T := F_MD) (N := 11) (ci := 3) (v := .int (nI 1)) hx hb hg ku_MD hown hK hI (0) (wm_0) rfl 0 (by decide) kw_470 rfl d_MD_give_144 ?_
                    refine r_zle (a := 1) (tgt := 152) hx hb d_MD_give_147 (by decide) (by omega) (fun h9 => ?_) (fun h9 => ?_)
                    · exact absurd h9 (by omega)
                    · refine lv_iconst (v := nI 0) hx hb d_MD_give_150 (by decide) ?_
                      exact g_ri hx hb hr hlk hI (rfl) d_MD_give_151
                  · refine lv_iload_n hx hb d_MD_give_87 rfl (lv_at hl 1 rfl) ?_
                    refine r_bz (b := false) (tgt := 143) hx hb d_MD_give_88 (by decide) (fun h9 => ?_) (fun h9 => ?_)
                    · refine lv_aload_n hx hb d_MD_give_143 rfl (lv_at hl 2 rfl) ?_
                      refine g_get (own := "GroupBitmapsModel") (C := R_MD) (T := F_MD) (N := 11) (ci := 3) (v := .int (nI 1)) hx hb hg ku_MD hown hK hI (0) (wm_0) rfl 0 (by decide) kw_470 rfl d_MD_give_144 ?_
                      refine r_zle (a := 1) (tgt := 152) hx hb d_MD_give_147 (by decide) (by omega) (fun h9 => ?_) (fun h9 => ?_)
                      · exact absurd h9 (by omega)
                      · refine lv_iconst (v := nI 0) hx hb d_MD_give_150 (by decide) ?_
                        exact g_ri hx hb hr hlk hI (rfl) d_MD_give_151
                    · exact absurd h9 (by decide)
                · exact absurd h9 (by decide)
              · refine lv_iload_n hx hb d_MD_give_27 rfl (lv_at hl 1 rfl) ?_
                refine r_bz (b := false) (tgt := 65) hx hb d_MD_give_28 (by decide) (fun h9 => ?_) (fun h9 => ?_)
                · refine lv_aload_n hx hb d_MD_give_65 rfl (lv_at hl 2 rfl) ?_
                  refine lv_iload_n hx hb d_MD_give_66 rfl (lv_at hl 1 rfl) ?_
                  refine r_bz (b := false) (tgt := 74) hx hb d_MD_give_67 (by decide) (fun h9 => ?_) (fun h9 => ?_)
                  · refine lv_iconst (v := nI 1) hx hb d_MD_give_74 (by decide) ?_
                    refine g_put (ws' := (wm am cI cZ (vTh τ 1))) (own := "GroupBitmapsModel") (C := R_MD) (T := F_MD) (N := 11) (ci := 3) (v := .int (nI 1)) hx hb hg ku_MD t_MD t_MD_ok n_MD hown hK hI (0) (wm_0) rfl 0 (by decide) kw_470 rfl rfl (rfl) (rfl) (Nat.le_of_ble_eq_true rfl) (wm_vTh) d_MD_give_75 (fun H locs hI => ?_)
                    refine lv_iconst (v := nI 0) hx hb d_MD_give_78 (by decide) ?_
                    refine lv_istore (lv' := [(4, .int (nI 0)), (3, .int (bI false)), (0, .ref (am 0)), (1, .int x), (2, .int (nI q))]) hx hb d_MD_give_79 hl (by decide) rfl (fun ls hl => ?_)
                    refine lv_iload hx hb d_MD_give_81 (lv_at hl 0 rfl) ?_
                    refine lv_iload_n hx hb d_MD_give_83 rfl (lv_at hl 4 rfl) ?_
                    refine r_ge (a := 0) (b := q) (tgt := 143) hx hb d_MD_give_84 (by decide) (by omega) (by omega) (fun h5 => ?_) (fun h5 => ?_)
                    · refine lv_aload_n hx hb d_MD_give_143 rfl (lv_at hl 2 rfl) ?_
                      refine g_get (own := "GroupBitmapsModel") (C := R_MD) (T := F_MD) (N := 11) (ci := 3) (v := .int (nI 1)) hx hb hg ku_MD hown hK hI (0) (wm_0) rfl 0 (by decide) kw_470 rfl d_MD_give_144 ?_
                      refine r_zle (a := 1) (tgt := 152) hx hb d_MD_give_147 (by decide) (by omega) (fun h9 => ?_) (fun h9 => ?_)
                      · exact absurd h9 (by omega)
                      · refine lv_iconst (v := nI 0) hx hb d_MD_give_150 (by decide) ?_
                        exact g_ri hx hb hr hlk hI (rfl) d_MD_give_151
                    · refine lv_iload_n hx hb d_MD_give_87 rfl (lv_at hl 1 rfl) ?_
                      refine r_bz (b := false) (tgt := 143) hx hb d_MD_give_88 (by decide) (fun h9 => ?_) (fun h9 => ?_)
                      · refine lv_aload_n hx hb d_MD_give_143 rfl (lv_at hl 2 rfl) ?_
                        refine g_get (own := "GroupBitmapsModel") (C := R_MD) (T := F_MD) (N := 11) (ci := 3) (v := .int (nI 1)) hx hb hg ku_MD hown hK hI (0) (wm_0) rfl 0 (by decide) kw_470 rfl d_MD_give_144 ?_
                        refine r_zle (a := 1) (tgt := 152) hx hb d_MD_give_147 (by decide) (by omega) (fun h9 => ?_) (fun h9 => ?_)
                        · exact absurd h9 (by omega)
                        · refine lv_iconst (v := nI 0) hx hb d_MD_give_150 (by decide) ?_
                          exact g_ri hx hb hr hlk hI (rfl) d_MD_give_151
                      · exact absurd h9 (by decide)
                  · exact absurd h9 (by decide)
                · exact absurd h9 (by decide)
            · exact absurd hbad (by rintro (z | z); exact h7 z; exact h8 z)
set_option maxHeartbeats 4000000 in
set_option maxRecDepth 100000 in
theorem c_MD_give_bad3 {l : Launch} {D : va_G} {cG cZ cI cJ : ClassId} {am : Nat → Nat} (σ : gS) (τ : mS) (N : Nat) (hK0 : RK N σ τ) (hN : N < 65536) (a q : Nat) (hq1 : 1 ≤ q) (hq : q ≤ 1024) (ha : a < 1024) (hbad : sAll σ < a + q) : gMet l D (gT cG cZ cI cJ) y_MD_give b_MD_give 6 (some .int) ({ frames := 3, cells := 0, slots := 0, locals := 64 }) (wm am cI cZ τ) [.ref (am 0), .int (nI a), .int (nI q)] (wm am cI cZ (vTh τ 1)) (some (.int (nI 0))) := by
  refine gMet_of (by decide) (Nat.le_of_ble_eq_true rfl) ?_
  intro p e s m below meth c A ls hC hA hI hl
  obtain ⟨hx, hb, hr, hlk, hown, hml, hg, hK⟩ := hC
  have hown : s.vm.findClass "GroupBitmapsModel" = some m.cls := hown
  have hl : lv_has ls 6 [(0, .ref (am 0)), (1, .int (nI a)), (2, .int (nI q))] := hl
  have hR := hK0.ri hN
  have hτ := hR.ok
  have hσ := hR.sb
  have hgr := hR.gr
  have hc1 := hσ.1
  have hc2 := hσ.2.1
  refine lv_iload_n hx hb d_MD_give_0 rfl (lv_at hl 2 rfl) ?_
  refine lv_iconst (v := nI 1) hx hb d_MD_give_1 (by decide) ?_
  refine r_lt (a := q) (b := 1) (tgt := 16) hx hb d_MD_give_2 (by decide) (by omega) (by omega) (fun h9 => ?_) (fun h9 => ?_)
  · exact absurd h9 (by omega)
  · refine lv_iload_n hx hb d_MD_give_5 rfl (lv_at hl 2 rfl) ?_
    refine lv_sipush (v := nI 1024) hx hb d_MD_give_6 (by decide) ?_
    refine r_gt (a := q) (b := 1024) (tgt := 16) hx hb d_MD_give_9 (by decide) (by omega) (by omega) (fun h9 => ?_) (fun h9 => ?_)
    · exact absurd h9 (by omega)
    · refine lv_iconst (v := bI true) hx hb d_MD_give_12 (by decide) ?_
      refine lv_goto (tgt := 17) hx hb d_MD_give_13 (by decide) ?_
      refine lv_istore_n (lv' := [(3, .int (bI true)), (0, .ref (am 0)), (1, .int (nI a)), (2, .int (nI q))]) hx hb d_MD_give_17 rfl hl (by decide) rfl (fun ls hl => ?_)
      refine lv_iconst (v := nI 0) hx hb d_MD_give_18 (by decide) ?_
      refine lv_istore (lv' := [(4, .int (nI 0)), (3, .int (bI true)), (0, .ref (am 0)), (1, .int (nI a)), (2, .int (nI q))]) hx hb d_MD_give_19 hl (by decide) rfl (fun ls hl => ?_)
      have loop : ∀ (fuel : Nat) (k : Nat), q + 1 ≤ fuel + k → (k < q ∧ a + k ≤ sAll σ ∨ k = 0) → ∀ (H : Heap) (locs : List Loc) (ls : Array Slot), gI D A s.heap (wm am cI cZ τ) H locs → lv_has ls 6 [(0, .ref (am 0)), (1, .int (nI a)), (2, .int (nI q)), (3, .int (bI true)), (4, .int (nI k))] → W p l e ({ frames := 3, cells := 0, slots := 0, locals := 64 }) s m ([.ref (am 0), .int (nI a), .int (nI q)] : List Value).toArray below meth c H locs 0 0 (gQ D below ([.ref (am 0), .int (nI a), .int (nI q)] : List Value).toArray s A (wm am cI cZ (vTh τ 1)) (some (.int (nI 0)))) (F0 m 21 ls []) := by
        intro fuel
        induction fuel with
        | zero => intro k hfu hk; exact absurd hfu (by omega)
        | succ fuel ih =>
          intro k hfu hk H locs ls hI hl
          refine lv_iload hx hb d_MD_give_21 (lv_at hl 4 rfl) ?_
          refine lv_iload_n hx hb d_MD_give_23 rfl (lv_at hl 2 rfl) ?_
          refine r_ge (a := k) (b := q) (tgt := 65) hx hb d_MD_give_24 (by decide) (by omega) (by omega) (fun h => ?_) (fun h => ?_)
          · exact absurd h (by omega)
          · refine lv_iload_n hx hb d_MD_give_27 rfl (lv_at hl 3 rfl) ?_
            refine r_bz (b := true) (tgt := 65) hx hb d_MD_give_28 (by decide) (fun h9 => ?_) (fun h9 => ?_)
            · exact absurd h9 (by decide)
            · refine lv_iload_n hx hb d_MD_give_31 rfl (lv_at hl 1 rfl) ?_
              refine r_zlt (a := a) (tgt := 57) hx hb d_MD_give_32 (by decide) (by omega) ?_
              refine lv_iload_n hx hb d_MD_give_35 rfl (lv_at hl 1 rfl) ?_
              refine lv_sipush (v := nI 1024) hx hb d_MD_give_36 (by decide) ?_
              refine r_ge (a := a) (b := 1024) (tgt := 57) hx hb d_MD_give_39 (by decide) (by omega) (by omega) (fun h9 => ?_) (fun h9 => ?_)
              · exact absurd h9 (by omega)
              · refine lv_aload_n hx hb d_MD_give_42 rfl (lv_at hl 0 rfl) ?_
                refine lv_iload_n hx hb d_MD_give_43 rfl (lv_at hl 1 rfl) ?_
                refine lv_iload hx hb d_MD_give_44 (lv_at hl 4 rfl) ?_
                refine r_iadd (a := a) (b := k) hx hb d_MD_give_46 ?_
                refine g_callV (own := "GroupBitmapsModel") (C := "GroupBitmapsModel") (T := F_MD) (N := 11) (k := 1) (q0 := 0) (ci := 3) (a := am 0) (As := [.int (nI (a + k))]) (rest := []) (k_ib σ τ hR (nI (a + k))) hx hb hml hown hg hK hI hA kw_529 kw_531 kp_24 kw_4 kw_532 ky_MD_isBlock ⟨Nat.le_of_ble_eq_true rfl, Nat.le_of_ble_eq_true rfl⟩ rfl rfl (wm_0) rfl rfl hl.1 (Nat.le_of_ble_eq_true rfl) ⟨Nat.zero_le _, Nat.zero_le _⟩ d_MD_give_47 rfl rfl (fun H locs hI => ?_)
                refine r_bz (b := sHasB σ (nI (a + k))) (tgt := 57) hx hb d_MD_give_50 (by decide) (fun h8 => ?_) (fun h8 => ?_)
                · refine lv_iconst (v := bI false) hx hb d_MD_give_57 (by decide) ?_
                  refine lv_istore_n (lv' := [(3, .int (bI false)), (0, .ref (am 0)), (1, .int (nI a)), (2, .int (nI q)), (4, .int (nI k))]) hx hb d_MD_give_58 rfl hl (by decide) rfl (fun ls hl => ?_)
                  refine lv_iinc (v := nI (k + 1)) (lv' := [(4, .int (nI (k + 1))), (3, .int (bI false)), (0, .ref (am 0)), (1, .int (nI a)), (2, .int (nI q))]) hx hb d_MD_give_59 hl (k := 4) rfl (nI_1 _) (by decide) rfl (fun ls hl => ?_)
                  refine lv_goto (tgt := 21) hx hb d_MD_give_62 (by decide) ?_
                  refine lv_iload hx hb d_MD_give_21 (lv_at hl 0 rfl) ?_
                  refine lv_iload_n hx hb d_MD_give_23 rfl (lv_at hl 4 rfl) ?_
                  refine r_ge (a := k + 1) (b := q) (tgt := 65) hx hb d_MD_give_24 (by decide) (by omega) (by omega) (fun h6 => ?_) (fun h6 => ?_)
                  · refine lv_aload_n hx hb d_MD_give_65 rfl (lv_at hl 2 rfl) ?_
                    refine lv_iload_n hx hb d_MD_give_66 rfl (lv_at hl 1 rfl) ?_
                    refine r_bz (b := false) (tgt := 74) hx hb d_MD_give_67 (by decide) (fun h9 => ?_) (fun h9 => ?_)
                    · refine lv_iconst (v := nI 1) hx hb d_MD_give_74 (by decide) ?_
                      refine g_put (ws' := (wm am cI cZ (vTh τ 1))) (own := "GroupBitmapsModel") (C := R_MD) (T := F_MD) (N := 11) (ci := 3) (v := .int (nI 1)) hx hb hg ku_MD t_MD t_MD_ok n_MD hown hK hI (0) (wm_0) rfl 0 (by decide) kw_470 rfl rfl (rfl) (rfl) (Nat.le_of_ble_eq_true rfl) (wm_vTh) d_MD_give_75 (fun H locs hI => ?_)
                      refine lv_iconst (v := nI 0) hx hb d_MD_give_78 (by decide) ?_
                      refine lv_istore (lv' := [(4, .int (nI 0)), (3, .int (bI false)), (0, .ref (am 0)), (1, .int (nI a)), (2, .int (nI q))]) hx hb d_MD_give_79 hl (by decide) rfl (fun ls hl => ?_)
                      refine lv_iload hx hb d_MD_give_81 (lv_at hl 0 rfl) ?_
                      refine lv_iload_n hx hb d_MD_give_83 rfl (lv_at hl 4 rfl) ?_
                      refine r_ge (a := 0) (b := q) (tgt := 143) hx hb d_MD_give_84 (by decide) (by omega) (by omega) (fun h5 => ?_) (fun h5 => ?_)
                      · refine lv_aload_n hx hb d_MD_give_143 rfl (lv_at hl 2 rfl) ?_
                        refine g_get (own := "GroupBitmapsModel") (C := R_MD) (T := F_MD) (N := 11) (ci := 3) (v := .int (nI 1)) hx hb hg ku_MD hown hK hI (0) (wm_0) rfl 0 (by decide) kw_470 rfl d_MD_give_144 ?_
                        refine r_zle (a := 1) (tgt := 152) hx hb d_MD_give_147 (by decide) (by omega) (fun h9 => ?_) (fun h9 => ?_)
                        · exact absurd h9 (by omega)
                        · refine lv_iconst (v := nI 0) hx hb d_MD_give_150 (by decide) ?_
                          exact g_ri hx hb hr hlk hI (rfl) d_MD_give_151
                      · refine lv_iload_n hx hb d_MD_give_87 rfl (lv_at hl 1 rfl) ?_
                        refine r_bz (b := false) (tgt := 143) hx hb d_MD_give_88 (by decide) (fun h9 => ?_) (fun h9 => ?_)
                        · refine lv_aload_n hx hb d_MD_give_143 rfl (lv_at hl 2 rfl) ?_
                          refine g_get (own := "GroupBitmapsModel") (C := R_MD) (T := F_MD) (N := 11) (ci := 3) (v := .int (nI 1)) hx hb hg ku_MD hown hK hI (0) (wm_0) rfl 0 (by decide) kw_470 rfl d_MD_give_144 ?_
                          refine r_zle (a := 1) (tgt := 152) hx hb d_MD_give_147 (by decide) (by omega) (fun h9 => ?_) (fun h9 => ?_)
                          · exact absurd h9 (by omega)
                          · refine lv_iconst (v := nI 0) hx hb d_MD_give_150 (by decide) ?_
                            exact g_ri hx hb hr hlk hI (rfl) d_MD_give_151
                        · exact absurd h9 (by decide)
                    · exact absurd h9 (by decide)
                  · refine lv_iload_n hx hb d_MD_give_27 rfl (lv_at hl 1 rfl) ?_
                    refine r_bz (b := false) (tgt := 65) hx hb d_MD_give_28 (by decide) (fun h9 => ?_) (fun h9 => ?_)
                    · refine lv_aload_n hx hb d_MD_give_65 rfl (lv_at hl 2 rfl) ?_
                      refine lv_iload_n hx hb d_MD_give_66 rfl (lv_at hl 1 rfl) ?_
                      refine r_bz (b := false) (tgt := 74) hx hb d_MD_give_67 (by decide) (fun h9 => ?_) (fun h9 => ?_)
                      · refine lv_iconst (v := nI 1) hx hb d_MD_give_74 (by decide) ?_
                        refine g_put (ws' := (wm am cI cZ (vTh τ 1))) (own := "GroupBitmapsModel") (C := R_MD) (T := F_MD) (N := 11) (ci := 3) (v := .int (nI 1)) hx hb hg ku_MD t_MD t_MD_ok n_MD hown hK hI (0) (wm_0) rfl 0 (by decide) kw_470 rfl rfl (rfl) (rfl) (Nat.le_of_ble_eq_true rfl) (wm_vTh) d_MD_give_75 (fun H locs hI => ?_)
                        refine lv_iconst (v := nI 0) hx hb d_MD_give_78 (by decide) ?_
                        refine lv_istore (lv' := [(4, .int (nI 0)), (3, .int (bI false)), (0, .ref (am 0)), (1, .int (nI a)), (2, .int (nI q))]) hx hb d_MD_give_79 hl (by decide) rfl (fun ls hl => ?_)
                        refine lv_iload hx hb d_MD_give_81 (lv_at hl 0 rfl) ?_
                        refine lv_iload_n hx hb d_MD_give_83 rfl (lv_at hl 4 rfl) ?_
                        refine r_ge (a := 0) (b := q) (tgt := 143) hx hb d_MD_give_84 (by decide) (by omega) (by omega) (fun h5 => ?_) (fun h5 => ?_)
                        · refine lv_aload_n hx hb d_MD_give_143 rfl (lv_at hl 2 rfl) ?_
                          refine g_get (own := "GroupBitmapsModel") (C := R_MD) (T := F_MD) (N := 11) (ci := 3) (v := .int (nI 1)) hx hb hg ku_MD hown hK hI (0) (wm_0) rfl 0 (by decide) kw_470 rfl d_MD_give_144 ?_
                          refine r_zle (a := 1) (tgt := 152) hx hb d_MD_give_147 (by decide) (by omega) (fun h9 => ?_) (fun h9 => ?_)
                          · exact absurd h9 (by omega)
                          · refine lv_iconst (v := nI 0) hx hb d_MD_give_150 (by decide) ?_
                            exact g_ri hx hb hr hlk hI (rfl) d_MD_give_151
                        · refine lv_iload_n hx hb d_MD_give_87 rfl (lv_at hl 1 rfl) ?_
                          refine r_bz (b := false) (tgt := 143) hx hb d_MD_give_88 (by decide) (fun h9 => ?_) (fun h9 => ?_)
                          · refine lv_aload_n hx hb d_MD_give_143 rfl (lv_at hl 2 rfl) ?_
                            refine g_get (own := "GroupBitmapsModel") (C := R_MD) (T := F_MD) (N := 11) (ci := 3) (v := .int (nI 1)) hx hb hg ku_MD hown hK hI (0) (wm_0) rfl 0 (by decide) kw_470 rfl d_MD_give_144 ?_
                            refine r_zle (a := 1) (tgt := 152) hx hb d_MD_give_147 (by decide) (by omega) (fun h9 => ?_) (fun h9 => ?_)
                            · exact absurd h9 (by omega)
                            · refine lv_iconst (v := nI 0) hx hb d_MD_give_150 (by decide) ?_
                              exact g_ri hx hb hr hlk hI (rfl) d_MD_give_151
                          · exact absurd h9 (by decide)
                      · exact absurd h9 (by decide)
                    · exact absurd h9 (by decide)
                · have hlt : a + k < sAll σ := by rcases Nat.lt_or_ge (a + k) (sAll σ) with z | z; exact z; exact absurd ((sHasB_no (by omega) z).symm.trans h8) (by decide)
                  refine lv_iconst (v := bI true) hx hb d_MD_give_53 (by decide) ?_
                  refine lv_goto (tgt := 58) hx hb d_MD_give_54 (by decide) ?_
                  refine lv_istore_n (lv' := [(3, .int (bI true)), (0, .ref (am 0)), (1, .int (nI a)), (2, .int (nI q)), (4, .int (nI k))]) hx hb d_MD_give_58 rfl hl (by decide) rfl (fun ls hl => ?_)
                  refine lv_iinc (v := nI (k + 1)) (lv' := [(4, .int (nI (k + 1))), (3, .int (bI true)), (0, .ref (am 0)), (1, .int (nI a)), (2, .int (nI q))]) hx hb d_MD_give_59 hl (k := 4) rfl (nI_1 _) (by decide) rfl (fun ls hl => ?_)
                  refine lv_goto (tgt := 21) hx hb d_MD_give_62 (by decide) ?_
                  exact ih (k + 1) (by omega) (by omega) _ _ _ hI (lv_sub hl [2, 3, 4, 1, 0] rfl)
      exact loop (q + 1) 0 (by omega) (Or.inr rfl) _ _ _ hI (lv_sub hl [2, 3, 4, 1, 0] rfl)
