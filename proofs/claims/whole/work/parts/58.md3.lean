set_option maxHeartbeats 4000000 in
set_option maxRecDepth 100000 in
theorem c_MD_findRun0 {l : Launch} {D : va_G} {cG cZ cI cJ : ClassId} {am : Nat → Nat} (τ : mS) (hτ : mOk τ) (g : Nat) (hg4 : g < 4) : gMet l D (gT cG cZ cI cJ) y_MD_findRun b_MD_findRun 7 none ({ frames := 0, cells := 0, slots := 0, locals := 0 }) (wm am cI cZ τ) [.ref (am 0), .int (nI g), .int (nI 0)] (wm am cI cZ (mFr0 τ g (mSz τ g))) (none) := by
  refine gMet_of (by decide) (Nat.le_of_ble_eq_true rfl) ?_
  intro p e s m below meth c A ls hC hA hI hl
  obtain ⟨hx, hb, hr, hlk, hown, hml, hg, hK⟩ := hC
  have hown : s.vm.findClass "GroupBitmapsModel" = some m.cls := hown
  have hl : lv_has ls 7 [(0, .ref (am 0)), (1, .int (nI g)), (2, .int (nI 0))] := hl
  have hc1 := hτ.1
  have hc2 := hτ.2.1
  have hz := hτ.2.2.2.1 g hg4
  refine lv_aload_n hx hb d_MD_findRun_0 rfl (lv_at hl 0 rfl) ?_
  refine lv_iconst (v := nI 0) hx hb d_MD_findRun_1 (by decide) ?_
  refine g_put (ws' := (wm am cI cZ (vRz τ 0))) (own := "GroupBitmapsModel") (C := R_MD) (T := F_MD) (N := 11) (ci := 3) (v := .int (nI 0)) hx hb hg ku_MD t_MD t_MD_ok n_MD hown hK hI (0) (wm_0) rfl 10 (by decide) kw_480 rfl rfl (rfl) (rfl) (Nat.le_of_ble_eq_true rfl) (wm_vRz) d_MD_findRun_2 (fun H locs hI => ?_)
  refine lv_iconst (v := nI 0) hx hb d_MD_findRun_5 (by decide) ?_
  refine lv_istore_n (lv' := [(3, .int (nI 0)), (0, .ref (am 0)), (1, .int (nI g)), (2, .int (nI 0))]) hx hb d_MD_findRun_6 rfl hl (by decide) rfl (fun ls hl => ?_)
  have loop : ∀ (fuel : Nat) (k kk : Nat), mSz τ g + 2 ≤ fuel + k → (kk ≤ mSz τ g) → ((k = kk ∧ (lrF (mB τ g) kk).2 = 0) ∨ (k = mSz τ g + 1 ∧ kk = mSz τ g)) → ∀ (H : Heap) (locs : List Loc) (ls : Array Slot), gI D A s.heap (wm am cI cZ (mFr0 τ g kk)) H locs → lv_has ls 7 [(0, .ref (am 0)), (1, .int (nI g)), (2, .int (nI 0)), (3, .int (nI k))] → W p l e ({ frames := 0, cells := 0, slots := 0, locals := 0 }) s m ([.ref (am 0), .int (nI g), .int (nI 0)] : List Value).toArray below meth c H locs 0 0 (gQ D below ([.ref (am 0), .int (nI g), .int (nI 0)] : List Value).toArray s A (wm am cI cZ (mFr0 τ g (mSz τ g))) (none)) (F0 m 7 ls []) := by
    intro fuel
    induction fuel with
    | zero => intro k kk hfu hkk hk; exact absurd hfu (by omega)
    | succ fuel ih =>
      intro k kk hfu hkk hk H locs ls hI hl
      have hszz : mSz (mFr0 τ g kk) g = mSz τ g := rfl
      refine lv_iload_n hx hb d_MD_findRun_7 rfl (lv_at hl 3 rfl) ?_
      refine lv_aload_n hx hb d_MD_findRun_8 rfl (lv_at hl 0 rfl) ?_
      refine g_get (own := "GroupBitmapsModel") (C := R_MD) (T := F_MD) (N := 11) (ci := 3) (v := .ref (am 1)) hx hb hg ku_MD hown hK hI (0) (wm_0) rfl 2 (by decide) kw_472 rfl d_MD_findRun_9 ?_
      refine lv_iload_n hx hb d_MD_findRun_12 rfl (lv_at hl 1 rfl) ?_
      refine g_iald (F := (mSz (mFr0 τ g kk))) (i := g) hx hb hK hI (1) 2 (wm_Sz) rfl (hg4) (by omega) d_MD_findRun_13 ?_
      refine r_ge (a := k) (b := (mSz (mFr0 τ g kk)) g) (tgt := 144) hx hb d_MD_findRun_14 (by decide) (by omega) (by omega) (fun h => ?_) (fun h => ?_)
      · obtain rfl : kk = mSz τ g := by omega
        exact g_rv hx hb hr hlk hI (rfl) d_MD_findRun_144
      · obtain ⟨rfl, h0⟩ : k = kk ∧ (lrF (mB τ g) kk).2 = 0 := by rcases hk with hk | hk; exact hk; exact absurd h (by omega)
        refine lv_iload_n hx hb d_MD_findRun_17 rfl (lv_at hl 3 rfl) ?_
        refine lv_istore (lv' := [(4, .int (nI k)), (0, .ref (am 0)), (1, .int (nI g)), (2, .int (nI 0)), (3, .int (nI k))]) hx hb d_MD_findRun_18 hl (by decide) rfl (fun ls hl => ?_)
        have tail : ∀ (t : Nat), (k + t ≤ mSz τ g) → (∀ i, i < t → mB τ g (k + i) = false) → (mB τ g (k + t) = true) → ∀ (H : Heap) (locs : List Loc) (ls : Array Slot), gI D A s.heap (wm am cI cZ (mFr0 τ g k)) H locs → lv_has ls 7 [(0, .ref (am 0)), (1, .int (nI g)), (2, .int (nI 0)), (3, .int (nI k)), (4, .int (nI (k + t)))] → W p l e ({ frames := 0, cells := 0, slots := 0, locals := 0 }) s m ([.ref (am 0), .int (nI g), .int (nI 0)] : List Value).toArray below meth c H locs 0 0 (gQ D below ([.ref (am 0), .int (nI g), .int (nI 0)] : List Value).toArray s A (wm am cI cZ (mFr0 τ g (mSz τ g))) (none)) (F0 m 53 ls []) := by
          intro t ht hf he H locs ls hI hl
          have hRle : (lrF (mB τ g) k).1 ≤ 65535 := by have := (lrF_le (mB τ g) k).1; omega
          refine lv_iload hx hb d_MD_findRun_53 (lv_at hl 4 rfl) ?_
          refine lv_iload_n hx hb d_MD_findRun_55 rfl (lv_at hl 3 rfl) ?_
          refine r_isub (a := k + t) (b := k) hx hb (by omega) d_MD_findRun_56 ?_
          rw [show k + t - k = t by omega]
          refine lv_istore (lv' := [(5, .int (nI t)), (0, .ref (am 0)), (1, .int (nI g)), (2, .int (nI 0)), (3, .int (nI k)), (4, .int (nI (k + t)))]) hx hb d_MD_findRun_57 hl (by decide) rfl (fun ls hl => ?_)
          refine lv_iload_n hx hb d_MD_findRun_59 rfl (lv_at hl 3 rfl) ?_
          refine r_zne (a := 0) (tgt := 80) hx hb d_MD_findRun_60 (by decide) (by omega) (fun h4 => ?_) (fun h4 => ?_)
          · exact absurd h4 (by omega)
          · refine lv_iload hx hb d_MD_findRun_63 (lv_at hl 0 rfl) ?_
            refine lv_aload_n hx hb d_MD_findRun_65 rfl (lv_at hl 1 rfl) ?_
            refine g_get (own := "GroupBitmapsModel") (C := R_MD) (T := F_MD) (N := 11) (ci := 3) (v := .int (nI (mRz (mFr0 τ g k)))) hx hb hg ku_MD hown hK hI (0) (wm_0) rfl 10 (by decide) kw_480 rfl d_MD_findRun_66 ?_
            refine r_le (a := t) (b := (lrF (mB τ g) k).1) (tgt := 76) hx hb d_MD_findRun_69 (by decide) (by omega) (by omega) (fun h5 => ?_) (fun h5 => ?_)
            · refine lv_iconst (v := bI false) hx hb d_MD_findRun_76 (by decide) ?_
              refine lv_goto (tgt := 107) hx hb d_MD_findRun_77 (by decide) ?_
              refine lv_istore (lv' := [(6, .int (bI false)), (5, .int (nI t)), (0, .ref (am 0)), (1, .int (nI g)), (2, .int (nI 0)), (3, .int (nI k)), (4, .int (nI (k + t)))]) hx hb d_MD_findRun_107 hl (by decide) rfl (fun ls hl => ?_)
              refine lv_iload hx hb d_MD_findRun_109 (lv_at hl 1 rfl) ?_
              refine r_zle (a := t) (tgt := 136) hx hb d_MD_findRun_111 (by decide) (by omega) (fun h8 => ?_) (fun h8 => ?_)
              · have ew := mFr0_skip h0 hf h5
                refine lv_iload hx hb d_MD_findRun_136 (lv_at hl 6 rfl) ?_
                refine lv_iconst (v := nI 1) hx hb d_MD_findRun_138 (by decide) ?_
                refine r_iadd (a := k + t) (b := 1) hx hb d_MD_findRun_139 ?_
                refine lv_istore_n (lv' := [(3, .int (nI ((k + t) + 1))), (6, .int (bI false)), (5, .int (nI t)), (0, .ref (am 0)), (1, .int (nI g)), (2, .int (nI 0)), (4, .int (nI (k + t)))]) hx hb d_MD_findRun_140 rfl hl (by decide) rfl (fun ls hl => ?_)
                refine lv_goto (tgt := 7) hx hb d_MD_findRun_141 (by decide) ?_
                rcases Nat.lt_or_ge (k + t) (mSz τ g) with hlt | hge
                · obtain ⟨e3, e4⟩ := mFr0_tk he
                  exact ih (k + t + 1) (k + t + 1) (by omega) (by omega) (Or.inl ⟨rfl, e4⟩) _ _ _ (by rw [e3, ew]; exact hI) (lv_sub hl [3, 4, 5, 0] rfl)
                · exact ih (k + t + 1) (k + t) (by omega) (by omega) (Or.inr ⟨by omega, by omega⟩) _ _ _ (by rw [ew]; exact hI) (lv_sub hl [3, 4, 5, 0] rfl)
              · refine lv_iload hx hb d_MD_findRun_114 (lv_at hl 0 rfl) ?_
                refine r_bz (b := false) (tgt := 136) hx hb d_MD_findRun_116 (by decide) (fun h9 => ?_) (fun h9 => ?_)
                · have ew := mFr0_skip h0 hf h5
                  refine lv_iload hx hb d_MD_findRun_136 (lv_at hl 6 rfl) ?_
                  refine lv_iconst (v := nI 1) hx hb d_MD_findRun_138 (by decide) ?_
                  refine r_iadd (a := k + t) (b := 1) hx hb d_MD_findRun_139 ?_
                  refine lv_istore_n (lv' := [(3, .int (nI ((k + t) + 1))), (6, .int (bI false)), (5, .int (nI t)), (0, .ref (am 0)), (1, .int (nI g)), (2, .int (nI 0)), (4, .int (nI (k + t)))]) hx hb d_MD_findRun_140 rfl hl (by decide) rfl (fun ls hl => ?_)
                  refine lv_goto (tgt := 7) hx hb d_MD_findRun_141 (by decide) ?_
                  rcases Nat.lt_or_ge (k + t) (mSz τ g) with hlt | hge
                  · obtain ⟨e3, e4⟩ := mFr0_tk he
                    exact ih (k + t + 1) (k + t + 1) (by omega) (by omega) (Or.inl ⟨rfl, e4⟩) _ _ _ (by rw [e3, ew]; exact hI) (lv_sub hl [3, 4, 5, 0] rfl)
                  · exact ih (k + t + 1) (k + t) (by omega) (by omega) (Or.inr ⟨by omega, by omega⟩) _ _ _ (by rw [ew]; exact hI) (lv_sub hl [3, 4, 5, 0] rfl)
                · exact absurd h9 (by decide)
            · refine lv_iconst (v := bI true) hx hb d_MD_findRun_72 (by decide) ?_
              refine lv_goto (tgt := 107) hx hb d_MD_findRun_73 (by decide) ?_
              refine lv_istore (lv' := [(6, .int (bI true)), (5, .int (nI t)), (0, .ref (am 0)), (1, .int (nI g)), (2, .int (nI 0)), (3, .int (nI k)), (4, .int (nI (k + t)))]) hx hb d_MD_findRun_107 hl (by decide) rfl (fun ls hl => ?_)
              refine lv_iload hx hb d_MD_findRun_109 (lv_at hl 1 rfl) ?_
              refine r_zle (a := t) (tgt := 136) hx hb d_MD_findRun_111 (by decide) (by omega) (fun h8 => ?_) (fun h8 => ?_)
              · exact absurd h8 (by omega)
              · refine lv_iload hx hb d_MD_findRun_114 (lv_at hl 0 rfl) ?_
                refine r_bz (b := true) (tgt := 136) hx hb d_MD_findRun_116 (by decide) (fun h9 => ?_) (fun h9 => ?_)
                · exact absurd h9 (by decide)
                · refine lv_aload_n hx hb d_MD_findRun_119 rfl (lv_at hl 2 rfl) ?_
                  refine lv_sipush (v := nI 256) hx hb d_MD_findRun_120 (by decide) ?_
                  refine lv_iload_n hx hb d_MD_findRun_123 rfl (lv_at hl 3 rfl) ?_
                  refine r_imul (a := 256) (b := g) hx hb d_MD_findRun_124 ?_
                  refine lv_iload_n hx hb d_MD_findRun_125 rfl (lv_at hl 5 rfl) ?_
                  refine r_iadd (a := 256 * g) (b := k) hx hb d_MD_findRun_126 ?_
                  refine g_put (ws' := (wm am cI cZ (vRa (mFr0 τ g k) (256 * g + k)))) (own := "GroupBitmapsModel") (C := R_MD) (T := F_MD) (N := 11) (ci := 3) (v := .int (nI ((256 * g) + k))) hx hb hg ku_MD t_MD t_MD_ok n_MD hown hK hI (0) (wm_0) rfl 9 (by decide) kw_479 rfl rfl (rfl) (rfl) (Nat.le_of_ble_eq_true rfl) (wm_vRa) d_MD_findRun_127 (fun H locs hI => ?_)
                  refine lv_aload_n hx hb d_MD_findRun_130 rfl (lv_at hl 2 rfl) ?_
                  refine lv_iload hx hb d_MD_findRun_131 (lv_at hl 1 rfl) ?_
                  refine g_put (ws' := (wm am cI cZ (vRz (vRa (mFr0 τ g k) (256 * g + k)) t))) (own := "GroupBitmapsModel") (C := R_MD) (T := F_MD) (N := 11) (ci := 3) (v := .int (nI t)) hx hb hg ku_MD t_MD t_MD_ok n_MD hown hK hI (0) (wm_0) rfl 10 (by decide) kw_480 rfl rfl (rfl) (rfl) (Nat.le_of_ble_eq_true rfl) (wm_vRz) d_MD_findRun_133 (fun H locs hI => ?_)
                  have ew := mFr0_take h0 hf h5
                  refine lv_iload hx hb d_MD_findRun_136 (lv_at hl 6 rfl) ?_
                  refine lv_iconst (v := nI 1) hx hb d_MD_findRun_138 (by decide) ?_
                  refine r_iadd (a := k + t) (b := 1) hx hb d_MD_findRun_139 ?_
                  refine lv_istore_n (lv' := [(3, .int (nI ((k + t) + 1))), (6, .int (bI true)), (5, .int (nI t)), (0, .ref (am 0)), (1, .int (nI g)), (2, .int (nI 0)), (4, .int (nI (k + t)))]) hx hb d_MD_findRun_140 rfl hl (by decide) rfl (fun ls hl => ?_)
                  refine lv_goto (tgt := 7) hx hb d_MD_findRun_141 (by decide) ?_
                  rcases Nat.lt_or_ge (k + t) (mSz τ g) with hlt | hge
                  · obtain ⟨e3, e4⟩ := mFr0_tk he
                    exact ih (k + t + 1) (k + t + 1) (by omega) (by omega) (Or.inl ⟨rfl, e4⟩) _ _ _ (by rw [e3, ew]; exact hI) (lv_sub hl [3, 4, 5, 0] rfl)
                  · exact ih (k + t + 1) (k + t) (by omega) (by omega) (Or.inr ⟨by omega, by omega⟩) _ _ _ (by rw [ew]; exact hI) (lv_sub hl [3, 4, 5, 0] rfl)
        have loop2 : ∀ (fuel : Nat) (t : Nat), mSz τ g + 1 ≤ fuel + (k + t) → (k + t ≤ mSz τ g) → (∀ i, i < t → mB τ g (k + i) = false) → ∀ (H : Heap) (locs : List Loc) (ls : Array Slot), gI D A s.heap (wm am cI cZ (mFr0 τ g k)) H locs → lv_has ls 7 [(0, .ref (am 0)), (1, .int (nI g)), (2, .int (nI 0)), (3, .int (nI k)), (4, .int (nI (k + t)))] → W p l e ({ frames := 0, cells := 0, slots := 0, locals := 0 }) s m ([.ref (am 0), .int (nI g), .int (nI 0)] : List Value).toArray below meth c H locs 0 0 (gQ D below ([.ref (am 0), .int (nI g), .int (nI 0)] : List Value).toArray s A (wm am cI cZ (mFr0 τ g (mSz τ g))) (none)) (F0 m 20 ls []) := by
          intro fuel
          induction fuel with
          | zero => intro t hfu ht hf; exact absurd hfu (by omega)
          | succ fuel ih2 =>
            intro t hfu ht hf H locs ls hI hl
            have hszz : mSz (mFr0 τ g k) g = mSz τ g := rfl
            refine lv_iload hx hb d_MD_findRun_20 (lv_at hl 4 rfl) ?_
            refine lv_aload_n hx hb d_MD_findRun_22 rfl (lv_at hl 0 rfl) ?_
            refine g_get (own := "GroupBitmapsModel") (C := R_MD) (T := F_MD) (N := 11) (ci := 3) (v := .ref (am 1)) hx hb hg ku_MD hown hK hI (0) (wm_0) rfl 2 (by decide) kw_472 rfl d_MD_findRun_23 ?_
            refine lv_iload_n hx hb d_MD_findRun_26 rfl (lv_at hl 1 rfl) ?_
            refine g_iald (F := (mSz (mFr0 τ g k))) (i := g) hx hb hK hI (1) 2 (wm_Sz) rfl (hg4) (by omega) d_MD_findRun_27 ?_
            refine r_ge (a := k + t) (b := (mSz (mFr0 τ g k)) g) (tgt := 53) hx hb d_MD_findRun_28 (by decide) (by omega) (by omega) (fun h3 => ?_) (fun h3 => ?_)
            · exact tail t ht hf (mB_ge (by omega)) _ _ _ hI (lv_sub hl [0, 1, 2, 3, 4] rfl)
            · have hlt : k + t < mSz τ g := by omega
              refine lv_aload_n hx hb d_MD_findRun_31 rfl (lv_at hl 0 rfl) ?_
              refine g_get (own := "GroupBitmapsModel") (C := R_MD) (T := F_MD) (N := 11) (ci := 3) (v := .ref (am 2)) hx hb hg ku_MD hown hK hI (0) (wm_0) rfl 3 (by decide) kw_473 rfl d_MD_findRun_32 ?_
              refine lv_sipush (v := nI 256) hx hb d_MD_findRun_35 (by decide) ?_
              refine lv_iload_n hx hb d_MD_findRun_38 rfl (lv_at hl 1 rfl) ?_
              refine r_imul (a := 256) (b := g) hx hb d_MD_findRun_39 ?_
              refine lv_iload hx hb d_MD_findRun_40 (lv_at hl 4 rfl) ?_
              refine r_iadd (a := 256 * g) (b := k + t) hx hb d_MD_findRun_42 ?_
              refine g_zald (B := (mBk (mFr0 τ g k))) (i := (256 * g) + (k + t)) hx hb hK hI (2) 1 (wm_Bk) rfl (by omega) (by omega) d_MD_findRun_43 ?_
              refine r_bnz (b := (mBk (mFr0 τ g k)) ((256 * g) + (k + t))) (tgt := 53) hx hb d_MD_findRun_44 (by decide) (fun h4 => ?_) (fun h4 => ?_)
              · exact tail t ht hf ((mB_lt hlt).trans h4) _ _ _ hI (lv_sub hl [0, 1, 2, 3, 4] rfl)
              · refine lv_iinc (v := nI ((k + t) + 1)) (lv' := [(4, .int (nI ((k + t) + 1))), (0, .ref (am 0)), (1, .int (nI g)), (2, .int (nI 0)), (3, .int (nI k))]) hx hb d_MD_findRun_47 hl (k := 4) rfl (nI_1 _) (by decide) rfl (fun ls hl => ?_)
                refine lv_goto (tgt := 20) hx hb d_MD_findRun_50 (by decide) ?_
                exact ih2 (t + 1) (by omega) (by omega) (fun i hi => by rcases Nat.lt_succ_iff_lt_or_eq.mp hi with q9 | q9; exact hf i q9; rw [q9]; exact (mB_lt hlt).trans h4) _ _ _ hI (lv_sub hl [1, 2, 3, 4, 0] rfl)
        exact loop2 (mSz τ g + 1) 0 (by omega) (by omega) (fun i hi => absurd hi (Nat.not_lt_zero _)) _ _ _ hI (lv_sub hl [1, 2, 3, 4, 0] rfl)
  exact loop (mSz τ g + 2) 0 0 (by omega) (Nat.zero_le _) (Or.inl ⟨rfl, rfl⟩) _ _ _ hI (lv_sub hl [1, 2, 3, 0] rfl)
set_option maxHeartbeats 4000000 in
set_option maxRecDepth 100000 in
theorem c_MD_findRunq {l : Launch} {D : va_G} {cG cZ cI cJ : ClassId} {am : Nat → Nat} (τ : mS) (hτ : mOk τ) (g : Nat) (hg4 : g < 4) (q : Nat) (hq1 : 1 ≤ q) (hq : q < 65536) : gMet l D (gT cG cZ cI cJ) y_MD_findRun b_MD_findRun 7 none ({ frames := 0, cells := 0, slots := 0, locals := 0 }) (wm am cI cZ τ) [.ref (am 0), .int (nI g), .int (nI q)] (wm am cI cZ (mFrq τ g q (mSz τ g))) (none) := by
  refine gMet_of (by decide) (Nat.le_of_ble_eq_true rfl) ?_
  intro p e s m below meth c A ls hC hA hI hl
  obtain ⟨hx, hb, hr, hlk, hown, hml, hg, hK⟩ := hC
  have hown : s.vm.findClass "GroupBitmapsModel" = some m.cls := hown
  have hl : lv_has ls 7 [(0, .ref (am 0)), (1, .int (nI g)), (2, .int (nI q))] := hl
  have hc1 := hτ.1
  have hc2 := hτ.2.1
  have hz := hτ.2.2.2.1 g hg4
  refine lv_aload_n hx hb d_MD_findRun_0 rfl (lv_at hl 0 rfl) ?_
  refine lv_iconst (v := nI 0) hx hb d_MD_findRun_1 (by decide) ?_
  refine g_put (ws' := (wm am cI cZ (vRz τ 0))) (own := "GroupBitmapsModel") (C := R_MD) (T := F_MD) (N := 11) (ci := 3) (v := .int (nI 0)) hx hb hg ku_MD t_MD t_MD_ok n_MD hown hK hI (0) (wm_0) rfl 10 (by decide) kw_480 rfl rfl (rfl) (rfl) (Nat.le_of_ble_eq_true rfl) (wm_vRz) d_MD_findRun_2 (fun H locs hI => ?_)
  refine lv_iconst (v := nI 0) hx hb d_MD_findRun_5 (by decide) ?_
  refine lv_istore_n (lv' := [(3, .int (nI 0)), (0, .ref (am 0)), (1, .int (nI g)), (2, .int (nI q))]) hx hb d_MD_findRun_6 rfl hl (by decide) rfl (fun ls hl => ?_)
  have loop : ∀ (fuel : Nat) (k kk : Nat), mSz τ g + 2 ≤ fuel + k → (kk ≤ mSz τ g) → ((k = kk ∧ (srF (mB τ g) q (mSz τ g + 1) kk).2.2 = 0) ∨ (k = mSz τ g + 1 ∧ kk = mSz τ g)) → ∀ (H : Heap) (locs : List Loc) (ls : Array Slot), gI D A s.heap (wm am cI cZ (mFrq τ g q kk)) H locs → lv_has ls 7 [(0, .ref (am 0)), (1, .int (nI g)), (2, .int (nI q)), (3, .int (nI k))] → W p l e ({ frames := 0, cells := 0, slots := 0, locals := 0 }) s m ([.ref (am 0), .int (nI g), .int (nI q)] : List Value).toArray below meth c H locs 0 0 (gQ D below ([.ref (am 0), .int (nI g), .int (nI q)] : List Value).toArray s A (wm am cI cZ (mFrq τ g q (mSz τ g))) (none)) (F0 m 7 ls []) := by
    intro fuel
    induction fuel with
    | zero => intro k kk hfu hkk hk; exact absurd hfu (by omega)
    | succ fuel ih =>
      intro k kk hfu hkk hk H locs ls hI hl
      have hszz : mSz (mFrq τ g q kk) g = mSz τ g := rfl
      refine lv_iload_n hx hb d_MD_findRun_7 rfl (lv_at hl 3 rfl) ?_
      refine lv_aload_n hx hb d_MD_findRun_8 rfl (lv_at hl 0 rfl) ?_
      refine g_get (own := "GroupBitmapsModel") (C := R_MD) (T := F_MD) (N := 11) (ci := 3) (v := .ref (am 1)) hx hb hg ku_MD hown hK hI (0) (wm_0) rfl 2 (by decide) kw_472 rfl d_MD_findRun_9 ?_
      refine lv_iload_n hx hb d_MD_findRun_12 rfl (lv_at hl 1 rfl) ?_
      refine g_iald (F := (mSz (mFrq τ g q kk))) (i := g) hx hb hK hI (1) 2 (wm_Sz) rfl (hg4) (by omega) d_MD_findRun_13 ?_
      refine r_ge (a := k) (b := (mSz (mFrq τ g q kk)) g) (tgt := 144) hx hb d_MD_findRun_14 (by decide) (by omega) (by omega) (fun h => ?_) (fun h => ?_)
      · obtain rfl : kk = mSz τ g := by omega
        exact g_rv hx hb hr hlk hI (rfl) d_MD_findRun_144
      · obtain ⟨rfl, h0⟩ : k = kk ∧ (srF (mB τ g) q (mSz τ g + 1) kk).2.2 = 0 := by rcases hk with hk | hk; exact hk; exact absurd h (by omega)
        refine lv_iload_n hx hb d_MD_findRun_17 rfl (lv_at hl 3 rfl) ?_
        refine lv_istore (lv' := [(4, .int (nI k)), (0, .ref (am 0)), (1, .int (nI g)), (2, .int (nI q)), (3, .int (nI k))]) hx hb d_MD_findRun_18 hl (by decide) rfl (fun ls hl => ?_)
        have tail : ∀ (t : Nat), (k + t ≤ mSz τ g) → (∀ i, i < t → mB τ g (k + i) = false) → (mB τ g (k + t) = true) → ∀ (H : Heap) (locs : List Loc) (ls : Array Slot), gI D A s.heap (wm am cI cZ (mFrq τ g q k)) H locs → lv_has ls 7 [(0, .ref (am 0)), (1, .int (nI g)), (2, .int (nI q)), (3, .int (nI k)), (4, .int (nI (k + t)))] → W p l e ({ frames := 0, cells := 0, slots := 0, locals := 0 }) s m ([.ref (am 0), .int (nI g), .int (nI q)] : List Value).toArray below meth c H locs 0 0 (gQ D below ([.ref (am 0), .int (nI g), .int (nI q)] : List Value).toArray s A (wm am cI cZ (mFrq τ g q (mSz τ g))) (none)) (F0 m 53 ls []) := by
          intro t ht hf he H locs ls hI hl
          have hRle : mRzq τ g q k ≤ 65535 := by have := (srF_inv (mB τ g) q (mSz τ g + 1) k).2.1; unfold mRzq; cases hs : (srF (mB τ g) q (mSz τ g + 1) k).1 with | none => exact Nat.zero_le _ | some a => have := (this a hs).2.1; dsimp only; omega
          refine lv_iload hx hb d_MD_findRun_53 (lv_at hl 4 rfl) ?_
          refine lv_iload_n hx hb d_MD_findRun_55 rfl (lv_at hl 3 rfl) ?_
          refine r_isub (a := k + t) (b := k) hx hb (by omega) d_MD_findRun_56 ?_
          rw [show k + t - k = t by omega]
          refine lv_istore (lv' := [(5, .int (nI t)), (0, .ref (am 0)), (1, .int (nI g)), (2, .int (nI q)), (3, .int (nI k)), (4, .int (nI (k + t)))]) hx hb d_MD_findRun_57 hl (by decide) rfl (fun ls hl => ?_)
          refine lv_iload_n hx hb d_MD_findRun_59 rfl (lv_at hl 3 rfl) ?_
          refine r_zne (a := q) (tgt := 80) hx hb d_MD_findRun_60 (by decide) (by omega) (fun h4 => ?_) (fun h4 => ?_)
          · refine lv_iload hx hb d_MD_findRun_80 (lv_at hl 0 rfl) ?_
            refine lv_iload_n hx hb d_MD_findRun_82 rfl (lv_at hl 3 rfl) ?_
            refine r_lt (a := t) (b := q) (tgt := 106) hx hb d_MD_findRun_83 (by decide) (by omega) (by omega) (fun h5 => ?_) (fun h5 => ?_)
            · refine lv_iconst (v := bI false) hx hb d_MD_findRun_106 (by decide) ?_
              refine lv_istore (lv' := [(6, .int (bI false)), (5, .int (nI t)), (0, .ref (am 0)), (1, .int (nI g)), (2, .int (nI q)), (3, .int (nI k)), (4, .int (nI (k + t)))]) hx hb d_MD_findRun_107 hl (by decide) rfl (fun ls hl => ?_)
              refine lv_iload hx hb d_MD_findRun_109 (lv_at hl 1 rfl) ?_
              refine r_zle (a := t) (tgt := 136) hx hb d_MD_findRun_111 (by decide) (by omega) (fun h8 => ?_) (fun h8 => ?_)
              · have ew := mFrq_skip h0 hf he hq1 (by omega) (Or.inl h5)
                refine lv_iload hx hb d_MD_findRun_136 (lv_at hl 6 rfl) ?_
                refine lv_iconst (v := nI 1) hx hb d_MD_findRun_138 (by decide) ?_
                refine r_iadd (a := k + t) (b := 1) hx hb d_MD_findRun_139 ?_
                refine lv_istore_n (lv' := [(3, .int (nI ((k + t) + 1))), (6, .int (bI false)), (5, .int (nI t)), (0, .ref (am 0)), (1, .int (nI g)), (2, .int (nI q)), (4, .int (nI (k + t)))]) hx hb d_MD_findRun_140 rfl hl (by decide) rfl (fun ls hl => ?_)
                refine lv_goto (tgt := 7) hx hb d_MD_findRun_141 (by decide) ?_
                rcases Nat.lt_or_ge (k + t) (mSz τ g) with hlt | hge
                · obtain ⟨e3, e4⟩ := mFrq_tk hq1 he
                  exact ih (k + t + 1) (k + t + 1) (by omega) (by omega) (Or.inl ⟨rfl, e4⟩) _ _ _ (by rw [e3, ew]; exact hI) (lv_sub hl [3, 4, 5, 0] rfl)
                · exact ih (k + t + 1) (k + t) (by omega) (by omega) (Or.inr ⟨by omega, by omega⟩) _ _ _ (by rw [ew]; exact hI) (lv_sub hl [3, 4, 5, 0] rfl)
              · refine lv_iload hx hb d_MD_findRun_114 (lv_at hl 0 rfl) ?_
                refine r_bz (b := false) (tgt := 136) hx hb d_MD_findRun_116 (by decide) (fun h9 => ?_) (fun h9 => ?_)
                · have ew := mFrq_skip h0 hf he hq1 (by omega) (Or.inl h5)
                  refine lv_iload hx hb d_MD_findRun_136 (lv_at hl 6 rfl) ?_
                  refine lv_iconst (v := nI 1) hx hb d_MD_findRun_138 (by decide) ?_
                  refine r_iadd (a := k + t) (b := 1) hx hb d_MD_findRun_139 ?_
                  refine lv_istore_n (lv' := [(3, .int (nI ((k + t) + 1))), (6, .int (bI false)), (5, .int (nI t)), (0, .ref (am 0)), (1, .int (nI g)), (2, .int (nI q)), (4, .int (nI (k + t)))]) hx hb d_MD_findRun_140 rfl hl (by decide) rfl (fun ls hl => ?_)
                  refine lv_goto (tgt := 7) hx hb d_MD_findRun_141 (by decide) ?_
                  rcases Nat.lt_or_ge (k + t) (mSz τ g) with hlt | hge
                  · obtain ⟨e3, e4⟩ := mFrq_tk hq1 he
                    exact ih (k + t + 1) (k + t + 1) (by omega) (by omega) (Or.inl ⟨rfl, e4⟩) _ _ _ (by rw [e3, ew]; exact hI) (lv_sub hl [3, 4, 5, 0] rfl)
                  · exact ih (k + t + 1) (k + t) (by omega) (by omega) (Or.inr ⟨by omega, by omega⟩) _ _ _ (by rw [ew]; exact hI) (lv_sub hl [3, 4, 5, 0] rfl)
                · exact absurd h9 (by decide)
            · refine lv_aload_n hx hb d_MD_findRun_86 rfl (lv_at hl 1 rfl) ?_
              refine g_get (own := "GroupBitmapsModel") (C := R_MD) (T := F_MD) (N := 11) (ci := 3) (v := .int (nI (mRz (mFrq τ g q k)))) hx hb hg ku_MD hown hK hI (0) (wm_0) rfl 10 (by decide) kw_480 rfl d_MD_findRun_87 ?_
              refine r_zeq (a := mRzq τ g q k) (tgt := 102) hx hb d_MD_findRun_90 (by decide) (by omega) (fun h6 => ?_) (fun h6 => ?_)
              · refine lv_iconst (v := bI true) hx hb d_MD_findRun_102 (by decide) ?_
                refine lv_goto (tgt := 107) hx hb d_MD_findRun_103 (by decide) ?_
                refine lv_istore (lv' := [(6, .int (bI true)), (5, .int (nI t)), (0, .ref (am 0)), (1, .int (nI g)), (2, .int (nI q)), (3, .int (nI k)), (4, .int (nI (k + t)))]) hx hb d_MD_findRun_107 hl (by decide) rfl (fun ls hl => ?_)
                refine lv_iload hx hb d_MD_findRun_109 (lv_at hl 1 rfl) ?_
                refine r_zle (a := t) (tgt := 136) hx hb d_MD_findRun_111 (by decide) (by omega) (fun h8 => ?_) (fun h8 => ?_)
                · exact absurd h8 (by omega)
                · refine lv_iload hx hb d_MD_findRun_114 (lv_at hl 0 rfl) ?_
                  refine r_bz (b := true) (tgt := 136) hx hb d_MD_findRun_116 (by decide) (fun h9 => ?_) (fun h9 => ?_)
                  · exact absurd h9 (by decide)
                  · refine lv_aload_n hx hb d_MD_findRun_119 rfl (lv_at hl 2 rfl) ?_
                    refine lv_sipush (v := nI 256) hx hb d_MD_findRun_120 (by decide) ?_
                    refine lv_iload_n hx hb d_MD_findRun_123 rfl (lv_at hl 3 rfl) ?_
                    refine r_imul (a := 256) (b := g) hx hb d_MD_findRun_124 ?_
                    refine lv_iload_n hx hb d_MD_findRun_125 rfl (lv_at hl 5 rfl) ?_
                    refine r_iadd (a := 256 * g) (b := k) hx hb d_MD_findRun_126 ?_
                    refine g_put (ws' := (wm am cI cZ (vRa (mFrq τ g q k) (256 * g + k)))) (own := "GroupBitmapsModel") (C := R_MD) (T := F_MD) (N := 11) (ci := 3) (v := .int (nI ((256 * g) + k))) hx hb hg ku_MD t_MD t_MD_ok n_MD hown hK hI (0) (wm_0) rfl 9 (by decide) kw_479 rfl rfl (rfl) (rfl) (Nat.le_of_ble_eq_true rfl) (wm_vRa) d_MD_findRun_127 (fun H locs hI => ?_)
                    refine lv_aload_n hx hb d_MD_findRun_130 rfl (lv_at hl 2 rfl) ?_
                    refine lv_iload hx hb d_MD_findRun_131 (lv_at hl 1 rfl) ?_
                    refine g_put (ws' := (wm am cI cZ (vRz (vRa (mFrq τ g q k) (256 * g + k)) t))) (own := "GroupBitmapsModel") (C := R_MD) (T := F_MD) (N := 11) (ci := 3) (v := .int (nI t)) hx hb hg ku_MD t_MD t_MD_ok n_MD hown hK hI (0) (wm_0) rfl 10 (by decide) kw_480 rfl rfl (rfl) (rfl) (Nat.le_of_ble_eq_true rfl) (wm_vRz) d_MD_findRun_133 (fun H locs hI => ?_)
                    have ew := mFrq_take h0 hf he hq1 (by omega) h5 (Or.inl h6)
                    refine lv_iload hx hb d_MD_findRun_136 (lv_at hl 6 rfl) ?_
                    refine lv_iconst (v := nI 1) hx hb d_MD_findRun_138 (by decide) ?_
                    refine r_iadd (a := k + t) (b := 1) hx hb d_MD_findRun_139 ?_
                    refine lv_istore_n (lv' := [(3, .int (nI ((k + t) + 1))), (6, .int (bI true)), (5, .int (nI t)), (0, .ref (am 0)), (1, .int (nI g)), (2, .int (nI q)), (4, .int (nI (k + t)))]) hx hb d_MD_findRun_140 rfl hl (by decide) rfl (fun ls hl => ?_)
                    refine lv_goto (tgt := 7) hx hb d_MD_findRun_141 (by decide) ?_
                    rcases Nat.lt_or_ge (k + t) (mSz τ g) with hlt | hge
                    · obtain ⟨e3, e4⟩ := mFrq_tk hq1 he
                      exact ih (k + t + 1) (k + t + 1) (by omega) (by omega) (Or.inl ⟨rfl, e4⟩) _ _ _ (by rw [e3, ew]; exact hI) (lv_sub hl [3, 4, 5, 0] rfl)
                    · exact ih (k + t + 1) (k + t) (by omega) (by omega) (Or.inr ⟨by omega, by omega⟩) _ _ _ (by rw [ew]; exact hI) (lv_sub hl [3, 4, 5, 0] rfl)
              · refine lv_iload hx hb d_MD_findRun_93 (lv_at hl 0 rfl) ?_
                refine lv_aload_n hx hb d_MD_findRun_95 rfl (lv_at hl 1 rfl) ?_
                refine g_get (own := "GroupBitmapsModel") (C := R_MD) (T := F_MD) (N := 11) (ci := 3) (v := .int (nI (mRz (mFrq τ g q k)))) hx hb hg ku_MD hown hK hI (0) (wm_0) rfl 10 (by decide) kw_480 rfl d_MD_findRun_96 ?_
                refine r_ge (a := t) (b := mRzq τ g q k) (tgt := 106) hx hb d_MD_findRun_99 (by decide) (by omega) (by omega) (fun h7 => ?_) (fun h7 => ?_)
                · refine lv_iconst (v := bI false) hx hb d_MD_findRun_106 (by decide) ?_
                  refine lv_istore (lv' := [(6, .int (bI false)), (5, .int (nI t)), (0, .ref (am 0)), (1, .int (nI g)), (2, .int (nI q)), (3, .int (nI k)), (4, .int (nI (k + t)))]) hx hb d_MD_findRun_107 hl (by decide) rfl (fun ls hl => ?_)
                  refine lv_iload hx hb d_MD_findRun_109 (lv_at hl 1 rfl) ?_
                  refine r_zle (a := t) (tgt := 136) hx hb d_MD_findRun_111 (by decide) (by omega) (fun h8 => ?_) (fun h8 => ?_)
                  · have ew := mFrq_skip h0 hf he hq1 (by omega) (Or.inr ⟨h6, h7⟩)
                    refine lv_iload hx hb d_MD_findRun_136 (lv_at hl 6 rfl) ?_
                    refine lv_iconst (v := nI 1) hx hb d_MD_findRun_138 (by decide) ?_
                    refine r_iadd (a := k + t) (b := 1) hx hb d_MD_findRun_139 ?_
                    refine lv_istore_n (lv' := [(3, .int (nI ((k + t) + 1))), (6, .int (bI false)), (5, .int (nI t)), (0, .ref (am 0)), (1, .int (nI g)), (2, .int (nI q)), (4, .int (nI (k + t)))]) hx hb d_MD_findRun_140 rfl hl (by decide) rfl (fun ls hl => ?_)
                    refine lv_goto (tgt := 7) hx hb d_MD_findRun_141 (by decide) ?_
                    rcases Nat.lt_or_ge (k + t) (mSz τ g) with hlt | hge
                    · obtain ⟨e3, e4⟩ := mFrq_tk hq1 he
                      exact ih (k + t + 1) (k + t + 1) (by omega) (by omega) (Or.inl ⟨rfl, e4⟩) _ _ _ (by rw [e3, ew]; exact hI) (lv_sub hl [3, 4, 5, 0] rfl)
                    · exact ih (k + t + 1) (k + t) (by omega) (by omega) (Or.inr ⟨by omega, by omega⟩) _ _ _ (by rw [ew]; exact hI) (lv_sub hl [3, 4, 5, 0] rfl)
                  · refine lv_iload hx hb d_MD_findRun_114 (lv_at hl 0 rfl) ?_
                    refine r_bz (b := false) (tgt := 136) hx hb d_MD_findRun_116 (by decide) (fun h9 => ?_) (fun h9 => ?_)
                    · have ew := mFrq_skip h0 hf he hq1 (by omega) (Or.inr ⟨h6, h7⟩)
                      refine lv_iload hx hb d_MD_findRun_136 (lv_at hl 6 rfl) ?_
                      refine lv_iconst (v := nI 1) hx hb d_MD_findRun_138 (by decide) ?_
                      refine r_iadd (a := k + t) (b := 1) hx hb d_MD_findRun_139 ?_
                      refine lv_istore_n (lv' := [(3, .int (nI ((k + t) + 1))), (6, .int (bI false)), (5, .int (nI t)), (0, .ref (am 0)), (1, .int (nI g)), (2, .int (nI q)), (4, .int (nI (k + t)))]) hx hb d_MD_findRun_140 rfl hl (by decide) rfl (fun ls hl => ?_)
                      refine lv_goto (tgt := 7) hx hb d_MD_findRun_141 (by decide) ?_
                      rcases Nat.lt_or_ge (k + t) (mSz τ g) with hlt | hge
                      · obtain ⟨e3, e4⟩ := mFrq_tk hq1 he
                        exact ih (k + t + 1) (k + t + 1) (by omega) (by omega) (Or.inl ⟨rfl, e4⟩) _ _ _ (by rw [e3, ew]; exact hI) (lv_sub hl [3, 4, 5, 0] rfl)
                      · exact ih (k + t + 1) (k + t) (by omega) (by omega) (Or.inr ⟨by omega, by omega⟩) _ _ _ (by rw [ew]; exact hI) (lv_sub hl [3, 4, 5, 0] rfl)
                    · exact absurd h9 (by decide)
                · refine lv_iconst (v := bI true) hx hb d_MD_findRun_102 (by decide) ?_
                  refine lv_goto (tgt := 107) hx hb d_MD_findRun_103 (by decide) ?_
                  refine lv_istore (lv' := [(6, .int (bI true)), (5, .int (nI t)), (0, .ref (am 0)), (1, .int (nI g)), (2, .int (nI q)), (3, .int (nI k)), (4, .int (nI (k + t)))]) hx hb d_MD_findRun_107 hl (by decide) rfl (fun ls hl => ?_)
                  refine lv_iload hx hb d_MD_findRun_109 (lv_at hl 1 rfl) ?_
                  refine r_zle (a := t) (tgt := 136) hx hb d_MD_findRun_111 (by decide) (by omega) (fun h8 => ?_) (fun h8 => ?_)
                  · exact absurd h8 (by omega)
                  · refine lv_iload hx hb d_MD_findRun_114 (lv_at hl 0 rfl) ?_
                    refine r_bz (b := true) (tgt := 136) hx hb d_MD_findRun_116 (by decide) (fun h9 => ?_) (fun h9 => ?_)
                    · exact absurd h9 (by decide)
                    · refine lv_aload_n hx hb d_MD_findRun_119 rfl (lv_at hl 2 rfl) ?_
                      refine lv_sipush (v := nI 256) hx hb d_MD_findRun_120 (by decide) ?_
                      refine lv_iload_n hx hb d_MD_findRun_123 rfl (lv_at hl 3 rfl) ?_
                      refine r_imul (a := 256) (b := g) hx hb d_MD_findRun_124 ?_
                      refine lv_iload_n hx hb d_MD_findRun_125 rfl (lv_at hl 5 rfl) ?_
                      refine r_iadd (a := 256 * g) (b := k) hx hb d_MD_findRun_126 ?_
                      refine g_put (ws' := (wm am cI cZ (vRa (mFrq τ g q k) (256 * g + k)))) (own := "GroupBitmapsModel") (C := R_MD) (T := F_MD) (N := 11) (ci := 3) (v := .int (nI ((256 * g) + k))) hx hb hg ku_MD t_MD t_MD_ok n_MD hown hK hI (0) (wm_0) rfl 9 (by decide) kw_479 rfl rfl (rfl) (rfl) (Nat.le_of_ble_eq_true rfl) (wm_vRa) d_MD_findRun_127 (fun H locs hI => ?_)
                      refine lv_aload_n hx hb d_MD_findRun_130 rfl (lv_at hl 2 rfl) ?_
                      refine lv_iload hx hb d_MD_findRun_131 (lv_at hl 1 rfl) ?_
                      refine g_put (ws' := (wm am cI cZ (vRz (vRa (mFrq τ g q k) (256 * g + k)) t))) (own := "GroupBitmapsModel") (C := R_MD) (T := F_MD) (N := 11) (ci := 3) (v := .int (nI t)) hx hb hg ku_MD t_MD t_MD_ok n_MD hown hK hI (0) (wm_0) rfl 10 (by decide) kw_480 rfl rfl (rfl) (rfl) (Nat.le_of_ble_eq_true rfl) (wm_vRz) d_MD_findRun_133 (fun H locs hI => ?_)
                      have ew := mFrq_take h0 hf he hq1 (by omega) h5 (Or.inr h7)
                      refine lv_iload hx hb d_MD_findRun_136 (lv_at hl 6 rfl) ?_
                      refine lv_iconst (v := nI 1) hx hb d_MD_findRun_138 (by decide) ?_
                      refine r_iadd (a := k + t) (b := 1) hx hb d_MD_findRun_139 ?_
                      refine lv_istore_n (lv' := [(3, .int (nI ((k + t) + 1))), (6, .int (bI true)), (5, .int (nI t)), (0, .ref (am 0)), (1, .int (nI g)), (2, .int (nI q)), (4, .int (nI (k + t)))]) hx hb d_MD_findRun_140 rfl hl (by decide) rfl (fun ls hl => ?_)
                      refine lv_goto (tgt := 7) hx hb d_MD_findRun_141 (by decide) ?_
                      rcases Nat.lt_or_ge (k + t) (mSz τ g) with hlt | hge
                      · obtain ⟨e3, e4⟩ := mFrq_tk hq1 he
                        exact ih (k + t + 1) (k + t + 1) (by omega) (by omega) (Or.inl ⟨rfl, e4⟩) _ _ _ (by rw [e3, ew]; exact hI) (lv_sub hl [3, 4, 5, 0] rfl)
                      · exact ih (k + t + 1) (k + t) (by omega) (by omega) (Or.inr ⟨by omega, by omega⟩) _ _ _ (by rw [ew]; exact hI) (lv_sub hl [3, 4, 5, 0] rfl)
          · exact absurd h4 (by omega)
        have loop2 : ∀ (fuel : Nat) (t : Nat), mSz τ g + 1 ≤ fuel + (k + t) → (k + t ≤ mSz τ g) → (∀ i, i < t → mB τ g (k + i) = false) → ∀ (H : Heap) (locs : List Loc) (ls : Array Slot), gI D A s.heap (wm am cI cZ (mFrq τ g q k)) H locs → lv_has ls 7 [(0, .ref (am 0)), (1, .int (nI g)), (2, .int (nI q)), (3, .int (nI k)), (4, .int (nI (k + t)))] → W p l e ({ frames := 0, cells := 0, slots := 0, locals := 0 }) s m ([.ref (am 0), .int (nI g), .int (nI q)] : List Value).toArray below meth c H locs 0 0 (gQ D below ([.ref (am 0), .int (nI g), .int (nI q)] : List Value).toArray s A (wm am cI cZ (mFrq τ g q (mSz τ g))) (none)) (F0 m 20 ls []) := by
          intro fuel
          induction fuel with
          | zero => intro t hfu ht hf; exact absurd hfu (by omega)
          | succ fuel ih2 =>
            intro t hfu ht hf H locs ls hI hl
            have hszz : mSz (mFrq τ g q k) g = mSz τ g := rfl
            refine lv_iload hx hb d_MD_findRun_20 (lv_at hl 4 rfl) ?_
            refine lv_aload_n hx hb d_MD_findRun_22 rfl (lv_at hl 0 rfl) ?_
            refine g_get (own := "GroupBitmapsModel") (C := R_MD) (T := F_MD) (N := 11) (ci := 3) (v := .ref (am 1)) hx hb hg ku_MD hown hK hI (0) (wm_0) rfl 2 (by decide) kw_472 rfl d_MD_findRun_23 ?_
            refine lv_iload_n hx hb d_MD_findRun_26 rfl (lv_at hl 1 rfl) ?_
            refine g_iald (F := (mSz (mFrq τ g q k))) (i := g) hx hb hK hI (1) 2 (wm_Sz) rfl (hg4) (by omega) d_MD_findRun_27 ?_
            refine r_ge (a := k + t) (b := (mSz (mFrq τ g q k)) g) (tgt := 53) hx hb d_MD_findRun_28 (by decide) (by omega) (by omega) (fun h3 => ?_) (fun h3 => ?_)
            · exact tail t ht hf (mB_ge (by omega)) _ _ _ hI (lv_sub hl [0, 1, 2, 3, 4] rfl)
            · have hlt : k + t < mSz τ g := by omega
              refine lv_aload_n hx hb d_MD_findRun_31 rfl (lv_at hl 0 rfl) ?_
              refine g_get (own := "GroupBitmapsModel") (C := R_MD) (T := F_MD) (N := 11) (ci := 3) (v := .ref (am 2)) hx hb hg ku_MD hown hK hI (0) (wm_0) rfl 3 (by decide) kw_473 rfl d_MD_findRun_32 ?_
              refine lv_sipush (v := nI 256) hx hb d_MD_findRun_35 (by decide) ?_
              refine lv_iload_n hx hb d_MD_findRun_38 rfl (lv_at hl 1 rfl) ?_
              refine r_imul (a := 256) (b := g) hx hb d_MD_findRun_39 ?_
              refine lv_iload hx hb d_MD_findRun_40 (lv_at hl 4 rfl) ?_
              refine r_iadd (a := 256 * g) (b := k + t) hx hb d_MD_findRun_42 ?_
              refine g_zald (B := (mBk (mFrq τ g q k))) (i := (256 * g) + (k + t)) hx hb hK hI (2) 1 (wm_Bk) rfl (by omega) (by omega) d_MD_findRun_43 ?_
              refine r_bnz (b := (mBk (mFrq τ g q k)) ((256 * g) + (k + t))) (tgt := 53) hx hb d_MD_findRun_44 (by decide) (fun h4 => ?_) (fun h4 => ?_)
              · exact tail t ht hf ((mB_lt hlt).trans h4) _ _ _ hI (lv_sub hl [0, 1, 2, 3, 4] rfl)
              · refine lv_iinc (v := nI ((k + t) + 1)) (lv' := [(4, .int (nI ((k + t) + 1))), (0, .ref (am 0)), (1, .int (nI g)), (2, .int (nI q)), (3, .int (nI k))]) hx hb d_MD_findRun_47 hl (k := 4) rfl (nI_1 _) (by decide) rfl (fun ls hl => ?_)
                refine lv_goto (tgt := 20) hx hb d_MD_findRun_50 (by decide) ?_
                exact ih2 (t + 1) (by omega) (by omega) (fun i hi => by rcases Nat.lt_succ_iff_lt_or_eq.mp hi with q9 | q9; exact hf i q9; rw [q9]; exact (mB_lt hlt).trans h4) _ _ _ hI (lv_sub hl [1, 2, 3, 4, 0] rfl)
        exact loop2 (mSz τ g + 1) 0 (by omega) (by omega) (fun i hi => absurd hi (Nat.not_lt_zero _)) _ _ _ hI (lv_sub hl [1, 2, 3, 4, 0] rfl)
  exact loop (mSz τ g + 2) 0 0 (by omega) (Nat.zero_le _) (Or.inl ⟨rfl, rfl⟩) _ _ _ hI (lv_sub hl [1, 2, 3, 0] rfl)
