/-! ===== one step of the law: class and reference take it alike ===== -/
theorem updL_0 {f : Nat → Int64} {x : Int64} : vp_updL f 0 x 0 = x := if_pos rfl
theorem RK.next {N : Nat} {σ : gS} {τ : mS} (h : RK N σ τ) : RK (N + 1) σ τ := h.mono (Nat.le_succ N)
theorem i_natle {x : Int32} {lo hi : Nat} (hlo : lo < 2 ^ 31) (hhi : hi < 2 ^ 31) (h1 : ¬ x < nI lo) (h2 : x ≤ nI hi) : ∃ a, x = nI a ∧ lo ≤ a ∧ a ≤ hi := i_nat hlo hhi h1 (by rw [Int32.lt_iff_toInt_lt]; rw [Int32.le_iff_toInt_le] at h2; omega)
theorem i_natlt {x : Int32} {lo hi : Nat} (hlo : lo < 2 ^ 31) (hhi : hi < 2 ^ 31) (h1 : ¬ x < nI lo) (h2 : ¬ nI hi ≤ x) : ∃ a, x = nI a ∧ lo ≤ a ∧ a < hi := by
  rw [Int32.lt_iff_toInt_lt, nI_toInt hlo] at h1
  rw [Int32.le_iff_toInt_le, nI_toInt hhi] at h2
  refine ⟨x.toInt.toNat, ?_, by omega, by omega⟩
  apply Int32.toInt_inj.mp
  rw [nI_toInt (by omega)]
  omega
theorem hasB_ge {σ : gS} {a : Nat} (ha : a < 2 ^ 31) (h : sHasB σ (nI a) = false) : sAll σ ≤ a := by
  unfold sHasB at h
  rw [nI_toInt ha, decide_eq_true (show (0 : Int) ≤ (a : Int) by omega), Bool.true_and, decide_eq_false_iff_not] at h
  omega
theorem RK.grp {N : Nat} {σ : gS} {τ : mS} (h : RK N σ τ) (g w : Nat) : RK N σ (mGrp τ g w) := by
  unfold mGrp
  split
  · exact (h.th 0).fr0 _ _
  · exact h.th 0
theorem mTh_grp (τ : mS) (g w : Nat) : mTh (mGrp τ g w) = 0 := by
  unfold mGrp
  split
  · rfl
  · rfl
theorem RK.occF {N : Nat} {σ : gS} {τ : mS} (h : RK N σ τ) {g k : Nat} {fo : Bool} (hg : g < 4) (hk : k < 128) (hb : sBt σ (2 * g + 1) k = false) : RK (N + 1) (sOccF (uTT σ true) g k fo) (mMkF τ g k true fo) := by
  have hl : LK (N + 1) (sOccF (uTT σ true) g k fo) (mMkF τ g k true fo) := occF_LK (show LK N (uTT σ true) τ from h.2) hg hk hb
  obtain ⟨⟨a1, a2, a3, a4, a5, a6, a7, a8⟩, -⟩ := h
  obtain ⟨b1, b2, b3, b4, b5, -⟩ := sOccF_o (uTT σ true) g k fo
  exact ⟨⟨by rw [b1]; exact a1, by rw [b1]; exact a2, by rw [b1]; exact a3, by rw [b2]; exact a4, by rw [b2]; exact a5, by rw [b3]; exact a6, fun g hg => by rw [b1] at hg; rw [b4]; exact a7 g hg, by rw [b5]; exact mMkF_1 _ _ _ _ _⟩, hl⟩
theorem RK.freF {N : Nat} {σ : gS} {τ : mS} (h : RK N σ τ) {g k : Nat} {fo : Bool} (hg : g < 4) (hk : k < 128) (hb : sBt σ (2 * g + 1) k = true) : RK N (uTT (sFreF σ g k fo) true) (mMkF τ g k false fo) := by
  have hl : LK N (sFreF σ g k fo) (mMkF τ g k false fo) := freF_LK h.2 hg hk hb
  obtain ⟨⟨a1, a2, a3, a4, a5, a6, a7, a8⟩, -⟩ := h
  obtain ⟨q1, q2, q3, q4, q5, q6⟩ := sFreF_o σ g k fo
  exact ⟨⟨by rw [q_Cnt_TT, q1]; exact a1, by rw [q_Cnt_TT, q1]; exact a2, by rw [q_Cnt_TT, q1]; exact a3, by rw [q_Rsv_TT, q2]; exact a4, by rw [q_Rsv_TT, q2]; exact a5, by rw [q_Lat_TT, q3]; exact a6, fun g hg => by rw [q_Cnt_TT, q1] at hg; rw [q_Sz_TT, q4]; exact a7 g hg, mMkF_1 _ _ _ _ _⟩, hl⟩
set_option maxRecDepth 100000 in
theorem st_lay {l : Launch} (hfl : l.flags = flags0) {D : va_G} {cG cZ cI cJ : ClassId} {ad am : Nat → Nat} {ao : Nat} {f : Nat → Int64} {N : Nat} {σ : gS} {τ : mS} (hK0 : RK N σ τ) (hN : N < 65535) (x0 : Int32) (x1 : Int32) : ∃ (σ' : gS) (τ' : mS) (f' : Nat → Int64) (k : Nat) (r : Int32), RK (N + 1) σ' τ' ∧ mTh τ' = k ∧ k ≤ 2 ∧ (k = 0 → f' 0 = r.toInt64) ∧ gG l D (gT cG cZ cI cJ) (.codeWith y_LW_lay b_LW_lay 5 (some .int) [(0, 10, 13, 13)]) y_LW_lay ({ frames := 9, cells := 1, slots := 6, locals := 162 }) 1 6 (wd ad cG cZ σ ++ wo ao cJ f) [.ref (ad 0), .int x0, .int x1, .ref ao] (wd ad cG cZ σ' ++ wo ao cJ f') (some (.int (nI k))) ∧ gMetE l D (gT cG cZ cI cJ) y_MD_lay b_MD_lay 3 (some .int) ({ frames := 3, cells := 0, slots := 0, locals := 64 }) (wm am cI cZ τ) [.ref (am 0), .int x0, .int x1] (wm am cI cZ τ') (some (.int r)) := by
  have hN6 : N < 65536 := by omega
  have hR := hK0.ri hN6
  have hσ := hR.sb
  by_cases h : ¬ x0 < nI 1 ∧ ¬ nI 4 < x0 ∧ ¬ x1 < nI 16 ∧ x1 ≤ nI 256
  · obtain ⟨h1, h2, h3, h4⟩ := h
    obtain ⟨a, rfl, ha1, ha4⟩ := i_nat (by decide) (by decide) h1 h2
    obtain ⟨la, rfl, hl1, hl2⟩ := i_natle (by decide) (by decide) h3 h4
    have hK1 := (hK0.th 0).lay ha1 ha4 hl1 hl2
    exact ⟨sLayAll σ a la, mLays (mLay0 (vTh τ 0) a) a la a, vp_updL f 0 (nI (sFB (sLayAll σ a la) (sCnt (sLayAll σ a la)))).toInt64, 0, nI (sFB (sLayAll σ a la) (sCnt (sLayAll σ a la))), hK1.next, mTh_mLays _ _ _ _, by decide, fun _ => updL_0, w_lay (gMet.toE (c_GB_lay σ a la ha1 ha4 hl1 hl2 (hK1.ri hN6).sb)), gMet.toE (c_MD_lay σ τ N hK0 hN6 a la ha1 ha4 hl1 hl2)⟩
  · exact ⟨σ, vTh τ 1, f, 1, nI 0, (hK0.th 1).next, rfl, by decide, fun z => absurd z (by decide), w_lay_1 (σ' := σ) (x_GB_lay hfl σ x0 x1 h), gMet.toE (c_MD_lay_bad σ τ N hK0 hN6 x0 x1 h)⟩
set_option maxRecDepth 100000 in
theorem st_reserve {l : Launch} (hfl : l.flags = flags0) {D : va_G} {cG cZ cI cJ : ClassId} {ad am : Nat → Nat} {ao : Nat} {f : Nat → Int64} {N : Nat} {σ : gS} {τ : mS} (hK0 : RK N σ τ) (hN : N < 65535) (x0 : Int32) : ∃ (σ' : gS) (τ' : mS) (f' : Nat → Int64) (k : Nat) (r : Int32), RK (N + 1) σ' τ' ∧ mTh τ' = k ∧ k ≤ 2 ∧ (k = 0 → f' 0 = r.toInt64) ∧ gG l D (gT cG cZ cI cJ) (.codeWith y_LW_reserve b_LW_reserve 4 (some .int) [(0, 9, 12, 13)]) y_LW_reserve ({ frames := 9, cells := 1, slots := 6, locals := 161 }) 1 6 (wd ad cG cZ σ ++ wo ao cJ f) [.ref (ad 0), .int x0, .ref ao] (wd ad cG cZ σ' ++ wo ao cJ f') (some (.int (nI k))) ∧ gMetE l D (gT cG cZ cI cJ) y_MD_reserve b_MD_reserve 3 (some .int) ({ frames := 2, cells := 0, slots := 0, locals := 45 }) (wm am cI cZ τ) [.ref (am 0), .int x0] (wm am cI cZ τ') (some (.int r)) := by
  have hN6 : N < 65536 := by omega
  have hR := hK0.ri hN6
  have hσ := hR.sb
  by_cases h : ¬ x0 < 0 ∧ x0 ≤ nI 100
  · obtain ⟨a, rfl, -, ha⟩ := i_natle (lo := 0) (by decide) (by decide) h.1 h.2
    have hK1 := (hK0.th 0).rsv ha
    have e : sMay (uRsv σ a) false = sFB (uRsv σ a) (sCnt (uRsv σ a)) - a := if_neg (by decide)
    have hM := c_MD_reserve (l := l) (D := D) (cG := cG) (cZ := cZ) (cI := cI) (cJ := cJ) (am := am) σ τ N hK0 hN6 a ha
    rw [← e] at hM
    exact ⟨uRsv σ a, vRs (vTh τ 0) a, vp_updL f 0 (nI (sMay (uRsv σ a) false)).toInt64, 0, nI (sMay (uRsv σ a) false), hK1.next, rfl, by decide, fun _ => updL_0, w_reserve (gMet.toE (c_GB_reserve σ a ha (hK1.ri hN6).sb)), gMet.toE hM⟩
  · exact ⟨σ, vTh τ 1, f, 1, nI 0, (hK0.th 1).next, rfl, by decide, fun z => absurd z (by decide), w_reserve_1 (σ' := σ) (x_GB_reserve hfl σ x0 h), gMet.toE (c_MD_reserve_bad σ τ N hK0 hN6 x0 h)⟩
theorem GB_take2 {l : Launch} {D : va_G} {cG cZ cI cJ : ClassId} {ad : Nat → Nat} {σ : gS} (hσ : sB σ) {goal nn : Nat} {al : Bool} (hgo : goal < sAll σ) (hn1 : 1 ≤ nn) (hn2 : nn ≤ 256) (hmy : 0 < sMay σ al) {g a q : Nat} (hp : sPick σ goal (Nat.min nn (sMay σ al)) = (g, a, q)) (hs : sSafe σ (2 * g) a q) (hlr : sAf σ (2 * (goal / 256)) (goal % 256) (Nat.min nn (sMay σ al)) = false → sFind σ (goal / 256) (Nat.min nn (sMay σ al)) (sCnt σ) = none → ∃ a, a < 65536 ∧ (sSr σ (2 * (sBest σ (goal / 256) (sCnt σ - 1)).1) (sBest σ (goal / 256) (sCnt σ - 1)).2 (sSz σ (2 * (sBest σ (goal / 256) (sCnt σ - 1)).1))).1 = some a) (hfa : ∀ g a, sFind σ (goal / 256) (Nat.min nn (sMay σ al)) (sCnt σ) = some (g, a) → a < 65536) : gMetE l D (gT cG cZ cI cJ) y_GB_take b_GB_take 5 (some .int) ({ frames := 8, cells := 0, slots := 0, locals := 140 }) (wd ad cG cZ σ) [.ref (ad 0), .int (nI goal), .int (nI nn), .int (bI al)] (wd ad cG cZ (sRun σ g a q)) (some (.int (nI (256 * g + a)))) := by
  have h := c_GB_take (l := l) (D := D) (cG := cG) (cZ := cZ) (cI := cI) (cJ := cJ) (ad := ad) σ hσ goal nn al hgo hn1 hn2 hmy (by rw [hp]; exact hs) hlr hfa
  rw [hp] at h
  exact gMet.toE h
theorem sMay_FB {σ : gS} {al : Bool} (h : 0 < sMay σ al) : 0 < sFB σ (sCnt σ) := by
  unfold sMay at h
  split at h
  · exact h
  · omega
set_option maxRecDepth 100000 in
theorem st_take {l : Launch} (hfl : l.flags = flags0) {D : va_G} {cG cZ cI cJ : ClassId} {ad am : Nat → Nat} {ao : Nat} {f : Nat → Int64} {N : Nat} {σ : gS} {τ : mS} (hK0 : RK N σ τ) (hN : N < 65535) (x0 : Int32) (x1 : Int32) (x2 : Bool) : ∃ (σ' : gS) (τ' : mS) (f' : Nat → Int64) (k : Nat) (r : Int32), RK (N + 1) σ' τ' ∧ mTh τ' = k ∧ k ≤ 2 ∧ (k = 0 → f' 0 = r.toInt64) ∧ gG l D (gT cG cZ cI cJ) (.codeWith y_LW_take b_LW_take 6 (some .int) [(0, 12, 15, 13), (0, 12, 19, 23)]) y_LW_take ({ frames := 9, cells := 1, slots := 6, locals := 164 }) 1 6 (wd ad cG cZ σ ++ wo ao cJ f) [.ref (ad 0), .int x0, .int x1, .int (bI x2), .ref ao] (wd ad cG cZ σ' ++ wo ao cJ f') (some (.int (nI k))) ∧ gMetE l D (gT cG cZ cI cJ) y_MD_take b_MD_take 9 (some .int) ({ frames := 3, cells := 0, slots := 0, locals := 64 }) (wm am cI cZ τ) [.ref (am 0), .int x0, .int x1, .int (bI x2)] (wm am cI cZ τ') (some (.int r)) := by
  have hN6 : N < 65536 := by omega
  have hR := hK0.ri hN6
  have hσ := hR.sb
  by_cases h : sHasB σ x0 = true ∧ ¬ x1 < nI 1 ∧ x1 ≤ nI 256
  · obtain ⟨h1, h2, h3⟩ := h
    obtain ⟨goal, rfl, hgo⟩ := hasB_nat hσ h1
    obtain ⟨nn, rfl, hn1, hn2⟩ := i_natle (by decide) (by decide) h2 h3
    by_cases hmy : sMay σ x2 = 0
    · exact ⟨σ, vTh (vTh τ 0) 2, f, 2, nI 0, ((hK0.th 0).th 2).next, rfl, by decide, fun z => absurd z (by decide), w_take_2 (σ' := σ) (x_GB_take_no hfl σ hσ goal nn x2 hgo hn1 hn2 hmy), gMet.toE (c_MD_take_no σ τ N hK0 hN6 goal nn x2 hgo hn1 hn2 hmy)⟩
    · have hmy : 0 < sMay σ x2 := Nat.pos_of_ne_zero hmy
      have hw1 : 1 ≤ (Nat.min nn (sMay σ x2)) := Nat.le_min.mpr ⟨hn1, hmy⟩
      have hin := hR.inb hgo
      have hc4 := hσ.2.1
      have hg4 : goal / 256 < 4 := by omega
      have hK2 : RK N σ (vTh (vTh τ 0) 0) := (hK0.th 0).th 0
      have hfa : ∀ g a, sFind σ (goal / 256) (Nat.min nn (sMay σ x2)) (sCnt σ) = some (g, a) → a < 65536 := by
        intro g a hz
        obtain ⟨k, -, -, -, hs⟩ := sFind_idx hz
        have := (hR.rzs (sNx_lt hσ _ _) hw1 hs).2.2.2
        dsimp only at this
        omega
      cases haf : sAf σ (2 * (goal / 256)) (goal % 256) (Nat.min nn (sMay σ x2)) with
      | true =>
        have hf := sAf_all haf
        have hfit : goal + (Nat.min nn (sMay σ x2)) ≤ 1024 := by
          have h9 := (hR.bt hg4 (hf ((Nat.min nn (sMay σ x2)) - 1) (by omega))).1
          have := hR.szle hg4
          omega
        have hK1 := hK2.run hN6 hg4 hf
        have hG := GB_take2 (l := l) (D := D) (cG := cG) (cZ := cZ) (cI := cI) (cJ := cJ) (ad := ad) hσ hgo hn1 hn2 hmy (if_pos haf) (occs_safe hK0 hN6 hg4 hf) (fun z _ => by rw [haf] at z; cases z) hfa
        rw [Nat.div_add_mod] at hK1 hG
        exact ⟨sRun σ (goal / 256) (goal % 256) (Nat.min nn (sMay σ x2)), vLt (mMark (vTh (vTh τ 0) 0) goal true (Nat.min nn (sMay σ x2))) (Nat.min nn (sMay σ x2)), vp_updL f 0 (nI goal).toInt64, 0, nI goal, hK1.next, mTh_mMark _ _ _ _, by decide, fun _ => updL_0, w_take hG, gMet.toE (c_MD_takeA σ τ N hK0 hN6 goal nn x2 hgo hn1 hn2 hmy haf hfit)⟩
      | false =>
        cases hfi : sFind σ (goal / 256) (Nat.min nn (sMay σ x2)) (sCnt σ) with
        | some z =>
          obtain ⟨z1, z2⟩ := z
          obtain ⟨k0, hk0, hfn, hz1, hsr⟩ := sFind_idx hfi
          dsimp only at hz1 hsr
          subst hz1
          have hp : sPick σ goal (Nat.min nn (sMay σ x2)) = (sNx σ (goal / 256) k0, z2, (Nat.min nn (sMay σ x2))) := by
            unfold sPick
            rw [if_neg (by rw [haf]; decide), hfi]
          have hf := sSr_free hsr
          have hK1 := (hK2.tk1 (goal / 256) (Nat.min nn (sMay σ x2)) (k0 + 1)).run hN6 (sNx_lt hσ _ _) hf
          have hG := GB_take2 (l := l) (D := D) (cG := cG) (cZ := cZ) (cI := cI) (cJ := cJ) (ad := ad) hσ hgo hn1 hn2 hmy hp (occs_safe hK0 hN6 (sNx_lt hσ _ _) hf) (fun _ z => by rw [hfi] at z; cases z) hfa
          exact ⟨sRun σ (sNx σ (goal / 256) k0) z2 (Nat.min nn (sMay σ x2)), vLt (mMark (tk1 σ (vTh (vTh τ 0) 0) (goal / 256) (Nat.min nn (sMay σ x2)) (k0 + 1)) (256 * (sNx σ (goal / 256) k0) + z2) true (Nat.min nn (sMay σ x2))) (Nat.min nn (sMay σ x2)), vp_updL f 0 (nI (256 * (sNx σ (goal / 256) k0) + z2)).toInt64, 0, nI (256 * (sNx σ (goal / 256) k0) + z2), hK1.next, (mTh_mMark _ _ _ _).trans (mTh_tk1 _ _ _ _ _), by decide, fun _ => updL_0, w_take hG, gMet.toE (c_MD_takeB σ τ N hK0 hN6 goal nn x2 hgo hn1 hn2 hmy haf k0 z2 hk0 hfn hsr)⟩
        | none =>
          obtain ⟨g1, hg1, hfr⟩ := sFB_pos (sMay_FB hmy)
          obtain ⟨k1, hk1, hnx⟩ := sNx_onto hg1 hin.1
          have hge := bst_ge σ (goal / 256) (sCnt σ) k1 hk1
          have hl5 := hR.l5pos (show g1 < 4 by omega) hfr
          rw [hnx] at hge
          obtain ⟨e1, e2⟩ := bst_best hσ hin.1 (sCnt σ - 1)
          rw [show sCnt σ - 1 + 1 = sCnt σ by have := hσ.1; omega] at e1 e2
          have hbl := sBest_len σ (goal / 256) (sCnt σ - 1)
          have hb4 := (sBest_le hσ hg4 (sCnt σ - 1)).1
          generalize hbb : sBest σ (goal / 256) (sCnt σ - 1) = bb at e1 e2 hbl hb4
          obtain ⟨b1, b2⟩ := bb
          dsimp only at e1 e2 hbl hb4
          have hb2 : 0 < b2 := by omega
          have e2 := e2 hb2
          have hlg := hR.longest hb4 (by omega)
          rw [← hbl] at hlg
          have hrz := (hR.rzs hb4 hb2 hlg).2.2.2
          have hp : sPick σ goal (Nat.min nn (sMay σ x2)) = (b1, sLp σ b1, b2) := by
            unfold sPick
            rw [if_neg (by rw [haf]; decide), hfi]
            dsimp only
            rw [hbb]
            dsimp only
            rw [hlg]
            rfl
          have hf := sSr_free hlg
          have hK1 := ((hK2.tk1 (goal / 256) (Nat.min nn (sMay σ x2)) (sCnt σ)).tk2 (goal / 256) (sCnt σ)).run hN6 hb4 hf
          have hG := GB_take2 (l := l) (D := D) (cG := cG) (cZ := cZ) (cI := cI) (cJ := cJ) (ad := ad) hσ hgo hn1 hn2 hmy hp (occs_safe hK0 hN6 hb4 hf) (fun _ _ => ⟨sLp σ b1, by omega, by rw [hbb]; exact hlg⟩) hfa
          have hM := c_MD_takeC (l := l) (D := D) (cG := cG) (cZ := cZ) (cI := cI) (cJ := cJ) (am := am) σ τ N hK0 hN6 goal nn x2 hgo hn1 hn2 hmy haf hfi (by omega) (by omega)
          rw [e1, e2] at hM
          exact ⟨sRun σ b1 (sLp σ b1) b2, vLt (mMark (tk2 σ (tk1 σ (vTh (vTh τ 0) 0) (goal / 256) (Nat.min nn (sMay σ x2)) (sCnt σ)) (goal / 256) (sCnt σ)) (256 * b1 + sLp σ b1) true b2) b2, vp_updL f 0 (nI (256 * b1 + sLp σ b1)).toInt64, 0, nI (256 * b1 + sLp σ b1), hK1.next, (mTh_mMark _ _ _ _).trans ((mTh_tk2 _ _ _ _).trans (mTh_tk1 _ _ _ _ _)), by decide, fun _ => updL_0, w_take hG, gMet.toE hM⟩
  · exact ⟨σ, vTh τ 1, f, 1, nI 0, (hK0.th 1).next, rfl, by decide, fun z => absurd z (by decide), w_take_1 (σ' := σ) (x_GB_take hfl σ hσ x0 x1 x2 h), gMet.toE (c_MD_take_bad σ τ N hK0 hN6 x0 x1 x2 h)⟩
set_option maxRecDepth 100000 in
theorem st_give {l : Launch} (hfl : l.flags = flags0) {D : va_G} {cG cZ cI cJ : ClassId} {ad am : Nat → Nat} {ao : Nat} {f : Nat → Int64} {N : Nat} {σ : gS} {τ : mS} (hK0 : RK N σ τ) (hN : N < 65535) (x0 : Int32) (x1 : Int32) : ∃ (σ' : gS) (τ' : mS) (f' : Nat → Int64) (k : Nat) (r : Int32), RK (N + 1) σ' τ' ∧ mTh τ' = k ∧ k ≤ 2 ∧ (k = 0 → f' 0 = r.toInt64) ∧ gG l D (gT cG cZ cI cJ) (.codeWith y_LW_give b_LW_give 5 (some .int) [(0, 10, 13, 13), (0, 10, 17, 23)]) y_LW_give ({ frames := 9, cells := 1, slots := 6, locals := 163 }) 1 6 (wd ad cG cZ σ ++ wo ao cJ f) [.ref (ad 0), .int x0, .int x1, .ref ao] (wd ad cG cZ σ' ++ wo ao cJ f') (some (.int (nI k))) ∧ gMetE l D (gT cG cZ cI cJ) y_MD_give b_MD_give 6 (some .int) ({ frames := 3, cells := 0, slots := 0, locals := 64 }) (wm am cI cZ τ) [.ref (am 0), .int x0, .int x1] (wm am cI cZ τ') (some (.int r)) := by
  have hN6 : N < 65536 := by omega
  have hR := hK0.ri hN6
  have hσ := hR.sb
  by_cases h : ¬ x1 < nI 1 ∧ ¬ nI 1024 < x1
  · obtain ⟨q, rfl, hq1, hq⟩ := i_nat (by decide) (by decide) h.1 h.2
    have hal := sAll_le hσ
    cases hB : sHasB σ x0 with
    | true =>
      obtain ⟨a, rfl, ha⟩ := hasB_nat hσ hB
      by_cases h3 : sAll σ < a + q
      · exact ⟨σ, vTh τ 1, f, 1, nI 0, (hK0.th 1).next, rfl, by decide, fun z => absurd z (by decide), w_give_1 (σ' := σ) (x_GB_give3 hfl σ hσ a q hq1 hq ha h3), gMet.toE (c_MD_give_bad3 σ τ N hK0 hN6 a q hq1 hq (by omega) h3)⟩
      · have haq : a + q ≤ sAll σ := by omega
        cases hgv : sGv σ a q with
        | false =>
          exact ⟨σ, vTh τ 2, f, 2, nI 0, (hK0.th 2).next, rfl, by decide, fun z => absurd z (by decide), w_give_2 (σ' := σ) (x_GB_give_no hfl σ hσ a q hq1 hq haq hgv), gMet.toE (c_MD_give_no σ τ N hK0 hN6 a q hq1 hq haq hgv)⟩
        | true =>
          have hK1 := (hK0.th 0).give hN6 haq hgv
          exact ⟨uTT (sGives σ a q) true, mMark (vTh τ 0) a false q, vp_updL f 0 (nI (sFB (uTT (sGives σ a q) true) (sCnt (uTT (sGives σ a q) true)))).toInt64, 0, nI (sFB (uTT (sGives σ a q) true) (sCnt (uTT (sGives σ a q) true))), hK1.next, mTh_mMark _ _ _ _, by decide, fun _ => updL_0, w_give (gMet.toE (c_GB_give σ hσ a q hq1 hq haq hgv (hK1.ri hN6).sb)), gMet.toE (c_MD_give σ τ N hK0 hN6 a q hq1 hq haq hgv)⟩
    | false =>
      by_cases h5 : x0 < 0 ∨ nI 1024 ≤ x0
      · exact ⟨σ, vTh τ 1, f, 1, nI 0, (hK0.th 1).next, rfl, by decide, fun z => absurd z (by decide), w_give_1 (σ' := σ) (x_GB_give2 hfl σ hσ x0 q hq1 hq hB), gMet.toE (c_MD_give_bad2 σ τ N hK0 hN6 x0 q hq1 hq h5)⟩
      · obtain ⟨a, rfl, -, ha⟩ := i_natlt (lo := 0) (by decide) (by decide) (fun z => h5 (Or.inl z)) (fun z => h5 (Or.inr z))
        have h6 := hasB_ge (by omega) hB
        exact ⟨σ, vTh τ 1, f, 1, nI 0, (hK0.th 1).next, rfl, by decide, fun z => absurd z (by decide), w_give_1 (σ' := σ) (x_GB_give2 hfl σ hσ (nI a) q hq1 hq hB), gMet.toE (c_MD_give_bad3 σ τ N hK0 hN6 a q hq1 hq ha (by omega))⟩
  · exact ⟨σ, vTh τ 1, f, 1, nI 0, (hK0.th 1).next, rfl, by decide, fun z => absurd z (by decide), w_give_1 (σ' := σ) (x_GB_give1 hfl σ x0 x1 h), gMet.toE (c_MD_give_bad1 σ τ N hK0 hN6 x0 x1 h)⟩
set_option maxRecDepth 100000 in
theorem st_takeFile {l : Launch} (hfl : l.flags = flags0) {D : va_G} {cG cZ cI cJ : ClassId} {ad am : Nat → Nat} {ao : Nat} {f : Nat → Int64} {N : Nat} {σ : gS} {τ : mS} (hK0 : RK N σ τ) (hN : N < 65535) (x0 : Int32) (x1 : Bool) : ∃ (σ' : gS) (τ' : mS) (f' : Nat → Int64) (k : Nat) (r : Int32), RK (N + 1) σ' τ' ∧ mTh τ' = k ∧ k ≤ 2 ∧ (k = 0 → f' 0 = r.toInt64) ∧ gG l D (gT cG cZ cI cJ) (.codeWith y_LW_takeFile b_LW_takeFile 5 (some .int) [(0, 10, 13, 13), (0, 10, 17, 23)]) y_LW_takeFile ({ frames := 9, cells := 1, slots := 6, locals := 163 }) 1 6 (wd ad cG cZ σ ++ wo ao cJ f) [.ref (ad 0), .int x0, .int (bI x1), .ref ao] (wd ad cG cZ σ' ++ wo ao cJ f') (some (.int (nI k))) ∧ gMetE l D (gT cG cZ cI cJ) y_MD_takeFile b_MD_takeFile 6 (some .int) ({ frames := 3, cells := 0, slots := 0, locals := 73 }) (wm am cI cZ τ) [.ref (am 0), .int x0, .int (bI x1)] (wm am cI cZ τ') (some (.int r)) := by
  have hN6 : N < 65536 := by omega
  have hR := hK0.ri hN6
  have hσ := hR.sb
  cases hF : sHasF σ x0 with
  | false =>
    exact ⟨σ, vTh τ 1, f, 1, nI 0, (hK0.th 1).next, rfl, by decide, fun z => absurd z (by decide), w_takeFile_1 (σ' := σ) (x_GB_takeFile hfl σ hσ x0 x1 hF), gMet.toE (c_MD_takeFile_bad σ τ N hK0 hN6 x0 x1 hF)⟩
  | true =>
    obtain ⟨fi, rfl, hf1, hf⟩ := hasF_nat hσ hF
    have hc4 := hσ.2.1
    have hp : (fi - 1) / 128 < sCnt σ := by omega
    by_cases hff : sFF σ (sCnt σ) = 0
    · cases x1 with
      | true =>
        exact ⟨σ, vTh τ 2, f, 2, nI 0, (hK0.th 2).next, rfl, by decide, fun z => absurd z (by decide), w_takeFile_2 (σ' := σ) (x_GB_takeFile_no hfl σ hσ fi hf1 hf ((sFolder_no hσ hf1 hf).mpr hff)), gMet.toE (c_MD_takeFile_no σ τ N hK0 hN6 fi true hf1 hf hff)⟩
      | false =>
        exact ⟨σ, vTh τ 2, f, 2, nI 0, (hK0.th 2).next, rfl, by decide, fun z => absurd z (by decide), w_takeFile_2 (σ' := σ) (x_GB_takeFile_pl hfl σ hσ fi hf1 hf ((sPlain_no hσ hp).mpr hff)), gMet.toE (c_MD_takeFile_no σ τ N hK0 hN6 fi false hf1 hf hff)⟩
    · have hff2 : 0 < sFF σ (sCnt σ) := Nat.pos_of_ne_zero hff
      have hall : ∀ g, g < 4 → 0 < sFr σ (2 * g + 1) → ∃ k, sLf σ (2 * g + 1) 128 = some k ∧ sLf (uTT σ true) (2 * g + 1) (sSz (uTT σ true) (2 * g + 1)) = some k ∧ k < 128 ∧ sBt σ (2 * g + 1) k = false := by
        intro g hg4 hfr
        obtain ⟨k, hk⟩ := hR.lfx hg4 hfr
        obtain ⟨hk2, hk3, -⟩ := sLf_spec hk
        refine ⟨k, hk, ?_, hk2, ?_⟩
        · rw [sLf_TT, show sSz (uTT σ true) (2 * g + 1) = 128 from (hR.1.2.1 g hg4).2]; exact hk
        · rw [sSet_lt (by rw [gLen_odd]; exact hk2)] at hk3; exact hk3
      cases x1 with
      | true =>
        cases hq : sFolder σ fi with
        | none => exact absurd ((sFolder_no hσ hf1 hf).mp hq) hff
        | some g =>
          obtain ⟨hg4, hfr⟩ := sFolder_fr hσ hq
          obtain ⟨k, hk, hk1, hk2, hk3⟩ := hall g hg4 hfr
          have hK1 : RK (N + 1) (sOccF (uTT σ true) g k true) (mMkF (vTh τ 0) g k true true) := (hK0.th 0).occF hg4 hk2 hk3
          exact ⟨sOccF (uTT σ true) g k true, mMkF (vTh τ 0) g k true true, vp_updL f 0 (nI (128 * g + k + 1)).toInt64, 0, nI (128 * g + k + 1), hK1, rfl, by decide, fun _ => updL_0, w_takeFile (gMet.toE (c_GB_takeFile_fo σ hσ fi g k hf1 hf hq hg4 hk1 hk2 hfr hσ)), gMet.toE (c_MD_takeFile σ τ N hK0 hN6 fi true g k hf1 hf hff2 ((if_pos rfl).trans hq) hg4 hk)⟩
      | false =>
        cases hq : sPlain σ ((fi - 1) / 128) with
        | none => exact absurd ((sPlain_no hσ hp).mp hq) hff
        | some g =>
          obtain ⟨hg4, hfr⟩ := sPlain_fr hσ hq
          obtain ⟨k, hk, hk1, hk2, hk3⟩ := hall g hg4 hfr
          have hK1 : RK (N + 1) (sOccF (uTT σ true) g k false) (mMkF (vTh τ 0) g k true false) := (hK0.th 0).occF hg4 hk2 hk3
          exact ⟨sOccF (uTT σ true) g k false, mMkF (vTh τ 0) g k true false, vp_updL f 0 (nI (128 * g + k + 1)).toInt64, 0, nI (128 * g + k + 1), hK1, rfl, by decide, fun _ => updL_0, w_takeFile (c_GB_takeFile_pl σ hσ fi g k hf1 hf hq hg4 hk1 hk2 hfr hσ), gMet.toE (c_MD_takeFile σ τ N hK0 hN6 fi false g k hf1 hf hff2 ((if_neg (by decide)).trans hq) hg4 hk)⟩
set_option maxRecDepth 100000 in
theorem st_giveFile {l : Launch} (hfl : l.flags = flags0) {D : va_G} {cG cZ cI cJ : ClassId} {ad am : Nat → Nat} {ao : Nat} {f : Nat → Int64} {N : Nat} {σ : gS} {τ : mS} (hK0 : RK N σ τ) (hN : N < 65535) (x0 : Int32) (x1 : Bool) : ∃ (σ' : gS) (τ' : mS) (f' : Nat → Int64) (k : Nat) (r : Int32), RK (N + 1) σ' τ' ∧ mTh τ' = k ∧ k ≤ 2 ∧ (k = 0 → f' 0 = r.toInt64) ∧ gG l D (gT cG cZ cI cJ) (.codeWith y_LW_giveFile b_LW_giveFile 5 (some .int) [(0, 10, 13, 13), (0, 10, 17, 23)]) y_LW_giveFile ({ frames := 9, cells := 1, slots := 6, locals := 164 }) 1 6 (wd ad cG cZ σ ++ wo ao cJ f) [.ref (ad 0), .int x0, .int (bI x1), .ref ao] (wd ad cG cZ σ' ++ wo ao cJ f') (some (.int (nI k))) ∧ gMetE l D (gT cG cZ cI cJ) y_MD_giveFile b_MD_giveFile 4 (some .int) ({ frames := 3, cells := 0, slots := 0, locals := 64 }) (wm am cI cZ τ) [.ref (am 0), .int x0, .int (bI x1)] (wm am cI cZ τ') (some (.int r)) := by
  have hN6 : N < 65536 := by omega
  have hR := hK0.ri hN6
  have hσ := hR.sb
  by_cases h : sHasF σ x0 = true ∧ nI 11 ≤ x0
  · obtain ⟨fi, rfl, hf1, hf⟩ := hasF_nat hσ h.1
    have hc4 := hσ.2.1
    have h11 : 11 ≤ fi := (nI_leI (by decide) (by omega)).mp h.2
    have hss : sSet σ (2 * ((fi - 1) / 128) + 1) ((fi - 1) % 128) = sBt σ (2 * ((fi - 1) / 128) + 1) ((fi - 1) % 128) := sSet_lt (by rw [gLen_odd]; omega)
    by_cases hno : sBt σ (2 * ((fi - 1) / 128) + 1) ((fi - 1) % 128) = false ∨ (x1 = true ∧ sFd σ ((fi - 1) / 128) = 0)
    · exact ⟨σ, vTh (vTh τ 0) 2, f, 2, nI 0, ((hK0.th 0).th 2).next, rfl, by decide, fun z => absurd z (by decide), w_giveFile_2 (σ' := σ) (x_GB_giveFile_no hfl σ hσ fi x1 h11 hf (by rw [hss]; exact hno)), gMet.toE (c_MD_giveFile_no σ τ N hK0 hN6 fi x1 h11 hf hno)⟩
    · have hset : sBt σ (2 * ((fi - 1) / 128) + 1) ((fi - 1) % 128) = true := by
        cases hb : sBt σ (2 * ((fi - 1) / 128) + 1) ((fi - 1) % 128) with
        | true => rfl
        | false => exact absurd (Or.inl hb) hno
      have hfo : x1 = true → 1 ≤ sFd σ ((fi - 1) / 128) := fun z => Nat.pos_of_ne_zero (fun y => hno (Or.inr ⟨z, y⟩))
      have hK1 : RK N (uTT (sFreF σ ((fi - 1) / 128) ((fi - 1) % 128) x1) true) (mMkF (vTh (vTh τ 0) 0) ((fi - 1) / 128) ((fi - 1) % 128) false x1) := ((hK0.th 0).th 0).freF (by omega) (by omega) hset
      exact ⟨uTT (sFreF σ ((fi - 1) / 128) ((fi - 1) % 128) x1) true, mMkF (vTh (vTh τ 0) 0) ((fi - 1) / 128) ((fi - 1) % 128) false x1, vp_updL f 0 (nI (sFF (uTT (sFreF σ ((fi - 1) / 128) ((fi - 1) % 128) x1) true) (sCnt (uTT (sFreF σ ((fi - 1) / 128) ((fi - 1) % 128) x1) true)))).toInt64, 0, nI (sFF (uTT (sFreF σ ((fi - 1) / 128) ((fi - 1) % 128) x1) true) (sCnt (uTT (sFreF σ ((fi - 1) / 128) ((fi - 1) % 128) x1) true))), hK1.next, rfl, by decide, fun _ => updL_0, w_giveFile (gMet.toE (c_GB_giveFile σ hσ fi x1 h11 hf (hss.trans hset) hfo (hK1.ri hN6).sb)), gMet.toE (c_MD_giveFile σ τ N hK0 hN6 fi x1 h11 hf hset hfo)⟩
  · exact ⟨σ, vTh τ 1, f, 1, nI 0, (hK0.th 1).next, rfl, by decide, fun z => absurd z (by decide), w_giveFile_1 (σ' := σ) (x_GB_giveFile hfl σ hσ x0 x1 h), gMet.toE (c_MD_giveFile_bad σ τ N hK0 hN6 x0 x1 h)⟩
set_option maxRecDepth 100000 in
theorem st_isTaken {l : Launch} (hfl : l.flags = flags0) {D : va_G} {cG cZ cI cJ : ClassId} {ad am : Nat → Nat} {ao : Nat} {f : Nat → Int64} {N : Nat} {σ : gS} {τ : mS} (hK0 : RK N σ τ) (hN : N < 65535) (x0 : Int32) (x1 : Int32) : ∃ (σ' : gS) (τ' : mS) (f' : Nat → Int64) (k : Nat) (r : Bool), RK (N + 1) σ' τ' ∧ mTh τ' = k ∧ k ≤ 2 ∧ (k = 0 → f' 0 = if r = true then 1 else 0) ∧ gG l D (gT cG cZ cI cJ) (.codeWith y_LW_isTaken b_LW_isTaken 5 (some .int) [(0, 17, 20, 13)]) y_LW_isTaken ({ frames := 9, cells := 1, slots := 6, locals := 162 }) 1 6 (wd ad cG cZ σ ++ wo ao cJ f) [.ref (ad 0), .int x0, .int x1, .ref ao] (wd ad cG cZ σ' ++ wo ao cJ f') (some (.int (nI k))) ∧ gMetE l D (gT cG cZ cI cJ) y_MD_isTaken b_MD_isTaken 3 (some .boolean) ({ frames := 1, cells := 0, slots := 0, locals := 21 }) (wm am cI cZ τ) [.ref (am 0), .int x0, .int x1] (wm am cI cZ τ') (some (.int (bI r))) := by
  have hN6 : N < 65536 := by omega
  have hR := hK0.ri hN6
  have hσ := hR.sb
  by_cases h : x0 = 0 ∧ sHasB σ x1 = true
  · obtain ⟨rfl, h1⟩ := h
    obtain ⟨q, rfl, hq⟩ := hasB_nat hσ h1
    exact ⟨σ, vTh τ 0, vp_updL f 0 (if (sSet σ (2 * (q / 256)) (q % 256)) = true then 1 else 0), 0, (sSet σ (2 * (q / 256)) (q % 256)), (hK0.th 0).next, rfl, by decide, fun _ => updL_0, w_isTaken (gMet.toE (c_GB_isTaken_b σ hσ q hq)), gMet.toE (c_MD_isTaken_b σ τ hR q hq)⟩
  · by_cases h2 : x0 = nI 1 ∧ sHasF σ x1 = true
    · obtain ⟨rfl, h1⟩ := h2
      obtain ⟨fi, rfl, hf1, hf⟩ := hasF_nat hσ h1
      exact ⟨σ, vTh τ 0, vp_updL f 0 (if (sSet σ (2 * ((fi - 1) / 128) + 1) ((fi - 1) % 128)) = true then 1 else 0), 0, (sSet σ (2 * ((fi - 1) / 128) + 1) ((fi - 1) % 128)), (hK0.th 0).next, rfl, by decide, fun _ => updL_0, w_isTaken (gMet.toE (c_GB_isTaken_f σ hσ fi hf1 hf)), gMet.toE (c_MD_isTaken_f σ τ hR fi hf1 hf)⟩
    · exact ⟨σ, vTh τ 1, f, 1, false, (hK0.th 1).next, rfl, by decide, fun z => absurd z (by decide), w_isTaken_1 (σ' := σ) (x_GB_isTaken hfl σ hσ x0 x1 h h2), gMet.toE (c_MD_isTaken_bad σ τ hR x0 x1 h h2)⟩
set_option maxRecDepth 100000 in
theorem st_group {l : Launch} (hfl : l.flags = flags0) {D : va_G} {cG cZ cI cJ : ClassId} {ad am : Nat → Nat} {ao : Nat} {f : Nat → Int64} {N : Nat} {σ : gS} {τ : mS} (hK0 : RK N σ τ) (hN : N < 65535) (x0 : Int32) (x1 : Int32) : ∃ (σ' : gS) (τ' : mS) (f' : Nat → Int64) (k : Nat) (r : Int32), RK (N + 1) σ' τ' ∧ mTh τ' = k ∧ k ≤ 2 ∧ (k = 0 → f' 0 = r.toInt64) ∧ gG l D (gT cG cZ cI cJ) (.codeWith y_LW_group b_LW_group 5 (some .int) [(0, 10, 13, 13)]) y_LW_group ({ frames := 9, cells := 1, slots := 6, locals := 163 }) 1 6 (wd ad cG cZ σ ++ wo ao cJ f) [.ref (ad 0), .int x0, .int x1, .ref ao] (wd ad cG cZ σ' ++ wo ao cJ f') (some (.int (nI k))) ∧ gMetE l D (gT cG cZ cI cJ) y_MD_group b_MD_group 3 (some .int) ({ frames := 1, cells := 0, slots := 0, locals := 26 }) (wm am cI cZ τ) [.ref (am 0), .int x0, .int x1] (wm am cI cZ τ') (some (.int r)) := by
  have hN6 : N < 65536 := by omega
  have hR := hK0.ri hN6
  have hσ := hR.sb
  have hc4 := hσ.2.1
  by_cases h1 : x0 < 0 ∨ nI (sCnt σ) ≤ x0
  · exact ⟨σ, vTh τ 1, f, 1, nI 0, (hK0.th 1).next, rfl, by decide, fun z => absurd z (by decide), w_group_1 (σ' := σ) (x_GB_group1 hfl σ hσ x0 x1 h1), gMet.toE (c_MD_group_bad σ τ hR x0 x1 (fun z => h1.elim z.1 z.2.1))⟩
  · obtain ⟨g, rfl, -, hgc⟩ := i_natlt (lo := 0) (by decide) (by omega) (fun z => h1 (Or.inl z)) (fun z => h1 (Or.inr z))
    by_cases h2 : x1 < 0 ∨ nI 5 < x1
    · exact ⟨σ, vTh τ 1, f, 1, nI 0, (hK0.th 1).next, rfl, by decide, fun z => absurd z (by decide), w_group_1 (σ' := σ) (x_GB_group2 hfl σ hσ g x1 hgc h2), gMet.toE (c_MD_group_bad σ τ hR (nI g) x1 (fun z => h2.elim z.2.2.1 (fun y => by have h9 := z.2.2.2; rw [Int32.le_iff_toInt_le] at h9; rw [Int32.lt_iff_toInt_lt] at y; omega)))⟩
    · obtain ⟨w, rfl, -, hw⟩ := i_nat (lo := 0) (by decide) (by decide) (fun z => h2 (Or.inl z)) (fun z => h2 (Or.inr z))
      rcases (show w = 0 ∨ w = 1 ∨ w = 2 ∨ w = 3 ∨ w = 4 ∨ w = 5 by omega) with rfl | rfl | rfl | rfl | rfl | rfl
      · exact ⟨σ, mGrp τ g 0, vp_updL f 0 (nI (sGrp σ g 0)).toInt64, 0, nI (sGrp σ g 0), (hK0.grp g 0).next, mTh_grp _ _ _, by decide, fun _ => updL_0, w_group (gMet.toE (c_GB_group0 σ hσ g hgc)), gMet.toE (c_MD_group0 σ τ hR g hgc)⟩
      · exact ⟨σ, mGrp τ g 1, vp_updL f 0 (nI (sGrp σ g 1)).toInt64, 0, nI (sGrp σ g 1), (hK0.grp g 1).next, mTh_grp _ _ _, by decide, fun _ => updL_0, w_group (gMet.toE (c_GB_group1 σ hσ g hgc)), gMet.toE (c_MD_group1 σ τ hR g hgc)⟩
      · exact ⟨σ, mGrp τ g 2, vp_updL f 0 (nI (sGrp σ g 2)).toInt64, 0, nI (sGrp σ g 2), (hK0.grp g 2).next, mTh_grp _ _ _, by decide, fun _ => updL_0, w_group (gMet.toE (c_GB_group2 σ hσ g hgc)), gMet.toE (c_MD_group2 σ τ hR g hgc)⟩
      · exact ⟨σ, mGrp τ g 3, vp_updL f 0 (nI (sGrp σ g 3)).toInt64, 0, nI (sGrp σ g 3), (hK0.grp g 3).next, mTh_grp _ _ _, by decide, fun _ => updL_0, w_group (gMet.toE (c_GB_group3 σ hσ g hgc)), gMet.toE (c_MD_group3 σ τ hR g hgc)⟩
      · exact ⟨σ, mGrp τ g 4, vp_updL f 0 (nI (sGrp σ g 4)).toInt64, 0, nI (sGrp σ g 4), (hK0.grp g 4).next, mTh_grp _ _ _, by decide, fun _ => updL_0, w_group (gMet.toE (c_GB_group4 σ hσ g hgc)), gMet.toE (c_MD_group4 σ τ hR g hgc)⟩
      · exact ⟨σ, mGrp τ g 5, vp_updL f 0 (nI (sGrp σ g 5)).toInt64, 0, nI (sGrp σ g 5), (hK0.grp g 5).next, mTh_grp _ _ _, by decide, fun _ => updL_0, w_group (gMet.toE (c_GB_group5 σ hσ g hgc)), gMet.toE (c_MD_group5 σ τ hR g hgc)⟩
set_option maxRecDepth 100000 in
theorem st_byteOf {l : Launch} (hfl : l.flags = flags0) {D : va_G} {cG cZ cI cJ : ClassId} {ad am : Nat → Nat} {ao : Nat} {f : Nat → Int64} {N : Nat} {σ : gS} {τ : mS} (hK0 : RK N σ τ) (hN : N < 65535) (x0 : Int32) (x1 : Int32) : ∃ (σ' : gS) (τ' : mS) (f' : Nat → Int64) (k : Nat) (r : Int32), RK (N + 1) σ' τ' ∧ mTh τ' = k ∧ k ≤ 2 ∧ (k = 0 → f' 0 = r.toInt64) ∧ gG l D (gT cG cZ cI cJ) (.codeWith y_LW_byteOf b_LW_byteOf 5 (some .int) [(0, 10, 13, 45)]) y_LW_byteOf ({ frames := 9, cells := 1, slots := 6, locals := 163 }) 1 6 (wd ad cG cZ σ ++ wo ao cJ f) [.ref (ad 0), .int x0, .int x1, .ref ao] (wd ad cG cZ σ' ++ wo ao cJ f') (some (.int (nI k))) ∧ gMetE l D (gT cG cZ cI cJ) y_MD_byteOf b_MD_byteOf 9 (some .int) ({ frames := 3, cells := 0, slots := 0, locals := 65 }) (wm am cI cZ τ) [.ref (am 0), .int x0, .int x1] (wm am cI cZ τ') (some (.int r)) := by
  have hN6 : N < 65536 := by omega
  have hR := hK0.ri hN6
  have hσ := hR.sb
  by_cases h : ¬ x0 < 0 ∧ ¬ nI 1023 < x0 ∧ ¬ x1 < 0 ∧ x1 ≤ nI 4095
  · obtain ⟨h1, h2, h3, h4⟩ := h
    obtain ⟨q, rfl, -, hq⟩ := i_nat (lo := 0) (by decide) (by decide) h1 h2
    obtain ⟨j, rfl, -, hj⟩ := i_natle (lo := 0) (by decide) (by decide) h3 h4
    exact ⟨σ, vTh τ 0, vp_updL f 0 (nI (sByteOf σ q j)).toInt64, 0, nI (sByteOf σ q j), (hK0.th 0).next, rfl, by decide, fun _ => updL_0, w_byteOf (gMet.toE (c_GB_byteOf σ hσ q j (by omega) (by omega))), gMet.toE (c_MD_byteOf σ τ hR q j (by omega) (by omega))⟩
  · exact ⟨σ, vTh τ 1, f, 1, nI 0, (hK0.th 1).next, rfl, by decide, fun z => absurd z (by decide), w_byteOf_1 (σ' := σ) (x_GB_byteOf hfl σ x0 x1 h), gMet.toE (c_MD_byteOf_bad σ τ hR x0 x1 h)⟩
set_option maxRecDepth 100000 in
theorem st_isTold {l : Launch} (hfl : l.flags = flags0) {D : va_G} {cG cZ cI cJ : ClassId} {ad am : Nat → Nat} {ao : Nat} {f : Nat → Int64} {N : Nat} {σ : gS} {τ : mS} (hK0 : RK N σ τ) (hN : N < 65535) (x0 : Int32) : ∃ (σ' : gS) (τ' : mS) (f' : Nat → Int64) (k : Nat) (r : Bool), RK (N + 1) σ' τ' ∧ mTh τ' = k ∧ k ≤ 2 ∧ (k = 0 → f' 0 = if r = true then 1 else 0) ∧ gG l D (gT cG cZ cI cJ) (.codeWith y_LW_isTold b_LW_isTold 4 (some .int) [(0, 16, 19, 45)]) y_LW_isTold ({ frames := 9, cells := 1, slots := 6, locals := 162 }) 1 6 (wd ad cG cZ σ ++ wo ao cJ f) [.ref (ad 0), .int x0, .ref ao] (wd ad cG cZ σ' ++ wo ao cJ f') (some (.int (nI k))) ∧ gMetE l D (gT cG cZ cI cJ) y_MD_isTold b_MD_isTold 2 (some .boolean) ({ frames := 0, cells := 0, slots := 0, locals := 0 }) (wm am cI cZ τ) [.ref (am 0), .int x0] (wm am cI cZ τ') (some (.int (bI r))) := by
  have hN6 : N < 65536 := by omega
  have hR := hK0.ri hN6
  have hσ := hR.sb
  by_cases h : ¬ x0 < 0 ∧ x0 ≤ nI 1023
  · obtain ⟨q, rfl, -, hq⟩ := i_natle (lo := 0) (by decide) (by decide) h.1 h.2
    have hM := c_MD_isTold (l := l) (D := D) (cG := cG) (cZ := cZ) (cI := cI) (cJ := cJ) (am := am) τ q (by omega)
    rw [hR.to (show q < 1024 by omega)] at hM
    exact ⟨σ, vTh τ 0, vp_updL f 0 (if (sTold σ q) = true then 1 else 0), 0, (sTold σ q), (hK0.th 0).next, rfl, by decide, fun _ => updL_0, w_isTold (gMet.toE (c_GB_isTold σ q (by omega))), gMet.toE hM⟩
  · exact ⟨σ, vTh τ 1, f, 1, false, (hK0.th 1).next, rfl, by decide, fun z => absurd z (by decide), w_isTold_1 (σ' := σ) (x_GB_isTold hfl σ x0 h), gMet.toE (c_MD_isTold_bad τ x0 h)⟩
set_option maxRecDepth 100000 in
theorem st_taken {l : Launch} (hfl : l.flags = flags0) {D : va_G} {cG cZ cI cJ : ClassId} {ad am : Nat → Nat} {N : Nat} {σ : gS} {τ : mS} (hK0 : RK N σ τ) (hN : N < 65535)  : ∃ (σ' : gS) (τ' : mS) (r : Int32), RK (N + 1) σ' τ' ∧ gMetE l D (gT cG cZ cI cJ) y_GB_taken b_GB_taken 1 (some .int) ({ frames := 0, cells := 0, slots := 0, locals := 0 }) (wd ad cG cZ σ) [.ref (ad 0)] (wd ad cG cZ σ') (some (.int r)) ∧ gMetE l D (gT cG cZ cI cJ) y_MD_taken b_MD_taken 1 (some .int) ({ frames := 0, cells := 0, slots := 0, locals := 0 }) (wm am cI cZ τ) [.ref (am 0)] (wm am cI cZ τ') (some (.int r)) := by
  have hN6 : N < 65536 := by omega
  have hR := hK0.ri hN6
  have hσ := hR.sb
  have hM := c_MD_taken (l := l) (D := D) (cG := cG) (cZ := cZ) (cI := cI) (cJ := cJ) (am := am) τ
  rw [hR.lt] at hM
  exact ⟨σ, vTh τ 0, nI (sLat σ), (hK0.th 0).next, gMet.toE (c_GB_taken σ), gMet.toE hM⟩
set_option maxRecDepth 100000 in
theorem st_settle {l : Launch} (hfl : l.flags = flags0) {D : va_G} {cG cZ cI cJ : ClassId} {ad am : Nat → Nat} {N : Nat} {σ : gS} {τ : mS} (hK0 : RK N σ τ) (hN : N < 65535)  : ∃ (σ' : gS) (τ' : mS) (r : Int32), RK (N + 1) σ' τ' ∧ gMetE l D (gT cG cZ cI cJ) y_GB_settle b_GB_settle 3 (some .int) ({ frames := 1, cells := 0, slots := 0, locals := 21 }) (wd ad cG cZ σ) [.ref (ad 0)] (wd ad cG cZ σ') (some (.int r)) ∧ gMetE l D (gT cG cZ cI cJ) y_MD_settle b_MD_settle 3 (some .int) ({ frames := 0, cells := 0, slots := 0, locals := 0 }) (wm am cI cZ τ) [.ref (am 0)] (wm am cI cZ τ') (some (.int r)) := by
  have hN6 : N < 65536 := by omega
  have hR := hK0.ri hN6
  have hσ := hR.sb
  have hM := c_MD_settle (l := l) (D := D) (cG := cG) (cZ := cZ) (cI := cI) (cJ := cJ) (am := am) τ
  rw [hK0.cnt] at hM
  exact ⟨sStl σ 4, mSet τ, nI (sSc σ 4), hK0.set.next, gMet.toE (c_GB_settle σ), gMet.toE hM⟩
