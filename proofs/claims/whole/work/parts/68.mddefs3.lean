theorem sLf_spec {σ : gS} {j : Nat} : ∀ {n k : Nat}, sLf σ j n = some k → k < n ∧ sSet σ j k = false ∧ ∀ i, i < k → sSet σ j i = true := by
  intro n
  induction n with
  | zero => intro k h; cases h
  | succ n ih =>
    intro k h
    have h : (match sLf σ j n with | some q => some q | none => if sSet σ j n = true then none else some n) = some k := h
    cases hq : sLf σ j n with
    | some q =>
      rw [hq] at h
      have h : q = k := Option.some.inj h
      obtain ⟨a, b, c⟩ := ih hq
      subst h
      exact ⟨by omega, b, c⟩
    | none =>
      rw [hq] at h
      dsimp only at h
      have hall : ∀ m, m ≤ n → sLf σ j m = none ∧ ∀ i, i < m → sSet σ j i = true := by
        intro m
        induction m with
        | zero => intro _; exact ⟨rfl, fun i hi => absurd hi (Nat.not_lt_zero _)⟩
        | succ m im =>
          intro hm
          obtain ⟨i1, i2⟩ := im (by omega)
          have hs : sSet σ j m = true := by
            cases hs : sSet σ j m with
            | true => rfl
            | false => rw [sLf_some i1 hs (show m < n by omega)] at hq; cases hq
          exact ⟨sLf_step i1 hs, fun i hi => by
            rcases Nat.lt_succ_iff_lt_or_eq.mp hi with q | q
            · exact i2 i q
            · rw [q]; exact hs⟩
      cases hs : sSet σ j n with
      | true => rw [hs, if_pos rfl] at h; cases h
      | false =>
        rw [hs, if_neg (by decide)] at h
        have h : n = k := Option.some.inj h
        subst h
        exact ⟨Nat.lt_succ_self _, hs, (hall n (Nat.le_refl _)).2⟩
def thv (b : Bool) : Nat := if b = true then 0 else 2
theorem thv_t : thv true = 0 := rfl
theorem thv_f : thv false = 2 := rfl
theorem vTh_vTh (τ : mS) (a b : Nat) : vTh (vTh τ a) b = vTh τ b := rfl
theorem sGv_s (σ : gS) (a k : Nat) : sGv σ a (k + 1) = (sGv σ a k && sGv1 σ (a + k)) := rfl
theorem sHasB_no {σ : gS} {j : Nat} (hj : j < 2 ^ 31) (h : sAll σ ≤ j) : sHasB σ (nI j) = false := by
  unfold sHasB
  rw [nI_toInt hj, decide_eq_false (show ¬ (j : Int) < (sAll σ : Int) by omega), Bool.and_false]
theorem mMkF_1 (τ : mS) (g k : Nat) (v fo : Bool) : mTo (mMkF τ g k v fo) 1 = true := by
  show setb (setb (mTo τ) 1 true) (256 * g + gHd g + 1) true 1 = true
  unfold setb
  split
  · rfl
  · rfl
theorem sFre_o (σ : gS) (j k : Nat) : sCnt (sFre σ j k) = sCnt σ ∧ sRsv (sFre σ j k) = sRsv σ ∧ sLat (sFre σ j k) = sLat σ ∧ sSz (sFre σ j k) = sSz σ ∧ sFd (sFre σ j k) = sFd σ ∧ sTT (sFre σ j k) = sTT σ := by
  unfold sFre
  split
  · exact ⟨rfl, rfl, rfl, rfl, rfl, rfl⟩
  · exact ⟨rfl, rfl, rfl, rfl, rfl, rfl⟩
theorem sOcc_o (σ : gS) (j k : Nat) : sCnt (sOcc σ j k) = sCnt σ ∧ sRsv (sOcc σ j k) = sRsv σ ∧ sLat (sOcc σ j k) = sLat σ ∧ sSz (sOcc σ j k) = sSz σ ∧ sFd (sOcc σ j k) = sFd σ ∧ sTT (sOcc σ j k) = sTT σ := by
  unfold sOcc
  split
  · exact ⟨rfl, rfl, rfl, rfl, rfl, rfl⟩
  · exact ⟨rfl, rfl, rfl, rfl, rfl, rfl⟩
theorem sFol_o (σ : gS) (g v : Nat) (fo : Bool) : sCnt (sFol σ g fo v) = sCnt σ ∧ sRsv (sFol σ g fo v) = sRsv σ ∧ sLat (sFol σ g fo v) = sLat σ ∧ sSz (sFol σ g fo v) = sSz σ ∧ sTT (sFol σ g fo v) = sTT σ := by
  unfold sFol
  split
  · exact ⟨rfl, rfl, rfl, rfl, rfl⟩
  · exact ⟨rfl, rfl, rfl, rfl, rfl⟩
theorem sFreF_o (σ : gS) (g k : Nat) (fo : Bool) : sCnt (sFreF σ g k fo) = sCnt σ ∧ sRsv (sFreF σ g k fo) = sRsv σ ∧ sLat (sFreF σ g k fo) = sLat σ ∧ sSz (sFreF σ g k fo) = sSz σ ∧ sTT (sFreF σ g k fo) = sTT σ ∧ True := by
  unfold sFreF
  obtain ⟨a1, a2, a3, a4, a5⟩ := sFol_o (sFre σ (2 * g + 1) k) g (sFd σ g - 1) fo
  obtain ⟨b1, b2, b3, b4, b5, b6⟩ := sFre_o σ (2 * g + 1) k
  exact ⟨a1.trans b1, a2.trans b2, a3.trans b3, a4.trans b4, a5.trans b6, trivial⟩
theorem sOccF_o (σ : gS) (g k : Nat) (fo : Bool) : sCnt (sOccF σ g k fo) = sCnt σ ∧ sRsv (sOccF σ g k fo) = sRsv σ ∧ sLat (sOccF σ g k fo) = sLat σ ∧ sSz (sOccF σ g k fo) = sSz σ ∧ sTT (sOccF σ g k fo) = sTT σ ∧ True := by
  unfold sOccF
  obtain ⟨a1, a2, a3, a4, a5⟩ := sFol_o (sOcc σ (2 * g + 1) k) g (sFd σ g + 1) fo
  obtain ⟨b1, b2, b3, b4, b5, b6⟩ := sOcc_o σ (2 * g + 1) k
  exact ⟨a1.trans b1, a2.trans b2, a3.trans b3, a4.trans b4, a5.trans b6, trivial⟩
