theorem mFr0_0 (τ : mS) (g : Nat) : mFr0 τ g 0 = vRz τ 0 := rfl
theorem mFr0_skip {τ : mS} {g k t : Nat} (h0 : (lrF (mB τ g) k).2 = 0) (hf : ∀ i, i < t → mB τ g (k + i) = false) (h : t ≤ (lrF (mB τ g) k).1) : mFr0 τ g (k + t) = mFr0 τ g k := by
  obtain ⟨e1, e2⟩ := lr_run h0 t hf
  unfold mFr0
  rw [e1, e2, if_neg (Nat.not_lt.mpr h)]
  dsimp only
  rw [show Nat.max (lrF (mB τ g) k).1 t = (lrF (mB τ g) k).1 from Nat.max_eq_left h]
theorem mFr0_take {τ : mS} {g k t : Nat} (h0 : (lrF (mB τ g) k).2 = 0) (hf : ∀ i, i < t → mB τ g (k + i) = false) (h : (lrF (mB τ g) k).1 < t) : mFr0 τ g (k + t) = vRz (vRa (mFr0 τ g k) (256 * g + k)) t := by
  obtain ⟨e1, e2⟩ := lr_run h0 t hf
  have e3 : Nat.max (lrF (mB τ g) k).1 t = t := Nat.max_eq_right (Nat.le_of_lt h)
  show vRz (vRa τ (if (lrF (mB τ g) (k + t)).1 = 0 then mRa τ else 256 * g + lpF (mB τ g) (k + t))) (lrF (mB τ g) (k + t)).1 = _
  rw [e1, e2, if_pos h]
  dsimp only
  rw [e3, if_neg (by omega)]
  rfl
theorem mFr0_tk {τ : mS} {g k : Nat} (h : mB τ g k = true) : mFr0 τ g (k + 1) = mFr0 τ g k ∧ (lrF (mB τ g) (k + 1)).2 = 0 := by
  obtain ⟨e1, e2⟩ := lr_tk h
  unfold mFr0
  rw [e1, e2]
  exact ⟨rfl, rfl⟩
theorem srF_inv (B : Nat → Bool) (q s0 k : Nat) : ((srF B q s0 k).1 = none → (srF B q s0 k).2.1 = s0) ∧ (∀ a, (srF B q s0 k).1 = some a → q ≤ (srF B q s0 k).2.1 ∧ (srF B q s0 k).2.1 ≤ k ∧ a + (srF B q s0 k).2.1 ≤ k) ∧ (srF B q s0 k).2.2 ≤ k := by
  induction k with
  | zero => exact ⟨fun _ => rfl, fun a h => (by cases h), Nat.le_refl _⟩
  | succ k ih =>
    obtain ⟨i1, i2, i3⟩ := ih
    have hl := sLen_le (B k) (srF B q s0 k).2.2
    show ((sSrN q k (srF B q s0 k) (sLen (B k) (srF B q s0 k).2.2) (B (k + 1))).1 = none → (sSrN q k (srF B q s0 k) (sLen (B k) (srF B q s0 k).2.2) (B (k + 1))).2.1 = s0) ∧ (∀ a, (sSrN q k (srF B q s0 k) (sLen (B k) (srF B q s0 k).2.2) (B (k + 1))).1 = some a → q ≤ (sSrN q k (srF B q s0 k) (sLen (B k) (srF B q s0 k).2.2) (B (k + 1))).2.1 ∧ (sSrN q k (srF B q s0 k) (sLen (B k) (srF B q s0 k).2.2) (B (k + 1))).2.1 ≤ k + 1 ∧ a + (sSrN q k (srF B q s0 k) (sLen (B k) (srF B q s0 k).2.2) (B (k + 1))).2.1 ≤ k + 1) ∧ (sSrN q k (srF B q s0 k) (sLen (B k) (srF B q s0 k).2.2) (B (k + 1))).2.2 ≤ k + 1
    generalize sLen (B k) (srF B q s0 k).2.2 = len at hl ⊢
    unfold sSrN
    split
    · rename_i hc
      refine ⟨fun h => (by cases h), fun a h => ?_, ?_⟩
      · have h : k + 1 - len = a := Option.some.inj h
        exact ⟨hc.1, by show len ≤ _; omega, by show a + len ≤ _; omega⟩
      · show len ≤ _
        omega
    · refine ⟨i1, fun a h => ?_, ?_⟩
      · obtain ⟨j1, j2, j3⟩ := i2 a h
        exact ⟨j1, by show (srF B q s0 k).2.1 ≤ _; omega, by show a + (srF B q s0 k).2.1 ≤ _; omega⟩
      · show len ≤ _
        omega
def mRzq (τ : mS) (g q k : Nat) : Nat := match (srF (mB τ g) q (mSz τ g + 1) k).1 with | none => 0 | some _ => (srF (mB τ g) q (mSz τ g + 1) k).2.1
theorem mFrq_0 (τ : mS) (g q : Nat) : mFrq τ g q 0 = vRz τ 0 := rfl
theorem mFrq_skip {τ : mS} {g q k t : Nat} (h0 : (srF (mB τ g) q (mSz τ g + 1) k).2.2 = 0) (hf : ∀ i, i < t → mB τ g (k + i) = false) (he : mB τ g (k + t) = true) (hq : 1 ≤ q) (ht : t ≤ mSz τ g) (h : t < q ∨ (0 < mRzq τ g q k ∧ mRzq τ g q k ≤ t)) : mFrq τ g q (k + t) = mFrq τ g q k := by
  cases t with
  | zero => rfl
  | succ t =>
    have e1 := sr_run1 h0 hf he
    have hsk : ¬ (q ≤ t + 1 ∧ t + 1 < (srF (mB τ g) q (mSz τ g + 1) k).2.1 ∧ true = true) := by
      intro hc
      rcases h with h | h
      · omega
      · unfold mRzq at h
        cases hs : (srF (mB τ g) q (mSz τ g + 1) k).1 with
        | none => rw [hs] at h; exact absurd h.1 (Nat.lt_irrefl 0)
        | some a => rw [hs] at h; have := h.2; dsimp only at this; omega
    unfold mFrq
    rw [e1]
    unfold sSrN
    rw [if_neg hsk]
theorem mFrq_take {τ : mS} {g q k t : Nat} (h0 : (srF (mB τ g) q (mSz τ g + 1) k).2.2 = 0) (hf : ∀ i, i < t → mB τ g (k + i) = false) (he : mB τ g (k + t) = true) (hq : 1 ≤ q) (ht : t ≤ mSz τ g) (h1 : q ≤ t) (h : mRzq τ g q k = 0 ∨ t < mRzq τ g q k) : mFrq τ g q (k + t) = vRz (vRa (mFrq τ g q k) (256 * g + k)) t := by
  cases t with
  | zero => omega
  | succ t =>
    have e1 := sr_run1 h0 hf he
    obtain ⟨i1, i2, -⟩ := srF_inv (mB τ g) q (mSz τ g + 1) k
    have htk : q ≤ t + 1 ∧ t + 1 < (srF (mB τ g) q (mSz τ g + 1) k).2.1 ∧ true = true := by
      refine ⟨h1, ?_, rfl⟩
      unfold mRzq at h
      cases hs : (srF (mB τ g) q (mSz τ g + 1) k).1 with
      | none => rw [i1 hs]; omega
      | some a =>
        rw [hs] at h
        dsimp only at h
        have := (i2 a hs).1
        omega
    have e2 : srF (mB τ g) q (mSz τ g + 1) (k + (t + 1)) = (some (k + t + 1 - (t + 1)), t + 1, t + 1) := by
      rw [e1]
      exact if_pos htk
    show vRz (vRa τ (match (srF (mB τ g) q (mSz τ g + 1) (k + (t + 1))).1 with | none => mRa τ | some a => 256 * g + a)) (match (srF (mB τ g) q (mSz τ g + 1) (k + (t + 1))).1 with | none => 0 | some _ => (srF (mB τ g) q (mSz τ g + 1) (k + (t + 1))).2.1) = _
    rw [e2]
    dsimp only
    rw [show k + t + 1 - (t + 1) = k by omega]
    rfl
theorem mFrq_tk {τ : mS} {g q k : Nat} (hq : 1 ≤ q) (h : mB τ g k = true) : mFrq τ g q (k + 1) = mFrq τ g q k ∧ (srF (mB τ g) q (mSz τ g + 1) (k + 1)).2.2 = 0 := by
  have e1 := sr_tk (s0 := mSz τ g + 1) hq h
  unfold mFrq
  rw [e1]
  exact ⟨rfl, rfl⟩
