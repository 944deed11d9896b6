/-! ===== runs of free numbers, over any bits ===== -/
def lrF (B : Nat → Bool) : Nat → Nat × Nat
  | 0 => (0, 0)
  | k + 1 => (Nat.max (lrF B k).1 (sLen (B k) (lrF B k).2), sLen (B k) (lrF B k).2)
def lpF (B : Nat → Bool) : Nat → Nat
  | 0 => 0
  | k + 1 => if (lrF B k).1 < sLen (B k) (lrF B k).2 then k + 1 - sLen (B k) (lrF B k).2 else lpF B k
def srF (B : Nat → Bool) (q s0 : Nat) : Nat → Option Nat × Nat × Nat
  | 0 => (none, s0, 0)
  | k + 1 => sSrN q k (srF B q s0 k) (sLen (B k) (srF B q s0 k).2.2) (B (k + 1))
theorem sLr_eq (σ : gS) (j k : Nat) : sLr σ j k = lrF (sSet σ j) k := by
  induction k with
  | zero => rfl
  | succ k ih => rw [sLr, lrF, ih]
theorem sSr_eq (σ : gS) (j q k : Nat) : sSr σ j q k = srF (sSet σ j) q (sSz σ j + 1) k := by
  induction k with
  | zero => rfl
  | succ k ih => rw [sSr, srF, ih]
theorem lrF_le (B : Nat → Bool) (k : Nat) : (lrF B k).1 ≤ k ∧ (lrF B k).2 ≤ k := by
  induction k with
  | zero => exact ⟨Nat.le_refl _, Nat.le_refl _⟩
  | succ k ih =>
    have h1 := ih.1
    have h2 := ih.2
    have h3 := sLen_le (B k) (lrF B k).2
    constructor
    · show Nat.max (lrF B k).1 (sLen (B k) (lrF B k).2) ≤ k + 1
      exact Nat.max_le.mpr ⟨by omega, by omega⟩
    · show sLen (B k) (lrF B k).2 ≤ k + 1
      omega
theorem lr_run {B : Nat → Bool} {k : Nat} (h0 : (lrF B k).2 = 0) : ∀ t : Nat, (∀ i, i < t → B (k + i) = false) → lrF B (k + t) = (Nat.max (lrF B k).1 t, t) ∧ lpF B (k + t) = if (lrF B k).1 < t then k else lpF B k := by
  intro t
  induction t with
  | zero =>
    intro _
    refine ⟨?_, by rw [if_neg (Nat.not_lt_zero _)]; rfl⟩
    show lrF B k = (Nat.max (lrF B k).1 0, 0)
    rw [show Nat.max (lrF B k).1 0 = (lrF B k).1 from Nat.max_eq_left (Nat.zero_le _), ← h0]
  | succ t ih =>
    intro hf
    obtain ⟨e1, e2⟩ := ih (fun i hi => hf i (by omega))
    have hb := hf t (by omega)
    have s1 : lrF B (k + (t + 1)) = (Nat.max (lrF B (k + t)).1 (sLen (B (k + t)) (lrF B (k + t)).2), sLen (B (k + t)) (lrF B (k + t)).2) := rfl
    have s2 : lpF B (k + (t + 1)) = if (lrF B (k + t)).1 < sLen (B (k + t)) (lrF B (k + t)).2 then k + t + 1 - sLen (B (k + t)) (lrF B (k + t)).2 else lpF B (k + t) := rfl
    rw [e1, hb] at s1 s2
    have s1 : lrF B (k + (t + 1)) = (Nat.max (Nat.max (lrF B k).1 t) (t + 1), t + 1) := s1
    have s2 : lpF B (k + (t + 1)) = if Nat.max (lrF B k).1 t < t + 1 then k + t + 1 - (t + 1) else lpF B (k + t) := s2
    generalize (lrF B k).1 = a at s1 s2 e2 ⊢
    constructor
    · rw [s1]
      congr 1
      rcases Nat.lt_or_ge a (t + 1) with h | h
      · rw [show Nat.max a (t + 1) = t + 1 from Nat.max_eq_right (by omega)]
        exact Nat.max_eq_right (Nat.max_le.mpr ⟨by omega, by omega⟩)
      · rw [show Nat.max a t = a from Nat.max_eq_left (by omega)]
    · rw [s2]
      rcases Nat.lt_or_ge a (t + 1) with h | h
      · rw [if_pos (show Nat.max a t < t + 1 from Nat.lt_succ_of_le (Nat.max_le.mpr ⟨by omega, by omega⟩)), if_pos h]; omega
      · rw [show Nat.max a t = a from Nat.max_eq_left (by omega), if_neg (by omega), if_neg (by omega), e2, if_neg (by omega)]
theorem lr_tk {B : Nat → Bool} {k : Nat} (h : B k = true) : lrF B (k + 1) = ((lrF B k).1, 0) ∧ lpF B (k + 1) = lpF B k := by
  constructor
  · show (Nat.max (lrF B k).1 (sLen (B k) (lrF B k).2), sLen (B k) (lrF B k).2) = _
    rw [h, sLen_t]
    rw [show Nat.max (lrF B k).1 0 = (lrF B k).1 from Nat.max_eq_left (Nat.zero_le _)]
  · show (if (lrF B k).1 < sLen (B k) (lrF B k).2 then _ else _) = _
    rw [h, sLen_t, if_neg (Nat.not_lt_zero _)]
theorem sr_run0 {B : Nat → Bool} {q s0 k : Nat} (h0 : (srF B q s0 k).2.2 = 0) : ∀ t : Nat, (∀ i, i ≤ t → B (k + i) = false) → srF B q s0 (k + t) = ((srF B q s0 k).1, (srF B q s0 k).2.1, t) := by
  intro t
  induction t with
  | zero =>
    intro _
    show srF B q s0 k = _
    rw [← h0]
  | succ t ih =>
    intro hf
    have e1 := ih (fun i hi => hf i (by omega))
    have hb := hf t (by omega)
    have hb2 : B (k + t + 1) = false := hf (t + 1) (by omega)
    have s1 : srF B q s0 (k + (t + 1)) = sSrN q (k + t) (srF B q s0 (k + t)) (sLen (B (k + t)) (srF B q s0 (k + t)).2.2) (B (k + t + 1)) := rfl
    rw [s1, e1, hb, hb2, sSrN_3 rfl]
    rfl
theorem sr_run1 {B : Nat → Bool} {q s0 k t : Nat} (h0 : (srF B q s0 k).2.2 = 0) (hf : ∀ i, i < t + 1 → B (k + i) = false) (he : B (k + (t + 1)) = true) : srF B q s0 (k + (t + 1)) = sSrN q (k + t) ((srF B q s0 k).1, (srF B q s0 k).2.1, t) (t + 1) true := by
  have e1 := sr_run0 h0 t (fun i hi => hf i (by omega))
  have hb := hf t (by omega)
  have he : B (k + t + 1) = true := he
  have s1 : srF B q s0 (k + (t + 1)) = sSrN q (k + t) (srF B q s0 (k + t)) (sLen (B (k + t)) (srF B q s0 (k + t)).2.2) (B (k + t + 1)) := rfl
  rw [s1, e1, hb, he]
  rfl
theorem sr_tk {B : Nat → Bool} {q s0 k : Nat} (hq : 1 ≤ q) (h : B k = true) : srF B q s0 (k + 1) = ((srF B q s0 k).1, (srF B q s0 k).2.1, 0) := by
  show sSrN q k (srF B q s0 k) (sLen (B k) (srF B q s0 k).2.2) (B (k + 1)) = _
  rw [h, sLen_t, sSrN_1 (by omega)]
/-! ===== what the reference's methods do ===== -/
def mMk1 (τ : mS) (p : Nat) (v : Bool) : mS := vTo (vBk τ (setb (mBk τ) p v)) (setb (mTo τ) (256 * (p / 256) + gHd (p / 256)) true)
def mMark (τ : mS) (a : Nat) (v : Bool) : Nat → mS
  | 0 => vTo τ (setb (mTo τ) 1 true)
  | t + 1 => mMk1 (mMark τ a v t) (a + t) v
def mFdN (τ : mS) (g : Nat) (v fo : Bool) : Nat := if fo = false then mFd τ g else if v = true then mFd τ g + 1 else mFd τ g - 1
def mMkF (τ : mS) (g k : Nat) (v fo : Bool) : mS := vTo (vTo (vFd (vFl τ (setb (mFl τ) (128 * g + k) v)) (setn (mFd τ) g (mFdN τ g v fo))) (setb (mTo τ) 1 true)) (setb (setb (mTo τ) 1 true) (256 * g + gHd g + 1) true)
def rowB (B : Nat → Bool) (g n : Nat) : Nat → Bool := fun i => if 256 * g ≤ i ∧ i < 256 * g + n then decide (i - 256 * g < gHd g + 10) else B i
def rowF (B : Nat → Bool) (g n : Nat) : Nat → Bool := fun i => if 128 * g ≤ i ∧ i < 128 * g + n then decide (g = 0 ∧ i - 128 * g < 10) else B i
theorem rowB_0 (B : Nat → Bool) (g : Nat) : rowB B g 0 = B := by funext i; unfold rowB; rw [if_neg (by omega)]
theorem rowF_0 (B : Nat → Bool) (g : Nat) : rowF B g 0 = B := by funext i; unfold rowF; rw [if_neg (by omega)]
theorem rowB_s {B : Nat → Bool} {g k : Nat} {v : Bool} (hv : v = decide (k < gHd g + 10)) : setb (rowB B g k) (256 * g + k) v = rowB B g (k + 1) := by
  funext i
  unfold setb rowB
  by_cases h : i = 256 * g + k
  · rw [if_pos h, if_pos (by omega), hv, h]
    congr 1
    rw [show 256 * g + k - 256 * g = k by omega]
  · rw [if_neg h]
    by_cases h2 : 256 * g ≤ i ∧ i < 256 * g + k
    · rw [if_pos h2, if_pos (by omega)]
    · rw [if_neg h2, if_neg (by omega)]
theorem rowF_s {B : Nat → Bool} {g k : Nat} {v : Bool} (hv : v = decide (g = 0 ∧ k < 10)) : setb (rowF B g k) (128 * g + k) v = rowF B g (k + 1) := by
  funext i
  unfold setb rowF
  by_cases h : i = 128 * g + k
  · rw [if_pos h, if_pos (by omega), hv, h]
    congr 1
    rw [show 128 * g + k - 128 * g = k by omega]
  · rw [if_neg h]
    by_cases h2 : 128 * g ≤ i ∧ i < 128 * g + k
    · rw [if_pos h2, if_pos (by omega)]
    · rw [if_neg h2, if_neg (by omega)]
def mLay1 (τ : mS) (g v : Nat) : mS := vTo (vTo (vFd (vSz τ (setn (mSz τ) g v)) (setn (mFd τ) g 0)) (setb (mTo τ) (256 * g + gHd g) true)) (setb (setb (mTo τ) (256 * g + gHd g) true) (256 * g + gHd g + 1) true)
def mLayG (τ : mS) (g v : Nat) : mS := vFl (vBk (mLay1 τ g v) (rowB (mBk τ) g 256)) (rowF (mFl τ) g 128)
def mLays (τ : mS) (c la : Nat) : Nat → mS
  | 0 => τ
  | g + 1 => mLayG (mLays τ c la g) g (if g = c - 1 then la else 256)
def mLay0 (τ : mS) (c : Nat) : mS := vTo (vLt (vRs (vGr τ c) 0) 0) (setb (mTo τ) 1 true)
theorem mGr_mLays (τ : mS) (c la g : Nat) : mGr (mLays τ c la g) = mGr τ := by
  induction g with
  | zero => rfl
  | succ g ih => rw [mLays, mLayG, p_Gr_Fl, p_Gr_Bk, mLay1, p_Gr_To, p_Gr_To, p_Gr_Fd, p_Gr_Sz, ih]
def mAf (τ : mS) (a : Nat) : Nat → Bool
  | 0 => true
  | t + 1 => mAf τ a t && (mIsB τ (nI (a + t)) && decide ((a + t) / 256 = a / 256) && !mBk τ (a + t))
theorem mIsB_lt {τ : mS} {j : Nat} (hτ : mOk τ) (hj : j < 2 ^ 31) (h : mIsB τ (nI j) = true) : j < 1024 := by
  have h4 := hτ.2.1
  unfold mIsB at h
  rw [nI_toInt hj] at h
  simp at h
  omega
def mB (τ : mS) (g : Nat) : Nat → Bool := fun k => decide (mSz τ g ≤ k) || mBk τ (256 * g + k)
theorem mB_lt {τ : mS} {g k : Nat} (h : k < mSz τ g) : mB τ g k = mBk τ (256 * g + k) := by unfold mB; rw [decide_eq_false (Nat.not_le.mpr h), Bool.false_or]
theorem mB_ge {τ : mS} {g k : Nat} (h : mSz τ g ≤ k) : mB τ g k = true := by unfold mB; rw [decide_eq_true h, Bool.true_or]
