/-- how many of the first n are free -/
def c0 (B : Nat → Bool) : Nat → Nat
  | 0 => 0
  | n + 1 => if B n = true then c0 B n else c0 B n + 1
theorem c0_le (B : Nat → Bool) (n : Nat) : c0 B n ≤ n := by
  induction n with
  | zero => exact Nat.le_refl _
  | succ n ih =>
    cases h : B n with
    | true => have e : c0 B (n + 1) = c0 B n := by simp [c0, h]
              rw [e]; omega
    | false => have e : c0 B (n + 1) = c0 B n + 1 := by simp [c0, h]
               rw [e]; omega
theorem c0_t {B : Nat → Bool} {n : Nat} (h : B n = true) : c0 B (n + 1) = c0 B n := by simp [c0, h]
theorem c0_f {B : Nat → Bool} {n : Nat} (h : B n = false) : c0 B (n + 1) = c0 B n + 1 := by simp [c0, h]
theorem c0_congr {B C : Nat → Bool} {n : Nat} (h : ∀ k, k < n → B k = C k) : c0 B n = c0 C n := by
  induction n with
  | zero => rfl
  | succ n ih =>
    have h1 := ih (fun k hk => h k (by omega))
    have h2 := h n (by omega)
    cases hc : C n with
    | true => rw [c0_t (h2.trans hc), c0_t hc, h1]
    | false => rw [c0_f (h2.trans hc), c0_f hc, h1]
def mCB (τ : mS) (g : Nat) : Nat := c0 (fun k => mBk τ (256 * g + k)) (mSz τ g)
def mCF (τ : mS) (g : Nat) : Nat := c0 (fun k => mFl τ (128 * g + k)) 128
def mAB (τ : mS) : Nat → Nat
  | 0 => 0
  | g + 1 => mAB τ g + mCB τ g
def mAF (τ : mS) : Nat → Nat
  | 0 => 0
  | g + 1 => mAF τ g + mCF τ g
/-- bounds that the reference's walks need -/
def mOk (τ : mS) : Prop := 1 ≤ mGr τ ∧ mGr τ ≤ 4 ∧ mRs τ ≤ 100 ∧ (∀ g, g < 4 → mSz τ g ≤ 256) ∧ (∀ g, g < 4 → mFd τ g < 65536)
theorem mCB_le {τ : mS} (h : mOk τ) {g : Nat} (hg : g < 4) : mCB τ g ≤ 256 := Nat.le_trans (c0_le _ _) (h.2.2.2.1 g hg)
theorem mCF_le (τ : mS) (g : Nat) : mCF τ g ≤ 128 := c0_le _ _
theorem mAB_le {τ : mS} (h : mOk τ) (g : Nat) (hg : g ≤ 4) : mAB τ g ≤ 256 * g := by
  induction g with
  | zero => exact Nat.le_refl _
  | succ g ih =>
    have h1 := ih (by omega)
    have h2 := mCB_le h (g := g) (by omega)
    show mAB τ g + mCB τ g ≤ _
    omega
theorem mAF_le (τ : mS) (g : Nat) : mAF τ g ≤ 128 * g := by
  induction g with
  | zero => exact Nat.le_refl _
  | succ g ih =>
    have h2 := mCF_le τ g
    show mAF τ g + mCF τ g ≤ _
    omega
def mIsB (τ : mS) (x : Int32) : Bool := decide (0 ≤ x.toInt) && decide (x.toInt < (256 * mGr τ : Nat)) && decide (x.toInt.toNat % 256 < mSz τ (x.toInt.toNat / 256))
theorem mIsB_neg {τ : mS} {x : Int32} (h : x < 0) : mIsB τ x = false := by
  have h1 : x.toInt < 0 := Int32.lt_iff_toInt_lt.mp h
  have h2 : ¬ 0 ≤ x.toInt := by omega
  simp [mIsB, h2]
theorem mIsB_ge {τ : mS} {x : Int32} (hτ : mOk τ) (h : nI (256 * mGr τ) ≤ x) : mIsB τ x = false := by
  have h1 := Int32.le_iff_toInt_le.mp h
  have h3 := hτ.2.1
  rw [nI_toInt (by omega)] at h1
  have h2 : ¬ x.toInt < (256 * mGr τ : Nat) := by omega
  unfold mIsB
  rw [decide_eq_false h2, Bool.and_false, Bool.false_and]
theorem mIsB_nI {τ : mS} {j : Nat} (hj : j < 256 * mGr τ) (h4 : mGr τ ≤ 4) : mIsB τ (nI j) = decide (j % 256 < mSz τ (j / 256)) := by
  unfold mIsB
  rw [nI_toInt (by omega)]
  have h1 : (0 : Int) ≤ (j : Int) := by omega
  have h2 : (j : Int) < (256 * mGr τ : Nat) := by omega
  rw [decide_eq_true h1, decide_eq_true h2]
  simp
theorem in_of {x : Int32} {n : Nat} (h : ¬ x < 0) (h2 : ¬ nI n ≤ x) (hn : n < 2 ^ 31) : ∃ j : Nat, j < n ∧ x = nI j := by
  rcases pk_ix x hn with q | q | q
  · exact absurd q h
  · exact absurd q h2
  · exact q
def mIsF (τ : mS) (x : Int32) : Bool := decide (1 ≤ x.toInt) && decide (x.toInt ≤ (128 * mGr τ : Nat))
theorem mIsF_lo {τ : mS} {x : Int32} (h : x < nI 1) : mIsF τ x = false := by
  have h1 := Int32.lt_iff_toInt_lt.mp h
  rw [nI_toInt (by omega)] at h1
  have h2 : ¬ 1 ≤ x.toInt := by omega
  simp [mIsF, h2]
theorem mIsF_hi {τ : mS} {x : Int32} (hτ : mOk τ) (h : nI (128 * mGr τ) < x) : mIsF τ x = false := by
  have h1 := Int32.lt_iff_toInt_lt.mp h
  have h3 := hτ.2.1
  rw [nI_toInt (by omega)] at h1
  have h2 : ¬ x.toInt ≤ (128 * mGr τ : Nat) := by omega
  unfold mIsF
  rw [decide_eq_false h2, Bool.and_false]
theorem mIsF_t {τ : mS} {x : Int32} (hτ : mOk τ) (h : ¬ x < nI 1) (h2 : ¬ nI (128 * mGr τ) < x) : mIsF τ x = true := by
  have h3 := hτ.2.1
  have h1 : ¬ x.toInt < 1 := fun q => h (Int32.lt_iff_toInt_lt.mpr (by rw [nI_toInt (by omega)]; exact q))
  have h4 : ¬ ((128 * mGr τ : Nat) : Int) < x.toInt := fun q => h2 (Int32.lt_iff_toInt_lt.mpr (by rw [nI_toInt (by omega)]; exact q))
  have h5 : 1 ≤ x.toInt := by omega
  have h6 : x.toInt ≤ (128 * mGr τ : Nat) := by omega
  unfold mIsF
  rw [decide_eq_true h5, decide_eq_true h6]
  rfl
