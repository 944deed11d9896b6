/-- how many of the first n are set -/
def cT (B : Nat → Bool) : Nat → Nat
  | 0 => 0
  | n + 1 => if B n = true then cT B n + 1 else cT B n
theorem cT_t {B : Nat → Bool} {n : Nat} (h : B n = true) : cT B (n + 1) = cT B n + 1 := by simp [cT, h]
theorem cT_f {B : Nat → Bool} {n : Nat} (h : B n = false) : cT B (n + 1) = cT B n := by simp [cT, h]
theorem cT_le (B : Nat → Bool) (n : Nat) : cT B n ≤ n := by
  induction n with
  | zero => exact Nat.le_refl _
  | succ n ih =>
    cases h : B n with
    | true => rw [cT_t h]; omega
    | false => rw [cT_f h]; omega
def clr (B : Nat → Bool) (n : Nat) : Nat → Bool := fun i => if i < n then false else B i
theorem clr_0 (B : Nat → Bool) : clr B 0 = B := by funext i; unfold clr; rw [if_neg (Nat.not_lt_zero _)]
theorem clr_s (B : Nat → Bool) (n : Nat) : setb (clr B n) n false = clr B (n + 1) := by
  funext i
  unfold setb clr
  by_cases h : i = n
  · rw [if_pos h, if_pos (by omega)]
  · rw [if_neg h]
    by_cases h2 : i < n
    · rw [if_pos h2, if_pos (by omega)]
    · rw [if_neg h2, if_neg (by omega)]
theorem clr_at (B : Nat → Bool) (n : Nat) : clr B n n = B n := by unfold clr; rw [if_neg (Nat.lt_irrefl _)]
def mSet (τ : mS) : mS := vTo (vTh τ 0) (clr (mTo τ) 1024)
theorem vTo_vTo (τ : mS) (f h : Nat → Bool) : vTo (vTo τ f) h = vTo τ h := rfl
theorem vBk_vBk (τ : mS) (f h : Nat → Bool) : vBk (vBk τ f) h = vBk τ h := rfl
theorem vFl_vFl (τ : mS) (f h : Nat → Bool) : vFl (vFl τ f) h = vFl τ h := rfl
theorem mAf_f {τ : mS} {a t : Nat} (h : mAf τ a t = false) : mAf τ a (t + 1) = false := by simp [mAf, h]
theorem mAf_1 {τ : mS} {a t : Nat} (h : mIsB τ (nI (a + t)) = false) : mAf τ a (t + 1) = false := by simp [mAf, h]
theorem mAf_2 {τ : mS} {a t : Nat} (h : ¬ (a + t) / 256 = a / 256) : mAf τ a (t + 1) = false := by simp [mAf, h]
theorem mAf_3 {τ : mS} {a t : Nat} (h : mBk τ (a + t) = true) : mAf τ a (t + 1) = false := by simp [mAf, h]
theorem mAf_4 {τ : mS} {a t : Nat} (h0 : mAf τ a t = true) (h1 : mIsB τ (nI (a + t)) = true) (h2 : (a + t) / 256 = a / 256) (h3 : mBk τ (a + t) = false) : mAf τ a (t + 1) = true := by simp [mAf, h0, h1, h2, h3]
/-- behind findRun(g, 0) -/
def mFr0 (τ : mS) (g k : Nat) : mS := vRz (vRa τ (if (lrF (mB τ g) k).1 = 0 then mRa τ else 256 * g + lpF (mB τ g) k)) (lrF (mB τ g) k).1
/-- behind findRun(g, q) -/
def mFrq (τ : mS) (g q k : Nat) : mS := vRz (vRa τ (match (srF (mB τ g) q (mSz τ g + 1) k).1 with | none => mRa τ | some a => 256 * g + a)) (match (srF (mB τ g) q (mSz τ g + 1) k).1 with | none => 0 | some _ => (srF (mB τ g) q (mSz τ g + 1) k).2.1)
