/-! ===== the class's state is sound; class and reference hold the same ===== -/
def sTold (σ : gS) (b : Nat) : Bool := if b = 1 then sTT σ else if b = gPl (2 * (b / 256)) then sTd σ (2 * (b / 256)) else if b = gPl (2 * (b / 256) + 1) then sTd σ (2 * (b / 256) + 1) else false
def sI (σ : gS) : Prop := sB σ ∧ (∀ g, g < 4 → 16 ≤ sSz σ (2 * g) ∧ sSz σ (2 * g + 1) = 128) ∧ (∀ g, g + 1 < sCnt σ → sSz σ (2 * g) = 256) ∧ (∀ g, g < 4 → ∀ k, sSz σ (2 * g) ≤ k → k < 256 → sBt σ (2 * g) k = true) ∧ (∀ j, j < 8 → sFr σ j = c0 (sBt σ j) (sSz σ j))
def Rel (σ : gS) (τ : mS) : Prop := mGr τ = sCnt σ ∧ (∀ g, g < 4 → mSz τ g = sSz σ (2 * g)) ∧ (∀ g, g < 4 → ∀ k, k < sSz σ (2 * g) → mBk τ (256 * g + k) = sBt σ (2 * g) k) ∧ (∀ g, g < 4 → ∀ k, k < 128 → mFl τ (128 * g + k) = sBt σ (2 * g + 1) k) ∧ (∀ g, g < 4 → mFd τ g = sFd σ g) ∧ mRs τ = sRsv σ ∧ mLt τ = sLat σ ∧ (∀ b, b < 1024 → mTo τ b = sTold σ b)
def RI (σ : gS) (τ : mS) : Prop := sI σ ∧ Rel σ τ
section RIS
variable {σ : gS} {τ : mS}
theorem gLen_even (g : Nat) : gLen (2 * g) = 256 := by unfold gLen; rw [if_pos (by omega)]
theorem gLen_odd (g : Nat) : gLen (2 * g + 1) = 128 := by unfold gLen; rw [if_neg (by omega)]
theorem RI.gr (h : RI σ τ) : mGr τ = sCnt σ := h.2.1
theorem RI.sb (h : RI σ τ) : sB σ := h.1.1
theorem RI.sz (h : RI σ τ) {g : Nat} (hg : g < 4) : mSz τ g = sSz σ (2 * g) := h.2.2.1 g hg
theorem RI.szle (h : RI σ τ) {g : Nat} (hg : g < 4) : sSz σ (2 * g) ≤ 256 := by
  have := (h.sb.2.2.2.1 (2 * g) (by omega)).1
  rw [gLen_even] at this
  exact this
theorem RI.ok (h : RI σ τ) : mOk τ := by
  refine ⟨by rw [h.gr]; exact h.sb.1, by rw [h.gr]; exact h.sb.2.1, by rw [h.2.2.2.2.2.2.1]; exact h.sb.2.2.1, fun g hg => by rw [h.sz hg]; exact h.szle hg, fun g hg => by rw [h.2.2.2.2.2.1 g hg]; exact h.sb.2.2.2.2 g hg⟩
theorem RI.fd (h : RI σ τ) {g : Nat} (hg : g < 4) : mFd τ g = sFd σ g := h.2.2.2.2.2.1 g hg
theorem RI.rs (h : RI σ τ) : mRs τ = sRsv σ := h.2.2.2.2.2.2.1
theorem RI.lt (h : RI σ τ) : mLt τ = sLat σ := h.2.2.2.2.2.2.2.1
theorem RI.to (h : RI σ τ) {b : Nat} (hb : b < 1024) : mTo τ b = sTold σ b := h.2.2.2.2.2.2.2.2 b hb
theorem RI.bk (h : RI σ τ) {g k : Nat} (hg : g < 4) (hk : k < sSz σ (2 * g)) : mBk τ (256 * g + k) = sBt σ (2 * g) k := h.2.2.2.1 g hg k hk
theorem RI.fl (h : RI σ τ) {g k : Nat} (hg : g < 4) (hk : k < 128) : mFl τ (128 * g + k) = sBt σ (2 * g + 1) k := h.2.2.2.2.1 g hg k hk
theorem RI.cb (h : RI σ τ) {g : Nat} (hg : g < 4) : mCB τ g = sFr σ (2 * g) := by
  rw [h.1.2.2.2.2 (2 * g) (by omega), mCB, h.sz hg]
  exact c0_congr (fun k hk => h.bk hg hk)
theorem RI.cf (h : RI σ τ) {g : Nat} (hg : g < 4) : mCF τ g = sFr σ (2 * g + 1) := by
  rw [h.1.2.2.2.2 (2 * g + 1) (by omega), mCF, (h.1.2.1 g hg).2]
  exact c0_congr (fun k hk => h.fl hg hk)
theorem RI.ab (h : RI σ τ) (g : Nat) (hg : g ≤ 4) : mAB τ g = sFB σ g := by
  induction g with
  | zero => rfl
  | succ g ih => rw [mAB, sFB, ih (by omega), h.cb (by omega)]
theorem RI.af (h : RI σ τ) (g : Nat) (hg : g ≤ 4) : mAF τ g = sFF σ g := by
  induction g with
  | zero => rfl
  | succ g ih => rw [mAF, sFF, ih (by omega), h.cf (by omega)]
theorem RI.mb (h : RI σ τ) {g : Nat} (hg : g < 4) : mB τ g = sSet σ (2 * g) := by
  funext k
  have h256 := h.szle hg
  have hsz := h.sz hg
  rcases Nat.lt_or_ge k (sSz σ (2 * g)) with q | q
  · rw [mB_lt (by omega), h.bk hg q, sSet_lt (by rw [gLen_even]; omega)]
  · rw [mB_ge (by omega)]
    rcases Nat.lt_or_ge k 256 with q2 | q2
    · rw [sSet_lt (by rw [gLen_even]; omega), h.1.2.2.2.1 g hg k q q2]
    · rw [sSet_ge (by rw [gLen_even]; omega)]
theorem RI.hb (h : RI σ τ) (x : Int32) : mIsB τ x = sHasB σ x := by
  have h1 := h.sb.1
  have h4 := h.sb.2.1
  have hlast := h.szle (g := sCnt σ - 1) (by omega)
  unfold mIsB sHasB
  rw [h.gr]
  by_cases hx : 0 ≤ x.toInt
  · rw [decide_eq_true hx, Bool.true_and, Bool.true_and]
    obtain ⟨j, hj⟩ : ∃ j : Nat, x.toInt = (j : Int) := ⟨x.toInt.toNat, by omega⟩
    rw [hj, Int.toNat_natCast]
    by_cases hlt : j < 256 * sCnt σ
    · have hd : (j : Int) < (256 * sCnt σ : Nat) := by omega
      rw [decide_eq_true hd, Bool.true_and]
      have hjg : j / 256 < sCnt σ := by omega
      rw [h.sz (g := j / 256) (by omega)]
      apply decide_eq_decide.mpr
      unfold sAll
      rcases Nat.lt_or_ge (j / 256 + 1) (sCnt σ) with q | q
      · rw [h.1.2.2.1 (j / 256) q]
        constructor
        · intro _; omega
        · intro _; omega
      · have e : j / 256 = sCnt σ - 1 := by omega
        rw [e]
        constructor
        · intro _; omega
        · intro _; omega
    · have hd : ¬ (j : Int) < (256 * sCnt σ : Nat) := by omega
      rw [decide_eq_false hd, Bool.false_and]
      symm
      apply decide_eq_false
      unfold sAll
      omega
  · rw [decide_eq_false hx, Bool.false_and, Bool.false_and, Bool.false_and]
theorem RI.hf (h : RI σ τ) (x : Int32) : mIsF τ x = sHasF σ x := by
  unfold mIsF sHasF
  rw [h.gr, Nat.mul_comm]
end RIS
