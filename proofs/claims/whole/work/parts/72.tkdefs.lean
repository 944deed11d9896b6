/-! ===== the reference's take ===== -/
theorem RI.maf {σ : gS} {τ : mS} (h : RI σ τ) {goal : Nat} (hg : goal < sAll σ) (q : Nat) (hq : q ≤ 65536) : mAf τ goal q = sAf σ (2 * (goal / 256)) (goal % 256) q := by
  obtain ⟨i1, i2⟩ := h.inb hg
  have hc := h.sb.2.1
  have hg4 : goal / 256 < 4 := by omega
  have hz := h.szle hg4
  have hal := sAll_le h.sb
  induction q with
  | zero => rfl
  | succ t ih =>
    show (mAf τ goal t && (mIsB τ (nI (goal + t)) && decide ((goal + t) / 256 = goal / 256) && !mBk τ (goal + t))) = (sAf σ (2 * (goal / 256)) (goal % 256) t && !sSet σ (2 * (goal / 256)) (goal % 256 + t))
    rw [ih (by omega)]
    congr 1
    rcases Nat.lt_or_ge (goal % 256 + t) 256 with z | z
    · have e1 : (goal + t) / 256 = goal / 256 := by omega
      have e2 : (goal + t) % 256 = goal % 256 + t := by omega
      rw [mIsB_nI (by rw [h.gr]; omega) (by rw [h.gr]; exact hc), e1, e2, h.sz hg4, decide_eq_true rfl, Bool.and_true]
      rcases Nat.lt_or_ge (goal % 256 + t) (sSz σ (2 * (goal / 256))) with y | y
      · rw [decide_eq_true y, Bool.true_and, h.ss hg4 y, show 256 * (goal / 256) + (goal % 256 + t) = goal + t by omega]
      · rw [decide_eq_false (Nat.not_lt.mpr y), Bool.false_and, h.ssg hg4 y]; rfl
    · rw [decide_eq_false (show ¬ (goal + t) / 256 = goal / 256 by omega), Bool.and_false, Bool.false_and, sSet_ge (by rw [gLen_even]; omega)]; rfl
theorem RI.sreq {σ : gS} {τ : mS} (h : RI σ τ) {g q : Nat} (hg : g < 4) : srF (mB τ g) q (mSz τ g + 1) (mSz τ g) = sSr σ (2 * g) q (sSz σ (2 * g)) := by
  rw [h.mb hg, h.sz hg, sSr_eq]
theorem RI.rzn {σ : gS} {τ : mS} (h : RI σ τ) {g q : Nat} (hg : g < 4) (hs : (sSr σ (2 * g) q (sSz σ (2 * g))).1 = none) : mRz (mFrq τ g q (mSz τ g)) = 0 := by
  show (match (srF (mB τ g) q (mSz τ g + 1) (mSz τ g)).1 with | none => 0 | some _ => (srF (mB τ g) q (mSz τ g + 1) (mSz τ g)).2.1) = 0
  rw [h.sreq hg, hs]
theorem RI.rzs {σ : gS} {τ : mS} (h : RI σ τ) {g q a : Nat} (hg : g < 4) (hq : 1 ≤ q) (hs : (sSr σ (2 * g) q (sSz σ (2 * g))).1 = some a) : 0 < mRz (mFrq τ g q (mSz τ g)) ∧ mRz (mFrq τ g q (mSz τ g)) ≤ 256 ∧ mRa (mFrq τ g q (mSz τ g)) = 256 * g + a ∧ a + q ≤ 256 := by
  have e1 : mRz (mFrq τ g q (mSz τ g)) = (match (srF (mB τ g) q (mSz τ g + 1) (mSz τ g)).1 with | none => 0 | some _ => (srF (mB τ g) q (mSz τ g + 1) (mSz τ g)).2.1) := rfl
  have e2 : mRa (mFrq τ g q (mSz τ g)) = (match (srF (mB τ g) q (mSz τ g + 1) (mSz τ g)).1 with | none => mRa τ | some a => 256 * g + a) := rfl
  rw [h.sreq hg, hs] at e1 e2
  rw [e1, e2]
  have hs2 := hs
  rw [sSr_eq] at hs2
  obtain ⟨j1, j2, j3⟩ := (srF_inv (sSet σ (2 * g)) q (sSz σ (2 * g) + 1) (sSz σ (2 * g))).2.1 a hs2
  rw [← sSr_eq] at j1 j2 j3
  have := h.szle hg
  exact ⟨by dsimp only; omega, by dsimp only; omega, rfl, by omega⟩
theorem RI.rz0 {σ : gS} {τ : mS} (h : RI σ τ) {g : Nat} (hg : g < 4) : mRz (mFr0 τ g (mSz τ g)) = sLen5 σ g := h.l5 hg
def sLp (σ : gS) (g : Nat) : Nat := lpF (sSet σ (2 * g)) (sSz σ (2 * g))
theorem RI.ra0 {σ : gS} {τ : mS} (h : RI σ τ) {g : Nat} (hg : g < 4) (hp : 0 < sLen5 σ g) : mRa (mFr0 τ g (mSz τ g)) = 256 * g + sLp σ g := by
  have e : mRa (mFr0 τ g (mSz τ g)) = if (lrF (mB τ g) (mSz τ g)).1 = 0 then mRa τ else 256 * g + lpF (mB τ g) (mSz τ g) := rfl
  rw [e, h.l5 hg, if_neg (by omega), h.mb hg, h.sz hg, sLp]
def tk1 (σ : gS) (τ : mS) (g q : Nat) : Nat → mS
  | 0 => τ
  | k + 1 => mFrq (tk1 σ τ g q k) (sNx σ g k) q (mSz (tk1 σ τ g q k) (sNx σ g k))
def tk2 (σ : gS) (τ : mS) (g : Nat) : Nat → mS
  | 0 => τ
  | k + 1 => mFr0 (tk2 σ τ g k) (sNx σ g k) (mSz (tk2 σ τ g k) (sNx σ g k))
theorem RK.tk1 {N : Nat} {σ : gS} {τ : mS} (h : RK N σ τ) (g q k : Nat) : RK N σ (tk1 σ τ g q k) := by
  induction k with
  | zero => exact h
  | succ k ih => exact ih.frq _ _ _
theorem RK.tk2 {N : Nat} {σ : gS} {τ : mS} (h : RK N σ τ) (g k : Nat) : RK N σ (tk2 σ τ g k) := by
  induction k with
  | zero => exact h
  | succ k ih => exact ih.fr0 _ _
theorem sFind_none {σ : gS} {g q : Nat} : ∀ {n : Nat}, sFind σ g q n = none → ∀ k, k < n → (sSr σ (2 * sNx σ g k) q (sSz σ (2 * sNx σ g k))).1 = none ∧ sFind σ g q k = none := by
  intro n
  induction n with
  | zero => intro _ k hk; omega
  | succ n ih =>
    intro h k hk
    have h : (match sFind σ g q n with | some z => some z | none => match (sSr σ (2 * sNx σ g n) q (sSz σ (2 * sNx σ g n))).1 with | some a => some (sNx σ g n, a) | none => none) = none := h
    cases hn : sFind σ g q n with
    | some z => rw [hn] at h; cases h
    | none =>
      rw [hn] at h
      dsimp only at h
      cases hs : (sSr σ (2 * sNx σ g n) q (sSz σ (2 * sNx σ g n))).1 with
      | some a => rw [hs] at h; cases h
      | none =>
        rcases Nat.lt_succ_iff_lt_or_eq.mp hk with z | z
        · exact ih hn k z
        · rw [z]; exact ⟨hs, hn⟩
theorem sFind_idx {σ : gS} {g q : Nat} : ∀ {n : Nat} {z : Nat × Nat}, sFind σ g q n = some z → ∃ k, k < n ∧ sFind σ g q k = none ∧ z.1 = sNx σ g k ∧ (sSr σ (2 * sNx σ g k) q (sSz σ (2 * sNx σ g k))).1 = some z.2 := by
  intro n
  induction n with
  | zero => intro z h; cases h
  | succ n ih =>
    intro z h
    have h : (match sFind σ g q n with | some z => some z | none => match (sSr σ (2 * sNx σ g n) q (sSz σ (2 * sNx σ g n))).1 with | some a => some (sNx σ g n, a) | none => none) = some z := h
    cases hn : sFind σ g q n with
    | some y =>
      rw [hn] at h
      cases h
      obtain ⟨k, k1, k2⟩ := ih hn
      exact ⟨k, by omega, k2⟩
    | none =>
      rw [hn] at h
      dsimp only at h
      cases hs : (sSr σ (2 * sNx σ g n) q (sSz σ (2 * sNx σ g n))).1 with
      | none => rw [hs] at h; cases h
      | some a =>
        rw [hs] at h
        cases h
        exact ⟨n, Nat.lt_succ_self _, hn, rfl, hs⟩
/-- the longest run of the first k groups, and where it begins -/
def bst (σ : gS) (g : Nat) : Nat → Nat × Nat
  | 0 => (0, 0)
  | k + 1 => if (bst σ g k).1 < sLen5 σ (sNx σ g k) then (sLen5 σ (sNx σ g k), 256 * sNx σ g k + sLp σ (sNx σ g k)) else bst σ g k
def atI (q : Nat × Nat) : Int32 := if q.1 = 0 then -1 else nI q.2
theorem bst_le {σ : gS} (hσ : sB σ) (g k : Nat) : (bst σ g k).1 ≤ 256 := by
  induction k with
  | zero => exact Nat.zero_le _
  | succ k ih =>
    show (if (bst σ g k).1 < sLen5 σ (sNx σ g k) then (sLen5 σ (sNx σ g k), 256 * sNx σ g k + sLp σ (sNx σ g k)) else bst σ g k).1 ≤ 256
    split
    · exact sLen5_le hσ (sNx_lt hσ g k)
    · exact ih
theorem bst_best {σ : gS} (hσ : sB σ) {g : Nat} (hg : g < sCnt σ) : ∀ k, (bst σ g (k + 1)).1 = (sBest σ g k).2 ∧ (0 < (sBest σ g k).2 → (bst σ g (k + 1)).2 = 256 * (sBest σ g k).1 + sLp σ (sBest σ g k).1) := by
  intro k
  induction k with
  | zero =>
    have e : bst σ g 1 = if 0 < sLen5 σ (sNx σ g 0) then (sLen5 σ (sNx σ g 0), 256 * sNx σ g 0 + sLp σ (sNx σ g 0)) else (0, 0) := rfl
    rw [e, sNx_0 hg]
    by_cases h : 0 < sLen5 σ g
    · rw [if_pos h]; exact ⟨rfl, fun _ => rfl⟩
    · rw [if_neg h]; exact ⟨show 0 = sLen5 σ g by omega, fun q => absurd q h⟩
  | succ k ih =>
    have e : bst σ g (k + 1 + 1) = if (bst σ g (k + 1)).1 < sLen5 σ (sNx σ g (k + 1)) then (sLen5 σ (sNx σ g (k + 1)), 256 * sNx σ g (k + 1) + sLp σ (sNx σ g (k + 1))) else bst σ g (k + 1) := rfl
    have e2 : sBest σ g (k + 1) = if (sBest σ g k).2 < sLen5 σ (sNx σ g (k + 1)) then (sNx σ g (k + 1), sLen5 σ (sNx σ g (k + 1))) else sBest σ g k := rfl
    rw [e, e2, ih.1]
    by_cases h : (sBest σ g k).2 < sLen5 σ (sNx σ g (k + 1))
    · rw [if_pos h, if_pos h]; exact ⟨rfl, fun _ => rfl⟩
    · rw [if_neg h, if_neg h]; exact ⟨ih.1, ih.2⟩
theorem may_neg {a b : Nat} (ha : a < 2 ^ 30) (hb : b < 2 ^ 30) (h : a ≤ b) : ¬ nI 1 ≤ nI a - nI b := by
  intro q
  have h1 := Int32.le_iff_toInt_le.mp q
  rw [pk_sub_toInt ha hb, nI_toInt (by omega)] at h1
  omega
