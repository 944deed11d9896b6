/-! ===== what the methods of a bitmap answer and do, in numbers ===== -/
def sSet (σ : gS) (j k : Nat) : Bool := decide (gLen j ≤ k) || sBt σ j k
theorem sSet_ge {σ : gS} {j k : Nat} (h : gLen j ≤ k) : sSet σ j k = true := by simp [sSet, h]
theorem sSet_lt {σ : gS} {j k : Nat} (h : k < gLen j) : sSet σ j k = sBt σ j k := by simp [sSet, Nat.not_le.mpr h]
theorem va_up_id {α : Type} (f : Nat → α) (j : Nat) : va_up f j (f j) = f := by
  funext i; unfold va_up; split
  · rename_i h; rw [h]
  · rfl
theorem uBt_uBt (σ : gS) (j : Nat) (f g : Nat → Bool) : uBt (uBt σ j f) j g = uBt σ j g := by
  show (_, _, _, _, _, _, _, _, va_up (va_up (sBt σ) j f) j g) = _
  rw [bx_uu]; rfl
theorem uBt_id (σ : gS) (j : Nat) : uBt σ j (sBt σ j) = σ := by
  show (_, _, _, _, _, _, _, _, va_up (sBt σ) j (sBt σ j)) = _
  rw [va_up_id]; rfl
theorem va_up_at {α : Type} (f : Nat → α) (j : Nat) (v : α) : va_up f j v j = v := by simp [va_up]
theorem sBt_uBt (σ : gS) (j : Nat) (f : Nat → Bool) : sBt (uBt σ j f) j = f := va_up_at _ _ _
/-- one bit -/
def setb (B : Nat → Bool) (k : Nat) (v : Bool) : Nat → Bool := fun i => if i = k then v else B i
def sOcc (σ : gS) (j k : Nat) : gS := if sSet σ j k = true then σ else uTd (uFr (uBt σ j (setb (sBt σ j) k true)) j (sFr σ j - 1)) j true
theorem sOcc_t {σ : gS} {j k : Nat} (h : sSet σ j k = true) : sOcc σ j k = σ := if_pos h
theorem sOcc_f {σ : gS} {j k : Nat} (h : sSet σ j k = false) : sOcc σ j k = uTd (uFr (uBt σ j (setb (sBt σ j) k true)) j (sFr σ j - 1)) j true := if_neg (by rw [h]; decide)
def sFre (σ : gS) (j k : Nat) : gS := if k < sSz σ j ∧ sBt σ j k = true then uTd (uFr (uBt σ j (setb (sBt σ j) k false)) j (sFr σ j + 1)) j true else σ
theorem sFre_t {σ : gS} {j k : Nat} (h : k < sSz σ j) (h2 : sBt σ j k = true) : sFre σ j k = uTd (uFr (uBt σ j (setb (sBt σ j) k false)) j (sFr σ j + 1)) j true := if_pos ⟨h, h2⟩
theorem sFre_f1 {σ : gS} {j k : Nat} (h : sSz σ j ≤ k) : sFre σ j k = σ := if_neg (fun q => absurd q.1 (Nat.not_lt.mpr h))
theorem sFre_f2 {σ : gS} {j k : Nat} (h : sBt σ j k = false) : sFre σ j k = σ := if_neg (fun q => by rw [h] at q; exact absurd q.2 (by decide))
def lyv (f a k : Nat) : Bool := decide (k < f) || decide (a ≤ k)
def lyf (B : Nat → Bool) (f a n : Nat) : Nat → Bool := fun i => if i < n then lyv f a i else B i
theorem lyf_0 (B : Nat → Bool) (f a : Nat) : lyf B f a 0 = B := by funext i; simp [lyf]
theorem lyf_succ (B : Nat → Bool) (f a n : Nat) {v : Bool} (hv : v = lyv f a n) : (fun i => if i = n then v else lyf B f a n i) = lyf B f a (n + 1) := by
  funext i
  unfold lyf
  by_cases h : i = n
  · subst h; rw [if_pos rfl, if_pos (Nat.lt_succ_self _)]; exact hv
  · rw [if_neg h]
    by_cases h2 : i < n
    · rw [if_pos h2, if_pos (by omega)]
    · rw [if_neg h2, if_neg (by omega)]
def sLay (σ : gS) (j a f : Nat) : gS := uTd (uFr (uSz (uBt σ j (lyf (sBt σ j) f a (gLen j))) j a) j (a - f)) j true
def sBy (σ : gS) (j i : Nat) : Nat → Nat
  | 0 => 0
  | k + 1 => sBy σ j i k + if sSet σ j (8 * i + k) = true then 2 ^ k else 0
/-- the first number below n that is free -/
def sLf (σ : gS) (j : Nat) : Nat → Option Nat
  | 0 => none
  | k + 1 => match sLf σ j k with
    | some q => some q
    | none => if sSet σ j k = true then none else some k
def oI (o : Option Nat) : Int32 := match o with
  | none => -1
  | some k => nI k
/-- are the n from a on free -/
def sAf (σ : gS) (j a : Nat) : Nat → Bool
  | 0 => true
  | k + 1 => sAf σ j a k && !sSet σ j (a + k)
/-- the run that ends here, one further -/
def sLen (c : Bool) (q : Nat) : Nat := if c = true then 0 else q + 1
theorem sLen_t (q : Nat) : sLen true q = 0 := rfl
theorem sLen_f (q : Nat) : sLen false q = q + 1 := rfl
theorem sLen_le (c : Bool) (q : Nat) : sLen c q ≤ q + 1 := by cases c <;> simp [sLen]
/-- the longest run below k, and that which ends at k -/
def sLr (σ : gS) (j : Nat) : Nat → Nat × Nat
  | 0 => (0, 0)
  | k + 1 => (Nat.max (sLr σ j k).1 (sLen (sSet σ j k) (sLr σ j k).2), sLen (sSet σ j k) (sLr σ j k).2)
def sSrN (n k : Nat) (q : Option Nat × Nat × Nat) (len : Nat) (e : Bool) : Option Nat × Nat × Nat :=
  if n ≤ len ∧ len < q.2.1 ∧ e = true then (some (k + 1 - len), len, len) else (q.1, q.2.1, len)
/-- where the first of the shortest runs of n or more begins, that length, and that of the run which ends at k -/
def sSr (σ : gS) (j n : Nat) : Nat → Option Nat × Nat × Nat
  | 0 => (none, sSz σ j + 1, 0)
  | k + 1 => sSrN n k (sSr σ j n k) (sLen (sSet σ j k) (sSr σ j n k).2.2) (sSet σ j (k + 1))
theorem sLr_le (σ : gS) (j k : Nat) : (sLr σ j k).1 ≤ k ∧ (sLr σ j k).2 ≤ k := by
  induction k with
  | zero => exact ⟨Nat.le_refl _, Nat.le_refl _⟩
  | succ k ih =>
    have h1 := ih.1
    have h2 := ih.2
    have h3 := sLen_le (sSet σ j k) (sLr σ j k).2
    constructor
    · show Nat.max (sLr σ j k).1 (sLen (sSet σ j k) (sLr σ j k).2) ≤ k + 1
      exact Nat.max_le.mpr ⟨by omega, by omega⟩
    · show sLen (sSet σ j k) (sLr σ j k).2 ≤ k + 1
      omega
theorem sSr_le (σ : gS) (j n k : Nat) : (sSr σ j n k).2.1 ≤ sSz σ j + 1 + k ∧ (sSr σ j n k).2.2 ≤ k := by
  induction k with
  | zero => exact ⟨Nat.le_refl _, Nat.le_refl _⟩
  | succ k ih =>
    have h1 := ih.1
    have h2 := ih.2
    have h3 := sLen_le (sSet σ j k) (sSr σ j n k).2.2
    show (sSrN n k (sSr σ j n k) (sLen (sSet σ j k) (sSr σ j n k).2.2) (sSet σ j (k + 1))).2.1 ≤ _ ∧ (sSrN n k (sSr σ j n k) (sLen (sSet σ j k) (sSr σ j n k).2.2) (sSet σ j (k + 1))).2.2 ≤ _
    unfold sSrN
    split
    · exact ⟨by show sLen _ _ ≤ _; omega, by show sLen _ _ ≤ _; omega⟩
    · exact ⟨by show (sSr σ j n k).2.1 ≤ _; omega, by show sLen _ _ ≤ _; omega⟩
theorem lay_step {ad : Nat → Nat} {cG cZ : ClassId} {σ : gS} {j f a k : Nat} {v : Bool} (hj : j < 8) (hv : v = lyv f a k) : (wd ad cG cZ (uBt σ j (lyf (sBt σ j) f a k))).set (14 + j) (ad (14 + j), .inl (cZ, gLen j, .inl (fun i => bI (if i = k then v else sBt (uBt σ j (lyf (sBt σ j) f a k)) j i)))) = wd ad cG cZ (uBt σ j (lyf (sBt σ j) f a (k + 1))) := by
  rw [sBt_uBt, wd_uBt (f := fun i => if i = k then v else lyf (sBt σ j) f a k i) hj, uBt_uBt, lyf_succ _ _ _ _ hv]
