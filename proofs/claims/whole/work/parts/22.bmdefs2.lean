theorem byo : ∀ k, k < 8 → ∀ a, a < 2 ^ k → nI a ||| (nI 1 <<< (nI k &&& 31)) = nI (a + 2 ^ k) := by decide +kernel
theorem sBy_lt (σ : gS) (j i k : Nat) : sBy σ j i k < 2 ^ k := by
  induction k with
  | zero => exact Nat.one_pos
  | succ k ih =>
    have h2 : (2 : Nat) ^ (k + 1) = 2 ^ k + 2 ^ k := by rw [Nat.pow_succ]; omega
    generalize hq : (2 : Nat) ^ k = q at h2 ih
    cases hc : sSet σ j (8 * i + k) with
    | true =>
      have e1 : sBy σ j i (k + 1) = sBy σ j i k + 2 ^ k := by simp [sBy, hc]
      rw [e1, h2, hq]
      omega
    | false =>
      have e1 : sBy σ j i (k + 1) = sBy σ j i k := by simp [sBy, hc]
      rw [e1, h2]
      omega
theorem sLf_some {σ : gS} {j k n : Nat} (h : sLf σ j k = none) (hs : sSet σ j k = false) (hk : k < n) : sLf σ j n = some k := by
  obtain ⟨t, rfl⟩ : ∃ t, n = k + 1 + t := ⟨n - (k + 1), by omega⟩
  clear hk
  induction t with
  | zero => simp [sLf, h, hs]
  | succ t ih =>
    show (match sLf σ j (k + 1 + t) with | some q => some q | none => _) = _
    rw [ih]
theorem sLf_step {σ : gS} {j k : Nat} (h : sLf σ j k = none) (hs : sSet σ j k = true) : sLf σ j (k + 1) = none := by
  simp [sLf, h, hs]
theorem sAf_false {σ : gS} {j a t n : Nat} (hs : sSet σ j (a + t) = true) (hk : t < n) : sAf σ j a n = false := by
  obtain ⟨u, rfl⟩ : ∃ u, n = t + 1 + u := ⟨n - (t + 1), by omega⟩
  clear hk
  induction u with
  | zero => simp [sAf, hs]
  | succ u ih =>
    show (sAf σ j a (t + 1 + u) && _) = false
    rw [ih]; rfl
theorem sAf_step {σ : gS} {j a t : Nat} (h : sAf σ j a t = true) (hs : sSet σ j (a + t) = false) : sAf σ j a (t + 1) = true := by
  simp [sAf, h, hs]
theorem sLr_t {σ : gS} {j k : Nat} (h : sSet σ j k = true) : sLr σ j (k + 1) = (Nat.max (sLr σ j k).1 0, 0) := by simp [sLr, h, sLen]
theorem sLr_f {σ : gS} {j k : Nat} (h : sSet σ j k = false) : sLr σ j (k + 1) = (Nat.max (sLr σ j k).1 ((sLr σ j k).2 + 1), (sLr σ j k).2 + 1) := by simp [sLr, h, sLen]
theorem sSr_s {σ : gS} {j n k len : Nat} (hl : sLen (sSet σ j k) (sSr σ j n k).2.2 = len) : sSr σ j n (k + 1) = sSrN n k (sSr σ j n k) len (sSet σ j (k + 1)) := by rw [← hl]; rfl
theorem sSrN_1 {n k len : Nat} {q : Option Nat × Nat × Nat} {e : Bool} (h : len < n) : sSrN n k q len e = (q.1, q.2.1, len) := if_neg (fun z => absurd z.1 (Nat.not_le.mpr h))
theorem sSrN_2 {n k len : Nat} {q : Option Nat × Nat × Nat} {e : Bool} (h : q.2.1 ≤ len) : sSrN n k q len e = (q.1, q.2.1, len) := if_neg (fun z => absurd z.2.1 (Nat.not_lt.mpr h))
theorem sSrN_3 {n k len : Nat} {q : Option Nat × Nat × Nat} {e : Bool} (h : e = false) : sSrN n k q len e = (q.1, q.2.1, len) := if_neg (fun z => by rw [h] at z; exact absurd z.2.2 (by decide))
theorem sSrN_4 {n k len : Nat} {q : Option Nat × Nat × Nat} {e : Bool} (h1 : n ≤ len) (h2 : len < q.2.1) (h : e = true) : sSrN n k q len e = (some (k + 1 - len), len, len) := if_pos ⟨h1, h2, h⟩
