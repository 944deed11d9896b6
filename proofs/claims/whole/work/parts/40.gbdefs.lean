/-! ===== what the private methods of the class answer and do ===== -/
def sHasB (σ : gS) (x : Int32) : Bool := decide (0 ≤ x.toInt) && decide (x.toInt < (sAll σ : Int))
theorem sHasB_neg {σ : gS} {x : Int32} (h : x < 0) : sHasB σ x = false := by
  have h1 : x.toInt < 0 := Int32.lt_iff_toInt_lt.mp h
  have h2 : ¬ 0 ≤ x.toInt := by omega
  simp [sHasB, h2]
theorem sHasB_ge {σ : gS} {x : Int32} (hσ : sB σ) (h : nI (sAll σ) ≤ x) : sHasB σ x = false := by
  have h1 := Int32.le_iff_toInt_le.mp h
  have h3 := sAll_le hσ
  rw [nI_toInt (by omega)] at h1
  have h2 : ¬ x.toInt < (sAll σ : Int) := by omega
  simp [sHasB, h2]
theorem sHasB_t {σ : gS} {x : Int32} (hσ : sB σ) (h : ¬ x < 0) (h2 : ¬ nI (sAll σ) ≤ x) : sHasB σ x = true := by
  have h1 : ¬ x.toInt < 0 := fun q => h (Int32.lt_iff_toInt_lt.mpr q)
  have h3 := sAll_le hσ
  have h4 : ¬ (sAll σ : Int) ≤ x.toInt := fun q => h2 (Int32.le_iff_toInt_le.mpr (by rw [nI_toInt (by omega)]; exact q))
  have h5 : 0 ≤ x.toInt := by omega
  have h6 : x.toInt < (sAll σ : Int) := by omega
  simp [sHasB, h5, h6]
def sHasF (σ : gS) (x : Int32) : Bool := decide (1 ≤ x.toInt) && decide (x.toInt ≤ (sCnt σ * 128 : Nat))
theorem sHasF_lo {σ : gS} {x : Int32} (h : x < nI 1) : sHasF σ x = false := by
  have h1 := Int32.lt_iff_toInt_lt.mp h
  rw [nI_toInt (by omega)] at h1
  have h2 : ¬ 1 ≤ x.toInt := by omega
  simp [sHasF, h2]
theorem sHasF_hi {σ : gS} {x : Int32} (hσ : sB σ) (h : nI (sCnt σ * 128) < x) : sHasF σ x = false := by
  have h1 := Int32.lt_iff_toInt_lt.mp h
  have h3 := hσ.2.1
  rw [nI_toInt (by omega)] at h1
  have h2 : ¬ x.toInt ≤ (sCnt σ * 128 : Nat) := by omega
  unfold sHasF
  rw [decide_eq_false h2, Bool.and_false]
theorem sHasF_t {σ : gS} {x : Int32} (hσ : sB σ) (h : ¬ x < nI 1) (h2 : ¬ nI (sCnt σ * 128) < x) : sHasF σ x = true := by
  have h3 := hσ.2.1
  have h1 : ¬ x.toInt < 1 := fun q => h (Int32.lt_iff_toInt_lt.mpr (by rw [nI_toInt (by omega)]; exact q))
  have h4 : ¬ ((sCnt σ * 128 : Nat) : Int) < x.toInt := fun q => h2 (Int32.lt_iff_toInt_lt.mpr (by rw [nI_toInt (by omega)]; exact q))
  have h5 : 1 ≤ x.toInt := by omega
  have h6 : x.toInt ≤ (sCnt σ * 128 : Nat) := by omega
  unfold sHasF
  rw [decide_eq_true h5, decide_eq_true h6]
  rfl
/-- q numbers of bitmap j taken, from a on -/
def sOccs (σ : gS) (j a : Nat) : Nat → gS
  | 0 => σ
  | t + 1 => sOcc (sOccs σ j a t) j (a + t)
def sRun (σ : gS) (g a q : Nat) : gS := uTT (uLat (sOccs σ (2 * g) a q) q) true
/-- what makes taking them safe: where one is free, it is counted -/
def sSafe (σ : gS) (j a q : Nat) : Prop := ∀ t, t < q → sSet (sOccs σ j a t) j (a + t) = false → 0 < sFr (sOccs σ j a t) j
def sLen5 (σ : gS) (g : Nat) : Nat := (sLr σ (2 * g) (sSz σ (2 * g))).1
def sNx (σ : gS) (g k : Nat) : Nat := (g + k) % sCnt σ
theorem sNx_lt {σ : gS} (hσ : sB σ) (g k : Nat) : sNx σ g k < 4 := Nat.lt_of_lt_of_le (Nat.mod_lt _ hσ.1) hσ.2.1
def sBestN (q : Nat × Nat) (nx len : Nat) : Nat × Nat := if q.2 < len then (nx, len) else q
def sBest (σ : gS) (g : Nat) : Nat → Nat × Nat
  | 0 => (g, sLen5 σ g)
  | k + 1 => sBestN (sBest σ g k) (sNx σ g (k + 1)) (sLen5 σ (sNx σ g (k + 1)))
theorem sLen5_le {σ : gS} (hσ : sB σ) {g : Nat} (hg : g < 4) : sLen5 σ g ≤ 256 := by
  have h1 := (sLr_le σ (2 * g) (sSz σ (2 * g))).1
  have h2 := (hσ.2.2.2.1 (2 * g) (by omega)).1
  have h3 := gLen_le (2 * g)
  unfold sLen5
  omega
theorem sBest_le {σ : gS} (hσ : sB σ) {g : Nat} (hg : g < 4) (k : Nat) : (sBest σ g k).1 < 4 ∧ (sBest σ g k).2 ≤ 256 := by
  induction k with
  | zero => exact ⟨hg, sLen5_le hσ hg⟩
  | succ k ih =>
    have h1 := sNx_lt hσ g (k + 1)
    have h2 := sLen5_le hσ h1
    show (sBestN _ _ _).1 < 4 ∧ (sBestN _ _ _).2 ≤ 256
    unfold sBestN
    split
    · exact ⟨h1, h2⟩
    · exact ih
/-- the first group, from g on, with a run of q or more, and where that begins -/
def sFind (σ : gS) (g q : Nat) : Nat → Option (Nat × Nat)
  | 0 => none
  | k + 1 => match sFind σ g q k with
    | some z => some z
    | none => match (sSr σ (2 * sNx σ g k) q (sSz σ (2 * sNx σ g k))).1 with
      | some a => some (sNx σ g k, a)
      | none => none
theorem sFind_some {σ : gS} {g q k n a : Nat} (h : sFind σ g q k = none) (hs : (sSr σ (2 * sNx σ g k) q (sSz σ (2 * sNx σ g k))).1 = some a) (hk : k < n) : sFind σ g q n = some (sNx σ g k, a) := by
  obtain ⟨t, rfl⟩ : ∃ t, n = k + 1 + t := ⟨n - (k + 1), by omega⟩
  clear hk
  induction t with
  | zero => simp [sFind, h, hs]
  | succ t ih =>
    show (match sFind σ g q (k + 1 + t) with | some z => some z | none => _) = _
    rw [ih]
theorem sFind_step {σ : gS} {g q k : Nat} (h : sFind σ g q k = none) (hs : (sSr σ (2 * sNx σ g k) q (sSz σ (2 * sNx σ g k))).1 = none) : sFind σ g q (k + 1) = none := by
  simp [sFind, h, hs]
/-- the group, the first number and how many: what take() takes near to the goal -/
def sPick (σ : gS) (goal q : Nat) : Nat × Nat × Nat :=
  if sAf σ (2 * (goal / 256)) (goal % 256) q = true then (goal / 256, goal % 256, q)
  else match sFind σ (goal / 256) q (sCnt σ) with
    | some z => (z.1, z.2, q)
    | none =>
      let bb := sBest σ (goal / 256) (sCnt σ - 1)
      (bb.1, ((sSr σ (2 * bb.1) bb.2 (sSz σ (2 * bb.1))).1).getD 0, bb.2)
/-- fixed, or free: may not be given -/
def sGv1 (σ : gS) (q : Nat) : Bool := decide (gHd (q / 256) + 10 ≤ q % 256) && sSet σ (2 * (q / 256)) (q % 256)
def sGv (σ : gS) (a : Nat) : Nat → Bool
  | 0 => true
  | k + 1 => sGv σ a k && sGv1 σ (a + k)
theorem sGv_false {σ : gS} {a t n : Nat} (hs : sGv1 σ (a + t) = false) (hk : t < n) : sGv σ a n = false := by
  obtain ⟨u, rfl⟩ : ∃ u, n = t + 1 + u := ⟨n - (t + 1), by omega⟩
  clear hk
  induction u with
  | zero => simp [sGv, hs]
  | succ u ih =>
    show (sGv σ a (t + 1 + u) && _) = false
    rw [ih]; rfl
theorem sGv_step {σ : gS} {a t : Nat} (h : sGv σ a t = true) (hs : sGv1 σ (a + t) = true) : sGv σ a (t + 1) = true := by simp [sGv, h, hs]
/-- the first group, from g on, with a property -/
def sFst (σ : gS) (g : Nat) (P : Nat → Bool) : Nat → Option Nat
  | 0 => none
  | k + 1 => match sFst σ g P k with
    | some z => some z
    | none => if P (sNx σ g k) = true then some (sNx σ g k) else none
theorem sFst_some {σ : gS} {g k n : Nat} {P : Nat → Bool} (h : sFst σ g P k = none) (hs : P (sNx σ g k) = true) (hk : k < n) : sFst σ g P n = some (sNx σ g k) := by
  obtain ⟨t, rfl⟩ : ∃ t, n = k + 1 + t := ⟨n - (k + 1), by omega⟩
  clear hk
  induction t with
  | zero => simp [sFst, h, hs]
  | succ t ih =>
    show (match sFst σ g P (k + 1 + t) with | some z => some z | none => _) = _
    rw [ih]
theorem sFst_step {σ : gS} {g k : Nat} {P : Nat → Bool} (h : sFst σ g P k = none) (hs : P (sNx σ g k) = false) : sFst σ g P (k + 1) = none := by simp [sFst, h, hs]
theorem sFst_lt {σ : gS} (hσ : sB σ) {g : Nat} {P : Nat → Bool} {n z : Nat} (h : sFst σ g P n = some z) : z < 4 := by
  induction n with
  | zero => cases h
  | succ n ih =>
    unfold sFst at h
    cases hq : sFst σ g P n with
    | some y => rw [hq] at h; cases h; exact ih hq
    | none =>
      rw [hq] at h
      dsimp only at h
      split at h
      · cases h; exact sNx_lt hσ g n
      · cases h
def gR (ad : Nat → Nat) (o : Option Nat) : Value := match o with
  | none => .null
  | some g => .ref (ad (2 + g))
def pFile (σ : gS) (g : Nat) : Bool := decide (1 ≤ sFr σ (2 * g + 1))
def pRoom (σ : gS) (g : Nat) : Bool := decide (sFF σ (sCnt σ) / sCnt σ / 2 ≤ sFr σ (2 * g + 1)) && sHas σ g
def pLeast (σ : gS) (g : Nat) : Bool := decide (Nat.max 1 (sFF σ (sCnt σ) / sCnt σ) ≤ sFr σ (2 * g + 1)) && decide (sFB σ (sCnt σ) / sCnt σ ≤ sFr σ (2 * g))
/-- of those that fit the one with the fewest folders, the first of several -/
def sLeastN (σ : gS) (o : Option Nat) (x : Nat) : Option Nat := if pLeast σ x = true then (match o with | none => some x | some y => if sFd σ x < sFd σ y then some x else some y) else o
def sLeast (σ : gS) (g : Nat) : Nat → Option Nat
  | 0 => none
  | k + 1 => sLeastN σ (sLeast σ g k) (sNx σ g k)
theorem sLeast_lt {σ : gS} (hσ : sB σ) {g : Nat} {n z : Nat} (h : sLeast σ g n = some z) : z < 4 := by
  induction n generalizing z with
  | zero => cases h
  | succ n ih =>
    have h1 := sNx_lt hσ g n
    have h : sLeastN σ (sLeast σ g n) (sNx σ g n) = some z := h
    unfold sLeastN at h
    split at h
    · cases hq : sLeast σ g n with
      | none => rw [hq] at h; cases h; exact h1
      | some y =>
        rw [hq] at h
        dsimp only at h
        split at h
        · cases h; exact h1
        · cases h; exact ih hq
    · exact ih h
def sFolder (σ : gS) (f : Nat) : Option Nat :=
  match (if f = 2 then sLeast σ ((f - 1) / 128) (sCnt σ) else none) with
  | some z => some z
  | none => match sFst σ ((f - 1) / 128) (pRoom σ) (sCnt σ) with
    | some z => some z
    | none => sFst σ ((f - 1) / 128) (pFile σ) (sCnt σ)
def sStl (σ : gS) : Nat → gS
  | 0 => uTT σ false
  | g + 1 => uTd (uTd (sStl σ g) (2 * g) false) (2 * g + 1) false
def b1 (b : Bool) : Nat := if b = true then 1 else 0
def sSc (σ : gS) : Nat → Nat
  | 0 => b1 (sTT σ)
  | g + 1 => sSc σ g + b1 (sTd (sStl σ g) (2 * g)) + b1 (sTd (uTd (sStl σ g) (2 * g) false) (2 * g + 1))
theorem b1_le (b : Bool) : b1 b ≤ 1 := by cases b <;> decide
theorem sSc_le (σ : gS) (g : Nat) : sSc σ g ≤ 2 * g + 1 := by
  induction g with
  | zero => exact b1_le _
  | succ g ih =>
    have h1 := b1_le (sTd (sStl σ g) (2 * g))
    have h2 := b1_le (sTd (uTd (sStl σ g) (2 * g) false) (2 * g + 1))
    show sSc σ g + b1 _ + b1 _ ≤ _
    omega
def sTb (σ : gS) (t : Nat) : Nat := if t / 32 < sCnt σ then gTb σ (t / 32) (t % 32) else 0
