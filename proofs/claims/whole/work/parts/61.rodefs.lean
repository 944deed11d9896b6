/-! ===== answers of reads, in the class's words ===== -/
theorem RI.th {σ : gS} {τ : mS} (h : RI σ τ) (v : Nat) : RI σ (vTh τ v) := h
theorem RI.ra {σ : gS} {τ : mS} (h : RI σ τ) (v : Nat) : RI σ (vRa τ v) := h
theorem RI.rz {σ : gS} {τ : mS} (h : RI σ τ) (v : Nat) : RI σ (vRz τ v) := h
theorem RI.fr0 {σ : gS} {τ : mS} (h : RI σ τ) (g k : Nat) : RI σ (mFr0 τ g k) := (h.ra _).rz _
theorem RI.frq {σ : gS} {τ : mS} (h : RI σ τ) (g q k : Nat) : RI σ (mFrq τ g q k) := (h.ra _).rz _
def pst (i : Nat) : Nat := if i = 0 then 0 else if i = 1 then 1 else if i = 2 then 3 else 7
def sPl (σ : gS) (p : Nat) : Nat → Option Nat
  | 0 => none
  | i + 1 => match sPl σ p i with
    | some z => some z
    | none => if sHas σ (sNx σ p (pst i)) = true then some (sNx σ p (pst i)) else none
def sPlain (σ : gS) (p : Nat) : Option Nat := match sPl σ p 4 with
  | some z => some z
  | none => sFst σ p (pFile σ) (sCnt σ)
theorem sPl_some {σ : gS} {p k n : Nat} (h : sPl σ p k = none) (hs : sHas σ (sNx σ p (pst k)) = true) (hk : k < n) : sPl σ p n = some (sNx σ p (pst k)) := by
  obtain ⟨t, rfl⟩ : ∃ t, n = k + 1 + t := ⟨n - (k + 1), by omega⟩
  clear hk
  induction t with
  | zero => simp [sPl, h, hs]
  | succ t ih =>
    show (match sPl σ p (k + 1 + t) with | some z => some z | none => _) = _
    rw [ih]
theorem sPl_step {σ : gS} {p k : Nat} (h : sPl σ p k = none) (hs : sHas σ (sNx σ p (pst k)) = false) : sPl σ p (k + 1) = none := by simp [sPl, h, hs]
theorem sNx_0 {σ : gS} {p : Nat} (h : p < sCnt σ) : sNx σ p 0 = p := Nat.mod_eq_of_lt h
def sFolG (σ : gS) (p : Nat) (sp : Bool) : Option Nat :=
  match (if sp = true then sLeast σ p (sCnt σ) else none) with
  | some z => some z
  | none => match sFst σ p (pRoom σ) (sCnt σ) with
    | some z => some z
    | none => sFst σ p (pFile σ) (sCnt σ)
theorem sFolder_eq (σ : gS) (f : Nat) : sFolder σ f = sFolG σ ((f - 1) / 128) (decide (f = 2)) := by
  unfold sFolder sFolG
  by_cases h : f = 2
  · rw [if_pos h, if_pos (by simp [h])] <;> rfl
  · rw [if_neg h, if_neg (by simp [h])] <;> rfl
theorem pLeast_3 {σ : gS} {x : Nat} (h1 : sFF σ (sCnt σ) / sCnt σ ≤ sFr σ (2 * x + 1)) (h2 : sFB σ (sCnt σ) / sCnt σ ≤ sFr σ (2 * x)) (h3 : 0 < sFr σ (2 * x + 1)) : pLeast σ x = true := by
  unfold pLeast
  rw [decide_eq_true (Nat.max_le.mpr ⟨h3, h1⟩), decide_eq_true h2]
  rfl
theorem pLeast_1 {σ : gS} {x : Nat} (h1 : sFr σ (2 * x + 1) < sFF σ (sCnt σ) / sCnt σ) : pLeast σ x = false := by
  unfold pLeast
  rw [decide_eq_false (fun h => absurd (Nat.max_le.mp h).2 (Nat.not_le.mpr h1)), Bool.false_and]
theorem pLeast_2 {σ : gS} {x : Nat} (h2 : sFr σ (2 * x) < sFB σ (sCnt σ) / sCnt σ) : pLeast σ x = false := by
  unfold pLeast
  rw [decide_eq_false (Nat.not_le.mpr h2), Bool.and_false]
theorem pLeast_0 {σ : gS} {x : Nat} (h3 : sFr σ (2 * x + 1) = 0) : pLeast σ x = false := by
  unfold pLeast
  rw [decide_eq_false (fun h => absurd (Nat.max_le.mp h).1 (by omega)), Bool.false_and]
theorem pRoom_1 {σ : gS} {x : Nat} (h1 : sFr σ (2 * x + 1) < sFF σ (sCnt σ) / sCnt σ / 2) : pRoom σ x = false := by
  unfold pRoom
  rw [decide_eq_false (Nat.not_le.mpr h1), Bool.false_and]
theorem pRoom_2 {σ : gS} {x : Nat} (h1 : sFr σ (2 * x + 1) = 0) : pRoom σ x = false := by
  unfold pRoom
  rw [sHas_1 (by omega), Bool.and_false]
theorem pRoom_3 {σ : gS} {x : Nat} (h1 : sFr σ (2 * x) = 0) : pRoom σ x = false := by
  unfold pRoom
  rw [sHas_2 (by omega), Bool.and_false]
theorem pRoom_4 {σ : gS} {x : Nat} (h1 : sFF σ (sCnt σ) / sCnt σ / 2 ≤ sFr σ (2 * x + 1)) (h2 : 0 < sFr σ (2 * x + 1)) (h3 : 0 < sFr σ (2 * x)) : pRoom σ x = true := by
  unfold pRoom
  rw [sHas_3 h2 h3, decide_eq_true h1]
  rfl
theorem shl1 : ∀ k, k < 8 → nI 1 <<< (nI k &&& 31) = nI (2 ^ k) := by decide +kernel
def sByteOf (σ : gS) (q i : Nat) : Nat := if q = 1 then sTb σ i else if q = gPl (2 * (q / 256)) then sBy σ (2 * (q / 256)) i 8 else if q = gPl (2 * (q / 256) + 1) then sBy σ (2 * (q / 256) + 1) i 8 else 0
theorem gPl_e (g : Nat) : gPl (2 * g) = 256 * g + gHd g := by unfold gPl; rw [show 2 * g / 2 = g by omega, show 2 * g % 2 = 0 by omega]; rfl
theorem gPl_o (g : Nat) : gPl (2 * g + 1) = 256 * g + gHd g + 1 := by unfold gPl; rw [show (2 * g + 1) / 2 = g by omega, show (2 * g + 1) % 2 = 1 by omega]
theorem sBy_t {σ : gS} {j i k : Nat} (h : sSet σ j (8 * i + k) = true) : sBy σ j i (k + 1) = sBy σ j i k + 2 ^ k := by simp [sBy, h]
theorem sBy_f {σ : gS} {j i k : Nat} (h : sSet σ j (8 * i + k) = false) : sBy σ j i (k + 1) = sBy σ j i k := by simp [sBy, h]
theorem sBy8_lt {σ : gS} {j i k : Nat} (hk : k ≤ 8) : sBy σ j i k < 256 := Nat.lt_of_lt_of_le (sBy_lt σ j i k) (Nat.pow_le_pow_right (by omega) hk)
theorem p2_8 : ∀ k, k < 8 → 2 ^ k ≤ 128 := by decide
theorem RI.ss {σ : gS} {τ : mS} (h : RI σ τ) {g k : Nat} (hg : g < 4) (hk : k < sSz σ (2 * g)) : sSet σ (2 * g) k = mBk τ (256 * g + k) := by
  rw [← h.mb hg, mB_lt (by rw [h.sz hg]; exact hk)]
theorem RI.ssg {σ : gS} {τ : mS} (h : RI σ τ) {g k : Nat} (hg : g < 4) (hk : sSz σ (2 * g) ≤ k) : sSet σ (2 * g) k = true := by
  rw [← h.mb hg, mB_ge (by rw [h.sz hg]; exact hk)]
theorem RI.sf {σ : gS} {τ : mS} (h : RI σ τ) {g k : Nat} (hg : g < 4) (hk : k < 128) : sSet σ (2 * g + 1) k = mFl τ (128 * g + k) := by
  rw [sSet_lt (by rw [gLen_odd]; exact hk), h.fl hg hk]
theorem RI.sfg {σ : gS} {k g : Nat} (hk : 128 ≤ k) : sSet σ (2 * g + 1) k = true := sSet_ge (by rw [gLen_odd]; exact hk)
theorem sl_lt {σ : gS} (hσ : sB σ) {sp : Bool} {p n z : Nat} (h : (if sp = true then sLeast σ p n else none) = some z) : z < 4 := by
  cases sp with
  | true => exact sLeast_lt hσ h
  | false => cases h
