/-! ===== bounds that the walks need; what the methods of a group do ===== -/
def sB (σ : gS) : Prop := 1 ≤ sCnt σ ∧ sCnt σ ≤ 4 ∧ sRsv σ ≤ 100 ∧ (∀ j, j < 8 → sSz σ j ≤ gLen j ∧ sFr σ j ≤ 256) ∧ (∀ g, g < 4 → sFd σ g < 65536)
def gFf (g : Nat) : Nat := if g = 0 then 10 else 0
def sGLay (σ : gS) (g a : Nat) : gS := uFd (sLay (sLay σ (2 * g) a (gHd g + 10)) (2 * g + 1) 128 (gFf g)) g 0
def bmR (ad : Nat → Nat) (g q : Nat) : Value := if q = gPl (2 * g) then .ref (ad (6 + (2 * g))) else if q = gPl (2 * g + 1) then .ref (ad (6 + (2 * g + 1))) else .null
def sHas (σ : gS) (g : Nat) : Bool := decide (1 ≤ sFr σ (2 * g + 1)) && decide (1 ≤ sFr σ (2 * g))
theorem sHas_1 {σ : gS} {g : Nat} (h : sFr σ (2 * g + 1) < 1) : sHas σ g = false := by simp [sHas, Nat.not_le.mpr h]
theorem sHas_2 {σ : gS} {g : Nat} (h : sFr σ (2 * g) < 1) : sHas σ g = false := by simp [sHas, Nat.not_le.mpr h]
theorem sHas_3 {σ : gS} {g : Nat} (h1 : 1 ≤ sFr σ (2 * g + 1)) (h2 : 1 ≤ sFr σ (2 * g)) : sHas σ g = true := by simp [sHas, h1, h2]
def sFol (σ : gS) (g : Nat) (fo : Bool) (v : Nat) : gS := if fo = true then uFd σ g v else σ
def sOccF (σ : gS) (g k : Nat) (fo : Bool) : gS := sFol (sOcc σ (2 * g + 1) k) g fo (sFd σ g + 1)
def sFreF (σ : gS) (g k : Nat) (fo : Bool) : gS := sFol (sFre σ (2 * g + 1) k) g fo (sFd σ g - 1)
theorem sFd_sOcc (σ : gS) (j k : Nat) : sFd (sOcc σ j k) = sFd σ := by unfold sOcc; split <;> rfl
theorem sFd_sFre (σ : gS) (j k : Nat) : sFd (sFre σ j k) = sFd σ := by unfold sFre; split <;> rfl
def byN (x k : Nat) : Nat := x / 2 ^ (8 * k) % 256
theorem byN_sh : ∀ k, k < 4 → ((nI (8 * k) &&& 31).toBitVec.smod 32).toNat = 8 * k := by decide +kernel
theorem byN_eq {x k : Nat} (hx : x < 2 ^ 31) (hk : k < 4) : (nI x >>> (nI (8 * k) &&& 31)) &&& nI 255 = nI (byN x k) := by
  rw [pk_shrN hx _ (8 * k) (byN_sh k hk)]
  exact pk_andN (Nat.lt_of_le_of_lt (Nat.div_le_self _ _) (by omega)) 8 (by decide)
def gTb (σ : gS) (g t : Nat) : Nat := if t < 4 then byN (gPl (2 * g)) t else if t < 8 then byN (gPl (2 * g + 1)) (t - 4) else if t < 12 then byN (256 * g + gHd g + 2) (t - 8) else if t < 14 then byN (sFr σ (2 * g)) (t - 12) else if t < 16 then byN (sFr σ (2 * g + 1)) (t - 14) else if t < 18 then byN (sFd σ g) (t - 16) else 0
/-- the class's own sums -/
def sFB (σ : gS) : Nat → Nat
  | 0 => 0
  | g + 1 => sFB σ g + sFr σ (2 * g)
def sFF (σ : gS) : Nat → Nat
  | 0 => 0
  | g + 1 => sFF σ g + sFr σ (2 * g + 1)
theorem sFB_le {σ : gS} (h : sB σ) (g : Nat) (hg : g ≤ 4) : sFB σ g ≤ 256 * g := by
  induction g with
  | zero => exact Nat.le_refl _
  | succ g ih =>
    have h1 := ih (by omega)
    have h2 := (h.2.2.2.1 (2 * g) (by omega)).2
    show sFB σ g + sFr σ (2 * g) ≤ _
    omega
theorem sFF_le {σ : gS} (h : sB σ) (g : Nat) (hg : g ≤ 4) : sFF σ g ≤ 256 * g := by
  induction g with
  | zero => exact Nat.le_refl _
  | succ g ih =>
    have h1 := ih (by omega)
    have h2 := (h.2.2.2.1 (2 * g + 1) (by omega)).2
    show sFF σ g + sFr σ (2 * g + 1) ≤ _
    omega
def sAll (σ : gS) : Nat := (sCnt σ - 1) * 256 + sSz σ (2 * (sCnt σ - 1))
theorem sAll_le {σ : gS} (h : sB σ) : sAll σ ≤ 1024 := by
  have h1 := h.1
  have h2 := h.2.1
  have h3 := (h.2.2.2.1 (2 * (sCnt σ - 1)) (by omega)).1
  have h4 := gLen_le (2 * (sCnt σ - 1))
  unfold sAll
  omega
def sGLays (σ : gS) (c last : Nat) : Nat → gS
  | 0 => σ
  | g + 1 => sGLay (sGLays σ c last g) g (if g = c - 1 then last else 256)
theorem sCnt_sLay (σ : gS) (j a f : Nat) : sCnt (sLay σ j a f) = sCnt σ := by rw [sLay, q_Cnt_Td, q_Cnt_Fr, q_Cnt_Sz, q_Cnt_Bt]
theorem sCnt_sGLay (σ : gS) (g a : Nat) : sCnt (sGLay σ g a) = sCnt σ := by rw [sGLay, q_Cnt_Fd, sCnt_sLay, sCnt_sLay]
theorem sCnt_sGLays (σ : gS) (c last g : Nat) : sCnt (sGLays σ c last g) = sCnt σ := by
  induction g with
  | zero => rfl
  | succ g ih => rw [sGLays, sCnt_sGLay, ih]
def sLayAll (σ : gS) (c last : Nat) : gS := uTT (uLat (uRsv (sGLays (uCnt σ c) c last c) 0) 0) true
def sMay (σ : gS) (al : Bool) : Nat := if al = true then sFB σ (sCnt σ) else sFB σ (sCnt σ) - sRsv σ
theorem max0_sub {a b : Nat} (ha : a < 2 ^ 30) (hb : b < 2 ^ 30) : (if nI 0 < nI a - nI b then nI a - nI b else nI 0) = nI (a - b) := by
  by_cases h : b < a
  · have e : nI a - nI b = nI (a - b) := pk_sub (Nat.le_of_lt h)
    rw [e, if_pos ((nI_ltI (by omega) (by omega)).mpr (by omega))]
  · rcases Nat.lt_or_ge a b with q | q
    · have := pk_sneg hb q
      rw [if_neg (fun z => ?_), show a - b = 0 by omega]
      rw [nI_0] at z
      exact absurd (Int32.lt_trans z this) (by decide)
    · obtain rfl : a = b := by omega
      have e : nI a - nI a = nI 0 := by rw [pk_sub (Nat.le_refl _), Nat.sub_self]
      rw [e, Nat.sub_self]
      split <;> rfl
