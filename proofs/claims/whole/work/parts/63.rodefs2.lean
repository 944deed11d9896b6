theorem sHasB_nI {σ : gS} (hσ : sB σ) {q : Nat} (h : q < sAll σ) : sHasB σ (nI q) = true := by
  have h1 := sAll_le hσ
  unfold sHasB
  rw [nI_toInt (by omega), decide_eq_true (show (0 : Int) ≤ (q : Int) by omega), decide_eq_true (show (q : Int) < (sAll σ : Int) by omega)]
  rfl
theorem sHasF_nI {σ : gS} (hσ : sB σ) {f : Nat} (h1 : 1 ≤ f) (h : f ≤ sCnt σ * 128) : sHasF σ (nI f) = true := by
  have h4 := hσ.2.1
  unfold sHasF
  rw [nI_toInt (by omega), decide_eq_true (show (1 : Int) ≤ (f : Int) by omega), decide_eq_true (show (f : Int) ≤ (sCnt σ * 128 : Nat) by omega)]
  rfl
theorem RI.tk {σ : gS} {τ : mS} (h : RI σ τ) {q : Nat} (hq : q < sAll σ) : sSet σ (2 * (q / 256)) (q % 256) = mBk τ q := by
  have hb := h.hb (nI q)
  rw [sHasB_nI h.sb hq] at hb
  have h4 := h.sb.2.1
  have hlt := mIsB_lt h.ok (by have := sAll_le h.sb; omega) hb
  have hall : sAll σ ≤ 256 * sCnt σ := by
    have := h.szle (g := sCnt σ - 1) (by have := h.sb.1; omega)
    have := h.sb.1
    unfold sAll
    omega
  rw [mIsB_nI (by rw [h.gr]; omega) (by rw [h.gr]; exact h4)] at hb
  have hk := of_decide_eq_true hb
  rw [h.sz (by omega)] at hk
  rw [h.ss (by omega) hk, show 256 * (q / 256) + q % 256 = q by omega]
theorem RI.tf {σ : gS} {τ : mS} (h : RI σ τ) {f : Nat} (h1 : 1 ≤ f) (hf : f ≤ 512) : sSet σ (2 * ((f - 1) / 128) + 1) ((f - 1) % 128) = mFl τ (f - 1) := by
  rw [h.sf (by omega) (by omega), show 128 * ((f - 1) / 128) + (f - 1) % 128 = f - 1 by omega]
def sGrp (σ : gS) (g w : Nat) : Nat := if w = 0 then 256 * g else if w = 1 then sSz σ (2 * g) else if w = 2 then sFr σ (2 * g) else if w = 3 then sFr σ (2 * g + 1) else if w = 4 then sFd σ g else sLen5 σ g
def mGrp (τ : mS) (g w : Nat) : mS := if w = 5 then mFr0 (vTh τ 0) g (mSz τ g) else vTh τ 0
theorem RI.l5 {σ : gS} {τ : mS} (h : RI σ τ) {g : Nat} (hg : g < 4) : (lrF (mB τ g) (mSz τ g)).1 = sLen5 σ g := by
  rw [h.mb hg, h.sz hg, sLen5, sLr_eq]
