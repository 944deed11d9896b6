/-! ===== the invariant, group by group ===== -/
def nsp (b : Nat) : Prop := b ≠ 1 ∧ ∀ g, g < 4 → b ≠ 256 * g + gHd g ∧ b ≠ 256 * g + gHd g + 1
def GI (N : Nat) (σ : gS) (τ : mS) (g : Nat) : Prop :=
  (16 ≤ sSz σ (2 * g) ∧ sSz σ (2 * g) ≤ 256 ∧ sSz σ (2 * g + 1) = 128) ∧ (∀ k, sSz σ (2 * g) ≤ k → k < 256 → sBt σ (2 * g) k = true) ∧
  (sFr σ (2 * g) = c0 (sBt σ (2 * g)) (sSz σ (2 * g)) ∧ sFr σ (2 * g + 1) = c0 (sBt σ (2 * g + 1)) 128) ∧ sFd σ g ≤ N ∧
  mSz τ g = sSz σ (2 * g) ∧ (∀ k, k < sSz σ (2 * g) → mBk τ (256 * g + k) = sBt σ (2 * g) k) ∧ (∀ k, k < 128 → mFl τ (128 * g + k) = sBt σ (2 * g + 1) k) ∧ mFd τ g = sFd σ g ∧
  mTo τ (256 * g + gHd g) = sTd σ (2 * g) ∧ mTo τ (256 * g + gHd g + 1) = sTd σ (2 * g + 1)
def LK (N : Nat) (σ : gS) (τ : mS) : Prop := (∀ b, b < 1024 → nsp b → mTo τ b = false) ∧ ∀ g, g < 4 → GI N σ τ g
def HK (σ : gS) (τ : mS) : Prop := 1 ≤ sCnt σ ∧ sCnt σ ≤ 4 ∧ mGr τ = sCnt σ ∧ mRs τ = sRsv σ ∧ sRsv σ ≤ 100 ∧ mLt τ = sLat σ ∧ (∀ g, g + 1 < sCnt σ → sSz σ (2 * g) = 256) ∧ mTo τ 1 = sTT σ
def RK (N : Nat) (σ : gS) (τ : mS) : Prop := HK σ τ ∧ LK N σ τ
theorem GI_congr {N N' : Nat} {σ σ' : gS} {τ τ' : mS} {g : Nat} (h : GI N σ τ g) (hN : N ≤ N') (e1 : sSz σ' (2 * g) = sSz σ (2 * g)) (e2 : sSz σ' (2 * g + 1) = sSz σ (2 * g + 1)) (e3 : sBt σ' (2 * g) = sBt σ (2 * g)) (e4 : sBt σ' (2 * g + 1) = sBt σ (2 * g + 1)) (e5 : sFr σ' (2 * g) = sFr σ (2 * g)) (e6 : sFr σ' (2 * g + 1) = sFr σ (2 * g + 1)) (e7 : sFd σ' g = sFd σ g) (e8 : sTd σ' (2 * g) = sTd σ (2 * g)) (e9 : sTd σ' (2 * g + 1) = sTd σ (2 * g + 1))
    (f1 : mSz τ' g = mSz τ g) (f2 : ∀ k, k < 256 → mBk τ' (256 * g + k) = mBk τ (256 * g + k)) (f3 : ∀ k, k < 128 → mFl τ' (128 * g + k) = mFl τ (128 * g + k)) (f4 : mFd τ' g = mFd τ g) (f5 : mTo τ' (256 * g + gHd g) = mTo τ (256 * g + gHd g)) (f6 : mTo τ' (256 * g + gHd g + 1) = mTo τ (256 * g + gHd g + 1)) : GI N' σ' τ' g := by
  obtain ⟨⟨a1, a2, a3⟩, b, ⟨c1, c2⟩, d, e, f, g1, g2, g3, g4⟩ := h
  unfold GI
  rw [e1, e2, e3, e4, e5, e6, e7, e8, e9, f1, f4, f5, f6]
  exact ⟨⟨a1, a2, a3⟩, b, ⟨c1, c2⟩, Nat.le_trans d hN, e, fun k hk => by rw [f2 k (by omega)]; exact f k hk, fun k hk => by rw [f3 k hk]; exact g1 k hk, g2, g3, g4⟩
theorem c0_dec {B : Nat → Bool} {f : Nat} : ∀ n : Nat, (∀ k, k < n → B k = decide (k < f)) → c0 B n = n - f := by
  intro n
  induction n with
  | zero => intro _; exact (Nat.zero_sub _).symm
  | succ n ih =>
    intro h
    have h1 := ih (fun k hk => h k (by omega))
    have h2 := h n (by omega)
    by_cases hn : n < f
    · rw [c0_t (by rw [h2, decide_eq_true hn]), h1]; omega
    · rw [c0_f (by rw [h2, decide_eq_false hn]), h1]; omega
theorem setb_at (B : Nat → Bool) (k : Nat) (v : Bool) : setb B k v k = v := if_pos rfl
theorem setb_ne {B : Nat → Bool} {k i : Nat} {v : Bool} (h : i ≠ k) : setb B k v i = B i := if_neg h
theorem setn_at (B : Nat → Nat) (k v : Nat) : setn B k v k = v := if_pos rfl
theorem setn_ne {B : Nat → Nat} {k i v : Nat} (h : i ≠ k) : setn B k v i = B i := if_neg h
theorem va_ne {α : Type} {f : Nat → α} {j i : Nat} {v : α} (h : i ≠ j) : va_up f j v i = f i := by unfold va_up; exact if_neg h
theorem c0_set_t {B : Nat → Bool} {k : Nat} (hB : B k = false) : ∀ n : Nat, k < n → c0 (setb B k true) n + 1 = c0 B n := by
  intro n
  induction n with
  | zero => intro h; omega
  | succ n ih =>
    intro h
    by_cases e : k = n
    · subst e
      rw [c0_t (setb_at B k true), c0_f hB, c0_congr (C := B) (fun i hi => setb_ne (by omega))]
    · have h1 := ih (by omega)
      cases hb : B n with
      | true => rw [c0_t hb, c0_t ((setb_ne (by omega)).trans hb), h1]
      | false => rw [c0_f hb, c0_f ((setb_ne (by omega)).trans hb)]; omega
theorem c0_set_f {B : Nat → Bool} {k : Nat} (hB : B k = true) : ∀ n : Nat, k < n → c0 (setb B k false) n = c0 B n + 1 := by
  intro n
  induction n with
  | zero => intro h; omega
  | succ n ih =>
    intro h
    by_cases e : k = n
    · subst e
      rw [c0_f (setb_at B k false), c0_t hB, c0_congr (C := B) (fun i hi => setb_ne (by omega))]
    · have h1 := ih (by omega)
      cases hb : B n with
      | true => rw [c0_t hb, c0_t ((setb_ne (by omega)).trans hb), h1]
      | false => rw [c0_f hb, c0_f ((setb_ne (by omega)).trans hb), h1]
theorem sBt_sLay (σ : gS) (j a f : Nat) : sBt (sLay σ j a f) = va_up (sBt σ) j (lyf (sBt σ j) f a (gLen j)) := by rw [sLay, q_Bt_Td, q_Bt_Fr, q_Bt_Sz, q_Bt_Bt]
/-! laying out a group -/
theorem lay_step_LK {N : Nat} {σ : gS} {τ : mS} {g0 v : Nat} (h : LK N σ τ) (hg0 : g0 < 4) (hv : 16 ≤ v) (hv2 : v ≤ 256) : LK N (sGLay σ g0 v) (mLayG τ g0 v) := by
  have hh0 := gHd_le g0
  have eSz : sSz (sGLay σ g0 v) = va_up (va_up (sSz σ) (2 * g0) v) (2 * g0 + 1) 128 := by rw [sGLay, q_Sz_Fd, sLay, q_Sz_Td, q_Sz_Fr, q_Sz_Sz, q_Sz_Bt, sLay, q_Sz_Td, q_Sz_Fr, q_Sz_Sz, q_Sz_Bt]
  have eFr : sFr (sGLay σ g0 v) = va_up (va_up (sFr σ) (2 * g0) (v - (gHd g0 + 10))) (2 * g0 + 1) (128 - gFf g0) := by rw [sGLay, q_Fr_Fd, sLay, q_Fr_Td, q_Fr_Fr, q_Fr_Sz, q_Fr_Bt, sLay, q_Fr_Td, q_Fr_Fr, q_Fr_Sz, q_Fr_Bt]
  have eTd : sTd (sGLay σ g0 v) = va_up (va_up (sTd σ) (2 * g0) true) (2 * g0 + 1) true := by rw [sGLay, q_Td_Fd, sLay, q_Td_Td, q_Td_Fr, q_Td_Sz, q_Td_Bt, sLay, q_Td_Td, q_Td_Fr, q_Td_Sz, q_Td_Bt]
  have eBt : ∃ X Y : Nat → Bool, sBt (sGLay σ g0 v) = va_up (va_up (sBt σ) (2 * g0) (lyf X (gHd g0 + 10) v 256)) (2 * g0 + 1) (lyf Y (gFf g0) 128 128) := by
    refine ⟨sBt σ (2 * g0), sBt (sLay σ (2 * g0) v (gHd g0 + 10)) (2 * g0 + 1), ?_⟩
    rw [sGLay, q_Bt_Fd, sBt_sLay (sLay σ (2 * g0) v (gHd g0 + 10)), gLen_odd, sBt_sLay σ, gLen_even]
  obtain ⟨X, Y, eBt⟩ := eBt
  have eFd : sFd (sGLay σ g0 v) = va_up (sFd σ) g0 0 := by rw [sGLay, q_Fd_Fd, sLay, q_Fd_Td, q_Fd_Fr, q_Fd_Sz, q_Fd_Bt, sLay, q_Fd_Td, q_Fd_Fr, q_Fd_Sz, q_Fd_Bt]
  have tSz : mSz (mLayG τ g0 v) = setn (mSz τ) g0 v := rfl
  have tFd : mFd (mLayG τ g0 v) = setn (mFd τ) g0 0 := rfl
  have tTo : mTo (mLayG τ g0 v) = setb (setb (mTo τ) (256 * g0 + gHd g0) true) (256 * g0 + gHd g0 + 1) true := rfl
  have tBk : mBk (mLayG τ g0 v) = rowB (mBk τ) g0 256 := rfl
  have tFl : mFl (mLayG τ g0 v) = rowF (mFl τ) g0 128 := rfl
  constructor
  · intro b hb hn
    have hn0 := hn.2 g0 hg0
    rw [tTo, setb_ne hn0.2, setb_ne hn0.1]
    exact h.1 b hb hn
  · intro g hg
    have hh := gHd_le g
    by_cases e : g = g0
    · subst e
      have hB1 : sBt (sGLay σ g v) (2 * g) = lyf X (gHd g + 10) v 256 := by rw [eBt, va_ne (by omega), va_up_at]
      have hB2 : sBt (sGLay σ g v) (2 * g + 1) = lyf Y (gFf g) 128 128 := by rw [eBt, va_up_at]
      have hS1 : sSz (sGLay σ g v) (2 * g) = v := by rw [eSz, va_ne (by omega), va_up_at]
      have hS2 : sSz (sGLay σ g v) (2 * g + 1) = 128 := by rw [eSz, va_up_at]
      have hF1 : sFr (sGLay σ g v) (2 * g) = v - (gHd g + 10) := by rw [eFr, va_ne (by omega), va_up_at]
      have hF2 : sFr (sGLay σ g v) (2 * g + 1) = 128 - gFf g := by rw [eFr, va_up_at]
      have hT1 : sTd (sGLay σ g v) (2 * g) = true := by rw [eTd, va_ne (by omega), va_up_at]
      have hT2 : sTd (sGLay σ g v) (2 * g + 1) = true := by rw [eTd, va_up_at]
      have hD : sFd (sGLay σ g v) g = 0 := by rw [eFd, va_up_at]
      have l1 : ∀ k, k < v → lyf X (gHd g + 10) v 256 k = decide (k < gHd g + 10) := by
        intro k hk
        unfold lyf lyv
        rw [if_pos (by omega), decide_eq_false (Nat.not_le.mpr hk), Bool.or_false]
      have l2 : ∀ k, k < 128 → lyf Y (gFf g) 128 128 k = decide (k < gFf g) := by
        intro k hk
        unfold lyf lyv
        rw [if_pos hk, decide_eq_false (Nat.not_le.mpr hk), Bool.or_false]
      unfold GI
      rw [hB1, hB2, hS1, hS2, hF1, hF2, hT1, hT2, hD, tSz, tFd, tTo, tBk, tFl]
      refine ⟨⟨hv, hv2, rfl⟩, fun k hk hk2 => ?_, ⟨(c0_dec v l1).symm, (c0_dec 128 l2).symm⟩, Nat.zero_le _, setn_at _ _ _, fun k hk => ?_, fun k hk => ?_, setn_at _ _ _, ?_, setb_at _ _ _⟩
      · unfold lyf lyv
        rw [if_pos hk2, decide_eq_true hk, Bool.or_true]
      · rw [l1 k hk]
        unfold rowB
        rw [if_pos (by omega), show 256 * g + k - 256 * g = k by omega]
      · rw [l2 k hk]
        unfold rowF
        rw [if_pos (by omega), show 128 * g + k - 128 * g = k by omega]
        apply decide_eq_decide.mpr
        unfold gFf
        by_cases hz : g = 0
        · rw [if_pos hz]; exact ⟨fun q => q.2, fun q => ⟨hz, q⟩⟩
        · rw [if_neg hz]; exact ⟨fun q => absurd q.1 hz, fun q => absurd q (Nat.not_lt_zero _)⟩
      · rw [setb_ne (by omega), setb_at]
    · refine GI_congr (h.2 g hg) (Nat.le_refl _) ?_ ?_ ?_ ?_ ?_ ?_ ?_ ?_ ?_ ?_ ?_ ?_ ?_ ?_ ?_
      · rw [eSz, va_ne (by omega), va_ne (by omega)]
      · rw [eSz, va_ne (by omega), va_ne (by omega)]
      · rw [eBt, va_ne (by omega), va_ne (by omega)]
      · rw [eBt, va_ne (by omega), va_ne (by omega)]
      · rw [eFr, va_ne (by omega), va_ne (by omega)]
      · rw [eFr, va_ne (by omega), va_ne (by omega)]
      · rw [eFd, va_ne e]
      · rw [eTd, va_ne (by omega), va_ne (by omega)]
      · rw [eTd, va_ne (by omega), va_ne (by omega)]
      · rw [tSz, setn_ne e]
      · intro k hk; rw [tBk]; unfold rowB; rw [if_neg (by omega)]
      · intro k hk; rw [tFl]; unfold rowF; rw [if_neg (by omega)]
      · rw [tFd, setn_ne e]
      · rw [tTo, setb_ne (by omega), setb_ne (by omega)]
      · rw [tTo, setb_ne (by omega), setb_ne (by omega)]
theorem lays_LK {N : Nat} {σ : gS} {τ : mS} {c la : Nat} (h : LK N σ τ) (hc : c ≤ 4) (hla : 16 ≤ la) (hla2 : la ≤ 256) : ∀ n : Nat, n ≤ c → LK N (sGLays σ c la n) (mLays τ c la n) := by
  intro n
  induction n with
  | zero => intro _; exact h
  | succ n ih =>
    intro hn
    have h1 := ih (by omega)
    rw [sGLays, mLays]
    by_cases e : n = c - 1
    · rw [if_pos e]; exact lay_step_LK h1 (by omega) hla hla2
    · rw [if_neg e]; exact lay_step_LK h1 (by omega) (by omega) (by omega)
