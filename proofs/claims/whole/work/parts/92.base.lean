/-! ===== the first layout: nothing is known of the groups before ===== -/
theorem lay_step_P {P : Nat → Prop} {N : Nat} {σ : gS} {τ : mS} {g0 v : Nat} (h : (∀ b, b < 1024 → nsp b → mTo τ b = false) ∧ ∀ g, g < 4 → P g → GI N σ τ g) (hg0 : g0 < 4) (hv : 16 ≤ v) (hv2 : v ≤ 256) : (∀ b, b < 1024 → nsp b → mTo (mLayG τ g0 v) b = false) ∧ ∀ g, g < 4 → (P g ∨ g = g0) → GI N (sGLay σ g0 v) (mLayG τ g0 v) g := by
  have hh0 := gHd_le g0
  have eSz : sSz (sGLay σ g0 v) = va_up (va_up (sSz σ) (2 * g0) v) (2 * g0 + 1) 128 := by rw [sGLay, q_Sz_Fd, sLay, q_Sz_Td, q_Sz_Fr, q_Sz_Sz, q_Sz_Bt, sLay, q_Sz_Td, q_Sz_Fr, q_Sz_Sz, q_Sz_Bt]
  have eFr : sFr (sGLay σ g0 v) = va_up (va_up (sFr σ) (2 * g0) (v - (gHd g0 + 10))) (2 * g0 + 1) (128 - gFf g0) := by rw [sGLay, q_Fr_Fd, sLay, q_Fr_Td, q_Fr_Fr, q_Fr_Sz, q_Fr_Bt, sLay, q_Fr_Td, q_Fr_Fr, q_Fr_Sz, q_Fr_Bt]
  have eTd : sTd (sGLay σ g0 v) = va_up (va_up (sTd σ) (2 * g0) true) (2 * g0 + 1) true := by rw [sGLay, q_Td_Fd, sLay, q_Td_Td, q_Td_Fr, q_Td_Sz, q_Td_Bt, sLay, q_Td_Td, q_Td_Fr, q_Td_Sz, q_Td_Bt]
  have eBt : ∃ X Y : Nat → Bool, sBt (sGLay σ g0 v) = va_up (va_up (sBt σ) (2 * g0) (lyf X (gHd g0 + 10) v 256)) (2 * g0 + 1) (lyf Y (gFf g0) 128 128) := by
    refine ⟨sBt σ (2 * g0), sBt (sLay σ (2 * g0) v (gHd g0 + 10)) (2 * g0 + 1), ?_⟩
    rw [sGLay, q_Bt_Fd, sBt_sLay (sLay σ (2 * g0) v (gHd g0 + 10)), gLen_odd, sBt_sLay σ, gLen_even]
  obtain ⟨X, Y, eBt⟩ := eBt
  have eFd : sFd (sGLay σ g0 v) = va_up (sFd σ) g0 0 := by rw [sGLay, q_Fd_Fd, sLay, q_Fd_Td, q_Fd_Fr, q_Fd_Sz, q_Fd_Bt, sLay, q_Fd_Td, q_Fd_Fr, q_Fd_Sz, q_Fd_Bt]
  have tSz : mSz (mLayG τ g0 v) = setn (mSz τ) g0 v := rfl
  have tFd : mFd (mLayG τ g0 v) = setn (mFd τ) g0 0 := rfl
  have tTo : mTo (mLayG τ g0 v) = setb (setb (mTo τ) (256 * g0 + gHd g0) true) (256 * g0 + gHd g0 + 1) true := rfl
  have tBk : mBk (mLayG τ g0 v) = rowB (mBk τ) g0 256 := rfl
  have tFl : mFl (mLayG τ g0 v) = rowF (mFl τ) g0 128 := rfl
  constructor
  · intro b hb hn
    have hn0 := hn.2 g0 hg0
    rw [tTo, setb_ne hn0.2, setb_ne hn0.1]
    exact h.1 b hb hn
  · intro g hg hPg
    have hh := gHd_le g
    by_cases e : g = g0
    · subst e
      have hB1 : sBt (sGLay σ g v) (2 * g) = lyf X (gHd g + 10) v 256 := by rw [eBt, va_ne (by omega), va_up_at]
      have hB2 : sBt (sGLay σ g v) (2 * g + 1) = lyf Y (gFf g) 128 128 := by rw [eBt, va_up_at]
      have hS1 : sSz (sGLay σ g v) (2 * g) = v := by rw [eSz, va_ne (by omega), va_up_at]
      have hS2 : sSz (sGLay σ g v) (2 * g + 1) = 128 := by rw [eSz, va_up_at]
      have hF1 : sFr (sGLay σ g v) (2 * g) = v - (gHd g + 10) := by rw [eFr, va_ne (by omega), va_up_at]
      have hF2 : sFr (sGLay σ g v) (2 * g + 1) = 128 - gFf g := by rw [eFr, va_up_at]
      have hT1 : sTd (sGLay σ g v) (2 * g) = true := by rw [eTd, va_ne (by omega), va_up_at]
      have hT2 : sTd (sGLay σ g v) (2 * g + 1) = true := by rw [eTd, va_up_at]
      have hD : sFd (sGLay σ g v) g = 0 := by rw [eFd, va_up_at]
      have l1 : ∀ k, k < v → lyf X (gHd g + 10) v 256 k = decide (k < gHd g + 10) := by
        intro k hk
        unfold lyf lyv
        rw [if_pos (by omega), decide_eq_false (Nat.not_le.mpr hk), Bool.or_false]
      have l2 : ∀ k, k < 128 → lyf Y (gFf g) 128 128 k = decide (k < gFf g) := by
        intro k hk
        unfold lyf lyv
        rw [if_pos hk, decide_eq_false (Nat.not_le.mpr hk), Bool.or_false]
      unfold GI
      rw [hB1, hB2, hS1, hS2, hF1, hF2, hT1, hT2, hD, tSz, tFd, tTo, tBk, tFl]
      refine ⟨⟨hv, hv2, rfl⟩, fun k hk hk2 => ?_, ⟨(c0_dec v l1).symm, (c0_dec 128 l2).symm⟩, Nat.zero_le _, setn_at _ _ _, fun k hk => ?_, fun k hk => ?_, setn_at _ _ _, ?_, setb_at _ _ _⟩
      · unfold lyf lyv
        rw [if_pos hk2, decide_eq_true hk, Bool.or_true]
      · rw [l1 k hk]
        unfold rowB
        rw [if_pos (by omega), show 256 * g + k - 256 * g = k by omega]
      · rw [l2 k hk]
        unfold rowF
        rw [if_pos (by omega), show 128 * g + k - 128 * g = k by omega]
        apply decide_eq_decide.mpr
        unfold gFf
        by_cases hz : g = 0
        · rw [if_pos hz]; exact ⟨fun q => q.2, fun q => ⟨hz, q⟩⟩
        · rw [if_neg hz]; exact ⟨fun q => absurd q.1 hz, fun q => absurd q (Nat.not_lt_zero _)⟩
      · rw [setb_ne (by omega), setb_at]
    · refine GI_congr (h.2 g hg (hPg.resolve_right e)) (Nat.le_refl _) ?_ ?_ ?_ ?_ ?_ ?_ ?_ ?_ ?_ ?_ ?_ ?_ ?_ ?_ ?_
      · rw [eSz, va_ne (by omega), va_ne (by omega)]
      · rw [eSz, va_ne (by omega), va_ne (by omega)]
      · rw [eBt, va_ne (by omega), va_ne (by omega)]
      · rw [eBt, va_ne (by omega), va_ne (by omega)]
      · rw [eFr, va_ne (by omega), va_ne (by omega)]
      · rw [eFr, va_ne (by omega), va_ne (by omega)]
      · rw [eFd, va_ne e]
      · rw [eTd, va_ne (by omega), va_ne (by omega)]
      · rw [eTd, va_ne (by omega), va_ne (by omega)]
      · rw [tSz, setn_ne e]
      · intro k hk; rw [tBk]; unfold rowB; rw [if_neg (by omega)]
      · intro k hk; rw [tFl]; unfold rowF; rw [if_neg (by omega)]
      · rw [tFd, setn_ne e]
      · rw [tTo, setb_ne (by omega), setb_ne (by omega)]
      · rw [tTo, setb_ne (by omega), setb_ne (by omega)]
theorem lays_P {N : Nat} {σ : gS} {τ : mS} {c la : Nat} (h : ∀ b, b < 1024 → nsp b → mTo τ b = false) (hc : c ≤ 4) (hla : 16 ≤ la) (hla2 : la ≤ 256) : ∀ n : Nat, n ≤ c → (∀ b, b < 1024 → nsp b → mTo (mLays τ c la n) b = false) ∧ ∀ g, g < 4 → g < n → GI N (sGLays σ c la n) (mLays τ c la n) g := by
  intro n
  induction n with
  | zero => intro _; exact ⟨h, fun g _ hg => absurd hg (Nat.not_lt_zero g)⟩
  | succ n ih =>
    intro hn
    have h1 := ih (by omega)
    have h2 := lay_step_P (P := fun g => g < n) h1 (show n < 4 by omega) (v := if n = c - 1 then la else 256) (by split <;> omega) (by split <;> omega)
    exact ⟨h2.1, fun g hg hgn => h2.2 g hg (by omega)⟩
theorem RK_first {σ : gS} {τ : mS} {c la : Nat} (hc4 : c = 4) (hla : 16 ≤ la) (hla2 : la ≤ 256) (hto : ∀ b, b < 1024 → nsp b → mTo τ b = false) : RK 0 (sLayAll σ c la) (mLays (mLay0 τ c) c la c) := by
  have hl := lays_P (N := 0) (σ := uCnt σ c) (τ := mLay0 τ c) (c := c) (la := la) (fun b hb hn => by
    show setb (mTo τ) 1 true b = false
    rw [setb_ne hn.1]
    exact hto b hb hn) (by omega) hla hla2 c (Nat.le_refl _)
  have hl2 : LK 0 (sGLays (uCnt σ c) c la c) (mLays (mLay0 τ c) c la c) := ⟨hl.1, fun g hg => hl.2 g hg (by omega)⟩
  obtain ⟨o1, o2, o3⟩ := mLays_o (mLay0 τ c) c la c
  have hcn : sCnt (sLayAll σ c la) = c := by rw [sLayAll, q_Cnt_TT, q_Cnt_Lat, q_Cnt_Rsv, sCnt_sGLays, q_Cnt_Cnt]
  refine ⟨⟨by rw [hcn]; omega, by rw [hcn]; omega, by rw [hcn, mGr_mLays]; rfl, by rw [o1]; rfl, by rw [sLayAll, q_Rsv_TT, q_Rsv_Lat, q_Rsv_Rsv]; omega, by rw [o2]; rfl, ?_, by rw [o3]; rfl⟩, hl2⟩
  intro g hg
  rw [hcn] at hg
  rw [sLayAll, q_Sz_TT, q_Sz_Lat, q_Sz_Rsv, sSz_sGLays _ _ _ c (by omega), if_neg (by omega)]
theorem RK_0 : RK 0 (sLayAll σ0 4 256) (mLays (mLay0 τ0 4) 4 256 4) := RK_first rfl (by decide) (by decide) (fun _ _ _ => rfl)
