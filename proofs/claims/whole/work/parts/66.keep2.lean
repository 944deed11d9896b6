theorem nsp_of {b : Nat} (hb : b < 1024) (h1 : b ≠ 1) (h2 : b ≠ gPl (2 * (b / 256))) (h3 : b ≠ gPl (2 * (b / 256) + 1)) : nsp b := by
  rw [gPl_e] at h2
  rw [gPl_o] at h3
  refine ⟨h1, fun g hg => ?_⟩
  have hh := gHd_le g
  by_cases e : g = b / 256
  · subst e; exact ⟨h2, h3⟩
  · exact ⟨by omega, by omega⟩
theorem RK.ri {N : Nat} {σ : gS} {τ : mS} (h : RK N σ τ) (hN : N < 65536) : RI σ τ := by
  obtain ⟨⟨a1, a2, a3, a4, a5, a6, a7, a8⟩, b1, b2⟩ := h
  have hj : ∀ j, j < 8 → sSz σ j ≤ gLen j ∧ sFr σ j ≤ 256 ∧ sFr σ j = c0 (sBt σ j) (sSz σ j) := by
    intro j hj
    obtain ⟨⟨c1, c2, c3⟩, -, ⟨d1, d2⟩, -⟩ := b2 (j / 2) (by omega)
    rcases (show j = 2 * (j / 2) ∨ j = 2 * (j / 2) + 1 by omega) with e | e
    · have hz : sSz σ j ≤ 256 := by rw [e]; exact c2
      have hf : sFr σ j = c0 (sBt σ j) (sSz σ j) := by rw [e]; exact d1
      refine ⟨by rw [e, gLen_even]; exact c2, by rw [hf]; exact Nat.le_trans (c0_le _ _) hz, hf⟩
    · have hz : sSz σ j = 128 := by rw [e]; exact c3
      have hf : sFr σ j = c0 (sBt σ j) (sSz σ j) := by rw [hz, e]; exact d2
      refine ⟨by rw [hz, e, gLen_odd]; exact Nat.le_refl _, by rw [hf, hz]; exact Nat.le_trans (c0_le _ _) (by omega), hf⟩
  refine ⟨⟨⟨a1, a2, a5, fun j h8 => ⟨(hj j h8).1, (hj j h8).2.1⟩, fun g hg => Nat.lt_of_le_of_lt (b2 g hg).2.2.2.1 hN⟩, fun g hg => ⟨(b2 g hg).1.1, (b2 g hg).1.2.2⟩, a7, fun g hg => (b2 g hg).2.1, fun j h8 => (hj j h8).2.2⟩, a3, fun g hg => (b2 g hg).2.2.2.2.1, fun g hg => (b2 g hg).2.2.2.2.2.1, fun g hg => (b2 g hg).2.2.2.2.2.2.1, fun g hg => (b2 g hg).2.2.2.2.2.2.2.1, a4, a6, fun b hb => ?_⟩
  unfold sTold
  by_cases e1 : b = 1
  · rw [if_pos e1, e1]; exact a8
  · rw [if_neg e1]
    have hg := b2 (b / 256) (by omega)
    by_cases e2 : b = gPl (2 * (b / 256))
    · rw [if_pos e2]
      have := hg.2.2.2.2.2.2.2.2.1
      rw [← gPl_e, ← e2] at this
      exact this
    · rw [if_neg e2]
      by_cases e3 : b = gPl (2 * (b / 256) + 1)
      · rw [if_pos e3]
        have := hg.2.2.2.2.2.2.2.2.2
        rw [← gPl_o, ← e3] at this
        exact this
      · rw [if_neg e3]
        exact b1 b hb (nsp_of hb e1 e2 e3)
theorem LK.mono {N N' : Nat} {σ : gS} {τ : mS} (h : LK N σ τ) (hN : N ≤ N') : LK N' σ τ := ⟨h.1, fun g hg => GI_congr (h.2 g hg) hN rfl rfl rfl rfl rfl rfl rfl rfl rfl rfl (fun _ _ => rfl) (fun _ _ => rfl) rfl rfl rfl⟩
theorem LK.one {N : Nat} {σ : gS} {τ : mS} (h : LK N σ τ) (v : Bool) : LK N σ (vTo τ (setb (mTo τ) 1 v)) := by
  have e : mTo (vTo τ (setb (mTo τ) 1 v)) = setb (mTo τ) 1 v := rfl
  refine ⟨fun b hb hn => by rw [e, setb_ne hn.1]; exact h.1 b hb hn, fun g hg => ?_⟩
  have hh := gHd_le g
  have h2 : ¬ 256 * g + gHd g = 1 ∧ ¬ 256 * g + gHd g + 1 = 1 := by
    unfold gHd
    split <;> omega
  exact GI_congr (h.2 g hg) (Nat.le_refl _) rfl rfl rfl rfl rfl rfl rfl rfl rfl rfl (fun _ _ => rfl) (fun _ _ => rfl) rfl (by rw [e, setb_ne h2.1]) (by rw [e, setb_ne h2.2])
theorem mLays_o (τ : mS) (c la n : Nat) : mRs (mLays τ c la n) = mRs τ ∧ mLt (mLays τ c la n) = mLt τ ∧ mTo (mLays τ c la n) 1 = mTo τ 1 := by
  induction n with
  | zero => exact ⟨rfl, rfl, rfl⟩
  | succ n ih =>
    rw [mLays]
    generalize (if n = c - 1 then la else 256) = v
    refine ⟨?_, ?_, ?_⟩
    · rw [← ih.1]; rfl
    · rw [← ih.2.1]; rfl
    · rw [← ih.2.2]
      have h2 : ¬ 1 = 256 * n + gHd n ∧ ¬ 1 = 256 * n + gHd n + 1 := by
        unfold gHd
        split <;> omega
      show setb (setb (mTo (mLays τ c la n)) (256 * n + gHd n) true) (256 * n + gHd n + 1) true 1 = _
      rw [setb_ne h2.2, setb_ne h2.1]
theorem sSz_sGLay (σ : gS) (g v : Nat) : sSz (sGLay σ g v) = va_up (va_up (sSz σ) (2 * g) v) (2 * g + 1) 128 := by rw [sGLay, q_Sz_Fd, sLay, q_Sz_Td, q_Sz_Fr, q_Sz_Sz, q_Sz_Bt, sLay, q_Sz_Td, q_Sz_Fr, q_Sz_Sz, q_Sz_Bt]
theorem sSz_sGLays (σ : gS) (c la : Nat) {g : Nat} : ∀ n : Nat, g < n → sSz (sGLays σ c la n) (2 * g) = if g = c - 1 then la else 256 := by
  intro n
  induction n with
  | zero => intro h; omega
  | succ n ih =>
    intro h
    rw [sGLays, sSz_sGLay, va_ne (by omega)]
    by_cases e : g = n
    · rw [e, va_up_at]
    · rw [va_ne (by omega)]; exact ih (by omega)
theorem RK.lay {N : Nat} {σ : gS} {τ : mS} (h : RK N σ τ) {c la : Nat} (h1 : 1 ≤ c) (hc : c ≤ 4) (hla : 16 ≤ la) (hla2 : la ≤ 256) : RK N (sLayAll σ c la) (mLays (mLay0 τ c) c la c) := by
  have hL : LK N (uCnt σ c) (mLay0 τ c) := (show LK N (uCnt σ c) (vLt (vRs (vGr τ c) 0) 0) from h.2).one true
  have hl := lays_LK hL hc hla hla2 c (Nat.le_refl _)
  obtain ⟨o1, o2, o3⟩ := mLays_o (mLay0 τ c) c la c
  have hcn : sCnt (sLayAll σ c la) = c := by rw [sLayAll, q_Cnt_TT, q_Cnt_Lat, q_Cnt_Rsv, sCnt_sGLays, q_Cnt_Cnt]
  refine ⟨⟨by rw [hcn]; exact h1, by rw [hcn]; exact hc, by rw [hcn, mGr_mLays]; rfl, by rw [o1]; rfl, by rw [sLayAll, q_Rsv_TT, q_Rsv_Lat, q_Rsv_Rsv]; omega, by rw [o2]; rfl, ?_, by rw [o3]; rfl⟩, hl⟩
  intro g hg
  rw [hcn] at hg
  rw [sLayAll, q_Sz_TT, q_Sz_Lat, q_Sz_Rsv, sSz_sGLays _ _ _ c (by omega), if_neg (by omega)]
theorem RK.rsv {N : Nat} {σ : gS} {τ : mS} (h : RK N σ τ) {n : Nat} (hn : n ≤ 100) : RK N (uRsv σ n) (vRs τ n) := by
  obtain ⟨⟨a1, a2, a3, a4, a5, a6, a7, a8⟩, b⟩ := h
  exact ⟨⟨a1, a2, a3, rfl, hn, a6, a7, a8⟩, b⟩
theorem RK.th {N : Nat} {σ : gS} {τ : mS} (h : RK N σ τ) (v : Nat) : RK N σ (vTh τ v) := h
theorem RK.fr0 {N : Nat} {σ : gS} {τ : mS} (h : RK N σ τ) (g k : Nat) : RK N σ (mFr0 τ g k) := h
theorem RK.frq {N : Nat} {σ : gS} {τ : mS} (h : RK N σ τ) (g q k : Nat) : RK N σ (mFrq τ g q k) := h
theorem RK.mono {N N' : Nat} {σ : gS} {τ : mS} (h : RK N σ τ) (hN : N ≤ N') : RK N' σ τ := ⟨h.1, h.2.mono hN⟩
/-! a block is taken, or given -/
theorem occ_LK {N : Nat} {σ : gS} {τ : mS} {g0 k : Nat} (h : LK N σ τ) (hg0 : g0 < 4) (hk : k < sSz σ (2 * g0)) (hf : sSet σ (2 * g0) k = false) : LK N (sOcc σ (2 * g0) k) (mMk1 τ (256 * g0 + k) true) := by
  obtain ⟨⟨a1, a2, a3⟩, b, ⟨c1, c2⟩, d, e, f, g1, g2, g3, g4⟩ := h.2 g0 hg0
  have hb : sBt σ (2 * g0) k = false := (sSet_lt (by rw [gLen_even]; omega)).symm.trans hf
  have hcnt := c0_set_t hb (sSz σ (2 * g0)) hk
  rw [sOcc_f hf]
  have hd : (256 * g0 + k) / 256 = g0 := by omega
  have tTo : mTo (mMk1 τ (256 * g0 + k) true) = setb (mTo τ) (256 * g0 + gHd g0) true := by
    show setb (mTo τ) (256 * ((256 * g0 + k) / 256) + gHd ((256 * g0 + k) / 256)) true = _
    rw [hd]
  have tBk : mBk (mMk1 τ (256 * g0 + k) true) = setb (mBk τ) (256 * g0 + k) true := rfl
  have hh0 := gHd_le g0
  refine ⟨fun y hy hn => by rw [tTo, setb_ne (hn.2 g0 hg0).1]; exact h.1 y hy hn, fun g hg => ?_⟩
  have hh := gHd_le g
  by_cases eg : g = g0
  · subst eg
    unfold GI
    rw [q_Sz_Td, q_Sz_Fr, q_Sz_Bt, q_Bt_Td, q_Bt_Fr, q_Bt_Bt, q_Fr_Td, q_Fr_Fr, q_Fr_Bt, q_Fd_Td, q_Fd_Fr, q_Fd_Bt, q_Td_Td, q_Td_Fr, q_Td_Bt, va_up_at, va_up_at, va_up_at, va_ne (by omega), va_ne (by omega), va_ne (by omega), tTo, tBk]
    refine ⟨⟨a1, a2, a3⟩, fun i hi hi2 => ?_, ⟨by omega, c2⟩, d, e, fun i hi => ?_, g1, g2, setb_at _ _ _, by rw [setb_ne (by omega)]; exact g4⟩
    · rw [setb_ne (by omega)]; exact b i hi hi2
    · by_cases ei : i = k
      · rw [ei, setb_at, setb_at]
      · rw [setb_ne (by omega), setb_ne ei]; exact f i hi
  · refine GI_congr (h.2 g hg) (Nat.le_refl _) rfl rfl ?_ ?_ ?_ ?_ rfl ?_ ?_ rfl ?_ (fun _ _ => rfl) rfl ?_ ?_
    · rw [q_Bt_Td, q_Bt_Fr, q_Bt_Bt, va_ne (by omega)]
    · rw [q_Bt_Td, q_Bt_Fr, q_Bt_Bt, va_ne (by omega)]
    · rw [q_Fr_Td, q_Fr_Fr, q_Fr_Bt, va_ne (by omega)]
    · rw [q_Fr_Td, q_Fr_Fr, q_Fr_Bt, va_ne (by omega)]
    · rw [q_Td_Td, q_Td_Fr, q_Td_Bt, va_ne (by omega)]
    · rw [q_Td_Td, q_Td_Fr, q_Td_Bt, va_ne (by omega)]
    · intro i hi; rw [tBk, setb_ne (by omega)]
    · rw [tTo, setb_ne (by omega)]
    · rw [tTo, setb_ne (by omega)]
theorem fre_LK {N : Nat} {σ : gS} {τ : mS} {g0 k : Nat} (h : LK N σ τ) (hg0 : g0 < 4) (hk : k < sSz σ (2 * g0)) (hb : sBt σ (2 * g0) k = true) : LK N (sFre σ (2 * g0) k) (mMk1 τ (256 * g0 + k) false) := by
  obtain ⟨⟨a1, a2, a3⟩, b, ⟨c1, c2⟩, d, e, f, g1, g2, g3, g4⟩ := h.2 g0 hg0
  have hcnt := c0_set_f hb (sSz σ (2 * g0)) hk
  rw [sFre_t hk hb]
  have hd : (256 * g0 + k) / 256 = g0 := by omega
  have tTo : mTo (mMk1 τ (256 * g0 + k) false) = setb (mTo τ) (256 * g0 + gHd g0) true := by
    show setb (mTo τ) (256 * ((256 * g0 + k) / 256) + gHd ((256 * g0 + k) / 256)) true = _
    rw [hd]
  have tBk : mBk (mMk1 τ (256 * g0 + k) false) = setb (mBk τ) (256 * g0 + k) false := rfl
  have hh0 := gHd_le g0
  refine ⟨fun y hy hn => by rw [tTo, setb_ne (hn.2 g0 hg0).1]; exact h.1 y hy hn, fun g hg => ?_⟩
  have hh := gHd_le g
  by_cases eg : g = g0
  · subst eg
    unfold GI
    rw [q_Sz_Td, q_Sz_Fr, q_Sz_Bt, q_Bt_Td, q_Bt_Fr, q_Bt_Bt, q_Fr_Td, q_Fr_Fr, q_Fr_Bt, q_Fd_Td, q_Fd_Fr, q_Fd_Bt, q_Td_Td, q_Td_Fr, q_Td_Bt, va_up_at, va_up_at, va_up_at, va_ne (by omega), va_ne (by omega), va_ne (by omega), tTo, tBk]
    refine ⟨⟨a1, a2, a3⟩, fun i hi hi2 => ?_, ⟨by omega, c2⟩, d, e, fun i hi => ?_, g1, g2, setb_at _ _ _, by rw [setb_ne (by omega)]; exact g4⟩
    · rw [setb_ne (by omega)]; exact b i hi hi2
    · by_cases ei : i = k
      · rw [ei, setb_at, setb_at]
      · rw [setb_ne (by omega), setb_ne ei]; exact f i hi
  · refine GI_congr (h.2 g hg) (Nat.le_refl _) rfl rfl ?_ ?_ ?_ ?_ rfl ?_ ?_ rfl ?_ (fun _ _ => rfl) rfl ?_ ?_
    · rw [q_Bt_Td, q_Bt_Fr, q_Bt_Bt, va_ne (by omega)]
    · rw [q_Bt_Td, q_Bt_Fr, q_Bt_Bt, va_ne (by omega)]
    · rw [q_Fr_Td, q_Fr_Fr, q_Fr_Bt, va_ne (by omega)]
    · rw [q_Fr_Td, q_Fr_Fr, q_Fr_Bt, va_ne (by omega)]
    · rw [q_Td_Td, q_Td_Fr, q_Td_Bt, va_ne (by omega)]
    · rw [q_Td_Td, q_Td_Fr, q_Td_Bt, va_ne (by omega)]
    · intro i hi; rw [tBk, setb_ne (by omega)]
    · rw [tTo, setb_ne (by omega)]
    · rw [tTo, setb_ne (by omega)]
