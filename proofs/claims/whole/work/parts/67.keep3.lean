theorem occF_LK {N : Nat} {σ : gS} {τ : mS} {g0 k : Nat} {fo : Bool} (h : LK N σ τ) (hg0 : g0 < 4) (hk : k < 128) (hb : sBt σ (2 * g0 + 1) k = false) : LK (N + 1) (sOccF σ g0 k fo) (mMkF τ g0 k true fo) := by
  obtain ⟨⟨a1, a2, a3⟩, b, ⟨c1, c2⟩, d, e, f, g1, g2, g3, g4⟩ := h.2 g0 hg0
  have hcnt := c0_set_t hb 128 hk
  have hf : sSet σ (2 * g0 + 1) k = false := (sSet_lt (by rw [gLen_odd]; exact hk)).trans hb
  have hs : sOccF σ g0 k fo = uFd (uTd (uFr (uBt σ (2 * g0 + 1) (setb (sBt σ (2 * g0 + 1)) k true)) (2 * g0 + 1) (sFr σ (2 * g0 + 1) - 1)) (2 * g0 + 1) true) g0 (mFdN τ g0 true fo) := by
    rw [sOccF, sOcc_f hf]
    cases fo with
    | true => rw [sFol, if_pos rfl, show mFdN τ g0 true true = sFd σ g0 + 1 from by rw [mFdN, if_neg (by decide), if_pos rfl, g2]]
    | false =>
      rw [sFol, if_neg (by decide), show mFdN τ g0 true false = sFd σ g0 from by rw [mFdN, if_pos rfl, g2]]
      show _ = (_, _, _, _, va_up (sFd σ) g0 (sFd σ g0), _, _, _, _)
      rw [va_up_id]; rfl
  have hfd : mFdN τ g0 true fo ≤ N + 1 := by
    unfold mFdN
    cases fo with
    | true => rw [if_neg (by decide), if_pos rfl]; omega
    | false => rw [if_pos rfl]; omega
  rw [hs]
  have tTo : mTo (mMkF τ g0 k true fo) = setb (setb (mTo τ) 1 true) (256 * g0 + gHd g0 + 1) true := rfl
  have tFl : mFl (mMkF τ g0 k true fo) = setb (mFl τ) (128 * g0 + k) true := rfl
  have tFd : mFd (mMkF τ g0 k true fo) = setn (mFd τ) g0 (mFdN τ g0 true fo) := rfl
  have hh0 := gHd_le g0
  refine ⟨fun y hy hn => by rw [tTo, setb_ne (hn.2 g0 hg0).2, setb_ne hn.1]; exact h.1 y hy hn, fun g hg => ?_⟩
  have hh := gHd_le g
  have h2 : ¬ 256 * g + gHd g = 1 ∧ ¬ 256 * g + gHd g + 1 = 1 := by
    unfold gHd
    split <;> omega
  by_cases eg : g = g0
  · subst eg
    unfold GI
    rw [q_Sz_Fd, q_Sz_Td, q_Sz_Fr, q_Sz_Bt, q_Bt_Fd, q_Bt_Td, q_Bt_Fr, q_Bt_Bt, q_Fr_Fd, q_Fr_Td, q_Fr_Fr, q_Fr_Bt, q_Fd_Fd, q_Fd_Td, q_Fd_Fr, q_Fd_Bt, q_Td_Fd, q_Td_Td, q_Td_Fr, q_Td_Bt, va_up_at, va_up_at, va_up_at, va_up_at, va_ne (by omega), va_ne (by omega), va_ne (by omega), tTo, tFl, tFd]
    refine ⟨⟨a1, a2, a3⟩, b, ⟨c1, by omega⟩, hfd, e, f, fun i hi => ?_, setn_at _ _ _, by rw [setb_ne (by omega), setb_ne h2.1]; exact g3, setb_at _ _ _⟩
    by_cases ei : i = k
    · rw [ei, setb_at, setb_at]
    · rw [setb_ne (by omega), setb_ne ei]; exact g1 i hi
  · refine GI_congr (h.2 g hg) (Nat.le_succ _) rfl rfl ?_ ?_ ?_ ?_ ?_ ?_ ?_ rfl (fun _ _ => rfl) ?_ ?_ ?_ ?_
    · rw [q_Bt_Fd, q_Bt_Td, q_Bt_Fr, q_Bt_Bt, va_ne (by omega)]
    · rw [q_Bt_Fd, q_Bt_Td, q_Bt_Fr, q_Bt_Bt, va_ne (by omega)]
    · rw [q_Fr_Fd, q_Fr_Td, q_Fr_Fr, q_Fr_Bt, va_ne (by omega)]
    · rw [q_Fr_Fd, q_Fr_Td, q_Fr_Fr, q_Fr_Bt, va_ne (by omega)]
    · rw [q_Fd_Fd, q_Fd_Td, q_Fd_Fr, q_Fd_Bt, va_ne eg]
    · rw [q_Td_Fd, q_Td_Td, q_Td_Fr, q_Td_Bt, va_ne (by omega)]
    · rw [q_Td_Fd, q_Td_Td, q_Td_Fr, q_Td_Bt, va_ne (by omega)]
    · intro i hi; rw [tFl, setb_ne (by omega)]
    · rw [tFd, setn_ne eg]
    · rw [tTo, setb_ne (by omega), setb_ne h2.1]
    · rw [tTo, setb_ne (by omega), setb_ne h2.2]
theorem freF_LK {N : Nat} {σ : gS} {τ : mS} {g0 k : Nat} {fo : Bool} (h : LK N σ τ) (hg0 : g0 < 4) (hk : k < 128) (hb : sBt σ (2 * g0 + 1) k = true) : LK N (sFreF σ g0 k fo) (mMkF τ g0 k false fo) := by
  obtain ⟨⟨a1, a2, a3⟩, b, ⟨c1, c2⟩, d, e, f, g1, g2, g3, g4⟩ := h.2 g0 hg0
  have hcnt := c0_set_f hb 128 hk
  have hs : sFreF σ g0 k fo = uFd (uTd (uFr (uBt σ (2 * g0 + 1) (setb (sBt σ (2 * g0 + 1)) k false)) (2 * g0 + 1) (sFr σ (2 * g0 + 1) + 1)) (2 * g0 + 1) true) g0 (mFdN τ g0 false fo) := by
    rw [sFreF, sFre_t (by omega) hb]
    cases fo with
    | true => rw [sFol, if_pos rfl, show mFdN τ g0 false true = sFd σ g0 - 1 from by rw [mFdN, if_neg (by decide), if_neg (by decide), g2]]
    | false =>
      rw [sFol, if_neg (by decide), show mFdN τ g0 false false = sFd σ g0 from by rw [mFdN, if_pos rfl, g2]]
      show _ = (_, _, _, _, va_up (sFd σ) g0 (sFd σ g0), _, _, _, _)
      rw [va_up_id]; rfl
  have hfd : mFdN τ g0 false fo ≤ N := by
    unfold mFdN
    cases fo with
    | true => rw [if_neg (by decide), if_neg (by decide)]; omega
    | false => rw [if_pos rfl]; omega
  rw [hs]
  have tTo : mTo (mMkF τ g0 k false fo) = setb (setb (mTo τ) 1 true) (256 * g0 + gHd g0 + 1) true := rfl
  have tFl : mFl (mMkF τ g0 k false fo) = setb (mFl τ) (128 * g0 + k) false := rfl
  have tFd : mFd (mMkF τ g0 k false fo) = setn (mFd τ) g0 (mFdN τ g0 false fo) := rfl
  have hh0 := gHd_le g0
  refine ⟨fun y hy hn => by rw [tTo, setb_ne (hn.2 g0 hg0).2, setb_ne hn.1]; exact h.1 y hy hn, fun g hg => ?_⟩
  have hh := gHd_le g
  have h2 : ¬ 256 * g + gHd g = 1 ∧ ¬ 256 * g + gHd g + 1 = 1 := by
    unfold gHd
    split <;> omega
  by_cases eg : g = g0
  · subst eg
    unfold GI
    rw [q_Sz_Fd, q_Sz_Td, q_Sz_Fr, q_Sz_Bt, q_Bt_Fd, q_Bt_Td, q_Bt_Fr, q_Bt_Bt, q_Fr_Fd, q_Fr_Td, q_Fr_Fr, q_Fr_Bt, q_Fd_Fd, q_Fd_Td, q_Fd_Fr, q_Fd_Bt, q_Td_Fd, q_Td_Td, q_Td_Fr, q_Td_Bt, va_up_at, va_up_at, va_up_at, va_up_at, va_ne (by omega), va_ne (by omega), va_ne (by omega), tTo, tFl, tFd]
    refine ⟨⟨a1, a2, a3⟩, b, ⟨c1, by omega⟩, hfd, e, f, fun i hi => ?_, setn_at _ _ _, by rw [setb_ne (by omega), setb_ne h2.1]; exact g3, setb_at _ _ _⟩
    by_cases ei : i = k
    · rw [ei, setb_at, setb_at]
    · rw [setb_ne (by omega), setb_ne ei]; exact g1 i hi
  · refine GI_congr (h.2 g hg) (Nat.le_refl _) rfl rfl ?_ ?_ ?_ ?_ ?_ ?_ ?_ rfl (fun _ _ => rfl) ?_ ?_ ?_ ?_
    · rw [q_Bt_Fd, q_Bt_Td, q_Bt_Fr, q_Bt_Bt, va_ne (by omega)]
    · rw [q_Bt_Fd, q_Bt_Td, q_Bt_Fr, q_Bt_Bt, va_ne (by omega)]
    · rw [q_Fr_Fd, q_Fr_Td, q_Fr_Fr, q_Fr_Bt, va_ne (by omega)]
    · rw [q_Fr_Fd, q_Fr_Td, q_Fr_Fr, q_Fr_Bt, va_ne (by omega)]
    · rw [q_Fd_Fd, q_Fd_Td, q_Fd_Fr, q_Fd_Bt, va_ne eg]
    · rw [q_Td_Fd, q_Td_Td, q_Td_Fr, q_Td_Bt, va_ne (by omega)]
    · rw [q_Td_Fd, q_Td_Td, q_Td_Fr, q_Td_Bt, va_ne (by omega)]
    · intro i hi; rw [tFl, setb_ne (by omega)]
    · rw [tFd, setn_ne eg]
    · rw [tTo, setb_ne (by omega), setb_ne h2.1]
    · rw [tTo, setb_ne (by omega), setb_ne h2.2]
/-! settle -/
theorem sStl_o (σ : gS) (g : Nat) : sCnt (sStl σ g) = sCnt σ ∧ sRsv (sStl σ g) = sRsv σ ∧ sLat (sStl σ g) = sLat σ ∧ sTT (sStl σ g) = false ∧ sFd (sStl σ g) = sFd σ ∧ sSz (sStl σ g) = sSz σ ∧ sFr (sStl σ g) = sFr σ ∧ sBt (sStl σ g) = sBt σ := by
  induction g with
  | zero => exact ⟨rfl, rfl, rfl, rfl, rfl, rfl, rfl, rfl⟩
  | succ g ih =>
    obtain ⟨a1, a2, a3, a4, a5, a6, a7, a8⟩ := ih
    rw [sStl]
    refine ⟨?_, ?_, ?_, ?_, ?_, ?_, ?_, ?_⟩
    · rw [q_Cnt_Td, q_Cnt_Td, a1]
    · rw [q_Rsv_Td, q_Rsv_Td, a2]
    · rw [q_Lat_Td, q_Lat_Td, a3]
    · rw [q_TT_Td, q_TT_Td, a4]
    · rw [q_Fd_Td, q_Fd_Td, a5]
    · rw [q_Sz_Td, q_Sz_Td, a6]
    · rw [q_Fr_Td, q_Fr_Td, a7]
    · rw [q_Bt_Td, q_Bt_Td, a8]
theorem sStl_td (σ : gS) (j : Nat) : ∀ g : Nat, sTd (sStl σ g) j = if j < 2 * g then false else sTd σ j := by
  intro g
  induction g with
  | zero => rw [if_neg (by omega)]; rfl
  | succ g ih =>
    rw [sStl, q_Td_Td, q_Td_Td]
    by_cases e : j = 2 * g + 1
    · rw [e, va_up_at, if_pos (by omega)]
    · rw [va_ne e]
      by_cases e2 : j = 2 * g
      · rw [e2, va_up_at, if_pos (by omega)]
      · rw [va_ne e2, ih]
        by_cases e3 : j < 2 * g
        · rw [if_pos e3, if_pos (by omega)]
        · rw [if_neg e3, if_neg (by omega)]
theorem RK.set {N : Nat} {σ : gS} {τ : mS} (h : RK N σ τ) : RK N (sStl σ 4) (mSet τ) := by
  obtain ⟨⟨a1, a2, a3, a4, a5, a6, a7, a8⟩, b1, b2⟩ := h
  obtain ⟨c1, c2, c3, c4, c5, c6, c7, c8⟩ := sStl_o σ 4
  have tTo : mTo (mSet τ) = clr (mTo τ) 1024 := rfl
  have tz : ∀ b, b < 1024 → mTo (mSet τ) b = false := fun b hb => by rw [tTo]; exact if_pos hb
  refine ⟨⟨by rw [c1]; exact a1, by rw [c1]; exact a2, by rw [c1]; exact a3, by rw [c2]; exact a4, by rw [c2]; exact a5, by rw [c3]; exact a6, fun g hg => by rw [c1] at hg; rw [c6]; exact a7 g hg, by rw [c4]; exact tz 1 (by omega)⟩, fun b hb _ => tz b hb, fun g hg => ?_⟩
  obtain ⟨⟨d1, d2, d3⟩, e, ⟨f1, f2⟩, i, j, k, l, m, -, -⟩ := b2 g hg
  have hh := gHd_le g
  unfold GI
  rw [c5, c6, c7, c8, sStl_td, sStl_td, if_pos (by omega), if_pos (by omega)]
  exact ⟨⟨d1, d2, d3⟩, e, ⟨f1, f2⟩, i, j, k, l, m, tz _ (by omega), tz _ (by omega)⟩
theorem cT_rm {B : Nat → Bool} {p : Nat} : ∀ n : Nat, p < n → cT B n = cT (setb B p false) n + b1 (B p) := by
  intro n
  induction n with
  | zero => intro h; omega
  | succ n ih =>
    intro h
    by_cases e : p = n
    · subst e
      have hc : ∀ m, m ≤ p → cT (setb B p false) m = cT B m := by
        intro m
        induction m with
        | zero => intro _; rfl
        | succ m im =>
          intro hm
          have h1 := im (by omega)
          cases hb : B m with
          | true => rw [cT_t hb, cT_t ((setb_ne (by omega)).trans hb), h1]
          | false => rw [cT_f hb, cT_f ((setb_ne (by omega)).trans hb), h1]
      rw [cT_f (setb_at B p false), hc p (Nat.le_refl _)]
      cases hb : B p with
      | true => rw [cT_t hb]; rfl
      | false => rw [cT_f hb]; rfl
    · have h1 := ih (by omega)
      cases hb : B n with
      | true => rw [cT_t hb, cT_t ((setb_ne (by omega)).trans hb), h1]; omega
      | false => rw [cT_f hb, cT_f ((setb_ne (by omega)).trans hb), h1]
theorem cT_0 {B : Nat → Bool} : ∀ n : Nat, (∀ k, k < n → B k = false) → cT B n = 0 := by
  intro n
  induction n with
  | zero => intro _; rfl
  | succ n ih => intro h; rw [cT_f (h n (by omega)), ih (fun k hk => h k (by omega))]
theorem sSc_4 (σ : gS) : sSc σ 4 = b1 (sTT σ) + b1 (sTd σ 0) + b1 (sTd σ 1) + b1 (sTd σ 2) + b1 (sTd σ 3) + b1 (sTd σ 4) + b1 (sTd σ 5) + b1 (sTd σ 6) + b1 (sTd σ 7) := by
  have h : ∀ g, sSc σ (g + 1) = sSc σ g + b1 (sTd σ (2 * g)) + b1 (sTd σ (2 * g + 1)) := by
    intro g
    rw [sSc, q_Td_Td, va_ne (by omega), sStl_td, sStl_td, if_neg (by omega), if_neg (by omega)]
  rw [h 3, h 2, h 1, h 0]
  rfl
theorem RK.cnt {N : Nat} {σ : gS} {τ : mS} (h : RK N σ τ) : cT (mTo τ) 1024 = sSc σ 4 := by
  obtain ⟨⟨-, -, -, -, -, -, -, a8⟩, b1', b2⟩ := h
  have g0 := b2 0 (by omega)
  have g1 := b2 1 (by omega)
  have g2 := b2 2 (by omega)
  have g3 := b2 3 (by omega)
  have t0 : mTo τ 2 = sTd σ 0 := g0.2.2.2.2.2.2.2.2.1
  have t1 : mTo τ 3 = sTd σ 1 := g0.2.2.2.2.2.2.2.2.2
  have t2 : mTo τ 258 = sTd σ 2 := g1.2.2.2.2.2.2.2.2.1
  have t3 : mTo τ 259 = sTd σ 3 := g1.2.2.2.2.2.2.2.2.2
  have t4 : mTo τ 512 = sTd σ 4 := g2.2.2.2.2.2.2.2.2.1
  have t5 : mTo τ 513 = sTd σ 5 := g2.2.2.2.2.2.2.2.2.2
  have t6 : mTo τ 770 = sTd σ 6 := g3.2.2.2.2.2.2.2.2.1
  have t7 : mTo τ 771 = sTd σ 7 := g3.2.2.2.2.2.2.2.2.2
  rw [sSc_4, cT_rm (p := 1) 1024 (by omega), cT_rm (p := 2) 1024 (by omega), cT_rm (p := 3) 1024 (by omega), cT_rm (p := 258) 1024 (by omega), cT_rm (p := 259) 1024 (by omega), cT_rm (p := 512) 1024 (by omega), cT_rm (p := 513) 1024 (by omega), cT_rm (p := 770) 1024 (by omega), cT_rm (p := 771) 1024 (by omega)]
  have hz : cT (setb (setb (setb (setb (setb (setb (setb (setb (setb (mTo τ) 1 false) 2 false) 3 false) 258 false) 259 false) 512 false) 513 false) 770 false) 771 false) 1024 = 0 := by
    refine cT_0 1024 (fun k hk => ?_)
    unfold setb
    repeat (split; rfl)
    rename_i e1 e2 e3 e4 e5 e6 e7 e8 e9
    refine b1' k hk ⟨by omega, fun g hg => ?_⟩
    rcases lt4 hg with rfl | rfl | rfl | rfl
    · exact ⟨show k ≠ 2 by omega, show k ≠ 3 by omega⟩
    · exact ⟨show k ≠ 258 by omega, show k ≠ 259 by omega⟩
    · exact ⟨show k ≠ 512 by omega, show k ≠ 513 by omega⟩
    · exact ⟨show k ≠ 770 by omega, show k ≠ 771 by omega⟩
  rw [hz]
  simp only [setb_ne (show (2 : Nat) ≠ 1 by omega), setb_ne (show (3 : Nat) ≠ 1 by omega), setb_ne (show (3 : Nat) ≠ 2 by omega), setb_ne (show (258 : Nat) ≠ 1 by omega), setb_ne (show (258 : Nat) ≠ 2 by omega), setb_ne (show (258 : Nat) ≠ 3 by omega), setb_ne (show (259 : Nat) ≠ 1 by omega), setb_ne (show (259 : Nat) ≠ 2 by omega), setb_ne (show (259 : Nat) ≠ 3 by omega), setb_ne (show (259 : Nat) ≠ 258 by omega), setb_ne (show (512 : Nat) ≠ 1 by omega), setb_ne (show (512 : Nat) ≠ 2 by omega), setb_ne (show (512 : Nat) ≠ 3 by omega), setb_ne (show (512 : Nat) ≠ 258 by omega), setb_ne (show (512 : Nat) ≠ 259 by omega), setb_ne (show (513 : Nat) ≠ 1 by omega), setb_ne (show (513 : Nat) ≠ 2 by omega), setb_ne (show (513 : Nat) ≠ 3 by omega), setb_ne (show (513 : Nat) ≠ 258 by omega), setb_ne (show (513 : Nat) ≠ 259 by omega), setb_ne (show (513 : Nat) ≠ 512 by omega), setb_ne (show (770 : Nat) ≠ 1 by omega), setb_ne (show (770 : Nat) ≠ 2 by omega), setb_ne (show (770 : Nat) ≠ 3 by omega), setb_ne (show (770 : Nat) ≠ 258 by omega), setb_ne (show (770 : Nat) ≠ 259 by omega), setb_ne (show (770 : Nat) ≠ 512 by omega), setb_ne (show (770 : Nat) ≠ 513 by omega), setb_ne (show (771 : Nat) ≠ 1 by omega), setb_ne (show (771 : Nat) ≠ 2 by omega), setb_ne (show (771 : Nat) ≠ 3 by omega), setb_ne (show (771 : Nat) ≠ 258 by omega), setb_ne (show (771 : Nat) ≠ 259 by omega), setb_ne (show (771 : Nat) ≠ 512 by omega), setb_ne (show (771 : Nat) ≠ 513 by omega), setb_ne (show (771 : Nat) ≠ 770 by omega), a8, t0, t1, t2, t3, t4, t5, t6, t7]
  omega
