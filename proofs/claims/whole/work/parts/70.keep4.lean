theorem RI.inb {σ : gS} {τ : mS} (h : RI σ τ) {q : Nat} (hq : q < sAll σ) : q / 256 < sCnt σ ∧ q % 256 < sSz σ (2 * (q / 256)) := by
  have h1 := h.sb.1
  have h4 := h.sb.2.1
  have hlast := h.szle (g := sCnt σ - 1) (by omega)
  unfold sAll at hq
  rcases Nat.lt_or_ge (q / 256 + 1) (sCnt σ) with z | z
  · rw [h.1.2.2.1 (q / 256) z]
    exact ⟨by omega, by omega⟩
  · have e : q / 256 = sCnt σ - 1 := by omega
    rw [e]
    exact ⟨by omega, by omega⟩
theorem RI.bt {σ : gS} {τ : mS} (h : RI σ τ) {g k : Nat} (hg : g < 4) (hs : sSet σ (2 * g) k = false) : k < sSz σ (2 * g) ∧ sBt σ (2 * g) k = false := by
  rcases Nat.lt_or_ge k (sSz σ (2 * g)) with q | q
  · have := h.szle hg
    exact ⟨q, (sSet_lt (by rw [gLen_even]; omega)).symm.trans hs⟩
  · rw [h.ssg hg q] at hs; cases hs
/-! blocks given -/
def sGives (σ : gS) (a : Nat) : Nat → gS
  | 0 => σ
  | t + 1 => sFre (sGives σ a t) (2 * ((a + t) / 256)) ((a + t) % 256)
theorem sGives_o (σ : gS) (a t : Nat) : sCnt (sGives σ a t) = sCnt σ ∧ sRsv (sGives σ a t) = sRsv σ ∧ sLat (sGives σ a t) = sLat σ ∧ sSz (sGives σ a t) = sSz σ ∧ sFd (sGives σ a t) = sFd σ ∧ sTT (sGives σ a t) = sTT σ := by
  induction t with
  | zero => exact ⟨rfl, rfl, rfl, rfl, rfl, rfl⟩
  | succ t ih =>
    obtain ⟨a1, a2, a3, a4, a5, a6⟩ := ih
    obtain ⟨b1, b2, b3, b4, b5, b6⟩ := sFre_o (sGives σ a t) (2 * ((a + t) / 256)) ((a + t) % 256)
    exact ⟨b1.trans a1, b2.trans a2, b3.trans a3, b4.trans a4, b5.trans a5, b6.trans a6⟩
theorem sBt_sFre {σ : gS} {j k j2 k2 : Nat} (h : j2 ≠ j ∨ k2 ≠ k) : sBt (sFre σ j k) j2 k2 = sBt σ j2 k2 := by
  unfold sFre
  split
  · rw [q_Bt_Td, q_Bt_Fr, q_Bt_Bt]
    by_cases e : j2 = j
    · subst e
      rw [va_up_at]
      exact setb_ne (h.resolve_left (fun z => z rfl))
    · rw [va_ne e]
  · rfl
theorem sBt_sGives {σ : gS} {a p : Nat} : ∀ t : Nat, a + t ≤ p → sBt (sGives σ a t) (2 * (p / 256)) (p % 256) = sBt σ (2 * (p / 256)) (p % 256) := by
  intro t
  induction t with
  | zero => intro _; rfl
  | succ t ih =>
    intro h
    rw [sGives, sBt_sFre (by omega)]
    exact ih (by omega)
theorem sGv_all {σ : gS} {a : Nat} : ∀ {q : Nat}, sGv σ a q = true → ∀ t, t < q → sGv1 σ (a + t) = true := by
  intro q
  induction q with
  | zero => intro _ t ht; omega
  | succ q ih =>
    intro h t ht
    rw [sGv_s, Bool.and_eq_true] at h
    rcases Nat.lt_succ_iff_lt_or_eq.mp ht with z | z
    · exact ih h.1 t z
    · rw [z]; exact h.2
theorem gives_LK {N : Nat} {σ : gS} {τ : mS} (h : RK N σ τ) (hN : N < 65536) {a q : Nat} (haq : a + q ≤ sAll σ) (hg : sGv σ a q = true) : ∀ t : Nat, t ≤ q → LK N (sGives σ a t) (mMark τ a false t) := by
  have hR := h.ri hN
  intro t
  induction t with
  | zero => intro _; exact h.2.one true
  | succ t ih =>
    intro ht
    obtain ⟨i1, i2⟩ := hR.inb (q := a + t) (by omega)
    have hc := hR.sb.2.1
    have hset := sGv_all hg t (by omega)
    unfold sGv1 at hset
    rw [Bool.and_eq_true] at hset
    have hb : sBt σ (2 * ((a + t) / 256)) ((a + t) % 256) = true := by
      rw [← sSet_lt (by rw [gLen_even]; omega)]; exact hset.2
    have hz := (sGives_o σ a t).2.2.2.1
    have := fre_LK (ih (by omega)) (g0 := (a + t) / 256) (k := (a + t) % 256) (by omega) (by rw [hz]; exact i2) (by rw [sBt_sGives t (Nat.le_refl _)]; exact hb)
    rw [show 256 * ((a + t) / 256) + (a + t) % 256 = a + t by omega] at this
    exact this
theorem mMark_o (τ : mS) (a : Nat) (v : Bool) (t : Nat) : mGr (mMark τ a v t) = mGr τ ∧ mRs (mMark τ a v t) = mRs τ ∧ mLt (mMark τ a v t) = mLt τ ∧ mTo (mMark τ a v t) 1 = true := by
  induction t with
  | zero => exact ⟨rfl, rfl, rfl, show setb (mTo τ) 1 true 1 = true from setb_at _ _ _⟩
  | succ t ih =>
    obtain ⟨a1, a2, a3, a4⟩ := ih
    refine ⟨a1, a2, a3, ?_⟩
    show setb (mTo (mMark τ a v t)) (256 * ((a + t) / 256) + gHd ((a + t) / 256)) true 1 = true
    unfold setb
    split
    · rfl
    · exact a4
theorem RK.give {N : Nat} {σ : gS} {τ : mS} (h : RK N σ τ) (hN : N < 65536) {a q : Nat} (haq : a + q ≤ sAll σ) (hg : sGv σ a q = true) : RK N (uTT (sGives σ a q) true) (mMark τ a false q) := by
  have hl := gives_LK h hN haq hg q (Nat.le_refl _)
  obtain ⟨⟨a1, a2, a3, a4, a5, a6, a7, a8⟩, -⟩ := h
  obtain ⟨b1, b2, b3, b4, b5, b6⟩ := sGives_o σ a q
  obtain ⟨c1, c2, c3, c4⟩ := mMark_o τ a false q
  exact ⟨⟨by rw [q_Cnt_TT, b1]; exact a1, by rw [q_Cnt_TT, b1]; exact a2, by rw [q_Cnt_TT, b1, c1]; exact a3, by rw [q_Rsv_TT, b2, c2]; exact a4, by rw [q_Rsv_TT, b2]; exact a5, by rw [q_Lat_TT, b3, c3]; exact a6, fun g hg => by rw [q_Cnt_TT, b1] at hg; rw [q_Sz_TT, b4]; exact a7 g hg, c4⟩, hl⟩
/-! blocks taken -/
theorem sOccs_o (σ : gS) (j a t : Nat) : sCnt (sOccs σ j a t) = sCnt σ ∧ sRsv (sOccs σ j a t) = sRsv σ ∧ sLat (sOccs σ j a t) = sLat σ ∧ sSz (sOccs σ j a t) = sSz σ ∧ sFd (sOccs σ j a t) = sFd σ ∧ sTT (sOccs σ j a t) = sTT σ := by
  induction t with
  | zero => exact ⟨rfl, rfl, rfl, rfl, rfl, rfl⟩
  | succ t ih =>
    obtain ⟨a1, a2, a3, a4, a5, a6⟩ := ih
    obtain ⟨b1, b2, b3, b4, b5, b6⟩ := sOcc_o (sOccs σ j a t) j (a + t)
    exact ⟨b1.trans a1, b2.trans a2, b3.trans a3, b4.trans a4, b5.trans a5, b6.trans a6⟩
theorem sBt_sOcc {σ : gS} {j k k2 : Nat} (h : k2 ≠ k) : sBt (sOcc σ j k) j k2 = sBt σ j k2 := by
  unfold sOcc
  split
  · rfl
  · rw [q_Bt_Td, q_Bt_Fr, q_Bt_Bt, va_up_at]; exact setb_ne h
theorem sSet_sOccs {σ : gS} {j a i : Nat} : ∀ t : Nat, a + t ≤ i → sSet (sOccs σ j a t) j i = sSet σ j i := by
  intro t
  induction t with
  | zero => intro _; rfl
  | succ t ih =>
    intro h
    rw [← ih (by omega), sOccs]
    unfold sSet
    rw [sBt_sOcc (by omega)]
theorem occs_LK {N : Nat} {σ : gS} {τ : mS} (h : RK N σ τ) (hN : N < 65536) {g a q : Nat} (hg : g < 4) (hf : ∀ t, t < q → sSet σ (2 * g) (a + t) = false) : ∀ t : Nat, t ≤ q → LK N (sOccs σ (2 * g) a t) (mMark τ (256 * g + a) true t) := by
  have hR := h.ri hN
  intro t
  induction t with
  | zero => intro _; exact h.2.one true
  | succ t ih =>
    intro ht
    have hs := hf t (by omega)
    have hz := (sOccs_o σ (2 * g) a t).2.2.2.1
    have := occ_LK (ih (by omega)) (k := a + t) hg (by rw [hz]; exact (hR.bt hg hs).1) (by rw [sSet_sOccs t (Nat.le_refl _)]; exact hs)
    rw [← Nat.add_assoc] at this
    exact this
theorem occs_safe {N : Nat} {σ : gS} {τ : mS} (h : RK N σ τ) (hN : N < 65536) {g a q : Nat} (hg : g < 4) (hf : ∀ t, t < q → sSet σ (2 * g) (a + t) = false) : sSafe σ (2 * g) a q := by
  intro t ht hs
  have hR := h.ri hN
  have hl := occs_LK h hN hg hf t (by omega)
  obtain ⟨-, -, ⟨c1, -⟩, -⟩ := hl.2 g hg
  have hz := (sOccs_o σ (2 * g) a t).2.2.2.1
  obtain ⟨b1, b2⟩ := hR.bt hg (hf t ht)
  have hbt : sBt (sOccs σ (2 * g) a t) (2 * g) (a + t) = false := by
    rw [← sSet_lt (by rw [gLen_even]; have := hR.szle hg; omega)]; exact hs
  have := c0_set_t hbt (sSz (sOccs σ (2 * g) a t) (2 * g)) (by rw [hz]; exact b1)
  rw [c1]
  omega
theorem RK.run {N : Nat} {σ : gS} {τ : mS} (h : RK N σ τ) (hN : N < 65536) {g a q : Nat} (hg : g < 4) (hf : ∀ t, t < q → sSet σ (2 * g) (a + t) = false) : RK N (sRun σ g a q) (vLt (mMark τ (256 * g + a) true q) q) := by
  have hl := occs_LK h hN hg hf q (Nat.le_refl _)
  obtain ⟨⟨a1, a2, a3, a4, a5, a6, a7, a8⟩, -⟩ := h
  obtain ⟨b1, b2, b3, b4, b5, b6⟩ := sOccs_o σ (2 * g) a q
  obtain ⟨c1, c2, c3, c4⟩ := mMark_o τ (256 * g + a) true q
  exact ⟨⟨by rw [sRun, q_Cnt_TT, q_Cnt_Lat, b1]; exact a1, by rw [sRun, q_Cnt_TT, q_Cnt_Lat, b1]; exact a2, by rw [sRun, q_Cnt_TT, q_Cnt_Lat, b1, p_Gr_Lt, c1]; exact a3, by rw [sRun, q_Rsv_TT, q_Rsv_Lat, b2, p_Rs_Lt, c2]; exact a4, by rw [sRun, q_Rsv_TT, q_Rsv_Lat, b2]; exact a5, rfl, fun g hg => by rw [sRun, q_Cnt_TT, q_Cnt_Lat, b1] at hg; rw [sRun, q_Sz_TT, q_Sz_Lat, b4]; exact a7 g hg, by rw [p_To_Lt]; exact c4⟩, hl⟩
/-! runs: what the folds find is free -/
theorem sAf_all {σ : gS} {j a : Nat} : ∀ {q : Nat}, sAf σ j a q = true → ∀ t, t < q → sSet σ j (a + t) = false := by
  intro q
  induction q with
  | zero => intro _ t ht; omega
  | succ q ih =>
    intro h t ht
    have h : (sAf σ j a q && !sSet σ j (a + q)) = true := h
    rw [Bool.and_eq_true] at h
    rcases Nat.lt_succ_iff_lt_or_eq.mp ht with z | z
    · exact ih h.1 t z
    · rw [z]
      cases hs : sSet σ j (a + q) with
      | false => rfl
      | true => rw [hs] at h; exact absurd h.2 (by decide)
theorem lrF_cur (B : Nat → Bool) (k : Nat) : ∀ t, t < (lrF B k).2 → B (k - (lrF B k).2 + t) = false := by
  induction k with
  | zero => intro t ht; exact absurd ht (Nat.not_lt_zero _)
  | succ k ih =>
    intro t ht
    have e : (lrF B (k + 1)).2 = sLen (B k) (lrF B k).2 := rfl
    rw [e] at ht ⊢
    have hle := (lrF_le B k).2
    cases hb : B k with
    | true => rw [hb] at ht; exact absurd ht (Nat.not_lt_zero _)
    | false =>
      rw [hb] at ht
      have ht : t < (lrF B k).2 + 1 := ht
      show B (k + 1 - ((lrF B k).2 + 1) + t) = false
      rcases Nat.lt_succ_iff_lt_or_eq.mp ht with z | z
      · rw [show k + 1 - ((lrF B k).2 + 1) + t = k - (lrF B k).2 + t by omega]; exact ih t z
      · rw [show k + 1 - ((lrF B k).2 + 1) + t = k by omega]; exact hb
theorem srF_len (B : Nat → Bool) (q s0 k : Nat) : (srF B q s0 k).2.2 = (lrF B k).2 := by
  induction k with
  | zero => rfl
  | succ k ih =>
    show (sSrN q k (srF B q s0 k) (sLen (B k) (srF B q s0 k).2.2) (B (k + 1))).2.2 = sLen (B k) (lrF B k).2
    rw [ih]
    unfold sSrN
    split <;> rfl
theorem srF_free (B : Nat → Bool) (q s0 k : Nat) : ∀ a, (srF B q s0 k).1 = some a → ∀ t, t < (srF B q s0 k).2.1 → B (a + t) = false := by
  induction k with
  | zero => intro a h; cases h
  | succ k ih =>
    intro a h t ht
    have e : srF B q s0 (k + 1) = sSrN q k (srF B q s0 k) (sLen (B k) (srF B q s0 k).2.2) (B (k + 1)) := rfl
    rw [srF_len] at e
    rw [e] at h ht
    unfold sSrN at h ht
    split at h
    · rename_i hc
      rw [if_pos hc] at ht
      have h : k + 1 - sLen (B k) (lrF B k).2 = a := Option.some.inj h
      rw [← h]
      exact lrF_cur B (k + 1) t ht
    · rename_i hc
      rw [if_neg hc] at ht
      exact ih a h t ht
theorem sSr_free {σ : gS} {j q k a : Nat} (h : (sSr σ j q k).1 = some a) : ∀ t, t < q → sSet σ j (a + t) = false := by
  rw [sSr_eq] at h
  intro t ht
  have := ((srF_inv (sSet σ j) q (sSz σ j + 1) k).2.1 a h).1
  exact srF_free _ _ _ _ a h t (by omega)
theorem lrF_mono (B : Nat → Bool) (k : Nat) : ∀ t, (lrF B k).1 ≤ (lrF B (k + t)).1 := by
  intro t
  induction t with
  | zero => exact Nat.le_refl _
  | succ t ih => exact Nat.le_trans ih (Nat.le_max_left _ _)
/-- the shortest run of the longest length is the first of the longest -/
theorem srF_long {B : Nat → Bool} {n L : Nat} (hL : (lrF B n).1 = L) (hL0 : 0 < L) (he : B n = true) : ∀ k, k ≤ n → ((lrF B k).1 < L → (srF B L (n + 1) k).1 = none ∧ (srF B L (n + 1) k).2.1 = n + 1) ∧ ((lrF B k).1 = L → (srF B L (n + 1) k).1 = some (lpF B k) ∧ (srF B L (n + 1) k).2.1 = L) := by
  intro k
  induction k with
  | zero => intro _; exact ⟨fun _ => ⟨rfl, rfl⟩, fun h => absurd h (by show ¬ 0 = L; omega)⟩
  | succ k ih =>
    intro hk
    obtain ⟨i1, i2⟩ := ih (by omega)
    have hle := lrF_mono B (k + 1) (n - (k + 1))
    rw [show k + 1 + (n - (k + 1)) = n by omega, hL] at hle
    have e : srF B L (n + 1) (k + 1) = sSrN L k (srF B L (n + 1) k) (sLen (B k) (lrF B k).2) (B (k + 1)) := by
      show sSrN L k (srF B L (n + 1) k) (sLen (B k) (srF B L (n + 1) k).2.2) (B (k + 1)) = _
      rw [srF_len]
    have e1 : (lrF B (k + 1)).1 = Nat.max (lrF B k).1 (sLen (B k) (lrF B k).2) := rfl
    have e2 : lpF B (k + 1) = if (lrF B k).1 < sLen (B k) (lrF B k).2 then k + 1 - sLen (B k) (lrF B k).2 else lpF B k := rfl
    have e3 : (lrF B (k + 1)).2 = sLen (B k) (lrF B k).2 := rfl
    have hlb := (lrF_le B k).2
    have hsl := sLen_le (B k) (lrF B k).2
    have hla : (lrF B k).1 ≤ L := by rw [e1] at hle; exact Nat.le_trans (Nat.le_max_left _ _) hle
    have hlen : sLen (B k) (lrF B k).2 ≤ L := by rw [e1] at hle; exact Nat.le_trans (Nat.le_max_right _ _) hle
    have hend : sLen (B k) (lrF B k).2 = L → B (k + 1) = true := by
      intro hq
      rcases Nat.lt_or_ge (k + 1) n with z | z
      · cases hb : B (k + 1) with
        | true => rfl
        | false =>
          have h9 := lrF_mono B (k + 1 + 1) (n - (k + 1 + 1))
          rw [show k + 1 + 1 + (n - (k + 1 + 1)) = n by omega, hL] at h9
          have h8 : (lrF B (k + 1 + 1)).1 = Nat.max (lrF B (k + 1)).1 (sLen (B (k + 1)) (lrF B (k + 1)).2) := rfl
          rw [hb, e3, hq] at h8
          have h7 : L + 1 ≤ (lrF B (k + 1 + 1)).1 := by rw [h8]; exact Nat.le_max_right _ _
          omega
      · rw [show k + 1 = n by omega]; exact he
    generalize sLen (B k) (lrF B k).2 = len at *
    rw [e, e1, e2]
    rcases Nat.lt_or_ge (lrF B k).1 L with q1 | q1
    · obtain ⟨j1, j2⟩ := i1 q1
      rcases Nat.lt_or_ge len L with q2 | q2
      · rw [sSrN_1 q2]
        have hm : Nat.max (lrF B k).1 len < L := Nat.max_lt.mpr ⟨q1, q2⟩
        exact ⟨fun _ => ⟨j1, j2⟩, fun h => absurd h (by omega)⟩
      · have q3 : len = L := by omega
        rw [sSrN_4 (by omega) (by rw [j2]; omega) (hend q3), if_pos (by omega)]
        have hm : Nat.max (lrF B k).1 len = L := by rw [q3]; exact Nat.max_eq_right (by omega)
        exact ⟨fun h => absurd h (by omega), fun _ => ⟨rfl, q3⟩⟩
    · have q4 : (lrF B k).1 = L := by omega
      obtain ⟨j1, j2⟩ := i2 q4
      have hsk : sSrN L k (srF B L (n + 1) k) len (B (k + 1)) = ((srF B L (n + 1) k).1, (srF B L (n + 1) k).2.1, len) := by
        unfold sSrN
        exact if_neg (fun z => by rw [j2] at z; exact Nat.lt_irrefl _ (Nat.lt_of_le_of_lt z.1 z.2.1))
      rw [hsk, if_neg (by omega)]
      have hm : Nat.max (lrF B k).1 len = L := by rw [q4]; exact Nat.max_eq_left hlen
      exact ⟨fun h => absurd h (by omega), fun _ => ⟨j1, j2⟩⟩
theorem lrF_pos {B : Nat → Bool} {n : Nat} (h : 0 < c0 B n) : 0 < (lrF B n).1 := by
  induction n with
  | zero => exact absurd h (Nat.lt_irrefl 0)
  | succ n ih =>
    cases hb : B n with
    | true => rw [c0_t hb] at h; exact Nat.lt_of_lt_of_le (ih h) (Nat.le_max_left _ _)
    | false =>
      refine Nat.lt_of_lt_of_le ?_ (Nat.le_max_right (lrF B n).1 (sLen (B n) (lrF B n).2))
      rw [hb]; exact Nat.succ_pos _
