/-! ===== what the steps of the law need ===== -/
theorem i_nat {x : Int32} {lo hi : Nat} (hlo : lo < 2 ^ 31) (hhi : hi < 2 ^ 31) (h1 : ¬ x < nI lo) (h2 : ¬ nI hi < x) : ∃ a, x = nI a ∧ lo ≤ a ∧ a ≤ hi := by
  rw [Int32.lt_iff_toInt_lt, nI_toInt hlo] at h1
  rw [Int32.lt_iff_toInt_lt, nI_toInt hhi] at h2
  refine ⟨x.toInt.toNat, ?_, by omega, by omega⟩
  apply Int32.toInt_inj.mp
  rw [nI_toInt (by omega)]
  omega
theorem hasB_nat {σ : gS} (hσ : sB σ) {x : Int32} (h : sHasB σ x = true) : ∃ q, x = nI q ∧ q < sAll σ := by
  have h1 := sAll_le hσ
  simp only [sHasB, Bool.and_eq_true, decide_eq_true_eq] at h
  refine ⟨x.toInt.toNat, ?_, by omega⟩
  apply Int32.toInt_inj.mp
  rw [nI_toInt (by omega)]
  omega
theorem hasF_nat {σ : gS} (hσ : sB σ) {x : Int32} (h : sHasF σ x = true) : ∃ f, x = nI f ∧ 1 ≤ f ∧ f ≤ sCnt σ * 128 := by
  have h1 := hσ.2.1
  simp only [sHasF, Bool.and_eq_true, decide_eq_true_eq] at h
  refine ⟨x.toInt.toNat, ?_, by omega, by omega⟩
  apply Int32.toInt_inj.mp
  rw [nI_toInt (by omega)]
  omega
theorem mTh_mLays (τ : mS) (c la : Nat) : ∀ n : Nat, mTh (mLays τ c la n) = mTh τ := by
  intro n
  induction n with
  | zero => rfl
  | succ n ih => exact ih
theorem mTh_mMark (τ : mS) (a : Nat) (v : Bool) : ∀ n : Nat, mTh (mMark τ a v n) = mTh τ := by
  intro n
  induction n with
  | zero => rfl
  | succ n ih => exact ih
theorem mTh_tk1 (σ : gS) (τ : mS) (g q : Nat) : ∀ n : Nat, mTh (tk1 σ τ g q n) = mTh τ := by
  intro n
  induction n with
  | zero => rfl
  | succ n ih => exact ih
theorem mTh_tk2 (σ : gS) (τ : mS) (g : Nat) : ∀ n : Nat, mTh (tk2 σ τ g n) = mTh τ := by
  intro n
  induction n with
  | zero => rfl
  | succ n ih => exact ih
/-! files -/
theorem sLf_TT (σ : gS) (j : Nat) (v : Bool) : ∀ n : Nat, sLf (uTT σ v) j n = sLf σ j n := by
  intro n
  induction n with
  | zero => rfl
  | succ n ih =>
    show (match sLf (uTT σ v) j n with | some q => some q | none => if sSet σ j n = true then none else some n) = _
    rw [ih]
    rfl
theorem sOcc_TT (σ : gS) (j k : Nat) (v : Bool) : sOcc (uTT σ v) j k = uTT (sOcc σ j k) v := by
  unfold sOcc
  by_cases h : sSet σ j k = true
  · rw [if_pos h, if_pos (show sSet (uTT σ v) j k = true from h)]
  · rw [if_neg h, if_neg (show ¬ sSet (uTT σ v) j k = true from h)]
    rfl
theorem sOccF_TT (σ : gS) (g k : Nat) (fo v : Bool) : sOccF (uTT σ v) g k fo = uTT (sOccF σ g k fo) v := by
  unfold sOccF sFol
  rw [sOcc_TT]
  cases fo <;> rfl
theorem sFF_pos {σ : gS} : ∀ {n : Nat}, 0 < sFF σ n → ∃ g, g < n ∧ 0 < sFr σ (2 * g + 1) := by
  intro n
  induction n with
  | zero => intro h; exact absurd h (Nat.lt_irrefl 0)
  | succ n ih =>
    intro h
    have h : 0 < sFF σ n + sFr σ (2 * n + 1) := h
    by_cases h2 : 0 < sFr σ (2 * n + 1)
    · exact ⟨n, by omega, h2⟩
    · obtain ⟨g, h3, h4⟩ := ih (by omega)
      exact ⟨g, by omega, h4⟩
theorem sFF_zero {σ : gS} : ∀ {n : Nat}, sFF σ n = 0 → ∀ g, g < n → sFr σ (2 * g + 1) = 0 := by
  intro n
  induction n with
  | zero => intro _ g hg; exact absurd hg (Nat.not_lt_zero g)
  | succ n ih =>
    intro h g hg
    have h : sFF σ n + sFr σ (2 * n + 1) = 0 := h
    by_cases e : g = n
    · subst e; omega
    · exact ih (by omega) g (by omega)
theorem sFB_pos {σ : gS} : ∀ {n : Nat}, 0 < sFB σ n → ∃ g, g < n ∧ 0 < sFr σ (2 * g) := by
  intro n
  induction n with
  | zero => intro h; exact absurd h (Nat.lt_irrefl 0)
  | succ n ih =>
    intro h
    have h : 0 < sFB σ n + sFr σ (2 * n) := h
    by_cases h2 : 0 < sFr σ (2 * n)
    · exact ⟨n, by omega, h2⟩
    · obtain ⟨g, h3, h4⟩ := ih (by omega)
      exact ⟨g, by omega, h4⟩
theorem sNx_ltC {σ : gS} (hσ : sB σ) (g k : Nat) : sNx σ g k < sCnt σ := Nat.mod_lt _ hσ.1
theorem sNx_onto {σ : gS} {g p : Nat} (hg : g < sCnt σ) (hp : p < sCnt σ) : ∃ k, k < sCnt σ ∧ sNx σ p k = g := by
  by_cases h : p ≤ g
  · exact ⟨g - p, by omega, by unfold sNx; rw [show p + (g - p) = g by omega]; exact Nat.mod_eq_of_lt hg⟩
  · refine ⟨sCnt σ + g - p, by omega, ?_⟩
    unfold sNx
    rw [show p + (sCnt σ + g - p) = g + sCnt σ by omega, Nat.add_mod_right]
    exact Nat.mod_eq_of_lt hg
theorem sFst_spec {σ : gS} {g : Nat} {P : Nat → Bool} : ∀ {n z : Nat}, sFst σ g P n = some z → P z = true ∧ ∃ k, k < n ∧ z = sNx σ g k := by
  intro n
  induction n with
  | zero => intro z h; cases h
  | succ n ih =>
    intro z h
    unfold sFst at h
    cases hq : sFst σ g P n with
    | some y =>
      rw [hq] at h; cases h
      obtain ⟨a, k, b, c⟩ := ih hq
      exact ⟨a, k, by omega, c⟩
    | none =>
      rw [hq] at h
      dsimp only at h
      split at h
      · cases h; exact ⟨by assumption, n, by omega, rfl⟩
      · cases h
theorem sFst_no {σ : gS} {g : Nat} {P : Nat → Bool} : ∀ {n : Nat}, sFst σ g P n = none → ∀ k, k < n → P (sNx σ g k) = false := by
  intro n
  induction n with
  | zero => intro _ k hk; exact absurd hk (Nat.not_lt_zero k)
  | succ n ih =>
    intro h k hk
    unfold sFst at h
    cases hq : sFst σ g P n with
    | some y => rw [hq] at h; cases h
    | none =>
      rw [hq] at h
      dsimp only at h
      split at h
      · cases h
      · rename_i h9
        by_cases e : k = n
        · subst e; exact Bool.eq_false_iff.mpr h9
        · exact ih hq k (by omega)
theorem sLeast_p {σ : gS} {g : Nat} : ∀ {n z : Nat}, sLeast σ g n = some z → pLeast σ z = true := by
  intro n
  induction n with
  | zero => intro z h; cases h
  | succ n ih =>
    intro z h
    have h : sLeastN σ (sLeast σ g n) (sNx σ g n) = some z := h
    unfold sLeastN at h
    split at h
    · rename_i h9
      cases hq : sLeast σ g n with
      | none => rw [hq] at h; cases h; exact h9
      | some y =>
        rw [hq] at h
        dsimp only at h
        split at h
        · cases h; exact h9
        · cases h; exact ih hq
    · exact ih h
theorem sPl_p {σ : gS} {p : Nat} : ∀ {n z : Nat}, sPl σ p n = some z → sHas σ z = true ∧ ∃ k, z = sNx σ p k := by
  intro n
  induction n with
  | zero => intro z h; cases h
  | succ n ih =>
    intro z h
    unfold sPl at h
    cases hq : sPl σ p n with
    | some y => rw [hq] at h; cases h; exact ih hq
    | none =>
      rw [hq] at h
      dsimp only at h
      split at h
      · cases h; exact ⟨by assumption, _, rfl⟩
      · cases h
theorem pLeast_fr {σ : gS} {x : Nat} (h : pLeast σ x = true) : 0 < sFr σ (2 * x + 1) := by
  rcases Nat.eq_zero_or_pos (sFr σ (2 * x + 1)) with e | e
  · rw [pLeast_0 e] at h; cases h
  · exact e
theorem sHas_fr {σ : gS} {x : Nat} (h : sHas σ x = true) : 0 < sFr σ (2 * x + 1) := by
  rcases Nat.eq_zero_or_pos (sFr σ (2 * x + 1)) with e | e
  · rw [sHas_1 (by omega)] at h; cases h
  · exact e
theorem pRoom_fr {σ : gS} {x : Nat} (h : pRoom σ x = true) : 0 < sFr σ (2 * x + 1) := by
  rcases Nat.eq_zero_or_pos (sFr σ (2 * x + 1)) with e | e
  · rw [pRoom_2 e] at h; cases h
  · exact e
theorem pFile_fr {σ : gS} {x : Nat} (h : pFile σ x = true) : 0 < sFr σ (2 * x + 1) := by
  simp only [pFile, decide_eq_true_eq] at h
  omega
theorem sFolder_fr {σ : gS} (hσ : sB σ) {f g : Nat} (h : sFolder σ f = some g) : g < 4 ∧ 0 < sFr σ (2 * g + 1) := by
  unfold sFolder at h
  split at h
  · rename_i z hz
    cases h
    split at hz
    · exact ⟨sLeast_lt hσ hz, pLeast_fr (sLeast_p hz)⟩
    · cases hz
  · split at h
    · rename_i z hz
      cases h
      exact ⟨sFst_lt hσ hz, pRoom_fr (sFst_spec hz).1⟩
    · exact ⟨sFst_lt hσ h, pFile_fr (sFst_spec h).1⟩
theorem sPlain_fr {σ : gS} (hσ : sB σ) {p g : Nat} (h : sPlain σ p = some g) : g < 4 ∧ 0 < sFr σ (2 * g + 1) := by
  unfold sPlain at h
  split at h
  · rename_i z hz
    cases h
    obtain ⟨a, k, b⟩ := sPl_p hz
    exact ⟨by rw [b]; exact sNx_lt hσ _ _, sHas_fr a⟩
  · exact ⟨sFst_lt hσ h, pFile_fr (sFst_spec h).1⟩
theorem sFst_file {σ : gS} {p : Nat} (hp : p < sCnt σ) (h : 0 < sFF σ (sCnt σ)) : sFst σ p (pFile σ) (sCnt σ) ≠ none := by
  intro hn
  obtain ⟨g, h1, h2⟩ := sFF_pos h
  obtain ⟨k, h3, h4⟩ := sNx_onto h1 hp
  have := sFst_no hn k h3
  rw [h4] at this
  simp only [pFile, decide_eq_false_iff_not] at this
  omega
theorem sFolder_no {σ : gS} (hσ : sB σ) {f : Nat} (h1 : 1 ≤ f) (hf : f ≤ sCnt σ * 128) : sFolder σ f = none ↔ sFF σ (sCnt σ) = 0 := by
  constructor
  · intro h
    rcases Nat.eq_zero_or_pos (sFF σ (sCnt σ)) with e | e
    · exact e
    · exfalso
      unfold sFolder at h
      split at h
      · cases h
      · split at h
        · cases h
        · exact sFst_file (by omega) e h
  · intro h
    cases hq : sFolder σ f with
    | none => rfl
    | some g =>
      exfalso
      obtain ⟨a, b⟩ := sFolder_fr hσ hq
      have hgc : g < sCnt σ := by
        unfold sFolder at hq
        split at hq
        · rename_i z hz
          cases hq
          split at hz
          · clear b
            have : ∀ {n z : Nat}, sLeast σ ((f - 1) / 128) n = some z → z < sCnt σ := by
              intro n
              induction n with
              | zero => intro z h; cases h
              | succ n ih =>
                intro z h
                have h : sLeastN σ (sLeast σ ((f - 1) / 128) n) (sNx σ ((f - 1) / 128) n) = some z := h
                unfold sLeastN at h
                split at h
                · cases hq : sLeast σ ((f - 1) / 128) n with
                  | none => rw [hq] at h; cases h; exact sNx_ltC hσ _ _
                  | some y =>
                    rw [hq] at h
                    dsimp only at h
                    split at h
                    · cases h; exact sNx_ltC hσ _ _
                    · cases h; exact ih hq
                · exact ih h
            exact this hz
          · cases hz
        · split at hq
          · rename_i z hz
            cases hq
            obtain ⟨-, k, -, e⟩ := sFst_spec hz
            rw [e]; exact sNx_ltC hσ _ _
          · obtain ⟨-, k, -, e⟩ := sFst_spec hq
            rw [e]; exact sNx_ltC hσ _ _
      have := sFF_zero h g hgc
      omega
theorem sPlain_no {σ : gS} (hσ : sB σ) {p : Nat} (hp : p < sCnt σ) : sPlain σ p = none ↔ sFF σ (sCnt σ) = 0 := by
  constructor
  · intro h
    rcases Nat.eq_zero_or_pos (sFF σ (sCnt σ)) with e | e
    · exact e
    · exfalso
      unfold sPlain at h
      split at h
      · cases h
      · exact sFst_file hp e h
  · intro h
    cases hq : sPlain σ p with
    | none => rfl
    | some g =>
      exfalso
      obtain ⟨a, b⟩ := sPlain_fr hσ hq
      have hgc : g < sCnt σ := by
        unfold sPlain at hq
        split at hq
        · rename_i z hz
          cases hq
          obtain ⟨-, k, e⟩ := sPl_p hz
          rw [e]; exact sNx_ltC hσ _ _
        · obtain ⟨-, k, -, e⟩ := sFst_spec hq
          rw [e]; exact sNx_ltC hσ _ _
      have := sFF_zero h g hgc
      omega
theorem c0_ex {B : Nat → Bool} : ∀ {n : Nat}, 0 < c0 B n → ∃ k, k < n ∧ B k = false := by
  intro n
  induction n with
  | zero => intro h; exact absurd h (Nat.lt_irrefl 0)
  | succ n ih =>
    intro h
    cases hb : B n with
    | false => exact ⟨n, by omega, hb⟩
    | true =>
      rw [c0_t hb] at h
      obtain ⟨k, h1, h2⟩ := ih h
      exact ⟨k, by omega, h2⟩
theorem sLf_ex {σ : gS} {j : Nat} : ∀ {n : Nat}, sLf σ j n = none → ∀ k, k < n → sSet σ j k = true := by
  intro n
  induction n with
  | zero => intro _ k hk; exact absurd hk (Nat.not_lt_zero k)
  | succ n ih =>
    intro h k hk
    have h : (match sLf σ j n with | some q => some q | none => if sSet σ j n = true then none else some n) = none := h
    cases hq : sLf σ j n with
    | some y => rw [hq] at h; cases h
    | none =>
      rw [hq] at h
      dsimp only at h
      split at h
      · by_cases e : k = n
        · subst e; assumption
        · exact ih hq k (by omega)
      · cases h
theorem RI.lfx {σ : gS} {τ : mS} (h : RI σ τ) {g : Nat} (hg : g < 4) (hf : 0 < sFr σ (2 * g + 1)) : ∃ k, sLf σ (2 * g + 1) 128 = some k := by
  have h1 : sFr σ (2 * g + 1) = c0 (sBt σ (2 * g + 1)) (sSz σ (2 * g + 1)) := h.1.2.2.2.2 _ (by omega)
  rw [(h.1.2.1 g hg).2] at h1
  rw [h1] at hf
  obtain ⟨k, h2, h3⟩ := c0_ex hf
  cases hq : sLf σ (2 * g + 1) 128 with
  | some z => exact ⟨z, rfl⟩
  | none =>
    have := sLf_ex hq k h2
    rw [sSet_lt (by rw [gLen_odd]; exact h2), h3] at this
    cases this
/-! taking -/
theorem sBest_len (σ : gS) (g : Nat) : ∀ k : Nat, (sBest σ g k).2 = sLen5 σ (sBest σ g k).1 := by
  intro k
  induction k with
  | zero => rfl
  | succ k ih =>
    show (sBestN (sBest σ g k) (sNx σ g (k + 1)) (sLen5 σ (sNx σ g (k + 1)))).2 = sLen5 σ (sBestN (sBest σ g k) (sNx σ g (k + 1)) (sLen5 σ (sNx σ g (k + 1)))).1
    unfold sBestN
    split
    · rfl
    · exact ih
theorem bst_ge (σ : gS) (g : Nat) : ∀ (n k : Nat), k < n → sLen5 σ (sNx σ g k) ≤ (bst σ g n).1 := by
  intro n
  induction n with
  | zero => intro k hk; exact absurd hk (Nat.not_lt_zero k)
  | succ n ih =>
    intro k hk
    have e : bst σ g (n + 1) = if (bst σ g n).1 < sLen5 σ (sNx σ g n) then (sLen5 σ (sNx σ g n), 256 * sNx σ g n + sLp σ (sNx σ g n)) else bst σ g n := rfl
    rw [e]
    by_cases h : (bst σ g n).1 < sLen5 σ (sNx σ g n)
    · rw [if_pos h]
      by_cases e2 : k = n
      · subst e2; exact Nat.le_refl _
      · have := ih k (by omega)
        show sLen5 σ (sNx σ g k) ≤ sLen5 σ (sNx σ g n)
        omega
    · rw [if_neg h]
      by_cases e2 : k = n
      · subst e2; omega
      · exact ih k (by omega)
theorem RI.l5pos {σ : gS} {τ : mS} (h : RI σ τ) {g : Nat} (hg : g < 4) (hf : 0 < sFr σ (2 * g)) : 0 < sLen5 σ g := by
  rw [← h.l5 hg]
  apply lrF_pos
  have h1 := h.cb hg
  unfold mCB at h1
  have h2 : c0 (mB τ g) (mSz τ g) = c0 (fun k => mBk τ (256 * g + k)) (mSz τ g) := c0_congr (fun k hk => by
    rw [h.mb hg, h.ss hg (by rw [← h.sz hg]; exact hk)])
  rw [h2, h1]
  exact hf
theorem RI.longest {σ : gS} {τ : mS} (h : RI σ τ) {g : Nat} (hg : g < 4) (hp : 0 < sLen5 σ g) : (sSr σ (2 * g) (sLen5 σ g) (sSz σ (2 * g))).1 = some (sLp σ g) := by
  rw [← h.sreq hg, h.mb hg, h.sz hg]
  have hL : (lrF (sSet σ (2 * g)) (sSz σ (2 * g))).1 = sLen5 σ g := by rw [← h.mb hg, ← h.sz hg]; exact h.l5 hg
  exact ((srF_long hL hp (h.ssg hg (Nat.le_refl _)) (sSz σ (2 * g)) (Nat.le_refl _)).2 hL).1
