/-! ===== what the Statement gives at the start ===== -/
theorem xL_of {n d : String} {args : Array Value} {s : State} (hl : (Cond.laysStatic Bundle.tN n d).before args s = true) (hv : (Cond.isRef (.static Bundle.tN n d)).before args s = true) : xL n d (fun q : Nat => s.heap.size ≤ q) s s.heap := by
  obtain ⟨c, k, i, f, a, cell, hc, hi, hst, ha, hcell, hs, hcls, hlt, hty⟩ := Cond.laysStatic_spec hl
  have hlt' := (Array.getElem?_eq_some_iff.mp hcell).1
  cases hev : (Term.static Bundle.tN n d).eval args s none [] s with
  | none => simp [Cond.before, Cond.holds, Cond.value, hev] at hv
  | some v =>
    obtain ⟨hst', a', cell', ha', hcell', -, hslot⟩ := Term.static_spec hi hev
    cases ha.symm.trans ha'
    cases hcell.symm.trans hcell'
    refine ⟨c, k, i, f, a, cell, v, hc, hi, hst, ha, hcell, hs, hcls, hlt, hty, hslot, ?_, fun z => absurd hlt' (Nat.not_lt.mpr z)⟩
    cases v with
    | null => exact Or.inl rfl
    | ref t => exact Or.inr ⟨t, rfl⟩
    | _ => simp [Cond.before, Cond.holds, Cond.value, hev, Value.isRef] at hv
theorem pst_val : ∀ j, j < 4 → nI (pst j) = ([0, 1, 3, 7] : List Int32).getD j 0 := by decide +kernel
theorem xE_start {b : Nat} {s : State} (hts : ∀ w ∈ lw_tbl, w.before #[Value.ref b] s = true) (hgv : (Jvm.Cond.and given_1 narrow_1).before #[Value.ref b] s = true) : xE (fun q : Nat => s.heap.size ≤ q) s := by
  have hs := flat_of_before _ hgv
  have hg := gw_hts hts
  have hA : ∀ a : Nat, a < s.heap.size → ¬ (fun q : Nat => s.heap.size ≤ q) a := fun a h => Nat.not_le.mpr h
  obtain ⟨c0, -, hc0, -⟩ := Cond.instantiable_spec (hg _ kw_13)
  obtain ⟨ci, -, h1, -⟩ := Cond.instantiable_spec (hg _ kw_234)
  obtain ⟨ca, -, h2, -⟩ := Cond.instantiable_spec (hg _ kw_128)
  refine ⟨gx_move (gx_hts hts) (State.WarmedH.refl s), xL_of (hts _ (xt_t 154 (by decide +kernel))) (hs (.isRef (.static Bundle.tN "UNASSIGNED_STACK" Bundle.steD)) (by decide +kernel)), xL_of (hts _ (xt_t 156 (by decide +kernel))) (hs (.isRef (.static Bundle.tN "SUPPRESSED_SENTINEL" Bundle.listD)) (by decide +kernel)), ?_, ?_, ⟨ci, ca, h1, h2, ?_⟩⟩
  · intro k tx hk
    obtain ⟨-, -, -, a, -, -, -, -, -, hev⟩ := Cond.stringRef_spec hc0 (hts _ hk)
    exact ⟨a, vk_R.of (hts _ hk) hev⟩
  · have he : ∀ j : Nat, j < 4 → (Term.elem (.static "GroupBitmaps" "PLAIN_STEPS" "[I") (.int (Int32.ofNat j))).eval #[Value.ref b] s none [] s = some (.int (nI (pst j))) := by
      intro j hj
      rcases lt4 hj with rfl | rfl | rfl | rfl
      · exact va_eqt (hs (.eq (.elem (.static "GroupBitmaps" "PLAIN_STEPS" "[I") (.int 0)) (.int 0)) (by decide +kernel))
      · exact va_eqt (hs (.eq (.elem (.static "GroupBitmaps" "PLAIN_STEPS" "[I") (.int 1)) (.int 1)) (by decide +kernel))
      · exact va_eqt (hs (.eq (.elem (.static "GroupBitmaps" "PLAIN_STEPS" "[I") (.int 2)) (.int 3)) (by decide +kernel))
      · exact va_eqt (hs (.eq (.elem (.static "GroupBitmaps" "PLAIN_STEPS" "[I") (.int 3)) (.int 7)) (by decide +kernel))
    obtain ⟨t, ht, hT⟩ := va_Tof (tm := .static "GroupBitmaps" "PLAIN_STEPS" "[I") (ty := .int) (N := 4) (A := fun q : Nat => s.heap.size ≤ q) (by decide) (hs _ (by decide +kernel)) (va_eqt (hs (.eq (.length (.static "GroupBitmaps" "PLAIN_STEPS" "[I")) (.int 4)) (by decide +kernel))) he hA
    exact ⟨t, va_Zof (hts _ (xt_t 357 (by decide +kernel))) (hg _ kw_1) ht hA, hT⟩
  · have h := hs (.not (.castable "java/lang/IllegalStateException" "java/lang/IllegalArgumentException")) (by decide +kernel)
    simp [Cond.before, Cond.holds, Cond.value, h1, h2] at h
    exact h
/-! ===== the law's loop, and its start ===== -/
set_option maxHeartbeats 4000000 in
set_option maxRecDepth 100000 in
theorem law_loop {p : Program} {l : Launch} {e : Env} {s : State} {m : MethodId} {below : List Frame} {meth : Method} {c : Code} {D : va_G} {cG cZ cI cJ : ClassId} {b L : Nat} {xs : Nat → Int32} {ad am : Nat → Nat} {ao : Nat} (hfl : l.flags = flags0) (hL0 : L ≤ 2048) (C1 : lwC p s m c D cG cZ cI cJ b L xs) (hr : meth.sig.returnType = ret) (hlocks : meth.locks = false) :
    ∀ (n N : Nat), 4 * N ≤ L → L < 4 * N + 4 * n → ∀ (σ : gS) (τ : mS) (f : Nat → Int64), RK N σ τ → ∀ (H : Heap) (locs : List Loc) (ls : Array Slot), gI D (fun q : Nat => s.heap.size ≤ q) s.heap ((wd ad cG cZ σ ++ wo ao cJ f) ++ wm am cI cZ τ) H locs → lv_has ls 7 [(0, .ref b), (1, .ref (ad 0)), (2, .ref (am 0)), (3, .ref ao), (4, .int (nI (4 * N)))] → W p l e room_1 s m #[Value.ref b] below meth c H locs (29 + N) (4701 + 6 * N) (lw_Z below #[Value.ref b] s) (F0 m 23 ls []) := by
  obtain ⟨hx, hb, hml, hown, hg, hK, hE, hX, hbl⟩ := id C1
  have hbA : ¬ (fun q : Nat => s.heap.size ≤ q) b := Nat.not_le.mpr hbl
  have hL : L < 2 ^ 31 := by omega
  intro n
  induction n with
  | zero => intro N h1 h2; exact absurd h2 (by omega)
  | succ n ih =>
    intro N hNl hfu σ τ f hK0 H locs ls hI hl
    refine lv_iload hx hb d_LW_law_23 (lv_at hl 4 rfl) ?_
    refine lv_aload_n hx hb d_LW_law_25 rfl (lv_at hl 0 rfl) ?_
    refine va_slen hx hb hX hbl hbA hI.2.2 d_LW_law_26 ?_
    refine lv_iconst (v := nI 4) hx hb d_LW_law_27 (by decide) ?_
    refine lv_isub hx hb d_LW_law_28 ?_
    refine lv_icmp_gt (tgt := 862) hx hb d_LW_law_29 (by decide) (fun h9 => ?_) (fun h9 => ?_)
    · refine lv_iconst (v := 1) hx hb d_LW_law_862 (by decide) ?_
      refine W.more (c' := 601024) (s' := 7293034) (by omega) (by omega) ?_
      refine va_forget (fun q hq => hI.2.2.2.2 q hq) ?_
      exact lw_ret hx hb hr hlocks d_LW_law_863
    · have hlt : 4 * N + 4 ≤ L := by
        have h9 : ¬ nI L - nI 4 < nI (4 * N) := h9
        rw [Int32.lt_iff_toInt_lt, pk_sub_toInt (by omega) (by omega), nI_toInt (by omega)] at h9
        omega
      refine lv_aload_n hx hb d_LW_law_32 rfl (lv_at hl 0 rfl) ?_
      refine lv_iload hx hb d_LW_law_33 (lv_at hl 4 rfl) ?_
      refine g_scr (i := 4 * N) hx hb hX hbl hbA hI (by omega) hL d_LW_law_35 ?_
      refine lv_bipush (v := nI 15) hx hb d_LW_law_36 (by decide) ?_
      refine lv_iand hx hb d_LW_law_38 ?_
      refine lv_topi (fun y _ => ?_)
      have hcs : 29 + N + 1 ≤ room_1.cells ∧ 4701 + 6 * N + 6 ≤ room_1.slots := ⟨by show _ ≤ 601024; omega, by show _ ≤ 7293034; omega⟩
      have kk : ∀ (σ' : gS) (τ' : mS) (f' : Nat → Int64) (H : Heap) (locs : List Loc) (ls : Array Slot), RK (N + 1) σ' τ' → gI D (fun q : Nat => s.heap.size ≤ q) s.heap ((wd ad cG cZ (σ') ++ wo ao cJ (f')) ++ wm am cI cZ (τ')) H locs → lv_has ls 7 [(0, .ref b), (1, .ref (ad 0)), (2, .ref (am 0)), (3, .ref ao), (4, .int (nI (4 * N)))] → W p l e room_1 s m #[Value.ref b] below meth c H locs (29 + N + 1) (4701 + 6 * N + 6) (lw_Z below #[Value.ref b] s) (F0 m 856 ls []) := by
        intro σ' τ' f' H locs ls hK1 hI hl
        refine lv_iinc (v := nI (4 * N + 4)) (lv' := [(4, .int (nI (4 * N + 4))), (0, .ref b), (1, .ref (ad 0)), (2, .ref (am 0)), (3, .ref ao)]) hx hb d_LW_law_856 hl (k := 4) rfl (nI_add (4 * N) 4) (by decide) rfl (fun ls hl => ?_)
        refine lv_goto (tgt := 23) hx hb d_LW_law_859 (by decide) ?_
        have hl := lv_sub hl [1, 2, 3, 4, 0] rfl
        rw [show 4 * N + 4 = 4 * (N + 1) by omega] at hl
        rw [show 4701 + 6 * N + 6 = 4701 + 6 * (N + 1) by omega, show 29 + N + 1 = 29 + (N + 1) by omega]
        exact ih (N + 1) (by omega) (by omega) σ' τ' f' hK1 H locs ls hI hl
      by_cases hy : 0 ≤ y.toInt ∧ y.toInt ≤ 11
      · obtain ⟨j, rfl, hj⟩ : ∃ j : Nat, y = nI j ∧ j ≤ 11 := ⟨y.toInt.toNat, by apply Int32.toInt_inj.mp; rw [nI_toInt (by omega)]; omega, by omega⟩
        rcases (show j = 0 ∨ j = 1 ∨ j = 2 ∨ j = 3 ∨ j = 4 ∨ j = 5 ∨ j = 6 ∨ j = 7 ∨ j = 8 ∨ j = 9 ∨ j = 10 ∨ j = 11 by omega) with rfl | rfl | rfl | rfl | rfl | rfl | rfl | rfl | rfl | rfl | rfl | rfl
        · refine lv_tableIn (off := 61) (tgt := 100) hx hb d_LW_law_39 (by decide +kernel) (by decide +kernel) (by decide +kernel) (by decide +kernel) ?_
          exact law_lay hfl C1 hK0 (by omega) hlt hL hcs hI hl kk
        · refine lv_tableIn (off := 129) (tgt := 168) hx hb d_LW_law_39 (by decide +kernel) (by decide +kernel) (by decide +kernel) (by decide +kernel) ?_
          exact law_reserve hfl C1 hK0 (by omega) hlt hL hcs hI hl kk
        · refine lv_tableIn (off := 185) (tgt := 224) hx hb d_LW_law_39 (by decide +kernel) (by decide +kernel) (by decide +kernel) (by decide +kernel) ?_
          exact law_take hfl C1 hK0 (by omega) hlt hL hcs hI hl kk
        · refine lv_tableIn (off := 281) (tgt := 320) hx hb d_LW_law_39 (by decide +kernel) (by decide +kernel) (by decide +kernel) (by decide +kernel) ?_
          exact law_taken hfl C1 hK0 (by omega) hlt hL hcs hI hl kk
        · refine lv_tableIn (off := 294) (tgt := 333) hx hb d_LW_law_39 (by decide +kernel) (by decide +kernel) (by decide +kernel) (by decide +kernel) ?_
          exact law_give hfl C1 hK0 (by omega) hlt hL hcs hI hl kk
        · refine lv_tableIn (off := 362) (tgt := 401) hx hb d_LW_law_39 (by decide +kernel) (by decide +kernel) (by decide +kernel) (by decide +kernel) ?_
          exact law_takeFile hfl C1 hK0 (by omega) hlt hL hcs hI hl kk
        · refine lv_tableIn (off := 446) (tgt := 485) hx hb d_LW_law_39 (by decide +kernel) (by decide +kernel) (by decide +kernel) (by decide +kernel) ?_
          exact law_giveFile hfl C1 hK0 (by omega) hlt hL hcs hI hl kk
        · refine lv_tableIn (off := 530) (tgt := 569) hx hb d_LW_law_39 (by decide +kernel) (by decide +kernel) (by decide +kernel) (by decide +kernel) ?_
          exact law_isTaken hfl C1 hK0 (by omega) hlt hL hcs hI hl kk
        · refine lv_tableIn (off := 605) (tgt := 644) hx hb d_LW_law_39 (by decide +kernel) (by decide +kernel) (by decide +kernel) (by decide +kernel) ?_
          exact law_group hfl C1 hK0 (by omega) hlt hL hcs hI hl kk
        · refine lv_tableIn (off := 673) (tgt := 712) hx hb d_LW_law_39 (by decide +kernel) (by decide +kernel) (by decide +kernel) (by decide +kernel) ?_
          exact law_byteOf hfl C1 hK0 (by omega) hlt hL hcs hI hl kk
        · refine lv_tableIn (off := 741) (tgt := 780) hx hb d_LW_law_39 (by decide +kernel) (by decide +kernel) (by decide +kernel) (by decide +kernel) ?_
          exact law_isTold hfl C1 hK0 (by omega) hlt hL hcs hI hl kk
        · refine lv_tableIn (off := 804) (tgt := 843) hx hb d_LW_law_39 (by decide +kernel) (by decide +kernel) (by decide +kernel) (by decide +kernel) ?_
          exact law_settle hfl C1 hK0 (by omega) hlt hL hcs hI hl kk
      · refine lv_tableOut (tgt := 856) hx hb d_LW_law_39 (by omega) (by decide +kernel) ?_
        refine W.more (Nat.le_succ _) (Nat.le_add_right _ 6) ?_
        exact kk σ τ f H locs ls hK0.next hI hl
set_option maxHeartbeats 4000000 in
set_option maxRecDepth 100000 in
theorem whole_start {p : Program} {e : Env} {s : State} {m : MethodId} {below : List Frame} {meth : Method} {c : Code} (l : Launch) (hfl : l.flags = flags0) {b L : Nat} {xs : Nat → Int32} (hL0 : L ≤ 2048) (C0 : lw_At p s m meth c b L xs) : W p l e room_1 s m #[Value.ref b] below meth c s.heap [] 0 0 (lw_Z below #[Value.ref b] s) (entryFrame m ([Value.ref b] : List Value).toArray 7) := by
  obtain ⟨hx, hb, hr, hml, hown, hts, hX, hbl, hlocks, hgv⟩ := id C0
  have hown : s.vm.findClass "GroupBitmapsLaw" = some m.cls := hown
  have hg := gw_hts hts
  have hAO : xAO s := va_AO.of (hts (.arrayOver (.object "GroupBitmaps$Group")) (xt_t 21 (by decide +kernel)))
  obtain ⟨c0, i0, hk0⟩ := u_known (C := R_GB) (T := F_GB) (N := 5) (n := 5) hg ku_GB (hg _ kw_13)
  obtain ⟨c1, i1, hk1⟩ := u_known (C := R_GR) (T := F_GR) (N := 6) (n := 6) hg ku_GR (hg _ kw_22)
  obtain ⟨c2, i2, hk2⟩ := u_known (C := R_BM) (T := F_BM) (N := 5) (n := 5) hg ku_BM (hg _ kw_28)
  obtain ⟨c3, i3, hk3⟩ := u_known (C := R_MD) (T := F_MD) (N := 11) (n := 11) hg ku_MD (hg _ kw_452)
  obtain ⟨pG, cG, kG, g1, g2, g3, g4, g5⟩ := Cond.arrayOver_spec hAO
  obtain ⟨cZ, kZ, pZ, aZ1, aZ2, aZ3⟩ := Cond.arrayClass_spec (hg _ kw_54)
  obtain ⟨cI, kI, pI, aI1, aI2, aI3⟩ := Cond.arrayClass_spec (hg _ kw_504)
  obtain ⟨cJ, kJ, pJ, aJ1, aJ2, aJ3⟩ := Cond.arrayClass_spec (hg _ kw_613)
  obtain ⟨D, hK⟩ : ∃ D : va_G, va_K D classes (gT cG cZ cI cJ) s := by
    refine ⟨(fun k => if k = 0 then c0 else if k = 1 then c1 else if k = 2 then c2 else c3, fun k => if k = 0 then i0 else if k = 1 then i1 else if k = 2 then i2 else i3), ?_, ?_⟩
    · intro k q hq
      match k, hq with
      | 0, hq => cases hq; exact hk0
      | 1, hq => cases hq; exact hk1
      | 2, hq => cases hq; exact hk2
      | 3, hq => cases hq; exact hk3
      | k + 4, hq => simp [classes] at hq
    · intro k q hq
      match k, hq with
      | 0, hq => cases hq; exact ⟨fun N z => ⟨fun k h => (by cases h), kG, g3, pG, g4⟩, kG, pG, g3, g4, g1, g5⟩
      | 1, hq => cases hq; exact ⟨fun N z => ⟨fun k h => (by cases h), kZ, aZ2, pZ, aZ3⟩, aZ1⟩
      | 2, hq => cases hq; exact ⟨fun N z => ⟨fun k h => (by cases h), kI, aI2, pI, aI3⟩, aI1⟩
      | 3, hq => cases hq; exact ⟨fun N z => ⟨fun k h => (by cases h), kJ, aJ2, pJ, aJ3⟩, aJ1⟩
      | k + 4, hq => simp [gT] at hq
  have hE := xE_start hts hgv
  have C1 : lwC p s m c D cG cZ cI cJ b L xs := ⟨hx, hb, hml, hown, hg, hK, hE, hX, hbl⟩
  obtain ⟨A, hAe⟩ : ∃ A : Nat → Prop, A = fun q : Nat => s.heap.size ≤ q := ⟨_, rfl⟩
  have hA : ∀ q : Nat, s.heap.size ≤ q → A q := by rw [hAe]; exact fun _ h => h
  have hI : gI D A s.heap [] s.heap [] := ⟨fun k q h => by simp at h, ⟨fun i j p q h => by simp at h, fun k q h => by simp at h⟩, va_S.rf⟩
  have hl := lv_entry ([.ref b]) (n := 7) (Nat.le_of_ble_eq_true rfl)
  rw [lg_entry_eq]
  generalize (lg_sl ([.ref b]) ++ List.replicate (7 - (lg_sl ([.ref b])).length) Slot.unset).toArray = ls at hl ⊢
  have hl : lv_has ls 7 [(0, .ref b)] := hl
  refine g_new (own := "GroupBitmapsLaw") (C := R_GB) (T := F_GB) (N := 5) (ci := 0) (fs := [.null, .int (nI 0), .int (nI 0), .int (nI 0), .int (bI false)]) hx hb hg ku_GB t_GB t_GB_ok hown kw_12 kw_13 kw_1 hK hI hA rfl (by decide +kernel) ⟨Nat.le_of_ble_eq_true rfl, Nat.le_of_ble_eq_true rfl⟩ d_LW_law_0 (fun q0 H hI => ?_)
  have hI : gI D A s.heap [(q0, .inr (0, [.null, .int (nI 0), .int (nI 0), .int (nI 0), .int (bI false)]))] H _ := hI
  refine lv_dup hx hb d_LW_law_3 rfl ?_
  refine g_callI (own := "GroupBitmapsLaw") (k := 0) (a := q0) (As := []) (rest := [.ref q0]) (i_GB q0) hx hb hml hown hg hK hI hA hAO kw_14 kw_15 rfl kw_1 kw_16 ky_GB_init ⟨Nat.le_of_ble_eq_true rfl, Nat.le_of_ble_eq_true rfl⟩ rfl rfl rfl hl.1 (Nat.le_of_ble_eq_true rfl) ⟨Nat.le_of_ble_eq_true rfl, Nat.le_of_ble_eq_true rfl⟩ d_LW_law_4 rfl (fun H locs w9 hw9 hI9 => ?_)
  obtain ⟨ad, had, rfl⟩ := hw9
  subst had
  have hI := hI9
  refine lv_astore_n (lv' := [(1, .ref (ad 0)), (0, .ref b)]) hx hb d_LW_law_7 rfl hl (by decide) rfl (fun ls hl => ?_)
  refine g_new (own := "GroupBitmapsLaw") (C := R_MD) (T := F_MD) (N := 11) (ci := 3) (fs := [.int (nI 0), .int (nI 0), .null, .null, .null, .null, .int (nI 0), .int (nI 0), .null, .int (nI 0), .int (nI 0)]) hx hb hg ku_MD t_MD t_MD_ok hown kw_451 kw_452 kw_4 hK hI hA rfl (by decide +kernel) ⟨Nat.le_of_ble_eq_true rfl, Nat.le_of_ble_eq_true rfl⟩ d_LW_law_8 (fun q1 H hI => ?_)
  refine lv_dup hx hb d_LW_law_11 rfl ?_
  refine g_callI (own := "GroupBitmapsLaw") (k := 0) (a := q1) (As := []) (rest := [.ref q1]) ((i_MD q1).frame (wd ad cG cZ (sLayAll σ0 4 256))) hx hb hml hown hg hK hI hA hAO kw_453 kw_454 rfl kw_4 kw_455 ky_MD_init ⟨Nat.le_of_ble_eq_true rfl, Nat.le_of_ble_eq_true rfl⟩ rfl rfl rfl hl.1 (Nat.le_of_ble_eq_true rfl) ⟨Nat.le_of_ble_eq_true rfl, Nat.le_of_ble_eq_true rfl⟩ d_LW_law_12 rfl (fun H locs w9 hw9 hI9 => ?_)
  obtain ⟨w8, rfl, am, ham, rfl⟩ := hw9
  subst ham
  have hI := hI9
  refine lv_astore_n (lv' := [(2, .ref (am 0)), (1, .ref (ad 0)), (0, .ref b)]) hx hb d_LW_law_15 rfl hl (by decide) rfl (fun ls hl => ?_)
  refine lv_iconst (v := nI 1) hx hb d_LW_law_16 (by decide) ?_
  refine g_newa (atype := .long) (ty := .long) (cA := cJ) (n := 1) (a0 := (1, .inr (.inl (fun _ => 0)))) 3 hx hb hg kw_613 rfl hK rfl (fun _ h => h) hI hA (fun _ => rfl) (by decide) (Nat.le_of_ble_eq_true rfl) ⟨Nat.le_of_ble_eq_true rfl, Nat.le_of_ble_eq_true rfl⟩ d_LW_law_17 (fun ao H hI => ?_)
  refine lv_astore_n (lv' := [(3, .ref ao), (2, .ref (am 0)), (1, .ref (ad 0)), (0, .ref b)]) hx hb d_LW_law_19 rfl hl (by decide) rfl (fun ls hl => ?_)
  refine lv_iconst (v := nI 0) hx hb d_LW_law_20 (by decide) ?_
  refine lv_istore (lv' := [(4, .int (nI 0)), (3, .ref ao), (2, .ref (am 0)), (1, .ref (ad 0)), (0, .ref b)]) hx hb d_LW_law_21 hl (by decide) rfl (fun ls hl => ?_)
  have hI : gI D A s.heap ((wd ad cG cZ (sLayAll σ0 4 256) ++ wm am cI cZ (mLays (mLay0 τ0 4) 4 256 4)) ++ wo ao cJ (fun _ => 0)) H _ := hI
  have hI2 : gI D A s.heap ((wd ad cG cZ (sLayAll σ0 4 256) ++ wo ao cJ (fun _ => 0)) ++ wm am cI cZ (mLays (mLay0 τ0 4) 4 256 4)) H _ := ⟨va_P.app (va_P.app (fr_Pl (fr_Pl hI.1)) (fr_Pr hI.1)) (fr_Pr (fr_Pl hI.1)), va_D.swap hI.2.1, hI.2.2⟩
  subst hAe
  refine W.more (c' := 29 + 0) (s' := 4701 + 6 * 0) (Nat.le_of_ble_eq_true rfl) (Nat.le_of_ble_eq_true rfl) ?_
  exact law_loop hfl hL0 C1 hr hlocks (L + 1) 0 (by omega) (by omega) _ _ _ RK_0 _ _ ls hI2 (lv_sub hl [4, 3, 2, 1, 0] rfl)
