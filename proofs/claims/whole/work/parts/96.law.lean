/-! ===== the law's operations ===== -/
def nz (x : Int32) : Bool := if x = 0 then false else true
def lwC (p : Program) (s : State) (m : MethodId) (c : Code) (D : va_G) (cG cZ cI cJ : ClassId) (b L : Nat) (xs : Nat → Int32) : Prop :=
  p.tables.exec = Jvm.exec ∧ c.code = code ∧ c.maxLocals = 7 ∧ s.vm.findClass "GroupBitmapsLaw" = some m.cls ∧ (∀ w ∈ gw, w.before #[Value.ref b] s = true) ∧ va_K D classes (gT cG cZ cI cJ) s ∧ xE (fun q : Nat => s.heap.size ≤ q) s ∧ va_X b L xs s s.heap ∧ b < s.heap.size
section LROWS
variable {p : Program} {l : Launch} {e : Env} {R : Room} {s : State} {m : MethodId} {args : Array Value} {below : List Frame} {meth : Method} {c : Code} {H : Heap} {locs : List Loc} {cells slots : Nat} {Q : State → Prop}
variable {cc : ByteArray} {pc : Nat} {ls : Array Slot} {rest : List Value}
theorem r_lcmp0 (hx : p.tables.exec = Jvm.exec) (hb : c.code = cc) {x y : Int64} (hxy : x = y) (d : decode cc pc = .ok (.lcmp, 1)) (kk : W p l e R s m args below meth c H locs cells slots Q (F0 m (pc + 1) ls (.int 0 :: rest))) : W p l e R s m args below meth c H locs cells slots Q (F0 m pc ls (.long y :: .long x :: rest)) := by
  subst hxy
  intro T hT X
  obtain ⟨t, a, b⟩ := kk T hT X
  refine ⟨t, ?_, b⟩
  have h1 : ¬ (x > x) := Int64.lt_irrefl
  jvm_step X.here [X.here.top, hx, hb, d, h1]
  exact a
theorem r_b01 (hx : p.tables.exec = Jvm.exec) (hb : c.code = cc) {x : Int32} (d1 : decode cc pc = .ok (.ifCond .eq 7, 3)) (d2 : decode cc (pc + 3) = .ok (.iconst 1, 1)) (d3 : decode cc (pc + 4) = .ok (.goto 4, 3)) (d4 : decode cc (pc + 7) = .ok (.iconst 0, 1)) (kk : W p l e R s m args below meth c H locs cells slots Q (F0 m (pc + 8) ls (.int (bI (nz x)) :: rest))) : W p l e R s m args below meth c H locs cells slots Q (F0 m pc ls (.int x :: rest)) := by
  refine lv_if_eq (tgt := pc + 7) hx hb d1 (by omega) (fun h => ?_) (fun h => ?_)
  · rw [show bI (nz x) = 0 from by rw [nz, if_pos h]; rfl] at kk
    exact lv_iconst (v := 0) hx hb d4 (by decide) kk
  · rw [show bI (nz x) = 1 from by rw [nz, if_neg h]; rfl] at kk
    exact lv_iconst (v := 1) hx hb d2 (by decide) (lv_goto (tgt := pc + 8) hx hb d3 (by omega) kk)
theorem g_scr {D : va_G} {A : Nat → Prop} {ws : va_W} (hx : p.tables.exec = Jvm.exec) (hb : c.code = cc) {b L : Nat} {xs : Nat → Int32} (hX : va_X b L xs s s.heap) (hbl : b < s.heap.size) (hbA : ¬ A b) (hI : gI D A s.heap ws H locs) {i : Nat} (hi : i < L) (hL : L < 2 ^ 31) (d : decode cc pc = .ok (.iaload, 1)) (kk : W p l e R s m args below meth c H locs cells slots Q (F0 m (pc + 1) ls (.int (xs i) :: rest))) : W p l e R s m args below meth c H locs cells slots Q (F0 m pc ls (.int (nI i) :: .ref b :: rest)) :=
  va_sld hx hb hX hbl hbA hI.2.2 (vp_in_nI hi hL) d (by rw [nI_clamp (Nat.lt_trans hi hL)]; exact kk)
end LROWS
set_option maxHeartbeats 4000000 in
set_option maxRecDepth 100000 in
theorem law_lay {p : Program} {l : Launch} {e : Env} {s : State} {m : MethodId} {below : List Frame} {meth : Method} {c : Code} {D : va_G} {cG cZ cI cJ : ClassId} {b L : Nat} {xs : Nat → Int32} {ad am : Nat → Nat} {ao : Nat} {f : Nat → Int64} {σ : gS} {τ : mS} {N cells slots : Nat} {Q : State → Prop} {H : Heap} {locs : List Loc} {ls : Array Slot} (hfl : l.flags = flags0) (C1 : lwC p s m c D cG cZ cI cJ b L xs) (hK0 : RK N σ τ) (hN : N < 65535) (hNL : 4 * N + 4 ≤ L) (hL : L < 2 ^ 31) (hcs : cells + 1 ≤ room_1.cells ∧ slots + 6 ≤ room_1.slots) (hI : gI D (fun q : Nat => s.heap.size ≤ q) s.heap ((wd ad cG cZ σ ++ wo ao cJ f) ++ wm am cI cZ τ) H locs) (hl : lv_has ls 7 [(0, .ref b), (1, .ref (ad 0)), (2, .ref (am 0)), (3, .ref ao), (4, .int (nI (4 * N)))])
    (kk : ∀ (σ' : gS) (τ' : mS) (f' : Nat → Int64) (H : Heap) (locs : List Loc) (ls : Array Slot), RK (N + 1) σ' τ' → gI D (fun q : Nat => s.heap.size ≤ q) s.heap ((wd ad cG cZ (σ') ++ wo ao cJ (f')) ++ wm am cI cZ (τ')) H locs → lv_has ls 7 [(0, .ref b), (1, .ref (ad 0)), (2, .ref (am 0)), (3, .ref ao), (4, .int (nI (4 * N)))] → W p l e room_1 s m #[Value.ref b] below meth c H locs (cells + 1) (slots + 6) Q (F0 m 856 ls [])) : W p l e room_1 s m #[Value.ref b] below meth c H locs cells slots Q (F0 m 100 ls []) := by
  obtain ⟨hx, hb, hml, hown, hg, hK, hE, hX, hbl⟩ := C1
  have hA : ∀ q : Nat, s.heap.size ≤ q → (fun q : Nat => s.heap.size ≤ q) q := fun _ h => h
  have hbA : ¬ (fun q : Nat => s.heap.size ≤ q) b := Nat.not_le.mpr hbl
  obtain ⟨σ', τ', f', k, r, hK1, hk, hk2, hf, hG, hM⟩ := st_lay (D := D) (cG := cG) (cZ := cZ) (cI := cI) (cJ := cJ) (ad := ad) (am := am) (ao := ao) (f := f) hfl hK0 hN (xs ((4 * N) + 1)) (xs ((4 * N) + 2))
  subst hk
  refine lv_aload_n hx hb d_LW_law_100 rfl (lv_at hl 1 rfl) ?_
  refine lv_aload_n hx hb d_LW_law_101 rfl (lv_at hl 0 rfl) ?_
  refine lv_iload hx hb d_LW_law_102 (lv_at hl 4 rfl) ?_
  refine lv_iconst (v := nI 1) hx hb d_LW_law_104 (by decide) ?_
  refine r_iadd (a := 4 * N) (b := 1) hx hb d_LW_law_105 ?_
  refine g_scr (i := (4 * N) + 1) hx hb hX hbl hbA hI (by omega) hL d_LW_law_106 ?_
  refine lv_aload_n hx hb d_LW_law_107 rfl (lv_at hl 0 rfl) ?_
  refine lv_iload hx hb d_LW_law_108 (lv_at hl 4 rfl) ?_
  refine lv_iconst (v := nI 2) hx hb d_LW_law_110 (by decide) ?_
  refine r_iadd (a := 4 * N) (b := 2) hx hb d_LW_law_111 ?_
  refine g_scr (i := (4 * N) + 2) hx hb hX hbl hbA hI (by omega) hL d_LW_law_112 ?_
  refine lv_aload_n hx hb d_LW_law_113 rfl (lv_at hl 3 rfl) ?_
  refine g_callSW (own := "GroupBitmapsLaw") (k := 4) (As := [.ref (ad 0), .int (xs ((4 * N) + 1)), .int (xs ((4 * N) + 2)), .ref ao]) (rest := []) (hG.frame (wm am cI cZ τ)) hE hx hb hml hown hg hK hI hA kw_119 kw_120 kw_0 kw_121 ky_LW_lay ⟨Nat.le_of_ble_eq_true rfl, Nat.le_of_ble_eq_true rfl⟩ rfl rfl rfl hl.1 (Nat.le_of_ble_eq_true rfl) hcs d_LW_law_114 rfl rfl (fun H locs hI => ?_)
  refine lv_istore (lv' := [(5, .int (nI (mTh τ'))), (0, .ref b), (1, .ref (ad 0)), (2, .ref (am 0)), (3, .ref ao), (4, .int (nI (4 * N)))]) hx hb d_LW_law_117 hl (by decide) rfl (fun ls hl => ?_)
  refine lv_aload_n hx hb d_LW_law_119 rfl (lv_at hl 3 rfl) ?_
  refine lv_aload_n hx hb d_LW_law_120 rfl (lv_at hl 1 rfl) ?_
  refine lv_iload hx hb d_LW_law_121 (lv_at hl 5 rfl) ?_
  refine lv_iconst (v := nI 1) hx hb d_LW_law_123 (by decide) ?_
  refine r_iadd (a := 4 * N) (b := 1) hx hb d_LW_law_124 ?_
  refine g_scr (i := (4 * N) + 1) hx hb hX hbl hbA hI (by omega) hL d_LW_law_125 ?_
  refine lv_aload_n hx hb d_LW_law_126 rfl (lv_at hl 1 rfl) ?_
  refine lv_iload hx hb d_LW_law_127 (lv_at hl 5 rfl) ?_
  refine lv_iconst (v := nI 2) hx hb d_LW_law_129 (by decide) ?_
  refine r_iadd (a := 4 * N) (b := 2) hx hb d_LW_law_130 ?_
  refine g_scr (i := (4 * N) + 2) hx hb hX hbl hbA hI (by omega) hL d_LW_law_131 ?_
  refine g_callVE (own := "GroupBitmapsLaw") (C := "GroupBitmapsModel") (T := F_MD) (N := 11) (k := 2) (ci := 3) (a := am 0) (As := [.int (xs ((4 * N) + 1)), .int (xs ((4 * N) + 2))]) (rest := []) ((gMetE.G hM).frameL (wd ad cG cZ σ' ++ wo ao cJ f')) hE hx hb hml hown hg hK hI hA kw_509 kw_510 kw_511 kw_4 kw_512 ky_MD_lay ⟨Nat.le_of_ble_eq_true rfl, Nat.le_of_ble_eq_true rfl⟩ rfl rfl (fr_r wm_0) rfl rfl hl.1 (Nat.le_of_ble_eq_true rfl) (hcs) d_LW_law_132 rfl rfl (fun H locs hI => ?_)
  refine lv_istore (lv' := [(6, .int r), (5, .int (nI (mTh τ'))), (0, .ref b), (1, .ref (ad 0)), (2, .ref (am 0)), (3, .ref ao), (4, .int (nI (4 * N)))]) hx hb d_LW_law_135 hl (by decide) rfl (fun ls hl => ?_)
  refine lv_aload_n hx hb d_LW_law_137 rfl (lv_at hl 4 rfl) ?_
  refine g_callVE (own := "GroupBitmapsLaw") (C := "GroupBitmapsModel") (T := F_MD) (N := 11) (k := 0) (ci := 3) (a := am 0) (As := []) (rest := []) ((gMetE.G (gMet.toE (c_MD_thrown τ'))).frameL (wd ad cG cZ σ' ++ wo ao cJ f')) hE hx hb hml hown hg hK hI hA kw_505 kw_506 kw_507 kw_4 kw_508 ky_MD_thrown ⟨Nat.le_of_ble_eq_true rfl, Nat.le_of_ble_eq_true rfl⟩ rfl rfl (fr_r wm_0) rfl rfl hl.1 (Nat.le_of_ble_eq_true rfl) (hcs) d_LW_law_138 rfl rfl (fun H locs hI => ?_)
  refine lv_iload hx hb d_LW_law_141 (lv_at hl 1 rfl) ?_
  refine lv_icmp_eq (tgt := 148) hx hb d_LW_law_143 (by decide) (fun _ => ?_) (fun h => absurd rfl h)
  refine lv_iload hx hb d_LW_law_148 (lv_at hl 1 rfl) ?_
  refine r_zne (a := mTh τ') (tgt := 165) hx hb d_LW_law_150 (by decide) (by omega) (fun h0 => ?_) (fun h0 => ?_)
  · refine lv_goto (tgt := 856) hx hb d_LW_law_165 (by decide) ?_
    exact kk σ' τ' f' H locs ls hK1 hI (lv_sub hl [2, 3, 4, 5, 6] rfl)
  · refine lv_aload_n hx hb d_LW_law_153 rfl (lv_at hl 5 rfl) ?_
    refine lv_iconst (v := nI 0) hx hb d_LW_law_154 (by decide) ?_
    refine g_lald (i := 0) hx hb hK hI 22 3 (fr_l wo_at) rfl (by decide) (by decide) d_LW_law_155 ?_
    refine lv_iload hx hb d_LW_law_156 (lv_at hl 0 rfl) ?_
    refine lv_i2l (v := r.toInt64) hx hb d_LW_law_158 rfl ?_
    refine r_lcmp0 hx hb (hf h0) d_LW_law_159 ?_
    refine lv_if_eq (tgt := 165) hx hb d_LW_law_160 (by decide) (fun _ => ?_) (fun h => absurd rfl h)
    refine lv_goto (tgt := 856) hx hb d_LW_law_165 (by decide) ?_
    exact kk σ' τ' f' H locs ls hK1 hI (lv_sub hl [2, 3, 4, 5, 6] rfl)
set_option maxHeartbeats 4000000 in
set_option maxRecDepth 100000 in
theorem law_reserve {p : Program} {l : Launch} {e : Env} {s : State} {m : MethodId} {below : List Frame} {meth : Method} {c : Code} {D : va_G} {cG cZ cI cJ : ClassId} {b L : Nat} {xs : Nat → Int32} {ad am : Nat → Nat} {ao : Nat} {f : Nat → Int64} {σ : gS} {τ : mS} {N cells slots : Nat} {Q : State → Prop} {H : Heap} {locs : List Loc} {ls : Array Slot} (hfl : l.flags = flags0) (C1 : lwC p s m c D cG cZ cI cJ b L xs) (hK0 : RK N σ τ) (hN : N < 65535) (hNL : 4 * N + 4 ≤ L) (hL : L < 2 ^ 31) (hcs : cells + 1 ≤ room_1.cells ∧ slots + 6 ≤ room_1.slots) (hI : gI D (fun q : Nat => s.heap.size ≤ q) s.heap ((wd ad cG cZ σ ++ wo ao cJ f) ++ wm am cI cZ τ) H locs) (hl : lv_has ls 7 [(0, .ref b), (1, .ref (ad 0)), (2, .ref (am 0)), (3, .ref ao), (4, .int (nI (4 * N)))])
    (kk : ∀ (σ' : gS) (τ' : mS) (f' : Nat → Int64) (H : Heap) (locs : List Loc) (ls : Array Slot), RK (N + 1) σ' τ' → gI D (fun q : Nat => s.heap.size ≤ q) s.heap ((wd ad cG cZ (σ') ++ wo ao cJ (f')) ++ wm am cI cZ (τ')) H locs → lv_has ls 7 [(0, .ref b), (1, .ref (ad 0)), (2, .ref (am 0)), (3, .ref ao), (4, .int (nI (4 * N)))] → W p l e room_1 s m #[Value.ref b] below meth c H locs (cells + 1) (slots + 6) Q (F0 m 856 ls [])) : W p l e room_1 s m #[Value.ref b] below meth c H locs cells slots Q (F0 m 168 ls []) := by
  obtain ⟨hx, hb, hml, hown, hg, hK, hE, hX, hbl⟩ := C1
  have hA : ∀ q : Nat, s.heap.size ≤ q → (fun q : Nat => s.heap.size ≤ q) q := fun _ h => h
  have hbA : ¬ (fun q : Nat => s.heap.size ≤ q) b := Nat.not_le.mpr hbl
  obtain ⟨σ', τ', f', k, r, hK1, hk, hk2, hf, hG, hM⟩ := st_reserve (D := D) (cG := cG) (cZ := cZ) (cI := cI) (cJ := cJ) (ad := ad) (am := am) (ao := ao) (f := f) hfl hK0 hN (xs ((4 * N) + 1))
  subst hk
  refine lv_aload_n hx hb d_LW_law_168 rfl (lv_at hl 1 rfl) ?_
  refine lv_aload_n hx hb d_LW_law_169 rfl (lv_at hl 0 rfl) ?_
  refine lv_iload hx hb d_LW_law_170 (lv_at hl 4 rfl) ?_
  refine lv_iconst (v := nI 1) hx hb d_LW_law_172 (by decide) ?_
  refine r_iadd (a := 4 * N) (b := 1) hx hb d_LW_law_173 ?_
  refine g_scr (i := (4 * N) + 1) hx hb hX hbl hbA hI (by omega) hL d_LW_law_174 ?_
  refine lv_aload_n hx hb d_LW_law_175 rfl (lv_at hl 3 rfl) ?_
  refine g_callSW (own := "GroupBitmapsLaw") (k := 3) (As := [.ref (ad 0), .int (xs ((4 * N) + 1)), .ref ao]) (rest := []) (hG.frame (wm am cI cZ τ)) hE hx hb hml hown hg hK hI hA kw_200 kw_201 kw_0 kw_202 ky_LW_reserve ⟨Nat.le_of_ble_eq_true rfl, Nat.le_of_ble_eq_true rfl⟩ rfl rfl rfl hl.1 (Nat.le_of_ble_eq_true rfl) hcs d_LW_law_176 rfl rfl (fun H locs hI => ?_)
  refine lv_istore (lv' := [(5, .int (nI (mTh τ'))), (0, .ref b), (1, .ref (ad 0)), (2, .ref (am 0)), (3, .ref ao), (4, .int (nI (4 * N)))]) hx hb d_LW_law_179 hl (by decide) rfl (fun ls hl => ?_)
  refine lv_aload_n hx hb d_LW_law_181 rfl (lv_at hl 3 rfl) ?_
  refine lv_aload_n hx hb d_LW_law_182 rfl (lv_at hl 1 rfl) ?_
  refine lv_iload hx hb d_LW_law_183 (lv_at hl 5 rfl) ?_
  refine lv_iconst (v := nI 1) hx hb d_LW_law_185 (by decide) ?_
  refine r_iadd (a := 4 * N) (b := 1) hx hb d_LW_law_186 ?_
  refine g_scr (i := (4 * N) + 1) hx hb hX hbl hbA hI (by omega) hL d_LW_law_187 ?_
  refine g_callVE (own := "GroupBitmapsLaw") (C := "GroupBitmapsModel") (T := F_MD) (N := 11) (k := 1) (ci := 3) (a := am 0) (As := [.int (xs ((4 * N) + 1))]) (rest := []) ((gMetE.G hM).frameL (wd ad cG cZ σ' ++ wo ao cJ f')) hE hx hb hml hown hg hK hI hA kw_521 kw_522 kw_523 kw_4 kw_524 ky_MD_reserve ⟨Nat.le_of_ble_eq_true rfl, Nat.le_of_ble_eq_true rfl⟩ rfl rfl (fr_r wm_0) rfl rfl hl.1 (Nat.le_of_ble_eq_true rfl) (hcs) d_LW_law_188 rfl rfl (fun H locs hI => ?_)
  refine lv_istore (lv' := [(6, .int r), (5, .int (nI (mTh τ'))), (0, .ref b), (1, .ref (ad 0)), (2, .ref (am 0)), (3, .ref ao), (4, .int (nI (4 * N)))]) hx hb d_LW_law_191 hl (by decide) rfl (fun ls hl => ?_)
  refine lv_aload_n hx hb d_LW_law_193 rfl (lv_at hl 4 rfl) ?_
  refine g_callVE (own := "GroupBitmapsLaw") (C := "GroupBitmapsModel") (T := F_MD) (N := 11) (k := 0) (ci := 3) (a := am 0) (As := []) (rest := []) ((gMetE.G (gMet.toE (c_MD_thrown τ'))).frameL (wd ad cG cZ σ' ++ wo ao cJ f')) hE hx hb hml hown hg hK hI hA kw_505 kw_506 kw_507 kw_4 kw_508 ky_MD_thrown ⟨Nat.le_of_ble_eq_true rfl, Nat.le_of_ble_eq_true rfl⟩ rfl rfl (fr_r wm_0) rfl rfl hl.1 (Nat.le_of_ble_eq_true rfl) (hcs) d_LW_law_194 rfl rfl (fun H locs hI => ?_)
  refine lv_iload hx hb d_LW_law_197 (lv_at hl 1 rfl) ?_
  refine lv_icmp_eq (tgt := 204) hx hb d_LW_law_199 (by decide) (fun _ => ?_) (fun h => absurd rfl h)
  refine lv_iload hx hb d_LW_law_204 (lv_at hl 1 rfl) ?_
  refine r_zne (a := mTh τ') (tgt := 221) hx hb d_LW_law_206 (by decide) (by omega) (fun h0 => ?_) (fun h0 => ?_)
  · refine lv_goto (tgt := 856) hx hb d_LW_law_221 (by decide) ?_
    exact kk σ' τ' f' H locs ls hK1 hI (lv_sub hl [2, 3, 4, 5, 6] rfl)
  · refine lv_aload_n hx hb d_LW_law_209 rfl (lv_at hl 5 rfl) ?_
    refine lv_iconst (v := nI 0) hx hb d_LW_law_210 (by decide) ?_
    refine g_lald (i := 0) hx hb hK hI 22 3 (fr_l wo_at) rfl (by decide) (by decide) d_LW_law_211 ?_
    refine lv_iload hx hb d_LW_law_212 (lv_at hl 0 rfl) ?_
    refine lv_i2l (v := r.toInt64) hx hb d_LW_law_214 rfl ?_
    refine r_lcmp0 hx hb (hf h0) d_LW_law_215 ?_
    refine lv_if_eq (tgt := 221) hx hb d_LW_law_216 (by decide) (fun _ => ?_) (fun h => absurd rfl h)
    refine lv_goto (tgt := 856) hx hb d_LW_law_221 (by decide) ?_
    exact kk σ' τ' f' H locs ls hK1 hI (lv_sub hl [2, 3, 4, 5, 6] rfl)
set_option maxHeartbeats 4000000 in
set_option maxRecDepth 100000 in
theorem law_take {p : Program} {l : Launch} {e : Env} {s : State} {m : MethodId} {below : List Frame} {meth : Method} {c : Code} {D : va_G} {cG cZ cI cJ : ClassId} {b L : Nat} {xs : Nat → Int32} {ad am : Nat → Nat} {ao : Nat} {f : Nat → Int64} {σ : gS} {τ : mS} {N cells slots : Nat} {Q : State → Prop} {H : Heap} {locs : List Loc} {ls : Array Slot} (hfl : l.flags = flags0) (C1 : lwC p s m c D cG cZ cI cJ b L xs) (hK0 : RK N σ τ) (hN : N < 65535) (hNL : 4 * N + 4 ≤ L) (hL : L < 2 ^ 31) (hcs : cells + 1 ≤ room_1.cells ∧ slots + 6 ≤ room_1.slots) (hI : gI D (fun q : Nat => s.heap.size ≤ q) s.heap ((wd ad cG cZ σ ++ wo ao cJ f) ++ wm am cI cZ τ) H locs) (hl : lv_has ls 7 [(0, .ref b), (1, .ref (ad 0)), (2, .ref (am 0)), (3, .ref ao), (4, .int (nI (4 * N)))])
    (kk : ∀ (σ' : gS) (τ' : mS) (f' : Nat → Int64) (H : Heap) (locs : List Loc) (ls : Array Slot), RK (N + 1) σ' τ' → gI D (fun q : Nat => s.heap.size ≤ q) s.heap ((wd ad cG cZ (σ') ++ wo ao cJ (f')) ++ wm am cI cZ (τ')) H locs → lv_has ls 7 [(0, .ref b), (1, .ref (ad 0)), (2, .ref (am 0)), (3, .ref ao), (4, .int (nI (4 * N)))] → W p l e room_1 s m #[Value.ref b] below meth c H locs (cells + 1) (slots + 6) Q (F0 m 856 ls [])) : W p l e room_1 s m #[Value.ref b] below meth c H locs cells slots Q (F0 m 224 ls []) := by
  obtain ⟨hx, hb, hml, hown, hg, hK, hE, hX, hbl⟩ := C1
  have hA : ∀ q : Nat, s.heap.size ≤ q → (fun q : Nat => s.heap.size ≤ q) q := fun _ h => h
  have hbA : ¬ (fun q : Nat => s.heap.size ≤ q) b := Nat.not_le.mpr hbl
  obtain ⟨σ', τ', f', k, r, hK1, hk, hk2, hf, hG, hM⟩ := st_take (D := D) (cG := cG) (cZ := cZ) (cI := cI) (cJ := cJ) (ad := ad) (am := am) (ao := ao) (f := f) hfl hK0 hN (xs ((4 * N) + 1)) (xs ((4 * N) + 2)) (nz (xs ((4 * N) + 3)))
  subst hk
  refine lv_aload_n hx hb d_LW_law_224 rfl (lv_at hl 1 rfl) ?_
  refine lv_aload_n hx hb d_LW_law_225 rfl (lv_at hl 0 rfl) ?_
  refine lv_iload hx hb d_LW_law_226 (lv_at hl 4 rfl) ?_
  refine lv_iconst (v := nI 1) hx hb d_LW_law_228 (by decide) ?_
  refine r_iadd (a := 4 * N) (b := 1) hx hb d_LW_law_229 ?_
  refine g_scr (i := (4 * N) + 1) hx hb hX hbl hbA hI (by omega) hL d_LW_law_230 ?_
  refine lv_aload_n hx hb d_LW_law_231 rfl (lv_at hl 0 rfl) ?_
  refine lv_iload hx hb d_LW_law_232 (lv_at hl 4 rfl) ?_
  refine lv_iconst (v := nI 2) hx hb d_LW_law_234 (by decide) ?_
  refine r_iadd (a := 4 * N) (b := 2) hx hb d_LW_law_235 ?_
  refine g_scr (i := (4 * N) + 2) hx hb hX hbl hbA hI (by omega) hL d_LW_law_236 ?_
  refine lv_aload_n hx hb d_LW_law_237 rfl (lv_at hl 0 rfl) ?_
  refine lv_iload hx hb d_LW_law_238 (lv_at hl 4 rfl) ?_
  refine lv_iconst (v := nI 3) hx hb d_LW_law_240 (by decide) ?_
  refine r_iadd (a := 4 * N) (b := 3) hx hb d_LW_law_241 ?_
  refine g_scr (i := (4 * N) + 3) hx hb hX hbl hbA hI (by omega) hL d_LW_law_242 ?_
  refine r_b01 hx hb d_LW_law_243 d_LW_law_246 d_LW_law_247 d_LW_law_250 ?_
  refine lv_aload_n hx hb d_LW_law_251 rfl (lv_at hl 3 rfl) ?_
  refine g_callSW (own := "GroupBitmapsLaw") (k := 5) (As := [.ref (ad 0), .int (xs ((4 * N) + 1)), .int (xs ((4 * N) + 2)), .int (bI (nz (xs ((4 * N) + 3)))), .ref ao]) (rest := []) (hG.frame (wm am cI cZ τ)) hE hx hb hml hown hg hK hI hA kw_215 kw_216 kw_0 kw_217 ky_LW_take ⟨Nat.le_of_ble_eq_true rfl, Nat.le_of_ble_eq_true rfl⟩ rfl rfl rfl hl.1 (Nat.le_of_ble_eq_true rfl) hcs d_LW_law_252 rfl rfl (fun H locs hI => ?_)
  refine lv_istore (lv' := [(5, .int (nI (mTh τ'))), (0, .ref b), (1, .ref (ad 0)), (2, .ref (am 0)), (3, .ref ao), (4, .int (nI (4 * N)))]) hx hb d_LW_law_255 hl (by decide) rfl (fun ls hl => ?_)
  refine lv_aload_n hx hb d_LW_law_257 rfl (lv_at hl 3 rfl) ?_
  refine lv_aload_n hx hb d_LW_law_258 rfl (lv_at hl 1 rfl) ?_
  refine lv_iload hx hb d_LW_law_259 (lv_at hl 5 rfl) ?_
  refine lv_iconst (v := nI 1) hx hb d_LW_law_261 (by decide) ?_
  refine r_iadd (a := 4 * N) (b := 1) hx hb d_LW_law_262 ?_
  refine g_scr (i := (4 * N) + 1) hx hb hX hbl hbA hI (by omega) hL d_LW_law_263 ?_
  refine lv_aload_n hx hb d_LW_law_264 rfl (lv_at hl 1 rfl) ?_
  refine lv_iload hx hb d_LW_law_265 (lv_at hl 5 rfl) ?_
  refine lv_iconst (v := nI 2) hx hb d_LW_law_267 (by decide) ?_
  refine r_iadd (a := 4 * N) (b := 2) hx hb d_LW_law_268 ?_
  refine g_scr (i := (4 * N) + 2) hx hb hX hbl hbA hI (by omega) hL d_LW_law_269 ?_
  refine lv_aload_n hx hb d_LW_law_270 rfl (lv_at hl 1 rfl) ?_
  refine lv_iload hx hb d_LW_law_271 (lv_at hl 5 rfl) ?_
  refine lv_iconst (v := nI 3) hx hb d_LW_law_273 (by decide) ?_
  refine r_iadd (a := 4 * N) (b := 3) hx hb d_LW_law_274 ?_
  refine g_scr (i := (4 * N) + 3) hx hb hX hbl hbA hI (by omega) hL d_LW_law_275 ?_
  refine r_b01 hx hb d_LW_law_276 d_LW_law_279 d_LW_law_280 d_LW_law_283 ?_
  refine g_callVE (own := "GroupBitmapsLaw") (C := "GroupBitmapsModel") (T := F_MD) (N := 11) (k := 3) (ci := 3) (a := am 0) (As := [.int (xs ((4 * N) + 1)), .int (xs ((4 * N) + 2)), .int (bI (nz (xs ((4 * N) + 3))))]) (rest := []) ((gMetE.G hM).frameL (wd ad cG cZ σ' ++ wo ao cJ f')) hE hx hb hml hown hg hK hI hA kw_525 kw_526 kw_527 kw_4 kw_528 ky_MD_take ⟨Nat.le_of_ble_eq_true rfl, Nat.le_of_ble_eq_true rfl⟩ rfl rfl (fr_r wm_0) rfl rfl hl.1 (Nat.le_of_ble_eq_true rfl) (hcs) d_LW_law_284 rfl rfl (fun H locs hI => ?_)
  refine lv_istore (lv' := [(6, .int r), (5, .int (nI (mTh τ'))), (0, .ref b), (1, .ref (ad 0)), (2, .ref (am 0)), (3, .ref ao), (4, .int (nI (4 * N)))]) hx hb d_LW_law_287 hl (by decide) rfl (fun ls hl => ?_)
  refine lv_aload_n hx hb d_LW_law_289 rfl (lv_at hl 4 rfl) ?_
  refine g_callVE (own := "GroupBitmapsLaw") (C := "GroupBitmapsModel") (T := F_MD) (N := 11) (k := 0) (ci := 3) (a := am 0) (As := []) (rest := []) ((gMetE.G (gMet.toE (c_MD_thrown τ'))).frameL (wd ad cG cZ σ' ++ wo ao cJ f')) hE hx hb hml hown hg hK hI hA kw_505 kw_506 kw_507 kw_4 kw_508 ky_MD_thrown ⟨Nat.le_of_ble_eq_true rfl, Nat.le_of_ble_eq_true rfl⟩ rfl rfl (fr_r wm_0) rfl rfl hl.1 (Nat.le_of_ble_eq_true rfl) (hcs) d_LW_law_290 rfl rfl (fun H locs hI => ?_)
  refine lv_iload hx hb d_LW_law_293 (lv_at hl 1 rfl) ?_
  refine lv_icmp_eq (tgt := 300) hx hb d_LW_law_295 (by decide) (fun _ => ?_) (fun h => absurd rfl h)
  refine lv_iload hx hb d_LW_law_300 (lv_at hl 1 rfl) ?_
  refine r_zne (a := mTh τ') (tgt := 317) hx hb d_LW_law_302 (by decide) (by omega) (fun h0 => ?_) (fun h0 => ?_)
  · refine lv_goto (tgt := 856) hx hb d_LW_law_317 (by decide) ?_
    exact kk σ' τ' f' H locs ls hK1 hI (lv_sub hl [2, 3, 4, 5, 6] rfl)
  · refine lv_aload_n hx hb d_LW_law_305 rfl (lv_at hl 5 rfl) ?_
    refine lv_iconst (v := nI 0) hx hb d_LW_law_306 (by decide) ?_
    refine g_lald (i := 0) hx hb hK hI 22 3 (fr_l wo_at) rfl (by decide) (by decide) d_LW_law_307 ?_
    refine lv_iload hx hb d_LW_law_308 (lv_at hl 0 rfl) ?_
    refine lv_i2l (v := r.toInt64) hx hb d_LW_law_310 rfl ?_
    refine r_lcmp0 hx hb (hf h0) d_LW_law_311 ?_
    refine lv_if_eq (tgt := 317) hx hb d_LW_law_312 (by decide) (fun _ => ?_) (fun h => absurd rfl h)
    refine lv_goto (tgt := 856) hx hb d_LW_law_317 (by decide) ?_
    exact kk σ' τ' f' H locs ls hK1 hI (lv_sub hl [2, 3, 4, 5, 6] rfl)
set_option maxHeartbeats 4000000 in
set_option maxRecDepth 100000 in
theorem law_taken {p : Program} {l : Launch} {e : Env} {s : State} {m : MethodId} {below : List Frame} {meth : Method} {c : Code} {D : va_G} {cG cZ cI cJ : ClassId} {b L : Nat} {xs : Nat → Int32} {ad am : Nat → Nat} {ao : Nat} {f : Nat → Int64} {σ : gS} {τ : mS} {N cells slots : Nat} {Q : State → Prop} {H : Heap} {locs : List Loc} {ls : Array Slot} (hfl : l.flags = flags0) (C1 : lwC p s m c D cG cZ cI cJ b L xs) (hK0 : RK N σ τ) (hN : N < 65535) (hNL : 4 * N + 4 ≤ L) (hL : L < 2 ^ 31) (hcs : cells + 1 ≤ room_1.cells ∧ slots + 6 ≤ room_1.slots) (hI : gI D (fun q : Nat => s.heap.size ≤ q) s.heap ((wd ad cG cZ σ ++ wo ao cJ f) ++ wm am cI cZ τ) H locs) (hl : lv_has ls 7 [(0, .ref b), (1, .ref (ad 0)), (2, .ref (am 0)), (3, .ref ao), (4, .int (nI (4 * N)))])
    (kk : ∀ (σ' : gS) (τ' : mS) (f' : Nat → Int64) (H : Heap) (locs : List Loc) (ls : Array Slot), RK (N + 1) σ' τ' → gI D (fun q : Nat => s.heap.size ≤ q) s.heap ((wd ad cG cZ (σ') ++ wo ao cJ (f')) ++ wm am cI cZ (τ')) H locs → lv_has ls 7 [(0, .ref b), (1, .ref (ad 0)), (2, .ref (am 0)), (3, .ref ao), (4, .int (nI (4 * N)))] → W p l e room_1 s m #[Value.ref b] below meth c H locs (cells + 1) (slots + 6) Q (F0 m 856 ls [])) : W p l e room_1 s m #[Value.ref b] below meth c H locs cells slots Q (F0 m 320 ls []) := by
  obtain ⟨hx, hb, hml, hown, hg, hK, hE, hX, hbl⟩ := C1
  have hA : ∀ q : Nat, s.heap.size ≤ q → (fun q : Nat => s.heap.size ≤ q) q := fun _ h => h
  have hbA : ¬ (fun q : Nat => s.heap.size ≤ q) b := Nat.not_le.mpr hbl
  obtain ⟨σ', τ', r, hK1, hG, hM⟩ := st_taken (D := D) (cG := cG) (cZ := cZ) (cI := cI) (cJ := cJ) (ad := ad) (am := am) hfl hK0 hN
  refine lv_aload_n hx hb d_LW_law_320 rfl (lv_at hl 1 rfl) ?_
  refine g_callVE (own := "GroupBitmapsLaw") (C := "GroupBitmaps") (T := F_GB) (N := 5) (k := 0) (ci := 0) (a := ad 0) (As := []) (rest := []) (((gMetE.G hG).frame (wo ao cJ f)).frame (wm am cI cZ τ)) hE hx hb hml hown hg hK hI hA kw_107 kw_108 kw_109 kw_1 kw_110 ky_GB_taken ⟨Nat.le_of_ble_eq_true rfl, Nat.le_of_ble_eq_true rfl⟩ rfl rfl (fr_l (fr_l wd_GB)) rfl rfl hl.1 (Nat.le_of_ble_eq_true rfl) (⟨Nat.le_of_succ_le hcs.1, Nat.le_trans (Nat.le_add_right _ 6) hcs.2⟩) d_LW_law_321 rfl rfl (fun H locs hI => ?_)
  refine lv_aload_n hx hb d_LW_law_324 rfl (lv_at hl 2 rfl) ?_
  refine g_callVE (own := "GroupBitmapsLaw") (C := "GroupBitmapsModel") (T := F_MD) (N := 11) (k := 0) (ci := 3) (a := am 0) (As := []) (rest := [.int r]) ((gMetE.G hM).frameL (wd ad cG cZ σ' ++ wo ao cJ f)) hE hx hb hml hown hg hK hI hA kw_545 kw_546 kw_547 kw_4 kw_548 ky_MD_taken ⟨Nat.le_of_ble_eq_true rfl, Nat.le_of_ble_eq_true rfl⟩ rfl rfl (fr_r wm_0) rfl rfl hl.1 (Nat.le_of_ble_eq_true rfl) (⟨Nat.le_of_succ_le hcs.1, Nat.le_trans (Nat.le_add_right _ 6) hcs.2⟩) d_LW_law_325 rfl rfl (fun H locs hI => ?_)
  refine lv_icmp_eq (tgt := 856) hx hb d_LW_law_328 (by decide) (fun _ => ?_) (fun h => absurd rfl h)
  refine W.more (Nat.le_succ _) (Nat.le_add_right _ 6) ?_
  exact kk σ' τ' f H locs ls hK1 hI (lv_sub hl [0, 1, 2, 3, 4] rfl)
set_option maxHeartbeats 4000000 in
set_option maxRecDepth 100000 in
theorem law_give {p : Program} {l : Launch} {e : Env} {s : State} {m : MethodId} {below : List Frame} {meth : Method} {c : Code} {D : va_G} {cG cZ cI cJ : ClassId} {b L : Nat} {xs : Nat → Int32} {ad am : Nat → Nat} {ao : Nat} {f : Nat → Int64} {σ : gS} {τ : mS} {N cells slots : Nat} {Q : State → Prop} {H : Heap} {locs : List Loc} {ls : Array Slot} (hfl : l.flags = flags0) (C1 : lwC p s m c D cG cZ cI cJ b L xs) (hK0 : RK N σ τ) (hN : N < 65535) (hNL : 4 * N + 4 ≤ L) (hL : L < 2 ^ 31) (hcs : cells + 1 ≤ room_1.cells ∧ slots + 6 ≤ room_1.slots) (hI : gI D (fun q : Nat => s.heap.size ≤ q) s.heap ((wd ad cG cZ σ ++ wo ao cJ f) ++ wm am cI cZ τ) H locs) (hl : lv_has ls 7 [(0, .ref b), (1, .ref (ad 0)), (2, .ref (am 0)), (3, .ref ao), (4, .int (nI (4 * N)))])
    (kk : ∀ (σ' : gS) (τ' : mS) (f' : Nat → Int64) (H : Heap) (locs : List Loc) (ls : Array Slot), RK (N + 1) σ' τ' → gI D (fun q : Nat => s.heap.size ≤ q) s.heap ((wd ad cG cZ (σ') ++ wo ao cJ (f')) ++ wm am cI cZ (τ')) H locs → lv_has ls 7 [(0, .ref b), (1, .ref (ad 0)), (2, .ref (am 0)), (3, .ref ao), (4, .int (nI (4 * N)))] → W p l e room_1 s m #[Value.ref b] below meth c H locs (cells + 1) (slots + 6) Q (F0 m 856 ls [])) : W p l e room_1 s m #[Value.ref b] below meth c H locs cells slots Q (F0 m 333 ls []) := by
  obtain ⟨hx, hb, hml, hown, hg, hK, hE, hX, hbl⟩ := C1
  have hA : ∀ q : Nat, s.heap.size ≤ q → (fun q : Nat => s.heap.size ≤ q) q := fun _ h => h
  have hbA : ¬ (fun q : Nat => s.heap.size ≤ q) b := Nat.not_le.mpr hbl
  obtain ⟨σ', τ', f', k, r, hK1, hk, hk2, hf, hG, hM⟩ := st_give (D := D) (cG := cG) (cZ := cZ) (cI := cI) (cJ := cJ) (ad := ad) (am := am) (ao := ao) (f := f) hfl hK0 hN (xs ((4 * N) + 1)) (xs ((4 * N) + 2))
  subst hk
  refine lv_aload_n hx hb d_LW_law_333 rfl (lv_at hl 1 rfl) ?_
  refine lv_aload_n hx hb d_LW_law_334 rfl (lv_at hl 0 rfl) ?_
  refine lv_iload hx hb d_LW_law_335 (lv_at hl 4 rfl) ?_
  refine lv_iconst (v := nI 1) hx hb d_LW_law_337 (by decide) ?_
  refine r_iadd (a := 4 * N) (b := 1) hx hb d_LW_law_338 ?_
  refine g_scr (i := (4 * N) + 1) hx hb hX hbl hbA hI (by omega) hL d_LW_law_339 ?_
  refine lv_aload_n hx hb d_LW_law_340 rfl (lv_at hl 0 rfl) ?_
  refine lv_iload hx hb d_LW_law_341 (lv_at hl 4 rfl) ?_
  refine lv_iconst (v := nI 2) hx hb d_LW_law_343 (by decide) ?_
  refine r_iadd (a := 4 * N) (b := 2) hx hb d_LW_law_344 ?_
  refine g_scr (i := (4 * N) + 2) hx hb hX hbl hbA hI (by omega) hL d_LW_law_345 ?_
  refine lv_aload_n hx hb d_LW_law_346 rfl (lv_at hl 3 rfl) ?_
  refine g_callSW (own := "GroupBitmapsLaw") (k := 4) (As := [.ref (ad 0), .int (xs ((4 * N) + 1)), .int (xs ((4 * N) + 2)), .ref ao]) (rest := []) (hG.frame (wm am cI cZ τ)) hE hx hb hml hown hg hK hI hA kw_293 kw_294 kw_0 kw_295 ky_LW_give ⟨Nat.le_of_ble_eq_true rfl, Nat.le_of_ble_eq_true rfl⟩ rfl rfl rfl hl.1 (Nat.le_of_ble_eq_true rfl) hcs d_LW_law_347 rfl rfl (fun H locs hI => ?_)
  refine lv_istore (lv' := [(5, .int (nI (mTh τ'))), (0, .ref b), (1, .ref (ad 0)), (2, .ref (am 0)), (3, .ref ao), (4, .int (nI (4 * N)))]) hx hb d_LW_law_350 hl (by decide) rfl (fun ls hl => ?_)
  refine lv_aload_n hx hb d_LW_law_352 rfl (lv_at hl 3 rfl) ?_
  refine lv_aload_n hx hb d_LW_law_353 rfl (lv_at hl 1 rfl) ?_
  refine lv_iload hx hb d_LW_law_354 (lv_at hl 5 rfl) ?_
  refine lv_iconst (v := nI 1) hx hb d_LW_law_356 (by decide) ?_
  refine r_iadd (a := 4 * N) (b := 1) hx hb d_LW_law_357 ?_
  refine g_scr (i := (4 * N) + 1) hx hb hX hbl hbA hI (by omega) hL d_LW_law_358 ?_
  refine lv_aload_n hx hb d_LW_law_359 rfl (lv_at hl 1 rfl) ?_
  refine lv_iload hx hb d_LW_law_360 (lv_at hl 5 rfl) ?_
  refine lv_iconst (v := nI 2) hx hb d_LW_law_362 (by decide) ?_
  refine r_iadd (a := 4 * N) (b := 2) hx hb d_LW_law_363 ?_
  refine g_scr (i := (4 * N) + 2) hx hb hX hbl hbA hI (by omega) hL d_LW_law_364 ?_
  refine g_callVE (own := "GroupBitmapsLaw") (C := "GroupBitmapsModel") (T := F_MD) (N := 11) (k := 2) (ci := 3) (a := am 0) (As := [.int (xs ((4 * N) + 1)), .int (xs ((4 * N) + 2))]) (rest := []) ((gMetE.G hM).frameL (wd ad cG cZ σ' ++ wo ao cJ f')) hE hx hb hml hown hg hK hI hA kw_549 kw_550 kw_551 kw_4 kw_552 ky_MD_give ⟨Nat.le_of_ble_eq_true rfl, Nat.le_of_ble_eq_true rfl⟩ rfl rfl (fr_r wm_0) rfl rfl hl.1 (Nat.le_of_ble_eq_true rfl) (hcs) d_LW_law_365 rfl rfl (fun H locs hI => ?_)
  refine lv_istore (lv' := [(6, .int r), (5, .int (nI (mTh τ'))), (0, .ref b), (1, .ref (ad 0)), (2, .ref (am 0)), (3, .ref ao), (4, .int (nI (4 * N)))]) hx hb d_LW_law_368 hl (by decide) rfl (fun ls hl => ?_)
  refine lv_aload_n hx hb d_LW_law_370 rfl (lv_at hl 4 rfl) ?_
  refine g_callVE (own := "GroupBitmapsLaw") (C := "GroupBitmapsModel") (T := F_MD) (N := 11) (k := 0) (ci := 3) (a := am 0) (As := []) (rest := []) ((gMetE.G (gMet.toE (c_MD_thrown τ'))).frameL (wd ad cG cZ σ' ++ wo ao cJ f')) hE hx hb hml hown hg hK hI hA kw_505 kw_506 kw_507 kw_4 kw_508 ky_MD_thrown ⟨Nat.le_of_ble_eq_true rfl, Nat.le_of_ble_eq_true rfl⟩ rfl rfl (fr_r wm_0) rfl rfl hl.1 (Nat.le_of_ble_eq_true rfl) (hcs) d_LW_law_371 rfl rfl (fun H locs hI => ?_)
  refine lv_iload hx hb d_LW_law_374 (lv_at hl 1 rfl) ?_
  refine lv_icmp_eq (tgt := 381) hx hb d_LW_law_376 (by decide) (fun _ => ?_) (fun h => absurd rfl h)
  refine lv_iload hx hb d_LW_law_381 (lv_at hl 1 rfl) ?_
  refine r_zne (a := mTh τ') (tgt := 398) hx hb d_LW_law_383 (by decide) (by omega) (fun h0 => ?_) (fun h0 => ?_)
  · refine lv_goto (tgt := 856) hx hb d_LW_law_398 (by decide) ?_
    exact kk σ' τ' f' H locs ls hK1 hI (lv_sub hl [2, 3, 4, 5, 6] rfl)
  · refine lv_aload_n hx hb d_LW_law_386 rfl (lv_at hl 5 rfl) ?_
    refine lv_iconst (v := nI 0) hx hb d_LW_law_387 (by decide) ?_
    refine g_lald (i := 0) hx hb hK hI 22 3 (fr_l wo_at) rfl (by decide) (by decide) d_LW_law_388 ?_
    refine lv_iload hx hb d_LW_law_389 (lv_at hl 0 rfl) ?_
    refine lv_i2l (v := r.toInt64) hx hb d_LW_law_391 rfl ?_
    refine r_lcmp0 hx hb (hf h0) d_LW_law_392 ?_
    refine lv_if_eq (tgt := 398) hx hb d_LW_law_393 (by decide) (fun _ => ?_) (fun h => absurd rfl h)
    refine lv_goto (tgt := 856) hx hb d_LW_law_398 (by decide) ?_
    exact kk σ' τ' f' H locs ls hK1 hI (lv_sub hl [2, 3, 4, 5, 6] rfl)
set_option maxHeartbeats 4000000 in
set_option maxRecDepth 100000 in
theorem law_takeFile {p : Program} {l : Launch} {e : Env} {s : State} {m : MethodId} {below : List Frame} {meth : Method} {c : Code} {D : va_G} {cG cZ cI cJ : ClassId} {b L : Nat} {xs : Nat → Int32} {ad am : Nat → Nat} {ao : Nat} {f : Nat → Int64} {σ : gS} {τ : mS} {N cells slots : Nat} {Q : State → Prop} {H : Heap} {locs : List Loc} {ls : Array Slot} (hfl : l.flags = flags0) (C1 : lwC p s m c D cG cZ cI cJ b L xs) (hK0 : RK N σ τ) (hN : N < 65535) (hNL : 4 * N + 4 ≤ L) (hL : L < 2 ^ 31) (hcs : cells + 1 ≤ room_1.cells ∧ slots + 6 ≤ room_1.slots) (hI : gI D (fun q : Nat => s.heap.size ≤ q) s.heap ((wd ad cG cZ σ ++ wo ao cJ f) ++ wm am cI cZ τ) H locs) (hl : lv_has ls 7 [(0, .ref b), (1, .ref (ad 0)), (2, .ref (am 0)), (3, .ref ao), (4, .int (nI (4 * N)))])
    (kk : ∀ (σ' : gS) (τ' : mS) (f' : Nat → Int64) (H : Heap) (locs : List Loc) (ls : Array Slot), RK (N + 1) σ' τ' → gI D (fun q : Nat => s.heap.size ≤ q) s.heap ((wd ad cG cZ (σ') ++ wo ao cJ (f')) ++ wm am cI cZ (τ')) H locs → lv_has ls 7 [(0, .ref b), (1, .ref (ad 0)), (2, .ref (am 0)), (3, .ref ao), (4, .int (nI (4 * N)))] → W p l e room_1 s m #[Value.ref b] below meth c H locs (cells + 1) (slots + 6) Q (F0 m 856 ls [])) : W p l e room_1 s m #[Value.ref b] below meth c H locs cells slots Q (F0 m 401 ls []) := by
  obtain ⟨hx, hb, hml, hown, hg, hK, hE, hX, hbl⟩ := C1
  have hA : ∀ q : Nat, s.heap.size ≤ q → (fun q : Nat => s.heap.size ≤ q) q := fun _ h => h
  have hbA : ¬ (fun q : Nat => s.heap.size ≤ q) b := Nat.not_le.mpr hbl
  obtain ⟨σ', τ', f', k, r, hK1, hk, hk2, hf, hG, hM⟩ := st_takeFile (D := D) (cG := cG) (cZ := cZ) (cI := cI) (cJ := cJ) (ad := ad) (am := am) (ao := ao) (f := f) hfl hK0 hN (xs ((4 * N) + 1)) (nz (xs ((4 * N) + 2)))
  subst hk
  refine lv_aload_n hx hb d_LW_law_401 rfl (lv_at hl 1 rfl) ?_
  refine lv_aload_n hx hb d_LW_law_402 rfl (lv_at hl 0 rfl) ?_
  refine lv_iload hx hb d_LW_law_403 (lv_at hl 4 rfl) ?_
  refine lv_iconst (v := nI 1) hx hb d_LW_law_405 (by decide) ?_
  refine r_iadd (a := 4 * N) (b := 1) hx hb d_LW_law_406 ?_
  refine g_scr (i := (4 * N) + 1) hx hb hX hbl hbA hI (by omega) hL d_LW_law_407 ?_
  refine lv_aload_n hx hb d_LW_law_408 rfl (lv_at hl 0 rfl) ?_
  refine lv_iload hx hb d_LW_law_409 (lv_at hl 4 rfl) ?_
  refine lv_iconst (v := nI 2) hx hb d_LW_law_411 (by decide) ?_
  refine r_iadd (a := 4 * N) (b := 2) hx hb d_LW_law_412 ?_
  refine g_scr (i := (4 * N) + 2) hx hb hX hbl hbA hI (by omega) hL d_LW_law_413 ?_
  refine r_b01 hx hb d_LW_law_414 d_LW_law_417 d_LW_law_418 d_LW_law_421 ?_
  refine lv_aload_n hx hb d_LW_law_422 rfl (lv_at hl 3 rfl) ?_
  refine g_callSW (own := "GroupBitmapsLaw") (k := 4) (As := [.ref (ad 0), .int (xs ((4 * N) + 1)), .int (bI (nz (xs ((4 * N) + 2)))), .ref ao]) (rest := []) (hG.frame (wm am cI cZ τ)) hE hx hb hml hown hg hK hI hA kw_312 kw_313 kw_0 kw_314 ky_LW_takeFile ⟨Nat.le_of_ble_eq_true rfl, Nat.le_of_ble_eq_true rfl⟩ rfl rfl rfl hl.1 (Nat.le_of_ble_eq_true rfl) hcs d_LW_law_423 rfl rfl (fun H locs hI => ?_)
  refine lv_istore (lv' := [(5, .int (nI (mTh τ'))), (0, .ref b), (1, .ref (ad 0)), (2, .ref (am 0)), (3, .ref ao), (4, .int (nI (4 * N)))]) hx hb d_LW_law_426 hl (by decide) rfl (fun ls hl => ?_)
  refine lv_aload_n hx hb d_LW_law_428 rfl (lv_at hl 3 rfl) ?_
  refine lv_aload_n hx hb d_LW_law_429 rfl (lv_at hl 1 rfl) ?_
  refine lv_iload hx hb d_LW_law_430 (lv_at hl 5 rfl) ?_
  refine lv_iconst (v := nI 1) hx hb d_LW_law_432 (by decide) ?_
  refine r_iadd (a := 4 * N) (b := 1) hx hb d_LW_law_433 ?_
  refine g_scr (i := (4 * N) + 1) hx hb hX hbl hbA hI (by omega) hL d_LW_law_434 ?_
  refine lv_aload_n hx hb d_LW_law_435 rfl (lv_at hl 1 rfl) ?_
  refine lv_iload hx hb d_LW_law_436 (lv_at hl 5 rfl) ?_
  refine lv_iconst (v := nI 2) hx hb d_LW_law_438 (by decide) ?_
  refine r_iadd (a := 4 * N) (b := 2) hx hb d_LW_law_439 ?_
  refine g_scr (i := (4 * N) + 2) hx hb hX hbl hbA hI (by omega) hL d_LW_law_440 ?_
  refine r_b01 hx hb d_LW_law_441 d_LW_law_444 d_LW_law_445 d_LW_law_448 ?_
  refine g_callVE (own := "GroupBitmapsLaw") (C := "GroupBitmapsModel") (T := F_MD) (N := 11) (k := 2) (ci := 3) (a := am 0) (As := [.int (xs ((4 * N) + 1)), .int (bI (nz (xs ((4 * N) + 2))))]) (rest := []) ((gMetE.G hM).frameL (wd ad cG cZ σ' ++ wo ao cJ f')) hE hx hb hml hown hg hK hI hA kw_553 kw_554 kw_555 kw_4 kw_556 ky_MD_takeFile ⟨Nat.le_of_ble_eq_true rfl, Nat.le_of_ble_eq_true rfl⟩ rfl rfl (fr_r wm_0) rfl rfl hl.1 (Nat.le_of_ble_eq_true rfl) (hcs) d_LW_law_449 rfl rfl (fun H locs hI => ?_)
  refine lv_istore (lv' := [(6, .int r), (5, .int (nI (mTh τ'))), (0, .ref b), (1, .ref (ad 0)), (2, .ref (am 0)), (3, .ref ao), (4, .int (nI (4 * N)))]) hx hb d_LW_law_452 hl (by decide) rfl (fun ls hl => ?_)
  refine lv_aload_n hx hb d_LW_law_454 rfl (lv_at hl 4 rfl) ?_
  refine g_callVE (own := "GroupBitmapsLaw") (C := "GroupBitmapsModel") (T := F_MD) (N := 11) (k := 0) (ci := 3) (a := am 0) (As := []) (rest := []) ((gMetE.G (gMet.toE (c_MD_thrown τ'))).frameL (wd ad cG cZ σ' ++ wo ao cJ f')) hE hx hb hml hown hg hK hI hA kw_505 kw_506 kw_507 kw_4 kw_508 ky_MD_thrown ⟨Nat.le_of_ble_eq_true rfl, Nat.le_of_ble_eq_true rfl⟩ rfl rfl (fr_r wm_0) rfl rfl hl.1 (Nat.le_of_ble_eq_true rfl) (hcs) d_LW_law_455 rfl rfl (fun H locs hI => ?_)
  refine lv_iload hx hb d_LW_law_458 (lv_at hl 1 rfl) ?_
  refine lv_icmp_eq (tgt := 465) hx hb d_LW_law_460 (by decide) (fun _ => ?_) (fun h => absurd rfl h)
  refine lv_iload hx hb d_LW_law_465 (lv_at hl 1 rfl) ?_
  refine r_zne (a := mTh τ') (tgt := 482) hx hb d_LW_law_467 (by decide) (by omega) (fun h0 => ?_) (fun h0 => ?_)
  · refine lv_goto (tgt := 856) hx hb d_LW_law_482 (by decide) ?_
    exact kk σ' τ' f' H locs ls hK1 hI (lv_sub hl [2, 3, 4, 5, 6] rfl)
  · refine lv_aload_n hx hb d_LW_law_470 rfl (lv_at hl 5 rfl) ?_
    refine lv_iconst (v := nI 0) hx hb d_LW_law_471 (by decide) ?_
    refine g_lald (i := 0) hx hb hK hI 22 3 (fr_l wo_at) rfl (by decide) (by decide) d_LW_law_472 ?_
    refine lv_iload hx hb d_LW_law_473 (lv_at hl 0 rfl) ?_
    refine lv_i2l (v := r.toInt64) hx hb d_LW_law_475 rfl ?_
    refine r_lcmp0 hx hb (hf h0) d_LW_law_476 ?_
    refine lv_if_eq (tgt := 482) hx hb d_LW_law_477 (by decide) (fun _ => ?_) (fun h => absurd rfl h)
    refine lv_goto (tgt := 856) hx hb d_LW_law_482 (by decide) ?_
    exact kk σ' τ' f' H locs ls hK1 hI (lv_sub hl [2, 3, 4, 5, 6] rfl)
set_option maxHeartbeats 4000000 in
set_option maxRecDepth 100000 in
theorem law_giveFile {p : Program} {l : Launch} {e : Env} {s : State} {m : MethodId} {below : List Frame} {meth : Method} {c : Code} {D : va_G} {cG cZ cI cJ : ClassId} {b L : Nat} {xs : Nat → Int32} {ad am : Nat → Nat} {ao : Nat} {f : Nat → Int64} {σ : gS} {τ : mS} {N cells slots : Nat} {Q : State → Prop} {H : Heap} {locs : List Loc} {ls : Array Slot} (hfl : l.flags = flags0) (C1 : lwC p s m c D cG cZ cI cJ b L xs) (hK0 : RK N σ τ) (hN : N < 65535) (hNL : 4 * N + 4 ≤ L) (hL : L < 2 ^ 31) (hcs : cells + 1 ≤ room_1.cells ∧ slots + 6 ≤ room_1.slots) (hI : gI D (fun q : Nat => s.heap.size ≤ q) s.heap ((wd ad cG cZ σ ++ wo ao cJ f) ++ wm am cI cZ τ) H locs) (hl : lv_has ls 7 [(0, .ref b), (1, .ref (ad 0)), (2, .ref (am 0)), (3, .ref ao), (4, .int (nI (4 * N)))])
    (kk : ∀ (σ' : gS) (τ' : mS) (f' : Nat → Int64) (H : Heap) (locs : List Loc) (ls : Array Slot), RK (N + 1) σ' τ' → gI D (fun q : Nat => s.heap.size ≤ q) s.heap ((wd ad cG cZ (σ') ++ wo ao cJ (f')) ++ wm am cI cZ (τ')) H locs → lv_has ls 7 [(0, .ref b), (1, .ref (ad 0)), (2, .ref (am 0)), (3, .ref ao), (4, .int (nI (4 * N)))] → W p l e room_1 s m #[Value.ref b] below meth c H locs (cells + 1) (slots + 6) Q (F0 m 856 ls [])) : W p l e room_1 s m #[Value.ref b] below meth c H locs cells slots Q (F0 m 485 ls []) := by
  obtain ⟨hx, hb, hml, hown, hg, hK, hE, hX, hbl⟩ := C1
  have hA : ∀ q : Nat, s.heap.size ≤ q → (fun q : Nat => s.heap.size ≤ q) q := fun _ h => h
  have hbA : ¬ (fun q : Nat => s.heap.size ≤ q) b := Nat.not_le.mpr hbl
  obtain ⟨σ', τ', f', k, r, hK1, hk, hk2, hf, hG, hM⟩ := st_giveFile (D := D) (cG := cG) (cZ := cZ) (cI := cI) (cJ := cJ) (ad := ad) (am := am) (ao := ao) (f := f) hfl hK0 hN (xs ((4 * N) + 1)) (nz (xs ((4 * N) + 2)))
  subst hk
  refine lv_aload_n hx hb d_LW_law_485 rfl (lv_at hl 1 rfl) ?_
  refine lv_aload_n hx hb d_LW_law_486 rfl (lv_at hl 0 rfl) ?_
  refine lv_iload hx hb d_LW_law_487 (lv_at hl 4 rfl) ?_
  refine lv_iconst (v := nI 1) hx hb d_LW_law_489 (by decide) ?_
  refine r_iadd (a := 4 * N) (b := 1) hx hb d_LW_law_490 ?_
  refine g_scr (i := (4 * N) + 1) hx hb hX hbl hbA hI (by omega) hL d_LW_law_491 ?_
  refine lv_aload_n hx hb d_LW_law_492 rfl (lv_at hl 0 rfl) ?_
  refine lv_iload hx hb d_LW_law_493 (lv_at hl 4 rfl) ?_
  refine lv_iconst (v := nI 2) hx hb d_LW_law_495 (by decide) ?_
  refine r_iadd (a := 4 * N) (b := 2) hx hb d_LW_law_496 ?_
  refine g_scr (i := (4 * N) + 2) hx hb hX hbl hbA hI (by omega) hL d_LW_law_497 ?_
  refine r_b01 hx hb d_LW_law_498 d_LW_law_501 d_LW_law_502 d_LW_law_505 ?_
  refine lv_aload_n hx hb d_LW_law_506 rfl (lv_at hl 3 rfl) ?_
  refine g_callSW (own := "GroupBitmapsLaw") (k := 4) (As := [.ref (ad 0), .int (xs ((4 * N) + 1)), .int (bI (nz (xs ((4 * N) + 2)))), .ref ao]) (rest := []) (hG.frame (wm am cI cZ τ)) hE hx hb hml hown hg hK hI hA kw_368 kw_369 kw_0 kw_370 ky_LW_giveFile ⟨Nat.le_of_ble_eq_true rfl, Nat.le_of_ble_eq_true rfl⟩ rfl rfl rfl hl.1 (Nat.le_of_ble_eq_true rfl) hcs d_LW_law_507 rfl rfl (fun H locs hI => ?_)
  refine lv_istore (lv' := [(5, .int (nI (mTh τ'))), (0, .ref b), (1, .ref (ad 0)), (2, .ref (am 0)), (3, .ref ao), (4, .int (nI (4 * N)))]) hx hb d_LW_law_510 hl (by decide) rfl (fun ls hl => ?_)
  refine lv_aload_n hx hb d_LW_law_512 rfl (lv_at hl 3 rfl) ?_
  refine lv_aload_n hx hb d_LW_law_513 rfl (lv_at hl 1 rfl) ?_
  refine lv_iload hx hb d_LW_law_514 (lv_at hl 5 rfl) ?_
  refine lv_iconst (v := nI 1) hx hb d_LW_law_516 (by decide) ?_
  refine r_iadd (a := 4 * N) (b := 1) hx hb d_LW_law_517 ?_
  refine g_scr (i := (4 * N) + 1) hx hb hX hbl hbA hI (by omega) hL d_LW_law_518 ?_
  refine lv_aload_n hx hb d_LW_law_519 rfl (lv_at hl 1 rfl) ?_
  refine lv_iload hx hb d_LW_law_520 (lv_at hl 5 rfl) ?_
  refine lv_iconst (v := nI 2) hx hb d_LW_law_522 (by decide) ?_
  refine r_iadd (a := 4 * N) (b := 2) hx hb d_LW_law_523 ?_
  refine g_scr (i := (4 * N) + 2) hx hb hX hbl hbA hI (by omega) hL d_LW_law_524 ?_
  refine r_b01 hx hb d_LW_law_525 d_LW_law_528 d_LW_law_529 d_LW_law_532 ?_
  refine g_callVE (own := "GroupBitmapsLaw") (C := "GroupBitmapsModel") (T := F_MD) (N := 11) (k := 2) (ci := 3) (a := am 0) (As := [.int (xs ((4 * N) + 1)), .int (bI (nz (xs ((4 * N) + 2))))]) (rest := []) ((gMetE.G hM).frameL (wd ad cG cZ σ' ++ wo ao cJ f')) hE hx hb hml hown hg hK hI hA kw_585 kw_586 kw_587 kw_4 kw_588 ky_MD_giveFile ⟨Nat.le_of_ble_eq_true rfl, Nat.le_of_ble_eq_true rfl⟩ rfl rfl (fr_r wm_0) rfl rfl hl.1 (Nat.le_of_ble_eq_true rfl) (hcs) d_LW_law_533 rfl rfl (fun H locs hI => ?_)
  refine lv_istore (lv' := [(6, .int r), (5, .int (nI (mTh τ'))), (0, .ref b), (1, .ref (ad 0)), (2, .ref (am 0)), (3, .ref ao), (4, .int (nI (4 * N)))]) hx hb d_LW_law_536 hl (by decide) rfl (fun ls hl => ?_)
  refine lv_aload_n hx hb d_LW_law_538 rfl (lv_at hl 4 rfl) ?_
  refine g_callVE (own := "GroupBitmapsLaw") (C := "GroupBitmapsModel") (T := F_MD) (N := 11) (k := 0) (ci := 3) (a := am 0) (As := []) (rest := []) ((gMetE.G (gMet.toE (c_MD_thrown τ'))).frameL (wd ad cG cZ σ' ++ wo ao cJ f')) hE hx hb hml hown hg hK hI hA kw_505 kw_506 kw_507 kw_4 kw_508 ky_MD_thrown ⟨Nat.le_of_ble_eq_true rfl, Nat.le_of_ble_eq_true rfl⟩ rfl rfl (fr_r wm_0) rfl rfl hl.1 (Nat.le_of_ble_eq_true rfl) (hcs) d_LW_law_539 rfl rfl (fun H locs hI => ?_)
  refine lv_iload hx hb d_LW_law_542 (lv_at hl 1 rfl) ?_
  refine lv_icmp_eq (tgt := 549) hx hb d_LW_law_544 (by decide) (fun _ => ?_) (fun h => absurd rfl h)
  refine lv_iload hx hb d_LW_law_549 (lv_at hl 1 rfl) ?_
  refine r_zne (a := mTh τ') (tgt := 566) hx hb d_LW_law_551 (by decide) (by omega) (fun h0 => ?_) (fun h0 => ?_)
  · refine lv_goto (tgt := 856) hx hb d_LW_law_566 (by decide) ?_
    exact kk σ' τ' f' H locs ls hK1 hI (lv_sub hl [2, 3, 4, 5, 6] rfl)
  · refine lv_aload_n hx hb d_LW_law_554 rfl (lv_at hl 5 rfl) ?_
    refine lv_iconst (v := nI 0) hx hb d_LW_law_555 (by decide) ?_
    refine g_lald (i := 0) hx hb hK hI 22 3 (fr_l wo_at) rfl (by decide) (by decide) d_LW_law_556 ?_
    refine lv_iload hx hb d_LW_law_557 (lv_at hl 0 rfl) ?_
    refine lv_i2l (v := r.toInt64) hx hb d_LW_law_559 rfl ?_
    refine r_lcmp0 hx hb (hf h0) d_LW_law_560 ?_
    refine lv_if_eq (tgt := 566) hx hb d_LW_law_561 (by decide) (fun _ => ?_) (fun h => absurd rfl h)
    refine lv_goto (tgt := 856) hx hb d_LW_law_566 (by decide) ?_
    exact kk σ' τ' f' H locs ls hK1 hI (lv_sub hl [2, 3, 4, 5, 6] rfl)
set_option maxHeartbeats 4000000 in
set_option maxRecDepth 100000 in
theorem law_isTaken {p : Program} {l : Launch} {e : Env} {s : State} {m : MethodId} {below : List Frame} {meth : Method} {c : Code} {D : va_G} {cG cZ cI cJ : ClassId} {b L : Nat} {xs : Nat → Int32} {ad am : Nat → Nat} {ao : Nat} {f : Nat → Int64} {σ : gS} {τ : mS} {N cells slots : Nat} {Q : State → Prop} {H : Heap} {locs : List Loc} {ls : Array Slot} (hfl : l.flags = flags0) (C1 : lwC p s m c D cG cZ cI cJ b L xs) (hK0 : RK N σ τ) (hN : N < 65535) (hNL : 4 * N + 4 ≤ L) (hL : L < 2 ^ 31) (hcs : cells + 1 ≤ room_1.cells ∧ slots + 6 ≤ room_1.slots) (hI : gI D (fun q : Nat => s.heap.size ≤ q) s.heap ((wd ad cG cZ σ ++ wo ao cJ f) ++ wm am cI cZ τ) H locs) (hl : lv_has ls 7 [(0, .ref b), (1, .ref (ad 0)), (2, .ref (am 0)), (3, .ref ao), (4, .int (nI (4 * N)))])
    (kk : ∀ (σ' : gS) (τ' : mS) (f' : Nat → Int64) (H : Heap) (locs : List Loc) (ls : Array Slot), RK (N + 1) σ' τ' → gI D (fun q : Nat => s.heap.size ≤ q) s.heap ((wd ad cG cZ (σ') ++ wo ao cJ (f')) ++ wm am cI cZ (τ')) H locs → lv_has ls 7 [(0, .ref b), (1, .ref (ad 0)), (2, .ref (am 0)), (3, .ref ao), (4, .int (nI (4 * N)))] → W p l e room_1 s m #[Value.ref b] below meth c H locs (cells + 1) (slots + 6) Q (F0 m 856 ls [])) : W p l e room_1 s m #[Value.ref b] below meth c H locs cells slots Q (F0 m 569 ls []) := by
  obtain ⟨hx, hb, hml, hown, hg, hK, hE, hX, hbl⟩ := C1
  have hA : ∀ q : Nat, s.heap.size ≤ q → (fun q : Nat => s.heap.size ≤ q) q := fun _ h => h
  have hbA : ¬ (fun q : Nat => s.heap.size ≤ q) b := Nat.not_le.mpr hbl
  obtain ⟨σ', τ', f', k, r, hK1, hk, hk2, hf, hG, hM⟩ := st_isTaken (D := D) (cG := cG) (cZ := cZ) (cI := cI) (cJ := cJ) (ad := ad) (am := am) (ao := ao) (f := f) hfl hK0 hN (xs ((4 * N) + 1)) (xs ((4 * N) + 2))
  subst hk
  refine lv_aload_n hx hb d_LW_law_569 rfl (lv_at hl 1 rfl) ?_
  refine lv_aload_n hx hb d_LW_law_570 rfl (lv_at hl 0 rfl) ?_
  refine lv_iload hx hb d_LW_law_571 (lv_at hl 4 rfl) ?_
  refine lv_iconst (v := nI 1) hx hb d_LW_law_573 (by decide) ?_
  refine r_iadd (a := 4 * N) (b := 1) hx hb d_LW_law_574 ?_
  refine g_scr (i := (4 * N) + 1) hx hb hX hbl hbA hI (by omega) hL d_LW_law_575 ?_
  refine lv_aload_n hx hb d_LW_law_576 rfl (lv_at hl 0 rfl) ?_
  refine lv_iload hx hb d_LW_law_577 (lv_at hl 4 rfl) ?_
  refine lv_iconst (v := nI 2) hx hb d_LW_law_579 (by decide) ?_
  refine r_iadd (a := 4 * N) (b := 2) hx hb d_LW_law_580 ?_
  refine g_scr (i := (4 * N) + 2) hx hb hX hbl hbA hI (by omega) hL d_LW_law_581 ?_
  refine lv_aload_n hx hb d_LW_law_582 rfl (lv_at hl 3 rfl) ?_
  refine g_callSW (own := "GroupBitmapsLaw") (k := 4) (As := [.ref (ad 0), .int (xs ((4 * N) + 1)), .int (xs ((4 * N) + 2)), .ref ao]) (rest := []) (hG.frame (wm am cI cZ τ)) hE hx hb hml hown hg hK hI hA kw_383 kw_384 kw_0 kw_385 ky_LW_isTaken ⟨Nat.le_of_ble_eq_true rfl, Nat.le_of_ble_eq_true rfl⟩ rfl rfl rfl hl.1 (Nat.le_of_ble_eq_true rfl) hcs d_LW_law_583 rfl rfl (fun H locs hI => ?_)
  refine lv_istore (lv' := [(5, .int (nI (mTh τ'))), (0, .ref b), (1, .ref (ad 0)), (2, .ref (am 0)), (3, .ref ao), (4, .int (nI (4 * N)))]) hx hb d_LW_law_586 hl (by decide) rfl (fun ls hl => ?_)
  refine lv_aload_n hx hb d_LW_law_588 rfl (lv_at hl 3 rfl) ?_
  refine lv_aload_n hx hb d_LW_law_589 rfl (lv_at hl 1 rfl) ?_
  refine lv_iload hx hb d_LW_law_590 (lv_at hl 5 rfl) ?_
  refine lv_iconst (v := nI 1) hx hb d_LW_law_592 (by decide) ?_
  refine r_iadd (a := 4 * N) (b := 1) hx hb d_LW_law_593 ?_
  refine g_scr (i := (4 * N) + 1) hx hb hX hbl hbA hI (by omega) hL d_LW_law_594 ?_
  refine lv_aload_n hx hb d_LW_law_595 rfl (lv_at hl 1 rfl) ?_
  refine lv_iload hx hb d_LW_law_596 (lv_at hl 5 rfl) ?_
  refine lv_iconst (v := nI 2) hx hb d_LW_law_598 (by decide) ?_
  refine r_iadd (a := 4 * N) (b := 2) hx hb d_LW_law_599 ?_
  refine g_scr (i := (4 * N) + 2) hx hb hX hbl hbA hI (by omega) hL d_LW_law_600 ?_
  refine g_callVE (own := "GroupBitmapsLaw") (C := "GroupBitmapsModel") (T := F_MD) (N := 11) (k := 2) (ci := 3) (a := am 0) (As := [.int (xs ((4 * N) + 1)), .int (xs ((4 * N) + 2))]) (rest := []) ((gMetE.G hM).frameL (wd ad cG cZ σ' ++ wo ao cJ f')) hE hx hb hml hown hg hK hI hA kw_589 kw_590 kw_591 kw_4 kw_592 ky_MD_isTaken ⟨Nat.le_of_ble_eq_true rfl, Nat.le_of_ble_eq_true rfl⟩ rfl rfl (fr_r wm_0) rfl rfl hl.1 (Nat.le_of_ble_eq_true rfl) (hcs) d_LW_law_601 rfl rfl (fun H locs hI => ?_)
  refine lv_istore (lv' := [(6, .int (bI r)), (5, .int (nI (mTh τ'))), (0, .ref b), (1, .ref (ad 0)), (2, .ref (am 0)), (3, .ref ao), (4, .int (nI (4 * N)))]) hx hb d_LW_law_604 hl (by decide) rfl (fun ls hl => ?_)
  refine lv_aload_n hx hb d_LW_law_606 rfl (lv_at hl 4 rfl) ?_
  refine g_callVE (own := "GroupBitmapsLaw") (C := "GroupBitmapsModel") (T := F_MD) (N := 11) (k := 0) (ci := 3) (a := am 0) (As := []) (rest := []) ((gMetE.G (gMet.toE (c_MD_thrown τ'))).frameL (wd ad cG cZ σ' ++ wo ao cJ f')) hE hx hb hml hown hg hK hI hA kw_505 kw_506 kw_507 kw_4 kw_508 ky_MD_thrown ⟨Nat.le_of_ble_eq_true rfl, Nat.le_of_ble_eq_true rfl⟩ rfl rfl (fr_r wm_0) rfl rfl hl.1 (Nat.le_of_ble_eq_true rfl) (hcs) d_LW_law_607 rfl rfl (fun H locs hI => ?_)
  refine lv_iload hx hb d_LW_law_610 (lv_at hl 1 rfl) ?_
  refine lv_icmp_eq (tgt := 617) hx hb d_LW_law_612 (by decide) (fun _ => ?_) (fun h => absurd rfl h)
  refine lv_iload hx hb d_LW_law_617 (lv_at hl 1 rfl) ?_
  refine r_zne (a := mTh τ') (tgt := 641) hx hb d_LW_law_619 (by decide) (by omega) (fun h0 => ?_) (fun h0 => ?_)
  · refine lv_goto (tgt := 856) hx hb d_LW_law_641 (by decide) ?_
    exact kk σ' τ' f' H locs ls hK1 hI (lv_sub hl [2, 3, 4, 5, 6] rfl)
  · refine lv_aload_n hx hb d_LW_law_622 rfl (lv_at hl 5 rfl) ?_
    refine lv_iconst (v := nI 0) hx hb d_LW_law_623 (by decide) ?_
    refine g_lald (i := 0) hx hb hK hI 22 3 (fr_l wo_at) rfl (by decide) (by decide) d_LW_law_624 ?_
    refine lv_iload hx hb d_LW_law_625 (lv_at hl 0 rfl) ?_
    refine r_bz (b := r) (tgt := 634) hx hb d_LW_law_627 (by decide) (fun h => ?_) (fun h => ?_)
    · refine lv_lconst (v := 0) hx hb d_LW_law_634 (by decide) ?_
      refine r_lcmp0 hx hb (by rw [hf h0, h]; rfl) d_LW_law_635 ?_
      refine lv_if_eq (tgt := 641) hx hb d_LW_law_636 (by decide) (fun _ => ?_) (fun h => absurd rfl h)
      refine lv_goto (tgt := 856) hx hb d_LW_law_641 (by decide) ?_
      exact kk σ' τ' f' H locs ls hK1 hI (lv_sub hl [2, 3, 4, 5, 6] rfl)
    · refine lv_lconst (v := 1) hx hb d_LW_law_630 (by decide) ?_
      refine lv_goto (tgt := 635) hx hb d_LW_law_631 (by decide) ?_
      refine r_lcmp0 hx hb (by rw [hf h0, h]; rfl) d_LW_law_635 ?_
      refine lv_if_eq (tgt := 641) hx hb d_LW_law_636 (by decide) (fun _ => ?_) (fun h => absurd rfl h)
      refine lv_goto (tgt := 856) hx hb d_LW_law_641 (by decide) ?_
      exact kk σ' τ' f' H locs ls hK1 hI (lv_sub hl [2, 3, 4, 5, 6] rfl)
set_option maxHeartbeats 4000000 in
set_option maxRecDepth 100000 in
theorem law_group {p : Program} {l : Launch} {e : Env} {s : State} {m : MethodId} {below : List Frame} {meth : Method} {c : Code} {D : va_G} {cG cZ cI cJ : ClassId} {b L : Nat} {xs : Nat → Int32} {ad am : Nat → Nat} {ao : Nat} {f : Nat → Int64} {σ : gS} {τ : mS} {N cells slots : Nat} {Q : State → Prop} {H : Heap} {locs : List Loc} {ls : Array Slot} (hfl : l.flags = flags0) (C1 : lwC p s m c D cG cZ cI cJ b L xs) (hK0 : RK N σ τ) (hN : N < 65535) (hNL : 4 * N + 4 ≤ L) (hL : L < 2 ^ 31) (hcs : cells + 1 ≤ room_1.cells ∧ slots + 6 ≤ room_1.slots) (hI : gI D (fun q : Nat => s.heap.size ≤ q) s.heap ((wd ad cG cZ σ ++ wo ao cJ f) ++ wm am cI cZ τ) H locs) (hl : lv_has ls 7 [(0, .ref b), (1, .ref (ad 0)), (2, .ref (am 0)), (3, .ref ao), (4, .int (nI (4 * N)))])
    (kk : ∀ (σ' : gS) (τ' : mS) (f' : Nat → Int64) (H : Heap) (locs : List Loc) (ls : Array Slot), RK (N + 1) σ' τ' → gI D (fun q : Nat => s.heap.size ≤ q) s.heap ((wd ad cG cZ (σ') ++ wo ao cJ (f')) ++ wm am cI cZ (τ')) H locs → lv_has ls 7 [(0, .ref b), (1, .ref (ad 0)), (2, .ref (am 0)), (3, .ref ao), (4, .int (nI (4 * N)))] → W p l e room_1 s m #[Value.ref b] below meth c H locs (cells + 1) (slots + 6) Q (F0 m 856 ls [])) : W p l e room_1 s m #[Value.ref b] below meth c H locs cells slots Q (F0 m 644 ls []) := by
  obtain ⟨hx, hb, hml, hown, hg, hK, hE, hX, hbl⟩ := C1
  have hA : ∀ q : Nat, s.heap.size ≤ q → (fun q : Nat => s.heap.size ≤ q) q := fun _ h => h
  have hbA : ¬ (fun q : Nat => s.heap.size ≤ q) b := Nat.not_le.mpr hbl
  obtain ⟨σ', τ', f', k, r, hK1, hk, hk2, hf, hG, hM⟩ := st_group (D := D) (cG := cG) (cZ := cZ) (cI := cI) (cJ := cJ) (ad := ad) (am := am) (ao := ao) (f := f) hfl hK0 hN (xs ((4 * N) + 1)) (xs ((4 * N) + 2))
  subst hk
  refine lv_aload_n hx hb d_LW_law_644 rfl (lv_at hl 1 rfl) ?_
  refine lv_aload_n hx hb d_LW_law_645 rfl (lv_at hl 0 rfl) ?_
  refine lv_iload hx hb d_LW_law_646 (lv_at hl 4 rfl) ?_
  refine lv_iconst (v := nI 1) hx hb d_LW_law_648 (by decide) ?_
  refine r_iadd (a := 4 * N) (b := 1) hx hb d_LW_law_649 ?_
  refine g_scr (i := (4 * N) + 1) hx hb hX hbl hbA hI (by omega) hL d_LW_law_650 ?_
  refine lv_aload_n hx hb d_LW_law_651 rfl (lv_at hl 0 rfl) ?_
  refine lv_iload hx hb d_LW_law_652 (lv_at hl 4 rfl) ?_
  refine lv_iconst (v := nI 2) hx hb d_LW_law_654 (by decide) ?_
  refine r_iadd (a := 4 * N) (b := 2) hx hb d_LW_law_655 ?_
  refine g_scr (i := (4 * N) + 2) hx hb hX hbl hbA hI (by omega) hL d_LW_law_656 ?_
  refine lv_aload_n hx hb d_LW_law_657 rfl (lv_at hl 3 rfl) ?_
  refine g_callSW (own := "GroupBitmapsLaw") (k := 4) (As := [.ref (ad 0), .int (xs ((4 * N) + 1)), .int (xs ((4 * N) + 2)), .ref ao]) (rest := []) (hG.frame (wm am cI cZ τ)) hE hx hb hml hown hg hK hI hA kw_391 kw_392 kw_0 kw_393 ky_LW_group ⟨Nat.le_of_ble_eq_true rfl, Nat.le_of_ble_eq_true rfl⟩ rfl rfl rfl hl.1 (Nat.le_of_ble_eq_true rfl) hcs d_LW_law_658 rfl rfl (fun H locs hI => ?_)
  refine lv_istore (lv' := [(5, .int (nI (mTh τ'))), (0, .ref b), (1, .ref (ad 0)), (2, .ref (am 0)), (3, .ref ao), (4, .int (nI (4 * N)))]) hx hb d_LW_law_661 hl (by decide) rfl (fun ls hl => ?_)
  refine lv_aload_n hx hb d_LW_law_663 rfl (lv_at hl 3 rfl) ?_
  refine lv_aload_n hx hb d_LW_law_664 rfl (lv_at hl 1 rfl) ?_
  refine lv_iload hx hb d_LW_law_665 (lv_at hl 5 rfl) ?_
  refine lv_iconst (v := nI 1) hx hb d_LW_law_667 (by decide) ?_
  refine r_iadd (a := 4 * N) (b := 1) hx hb d_LW_law_668 ?_
  refine g_scr (i := (4 * N) + 1) hx hb hX hbl hbA hI (by omega) hL d_LW_law_669 ?_
  refine lv_aload_n hx hb d_LW_law_670 rfl (lv_at hl 1 rfl) ?_
  refine lv_iload hx hb d_LW_law_671 (lv_at hl 5 rfl) ?_
  refine lv_iconst (v := nI 2) hx hb d_LW_law_673 (by decide) ?_
  refine r_iadd (a := 4 * N) (b := 2) hx hb d_LW_law_674 ?_
  refine g_scr (i := (4 * N) + 2) hx hb hX hbl hbA hI (by omega) hL d_LW_law_675 ?_
  refine g_callVE (own := "GroupBitmapsLaw") (C := "GroupBitmapsModel") (T := F_MD) (N := 11) (k := 2) (ci := 3) (a := am 0) (As := [.int (xs ((4 * N) + 1)), .int (xs ((4 * N) + 2))]) (rest := []) ((gMetE.G hM).frameL (wd ad cG cZ σ' ++ wo ao cJ f')) hE hx hb hml hown hg hK hI hA kw_593 kw_594 kw_595 kw_4 kw_596 ky_MD_group ⟨Nat.le_of_ble_eq_true rfl, Nat.le_of_ble_eq_true rfl⟩ rfl rfl (fr_r wm_0) rfl rfl hl.1 (Nat.le_of_ble_eq_true rfl) (hcs) d_LW_law_676 rfl rfl (fun H locs hI => ?_)
  refine lv_istore (lv' := [(6, .int r), (5, .int (nI (mTh τ'))), (0, .ref b), (1, .ref (ad 0)), (2, .ref (am 0)), (3, .ref ao), (4, .int (nI (4 * N)))]) hx hb d_LW_law_679 hl (by decide) rfl (fun ls hl => ?_)
  refine lv_aload_n hx hb d_LW_law_681 rfl (lv_at hl 4 rfl) ?_
  refine g_callVE (own := "GroupBitmapsLaw") (C := "GroupBitmapsModel") (T := F_MD) (N := 11) (k := 0) (ci := 3) (a := am 0) (As := []) (rest := []) ((gMetE.G (gMet.toE (c_MD_thrown τ'))).frameL (wd ad cG cZ σ' ++ wo ao cJ f')) hE hx hb hml hown hg hK hI hA kw_505 kw_506 kw_507 kw_4 kw_508 ky_MD_thrown ⟨Nat.le_of_ble_eq_true rfl, Nat.le_of_ble_eq_true rfl⟩ rfl rfl (fr_r wm_0) rfl rfl hl.1 (Nat.le_of_ble_eq_true rfl) (hcs) d_LW_law_682 rfl rfl (fun H locs hI => ?_)
  refine lv_iload hx hb d_LW_law_685 (lv_at hl 1 rfl) ?_
  refine lv_icmp_eq (tgt := 692) hx hb d_LW_law_687 (by decide) (fun _ => ?_) (fun h => absurd rfl h)
  refine lv_iload hx hb d_LW_law_692 (lv_at hl 1 rfl) ?_
  refine r_zne (a := mTh τ') (tgt := 709) hx hb d_LW_law_694 (by decide) (by omega) (fun h0 => ?_) (fun h0 => ?_)
  · refine lv_goto (tgt := 856) hx hb d_LW_law_709 (by decide) ?_
    exact kk σ' τ' f' H locs ls hK1 hI (lv_sub hl [2, 3, 4, 5, 6] rfl)
  · refine lv_aload_n hx hb d_LW_law_697 rfl (lv_at hl 5 rfl) ?_
    refine lv_iconst (v := nI 0) hx hb d_LW_law_698 (by decide) ?_
    refine g_lald (i := 0) hx hb hK hI 22 3 (fr_l wo_at) rfl (by decide) (by decide) d_LW_law_699 ?_
    refine lv_iload hx hb d_LW_law_700 (lv_at hl 0 rfl) ?_
    refine lv_i2l (v := r.toInt64) hx hb d_LW_law_702 rfl ?_
    refine r_lcmp0 hx hb (hf h0) d_LW_law_703 ?_
    refine lv_if_eq (tgt := 709) hx hb d_LW_law_704 (by decide) (fun _ => ?_) (fun h => absurd rfl h)
    refine lv_goto (tgt := 856) hx hb d_LW_law_709 (by decide) ?_
    exact kk σ' τ' f' H locs ls hK1 hI (lv_sub hl [2, 3, 4, 5, 6] rfl)
set_option maxHeartbeats 4000000 in
set_option maxRecDepth 100000 in
theorem law_byteOf {p : Program} {l : Launch} {e : Env} {s : State} {m : MethodId} {below : List Frame} {meth : Method} {c : Code} {D : va_G} {cG cZ cI cJ : ClassId} {b L : Nat} {xs : Nat → Int32} {ad am : Nat → Nat} {ao : Nat} {f : Nat → Int64} {σ : gS} {τ : mS} {N cells slots : Nat} {Q : State → Prop} {H : Heap} {locs : List Loc} {ls : Array Slot} (hfl : l.flags = flags0) (C1 : lwC p s m c D cG cZ cI cJ b L xs) (hK0 : RK N σ τ) (hN : N < 65535) (hNL : 4 * N + 4 ≤ L) (hL : L < 2 ^ 31) (hcs : cells + 1 ≤ room_1.cells ∧ slots + 6 ≤ room_1.slots) (hI : gI D (fun q : Nat => s.heap.size ≤ q) s.heap ((wd ad cG cZ σ ++ wo ao cJ f) ++ wm am cI cZ τ) H locs) (hl : lv_has ls 7 [(0, .ref b), (1, .ref (ad 0)), (2, .ref (am 0)), (3, .ref ao), (4, .int (nI (4 * N)))])
    (kk : ∀ (σ' : gS) (τ' : mS) (f' : Nat → Int64) (H : Heap) (locs : List Loc) (ls : Array Slot), RK (N + 1) σ' τ' → gI D (fun q : Nat => s.heap.size ≤ q) s.heap ((wd ad cG cZ (σ') ++ wo ao cJ (f')) ++ wm am cI cZ (τ')) H locs → lv_has ls 7 [(0, .ref b), (1, .ref (ad 0)), (2, .ref (am 0)), (3, .ref ao), (4, .int (nI (4 * N)))] → W p l e room_1 s m #[Value.ref b] below meth c H locs (cells + 1) (slots + 6) Q (F0 m 856 ls [])) : W p l e room_1 s m #[Value.ref b] below meth c H locs cells slots Q (F0 m 712 ls []) := by
  obtain ⟨hx, hb, hml, hown, hg, hK, hE, hX, hbl⟩ := C1
  have hA : ∀ q : Nat, s.heap.size ≤ q → (fun q : Nat => s.heap.size ≤ q) q := fun _ h => h
  have hbA : ¬ (fun q : Nat => s.heap.size ≤ q) b := Nat.not_le.mpr hbl
  obtain ⟨σ', τ', f', k, r, hK1, hk, hk2, hf, hG, hM⟩ := st_byteOf (D := D) (cG := cG) (cZ := cZ) (cI := cI) (cJ := cJ) (ad := ad) (am := am) (ao := ao) (f := f) hfl hK0 hN (xs ((4 * N) + 1)) (xs ((4 * N) + 2))
  subst hk
  refine lv_aload_n hx hb d_LW_law_712 rfl (lv_at hl 1 rfl) ?_
  refine lv_aload_n hx hb d_LW_law_713 rfl (lv_at hl 0 rfl) ?_
  refine lv_iload hx hb d_LW_law_714 (lv_at hl 4 rfl) ?_
  refine lv_iconst (v := nI 1) hx hb d_LW_law_716 (by decide) ?_
  refine r_iadd (a := 4 * N) (b := 1) hx hb d_LW_law_717 ?_
  refine g_scr (i := (4 * N) + 1) hx hb hX hbl hbA hI (by omega) hL d_LW_law_718 ?_
  refine lv_aload_n hx hb d_LW_law_719 rfl (lv_at hl 0 rfl) ?_
  refine lv_iload hx hb d_LW_law_720 (lv_at hl 4 rfl) ?_
  refine lv_iconst (v := nI 2) hx hb d_LW_law_722 (by decide) ?_
  refine r_iadd (a := 4 * N) (b := 2) hx hb d_LW_law_723 ?_
  refine g_scr (i := (4 * N) + 2) hx hb hX hbl hbA hI (by omega) hL d_LW_law_724 ?_
  refine lv_aload_n hx hb d_LW_law_725 rfl (lv_at hl 3 rfl) ?_
  refine g_callSW (own := "GroupBitmapsLaw") (k := 4) (As := [.ref (ad 0), .int (xs ((4 * N) + 1)), .int (xs ((4 * N) + 2)), .ref ao]) (rest := []) (hG.frame (wm am cI cZ τ)) hE hx hb hml hown hg hK hI hA kw_400 kw_401 kw_0 kw_402 ky_LW_byteOf ⟨Nat.le_of_ble_eq_true rfl, Nat.le_of_ble_eq_true rfl⟩ rfl rfl rfl hl.1 (Nat.le_of_ble_eq_true rfl) hcs d_LW_law_726 rfl rfl (fun H locs hI => ?_)
  refine lv_istore (lv' := [(5, .int (nI (mTh τ'))), (0, .ref b), (1, .ref (ad 0)), (2, .ref (am 0)), (3, .ref ao), (4, .int (nI (4 * N)))]) hx hb d_LW_law_729 hl (by decide) rfl (fun ls hl => ?_)
  refine lv_aload_n hx hb d_LW_law_731 rfl (lv_at hl 3 rfl) ?_
  refine lv_aload_n hx hb d_LW_law_732 rfl (lv_at hl 1 rfl) ?_
  refine lv_iload hx hb d_LW_law_733 (lv_at hl 5 rfl) ?_
  refine lv_iconst (v := nI 1) hx hb d_LW_law_735 (by decide) ?_
  refine r_iadd (a := 4 * N) (b := 1) hx hb d_LW_law_736 ?_
  refine g_scr (i := (4 * N) + 1) hx hb hX hbl hbA hI (by omega) hL d_LW_law_737 ?_
  refine lv_aload_n hx hb d_LW_law_738 rfl (lv_at hl 1 rfl) ?_
  refine lv_iload hx hb d_LW_law_739 (lv_at hl 5 rfl) ?_
  refine lv_iconst (v := nI 2) hx hb d_LW_law_741 (by decide) ?_
  refine r_iadd (a := 4 * N) (b := 2) hx hb d_LW_law_742 ?_
  refine g_scr (i := (4 * N) + 2) hx hb hX hbl hbA hI (by omega) hL d_LW_law_743 ?_
  refine g_callVE (own := "GroupBitmapsLaw") (C := "GroupBitmapsModel") (T := F_MD) (N := 11) (k := 2) (ci := 3) (a := am 0) (As := [.int (xs ((4 * N) + 1)), .int (xs ((4 * N) + 2))]) (rest := []) ((gMetE.G hM).frameL (wd ad cG cZ σ' ++ wo ao cJ f')) hE hx hb hml hown hg hK hI hA kw_597 kw_598 kw_599 kw_4 kw_600 ky_MD_byteOf ⟨Nat.le_of_ble_eq_true rfl, Nat.le_of_ble_eq_true rfl⟩ rfl rfl (fr_r wm_0) rfl rfl hl.1 (Nat.le_of_ble_eq_true rfl) (hcs) d_LW_law_744 rfl rfl (fun H locs hI => ?_)
  refine lv_istore (lv' := [(6, .int r), (5, .int (nI (mTh τ'))), (0, .ref b), (1, .ref (ad 0)), (2, .ref (am 0)), (3, .ref ao), (4, .int (nI (4 * N)))]) hx hb d_LW_law_747 hl (by decide) rfl (fun ls hl => ?_)
  refine lv_aload_n hx hb d_LW_law_749 rfl (lv_at hl 4 rfl) ?_
  refine g_callVE (own := "GroupBitmapsLaw") (C := "GroupBitmapsModel") (T := F_MD) (N := 11) (k := 0) (ci := 3) (a := am 0) (As := []) (rest := []) ((gMetE.G (gMet.toE (c_MD_thrown τ'))).frameL (wd ad cG cZ σ' ++ wo ao cJ f')) hE hx hb hml hown hg hK hI hA kw_505 kw_506 kw_507 kw_4 kw_508 ky_MD_thrown ⟨Nat.le_of_ble_eq_true rfl, Nat.le_of_ble_eq_true rfl⟩ rfl rfl (fr_r wm_0) rfl rfl hl.1 (Nat.le_of_ble_eq_true rfl) (hcs) d_LW_law_750 rfl rfl (fun H locs hI => ?_)
  refine lv_iload hx hb d_LW_law_753 (lv_at hl 1 rfl) ?_
  refine lv_icmp_eq (tgt := 760) hx hb d_LW_law_755 (by decide) (fun _ => ?_) (fun h => absurd rfl h)
  refine lv_iload hx hb d_LW_law_760 (lv_at hl 1 rfl) ?_
  refine r_zne (a := mTh τ') (tgt := 777) hx hb d_LW_law_762 (by decide) (by omega) (fun h0 => ?_) (fun h0 => ?_)
  · refine lv_goto (tgt := 856) hx hb d_LW_law_777 (by decide) ?_
    exact kk σ' τ' f' H locs ls hK1 hI (lv_sub hl [2, 3, 4, 5, 6] rfl)
  · refine lv_aload_n hx hb d_LW_law_765 rfl (lv_at hl 5 rfl) ?_
    refine lv_iconst (v := nI 0) hx hb d_LW_law_766 (by decide) ?_
    refine g_lald (i := 0) hx hb hK hI 22 3 (fr_l wo_at) rfl (by decide) (by decide) d_LW_law_767 ?_
    refine lv_iload hx hb d_LW_law_768 (lv_at hl 0 rfl) ?_
    refine lv_i2l (v := r.toInt64) hx hb d_LW_law_770 rfl ?_
    refine r_lcmp0 hx hb (hf h0) d_LW_law_771 ?_
    refine lv_if_eq (tgt := 777) hx hb d_LW_law_772 (by decide) (fun _ => ?_) (fun h => absurd rfl h)
    refine lv_goto (tgt := 856) hx hb d_LW_law_777 (by decide) ?_
    exact kk σ' τ' f' H locs ls hK1 hI (lv_sub hl [2, 3, 4, 5, 6] rfl)
set_option maxHeartbeats 4000000 in
set_option maxRecDepth 100000 in
theorem law_isTold {p : Program} {l : Launch} {e : Env} {s : State} {m : MethodId} {below : List Frame} {meth : Method} {c : Code} {D : va_G} {cG cZ cI cJ : ClassId} {b L : Nat} {xs : Nat → Int32} {ad am : Nat → Nat} {ao : Nat} {f : Nat → Int64} {σ : gS} {τ : mS} {N cells slots : Nat} {Q : State → Prop} {H : Heap} {locs : List Loc} {ls : Array Slot} (hfl : l.flags = flags0) (C1 : lwC p s m c D cG cZ cI cJ b L xs) (hK0 : RK N σ τ) (hN : N < 65535) (hNL : 4 * N + 4 ≤ L) (hL : L < 2 ^ 31) (hcs : cells + 1 ≤ room_1.cells ∧ slots + 6 ≤ room_1.slots) (hI : gI D (fun q : Nat => s.heap.size ≤ q) s.heap ((wd ad cG cZ σ ++ wo ao cJ f) ++ wm am cI cZ τ) H locs) (hl : lv_has ls 7 [(0, .ref b), (1, .ref (ad 0)), (2, .ref (am 0)), (3, .ref ao), (4, .int (nI (4 * N)))])
    (kk : ∀ (σ' : gS) (τ' : mS) (f' : Nat → Int64) (H : Heap) (locs : List Loc) (ls : Array Slot), RK (N + 1) σ' τ' → gI D (fun q : Nat => s.heap.size ≤ q) s.heap ((wd ad cG cZ (σ') ++ wo ao cJ (f')) ++ wm am cI cZ (τ')) H locs → lv_has ls 7 [(0, .ref b), (1, .ref (ad 0)), (2, .ref (am 0)), (3, .ref ao), (4, .int (nI (4 * N)))] → W p l e room_1 s m #[Value.ref b] below meth c H locs (cells + 1) (slots + 6) Q (F0 m 856 ls [])) : W p l e room_1 s m #[Value.ref b] below meth c H locs cells slots Q (F0 m 780 ls []) := by
  obtain ⟨hx, hb, hml, hown, hg, hK, hE, hX, hbl⟩ := C1
  have hA : ∀ q : Nat, s.heap.size ≤ q → (fun q : Nat => s.heap.size ≤ q) q := fun _ h => h
  have hbA : ¬ (fun q : Nat => s.heap.size ≤ q) b := Nat.not_le.mpr hbl
  obtain ⟨σ', τ', f', k, r, hK1, hk, hk2, hf, hG, hM⟩ := st_isTold (D := D) (cG := cG) (cZ := cZ) (cI := cI) (cJ := cJ) (ad := ad) (am := am) (ao := ao) (f := f) hfl hK0 hN (xs ((4 * N) + 1))
  subst hk
  refine lv_aload_n hx hb d_LW_law_780 rfl (lv_at hl 1 rfl) ?_
  refine lv_aload_n hx hb d_LW_law_781 rfl (lv_at hl 0 rfl) ?_
  refine lv_iload hx hb d_LW_law_782 (lv_at hl 4 rfl) ?_
  refine lv_iconst (v := nI 1) hx hb d_LW_law_784 (by decide) ?_
  refine r_iadd (a := 4 * N) (b := 1) hx hb d_LW_law_785 ?_
  refine g_scr (i := (4 * N) + 1) hx hb hX hbl hbA hI (by omega) hL d_LW_law_786 ?_
  refine lv_aload_n hx hb d_LW_law_787 rfl (lv_at hl 3 rfl) ?_
  refine g_callSW (own := "GroupBitmapsLaw") (k := 3) (As := [.ref (ad 0), .int (xs ((4 * N) + 1)), .ref ao]) (rest := []) (hG.frame (wm am cI cZ τ)) hE hx hb hml hown hg hK hI hA kw_443 kw_444 kw_0 kw_445 ky_LW_isTold ⟨Nat.le_of_ble_eq_true rfl, Nat.le_of_ble_eq_true rfl⟩ rfl rfl rfl hl.1 (Nat.le_of_ble_eq_true rfl) hcs d_LW_law_788 rfl rfl (fun H locs hI => ?_)
  refine lv_istore (lv' := [(5, .int (nI (mTh τ'))), (0, .ref b), (1, .ref (ad 0)), (2, .ref (am 0)), (3, .ref ao), (4, .int (nI (4 * N)))]) hx hb d_LW_law_791 hl (by decide) rfl (fun ls hl => ?_)
  refine lv_aload_n hx hb d_LW_law_793 rfl (lv_at hl 3 rfl) ?_
  refine lv_aload_n hx hb d_LW_law_794 rfl (lv_at hl 1 rfl) ?_
  refine lv_iload hx hb d_LW_law_795 (lv_at hl 5 rfl) ?_
  refine lv_iconst (v := nI 1) hx hb d_LW_law_797 (by decide) ?_
  refine r_iadd (a := 4 * N) (b := 1) hx hb d_LW_law_798 ?_
  refine g_scr (i := (4 * N) + 1) hx hb hX hbl hbA hI (by omega) hL d_LW_law_799 ?_
  refine g_callVE (own := "GroupBitmapsLaw") (C := "GroupBitmapsModel") (T := F_MD) (N := 11) (k := 1) (ci := 3) (a := am 0) (As := [.int (xs ((4 * N) + 1))]) (rest := []) ((gMetE.G hM).frameL (wd ad cG cZ σ' ++ wo ao cJ f')) hE hx hb hml hown hg hK hI hA kw_605 kw_606 kw_607 kw_4 kw_608 ky_MD_isTold ⟨Nat.le_of_ble_eq_true rfl, Nat.le_of_ble_eq_true rfl⟩ rfl rfl (fr_r wm_0) rfl rfl hl.1 (Nat.le_of_ble_eq_true rfl) (hcs) d_LW_law_800 rfl rfl (fun H locs hI => ?_)
  refine lv_istore (lv' := [(6, .int (bI r)), (5, .int (nI (mTh τ'))), (0, .ref b), (1, .ref (ad 0)), (2, .ref (am 0)), (3, .ref ao), (4, .int (nI (4 * N)))]) hx hb d_LW_law_803 hl (by decide) rfl (fun ls hl => ?_)
  refine lv_aload_n hx hb d_LW_law_805 rfl (lv_at hl 4 rfl) ?_
  refine g_callVE (own := "GroupBitmapsLaw") (C := "GroupBitmapsModel") (T := F_MD) (N := 11) (k := 0) (ci := 3) (a := am 0) (As := []) (rest := []) ((gMetE.G (gMet.toE (c_MD_thrown τ'))).frameL (wd ad cG cZ σ' ++ wo ao cJ f')) hE hx hb hml hown hg hK hI hA kw_505 kw_506 kw_507 kw_4 kw_508 ky_MD_thrown ⟨Nat.le_of_ble_eq_true rfl, Nat.le_of_ble_eq_true rfl⟩ rfl rfl (fr_r wm_0) rfl rfl hl.1 (Nat.le_of_ble_eq_true rfl) (hcs) d_LW_law_806 rfl rfl (fun H locs hI => ?_)
  refine lv_iload hx hb d_LW_law_809 (lv_at hl 1 rfl) ?_
  refine lv_icmp_eq (tgt := 816) hx hb d_LW_law_811 (by decide) (fun _ => ?_) (fun h => absurd rfl h)
  refine lv_iload hx hb d_LW_law_816 (lv_at hl 1 rfl) ?_
  refine r_zne (a := mTh τ') (tgt := 840) hx hb d_LW_law_818 (by decide) (by omega) (fun h0 => ?_) (fun h0 => ?_)
  · refine lv_goto (tgt := 856) hx hb d_LW_law_840 (by decide) ?_
    exact kk σ' τ' f' H locs ls hK1 hI (lv_sub hl [2, 3, 4, 5, 6] rfl)
  · refine lv_aload_n hx hb d_LW_law_821 rfl (lv_at hl 5 rfl) ?_
    refine lv_iconst (v := nI 0) hx hb d_LW_law_822 (by decide) ?_
    refine g_lald (i := 0) hx hb hK hI 22 3 (fr_l wo_at) rfl (by decide) (by decide) d_LW_law_823 ?_
    refine lv_iload hx hb d_LW_law_824 (lv_at hl 0 rfl) ?_
    refine r_bz (b := r) (tgt := 833) hx hb d_LW_law_826 (by decide) (fun h => ?_) (fun h => ?_)
    · refine lv_lconst (v := 0) hx hb d_LW_law_833 (by decide) ?_
      refine r_lcmp0 hx hb (by rw [hf h0, h]; rfl) d_LW_law_834 ?_
      refine lv_if_eq (tgt := 840) hx hb d_LW_law_835 (by decide) (fun _ => ?_) (fun h => absurd rfl h)
      refine lv_goto (tgt := 856) hx hb d_LW_law_840 (by decide) ?_
      exact kk σ' τ' f' H locs ls hK1 hI (lv_sub hl [2, 3, 4, 5, 6] rfl)
    · refine lv_lconst (v := 1) hx hb d_LW_law_829 (by decide) ?_
      refine lv_goto (tgt := 834) hx hb d_LW_law_830 (by decide) ?_
      refine r_lcmp0 hx hb (by rw [hf h0, h]; rfl) d_LW_law_834 ?_
      refine lv_if_eq (tgt := 840) hx hb d_LW_law_835 (by decide) (fun _ => ?_) (fun h => absurd rfl h)
      refine lv_goto (tgt := 856) hx hb d_LW_law_840 (by decide) ?_
      exact kk σ' τ' f' H locs ls hK1 hI (lv_sub hl [2, 3, 4, 5, 6] rfl)
set_option maxHeartbeats 4000000 in
set_option maxRecDepth 100000 in
theorem law_settle {p : Program} {l : Launch} {e : Env} {s : State} {m : MethodId} {below : List Frame} {meth : Method} {c : Code} {D : va_G} {cG cZ cI cJ : ClassId} {b L : Nat} {xs : Nat → Int32} {ad am : Nat → Nat} {ao : Nat} {f : Nat → Int64} {σ : gS} {τ : mS} {N cells slots : Nat} {Q : State → Prop} {H : Heap} {locs : List Loc} {ls : Array Slot} (hfl : l.flags = flags0) (C1 : lwC p s m c D cG cZ cI cJ b L xs) (hK0 : RK N σ τ) (hN : N < 65535) (hNL : 4 * N + 4 ≤ L) (hL : L < 2 ^ 31) (hcs : cells + 1 ≤ room_1.cells ∧ slots + 6 ≤ room_1.slots) (hI : gI D (fun q : Nat => s.heap.size ≤ q) s.heap ((wd ad cG cZ σ ++ wo ao cJ f) ++ wm am cI cZ τ) H locs) (hl : lv_has ls 7 [(0, .ref b), (1, .ref (ad 0)), (2, .ref (am 0)), (3, .ref ao), (4, .int (nI (4 * N)))])
    (kk : ∀ (σ' : gS) (τ' : mS) (f' : Nat → Int64) (H : Heap) (locs : List Loc) (ls : Array Slot), RK (N + 1) σ' τ' → gI D (fun q : Nat => s.heap.size ≤ q) s.heap ((wd ad cG cZ (σ') ++ wo ao cJ (f')) ++ wm am cI cZ (τ')) H locs → lv_has ls 7 [(0, .ref b), (1, .ref (ad 0)), (2, .ref (am 0)), (3, .ref ao), (4, .int (nI (4 * N)))] → W p l e room_1 s m #[Value.ref b] below meth c H locs (cells + 1) (slots + 6) Q (F0 m 856 ls [])) : W p l e room_1 s m #[Value.ref b] below meth c H locs cells slots Q (F0 m 843 ls []) := by
  obtain ⟨hx, hb, hml, hown, hg, hK, hE, hX, hbl⟩ := C1
  have hA : ∀ q : Nat, s.heap.size ≤ q → (fun q : Nat => s.heap.size ≤ q) q := fun _ h => h
  have hbA : ¬ (fun q : Nat => s.heap.size ≤ q) b := Nat.not_le.mpr hbl
  obtain ⟨σ', τ', r, hK1, hG, hM⟩ := st_settle (D := D) (cG := cG) (cZ := cZ) (cI := cI) (cJ := cJ) (ad := ad) (am := am) hfl hK0 hN
  refine lv_aload_n hx hb d_LW_law_843 rfl (lv_at hl 1 rfl) ?_
  refine g_callVE (own := "GroupBitmapsLaw") (C := "GroupBitmaps") (T := F_GB) (N := 5) (k := 0) (ci := 0) (a := ad 0) (As := []) (rest := []) (((gMetE.G hG).frame (wo ao cJ f)).frame (wm am cI cZ τ)) hE hx hb hml hown hg hK hI hA kw_111 kw_112 kw_113 kw_1 kw_114 ky_GB_settle ⟨Nat.le_of_ble_eq_true rfl, Nat.le_of_ble_eq_true rfl⟩ rfl rfl (fr_l (fr_l wd_GB)) rfl rfl hl.1 (Nat.le_of_ble_eq_true rfl) (⟨Nat.le_of_succ_le hcs.1, Nat.le_trans (Nat.le_add_right _ 6) hcs.2⟩) d_LW_law_844 rfl rfl (fun H locs hI => ?_)
  refine lv_aload_n hx hb d_LW_law_847 rfl (lv_at hl 2 rfl) ?_
  refine g_callVE (own := "GroupBitmapsLaw") (C := "GroupBitmapsModel") (T := F_MD) (N := 11) (k := 0) (ci := 3) (a := am 0) (As := []) (rest := [.int r]) ((gMetE.G hM).frameL (wd ad cG cZ σ' ++ wo ao cJ f)) hE hx hb hml hown hg hK hI hA kw_609 kw_610 kw_611 kw_4 kw_612 ky_MD_settle ⟨Nat.le_of_ble_eq_true rfl, Nat.le_of_ble_eq_true rfl⟩ rfl rfl (fr_r wm_0) rfl rfl hl.1 (Nat.le_of_ble_eq_true rfl) (⟨Nat.le_of_succ_le hcs.1, Nat.le_trans (Nat.le_add_right _ 6) hcs.2⟩) d_LW_law_848 rfl rfl (fun H locs hI => ?_)
  refine lv_icmp_eq (tgt := 856) hx hb d_LW_law_851 (by decide) (fun _ => ?_) (fun h => absurd rfl h)
  refine W.more (Nat.le_succ _) (Nat.le_add_right _ 6) ?_
  exact kk σ' τ' f H locs ls hK1 hI (lv_sub hl [0, 1, 2, 3, 4] rfl)
