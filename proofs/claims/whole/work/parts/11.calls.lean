section GCALLS
variable {p : Program} {l : Launch} {e : Env} {R : Room} {s : State} {m : MethodId} {args : Array Value} {below : List Frame} {meth : Method} {c : Code} {H : Heap} {locs : List Loc} {cells slots : Nat} {Q : State → Prop}
variable {cc : ByteArray} {pc : Nat} {ls : Array Slot} {rest : List Value} {D : va_G} {A : Nat → Prop} {tys : List (ClassId × FieldType)} {ws ws' : va_W} {H0 : Heap}
theorem g_ra {o : Option Value} {v : Value} {rn : String} (hx : p.tables.exec = Jvm.exec) (hb : c.code = cc) (hr : meth.sig.returnType = some (.object rn)) (hlocks : meth.locks = false) (hv : v = .null ∨ ∃ a, v = .ref a) (hI : gI D A s.heap ws' H locs) (ho : o = some v) (d : decode cc pc = .ok (.areturn, 1)) : W p l e R s m args below meth c H locs 0 0 (gQ D below args s A ws' o) (F0 m pc ls [v]) := by
  subst ho
  exact W.aret hx hb hr (Or.inl ⟨_, rfl⟩) hv (fun t ht hW => ⟨⟨rfl, by rw [ht]; exact hI.1, hI.2.1⟩, hI.2.2.F ht⟩) hI.2.2.2.2 d
theorem g_zald {cA : ClassId} {n a : Nat} {B : Nat → Bool} {i : Nat} (hx : p.tables.exec = Jvm.exec) (hb : c.code = cc) (hK : va_K D classes tys s) (hI : gI D A H0 ws H locs) (q0 t0 : Nat) (he : ws[q0]? = some (a, .inl (cA, n, .inl (fun k => bI (B k))))) (ht : tys[t0]? = some (cA, .boolean)) (hi : i < n) (hn : n < 2 ^ 31) (d : decode cc pc = .ok (.baload, 1))
    (kk : W p l e R s m args below meth c H locs cells slots Q (F0 m (pc + 1) ls (.int (bI (B i)) :: rest))) : W p l e R s m args below meth c H locs cells slots Q (F0 m pc ls (.int (nI i) :: .ref a :: rest)) :=
  va_zald hx hb hK hI.1 q0 t0 he ht (vp_in_nI hi hn) d (by rw [nI_clamp (Nat.lt_trans hi hn)]; exact kk)
theorem g_updZ {B : Nat → Bool} {i : Nat} {b : Bool} (h : i < 2 ^ 31) : upd (fun k => bI (B k)) (nI i).toNatClampNeg (vp_nar .boolean (bI b)) = fun k => bI (if k = i then b else B k) := by
  funext k
  rw [nI_clamp h]
  unfold upd
  have hv : vp_nar .boolean (bI b) = bI b := by cases b <;> decide
  rw [hv]
  split <;> rfl
theorem g_zast {cA : ClassId} {n a : Nat} {B : Nat → Bool} {i : Nat} {b : Bool} (hx : p.tables.exec = Jvm.exec) (hb : c.code = cc) (hK : va_K D classes tys s) (hI : gI D A H0 ws H locs) (q0 t0 : Nat) (he : ws[q0]? = some (a, .inl (cA, n, .inl (fun k => bI (B k))))) (ht : tys[t0]? = some (cA, .boolean)) (hi : i < n) (hn : n < 2 ^ 31) (hw : ws.set q0 (a, .inl (cA, n, .inl (fun k => bI (if k = i then b else B k)))) = ws') (d : decode cc pc = .ok (.bastore, 1))
    (kk : ∀ (H : Heap) (locs : List Loc), gI D A H0 ws' H locs → W p l e R s m args below meth c H locs cells slots Q (F0 m (pc + 1) ls rest)) : W p l e R s m args below meth c H locs cells slots Q (F0 m pc ls (.int (bI b) :: .int (nI i) :: .ref a :: rest)) := by
  subst hw
  refine va_zast hx hb hK hI.1 hI.2.1 hI.2.2 q0 t0 he ht (vp_in_nI hi hn) d (fun H1 l1 h1 h2 h3 => ?_)
  rw [g_updZ (Nat.lt_trans hi hn)] at h1 h2
  exact kk H1 l1 ⟨h1, h2, h3⟩
theorem g_iald {cA : ClassId} {n a : Nat} {F : Nat → Nat} {i : Nat} (hx : p.tables.exec = Jvm.exec) (hb : c.code = cc) (hK : va_K D classes tys s) (hI : gI D A H0 ws H locs) (q0 t0 : Nat) (he : ws[q0]? = some (a, .inl (cA, n, .inl (fun k => nI (F k))))) (ht : tys[t0]? = some (cA, .int)) (hi : i < n) (hn : n < 2 ^ 31) (d : decode cc pc = .ok (.iaload, 1))
    (kk : W p l e R s m args below meth c H locs cells slots Q (F0 m (pc + 1) ls (.int (nI (F i)) :: rest))) : W p l e R s m args below meth c H locs cells slots Q (F0 m pc ls (.int (nI i) :: .ref a :: rest)) :=
  va_iald hx hb hK hI.1 q0 t0 he ht (vp_in_nI hi hn) d (by rw [nI_clamp (Nat.lt_trans hi hn)]; exact kk)
theorem g_updI {F : Nat → Nat} {i v : Nat} (h : i < 2 ^ 31) : upd (fun k => nI (F k)) (nI i).toNatClampNeg (nI v) = fun k => nI (if k = i then v else F k) := by
  funext k
  rw [nI_clamp h]
  unfold upd
  split <;> rfl
theorem g_iast {cA : ClassId} {n a : Nat} {F : Nat → Nat} {i v : Nat} (hx : p.tables.exec = Jvm.exec) (hb : c.code = cc) (hK : va_K D classes tys s) (hI : gI D A H0 ws H locs) (q0 t0 : Nat) (he : ws[q0]? = some (a, .inl (cA, n, .inl (fun k => nI (F k))))) (ht : tys[t0]? = some (cA, .int)) (hi : i < n) (hn : n < 2 ^ 31) (hw : ws.set q0 (a, .inl (cA, n, .inl (fun k => nI (if k = i then v else F k)))) = ws') (d : decode cc pc = .ok (.iastore, 1))
    (kk : ∀ (H : Heap) (locs : List Loc), gI D A H0 ws' H locs → W p l e R s m args below meth c H locs cells slots Q (F0 m (pc + 1) ls rest)) : W p l e R s m args below meth c H locs cells slots Q (F0 m pc ls (.int (nI v) :: .int (nI i) :: .ref a :: rest)) := by
  subst hw
  refine va_iast hx hb hK hI.1 hI.2.1 hI.2.2 q0 t0 he ht (vp_in_nI hi hn) d (fun H1 l1 h1 h2 h3 => ?_)
  rw [g_updI (Nat.lt_trans hi hn)] at h1 h2
  exact kk H1 l1 ⟨h1, h2, h3⟩
theorem g_aldq {cA : ClassId} {C : String} {n a r : Nat} {f : Nat → Option Nat} {i : Nat} (hx : p.tables.exec = Jvm.exec) (hb : c.code = cc) (hK : va_K D classes tys s) (hI : gI D A H0 ws H locs) (q0 t0 : Nat) (he : ws[q0]? = some (a, .inl (cA, n, .inr (.inr (.inr (.inr f)))))) (ht : tys[t0]? = some (cA, .object C)) (hi : i < n) (hn : n < 2 ^ 31) (hf : f i = some r) (d : decode cc pc = .ok (.aaload, 1))
    (kk : W p l e R s m args below meth c H locs cells slots Q (F0 m (pc + 1) ls (.ref r :: rest))) : W p l e R s m args below meth c H locs cells slots Q (F0 m pc ls (.int (nI i) :: .ref a :: rest)) :=
  va_aldq hx hb hK hI.1 q0 t0 he ht (vp_in_nI hi hn) d (by rw [nI_clamp (Nat.lt_trans hi hn), hf]; exact kk)
theorem g_alen {cA : ClassId} {x : vp_A} {a : Nat} {ty : FieldType} (hx : p.tables.exec = Jvm.exec) (hb : c.code = cc) (hK : va_K D classes tys s) (hI : gI D A H0 ws H locs) (q0 t0 : Nat) (he : ws[q0]? = some (a, .inl (cA, x))) (ht : tys[t0]? = some (cA, ty)) (d : decode cc pc = .ok (.arraylength, 1))
    (kk : W p l e R s m args below meth c H locs cells slots Q (F0 m (pc + 1) ls (.int (nI x.1) :: rest))) : W p l e R s m args below meth c H locs cells slots Q (F0 m pc ls (.ref a :: rest)) :=
  va_alen hx hb hK hI.1 q0 t0 he ht rfl d kk
theorem g_blind {as : List Value} {sz : Nat} : FrameBlind (va_Pc as (fun U => U.heap.size = sz ∧ va_P D classes ws U.heap ∧ va_K D classes tys U ∧ va_D (fun _ => True) ws)) := fun a U g mk q => by
  obtain ⟨q0, q1, qP, qK, qD⟩ := q
  exact ⟨q0, q1, qP, va_K.moved (u := U) (U := U.calling g mk a) (Vm.Alike.refl U.vm) qK, qD⟩
/-- the callee's words of a call -/
theorem g_cb {own : String} {idx n k : Nat} {y : MethodName} {b : ByteArray} {ret : Option FieldType} {rm : Room} (hg : ∀ w ∈ gw, w.before args s = true) (w1 : Cond.methodLink own idx y ∈ gw) (w4 : Cond.initialized y.cls ∈ gw) (w5 : Cond.code y b n ret ∈ gw)
    (hd : y.cls ≠ "java/lang/invoke/MethodHandle" ∧ y.cls ≠ "java/lang/invoke/VarHandle" ∧ (parseMethodDescriptor y.desc).map (fun d => d.parameters.length) = some k) (hR : rm.frames + 1 ≤ R.frames ∧ 8 + (n + 11) + rm.locals ≤ R.locals) {mc ms : Nat} (hrc : rm.cells = mc) (hrs : rm.slots = ms) : CallB R s args own idx y b n ret (.code y b n ret :: gw) rm mc ms k := by
  refine ⟨hrc, hrs, hR.1, hR.2, ?_, List.mem_cons_self, hg _ w5, hg _ w4, ⟨hd.1, hd.2.1⟩, fun sig h => ?_, hg _ w1⟩
  · intro w hw a' U hW
    rcases List.mem_cons.mp hw with h | h
    · rw [h]; exact gw_move hg hW _ w5
    · exact gw_move hg hW _ h
  · have h2 := hd.2.2
    rw [h] at h2
    exact (Option.some.inj h2).symm
theorem g_callV {own C : String} {T : u_T} {N idx n k a q0 ci nL : Nat} {fs : List Value} {y : MethodName} {b : ByteArray} {ret : Option FieldType} {rm : Room} {As : List Value} {o : Option Value} (hM : gMet l D tys y b n ret rm ws (.ref a :: As) ws' o)
    (hx : p.tables.exec = Jvm.exec) (hb : c.code = cc) (hml : c.maxLocals = nL) (hown : s.vm.findClass own = some m.cls) (hg : ∀ w ∈ gw, w.before args s = true) (hK : va_K D classes tys s) (hI : gI D A H0 ws H locs) (hA : ∀ q : Nat, H0.size ≤ q → A q)
    (w1 : Cond.methodLink own idx y ∈ gw) (w2 : Cond.instanceMethod y ∈ gw) (w3 : Cond.selects C y y ∈ gw) (w4 : Cond.initialized y.cls ∈ gw) (w5 : Cond.code y b n ret ∈ gw)
    (hd : y.cls ≠ "java/lang/invoke/MethodHandle" ∧ y.cls ≠ "java/lang/invoke/VarHandle" ∧ (parseMethodDescriptor y.desc).map (fun d => d.parameters.length) = some k) (hR : rm.frames + 1 ≤ R.frames ∧ 8 + (n + 11) + rm.locals ≤ R.locals) (hrc : rm.cells = 0) (hrs : rm.slots = 0)
    (he : ws[q0]? = some (a, .inr (ci, fs))) (hc : classes[ci]? = some (C, T, N)) (hn : As.length = k) (hls : ls.size = nL) (hst : (rest.map fun v => v.category).sum ≤ 8) (hcs : cells ≤ R.cells ∧ slots ≤ R.slots) (d : decode cc pc = .ok (.invokevirtual idx, 3))
    {st0 st1 : List Value} (hst0 : st0 = As.reverse ++ .ref a :: rest) (hst1 : o.toList ++ rest = st1)
    (kk : ∀ (H : Heap) (locs : List Loc), gI D A H0 ws' H locs → W p l e R s m args below meth c H locs cells slots Q (F0 m (pc + 3) ls st1)) : W p l e R s m args below meth c H locs cells slots Q (F0 m pc ls st0) := by
  subst hst0; subst hst1
  intro T9 hT X
  have hF := g_free hI hA
  have hr := va_runV (g := F0 m pc ls (As.reverse ++ .ref a :: rest)) (As := As) (rest := rest) (b := a) (C := C) (locs := locs) (cells := cells) (slots := slots) (meth := meth) (below := below) (e := e) (nL := nL) ⟨hx, hb, hml, hown, hg⟩ (hM H.size) ⟨g_cb hg w1 w4 w5 hd hR hrc hrs, hg _ w2, hg _ w3⟩ ⟨g_blind, va_recv hK hI.1 hc he, fun U hU hW => ⟨rfl, by rw [hU], by rw [hU]; exact hI.1, va_K.moved hW.alike hK, hI.2.1.weaken (fun _ _ _ _ => trivial)⟩⟩ rfl hn hls rfl (lv_room hst) d ⟨hcs.1, hcs.2⟩
  obtain ⟨v, st₀, t, T', L, h0, X', hL, e1, e2, ⟨⟨hv, hP', hD'⟩, hz, hk⟩, st⟩ := hr T9 hT X
  cases hv
  rw [h0] at hz hk
  have hS := hI.2.2
  obtain ⟨t2, a1, b1⟩ := kk T'.heap (locs ++ L) ⟨by rw [e1]; exact hP', hD'.weaken (fun _ _ _ h => hF _ h), Nat.le_trans hS.1 (by rw [e1]; exact hz), fun q h1 h2 => by rw [e1, hk q (Nat.lt_of_lt_of_le h1 hS.1) (fun z => h2 (hF q z))]; exact hS.2.1 q h1 h2, fun q hq => by
      rcases List.mem_append.mp hq with h | h
      · exact hS.2.2 q h
      · exact hF _ (hL q h)⟩ T' rfl X'
  exact ⟨t2, st t2 a1, b1⟩
theorem g_callS {own : String} {idx n k nL : Nat} {y : MethodName} {b : ByteArray} {ret : Option FieldType} {rm : Room} {As : List Value} {o : Option Value} (hM : gMet l D tys y b n ret rm ws As ws' o)
    (hx : p.tables.exec = Jvm.exec) (hb : c.code = cc) (hml : c.maxLocals = nL) (hown : s.vm.findClass own = some m.cls) (hg : ∀ w ∈ gw, w.before args s = true) (hK : va_K D classes tys s) (hI : gI D A H0 ws H locs) (hA : ∀ q : Nat, H0.size ≤ q → A q)
    (w1 : Cond.methodLink own idx y ∈ gw) (w2 : Cond.static y ∈ gw) (w4 : Cond.initialized y.cls ∈ gw) (w5 : Cond.code y b n ret ∈ gw)
    (hd : y.cls ≠ "java/lang/invoke/MethodHandle" ∧ y.cls ≠ "java/lang/invoke/VarHandle" ∧ (parseMethodDescriptor y.desc).map (fun d => d.parameters.length) = some k) (hR : rm.frames + 1 ≤ R.frames ∧ 8 + (n + 11) + rm.locals ≤ R.locals) (hrc : rm.cells = 0) (hrs : rm.slots = 0)
    (hn : As.length = k) (hls : ls.size = nL) (hst : (rest.map fun v => v.category).sum ≤ 8) (hcs : cells ≤ R.cells ∧ slots ≤ R.slots) (d : decode cc pc = .ok (.invokestatic idx, 3))
    {st0 st1 : List Value} (hst0 : st0 = As.reverse ++ rest) (hst1 : o.toList ++ rest = st1)
    (kk : ∀ (H : Heap) (locs : List Loc), gI D A H0 ws' H locs → W p l e R s m args below meth c H locs cells slots Q (F0 m (pc + 3) ls st1)) : W p l e R s m args below meth c H locs cells slots Q (F0 m pc ls st0) := by
  subst hst0; subst hst1
  intro T9 hT X
  have hF := g_free hI hA
  have hr := va_runS (g := F0 m pc ls (As.reverse ++ rest)) (As := As) (rest := rest) (locs := locs) (cells := cells) (slots := slots) (meth := meth) (below := below) (e := e) (nL := nL) ⟨hx, hb, hml, hown, hg⟩ (hM H.size) ⟨g_cb hg w1 w4 w5 hd hR hrc hrs, hg _ w2⟩ ⟨g_blind, fun U hU hW => ⟨rfl, by rw [hU], by rw [hU]; exact hI.1, va_K.moved hW.alike hK, hI.2.1.weaken (fun _ _ _ _ => trivial)⟩⟩ rfl hn hls rfl (lv_room hst) d ⟨hcs.1, hcs.2⟩
  obtain ⟨v, st₀, t, T', L, h0, X', hL, e1, e2, ⟨⟨hv, hP', hD'⟩, hz, hk⟩, st⟩ := hr T9 hT X
  cases hv
  rw [h0] at hz hk
  have hS := hI.2.2
  obtain ⟨t2, a1, b1⟩ := kk T'.heap (locs ++ L) ⟨by rw [e1]; exact hP', hD'.weaken (fun _ _ _ h => hF _ h), Nat.le_trans hS.1 (by rw [e1]; exact hz), fun q h1 h2 => by rw [e1, hk q (Nat.lt_of_lt_of_le h1 hS.1) (fun z => h2 (hF q z))]; exact hS.2.1 q h1 h2, fun q hq => by
      rcases List.mem_append.mp hq with h | h
      · exact hS.2.2 q h
      · exact hF _ (hL q h)⟩ T' rfl X'
  exact ⟨t2, st t2 a1, b1⟩
end GCALLS
section GMATH
variable {p : Program} {l : Launch} {e : Env} {R : Room} {s : State} {m : MethodId} {args : Array Value} {below : List Frame} {meth : Method} {c : Code} {H : Heap} {locs : List Loc} {cells slots : Nat} {Q : State → Prop}
variable {cc : ByteArray} {pc : Nat} {ls : Array Slot} {rest : List Value}
theorem r_max {own : String} {index nL a b : Nat} (hx : p.tables.exec = Jvm.exec) (hb : c.code = cc) (hml : c.maxLocals = nL) (hls : ls.size = nL) (hown : s.vm.findClass own = some m.cls) (hg : ∀ w ∈ gw, w.before args s = true) (w1 : Cond.methodLink own index Lib.Math.max.name ∈ gw) (w2 : Cond.static Lib.Math.max.name ∈ gw) (w3 : Cond.initialized "java/lang/Math" ∈ gw) (w4 : Cond.code Lib.Math.max.name Lib.Math.max.code 2 (some .int) ∈ gw) (h1 : 1 ≤ R.frames) (h2 : (rest.map fun v => v.category).sum + 13 ≤ R.locals) (h3 : cells ≤ R.cells) (h4 : slots ≤ R.slots) (ha : a < 2 ^ 31) (hb2 : b < 2 ^ 31) (d : decode cc pc = .ok (.invokestatic index, 3))
    (kk : W p l e R s m args below meth c H locs cells slots Q (F0 m (pc + 3) ls (.int (nI (Nat.max a b)) :: rest))) : W p l e R s m args below meth c H locs cells slots Q (F0 m pc ls (.int (nI b) :: .int (nI a) :: rest)) := by
  refine va_mmax hx hb (hml.trans hls.symm) hown (hg _ w1) (hg _ w2) (hg _ w3) (hg _ w4) h1 h2 h3 h4 d ?_
  have : (if nI a < nI b then nI b else nI a) = nI (Nat.max a b) := by
    by_cases h : a < b
    · rw [if_pos ((nI_ltI ha hb2).mpr h), show Nat.max a b = b from Nat.max_eq_right (Nat.le_of_lt h)]
    · rw [if_neg (fun q => h ((nI_ltI ha hb2).mp q)), show Nat.max a b = a from Nat.max_eq_left (Nat.le_of_not_lt h)]
  rw [this]
  exact kk
theorem r_min {own : String} {index nL a b : Nat} (hx : p.tables.exec = Jvm.exec) (hb : c.code = cc) (hml : c.maxLocals = nL) (hls : ls.size = nL) (hown : s.vm.findClass own = some m.cls) (hg : ∀ w ∈ gw, w.before args s = true) (w1 : Cond.methodLink own index Lib.Math.min.name ∈ gw) (w2 : Cond.static Lib.Math.min.name ∈ gw) (w3 : Cond.initialized "java/lang/Math" ∈ gw) (w4 : Cond.code Lib.Math.min.name Lib.Math.min.code 2 (some .int) ∈ gw) (h1 : 1 ≤ R.frames) (h2 : (rest.map fun v => v.category).sum + 13 ≤ R.locals) (h3 : cells ≤ R.cells) (h4 : slots ≤ R.slots) (ha : a < 2 ^ 31) (hb2 : b < 2 ^ 31) (d : decode cc pc = .ok (.invokestatic index, 3))
    (kk : W p l e R s m args below meth c H locs cells slots Q (F0 m (pc + 3) ls (.int (nI (Nat.min a b)) :: rest))) : W p l e R s m args below meth c H locs cells slots Q (F0 m pc ls (.int (nI b) :: .int (nI a) :: rest)) := by
  refine va_mmin hx hb (hml.trans hls.symm) hown (hg _ w1) (hg _ w2) (hg _ w3) (hg _ w4) h1 h2 h3 h4 d ?_
  have : (if nI b < nI a then nI b else nI a) = nI (Nat.min a b) := by
    by_cases h : b < a
    · rw [if_pos ((nI_ltI hb2 ha).mpr h), show Nat.min a b = b from Nat.min_eq_right (Nat.le_of_lt h)]
    · rw [if_neg (fun q => h ((nI_ltI hb2 ha).mp q)), show Nat.min a b = a from Nat.min_eq_left (Nat.le_of_not_lt h)]
  rw [this]
  exact kk
end GMATH
