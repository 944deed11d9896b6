/-! ===== constructors: what is made ===== -/
abbrev xAO (U : State) : Prop := va_AO "GroupBitmaps$Group" U
def gN (l : Launch) (D : va_G) (tys : List (ClassId × FieldType)) (y : MethodName) (b : ByteArray) (n : Nat) (rm : Room) (mc ms : Nat) (ws : va_W) (as : List Value) (Post : va_W → Prop) : Prop :=
  ∀ sz : Nat, Met l y (.code y b n none :: gw) rm (va_Pc as (fun U => U.heap.size = sz ∧ va_P D classes ws U.heap ∧ va_K D classes tys U ∧ va_D (fun _ => True) ws ∧ xAO U))
    (fun _ st oc t => (∃ ws', oc = .returned none ∧ Post ws' ∧ va_P D classes ws' t.heap ∧ va_D (va_A ws sz) ws') ∧ va_F (va_A ws sz) st t) mc ms (va_A ws sz)
def gQn (D : va_G) (below : List Frame) (args : Array Value) (s : State) (A : Nat → Prop) (mc ms : Nat) (Post : va_W → Prop) : State → Prop :=
  MQ below (fun _ st oc t => (∃ ws', oc = .returned none ∧ Post ws' ∧ va_P D classes ws' t.heap ∧ va_D A ws') ∧ va_F A st t) args s mc ms A
theorem gN_of {l : Launch} {D : va_G} {tys : List (ClassId × FieldType)} {y : MethodName} {b : ByteArray} {n : Nat} {rm : Room} {mc ms : Nat} {ws : va_W} {as : List Value} {Post : va_W → Prop} (hy : plainName y.cls = true) (hyn : y.name = "<init>") (hn : (lg_sl as).length ≤ n)
    (body : ∀ (p : Program) (e : Env) (s : State) (m : MethodId) (below : List Frame) (meth : Method) (c : Code) (A : Nat → Prop) (ls : Array Slot), gC p s m meth c as.toArray D tys y.cls b n none → (∀ q : Nat, s.heap.size ≤ q → A q) → xAO s → meth.name = "<init>" → gI D A s.heap ws s.heap [] → lv_has ls n (lv_args 0 as) →
      W p l e rm s m as.toArray below meth c s.heap [] 0 0 (gQn D below as.toArray s A mc ms Post) (F0 m 0 ls [])) : gN l D tys y b n rm mc ms ws as Post := by
  intro sz
  refine Met.ofW (cc := b) (maxL := n) (ret := none) hy rfl ?_
  intro p e s m args below meth c s₁ B hml hv
  obtain ⟨rfl, hsz, hP, hK, hD0, hE⟩ := hv
  subst hsz
  have hts := atoms_spec (ws := .code y b n none :: gw) B.pre
  have hl := lv_entry as (n := n) hn
  rw [lg_entry_eq]
  generalize (lg_sl as ++ List.replicate (n - (lg_sl as).length) Slot.unset).toArray = ls at hl ⊢
  have hnm : meth.name = "<init>" := by rw [(name_of_methodNamed B.named B.method).1]; exact hyn
  exact body p e s m below meth c (va_A ws s.heap.size) ls ⟨B.exec, B.bytes, B.returns, B.notSynchronized, findClass_of_methodNamed B.named, hml, fun w h => hts w (List.mem_cons_of_mem _ h), hK⟩ (fun q h => Or.inr h) hE hnm ⟨hP, hD0.self, va_S.rf⟩ hl
theorem gN.frame {l : Launch} {D : va_G} {tys : List (ClassId × FieldType)} {y : MethodName} {b : ByteArray} {n : Nat} {rm : Room} {mc ms : Nat} {ws : va_W} {as : List Value} {Post : va_W → Prop} (h : gN l D tys y b n rm mc ms ws as Post) (wl : va_W) : gN l D tys y b n rm mc ms (wl ++ ws) as (fun w => ∃ w0, w = wl ++ w0 ∧ Post w0) := by
  intro sz p e ha hc hk s m args below hf happ hP hK
  obtain ⟨q1, q2, q3, q4, q5, q6⟩ := hP
  obtain ⟨n, oc, r1, r2, r3, ⟨⟨⟨ws', b1, bp, b2, b3⟩, b4⟩, L, c1, c2⟩⟩ := h sz p e ha hc hk s m args below hf happ ⟨q1, q2, fr_Pr q3, q4, fr_Dr q5, q6⟩ hK
  subst q2
  exact ⟨n, oc, r1, r2, r3, ⟨⟨⟨wl ++ ws', b1, ⟨ws', rfl, bp⟩, va_P.app (fr_kept (fr_Dc q5) (fr_Pl q3) b4) b2, (fr_Dc (fr_D (fr_Dc q5) (fr_Pl q3) b3)).weaken (fun _ _ _ z => fr_Ac z)⟩, b4.1, fun q z1 z2 => b4.2 q z1 (fun z => z2 (fr_Ar z))⟩, L, c1, fun q hq => fr_Ar (c2 q hq)⟩⟩
section GINIT
variable {p : Program} {l : Launch} {e : Env} {R : Room} {s : State} {m : MethodId} {args : Array Value} {below : List Frame} {meth : Method} {c : Code} {H : Heap} {locs : List Loc} {cells slots : Nat} {Q : State → Prop}
variable {cc : ByteArray} {pc : Nat} {ls : Array Slot} {rest : List Value} {D : va_G} {A : Nat → Prop} {tys : List (ClassId × FieldType)} {ws ws' : va_W} {H0 : Heap}
theorem gN_blind {as : List Value} {sz : Nat} : FrameBlind (va_Pc as (fun U => U.heap.size = sz ∧ va_P D classes ws U.heap ∧ va_K D classes tys U ∧ va_D (fun _ => True) ws ∧ xAO U)) := fun a U g mk q => by
  obtain ⟨q0, q1, qP, qK, qD, qE⟩ := q
  exact ⟨q0, q1, qP, va_K.moved (u := U) (U := U.calling g mk a) (Vm.Alike.refl U.vm) qK, qD, va_AO.moved (u := U) (U := U.calling g mk a) (Vm.Alike.refl U.vm) qE⟩
theorem g_rvn {Post : va_W → Prop} {mc ms : Nat} (hx : p.tables.exec = Jvm.exec) (hb : c.code = cc) (hr : meth.sig.returnType = none) (hlocks : meth.locks = false) (hI : gI D A s.heap ws' H locs) (hp : Post ws') (hc : cells ≤ mc) (hs : slots ≤ ms) (d : decode cc pc = .ok (.return_, 1)) : W p l e R s m args below meth c H locs cells slots (gQn D below args s A mc ms Post) (F0 m pc ls []) :=
  W.more hc hs (W.vret hx hb hr (fun t ht hW => ⟨⟨ws', rfl, hp, by rw [ht]; exact hI.1, hI.2.1⟩, hI.2.2.F ht⟩) hI.2.2.2.2 d)
theorem g_callI {own : String} {idx n k a nL mc ms : Nat} {y : MethodName} {b : ByteArray} {rm : Room} {As : List Value} {Post : va_W → Prop} (hM : gN l D tys y b n rm mc ms ws (.ref a :: As) Post)
    (hx : p.tables.exec = Jvm.exec) (hb : c.code = cc) (hml : c.maxLocals = nL) (hown : s.vm.findClass own = some m.cls) (hg : ∀ w ∈ gw, w.before args s = true) (hK : va_K D classes tys s) (hI : gI D A H0 ws H locs) (hA : ∀ q : Nat, H0.size ≤ q → A q) (hAO : xAO s)
    (w1 : Cond.methodLink own idx y ∈ gw) (w2 : Cond.instanceMethod y ∈ gw) (hyn : y.name = "<init>") (w4 : Cond.initialized y.cls ∈ gw) (w5 : Cond.code y b n none ∈ gw)
    (hd : y.cls ≠ "java/lang/invoke/MethodHandle" ∧ y.cls ≠ "java/lang/invoke/VarHandle" ∧ (parseMethodDescriptor y.desc).map (fun d => d.parameters.length) = some k) (hR : rm.frames + 1 ≤ R.frames ∧ 8 + (n + 11) + rm.locals ≤ R.locals) (hrc : rm.cells = mc) (hrs : rm.slots = ms)
    (hn : As.length = k) (hls : ls.size = nL) (hst : (rest.map fun v => v.category).sum ≤ 8) (hcs : cells + mc ≤ R.cells ∧ slots + ms ≤ R.slots) (d : decode cc pc = .ok (.invokespecial idx, 3))
    {st0 : List Value} (hst0 : st0 = As.reverse ++ .ref a :: rest)
    (kk : ∀ (H : Heap) (locs : List Loc) (ws' : va_W), Post ws' → gI D A H0 ws' H locs → W p l e R s m args below meth c H locs (cells + mc) (slots + ms) Q (F0 m (pc + 3) ls rest)) : W p l e R s m args below meth c H locs cells slots Q (F0 m pc ls st0) := by
  subst hst0
  intro T9 hT X
  have hF := g_free hI hA
  have hS := hI.2.2
  have hr := va_runI (g := F0 m pc ls (As.reverse ++ .ref a :: rest)) (As := As) (rest := rest) (b := a) (locs := locs) (cells := cells) (slots := slots) (meth := meth) (below := below) (e := e) (nL := nL) ⟨hx, hb, hml, hown, hg⟩ (hM H.size) ⟨g_cb hg w1 w4 w5 hd hR hrc hrs, hyn, hg _ w2⟩ ⟨gN_blind, fun U hU hW => ⟨rfl, by rw [hU], by rw [hU]; exact hI.1, va_K.moved hW.alike hK, hI.2.1.weaken (fun _ _ _ _ => trivial), hAO.moved hW.alike⟩⟩ rfl hn hls rfl (lv_room hst) d ⟨hcs.1, hcs.2⟩
  obtain ⟨v, st₀, t, T', L, h0, X', hL, e1, e2, ⟨⟨ws', hv, hp, hP', hD'⟩, hz, hk⟩, st⟩ := hr T9 hT X
  cases hv
  rw [h0] at hz hk
  obtain ⟨t2, a1, b1⟩ := kk T'.heap (locs ++ L) ws' hp ⟨by rw [e1]; exact hP', hD'.weaken (fun _ _ _ h => hF _ h), Nat.le_trans hS.1 (by rw [e1]; exact hz), fun q h1 h2 => by rw [e1, hk q (Nat.lt_of_lt_of_le h1 hS.1) (fun z => h2 (hF q z))]; exact hS.2.1 q h1 h2, fun q hq => by
      rcases List.mem_append.mp hq with h | h
      · exact hS.2.2 q h
      · exact hF _ (hL q h)⟩ T' rfl X'
  exact ⟨t2, st t2 a1, b1⟩
theorem g_oinit {own : String} {idx nL a : Nat} (hx : p.tables.exec = Jvm.exec) (hb : c.code = cc) (hml : c.maxLocals = nL) (hls : ls.size = nL) (hown : s.vm.findClass own = some m.cls) (hg : ∀ w ∈ gw, w.before args s = true) (w1 : Cond.methodLink own idx Lib.objectInit ∈ gw) (w2 : Cond.instanceMethod Lib.objectInit ∈ gw) (w3 : Cond.code Lib.objectInit ⟨#[0xb1]⟩ 1 none ∈ gw) (hf : 1 ≤ R.frames) (hlo : (rest.map fun v => v.category).sum + 12 ≤ R.locals) (d : decode cc pc = .ok (.invokespecial idx, 3))
    (kk : W p l e R s m args below meth c H locs cells slots Q (F0 m (pc + 3) ls rest)) : W p l e R s m args below meth c H locs cells slots Q (F0 m pc ls (.ref a :: rest)) :=
  W.objInit hx hb hown (hg _ w1) (hg _ w2) (hg _ w3) (g := F0 m pc ls (.ref a :: rest)) rfl (hls.trans hml.symm) rfl d hf (by show 2 * 0 + _ + 12 ≤ _; omega) kk
theorem g_new {own C : String} {T : u_T} {N ci index : Nat} (hx : p.tables.exec = Jvm.exec) (hb : c.code = cc) (hg : ∀ w ∈ gw, w.before args s = true) (hu : ∀ w ∈ u_ws C T N, w ∈ gw) (ty0 : Nat → FieldType) (hty : ∀ k, k < N → parseFieldDescriptor (T k).2.2.1 = some (ty0 k)) (hown : s.vm.findClass own = some m.cls) (w1 : Cond.classLink own index C ∈ gw) (w2 : Cond.instantiable C N ∈ gw) (w3 : Cond.initialized C ∈ gw)
    (hK : va_K D classes tys s) (hI : gI D A H0 ws H locs) (hA : ∀ q : Nat, H0.size ≤ q → A q) (hc : classes[ci]? = some (C, T, N)) {fs : List Value} (hfs : ∀ j, j < N → defaultValue (ty0 j) = vp_V fs j) (hcs : cells + 1 ≤ R.cells ∧ slots + N ≤ R.slots) (d : decode cc pc = .ok (.new index, 3))
    (kk : ∀ (q : Nat) (H : Heap), gI D A H0 (ws ++ [(q, .inr (ci, fs))]) H locs → W p l e R s m args below meth c H locs (cells + 1) (slots + N) Q (F0 m (pc + 3) ls (.ref q :: rest))) : W p l e R s m args below meth c H locs cells slots Q (F0 m pc ls rest) :=
  va_new hx hb hg hu ty0 hty hown (hg _ w1) (hg _ w2) (hg _ w3) hK hI.1 hI.2.1 hI.2.2 hA hc hfs hcs.1 hcs.2 d (fun q H1 h1 h2 h3 => kk q H1 ⟨h1, h2, h3⟩)
theorem g_newa {atype : ArrayType} {ty : FieldType} {cA : ClassId} {n : Nat} {a0 : vp_A} (t0 : Nat) (hx : p.tables.exec = Jvm.exec) (hb : c.code = cc) (hg : ∀ w ∈ gw, w.before args s = true) (w1 : Cond.arrayClass (newarray.typeOf atype) ∈ gw) (hty : newarray.typeOf atype = ty) (hK : va_K D classes tys s) (ht : tys[t0]? = some (cA, ty)) (hra : ∀ c9, va_RA s c9 ty → s.vm.findClass ("[" ++ ty.toString) = some c9) (hI : gI D A H0 ws H locs) (hA : ∀ q : Nat, H0.size ≤ q → A q)
    (ha : ∀ cA : ClassId, vp_cell cA a0 = arrV cA n (fun _ => defaultValue ty)) (hn : n < 2 ^ 31) (hbytes : n * componentBytes ty ≤ 536870912) (hcs : cells + 1 ≤ R.cells ∧ slots + n ≤ R.slots) (d : decode cc pc = .ok (.newarray atype, 2))
    (kk : ∀ (q : Nat) (H : Heap), gI D A H0 (ws ++ [(q, .inl (cA, a0))]) H locs → W p l e R s m args below meth c H locs (cells + 1) (slots + n) Q (F0 m (pc + 2) ls (.ref q :: rest))) : W p l e R s m args below meth c H locs cells slots Q (F0 m pc ls (.int (nI n) :: rest)) := by
  refine va_newa hx hb (hg _ w1) hty hK hI.1 hI.2.1 hI.2.2 hA ha (nI_pos hn) (nI_clamp hn) hbytes hcs.1 hcs.2 d (fun q cB H1 hKK h1 h2 h3 => ?_)
  have e1 := hra _ (hK.2 t0 _ ht).2
  have e2 := hra _ (hKK.2 tys.length (cB, ty) (by rw [List.getElem?_append_right (Nat.le_refl _), Nat.sub_self]; rfl)).2
  cases e1.symm.trans e2
  exact kk q H1 ⟨h1, h2, h3⟩
theorem g_newq {own C : String} {index n : Nat} {cA : ClassId} (t0 : Nat) (hx : p.tables.exec = Jvm.exec) (hb : c.code = cc) (hown : s.vm.findClass own = some m.cls) (hg : ∀ w ∈ gw, w.before args s = true) (w1 : Cond.classLink own index C ∈ gw) (hAO : va_AO C s) (hK : va_K D classes tys s) (ht : tys[t0]? = some (cA, .object C)) (hI : gI D A H0 ws H locs) (hA : ∀ q : Nat, H0.size ≤ q → A q)
    (hn : n < 2 ^ 31) (hbytes : n * 4 ≤ 536870912) (hcs : cells + 1 ≤ R.cells ∧ slots + n ≤ R.slots) (d : decode cc pc = .ok (.anewarray index, 3))
    (kk : ∀ (q : Nat) (H : Heap), gI D A H0 (ws ++ [(q, .inl (cA, n, .inr (.inr (.inr (.inr (fun _ => none))))))]) H locs → W p l e R s m args below meth c H locs (cells + 1) (slots + n) Q (F0 m (pc + 3) ls (.ref q :: rest))) : W p l e R s m args below meth c H locs cells slots Q (F0 m pc ls (.int (nI n) :: rest)) := by
  refine va_newq hx hb hown (hg _ w1) hAO hK hI.1 hI.2.1 hI.2.2 hA (nI_pos hn) (nI_clamp hn) hbytes hcs.1 hcs.2 d (fun q cB H1 hKK h1 h2 h3 => ?_)
  obtain ⟨-, -, -, -, -, e1⟩ := (hK.2 t0 _ ht).2
  obtain ⟨-, -, -, -, -, e2⟩ := (hKK.2 tys.length (cB, .object C) (by rw [List.getElem?_append_right (Nat.le_refl _), Nat.sub_self]; rfl)).2
  cases e1.symm.trans e2
  exact kk q H1 ⟨h1, h2, h3⟩
theorem g_putF {own C : String} {T : u_T} {N ci index a : Nat} {fs : List Value} {v : Value} {ty : FieldType} (hx : p.tables.exec = Jvm.exec) (hb : c.code = cc) (hg : ∀ w ∈ gw, w.before args s = true) (hu : ∀ w ∈ u_ws C T N, w ∈ gw) (ty0 : Nat → FieldType) (hty : ∀ k, k < N → parseFieldDescriptor (T k).2.2.1 = some (ty0 k)) (hnm : ∀ a, a < N → ∀ b, b < N → a ≠ b → (T a).2.1 ≠ (T b).2.1) (hown : s.vm.findClass own = some m.cls) (hK : va_K D classes tys s) (hI : gI D A H0 ws H locs) (q0 : Nat) (he : ws[q0]? = some (a, .inr (ci, fs))) (hc : classes[ci]? = some (C, T, N)) (k : Nat) (hk : k < N) (hl : Cond.fieldLink own index (T k).1 (T k).2.1 (T k).2.2.1 ∈ gw) (hfin : (T k).2.2.2 = true) (hin2 : meth.name = "<init>") (hdecl : (T k).1 = own) (hd : ty0 k = ty) (hn : narrow ty v = v) (hfit : fits ty v = true) (hlen : k < fs.length) (hw : ws.set q0 (a, .inr (ci, fs.set k v)) = ws') (d : decode cc pc = .ok (.putfield index, 3))
    (kk : ∀ (H : Heap) (locs : List Loc), gI D A H0 ws' H locs → W p l e R s m args below meth c H locs cells slots Q (F0 m (pc + 3) ls rest)) : W p l e R s m args below meth c H locs cells slots Q (F0 m pc ls (v :: .ref a :: rest)) := by
  subst hw
  exact va_putF hx hb hg hu ty0 hty hnm hown hK hI.1 hI.2.1 hI.2.2 q0 he hc k hk (hg _ hl) (fun _ h => h) hfin hin2 hdecl (by rw [hty k hk, hd]) hn hfit hlen d (fun H1 l1 h1 h2 h3 => kk H1 l1 ⟨h1, h2, h3⟩)
end GINIT
