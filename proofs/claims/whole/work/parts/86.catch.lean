/-! ===== a throw that is caught by name, the class's entry perhaps not yet looked up ===== -/
section XCATCH
variable {Q : Handler → Pre} {E : CtlPost} {e : Env} {d : Bool} {acts : List Action} {s : State} {f : JFrame} {a : Addr}
theorem xf_link {x : ExceptionTableEntry} {t : List ExceptionTableEntry} {c : ClassId} {cell : Cell} (hx : covers x f.pc = true) (h0 : x.catchType ≠ 0)
    (hl : s.vm.ClassLinks e.platform f.method.cls x.catchType c) (hcell : s.heap[a]? = some cell) (hobj : ∀ k, cell.vm ≠ .statics k) (hk : ∃ k, s.vm.classes[cell.cls]? = some k) (hc : ∃ k, s.vm.classes[c]? = some k) :
    wp (findHandler.go f a (x :: t)) Q E e d acts s ↔ if s.vm.assignable cell.cls c = true then Q (.found x.handlerPc) d acts (s.setVm (s.vm.noted f.method.cls x.catchType (.cls c))) else wp (findHandler.go f a t) Q E e d acts (s.setVm (s.vm.noted f.method.cls x.catchType (.cls c))) := by
  simp only [covers] at hx
  obtain ⟨ha, ht⟩ := (resolveClass_links e.toSetting hl).op (op := VmOp.resolveClass f.method.cls x.catchType) rfl
  have hal : s.vm.Alike (s.vm.noted f.method.cls x.catchType (.cls c)) := (Vm.Alike.refl s.vm).noted _ _ _
  obtain ⟨k1, hk1⟩ := hk
  obtain ⟨k2, hk2⟩ := hc
  obtain ⟨k1', hk1', -⟩ := hal.2.2 _ _ hk1
  obtain ⟨k2', hk2', -⟩ := hal.2.2 _ _ hk2
  have has : (s.vm.noted f.method.cls x.catchType (.cls c)).assignable cell.cls c = s.vm.assignable cell.cls c := by rw [hal.assignable]
  cases hfit : s.vm.assignable cell.cls c <;> rw [hfit] at has <;> simp [findHandler.go, hx, h0, ha, ht, hcell, hobj, hk1', hk2', has, VmOp.dirties, VmOp.acts]
end XCATCH
/-- the search ends at pc, with these tables -/
def xFinds (e : Env) (s : State) (f : JFrame) (a : Addr) (pc : Nat) (vm' : Vm) : Prop :=
  ∀ (Q : Handler → Pre) (E : CtlPost) (d : Bool) (acts : List Action), wp (findHandler f a) Q E e d acts s ↔ Q (.found pc) d acts (s.setVm vm')
theorem xf_step {e : Env} {s : State} {a : Addr} {f : JFrame} {r : List Frame} {pc : Nat} {vm' : Vm} (hfind : xFinds e s f a pc vm') :
    (stepThrowing e s a (.java f :: r)).Is ((s.setVm vm').setFrames (.java { f with pc := pc, stack := [.ref a] } :: r)) [] := by
  simp only [stepThrowing, searchFrame, vmDo]
  generalize hr : Sem.go _ e false [] s = res
  obtain ⟨as, rfl, ha⟩ := Sem.eq_ok_of hr (a := Handler.found pc) (s' := s.setVm vm') (acts' := []) (by simp [hfind _ _ _ _])
  exact ⟨rfl, ha⟩
theorem xf_caught {tb : Tables} {e : Env} {s target : State} {g : JFrame} {c : Code} {below : List Frame} {a : Addr} {pc : Nat} {vm' : Vm} (h : At s g.method c below) (hfind : xFinds e ((s.setTop g).pushFrame (.throwing a)) g a pc vm')
    (hrest : Steps tb e below ((s.setVm vm').setTop { g with pc := pc, stack := [.ref a] }) target) : Steps tb e below ((s.setTop g).pushFrame (.throwing a)) target := by
  obtain ⟨hgo, hw⟩ := h.throwing a
  refine Steps.head hgo hw ?_
  rw [stepThread_throwing (frames_entered h.top _), (xf_step (s := (s.setTop g).pushFrame (.throwing a)) hfind).1]
  obtain ⟨g₀, hg⟩ := Option.isSome_iff_exists.mp h.top
  obtain ⟨r, hr⟩ := State.topJava?_eq_some.mp hg
  have hr' : (s.setVm vm').frames = .java g₀ :: r := hr
  rw [State.setTop_of_frames _ hr'] at hrest
  have e1 : (((s.setTop g).pushFrame (.throwing a)).setVm vm').setFrames (.java { g with pc := pc, stack := [.ref a] } :: s.frames.tail) = (s.setVm vm').setFrames (.java { g with pc := pc, stack := [.ref a] } :: r) := by
    rw [hr, State.pushFrame, State.setTop_of_frames _ hr, State.setFrames_setFrames]
    show ((s.setVm vm').setFrames _).setFrames _ = _
    rw [State.setFrames_setFrames]
    rfl
  rw [e1]
  exact hrest
/-- the search in a table of one or two rows that all cover the place -/
theorem xf_finds {e : Env} {s0 S : State} {f : JFrame} {a : Addr} {meth : Method} {code : Code} {cell : Cell} (hm : S.vm.method? f.method = some meth) (hc : meth.code = some code) (hW : s0.WarmedH S.vm) (hcell : S.heap[a]? = some cell) (hobj : ∀ k, cell.vm ≠ .statics k) (hk0 : ∃ k, s0.vm.classes[cell.cls]? = some k) :
    ∀ (pre : List ExceptionTableEntry) (x : ExceptionTableEntry) (rest : List ExceptionTableEntry), code.exceptionTable.toList = pre ++ x :: rest → (∀ y ∈ pre, covers y f.pc = true ∧ y.catchType ≠ 0 ∧ ∃ c, s0.vm.ClassLinks e.platform f.method.cls y.catchType c ∧ s0.vm.assignable cell.cls c = false) →
    covers x f.pc = true → x.catchType ≠ 0 → (∃ c, s0.vm.ClassLinks e.platform f.method.cls x.catchType c ∧ s0.vm.assignable cell.cls c = true) → ∃ vm', s0.WarmedH vm' ∧ xFinds e S f a x.handlerPc vm' := by
  intro pre x rest hsp hpre hx h0 hend
  obtain ⟨k0, hk0⟩ := hk0
  suffices h : ∀ (pre : List ExceptionTableEntry) (S : State), s0.WarmedH S.vm → S.heap[a]? = some cell → (∀ y ∈ pre, covers y f.pc = true ∧ y.catchType ≠ 0 ∧ ∃ c, s0.vm.ClassLinks e.platform f.method.cls y.catchType c ∧ s0.vm.assignable cell.cls c = false) →
      ∃ vm', s0.WarmedH vm' ∧ ∀ (Q : Handler → Pre) (E : CtlPost) (d : Bool) (acts : List Action), wp (findHandler.go f a (pre ++ x :: rest)) Q E e d acts S ↔ Q (.found x.handlerPc) d acts (S.setVm vm') by
    obtain ⟨vm', h1, h2⟩ := h pre S hW hcell hpre
    exact ⟨vm', h1, fun Q E d acts => by rw [W.findHandler_eq hm hc, hsp]; exact h2 Q E d acts⟩
  intro pre
  induction pre with
  | nil =>
    intro S hW hcell _
    obtain ⟨c, hl, hfit⟩ := hend
    obtain ⟨k0', hk0', -⟩ := hW.alike.2.2 _ _ hk0
    obtain ⟨dk, _, _, kt, hd, _, _, _, _, hkt, _, hopen⟩ := hl.here
    obtain ⟨kt', hkt', -⟩ := hW.alike.2.2 _ _ hkt
    refine ⟨_, hW.noted hd hopen (State.rightAt_cls hl), fun Q E d acts => ?_⟩
    rw [List.nil_append, xf_link hx h0 (hW.classLinks hl) hcell hobj ⟨k0', hk0'⟩ ⟨kt', hkt'⟩, if_pos (by rw [hW.alike.assignable]; exact hfit)]
  | cons y ys ih =>
    intro S hW hcell hpass
    obtain ⟨hy1, hy0, c, hl, hno⟩ := hpass y List.mem_cons_self
    obtain ⟨k0', hk0', -⟩ := hW.alike.2.2 _ _ hk0
    obtain ⟨dk, _, _, kt, hd, _, _, _, _, hkt, _, hopen⟩ := hl.here
    obtain ⟨kt', hkt', -⟩ := hW.alike.2.2 _ _ hkt
    obtain ⟨vm', h1, h2⟩ := ih (S.setVm (S.vm.noted f.method.cls y.catchType (.cls c))) (hW.noted hd hopen (State.rightAt_cls hl)) hcell (fun z hz => hpass z (List.mem_cons_of_mem _ hz))
    refine ⟨vm', h1, fun Q E d acts => ?_⟩
    rw [List.cons_append, xf_link hy1 hy0 (hW.classLinks hl) hcell hobj ⟨k0', hk0'⟩ ⟨kt', hkt'⟩, if_neg (by rw [hW.alike.assignable, hno]; decide)]
    exact h2 Q E d acts
/-! ===== the call of a method that throws, from a method that catches ===== -/
def xTab (c : Code) (hh : List (Nat × Nat × Nat × Nat)) : Prop := c.exceptionTable.toList.map (fun h => (h.startPc, h.endPc, h.handlerPc, h.catchType)) = hh
section XCALL
variable {p : Program} {l : Launch} {e : Env} {R : Room} {s : State} {m : MethodId} {args : Array Value} {below : List Frame} {meth : Method} {c : Code} {H : Heap} {locs : List Loc} {Q : State → Prop}
variable {cc : ByteArray} {pc : Nat} {ls : Array Slot} {rest : List Value} {D : va_G} {A : Nat → Prop} {tys : List (ClassId × FieldType)} {ws : va_W}
theorem x_blind {as : List Value} {sz : Nat} : FrameBlind (va_Pc as (fun U => U.heap.size = sz ∧ va_P D classes ws U.heap ∧ va_K D classes tys U ∧ va_D (fun _ => True) ws ∧ xE (va_A ws sz) U)) := gE_blind
set_option maxHeartbeats 2000000 in
theorem g_callT {own C E : String} {T : u_T} {N idx n k a q0 ci nL ec hp : Nat} {fs : List Value} {y : MethodName} {b : ByteArray} {ret : Option FieldType} {rm : Room} {As : List Value} {pre post : List (Nat × Nat × Nat × Nat)} {st9 en9 : Nat} (hM : gThr l D tys y b n ret rm ws (.ref a :: As) E) (hE : xE A s)
    (hx : p.tables.exec = Jvm.exec) (hb : c.code = cc) (hml : c.maxLocals = nL) (hown : s.vm.findClass own = some m.cls) (hg : ∀ w ∈ gw, w.before args s = true) (hK : va_K D classes tys s) (hI : gI D A s.heap ws H locs) (hA : ∀ q : Nat, s.heap.size ≤ q → A q)
    (w1 : Cond.methodLink own idx y ∈ gw) (w2 : Cond.instanceMethod y ∈ gw) (w3 : Cond.selects C y y ∈ gw) (w4 : Cond.initialized y.cls ∈ gw) (w5 : Cond.code y b n ret ∈ gw)
    (hd : y.cls ≠ "java/lang/invoke/MethodHandle" ∧ y.cls ≠ "java/lang/invoke/VarHandle" ∧ (parseMethodDescriptor y.desc).map (fun d => d.parameters.length) = some k) (hR : rm.frames + 1 ≤ R.frames ∧ 8 + (n + 11) + rm.locals ≤ R.locals) (hrc : rm.cells = 1) (hrs : rm.slots = 6) (hcs : 1 ≤ R.cells ∧ 6 ≤ R.slots)
    (he : ws[q0]? = some (a, .inr (ci, fs))) (hc : classes[ci]? = some (C, T, N)) (hn : As.length = k) (hls : ls.size = nL) (hst : (rest.map fun v => v.category).sum ≤ 8) (d : decode cc pc = .ok (.invokevirtual idx, 3))
    (htab : xTab c (pre ++ (st9, en9, hp, ec) :: post)) (hcov : st9 ≤ pc ∧ pc < en9) (hec : ec ≠ 0) (wE : Cond.classLink own ec E ∈ gw) (wS : Cond.castable E E ∈ gx)
    (hpre : ∀ z ∈ pre, z.1 ≤ pc ∧ pc < z.2.1 ∧ z.2.2.2 ≠ 0 ∧ ∃ E2, Cond.classLink own z.2.2.2 E2 ∈ gw ∧ ∃ c1 c2, s.vm.findClass E = some c1 ∧ s.vm.findClass E2 = some c2 ∧ s.vm.assignable c1 c2 = false)
    {st0 : List Value} (hst0 : st0 = As.reverse ++ .ref a :: rest)
    (kk : ∀ (H : Heap) (locs : List Loc) (q : Nat), gI D A s.heap ws H locs → W p l e R s m args below meth c H locs 1 6 Q (F0 m hp ls [.ref q])) : W p l e R s m args below meth c H locs 0 0 Q (F0 m pc ls st0) := by
  subst hst0
  intro T9 hT X
  have hF := g_free hI hA
  have hS := hI.2.2
  have hpl : e.platform.magicAccessors = ({} : Platform).magicAccessors := by rw [X.admits.platform]
  -- the call
  obtain ⟨mk, methM, hnamed, hmethM, hstM, habM⟩ := Cond.instanceMethod_spec (hg _ w2)
  obtain ⟨methM', cM, hmethM', hcM, -, hlM, -, -, -, hsigM⟩ := Cond.code_spec hnamed (hg _ w5)
  cases hmethM.symm.trans hmethM'
  obtain ⟨c2, r2, m2, q1, q2, q3, q4, kP, hkP, hkPi⟩ := Cond.selects_spec (hg _ w3)
  obtain ⟨cellB, hcellB, hoB, hclsB⟩ := va_recv hK hI.1 hc he
  cases hclsB.symm.trans q1
  cases (State.methodFound?_of_named hnamed ⟨hd.1, hd.2.1⟩).symm.trans q2
  cases hnamed.symm.trans q3
  have hselP : selectMethod e.platform s.vm cellB.cls mk = .method mk := by rw [Launch.admits_selectMethod X.admits]; exact q4
  have hlen : As.length = methM.sig.parameters.length := by
    have h2 := hd.2.2
    rw [hsigM] at h2
    exact hn.trans (Option.some.inj h2).symm
  obtain ⟨vm₁, X₁, hstep₁⟩ := X.invokevirtual hx hown (hg _ w1) hnamed hmethM hstM hkP hkPi ⟨hd.1, hd.2.1⟩ (a := a) (cell := cellB) (by rw [hT]; exact hcellB)
    (fun z h => by rw [h] at hoB; cases hoB) hselP hmethM habM hkP hkPi (g := F0 m pc ls (As.reverse ++ .ref a :: rest)) rfl (argsL := As) (rest := rest) hlen rfl (by rw [hb]; exact d)
  -- the callee's run
  have hU : (T9.setVm vm₁).heap = H := hT
  generalize hUU : T9.setVm vm₁ = U at hU X₁ hstep₁
  have hnU := X₁.named hnamed
  have hmU : U.vm.method? mk = some methM := by rw [X₁.warmed.alike.method?]; exact hmethM
  obtain ⟨kY, hkY, -⟩ := className_of_methodNamed hnU
  have hgU : ∀ w ∈ gw, w.before (Value.ref a :: As).toArray U = true := gw_move hg X₁.warmed
  have hinitY : kY.init = .initialized := Cond.initialized_spec (findClass_of_methodNamed hnU) hkY (hgU _ w4)
  have h : At U m c below := X₁.here
  have hdg : decode c.code (F0 m pc ls rest).pc = .ok (.invokevirtual idx, 3) := by rw [hb]; exact d
  have happ : (headSpec (.code y b n ret :: gw) rm).appliesLoose y e.platform (U.calling (F0 m pc ls rest) mk (Value.ref a :: As).toArray) = true := by
    refine Spec.appliesLoose_calling (g := F0 m pc ls rest) h hdg hnU hkY hinitY (X₁.room_calling (g := F0 m pc ls rest) (R' := rm) (hls.trans hml.symm) hmU hcM hR.1 ?_ (by rw [hrc]; exact hcs.1) (by rw [hrs]; exact hcs.2)) (atoms_intro fun w hw => ?_)
    · rw [hlM]
      have h2 := hR.2
      show 2 * 0 + (rest.map fun v => v.category).sum + (n + 11) + rm.locals ≤ R.locals
      omega
    · rcases List.mem_cons.mp hw with h | h
      · rw [h]; exact hgU _ w5
      · exact hgU _ h
  obtain ⟨mid, hmid⟩ := h.above
  have hfr : (U.setTop (F0 m pc ls rest)).frames = (.java (F0 m pc ls rest) :: mid) ++ below := by rw [State.frames_setTop' _ h.top, hmid]; rfl
  have hPU : va_Pc (.ref a :: As) (fun U => U.heap.size = H.size ∧ va_P D classes ws U.heap ∧ va_K D classes tys U ∧ va_D (fun _ => True) ws ∧ xE (va_A ws H.size) U) (Value.ref a :: As).toArray (U.calling (F0 m pc ls rest) mk (Value.ref a :: As).toArray) :=
    gE_blind _ U _ mk ⟨rfl, by rw [hU], by rw [hU]; exact hI.1, va_K.moved X₁.warmed.alike hK, hI.2.1.weaken (fun _ _ _ _ => trivial), hE.move X₁.warmed (by rw [hU]; exact hS.2.1) hF⟩
  obtain ⟨o, s₂, hsteps, -, hend, hq⟩ := Steps.callFree (hM H.size) p X.admits X.cas X.clock (acts := []) hfr happ hPU trivial
  have hq' : xQ D ws (va_A ws H.size) E (Value.ref a :: As).toArray (U.calling (F0 m pc ls rest) mk (Value.ref a :: As).toArray) o s₂ := hq
  rw [State.frames_setTop' _ h.top] at hend
  obtain ⟨q, ce, L, rfl, hce, hcv, hcE, hW2, ⟨e2, p2, p3, p4, p5, p6⟩, hL, hP', hD', hFz, hFk⟩ := hq'
  have e3 : s₂ = ({ (U.calling (F0 m pc ls rest) mk (Value.ref a :: As).toArray).setFrames s₂.frames with heap := s₂.heap, slotsUsed := s₂.slotsUsed } : State).setVm s₂.vm := by
    have : s₂ = ({ s₂ with vm := (U.calling (F0 m pc ls rest) mk (Value.ref a :: As).toArray).vm } : State).setVm s₂.vm := rfl
    rw [e2] at this
    exact this
  have hf₂ : s₂.frames = .throwing q :: .java (F0 m pc ls rest) :: U.frames.tail := hend
  have hW' : U.WarmedH s₂.vm := hW2
  obtain ⟨g₀, hg0⟩ := Option.isSome_iff_exists.mp h.top
  obtain ⟨r, hr⟩ := State.topJava?_eq_some.mp hg0
  have hs₂ : s₂ = ((({ U with heap := s₂.heap, slotsUsed := s₂.slotsUsed } : State).setVm s₂.vm).setTop (F0 m pc ls rest)).pushFrame (.throwing q) := by
    have hr' : (({ U with heap := s₂.heap, slotsUsed := s₂.slotsUsed } : State).setVm s₂.vm).frames = .java g₀ :: r := hr
    refine e3.trans ?_
    rw [hf₂, State.calling_eq h.top, State.setFrames_setFrames, State.pushFrame, State.frames_setTop _ hr', State.setTop_of_frames _ hr', State.setFrames_setFrames, hr]
    rfl
  have hsame : U.sameButNew ({ U with heap := s₂.heap, slotsUsed := s₂.slotsUsed } : State) L 1 6 := by
    refine ⟨?_, p2, p3, p4, p5, p6⟩
    obtain ⟨t, ht, -⟩ := State.frames_cons hr
    show ({ U with heap := s₂.heap, slotsUsed := s₂.slotsUsed } : State) = { U.setFrames U.frames with heap := s₂.heap, slotsUsed := s₂.slotsUsed }
    rw [State.setFrames_self ht]
  have X2 : Stand p l e R s m args below meth c (({ U with heap := s₂.heap, slotsUsed := s₂.slotsUsed } : State).setVm s₂.vm) (locs ++ L) 1 6 :=
    ⟨X₁.admits, X₁.cas, X₁.clock, X₁.frames, X₁.room, X₁.hears, X₁.method, X₁.code, (X₁.here.setHeapUsed s₂.heap s₂.slotsUsed).setVm hW'.alike, X₁.tail, State.WarmedH.trans X₁.warmed hW', X₁.limits, X₁.bytes, (X₁.same.trans (hsame.setVm s.vm)).mono (by omega) (by omega)⟩
  generalize hBB : ({ U with heap := s₂.heap, slotsUsed := s₂.slotsUsed } : State).setVm s₂.vm = B at hs₂ X2
  have hBh : B.heap = s₂.heap := by rw [← hBB]; rfl
  -- the handler
  have hcE' : s.vm.findClass E = some ce.cls := by rw [← X₁.warmed.alike.findClass]; exact hcE
  obtain ⟨cS1, cS2, z1, z2, z3⟩ := Cond.castable_spec (gx_move (a' := args) hE.1 (State.WarmedH.refl s) _ wS)
  cases hcE'.symm.trans z1
  cases hcE'.symm.trans z2
  obtain ⟨cL, hcL, hlk⟩ := Cond.classLink_spec hown (hg _ wE) e.platform hpl
  cases hcE'.symm.trans hcL
  have hk0 : ∃ k, s.vm.classes[ce.cls]? = some k := Vm.classAt_of_findClass hcE'
  obtain ⟨l1, l2, hl12, hl1, hl2⟩ := List.map_eq_append_iff.mp htab
  obtain ⟨x, l3, hl3, hx9, -⟩ := List.map_eq_cons_iff.mp hl2
  have ex1 : x.startPc = st9 := congrArg (fun z => z.1) hx9
  have ex2 : x.endPc = en9 := congrArg (fun z => z.2.1) hx9
  have ex3 : x.handlerPc = hp := congrArg (fun z => z.2.2.1) hx9
  have ex4 : x.catchType = ec := congrArg (fun z => z.2.2.2) hx9
  have hobj : ∀ k, ce.vm ≠ .statics k := fun k hk => by rw [hcv] at hk; cases hk
  obtain ⟨vm', hWv, hfind⟩ := xf_finds (e := e) (s0 := s) (S := (B.setTop (F0 m pc ls rest)).pushFrame (.throwing q)) (f := F0 m pc ls rest) (a := q) (meth := meth) (code := c) (cell := ce) (by rw [Stand.throwing_vm]; exact X2.method') X2.code (by rw [Stand.throwing_vm]; exact X2.warmed) (by rw [Stand.throwing_heap, hBh]; exact hce) hobj hk0 l1 x l3 (by rw [hl12, hl3]) (fun z hz => by
      have hz2 : (z.startPc, z.endPc, z.handlerPc, z.catchType) ∈ pre := by rw [← hl1]; exact List.mem_map_of_mem hz
      obtain ⟨b1, b2, b3, E2, b4, c1, c2, b5, b6, b7⟩ := hpre _ hz2
      obtain ⟨cL2, hcL2, hlk2⟩ := Cond.classLink_spec hown (hg _ b4) e.platform hpl
      cases hcE'.symm.trans b5
      cases hcL2.symm.trans b6
      exact ⟨by simp only [covers, Bool.and_eq_true, decide_eq_true_eq]; exact ⟨b1, b2⟩, b3, _, hlk2, b7⟩)
    (by simp only [covers, Bool.and_eq_true, decide_eq_true_eq]; rw [ex1, ex2]; exact hcov) (by rw [ex4]; exact hec) ⟨_, by rw [ex4]; exact hlk, z3⟩
  have X3 := X2.noted hWv
  obtain ⟨t, st, hQ⟩ := kk s₂.heap (locs ++ L) q ⟨hP', hD'.weaken (fun _ _ _ h => hF _ h), Nat.le_trans hS.1 (by rw [← hU]; exact hFz), fun z h1 h2 => by
      have := hFk z (by show z < U.heap.size; rw [hU]; exact Nat.lt_of_lt_of_le h1 hS.1) (fun y => h2 (hF z y))
      rw [this]
      show U.heap[z]? = _
      rw [hU]
      exact hS.2.1 z h1 h2, fun z hz => by
      rcases List.mem_append.mp hz with h | h
      · exact hS.2.2 z h
      · exact hF _ (hL z h)⟩ (B.setVm vm') hBh X3
  refine ⟨t, hstep₁ t (fun acts => ?_), hQ⟩
  rw [doInvoke_state]
  refine hsteps.trans ?_
  rw [hs₂]
  exact xf_caught (g := F0 m pc ls rest) X2.here hfind (by rw [ex3]; exact st)
end XCALL
