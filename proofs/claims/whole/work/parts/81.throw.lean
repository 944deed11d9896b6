/-! ===== throwing ===== -/
/-- words of the tables that hold on, of another kind -/
def okx (w : Cond) : Bool := match w with
  | .castable .. => true
  | .declares .. => true
  | _ => false
def gx : List Cond := lw_tbl.filter okx
theorem gx_move {args a' : Array Value} {s U : State} (h : ∀ w ∈ gx, w.before args s = true) (hW : s.WarmedH U.vm) : ∀ w ∈ gx, w.before a' U = true := by
  intro w hw
  have hb := h w hw
  have ho := (List.mem_filter.mp hw).2
  cases w with
  | castable a b => exact va_tabs rfl (rfl : (s.setVm U.vm).vm = U.vm) (A := args) (by rw [Cond.castable_setVm hW.alike]; exact hb)
  | declares x => exact va_Nw.use rfl (va_Nw.warmD hW (va_Nw.of rfl hb))
  | _ => exact absurd ho (by simp [okx])
theorem gx_hts {args : Array Value} {s : State} (h : ∀ w ∈ lw_tbl, w.before args s = true) : ∀ w ∈ gx, w.before args s = true := fun w hw => h w (List.mem_filter.mp hw).1
/-- where a static field of Throwable lies, and that it holds a reference or null -/
def xL (n d : String) (A : Nat → Prop) (U : State) (H : Heap) : Prop := ∃ (c : ClassId) (k : Class) (i : Nat) (f : Field) (a : Nat) (cell : Cell) (v : Value), U.vm.findClass Bundle.tN = some c ∧ U.fieldFound? Bundle.tN n d = some (c, k, i, f) ∧ f.isStatic = true ∧ k.statics = some a ∧ H[a]? = some cell ∧ cell.vm.isStatics = true ∧ cell.cls = c ∧ f.slot < cell.slots.size ∧ k.staticTypes[f.slot]? = some f.type ∧ cell.slots[f.slot]? = some v ∧ (v = .null ∨ ∃ t, v = .ref t) ∧ ¬ A a
theorem xL.moved {n d : String} {A : Nat → Prop} {u U : State} {H : Heap} (hvm : u.vm.Alike U.vm) (h : xL n d A u H) : xL n d A U H := by
  obtain ⟨c, k, i, f, a, cell, v, h1, h2, h3, h4, h5, h6, h7, h8, h9, h10, h11, h12⟩ := h
  obtain ⟨k', hi', he⟩ := State.fieldFound?_setVm hvm h2
  exact ⟨c, k', i, f, a, cell, v, by rw [hvm.findClass]; exact h1, hi', h3, by rw [he]; exact h4, h5, h6, h7, h8, by rw [he]; exact h9, h10, h11, h12⟩
theorem xL.kept {n d : String} {A B : Nat → Prop} {U : State} {H H1 : Heap} (h : xL n d A U H) (hq : ∀ a : Nat, a < H.size → ¬ A a → H1[a]? = H[a]?) (hAB : ∀ q, B q → A q) : xL n d B U H1 := by
  obtain ⟨c, k, i, f, a, cell, v, h1, h2, h3, h4, h5, h6, h7, h8, h9, h10, h11, h12⟩ := h
  exact ⟨c, k, i, f, a, cell, v, h1, h2, h3, h4, by rw [hq a (Array.getElem?_eq_some_iff.mp h5).1 h12]; exact h5, h6, h7, h8, h9, h10, h11, fun z => h12 (hAB _ z)⟩
theorem xL.word {n d : String} {A : Nat → Prop} {s : State} {args : Array Value} (h : xL n d A s s.heap) : (Cond.laysStatic Bundle.tN n d).before args s = true ∧ (Cond.isRef (.static Bundle.tN n d)).before args s = true := by
  obtain ⟨c, k, i, f, a, cell, v, h1, h2, h3, h4, h5, h6, h7, h8, h9, h10, h11, h12⟩ := h
  constructor
  · show (Cond.laysStatic Bundle.tN n d).holds args s none s [] = true
    exact Cond.laysStatic_of h1 h2 h3 h4 h5 h6 h7 h8 h9
  · have he : (Term.static Bundle.tN n d).eval args s none [] s = some v := by
      simp [Term.eval, State.fieldNamed?, h2, h3, h4, h5, h6, h10]
    simp only [Cond.before, Cond.holds, Cond.value, he]
    rcases h11 with rfl | ⟨t, rfl⟩ <;> simp [Value.isRef]
/-- the static array of the class -/
def xP (A : Nat → Prop) (U : State) : Prop := ∃ t : Nat, va_Z "GroupBitmaps" "PLAIN_STEPS" "[I" (.ref t) A U U.heap ∧ va_T .int t 4 (fun j => .int (nI (pst j))) A U U.heap
/-- of two exceptions the one is no other -/
def xN (U : State) : Prop := ∃ ci ca : ClassId, U.vm.findClass "java/lang/IllegalStateException" = some ci ∧ U.vm.findClass "java/lang/IllegalArgumentException" = some ca ∧ U.vm.assignable ci ca = false
/-- what the class needs beside the good words -/
def xE (A : Nat → Prop) (U : State) : Prop := (∀ w ∈ gx, w.before #[] U = true) ∧ xL "UNASSIGNED_STACK" Bundle.steD A U U.heap ∧ xL "SUPPRESSED_SENTINEL" Bundle.listD A U U.heap ∧ (∀ (k : Nat) (tx : String), Cond.stringRef "GroupBitmaps" k tx ∈ lw_tbl → ∃ sa, vk_R "GroupBitmaps" k tx sa U) ∧ xP A U ∧ xN U
theorem xE.move {A B : Nat → Prop} {s U : State} (h : xE A s) (hW : s.WarmedH U.vm) (hq : ∀ a : Nat, a < s.heap.size → ¬ A a → U.heap[a]? = s.heap[a]?) (hAB : ∀ q, B q → A q) : xE B U := by
  obtain ⟨h1, h2, h3, h4, ⟨t, h5, h6⟩, ⟨ci, ca, h7, h8, h9⟩⟩ := h
  refine ⟨gx_move h1 hW, (h2.moved (U := U) hW.alike).kept hq hAB, (h3.moved (U := U) hW.alike).kept hq hAB, fun k tx hk => ?_, ⟨t, ((h5.moved hW.alike).kept hq).narrow hAB, ((h6.moved hW.alike).kept hq).narrow hAB⟩, ⟨ci, ca, ?_, ?_, ?_⟩⟩
  · obtain ⟨sa, hsa⟩ := h4 k tx hk
    exact ⟨sa, hsa.warm hW⟩
  · rw [hW.alike.findClass]; exact h7
  · rw [hW.alike.findClass]; exact h8
  · rw [hW.alike.assignable]; exact h9
/-- what a method that throws E leaves behind: a new cell, the world as it was -/
def xQ (D : va_G) (ws : va_W) (A : Nat → Prop) (E : String) : Array Value → State → Outcome → State → Prop := fun _ st o t =>
  ∃ (q : Nat) (ce : Cell) (L : List Loc), o = .threw q ∧ t.heap[q]? = some ce ∧ ce.vm = .none ∧ st.vm.findClass E = some ce.cls ∧ st.WarmedH t.vm ∧ st.sameButNew ({ t with vm := st.vm } : State) L 1 6 ∧ (∀ z ∈ L, A z.base) ∧ va_P D classes ws t.heap ∧ va_D A ws ∧ va_F A st t
def xMQ (D : va_G) (below : List Frame) (args : Array Value) (s : State) (A : Nat → Prop) (ws : va_W) (E : String) : State → Prop := fun t => ∃ o, t.status = .running ∧ Ended t below o ∧ xQ D ws A E args s o t
def gThr (l : Launch) (D : va_G) (tys : List (ClassId × FieldType)) (y : MethodName) (b : ByteArray) (n : Nat) (ret : Option FieldType) (rm : Room) (ws : va_W) (as : List Value) (E : String) : Prop :=
  ∀ sz : Nat, MetFree l y (headSpec (.code y b n ret :: gw) rm) (va_Pc as (fun U => U.heap.size = sz ∧ va_P D classes ws U.heap ∧ va_K D classes tys U ∧ va_D (fun _ => True) ws ∧ xE (va_A ws sz) U)) (fun _ _ _ _ _ => True) (xQ D ws (va_A ws sz) E)
theorem gThr_of {l : Launch} {D : va_G} {tys : List (ClassId × FieldType)} {y : MethodName} {b : ByteArray} {n : Nat} {ret : Option FieldType} {rm : Room} {ws : va_W} {as : List Value} {E : String} (hy : plainName y.cls = true) (hn : (lg_sl as).length ≤ n)
    (body : ∀ (p : Program) (e : Env) (s : State) (m : MethodId) (below : List Frame) (meth : Method) (c : Code) (A : Nat → Prop) (ls : Array Slot), gC p s m meth c as.toArray D tys y.cls b n ret → (∀ q : Nat, s.heap.size ≤ q → A q) → (∀ q : Nat, q < s.heap.size → A q → ∀ cell, s.heap[q]? = some cell → cell.vm.isStatics = false) → xE A s → c.exceptionTable.toList = [] → gI D A s.heap ws s.heap [] → lv_has ls n (lv_args 0 as) →
      W p l e rm s m as.toArray below meth c s.heap [] 0 0 (xMQ D below as.toArray s A ws E) (F0 m 0 ls [])) : gThr l D tys y b n ret rm ws as E := by
  intro sz
  refine MetFree.of_bodyS (code := b) (maxLocals := n) (ret := ret) hy ?_ ?_
  · intro args s m h hnm
    obtain ⟨meth, c, h1, h2, h3, h4, h5, h6, -, -⟩ := Cond.code_spec hnm (atoms_spec (ws := .code y b n ret :: gw) h _ List.mem_cons_self)
    exact ⟨meth, c, h1, h2, h3, h4, h5, h6⟩
  · intro p e s m args below meth c s₁ B hml hv _
    obtain ⟨rfl, hsz, hP, hK, hD0, hE⟩ := hv
    subst hsz
    have hh0 : s₁.heap = s.heap := by rw [B.state]; rfl
    have hts := atoms_spec (ws := .code y b n ret :: gw) B.pre
    have hl := lv_entry as (n := n) hn
    have hst : ∀ q : Nat, q < s.heap.size → va_A ws s.heap.size q → ∀ cell, s.heap[q]? = some cell → cell.vm.isStatics = false := by
      intro q hq hA cell hc
      rcases hA with ⟨k, e9, hk⟩ | hA
      · have h9 := hP k _ hk
        cases e9 with
        | inl a =>
          have h9 : s.heap[q]? = some (vp_cell a.1 a.2) := h9
          rw [hc] at h9
          have h9 := Option.some.inj h9
          rw [h9]
          obtain ⟨cA, n9, f | f | f | f | f⟩ := a <;> rfl
        | inr o =>
          obtain ⟨r9, -, cell9, q1, q2, q3, -⟩ := h9
          have q1 : s.heap[q]? = some cell9 := q1
          rw [hc] at q1
          cases q1
          rw [q3]; rfl
      · exact absurd hA (Nat.not_le.mpr hq)
    have hex : c.exceptionTable.toList = [] := by
      obtain ⟨meth', c', h1, h2, -, -, -, -, h7, -⟩ := Cond.code_spec B.named (hts _ List.mem_cons_self)
      cases h1.symm.trans B.method
      have hcc : meth.code = some c := (Stand.of_body B).code
      cases h2.symm.trans hcc
      rw [Array.isEmpty_iff.mp h7]
    have K := body p e s m below meth c (va_A ws s.heap.size) _ ⟨B.exec, B.bytes, B.returns, B.notSynchronized, findClass_of_methodNamed B.named, hml, fun w h => hts w (List.mem_cons_of_mem _ h), hK⟩ (fun q h => Or.inr h) hst hE hex ⟨hP, hD0.self, va_S.rf⟩ hl
    rw [← lg_entry_eq] at K
    obtain ⟨t, a1, o, b1, b2, b3⟩ := K s₁ hh0 (Stand.of_body B)
    exact ⟨t, o, a1, b1, b2, b3⟩
section XROWS
variable {p : Program} {l : Launch} {e : Env} {R : Room} {s : State} {m : MethodId} {args : Array Value} {below : List Frame} {meth : Method} {c : Code} {H : Heap} {locs : List Loc} {cells slots : Nat}
variable {cc : ByteArray} {pc : Nat} {ls : Array Slot} {D : va_G} {A : Nat → Prop} {ws : va_W} {nL : Nat}
/-- the walk, begun anew at the point where it stands -/
theorem xb_stand {T : State} (X : Stand p l e R s m args below meth c T locs 0 0) : Stand p l e R (T.setFrames (.invoking m args :: below)) m args below meth c T [] 0 0 := by
  have hcT : T.cur < T.threads.size := State.cur_lt_of_top X.here.top
  have hmT : T.vm.method? m = some meth := by rw [X.warmed.alike.method?]; exact X.method
  have hfr : (T.setFrames (.invoking m args :: below)).frames = .invoking m args :: below := State.frames_setFrames _ hcT
  have hlim : e.platform.stackLimits (T.setFrames (.invoking m args :: below)).me = e.platform.stackLimits s.me := by rw [State.stackLimits_setFrames]; exact X.limits
  have hby : (T.setFrames (.invoking m args :: below)).me.stackBytes = s.me.stackBytes := by rw [State.stackBytes_setFrames]; exact X.bytes
  refine ⟨X.admits, X.cas, X.clock, hfr, ?_, ?_, hmT, X.code, X.here, X.tail, State.WarmedH.refl _, by rw [State.stackLimits_setFrames], by rw [State.stackBytes_setFrames], ?_⟩
  · have h0 := X.room
    have hu0 := State.localsInUse_invoking X.frames X.method X.code
    have hu1 := State.localsInUse_invoking (s := T.setFrames (.invoking m args :: below)) hfr hmT X.code
    have hz := X.heapSize
    have hs := X.used
    have hb := X.book
    simp only [State.hasRoom, Bool.and_eq_true, decide_eq_true_eq] at h0 ⊢
    rw [hlim, hby, hfr, hu1]
    rw [X.frames, hu0] at h0
    refine ⟨⟨⟨h0.1.1.1, ?_⟩, ?_⟩, hb⟩
    · have := h0.1.1.2
      show T.heap.size + _ ≤ _
      omega
    · have := h0.1.2
      show T.slotsUsed + _ ≤ _
      omega
  · have h := X.hears
    have e1 : ∀ g : MethodId, (T.setFrames (.invoking m args :: below)).code? g = s.code? g := fun g => by
      rw [State.code?_eq, State.code?_eq]
      show (T.vm.method? g).bind _ = _
      rw [X.warmed.alike.method?]
    cases below with
    | nil => simp only [State.hears] at h ⊢; show (T.vm.method? m).any _ = true; rw [X.warmed.alike.method?]; exact h
    | cons b r =>
      cases b <;> simp only [State.hears] at h ⊢ <;> first
        | (rw [e1]; exact h)
        | (show (T.vm.method? m).any _ = true; rw [X.warmed.alike.method?]; exact h)
  · refine ⟨?_, Nat.le_refl _, Nat.le_refl _, ?_, ?_, ?_⟩
    · show T = _
      rw [State.setFrames_setFrames]
      obtain ⟨g₀, hg0⟩ := Option.isSome_iff_exists.mp X.here.top
      obtain ⟨r, hr⟩ := State.topJava?_eq_some.mp hg0
      obtain ⟨t, ht, -⟩ := State.frames_cons hr
      show T = { T.setFrames T.frames with heap := T.heap, slotsUsed := T.slotsUsed }
      rw [State.setFrames_self ht]
    · show T.slotsUsed = T.slotsUsed + ((T.heap.toList.drop T.heap.size).map (·.slots.size)).sum
      rw [List.drop_eq_nil_of_le (by simp)]; simp
    · show ((T.heap.toList.drop T.heap.size).map (·.slots.size)).sum ≤ 0
      rw [List.drop_eq_nil_of_le (by simp)]; simp
    · intro a c hc
      exact ⟨c, hc, rfl, rfl, fun _ _ => rfl⟩
set_option maxHeartbeats 4000000 in
/-- throw new E("text"), out of a method without a table of its own, nothing changed so far -/
theorem g_throw0 {own E tx : String} {names : List String} {ik is ic : Nat} (hx : p.tables.exec = Jvm.exec) (hb : c.code = cc) (hfl : l.flags = flags0) (hml : c.maxLocals = nL) (hown : s.vm.findClass own = some m.cls) (hlk : meth.locks = false) (hg : ∀ w ∈ gw, w.before args s = true) (hE : xE A s) (hex : c.exceptionTable.toList = [])
    (hcls : Bundle.fit E = true) (hnames : ∀ n ∈ names, Bundle.fit n = true) (w1 : Cond.classLink own ik E ∈ gw) (w2 : Cond.initialized E ∈ gw) (w3 : Cond.instantiable E 6 ∈ gw) (w4 : Cond.stringRef "GroupBitmaps" is tx ∈ lw_tbl) (hog : own = "GroupBitmaps")
    (hat : ∀ w ∈ Bundle.ownAtoms own ic E names, w ∈ gw ∨ w ∈ gx ∨ w ∈ [Cond.laysStatic Bundle.tN "UNASSIGNED_STACK" Bundle.steD, .laysStatic Bundle.tN "SUPPRESSED_SENTINEL" Bundle.listD, .isRef (.static Bundle.tN "UNASSIGNED_STACK" Bundle.steD), .isRef (.static Bundle.tN "SUPPRESSED_SENTINEL" Bundle.listD)])
    (hls : ls.size = nL) (hRf : names.length + 3 < R.frames) (hRl : 1 + (13 * (names.length + 1) + 42) ≤ R.locals) (hRc : 1 ≤ R.cells) (hRs : 6 ≤ R.slots)
    (d0 : decode cc pc = .ok (.new ik, 3)) (d3 : decode cc (pc + 3) = .ok (.dup, 1)) (d4 : decode cc (pc + 4) = .ok (.ldc is, 2)) (d6 : decode cc (pc + 6) = .ok (.invokespecial ic, 3)) (d9 : decode cc (pc + 9) = .ok (.athrow, 1)) :
    W p l e R s m args below meth c s.heap [] 0 0 (fun U => U.status = .running ∧ Ended U below (.threw s.heap.size) ∧ s.WarmedH U.vm ∧ s.sameButNew ({ U with vm := s.vm } : State) [] 1 6 ∧ ∃ ce, U.heap[s.heap.size]? = some ce ∧ ce.vm = .none ∧ s.vm.findClass E = some ce.cls) (F0 m pc ls []) := by
  subst hog
  obtain ⟨hE1, hE2, hE3, hE4, -⟩ := hE
  obtain ⟨sa, hsa⟩ := hE4 is tx w4
  obtain ⟨cE, kE, hcE, hkE, -⟩ := Cond.instantiable_spec (hg _ w3)
  refine W.newcK hx hb hown (hg _ w1) (hg _ w3) (hg _ w2) rfl d0 (by omega) (by omega) hcE rfl (fun H1 kC hkC e1 z1 o1 => ?_)
  refine lv_dup hx hb d3 rfl ?_
  refine va_ldcS hx hb hown hsa d4 ?_
  intro T hT X
  have hwd : ∀ w ∈ Bundle.ownAtoms "GroupBitmaps" ic E names, w.before args s = true := by
    intro w hw
    rcases hat w hw with h | h | h
    · exact hg w h
    · exact gx_move (a' := args) hE1 (State.WarmedH.refl s) w h
    · simp only [List.mem_cons, List.not_mem_nil, or_false] at h
      rcases h with rfl | rfl | rfl | rfl
      · exact hE2.word.1
      · exact hE3.word.1
      · exact hE2.word.2
      · exact hE3.word.2
  obtain ⟨U, st, hrun, hend, hW, hsame, ce, hce, hown9⟩ := X.ctorThrowS hx (Launch.traces_off hfl X.admits) hown hcls hnames hwd (fun x hx9 => by cases hx9) (a := s.heap.size) hcE hkC (by rw [hT]; exact e1) (Nat.le_refl _) (msg := .ref sa) rfl (g := F0 m (pc + 6) ls [.ref sa, .ref s.heap.size, .ref s.heap.size]) rfl (hls.trans hml.symm) rfl rfl (rest := []) rfl (by rw [hb]; exact d6) (by rw [hb]; exact d9) (fun x hx9 => by rw [hex] at hx9; cases hx9) hRf (by show 2 * 0 + (1 + 0) + _ ≤ _; omega) hlk
  exact ⟨U, st, hrun, hend, hW, hsame.mono (by omega) (by omega), ce, hce, hown9.vm, hown9.cls⟩
set_option maxHeartbeats 4000000 in
theorem g_throw {own E tx : String} {names : List String} {ik is ic : Nat} (hx : p.tables.exec = Jvm.exec) (hb : c.code = cc) (hfl : l.flags = flags0) (hml : c.maxLocals = nL) (hown : s.vm.findClass own = some m.cls) (hlk : meth.locks = false) (hg : ∀ w ∈ gw, w.before args s = true) (hE : xE A s) (hA : ∀ q : Nat, s.heap.size ≤ q → A q) (hex : c.exceptionTable.toList = []) (hI : gI D A s.heap ws H locs)
    (hcls : Bundle.fit E = true) (hnames : ∀ n ∈ names, Bundle.fit n = true) (w1 : Cond.classLink own ik E ∈ gw) (w2 : Cond.initialized E ∈ gw) (w3 : Cond.instantiable E 6 ∈ gw) (w4 : Cond.stringRef "GroupBitmaps" is tx ∈ lw_tbl) (hog : own = "GroupBitmaps")
    (hat : ∀ w ∈ Bundle.ownAtoms own ic E names, w ∈ gw ∨ w ∈ gx ∨ w ∈ [Cond.laysStatic Bundle.tN "UNASSIGNED_STACK" Bundle.steD, .laysStatic Bundle.tN "SUPPRESSED_SENTINEL" Bundle.listD, .isRef (.static Bundle.tN "UNASSIGNED_STACK" Bundle.steD), .isRef (.static Bundle.tN "SUPPRESSED_SENTINEL" Bundle.listD)])
    (hls : ls.size = nL) (hRf : names.length + 3 < R.frames) (hRl : 1 + (13 * (names.length + 1) + 42) ≤ R.locals) (hRc : 1 ≤ R.cells) (hRs : 6 ≤ R.slots)
    (d0 : decode cc pc = .ok (.new ik, 3)) (d3 : decode cc (pc + 3) = .ok (.dup, 1)) (d4 : decode cc (pc + 4) = .ok (.ldc is, 2)) (d6 : decode cc (pc + 6) = .ok (.invokespecial ic, 3)) (d9 : decode cc (pc + 9) = .ok (.athrow, 1)) :
    W p l e R s m args below meth c H locs 0 0 (xMQ D below args s A ws E) (F0 m pc ls []) := by
  intro T hT X
  subst hT
  have hS := hI.2.2
  have X' := xb_stand X
  have hW1 : s.WarmedH (T.setFrames (.invoking m args :: below)).vm := X.warmed
  have hE' : xE A (T.setFrames (.invoking m args :: below)) := hE.move hW1 hS.2.1 (fun _ h => h)
  obtain ⟨U, st, hrun, hend, hW, hsame, ce, hce, hv, hcl⟩ := g_throw0 (p := p) (l := l) (e := e) (R := R) (s := T.setFrames (.invoking m args :: below)) (m := m) (args := args) (below := below) (meth := meth) (c := c) (A := A) hx hb hfl hml (by show T.vm.findClass own = _; rw [X.warmed.alike.findClass]; exact hown) hlk (gw_move hg hW1) hE' hex hcls hnames w1 w2 w3 w4 hog hat hls hRf hRl hRc hRs d0 d3 d4 d6 d9 T rfl X'
  have hold : ∀ q : Nat, q < T.heap.size → U.heap[q]? = T.heap[q]? := fun q hq => by
    have h9 : (T.setFrames (.invoking m args :: below)).heap[q]? = some T.heap[q] := Array.getElem?_eq_getElem hq
    rw [show U.heap[q]? = some T.heap[q] from hsame.old_cell h9]
    exact (Array.getElem?_eq_getElem hq).symm
  refine ⟨U, st, .threw T.heap.size, hrun, hend, T.heap.size, ce, locs, rfl, hce, hv, ?_, X.warmed.trans hW, ?_, hS.2.2, ?_, hI.2.1, ?_, ?_⟩
  · rw [← X.warmed.alike.findClass]; exact hcl
  · have h2 : (T.setVm s.vm).sameButNew ({ U with vm := s.vm } : State) [] 1 6 := by
      obtain ⟨a1, a2, a3, a4, a5, a6⟩ := hsame.setVm s.vm
      refine ⟨?_, a2, a3, a4, a5, a6⟩
      refine a1.trans ?_
      show ({ ((T.setVm s.vm).setFrames (.invoking m args :: below)).setFrames _ with heap := _, slotsUsed := _ } : State) = _
      rw [State.setFrames_setFrames]
      rfl
    have h3 := X.same.trans h2
    rw [List.append_nil] at h3
    exact h3.mono (by omega) (by omega)
  · exact hI.1.kept (fun k q hk => hold _ (hI.1 k q hk).lt)
  · have := hsame.2.1
    exact Nat.le_trans hS.1 this
  · intro q h1 h2
    rw [hold q (Nat.lt_of_lt_of_le h1 hS.1)]
    exact hS.2.1 q h1 h2
end XROWS
