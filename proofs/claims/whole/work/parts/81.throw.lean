/-! ===== throwing ===== -/
/-- words of the tables that hold on, of another kind -/
def okx (w : Cond) : Bool := match w with
  | .castable .. => true
  | .declares .. => true
  | _ => false
def gx : List Cond := lw_tbl.filter okx
theorem gx_move {args a' : Array Value} {s U : State} (h : ∀ w ∈ gx, w.before args s = true) (hW : s.WarmedH U.vm) : ∀ w ∈ gx, w.before a' U = true := by
  intro w hw
  have hb := h w hw
  have ho := (List.mem_filter.mp hw).2
  cases w with
  | castable a b => exact va_tabs rfl (rfl : (s.setVm U.vm).vm = U.vm) (A := args) (by rw [Cond.castable_setVm hW.alike]; exact hb)
  | declares x => exact va_Nw.use rfl (va_Nw.warmD hW (va_Nw.of rfl hb))
  | _ => exact absurd ho (by simp [okx])
theorem gx_hts {args : Array Value} {s : State} (h : ∀ w ∈ lw_tbl, w.before args s = true) : ∀ w ∈ gx, w.before args s = true := fun w hw => h w (List.mem_filter.mp hw).1
/-- where a static field of Throwable lies, and that it holds a reference or null -/
def xL (n d : String) (A : Nat → Prop) (U : State) (H : Heap) : Prop := ∃ (c : ClassId) (k : Class) (i : Nat) (f : Field) (a : Nat) (cell : Cell) (v : Value), U.vm.findClass Bundle.tN = some c ∧ U.fieldFound? Bundle.tN n d = some (c, k, i, f) ∧ f.isStatic = true ∧ k.statics = some a ∧ H[a]? = some cell ∧ cell.vm.isStatics = true ∧ cell.cls = c ∧ f.slot < cell.slots.size ∧ k.staticTypes[f.slot]? = some f.type ∧ cell.slots[f.slot]? = some v ∧ (v = .null ∨ ∃ t, v = .ref t) ∧ ¬ A a
theorem xL.moved {n d : String} {A : Nat → Prop} {u U : State} {H : Heap} (hvm : u.vm.Alike U.vm) (h : xL n d A u H) : xL n d A U H := by
  obtain ⟨c, k, i, f, a, cell, v, h1, h2, h3, h4, h5, h6, h7, h8, h9, h10, h11, h12⟩ := h
  obtain ⟨k', hi', he⟩ := State.fieldFound?_setVm hvm h2
  exact ⟨c, k', i, f, a, cell, v, by rw [hvm.findClass]; exact h1, hi', h3, by rw [he]; exact h4, h5, h6, h7, h8, by rw [he]; exact h9, h10, h11, h12⟩
theorem xL.kept {n d : String} {A B : Nat → Prop} {U : State} {H H1 : Heap} (h : xL n d A U H) (hq : ∀ a : Nat, a < H.size → ¬ A a → H1[a]? = H[a]?) (hAB : ∀ q, B q → A q) : xL n d B U H1 := by
  obtain ⟨c, k, i, f, a, cell, v, h1, h2, h3, h4, h5, h6, h7, h8, h9, h10, h11, h12⟩ := h
  exact ⟨c, k, i, f, a, cell, v, h1, h2, h3, h4, by rw [hq a (Array.getElem?_eq_some_iff.mp h5).1 h12]; exact h5, h6, h7, h8, h9, h10, h11, fun z => h12 (hAB _ z)⟩
theorem xL.word {n d : String} {A : Nat → Prop} {s : State} {args : Array Value} (h : xL n d A s s.heap) : (Cond.laysStatic Bundle.tN n d).before args s = true ∧ (Cond.isRef (.static Bundle.tN n d)).before args s = true := by
  obtain ⟨c, k, i, f, a, cell, v, h1, h2, h3, h4, h5, h6, h7, h8, h9, h10, h11, h12⟩ := h
  constructor
  · show (Cond.laysStatic Bundle.tN n d).holds args s none s [] = true
    exact Cond.laysStatic_of h1 h2 h3 h4 h5 h6 h7 h8 h9
  · have he : (Term.static Bundle.tN n d).eval args s none [] s = some v := by
      simp [Term.eval, State.fieldNamed?, h2, h3, h4, h5, h6, h10]
    simp only [Cond.before, Cond.holds, Cond.value, he]
    rcases h11 with rfl | ⟨t, rfl⟩ <;> simp [Value.isRef]
/-- what a throw of the class needs beside the good words -/
def xE (A : Nat → Prop) (U : State) : Prop := (∀ w ∈ gx, w.before #[] U = true) ∧ xL "UNASSIGNED_STACK" Bundle.steD A U U.heap ∧ xL "SUPPRESSED_SENTINEL" Bundle.listD A U U.heap ∧ ∀ (k : Nat) (tx : String), Cond.stringRef "GroupBitmaps" k tx ∈ lw_tbl → ∃ sa, vk_R "GroupBitmaps" k tx sa U
/-- what a method that throws E leaves behind: a new cell, the world as it was -/
def xQ (D : va_G) (ws : va_W) (A : Nat → Prop) (E : String) : Array Value → State → Outcome → State → Prop := fun _ st o t =>
  ∃ (q : Nat) (ce : Cell) (L : List Loc), o = .threw q ∧ t.heap[q]? = some ce ∧ ce.vm = .none ∧ st.vm.findClass E = some ce.cls ∧ st.WarmedH t.vm ∧ st.sameButNew ({ t with vm := st.vm } : State) L 1 6 ∧ (∀ z ∈ L, A z.base) ∧ va_P D classes ws t.heap ∧ va_D A ws ∧ va_F A st t
def xMQ (D : va_G) (below : List Frame) (args : Array Value) (s : State) (A : Nat → Prop) (ws : va_W) (E : String) : State → Prop := fun t => ∃ o, t.status = .running ∧ Ended t below o ∧ xQ D ws A E args s o t
def gThr (l : Launch) (D : va_G) (tys : List (ClassId × FieldType)) (y : MethodName) (b : ByteArray) (n : Nat) (ret : Option FieldType) (rm : Room) (ws : va_W) (as : List Value) (E : String) : Prop :=
  ∀ sz : Nat, MetFree l y (headSpec (.code y b n ret :: gw) rm) (va_Pc as (fun U => U.heap.size = sz ∧ va_P D classes ws U.heap ∧ va_K D classes tys U ∧ va_D (fun _ => True) ws ∧ xE (va_A ws sz) U)) (fun _ _ _ _ _ => True) (xQ D ws (va_A ws sz) E)
theorem gThr_of {l : Launch} {D : va_G} {tys : List (ClassId × FieldType)} {y : MethodName} {b : ByteArray} {n : Nat} {ret : Option FieldType} {rm : Room} {ws : va_W} {as : List Value} {E : String} (hy : plainName y.cls = true) (hn : (lg_sl as).length ≤ n)
    (body : ∀ (p : Program) (e : Env) (s : State) (m : MethodId) (below : List Frame) (meth : Method) (c : Code) (A : Nat → Prop) (ls : Array Slot), gC p s m meth c as.toArray D tys y.cls b n ret → (∀ q : Nat, s.heap.size ≤ q → A q) → (∀ q : Nat, q < s.heap.size → A q → ∀ cell, s.heap[q]? = some cell → cell.vm.isStatics = false) → xE A s → c.exceptionTable.toList = [] → gI D A s.heap ws s.heap [] → lv_has ls n (lv_args 0 as) →
      W p l e rm s m as.toArray below meth c s.heap [] 0 0 (xMQ D below as.toArray s A ws E) (F0 m 0 ls [])) : gThr l D tys y b n ret rm ws as E := by
  intro sz
  refine MetFree.of_bodyS (code := b) (maxLocals := n) (ret := ret) hy ?_ ?_
  · intro args s m h hnm
    obtain ⟨meth, c, h1, h2, h3, h4, h5, h6, -, -⟩ := Cond.code_spec hnm (atoms_spec (ws := .code y b n ret :: gw) h _ List.mem_cons_self)
    exact ⟨meth, c, h1, h2, h3, h4, h5, h6⟩
  · intro p e s m args below meth c s₁ B hml hv _
    obtain ⟨rfl, hsz, hP, hK, hD0, hE⟩ := hv
    subst hsz
    have hh0 : s₁.heap = s.heap := by rw [B.state]; rfl
    have hts := atoms_spec (ws := .code y b n ret :: gw) B.pre
    have hl := lv_entry as (n := n) hn
    have hst : ∀ q : Nat, q < s.heap.size → va_A ws s.heap.size q → ∀ cell, s.heap[q]? = some cell → cell.vm.isStatics = false := by
      intro q hq hA cell hc
      rcases hA with ⟨k, e9, hk⟩ | hA
      · have h9 := hP k _ hk
        cases e9 with
        | inl a =>
          have h9 : s.heap[q]? = some (vp_cell a.1 a.2) := h9
          rw [hc] at h9
          have h9 := Option.some.inj h9
          rw [h9]
          obtain ⟨cA, n9, f | f | f | f | f⟩ := a <;> rfl
        | inr o =>
          obtain ⟨r9, -, cell9, q1, q2, q3, -⟩ := h9
          have q1 : s.heap[q]? = some cell9 := q1
          rw [hc] at q1
          cases q1
          rw [q3]; rfl
      · exact absurd hA (Nat.not_le.mpr hq)
    have hex : c.exceptionTable.toList = [] := by
      obtain ⟨meth', c', h1, h2, -, -, -, -, h7, -⟩ := Cond.code_spec B.named (hts _ List.mem_cons_self)
      cases h1.symm.trans B.method
      have hcc : meth.code = some c := (Stand.of_body B).code
      cases h2.symm.trans hcc
      rw [Array.isEmpty_iff.mp h7]
    have K := body p e s m below meth c (va_A ws s.heap.size) _ ⟨B.exec, B.bytes, B.returns, B.notSynchronized, findClass_of_methodNamed B.named, hml, fun w h => hts w (List.mem_cons_of_mem _ h), hK⟩ (fun q h => Or.inr h) hst hE hex ⟨hP, hD0.self, va_S.rf⟩ hl
    rw [← lg_entry_eq] at K
    obtain ⟨t, a1, o, b1, b2, b3⟩ := K s₁ hh0 (Stand.of_body B)
    exact ⟨t, o, a1, b1, b2, b3⟩
section XROWS
variable {p : Program} {l : Launch} {e : Env} {R : Room} {s : State} {m : MethodId} {args : Array Value} {below : List Frame} {meth : Method} {c : Code} {H : Heap} {locs : List Loc} {cells slots : Nat}
variable {cc : ByteArray} {pc : Nat} {ls : Array Slot} {D : va_G} {A : Nat → Prop} {ws : va_W} {nL : Nat}
set_option maxHeartbeats 4000000 in
/-- throw new E("text"), out of a method without a table of its own -/
theorem g_throw {own E tx : String} {names : List String} {ik is ic : Nat} (hx : p.tables.exec = Jvm.exec) (hb : c.code = cc) (hfl : l.flags = flags0) (hml : c.maxLocals = nL) (hown : s.vm.findClass own = some m.cls) (hlk : meth.locks = false) (hg : ∀ w ∈ gw, w.before args s = true) (hE : xE A s) (hA : ∀ q : Nat, s.heap.size ≤ q → A q) (hst : ∀ q : Nat, q < s.heap.size → A q → ∀ cell, s.heap[q]? = some cell → cell.vm.isStatics = false) (hex : c.exceptionTable.toList = []) (hI : gI D A s.heap ws H locs)
    (hcls : Bundle.fit E = true) (hnames : ∀ n ∈ names, Bundle.fit n = true) (w1 : Cond.classLink own ik E ∈ gw) (w2 : Cond.initialized E ∈ gw) (w3 : Cond.instantiable E 6 ∈ gw) (w4 : Cond.stringRef "GroupBitmaps" is tx ∈ lw_tbl) (hog : own = "GroupBitmaps")
    (hat : ∀ w ∈ Bundle.ownAtoms own ic E names, w ∈ gw ∨ w ∈ gx ∨ w ∈ [Cond.laysStatic Bundle.tN "UNASSIGNED_STACK" Bundle.steD, .laysStatic Bundle.tN "SUPPRESSED_SENTINEL" Bundle.listD, .isRef (.static Bundle.tN "UNASSIGNED_STACK" Bundle.steD), .isRef (.static Bundle.tN "SUPPRESSED_SENTINEL" Bundle.listD)])
    (hls : ls.size = nL) (hRf : names.length + 3 < R.frames) (hRl : 1 + (13 * (names.length + 1) + 42) ≤ R.locals) (hRc : 1 ≤ R.cells) (hRs : 6 ≤ R.slots)
    (d0 : decode cc pc = .ok (.new ik, 3)) (d3 : decode cc (pc + 3) = .ok (.dup, 1)) (d4 : decode cc (pc + 4) = .ok (.ldc is, 2)) (d6 : decode cc (pc + 6) = .ok (.invokespecial ic, 3)) (d9 : decode cc (pc + 9) = .ok (.athrow, 1)) :
    W p l e R s m args below meth c H locs 0 0 (xMQ D below args s A ws E) (F0 m pc ls []) := by
  subst hog
  obtain ⟨hE1, hE2, hE3, hE4⟩ := hE
  obtain ⟨sa, hsa⟩ := hE4 is tx w4
  obtain ⟨cE, kE, hcE, hkE, -⟩ := Cond.instantiable_spec (hg _ w3)
  refine W.newcK hx hb hown (hg _ w1) (hg _ w3) (hg _ w2) rfl d0 (by omega) (by omega) hcE rfl (fun H1 kC hkC e1 z1 o1 => ?_)
  refine lv_dup hx hb d3 rfl ?_
  refine va_ldcS hx hb hown hsa d4 ?_
  intro T hT X
  have hS := hI.2.2
  have hwd : ∀ w ∈ Bundle.ownAtoms "GroupBitmaps" ic E names, w.before args s = true := by
    intro w hw
    rcases hat w hw with h | h | h
    · exact hg w h
    · exact gx_move (a' := args) hE1 (State.WarmedH.refl s) w h
    · simp only [List.mem_cons, List.not_mem_nil, or_false] at h
      rcases h with rfl | rfl | rfl | rfl
      · exact hE2.word.1
      · exact hE3.word.1
      · exact hE2.word.2
      · exact hE3.word.2
  have hlocs : ∀ x ∈ locs, ∀ cell, s.heap[x.base]? = some cell → cell.vm.isStatics = false := fun x hx9 cell hc => hst _ (Array.getElem?_eq_some_iff.mp hc).1 (hS.2.2 x hx9) cell hc
  obtain ⟨U, st, hrun, hend, hW, hsame, ce, hce, hown9⟩ := X.ctorThrowS hx (Launch.traces_off hfl X.admits) hown hcls hnames hwd hlocs (a := H.size) hcE hkC (by rw [hT]; exact e1) hS.1 (msg := .ref sa) rfl (g := F0 m (pc + 6) ls [.ref sa, .ref H.size, .ref H.size]) rfl (hls.trans hml.symm) rfl rfl (rest := []) rfl (by rw [hb]; exact d6) (by rw [hb]; exact d9) (fun x hx9 => by rw [hex] at hx9; cases hx9) hRf (by show 2 * 0 + (1 + 0) + _ ≤ _; omega) hlk
  have hold : ∀ q : Nat, q < H.size → U.heap[q]? = H[q]? := by
    sorry
  sorry
end XROWS
