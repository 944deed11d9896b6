/-! ===== a larger world; methods with a table ===== -/
def gG (l : Launch) (D : va_G) (tys : List (ClassId × FieldType)) (hd : Cond) (y : MethodName) (rm : Room) (mc ms : Nat) (ws : va_W) (as : List Value) (ws' : va_W) (o : Option Value) : Prop :=
  ∀ sz : Nat, Met l y (hd :: gw) rm (va_Pc as (fun U => U.heap.size = sz ∧ va_P D classes ws U.heap ∧ va_K D classes tys U ∧ va_D (fun _ => True) ws ∧ xE (va_A ws sz) U))
    (fun _ st oc t => (oc = .returned o ∧ va_P D classes ws' t.heap ∧ va_D (va_A ws sz) ws') ∧ va_F (va_A ws sz) st t) mc ms (va_A ws sz)
theorem gMetE.G {l : Launch} {D : va_G} {tys : List (ClassId × FieldType)} {y : MethodName} {b : ByteArray} {n : Nat} {ret : Option FieldType} {rm : Room} {ws : va_W} {as : List Value} {ws' : va_W} {o : Option Value} (h : gMetE l D tys y b n ret rm ws as ws' o) : gG l D tys (.code y b n ret) y rm 0 0 ws as ws' o := h
theorem fr_cases {ws wr : va_W} {k : Nat} {q : Nat × va_E} (h : (ws ++ wr)[k]? = some q) : (k < ws.length ∧ ws[k]? = some q) ∨ (ws.length ≤ k ∧ wr[k - ws.length]? = some q) := by
  rw [List.getElem?_append] at h
  split at h
  · exact Or.inl ⟨by assumption, h⟩
  · exact Or.inr ⟨by omega, h⟩
theorem fr_l {ws wr : va_W} {k : Nat} {q : Nat × va_E} (h : ws[k]? = some q) : (ws ++ wr)[k]? = some q := by
  rw [List.getElem?_append_left (List.getElem?_eq_some_iff.mp h).1]; exact h
theorem fr_r {ws wr : va_W} {k : Nat} {q : Nat × va_E} (h : wr[k]? = some q) : (ws ++ wr)[ws.length + k]? = some q := by
  rw [List.getElem?_append_right (by omega)]
  rw [show ws.length + k - ws.length = k by omega]; exact h
theorem fr_Al {ws wr : va_W} {sz q : Nat} (h : va_A ws sz q) : va_A (ws ++ wr) sz q := by
  rcases h with ⟨k, e, h⟩ | h
  · exact Or.inl ⟨k, e, fr_l h⟩
  · exact Or.inr h
theorem fr_Ar {ws wr : va_W} {sz q : Nat} (h : va_A wr sz q) : va_A (ws ++ wr) sz q := by
  rcases h with ⟨k, e, h⟩ | h
  · exact Or.inl ⟨_, e, fr_r h⟩
  · exact Or.inr h
theorem fr_Ac {ws wr : va_W} {sz q : Nat} (h : va_A (ws ++ wr) sz q) : va_A (wr ++ ws) sz q := by
  rcases h with ⟨k, e, h⟩ | h
  · rcases fr_cases h with ⟨-, h⟩ | ⟨-, h⟩
    · exact fr_Ar (Or.inl ⟨_, e, h⟩)
    · exact fr_Al (Or.inl ⟨_, e, h⟩)
  · exact Or.inr h
theorem fr_Pl {D : va_G} {ws wr : va_W} {H : Heap} (h : va_P D classes (ws ++ wr) H) : va_P D classes ws H := fun k q hk => h k q (fr_l hk)
theorem fr_Pr {D : va_G} {ws wr : va_W} {H : Heap} (h : va_P D classes (ws ++ wr) H) : va_P D classes wr H := fun _ q hk => h _ q (fr_r hk)
theorem fr_Pc {D : va_G} {ws wr : va_W} {H : Heap} (h : va_P D classes (ws ++ wr) H) : va_P D classes (wr ++ ws) H := va_P.app (fr_Pr h) (fr_Pl h)
theorem fr_Dl {A : Nat → Prop} {ws wr : va_W} (h : va_D A (ws ++ wr)) : va_D A ws := ⟨fun i j p q hi hj e => h.1 i j p q (fr_l hi) (fr_l hj) e, fun k q hk => h.2 k q (fr_l hk)⟩
theorem fr_Dr {A : Nat → Prop} {ws wr : va_W} (h : va_D A (ws ++ wr)) : va_D A wr := ⟨fun i j p q hi hj e => by have := h.1 _ _ p q (fr_r hi) (fr_r hj) e; omega, fun k q hk => h.2 _ q (fr_r hk)⟩
theorem fr_Dc {A : Nat → Prop} {ws wr : va_W} (h : va_D A (ws ++ wr)) : va_D A (wr ++ ws) := va_D.swap (a := []) (b := ws) (c := wr) h
theorem fr_Dne {A : Nat → Prop} {ws wr : va_W} (h : va_D A (ws ++ wr)) {i j : Nat} {p q : Nat × va_E} (hi : ws[i]? = some p) (hj : wr[j]? = some q) : p.1 ≠ q.1 := fun e => by
  have := h.1 _ _ p q (fr_l hi) (fr_r hj) e
  have := (List.getElem?_eq_some_iff.mp hi).1
  omega
theorem fr_D {D : va_G} {ws ws' wr : va_W} {H : Heap} (hD : va_D (fun _ => True) (ws ++ wr)) (hP : va_P D classes wr H) (hD' : va_D (va_A ws H.size) ws') : va_D (va_A (ws ++ wr) H.size) (ws' ++ wr) := by
  have ne : ∀ (i j : Nat) (p q : Nat × va_E), ws'[i]? = some p → wr[j]? = some q → p.1 ≠ q.1 := by
    intro i j p q hi hj e
    rcases hD'.2 i p hi with ⟨k, e9, hk⟩ | hk
    · exact fr_Dne hD hk hj e
    · have := (hP j q hj).lt
      omega
  refine ⟨fun i j p q hi hj e => ?_, fun k q hk => ?_⟩
  · rcases fr_cases hi with ⟨h1, hi⟩ | ⟨h1, hi⟩ <;> rcases fr_cases hj with ⟨h2, hj⟩ | ⟨h2, hj⟩
    · exact hD'.1 i j p q hi hj e
    · exact absurd e (ne _ _ p q hi hj)
    · exact absurd e.symm (ne _ _ q p hj hi)
    · have := (fr_Dr hD).1 _ _ p q hi hj e
      omega
  · rcases fr_cases hk with ⟨-, hk⟩ | ⟨-, hk⟩
    · exact fr_Al (hD'.2 k q hk)
    · exact fr_Ar (va_A.in hk)
theorem xE.sub {A B : Nat → Prop} {U : State} (h : xE A U) (hAB : ∀ q, B q → A q) : xE B U := h.move (State.WarmedH.refl U) (fun _ _ _ => rfl) hAB
theorem fr_kept {D : va_G} {ws wr : va_W} {st t : State} (hD : va_D (fun _ => True) (ws ++ wr)) (hP : va_P D classes wr st.heap) (hF : va_F (va_A ws st.heap.size) st t) : va_P D classes wr t.heap := by
  refine hP.kept (fun k q hk => hF.2 _ (hP k q hk).lt (fun z => ?_))
  rcases z with ⟨i, e, hi⟩ | z
  · exact fr_Dne hD hi hk rfl
  · have := (hP k q hk).lt
    omega
theorem gG.frame {l : Launch} {D : va_G} {tys : List (ClassId × FieldType)} {hd : Cond} {y : MethodName} {rm : Room} {mc ms : Nat} {ws : va_W} {as : List Value} {ws' : va_W} {o : Option Value} (h : gG l D tys hd y rm mc ms ws as ws' o) (wr : va_W) : gG l D tys hd y rm mc ms (ws ++ wr) as (ws' ++ wr) o := by
  intro sz p e ha hc hk s m args below hf happ hP hK
  obtain ⟨q1, q2, q3, q4, q5, q6⟩ := hP
  obtain ⟨n, oc, r1, r2, r3, ⟨⟨⟨b1, b2, b3⟩, b4⟩, L, c1, c2⟩⟩ := h sz p e ha hc hk s m args below hf happ ⟨q1, q2, fr_Pl q3, q4, fr_Dl q5, q6.sub (fun _ z => fr_Al z)⟩ hK
  subst q2
  exact ⟨n, oc, r1, r2, r3, ⟨⟨⟨b1, va_P.app b2 (fr_kept q5 (fr_Pr q3) b4), fr_D q5 (fr_Pr q3) b3⟩, b4.1, fun q z1 z2 => b4.2 q z1 (fun z => z2 (fr_Al z))⟩, L, c1, fun q hq => fr_Al (c2 q hq)⟩⟩
theorem gG.comm {l : Launch} {D : va_G} {tys : List (ClassId × FieldType)} {hd : Cond} {y : MethodName} {rm : Room} {mc ms : Nat} {w1 w2 : va_W} {as : List Value} {w3 w4 : va_W} {o : Option Value} (h : gG l D tys hd y rm mc ms (w1 ++ w2) as (w3 ++ w4) o) : gG l D tys hd y rm mc ms (w2 ++ w1) as (w4 ++ w3) o := by
  intro sz p e ha hc hk s m args below hf happ hP hK
  obtain ⟨q1, q2, q3, q4, q5, q6⟩ := hP
  obtain ⟨n, oc, r1, r2, r3, ⟨⟨⟨b1, b2, b3⟩, b4⟩, L, c1, c2⟩⟩ := h sz p e ha hc hk s m args below hf happ ⟨q1, q2, fr_Pc q3, q4, fr_Dc q5, q6.sub (fun _ z => fr_Ac z)⟩ hK
  exact ⟨n, oc, r1, r2, r3, ⟨⟨⟨b1, fr_Pc b2, (fr_Dc b3).weaken (fun _ _ _ z => fr_Ac z)⟩, b4.1, fun q z1 z2 => b4.2 q z1 (fun z => z2 (fr_Ac z))⟩, L, c1, fun q hq => fr_Ac (c2 q hq)⟩⟩
theorem gG.frameL {l : Launch} {D : va_G} {tys : List (ClassId × FieldType)} {hd : Cond} {y : MethodName} {rm : Room} {mc ms : Nat} {ws : va_W} {as : List Value} {ws' : va_W} {o : Option Value} (h : gG l D tys hd y rm mc ms ws as ws' o) (wl : va_W) : gG l D tys hd y rm mc ms (wl ++ ws) as (wl ++ ws') o := (h.frame wl).comm
theorem gThr.frame {l : Launch} {D : va_G} {tys : List (ClassId × FieldType)} {y : MethodName} {b : ByteArray} {n : Nat} {ret : Option FieldType} {rm : Room} {ws : va_W} {as : List Value} {E : String} (h : gThr l D tys y b n ret rm ws as E) (wr : va_W) : gThr l D tys y b n ret rm (ws ++ wr) as E := by
  intro sz p e ha hc hk s m args below hf happ hP hK
  obtain ⟨q1, q2, q3, q4, q5, q6⟩ := hP
  obtain ⟨n, oc, r1, r2, r3, q, ce, L, b1, b2, b3, b4, b5, b6, b7, b8, b9, b10⟩ := h sz p e ha hc hk s m args below hf happ ⟨q1, q2, fr_Pl q3, q4, fr_Dl q5, q6.sub (fun _ z => fr_Al z)⟩ hK
  subst q2
  exact ⟨n, oc, r1, r2, r3, q, ce, L, b1, b2, b3, b4, b5, b6, fun z hz => fr_Al (b7 z hz), va_P.app b8 (fr_kept q5 (fr_Pr q3) b10), fr_D q5 (fr_Pr q3) b9, b10.1, fun q z1 z2 => b10.2 q z1 (fun z => z2 (fr_Al z))⟩
/-- a method with a table: one cell of six slots may be made -/
def gQ1 (D : va_G) (below : List Frame) (args : Array Value) (s : State) (A : Nat → Prop) (ws' : va_W) (o : Option Value) : State → Prop :=
  MQ below (fun _ st oc t => (oc = .returned o ∧ va_P D classes ws' t.heap ∧ va_D A ws') ∧ va_F A st t) args s 1 6 A
theorem gW_of {l : Launch} {D : va_G} {tys : List (ClassId × FieldType)} {y : MethodName} {b : ByteArray} {n : Nat} {ret : Option FieldType} {hh : List (Nat × Nat × Nat × Nat)} {rm : Room} {ws : va_W} {as : List Value} {ws' : va_W} {o : Option Value} (hy : plainName y.cls = true) (hn : (lg_sl as).length ≤ n)
    (body : ∀ (p : Program) (e : Env) (s : State) (m : MethodId) (below : List Frame) (meth : Method) (c : Code) (A : Nat → Prop) (ls : Array Slot), gC p s m meth c as.toArray D tys y.cls b n ret → (∀ q : Nat, s.heap.size ≤ q → A q) → xE A s → xTab c hh → gI D A s.heap ws s.heap [] → lv_has ls n (lv_args 0 as) →
      W p l e rm s m as.toArray below meth c s.heap [] 0 0 (gQ1 D below as.toArray s A ws' o) (F0 m 0 ls [])) : gG l D tys (.codeWith y b n ret hh) y rm 1 6 ws as ws' o := by
  intro sz
  refine va_MetW (cc := b) (maxL := n) (ret := ret) (hh := hh) hy rfl ?_
  intro p e s m args below meth c s₁ B hml hv
  obtain ⟨rfl, hsz, hP, hK, hD0, hE⟩ := hv
  subst hsz
  have hts := atoms_spec (ws := .codeWith y b n ret hh :: gw) B.pre
  have hl := lv_entry as (n := n) hn
  rw [lg_entry_eq]
  generalize (lg_sl as ++ List.replicate (n - (lg_sl as).length) Slot.unset).toArray = ls at hl ⊢
  have htab : xTab c hh := by
    obtain ⟨m9, meth', c', hn9, h1, h2, -, -, h7, -⟩ := Cond.codeWith_spec (hts _ List.mem_cons_self)
    cases B.named.symm.trans hn9
    cases h1.symm.trans B.method
    have hcc : meth.code = some c := (Stand.of_body B).code
    cases h2.symm.trans hcc
    exact h7
  exact body p e s m below meth c (va_A ws s.heap.size) ls ⟨B.exec, B.bytes, B.returns, B.notSynchronized, findClass_of_methodNamed B.named, hml, fun w h => hts w (List.mem_cons_of_mem _ h), hK⟩ (fun q h => Or.inr h) hE htab ⟨hP, hD0.self, va_S.rf⟩ hl
section GW
variable {p : Program} {l : Launch} {e : Env} {R : Room} {s : State} {m : MethodId} {args : Array Value} {below : List Frame} {meth : Method} {c : Code} {H : Heap} {locs : List Loc} {cells slots : Nat} {Q : State → Prop}
variable {cc : ByteArray} {pc : Nat} {ls : Array Slot} {rest : List Value} {D : va_G} {A : Nat → Prop} {tys : List (ClassId × FieldType)} {ws ws' : va_W}
theorem W.more {c' s' : Nat} (hc : cells ≤ c') (hs : slots ≤ s') {g : JFrame} (k : W p l e R s m args below meth c H locs c' s' Q g) : W p l e R s m args below meth c H locs cells slots Q g := by
  intro T hT X
  exact k T hT ⟨X.admits, X.cas, X.clock, X.frames, X.room, X.hears, X.method, X.code, X.here, X.tail, X.warmed, X.limits, X.bytes, X.same.mono hc hs⟩
theorem g_ri1 {o : Option Value} {v : Int32} (hx : p.tables.exec = Jvm.exec) (hb : c.code = cc) (hr : meth.sig.returnType = some .int) (hlocks : meth.locks = false) (hI : gI D A s.heap ws' H locs) (ho : o = some (.int v)) (hc : cells ≤ 1) (hs : slots ≤ 6) (d : decode cc pc = .ok (.ireturn, 1)) : W p l e R s m args below meth c H locs cells slots (gQ1 D below args s A ws' o) (F0 m pc ls [.int v]) := by
  subst ho
  exact W.more hc hs (W.iret hx hb hr (fun t ht hW => ⟨⟨rfl, by rw [ht]; exact hI.1, hI.2.1⟩, hI.2.2.F ht⟩) hI.2.2.2.2 d)
end GW
