/-! ===== the law's array for answers; the call of a method with a table ===== -/
def wo (ao : Nat) (cJ : ClassId) (f : Nat → Int64) : va_W := [(ao, .inl (cJ, 1, .inr (.inl f)))]
theorem wo_at {ad : Nat → Nat} {cG cZ cJ : ClassId} {σ : gS} {ao : Nat} {f : Nat → Int64} : (wd ad cG cZ σ ++ wo ao cJ f)[22]? = some (ao, .inl (cJ, 1, .inr (.inl f))) := rfl
theorem wo_set {ad : Nat → Nat} {cG cZ cJ : ClassId} {σ : gS} {ao : Nat} {f f' : Nat → Int64} : (wd ad cG cZ σ ++ wo ao cJ f).set 22 (ao, .inl (cJ, 1, .inr (.inl f'))) = wd ad cG cZ σ ++ wo ao cJ f' := rfl
section GCALLW
variable {p : Program} {l : Launch} {e : Env} {R : Room} {s : State} {m : MethodId} {args : Array Value} {below : List Frame} {meth : Method} {c : Code} {H : Heap} {locs : List Loc} {cells slots : Nat} {Q : State → Prop}
variable {cc : ByteArray} {pc : Nat} {ls : Array Slot} {rest : List Value} {D : va_G} {A : Nat → Prop} {tys : List (ClassId × FieldType)} {ws ws' : va_W} {H0 : Heap}
theorem g_last {cJ : ClassId} {n a : Nat} {f : Nat → Int64} {i : Nat} {x : Int64} (hx : p.tables.exec = Jvm.exec) (hb : c.code = cc) (hK : va_K D classes tys s) (hI : gI D A H0 ws H locs) (q0 t0 : Nat) (he : ws[q0]? = some (a, .inl (cJ, n, .inr (.inl f)))) (ht : tys[t0]? = some (cJ, .long)) (hi : i < n) (hn : n < 2 ^ 31) (hw : ws.set q0 (a, .inl (cJ, n, .inr (.inl (vp_updL f i x)))) = ws') (d : decode cc pc = .ok (.lastore, 1))
    (kk : ∀ (H : Heap) (locs : List Loc), gI D A H0 ws' H locs → W p l e R s m args below meth c H locs cells slots Q (F0 m (pc + 1) ls rest)) : W p l e R s m args below meth c H locs cells slots Q (F0 m pc ls (.long x :: .int (nI i) :: .ref a :: rest)) := by
  subst hw
  refine va_last hx hb hK hI.1 hI.2.1 hI.2.2 q0 t0 he ht (vp_in_nI hi hn) d (fun H1 l1 h1 h2 h3 => ?_)
  rw [nI_clamp (Nat.lt_trans hi hn)] at h1 h2
  exact kk H1 l1 ⟨h1, h2, h3⟩
theorem g_lald {cJ : ClassId} {n a : Nat} {f : Nat → Int64} {i : Nat} (hx : p.tables.exec = Jvm.exec) (hb : c.code = cc) (hK : va_K D classes tys s) (hI : gI D A H0 ws H locs) (q0 t0 : Nat) (he : ws[q0]? = some (a, .inl (cJ, n, .inr (.inl f)))) (ht : tys[t0]? = some (cJ, .long)) (hi : i < n) (hn : n < 2 ^ 31) (d : decode cc pc = .ok (.laload, 1))
    (kk : W p l e R s m args below meth c H locs cells slots Q (F0 m (pc + 1) ls (.long (f i) :: rest))) : W p l e R s m args below meth c H locs cells slots Q (F0 m pc ls (.int (nI i) :: .ref a :: rest)) :=
  va_lald hx hb hK hI.1 q0 t0 he ht (vp_in_nI hi hn) d (by rw [nI_clamp (Nat.lt_trans hi hn)]; exact kk)
set_option maxHeartbeats 1000000 in
theorem g_callSW {own : String} {idx n k nL : Nat} {y : MethodName} {b : ByteArray} {ret : Option FieldType} {hh : List (Nat × Nat × Nat × Nat)} {rm : Room} {As : List Value} {o : Option Value} (hM : gG l D tys (.codeWith y b n ret hh) y rm 1 6 ws As ws' o) (hE : xE A s)
    (hx : p.tables.exec = Jvm.exec) (hb : c.code = cc) (hml : c.maxLocals = nL) (hown : s.vm.findClass own = some m.cls) (hg : ∀ w ∈ gw, w.before args s = true) (hK : va_K D classes tys s) (hI : gI D A s.heap ws H locs) (hA : ∀ q : Nat, s.heap.size ≤ q → A q)
    (w1 : Cond.methodLink own idx y ∈ gw) (w2 : Cond.static y ∈ gw) (w4 : Cond.initialized y.cls ∈ gw) (w5 : Cond.codeWith y b n ret hh ∈ gw)
    (hd : y.cls ≠ "java/lang/invoke/MethodHandle" ∧ y.cls ≠ "java/lang/invoke/VarHandle" ∧ (parseMethodDescriptor y.desc).map (fun d => d.parameters.length) = some k) (hR : rm.frames + 1 ≤ R.frames ∧ 8 + (n + 11) + rm.locals ≤ R.locals) (hrc : rm.cells = 1) (hrs : rm.slots = 6)
    (hn : As.length = k) (hls : ls.size = nL) (hst : (rest.map fun v => v.category).sum ≤ 8) (hcs : cells + 1 ≤ R.cells ∧ slots + 6 ≤ R.slots) (d : decode cc pc = .ok (.invokestatic idx, 3))
    {st0 st1 : List Value} (hst0 : st0 = As.reverse ++ rest) (hst1 : o.toList ++ rest = st1)
    (kk : ∀ (H : Heap) (locs : List Loc), gI D A s.heap ws' H locs → W p l e R s m args below meth c H locs (cells + 1) (slots + 6) Q (F0 m (pc + 3) ls st1)) : W p l e R s m args below meth c H locs cells slots Q (F0 m pc ls st0) := by
  subst hst0; subst hst1
  intro T9 hT X
  have hF := g_free hI hA
  have hS := hI.2.2
  have hBk := va_backW (l := l) (R := R) (p := p) (e := e) (below := below) (s := s) (sargs := args) (y := y) (len := 3) (W := 8) (hh := hh) (bytes := b) (maxL := n) (ret := ret) (hM H.size) gE_blind hrc hrs hR.1 hR.2 (fun w hw a' U hW => by
      rcases List.mem_cons.mp hw with h | h
      · rw [h]; exact gw_move hg hW _ w5
      · exact gw_move hg hW _ h) List.mem_cons_self (fun a' U hW => gw_move hg hW _ w4)
  obtain ⟨mk, methM, cM, hnamed, hmethM, -, -, -, -, -, -, hsigM⟩ := Cond.codeWith_spec (hg _ w5)
  have hstatic : methM.isStatic = true := Cond.static_spec hnamed hmethM (hg _ w2)
  obtain ⟨kP, hkP, -⟩ := className_of_methodNamed hnamed
  have hinitP : kP.init = .initialized := Cond.initialized_spec (findClass_of_methodNamed hnamed) hkP (hg _ w4)
  have hlen : As.length = methM.sig.parameters.length := by
    have h2 := hd.2.2
    rw [hsigM] at h2
    exact hn.trans (Option.some.inj h2).symm
  obtain ⟨vm₁, X₁, hstep₁⟩ := X.invokestatic hx hown (hg _ w1) hnamed hmethM hstatic hkP hinitP ⟨hd.1, hd.2.1⟩ (g := F0 m pc ls (As.reverse ++ rest)) rfl (argsL := As) (rest := rest) hlen rfl (by rw [hb]; exact d)
  obtain ⟨v, ⟨U', l2, c2, s2⟩, X', ⟨g', mk', t, L, e1, e2, ⟨⟨hv, hP', hD'⟩, hz, hk⟩, h1, hL, h2, h3⟩, hsteps⟩ := hBk m meth c ⟨T9.setVm vm₁, locs, cells, slots⟩ (F0 m pc ls rest) (.invokestatic idx) mk As.toArray X₁ rfl (hls.trans hml.symm) (by rw [hb]; exact d) (by show 2 * 0 + (rest.map fun v => v.category).sum ≤ 8; omega) (X₁.named hnamed)
    ⟨hcs.1, hcs.2, rfl, by show T9.heap.size = _; rw [hT], by show va_P D classes ws T9.heap; rw [hT]; exact hI.1, va_K.moved X₁.warmed.alike hK, hI.2.1.weaken (fun _ _ _ _ => trivial), hE.move X₁.warmed (by show ∀ a : Nat, a < s.heap.size → ¬ A a → T9.heap[a]? = s.heap[a]?; rw [hT]; exact hS.2.1) hF⟩
  dsimp only [Pt.U, Pt.locs, Pt.cells, Pt.slots] at X' e1 e2 h1 h2 h3 hsteps hz hk
  subst h1; subst h2; subst h3
  cases hv
  have hz : H.size ≤ t.heap.size := by rw [← hT]; exact hz
  have hk : ∀ q : Nat, q < H.size → ¬ va_A ws H.size q → t.heap[q]? = H[q]? := fun q h1 h2 => by rw [← hT]; exact hk q (by show q < T9.heap.size; rw [hT]; exact h1) h2
  obtain ⟨t2, a1, b1⟩ := kk U'.heap (locs ++ L) ⟨by rw [e1]; exact hP', hD'.weaken (fun _ _ _ h => hF _ h), Nat.le_trans hS.1 (by rw [e1]; exact hz), fun q h1 h2 => by rw [e1, hk q (Nat.lt_of_lt_of_le h1 hS.1) (fun z => h2 (hF q z))]; exact hS.2.1 q h1 h2, fun q hq => by
      rcases List.mem_append.mp hq with h | h
      · exact hS.2.2 q h
      · exact hF _ (hL q h)⟩ U' rfl X'
  exact ⟨t2, hstep₁ t2 (fun acts => by rw [doInvoke_state]; exact hsteps.trans a1), b1⟩
end GCALLW
