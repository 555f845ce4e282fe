/-! THE LAW'S WRAPPERS: methods with an exception table -/
def WW (l : Launch) (y : MethodName) (cc : ByteArray) (nL : Nat) (ret : Option FieldType) (hh : List (Nat × Nat × Nat × Nat)) (fr lo mc ms : Nat) (G : CG) (av : List Value) (P : Heap → Prop) (A : Nat → Prop) (Q : Option Value → Heap → Prop) : Prop :=
  Met l y (Cond.codeWith y cc nL ret hh :: TB) { frames := fr, cells := mc, slots := ms, locals := lo } (Pre G av P) (fun _ st o t => ∃ v, o = .returned v ∧ Q v t.heap ∧ va_F A st t) mc ms A
theorem WW.ofW {l : Launch} {y : MethodName} {cc : ByteArray} {nL : Nat} {ret : Option FieldType} {hh : List (Nat × Nat × Nat × Nat)} {fr lo mc ms : Nat} {G : CG} {av : List Value} {P : Heap → Prop} {A : Nat → Prop} {Q : Option Value → Heap → Prop} (hy : plainName y.cls = true) (hn : (lg_sl av).length ≤ nL)
    (body : ∀ (p : Program) (e : Env) (s : State) (m : MethodId) (below : List Frame) (meth : Method) (c : Code) (ls : Array Slot), CallFix p m c cc nL s av.toArray TB y.cls → KT G s → EF G s s.heap → P s.heap → meth.sig.returnType = ret → meth.locks = false → c.exceptionTable.toList = tableOf hh → lv_has ls nL (lv_args 0 av) →
      W p l e { frames := fr, cells := mc, slots := ms, locals := lo } s m av.toArray below meth c s.heap [] 0 0 (WQ below av.toArray s mc ms A Q) (F0 m 0 ls [])) : WW l y cc nL ret hh fr lo mc ms G av P A Q := by
  refine va_MetW (cc := cc) (maxL := nL) (ret := ret) (hh := hh) hy rfl ?_
  intro p e s m args below meth c s₁ B hml hv
  obtain ⟨rfl, hK, hE, hP⟩ := hv
  have hts := atoms_spec (ws := Cond.codeWith y cc nL ret hh :: TB) B.pre
  have hl := lv_entry av (n := nL) hn
  rw [lg_entry_eq]
  exact body p e s m below meth c _ ⟨B.exec, B.bytes, hml, findClass_of_methodNamed B.named, fun w hw => hts w (List.mem_cons_of_mem _ hw)⟩ hK hE hP B.returns B.notSynchronized (vx_table (x := y) B (hts _ List.mem_cons_self)) hl
def YW (y : MethodName) (cc : ByteArray) (nL : Nat) (ret : Option FieldType) (hh : List (Nat × Nat × Nat × Nat)) (n : Nat) : Prop := Cond.codeWith y cc nL ret hh ∈ TB ∧ Cond.initialized y.cls ∈ TB ∧ (y.cls ≠ "java/lang/invoke/MethodHandle" ∧ y.cls ≠ "java/lang/invoke/VarHandle" ∧ (parseMethodDescriptor y.desc).map (fun d => d.parameters.length) = some n) ∧ Cond.static y ∈ TB
section WRP
variable {p : Program} {l : Launch} {e : Env} {R : Room} {s : State} {m : MethodId} {args : Array Value} {below : List Frame} {meth : Method} {c : Code} {H : Heap} {locs : List Loc} {cells slots : Nat} {Q : State → Prop}
variable {cc : ByteArray} {nL : Nat} {own : String} {pc : Nat} {ls : Array Slot} {rest st : List Value} {G : CG} {a : Nat} {H0 : Heap} {A : Nat → Prop}
variable {y : MethodName} {cy : ByteArray} {nLy : Nat} {rety : Option FieldType} {hh : List (Nat × Nat × Nat × Nat)} {fr lo mc ms n index : Nat} {As : List Value} {P : Heap → Prop} {A1 : Nat → Prop} {Qh : Option Value → Heap → Prop}
theorem YW.cs {rm : Room} (Y : YW y cy nLy rety hh n) (E : CallFix p m c cc nL s args TB own) (hk : Cond.methodLink own index y ∈ TB) (hrc : rm.cells = mc) (hrs : rm.slots = ms) (hR : rm.frames + 1 ≤ R.frames ∧ 8 + (nLy + 11) + rm.locals ≤ R.locals) : vx_CSW R s args own index y cy nLy rety hh (Cond.codeWith y cy nLy rety hh :: TB) rm mc ms n :=
  vx_cwSW n E.2.2.2.2 (fun w hw => by
    have h9 : w ∈ TB := by
      unfold va_wsS at hw
      rcases List.mem_append.mp hw with h | h
      · rcases List.mem_cons.mp h with h | h
        · rw [h]; exact hk
        · rcases List.mem_cons.mp h with h | h
          · rw [h]; exact Y.2.2.2
          · rcases List.mem_cons.mp h with h | h
            · rw [h]; exact Y.2.1
            · cases h
      · rcases List.mem_cons.mp h with h | h
        · rw [h]; exact Y.1
        · exact h
    exact ⟨h9, TB_good h9⟩) rfl hrc hrs Y.2.2.1 hR
theorem WW.callS (hM : WW l y cy nLy rety hh fr lo mc ms G As P A1 Qh) (Y : YW y cy nLy rety hh n) (E : CallFix p m c cc nL s args TB own) (hk : Cond.methodLink own index y ∈ TB) (hdg : decode cc pc = .ok (.invokestatic index, 3)) (hG : KT G s) (hE : EF G s H) (hP : P H)
    (hst : st = As.reverse ++ rest) (hn : As.length = n) (hl : ls.size = nL) (hR : fr + 1 ≤ R.frames ∧ 8 + (nLy + 11) + lo ≤ R.locals) (hc : cells + mc ≤ R.cells ∧ slots + ms ≤ R.slots) (hW : (rest.map fun v => v.category).sum ≤ 8) (hS : va_S A H0 H locs) (hA : ∀ q, A1 q → A q)
    (k : ∀ (v : Option Value) (H1 : Heap) (locs1 : List Loc), Qh v H1 → H.size ≤ H1.size → (∀ q : Nat, q < H.size → ¬ A1 q → H1[q]? = H[q]?) → va_S A H0 H1 locs1 → W p l e R s m args below meth c H1 locs1 (cells + mc) (slots + ms) Q (F0 m (pc + 3) ls (v.toList ++ rest))) : W p l e R s m args below meth c H locs cells slots Q (F0 m pc ls st) := by
  subst hst
  exact run_wr (vx_runSW (hh := hh) E hM (Y.cs E hk rfl rfl hR) ⟨Pre.blind, Pre.of hG hE hP⟩ rfl hn hl rfl (lv_room hW) hdg hc) hS hA k
/-- a call that throws, caught here -/
theorem t_catch {X name : String} {st0 : List Value} (hr : vx_Run p l e R s m args below meth c s.heap [] 0 0 1 6 (F0 m pc ls st0) rest (fun _ _ _ => False) (TX X) (fun _ => False)) (hown : s.vm.findClass own = some m.cls) (pre : List ExceptionTableEntry) (x : ExceptionTableEntry) (suf : List ExceptionTableEntry) (hsplit : c.exceptionTable.toList = pre ++ x :: suf)
    (hpass : ∀ z ∈ pre, covers z pc = false ∨ (z.catchType ≠ 0 ∧ ∃ nm : String, (Cond.classLink own z.catchType nm).before args s = true ∧ va_Nc X nm s)) (hx : covers x pc = true) (h0 : x.catchType ≠ 0) (hlink : (Cond.classLink own x.catchType name).before args s = true) (hcast : (Cond.castable X name).before args s = true)
    (kk : ∀ (H : Heap) (q : Nat), s.heap.size ≤ H.size → (∀ q : Nat, q < s.heap.size → H[q]? = s.heap[q]?) → W p l e R s m args below meth c H [] (0 + 1) (0 + 6) Q (F0 m x.handlerPc ls [.ref q])) : W p l e R s m args below meth c s.heap [] 0 0 Q (F0 m pc ls st0) := by
  intro T hT Xs
  rcases hr T hT Xs with ⟨v, st₀, t, T', L, g0, X', hL, e1, e2, hF, st⟩ | ⟨q, st₀, t, T', L, E, ce, g0, X', hL, e1, e2, ⟨rfl, hz, hq⟩, hce, hcv, hcl, st⟩
  · exact hF.elim
  · have hL0 : L = [] := List.eq_nil_iff_forall_not_mem.mpr (fun q hq => hL q hq)
    subst hL0
    rw [g0] at hz hq
    obtain ⟨t2, a1, b1⟩ := vx_catch (pc := pc) (ls := ls) (rest := rest) (H := T'.heap) (Q := Q) hown pre x suf hsplit hpass hx h0 hlink hcast (by rw [e1]; exact hce) hcv hcl (kk T'.heap q (by rw [e1]; exact hz) (fun q9 h1 => by rw [e1]; exact hq q9 h1 (fun z => z))) T' rfl X'
    exact ⟨t2, st.trans a1, b1⟩
end WRP
