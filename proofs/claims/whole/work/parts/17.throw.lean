/-! THROWING: contracts of methods that throw (Tr), the rows of a throw and of a call that throws -/
/-- what a throw leaves: an exception of class X; no old cell has changed -/
def TX (X : String) : String → State → State → Prop := fun E st t => E = X ∧ va_F (fun _ => False) st t
def Tr (l : Launch) (y : MethodName) (cc : ByteArray) (nL : Nat) (ret : Option FieldType) (fr lo : Nat) (G : CG) (av : List Value) (P : Heap → Prop) (X : String) : Prop :=
  vx_Met l y (Cond.code y cc nL ret :: TB) { frames := fr, cells := 1, slots := 6, locals := lo } (Pre G av P) (fun _ _ _ _ => False) (TX X) 1 6 (fun _ => False)
abbrev TQ (below : List Frame) (args : Array Value) (s : State) (X : String) : State → Prop := vx_MQ below (fun _ _ _ _ => False) (TX X) args s 1 6 (fun _ => False)
theorem Tr.ofW {l : Launch} {y : MethodName} {cc : ByteArray} {nL : Nat} {ret : Option FieldType} {fr lo : Nat} {G : CG} {av : List Value} {P : Heap → Prop} {X : String} (hy : plainName y.cls = true) (hn : (lg_sl av).length ≤ nL)
    (body : ∀ (p : Program) (e : Env) (s : State) (m : MethodId) (below : List Frame) (meth : Method) (c : Code) (ls : Array Slot), CallFix p m c cc nL s av.toArray TB y.cls → KT G s → EF G s s.heap → P s.heap → (∀ x ∈ c.exceptionTable.toList, False) → meth.locks = false → lv_has ls nL (lv_args 0 av) →
      W p l e { frames := fr, cells := 1, slots := 6, locals := lo } s m av.toArray below meth c s.heap [] 0 0 (TQ below av.toArray s X) (F0 m 0 ls [])) : Tr l y cc nL ret fr lo G av P X := by
  refine vx_ofW (cc := cc) (maxL := nL) (ret := ret) hy rfl ?_
  intro p e s m args below meth c s₁ B hml htab hv
  obtain ⟨rfl, hK, hE, hP⟩ := hv
  have hts := atoms_spec (ws := Cond.code y cc nL ret :: TB) B.pre
  have hl := lv_entry av (n := nL) hn
  rw [lg_entry_eq]
  exact body p e s m below meth c _ ⟨B.exec, B.bytes, hml, findClass_of_methodNamed B.named, fun w hw => hts w (List.mem_cons_of_mem _ hw)⟩ hK hE hP htab B.notSynchronized hl
abbrev excN : List String := ["java/lang/RuntimeException", "java/lang/Exception"]
/-- the words of 'throw new X(text)' at a place of a class -/
def ThK (own : String) (ik ic : Nat) (X : String) : Prop := Cond.classLink own ik X ∈ TB ∧ Cond.initialized X ∈ TB ∧ (∀ w ∈ (vx_atS own ic X excN).filter goodWord, w ∈ TB) ∧ (∀ w ∈ (vx_atS own ic X excN).filter (fun w => !goodWord w), w ∈ [nD "java/lang/RuntimeException", nD "java/lang/Exception", nD "java/lang/Throwable", nC X]) ∧ (∀ w ∈ Cond.classLink own ik X :: Cond.initialized X :: vx_atS own ic X excN, vx_ot w = true) ∧ Bundle.fit X = true ∧ (nC X = nC "java/lang/IllegalArgumentException" ∨ nC X = nC "java/lang/IndexOutOfBoundsException" ∨ nC X = nC "java/lang/IllegalStateException")
theorem ThK.hat {own X : String} {ik ic : Nat} {s : State} {args : Array Value} {G : CG} (h : ThK own ik ic X) (hts : ∀ w ∈ TB, w.before args s = true) (hG : KT G s) : ∀ w ∈ vx_atS own ic X excN, w.before args s = true := by
  have hN := hG.2.2.2.2.2.2.1
  have hc : va_Nw (nC X) s := by
    rcases h.2.2.2.2.2.2 with e | e | e <;> rw [e]
    · exact hN.2.1
    · exact hN.2.2.1
    · exact hN.2.2.2
  exact vx_hat (fun w hw => hts w (h.2.2.1 w hw)) h.2.2.2.1 (vx_c (va_Nw.use rfl hN.1.1) (vx_c (va_Nw.use rfl hN.1.2.1) (vx_c (va_Nw.use rfl hN.1.2.2) (vx_c (va_Nw.use rfl hc) vx_n))))
section TR
variable {p : Program} {l : Launch} {e : Env} {R : Room} {s : State} {m : MethodId} {args : Array Value} {below : List Frame} {meth : Method} {c : Code} {Q : State → Prop}
variable {cc : ByteArray} {nL : Nat} {own : String} {pc : Nat} {ls : Array Slot} {rest st : List Value} {G : CG} {a : Nat}
theorem t_throw {X text : String} {ik is ic i : Nat} (hst : l.stackTraces = false) (h : ThK own ik ic X) (hs : (own, is, text, i) ∈ strT) (E : CallFix p m c cc nL s args TB own) (hG : KT G s) (hE : EF G s s.heap) (htab : ∀ x ∈ c.exceptionTable.toList, False) (hk : meth.locks = false) (hl : ls.size = nL)
    (d0 : decode cc pc = .ok (.new ik, 3)) (d3 : decode cc (pc + 3) = .ok (.dup, 1)) (d4 : decode cc (pc + 4) = .ok (.ldc is, 2)) (d6 : decode cc (pc + 6) = .ok (.invokespecial ic, 3)) (d9 : decode cc (pc + 9) = .ok (.athrow, 1)) (hR : 5 < R.frames ∧ (rest.map fun v => v.category).sum + 82 ≤ R.locals ∧ 1 ≤ R.cells ∧ 6 ≤ R.slots) : W p l e R s m args below meth c s.heap [] 0 0 (TQ below args s X) (F0 m pc ls rest) :=
  vx_throwS E.1 E.2.1 hst E.2.2.2.1 h.2.2.2.2.2.1 (by decide +kernel) (E.2.2.2.2 _ h.1) (E.2.2.2.2 _ h.2.1) (hG.2.2.2.2.2.1 _ hs) (h.hat E.2.2.2.2 hG) h.2.2.2.2.1 hE.2.2.2.2.1 hE.2.2.2.2.2.1 va_S.rf (hl.trans E.2.2.1.symm) d0 d3 d4 d6 d9 (fun x hx => (htab x hx).elim) hR.1 hR.2.1 (by rw [Nat.zero_add]; exact hR.2.2.1) (by rw [Nat.zero_add]; exact hR.2.2.2) hk (fun t _ h1 h2 => ⟨rfl, h1, fun q h3 _ => h2 q h3⟩) (fun _ h => by cases h) (by decide) (by decide)
theorem t_throwW {X text : String} {ik is ic i : Nat} (hst : l.stackTraces = false) (h : ThK own ik ic X) (hs : (own, is, text, i) ∈ strT) (E : CallFix p m c cc nL s args TB own) (hG : KT G s) (hE : EF G s s.heap) (htab : ∀ x ∈ c.exceptionTable.toList, False) (hk : meth.locks = false) (hl : ls.size = nL)
    (d0 : decode cc pc = .ok (.new ik, 3)) (d3 : decode cc (pc + 3) = .ok (.dup, 1)) (d4 : decode cc (pc + 4) = .ok (.ldc_w is, 3)) (d7 : decode cc (pc + 7) = .ok (.invokespecial ic, 3)) (d10 : decode cc (pc + 10) = .ok (.athrow, 1)) (hR : 5 < R.frames ∧ (rest.map fun v => v.category).sum + 82 ≤ R.locals ∧ 1 ≤ R.cells ∧ 6 ≤ R.slots) : W p l e R s m args below meth c s.heap [] 0 0 (TQ below args s X) (F0 m pc ls rest) :=
  vx_throwSW E.1 E.2.1 hst E.2.2.2.1 h.2.2.2.2.2.1 (by decide +kernel) (E.2.2.2.2 _ h.1) (E.2.2.2.2 _ h.2.1) (hG.2.2.2.2.2.1 _ hs) (h.hat E.2.2.2.2 hG) h.2.2.2.2.1 hE.2.2.2.2.1 hE.2.2.2.2.2.1 va_S.rf (hl.trans E.2.2.1.symm) d0 d3 d4 d7 d10 (fun x hx => (htab x hx).elim) hR.1 hR.2.1 (by rw [Nat.zero_add]; exact hR.2.2.1) (by rw [Nat.zero_add]; exact hR.2.2.2) hk (fun t _ h1 h2 => ⟨rfl, h1, fun q h3 _ => h2 q h3⟩) (fun _ h => by cases h) (by decide) (by decide)
variable {y : MethodName} {cy : ByteArray} {nLy : Nat} {rety : Option FieldType} {fr lo n index : Nat} {b : Nat} {As : List Value} {P : Heap → Prop} {X : String}
/-- a call that throws, in a method that lets it pass -/
theorem t_pass {st0 : List Value} (hr : vx_Run p l e R s m args below meth c s.heap [] 0 0 1 6 (F0 m pc ls st0) rest (fun _ _ _ => False) (TX X) (fun _ => False)) (htab : ∀ x ∈ c.exceptionTable.toList, False) (hk : meth.locks = false) : W p l e R s m args below meth c s.heap [] 0 0 (TQ below args s X) (F0 m pc ls st0) := by
  intro T hT Xs
  rcases hr T hT Xs with ⟨v, st₀, t, T', L, h0, X', hL, e1, e2, hF, st⟩ | ⟨q, st₀, t, T', L, E, ce, h0, X', hL, e1, e2, ⟨rfl, hz, hq⟩, hce, hcv, hcl, st⟩
  · exact hF.elim
  · have hL0 : L = [] := List.eq_nil_iff_forall_not_mem.mpr (fun q hq => hL q hq)
    subst hL0
    rw [h0] at hz hq
    obtain ⟨t2, a1, b1⟩ := vx_out (Qc := fun _ _ _ _ => False) (XC := TX E) (free := fun _ => False) (mc := 1) (ms := 6) (rest := rest) (pc := pc) (ls := ls) (E := E) (ce := ce) (q := q) (H := T'.heap) (fun x hx => (htab x hx).elim) hk (by rw [e1]; exact hce) hcv hcl (fun t9 h9 _ => ⟨rfl, by rw [h9, e1]; exact hz, fun q9 h1 h2 => by rw [h9, e1]; exact hq q9 h1 h2⟩) (fun _ h => by cases h) (by decide) (by decide) T' rfl X'
    exact ⟨t2, st.trans a1, b1⟩
theorem Tr.callV (hM : Tr l y cy nLy rety fr lo G (.ref b :: As) P X) (Y : YI y cy nLy rety n) (E : CallFix p m c cc nL s args TB own) (hk : Cond.methodLink own index y ∈ TB) (hdg : decode cc pc = .ok (.invokevirtual index, 3)) (hG : KT G s) (hE : EF G s s.heap) (hP : P s.heap) (hb : ∃ cell : Cell, s.heap[b]? = some cell ∧ cell.vm.isStatics = false ∧ s.vm.findClass y.cls = some cell.cls)
    (hst : st = As.reverse ++ .ref b :: rest) (hn : As.length = n) (hl : ls.size = nL) (hR : fr + 1 ≤ R.frames ∧ 8 + (nLy + 11) + lo ≤ R.locals) (hc : 1 ≤ R.cells ∧ 6 ≤ R.slots) (hW : (rest.map fun v => v.category).sum ≤ 8) (htab : ∀ x ∈ c.exceptionTable.toList, False) (hlk : meth.locks = false) : W p l e R s m args below meth c s.heap [] 0 0 (TQ below args s X) (F0 m pc ls st) := by
  subst hst
  exact t_pass (vx_runV (C := y.cls) E hM ⟨Y.1.cb E hk rfl rfl hR, E.2.2.2.2 _ Y.2.1, E.2.2.2.2 _ Y.2.2⟩ ⟨Pre.blind, hb, Pre.of hG hE hP⟩ rfl hn hl rfl (lv_room hW) hdg (by rw [Nat.zero_add, Nat.zero_add]; exact hc)) htab hlk
theorem Tr.callS (hM : Tr l y cy nLy rety fr lo G As P X) (Y : YS y cy nLy rety n) (E : CallFix p m c cc nL s args TB own) (hk : Cond.methodLink own index y ∈ TB) (hdg : decode cc pc = .ok (.invokestatic index, 3)) (hG : KT G s) (hE : EF G s s.heap) (hP : P s.heap)
    (hst : st = As.reverse ++ rest) (hn : As.length = n) (hl : ls.size = nL) (hR : fr + 1 ≤ R.frames ∧ 8 + (nLy + 11) + lo ≤ R.locals) (hc : 1 ≤ R.cells ∧ 6 ≤ R.slots) (hW : (rest.map fun v => v.category).sum ≤ 8) (htab : ∀ x ∈ c.exceptionTable.toList, False) (hlk : meth.locks = false) : W p l e R s m args below meth c s.heap [] 0 0 (TQ below args s X) (F0 m pc ls st) := by
  subst hst
  exact t_pass (vx_runS E hM ⟨Y.1.cb E hk rfl rfl hR, E.2.2.2.2 _ Y.2⟩ ⟨Pre.blind, Pre.of hG hE hP⟩ rfl hn hl rfl (lv_room hW) hdg (by rw [Nat.zero_add, Nat.zero_add]; exact hc)) htab hlk
end TR
theorem thk_IAE : ThK RX7 41 45 "java/lang/IllegalArgumentException" := ⟨kl_X7_41, TB_of (by decide +kernel) rfl, by decide +kernel, by decide +kernel, by decide +kernel, by decide +kernel, Or.inl rfl⟩
theorem thk_IOB : ThK RX7 258 262 "java/lang/IndexOutOfBoundsException" := ⟨kl_X7_258, TB_of (by decide +kernel) rfl, by decide +kernel, by decide +kernel, by decide +kernel, by decide +kernel, Or.inr (Or.inl rfl)⟩
theorem thk_ISE : ThK RX7 205 209 "java/lang/IllegalStateException" := ⟨kl_X7_205, TB_of (by decide +kernel) rfl, by decide +kernel, by decide +kernel, by decide +kernel, by decide +kernel, Or.inr (Or.inr rfl)⟩
