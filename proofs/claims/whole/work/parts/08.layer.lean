/-! THE LAYER: one list of words for every method; contracts of readers (Rd) and of writers (Wr); rows over single cells -/
/-- the launch's ids: classes and slots; array classes (0 byte, 1 int, 2 long, 3 Book, 4 Credit, 5 Presentation, 6 int[]); addresses (0: where new cells begin; 1: USUAL; 10+i: text i; 60+i: its bytes) -/
abbrev CG : Type := va_G × (Nat → ClassId) × (Nat → Nat)
abbrev tysG (G : CG) : List (ClassId × FieldType) := [(G.2.1 0, .byte), (G.2.1 1, .int), (G.2.1 2, .long), (G.2.1 3, .object RX0), (G.2.1 4, .object RX2), (G.2.1 5, .object RX5), (G.2.1 6, .array .int)]
/-- text constants: class, place, text, number (0 to 8: the reader's words; 9 to 19: messages; 20 to 28: the reference's words) -/
def strT : List (String × Nat × String × Nat) := [(RX6, 42, "holiday", 0), (RX6, 51, "credit", 1), (RX6, 140, "partial", 2), (RX6, 147, "transferable", 3), (RX6, 151, "needs", 4), (RX6, 56, "fee", 5), (RX6, 198, "amount", 6), (RX6, 199, "days", 7), (RX6, 201, "errors", 8),
  (RX7, 43, "the buffer does not have that many bytes", 9), (RX7, 265, "a number is out of range", 10), (RX7, 260, "there is no such credit", 11), (RX7, 263, "there is no such presentation", 12), (RX7, 207, "there are too many presentations", 13), (RX7, 217, "the presentation is not pending", 14), (RX7, 229, "the presentation cannot be waived", 15), (RX7, 231, "the presentation is not discrepant", 16), (RX7, 234, "the credit expires earlier", 17), (RX7, 240, "the credit cannot be transferred so", 18), (RX7, 250, "today would be too late", 19),
  (RX8, 139, "holiday", 20), (RX8, 144, "credit", 21), (RX8, 130, "partial", 22), (RX8, 132, "transferable", 23), (RX8, 134, "needs", 24), (RX8, 148, "fee", 25), (RX8, 101, "amount", 26), (RX8, 107, "days", 27), (RX8, 109, "errors", 28), (RX7, 268, "the insured sum is negative", 29)]
/-- the bytes of the words -/
def txt (i : Nat) : List Int32 := ([[104, 111, 108, 105, 100, 97, 121], [99, 114, 101, 100, 105, 116], [112, 97, 114, 116, 105, 97, 108], [116, 114, 97, 110, 115, 102, 101, 114, 97, 98, 108, 101], [110, 101, 101, 100, 115], [102, 101, 101], [97, 109, 111, 117, 110, 116], [100, 97, 121, 115], [101, 114, 114, 111, 114, 115]] : List (List Int32)).getD i []
def usualF (j : Nat) : Int32 := ([-1, 1000, -7] : List Int32).getD j 0
theorem ao_spec {u : State} {ty : FieldType} (h : va_AOA ty u) : ∃ comp c k, u.vm.findClass (FieldType.array ty).toString = some comp ∧ (u.vm.classes.findIdx? fun (x : Class) => match x.kind with | .array component _ => component == comp | _ => false) = some c ∧ u.vm.classes[c]? = some k ∧ k.kind = .array comp (.array ty) ∧ u.vm.findClass ("[" ++ (FieldType.array ty).toString) = some c := by
  unfold va_AOA at h
  simp only [Cond.before, Cond.holds, Cond.value, beq_iff_eq] at h
  cases hc : u.vm.findClass (FieldType.array ty).toString with
  | none => simp [hc] at h
  | some comp =>
    simp only [hc, Option.bind_some, Option.bind_eq_some_iff, Option.map_eq_some_iff] at h
    obtain ⟨c, hi, k, hk, hb⟩ := h
    obtain ⟨hlt, hp, -⟩ := Array.findIdx?_eq_some_iff_getElem.mp hi
    have hkk : u.vm.classes[c] = k := (Array.getElem?_eq_some_iff.mp hk).2
    rw [hkk] at hp
    cases hkind : k.kind with
    | array component ty2 =>
      rw [hkind] at hb hp
      simp at hb hp
      exact ⟨comp, c, k, rfl, hi, hk, by rw [hkind, hp, hb.1], hb.2⟩
    | _ => rw [hkind] at hb; simp at hb
theorem va_AOA.moved {ty : FieldType} {u U : State} (hvm : u.vm.Alike U.vm) (h : va_AOA ty u) : va_AOA ty U := by
  obtain ⟨comp, c, k, h1, h2, h3, h4, h5⟩ := ao_spec h
  obtain ⟨k', hk', he⟩ := hvm.2.2 _ _ h3
  have hi : (U.vm.classes.findIdx? fun (x : Class) => match x.kind with | .array component _ => component == comp | _ => false) = some c := by
    refine Eq.trans ?_ h2
    refine (va_idx_bare U.vm comp).symm.trans (Eq.trans ?_ (va_idx_bare u.vm comp))
    first | rw [hvm.bare_eq] | rw [← hvm.bare_eq]
  have hkind : k'.kind = .array comp (.array ty) := by rw [he]; exact h4
  have f1 : U.vm.findClass (FieldType.array ty).toString = some comp := by rw [hvm.findClass]; exact h1
  have f2 : U.vm.findClass ("[" ++ (FieldType.array ty).toString) = some c := by rw [hvm.findClass]; exact h5
  unfold va_AOA Cond.before Cond.holds
  simp only [Cond.value]
  rw [f1, Option.bind_some]
  refine (congrArg (fun o : Option Nat => (o.bind (fun c => (U.vm.classes[c]?).map fun (k : Class) => match k.kind with | .array _ ty' => decide (ty' = FieldType.array ty) && decide (U.vm.findClass ("[" ++ (FieldType.array ty).toString) = some c) | _ => false) == some true)) hi).trans ?_
  simp [hk', hkind, f2]
/-- words that throwing needs and that move by themselves -/
def nD (C : String) : Cond := .declares ⟨C, "<init>", "(Ljava/lang/String;)V"⟩
def nC (C : String) : Cond := .castable C C
def NG (U : State) : Prop := (va_Nw (nD "java/lang/RuntimeException") U ∧ va_Nw (nD "java/lang/Exception") U ∧ va_Nw (nD "java/lang/Throwable") U) ∧ va_Nw (nC "java/lang/IllegalArgumentException") U ∧ va_Nw (nC "java/lang/IndexOutOfBoundsException") U ∧ va_Nw (nC "java/lang/IllegalStateException") U
theorem NG.warm {s U : State} (hW : s.WarmedH U.vm) (h : NG s) : NG U := ⟨⟨va_Nw.warmD hW h.1.1, va_Nw.warmD hW h.1.2.1, va_Nw.warmD hW h.1.2.2⟩, va_Nw.warmC hW h.2.1, va_Nw.warmC hW h.2.2.1, va_Nw.warmC hW h.2.2.2⟩
theorem NG.same {u U : State} (hv : u.vm = U.vm) (h : NG u) : NG U := ⟨⟨va_Nw.same rfl hv h.1.1, va_Nw.same rfl hv h.1.2.1, va_Nw.same rfl hv h.1.2.2⟩, va_Nw.same rfl hv h.2.1, va_Nw.same rfl hv h.2.2.1, va_Nw.same rfl hv h.2.2.2⟩
/-- exceptions that are not each other's -/
def NX (U : State) : Prop := va_Nc "java/lang/IllegalArgumentException" "java/lang/IndexOutOfBoundsException" U ∧ va_Nc "java/lang/IllegalStateException" "java/lang/IndexOutOfBoundsException" U ∧ va_Nc "java/lang/IllegalStateException" "java/lang/IllegalArgumentException" U
theorem NX.moved {u U : State} (hvm : u.vm.Alike U.vm) (h : NX u) : NX U := ⟨h.1.moved hvm, h.2.1.moved hvm, h.2.2.moved hvm⟩
/-- arrays can be cloned -/
def NB (U : State) : Prop := va_Nw (.castable "[B" "java/lang/Cloneable") U ∧ va_Nw (.castable "[I" "java/lang/Cloneable") U
/-- the tables: classes, array classes, text constants' places -/
def KT (G : CG) (U : State) : Prop := va_K G.1 vwCl (tysG G) U ∧ va_AO RX0 U ∧ va_AO RX2 U ∧ va_AO RX5 U ∧ (va_AOA .int U ∧ NB U) ∧ (∀ q ∈ strT, vk_R q.1 q.2.1 q.2.2.1 (G.2.2 (10 + q.2.2.2)) U) ∧ NG U ∧ NX U
theorem KT.warm {G : CG} {s U : State} (hW : s.WarmedH U.vm) (h : KT G s) : KT G U := ⟨va_K.moved hW.alike h.1, va_AO.moved hW.alike h.2.1, va_AO.moved hW.alike h.2.2.1, va_AO.moved hW.alike h.2.2.2.1, ⟨va_AOA.moved hW.alike h.2.2.2.2.1.1, va_Nw.warmC hW h.2.2.2.2.1.2.1, va_Nw.warmC hW h.2.2.2.2.1.2.2⟩, fun q hq => vk_R.warm hW (h.2.2.2.2.2.1 q hq), h.2.2.2.2.2.2.1.warm hW, h.2.2.2.2.2.2.2.moved hW.alike⟩
theorem KT.calling {G : CG} {U : State} {g : JFrame} {mk : MethodId} {a : Array Value} (h : KT G U) : KT G (U.calling g mk a) := ⟨va_K.moved (u := U) (U := U.calling g mk a) (Vm.Alike.refl U.vm) h.1, va_AO.moved (u := U) (U := U.calling g mk a) (Vm.Alike.refl U.vm) h.2.1, va_AO.moved (u := U) (U := U.calling g mk a) (Vm.Alike.refl U.vm) h.2.2.1, va_AO.moved (u := U) (U := U.calling g mk a) (Vm.Alike.refl U.vm) h.2.2.2.1, ⟨va_AOA.moved (u := U) (U := U.calling g mk a) (Vm.Alike.refl U.vm) h.2.2.2.2.1.1, va_Nw.same (u := U) (U := U.calling g mk a) rfl rfl h.2.2.2.2.1.2.1, va_Nw.same (u := U) (U := U.calling g mk a) rfl rfl h.2.2.2.2.1.2.2⟩, fun q hq => vk_R.same (u := U) (U := U.calling g mk a) rfl (h.2.2.2.2.2.1 q hq), h.2.2.2.2.2.2.1.same (u := U) (U := U.calling g mk a) rfl, NX.moved (u := U) (U := U.calling g mk a) (Vm.Alike.refl U.vm) h.2.2.2.2.2.2.2⟩
def EFA (G : CG) : Nat → Prop := fun q => G.2.2 0 ≤ q
/-- a text constant's own cells -/
def SC (G : CG) (i : Nat) (b : List Int32) (U : State) (H : Heap) : Prop := va_O "java/lang/String" (G.2.2 (10 + i)) (EFA G) U H ∧ va_OF "java/lang/String" "coder" "B" (.int 0) (G.2.2 (10 + i)) (EFA G) U H ∧ va_OF "java/lang/String" "value" "[B" (.ref (G.2.2 (60 + i))) (G.2.2 (10 + i)) (EFA G) U H ∧ va_T .byte (G.2.2 (60 + i)) b.length (fun j => .int (b.getD j 0)) (EFA G) U H
theorem SC.moved {G : CG} {i : Nat} {b : List Int32} {u U : State} {H : Heap} (hvm : u.vm.Alike U.vm) (h : SC G i b u H) : SC G i b U H := ⟨h.1.moved hvm, h.2.1.moved hvm, h.2.2.1.moved hvm, h.2.2.2.moved hvm⟩
theorem SC.kept {G : CG} {i : Nat} {b : List Int32} {U : State} {H H1 : Heap} (h : SC G i b U H) (hq : ∀ a : Nat, a < H.size → ¬ EFA G a → H1[a]? = H[a]?) : SC G i b U H1 := ⟨h.1.kept hq, h.2.1.kept hq, h.2.2.1.kept hq, h.2.2.2.kept hq⟩
/-- what lies below the first new cell and is never written: statics, texts -/
def EF (G : CG) (U : State) (H : Heap) : Prop := va_Z RX3 "USUAL" "[I" (.ref (G.2.2 1)) (EFA G) U H ∧ va_T .int (G.2.2 1) 3 (fun j => .int (usualF j)) (EFA G) U H ∧ va_Z RJ0 "COMPACT_STRINGS" "Z" (.int 1) (EFA G) U H ∧ (∀ i, i < 9 → SC G i (txt i) U H ∧ SC G (20 + i) (txt i) U H) ∧ vx_Zq Bundle.tN "UNASSIGNED_STACK" Bundle.steD (EFA G) U H ∧ vx_Zq Bundle.tN "SUPPRESSED_SENTINEL" Bundle.listD (EFA G) U H ∧ va_Zq "jdk/internal/util/Preconditions" "SIOOBE_FORMATTER" "Ljava/util/function/BiFunction;" (EFA G) U H
theorem EF.moved {G : CG} {u U : State} {H : Heap} (hvm : u.vm.Alike U.vm) (h : EF G u H) : EF G U H := ⟨h.1.moved hvm, h.2.1.moved hvm, h.2.2.1.moved hvm, fun i hi => ⟨(h.2.2.2.1 i hi).1.moved hvm, (h.2.2.2.1 i hi).2.moved hvm⟩, h.2.2.2.2.1.moved hvm, h.2.2.2.2.2.1.moved hvm, va_Zq.moved hvm h.2.2.2.2.2.2⟩
theorem EF.kept {G : CG} {U : State} {H H1 : Heap} (h : EF G U H) (hq : ∀ a : Nat, a < H.size → ¬ EFA G a → H1[a]? = H[a]?) : EF G U H1 := ⟨h.1.kept hq, h.2.1.kept hq, h.2.2.1.kept hq, fun i hi => ⟨(h.2.2.2.1 i hi).1.kept hq, (h.2.2.2.1 i hi).2.kept hq⟩, h.2.2.2.2.1.kept hq, h.2.2.2.2.2.1.kept hq, va_Zq.kept h.2.2.2.2.2.2 hq⟩
/-- since the method's start only cells of A have changed, and all of A are new -/
theorem EF.S {G : CG} {U : State} {A : Nat → Prop} {H0 H : Heap} {locs : List Loc} (h : EF G U H0) (hS : va_S A H0 H locs) (hA : ∀ q, A q → EFA G q) : EF G U H := h.kept (fun a h1 h2 => hS.2.1 a h1 (fun z => h2 (hA a z)))
/-- a method's start -/
def Pre (G : CG) (av : List Value) (P : Heap → Prop) : Array Value → State → Prop := fun a U => a = av.toArray ∧ KT G U ∧ EF G U U.heap ∧ P U.heap
theorem Pre.blind {G : CG} {av : List Value} {P : Heap → Prop} : FrameBlind (Pre G av P) := fun a U g mk h => ⟨h.1, h.2.1.calling, EF.moved (u := U) (U := U.calling g mk a) (Vm.Alike.refl U.vm) h.2.2.1, h.2.2.2⟩
theorem Pre.of {G : CG} {av : List Value} {P : Heap → Prop} {s : State} {H : Heap} (hG : KT G s) (hE : EF G s H) (hP : P H) : ∀ U : State, U.heap = H → s.WarmedH U.vm → Pre G av P av.toArray U := fun U hU hW => ⟨rfl, hG.warm hW, by rw [hU]; exact hE.moved hW.alike, by rw [hU]; exact hP⟩
/-- a reader: it answers v, and the heap is as it was -/
def Rd (l : Launch) (y : MethodName) (cc : ByteArray) (nL : Nat) (ret : Option FieldType) (fr lo : Nat) (G : CG) (av : List Value) (P : Heap → Prop) (v : Option Value) : Prop :=
  Met l y (Cond.code y cc nL ret :: TB) { frames := fr, cells := 0, slots := 0, locals := lo } (Pre G av P) (fun _ st o t => o = .returned v ∧ t.heap = st.heap) 0 0 (fun _ => False)
/-- a writer: it answers some v with Q v of the heap behind it; only cells of A have changed -/
def Wr (l : Launch) (y : MethodName) (cc : ByteArray) (nL : Nat) (ret : Option FieldType) (fr lo mc ms : Nat) (G : CG) (av : List Value) (P : Heap → Prop) (A : Nat → Prop) (Q : Option Value → Heap → Prop) : Prop :=
  Met l y (Cond.code y cc nL ret :: TB) { frames := fr, cells := mc, slots := ms, locals := lo } (Pre G av P) (fun _ st o t => ∃ v, o = .returned v ∧ Q v t.heap ∧ va_F A st t) mc ms A
abbrev RQ (below : List Frame) (args : Array Value) (s : State) (v : Option Value) : State → Prop := MQ below (fun _ st o t => o = .returned v ∧ t.heap = st.heap) args s 0 0 (fun _ => False)
abbrev WQ (below : List Frame) (args : Array Value) (s : State) (mc ms : Nat) (A : Nat → Prop) (Q : Option Value → Heap → Prop) : State → Prop := MQ below (fun _ st o t => ∃ v, o = .returned v ∧ Q v t.heap ∧ va_F A st t) args s mc ms A
theorem Rd.ofW {l : Launch} {y : MethodName} {cc : ByteArray} {nL : Nat} {ret : Option FieldType} {fr lo : Nat} {G : CG} {av : List Value} {P : Heap → Prop} {v : Option Value} (hy : plainName y.cls = true) (hn : (lg_sl av).length ≤ nL)
    (body : ∀ (p : Program) (e : Env) (s : State) (m : MethodId) (below : List Frame) (meth : Method) (c : Code) (ls : Array Slot), CallFix p m c cc nL s av.toArray TB y.cls → KT G s → EF G s s.heap → P s.heap → meth.sig.returnType = ret → meth.locks = false → lv_has ls nL (lv_args 0 av) →
      W p l e { frames := fr, cells := 0, slots := 0, locals := lo } s m av.toArray below meth c s.heap [] 0 0 (RQ below av.toArray s v) (F0 m 0 ls [])) : Rd l y cc nL ret fr lo G av P v := by
  refine Met.ofW (cc := cc) (maxL := nL) (ret := ret) hy rfl ?_
  intro p e s m args below meth c s₁ B hml hv
  obtain ⟨rfl, hK, hE, hP⟩ := hv
  have hts := atoms_spec (ws := Cond.code y cc nL ret :: TB) B.pre
  have hl := lv_entry av (n := nL) hn
  rw [lg_entry_eq]
  exact body p e s m below meth c _ ⟨B.exec, B.bytes, hml, findClass_of_methodNamed B.named, fun w hw => hts w (List.mem_cons_of_mem _ hw)⟩ hK hE hP B.returns B.notSynchronized hl
theorem Wr.ofW {l : Launch} {y : MethodName} {cc : ByteArray} {nL : Nat} {ret : Option FieldType} {fr lo mc ms : Nat} {G : CG} {av : List Value} {P : Heap → Prop} {A : Nat → Prop} {Q : Option Value → Heap → Prop} (hy : plainName y.cls = true) (hn : (lg_sl av).length ≤ nL)
    (body : ∀ (p : Program) (e : Env) (s : State) (m : MethodId) (below : List Frame) (meth : Method) (c : Code) (ls : Array Slot), CallFix p m c cc nL s av.toArray TB y.cls → KT G s → EF G s s.heap → P s.heap → meth.sig.returnType = ret → meth.locks = false → (y.name = "<init>" → meth.name = "<init>") → lv_has ls nL (lv_args 0 av) →
      W p l e { frames := fr, cells := mc, slots := ms, locals := lo } s m av.toArray below meth c s.heap [] 0 0 (WQ below av.toArray s mc ms A Q) (F0 m 0 ls [])) : Wr l y cc nL ret fr lo mc ms G av P A Q := by
  refine Met.ofW (cc := cc) (maxL := nL) (ret := ret) hy rfl ?_
  intro p e s m args below meth c s₁ B hml hv
  obtain ⟨rfl, hK, hE, hP⟩ := hv
  have hts := atoms_spec (ws := Cond.code y cc nL ret :: TB) B.pre
  have hl := lv_entry av (n := nL) hn
  rw [lg_entry_eq]
  exact body p e s m below meth c _ ⟨B.exec, B.bytes, hml, findClass_of_methodNamed B.named, fun w hw => hts w (List.mem_cons_of_mem _ hw)⟩ hK hE hP B.returns B.notSynchronized (fun h => by rw [← h]; exact (name_of_methodNamed B.named B.method).1) hl
/-- fewer premises -/
theorem Rd.mono {l : Launch} {y : MethodName} {cc : ByteArray} {nL : Nat} {ret : Option FieldType} {fr lo : Nat} {G : CG} {av : List Value} {P P' : Heap → Prop} {v : Option Value} (h : Rd l y cc nL ret fr lo G av P v) (hP : ∀ H, P' H → P H) : Rd l y cc nL ret fr lo G av P' v :=
  fun p e ha hc hk s m args below hf happ hpre htr => h p e ha hc hk s m args below hf happ ⟨hpre.1, hpre.2.1, hpre.2.2.1, hP _ hpre.2.2.2⟩ htr
section LY
variable {p : Program} {l : Launch} {e : Env} {R : Room} {s : State} {m : MethodId} {args : Array Value} {below : List Frame} {meth : Method} {c : Code} {H : Heap} {locs : List Loc} {cells slots : Nat} {Q : State → Prop}
variable {cc : ByteArray} {nL : Nat} {own : String} {pc : Nat} {ls : Array Slot} {rest : List Value} {G : CG} {a : Nat} {H0 : Heap} {A : Nat → Prop}
theorem rd_int {x : Int32} {v : Option Value} (E : CallFix p m c cc nL s args TB own) (hr : meth.sig.returnType = some .int) (hk : meth.locks = false) (hv : v = some (.int x)) (hdg : decode cc pc = .ok (.ireturn, 1)) : W p l e R s m args below meth c s.heap [] 0 0 (RQ below args s v) (F0 m pc ls [.int x]) := by
  subst hv
  exact W.iret E.1 E.2.1 hr (fun t ht _ => ⟨rfl, ht⟩) (fun _ h => by cases h) hdg hk
theorem rd_bool {x : Int32} {v : Option Value} (E : CallFix p m c cc nL s args TB own) (hr : meth.sig.returnType = some .boolean) (hk : meth.locks = false) (hv : v = some (.int x)) (h01 : x = 0 ∨ x = 1) (hdg : decode cc pc = .ok (.ireturn, 1)) : W p l e R s m args below meth c s.heap [] 0 0 (RQ below args s v) (F0 m pc ls [.int x]) := by
  subst hv
  exact W.zret E.1 E.2.1 hr (by rcases h01 with rfl | rfl <;> rfl) (fun t ht _ => ⟨rfl, ht⟩) (fun _ h => by cases h) hdg hk
theorem rd_long {x : Int64} {v : Option Value} (E : CallFix p m c cc nL s args TB own) (hr : meth.sig.returnType = some .long) (hk : meth.locks = false) (hv : v = some (.long x)) (hdg : decode cc pc = .ok (.lreturn, 1)) : W p l e R s m args below meth c s.heap [] 0 0 (RQ below args s v) (F0 m pc ls [.long x]) := by
  subst hv
  exact W.lret E.1 E.2.1 hr (fun t ht _ => ⟨rfl, ht⟩) (fun _ h => by cases h) hdg hk
theorem rd_void {v : Option Value} (E : CallFix p m c cc nL s args TB own) (hr : meth.sig.returnType = none) (hk : meth.locks = false) (hv : v = none) (hdg : decode cc pc = .ok (.return_, 1)) : W p l e R s m args below meth c s.heap [] 0 0 (RQ below args s v) (F0 m pc ls []) := by
  subst hv
  exact W.vret E.1 E.2.1 hr (fun t ht _ => ⟨rfl, ht⟩) (fun _ h => by cases h) hdg hk
theorem wr_int {x : Int32} {mc ms : Nat} {Qh : Option Value → Heap → Prop} (E : CallFix p m c cc nL s args TB own) (hr : meth.sig.returnType = some .int) (hk : meth.locks = false) (hS : va_S A s.heap H locs) (hc : cells ≤ mc) (hs : slots ≤ ms) (hQ : Qh (some (.int x)) H) (hdg : decode cc pc = .ok (.ireturn, 1)) : W p l e R s m args below meth c H locs cells slots (WQ below args s mc ms A Qh) (F0 m pc ls [.int x]) :=
  W.widen hc hs (W.iret E.1 E.2.1 hr (fun t ht _ => ⟨_, rfl, by rw [ht]; exact hQ, hS.F ht⟩) hS.2.2 hdg hk)
theorem wr_bool {x : Int32} {mc ms : Nat} {Qh : Option Value → Heap → Prop} (E : CallFix p m c cc nL s args TB own) (hr : meth.sig.returnType = some .boolean) (hk : meth.locks = false) (hS : va_S A s.heap H locs) (hc : cells ≤ mc) (hs : slots ≤ ms) (h01 : x = 0 ∨ x = 1) (hQ : Qh (some (.int x)) H) (hdg : decode cc pc = .ok (.ireturn, 1)) : W p l e R s m args below meth c H locs cells slots (WQ below args s mc ms A Qh) (F0 m pc ls [.int x]) :=
  W.widen hc hs (W.zret E.1 E.2.1 hr (by rcases h01 with rfl | rfl <;> rfl) (fun t ht _ => ⟨_, rfl, by rw [ht]; exact hQ, hS.F ht⟩) hS.2.2 hdg hk)
theorem wr_long {x : Int64} {mc ms : Nat} {Qh : Option Value → Heap → Prop} (E : CallFix p m c cc nL s args TB own) (hr : meth.sig.returnType = some .long) (hk : meth.locks = false) (hS : va_S A s.heap H locs) (hc : cells ≤ mc) (hs : slots ≤ ms) (hQ : Qh (some (.long x)) H) (hdg : decode cc pc = .ok (.lreturn, 1)) : W p l e R s m args below meth c H locs cells slots (WQ below args s mc ms A Qh) (F0 m pc ls [.long x]) :=
  W.widen hc hs (W.lret E.1 E.2.1 hr (fun t ht _ => ⟨_, rfl, by rw [ht]; exact hQ, hS.F ht⟩) hS.2.2 hdg hk)
theorem wr_void {mc ms : Nat} {Qh : Option Value → Heap → Prop} (E : CallFix p m c cc nL s args TB own) (hr : meth.sig.returnType = none) (hk : meth.locks = false) (hS : va_S A s.heap H locs) (hc : cells ≤ mc) (hs : slots ≤ ms) (hQ : Qh none H) (hdg : decode cc pc = .ok (.return_, 1)) : W p l e R s m args below meth c H locs cells slots (WQ below args s mc ms A Qh) (F0 m pc ls []) :=
  W.widen hc hs (W.vret E.1 E.2.1 hr (fun t ht _ => ⟨_, rfl, by rw [ht]; exact hQ, hS.F ht⟩) hS.2.2 hdg hk)
theorem wr_ref {rt : FieldType} {mc ms : Nat} {Qh : Option Value → Heap → Prop} (E : CallFix p m c cc nL s args TB own) (hr : meth.sig.returnType = some rt) (hrt : (∃ n, rt = .object n) ∨ ∃ t, rt = .array t) (hk : meth.locks = false) (hS : va_S A s.heap H locs) (hc : cells ≤ mc) (hs : slots ≤ ms) (hQ : Qh (some (.ref a)) H) (hdg : decode cc pc = .ok (.areturn, 1)) : W p l e R s m args below meth c H locs cells slots (WQ below args s mc ms A Qh) (F0 m pc ls [.ref a]) :=
  W.widen hc hs (W.aret E.1 E.2.1 hr hrt (Or.inr ⟨a, rfl⟩) (fun t ht _ => ⟨_, rfl, by rw [ht]; exact hQ, hS.F ht⟩) hS.2.2 hdg hk)
theorem rd_ref {rt : FieldType} {v : Option Value} (E : CallFix p m c cc nL s args TB own) (hr : meth.sig.returnType = some rt) (hrt : (∃ n, rt = .object n) ∨ ∃ t, rt = .array t) (hk : meth.locks = false) (hv : v = some (.ref a)) (hdg : decode cc pc = .ok (.areturn, 1)) : W p l e R s m args below meth c s.heap [] 0 0 (RQ below args s v) (F0 m pc ls [.ref a]) := by
  subst hv
  exact W.aret E.1 E.2.1 hr hrt (Or.inr ⟨a, rfl⟩) (fun t ht _ => ⟨rfl, ht⟩) (fun _ h => by cases h) hdg hk
/-- behind a reader's call -/
theorem run_rd {v : Option Value} {st0 : List Value} (hr : va_Run p l e R s m args below meth c H locs cells slots 0 0 (F0 m pc ls st0) rest (fun st o t => o = .returned v ∧ t.heap = st.heap) (fun _ => False)) (k : W p l e R s m args below meth c H locs cells slots Q (F0 m (pc + 3) ls (v.toList ++ rest))) : W p l e R s m args below meth c H locs cells slots Q (F0 m pc ls st0) := by
  intro T hT X
  obtain ⟨v', st₀, t, T', L, h0, X', hL, e1, e2, ⟨hv, hh⟩, st⟩ := hr T hT X
  cases hv
  have hL0 : L = [] := List.eq_nil_iff_forall_not_mem.mpr (fun q hq => hL q hq)
  subst hL0
  rw [List.append_nil] at X'
  obtain ⟨t2, a1, b1⟩ := k T' (by rw [e1, hh, h0]) X'
  exact ⟨t2, st t2 a1, b1⟩
/-- behind a writer's call -/
theorem run_wr {A1 : Nat → Prop} {Qh : Option Value → Heap → Prop} {st0 : List Value} {mc ms : Nat} (hr : va_Run p l e R s m args below meth c H locs cells slots mc ms (F0 m pc ls st0) rest (fun st o t => ∃ v, o = .returned v ∧ Qh v t.heap ∧ va_F A1 st t) A1) (hS : va_S A H0 H locs) (hA : ∀ q, A1 q → A q)
    (k : ∀ (v : Option Value) (H1 : Heap) (locs1 : List Loc), Qh v H1 → H.size ≤ H1.size → (∀ q : Nat, q < H.size → ¬ A1 q → H1[q]? = H[q]?) → va_S A H0 H1 locs1 → W p l e R s m args below meth c H1 locs1 (cells + mc) (slots + ms) Q (F0 m (pc + 3) ls (v.toList ++ rest))) : W p l e R s m args below meth c H locs cells slots Q (F0 m pc ls st0) := by
  intro T hT X
  obtain ⟨v', st₀, t, T', L, h0, X', hL, e1, e2, ⟨v, hv, hq, hz, hk⟩, st⟩ := hr T hT X
  cases hv
  rw [h0] at hz hk
  obtain ⟨t2, a1, b1⟩ := k _ T'.heap (locs ++ L) (by rw [e1]; exact hq) (by rw [e1]; exact hz) (fun q h1 h2 => by rw [e1]; exact hk q h1 h2)
    ⟨Nat.le_trans hS.1 (by rw [e1]; exact hz), fun q h1 h2 => by rw [e1, hk q (Nat.lt_of_lt_of_le h1 hS.1) (fun z => h2 (hA q z))]; exact hS.2.1 q h1 h2, fun q hq => by
      rcases List.mem_append.mp hq with h | h
      · exact hS.2.2 q h
      · exact hA _ (hL q h)⟩ T' rfl X'
  exact ⟨t2, st t2 a1, b1⟩
section CALLS
variable {y : MethodName} {cy : ByteArray} {nLy : Nat} {rety : Option FieldType} {fr lo mc ms n index : Nat} {b : Nat} {As : List Value} {P : Heap → Prop} {st : List Value} {v : Option Value} {A1 : Nat → Prop} {Qh : Option Value → Heap → Prop}
theorem YB.cb {rm : Room} (Y : YB y cy nLy rety n) (E : CallFix p m c cc nL s args TB own) (hk : Cond.methodLink own index y ∈ TB) (hrc : rm.cells = mc) (hrs : rm.slots = ms) (hR : rm.frames + 1 ≤ R.frames ∧ 8 + (nLy + 11) + rm.locals ≤ R.locals) : CallB R s args own index y cy nLy rety (Cond.code y cy nLy rety :: TB) rm mc ms n :=
  callB_of n E.2.2.2.2 (fun w hw => by
    rcases List.mem_cons.mp hw with h | h
    · subst h
      exact ⟨Y.1, TB_good Y.1⟩
    · exact ⟨h, TB_good h⟩) rfl hrc hrs (E.2.2.2.2 _ Y.2.1) (E.2.2.2.2 _ hk) Y.2.2 hR
theorem Rd.callV (hM : Rd l y cy nLy rety fr lo G (.ref b :: As) P v) (Y : YI y cy nLy rety n) (E : CallFix p m c cc nL s args TB own) (hk : Cond.methodLink own index y ∈ TB) (hdg : decode cc pc = .ok (.invokevirtual index, 3)) (hG : KT G s) (hE : EF G s H) (hP : P H) (hb : ∃ cell : Cell, H[b]? = some cell ∧ cell.vm.isStatics = false ∧ s.vm.findClass y.cls = some cell.cls)
    (hst : st = As.reverse ++ .ref b :: rest) (hn : As.length = n) (hl : ls.size = nL) (hR : fr + 1 ≤ R.frames ∧ 8 + (nLy + 11) + lo ≤ R.locals) (hc : cells ≤ R.cells ∧ slots ≤ R.slots) (hW : (rest.map fun v => v.category).sum ≤ 8) (k : W p l e R s m args below meth c H locs cells slots Q (F0 m (pc + 3) ls (v.toList ++ rest))) : W p l e R s m args below meth c H locs cells slots Q (F0 m pc ls st) := by
  subst hst
  exact run_rd (va_runV (C := y.cls) E hM ⟨Y.1.cb E hk rfl rfl hR, E.2.2.2.2 _ Y.2.1, E.2.2.2.2 _ Y.2.2⟩ ⟨Pre.blind, hb, Pre.of hG hE hP⟩ rfl hn hl rfl (lv_room hW) hdg hc) k
theorem Rd.callS (hM : Rd l y cy nLy rety fr lo G As P v) (Y : YS y cy nLy rety n) (E : CallFix p m c cc nL s args TB own) (hk : Cond.methodLink own index y ∈ TB) (hdg : decode cc pc = .ok (.invokestatic index, 3)) (hG : KT G s) (hE : EF G s H) (hP : P H)
    (hst : st = As.reverse ++ rest) (hn : As.length = n) (hl : ls.size = nL) (hR : fr + 1 ≤ R.frames ∧ 8 + (nLy + 11) + lo ≤ R.locals) (hc : cells ≤ R.cells ∧ slots ≤ R.slots) (hW : (rest.map fun v => v.category).sum ≤ 8) (k : W p l e R s m args below meth c H locs cells slots Q (F0 m (pc + 3) ls (v.toList ++ rest))) : W p l e R s m args below meth c H locs cells slots Q (F0 m pc ls st) := by
  subst hst
  exact run_rd (va_runS E hM ⟨Y.1.cb E hk rfl rfl hR, E.2.2.2.2 _ Y.2⟩ ⟨Pre.blind, Pre.of hG hE hP⟩ rfl hn hl rfl (lv_room hW) hdg hc) k
theorem Wr.callV (hM : Wr l y cy nLy rety fr lo mc ms G (.ref b :: As) P A1 Qh) (Y : YI y cy nLy rety n) (E : CallFix p m c cc nL s args TB own) (hk : Cond.methodLink own index y ∈ TB) (hdg : decode cc pc = .ok (.invokevirtual index, 3)) (hG : KT G s) (hE : EF G s H) (hP : P H) (hb : ∃ cell : Cell, H[b]? = some cell ∧ cell.vm.isStatics = false ∧ s.vm.findClass y.cls = some cell.cls)
    (hst : st = As.reverse ++ .ref b :: rest) (hn : As.length = n) (hl : ls.size = nL) (hR : fr + 1 ≤ R.frames ∧ 8 + (nLy + 11) + lo ≤ R.locals) (hc : cells + mc ≤ R.cells ∧ slots + ms ≤ R.slots) (hW : (rest.map fun v => v.category).sum ≤ 8) (hS : va_S A H0 H locs) (hA : ∀ q, A1 q → A q)
    (k : ∀ (v : Option Value) (H1 : Heap) (locs1 : List Loc), Qh v H1 → H.size ≤ H1.size → (∀ q : Nat, q < H.size → ¬ A1 q → H1[q]? = H[q]?) → va_S A H0 H1 locs1 → W p l e R s m args below meth c H1 locs1 (cells + mc) (slots + ms) Q (F0 m (pc + 3) ls (v.toList ++ rest))) : W p l e R s m args below meth c H locs cells slots Q (F0 m pc ls st) := by
  subst hst
  exact run_wr (va_runV (C := y.cls) E hM ⟨Y.1.cb E hk rfl rfl hR, E.2.2.2.2 _ Y.2.1, E.2.2.2.2 _ Y.2.2⟩ ⟨Pre.blind, hb, Pre.of hG hE hP⟩ rfl hn hl rfl (lv_room hW) hdg hc) hS hA k
theorem Wr.callS (hM : Wr l y cy nLy rety fr lo mc ms G As P A1 Qh) (Y : YS y cy nLy rety n) (E : CallFix p m c cc nL s args TB own) (hk : Cond.methodLink own index y ∈ TB) (hdg : decode cc pc = .ok (.invokestatic index, 3)) (hG : KT G s) (hE : EF G s H) (hP : P H)
    (hst : st = As.reverse ++ rest) (hn : As.length = n) (hl : ls.size = nL) (hR : fr + 1 ≤ R.frames ∧ 8 + (nLy + 11) + lo ≤ R.locals) (hc : cells + mc ≤ R.cells ∧ slots + ms ≤ R.slots) (hW : (rest.map fun v => v.category).sum ≤ 8) (hS : va_S A H0 H locs) (hA : ∀ q, A1 q → A q)
    (k : ∀ (v : Option Value) (H1 : Heap) (locs1 : List Loc), Qh v H1 → H.size ≤ H1.size → (∀ q : Nat, q < H.size → ¬ A1 q → H1[q]? = H[q]?) → va_S A H0 H1 locs1 → W p l e R s m args below meth c H1 locs1 (cells + mc) (slots + ms) Q (F0 m (pc + 3) ls (v.toList ++ rest))) : W p l e R s m args below meth c H locs cells slots Q (F0 m pc ls st) := by
  subst hst
  exact run_wr (va_runS E hM ⟨Y.1.cb E hk rfl rfl hR, E.2.2.2.2 _ Y.2⟩ ⟨Pre.blind, Pre.of hG hE hP⟩ rfl hn hl rfl (lv_room hW) hdg hc) hS hA k
theorem Wr.callI (hM : Wr l y cy nLy none fr lo mc ms G (.ref b :: As) P A1 Qh) (Y : YN y cy nLy none n) (E : CallFix p m c cc nL s args TB own) (hk : Cond.methodLink own index y ∈ TB) (hdg : decode cc pc = .ok (.invokespecial index, 3)) (hG : KT G s) (hE : EF G s H) (hP : P H)
    (hst : st = As.reverse ++ .ref b :: rest) (hn : As.length = n) (hl : ls.size = nL) (hR : fr + 1 ≤ R.frames ∧ 8 + (nLy + 11) + lo ≤ R.locals) (hc : cells + mc ≤ R.cells ∧ slots + ms ≤ R.slots) (hW : (rest.map fun v => v.category).sum ≤ 8) (hS : va_S A H0 H locs) (hA : ∀ q, A1 q → A q)
    (k : ∀ (v : Option Value) (H1 : Heap) (locs1 : List Loc), Qh v H1 → H.size ≤ H1.size → (∀ q : Nat, q < H.size → ¬ A1 q → H1[q]? = H[q]?) → va_S A H0 H1 locs1 → W p l e R s m args below meth c H1 locs1 (cells + mc) (slots + ms) Q (F0 m (pc + 3) ls (v.toList ++ rest))) : W p l e R s m args below meth c H locs cells slots Q (F0 m pc ls st) := by
  subst hst
  exact run_wr (va_runI E hM ⟨Y.1.cb E hk rfl rfl hR, Y.2.1, E.2.2.2.2 _ Y.2.2⟩ ⟨Pre.blind, Pre.of hG hE hP⟩ rfl hn hl rfl (lv_room hW) hdg hc) hS hA k
end CALLS
/-- one cell -/
abbrev At (G : CG) (a : Nat) (x : va_E) (H : Heap) : Prop := va_at G.1 vwCl (a, x) H
theorem At.P {x : va_E} (h : At G a x H) : va_P G.1 vwCl [(a, x)] H := fun k q hk => by
  have h0 : k < 1 := (List.getElem?_eq_some_iff.mp hk).1
  rw [show k = 0 by omega] at hk
  cases hk
  exact h
theorem At.D1 {x : va_E} (hA : A a) : va_D A [(a, x)] := ⟨fun i j p q hi hj _ => by
  have h1 : i < 1 := (List.getElem?_eq_some_iff.mp hi).1
  have h2 : j < 1 := (List.getElem?_eq_some_iff.mp hj).1
  omega, fun k q hk => by
  have h0 : k < 1 := (List.getElem?_eq_some_iff.mp hk).1
  rw [show k = 0 by omega] at hk
  cases hk
  exact hA⟩
theorem At.recv {ci : Nat} {fs : List Value} {q : vw_C} (hG : KT G s) (h : At G a (.inr (ci, fs)) H) (hc : vwCl[ci]? = some q) : ∃ cell : Cell, H[a]? = some cell ∧ cell.vm.isStatics = false ∧ s.vm.findClass q.1 = some cell.cls := va_recv hG.1 h.P hc (q0 := 0) rfl
theorem g_get {C : String} {T : u_T} {N ci index : Nat} {fs : List Value} {v : Value} (k : Nat) (hin : ∀ w ∈ u_ws C T N, w ∈ TB) (hc : vwCl[ci]? = some (C, T, N)) (hk : k < N) (hlink : Cond.fieldLink own index (T k).1 (T k).2.1 (T k).2.2.1 ∈ TB) (E : CallFix p m c cc nL s args TB own) (hG : KT G s) (ha : At G a (.inr (ci, fs)) H) (hv : fs[k]? = some v) (hdg : decode cc pc = .ok (.getfield index, 3))
    (kk : W p l e R s m args below meth c H locs cells slots Q (F0 m (pc + 3) ls (v :: rest))) : W p l e R s m args below meth c H locs cells slots Q (F0 m pc ls (.ref a :: rest)) :=
  va_get E.1 E.2.1 E.2.2.2.2 hin E.2.2.2.1 hG.1 ha.P 0 rfl hc k hk (E.2.2.2.2 _ hlink) (fun _ h => h) hv hdg kk
theorem g_put {C : String} {T : u_T} {N ci index : Nat} {fs : List Value} {v : Value} {ty0 : Nat → FieldType} {ty : FieldType} (k : Nat) (hin : ∀ w ∈ u_ws C T N, w ∈ TB) (hty : ∀ k, k < N → parseFieldDescriptor (T k).2.2.1 = some (ty0 k)) (hnm : ∀ a, a < N → ∀ b, b < N → a ≠ b → (T a).2.1 ≠ (T b).2.1) (hc : vwCl[ci]? = some (C, T, N)) (hk : k < N) (hlink : Cond.fieldLink own index (T k).1 (T k).2.1 (T k).2.2.1 ∈ TB) (hfin : (T k).2.2.2 = false) (hd : parseFieldDescriptor (T k).2.2.1 = some ty)
    (E : CallFix p m c cc nL s args TB own) (hG : KT G s) (ha : At G a (.inr (ci, fs)) H) (hl : k < fs.length) (hn : narrow ty v = v) (hfit : fits ty v = true) (hS : va_S A H0 H locs) (hA : A a) (hdg : decode cc pc = .ok (.putfield index, 3))
    (kk : ∀ (H1 : Heap) (locs1 : List Loc), At G a (.inr (ci, fs.set k v)) H1 → H1.size = H.size → (∀ q : Nat, q ≠ a → H1[q]? = H[q]?) → va_S A H0 H1 locs1 → W p l e R s m args below meth c H1 locs1 cells slots Q (F0 m (pc + 3) ls rest)) : W p l e R s m args below meth c H locs cells slots Q (F0 m pc ls (v :: .ref a :: rest)) := by
  have hap := va_apart (own := own) E.2.2.2.2 hin ty0 hty hnm hG.1 hc
  obtain ⟨r, h1, cell, q1, q2, q3, q4⟩ := ha
  have hr : r = (C, T, N) := Option.some.inj (h1.symm.trans hc)
  subst hr
  obtain ⟨hSl, hfc, kC, hkC, hkind⟩ := hG.1.1 ci _ hc
  obtain ⟨cf, kf, fi, f, hi, hsl⟩ := hSl k hk
  have hlay := E.2.2.2.2 _ (hin _ (u_in_lay hk))
  unfold u_lay at hlay
  rw [if_neg (by rw [hfin]; decide)] at hlay
  have hst := (u_facts hfc hkC (u_lays E.2.2.2.2 hin hk) hi).1
  have h6 := u_store hfc hkC hkind hlay hi hd hn hfit
  refine W.putK E.1 E.2.1 (f := f) ⟨E.2.2.2.1, E.2.2.2.2 _ hlink, ⟨_, _, _, hi⟩, hst⟩ (by rw [q2]; exact h6) q1 q3 (by rw [hsl]; exact k2_hasslot (q4 k hk)) rfl rfl hdg fun H' e1 e2 e3 => ?_
  rw [hsl] at e1 ⊢
  exact kk H' _ ⟨_, hc, t_OB.to (V := updV (vp_V fs) k v) ⟨_, e1, q2, q3, t_set q4 hap hk v⟩ (fun j _ => vp_updV_set hl v j)⟩ e2 e3 (hS.put e2 e3 hA)
theorem g_putF {C : String} {T : u_T} {N ci index : Nat} {fs : List Value} {v : Value} {ty0 : Nat → FieldType} {ty : FieldType} (k : Nat) (hin : ∀ w ∈ u_ws C T N, w ∈ TB) (hty : ∀ k, k < N → parseFieldDescriptor (T k).2.2.1 = some (ty0 k)) (hnm : ∀ a, a < N → ∀ b, b < N → a ≠ b → (T a).2.1 ≠ (T b).2.1) (hc : vwCl[ci]? = some (C, T, N)) (hk : k < N) (hlink : Cond.fieldLink own index (T k).1 (T k).2.1 (T k).2.2.1 ∈ TB) (hfin : (T k).2.2.2 = true) (hdecl : (T k).1 = own) (hd : parseFieldDescriptor (T k).2.2.1 = some ty)
    (E : CallFix p m c cc nL s args TB own) (hG : KT G s) (hin2 : meth.name = "<init>") (ha : At G a (.inr (ci, fs)) H) (hl : k < fs.length) (hn : narrow ty v = v) (hfit : fits ty v = true) (hS : va_S A H0 H locs) (hA : A a) (hdg : decode cc pc = .ok (.putfield index, 3))
    (kk : ∀ (H1 : Heap) (locs1 : List Loc), At G a (.inr (ci, fs.set k v)) H1 → H1.size = H.size → (∀ q : Nat, q ≠ a → H1[q]? = H[q]?) → va_S A H0 H1 locs1 → W p l e R s m args below meth c H1 locs1 cells slots Q (F0 m (pc + 3) ls rest)) : W p l e R s m args below meth c H locs cells slots Q (F0 m pc ls (v :: .ref a :: rest)) := by
  have hap := va_apart (own := own) E.2.2.2.2 hin ty0 hty hnm hG.1 hc
  obtain ⟨r, h1, cell, q1, q2, q3, q4⟩ := ha
  have hr : r = (C, T, N) := Option.some.inj (h1.symm.trans hc)
  subst hr
  obtain ⟨hSl, hfc, kC, hkC, hkind⟩ := hG.1.1 ci _ hc
  obtain ⟨cf, kf, fi, f, hi, hsl⟩ := hSl k hk
  have hlay := E.2.2.2.2 _ (hin _ (u_in_lay hk))
  unfold u_lay at hlay
  rw [if_pos hfin] at hlay
  have hst := (u_facts hfc hkC (u_lays E.2.2.2.2 hin hk) hi).1
  have hcf : m.cls = cf := by
    obtain ⟨_, _, c', _, _, _, -, -, hf', -, -, -, hown2, -⟩ := Cond.laysFinal_spec hlay
    have e1 : c' = cf := by have := hi.symm.trans hf'; simp at this; exact this.1.symm
    rw [hdecl] at hown2
    rw [← e1]; exact Option.some.inj (E.2.2.2.1.symm.trans hown2)
  have h6 := u_fits hfc hkC hkind (Or.inr hlay) hi hd hn hfit
  refine W.putFinK E.1 E.2.1 E.2.2.2.1 (E.2.2.2.2 _ hlink) hi hst hcf hin2 (by rw [q2]; exact h6) q1 q3 (by rw [hsl]; exact k2_hasslot (q4 k hk)) rfl rfl hdg fun H' e1 e2 e3 => ?_
  rw [hsl] at e1 ⊢
  exact kk H' _ ⟨_, hc, t_OB.to (V := updV (vp_V fs) k v) ⟨_, e1, q2, q3, t_set q4 hap hk v⟩ (fun j _ => vp_updV_set hl v j)⟩ e2 e3 (hS.put e2 e3 hA)
/-- an index that is a number below n -/
theorem ix {i : Int32} {k n : Nat} (hi : i = nI k) (hk : k < n) (hn : n < 2 ^ 31) : vp_in i n ∧ i.toNatClampNeg = k := by
  subst hi
  exact ⟨vp_in_nI hk hn, nI_clamp (Nat.lt_trans hk hn)⟩
theorem g_ild {n : Nat} {f : Nat → Int32} {i : Int32} (k : Nat) (E : CallFix p m c cc nL s args TB own) (hG : KT G s) (ha : At G a (.inl (G.2.1 1, n, .inl f)) H) (hi : i = nI k) (hk : k < n) (hn : n < 2 ^ 31) (hdg : decode cc pc = .ok (.iaload, 1))
    (kk : W p l e R s m args below meth c H locs cells slots Q (F0 m (pc + 1) ls (.int (f k) :: rest))) : W p l e R s m args below meth c H locs cells slots Q (F0 m pc ls (.int i :: .ref a :: rest)) := by
  obtain ⟨h1, h2⟩ := ix hi hk hn
  refine va_iald E.1 E.2.1 hG.1 ha.P 0 1 rfl rfl h1 hdg ?_
  rw [h2]
  exact kk
theorem g_bld {n : Nat} {f : Nat → Int32} {i : Int32} (k : Nat) (E : CallFix p m c cc nL s args TB own) (hG : KT G s) (ha : At G a (.inl (G.2.1 0, n, .inl f)) H) (hi : i = nI k) (hk : k < n) (hn : n < 2 ^ 31) (hdg : decode cc pc = .ok (.baload, 1))
    (kk : W p l e R s m args below meth c H locs cells slots Q (F0 m (pc + 1) ls (.int (f k) :: rest))) : W p l e R s m args below meth c H locs cells slots Q (F0 m pc ls (.int i :: .ref a :: rest)) := by
  obtain ⟨h1, h2⟩ := ix hi hk hn
  refine va_bald E.1 E.2.1 hG.1 ha.P 0 0 rfl rfl h1 hdg ?_
  rw [h2]
  exact kk
theorem g_lld {n : Nat} {f : Nat → Int64} {i : Int32} (k : Nat) (E : CallFix p m c cc nL s args TB own) (hG : KT G s) (ha : At G a (.inl (G.2.1 2, n, .inr (.inl f))) H) (hi : i = nI k) (hk : k < n) (hn : n < 2 ^ 31) (hdg : decode cc pc = .ok (.laload, 1))
    (kk : W p l e R s m args below meth c H locs cells slots Q (F0 m (pc + 1) ls (.long (f k) :: rest))) : W p l e R s m args below meth c H locs cells slots Q (F0 m pc ls (.int i :: .ref a :: rest)) := by
  obtain ⟨h1, h2⟩ := ix hi hk hn
  refine va_lald E.1 E.2.1 hG.1 ha.P 0 2 rfl rfl h1 hdg ?_
  rw [h2]
  exact kk
theorem g_len {t0 : Nat} {ty : FieldType} {cA : ClassId} {x : vp_A} {v : Int32} (E : CallFix p m c cc nL s args TB own) (hG : KT G s) (ha : At G a (.inl (cA, x)) H) (ht : (tysG G)[t0]? = some (cA, ty)) (hv : Int32.ofNat x.1 = v) (hdg : decode cc pc = .ok (.arraylength, 1))
    (kk : W p l e R s m args below meth c H locs cells slots Q (F0 m (pc + 1) ls (.int v :: rest))) : W p l e R s m args below meth c H locs cells slots Q (F0 m pc ls (.ref a :: rest)) :=
  va_alen E.1 E.2.1 hG.1 ha.P 0 t0 rfl ht hv hdg kk
theorem oth {x : va_E} {b : Nat} {H1 : Heap} (h : At G b x H) (hne : b ≠ a) (oq : ∀ q : Nat, q ≠ a → H1[q]? = H[q]?) : At G b x H1 := va_at.kept h (oq b hne)
end LY
