/-! THE LAYER, second part: stores, new cells, references in arrays -/
section LZ
variable {p : Program} {l : Launch} {e : Env} {R : Room} {s : State} {m : MethodId} {args : Array Value} {below : List Frame} {meth : Method} {c : Code} {H : Heap} {locs : List Loc} {cells slots : Nat} {Q : State → Prop}
variable {cc : ByteArray} {nL : Nat} {own : String} {pc : Nat} {ls : Array Slot} {rest : List Value} {G : CG} {a : Nat} {H0 : Heap} {A : Nat → Prop}
theorem g_ist {n : Nat} {f : Nat → Int32} {i x : Int32} (k : Nat) (E : CallFix p m c cc nL s args TB own) (hG : KT G s) (ha : At G a (.inl (G.2.1 1, n, .inl f)) H) (hi : i = nI k) (hk : k < n) (hn : n < 2 ^ 31) (hS : va_S A H0 H locs) (hA : A a) (hdg : decode cc pc = .ok (.iastore, 1))
    (kk : ∀ (H1 : Heap) (locs1 : List Loc), At G a (.inl (G.2.1 1, n, .inl (upd f k x))) H1 → H1.size = H.size → (∀ q : Nat, q ≠ a → H1[q]? = H[q]?) → va_S A H0 H1 locs1 → W p l e R s m args below meth c H1 locs1 cells slots Q (F0 m (pc + 1) ls rest)) : W p l e R s m args below meth c H locs cells slots Q (F0 m pc ls (.int x :: .int i :: .ref a :: rest)) := by
  obtain ⟨h1, h2⟩ := ix hi hk hn
  refine W.iast E.1 E.2.1 ha ((hG.1.2 1 _ rfl).1 n (fun j => .int (f j))) (fun q => by cases q) (by show ¬ (i < 0 ∨ (arrV _ _ _).slots.size ≤ _); rw [arrV_size]; exact h1) rfl rfl hdg fun H1 e z oq => ?_
  refine kk H1 _ ?_ z oq (hS.put z oq hA)
  show H1[a]? = some (vp_cell _ _)
  rw [e, h2]
  rw [vp_cell_i, vp_cell_i, arrV_store]
  congr 2
  funext q
  by_cases hq : q = k
  · subst hq
    simp [updV, upd]
  · simp [updV, upd, hq]
theorem g_bst {n : Nat} {f : Nat → Int32} {i x : Int32} (k : Nat) (E : CallFix p m c cc nL s args TB own) (hG : KT G s) (ha : At G a (.inl (G.2.1 0, n, .inl f)) H) (hi : i = nI k) (hk : k < n) (hn : n < 2 ^ 31) (hS : va_S A H0 H locs) (hA : A a) (hdg : decode cc pc = .ok (.bastore, 1))
    (kk : ∀ (H1 : Heap) (locs1 : List Loc), At G a (.inl (G.2.1 0, n, .inl (upd f k x.toInt8.toInt32))) H1 → H1.size = H.size → (∀ q : Nat, q ≠ a → H1[q]? = H[q]?) → va_S A H0 H1 locs1 → W p l e R s m args below meth c H1 locs1 cells slots Q (F0 m (pc + 1) ls rest)) : W p l e R s m args below meth c H locs cells slots Q (F0 m pc ls (.int x :: .int i :: .ref a :: rest)) := by
  obtain ⟨h1, h2⟩ := ix hi hk hn
  refine W.bast E.1 E.2.1 ha ((hG.1.2 0 _ rfl).1 n (fun j => .int (f j))) (fun q => by cases q) (by show ¬ (i < 0 ∨ (arrV _ _ _).slots.size ≤ _); rw [arrV_size]; exact h1) rfl rfl hdg fun H1 e z oq => ?_
  refine kk H1 _ ?_ z oq (hS.put z oq hA)
  show H1[a]? = some (vp_cell _ _)
  rw [e, h2]
  rw [vp_cell_i, vp_cell_i, arrV_store]
  congr 2
  funext q
  by_cases hq : q = k
  · subst hq
    simp [updV, upd]
    try rfl
  · simp [updV, upd, hq]
theorem g_lst {n : Nat} {f : Nat → Int64} {i : Int32} {x : Int64} (k : Nat) (E : CallFix p m c cc nL s args TB own) (hG : KT G s) (ha : At G a (.inl (G.2.1 2, n, .inr (.inl f))) H) (hi : i = nI k) (hk : k < n) (hn : n < 2 ^ 31) (hS : va_S A H0 H locs) (hA : A a) (hdg : decode cc pc = .ok (.lastore, 1))
    (kk : ∀ (H1 : Heap) (locs1 : List Loc), At G a (.inl (G.2.1 2, n, .inr (.inl (vp_updL f k x)))) H1 → H1.size = H.size → (∀ q : Nat, q ≠ a → H1[q]? = H[q]?) → va_S A H0 H1 locs1 → W p l e R s m args below meth c H1 locs1 cells slots Q (F0 m (pc + 1) ls rest)) : W p l e R s m args below meth c H locs cells slots Q (F0 m pc ls (.long x :: .int i :: .ref a :: rest)) := by
  obtain ⟨h1, h2⟩ := ix hi hk hn
  refine W.last E.1 E.2.1 ha ((hG.1.2 2 _ rfl).1 n (fun j => .long (f j))) (fun q => by cases q) (by show ¬ (i < 0 ∨ (arrV _ _ _).slots.size ≤ _); rw [arrV_size]; exact h1) rfl rfl hdg fun H1 e z oq => ?_
  refine kk H1 _ ?_ z oq (hS.put z oq hA)
  show H1[a]? = some (vp_cell _ _)
  rw [e, h2]
  rw [vp_cell_l, vp_cell_l, arrV_store]
  congr 2
  funext q
  by_cases hq : q = k
  · subst hq
    simp [updV, vp_updL]
  · simp [updV, vp_updL, hq]
/-- a reference out of an array of references -/
theorem g_ald {t0 n : Nat} {C : String} {cA : ClassId} {f : Nat → Option Nat} {i : Int32} (k : Nat) (ht : (tysG G)[t0]? = some (cA, .object C)) (E : CallFix p m c cc nL s args TB own) (hG : KT G s) (ha : At G a (.inl (cA, n, .inr (.inr (.inr (.inr f))))) H) (hi : i = nI k) (hk : k < n) (hn : n < 2 ^ 31) (hdg : decode cc pc = .ok (.aaload, 1))
    (kk : W p l e R s m args below meth c H locs cells slots Q (F0 m (pc + 1) ls (va_rf (f k) :: rest))) : W p l e R s m args below meth c H locs cells slots Q (F0 m pc ls (.int i :: .ref a :: rest)) := by
  obtain ⟨h1, h2⟩ := ix hi hk hn
  refine va_aldq E.1 E.2.1 hG.1 ha.P 0 t0 rfl ht h1 hdg ?_
  rw [h2]
  exact kk
theorem g_ast {t0 n ci v : Nat} {r : vw_C} {cA : ClassId} {f : Nat → Option Nat} {vs : List Value} {i : Int32} (k : Nat) (ht : (tysG G)[t0]? = some (cA, .object r.1)) (hc : vwCl[ci]? = some r) (E : CallFix p m c cc nL s args TB own) (hG : KT G s) (ha : At G a (.inl (cA, n, .inr (.inr (.inr (.inr f))))) H) (hv : At G v (.inr (ci, vs)) H) (hi : i = nI k) (hk : k < n) (hn : n < 2 ^ 31) (hS : va_S A H0 H locs) (hA : A a) (hdg : decode cc pc = .ok (.aastore, 1))
    (kk : ∀ (H1 : Heap) (locs1 : List Loc), At G a (.inl (cA, n, .inr (.inr (.inr (.inr (va_up f k (some v))))))) H1 → H1.size = H.size → (∀ q : Nat, q ≠ a → H1[q]? = H[q]?) → va_S A H0 H1 locs1 → W p l e R s m args below meth c H1 locs1 cells slots Q (F0 m (pc + 1) ls rest)) : W p l e R s m args below meth c H locs cells slots Q (F0 m pc ls (.ref v :: .int i :: .ref a :: rest)) := by
  obtain ⟨h1, h2⟩ := ix hi hk hn
  have hlt : i.toNatClampNeg < n := Nat.not_le.mp fun q => h1 (Or.inr q)
  have h0 : ¬ i < 0 := fun q => h1 (Or.inl q)
  obtain ⟨r', hr', cellV, g1, g2, g3, -⟩ := hv
  have hcls := (hG.1.1 ci r hc).2
  obtain ⟨kA, comp, k1, k2, k3, -⟩ := (hG.1.2 t0 _ ht).2
  have hcomp : comp = G.1.1 ci := Option.some.inj (k3.symm.trans hcls.1)
  subst hcomp
  obtain ⟨kC, hkC, -⟩ := hcls.2
  refine W.aast E.1 E.2.1 ha (fun q h => by cases h) (fun h => by cases h) k1 k2 rfl hkC ⟨h0, by show _ < (arrV _ _ _).slots.size; rw [arrV_size]; exact hlt⟩ g1 (fun q h => by rw [g3] at h; cases h) (by rw [g2]; exact hkC) (by rw [g2]; exact va_assign hcls) rfl rfl hdg fun H1 e z oq => ?_
  refine kk H1 _ ?_ z oq (hS.put z oq hA)
  show H1[a]? = some (vp_cell _ _)
  rw [e, h2]
  rw [vp_cell_q, vp_cell_q, arrV_store]
  congr 2
  funext q
  by_cases hq : q = k
  · subst hq
    simp [updV, va_up, va_rf]
  · simp [updV, va_up, hq]
/-- a new object at the heap's end -/
theorem g_new {C : String} {T : u_T} {N ci index : Nat} {fs : List Value} {ty : Nat → FieldType} (hin : ∀ w ∈ u_ws C T N, w ∈ TB) (hty : ∀ k, k < N → parseFieldDescriptor (T k).2.2.1 = some (ty k)) (hc : vwCl[ci]? = some (C, T, N)) (hcl : Cond.classLink own index C ∈ TB) (hinst : Cond.instantiable C N ∈ TB) (hini : Cond.initialized C ∈ TB) (hfs : ∀ j, j < N → defaultValue (ty j) = vp_V fs j)
    (E : CallFix p m c cc nL s args TB own) (hG : KT G s) (hS : va_S A H0 H locs) (hcells : cells + 1 ≤ R.cells) (hslots : slots + N ≤ R.slots) (hdg : decode cc pc = .ok (.new index, 3))
    (kk : ∀ H1 : Heap, At G H.size (.inr (ci, fs)) H1 → H1.size = H.size + 1 → (∀ q : Nat, q < H.size → H1[q]? = H[q]?) → va_S A H0 H1 locs → W p l e R s m args below meth c H1 locs (cells + 1) (slots + N) Q (F0 m (pc + 3) ls (.ref H.size :: rest))) : W p l e R s m args below meth c H locs cells slots Q (F0 m pc ls rest) := by
  have hKn := hG.1.1 ci _ hc
  refine W.newcK E.1 E.2.1 E.2.2.2.1 (E.2.2.2.2 _ hcl) (E.2.2.2.2 _ hinst) (E.2.2.2.2 _ hini) rfl hdg hcells hslots hKn.2.1 rfl fun H1 kC hkC e1 z1 o1 => ?_
  exact kk H1 ⟨_, hc, (u_born ty E.2.2.2.2 hin hKn hkC e1 hty).to hfs⟩ z1 o1 ⟨Nat.le_trans hS.1 (by omega), fun x h1 h2 => (o1 x (Nat.lt_of_lt_of_le h1 hS.1)).trans (hS.2.1 x h1 h2), hS.2.2⟩
/-- a new array of numbers at the heap's end -/
theorem g_newa {atype : ArrayType} {t0 : Nat} {cA : ClassId} {n : Int32} {N : Nat} {x : vp_A} (ht : (tysG G)[t0]? = some (cA, newarray.typeOf atype)) (harr : Cond.arrayClass (newarray.typeOf atype) ∈ TB) (hra : newarray.typeOf atype = .int ∨ newarray.typeOf atype = .long ∨ newarray.typeOf atype = .byte) (hx : vp_cell cA x = arrV cA N (fun _ => defaultValue (newarray.typeOf atype)))
    (E : CallFix p m c cc nL s args TB own) (hG : KT G s) (hS : va_S A H0 H locs) (hn : n = nI N) (hN : N ≤ 65536) (hcells : cells + 1 ≤ R.cells) (hslots : slots + N ≤ R.slots) (hdg : decode cc pc = .ok (.newarray atype, 2))
    (kk : ∀ H1 : Heap, At G H.size (.inl (cA, x)) H1 → H1.size = H.size + 1 → (∀ q : Nat, q < H.size → H1[q]? = H[q]?) → va_S A H0 H1 locs → W p l e R s m args below meth c H1 locs (cells + 1) (slots + N) Q (F0 m (pc + 2) ls (.ref H.size :: rest))) : W p l e R s m args below meth c H locs cells slots Q (F0 m pc ls (.int n :: rest)) := by
  subst hn
  have h31 : N < 2 ^ 31 := Nat.lt_of_le_of_lt hN (by decide)
  refine va_newaK (atype := atype) (N := N) (h := H.size) E.1 E.2.1 (E.2.2.2.2 _ harr) rfl hdg rfl (nI_pos h31) (nI_clamp h31) ?_ hcells hslots rfl fun H1 cA' e1 z1 o1 _ hf => ?_
  · rcases hra with h | h | h <;> rw [h] <;> show N * _ ≤ _ <;> simp only [componentBytes] <;> omega
  · have hcA : cA' = cA := by
      have h2 := (hG.1.2 t0 _ ht).2
      rcases hra with h | h | h <;> (rw [h] at h2 hf; exact Option.some.inj (hf.symm.trans h2))
    subst hcA
    exact kk H1 (by show H1[H.size]? = some (vp_cell cA' x); rw [hx]; exact e1) z1 o1 ⟨Nat.le_trans hS.1 (by omega), fun x h1 h2 => (o1 x (Nat.lt_of_lt_of_le h1 hS.1)).trans (hS.2.1 x h1 h2), hS.2.2⟩
/-- a new array of references at the heap's end -/
theorem g_newq {C : String} {t0 index : Nat} {cA : ClassId} {n : Int32} {N : Nat} (ht : (tysG G)[t0]? = some (cA, .object C)) (hcl : Cond.classLink own index C ∈ TB) (hov : va_AO C s) (E : CallFix p m c cc nL s args TB own) (hG : KT G s) (hS : va_S A H0 H locs) (hn : n = nI N) (hN : N ≤ 65536) (hcells : cells + 1 ≤ R.cells) (hslots : slots + N ≤ R.slots) (hdg : decode cc pc = .ok (.anewarray index, 3))
    (kk : ∀ H1 : Heap, At G H.size (.inl (cA, N, .inr (.inr (.inr (.inr (fun _ => none)))))) H1 → H1.size = H.size + 1 → (∀ q : Nat, q < H.size → H1[q]? = H[q]?) → va_S A H0 H1 locs → W p l e R s m args below meth c H1 locs (cells + 1) (slots + N) Q (F0 m (pc + 3) ls (.ref H.size :: rest))) : W p l e R s m args below meth c H locs cells slots Q (F0 m pc ls (.int n :: rest)) := by
  subst hn
  have h31 : N < 2 ^ 31 := Nat.lt_of_le_of_lt hN (by decide)
  refine W.anew E.1 E.2.1 E.2.2.2.1 (E.2.2.2.2 _ hcl) (va_AO.use hov) rfl hdg rfl (nI_pos h31) (by rw [nI_clamp h31]; omega) hcells (by rw [nI_clamp h31]; exact hslots) fun cA' kA comp f1 f2 f3 f4 => ?_
  have hcA : cA' = cA := by
    obtain ⟨kA2, comp2, g1, g2, g3, g4⟩ := (hG.1.2 t0 _ ht).2
    exact Option.some.inj (f1.symm.trans g4)
  subst hcA
  rw [nI_clamp h31]
  refine kk _ ?_ (by simp) (fun q hq => by rw [Array.getElem?_push, if_neg (Nat.ne_of_lt hq)]) ⟨Nat.le_trans hS.1 (by simp), fun x h1 h2 => by rw [Array.getElem?_push, if_neg (Nat.ne_of_lt (Nat.lt_of_lt_of_le h1 hS.1))]; exact hS.2.1 x h1 h2, hS.2.2⟩
  show (H.push _)[H.size]? = some (vp_cell _ _)
  rw [vp_cell_q, ← arrV_new]
  simp [va_rf]
theorem olt {x : va_E} {b : Nat} {H1 : Heap} (h : At G b x H) (oq : ∀ q : Nat, q < H.size → H1[q]? = H[q]?) : At G b x H1 := va_at.kept h (oq b (va_at.lt h))
end LZ
