/-! COPIES of arrays -/
theorem kq_82 : Cond.initialized "java/lang/System" ∈ TB := TB_of (List.mem_of_getElem? (i := 82) (by decide +kernel)) rfl
theorem kq_321 : Cond.sameMethod "[B" "java/lang/Object" "clone" "()Ljava/lang/Object;" ∈ TB := TB_of (List.mem_of_getElem? (i := 321) (by decide +kernel)) rfl
theorem kq_322 : Cond.native ⟨"java/lang/Object", "clone", "()Ljava/lang/Object;"⟩ ∈ TB := TB_of (List.mem_of_getElem? (i := 322) (by decide +kernel)) rfl
theorem kq_323 : Cond.instanceMethod ⟨"java/lang/Object", "clone", "()Ljava/lang/Object;"⟩ ∈ TB := TB_of (List.mem_of_getElem? (i := 323) (by decide +kernel)) rfl
theorem kq_324 : Cond.selects "[B" ⟨"[B", "clone", "()Ljava/lang/Object;"⟩ ⟨"java/lang/Object", "clone", "()Ljava/lang/Object;"⟩ ∈ TB := TB_of (List.mem_of_getElem? (i := 324) (by decide +kernel)) rfl
theorem kq_331 : Cond.static arraycopyName ∈ TB := TB_of (List.mem_of_getElem? (i := 331) (by decide +kernel)) rfl
theorem kq_332 : Cond.native arraycopyName ∈ TB := TB_of (List.mem_of_getElem? (i := 332) (by decide +kernel)) rfl
theorem kq_481 : Cond.sameMethod "[I" "java/lang/Object" "clone" "()Ljava/lang/Object;" ∈ TB := TB_of (List.mem_of_getElem? (i := 481) (by decide +kernel)) rfl
theorem kq_482 : Cond.selects "[I" ⟨"[I", "clone", "()Ljava/lang/Object;"⟩ ⟨"java/lang/Object", "clone", "()Ljava/lang/Object;"⟩ ∈ TB := TB_of (List.mem_of_getElem? (i := 482) (by decide +kernel)) rfl
section CPY
variable {p : Program} {l : Launch} {e : Env} {R : Room} {s : State} {m : MethodId} {args : Array Value} {below : List Frame} {meth : Method} {c : Code} {H : Heap} {locs : List Loc} {cells slots : Nat} {Q : State → Prop}
variable {cc : ByteArray} {nL : Nat} {own : String} {pc : Nat} {ls : Array Slot} {rest : List Value} {G : CG} {a : Nat} {H0 : Heap} {A : Nat → Prop} {sz : Nat}
theorem At.P2 {b : Nat} {x y : va_E} (h1 : At G a x H) (h2 : At G b y H) : va_P G.1 vwCl [(a, x), (b, y)] H := fun k q hk => by
  match k, hk with
  | 0, hk => cases hk; exact h1
  | 1, hk => cases hk; exact h2
  | k + 2, hk => cases hk
theorem At.D2 {b : Nat} {x y : va_E} (hne : a ≠ b) (h1 : A a) (h2 : A b) : va_D A [(a, x), (b, y)] := by
  constructor
  · intro i j p q hi hj e
    match i, j, hi, hj with
    | 0, 0, _, _ => rfl
    | 1, 1, _, _ => rfl
    | 0, 1, hi, hj => cases hi; cases hj; exact absurd e hne
    | 1, 0, hi, hj => cases hi; cases hj; exact absurd e.symm hne
    | i + 2, _, hi, _ => cases hi
    | _, j + 2, _, hj => cases hj
  · intro k q hk
    match k, hk with
    | 0, hk => cases hk; exact h1
    | 1, hk => cases hk; exact h2
    | k + 2, hk => cases hk
theorem n_clone {ad : String} {index t0 : Nat} {ty : FieldType} {cA : ClassId} {x : vp_A} (ht : (tysG G)[t0]? = some (cA, ty)) (k1 : Cond.methodLink own index ⟨ad, "clone", "()Ljava/lang/Object;"⟩ ∈ TB) (k2 : Cond.sameMethod ad "java/lang/Object" "clone" "()Ljava/lang/Object;" ∈ TB) (k5 : Cond.selects ad ⟨ad, "clone", "()Ljava/lang/Object;"⟩ ⟨"java/lang/Object", "clone", "()Ljava/lang/Object;"⟩ ∈ TB) (hcl : va_Nw (.castable ad "java/lang/Cloneable") s) (hnm : s.vm.findClass ad = some cA)
    (E : CallFix p m c cc nL s args TB own) (hG : KT G s) (ha : At G a (.inl (cA, x)) H) (hAa : A a) (hS : va_S A H0 H locs) (hA : ∀ q, H0.size ≤ q → A q) (hfit : ∀ (i : Nat) (v : Value), (vp_cell cA x).slots[i]? = some v → fits ty v = true) (hl : ls.size = nL) (hframes : 1 ≤ R.frames) (hlocals : (rest.map fun v => v.category).sum + 14 ≤ R.locals) (hcells : cells + 1 ≤ R.cells) (hslots : slots + x.1 ≤ R.slots) (hdg : decode cc pc = .ok (.invokevirtual index, 3))
    (kk : ∀ (b : Nat) (H1 : Heap), A b → b ≠ a → At G a (.inl (cA, x)) H1 → At G b (.inl (cA, x)) H1 → va_S A H0 H1 locs → W p l e R s m args below meth c H1 locs (cells + 1) (slots + x.1) Q (F0 m (pc + 3) ls (.ref b :: rest))) : W p l e R s m args below meth c H locs cells slots Q (F0 m pc ls (.ref a :: rest)) :=
  va_clone E.1 E.2.1 (E.2.2.1.trans hl.symm) E.2.2.2.1 (E.2.2.2.2 _ k1) (E.2.2.2.2 _ k2) (E.2.2.2.2 _ kq_322) (E.2.2.2.2 _ kq_323) (E.2.2.2.2 _ k5) hcl hG.1 ha.P (At.D1 hAa) hS hA 0 t0 rfl ht hnm hfit hframes hlocals hcells hslots hdg (fun q H1 _ hP hD hS => kk q H1 (hD.2 1 _ rfl) (fun z => absurd (hD.1 1 0 _ _ rfl rfl z) (by decide)) (hP 0 _ rfl) (hP 1 _ rfl) hS)
theorem g_cpy {index t0 b n0 n1 k : Nat} {ty : FieldType} {cA : ClassId} {f g : Nat → Int32} {z : Int32} (ht : (tysG G)[t0]? = some (cA, ty)) (hprim : refKind ty = false) (k1 : Cond.methodLink own index arraycopyName ∈ TB) (E : CallFix p m c cc nL s args TB own) (hG : KT G s) (ha : At G a (.inl (cA, n0, .inl f)) H) (hb : At G b (.inl (cA, n1, .inl g)) H) (hne : a ≠ b) (hAa : A a) (hAb : A b) (hS : va_S A H0 H locs) (hz : z = nI k) (hk : k < 2 ^ 31) (h4 : k ≤ n0) (h5 : k ≤ n1) (hfit : ∀ i, i < k → fits ty (.int (f i)) = true) (hl : ls.size = nL) (hframes : 1 ≤ R.frames) (hlocals : (rest.map fun v => v.category).sum + (nativeFrameWords "java/lang/System" "arraycopy" 5 + 11) ≤ R.locals) (hdg : decode cc pc = .ok (.invokestatic index, 3))
    (kk : ∀ (H1 : Heap) (locs1 : List Loc), At G a (.inl (cA, n0, .inl f)) H1 → At G b (.inl (cA, n1, .inl (fun j => if j < k then f j else g j))) H1 → va_S A H0 H1 locs1 → W p l e R s m args below meth c H1 locs1 cells slots Q (F0 m (pc + 3) ls rest)) : W p l e R s m args below meth c H locs cells slots Q (F0 m pc ls (.int z :: .int 0 :: .ref b :: .int 0 :: .ref a :: rest)) := by
  have e0 : (0 : Int32).toNatClampNeg = 0 := by decide +kernel
  have ez : z.toNatClampNeg = k := by rw [hz]; exact nI_clamp hk
  refine va_copyi E.1 E.2.1 (E.2.2.1.trans hl.symm) E.2.2.2.1 (E.2.2.2.2 _ k1) (E.2.2.2.2 _ kq_332) (E.2.2.2.2 _ kq_331) (E.2.2.2.2 _ kq_82) hG.1 (ha.P2 hb) (At.D2 hne hAa hAb) hS 0 1 t0 t0 rfl rfl ht ht hprim (by decide) (by decide) (by rw [hz]; exact nI_pos hk) (by rw [e0, ez]; omega) (by rw [e0, ez]; omega) (fun i hi => by rw [e0, Nat.zero_add]; rw [ez] at hi; exact hfit i hi) hframes hlocals hdg (fun H1 locs1 hP _ hS => ?_)
  have h1 : At G b (.inl (cA, n1, .inl (va_cpy f g (0 : Int32).toNatClampNeg (0 : Int32).toNatClampNeg z.toNatClampNeg))) H1 := hP 1 _ rfl
  have e1 : va_cpy f g (0 : Int32).toNatClampNeg (0 : Int32).toNatClampNeg z.toNatClampNeg = fun j => if j < k then f j else g j := by
    funext j
    unfold va_cpy
    rw [e0, ez]
    by_cases h : j < k
    · rw [if_pos h, if_pos (by omega), Nat.zero_add, Nat.sub_zero]
    · rw [if_neg h, if_neg (by omega)]
  rw [e1] at h1
  exact kk H1 locs1 (hP 0 _ rfl) h1 hS
end CPY
theorem At.congrB {G : CG} {a n t : Nat} {f g : Nat → Int32} {H : Heap} (h : At G a (.inl (G.2.1 t, n, .inl f)) H) (e : ∀ j, j < n → f j = g j) : At G a (.inl (G.2.1 t, n, .inl g)) H := by
  show H[a]? = some (vp_cell _ _)
  have h : H[a]? = some (vp_cell _ _) := h
  rw [h]
  congr 1
  show arrV (G.2.1 t) n (fun j => Value.int (f j)) = arrV (G.2.1 t) n (fun j => Value.int (g j))
  unfold arrV
  congr 1
  apply Array.ext
  · simp
  · intro i h1 h2
    simp at h1
    simp [e i h1]
theorem fit_b {cA : ClassId} {n : Nat} {f : Nat → Int32} {ty : FieldType} (h : ∀ j, fits ty (.int (f j)) = true) : ∀ (i : Nat) (v : Value), (vp_cell cA (n, .inl f)).slots[i]? = some v → fits ty v = true := by
  intro i v hv
  have hv : (arrV cA n (fun j => Value.int (f j))).slots[i]? = some v := hv
  by_cases hi : i < n
  · rw [arrV_read _ _ hi] at hv
    cases hv
    exact h i
  · rw [Array.getElem?_eq_none (by rw [arrV_size]; omega)] at hv
    cases hv
set_option maxHeartbeats 4000000 in
set_option maxRecDepth 100000 in
/-- copyOf -/
theorem c_J7_copyOf_9075b (l : Launch) (G : CG) {a sz n : Nat} {f : Nat → Int32} (hn9 : n ≤ 900) (hft : ∀ j, fits .byte (.int (f j)) = true) (m9 : Nat) (hm9 : m9 ≤ 900) : Wr l yJ7_copyOf_9075b cJ7_copyOf_9075b 3 ((Option.some (FieldType.array FieldType.byte))) 1 60 1 m9 G [.ref a, .int (nI m9)] (fun H9 => H9.size = sz ∧ At G a (.inl (G.2.1 0, n, .inl f)) H9) (fun q9 => q9 = a ∨ sz ≤ q9) (fun v9 H9 => ∃ b, v9 = some (.ref b) ∧ sz ≤ b ∧ At G a (.inl (G.2.1 0, n, .inl f)) H9 ∧ At G b (.inl (G.2.1 0, m9, .inl (fun j => if j < n then f j else 0))) H9) := by
  refine Wr.ofW (by decide) (Nat.le_of_ble_eq_true rfl) (fun p e s m below meth c ls E hG hE hP hr hk hin hl => ?_)
  have hS : va_S (fun q9 => q9 = a ∨ sz ≤ q9) s.heap s.heap [] := va_S.rf
  have hx := E.1
  have hb := E.2.1
  have hl : lv_has ls 3 [(0, .ref a), (1, .int (nI m9))] := hl
  obtain ⟨hz0, f_a⟩ := hP
  refine lv_iload_n hx hb dJ7_copyOf_9075b_0 rfl (lv_at hl 1 rfl) ?_
  refine lv_aload_n hx hb dJ7_copyOf_9075b_1 rfl (lv_at hl 0 rfl) ?_
  refine g_len (t0 := 0) (v := (nI n)) E hG f_a rfl rfl dJ7_copyOf_9075b_2 ?_
  refine lv_icmp_ne (tgt := 14) hx hb dJ7_copyOf_9075b_3 (by decide) (fun c_3 => ?_) (fun c_3 => ?_)
  · have c_3 : ¬ m9 = n := fun z9 => c_3 ((nEQ (x := (nI m9)) (y := (nI n)) (a := m9) (b := n) rfl rfl (by omega) (by omega)).mpr z9)
    refine lv_iload_n hx hb dJ7_copyOf_9075b_14 rfl (lv_at hl 1 rfl) ?_
    refine n_newa (atype := .byte) (N := m9) (x := (m9, .inl (fun _ => 0))) (t0 := 0) rfl ka_byte (by exact Or.inr (Or.inr rfl)) rfl E hG hS (Nat.le_of_eq hz0.symm) rfl (by omega) (show 0 + 1 ≤ 1 by omega) (show 0 + m9 ≤ m9 by omega) dJ7_copyOf_9075b_15 (fun b_1 H hb_1 hg_1 f_1 hz oq hS => ?_)
    have ne_a_b_1 : a ≠ b_1 := fun z9 => absurd (va_at.lt f_a) (by rw [z9, hb_1]; exact Nat.lt_irrefl _)
    have f_a : At G a (.inl (G.2.1 0, n, .inl f)) H := olt f_a oq
    refine lv_astore_n (lv' := [(2, .ref b_1), (0, .ref a), (1, .int (nI m9))]) hx hb dJ7_copyOf_9075b_17 rfl hl (by decide) rfl (fun ls hl => ?_)
    refine lv_aload_n hx hb dJ7_copyOf_9075b_18 rfl (lv_at hl 1 rfl) ?_
    refine lv_iconst (v := 0) hx hb dJ7_copyOf_9075b_19 rfl ?_
    refine lv_aload_n hx hb dJ7_copyOf_9075b_20 rfl (lv_at hl 0 rfl) ?_
    refine lv_iconst (v := 0) hx hb dJ7_copyOf_9075b_21 rfl ?_
    refine lv_aload_n hx hb dJ7_copyOf_9075b_22 rfl (lv_at hl 1 rfl) ?_
    refine g_len (t0 := 0) (v := (nI n)) E hG f_a rfl rfl dJ7_copyOf_9075b_23 ?_
    refine lv_iload_n hx hb dJ7_copyOf_9075b_24 rfl (lv_at hl 2 rfl) ?_
    refine g_mmin (rest := [.int 0, .ref b_1, .int 0, .ref a]) E km_J7_304 dJ7_copyOf_9075b_25 (Nat.le_of_ble_eq_true rfl) (Nat.le_of_ble_eq_true rfl) ⟨(show 0 + 1 ≤ 1 by omega), (show 0 + m9 ≤ m9 by omega)⟩ hl.1 ?_
    refine lv_ci (y := nI (min n m9)) (jmin_nI (by omega) (by omega)) ?_
    refine g_cpy (t0 := 0) (k := min n m9) rfl rfl km_J7_150 E hG f_a f_1 ne_a_b_1 (Or.inl rfl) (Or.inr hg_1) hS rfl (by omega) (by omega) (by omega) (fun i9 _ => hft i9) hl.1 (Nat.le_of_ble_eq_true rfl) (show 0 + (nativeFrameWords "java/lang/System" "arraycopy" 5 + 11) ≤ 60 by decide +kernel) dJ7_copyOf_9075b_28 (fun H locs f_a f_1 hS => ?_)
    refine lv_aload_n hx hb dJ7_copyOf_9075b_31 rfl (lv_at hl 0 rfl) ?_
    exact wr_ref E hr (by first | exact Or.inl ⟨_, rfl⟩ | exact Or.inr ⟨_, rfl⟩) hk hS (show 0 + 1 ≤ 1 by omega) (show 0 + m9 ≤ m9 by omega) (⟨b_1, rfl, hg_1, f_a, At.congrB f_1 (fun j9 h9 => by by_cases h8 : j9 < n; (rw [if_pos h8, if_pos (by omega)]); (rw [if_neg h8, if_neg (by omega)]))⟩) dJ7_copyOf_9075b_32
  · have c_3 : m9 = n := (nEQ (x := (nI m9)) (y := (nI n)) (a := m9) (b := n) rfl rfl (by omega) (by omega)).mp c_3
    have c_3 : m9 = n := c_3
    subst c_3
    refine lv_aload_n hx hb dJ7_copyOf_9075b_6 rfl (lv_at hl 0 rfl) ?_
    refine n_clone (t0 := 0) (x := (m9, .inl f)) rfl km_J7_310 kq_321 kq_324 hG.2.2.2.2.1.2.1 (hG.1.2 0 _ rfl).2 E hG f_a (Or.inl rfl) hS (fun q9 h9 => Or.inr (by rw [← hz0]; exact h9)) (fit_b hft) hl.1 (Nat.le_of_ble_eq_true rfl) (Nat.le_of_ble_eq_true rfl) (show 0 + 1 ≤ 1 by omega) (show 0 + m9 ≤ m9 by omega) dJ7_copyOf_9075b_7 (fun b_1 H hAb hne f_a f_1 hS => ?_)
    refine va_castA hx hb E.2.2.2.1 (E.2.2.2.2 _ kl_J7_311) f_1.P 0 rfl (hG.1.2 0 _ rfl).2 dJ7_copyOf_9075b_10 ?_
    exact wr_ref E hr (by first | exact Or.inl ⟨_, rfl⟩ | exact Or.inr ⟨_, rfl⟩) hk hS (show 0 + 1 ≤ 1 by omega) (show 0 + m9 ≤ m9 by omega) (⟨b_1, rfl, hAb.resolve_left hne, f_a, At.congrB f_1 (fun j9 h9 => (if_pos h9).symm)⟩) dJ7_copyOf_9075b_13

set_option maxHeartbeats 4000000 in
set_option maxRecDepth 100000 in
/-- copyOf -/
theorem c_J7_copyOf_59c91 (l : Launch) (G : CG) {a sz n : Nat} {f : Nat → Int32} (hn9 : n ≤ 900) (hft : ∀ j, fits .int (.int (f j)) = true) (m9 : Nat) (hm9 : m9 ≤ 900) : Wr l yJ7_copyOf_59c91 cJ7_copyOf_59c91 3 ((Option.some (FieldType.array FieldType.int))) 1 60 1 m9 G [.ref a, .int (nI m9)] (fun H9 => H9.size = sz ∧ At G a (.inl (G.2.1 1, n, .inl f)) H9) (fun q9 => q9 = a ∨ sz ≤ q9) (fun v9 H9 => ∃ b, v9 = some (.ref b) ∧ sz ≤ b ∧ At G a (.inl (G.2.1 1, n, .inl f)) H9 ∧ At G b (.inl (G.2.1 1, m9, .inl (fun j => if j < n then f j else 0))) H9) := by
  refine Wr.ofW (by decide) (Nat.le_of_ble_eq_true rfl) (fun p e s m below meth c ls E hG hE hP hr hk hin hl => ?_)
  have hS : va_S (fun q9 => q9 = a ∨ sz ≤ q9) s.heap s.heap [] := va_S.rf
  have hx := E.1
  have hb := E.2.1
  have hl : lv_has ls 3 [(0, .ref a), (1, .int (nI m9))] := hl
  obtain ⟨hz0, f_a⟩ := hP
  refine lv_iload_n hx hb dJ7_copyOf_59c91_0 rfl (lv_at hl 1 rfl) ?_
  refine lv_aload_n hx hb dJ7_copyOf_59c91_1 rfl (lv_at hl 0 rfl) ?_
  refine g_len (t0 := 1) (v := (nI n)) E hG f_a rfl rfl dJ7_copyOf_59c91_2 ?_
  refine lv_icmp_ne (tgt := 14) hx hb dJ7_copyOf_59c91_3 (by decide) (fun c_3 => ?_) (fun c_3 => ?_)
  · have c_3 : ¬ m9 = n := fun z9 => c_3 ((nEQ (x := (nI m9)) (y := (nI n)) (a := m9) (b := n) rfl rfl (by omega) (by omega)).mpr z9)
    refine lv_iload_n hx hb dJ7_copyOf_59c91_14 rfl (lv_at hl 1 rfl) ?_
    refine n_newa (atype := .int) (N := m9) (x := (m9, .inl (fun _ => 0))) (t0 := 1) rfl ka_int (by exact Or.inl rfl) rfl E hG hS (Nat.le_of_eq hz0.symm) rfl (by omega) (show 0 + 1 ≤ 1 by omega) (show 0 + m9 ≤ m9 by omega) dJ7_copyOf_59c91_15 (fun b_1 H hb_1 hg_1 f_1 hz oq hS => ?_)
    have ne_a_b_1 : a ≠ b_1 := fun z9 => absurd (va_at.lt f_a) (by rw [z9, hb_1]; exact Nat.lt_irrefl _)
    have f_a : At G a (.inl (G.2.1 1, n, .inl f)) H := olt f_a oq
    refine lv_astore_n (lv' := [(2, .ref b_1), (0, .ref a), (1, .int (nI m9))]) hx hb dJ7_copyOf_59c91_17 rfl hl (by decide) rfl (fun ls hl => ?_)
    refine lv_aload_n hx hb dJ7_copyOf_59c91_18 rfl (lv_at hl 1 rfl) ?_
    refine lv_iconst (v := 0) hx hb dJ7_copyOf_59c91_19 rfl ?_
    refine lv_aload_n hx hb dJ7_copyOf_59c91_20 rfl (lv_at hl 0 rfl) ?_
    refine lv_iconst (v := 0) hx hb dJ7_copyOf_59c91_21 rfl ?_
    refine lv_aload_n hx hb dJ7_copyOf_59c91_22 rfl (lv_at hl 1 rfl) ?_
    refine g_len (t0 := 1) (v := (nI n)) E hG f_a rfl rfl dJ7_copyOf_59c91_23 ?_
    refine lv_iload_n hx hb dJ7_copyOf_59c91_24 rfl (lv_at hl 2 rfl) ?_
    refine g_mmin (rest := [.int 0, .ref b_1, .int 0, .ref a]) E km_J7_304 dJ7_copyOf_59c91_25 (Nat.le_of_ble_eq_true rfl) (Nat.le_of_ble_eq_true rfl) ⟨(show 0 + 1 ≤ 1 by omega), (show 0 + m9 ≤ m9 by omega)⟩ hl.1 ?_
    refine lv_ci (y := nI (min n m9)) (jmin_nI (by omega) (by omega)) ?_
    refine g_cpy (t0 := 1) (k := min n m9) rfl rfl km_J7_150 E hG f_a f_1 ne_a_b_1 (Or.inl rfl) (Or.inr hg_1) hS rfl (by omega) (by omega) (by omega) (fun i9 _ => hft i9) hl.1 (Nat.le_of_ble_eq_true rfl) (show 0 + (nativeFrameWords "java/lang/System" "arraycopy" 5 + 11) ≤ 60 by decide +kernel) dJ7_copyOf_59c91_28 (fun H locs f_a f_1 hS => ?_)
    refine lv_aload_n hx hb dJ7_copyOf_59c91_31 rfl (lv_at hl 0 rfl) ?_
    exact wr_ref E hr (by first | exact Or.inl ⟨_, rfl⟩ | exact Or.inr ⟨_, rfl⟩) hk hS (show 0 + 1 ≤ 1 by omega) (show 0 + m9 ≤ m9 by omega) (⟨b_1, rfl, hg_1, f_a, At.congrB f_1 (fun j9 h9 => by by_cases h8 : j9 < n; (rw [if_pos h8, if_pos (by omega)]); (rw [if_neg h8, if_neg (by omega)]))⟩) dJ7_copyOf_59c91_32
  · have c_3 : m9 = n := (nEQ (x := (nI m9)) (y := (nI n)) (a := m9) (b := n) rfl rfl (by omega) (by omega)).mp c_3
    have c_3 : m9 = n := c_3
    subst c_3
    refine lv_aload_n hx hb dJ7_copyOf_59c91_6 rfl (lv_at hl 0 rfl) ?_
    refine n_clone (t0 := 1) (x := (m9, .inl f)) rfl km_J7_316 kq_481 kq_482 hG.2.2.2.2.1.2.2 (hG.1.2 1 _ rfl).2 E hG f_a (Or.inl rfl) hS (fun q9 h9 => Or.inr (by rw [← hz0]; exact h9)) (fit_b hft) hl.1 (Nat.le_of_ble_eq_true rfl) (Nat.le_of_ble_eq_true rfl) (show 0 + 1 ≤ 1 by omega) (show 0 + m9 ≤ m9 by omega) dJ7_copyOf_59c91_7 (fun b_1 H hAb hne f_a f_1 hS => ?_)
    refine va_castA hx hb E.2.2.2.1 (E.2.2.2.2 _ kl_J7_317) f_1.P 0 rfl (hG.1.2 1 _ rfl).2 dJ7_copyOf_59c91_10 ?_
    exact wr_ref E hr (by first | exact Or.inl ⟨_, rfl⟩ | exact Or.inr ⟨_, rfl⟩) hk hS (show 0 + 1 ≤ 1 by omega) (show 0 + m9 ≤ m9 by omega) (⟨b_1, rfl, hAb.resolve_left hne, f_a, At.congrB f_1 (fun j9 h9 => (if_pos h9).symm)⟩) dJ7_copyOf_59c91_13
