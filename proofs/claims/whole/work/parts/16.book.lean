/-! THE CLASS: a book and what hangs on it; its readers -/
theorem ite01 {P : Prop} [Decidable P] : ((if P then (0 : Int32) else 1) = 0) = P := by
  by_cases h : P <;> simp [h]
theorem ite10 {P : Prop} [Decidable P] : ((if P then (1 : Int32) else 0) = 0) = ¬ P := by
  by_cases h : P <;> simp [h]
abbrev refA (G : CG) (t n : Nat) (f : Nat → Nat) : va_E := .inl (G.2.1 t, n, .inr (.inr (.inr (.inr (fun j => some (f j))))))
abbrev crF (d : Nat → Int32) (c : Nat) : List Value := [.int (nI c), .int (d (cP c + 10)), .int (d (cP c)), .int (d (cP c + 1)), .int (d (cP c + 2)), .int (d (cP c + 3)), .int (d (cP c + 4)), .int (d (cP c + 5)), .int (d (cP c + 6)), .int (d (cP c + 9)), .int (d (cP c + 7)), .int (d (cP c + 8))]
abbrev prF (d : Nat → Int32) (nh p : Nat) : List Value := [.int (d (pP p)), .int (d (pP p + 1)), .int (d (pP p + 2)), .int (d (pP p + 3)), .int (d (pP p + 4)), .int (dueD d nh p)]
/-- a step of the class's fee rule, as the reference's codes -/
def exS (s : Int32) : List Int32 := if 0 ≤ s then [0, s] else if (-4) < s then [1, (-1) - s] else [(-2) - s]
def exL (L : List Int32) : List Int32 := L.flatMap exS
/-- the height of the stack behind a list of steps, where it never passes 11 -/
def okR : List Int32 → Nat → Option Nat
  | [], h => some h
  | s :: L, h => if (-4) < s then (if h < 11 then okR L (h + 1) else none) else if 2 ≤ h then okR L (h - 1) else none
/-- the fee rule's steps L and the reference's codes in d -/
def FeR (d : Nat → Int32) (L : List Int32) : Prop := d 5 = nI (exL L).length ∧ (exL L).length ≤ 1500 ∧ (∀ j, j < (exL L).length → d (298 + j) = (exL L).getD j 0) ∧ okR L 0 = some 1 ∧ L.length ≤ 900 ∧ ∀ s ∈ L, (-7) ≤ s ∧ s ≤ 9999
def FeeAt (G : CG) (A : Nat → Prop) (fe : Nat) (d : Nat → Int32) (H : Heap) : Prop := ∃ st : Nat, (At G fe (.inr (3, [.ref st])) H ∧ ¬ A fe) ∧ ((d 4 = 0 ∧ st = G.2.2 1) ∨ (d 4 = 1 ∧ ∃ L : List Int32, (At G st (iA G L.length (fun j => L.getD j 0)) H ∧ ¬ A st) ∧ FeR d L))
def BK (G : CG) (A : Nat → Prop) (a : Nat) (d : Nat → Int32) (nc np nh : Nat) (H : Heap) : Prop := ∃ (ca ho fe cr pr : Nat) (cA pA : Nat → Nat), (At G a (.inr (0, [.int (d 3), .ref ca, .ref fe, .ref cr, .ref pr])) H ∧ ¬ A a) ∧ (At G ca (.inr (1, [.ref ho])) H ∧ ¬ A ca) ∧ (At G ho (iA G nh (fun k9 => d (6 + k9))) H ∧ ¬ A ho) ∧ (At G cr (refA G 4 nc cA) H ∧ ¬ A cr) ∧ (At G pr (refA G 5 np pA) H ∧ ¬ A pr) ∧ (∀ c, c < nc → At G (cA c) (.inr (2, crF d c)) H ∧ ¬ A (cA c)) ∧ (∀ p, p < np → At G (pA p) (.inr (5, prF d nh p)) H ∧ ¬ A (pA p)) ∧ FeeAt G A fe d H
theorem im_kept {G : CG} {A : Nat → Prop} {a : Nat} {x : va_E} {H H1 : Heap} (h : At G a x H ∧ ¬ A a) (hq : ∀ q : Nat, q < H.size → ¬ A q → H1[q]? = H[q]?) : At G a x H1 ∧ ¬ A a := ⟨va_at.kept h.1 (hq a (va_at.lt h.1) h.2), h.2⟩
theorem im_nar {G : CG} {A A' : Nat → Prop} {a : Nat} {x : va_E} {H : Heap} (h : At G a x H ∧ ¬ A a) (hA : ∀ q, q < H.size → A' q → A q) : At G a x H ∧ ¬ A' a := ⟨h.1, fun z => h.2 (hA a (va_at.lt h.1) z)⟩
theorem FeeAt.kept {G : CG} {A : Nat → Prop} {fe : Nat} {d : Nat → Int32} {H H1 : Heap} (h : FeeAt G A fe d H) (hq : ∀ q : Nat, q < H.size → ¬ A q → H1[q]? = H[q]?) : FeeAt G A fe d H1 := by
  obtain ⟨st, h1, h2⟩ := h
  refine ⟨st, im_kept h1 hq, ?_⟩
  rcases h2 with h2 | ⟨h2, L, h3, h4⟩
  · exact Or.inl h2
  · exact Or.inr ⟨h2, L, im_kept h3 hq, h4⟩
theorem FeeAt.nar {G : CG} {A A' : Nat → Prop} {fe : Nat} {d : Nat → Int32} {H : Heap} (h : FeeAt G A fe d H) (hA : ∀ q, q < H.size → A' q → A q) : FeeAt G A' fe d H := by
  obtain ⟨st, h1, h2⟩ := h
  refine ⟨st, im_nar h1 hA, ?_⟩
  rcases h2 with h2 | ⟨h2, L, h3, h4⟩
  · exact Or.inl h2
  · exact Or.inr ⟨h2, L, im_nar h3 hA, h4⟩
theorem BK.kept {G : CG} {A : Nat → Prop} {a nc np nh : Nat} {d : Nat → Int32} {H H1 : Heap} (h : BK G A a d nc np nh H) (hq : ∀ q : Nat, q < H.size → ¬ A q → H1[q]? = H[q]?) : BK G A a d nc np nh H1 := by
  obtain ⟨ca, ho, fe, cr, pr, cA, pA, h1, h2, h3, h4, h5, h6, h7, h8⟩ := h
  exact ⟨ca, ho, fe, cr, pr, cA, pA, im_kept h1 hq, im_kept h2 hq, im_kept h3 hq, im_kept h4 hq, im_kept h5 hq, fun c hc => im_kept (h6 c hc) hq, fun p hp => im_kept (h7 p hp) hq, h8.kept hq⟩
theorem BK.nar {G : CG} {A A' : Nat → Prop} {a nc np nh : Nat} {d : Nat → Int32} {H : Heap} (h : BK G A a d nc np nh H) (hA : ∀ q, q < H.size → A' q → A q) : BK G A' a d nc np nh H := by
  obtain ⟨ca, ho, fe, cr, pr, cA, pA, h1, h2, h3, h4, h5, h6, h7, h8⟩ := h
  exact ⟨ca, ho, fe, cr, pr, cA, pA, im_nar h1 hA, im_nar h2 hA, im_nar h3 hA, im_nar h4 hA, im_nar h5 hA, fun c hc => im_nar (h6 c hc) hA, fun p hp => im_nar (h7 p hp) hA, h8.nar hA⟩
section LAS
variable {p : Program} {l : Launch} {e : Env} {R : Room} {s : State} {m : MethodId} {args : Array Value} {below : List Frame} {meth : Method} {c : Code} {H : Heap} {locs : List Loc} {cells slots : Nat} {Q : State → Prop}
variable {cc : ByteArray} {nL : Nat} {own : String} {pc : Nat} {ls : Array Slot} {rest : List Value} {G : CG} {a : Nat}
theorem g_aldS {t0 n : Nat} {C : String} {cA : ClassId} {f : Nat → Nat} {i : Int32} (k : Nat) (ht : (tysG G)[t0]? = some (cA, .object C)) (E : CallFix p m c cc nL s args TB own) (hG : KT G s) (ha : At G a (.inl (cA, n, .inr (.inr (.inr (.inr (fun j => some (f j))))))) H) (hi : i = nI k) (hk : k < n) (hn : n < 2147483648) (hdg : decode cc pc = .ok (.aaload, 1))
    (kk : W p l e R s m args below meth c H locs cells slots Q (F0 m (pc + 1) ls (.ref (f k) :: rest))) : W p l e R s m args below meth c H locs cells slots Q (F0 m pc ls (.int i :: .ref a :: rest)) := g_ald k ht E hG ha hi hk hn hdg kk
end LAS
theorem othT01 (d : Nat → Int32) (c : Int32) (p : Nat) : othT d c p = 0 ∨ othT d c p = 1 := by
  unfold othT
  split
  · exact Or.inl rfl
  · exact Or.inr rfl
theorem othersV_0 {d : Nat → Int32} {c : Int32} : ∀ {n : Nat}, (∀ i, i < n → othT d c i = 0) → othersV d c n = 0
  | 0, _ => rfl
  | n + 1, h => by
    show othersV d c n + othT d c n = 0
    rw [othersV_0 (fun i hi => h i (by omega)), h n (by omega)]
    rfl
theorem othersV_n (d : Nat → Int32) (c : Int32) : ∀ n : Nat, ∃ k, k ≤ n ∧ othersV d c n = nI k ∧ ((∃ i, i < n ∧ othT d c i = 1) → 1 ≤ k)
  | 0 => ⟨0, Nat.le_refl _, rfl, fun ⟨i, h, _⟩ => by omega⟩
  | n + 1 => by
    obtain ⟨k, h1, h2, h3⟩ := othersV_n d c n
    rcases othT01 d c n with h | h
    · refine ⟨k, by omega, by show othersV d c n + othT d c n = _; rw [h, h2]; exact Int32.add_zero _, fun ⟨i, hi, e⟩ => h3 ⟨i, ?_, e⟩⟩
      by_cases e2 : i = n
      · subst e2
        rw [h] at e
        exact absurd e (by decide)
      · omega
    · exact ⟨k + 1, by omega, by show othersV d c n + othT d c n = _; rw [h, h2]; exact nI_1 k, fun _ => by omega⟩
theorem othersV_1 {d : Nat → Int32} {c : Int32} {n k : Nat} (hn : n ≤ 24) (hk : k < n) (h : othT d c k = 1) : ¬ othersV d c n ≤ 0 := by
  obtain ⟨j, h1, h2, h3⟩ := othersV_n d c n
  rw [h2]
  exact nI_nle (h3 ⟨k, hk, h⟩) (by omega)
set_option maxHeartbeats 4000000 in
set_option maxRecDepth 100000 in
/-- has(z) -/
theorem c_X5_has (l : Launch) (G : CG) {q : Nat} {fs : List Value} (y z : Int32) (hf : fs[3]? = some (.int y)) : Rd l yX5_has cX5_has 2 ((Option.some FieldType.boolean)) 0 0 G [.ref q, .int z] (At G q (.inr (5, fs))) (some (.int (if y &&& z = 0 then 0 else 1))) := by
  refine Rd.ofW (by decide) (Nat.le_of_ble_eq_true rfl) (fun p e s m below meth c ls E hG hE hP hr hk hl => ?_)
  have hx := E.1
  have hb := E.2.1
  have hl : lv_has ls 2 [(0, .ref q), (1, .int z)] := hl
  refine lv_aload_n hx hb dX5_has_0 rfl (lv_at hl 0 rfl) ?_
  refine gf_X5_19 E hG hP hf dX5_has_1 ?_
  refine lv_iload_n hx hb dX5_has_4 rfl (lv_at hl 1 rfl) ?_
  refine lv_iand hx hb dX5_has_5 ?_
  refine lv_if_eq (tgt := 13) hx hb dX5_has_6 (by decide) (fun c_6 => ?_) (fun c_6 => ?_)
  · refine lv_iconst (v := 0) hx hb dX5_has_13 rfl ?_
    exact rd_bool E hr hk (by first | (simp only [c_6, ↓reduceIte, not_true_eq_false, not_false_eq_true]; done) | (simp [c_6]; done)) (by first | exact Or.inl rfl | exact Or.inr rfl | (omega)) dX5_has_14
  · refine lv_iconst (v := 1) hx hb dX5_has_9 rfl ?_
    refine lv_goto (tgt := 14) hx hb dX5_has_10 (by decide) ?_
    exact rd_bool E hr hk (by first | (simp only [c_6, ↓reduceIte, not_true_eq_false, not_false_eq_true]; done) | (simp [c_6]; done)) (by first | exact Or.inl rfl | exact Or.inr rfl | (omega)) dX5_has_14

set_option maxHeartbeats 4000000 in
set_option maxRecDepth 100000 in
/-- maximum() -/
theorem c_X2_maximum (l : Launch) (G : CG) {q c9 : Nat} {d : Nat → Int32} : Rd l yX2_maximum cX2_maximum 1 ((Option.some FieldType.int)) 0 0 G [.ref q] (At G q (.inr (2, crF d c9))) (some (.int (mostV d c9))) := by
  refine Rd.ofW (by decide) (Nat.le_of_ble_eq_true rfl) (fun p e s m below meth c ls E hG hE hP hr hk hl => ?_)
  have hx := E.1
  have hb := E.2.1
  have hl : lv_has ls 1 [(0, .ref q)] := hl
  refine lv_aload_n hx hb dX2_maximum_0 rfl (lv_at hl 0 rfl) ?_
  refine gf_X2_16 E hG hP rfl dX2_maximum_1 ?_
  refine lv_aload_n hx hb dX2_maximum_4 rfl (lv_at hl 0 rfl) ?_
  refine gf_X2_16 E hG hP rfl dX2_maximum_5 ?_
  refine lv_aload_n hx hb dX2_maximum_8 rfl (lv_at hl 0 rfl) ?_
  refine gf_X2_19 E hG hP rfl dX2_maximum_9 ?_
  refine lv_imul hx hb dX2_maximum_12 ?_
  refine lv_bipush (v := 100) hx hb dX2_maximum_13 rfl ?_
  refine lv_idiv hx hb dX2_maximum_15 (by decide) ?_
  refine lv_iadd hx hb dX2_maximum_16 ?_
  exact rd_int E hr hk (rfl) dX2_maximum_17

set_option maxHeartbeats 4000000 in
set_option maxRecDepth 100000 in
/-- minimum() -/
theorem c_X2_minimum (l : Launch) (G : CG) {q c9 : Nat} {d : Nat → Int32} : Rd l yX2_minimum cX2_minimum 1 ((Option.some FieldType.int)) 0 0 G [.ref q] (At G q (.inr (2, crF d c9))) (some (.int (leastV d c9))) := by
  refine Rd.ofW (by decide) (Nat.le_of_ble_eq_true rfl) (fun p e s m below meth c ls E hG hE hP hr hk hl => ?_)
  have hx := E.1
  have hb := E.2.1
  have hl : lv_has ls 1 [(0, .ref q)] := hl
  refine lv_aload_n hx hb dX2_minimum_0 rfl (lv_at hl 0 rfl) ?_
  refine gf_X2_16 E hG hP rfl dX2_minimum_1 ?_
  refine lv_aload_n hx hb dX2_minimum_4 rfl (lv_at hl 0 rfl) ?_
  refine gf_X2_16 E hG hP rfl dX2_minimum_5 ?_
  refine lv_aload_n hx hb dX2_minimum_8 rfl (lv_at hl 0 rfl) ?_
  refine gf_X2_22 E hG hP rfl dX2_minimum_9 ?_
  refine lv_imul hx hb dX2_minimum_12 ?_
  refine lv_bipush (v := 100) hx hb dX2_minimum_13 rfl ?_
  refine lv_idiv hx hb dX2_minimum_15 (by decide) ?_
  refine lv_isub hx hb dX2_minimum_16 ?_
  exact rd_int E hr hk (rfl) dX2_minimum_17

set_option maxHeartbeats 4000000 in
set_option maxRecDepth 100000 in
/-- drawnSum -/
theorem c_X0_drawnSum (l : Launch) (G : CG) {a q c9 : Nat} {A : Nat → Prop} {d : Nat → Int32} {nc np nh : Nat} (hp0 : np ≤ 24) : Rd l yX0_drawnSum cX0_drawnSum 7 ((Option.some FieldType.int)) 1 21 G [.ref a, .ref q] (fun H9 => BK G A a d nc np nh H9 ∧ At G q (.inr (2, crF d c9)) H9) (some (.int (drawnV d (nI c9) np))) := by
  refine Rd.ofW (by decide) (Nat.le_of_ble_eq_true rfl) (fun p e s m below meth c ls E hG hE hP hr hk hl => ?_)
  have hx := E.1
  have hb := E.2.1
  have hl : lv_has ls 7 [(0, .ref a), (1, .ref q)] := hl
  obtain ⟨hB, hq⟩ := hP
  obtain ⟨ca, ho, fe, cr, pr, cA, pA, k1, k2, k3, k4, k5, k6, k7, k8⟩ := id hB
  refine lv_iconst (v := 0) hx hb dX0_drawnSum_0 rfl ?_
  refine lv_istore_n (lv' := [(2, .int 0), (0, .ref a), (1, .ref q)]) hx hb dX0_drawnSum_1 rfl hl (by decide) rfl (fun ls hl => ?_)
  refine lv_aload_n hx hb dX0_drawnSum_2 rfl (lv_at hl 1 rfl) ?_
  refine gf_X0_27 E hG k1.1 rfl dX0_drawnSum_3 ?_
  refine lv_astore_n (lv' := [(3, .ref pr), (2, .int 0), (0, .ref a), (1, .ref q)]) hx hb dX0_drawnSum_6 rfl hl (by decide) rfl (fun ls hl => ?_)
  refine lv_aload_n hx hb dX0_drawnSum_7 rfl (lv_at hl 0 rfl) ?_
  refine g_len (t0 := 5) (v := (nI np)) E hG k5.1 rfl rfl dX0_drawnSum_8 ?_
  refine lv_istore (lv' := [(4, .int (nI np)), (3, .ref pr), (2, .int 0), (0, .ref a), (1, .ref q)]) hx hb dX0_drawnSum_9 hl (by decide) rfl (fun ls hl => ?_)
  refine lv_iconst (v := 0) hx hb dX0_drawnSum_11 rfl ?_
  refine lv_ci (y := nI 0) (ixq rfl) ?_
  refine lv_istore (lv' := [(5, .int (nI 0)), (4, .int (nI np)), (3, .ref pr), (2, .int 0), (0, .ref a), (1, .ref q)]) hx hb dX0_drawnSum_12 hl (by decide) rfl (fun ls hl => ?_)
  have loop : ∀ (j k : Nat), (np < k + j) → (k ≤ np) → ∀ ls : Array Slot, lv_has ls 7 [(5, .int (nI k)), (4, .int (nI np)), (3, .ref pr), (2, .int (drawnV d (nI c9) k)), (0, .ref a), (1, .ref q)] → W p l e { frames := 1, cells := 0, slots := 0, locals := 21 } s m ([.ref a, .ref q] : List Value).toArray below meth c s.heap [] 0 0 (RQ below ([.ref a, .ref q] : List Value).toArray s (some (.int (drawnV d (nI c9) np)))) (F0 m 14 ls []) := by
    intro j
    induction j with
    | zero => intro k z1 z2; omega
    | succ j ih =>
      intro k z1 z2 ls hl
      refine lv_iload hx hb dX0_drawnSum_14 (lv_at hl 0 rfl) ?_
      refine lv_iload hx hb dX0_drawnSum_16 (lv_at hl 1 rfl) ?_
      refine lv_icmp_ge (tgt := 76) hx hb dX0_drawnSum_18 (by decide) (fun c_18 => ?_) (fun c_18 => ?_)
      · have c_18 : np ≤ k := (nLE (x := (nI np)) (y := (nI k)) (a := np) (b := k) rfl rfl (by omega) (by omega)).mp c_18
        have e9 : np = k := by omega
        subst e9
        refine lv_iload_n hx hb dX0_drawnSum_76 rfl (lv_at hl 3 rfl) ?_
        exact rd_int E hr hk (rfl) dX0_drawnSum_77
      · have c_18 : ¬ np ≤ k := fun z9 => c_18 ((nLE (x := (nI np)) (y := (nI k)) (a := np) (b := k) rfl rfl (by omega) (by omega)).mpr z9)
        refine W.cutL (nL := 7) (pc := 70) (lv := [(5, .int (nI k)), (4, .int (nI np)), (3, .ref pr), (2, .int (drawnV d (nI c9) (k + 1))), (0, .ref a), (1, .ref q)]) (st := []) (fun K => ?_) (fun ls hl => ?_)
        · refine lv_aload_n hx hb dX0_drawnSum_21 rfl (lv_at hl 2 rfl) ?_
          refine lv_iload hx hb dX0_drawnSum_22 (lv_at hl 0 rfl) ?_
          refine g_aldS (t0 := 5) k rfl E hG k5.1 rfl (by omega) (by omega) dX0_drawnSum_24 ?_
          refine lv_astore (lv' := [(6, .ref (pA k)), (5, .int (nI k)), (4, .int (nI np)), (3, .ref pr), (2, .int (drawnV d (nI c9) k)), (0, .ref a), (1, .ref q)]) hx hb dX0_drawnSum_25 hl (by decide) rfl (fun ls hl => ?_)
          refine lv_aload hx hb dX0_drawnSum_27 (lv_at hl 0 rfl) ?_
          refine lv_ifnull hx hb dX0_drawnSum_29 ?_
          refine lv_aload hx hb dX0_drawnSum_32 (lv_at hl 0 rfl) ?_
          refine gf_X0_50 E hG (k7 k (by omega)).1 rfl dX0_drawnSum_34 ?_
          refine lv_aload_n hx hb dX0_drawnSum_37 rfl (lv_at hl 6 rfl) ?_
          refine gf_X0_53 E hG hq rfl dX0_drawnSum_38 ?_
          refine lv_icmp_ne (tgt := 70) hx hb dX0_drawnSum_41 (by decide) (fun c_41 => ?_) (fun c_41 => ?_)
          · exact K ls (by rw [show drawnV d (nI c9) (k + 1) = (drawnV d (nI c9) k) from (show drawnV d (nI c9) k + drawT d (nI c9) k = (drawnV d (nI c9) k) by simp [drawT, standsV, c_41])]; exact (lv_sub hl [1, 2, 3, 4, 5, 6] rfl))
          · refine lv_aload hx hb dX0_drawnSum_44 (lv_at hl 0 rfl) ?_
            refine gf_X0_56 E hG (k7 k (by omega)).1 rfl dX0_drawnSum_46 ?_
            refine lv_iconst (v := 3) hx hb dX0_drawnSum_49 rfl ?_
            refine lv_icmp_eq (tgt := 70) hx hb dX0_drawnSum_50 (by decide) (fun c_50 => ?_) (fun c_50 => ?_)
            · exact K ls (by rw [show drawnV d (nI c9) (k + 1) = (drawnV d (nI c9) k) from (show drawnV d (nI c9) k + drawT d (nI c9) k = (drawnV d (nI c9) k) by simp [drawT, standsV, c_41, c_50])]; exact (lv_sub hl [1, 2, 3, 4, 5, 6] rfl))
            · refine lv_aload hx hb dX0_drawnSum_53 (lv_at hl 0 rfl) ?_
              refine lv_iconst (v := 4) hx hb dX0_drawnSum_55 rfl ?_
              refine Rd.callV (rest := []) (c_X5_has l G (d (pP k + 3)) 4 rfl) yk_X5_has E km_X0_59 dX0_drawnSum_56 hG hE (k7 k (by omega)).1 (At.recv hG (k7 k (by omega)).1 rfl) rfl rfl hl.1 ⟨Nat.le_of_ble_eq_true rfl, Nat.le_of_ble_eq_true rfl⟩ ⟨Nat.zero_le _, Nat.zero_le _⟩ (Nat.le_of_ble_eq_true rfl) ?_
              refine lv_if_ne (tgt := 70) hx hb dX0_drawnSum_59 (by decide) (fun c_59 => ?_) (fun c_59 => ?_)
              · rw [ite01] at c_59
                exact K ls (by rw [show drawnV d (nI c9) (k + 1) = (drawnV d (nI c9) k) from (show drawnV d (nI c9) k + drawT d (nI c9) k = (drawnV d (nI c9) k) by simp [drawT, standsV, c_41, c_50, c_59])]; exact (lv_sub hl [1, 2, 3, 4, 5, 6] rfl))
              · rw [ite01] at c_59
                refine lv_iload_n hx hb dX0_drawnSum_62 rfl (lv_at hl 4 rfl) ?_
                refine lv_aload hx hb dX0_drawnSum_63 (lv_at hl 0 rfl) ?_
                refine gf_X0_63 E hG (k7 k (by omega)).1 rfl dX0_drawnSum_65 ?_
                refine lv_iadd hx hb dX0_drawnSum_68 ?_
                refine lv_istore_n (lv' := [(2, .int ((drawnV d (nI c9) k) + (d (pP k + 2)))), (6, .ref (pA k)), (5, .int (nI k)), (4, .int (nI np)), (3, .ref pr), (0, .ref a), (1, .ref q)]) hx hb dX0_drawnSum_69 rfl hl (by decide) rfl (fun ls hl => ?_)
                exact K ls (by rw [show drawnV d (nI c9) (k + 1) = ((drawnV d (nI c9) k) + (d (pP k + 2))) from (show drawnV d (nI c9) k + drawT d (nI c9) k = ((drawnV d (nI c9) k) + (d (pP k + 2))) by simp [drawT, standsV, c_41, c_50, c_59])]; exact (lv_sub hl [2, 3, 4, 0, 5, 6] rfl))
        refine lv_iinc (v := (nI (k + 1))) (lv' := [(5, .int (nI (k + 1))), (4, .int (nI np)), (3, .ref pr), (2, .int (drawnV d (nI c9) (k + 1))), (0, .ref a), (1, .ref q)]) hx hb dX0_drawnSum_70 hl (k := 0) rfl (nI_ad rfl rfl) (by decide) rfl (fun ls hl => ?_)
        refine lv_goto (tgt := 14) hx hb dX0_drawnSum_73 (by decide) ?_
        exact ih (k + 1) (by omega) (by omega) ls (lv_sub hl [0, 1, 2, 3, 4, 5] rfl)
  exact loop (np + 1) 0 (by omega) (by omega) ls (lv_sub hl [0, 1, 2, 3, 4, 5] rfl)

set_option maxHeartbeats 4000000 in
set_option maxRecDepth 100000 in
/-- transferredSum -/
theorem c_X0_transferredSum (l : Launch) (G : CG) {a q c9 : Nat} {A : Nat → Prop} {d : Nat → Int32} {nc np nh : Nat} (hc0 : nc ≤ 12) : Rd l yX0_transferredSum cX0_transferredSum 7 ((Option.some FieldType.int)) 0 0 G [.ref a, .ref q] (fun H9 => BK G A a d nc np nh H9 ∧ At G q (.inr (2, crF d c9)) H9) (some (.int (transV d (nI c9) nc))) := by
  refine Rd.ofW (by decide) (Nat.le_of_ble_eq_true rfl) (fun p e s m below meth c ls E hG hE hP hr hk hl => ?_)
  have hx := E.1
  have hb := E.2.1
  have hl : lv_has ls 7 [(0, .ref a), (1, .ref q)] := hl
  obtain ⟨hB, hq⟩ := hP
  obtain ⟨ca, ho, fe, cr, pr, cA, pA, k1, k2, k3, k4, k5, k6, k7, k8⟩ := id hB
  refine lv_iconst (v := 0) hx hb dX0_transferredSum_0 rfl ?_
  refine lv_istore_n (lv' := [(2, .int 0), (0, .ref a), (1, .ref q)]) hx hb dX0_transferredSum_1 rfl hl (by decide) rfl (fun ls hl => ?_)
  refine lv_aload_n hx hb dX0_transferredSum_2 rfl (lv_at hl 1 rfl) ?_
  refine gf_X0_23 E hG k1.1 rfl dX0_transferredSum_3 ?_
  refine lv_astore_n (lv' := [(3, .ref cr), (2, .int 0), (0, .ref a), (1, .ref q)]) hx hb dX0_transferredSum_6 rfl hl (by decide) rfl (fun ls hl => ?_)
  refine lv_aload_n hx hb dX0_transferredSum_7 rfl (lv_at hl 0 rfl) ?_
  refine g_len (t0 := 4) (v := (nI nc)) E hG k4.1 rfl rfl dX0_transferredSum_8 ?_
  refine lv_istore (lv' := [(4, .int (nI nc)), (3, .ref cr), (2, .int 0), (0, .ref a), (1, .ref q)]) hx hb dX0_transferredSum_9 hl (by decide) rfl (fun ls hl => ?_)
  refine lv_iconst (v := 0) hx hb dX0_transferredSum_11 rfl ?_
  refine lv_ci (y := nI 0) (ixq rfl) ?_
  refine lv_istore (lv' := [(5, .int (nI 0)), (4, .int (nI nc)), (3, .ref cr), (2, .int 0), (0, .ref a), (1, .ref q)]) hx hb dX0_transferredSum_12 hl (by decide) rfl (fun ls hl => ?_)
  have loop : ∀ (j k : Nat), (nc < k + j) → (k ≤ nc) → ∀ ls : Array Slot, lv_has ls 7 [(5, .int (nI k)), (4, .int (nI nc)), (3, .ref cr), (2, .int (transV d (nI c9) k)), (0, .ref a), (1, .ref q)] → W p l e { frames := 0, cells := 0, slots := 0, locals := 0 } s m ([.ref a, .ref q] : List Value).toArray below meth c s.heap [] 0 0 (RQ below ([.ref a, .ref q] : List Value).toArray s (some (.int (transV d (nI c9) nc)))) (F0 m 14 ls []) := by
    intro j
    induction j with
    | zero => intro k z1 z2; omega
    | succ j ih =>
      intro k z1 z2 ls hl
      refine lv_iload hx hb dX0_transferredSum_14 (lv_at hl 0 rfl) ?_
      refine lv_iload hx hb dX0_transferredSum_16 (lv_at hl 1 rfl) ?_
      refine lv_icmp_ge (tgt := 58) hx hb dX0_transferredSum_18 (by decide) (fun c_18 => ?_) (fun c_18 => ?_)
      · have c_18 : nc ≤ k := (nLE (x := (nI nc)) (y := (nI k)) (a := nc) (b := k) rfl rfl (by omega) (by omega)).mp c_18
        have e9 : nc = k := by omega
        subst e9
        refine lv_iload_n hx hb dX0_transferredSum_58 rfl (lv_at hl 3 rfl) ?_
        exact rd_int E hr hk (rfl) dX0_transferredSum_59
      · have c_18 : ¬ nc ≤ k := fun z9 => c_18 ((nLE (x := (nI nc)) (y := (nI k)) (a := nc) (b := k) rfl rfl (by omega) (by omega)).mpr z9)
        refine W.cutL (nL := 7) (pc := 52) (lv := [(5, .int (nI k)), (4, .int (nI nc)), (3, .ref cr), (2, .int (transV d (nI c9) (k + 1))), (0, .ref a), (1, .ref q)]) (st := []) (fun K => ?_) (fun ls hl => ?_)
        · refine lv_aload_n hx hb dX0_transferredSum_21 rfl (lv_at hl 2 rfl) ?_
          refine lv_iload hx hb dX0_transferredSum_22 (lv_at hl 0 rfl) ?_
          refine g_aldS (t0 := 4) k rfl E hG k4.1 rfl (by omega) (by omega) dX0_transferredSum_24 ?_
          refine lv_astore (lv' := [(6, .ref (cA k)), (5, .int (nI k)), (4, .int (nI nc)), (3, .ref cr), (2, .int (transV d (nI c9) k)), (0, .ref a), (1, .ref q)]) hx hb dX0_transferredSum_25 hl (by decide) rfl (fun ls hl => ?_)
          refine lv_aload hx hb dX0_transferredSum_27 (lv_at hl 0 rfl) ?_
          refine lv_ifnull hx hb dX0_transferredSum_29 ?_
          refine lv_aload hx hb dX0_transferredSum_32 (lv_at hl 0 rfl) ?_
          refine gf_X0_66 E hG (k6 k (by omega)).1 rfl dX0_transferredSum_34 ?_
          refine lv_aload_n hx hb dX0_transferredSum_37 rfl (lv_at hl 6 rfl) ?_
          refine gf_X0_53 E hG hq rfl dX0_transferredSum_38 ?_
          refine lv_icmp_ne (tgt := 52) hx hb dX0_transferredSum_41 (by decide) (fun c_41 => ?_) (fun c_41 => ?_)
          · exact K ls (by rw [show transV d (nI c9) (k + 1) = (transV d (nI c9) k) from (show transV d (nI c9) k + transT d (nI c9) k = (transV d (nI c9) k) by simp [transT, c_41])]; exact (lv_sub hl [1, 2, 3, 4, 5, 6] rfl))
          · refine lv_iload_n hx hb dX0_transferredSum_44 rfl (lv_at hl 4 rfl) ?_
            refine lv_aload hx hb dX0_transferredSum_45 (lv_at hl 0 rfl) ?_
            refine gf_X0_69 E hG (k6 k (by omega)).1 rfl dX0_transferredSum_47 ?_
            refine lv_iadd hx hb dX0_transferredSum_50 ?_
            refine lv_istore_n (lv' := [(2, .int ((transV d (nI c9) k) + (d (cP k)))), (6, .ref (cA k)), (5, .int (nI k)), (4, .int (nI nc)), (3, .ref cr), (0, .ref a), (1, .ref q)]) hx hb dX0_transferredSum_51 rfl hl (by decide) rfl (fun ls hl => ?_)
            exact K ls (by rw [show transV d (nI c9) (k + 1) = ((transV d (nI c9) k) + (d (cP k))) from (show transV d (nI c9) k + transT d (nI c9) k = ((transV d (nI c9) k) + (d (cP k))) by simp [transT, c_41])]; exact (lv_sub hl [2, 3, 4, 0, 5, 6] rfl))
        refine lv_iinc (v := (nI (k + 1))) (lv' := [(5, .int (nI (k + 1))), (4, .int (nI nc)), (3, .ref cr), (2, .int (transV d (nI c9) (k + 1))), (0, .ref a), (1, .ref q)]) hx hb dX0_transferredSum_52 hl (k := 0) rfl (nI_ad rfl rfl) (by decide) rfl (fun ls hl => ?_)
        refine lv_goto (tgt := 14) hx hb dX0_transferredSum_55 (by decide) ?_
        exact ih (k + 1) (by omega) (by omega) ls (lv_sub hl [0, 1, 2, 3, 4, 5] rfl)
  exact loop (nc + 1) 0 (by omega) (by omega) ls (lv_sub hl [0, 1, 2, 3, 4, 5] rfl)

set_option maxHeartbeats 4000000 in
set_option maxRecDepth 100000 in
/-- availableSum -/
theorem c_X0_availableSum (l : Launch) (G : CG) {a q c9 : Nat} {A : Nat → Prop} {d : Nat → Int32} {nc np nh : Nat} (hp0 : np ≤ 24) (hc0 : nc ≤ 12) : Rd l yX0_availableSum cX0_availableSum 2 ((Option.some FieldType.int)) 2 47 G [.ref a, .ref q] (fun H9 => BK G A a d nc np nh H9 ∧ At G q (.inr (2, crF d c9)) H9) (some (.int (availV d np nc c9))) := by
  refine Rd.ofW (by decide) (Nat.le_of_ble_eq_true rfl) (fun p e s m below meth c ls E hG hE hP hr hk hl => ?_)
  have hx := E.1
  have hb := E.2.1
  have hl : lv_has ls 2 [(0, .ref a), (1, .ref q)] := hl
  obtain ⟨hB, hq⟩ := hP
  obtain ⟨ca, ho, fe, cr, pr, cA, pA, k1, k2, k3, k4, k5, k6, k7, k8⟩ := id hB
  refine lv_aload_n hx hb dX0_availableSum_0 rfl (lv_at hl 1 rfl) ?_
  refine Rd.callV (rest := []) (c_X2_maximum l G) yk_X2_maximum E km_X0_70 dX0_availableSum_1 hG hE hq (At.recv hG hq rfl) rfl rfl hl.1 ⟨Nat.le_of_ble_eq_true rfl, Nat.le_of_ble_eq_true rfl⟩ ⟨Nat.zero_le _, Nat.zero_le _⟩ (Nat.le_of_ble_eq_true rfl) ?_
  refine lv_aload_n hx hb dX0_availableSum_4 rfl (lv_at hl 0 rfl) ?_
  refine lv_aload_n hx hb dX0_availableSum_5 rfl (lv_at hl 1 rfl) ?_
  refine Rd.callV (rest := [.int (mostV d c9)]) (c_X0_drawnSum l G hp0) yk_X0_drawnSum E km_X0_74 dX0_availableSum_6 hG hE ⟨hB, hq⟩ (At.recv hG k1.1 rfl) rfl rfl hl.1 ⟨Nat.le_of_ble_eq_true rfl, Nat.le_of_ble_eq_true rfl⟩ ⟨Nat.zero_le _, Nat.zero_le _⟩ (Nat.le_of_ble_eq_true rfl) ?_
  refine lv_isub hx hb dX0_availableSum_9 ?_
  refine lv_aload_n hx hb dX0_availableSum_10 rfl (lv_at hl 0 rfl) ?_
  refine lv_aload_n hx hb dX0_availableSum_11 rfl (lv_at hl 1 rfl) ?_
  refine Rd.callV (rest := [.int ((mostV d c9) - (drawnV d (nI c9) np))]) (c_X0_transferredSum l G hc0) yk_X0_transferredSum E km_X0_78 dX0_availableSum_12 hG hE ⟨hB, hq⟩ (At.recv hG k1.1 rfl) rfl rfl hl.1 ⟨Nat.le_of_ble_eq_true rfl, Nat.le_of_ble_eq_true rfl⟩ ⟨Nat.zero_le _, Nat.zero_le _⟩ (Nat.le_of_ble_eq_true rfl) ?_
  refine lv_isub hx hb dX0_availableSum_15 ?_
  exact rd_int E hr hk (rfl) dX0_availableSum_16

set_option maxHeartbeats 4000000 in
set_option maxRecDepth 100000 in
/-- isPresentedUnder -/
theorem c_X0_isPresentedUnder (l : Launch) (G : CG) {a q c9 : Nat} {A : Nat → Prop} {d : Nat → Int32} {nc np nh : Nat} (hp0 : np ≤ 24) : Rd l yX0_isPresentedUnder cX0_isPresentedUnder 6 ((Option.some FieldType.boolean)) 0 0 G [.ref a, .ref q] (fun H9 => BK G A a d nc np nh H9 ∧ At G q (.inr (2, crF d c9)) H9) (some (.int (if othersV d (nI c9) np ≤ 0 then 0 else 1))) := by
  refine Rd.ofW (by decide) (Nat.le_of_ble_eq_true rfl) (fun p e s m below meth c ls E hG hE hP hr hk hl => ?_)
  have hx := E.1
  have hb := E.2.1
  have hl : lv_has ls 6 [(0, .ref a), (1, .ref q)] := hl
  obtain ⟨hB, hq⟩ := hP
  obtain ⟨ca, ho, fe, cr, pr, cA, pA, k1, k2, k3, k4, k5, k6, k7, k8⟩ := id hB
  refine lv_aload_n hx hb dX0_isPresentedUnder_0 rfl (lv_at hl 0 rfl) ?_
  refine gf_X0_27 E hG k1.1 rfl dX0_isPresentedUnder_1 ?_
  refine lv_astore_n (lv' := [(2, .ref pr), (0, .ref a), (1, .ref q)]) hx hb dX0_isPresentedUnder_4 rfl hl (by decide) rfl (fun ls hl => ?_)
  refine lv_aload_n hx hb dX0_isPresentedUnder_5 rfl (lv_at hl 0 rfl) ?_
  refine g_len (t0 := 5) (v := (nI np)) E hG k5.1 rfl rfl dX0_isPresentedUnder_6 ?_
  refine lv_istore_n (lv' := [(3, .int (nI np)), (2, .ref pr), (0, .ref a), (1, .ref q)]) hx hb dX0_isPresentedUnder_7 rfl hl (by decide) rfl (fun ls hl => ?_)
  refine lv_iconst (v := 0) hx hb dX0_isPresentedUnder_8 rfl ?_
  refine lv_ci (y := nI 0) (ixq rfl) ?_
  refine lv_istore (lv' := [(4, .int (nI 0)), (3, .int (nI np)), (2, .ref pr), (0, .ref a), (1, .ref q)]) hx hb dX0_isPresentedUnder_9 hl (by decide) rfl (fun ls hl => ?_)
  have loop : ∀ (j k : Nat), (np < k + j) → (k ≤ np) → (∀ i, i < k → othT d (nI c9) i = 0) → ∀ ls : Array Slot, lv_has ls 6 [(4, .int (nI k)), (3, .int (nI np)), (2, .ref pr), (0, .ref a), (1, .ref q)] → W p l e { frames := 0, cells := 0, slots := 0, locals := 0 } s m ([.ref a, .ref q] : List Value).toArray below meth c s.heap [] 0 0 (RQ below ([.ref a, .ref q] : List Value).toArray s (some (.int (if othersV d (nI c9) np ≤ 0 then 0 else 1)))) (F0 m 11 ls []) := by
    intro j
    induction j with
    | zero => intro k z1 z2; omega
    | succ j ih =>
      intro k z1 z2 z3 ls hl
      refine lv_iload hx hb dX0_isPresentedUnder_11 (lv_at hl 0 rfl) ?_
      refine lv_iload_n hx hb dX0_isPresentedUnder_13 rfl (lv_at hl 1 rfl) ?_
      refine lv_icmp_ge (tgt := 57) hx hb dX0_isPresentedUnder_14 (by decide) (fun c_14 => ?_) (fun c_14 => ?_)
      · have c_14 : np ≤ k := (nLE (x := (nI np)) (y := (nI k)) (a := np) (b := k) rfl rfl (by omega) (by omega)).mp c_14
        refine lv_iconst (v := 0) hx hb dX0_isPresentedUnder_57 rfl ?_
        exact rd_bool E hr hk (by rw [if_pos (by rw [othersV_0 (n := np) (fun i h9 => z3 i (by omega))]; decide)]) (by first | exact Or.inl rfl | exact Or.inr rfl | (omega)) dX0_isPresentedUnder_58
      · have c_14 : ¬ np ≤ k := fun z9 => c_14 ((nLE (x := (nI np)) (y := (nI k)) (a := np) (b := k) rfl rfl (by omega) (by omega)).mpr z9)
        refine lv_aload_n hx hb dX0_isPresentedUnder_17 rfl (lv_at hl 2 rfl) ?_
        refine lv_iload hx hb dX0_isPresentedUnder_18 (lv_at hl 0 rfl) ?_
        refine g_aldS (t0 := 5) k rfl E hG k5.1 rfl (by omega) (by omega) dX0_isPresentedUnder_20 ?_
        refine lv_astore (lv' := [(5, .ref (pA k)), (4, .int (nI k)), (3, .int (nI np)), (2, .ref pr), (0, .ref a), (1, .ref q)]) hx hb dX0_isPresentedUnder_21 hl (by decide) rfl (fun ls hl => ?_)
        refine lv_aload hx hb dX0_isPresentedUnder_23 (lv_at hl 0 rfl) ?_
        refine lv_ifnull hx hb dX0_isPresentedUnder_25 ?_
        refine lv_aload hx hb dX0_isPresentedUnder_28 (lv_at hl 0 rfl) ?_
        refine gf_X0_50 E hG (k7 k (by omega)).1 rfl dX0_isPresentedUnder_30 ?_
        refine lv_aload_n hx hb dX0_isPresentedUnder_33 rfl (lv_at hl 5 rfl) ?_
        refine gf_X0_53 E hG hq rfl dX0_isPresentedUnder_34 ?_
        refine lv_icmp_ne (tgt := 51) hx hb dX0_isPresentedUnder_37 (by decide) (fun c_37 => ?_) (fun c_37 => ?_)
        · refine lv_iinc (v := (nI (k + 1))) (lv' := [(4, .int (nI (k + 1))), (5, .ref (pA k)), (3, .int (nI np)), (2, .ref pr), (0, .ref a), (1, .ref q)]) hx hb dX0_isPresentedUnder_51 hl (k := 1) rfl (nI_ad rfl rfl) (by decide) rfl (fun ls hl => ?_)
          refine lv_goto (tgt := 11) hx hb dX0_isPresentedUnder_54 (by decide) ?_
          exact ih (k + 1) (by omega) (by omega) (lt_s z3 (by simp [othT, standsV, c_37])) ls (lv_sub hl [0, 2, 3, 4, 5] rfl)
        · refine lv_aload hx hb dX0_isPresentedUnder_40 (lv_at hl 0 rfl) ?_
          refine gf_X0_56 E hG (k7 k (by omega)).1 rfl dX0_isPresentedUnder_42 ?_
          refine lv_iconst (v := 3) hx hb dX0_isPresentedUnder_45 rfl ?_
          refine lv_icmp_eq (tgt := 51) hx hb dX0_isPresentedUnder_46 (by decide) (fun c_46 => ?_) (fun c_46 => ?_)
          · refine lv_iinc (v := (nI (k + 1))) (lv' := [(4, .int (nI (k + 1))), (5, .ref (pA k)), (3, .int (nI np)), (2, .ref pr), (0, .ref a), (1, .ref q)]) hx hb dX0_isPresentedUnder_51 hl (k := 1) rfl (nI_ad rfl rfl) (by decide) rfl (fun ls hl => ?_)
            refine lv_goto (tgt := 11) hx hb dX0_isPresentedUnder_54 (by decide) ?_
            exact ih (k + 1) (by omega) (by omega) (lt_s z3 (by simp [othT, standsV, c_37, c_46])) ls (lv_sub hl [0, 2, 3, 4, 5] rfl)
          · refine lv_iconst (v := 1) hx hb dX0_isPresentedUnder_49 rfl ?_
            exact rd_bool E hr hk (by rw [if_neg (fun z9 => othersV_1 hp0 (k := k) (by omega) (show othT d (nI c9) k = 1 by simp [othT, standsV, c_37, c_46]) z9)]) (by first | exact Or.inl rfl | exact Or.inr rfl | (omega)) dX0_isPresentedUnder_50
  exact loop (np + 1) 0 (by omega) (by omega) (fun i h9 => by omega) ls (lv_sub hl [0, 1, 2, 3, 4] rfl)
