/-! READING: the class's words, numbers, symbols -/
set_option maxHeartbeats 4000000 in
set_option maxRecDepth 100000 in
/-- isWord -/
theorem c_X6_isWord_y (l : Launch) (G : CG) {x bk tx fs : Nat} {er es vv fg fc : Int32} {bf : Nat → Int32} (hB : ByO bf) (n : Nat) (hn9 : n ≤ 900) (s9 : Nat) (hs9 : s9 ≤ n) {j : Nat} {w : List Int32} (hT : IsT G j w) (hA9 : IsA w) (hw9 : w.length < 1000) (hL9 : IsL w) (hW9 : isW bf n s9 w) : Rd l yX6_isWord cX6_isWord 4 ((Option.some FieldType.boolean)) 4 85 G [.ref x, .ref (G.2.2 (10 + j))] (fun H9 => At G x (.inr (6, rdF er es bk tx (kd bf n s9) (nI s9) (nI (te bf n s9)) vv fg fs fc)) H9 ∧ At G tx (bA G n (sB bf)) H9) (some (.int 1)) := by
  refine Rd.ofW (by decide) (Nat.le_of_ble_eq_true rfl) (fun p e s m below meth c ls E hG hE hP hr hk hl => ?_)
  have hx := E.1
  have hb := E.2.1
  have hl : lv_has ls 4 [(0, .ref x), (1, .ref (G.2.2 (10 + j)))] := hl
  have htb := te_b hB hs9
  rw [isW_iff hB hL9] at hW9
  refine lv_aload_n hx hb dX6_isWord_0 rfl (lv_at hl 0 rfl) ?_
  refine gf_X6_39 E hG hP.1 rfl dX6_isWord_1 ?_
  refine lv_sipush (v := 1002) hx hb dX6_isWord_4 rfl ?_
  refine lv_icmp_ne (tgt := 26) hx hb dX6_isWord_7 (by decide) (fun c_7 => ?_) (fun c_7 => ?_)
  · exact (by rw [hW9.1] at c_7; exact absurd c_7 (by decide))
  refine lv_aload_n hx hb dX6_isWord_10 rfl (lv_at hl 0 rfl) ?_
  refine gf_X6_206 E hG hP.1 rfl dX6_isWord_11 ?_
  refine lv_aload_n hx hb dX6_isWord_14 rfl (lv_at hl 0 rfl) ?_
  refine gf_X6_209 E hG hP.1 rfl dX6_isWord_15 ?_
  refine lv_isub hx hb dX6_isWord_18 ?_
  refine lv_ci (y := nI (te bf n s9 - s9)) (pk_sub htb.1) ?_
  refine lv_aload_n hx hb dX6_isWord_19 rfl (lv_at hl 1 rfl) ?_
  refine Rd.callV (rest := [.int (nI (te bf n s9 - s9))]) (c_J0_length_8abf5 l G hT hw9) yk_J0_length_8abf5 E km_X6_212 dX6_isWord_20 hG hE trivial (va_O.rcv (hT _ _ hE).1) rfl rfl hl.1 ⟨Nat.le_of_ble_eq_true rfl, Nat.le_of_ble_eq_true rfl⟩ ⟨Nat.zero_le _, Nat.zero_le _⟩ (Nat.le_of_ble_eq_true rfl) ?_
  refine lv_icmp_eq (tgt := 28) hx hb dX6_isWord_23 (by decide) (fun c_23 => ?_) (fun c_23 => ?_)
  · have c_23 : te bf n s9 - s9 = w.length := (nEQ (x := (nI (te bf n s9 - s9))) (y := (nI w.length)) (a := te bf n s9 - s9) (b := w.length) rfl rfl (by omega) (by omega)).mp c_23
    refine lv_iconst (v := 0) hx hb dX6_isWord_28 rfl ?_
    refine lv_ci (y := nI 0) (ixq rfl) ?_
    refine lv_istore_n (lv' := [(2, .int (nI 0)), (0, .ref x), (1, .ref (G.2.2 (10 + j)))]) hx hb dX6_isWord_29 rfl hl (by decide) rfl (fun ls hl => ?_)
    have loop : ∀ (k i : Nat), (w.length < i + k) → (i ≤ w.length) → ((∀ a, a < i → sB bf (s9 + a) = w.getD a 0)) → ∀ ls : Array Slot, lv_has ls 4 [(2, .int (nI i)), (0, .ref x), (1, .ref (G.2.2 (10 + j)))] → W p l e { frames := 4, cells := 0, slots := 0, locals := 85 } s m ([.ref x, .ref (G.2.2 (10 + j))] : List Value).toArray below meth c s.heap [] 0 0 (RQ below ([.ref x, .ref (G.2.2 (10 + j))] : List Value).toArray s (some (.int 1))) (F0 m 30 ls []) := by
      intro k
      induction k with
      | zero => intro i z1 z2; omega
      | succ k ih =>
        intro i z1 z2 z3 ls hl
        refine lv_iload_n hx hb dX6_isWord_30 rfl (lv_at hl 0 rfl) ?_
        refine lv_aload_n hx hb dX6_isWord_31 rfl (lv_at hl 2 rfl) ?_
        refine Rd.callV (rest := [.int (nI i)]) (c_J0_length_8abf5 l G hT hw9) yk_J0_length_8abf5 E km_X6_212 dX6_isWord_32 hG hE trivial (va_O.rcv (hT _ _ hE).1) rfl rfl hl.1 ⟨Nat.le_of_ble_eq_true rfl, Nat.le_of_ble_eq_true rfl⟩ ⟨Nat.zero_le _, Nat.zero_le _⟩ (Nat.le_of_ble_eq_true rfl) ?_
        refine lv_icmp_ge (tgt := 80) hx hb dX6_isWord_35 (by decide) (fun c_35 => ?_) (fun c_35 => ?_)
        · have c_35 : w.length ≤ i := (nLE (x := (nI w.length)) (y := (nI i)) (a := w.length) (b := i) rfl rfl (by omega) (by omega)).mp c_35
          refine lv_iconst (v := 1) hx hb dX6_isWord_80 rfl ?_
          exact rd_bool E hr hk (rfl) (by first | exact Or.inl rfl | exact Or.inr rfl | (omega)) dX6_isWord_81
        · have c_35 : ¬ w.length ≤ i := fun z9 => c_35 ((nLE (x := (nI w.length)) (y := (nI i)) (a := w.length) (b := i) rfl rfl (by omega) (by omega)).mpr z9)
          refine lv_aload_n hx hb dX6_isWord_38 rfl (lv_at hl 1 rfl) ?_
          refine gf_X6_209 E hG hP.1 rfl dX6_isWord_39 ?_
          refine lv_iload_n hx hb dX6_isWord_42 rfl (lv_at hl 0 rfl) ?_
          refine lv_iadd hx hb dX6_isWord_43 ?_
          refine lv_ci (y := nI (s9 + i)) (ixq (nI_ad rfl rfl)) ?_
          refine lv_istore_n (lv' := [(3, .int (nI (s9 + i))), (2, .int (nI i)), (0, .ref x), (1, .ref (G.2.2 (10 + j)))]) hx hb dX6_isWord_44 rfl hl (by decide) rfl (fun ls hl => ?_)
          refine lv_iload_n hx hb dX6_isWord_45 rfl (lv_at hl 0 rfl) ?_
          refine lv_if_lt (tgt := 72) hx hb dX6_isWord_46 (by decide) (fun c_46 => ?_) (fun c_46 => ?_)
          · exact absurd c_46 (nI_pos (by omega))
          refine lv_iload_n hx hb dX6_isWord_49 rfl (lv_at hl 0 rfl) ?_
          refine lv_aload_n hx hb dX6_isWord_50 rfl (lv_at hl 2 rfl) ?_
          refine gf_X6_9 E hG hP.1 rfl dX6_isWord_51 ?_
          refine g_len (t0 := 0) (v := (nI n)) E hG hP.2 rfl rfl dX6_isWord_54 ?_
          refine lv_icmp_ge (tgt := 72) hx hb dX6_isWord_55 (by decide) (fun c_55 => ?_) (fun c_55 => ?_)
          · have c_55 : n ≤ (s9 + i) := (nLE (x := (nI n)) (y := (nI (s9 + i))) (a := n) (b := (s9 + i)) rfl rfl (by omega) (by omega)).mp c_55
            exact absurd c_55 (by omega)
          · have c_55 : ¬ n ≤ (s9 + i) := fun z9 => c_55 ((nLE (x := (nI n)) (y := (nI (s9 + i))) (a := n) (b := (s9 + i)) rfl rfl (by omega) (by omega)).mpr z9)
            refine lv_aload_n hx hb dX6_isWord_58 rfl (lv_at hl 2 rfl) ?_
            refine gf_X6_9 E hG hP.1 rfl dX6_isWord_59 ?_
            refine lv_iload_n hx hb dX6_isWord_62 rfl (lv_at hl 0 rfl) ?_
            refine g_bld (s9 + i) E hG hP.2 rfl (by omega) (by omega) dX6_isWord_63 ?_
            refine lv_aload_n hx hb dX6_isWord_64 rfl (lv_at hl 3 rfl) ?_
            refine lv_iload_n hx hb dX6_isWord_65 rfl (lv_at hl 1 rfl) ?_
            refine Rd.callV (rest := [.int ((sB bf) (s9 + i))]) (c_J0_charAt_5068e l G hT hA9 hw9 (nI i) i rfl (by omega)) yk_J0_charAt_5068e E km_X6_217 dX6_isWord_66 hG hE trivial (va_O.rcv (hT _ _ hE).1) rfl rfl hl.1 ⟨Nat.le_of_ble_eq_true rfl, Nat.le_of_ble_eq_true rfl⟩ ⟨Nat.zero_le _, Nat.zero_le _⟩ (Nat.le_of_ble_eq_true rfl) ?_
            refine lv_icmp_eq (tgt := 74) hx hb dX6_isWord_69 (by decide) (fun c_69 => ?_) (fun c_69 => ?_)
            · refine lv_iinc (v := (nI (i + 1))) (lv' := [(2, .int (nI (i + 1))), (3, .int (nI (s9 + i))), (0, .ref x), (1, .ref (G.2.2 (10 + j)))]) hx hb dX6_isWord_74 hl (k := 1) rfl (nI_ad rfl rfl) (by decide) rfl (fun ls hl => ?_)
              refine lv_goto (tgt := 30) hx hb dX6_isWord_77 (by decide) ?_
              exact ih (i + 1) (by omega) (by omega) (fun a h1 => by by_cases h2 : a = i; (rw [h2]; exact c_69); (exact z3 a (by omega))) ls (lv_sub hl [0, 2, 3] rfl)
            · exact absurd (hW9.2.2 i (by omega)) c_69
    exact loop (w.length + 1) 0 (by omega) (by omega) (fun a h1 => absurd h1 (Nat.not_lt_zero a)) ls (lv_sub hl [0, 1, 2] rfl)
  · have c_23 : ¬ te bf n s9 - s9 = w.length := fun z9 => c_23 ((nEQ (x := (nI (te bf n s9 - s9))) (y := (nI w.length)) (a := te bf n s9 - s9) (b := w.length) rfl rfl (by omega) (by omega)).mpr z9)
    exact absurd (show te bf n s9 - s9 = w.length by have := hW9.2.1; omega) c_23

set_option maxHeartbeats 4000000 in
set_option maxRecDepth 100000 in
/-- isWord -/
theorem c_X6_isWord_n (l : Launch) (G : CG) {x bk tx fs : Nat} {er es vv fg fc : Int32} {bf : Nat → Int32} (hB : ByO bf) (n : Nat) (hn9 : n ≤ 900) (s9 : Nat) (hs9 : s9 ≤ n) {j : Nat} {w : List Int32} (hT : IsT G j w) (hA9 : IsA w) (hw9 : w.length < 1000) (hL9 : IsL w) (hW9 : ¬ isW bf n s9 w) : Rd l yX6_isWord cX6_isWord 4 ((Option.some FieldType.boolean)) 4 85 G [.ref x, .ref (G.2.2 (10 + j))] (fun H9 => At G x (.inr (6, rdF er es bk tx (kd bf n s9) (nI s9) (nI (te bf n s9)) vv fg fs fc)) H9 ∧ At G tx (bA G n (sB bf)) H9) (some (.int 0)) := by
  refine Rd.ofW (by decide) (Nat.le_of_ble_eq_true rfl) (fun p e s m below meth c ls E hG hE hP hr hk hl => ?_)
  have hx := E.1
  have hb := E.2.1
  have hl : lv_has ls 4 [(0, .ref x), (1, .ref (G.2.2 (10 + j)))] := hl
  have htb := te_b hB hs9
  rw [isW_iff hB hL9] at hW9
  refine lv_aload_n hx hb dX6_isWord_0 rfl (lv_at hl 0 rfl) ?_
  refine gf_X6_39 E hG hP.1 rfl dX6_isWord_1 ?_
  refine lv_sipush (v := 1002) hx hb dX6_isWord_4 rfl ?_
  refine lv_icmp_ne (tgt := 26) hx hb dX6_isWord_7 (by decide) (fun c_7 => ?_) (fun c_7 => ?_)
  · refine lv_iconst (v := 0) hx hb dX6_isWord_26 rfl ?_
    exact rd_bool E hr hk (rfl) (by first | exact Or.inl rfl | exact Or.inr rfl | (omega)) dX6_isWord_27
  · refine lv_aload_n hx hb dX6_isWord_10 rfl (lv_at hl 0 rfl) ?_
    refine gf_X6_206 E hG hP.1 rfl dX6_isWord_11 ?_
    refine lv_aload_n hx hb dX6_isWord_14 rfl (lv_at hl 0 rfl) ?_
    refine gf_X6_209 E hG hP.1 rfl dX6_isWord_15 ?_
    refine lv_isub hx hb dX6_isWord_18 ?_
    refine lv_ci (y := nI (te bf n s9 - s9)) (pk_sub htb.1) ?_
    refine lv_aload_n hx hb dX6_isWord_19 rfl (lv_at hl 1 rfl) ?_
    refine Rd.callV (rest := [.int (nI (te bf n s9 - s9))]) (c_J0_length_8abf5 l G hT hw9) yk_J0_length_8abf5 E km_X6_212 dX6_isWord_20 hG hE trivial (va_O.rcv (hT _ _ hE).1) rfl rfl hl.1 ⟨Nat.le_of_ble_eq_true rfl, Nat.le_of_ble_eq_true rfl⟩ ⟨Nat.zero_le _, Nat.zero_le _⟩ (Nat.le_of_ble_eq_true rfl) ?_
    refine lv_icmp_eq (tgt := 28) hx hb dX6_isWord_23 (by decide) (fun c_23 => ?_) (fun c_23 => ?_)
    · have c_23 : te bf n s9 - s9 = w.length := (nEQ (x := (nI (te bf n s9 - s9))) (y := (nI w.length)) (a := te bf n s9 - s9) (b := w.length) rfl rfl (by omega) (by omega)).mp c_23
      refine lv_iconst (v := 0) hx hb dX6_isWord_28 rfl ?_
      refine lv_ci (y := nI 0) (ixq rfl) ?_
      refine lv_istore_n (lv' := [(2, .int (nI 0)), (0, .ref x), (1, .ref (G.2.2 (10 + j)))]) hx hb dX6_isWord_29 rfl hl (by decide) rfl (fun ls hl => ?_)
      have loop : ∀ (k i : Nat), (w.length < i + k) → (i ≤ w.length) → ((∀ a, a < i → sB bf (s9 + a) = w.getD a 0)) → ∀ ls : Array Slot, lv_has ls 4 [(2, .int (nI i)), (0, .ref x), (1, .ref (G.2.2 (10 + j)))] → W p l e { frames := 4, cells := 0, slots := 0, locals := 85 } s m ([.ref x, .ref (G.2.2 (10 + j))] : List Value).toArray below meth c s.heap [] 0 0 (RQ below ([.ref x, .ref (G.2.2 (10 + j))] : List Value).toArray s (some (.int 0))) (F0 m 30 ls []) := by
        intro k
        induction k with
        | zero => intro i z1 z2; omega
        | succ k ih =>
          intro i z1 z2 z3 ls hl
          refine lv_iload_n hx hb dX6_isWord_30 rfl (lv_at hl 0 rfl) ?_
          refine lv_aload_n hx hb dX6_isWord_31 rfl (lv_at hl 2 rfl) ?_
          refine Rd.callV (rest := [.int (nI i)]) (c_J0_length_8abf5 l G hT hw9) yk_J0_length_8abf5 E km_X6_212 dX6_isWord_32 hG hE trivial (va_O.rcv (hT _ _ hE).1) rfl rfl hl.1 ⟨Nat.le_of_ble_eq_true rfl, Nat.le_of_ble_eq_true rfl⟩ ⟨Nat.zero_le _, Nat.zero_le _⟩ (Nat.le_of_ble_eq_true rfl) ?_
          refine lv_icmp_ge (tgt := 80) hx hb dX6_isWord_35 (by decide) (fun c_35 => ?_) (fun c_35 => ?_)
          · have c_35 : w.length ≤ i := (nLE (x := (nI w.length)) (y := (nI i)) (a := w.length) (b := i) rfl rfl (by omega) (by omega)).mp c_35
            exact absurd ⟨c_7, by omega, fun a h1 => z3 a (by omega)⟩ hW9
          · have c_35 : ¬ w.length ≤ i := fun z9 => c_35 ((nLE (x := (nI w.length)) (y := (nI i)) (a := w.length) (b := i) rfl rfl (by omega) (by omega)).mpr z9)
            refine lv_aload_n hx hb dX6_isWord_38 rfl (lv_at hl 1 rfl) ?_
            refine gf_X6_209 E hG hP.1 rfl dX6_isWord_39 ?_
            refine lv_iload_n hx hb dX6_isWord_42 rfl (lv_at hl 0 rfl) ?_
            refine lv_iadd hx hb dX6_isWord_43 ?_
            refine lv_ci (y := nI (s9 + i)) (ixq (nI_ad rfl rfl)) ?_
            refine lv_istore_n (lv' := [(3, .int (nI (s9 + i))), (2, .int (nI i)), (0, .ref x), (1, .ref (G.2.2 (10 + j)))]) hx hb dX6_isWord_44 rfl hl (by decide) rfl (fun ls hl => ?_)
            refine lv_iload_n hx hb dX6_isWord_45 rfl (lv_at hl 0 rfl) ?_
            refine lv_if_lt (tgt := 72) hx hb dX6_isWord_46 (by decide) (fun c_46 => ?_) (fun c_46 => ?_)
            · exact absurd c_46 (nI_pos (by omega))
            refine lv_iload_n hx hb dX6_isWord_49 rfl (lv_at hl 0 rfl) ?_
            refine lv_aload_n hx hb dX6_isWord_50 rfl (lv_at hl 2 rfl) ?_
            refine gf_X6_9 E hG hP.1 rfl dX6_isWord_51 ?_
            refine g_len (t0 := 0) (v := (nI n)) E hG hP.2 rfl rfl dX6_isWord_54 ?_
            refine lv_icmp_ge (tgt := 72) hx hb dX6_isWord_55 (by decide) (fun c_55 => ?_) (fun c_55 => ?_)
            · have c_55 : n ≤ (s9 + i) := (nLE (x := (nI n)) (y := (nI (s9 + i))) (a := n) (b := (s9 + i)) rfl rfl (by omega) (by omega)).mp c_55
              exact absurd c_55 (by omega)
            · have c_55 : ¬ n ≤ (s9 + i) := fun z9 => c_55 ((nLE (x := (nI n)) (y := (nI (s9 + i))) (a := n) (b := (s9 + i)) rfl rfl (by omega) (by omega)).mpr z9)
              refine lv_aload_n hx hb dX6_isWord_58 rfl (lv_at hl 2 rfl) ?_
              refine gf_X6_9 E hG hP.1 rfl dX6_isWord_59 ?_
              refine lv_iload_n hx hb dX6_isWord_62 rfl (lv_at hl 0 rfl) ?_
              refine g_bld (s9 + i) E hG hP.2 rfl (by omega) (by omega) dX6_isWord_63 ?_
              refine lv_aload_n hx hb dX6_isWord_64 rfl (lv_at hl 3 rfl) ?_
              refine lv_iload_n hx hb dX6_isWord_65 rfl (lv_at hl 1 rfl) ?_
              refine Rd.callV (rest := [.int ((sB bf) (s9 + i))]) (c_J0_charAt_5068e l G hT hA9 hw9 (nI i) i rfl (by omega)) yk_J0_charAt_5068e E km_X6_217 dX6_isWord_66 hG hE trivial (va_O.rcv (hT _ _ hE).1) rfl rfl hl.1 ⟨Nat.le_of_ble_eq_true rfl, Nat.le_of_ble_eq_true rfl⟩ ⟨Nat.zero_le _, Nat.zero_le _⟩ (Nat.le_of_ble_eq_true rfl) ?_
              refine lv_icmp_eq (tgt := 74) hx hb dX6_isWord_69 (by decide) (fun c_69 => ?_) (fun c_69 => ?_)
              · refine lv_iinc (v := (nI (i + 1))) (lv' := [(2, .int (nI (i + 1))), (3, .int (nI (s9 + i))), (0, .ref x), (1, .ref (G.2.2 (10 + j)))]) hx hb dX6_isWord_74 hl (k := 1) rfl (nI_ad rfl rfl) (by decide) rfl (fun ls hl => ?_)
                refine lv_goto (tgt := 30) hx hb dX6_isWord_77 (by decide) ?_
                exact ih (i + 1) (by omega) (by omega) (fun a h1 => by by_cases h2 : a = i; (rw [h2]; exact c_69); (exact z3 a (by omega))) ls (lv_sub hl [0, 2, 3] rfl)
              · refine lv_iconst (v := 0) hx hb dX6_isWord_72 rfl ?_
                exact rd_bool E hr hk (rfl) (by first | exact Or.inl rfl | exact Or.inr rfl | (omega)) dX6_isWord_73
      exact loop (w.length + 1) 0 (by omega) (by omega) (fun a h1 => absurd h1 (Nat.not_lt_zero a)) ls (lv_sub hl [0, 1, 2] rfl)
    · have c_23 : ¬ te bf n s9 - s9 = w.length := fun z9 => c_23 ((nEQ (x := (nI (te bf n s9 - s9))) (y := (nI w.length)) (a := te bf n s9 - s9) (b := w.length) rfl rfl (by omega) (by omega)).mpr z9)
      refine lv_iconst (v := 0) hx hb dX6_isWord_26 rfl ?_
      exact rd_bool E hr hk (rfl) (by first | exact Or.inl rfl | exact Or.inr rfl | (omega)) dX6_isWord_27

set_option maxHeartbeats 4000000 in
set_option maxRecDepth 100000 in
/-- isWord, at the end -/
theorem c_X6_isWord_b (l : Launch) (G : CG) {x bk tx fs : Nat} {er es st en vv fg fc : Int32} (z : Nat) : Rd l yX6_isWord cX6_isWord 4 ((Option.some FieldType.boolean)) 0 0 G [.ref x, .ref z] (At G x (.inr (6, rdF er es bk tx 1000 st en vv fg fs fc))) (some (.int 0)) := by
  refine Rd.ofW (by decide) (Nat.le_of_ble_eq_true rfl) (fun p e s m below meth c ls E hG hE hP hr hk hl => ?_)
  have hx := E.1
  have hb := E.2.1
  have hl : lv_has ls 4 [(0, .ref x), (1, .ref z)] := hl
  refine lv_aload_n hx hb dX6_isWord_0 rfl (lv_at hl 0 rfl) ?_
  refine gf_X6_39 E hG hP rfl dX6_isWord_1 ?_
  refine lv_sipush (v := 1002) hx hb dX6_isWord_4 rfl ?_
  refine lv_icmp_ne (tgt := 26) hx hb dX6_isWord_7 (by decide) (fun c_7 => ?_) (fun c_7 => ?_)
  · refine lv_iconst (v := 0) hx hb dX6_isWord_26 rfl ?_
    exact rd_bool E hr hk (rfl) (by first | exact Or.inl rfl | exact Or.inr rfl | (omega)) dX6_isWord_27
  · exact absurd c_7 (by decide)

set_option maxHeartbeats 4000000 in
set_option maxRecDepth 100000 in
/-- tookWord -/
theorem c_X6_tookWord_y (l : Launch) (G : CG) {x bk tx fs : Nat} {fg fc : Int32} {bf : Nat → Int32} (hB : ByO bf) (n : Nat) (hn9 : n ≤ 900) (hEx : EFA G x) (ne_tx_x : tx ≠ x) (s9 : Nat) (hs9 : s9 ≤ n) {j : Nat} {w : List Int32} (hT : IsT G j w) (hA9 : IsA w) (hw9 : w.length < 1000) (hL9 : IsL w) (hW9 : isW bf n s9 w) : Wr l yX6_tookWord cX6_tookWord 2 ((Option.some FieldType.boolean)) 5 108 0 0 G [.ref x, .ref (G.2.2 (10 + j))] (fun H9 => At G x (.inr (6, rdF 0 (-1) bk tx (kd bf n s9) (nI s9) (nI (te bf n s9)) (va bf n s9) fg fs fc)) H9 ∧ At G tx (bA G n (sB bf)) H9) (fun q9 => q9 = x) (fun v9 H9 => v9 = some (.int 1) ∧ ∃ er es ki st en vv, At G x (.inr (6, rdF er es bk tx ki st en vv fg fs fc)) H9 ∧ TK bf n (.ok (spc bf n (s9 + w.length))) er es ki st en vv) := by
  refine Wr.ofW (by decide) (Nat.le_of_ble_eq_true rfl) (fun p e s m below meth c ls E hG hE hP hr hk hin hl => ?_)
  have hS : va_S (fun q9 => q9 = x) s.heap s.heap [] := va_S.rf
  have hx := E.1
  have hb := E.2.1
  have hl : lv_has ls 2 [(0, .ref x), (1, .ref (G.2.2 (10 + j)))] := hl
  have f_x := hP.1
  have f_tx := hP.2
  have hEA : ∀ q9, q9 = x → EFA G q9 := fun q9 h9 => by rw [h9]; exact hEx
  have htb := te_b hB hs9
  have hte := ((isW_iff hB hL9).mp hW9).2.1
  refine lv_aload_n hx hb dX6_tookWord_0 rfl (lv_at hl 0 rfl) ?_
  refine lv_aload_n hx hb dX6_tookWord_1 rfl (lv_at hl 1 rfl) ?_
  refine Rd.callV (rest := []) (c_X6_isWord_y l G hB n hn9 s9 hs9 hT hA9 hw9 hL9 hW9) yk_X6_isWord E km_X6_44 dX6_tookWord_2 hG (hE.S hS hEA) ⟨f_x, f_tx⟩ (At.recv hG f_x rfl) rfl rfl hl.1 ⟨Nat.le_of_ble_eq_true rfl, Nat.le_of_ble_eq_true rfl⟩ ⟨(show 0 ≤ 0 by omega), (show 0 ≤ 0 by omega)⟩ (Nat.le_of_ble_eq_true rfl) ?_
  refine lv_if_ne (tgt := 10) hx hb dX6_tookWord_5 (by decide) (fun c_5 => ?_) (fun c_5 => ?_)
  · refine lv_aload_n hx hb dX6_tookWord_10 rfl (lv_at hl 0 rfl) ?_
    refine Wr.callV (rest := []) (c_X6_nextToken l G hB n hn9 hEx ne_tx_x (te bf n s9) (by omega)) yk_X6_nextToken E km_X6_36 dX6_tookWord_11 hG (hE.S hS hEA) ⟨f_x, f_tx⟩ (At.recv hG f_x rfl) rfl rfl hl.1 ⟨Nat.le_of_ble_eq_true rfl, Nat.le_of_ble_eq_true rfl⟩ ⟨(show 0 + 0 ≤ 0 by omega), (show 0 + 0 ≤ 0 by omega)⟩ (Nat.le_of_ble_eq_true rfl) hS (fun _ h9 => h9) (fun v9 H locs hq hz9 hfr9 hS => ?_)
    have f_tx : At G tx (.inl (G.2.1 0, n, .inl (sB bf))) H := va_at.kept f_tx (hfr9 _ (va_at.lt f_tx) ne_tx_x)
    obtain ⟨rfl, er, es, ki, st, en, vv, f_x, hTK⟩ := hq
    refine lv_iconst (v := 1) hx hb dX6_tookWord_14 rfl ?_
    exact wr_bool E hr hk hS (show 0 + 0 ≤ 0 by omega) (show 0 + 0 ≤ 0 by omega) (by first | exact Or.inl rfl | exact Or.inr rfl | (omega)) (by rw [hte] at hTK; exact ⟨rfl, _, _, _, _, _, _, f_x, hTK⟩) dX6_tookWord_15
  · exact absurd c_5 (by decide)

set_option maxHeartbeats 4000000 in
set_option maxRecDepth 100000 in
/-- tookWord -/
theorem c_X6_tookWord_n (l : Launch) (G : CG) {x bk tx fs : Nat} {fg fc : Int32} {bf : Nat → Int32} (hB : ByO bf) (n : Nat) (hn9 : n ≤ 900) (hEx : EFA G x) (ne_tx_x : tx ≠ x) (s9 : Nat) (hs9 : s9 ≤ n) {j : Nat} {w : List Int32} (hT : IsT G j w) (hA9 : IsA w) (hw9 : w.length < 1000) (hL9 : IsL w) (hW9 : ¬ isW bf n s9 w) : Wr l yX6_tookWord cX6_tookWord 2 ((Option.some FieldType.boolean)) 5 108 0 0 G [.ref x, .ref (G.2.2 (10 + j))] (fun H9 => At G x (.inr (6, rdF 0 (-1) bk tx (kd bf n s9) (nI s9) (nI (te bf n s9)) (va bf n s9) fg fs fc)) H9 ∧ At G tx (bA G n (sB bf)) H9) (fun q9 => q9 = x) (fun v9 H9 => v9 = some (.int 0) ∧ At G x (.inr (6, rdF 0 (-1) bk tx (kd bf n s9) (nI s9) (nI (te bf n s9)) (va bf n s9) fg fs fc)) H9) := by
  refine Wr.ofW (by decide) (Nat.le_of_ble_eq_true rfl) (fun p e s m below meth c ls E hG hE hP hr hk hin hl => ?_)
  have hS : va_S (fun q9 => q9 = x) s.heap s.heap [] := va_S.rf
  have hx := E.1
  have hb := E.2.1
  have hl : lv_has ls 2 [(0, .ref x), (1, .ref (G.2.2 (10 + j)))] := hl
  have f_x := hP.1
  have f_tx := hP.2
  have hEA : ∀ q9, q9 = x → EFA G q9 := fun q9 h9 => by rw [h9]; exact hEx
  refine lv_aload_n hx hb dX6_tookWord_0 rfl (lv_at hl 0 rfl) ?_
  refine lv_aload_n hx hb dX6_tookWord_1 rfl (lv_at hl 1 rfl) ?_
  refine Rd.callV (rest := []) (c_X6_isWord_n l G hB n hn9 s9 hs9 hT hA9 hw9 hL9 hW9) yk_X6_isWord E km_X6_44 dX6_tookWord_2 hG (hE.S hS hEA) ⟨f_x, f_tx⟩ (At.recv hG f_x rfl) rfl rfl hl.1 ⟨Nat.le_of_ble_eq_true rfl, Nat.le_of_ble_eq_true rfl⟩ ⟨(show 0 ≤ 0 by omega), (show 0 ≤ 0 by omega)⟩ (Nat.le_of_ble_eq_true rfl) ?_
  refine lv_if_ne (tgt := 10) hx hb dX6_tookWord_5 (by decide) (fun c_5 => ?_) (fun c_5 => ?_)
  · exact absurd c_5 (by decide)
  · refine lv_iconst (v := 0) hx hb dX6_tookWord_8 rfl ?_
    exact wr_bool E hr hk hS (show 0 ≤ 0 by omega) (show 0 ≤ 0 by omega) (by first | exact Or.inl rfl | exact Or.inr rfl | (omega)) (⟨rfl, f_x⟩) dX6_tookWord_9

set_option maxHeartbeats 4000000 in
set_option maxRecDepth 100000 in
/-- tookWord, behind an error -/
theorem c_X6_tookWord_b (l : Launch) (G : CG) {x bk tx fs : Nat} {er es st en vv fg fc : Int32} {bf : Nat → Int32} (hB : ByO bf) (n : Nat) (hn9 : n ≤ 900) (hEx : EFA G x) (ne_tx_x : tx ≠ x) (he9 : ¬ er = 0) (z : Nat) : Wr l yX6_tookWord cX6_tookWord 2 ((Option.some FieldType.boolean)) 1 23 0 0 G [.ref x, .ref z] (fun H9 => At G x (.inr (6, rdF er es bk tx 1000 st en vv fg fs fc)) H9 ∧ At G tx (bA G n (sB bf)) H9) (fun q9 => q9 = x) (fun v9 H9 => v9 = some (.int 0) ∧ At G x (.inr (6, rdF er es bk tx 1000 st en vv fg fs fc)) H9) := by
  refine Wr.ofW (by decide) (Nat.le_of_ble_eq_true rfl) (fun p e s m below meth c ls E hG hE hP hr hk hin hl => ?_)
  have hS : va_S (fun q9 => q9 = x) s.heap s.heap [] := va_S.rf
  have hx := E.1
  have hb := E.2.1
  have hl : lv_has ls 2 [(0, .ref x), (1, .ref z)] := hl
  have f_x := hP.1
  have f_tx := hP.2
  have hEA : ∀ q9, q9 = x → EFA G q9 := fun q9 h9 => by rw [h9]; exact hEx
  refine lv_aload_n hx hb dX6_tookWord_0 rfl (lv_at hl 0 rfl) ?_
  refine lv_aload_n hx hb dX6_tookWord_1 rfl (lv_at hl 1 rfl) ?_
  refine Rd.callV (rest := []) (c_X6_isWord_b l G _) yk_X6_isWord E km_X6_44 dX6_tookWord_2 hG (hE.S hS hEA) f_x (At.recv hG f_x rfl) rfl rfl hl.1 ⟨Nat.le_of_ble_eq_true rfl, Nat.le_of_ble_eq_true rfl⟩ ⟨(show 0 ≤ 0 by omega), (show 0 ≤ 0 by omega)⟩ (Nat.le_of_ble_eq_true rfl) ?_
  refine lv_if_ne (tgt := 10) hx hb dX6_tookWord_5 (by decide) (fun c_5 => ?_) (fun c_5 => ?_)
  · exact absurd c_5 (by decide)
  · refine lv_iconst (v := 0) hx hb dX6_tookWord_8 rfl ?_
    exact wr_bool E hr hk hS (show 0 ≤ 0 by omega) (show 0 ≤ 0 by omega) (by first | exact Or.inl rfl | exact Or.inr rfl | (omega)) (⟨rfl, f_x⟩) dX6_tookWord_9

set_option maxHeartbeats 4000000 in
set_option maxRecDepth 100000 in
/-- isNumberFrom -/
theorem c_X6_isNumberFrom (l : Launch) (G : CG) {x bk tx fs : Nat} {fg fc : Int32} {bf : Nat → Int32} (hB : ByO bf) (n : Nat) (hn9 : n ≤ 900) (hEx : EFA G x) (ne_tx_x : tx ≠ x) (s9 : Nat) (hs9 : s9 ≤ n) (lo9 up9 : Int32) (hk9 : kd bf n s9 = 1001) (hr9 : inV (va bf n s9) lo9 up9 = 1) : Wr l yX6_isNumberFrom cX6_isNumberFrom 3 ((Option.some FieldType.boolean)) 0 0 0 0 G [.ref x, .int lo9, .int up9] (fun H9 => At G x (.inr (6, rdF 0 (-1) bk tx (kd bf n s9) (nI s9) (nI (te bf n s9)) (va bf n s9) fg fs fc)) H9 ∧ At G tx (bA G n (sB bf)) H9) (fun q9 => q9 = x) (fun v9 H9 => v9 = some (.int 1) ∧ At G x (.inr (6, rdF 0 (-1) bk tx (kd bf n s9) (nI s9) (nI (te bf n s9)) (va bf n s9) fg fs fc)) H9) := by
  refine Wr.ofW (by decide) (Nat.le_of_ble_eq_true rfl) (fun p e s m below meth c ls E hG hE hP hr hk hin hl => ?_)
  have hS : va_S (fun q9 => q9 = x) s.heap s.heap [] := va_S.rf
  have hx := E.1
  have hb := E.2.1
  have hl : lv_has ls 3 [(0, .ref x), (1, .int lo9), (2, .int up9)] := hl
  have f_x := hP.1
  have f_tx := hP.2
  have hEA : ∀ q9, q9 = x → EFA G q9 := fun q9 h9 => by rw [h9]; exact hEx
  have hr8 : ¬ va bf n s9 < lo9 ∧ ¬ up9 < va bf n s9 := by
    unfold inV at hr9
    refine ⟨fun z9 => ?_, fun z9 => ?_⟩
    · rw [if_pos z9] at hr9; exact absurd hr9 (by decide)
    · by_cases y9 : va bf n s9 < lo9
      · rw [if_pos y9] at hr9; exact absurd hr9 (by decide)
      · rw [if_neg y9, if_pos z9] at hr9; exact absurd hr9 (by decide)
  refine lv_aload_n hx hb dX6_isNumberFrom_0 rfl (lv_at hl 0 rfl) ?_
  refine gf_X6_39 E hG f_x rfl dX6_isNumberFrom_1 ?_
  refine lv_sipush (v := 1001) hx hb dX6_isNumberFrom_4 rfl ?_
  refine lv_icmp_eq (tgt := 18) hx hb dX6_isNumberFrom_7 (by decide) (fun c_7 => ?_) (fun c_7 => ?_)
  · refine lv_aload_n hx hb dX6_isNumberFrom_18 rfl (lv_at hl 0 rfl) ?_
    refine gf_X6_86 E hG f_x rfl dX6_isNumberFrom_19 ?_
    refine lv_iload_n hx hb dX6_isNumberFrom_22 rfl (lv_at hl 1 rfl) ?_
    refine lv_icmp_lt (tgt := 34) hx hb dX6_isNumberFrom_23 (by decide) (fun c_23 => ?_) (fun c_23 => ?_)
    · exact absurd c_23 hr8.1
    · refine lv_aload_n hx hb dX6_isNumberFrom_26 rfl (lv_at hl 0 rfl) ?_
      refine gf_X6_86 E hG f_x rfl dX6_isNumberFrom_27 ?_
      refine lv_iload_n hx hb dX6_isNumberFrom_30 rfl (lv_at hl 2 rfl) ?_
      refine lv_icmp_le (tgt := 42) hx hb dX6_isNumberFrom_31 (by decide) (fun c_31 => ?_) (fun c_31 => ?_)
      · refine lv_iconst (v := 1) hx hb dX6_isNumberFrom_42 rfl ?_
        exact wr_bool E hr hk hS (show 0 ≤ 0 by omega) (show 0 ≤ 0 by omega) (by first | exact Or.inl rfl | exact Or.inr rfl | (omega)) (⟨rfl, f_x⟩) dX6_isNumberFrom_43
      · exact absurd (Int32.not_le.mp c_31) hr8.2
  · exact (by rw [hk9] at c_7; exact absurd c_7 (by decide))

set_option maxHeartbeats 4000000 in
set_option maxRecDepth 100000 in
/-- isNumberFrom, out of range -/
theorem c_X6_isNumberFrom_r (l : Launch) (G : CG) {x bk tx fs : Nat} {fg fc : Int32} {bf : Nat → Int32} (hB : ByO bf) (n : Nat) (hn9 : n ≤ 900) (hEx : EFA G x) (ne_tx_x : tx ≠ x) (s9 : Nat) (hs9 : s9 ≤ n) (lo9 up9 : Int32) (hk9 : kd bf n s9 = 1001) (hr9 : ¬ inV (va bf n s9) lo9 up9 = 1) : Wr l yX6_isNumberFrom cX6_isNumberFrom 3 ((Option.some FieldType.boolean)) 1 21 0 0 G [.ref x, .int lo9, .int up9] (fun H9 => At G x (.inr (6, rdF 0 (-1) bk tx (kd bf n s9) (nI s9) (nI (te bf n s9)) (va bf n s9) fg fs fc)) H9 ∧ At G tx (bA G n (sB bf)) H9) (fun q9 => q9 = x) (fun v9 H9 => v9 = some (.int 0) ∧ At G x (.inr (6, rdF (-3) (nI s9) bk tx 1000 (nI s9) (nI (te bf n s9)) (va bf n s9) fg fs fc)) H9) := by
  refine Wr.ofW (by decide) (Nat.le_of_ble_eq_true rfl) (fun p e s m below meth c ls E hG hE hP hr hk hin hl => ?_)
  have hS : va_S (fun q9 => q9 = x) s.heap s.heap [] := va_S.rf
  have hx := E.1
  have hb := E.2.1
  have hl : lv_has ls 3 [(0, .ref x), (1, .int lo9), (2, .int up9)] := hl
  have f_x := hP.1
  have f_tx := hP.2
  have hEA : ∀ q9, q9 = x → EFA G q9 := fun q9 h9 => by rw [h9]; exact hEx
  refine lv_aload_n hx hb dX6_isNumberFrom_0 rfl (lv_at hl 0 rfl) ?_
  refine gf_X6_39 E hG f_x rfl dX6_isNumberFrom_1 ?_
  refine lv_sipush (v := 1001) hx hb dX6_isNumberFrom_4 rfl ?_
  refine lv_icmp_eq (tgt := 18) hx hb dX6_isNumberFrom_7 (by decide) (fun c_7 => ?_) (fun c_7 => ?_)
  rotate_left
  · exact (by rw [hk9] at c_7; exact absurd c_7 (by decide))
  refine lv_aload_n hx hb dX6_isNumberFrom_18 rfl (lv_at hl 0 rfl) ?_
  refine gf_X6_86 E hG f_x rfl dX6_isNumberFrom_19 ?_
  refine lv_iload_n hx hb dX6_isNumberFrom_22 rfl (lv_at hl 1 rfl) ?_
  refine lv_icmp_lt (tgt := 34) hx hb dX6_isNumberFrom_23 (by decide) (fun c_23 => ?_) (fun c_23 => ?_)
  · refine lv_aload_n hx hb dX6_isNumberFrom_34 rfl (lv_at hl 0 rfl) ?_
    refine lv_bipush (v := (-3)) hx hb dX6_isNumberFrom_35 rfl ?_
    refine Wr.callV (rest := []) (c_X6_fail l G hEx (-3) rfl) yk_X6_fail E km_X6_65 dX6_isNumberFrom_37 hG (hE.S hS hEA) f_x (At.recv hG f_x rfl) rfl rfl hl.1 ⟨Nat.le_of_ble_eq_true rfl, Nat.le_of_ble_eq_true rfl⟩ ⟨(show 0 + 0 ≤ 0 by omega), (show 0 + 0 ≤ 0 by omega)⟩ (Nat.le_of_ble_eq_true rfl) hS (fun _ h9 => h9) (fun v9 H locs hq hz9 hfr9 hS => ?_)
    have f_tx : At G tx (.inl (G.2.1 0, n, .inl (sB bf))) H := va_at.kept f_tx (hfr9 _ (va_at.lt f_tx) ne_tx_x)
    obtain ⟨rfl, f_x⟩ := hq
    refine lv_iconst (v := 0) hx hb dX6_isNumberFrom_40 rfl ?_
    exact wr_bool E hr hk hS (show 0 + 0 ≤ 0 by omega) (show 0 + 0 ≤ 0 by omega) (by first | exact Or.inl rfl | exact Or.inr rfl | (omega)) (⟨rfl, f_x⟩) dX6_isNumberFrom_41
  · refine lv_aload_n hx hb dX6_isNumberFrom_26 rfl (lv_at hl 0 rfl) ?_
    refine gf_X6_86 E hG f_x rfl dX6_isNumberFrom_27 ?_
    refine lv_iload_n hx hb dX6_isNumberFrom_30 rfl (lv_at hl 2 rfl) ?_
    refine lv_icmp_le (tgt := 42) hx hb dX6_isNumberFrom_31 (by decide) (fun c_31 => ?_) (fun c_31 => ?_)
    · exact absurd (show inV (va bf n s9) lo9 up9 = 1 by unfold inV; rw [if_neg c_23, if_neg (Int32.not_lt.mpr c_31)]) hr9
    · refine lv_aload_n hx hb dX6_isNumberFrom_34 rfl (lv_at hl 0 rfl) ?_
      refine lv_bipush (v := (-3)) hx hb dX6_isNumberFrom_35 rfl ?_
      refine Wr.callV (rest := []) (c_X6_fail l G hEx (-3) rfl) yk_X6_fail E km_X6_65 dX6_isNumberFrom_37 hG (hE.S hS hEA) f_x (At.recv hG f_x rfl) rfl rfl hl.1 ⟨Nat.le_of_ble_eq_true rfl, Nat.le_of_ble_eq_true rfl⟩ ⟨(show 0 + 0 ≤ 0 by omega), (show 0 + 0 ≤ 0 by omega)⟩ (Nat.le_of_ble_eq_true rfl) hS (fun _ h9 => h9) (fun v9 H locs hq hz9 hfr9 hS => ?_)
      have f_tx : At G tx (.inl (G.2.1 0, n, .inl (sB bf))) H := va_at.kept f_tx (hfr9 _ (va_at.lt f_tx) ne_tx_x)
      obtain ⟨rfl, f_x⟩ := hq
      refine lv_iconst (v := 0) hx hb dX6_isNumberFrom_40 rfl ?_
      exact wr_bool E hr hk hS (show 0 + 0 ≤ 0 by omega) (show 0 + 0 ≤ 0 by omega) (by first | exact Or.inl rfl | exact Or.inr rfl | (omega)) (⟨rfl, f_x⟩) dX6_isNumberFrom_41

set_option maxHeartbeats 4000000 in
set_option maxRecDepth 100000 in
/-- isNumberFrom, no number -/
theorem c_X6_isNumberFrom_x (l : Launch) (G : CG) {x bk tx fs : Nat} {fg fc : Int32} {bf : Nat → Int32} (hB : ByO bf) (n : Nat) (hn9 : n ≤ 900) (hEx : EFA G x) (ne_tx_x : tx ≠ x) (s9 : Nat) (hs9 : s9 ≤ n) (lo9 up9 : Int32) (hk9 : ¬ kd bf n s9 = 1001) : Wr l yX6_isNumberFrom cX6_isNumberFrom 3 ((Option.some FieldType.boolean)) 1 21 0 0 G [.ref x, .int lo9, .int up9] (fun H9 => At G x (.inr (6, rdF 0 (-1) bk tx (kd bf n s9) (nI s9) (nI (te bf n s9)) (va bf n s9) fg fs fc)) H9 ∧ At G tx (bA G n (sB bf)) H9) (fun q9 => q9 = x) (fun v9 H9 => v9 = some (.int 0) ∧ At G x (.inr (6, rdF (-2) (nI s9) bk tx 1000 (nI s9) (nI (te bf n s9)) (va bf n s9) fg fs fc)) H9) := by
  refine Wr.ofW (by decide) (Nat.le_of_ble_eq_true rfl) (fun p e s m below meth c ls E hG hE hP hr hk hin hl => ?_)
  have hS : va_S (fun q9 => q9 = x) s.heap s.heap [] := va_S.rf
  have hx := E.1
  have hb := E.2.1
  have hl : lv_has ls 3 [(0, .ref x), (1, .int lo9), (2, .int up9)] := hl
  have f_x := hP.1
  have f_tx := hP.2
  have hEA : ∀ q9, q9 = x → EFA G q9 := fun q9 h9 => by rw [h9]; exact hEx
  refine lv_aload_n hx hb dX6_isNumberFrom_0 rfl (lv_at hl 0 rfl) ?_
  refine gf_X6_39 E hG f_x rfl dX6_isNumberFrom_1 ?_
  refine lv_sipush (v := 1001) hx hb dX6_isNumberFrom_4 rfl ?_
  refine lv_icmp_eq (tgt := 18) hx hb dX6_isNumberFrom_7 (by decide) (fun c_7 => ?_) (fun c_7 => ?_)
  · exact absurd c_7 hk9
  · refine lv_aload_n hx hb dX6_isNumberFrom_10 rfl (lv_at hl 0 rfl) ?_
    refine lv_bipush (v := (-2)) hx hb dX6_isNumberFrom_11 rfl ?_
    refine Wr.callV (rest := []) (c_X6_fail l G hEx (-2) rfl) yk_X6_fail E km_X6_65 dX6_isNumberFrom_13 hG (hE.S hS hEA) f_x (At.recv hG f_x rfl) rfl rfl hl.1 ⟨Nat.le_of_ble_eq_true rfl, Nat.le_of_ble_eq_true rfl⟩ ⟨(show 0 + 0 ≤ 0 by omega), (show 0 + 0 ≤ 0 by omega)⟩ (Nat.le_of_ble_eq_true rfl) hS (fun _ h9 => h9) (fun v9 H locs hq hz9 hfr9 hS => ?_)
    have f_tx : At G tx (.inl (G.2.1 0, n, .inl (sB bf))) H := va_at.kept f_tx (hfr9 _ (va_at.lt f_tx) ne_tx_x)
    obtain ⟨rfl, f_x⟩ := hq
    refine lv_iconst (v := 0) hx hb dX6_isNumberFrom_16 rfl ?_
    exact wr_bool E hr hk hS (show 0 + 0 ≤ 0 by omega) (show 0 + 0 ≤ 0 by omega) (by first | exact Or.inl rfl | exact Or.inr rfl | (omega)) (⟨rfl, f_x⟩) dX6_isNumberFrom_17

set_option maxHeartbeats 4000000 in
set_option maxRecDepth 100000 in
/-- isNumberFrom, behind an error -/
theorem c_X6_isNumberFrom_b (l : Launch) (G : CG) {x bk tx fs : Nat} {er es st en vv fg fc : Int32} {bf : Nat → Int32} (hB : ByO bf) (n : Nat) (hn9 : n ≤ 900) (hEx : EFA G x) (ne_tx_x : tx ≠ x) (he9 : ¬ er = 0) (lo9 up9 : Int32) : Wr l yX6_isNumberFrom cX6_isNumberFrom 3 ((Option.some FieldType.boolean)) 1 21 0 0 G [.ref x, .int lo9, .int up9] (fun H9 => At G x (.inr (6, rdF er es bk tx 1000 st en vv fg fs fc)) H9 ∧ At G tx (bA G n (sB bf)) H9) (fun q9 => q9 = x) (fun v9 H9 => v9 = some (.int 0) ∧ At G x (.inr (6, rdF er es bk tx 1000 st en vv fg fs fc)) H9) := by
  refine Wr.ofW (by decide) (Nat.le_of_ble_eq_true rfl) (fun p e s m below meth c ls E hG hE hP hr hk hin hl => ?_)
  have hS : va_S (fun q9 => q9 = x) s.heap s.heap [] := va_S.rf
  have hx := E.1
  have hb := E.2.1
  have hl : lv_has ls 3 [(0, .ref x), (1, .int lo9), (2, .int up9)] := hl
  have f_x := hP.1
  have f_tx := hP.2
  have hEA : ∀ q9, q9 = x → EFA G q9 := fun q9 h9 => by rw [h9]; exact hEx
  refine lv_aload_n hx hb dX6_isNumberFrom_0 rfl (lv_at hl 0 rfl) ?_
  refine gf_X6_39 E hG f_x rfl dX6_isNumberFrom_1 ?_
  refine lv_sipush (v := 1001) hx hb dX6_isNumberFrom_4 rfl ?_
  refine lv_icmp_eq (tgt := 18) hx hb dX6_isNumberFrom_7 (by decide) (fun c_7 => ?_) (fun c_7 => ?_)
  · exact absurd c_7 (by decide)
  · refine lv_aload_n hx hb dX6_isNumberFrom_10 rfl (lv_at hl 0 rfl) ?_
    refine lv_bipush (v := (-2)) hx hb dX6_isNumberFrom_11 rfl ?_
    refine Wr.callV (rest := []) (c_X6_fail_b l G hEx (-2) he9) yk_X6_fail E km_X6_65 dX6_isNumberFrom_13 hG (hE.S hS hEA) f_x (At.recv hG f_x rfl) rfl rfl hl.1 ⟨Nat.le_of_ble_eq_true rfl, Nat.le_of_ble_eq_true rfl⟩ ⟨(show 0 + 0 ≤ 0 by omega), (show 0 + 0 ≤ 0 by omega)⟩ (Nat.le_of_ble_eq_true rfl) hS (fun _ h9 => h9) (fun v9 H locs hq hz9 hfr9 hS => ?_)
    have f_tx : At G tx (.inl (G.2.1 0, n, .inl (sB bf))) H := va_at.kept f_tx (hfr9 _ (va_at.lt f_tx) ne_tx_x)
    obtain ⟨rfl, f_x⟩ := hq
    refine lv_iconst (v := 0) hx hb dX6_isNumberFrom_16 rfl ?_
    exact wr_bool E hr hk hS (show 0 + 0 ≤ 0 by omega) (show 0 + 0 ≤ 0 by omega) (by first | exact Or.inl rfl | exact Or.inr rfl | (omega)) (⟨rfl, f_x⟩) dX6_isNumberFrom_17

set_option maxHeartbeats 4000000 in
set_option maxRecDepth 100000 in
/-- readNumber -/
theorem c_X6_readNumber (l : Launch) (G : CG) {x bk tx fs : Nat} {fg fc : Int32} {bf : Nat → Int32} (hB : ByO bf) (n : Nat) (hn9 : n ≤ 900) (hEx : EFA G x) (ne_tx_x : tx ≠ x) (s9 : Nat) (hs9 : s9 ≤ n) (lo9 up9 : Int32) (hk9 : kd bf n s9 = 1001) (hr9 : inV (va bf n s9) lo9 up9 = 1) : Wr l yX6_readNumber cX6_readNumber 4 ((Option.some FieldType.int)) 3 73 0 0 G [.ref x, .int lo9, .int up9] (fun H9 => At G x (.inr (6, rdF 0 (-1) bk tx (kd bf n s9) (nI s9) (nI (te bf n s9)) (va bf n s9) fg fs fc)) H9 ∧ At G tx (bA G n (sB bf)) H9) (fun q9 => q9 = x) (fun v9 H9 => v9 = some (.int (va bf n s9)) ∧ ∃ er es ki st en vv, At G x (.inr (6, rdF er es bk tx ki st en vv fg fs fc)) H9 ∧ TK bf n (.ok (spc bf n (te bf n s9))) er es ki st en vv) := by
  refine Wr.ofW (by decide) (Nat.le_of_ble_eq_true rfl) (fun p e s m below meth c ls E hG hE hP hr hk hin hl => ?_)
  have hS : va_S (fun q9 => q9 = x) s.heap s.heap [] := va_S.rf
  have hx := E.1
  have hb := E.2.1
  have hl : lv_has ls 4 [(0, .ref x), (1, .int lo9), (2, .int up9)] := hl
  have f_x := hP.1
  have f_tx := hP.2
  have hEA : ∀ q9, q9 = x → EFA G q9 := fun q9 h9 => by rw [h9]; exact hEx
  have htb := te_b hB hs9
  refine lv_aload_n hx hb dX6_readNumber_0 rfl (lv_at hl 0 rfl) ?_
  refine lv_iload_n hx hb dX6_readNumber_1 rfl (lv_at hl 1 rfl) ?_
  refine lv_iload_n hx hb dX6_readNumber_2 rfl (lv_at hl 2 rfl) ?_
  refine Wr.callV (rest := []) (c_X6_isNumberFrom l G hB n hn9 hEx ne_tx_x s9 hs9 lo9 up9 hk9 hr9) yk_X6_isNumberFrom E km_X6_78 dX6_readNumber_3 hG (hE.S hS hEA) ⟨f_x, f_tx⟩ (At.recv hG f_x rfl) rfl rfl hl.1 ⟨Nat.le_of_ble_eq_true rfl, Nat.le_of_ble_eq_true rfl⟩ ⟨(show 0 + 0 ≤ 0 by omega), (show 0 + 0 ≤ 0 by omega)⟩ (Nat.le_of_ble_eq_true rfl) hS (fun _ h9 => h9) (fun v9 H locs hq hz9 hfr9 hS => ?_)
  have f_tx : At G tx (.inl (G.2.1 0, n, .inl (sB bf))) H := va_at.kept f_tx (hfr9 _ (va_at.lt f_tx) ne_tx_x)
  obtain ⟨rfl, f_x⟩ := hq
  refine lv_if_ne (tgt := 11) hx hb dX6_readNumber_6 (by decide) (fun c_6 => ?_) (fun c_6 => ?_)
  · refine lv_aload_n hx hb dX6_readNumber_11 rfl (lv_at hl 0 rfl) ?_
    refine gf_X6_86 E hG f_x rfl dX6_readNumber_12 ?_
    refine lv_istore_n (lv' := [(3, .int (va bf n s9)), (0, .ref x), (1, .int lo9), (2, .int up9)]) hx hb dX6_readNumber_15 rfl hl (by decide) rfl (fun ls hl => ?_)
    refine lv_aload_n hx hb dX6_readNumber_16 rfl (lv_at hl 1 rfl) ?_
    refine Wr.callV (rest := []) (c_X6_nextToken l G hB n hn9 hEx ne_tx_x (te bf n s9) (by omega)) yk_X6_nextToken E km_X6_36 dX6_readNumber_17 hG (hE.S hS hEA) ⟨f_x, f_tx⟩ (At.recv hG f_x rfl) rfl rfl hl.1 ⟨Nat.le_of_ble_eq_true rfl, Nat.le_of_ble_eq_true rfl⟩ ⟨(show 0 + 0 + 0 ≤ 0 by omega), (show 0 + 0 + 0 ≤ 0 by omega)⟩ (Nat.le_of_ble_eq_true rfl) hS (fun _ h9 => h9) (fun v9 H locs hq hz9 hfr9 hS => ?_)
    have f_tx : At G tx (.inl (G.2.1 0, n, .inl (sB bf))) H := va_at.kept f_tx (hfr9 _ (va_at.lt f_tx) ne_tx_x)
    obtain ⟨rfl, er, es, ki, st, en, vv, f_x, hTK⟩ := hq
    refine lv_iload_n hx hb dX6_readNumber_20 rfl (lv_at hl 0 rfl) ?_
    exact wr_int E hr hk hS (show 0 + 0 + 0 ≤ 0 by omega) (show 0 + 0 + 0 ≤ 0 by omega) (⟨rfl, _, _, _, _, _, _, f_x, hTK⟩) dX6_readNumber_21
  · exact absurd c_6 (by decide)

set_option maxHeartbeats 4000000 in
set_option maxRecDepth 100000 in
/-- readNumber -/
theorem c_X6_readNumber_r (l : Launch) (G : CG) {x bk tx fs : Nat} {fg fc : Int32} {bf : Nat → Int32} (hB : ByO bf) (n : Nat) (hn9 : n ≤ 900) (hEx : EFA G x) (ne_tx_x : tx ≠ x) (s9 : Nat) (hs9 : s9 ≤ n) (lo9 up9 : Int32) (hk9 : kd bf n s9 = 1001) (hr9 : ¬ inV (va bf n s9) lo9 up9 = 1) : Wr l yX6_readNumber cX6_readNumber 4 ((Option.some FieldType.int)) 2 43 0 0 G [.ref x, .int lo9, .int up9] (fun H9 => At G x (.inr (6, rdF 0 (-1) bk tx (kd bf n s9) (nI s9) (nI (te bf n s9)) (va bf n s9) fg fs fc)) H9 ∧ At G tx (bA G n (sB bf)) H9) (fun q9 => q9 = x) (fun v9 H9 => v9 = some (.int lo9) ∧ At G x (.inr (6, rdF (-3) (nI s9) bk tx 1000 (nI s9) (nI (te bf n s9)) (va bf n s9) fg fs fc)) H9) := by
  refine Wr.ofW (by decide) (Nat.le_of_ble_eq_true rfl) (fun p e s m below meth c ls E hG hE hP hr hk hin hl => ?_)
  have hS : va_S (fun q9 => q9 = x) s.heap s.heap [] := va_S.rf
  have hx := E.1
  have hb := E.2.1
  have hl : lv_has ls 4 [(0, .ref x), (1, .int lo9), (2, .int up9)] := hl
  have f_x := hP.1
  have f_tx := hP.2
  have hEA : ∀ q9, q9 = x → EFA G q9 := fun q9 h9 => by rw [h9]; exact hEx
  refine lv_aload_n hx hb dX6_readNumber_0 rfl (lv_at hl 0 rfl) ?_
  refine lv_iload_n hx hb dX6_readNumber_1 rfl (lv_at hl 1 rfl) ?_
  refine lv_iload_n hx hb dX6_readNumber_2 rfl (lv_at hl 2 rfl) ?_
  refine Wr.callV (rest := []) (c_X6_isNumberFrom_r l G hB n hn9 hEx ne_tx_x s9 hs9 lo9 up9 hk9 hr9) yk_X6_isNumberFrom E km_X6_78 dX6_readNumber_3 hG (hE.S hS hEA) ⟨f_x, f_tx⟩ (At.recv hG f_x rfl) rfl rfl hl.1 ⟨Nat.le_of_ble_eq_true rfl, Nat.le_of_ble_eq_true rfl⟩ ⟨(show 0 + 0 ≤ 0 by omega), (show 0 + 0 ≤ 0 by omega)⟩ (Nat.le_of_ble_eq_true rfl) hS (fun _ h9 => h9) (fun v9 H locs hq hz9 hfr9 hS => ?_)
  have f_tx : At G tx (.inl (G.2.1 0, n, .inl (sB bf))) H := va_at.kept f_tx (hfr9 _ (va_at.lt f_tx) ne_tx_x)
  obtain ⟨rfl, f_x⟩ := hq
  refine lv_if_ne (tgt := 11) hx hb dX6_readNumber_6 (by decide) (fun c_6 => ?_) (fun c_6 => ?_)
  · exact absurd c_6 (by decide)
  · refine lv_iload_n hx hb dX6_readNumber_9 rfl (lv_at hl 1 rfl) ?_
    exact wr_int E hr hk hS (show 0 + 0 ≤ 0 by omega) (show 0 + 0 ≤ 0 by omega) (⟨rfl, f_x⟩) dX6_readNumber_10

set_option maxHeartbeats 4000000 in
set_option maxRecDepth 100000 in
/-- readNumber -/
theorem c_X6_readNumber_x (l : Launch) (G : CG) {x bk tx fs : Nat} {fg fc : Int32} {bf : Nat → Int32} (hB : ByO bf) (n : Nat) (hn9 : n ≤ 900) (hEx : EFA G x) (ne_tx_x : tx ≠ x) (s9 : Nat) (hs9 : s9 ≤ n) (lo9 up9 : Int32) (hk9 : ¬ kd bf n s9 = 1001) : Wr l yX6_readNumber cX6_readNumber 4 ((Option.some FieldType.int)) 2 43 0 0 G [.ref x, .int lo9, .int up9] (fun H9 => At G x (.inr (6, rdF 0 (-1) bk tx (kd bf n s9) (nI s9) (nI (te bf n s9)) (va bf n s9) fg fs fc)) H9 ∧ At G tx (bA G n (sB bf)) H9) (fun q9 => q9 = x) (fun v9 H9 => v9 = some (.int lo9) ∧ At G x (.inr (6, rdF (-2) (nI s9) bk tx 1000 (nI s9) (nI (te bf n s9)) (va bf n s9) fg fs fc)) H9) := by
  refine Wr.ofW (by decide) (Nat.le_of_ble_eq_true rfl) (fun p e s m below meth c ls E hG hE hP hr hk hin hl => ?_)
  have hS : va_S (fun q9 => q9 = x) s.heap s.heap [] := va_S.rf
  have hx := E.1
  have hb := E.2.1
  have hl : lv_has ls 4 [(0, .ref x), (1, .int lo9), (2, .int up9)] := hl
  have f_x := hP.1
  have f_tx := hP.2
  have hEA : ∀ q9, q9 = x → EFA G q9 := fun q9 h9 => by rw [h9]; exact hEx
  refine lv_aload_n hx hb dX6_readNumber_0 rfl (lv_at hl 0 rfl) ?_
  refine lv_iload_n hx hb dX6_readNumber_1 rfl (lv_at hl 1 rfl) ?_
  refine lv_iload_n hx hb dX6_readNumber_2 rfl (lv_at hl 2 rfl) ?_
  refine Wr.callV (rest := []) (c_X6_isNumberFrom_x l G hB n hn9 hEx ne_tx_x s9 hs9 lo9 up9 hk9) yk_X6_isNumberFrom E km_X6_78 dX6_readNumber_3 hG (hE.S hS hEA) ⟨f_x, f_tx⟩ (At.recv hG f_x rfl) rfl rfl hl.1 ⟨Nat.le_of_ble_eq_true rfl, Nat.le_of_ble_eq_true rfl⟩ ⟨(show 0 + 0 ≤ 0 by omega), (show 0 + 0 ≤ 0 by omega)⟩ (Nat.le_of_ble_eq_true rfl) hS (fun _ h9 => h9) (fun v9 H locs hq hz9 hfr9 hS => ?_)
  have f_tx : At G tx (.inl (G.2.1 0, n, .inl (sB bf))) H := va_at.kept f_tx (hfr9 _ (va_at.lt f_tx) ne_tx_x)
  obtain ⟨rfl, f_x⟩ := hq
  refine lv_if_ne (tgt := 11) hx hb dX6_readNumber_6 (by decide) (fun c_6 => ?_) (fun c_6 => ?_)
  · exact absurd c_6 (by decide)
  · refine lv_iload_n hx hb dX6_readNumber_9 rfl (lv_at hl 1 rfl) ?_
    exact wr_int E hr hk hS (show 0 + 0 ≤ 0 by omega) (show 0 + 0 ≤ 0 by omega) (⟨rfl, f_x⟩) dX6_readNumber_10

set_option maxHeartbeats 4000000 in
set_option maxRecDepth 100000 in
/-- readNumber, behind an error -/
theorem c_X6_readNumber_b (l : Launch) (G : CG) {x bk tx fs : Nat} {er es st en vv fg fc : Int32} {bf : Nat → Int32} (hB : ByO bf) (n : Nat) (hn9 : n ≤ 900) (hEx : EFA G x) (ne_tx_x : tx ≠ x) (he9 : ¬ er = 0) (lo9 up9 : Int32) : Wr l yX6_readNumber cX6_readNumber 4 ((Option.some FieldType.int)) 2 43 0 0 G [.ref x, .int lo9, .int up9] (fun H9 => At G x (.inr (6, rdF er es bk tx 1000 st en vv fg fs fc)) H9 ∧ At G tx (bA G n (sB bf)) H9) (fun q9 => q9 = x) (fun v9 H9 => v9 = some (.int lo9) ∧ At G x (.inr (6, rdF er es bk tx 1000 st en vv fg fs fc)) H9) := by
  refine Wr.ofW (by decide) (Nat.le_of_ble_eq_true rfl) (fun p e s m below meth c ls E hG hE hP hr hk hin hl => ?_)
  have hS : va_S (fun q9 => q9 = x) s.heap s.heap [] := va_S.rf
  have hx := E.1
  have hb := E.2.1
  have hl : lv_has ls 4 [(0, .ref x), (1, .int lo9), (2, .int up9)] := hl
  have f_x := hP.1
  have f_tx := hP.2
  have hEA : ∀ q9, q9 = x → EFA G q9 := fun q9 h9 => by rw [h9]; exact hEx
  refine lv_aload_n hx hb dX6_readNumber_0 rfl (lv_at hl 0 rfl) ?_
  refine lv_iload_n hx hb dX6_readNumber_1 rfl (lv_at hl 1 rfl) ?_
  refine lv_iload_n hx hb dX6_readNumber_2 rfl (lv_at hl 2 rfl) ?_
  refine Wr.callV (rest := []) (c_X6_isNumberFrom_b l G hB n hn9 hEx ne_tx_x he9 lo9 up9 ) yk_X6_isNumberFrom E km_X6_78 dX6_readNumber_3 hG (hE.S hS hEA) ⟨f_x, f_tx⟩ (At.recv hG f_x rfl) rfl rfl hl.1 ⟨Nat.le_of_ble_eq_true rfl, Nat.le_of_ble_eq_true rfl⟩ ⟨(show 0 + 0 ≤ 0 by omega), (show 0 + 0 ≤ 0 by omega)⟩ (Nat.le_of_ble_eq_true rfl) hS (fun _ h9 => h9) (fun v9 H locs hq hz9 hfr9 hS => ?_)
  have f_tx : At G tx (.inl (G.2.1 0, n, .inl (sB bf))) H := va_at.kept f_tx (hfr9 _ (va_at.lt f_tx) ne_tx_x)
  obtain ⟨rfl, f_x⟩ := hq
  refine lv_if_ne (tgt := 11) hx hb dX6_readNumber_6 (by decide) (fun c_6 => ?_) (fun c_6 => ?_)
  · exact absurd c_6 (by decide)
  · refine lv_iload_n hx hb dX6_readNumber_9 rfl (lv_at hl 1 rfl) ?_
    exact wr_int E hr hk hS (show 0 + 0 ≤ 0 by omega) (show 0 + 0 ≤ 0 by omega) (⟨rfl, f_x⟩) dX6_readNumber_10

set_option maxHeartbeats 4000000 in
set_option maxRecDepth 100000 in
/-- needSymbol -/
theorem c_X6_needSymbol (l : Launch) (G : CG) {x bk tx fs : Nat} {fg fc : Int32} {bf : Nat → Int32} (hB : ByO bf) (n : Nat) (hn9 : n ≤ 900) (hEx : EFA G x) (ne_tx_x : tx ≠ x) (s9 : Nat) (hs9 : s9 ≤ n) (z : Int32) (hz9 : z ∈ syms) (hk9 : bt bf n s9 = z) : Wr l yX6_needSymbol cX6_needSymbol 2 ((Option.none : Option FieldType)) 3 73 0 0 G [.ref x, .int z] (fun H9 => At G x (.inr (6, rdF 0 (-1) bk tx (kd bf n s9) (nI s9) (nI (te bf n s9)) (va bf n s9) fg fs fc)) H9 ∧ At G tx (bA G n (sB bf)) H9) (fun q9 => q9 = x) (fun v9 H9 => v9 = none ∧ ∃ er es ki st en vv, At G x (.inr (6, rdF er es bk tx ki st en vv fg fs fc)) H9 ∧ TK bf n (.ok (spc bf n (s9 + 1))) er es ki st en vv) := by
  refine Wr.ofW (by decide) (Nat.le_of_ble_eq_true rfl) (fun p e s m below meth c ls E hG hE hP hr hk hin hl => ?_)
  have hS : va_S (fun q9 => q9 = x) s.heap s.heap [] := va_S.rf
  have hx := E.1
  have hb := E.2.1
  have hl : lv_has ls 2 [(0, .ref x), (1, .int z)] := hl
  have f_x := hP.1
  have f_tx := hP.2
  have hEA : ∀ q9, q9 = x → EFA G q9 := fun q9 h9 => by rw [h9]; exact hEx
  have htb := te_b hB hs9
  have hk8 := (kd_sym (n := n) (k := s9) hB hz9).mpr hk9
  have hte := te_sym hk8 hz9
  refine lv_aload_n hx hb dX6_needSymbol_0 rfl (lv_at hl 0 rfl) ?_
  refine gf_X6_39 E hG f_x rfl dX6_needSymbol_1 ?_
  refine lv_iload_n hx hb dX6_needSymbol_4 rfl (lv_at hl 1 rfl) ?_
  refine lv_icmp_ne (tgt := 15) hx hb dX6_needSymbol_5 (by decide) (fun c_5 => ?_) (fun c_5 => ?_)
  · exact absurd hk8 c_5
  · refine lv_aload_n hx hb dX6_needSymbol_8 rfl (lv_at hl 0 rfl) ?_
    refine Wr.callV (rest := []) (c_X6_nextToken l G hB n hn9 hEx ne_tx_x (te bf n s9) (by omega)) yk_X6_nextToken E km_X6_36 dX6_needSymbol_9 hG (hE.S hS hEA) ⟨f_x, f_tx⟩ (At.recv hG f_x rfl) rfl rfl hl.1 ⟨Nat.le_of_ble_eq_true rfl, Nat.le_of_ble_eq_true rfl⟩ ⟨(show 0 + 0 ≤ 0 by omega), (show 0 + 0 ≤ 0 by omega)⟩ (Nat.le_of_ble_eq_true rfl) hS (fun _ h9 => h9) (fun v9 H locs hq hz9 hfr9 hS => ?_)
    have f_tx : At G tx (.inl (G.2.1 0, n, .inl (sB bf))) H := va_at.kept f_tx (hfr9 _ (va_at.lt f_tx) ne_tx_x)
    obtain ⟨rfl, er, es, ki, st, en, vv, f_x, hTK⟩ := hq
    refine lv_goto (tgt := 21) hx hb dX6_needSymbol_12 (by decide) ?_
    exact wr_void E hr hk hS (show 0 + 0 ≤ 0 by omega) (show 0 + 0 ≤ 0 by omega) (by rw [hte] at hTK; exact ⟨rfl, _, _, _, _, _, _, f_x, hTK⟩) dX6_needSymbol_21

set_option maxHeartbeats 4000000 in
set_option maxRecDepth 100000 in
/-- needSymbol, not there -/
theorem c_X6_needSymbol_x (l : Launch) (G : CG) {x bk tx fs : Nat} {fg fc : Int32} {bf : Nat → Int32} (hB : ByO bf) (n : Nat) (hn9 : n ≤ 900) (hEx : EFA G x) (ne_tx_x : tx ≠ x) (s9 : Nat) (hs9 : s9 ≤ n) (z : Int32) (hz9 : z ∈ syms) (hk9 : ¬ bt bf n s9 = z) : Wr l yX6_needSymbol cX6_needSymbol 2 ((Option.none : Option FieldType)) 1 21 0 0 G [.ref x, .int z] (fun H9 => At G x (.inr (6, rdF 0 (-1) bk tx (kd bf n s9) (nI s9) (nI (te bf n s9)) (va bf n s9) fg fs fc)) H9 ∧ At G tx (bA G n (sB bf)) H9) (fun q9 => q9 = x) (fun v9 H9 => v9 = none ∧ At G x (.inr (6, rdF (-2) (nI s9) bk tx 1000 (nI s9) (nI (te bf n s9)) (va bf n s9) fg fs fc)) H9) := by
  refine Wr.ofW (by decide) (Nat.le_of_ble_eq_true rfl) (fun p e s m below meth c ls E hG hE hP hr hk hin hl => ?_)
  have hS : va_S (fun q9 => q9 = x) s.heap s.heap [] := va_S.rf
  have hx := E.1
  have hb := E.2.1
  have hl : lv_has ls 2 [(0, .ref x), (1, .int z)] := hl
  have f_x := hP.1
  have f_tx := hP.2
  have hEA : ∀ q9, q9 = x → EFA G q9 := fun q9 h9 => by rw [h9]; exact hEx
  refine lv_aload_n hx hb dX6_needSymbol_0 rfl (lv_at hl 0 rfl) ?_
  refine gf_X6_39 E hG f_x rfl dX6_needSymbol_1 ?_
  refine lv_iload_n hx hb dX6_needSymbol_4 rfl (lv_at hl 1 rfl) ?_
  refine lv_icmp_ne (tgt := 15) hx hb dX6_needSymbol_5 (by decide) (fun c_5 => ?_) (fun c_5 => ?_)
  · refine lv_aload_n hx hb dX6_needSymbol_15 rfl (lv_at hl 0 rfl) ?_
    refine lv_bipush (v := (-2)) hx hb dX6_needSymbol_16 rfl ?_
    refine Wr.callV (rest := []) (c_X6_fail l G hEx (-2) rfl) yk_X6_fail E km_X6_65 dX6_needSymbol_18 hG (hE.S hS hEA) f_x (At.recv hG f_x rfl) rfl rfl hl.1 ⟨Nat.le_of_ble_eq_true rfl, Nat.le_of_ble_eq_true rfl⟩ ⟨(show 0 + 0 ≤ 0 by omega), (show 0 + 0 ≤ 0 by omega)⟩ (Nat.le_of_ble_eq_true rfl) hS (fun _ h9 => h9) (fun v9 H locs hq hz9 hfr9 hS => ?_)
    have f_tx : At G tx (.inl (G.2.1 0, n, .inl (sB bf))) H := va_at.kept f_tx (hfr9 _ (va_at.lt f_tx) ne_tx_x)
    obtain ⟨rfl, f_x⟩ := hq
    exact wr_void E hr hk hS (show 0 + 0 ≤ 0 by omega) (show 0 + 0 ≤ 0 by omega) (⟨rfl, f_x⟩) dX6_needSymbol_21
  · exact absurd ((kd_sym hB hz9).mp c_5) hk9

set_option maxHeartbeats 4000000 in
set_option maxRecDepth 100000 in
/-- needSymbol, behind an error -/
theorem c_X6_needSymbol_b (l : Launch) (G : CG) {x bk tx fs : Nat} {er es st en vv fg fc : Int32} {bf : Nat → Int32} (hB : ByO bf) (n : Nat) (hn9 : n ≤ 900) (hEx : EFA G x) (ne_tx_x : tx ≠ x) (he9 : ¬ er = 0) (z : Int32) (hz9 : z ∈ syms) : Wr l yX6_needSymbol cX6_needSymbol 2 ((Option.none : Option FieldType)) 1 21 0 0 G [.ref x, .int z] (fun H9 => At G x (.inr (6, rdF er es bk tx 1000 st en vv fg fs fc)) H9 ∧ At G tx (bA G n (sB bf)) H9) (fun q9 => q9 = x) (fun v9 H9 => v9 = none ∧ At G x (.inr (6, rdF er es bk tx 1000 st en vv fg fs fc)) H9) := by
  refine Wr.ofW (by decide) (Nat.le_of_ble_eq_true rfl) (fun p e s m below meth c ls E hG hE hP hr hk hin hl => ?_)
  have hS : va_S (fun q9 => q9 = x) s.heap s.heap [] := va_S.rf
  have hx := E.1
  have hb := E.2.1
  have hl : lv_has ls 2 [(0, .ref x), (1, .int z)] := hl
  have f_x := hP.1
  have f_tx := hP.2
  have hEA : ∀ q9, q9 = x → EFA G q9 := fun q9 h9 => by rw [h9]; exact hEx
  have hz8 : ¬ (1000 : Int32) = z := fun y9 => absurd hz9 (by rw [← y9]; decide)
  refine lv_aload_n hx hb dX6_needSymbol_0 rfl (lv_at hl 0 rfl) ?_
  refine gf_X6_39 E hG f_x rfl dX6_needSymbol_1 ?_
  refine lv_iload_n hx hb dX6_needSymbol_4 rfl (lv_at hl 1 rfl) ?_
  refine lv_icmp_ne (tgt := 15) hx hb dX6_needSymbol_5 (by decide) (fun c_5 => ?_) (fun c_5 => ?_)
  · refine lv_aload_n hx hb dX6_needSymbol_15 rfl (lv_at hl 0 rfl) ?_
    refine lv_bipush (v := (-2)) hx hb dX6_needSymbol_16 rfl ?_
    refine Wr.callV (rest := []) (c_X6_fail_b l G hEx (-2) he9) yk_X6_fail E km_X6_65 dX6_needSymbol_18 hG (hE.S hS hEA) f_x (At.recv hG f_x rfl) rfl rfl hl.1 ⟨Nat.le_of_ble_eq_true rfl, Nat.le_of_ble_eq_true rfl⟩ ⟨(show 0 + 0 ≤ 0 by omega), (show 0 + 0 ≤ 0 by omega)⟩ (Nat.le_of_ble_eq_true rfl) hS (fun _ h9 => h9) (fun v9 H locs hq hz9 hfr9 hS => ?_)
    have f_tx : At G tx (.inl (G.2.1 0, n, .inl (sB bf))) H := va_at.kept f_tx (hfr9 _ (va_at.lt f_tx) ne_tx_x)
    obtain ⟨rfl, f_x⟩ := hq
    exact wr_void E hr hk hS (show 0 + 0 ≤ 0 by omega) (show 0 + 0 ≤ 0 by omega) (⟨rfl, f_x⟩) dX6_needSymbol_21
  · exact absurd c_5 hz8

set_option maxHeartbeats 4000000 in
set_option maxRecDepth 100000 in
/-- addFeeStep -/
theorem c_X6_addFeeStep (l : Launch) (G : CG) {x bk tx fs : Nat} {er es ki st en vv fg : Int32} {n : Nat} {f : Nat → Int32} (hn9 : n ≤ 900) (ne_fs_x : fs ≠ x) (k9 : Nat) (hk9 : k9 ≤ n) (z : Int32) : Wr l yX6_addFeeStep cX6_addFeeStep 2 ((Option.none : Option FieldType)) 0 0 0 0 G [.ref x, .int z] (fun H9 => At G x (.inr (6, rdF er es bk tx ki st en vv fg fs (nI k9))) H9 ∧ At G fs (iA G n f) H9) (fun q9 => q9 = x ∨ q9 = fs) (fun v9 H9 => v9 = none ∧ ∃ k8 f8, k8 ≤ n ∧ (k9 < n → k8 = k9 + 1 ∧ f8 = upd f k9 z) ∧ At G x (.inr (6, rdF er es bk tx ki st en vv fg fs (nI k8))) H9 ∧ At G fs (iA G n f8) H9) := by
  refine Wr.ofW (by decide) (Nat.le_of_ble_eq_true rfl) (fun p e s m below meth c ls E hG hE hP hr hk hin hl => ?_)
  have hS : va_S (fun q9 => q9 = x ∨ q9 = fs) s.heap s.heap [] := va_S.rf
  have hx := E.1
  have hb := E.2.1
  have hl : lv_has ls 2 [(0, .ref x), (1, .int z)] := hl
  have f_x := hP.1
  have f_fs := hP.2
  refine lv_aload_n hx hb dX6_addFeeStep_0 rfl (lv_at hl 0 rfl) ?_
  refine gf_X6_173 E hG f_x rfl dX6_addFeeStep_1 ?_
  refine lv_if_lt (tgt := 39) hx hb dX6_addFeeStep_4 (by decide) (fun c_4 => ?_) (fun c_4 => ?_)
  · exact absurd c_4 (nI_pos (by omega))
  refine lv_aload_n hx hb dX6_addFeeStep_7 rfl (lv_at hl 0 rfl) ?_
  refine gf_X6_173 E hG f_x rfl dX6_addFeeStep_8 ?_
  refine lv_aload_n hx hb dX6_addFeeStep_11 rfl (lv_at hl 0 rfl) ?_
  refine gf_X6_32 E hG f_x rfl dX6_addFeeStep_12 ?_
  refine g_len (t0 := 1) (v := (nI n)) E hG f_fs rfl rfl dX6_addFeeStep_15 ?_
  refine lv_icmp_ge (tgt := 39) hx hb dX6_addFeeStep_16 (by decide) (fun c_16 => ?_) (fun c_16 => ?_)
  · have c_16 : n ≤ k9 := (nLE (x := (nI n)) (y := (nI k9)) (a := n) (b := k9) rfl rfl (by omega) (by omega)).mp c_16
    exact wr_void E hr hk hS (show 0 ≤ 0 by omega) (show 0 ≤ 0 by omega) (⟨rfl, k9, f, hk9, fun z9 => by omega, f_x, f_fs⟩) dX6_addFeeStep_39
  · have c_16 : ¬ n ≤ k9 := fun z9 => c_16 ((nLE (x := (nI n)) (y := (nI k9)) (a := n) (b := k9) rfl rfl (by omega) (by omega)).mpr z9)
    refine lv_aload_n hx hb dX6_addFeeStep_19 rfl (lv_at hl 0 rfl) ?_
    refine gf_X6_32 E hG f_x rfl dX6_addFeeStep_20 ?_
    refine lv_aload_n hx hb dX6_addFeeStep_23 rfl (lv_at hl 0 rfl) ?_
    refine gf_X6_173 E hG f_x rfl dX6_addFeeStep_24 ?_
    refine lv_iload_n hx hb dX6_addFeeStep_27 rfl (lv_at hl 1 rfl) ?_
    refine g_ist k9 E hG f_fs rfl (by omega) (by omega) hS (Or.inr rfl) dX6_addFeeStep_28 (fun H locs f_fs hz oq hS => ?_)
    have f_x : At G x (.inr (6, [.int er, .int es, .ref bk, .ref tx, .int ki, .int st, .int en, .int vv, .int fg, .ref fs, .int (nI k9)])) H := oth f_x (Ne.symm ne_fs_x) oq
    have f_fs : At G fs (.inl (G.2.1 1, n, .inl (upd f k9 z))) H := f_fs
    refine lv_aload_n hx hb dX6_addFeeStep_29 rfl (lv_at hl 0 rfl) ?_
    refine lv_dup hx hb dX6_addFeeStep_30 rfl ?_
    refine gf_X6_173 E hG f_x rfl dX6_addFeeStep_31 ?_
    refine lv_iconst (v := 1) hx hb dX6_addFeeStep_34 rfl ?_
    refine lv_iadd hx hb dX6_addFeeStep_35 ?_
    refine lv_ci (y := nI (k9 + 1)) (ixq (nI_ad rfl rfl)) ?_
    refine pf_X6_173 E hG f_x (Nat.le_of_ble_eq_true rfl) rfl rfl hS (Or.inl rfl) dX6_addFeeStep_36 (fun H locs f_x hz oq hS => ?_)
    have f_fs : At G fs (.inl (G.2.1 1, n, .inl (upd f k9 z))) H := oth f_fs ne_fs_x oq
    have f_x : At G x (.inr (6, [.int er, .int es, .ref bk, .ref tx, .int ki, .int st, .int en, .int vv, .int fg, .ref fs, .int (nI (k9 + 1))])) H := f_x
    exact wr_void E hr hk hS (show 0 ≤ 0 by omega) (show 0 ≤ 0 by omega) (⟨rfl, k9 + 1, upd f k9 z, by omega, fun z9 => ⟨rfl, rfl⟩, f_x, f_fs⟩) dX6_addFeeStep_39
