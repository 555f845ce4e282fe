/-! READING: words -/
/-- the word w stands at k, and no letter follows it -/
def isW (bf : Nat → Int32) (n k : Nat) (w : List Int32) : Prop := (∀ i, i < w.length → bt bf n (k + i) = w.getD i 0) ∧ inV (bt bf n (k + w.length)) 97 122 = 0
theorem isW_le {bf : Nat → Int32} {n k : Nat} {w : List Int32} (h : isW bf n k w) (hp : ∀ i, i < w.length → ¬ w.getD i 0 = (-1)) (hk : k ≤ n) : k + w.length ≤ n := by
  by_cases e : w.length = 0
  · omega
  · have := bt_lt (h.1 (w.length - 1) (by omega)) (hp _ (by omega))
    omega
set_option maxHeartbeats 4000000 in
set_option maxRecDepth 100000 in
/-- takeWord -/
theorem c_X8_takeWord (l : Launch) (G : CG) {B : Nat → Nat} {t bl ea eo ud ns ne se : Int32} {bf da dr : Nat → Int32} {hi : Nat → Nat → Int32} {sk : Nat → Int64} (hD : MD G B) (n q : Nat) (hn9 : n ≤ 900) (hq9 : q ≤ n) {j : Nat} {w : List Int32} (hT : IsT G j w) (hA9 : IsA w) (hw9 : w.length < 1000) (hW9 : isW bf n (spc bf n q) w) : Wr l yX8_takeWord cX8_takeWord 3 ((Option.some FieldType.boolean)) 4 85 0 0 G [.ref (B 0), .ref (G.2.2 (10 + j))] (MW G B (fm t bl (nI n) (nI q) 0 ea eo ud ns ne se) bf da dr hi sk) (MA B) (fun v9 H9 => v9 = some (.int 1) ∧ MW G B (fm t bl (nI n) (nI (spc bf n q + w.length)) 0 ea eo ud ns ne se) bf da dr hi sk H9) := by
  refine Wr.ofW (by decide) (Nat.le_of_ble_eq_true rfl) (fun p e s m below meth c ls E hG hE hP hr hk hin hl => ?_)
  have hS : va_S (MA B) s.heap s.heap [] := va_S.rf
  have hx := E.1
  have hb := E.2.1
  have hl : lv_has ls 3 [(0, .ref (B 0)), (1, .ref (G.2.2 (10 + j)))] := hl
  have hsb := sk_b (bf := bf) hq9
  refine lv_aload_n hx hb dX8_takeWord_0 rfl (lv_at hl 0 rfl) ?_
  refine Rd.callV (rest := []) (c_X8_isGood l G) yk_X8_isGood E km_X8_58 dX8_takeWord_1 hG (hE.S hS hD.efa) hP (At.recv hG hP.1 rfl) rfl rfl hl.1 ⟨Nat.le_of_ble_eq_true rfl, Nat.le_of_ble_eq_true rfl⟩ ⟨Nat.zero_le _, Nat.zero_le _⟩ (Nat.le_of_ble_eq_true rfl) ?_
  refine lv_ci (y := 1) (if_pos rfl) ?_
  refine lv_if_ne (tgt := 9) hx hb dX8_takeWord_4 (by decide) (fun c_4 => ?_) (fun c_4 => ?_)
  · refine lv_aload_n hx hb dX8_takeWord_9 rfl (lv_at hl 0 rfl) ?_
    refine Wr.callV (rest := []) (c_X8_next l G hD n q hn9 (by omega)) yk_X8_next E km_X8_62 dX8_takeWord_10 hG (hE.S hS hD.efa) hP (At.recv hG hP.1 rfl) rfl rfl hl.1 ⟨Nat.le_of_ble_eq_true rfl, Nat.le_of_ble_eq_true rfl⟩ ⟨Nat.le_of_ble_eq_true rfl, Nat.le_of_ble_eq_true rfl⟩ (Nat.le_of_ble_eq_true rfl) hS (fun _ h9 => h9) (fun v9 H locs hq hz9 hfr9 hS => ?_)
    obtain ⟨rfl, hP⟩ := hq
    refine lv_pop hx hb dX8_takeWord_13 rfl ?_
    refine lv_iconst (v := 0) hx hb dX8_takeWord_14 rfl ?_
    refine lv_ci (y := nI 0) (ixq rfl) ?_
    refine lv_istore_n (lv' := [(2, .int (nI 0)), (0, .ref (B 0)), (1, .ref (G.2.2 (10 + j)))]) hx hb dX8_takeWord_15 rfl hl (by decide) rfl (fun ls hl => ?_)
    have loop : ∀ (i k : Nat), (w.length < k + i) → (k ≤ w.length) → (∀ a, a < k → bt bf n ((spc bf n q) + a) = w.getD a 0) → ∀ ls : Array Slot, lv_has ls 3 [(2, .int (nI k)), (0, .ref (B 0)), (1, .ref (G.2.2 (10 + j)))] → W p l e { frames := 4, cells := 0, slots := 0, locals := 85 } s m ([.ref (B 0), .ref (G.2.2 (10 + j))] : List Value).toArray below meth c H locs 0 0 (WQ below ([.ref (B 0), .ref (G.2.2 (10 + j))] : List Value).toArray s 0 0 (MA B) (fun v9 H9 => v9 = some (.int 1) ∧ MW G B (fm t bl (nI n) (nI (spc bf n q + w.length)) 0 ea eo ud ns ne se) bf da dr hi sk H9)) (F0 m 16 ls []) := by
      intro i
      induction i with
      | zero => intro k z1 z2; omega
      | succ i ih =>
        intro k z1 z2 z3 ls hl
        refine lv_iload_n hx hb dX8_takeWord_16 rfl (lv_at hl 0 rfl) ?_
        refine lv_aload_n hx hb dX8_takeWord_17 rfl (lv_at hl 2 rfl) ?_
        refine Rd.callV (rest := [.int (nI k)]) (c_J0_length_8abf5 l G hT hw9) yk_J0_length_8abf5 E km_X8_66 dX8_takeWord_18 hG (hE.S hS hD.efa) trivial (va_O.rcv (hT _ _ (hE.S hS hD.efa)).1) rfl rfl hl.1 ⟨Nat.le_of_ble_eq_true rfl, Nat.le_of_ble_eq_true rfl⟩ ⟨Nat.zero_le _, Nat.zero_le _⟩ (Nat.le_of_ble_eq_true rfl) ?_
        refine lv_icmp_ge (tgt := 48) hx hb dX8_takeWord_21 (by decide) (fun c_21 => ?_) (fun c_21 => ?_)
        · have c_21 : w.length ≤ k := (nLE (x := (nI w.length)) (y := (nI k)) (a := w.length) (b := k) rfl rfl (by omega) (by omega)).mp c_21
          have e9 : k = w.length := by omega
          subst e9
          refine lv_iload_n hx hb dX8_takeWord_48 rfl (lv_at hl 0 rfl) ?_
          refine lv_aload_n hx hb dX8_takeWord_49 rfl (lv_at hl 2 rfl) ?_
          refine Rd.callV (rest := [.int (nI w.length)]) (c_J0_length_8abf5 l G hT hw9) yk_J0_length_8abf5 E km_X8_66 dX8_takeWord_50 hG (hE.S hS hD.efa) trivial (va_O.rcv (hT _ _ (hE.S hS hD.efa)).1) rfl rfl hl.1 ⟨Nat.le_of_ble_eq_true rfl, Nat.le_of_ble_eq_true rfl⟩ ⟨Nat.zero_le _, Nat.zero_le _⟩ (Nat.le_of_ble_eq_true rfl) ?_
          refine lv_icmp_lt (tgt := 76) hx hb dX8_takeWord_53 (by decide) (fun c_53 => ?_) (fun c_53 => ?_)
          · exact absurd c_53 (nI_nlt (Nat.le_refl _) (by omega))
          · refine lv_aload_n hx hb dX8_takeWord_56 rfl (lv_at hl 1 rfl) ?_
            refine lv_aload_n hx hb dX8_takeWord_57 rfl (lv_at hl 1 rfl) ?_
            refine gf_X8_41 (v := .int (nI (spc bf n q))) E hG hP.1 rfl dX8_takeWord_58 ?_
            refine lv_iload_n hx hb dX8_takeWord_61 rfl (lv_at hl 0 rfl) ?_
            refine lv_iadd hx hb dX8_takeWord_62 ?_
            refine Rd.callV (rest := []) (c_X8_byteAt l G ((nI (spc bf n q)) + (nI w.length)) (spc bf n q + w.length) n (nI_ad rfl rfl) (by omega) rfl hn9) yk_X8_byteAt E km_X8_44 dX8_takeWord_63 hG (hE.S hS hD.efa) hP (At.recv hG hP.1 rfl) rfl rfl hl.1 ⟨Nat.le_of_ble_eq_true rfl, Nat.le_of_ble_eq_true rfl⟩ ⟨Nat.zero_le _, Nat.zero_le _⟩ (Nat.le_of_ble_eq_true rfl) ?_
            refine lv_bipush (v := 97) hx hb dX8_takeWord_66 rfl ?_
            refine lv_bipush (v := 122) hx hb dX8_takeWord_68 rfl ?_
            refine Rd.callS (rest := []) (c_X8_in l G (bt bf n (spc bf n q + w.length)) 97 122) yk_X8_in E km_X8_54 dX8_takeWord_70 hG (hE.S hS hD.efa) trivial rfl rfl hl.1 ⟨Nat.le_of_ble_eq_true rfl, Nat.le_of_ble_eq_true rfl⟩ ⟨Nat.zero_le _, Nat.zero_le _⟩ (Nat.le_of_ble_eq_true rfl) ?_
            refine lv_if_eq (tgt := 78) hx hb dX8_takeWord_73 (by decide) (fun c_73 => ?_) (fun c_73 => ?_)
            · refine lv_aload_n hx hb dX8_takeWord_78 rfl (lv_at hl 1 rfl) ?_
              refine lv_dup hx hb dX8_takeWord_79 rfl ?_
              refine gf_X8_41 (v := .int (nI (spc bf n q))) E hG hP.1 rfl dX8_takeWord_80 ?_
              refine lv_iload_n hx hb dX8_takeWord_83 rfl (lv_at hl 0 rfl) ?_
              refine lv_iadd hx hb dX8_takeWord_84 ?_
              refine lv_ci (y := nI (spc bf n q + w.length)) (ixq (nI_ad rfl rfl)) ?_
              refine pf_X8_41 E hG hP.1 (Nat.le_of_ble_eq_true rfl) rfl rfl hS ⟨0, by decide, rfl⟩ dX8_takeWord_85 (fun H locs ho hz oq hS => ?_)
              have hP : MW G B (fm t bl (nI n) (nI (spc bf n q + w.length)) 0 ea eo ud ns ne se) bf da dr hi sk H := hP.setO hD ho oq
              refine lv_iconst (v := 1) hx hb dX8_takeWord_88 rfl ?_
              exact wr_bool E hr hk hS (by decide) (by decide) (by first | exact Or.inl rfl | exact Or.inr rfl | (omega)) (⟨rfl, hP⟩) dX8_takeWord_89
            · exact absurd hW9.2 c_73
        · have c_21 : ¬ w.length ≤ k := fun z9 => c_21 ((nLE (x := (nI w.length)) (y := (nI k)) (a := w.length) (b := k) rfl rfl (by omega) (by omega)).mpr z9)
          refine lv_aload_n hx hb dX8_takeWord_24 rfl (lv_at hl 1 rfl) ?_
          refine lv_aload_n hx hb dX8_takeWord_25 rfl (lv_at hl 1 rfl) ?_
          refine gf_X8_41 (v := .int (nI (spc bf n q))) E hG hP.1 rfl dX8_takeWord_26 ?_
          refine lv_iload_n hx hb dX8_takeWord_29 rfl (lv_at hl 0 rfl) ?_
          refine lv_iadd hx hb dX8_takeWord_30 ?_
          refine Rd.callV (rest := []) (c_X8_byteAt l G ((nI (spc bf n q)) + (nI k)) (spc bf n q + k) n (nI_ad rfl rfl) (by omega) rfl hn9) yk_X8_byteAt E km_X8_44 dX8_takeWord_31 hG (hE.S hS hD.efa) hP (At.recv hG hP.1 rfl) rfl rfl hl.1 ⟨Nat.le_of_ble_eq_true rfl, Nat.le_of_ble_eq_true rfl⟩ ⟨Nat.zero_le _, Nat.zero_le _⟩ (Nat.le_of_ble_eq_true rfl) ?_
          refine lv_aload_n hx hb dX8_takeWord_34 rfl (lv_at hl 2 rfl) ?_
          refine lv_iload_n hx hb dX8_takeWord_35 rfl (lv_at hl 0 rfl) ?_
          refine Rd.callV (rest := [.int (bt bf n (spc bf n q + k))]) (c_J0_charAt_5068e l G hT hA9 hw9 (nI k) k rfl (by omega)) yk_J0_charAt_5068e E km_X8_71 dX8_takeWord_36 hG (hE.S hS hD.efa) trivial (va_O.rcv (hT _ _ (hE.S hS hD.efa)).1) rfl rfl hl.1 ⟨Nat.le_of_ble_eq_true rfl, Nat.le_of_ble_eq_true rfl⟩ ⟨Nat.zero_le _, Nat.zero_le _⟩ (Nat.le_of_ble_eq_true rfl) ?_
          refine lv_icmp_ne (tgt := 48) hx hb dX8_takeWord_39 (by decide) (fun c_39 => ?_) (fun c_39 => ?_)
          · exact absurd (hW9.1 k (by omega)) c_39
          · refine lv_iinc (v := (nI (k + 1))) (lv' := [(2, .int (nI (k + 1))), (0, .ref (B 0)), (1, .ref (G.2.2 (10 + j)))]) hx hb dX8_takeWord_42 hl (k := 0) rfl (nI_ad rfl rfl) (by decide) rfl (fun ls hl => ?_)
            refine lv_goto (tgt := 16) hx hb dX8_takeWord_45 (by decide) ?_
            exact ih (k + 1) (by omega) (by omega) (fun a h1 => by by_cases h2 : a = k; (rw [h2]; exact c_39); (exact z3 a (by omega))) ls (lv_sub hl [0, 1, 2] rfl)
    exact loop (w.length + 1) 0 (by omega) (by omega) (fun a h1 => absurd h1 (Nat.not_lt_zero a)) ls (lv_sub hl [0, 1, 2] rfl)
  · exact absurd c_4 (by decide)

set_option maxHeartbeats 4000000 in
set_option maxRecDepth 100000 in
/-- takeWord -/
theorem c_X8_takeWord_n (l : Launch) (G : CG) {B : Nat → Nat} {t bl ea eo ud ns ne se : Int32} {bf da dr : Nat → Int32} {hi : Nat → Nat → Int32} {sk : Nat → Int64} (hD : MD G B) (n q : Nat) (hn9 : n ≤ 900) (hq9 : q ≤ n) {j : Nat} {w : List Int32} (hT : IsT G j w) (hA9 : IsA w) (hw9 : w.length < 1000) (hW9 : ¬ isW bf n (spc bf n q) w) : Wr l yX8_takeWord cX8_takeWord 3 ((Option.some FieldType.boolean)) 4 85 0 0 G [.ref (B 0), .ref (G.2.2 (10 + j))] (MW G B (fm t bl (nI n) (nI q) 0 ea eo ud ns ne se) bf da dr hi sk) (MA B) (fun v9 H9 => v9 = some (.int 0) ∧ MW G B (fm t bl (nI n) (nI (spc bf n q)) 0 ea eo ud ns ne se) bf da dr hi sk H9) := by
  refine Wr.ofW (by decide) (Nat.le_of_ble_eq_true rfl) (fun p e s m below meth c ls E hG hE hP hr hk hin hl => ?_)
  have hS : va_S (MA B) s.heap s.heap [] := va_S.rf
  have hx := E.1
  have hb := E.2.1
  have hl : lv_has ls 3 [(0, .ref (B 0)), (1, .ref (G.2.2 (10 + j)))] := hl
  have hsb := sk_b (bf := bf) hq9
  refine lv_aload_n hx hb dX8_takeWord_0 rfl (lv_at hl 0 rfl) ?_
  refine Rd.callV (rest := []) (c_X8_isGood l G) yk_X8_isGood E km_X8_58 dX8_takeWord_1 hG (hE.S hS hD.efa) hP (At.recv hG hP.1 rfl) rfl rfl hl.1 ⟨Nat.le_of_ble_eq_true rfl, Nat.le_of_ble_eq_true rfl⟩ ⟨Nat.zero_le _, Nat.zero_le _⟩ (Nat.le_of_ble_eq_true rfl) ?_
  refine lv_ci (y := 1) (if_pos rfl) ?_
  refine lv_if_ne (tgt := 9) hx hb dX8_takeWord_4 (by decide) (fun c_4 => ?_) (fun c_4 => ?_)
  · refine lv_aload_n hx hb dX8_takeWord_9 rfl (lv_at hl 0 rfl) ?_
    refine Wr.callV (rest := []) (c_X8_next l G hD n q hn9 (by omega)) yk_X8_next E km_X8_62 dX8_takeWord_10 hG (hE.S hS hD.efa) hP (At.recv hG hP.1 rfl) rfl rfl hl.1 ⟨Nat.le_of_ble_eq_true rfl, Nat.le_of_ble_eq_true rfl⟩ ⟨Nat.le_of_ble_eq_true rfl, Nat.le_of_ble_eq_true rfl⟩ (Nat.le_of_ble_eq_true rfl) hS (fun _ h9 => h9) (fun v9 H locs hq hz9 hfr9 hS => ?_)
    obtain ⟨rfl, hP⟩ := hq
    refine lv_pop hx hb dX8_takeWord_13 rfl ?_
    refine lv_iconst (v := 0) hx hb dX8_takeWord_14 rfl ?_
    refine lv_ci (y := nI 0) (ixq rfl) ?_
    refine lv_istore_n (lv' := [(2, .int (nI 0)), (0, .ref (B 0)), (1, .ref (G.2.2 (10 + j)))]) hx hb dX8_takeWord_15 rfl hl (by decide) rfl (fun ls hl => ?_)
    have loop : ∀ (i k : Nat), (w.length < k + i) → (k ≤ w.length) → (∀ a, a < k → bt bf n ((spc bf n q) + a) = w.getD a 0) → ∀ ls : Array Slot, lv_has ls 3 [(2, .int (nI k)), (0, .ref (B 0)), (1, .ref (G.2.2 (10 + j)))] → W p l e { frames := 4, cells := 0, slots := 0, locals := 85 } s m ([.ref (B 0), .ref (G.2.2 (10 + j))] : List Value).toArray below meth c H locs 0 0 (WQ below ([.ref (B 0), .ref (G.2.2 (10 + j))] : List Value).toArray s 0 0 (MA B) (fun v9 H9 => v9 = some (.int 0) ∧ MW G B (fm t bl (nI n) (nI (spc bf n q)) 0 ea eo ud ns ne se) bf da dr hi sk H9)) (F0 m 16 ls []) := by
      intro i
      induction i with
      | zero => intro k z1 z2; omega
      | succ i ih =>
        intro k z1 z2 z3 ls hl
        refine lv_iload_n hx hb dX8_takeWord_16 rfl (lv_at hl 0 rfl) ?_
        refine lv_aload_n hx hb dX8_takeWord_17 rfl (lv_at hl 2 rfl) ?_
        refine Rd.callV (rest := [.int (nI k)]) (c_J0_length_8abf5 l G hT hw9) yk_J0_length_8abf5 E km_X8_66 dX8_takeWord_18 hG (hE.S hS hD.efa) trivial (va_O.rcv (hT _ _ (hE.S hS hD.efa)).1) rfl rfl hl.1 ⟨Nat.le_of_ble_eq_true rfl, Nat.le_of_ble_eq_true rfl⟩ ⟨Nat.zero_le _, Nat.zero_le _⟩ (Nat.le_of_ble_eq_true rfl) ?_
        refine lv_icmp_ge (tgt := 48) hx hb dX8_takeWord_21 (by decide) (fun c_21 => ?_) (fun c_21 => ?_)
        · have c_21 : w.length ≤ k := (nLE (x := (nI w.length)) (y := (nI k)) (a := w.length) (b := k) rfl rfl (by omega) (by omega)).mp c_21
          have e9 : k = w.length := by omega
          subst e9
          refine lv_iload_n hx hb dX8_takeWord_48 rfl (lv_at hl 0 rfl) ?_
          refine lv_aload_n hx hb dX8_takeWord_49 rfl (lv_at hl 2 rfl) ?_
          refine Rd.callV (rest := [.int (nI w.length)]) (c_J0_length_8abf5 l G hT hw9) yk_J0_length_8abf5 E km_X8_66 dX8_takeWord_50 hG (hE.S hS hD.efa) trivial (va_O.rcv (hT _ _ (hE.S hS hD.efa)).1) rfl rfl hl.1 ⟨Nat.le_of_ble_eq_true rfl, Nat.le_of_ble_eq_true rfl⟩ ⟨Nat.zero_le _, Nat.zero_le _⟩ (Nat.le_of_ble_eq_true rfl) ?_
          refine lv_icmp_lt (tgt := 76) hx hb dX8_takeWord_53 (by decide) (fun c_53 => ?_) (fun c_53 => ?_)
          · exact absurd c_53 (nI_nlt (Nat.le_refl _) (by omega))
          · refine lv_aload_n hx hb dX8_takeWord_56 rfl (lv_at hl 1 rfl) ?_
            refine lv_aload_n hx hb dX8_takeWord_57 rfl (lv_at hl 1 rfl) ?_
            refine gf_X8_41 (v := .int (nI (spc bf n q))) E hG hP.1 rfl dX8_takeWord_58 ?_
            refine lv_iload_n hx hb dX8_takeWord_61 rfl (lv_at hl 0 rfl) ?_
            refine lv_iadd hx hb dX8_takeWord_62 ?_
            refine Rd.callV (rest := []) (c_X8_byteAt l G ((nI (spc bf n q)) + (nI w.length)) (spc bf n q + w.length) n (nI_ad rfl rfl) (by omega) rfl hn9) yk_X8_byteAt E km_X8_44 dX8_takeWord_63 hG (hE.S hS hD.efa) hP (At.recv hG hP.1 rfl) rfl rfl hl.1 ⟨Nat.le_of_ble_eq_true rfl, Nat.le_of_ble_eq_true rfl⟩ ⟨Nat.zero_le _, Nat.zero_le _⟩ (Nat.le_of_ble_eq_true rfl) ?_
            refine lv_bipush (v := 97) hx hb dX8_takeWord_66 rfl ?_
            refine lv_bipush (v := 122) hx hb dX8_takeWord_68 rfl ?_
            refine Rd.callS (rest := []) (c_X8_in l G (bt bf n (spc bf n q + w.length)) 97 122) yk_X8_in E km_X8_54 dX8_takeWord_70 hG (hE.S hS hD.efa) trivial rfl rfl hl.1 ⟨Nat.le_of_ble_eq_true rfl, Nat.le_of_ble_eq_true rfl⟩ ⟨Nat.zero_le _, Nat.zero_le _⟩ (Nat.le_of_ble_eq_true rfl) ?_
            refine lv_if_eq (tgt := 78) hx hb dX8_takeWord_73 (by decide) (fun c_73 => ?_) (fun c_73 => ?_)
            · exact absurd ⟨z3, c_73⟩ hW9
            · refine lv_iconst (v := 0) hx hb dX8_takeWord_76 rfl ?_
              exact wr_bool E hr hk hS (by decide) (by decide) (by first | exact Or.inl rfl | exact Or.inr rfl | (omega)) (⟨rfl, hP⟩) dX8_takeWord_77
        · have c_21 : ¬ w.length ≤ k := fun z9 => c_21 ((nLE (x := (nI w.length)) (y := (nI k)) (a := w.length) (b := k) rfl rfl (by omega) (by omega)).mpr z9)
          refine lv_aload_n hx hb dX8_takeWord_24 rfl (lv_at hl 1 rfl) ?_
          refine lv_aload_n hx hb dX8_takeWord_25 rfl (lv_at hl 1 rfl) ?_
          refine gf_X8_41 (v := .int (nI (spc bf n q))) E hG hP.1 rfl dX8_takeWord_26 ?_
          refine lv_iload_n hx hb dX8_takeWord_29 rfl (lv_at hl 0 rfl) ?_
          refine lv_iadd hx hb dX8_takeWord_30 ?_
          refine Rd.callV (rest := []) (c_X8_byteAt l G ((nI (spc bf n q)) + (nI k)) (spc bf n q + k) n (nI_ad rfl rfl) (by omega) rfl hn9) yk_X8_byteAt E km_X8_44 dX8_takeWord_31 hG (hE.S hS hD.efa) hP (At.recv hG hP.1 rfl) rfl rfl hl.1 ⟨Nat.le_of_ble_eq_true rfl, Nat.le_of_ble_eq_true rfl⟩ ⟨Nat.zero_le _, Nat.zero_le _⟩ (Nat.le_of_ble_eq_true rfl) ?_
          refine lv_aload_n hx hb dX8_takeWord_34 rfl (lv_at hl 2 rfl) ?_
          refine lv_iload_n hx hb dX8_takeWord_35 rfl (lv_at hl 0 rfl) ?_
          refine Rd.callV (rest := [.int (bt bf n (spc bf n q + k))]) (c_J0_charAt_5068e l G hT hA9 hw9 (nI k) k rfl (by omega)) yk_J0_charAt_5068e E km_X8_71 dX8_takeWord_36 hG (hE.S hS hD.efa) trivial (va_O.rcv (hT _ _ (hE.S hS hD.efa)).1) rfl rfl hl.1 ⟨Nat.le_of_ble_eq_true rfl, Nat.le_of_ble_eq_true rfl⟩ ⟨Nat.zero_le _, Nat.zero_le _⟩ (Nat.le_of_ble_eq_true rfl) ?_
          refine lv_icmp_ne (tgt := 48) hx hb dX8_takeWord_39 (by decide) (fun c_39 => ?_) (fun c_39 => ?_)
          · refine lv_iload_n hx hb dX8_takeWord_48 rfl (lv_at hl 0 rfl) ?_
            refine lv_aload_n hx hb dX8_takeWord_49 rfl (lv_at hl 2 rfl) ?_
            refine Rd.callV (rest := [.int (nI k)]) (c_J0_length_8abf5 l G hT hw9) yk_J0_length_8abf5 E km_X8_66 dX8_takeWord_50 hG (hE.S hS hD.efa) trivial (va_O.rcv (hT _ _ (hE.S hS hD.efa)).1) rfl rfl hl.1 ⟨Nat.le_of_ble_eq_true rfl, Nat.le_of_ble_eq_true rfl⟩ ⟨Nat.zero_le _, Nat.zero_le _⟩ (Nat.le_of_ble_eq_true rfl) ?_
            refine lv_icmp_lt (tgt := 76) hx hb dX8_takeWord_53 (by decide) (fun c_53 => ?_) (fun c_53 => ?_)
            · refine lv_iconst (v := 0) hx hb dX8_takeWord_76 rfl ?_
              exact wr_bool E hr hk hS (by decide) (by decide) (by first | exact Or.inl rfl | exact Or.inr rfl | (omega)) (⟨rfl, hP⟩) dX8_takeWord_77
            · exact absurd (nI_lt (show k < w.length by omega) (by omega)) c_53
          · refine lv_iinc (v := (nI (k + 1))) (lv' := [(2, .int (nI (k + 1))), (0, .ref (B 0)), (1, .ref (G.2.2 (10 + j)))]) hx hb dX8_takeWord_42 hl (k := 0) rfl (nI_ad rfl rfl) (by decide) rfl (fun ls hl => ?_)
            refine lv_goto (tgt := 16) hx hb dX8_takeWord_45 (by decide) ?_
            exact ih (k + 1) (by omega) (by omega) (fun a h1 => by by_cases h2 : a = k; (rw [h2]; exact c_39); (exact z3 a (by omega))) ls (lv_sub hl [0, 1, 2] rfl)
    exact loop (w.length + 1) 0 (by omega) (by omega) (fun a h1 => absurd h1 (Nat.not_lt_zero a)) ls (lv_sub hl [0, 1, 2] rfl)
  · exact absurd c_4 (by decide)

set_option maxHeartbeats 4000000 in
set_option maxRecDepth 100000 in
/-- takeWord, behind an error -/
theorem c_X8_takeWord_b (l : Launch) (G : CG) {B : Nat → Nat} {t bl tl ps er ea eo ud ns ne se : Int32} {bf da dr : Nat → Int32} {hi : Nat → Nat → Int32} {sk : Nat → Int64} (hD : MD G B) (x : Nat) (he9 : ¬ er = 0) : Wr l yX8_takeWord cX8_takeWord 3 ((Option.some FieldType.boolean)) 1 20 0 0 G [.ref (B 0), .ref x] (MW G B (fm t bl tl ps er ea eo ud ns ne se) bf da dr hi sk) (MA B) (fun v9 H9 => v9 = some (.int 0) ∧ MW G B (fm t bl tl ps er ea eo ud ns ne se) bf da dr hi sk H9) := by
  refine Wr.ofW (by decide) (Nat.le_of_ble_eq_true rfl) (fun p e s m below meth c ls E hG hE hP hr hk hin hl => ?_)
  have hS : va_S (MA B) s.heap s.heap [] := va_S.rf
  have hx := E.1
  have hb := E.2.1
  have hl : lv_has ls 3 [(0, .ref (B 0)), (1, .ref x)] := hl
  refine lv_aload_n hx hb dX8_takeWord_0 rfl (lv_at hl 0 rfl) ?_
  refine Rd.callV (rest := []) (c_X8_isGood l G) yk_X8_isGood E km_X8_58 dX8_takeWord_1 hG (hE.S hS hD.efa) hP (At.recv hG hP.1 rfl) rfl rfl hl.1 ⟨Nat.le_of_ble_eq_true rfl, Nat.le_of_ble_eq_true rfl⟩ ⟨Nat.zero_le _, Nat.zero_le _⟩ (Nat.le_of_ble_eq_true rfl) ?_
  refine lv_ci (y := 0) (if_neg he9) ?_
  refine lv_if_ne (tgt := 9) hx hb dX8_takeWord_4 (by decide) (fun c_4 => ?_) (fun c_4 => ?_)
  · exact absurd c_4 (by decide)
  · refine lv_iconst (v := 0) hx hb dX8_takeWord_7 rfl ?_
    exact wr_bool E hr hk hS (by decide) (by decide) (by first | exact Or.inl rfl | exact Or.inr rfl | (omega)) (⟨rfl, hP⟩) dX8_takeWord_8
