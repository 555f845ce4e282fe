/-! READING: numbers -/
def dgR (bf : Nat → Int32) (n : Nat) : Nat → Nat → Int32 → Nat × Int32
  | 0, k, v => (k, v)
  | j + 1, k, v => if inV (bt bf n k) 48 57 = 1 then dgR bf n j (k + 1) (minV 1000000 (10 * v + bt bf n k - 48)) else (k, v)
/-- digits from k on: where they end, and what they say -/
def dg (bf : Nat → Int32) (n k : Nat) (v : Int32) : Nat × Int32 := dgR bf n (n - k) k v
theorem dg_n {bf : Nat → Int32} {n k : Nat} {v : Int32} (h : ¬ inV (bt bf n k) 48 57 = 1) : dg bf n k v = (k, v) := by
  unfold dg
  cases n - k with
  | zero => rfl
  | succ j => exact if_neg h
theorem dg_lt {bf : Nat → Int32} {n k : Nat} (h : inV (bt bf n k) 48 57 = 1) : k < n := by
  unfold bt at h
  by_cases e : n ≤ k
  · rw [if_pos e] at h
    exact absurd h (by decide)
  · omega
theorem dg_s {bf : Nat → Int32} {n k : Nat} {v : Int32} (h : inV (bt bf n k) 48 57 = 1) : dg bf n k v = dg bf n (k + 1) (minV 1000000 (10 * v + bt bf n k - 48)) := by
  have hk := dg_lt h
  unfold dg
  rw [show n - k = (n - (k + 1)) + 1 by omega]
  exact if_pos h
set_option maxHeartbeats 4000000 in
set_option maxRecDepth 100000 in
/-- number -/
theorem c_X8_number (l : Launch) (G : CG) {B : Nat → Nat} {t bl ea eo ud ns ne se : Int32} {bf da dr : Nat → Int32} {hi : Nat → Nat → Int32} {sk : Nat → Int64} (hD : MD G B) (n q : Nat) (hn9 : n ≤ 900) (hq9 : q ≤ n) (lo9 up9 : Int32) (hd9 : inV (bt bf n (spc bf n q)) 48 57 = 1) (hr9 : inV (dg bf n (spc bf n q) 0).2 lo9 up9 = 1) : Wr l yX8_number cX8_number 4 ((Option.some FieldType.int)) 2 42 0 0 G [.ref (B 0), .int lo9, .int up9] (MW G B (fm t bl (nI n) (nI q) 0 ea eo ud ns ne se) bf da dr hi sk) (MA B) (fun v9 H9 => v9 = some (.int (dg bf n (spc bf n q) 0).2) ∧ MW G B (fm t bl (nI n) (nI ((dg bf n (spc bf n q) 0).1)) 0 ea eo ud (nI (spc bf n q)) ne se) bf da dr hi sk H9) := by
  refine Wr.ofW (by decide) (Nat.le_of_ble_eq_true rfl) (fun p e s m below meth c ls E hG hE hP hr hk hin hl => ?_)
  have hS : va_S (MA B) s.heap s.heap [] := va_S.rf
  have hx := E.1
  have hb := E.2.1
  have hl : lv_has ls 4 [(0, .ref (B 0)), (1, .int lo9), (2, .int up9)] := hl
  have hsb := sk_b (bf := bf) hq9
  refine lv_aload_n hx hb dX8_number_0 rfl (lv_at hl 0 rfl) ?_
  refine Rd.callV (rest := []) (c_X8_isGood l G) yk_X8_isGood E km_X8_58 dX8_number_1 hG (hE.S hS hD.efa) hP (At.recv hG hP.1 rfl) rfl rfl hl.1 ⟨Nat.le_of_ble_eq_true rfl, Nat.le_of_ble_eq_true rfl⟩ ⟨Nat.zero_le _, Nat.zero_le _⟩ (Nat.le_of_ble_eq_true rfl) ?_
  refine lv_ci (y := 1) (if_pos rfl) ?_
  refine lv_if_ne (tgt := 9) hx hb dX8_number_4 (by decide) (fun c_4 => ?_) (fun c_4 => ?_)
  · refine lv_aload_n hx hb dX8_number_9 rfl (lv_at hl 0 rfl) ?_
    refine Wr.callV (rest := []) (c_X8_next l G hD n q hn9 (by omega)) yk_X8_next E km_X8_62 dX8_number_10 hG (hE.S hS hD.efa) hP (At.recv hG hP.1 rfl) rfl rfl hl.1 ⟨Nat.le_of_ble_eq_true rfl, Nat.le_of_ble_eq_true rfl⟩ ⟨Nat.le_of_ble_eq_true rfl, Nat.le_of_ble_eq_true rfl⟩ (Nat.le_of_ble_eq_true rfl) hS (fun _ h9 => h9) (fun v9 H locs hq hz9 hfr9 hS => ?_)
    obtain ⟨rfl, hP⟩ := hq
    refine Rd.callS (rest := []) (c_X8_isDigit l G (bt bf n (spc bf n q))) yk_X8_isDigit E km_X8_79 dX8_number_13 hG (hE.S hS hD.efa) trivial rfl rfl hl.1 ⟨Nat.le_of_ble_eq_true rfl, Nat.le_of_ble_eq_true rfl⟩ ⟨Nat.zero_le _, Nat.zero_le _⟩ (Nat.le_of_ble_eq_true rfl) ?_
    refine lv_if_ne (tgt := 31) hx hb dX8_number_16 (by decide) (fun c_16 => ?_) (fun c_16 => ?_)
    · refine lv_aload_n hx hb dX8_number_31 rfl (lv_at hl 0 rfl) ?_
      refine lv_aload_n hx hb dX8_number_32 rfl (lv_at hl 0 rfl) ?_
      refine gf_X8_41 (v := .int (nI (spc bf n q))) E hG hP.1 rfl dX8_number_33 ?_
      refine pf_X8_83 E hG hP.1 (Nat.le_of_ble_eq_true rfl) rfl rfl hS ⟨0, by decide, rfl⟩ dX8_number_36 (fun H locs ho hz oq hS => ?_)
      have hP : MW G B (fm t bl (nI n) (nI (spc bf n q)) 0 ea eo ud (nI (spc bf n q)) ne se) bf da dr hi sk H := hP.setO hD ho oq
      refine lv_iconst (v := 0) hx hb dX8_number_39 rfl ?_
      refine lv_istore_n (lv' := [(3, .int 0), (0, .ref (B 0)), (1, .int lo9), (2, .int up9)]) hx hb dX8_number_40 rfl hl (by decide) rfl (fun ls hl => ?_)
      have loop : ∀ (j q1 : Nat) (v : Int32), n < q1 + j → q1 ≤ n → dg bf n q1 v = (dg bf n (spc bf n q) 0) → ∀ (H : Heap) (locs : List Loc), MW G B (fm t bl (nI n) (nI q1) 0 ea eo ud (nI (spc bf n q)) ne se) bf da dr hi sk H → va_S (MA B) s.heap H locs → ∀ ls : Array Slot, lv_has ls 4 [(3, .int v), (0, .ref (B 0)), (1, .int lo9), (2, .int up9)] → W p l e { frames := 2, cells := 0, slots := 0, locals := 42 } s m ([.ref (B 0), .int lo9, .int up9] : List Value).toArray below meth c H locs 0 0 (WQ below ([.ref (B 0), .int lo9, .int up9] : List Value).toArray s 0 0 (MA B) (fun v9 H9 => v9 = some (.int (dg bf n (spc bf n q) 0).2) ∧ MW G B (fm t bl (nI n) (nI ((dg bf n (spc bf n q) 0).1)) 0 ea eo ud (nI (spc bf n q)) ne se) bf da dr hi sk H9)) (F0 m 41 ls []) := by
        intro j
        induction j with
        | zero => intro q1 v z1 z2; omega
        | succ j ih =>
          intro q1 v z1 z2 z3 H locs hP hS ls hl
          refine lv_aload_n hx hb dX8_number_41 rfl (lv_at hl 1 rfl) ?_
          refine lv_aload_n hx hb dX8_number_42 rfl (lv_at hl 1 rfl) ?_
          refine gf_X8_41 (v := .int (nI q1)) E hG hP.1 rfl dX8_number_43 ?_
          refine Rd.callV (rest := []) (c_X8_byteAt l G (nI q1) q1 n rfl (by omega) rfl hn9) yk_X8_byteAt E km_X8_44 dX8_number_46 hG (hE.S hS hD.efa) hP (At.recv hG hP.1 rfl) rfl rfl hl.1 ⟨Nat.le_of_ble_eq_true rfl, Nat.le_of_ble_eq_true rfl⟩ ⟨Nat.zero_le _, Nat.zero_le _⟩ (Nat.le_of_ble_eq_true rfl) ?_
          refine Rd.callS (rest := []) (c_X8_isDigit l G (bt bf n q1)) yk_X8_isDigit E km_X8_79 dX8_number_49 hG (hE.S hS hD.efa) trivial rfl rfl hl.1 ⟨Nat.le_of_ble_eq_true rfl, Nat.le_of_ble_eq_true rfl⟩ ⟨Nat.zero_le _, Nat.zero_le _⟩ (Nat.le_of_ble_eq_true rfl) ?_
          refine lv_if_eq (tgt := 90) hx hb dX8_number_52 (by decide) (fun c_52 => ?_) (fun c_52 => ?_)
          · have e8 : dg bf n q1 v = (q1, v) := dg_n (by rw [c_52]; decide)
            rw [e8] at z3
            have e7 : q1 = (dg bf n (spc bf n q) 0).1 := congrArg Prod.fst z3
            have e6 : v = (dg bf n (spc bf n q) 0).2 := congrArg Prod.snd z3
            rw [e7] at hP
            rw [e6] at hl
            refine lv_iload_n hx hb dX8_number_90 rfl (lv_at hl 0 rfl) ?_
            refine lv_iload_n hx hb dX8_number_91 rfl (lv_at hl 2 rfl) ?_
            refine lv_iload_n hx hb dX8_number_92 rfl (lv_at hl 3 rfl) ?_
            refine Rd.callS (rest := []) (c_X8_in l G (dg bf n (spc bf n q) 0).2 lo9 up9) yk_X8_in E km_X8_54 dX8_number_93 hG (hE.S hS hD.efa) trivial rfl rfl hl.1 ⟨Nat.le_of_ble_eq_true rfl, Nat.le_of_ble_eq_true rfl⟩ ⟨Nat.zero_le _, Nat.zero_le _⟩ (Nat.le_of_ble_eq_true rfl) ?_
            refine lv_if_ne (tgt := 109) hx hb dX8_number_96 (by decide) (fun c_96 => ?_) (fun c_96 => ?_)
            · refine lv_iload_n hx hb dX8_number_109 rfl (lv_at hl 0 rfl) ?_
              exact wr_int E hr hk hS (by decide) (by decide) (⟨rfl, hP⟩) dX8_number_110
            · exact (by rw [hr9] at c_96; exact absurd c_96 (by decide))
          · have c9 : inV (bt bf n q1) 48 57 = 1 := (inV01 _ _ _).resolve_left c_52
            have hq2 := dg_lt c9
            refine lv_ldc (v := 1000000) hx hb E.2.2.2.1 (E.2.2.2.2 _ kk_X8_86) dX8_number_55 ?_
            refine lv_bipush (v := 10) hx hb dX8_number_57 rfl ?_
            refine lv_iload_n hx hb dX8_number_59 rfl (lv_at hl 0 rfl) ?_
            refine lv_imul hx hb dX8_number_60 ?_
            refine lv_aload_n hx hb dX8_number_61 rfl (lv_at hl 1 rfl) ?_
            refine lv_aload_n hx hb dX8_number_62 rfl (lv_at hl 1 rfl) ?_
            refine gf_X8_41 (v := .int (nI q1)) E hG hP.1 rfl dX8_number_63 ?_
            refine Rd.callV (rest := [.int (10 * v), .int 1000000]) (c_X8_byteAt l G (nI q1) q1 n rfl (by omega) rfl hn9) yk_X8_byteAt E km_X8_44 dX8_number_66 hG (hE.S hS hD.efa) hP (At.recv hG hP.1 rfl) rfl rfl hl.1 ⟨Nat.le_of_ble_eq_true rfl, Nat.le_of_ble_eq_true rfl⟩ ⟨Nat.zero_le _, Nat.zero_le _⟩ (Nat.le_of_ble_eq_true rfl) ?_
            refine lv_iadd hx hb dX8_number_69 ?_
            refine lv_bipush (v := 48) hx hb dX8_number_70 rfl ?_
            refine lv_isub hx hb dX8_number_72 ?_
            refine Rd.callS (rest := []) (c_X8_min l G 1000000 (((10 * v) + (bt bf n q1)) - 48)) yk_X8_min E km_X8_87 dX8_number_73 hG (hE.S hS hD.efa) trivial rfl rfl hl.1 ⟨Nat.le_of_ble_eq_true rfl, Nat.le_of_ble_eq_true rfl⟩ ⟨Nat.zero_le _, Nat.zero_le _⟩ (Nat.le_of_ble_eq_true rfl) ?_
            refine lv_istore_n (lv' := [(3, .int (minV 1000000 (((10 * v) + (bt bf n q1)) - 48))), (0, .ref (B 0)), (1, .int lo9), (2, .int up9)]) hx hb dX8_number_76 rfl hl (by decide) rfl (fun ls hl => ?_)
            refine lv_aload_n hx hb dX8_number_77 rfl (lv_at hl 1 rfl) ?_
            refine lv_dup hx hb dX8_number_78 rfl ?_
            refine gf_X8_41 (v := .int (nI q1)) E hG hP.1 rfl dX8_number_79 ?_
            refine lv_iconst (v := 1) hx hb dX8_number_82 rfl ?_
            refine lv_iadd hx hb dX8_number_83 ?_
            refine lv_ci (y := nI (q1 + 1)) (ixq (nI_ad rfl rfl)) ?_
            refine pf_X8_41 E hG hP.1 (Nat.le_of_ble_eq_true rfl) rfl rfl hS ⟨0, by decide, rfl⟩ dX8_number_84 (fun H locs ho hz oq hS => ?_)
            have hP : MW G B (fm t bl (nI n) (nI (q1 + 1)) 0 ea eo ud (nI (spc bf n q)) ne se) bf da dr hi sk H := hP.setO hD ho oq
            refine lv_goto (tgt := 41) hx hb dX8_number_87 (by decide) ?_
            exact ih (q1 + 1) _ (by omega) (by omega) (by rw [← z3, dg_s c9]) H locs hP hS ls (lv_sub hl [0, 1, 2, 3] rfl)
      exact loop (n + 1) (spc bf n q) 0 (by omega) (by omega) rfl _ _ hP hS ls (lv_sub hl [0, 1, 2, 3] rfl)
    · exact (by rw [hd9] at c_16; exact absurd c_16 (by decide))
  · exact absurd c_4 (by decide)

set_option maxHeartbeats 4000000 in
set_option maxRecDepth 100000 in
/-- number -/
theorem c_X8_number_r (l : Launch) (G : CG) {B : Nat → Nat} {t bl ea eo ud ns ne se : Int32} {bf da dr : Nat → Int32} {hi : Nat → Nat → Int32} {sk : Nat → Int64} (hD : MD G B) (n q : Nat) (hn9 : n ≤ 900) (hq9 : q ≤ n) (lo9 up9 : Int32) (hd9 : inV (bt bf n (spc bf n q)) 48 57 = 1) (hr9 : inV (dg bf n (spc bf n q) 0).2 lo9 up9 = 0) : Wr l yX8_number cX8_number 4 ((Option.some FieldType.int)) 2 42 0 0 G [.ref (B 0), .int lo9, .int up9] (MW G B (fm t bl (nI n) (nI q) 0 ea eo ud ns ne se) bf da dr hi sk) (MA B) (fun v9 H9 => v9 = some (.int (dg bf n (spc bf n q) 0).2) ∧ MW G B (fm t bl (nI n) (nI ((dg bf n (spc bf n q) 0).1)) (-3) (nI (spc bf n q)) eo ud (nI (spc bf n q)) ne se) bf da dr hi sk H9) := by
  refine Wr.ofW (by decide) (Nat.le_of_ble_eq_true rfl) (fun p e s m below meth c ls E hG hE hP hr hk hin hl => ?_)
  have hS : va_S (MA B) s.heap s.heap [] := va_S.rf
  have hx := E.1
  have hb := E.2.1
  have hl : lv_has ls 4 [(0, .ref (B 0)), (1, .int lo9), (2, .int up9)] := hl
  have hsb := sk_b (bf := bf) hq9
  refine lv_aload_n hx hb dX8_number_0 rfl (lv_at hl 0 rfl) ?_
  refine Rd.callV (rest := []) (c_X8_isGood l G) yk_X8_isGood E km_X8_58 dX8_number_1 hG (hE.S hS hD.efa) hP (At.recv hG hP.1 rfl) rfl rfl hl.1 ⟨Nat.le_of_ble_eq_true rfl, Nat.le_of_ble_eq_true rfl⟩ ⟨Nat.zero_le _, Nat.zero_le _⟩ (Nat.le_of_ble_eq_true rfl) ?_
  refine lv_ci (y := 1) (if_pos rfl) ?_
  refine lv_if_ne (tgt := 9) hx hb dX8_number_4 (by decide) (fun c_4 => ?_) (fun c_4 => ?_)
  · refine lv_aload_n hx hb dX8_number_9 rfl (lv_at hl 0 rfl) ?_
    refine Wr.callV (rest := []) (c_X8_next l G hD n q hn9 (by omega)) yk_X8_next E km_X8_62 dX8_number_10 hG (hE.S hS hD.efa) hP (At.recv hG hP.1 rfl) rfl rfl hl.1 ⟨Nat.le_of_ble_eq_true rfl, Nat.le_of_ble_eq_true rfl⟩ ⟨Nat.le_of_ble_eq_true rfl, Nat.le_of_ble_eq_true rfl⟩ (Nat.le_of_ble_eq_true rfl) hS (fun _ h9 => h9) (fun v9 H locs hq hz9 hfr9 hS => ?_)
    obtain ⟨rfl, hP⟩ := hq
    refine Rd.callS (rest := []) (c_X8_isDigit l G (bt bf n (spc bf n q))) yk_X8_isDigit E km_X8_79 dX8_number_13 hG (hE.S hS hD.efa) trivial rfl rfl hl.1 ⟨Nat.le_of_ble_eq_true rfl, Nat.le_of_ble_eq_true rfl⟩ ⟨Nat.zero_le _, Nat.zero_le _⟩ (Nat.le_of_ble_eq_true rfl) ?_
    refine lv_if_ne (tgt := 31) hx hb dX8_number_16 (by decide) (fun c_16 => ?_) (fun c_16 => ?_)
    · refine lv_aload_n hx hb dX8_number_31 rfl (lv_at hl 0 rfl) ?_
      refine lv_aload_n hx hb dX8_number_32 rfl (lv_at hl 0 rfl) ?_
      refine gf_X8_41 (v := .int (nI (spc bf n q))) E hG hP.1 rfl dX8_number_33 ?_
      refine pf_X8_83 E hG hP.1 (Nat.le_of_ble_eq_true rfl) rfl rfl hS ⟨0, by decide, rfl⟩ dX8_number_36 (fun H locs ho hz oq hS => ?_)
      have hP : MW G B (fm t bl (nI n) (nI (spc bf n q)) 0 ea eo ud (nI (spc bf n q)) ne se) bf da dr hi sk H := hP.setO hD ho oq
      refine lv_iconst (v := 0) hx hb dX8_number_39 rfl ?_
      refine lv_istore_n (lv' := [(3, .int 0), (0, .ref (B 0)), (1, .int lo9), (2, .int up9)]) hx hb dX8_number_40 rfl hl (by decide) rfl (fun ls hl => ?_)
      have loop : ∀ (j q1 : Nat) (v : Int32), n < q1 + j → q1 ≤ n → dg bf n q1 v = (dg bf n (spc bf n q) 0) → ∀ (H : Heap) (locs : List Loc), MW G B (fm t bl (nI n) (nI q1) 0 ea eo ud (nI (spc bf n q)) ne se) bf da dr hi sk H → va_S (MA B) s.heap H locs → ∀ ls : Array Slot, lv_has ls 4 [(3, .int v), (0, .ref (B 0)), (1, .int lo9), (2, .int up9)] → W p l e { frames := 2, cells := 0, slots := 0, locals := 42 } s m ([.ref (B 0), .int lo9, .int up9] : List Value).toArray below meth c H locs 0 0 (WQ below ([.ref (B 0), .int lo9, .int up9] : List Value).toArray s 0 0 (MA B) (fun v9 H9 => v9 = some (.int (dg bf n (spc bf n q) 0).2) ∧ MW G B (fm t bl (nI n) (nI ((dg bf n (spc bf n q) 0).1)) (-3) (nI (spc bf n q)) eo ud (nI (spc bf n q)) ne se) bf da dr hi sk H9)) (F0 m 41 ls []) := by
        intro j
        induction j with
        | zero => intro q1 v z1 z2; omega
        | succ j ih =>
          intro q1 v z1 z2 z3 H locs hP hS ls hl
          refine lv_aload_n hx hb dX8_number_41 rfl (lv_at hl 1 rfl) ?_
          refine lv_aload_n hx hb dX8_number_42 rfl (lv_at hl 1 rfl) ?_
          refine gf_X8_41 (v := .int (nI q1)) E hG hP.1 rfl dX8_number_43 ?_
          refine Rd.callV (rest := []) (c_X8_byteAt l G (nI q1) q1 n rfl (by omega) rfl hn9) yk_X8_byteAt E km_X8_44 dX8_number_46 hG (hE.S hS hD.efa) hP (At.recv hG hP.1 rfl) rfl rfl hl.1 ⟨Nat.le_of_ble_eq_true rfl, Nat.le_of_ble_eq_true rfl⟩ ⟨Nat.zero_le _, Nat.zero_le _⟩ (Nat.le_of_ble_eq_true rfl) ?_
          refine Rd.callS (rest := []) (c_X8_isDigit l G (bt bf n q1)) yk_X8_isDigit E km_X8_79 dX8_number_49 hG (hE.S hS hD.efa) trivial rfl rfl hl.1 ⟨Nat.le_of_ble_eq_true rfl, Nat.le_of_ble_eq_true rfl⟩ ⟨Nat.zero_le _, Nat.zero_le _⟩ (Nat.le_of_ble_eq_true rfl) ?_
          refine lv_if_eq (tgt := 90) hx hb dX8_number_52 (by decide) (fun c_52 => ?_) (fun c_52 => ?_)
          · have e8 : dg bf n q1 v = (q1, v) := dg_n (by rw [c_52]; decide)
            rw [e8] at z3
            have e7 : q1 = (dg bf n (spc bf n q) 0).1 := congrArg Prod.fst z3
            have e6 : v = (dg bf n (spc bf n q) 0).2 := congrArg Prod.snd z3
            rw [e7] at hP
            rw [e6] at hl
            refine lv_iload_n hx hb dX8_number_90 rfl (lv_at hl 0 rfl) ?_
            refine lv_iload_n hx hb dX8_number_91 rfl (lv_at hl 2 rfl) ?_
            refine lv_iload_n hx hb dX8_number_92 rfl (lv_at hl 3 rfl) ?_
            refine Rd.callS (rest := []) (c_X8_in l G (dg bf n (spc bf n q) 0).2 lo9 up9) yk_X8_in E km_X8_54 dX8_number_93 hG (hE.S hS hD.efa) trivial rfl rfl hl.1 ⟨Nat.le_of_ble_eq_true rfl, Nat.le_of_ble_eq_true rfl⟩ ⟨Nat.zero_le _, Nat.zero_le _⟩ (Nat.le_of_ble_eq_true rfl) ?_
            refine lv_if_ne (tgt := 109) hx hb dX8_number_96 (by decide) (fun c_96 => ?_) (fun c_96 => ?_)
            · exact (by rw [hr9] at c_96; exact absurd c_96 (by decide))
            · refine lv_aload_n hx hb dX8_number_99 rfl (lv_at hl 1 rfl) ?_
              refine lv_bipush (v := (-3)) hx hb dX8_number_100 rfl ?_
              refine lv_aload_n hx hb dX8_number_102 rfl (lv_at hl 1 rfl) ?_
              refine gf_X8_83 (v := .int (nI (spc bf n q))) E hG hP.1 rfl dX8_number_103 ?_
              refine Wr.callV (rest := []) (c_X8_report l G hD (-3) (nI (spc bf n q))) yk_X8_report E km_X8_75 dX8_number_106 hG (hE.S hS hD.efa) hP (At.recv hG hP.1 rfl) rfl rfl hl.1 ⟨Nat.le_of_ble_eq_true rfl, Nat.le_of_ble_eq_true rfl⟩ ⟨Nat.le_of_ble_eq_true rfl, Nat.le_of_ble_eq_true rfl⟩ (Nat.le_of_ble_eq_true rfl) hS (fun _ h9 => h9) (fun v9 H locs hq hz9 hfr9 hS => ?_)
              obtain ⟨rfl, hP⟩ := hq
              refine lv_iload_n hx hb dX8_number_109 rfl (lv_at hl 0 rfl) ?_
              exact wr_int E hr hk hS (by decide) (by decide) (⟨rfl, hP⟩) dX8_number_110
          · have c9 : inV (bt bf n q1) 48 57 = 1 := (inV01 _ _ _).resolve_left c_52
            have hq2 := dg_lt c9
            refine lv_ldc (v := 1000000) hx hb E.2.2.2.1 (E.2.2.2.2 _ kk_X8_86) dX8_number_55 ?_
            refine lv_bipush (v := 10) hx hb dX8_number_57 rfl ?_
            refine lv_iload_n hx hb dX8_number_59 rfl (lv_at hl 0 rfl) ?_
            refine lv_imul hx hb dX8_number_60 ?_
            refine lv_aload_n hx hb dX8_number_61 rfl (lv_at hl 1 rfl) ?_
            refine lv_aload_n hx hb dX8_number_62 rfl (lv_at hl 1 rfl) ?_
            refine gf_X8_41 (v := .int (nI q1)) E hG hP.1 rfl dX8_number_63 ?_
            refine Rd.callV (rest := [.int (10 * v), .int 1000000]) (c_X8_byteAt l G (nI q1) q1 n rfl (by omega) rfl hn9) yk_X8_byteAt E km_X8_44 dX8_number_66 hG (hE.S hS hD.efa) hP (At.recv hG hP.1 rfl) rfl rfl hl.1 ⟨Nat.le_of_ble_eq_true rfl, Nat.le_of_ble_eq_true rfl⟩ ⟨Nat.zero_le _, Nat.zero_le _⟩ (Nat.le_of_ble_eq_true rfl) ?_
            refine lv_iadd hx hb dX8_number_69 ?_
            refine lv_bipush (v := 48) hx hb dX8_number_70 rfl ?_
            refine lv_isub hx hb dX8_number_72 ?_
            refine Rd.callS (rest := []) (c_X8_min l G 1000000 (((10 * v) + (bt bf n q1)) - 48)) yk_X8_min E km_X8_87 dX8_number_73 hG (hE.S hS hD.efa) trivial rfl rfl hl.1 ⟨Nat.le_of_ble_eq_true rfl, Nat.le_of_ble_eq_true rfl⟩ ⟨Nat.zero_le _, Nat.zero_le _⟩ (Nat.le_of_ble_eq_true rfl) ?_
            refine lv_istore_n (lv' := [(3, .int (minV 1000000 (((10 * v) + (bt bf n q1)) - 48))), (0, .ref (B 0)), (1, .int lo9), (2, .int up9)]) hx hb dX8_number_76 rfl hl (by decide) rfl (fun ls hl => ?_)
            refine lv_aload_n hx hb dX8_number_77 rfl (lv_at hl 1 rfl) ?_
            refine lv_dup hx hb dX8_number_78 rfl ?_
            refine gf_X8_41 (v := .int (nI q1)) E hG hP.1 rfl dX8_number_79 ?_
            refine lv_iconst (v := 1) hx hb dX8_number_82 rfl ?_
            refine lv_iadd hx hb dX8_number_83 ?_
            refine lv_ci (y := nI (q1 + 1)) (ixq (nI_ad rfl rfl)) ?_
            refine pf_X8_41 E hG hP.1 (Nat.le_of_ble_eq_true rfl) rfl rfl hS ⟨0, by decide, rfl⟩ dX8_number_84 (fun H locs ho hz oq hS => ?_)
            have hP : MW G B (fm t bl (nI n) (nI (q1 + 1)) 0 ea eo ud (nI (spc bf n q)) ne se) bf da dr hi sk H := hP.setO hD ho oq
            refine lv_goto (tgt := 41) hx hb dX8_number_87 (by decide) ?_
            exact ih (q1 + 1) _ (by omega) (by omega) (by rw [← z3, dg_s c9]) H locs hP hS ls (lv_sub hl [0, 1, 2, 3] rfl)
      exact loop (n + 1) (spc bf n q) 0 (by omega) (by omega) rfl _ _ hP hS ls (lv_sub hl [0, 1, 2, 3] rfl)
    · exact (by rw [hd9] at c_16; exact absurd c_16 (by decide))
  · exact absurd c_4 (by decide)

set_option maxHeartbeats 4000000 in
set_option maxRecDepth 100000 in
/-- number -/
theorem c_X8_number_x (l : Launch) (G : CG) {B : Nat → Nat} {t bl ea eo ud ns ne se : Int32} {bf da dr : Nat → Int32} {hi : Nat → Nat → Int32} {sk : Nat → Int64} (hD : MD G B) (n q : Nat) (hn9 : n ≤ 900) (hq9 : q ≤ n) (lo9 up9 : Int32) (hd9 : inV (bt bf n (spc bf n q)) 48 57 = 0) : Wr l yX8_number cX8_number 4 ((Option.some FieldType.int)) 2 42 0 0 G [.ref (B 0), .int lo9, .int up9] (MW G B (fm t bl (nI n) (nI q) 0 ea eo ud ns ne se) bf da dr hi sk) (MA B) (fun v9 H9 => v9 = some (.int 0) ∧ MW G B (fm t bl (nI n) (nI (spc bf n q)) (-2) (nI (spc bf n q)) eo ud ns ne se) bf da dr hi sk H9) := by
  refine Wr.ofW (by decide) (Nat.le_of_ble_eq_true rfl) (fun p e s m below meth c ls E hG hE hP hr hk hin hl => ?_)
  have hS : va_S (MA B) s.heap s.heap [] := va_S.rf
  have hx := E.1
  have hb := E.2.1
  have hl : lv_has ls 4 [(0, .ref (B 0)), (1, .int lo9), (2, .int up9)] := hl
  have hsb := sk_b (bf := bf) hq9
  refine lv_aload_n hx hb dX8_number_0 rfl (lv_at hl 0 rfl) ?_
  refine Rd.callV (rest := []) (c_X8_isGood l G) yk_X8_isGood E km_X8_58 dX8_number_1 hG (hE.S hS hD.efa) hP (At.recv hG hP.1 rfl) rfl rfl hl.1 ⟨Nat.le_of_ble_eq_true rfl, Nat.le_of_ble_eq_true rfl⟩ ⟨Nat.zero_le _, Nat.zero_le _⟩ (Nat.le_of_ble_eq_true rfl) ?_
  refine lv_ci (y := 1) (if_pos rfl) ?_
  refine lv_if_ne (tgt := 9) hx hb dX8_number_4 (by decide) (fun c_4 => ?_) (fun c_4 => ?_)
  · refine lv_aload_n hx hb dX8_number_9 rfl (lv_at hl 0 rfl) ?_
    refine Wr.callV (rest := []) (c_X8_next l G hD n q hn9 (by omega)) yk_X8_next E km_X8_62 dX8_number_10 hG (hE.S hS hD.efa) hP (At.recv hG hP.1 rfl) rfl rfl hl.1 ⟨Nat.le_of_ble_eq_true rfl, Nat.le_of_ble_eq_true rfl⟩ ⟨Nat.le_of_ble_eq_true rfl, Nat.le_of_ble_eq_true rfl⟩ (Nat.le_of_ble_eq_true rfl) hS (fun _ h9 => h9) (fun v9 H locs hq hz9 hfr9 hS => ?_)
    obtain ⟨rfl, hP⟩ := hq
    refine Rd.callS (rest := []) (c_X8_isDigit l G (bt bf n (spc bf n q))) yk_X8_isDigit E km_X8_79 dX8_number_13 hG (hE.S hS hD.efa) trivial rfl rfl hl.1 ⟨Nat.le_of_ble_eq_true rfl, Nat.le_of_ble_eq_true rfl⟩ ⟨Nat.zero_le _, Nat.zero_le _⟩ (Nat.le_of_ble_eq_true rfl) ?_
    refine lv_if_ne (tgt := 31) hx hb dX8_number_16 (by decide) (fun c_16 => ?_) (fun c_16 => ?_)
    · exact (by rw [hd9] at c_16; exact absurd c_16 (by decide))
    · refine lv_aload_n hx hb dX8_number_19 rfl (lv_at hl 0 rfl) ?_
      refine lv_bipush (v := (-2)) hx hb dX8_number_20 rfl ?_
      refine lv_aload_n hx hb dX8_number_22 rfl (lv_at hl 0 rfl) ?_
      refine gf_X8_41 (v := .int (nI (spc bf n q))) E hG hP.1 rfl dX8_number_23 ?_
      refine Wr.callV (rest := []) (c_X8_report l G hD (-2) (nI (spc bf n q))) yk_X8_report E km_X8_75 dX8_number_26 hG (hE.S hS hD.efa) hP (At.recv hG hP.1 rfl) rfl rfl hl.1 ⟨Nat.le_of_ble_eq_true rfl, Nat.le_of_ble_eq_true rfl⟩ ⟨Nat.le_of_ble_eq_true rfl, Nat.le_of_ble_eq_true rfl⟩ (Nat.le_of_ble_eq_true rfl) hS (fun _ h9 => h9) (fun v9 H locs hq hz9 hfr9 hS => ?_)
      obtain ⟨rfl, hP⟩ := hq
      refine lv_iconst (v := 0) hx hb dX8_number_29 rfl ?_
      exact wr_int E hr hk hS (by decide) (by decide) (⟨rfl, hP⟩) dX8_number_30
  · exact absurd c_4 (by decide)

set_option maxHeartbeats 4000000 in
set_option maxRecDepth 100000 in
/-- number, behind an error -/
theorem c_X8_number_b (l : Launch) (G : CG) {B : Nat → Nat} {t bl tl ps er ea eo ud ns ne se : Int32} {bf da dr : Nat → Int32} {hi : Nat → Nat → Int32} {sk : Nat → Int64} (hD : MD G B) (lo9 up9 : Int32) (he9 : ¬ er = 0) : Wr l yX8_number cX8_number 4 ((Option.some FieldType.int)) 1 20 0 0 G [.ref (B 0), .int lo9, .int up9] (MW G B (fm t bl tl ps er ea eo ud ns ne se) bf da dr hi sk) (MA B) (fun v9 H9 => v9 = some (.int 0) ∧ MW G B (fm t bl tl ps er ea eo ud ns ne se) bf da dr hi sk H9) := by
  refine Wr.ofW (by decide) (Nat.le_of_ble_eq_true rfl) (fun p e s m below meth c ls E hG hE hP hr hk hin hl => ?_)
  have hS : va_S (MA B) s.heap s.heap [] := va_S.rf
  have hx := E.1
  have hb := E.2.1
  have hl : lv_has ls 4 [(0, .ref (B 0)), (1, .int lo9), (2, .int up9)] := hl
  refine lv_aload_n hx hb dX8_number_0 rfl (lv_at hl 0 rfl) ?_
  refine Rd.callV (rest := []) (c_X8_isGood l G) yk_X8_isGood E km_X8_58 dX8_number_1 hG (hE.S hS hD.efa) hP (At.recv hG hP.1 rfl) rfl rfl hl.1 ⟨Nat.le_of_ble_eq_true rfl, Nat.le_of_ble_eq_true rfl⟩ ⟨Nat.zero_le _, Nat.zero_le _⟩ (Nat.le_of_ble_eq_true rfl) ?_
  refine lv_ci (y := 0) (if_neg he9) ?_
  refine lv_if_ne (tgt := 9) hx hb dX8_number_4 (by decide) (fun c_4 => ?_) (fun c_4 => ?_)
  · exact absurd c_4 (by decide)
  · refine lv_iconst (v := 0) hx hb dX8_number_7 rfl ?_
    exact wr_int E hr hk hS (by decide) (by decide) (⟨rfl, hP⟩) dX8_number_8
