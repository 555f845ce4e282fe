/-! READING: the reference's readers of holidays, needs, credits -/
set_option maxHeartbeats 4000000 in
set_option maxRecDepth 100000 in
/-- readNeeds -/
theorem c_X8_readNeeds (l : Launch) (G : CG) {B : Nat → Nat} {t bl eo ud ns ne se : Int32} {bf da dr : Nat → Int32} {hi : Nat → Nat → Int32} {sk : Nat → Int64} (hD : MD G B) (n q : Nat) (hn9 : n ≤ 900) (hq9 : q ≤ n) (hB : ByO bf) (x : Int32) (a : Nat) (ex : x = nI a) (ha : a < 1798) : Wr l yX8_readNeeds cX8_readNeeds 3 ((Option.none : Option FieldType)) 3 65 0 0 G [.ref (B 0), .int x] (MW G B (fm t bl (nI n) (nI q) 0 (-1) eo ud ns ne se) bf da dr hi sk) (MA B) (fun v9 H9 => v9 = none ∧ ∃ ps er ea ns dr1, MW G B (fm t bl (nI n) ps er ea eo ud ns ne se) bf da dr1 hi sk H9 ∧ RK bf n (pl (ndF bf n (n + 1) (spc bf n q) (dr a))) ps er ea ∧ ∀ s9 v8, (ndF bf n (n + 1) (spc bf n q) (dr a)) = .ok (s9, v8) → dr1 = upd dr a v8) := by
  refine Wr.ofW (by decide) (Nat.le_of_ble_eq_true rfl) (fun p e s m below meth c ls E hG hE hP hr hk hin hl => ?_)
  have hS : va_S (MA B) s.heap s.heap [] := va_S.rf
  have hx := E.1
  have hb := E.2.1
  have hl : lv_has ls 3 [(0, .ref (B 0)), (1, .int x)] := hl
  have loop : ∀ (j q1 : Nat) (ns : Int32) (dr1 : Nat → Int32), n < spc bf n q1 + j → q1 ≤ n → ndF bf n j (spc bf n q1) (dr1 a) = (ndF bf n (n + 1) (spc bf n q) (dr a)) → (∀ v, upd dr1 a v = upd dr a v) → ∀ (H : Heap) (locs : List Loc), MW G B (fm t bl (nI n) (nI q1) 0 (-1) eo ud ns ne se) bf da dr1 hi sk H → va_S (MA B) s.heap H locs → ∀ ls : Array Slot, lv_has ls 3 [(0, .ref (B 0)), (1, .int x)] → W p l e { frames := 3, cells := 0, slots := 0, locals := 65 } s m ([.ref (B 0), .int x] : List Value).toArray below meth c H locs 0 0 (WQ below ([.ref (B 0), .int x] : List Value).toArray s 0 0 (MA B) (fun v9 H9 => v9 = none ∧ ∃ ps er ea ns dr1, MW G B (fm t bl (nI n) ps er ea eo ud ns ne se) bf da dr1 hi sk H9 ∧ RK bf n (pl (ndF bf n (n + 1) (spc bf n q) (dr a))) ps er ea ∧ ∀ s9 v8, (ndF bf n (n + 1) (spc bf n q) (dr a)) = .ok (s9, v8) → dr1 = upd dr a v8)) (F0 m 0 ls []) := by
    intro j
    induction j with
    | zero => intro q1 ns dr1 z1 z2; have := sk_b (bf := bf) z2; omega
    | succ j ih =>
      intro q1 ns dr1 z1 hqq z3 z4 H locs hP hS ls hl
      have hRK : RK bf n (pl (.ok (spc bf n q1, []) : Rr)) (nI q1) 0 (-1) := ⟨rfl, rfl, q1, rfl, hqq, rfl⟩
      refine lv_aload_n hx hb dX8_readNeeds_0 rfl (lv_at hl 0 rfl) ?_
      refine lv_iconst (v := 0) hx hb dX8_readNeeds_1 rfl ?_
      refine lv_bipush (v := 7) hx hb dX8_readNeeds_2 rfl ?_
      refine Wr.callV (rest := []) (c_X8_number_u l G hD hB n hn9 (.ok (spc bf n q1, [])) hRK 0 7) yk_X8_number E km_X8_111 dX8_readNeeds_4 hG (hE.S hS hD.efa) hP (At.recv hG hP.1 rfl) rfl rfl hl.1 ⟨Nat.le_of_ble_eq_true rfl, Nat.le_of_ble_eq_true rfl⟩ ⟨Nat.le_of_ble_eq_true rfl, Nat.le_of_ble_eq_true rfl⟩ (Nat.le_of_ble_eq_true rfl) hS (fun _ h9 => h9) (fun v9 H locs hq hz9 hfr9 hS => ?_)
      obtain ⟨v_1, ps, er, ea, ns, rfl, hP, hRK, hv_1⟩ := hq
      rcases hnu : numF bf n 0 7 (spc bf n q1) with ⟨c8, o8⟩ | ⟨s8, v8⟩
      · rw [nbL_er hnu] at hRK
        have he9 : ¬ er = 0 := by rw [hRK.1]; exact hRK.2.1
        refine lv_istore_n (lv' := [(2, .int v_1), (0, .ref (B 0)), (1, .int x)]) hx hb dX8_readNeeds_7 rfl hl (by decide) rfl (fun ls hl => ?_)
        refine lv_aload_n hx hb dX8_readNeeds_8 rfl (lv_at hl 1 rfl) ?_
        refine Rd.callV (rest := []) (c_X8_isGood l G) yk_X8_isGood E km_X8_58 dX8_readNeeds_9 hG (hE.S hS hD.efa) hP (At.recv hG hP.1 rfl) rfl rfl hl.1 ⟨Nat.le_of_ble_eq_true rfl, Nat.le_of_ble_eq_true rfl⟩ ⟨Nat.zero_le _, Nat.zero_le _⟩ (Nat.le_of_ble_eq_true rfl) ?_
        refine lv_ci (y := 0) (if_neg he9) ?_
        refine lv_if_eq (tgt := 39) hx hb dX8_readNeeds_12 (by decide) (fun c_12 => ?_) (fun c_12 => ?_)
        · refine lv_aload_n hx hb dX8_readNeeds_39 rfl (lv_at hl 1 rfl) ?_
          refine Rd.callV (rest := []) (c_X8_isGood l G) yk_X8_isGood E km_X8_58 dX8_readNeeds_40 hG (hE.S hS hD.efa) hP (At.recv hG hP.1 rfl) rfl rfl hl.1 ⟨Nat.le_of_ble_eq_true rfl, Nat.le_of_ble_eq_true rfl⟩ ⟨Nat.zero_le _, Nat.zero_le _⟩ (Nat.le_of_ble_eq_true rfl) ?_
          refine lv_ci (y := 0) (if_neg he9) ?_
          refine lv_if_ne (tgt := 47) hx hb dX8_readNeeds_43 (by decide) (fun c_43 => ?_) (fun c_43 => ?_)
          · exact absurd c_43 (by decide)
          · exact wr_void E hr hk hS (by decide) (by decide) (⟨rfl, ps, er, ea, ns, dr1, hP, by rw [← z3, ndF_er hnu]; exact hRK, fun s9 v9 z => by rw [← z3, ndF_er hnu] at z; cases z⟩) dX8_readNeeds_46
        · exact absurd c_12 (by decide)
      · rw [nbL_ok hnu] at hRK
        obtain ⟨her, hea, q2, hps, hq2, hs2⟩ := hRK
        obtain ⟨s7, L7, e7, e8, hns, hv7⟩ := hv_1 _ _ (nbL_ok hnu)
        cases e7
        rw [hnu] at hv7
        have ev : v8 = v_1 := congrArg Prod.snd (Except.ok.inj hv7)
        rw [ev] at hnu
        subst her hea hps hns hs2
        have hnb := numF_b hB (sk_b hqq).2 hnu
        refine lv_istore_n (lv' := [(2, .int v_1), (0, .ref (B 0)), (1, .int x)]) hx hb dX8_readNeeds_7 rfl hl (by decide) rfl (fun ls hl => ?_)
        refine lv_aload_n hx hb dX8_readNeeds_8 rfl (lv_at hl 1 rfl) ?_
        refine Rd.callV (rest := []) (c_X8_isGood l G) yk_X8_isGood E km_X8_58 dX8_readNeeds_9 hG (hE.S hS hD.efa) hP (At.recv hG hP.1 rfl) rfl rfl hl.1 ⟨Nat.le_of_ble_eq_true rfl, Nat.le_of_ble_eq_true rfl⟩ ⟨Nat.zero_le _, Nat.zero_le _⟩ (Nat.le_of_ble_eq_true rfl) ?_
        refine lv_ci (y := 1) (if_pos rfl) ?_
        refine lv_if_eq (tgt := 39) hx hb dX8_readNeeds_12 (by decide) (fun c_12 => ?_) (fun c_12 => ?_)
        · exact absurd c_12 (by decide)
        refine lv_aload_n hx hb dX8_readNeeds_15 rfl (lv_at hl 1 rfl) ?_
        refine gf_X8_20 (v := .ref (B 3)) E hG hP.1 rfl dX8_readNeeds_16 ?_
        refine lv_iload_n hx hb dX8_readNeeds_19 rfl (lv_at hl 2 rfl) ?_
        refine g_ild a E hG hP.2.2.2.1 (ixq ex) (by omega) (by decide) dX8_readNeeds_20 ?_
        refine lv_iload_n hx hb dX8_readNeeds_21 rfl (lv_at hl 0 rfl) ?_
        refine lv_ishr hx hb dX8_readNeeds_22 ?_
        refine lv_iconst (v := 1) hx hb dX8_readNeeds_23 rfl ?_
        refine lv_iand hx hb dX8_readNeeds_24 ?_
        refine lv_iconst (v := 1) hx hb dX8_readNeeds_25 rfl ?_
        refine lv_icmp_ne (tgt := 39) hx hb dX8_readNeeds_26 (by decide) (fun c_26 => ?_) (fun c_26 => ?_)
        · refine lv_aload_n hx hb dX8_readNeeds_39 rfl (lv_at hl 1 rfl) ?_
          refine Rd.callV (rest := []) (c_X8_isGood l G) yk_X8_isGood E km_X8_58 dX8_readNeeds_40 hG (hE.S hS hD.efa) hP (At.recv hG hP.1 rfl) rfl rfl hl.1 ⟨Nat.le_of_ble_eq_true rfl, Nat.le_of_ble_eq_true rfl⟩ ⟨Nat.zero_le _, Nat.zero_le _⟩ (Nat.le_of_ble_eq_true rfl) ?_
          refine lv_ci (y := 1) (if_pos rfl) ?_
          refine lv_if_ne (tgt := 47) hx hb dX8_readNeeds_43 (by decide) (fun c_43 => ?_) (fun c_43 => ?_)
          rotate_left
          · exact absurd c_43 (by decide)
          refine lv_aload_n hx hb dX8_readNeeds_47 rfl (lv_at hl 1 rfl) ?_
          refine gf_X8_20 (v := .ref (B 3)) E hG hP.1 rfl dX8_readNeeds_48 ?_
          refine lv_iload_n hx hb dX8_readNeeds_51 rfl (lv_at hl 2 rfl) ?_
          refine lv_dup2_11 hx hb dX8_readNeeds_52 rfl rfl ?_
          refine g_ild a E hG hP.2.2.2.1 (ixq ex) (by omega) (by decide) dX8_readNeeds_53 ?_
          refine lv_iconst (v := 1) hx hb dX8_readNeeds_54 rfl ?_
          refine lv_iload_n hx hb dX8_readNeeds_55 rfl (lv_at hl 0 rfl) ?_
          refine lv_ishl hx hb dX8_readNeeds_56 ?_
          refine lv_ior hx hb dX8_readNeeds_57 ?_
          refine g_ist a E hG hP.2.2.2.1 (ixq ex) (by omega) (by decide) hS ⟨3, by decide, rfl⟩ dX8_readNeeds_58 (fun H locs ho hz oq hS => ?_)
          have hP : MW G B (fm t bl (nI n) (nI q2) 0 (-1) eo ud (nI (spc bf n q1)) ne se) bf da (upd dr1 a ((dr1 a) ||| (1 <<< (v_1 &&& 31)))) hi sk H := hP.setR hD ho oq
          refine lv_aload_n hx hb dX8_readNeeds_59 rfl (lv_at hl 1 rfl) ?_
          refine Wr.callV (rest := []) (c_X8_next l G hD n q2 hn9 (by omega)) yk_X8_next E km_X8_62 dX8_readNeeds_60 hG (hE.S hS hD.efa) hP (At.recv hG hP.1 rfl) rfl rfl hl.1 ⟨Nat.le_of_ble_eq_true rfl, Nat.le_of_ble_eq_true rfl⟩ ⟨Nat.le_of_ble_eq_true rfl, Nat.le_of_ble_eq_true rfl⟩ (Nat.le_of_ble_eq_true rfl) hS (fun _ h9 => h9) (fun v9 H locs hq hz9 hfr9 hS => ?_)
          obtain ⟨rfl, hP⟩ := hq
          refine Rd.callS (rest := []) (c_X8_isDigit l G (bt bf n (spc bf n q2))) yk_X8_isDigit E km_X8_79 dX8_readNeeds_63 hG (hE.S hS hD.efa) trivial rfl rfl hl.1 ⟨Nat.le_of_ble_eq_true rfl, Nat.le_of_ble_eq_true rfl⟩ ⟨Nat.zero_le _, Nat.zero_le _⟩ (Nat.le_of_ble_eq_true rfl) ?_
          refine lv_if_ne (tgt := 0) hx hb dX8_readNeeds_66 (by decide) (fun c_66 => ?_) (fun c_66 => ?_)
          · have c9 : inV (bt bf n (spc bf n q2)) 48 57 = 1 := (inV01 _ _ _).resolve_left c_66
            exact ih (spc bf n q2) _ _ (by rw [sk_ii]; omega) (by omega) (by rw [sk_ii, ← z3, ndF_go hnu c_26 c9, pk_us]) (fun v => by rw [upd_upd]; exact z4 v) H locs hP hS ls (lv_sub hl [1, 2] rfl)
          · have c9 : ¬ inV (bt bf n (spc bf n q2)) 48 57 = 1 := by rw [c_66]; decide
            exact wr_void E hr hk hS (by decide) (by decide) (⟨rfl, _, _, _, _, _, hP, by rw [← z3, ndF_end hnu c_26 c9]; exact ⟨rfl, rfl, _, rfl, (sk_b hq2).2, sk_ii bf n q2⟩, fun s9 v9 z => by rw [← z3, ndF_end hnu c_26 c9] at z; cases z; exact z4 _⟩) dX8_readNeeds_69
        · refine lv_aload_n hx hb dX8_readNeeds_29 rfl (lv_at hl 1 rfl) ?_
          refine lv_bipush (v := (-3)) hx hb dX8_readNeeds_30 rfl ?_
          refine lv_aload_n hx hb dX8_readNeeds_32 rfl (lv_at hl 1 rfl) ?_
          refine gf_X8_83 (v := .int (nI (spc bf n q1))) E hG hP.1 rfl dX8_readNeeds_33 ?_
          refine Wr.callV (rest := []) (c_X8_report l G hD (-3) (nI (spc bf n q1))) yk_X8_report E km_X8_75 dX8_readNeeds_36 hG (hE.S hS hD.efa) hP (At.recv hG hP.1 rfl) rfl rfl hl.1 ⟨Nat.le_of_ble_eq_true rfl, Nat.le_of_ble_eq_true rfl⟩ ⟨Nat.le_of_ble_eq_true rfl, Nat.le_of_ble_eq_true rfl⟩ (Nat.le_of_ble_eq_true rfl) hS (fun _ h9 => h9) (fun v9 H locs hq hz9 hfr9 hS => ?_)
          obtain ⟨rfl, hP⟩ := hq
          refine lv_aload_n hx hb dX8_readNeeds_39 rfl (lv_at hl 1 rfl) ?_
          refine Rd.callV (rest := []) (c_X8_isGood l G) yk_X8_isGood E km_X8_58 dX8_readNeeds_40 hG (hE.S hS hD.efa) hP (At.recv hG hP.1 rfl) rfl rfl hl.1 ⟨Nat.le_of_ble_eq_true rfl, Nat.le_of_ble_eq_true rfl⟩ ⟨Nat.zero_le _, Nat.zero_le _⟩ (Nat.le_of_ble_eq_true rfl) ?_
          refine lv_ci (y := 0) (if_neg (show ¬ ((-3) : Int32) = 0 by decide)) ?_
          refine lv_if_ne (tgt := 47) hx hb dX8_readNeeds_43 (by decide) (fun c_43 => ?_) (fun c_43 => ?_)
          · exact absurd c_43 (by decide)
          · exact wr_void E hr hk hS (by decide) (by decide) (⟨rfl, _, _, _, _, _, hP, by rw [← z3, ndF_tw hnu c_26]; exact ⟨rfl, by decide, rfl, (sk_b hqq).2⟩, fun s9 v9 z => by rw [← z3, ndF_tw hnu c_26] at z; cases z⟩) dX8_readNeeds_46
  exact loop (n + 1) q ns dr (by have := sk_b (bf := bf) hq9; omega) hq9 rfl (fun _ => rfl) _ _ hP hS ls (lv_sub hl [0, 1] rfl)

set_option maxHeartbeats 4000000 in
set_option maxRecDepth 100000 in
/-- readHoliday -/
theorem c_X8_readHoliday (l : Launch) (G : CG) {B : Nat → Nat} {t bl eo ud ns ne se : Int32} {bf da dr : Nat → Int32} {hi : Nat → Nat → Int32} {sk : Nat → Int64} (hD : MD G B) (n q : Nat) (hn9 : n ≤ 900) (hq9 : q ≤ n) (hB : ByO bf) (nh : Nat) (h2 : dr 2 = nI nh) (hh : nh ≤ 16) : Wr l yX8_readHoliday cX8_readHoliday 3 ((Option.none : Option FieldType)) 3 65 0 0 G [.ref (B 0)] (MW G B (fm t bl (nI n) (nI q) 0 (-1) eo ud ns ne se) bf da dr hi sk) (MA B) (fun v9 H9 => v9 = none ∧ ∃ ps er ea ns dr1, MW G B (fm t bl (nI n) ps er ea eo ud ns ne se) bf da dr1 hi sk H9 ∧ RK bf n (pl (hoF bf n (n + 1) (spc bf n q) dr nh)) ps er ea ∧ ∀ s9 d9 k9, (hoF bf n (n + 1) (spc bf n q) dr nh) = .ok (s9, d9, k9) → dr1 = d9) := by
  refine Wr.ofW (by decide) (Nat.le_of_ble_eq_true rfl) (fun p e s m below meth c ls E hG hE hP hr hk hin hl => ?_)
  have hS : va_S (MA B) s.heap s.heap [] := va_S.rf
  have hx := E.1
  have hb := E.2.1
  have hl : lv_has ls 3 [(0, .ref (B 0))] := hl
  have loop : ∀ (j q1 : Nat) (ns : Int32) (dr1 : Nat → Int32) (nh1 : Nat), n < spc bf n q1 + j → q1 ≤ n → hoF bf n j (spc bf n q1) dr1 nh1 = (hoF bf n (n + 1) (spc bf n q) dr nh) → dr1 2 = nI nh1 → nh1 ≤ 16 → ∀ (H : Heap) (locs : List Loc), MW G B (fm t bl (nI n) (nI q1) 0 (-1) eo ud ns ne se) bf da dr1 hi sk H → va_S (MA B) s.heap H locs → ∀ ls : Array Slot, lv_has ls 3 [(0, .ref (B 0))] → W p l e { frames := 3, cells := 0, slots := 0, locals := 65 } s m ([.ref (B 0)] : List Value).toArray below meth c H locs 0 0 (WQ below ([.ref (B 0)] : List Value).toArray s 0 0 (MA B) (fun v9 H9 => v9 = none ∧ ∃ ps er ea ns dr1, MW G B (fm t bl (nI n) ps er ea eo ud ns ne se) bf da dr1 hi sk H9 ∧ RK bf n (pl (hoF bf n (n + 1) (spc bf n q) dr nh)) ps er ea ∧ ∀ s9 d9 k9, (hoF bf n (n + 1) (spc bf n q) dr nh) = .ok (s9, d9, k9) → dr1 = d9)) (F0 m 0 ls []) := by
    intro j
    induction j with
    | zero => intro q1 ns dr1 nh1 z1 z2; have := sk_b (bf := bf) z2; omega
    | succ j ih =>
      intro q1 ns dr1 nh1 z1 hqq z3 h21 hh1 H locs hP hS ls hl
      have hRK : RK bf n (pl (.ok (spc bf n q1, []) : Rr)) (nI q1) 0 (-1) := ⟨rfl, rfl, q1, rfl, hqq, rfl⟩
      refine lv_aload_n hx hb dX8_readHoliday_0 rfl (lv_at hl 0 rfl) ?_
      refine lv_iconst (v := 0) hx hb dX8_readHoliday_1 rfl ?_
      refine lv_sipush (v := 999) hx hb dX8_readHoliday_2 rfl ?_
      refine Wr.callV (rest := []) (c_X8_number_u l G hD hB n hn9 (.ok (spc bf n q1, [])) hRK 0 999) yk_X8_number E km_X8_111 dX8_readHoliday_5 hG (hE.S hS hD.efa) hP (At.recv hG hP.1 rfl) rfl rfl hl.1 ⟨Nat.le_of_ble_eq_true rfl, Nat.le_of_ble_eq_true rfl⟩ ⟨Nat.le_of_ble_eq_true rfl, Nat.le_of_ble_eq_true rfl⟩ (Nat.le_of_ble_eq_true rfl) hS (fun _ h9 => h9) (fun v9 H locs hq hz9 hfr9 hS => ?_)
      obtain ⟨v_1, ps, er, ea, ns, rfl, hP, hRK, hv_1⟩ := hq
      rcases hnu : numF bf n 0 999 (spc bf n q1) with ⟨c8, o8⟩ | ⟨s8, v8⟩
      · rw [nbL_er hnu] at hRK
        have he9 : ¬ er = 0 := by rw [hRK.1]; exact hRK.2.1
        have hRE : RK bf n (pl (hoF bf n (n + 1) (spc bf n q) dr nh)) ps er ea := by rw [← z3, hoF_er (hs1_er hnu)]; exact hRK
        have lpE : ∀ (i k : Nat) (ps er ea ns : Int32), nh1 < k + i → k ≤ nh1 → (¬ er = 0) → RK bf n (pl (hoF bf n (n + 1) (spc bf n q) dr nh)) ps er ea → ∀ (H : Heap) (locs : List Loc), MW G B (fm t bl (nI n) ps er ea eo ud ns ne se) bf da dr1 hi sk H → va_S (MA B) s.heap H locs → ∀ ls : Array Slot, lv_has ls 3 [(2, .int (nI k)), (1, .int v_1), (0, .ref (B 0))] → W p l e { frames := 3, cells := 0, slots := 0, locals := 65 } s m ([.ref (B 0)] : List Value).toArray below meth c H locs 0 0 (WQ below ([.ref (B 0)] : List Value).toArray s 0 0 (MA B) (fun v9 H9 => v9 = none ∧ ∃ ps er ea ns dr1, MW G B (fm t bl (nI n) ps er ea eo ud ns ne se) bf da dr1 hi sk H9 ∧ RK bf n (pl (hoF bf n (n + 1) (spc bf n q) dr nh)) ps er ea ∧ ∀ s9 d9 k9, (hoF bf n (n + 1) (spc bf n q) dr nh) = .ok (s9, d9, k9) → dr1 = d9)) (F0 m 11 ls []) := by
          intro i
          induction i with
          | zero => intro k ps er ea ns y1 y2; omega
          | succ i ih2 =>
            intro k ps er ea ns y1 y2 he9 hRE H locs hP hS ls hl
            refine lv_iload_n hx hb dX8_readHoliday_11 rfl (lv_at hl 0 rfl) ?_
            refine lv_aload_n hx hb dX8_readHoliday_12 rfl (lv_at hl 2 rfl) ?_
            refine gf_X8_20 (v := .ref (B 3)) E hG hP.1 rfl dX8_readHoliday_13 ?_
            refine lv_iconst (v := 2) hx hb dX8_readHoliday_16 rfl ?_
            refine g_ild 2 E hG hP.2.2.2.1 rfl (by omega) (by decide) dX8_readHoliday_17 ?_
            refine lv_icmp_ge (tgt := 57) hx hb dX8_readHoliday_18 (by decide) (fun c_18 => ?_) (fun c_18 => ?_)
            · have c_18 : nh1 ≤ k := (nLE (x := (dr1 2)) (y := (nI k)) (a := nh1) (b := k) h21 rfl (by omega) (by omega)).mp c_18
              refine lv_aload_n hx hb dX8_readHoliday_57 rfl (lv_at hl 2 rfl) ?_
              refine gf_X8_20 (v := .ref (B 3)) E hG hP.1 rfl dX8_readHoliday_58 ?_
              refine lv_iconst (v := 2) hx hb dX8_readHoliday_61 rfl ?_
              refine g_ild 2 E hG hP.2.2.2.1 rfl (by omega) (by decide) dX8_readHoliday_62 ?_
              refine lv_bipush (v := 16) hx hb dX8_readHoliday_63 rfl ?_
              refine lv_icmp_ne (tgt := 78) hx hb dX8_readHoliday_65 (by decide) (fun c_65 => ?_) (fun c_65 => ?_)
              · have c_65 : ¬ nh1 = 16 := fun z9 => c_65 ((nEQ (x := (dr1 2)) (y := 16) (a := nh1) (b := 16) h21 rfl (by omega) (by omega)).mpr z9)
                refine lv_aload_n hx hb dX8_readHoliday_78 rfl (lv_at hl 2 rfl) ?_
                refine Rd.callV (rest := []) (c_X8_isGood l G) yk_X8_isGood E km_X8_58 dX8_readHoliday_79 hG (hE.S hS hD.efa) hP (At.recv hG hP.1 rfl) rfl rfl hl.1 ⟨Nat.le_of_ble_eq_true rfl, Nat.le_of_ble_eq_true rfl⟩ ⟨Nat.zero_le _, Nat.zero_le _⟩ (Nat.le_of_ble_eq_true rfl) ?_
                refine lv_ci (y := 0) (if_neg he9) ?_
                refine lv_if_ne (tgt := 86) hx hb dX8_readHoliday_82 (by decide) (fun c_82 => ?_) (fun c_82 => ?_)
                · exact absurd c_82 (by decide)
                · exact wr_void E hr hk hS (by decide) (by decide) (⟨rfl, _, _, _, _, _, hP, hRE, fun s9 d9 k9 z => absurd (show er = 0 by have hRE := hRE; rw [z] at hRE; exact hRE.1) he9⟩) dX8_readHoliday_85
              · have c_65 : nh1 = 16 := (nEQ (x := (dr1 2)) (y := 16) (a := nh1) (b := 16) h21 rfl (by omega) (by omega)).mp c_65
                refine lv_aload_n hx hb dX8_readHoliday_68 rfl (lv_at hl 2 rfl) ?_
                refine lv_bipush (v := (-4)) hx hb dX8_readHoliday_69 rfl ?_
                refine lv_aload_n hx hb dX8_readHoliday_71 rfl (lv_at hl 2 rfl) ?_
                refine gf_X8_83 (v := .int ns) E hG hP.1 rfl dX8_readHoliday_72 ?_
                refine Wr.callV (rest := []) (c_X8_report_b l G hD (-4) ns he9) yk_X8_report E km_X8_75 dX8_readHoliday_75 hG (hE.S hS hD.efa) hP (At.recv hG hP.1 rfl) rfl rfl hl.1 ⟨Nat.le_of_ble_eq_true rfl, Nat.le_of_ble_eq_true rfl⟩ ⟨Nat.le_of_ble_eq_true rfl, Nat.le_of_ble_eq_true rfl⟩ (Nat.le_of_ble_eq_true rfl) hS (fun _ h9 => h9) (fun v9 H locs hq hz9 hfr9 hS => ?_)
                obtain ⟨rfl, hP⟩ := hq
                refine lv_aload_n hx hb dX8_readHoliday_78 rfl (lv_at hl 2 rfl) ?_
                refine Rd.callV (rest := []) (c_X8_isGood l G) yk_X8_isGood E km_X8_58 dX8_readHoliday_79 hG (hE.S hS hD.efa) hP (At.recv hG hP.1 rfl) rfl rfl hl.1 ⟨Nat.le_of_ble_eq_true rfl, Nat.le_of_ble_eq_true rfl⟩ ⟨Nat.zero_le _, Nat.zero_le _⟩ (Nat.le_of_ble_eq_true rfl) ?_
                refine lv_ci (y := 0) (if_neg he9) ?_
                refine lv_if_ne (tgt := 86) hx hb dX8_readHoliday_82 (by decide) (fun c_82 => ?_) (fun c_82 => ?_)
                · exact absurd c_82 (by decide)
                · exact wr_void E hr hk hS (by decide) (by decide) (⟨rfl, _, _, _, _, _, hP, hRE, fun s9 d9 k9 z => absurd (show er = 0 by have hRE := hRE; rw [z] at hRE; exact hRE.1) he9⟩) dX8_readHoliday_85
            · have c_18 : ¬ nh1 ≤ k := fun z9 => c_18 ((nLE (x := (dr1 2)) (y := (nI k)) (a := nh1) (b := k) h21 rfl (by omega) (by omega)).mpr z9)
              refine lv_aload_n hx hb dX8_readHoliday_21 rfl (lv_at hl 2 rfl) ?_
              refine Rd.callV (rest := []) (c_X8_isGood l G) yk_X8_isGood E km_X8_58 dX8_readHoliday_22 hG (hE.S hS hD.efa) hP (At.recv hG hP.1 rfl) rfl rfl hl.1 ⟨Nat.le_of_ble_eq_true rfl, Nat.le_of_ble_eq_true rfl⟩ ⟨Nat.zero_le _, Nat.zero_le _⟩ (Nat.le_of_ble_eq_true rfl) ?_
              refine lv_ci (y := 0) (if_neg he9) ?_
              refine lv_if_eq (tgt := 51) hx hb dX8_readHoliday_25 (by decide) (fun c_25 => ?_) (fun c_25 => ?_)
              rotate_left
              · exact absurd c_25 (by decide)
              refine lv_iinc (v := (nI (k + 1))) (lv' := [(2, .int (nI (k + 1))), (1, .int v_1), (0, .ref (B 0))]) hx hb dX8_readHoliday_51 hl (k := 0) rfl (nI_ad rfl rfl) (by decide) rfl (fun ls hl => ?_)
              refine lv_goto (tgt := 11) hx hb dX8_readHoliday_54 (by decide) ?_
              exact ih2 (k + 1) ps er ea ns (by omega) (by omega) he9 hRE H locs hP hS ls (lv_sub hl [0, 1, 2] rfl)
        refine lv_istore_n (lv' := [(1, .int v_1), (0, .ref (B 0))]) hx hb dX8_readHoliday_8 rfl hl (by decide) rfl (fun ls hl => ?_)
        refine lv_iconst (v := 0) hx hb dX8_readHoliday_9 rfl ?_
        refine lv_ci (y := nI 0) (ixq rfl) ?_
        refine lv_istore_n (lv' := [(2, .int (nI 0)), (1, .int v_1), (0, .ref (B 0))]) hx hb dX8_readHoliday_10 rfl hl (by decide) rfl (fun ls hl => ?_)
        exact lpE (nh1 + 1) 0 _ _ _ _ (by omega) (by omega) he9 hRE _ _ hP hS ls (lv_sub hl [0, 1, 2] rfl)
      · rw [nbL_ok hnu] at hRK
        obtain ⟨her, hea, q2, hps, hq2, hs2⟩ := hRK
        obtain ⟨s7, L7, e7, e8, hns, hv7⟩ := hv_1 _ _ (nbL_ok hnu)
        cases e7
        rw [hnu] at hv7
        have ev : v8 = v_1 := congrArg Prod.snd (Except.ok.inj hv7)
        rw [ev] at hnu
        subst her hea hps hns hs2
        have hnb := numF_b hB (sk_b hqq).2 hnu
        obtain ⟨a8, ev8, ha7, ha8⟩ := numF_v (lo := 0) (hi := 999) hB (sk_b hqq).2 (by decide) (by decide) hnu
        have ec : nI v_1.toNatClampNeg = v_1 := by rw [ev8, nI_clamp (by omega)]
        have lpE : ∀ (i k : Nat) (ps er ea ns : Int32), nh1 < k + i → k ≤ nh1 → (¬ er = 0) → RK bf n (pl (hoF bf n (n + 1) (spc bf n q) dr nh)) ps er ea → ∀ (H : Heap) (locs : List Loc), MW G B (fm t bl (nI n) ps er ea eo ud ns ne se) bf da dr1 hi sk H → va_S (MA B) s.heap H locs → ∀ ls : Array Slot, lv_has ls 3 [(2, .int (nI k)), (1, .int v_1), (0, .ref (B 0))] → W p l e { frames := 3, cells := 0, slots := 0, locals := 65 } s m ([.ref (B 0)] : List Value).toArray below meth c H locs 0 0 (WQ below ([.ref (B 0)] : List Value).toArray s 0 0 (MA B) (fun v9 H9 => v9 = none ∧ ∃ ps er ea ns dr1, MW G B (fm t bl (nI n) ps er ea eo ud ns ne se) bf da dr1 hi sk H9 ∧ RK bf n (pl (hoF bf n (n + 1) (spc bf n q) dr nh)) ps er ea ∧ ∀ s9 d9 k9, (hoF bf n (n + 1) (spc bf n q) dr nh) = .ok (s9, d9, k9) → dr1 = d9)) (F0 m 11 ls []) := by
          intro i
          induction i with
          | zero => intro k ps er ea ns y1 y2; omega
          | succ i ih2 =>
            intro k ps er ea ns y1 y2 he9 hRE H locs hP hS ls hl
            refine lv_iload_n hx hb dX8_readHoliday_11 rfl (lv_at hl 0 rfl) ?_
            refine lv_aload_n hx hb dX8_readHoliday_12 rfl (lv_at hl 2 rfl) ?_
            refine gf_X8_20 (v := .ref (B 3)) E hG hP.1 rfl dX8_readHoliday_13 ?_
            refine lv_iconst (v := 2) hx hb dX8_readHoliday_16 rfl ?_
            refine g_ild 2 E hG hP.2.2.2.1 rfl (by omega) (by decide) dX8_readHoliday_17 ?_
            refine lv_icmp_ge (tgt := 57) hx hb dX8_readHoliday_18 (by decide) (fun c_18 => ?_) (fun c_18 => ?_)
            · have c_18 : nh1 ≤ k := (nLE (x := (dr1 2)) (y := (nI k)) (a := nh1) (b := k) h21 rfl (by omega) (by omega)).mp c_18
              refine lv_aload_n hx hb dX8_readHoliday_57 rfl (lv_at hl 2 rfl) ?_
              refine gf_X8_20 (v := .ref (B 3)) E hG hP.1 rfl dX8_readHoliday_58 ?_
              refine lv_iconst (v := 2) hx hb dX8_readHoliday_61 rfl ?_
              refine g_ild 2 E hG hP.2.2.2.1 rfl (by omega) (by decide) dX8_readHoliday_62 ?_
              refine lv_bipush (v := 16) hx hb dX8_readHoliday_63 rfl ?_
              refine lv_icmp_ne (tgt := 78) hx hb dX8_readHoliday_65 (by decide) (fun c_65 => ?_) (fun c_65 => ?_)
              · have c_65 : ¬ nh1 = 16 := fun z9 => c_65 ((nEQ (x := (dr1 2)) (y := 16) (a := nh1) (b := 16) h21 rfl (by omega) (by omega)).mpr z9)
                refine lv_aload_n hx hb dX8_readHoliday_78 rfl (lv_at hl 2 rfl) ?_
                refine Rd.callV (rest := []) (c_X8_isGood l G) yk_X8_isGood E km_X8_58 dX8_readHoliday_79 hG (hE.S hS hD.efa) hP (At.recv hG hP.1 rfl) rfl rfl hl.1 ⟨Nat.le_of_ble_eq_true rfl, Nat.le_of_ble_eq_true rfl⟩ ⟨Nat.zero_le _, Nat.zero_le _⟩ (Nat.le_of_ble_eq_true rfl) ?_
                refine lv_ci (y := 0) (if_neg he9) ?_
                refine lv_if_ne (tgt := 86) hx hb dX8_readHoliday_82 (by decide) (fun c_82 => ?_) (fun c_82 => ?_)
                · exact absurd c_82 (by decide)
                · exact wr_void E hr hk hS (by decide) (by decide) (⟨rfl, _, _, _, _, _, hP, hRE, fun s9 d9 k9 z => absurd (show er = 0 by have hRE := hRE; rw [z] at hRE; exact hRE.1) he9⟩) dX8_readHoliday_85
              · have c_65 : nh1 = 16 := (nEQ (x := (dr1 2)) (y := 16) (a := nh1) (b := 16) h21 rfl (by omega) (by omega)).mp c_65
                refine lv_aload_n hx hb dX8_readHoliday_68 rfl (lv_at hl 2 rfl) ?_
                refine lv_bipush (v := (-4)) hx hb dX8_readHoliday_69 rfl ?_
                refine lv_aload_n hx hb dX8_readHoliday_71 rfl (lv_at hl 2 rfl) ?_
                refine gf_X8_83 (v := .int ns) E hG hP.1 rfl dX8_readHoliday_72 ?_
                refine Wr.callV (rest := []) (c_X8_report_b l G hD (-4) ns he9) yk_X8_report E km_X8_75 dX8_readHoliday_75 hG (hE.S hS hD.efa) hP (At.recv hG hP.1 rfl) rfl rfl hl.1 ⟨Nat.le_of_ble_eq_true rfl, Nat.le_of_ble_eq_true rfl⟩ ⟨Nat.le_of_ble_eq_true rfl, Nat.le_of_ble_eq_true rfl⟩ (Nat.le_of_ble_eq_true rfl) hS (fun _ h9 => h9) (fun v9 H locs hq hz9 hfr9 hS => ?_)
                obtain ⟨rfl, hP⟩ := hq
                refine lv_aload_n hx hb dX8_readHoliday_78 rfl (lv_at hl 2 rfl) ?_
                refine Rd.callV (rest := []) (c_X8_isGood l G) yk_X8_isGood E km_X8_58 dX8_readHoliday_79 hG (hE.S hS hD.efa) hP (At.recv hG hP.1 rfl) rfl rfl hl.1 ⟨Nat.le_of_ble_eq_true rfl, Nat.le_of_ble_eq_true rfl⟩ ⟨Nat.zero_le _, Nat.zero_le _⟩ (Nat.le_of_ble_eq_true rfl) ?_
                refine lv_ci (y := 0) (if_neg he9) ?_
                refine lv_if_ne (tgt := 86) hx hb dX8_readHoliday_82 (by decide) (fun c_82 => ?_) (fun c_82 => ?_)
                · exact absurd c_82 (by decide)
                · exact wr_void E hr hk hS (by decide) (by decide) (⟨rfl, _, _, _, _, _, hP, hRE, fun s9 d9 k9 z => absurd (show er = 0 by have hRE := hRE; rw [z] at hRE; exact hRE.1) he9⟩) dX8_readHoliday_85
            · have c_18 : ¬ nh1 ≤ k := fun z9 => c_18 ((nLE (x := (dr1 2)) (y := (nI k)) (a := nh1) (b := k) h21 rfl (by omega) (by omega)).mpr z9)
              refine lv_aload_n hx hb dX8_readHoliday_21 rfl (lv_at hl 2 rfl) ?_
              refine Rd.callV (rest := []) (c_X8_isGood l G) yk_X8_isGood E km_X8_58 dX8_readHoliday_22 hG (hE.S hS hD.efa) hP (At.recv hG hP.1 rfl) rfl rfl hl.1 ⟨Nat.le_of_ble_eq_true rfl, Nat.le_of_ble_eq_true rfl⟩ ⟨Nat.zero_le _, Nat.zero_le _⟩ (Nat.le_of_ble_eq_true rfl) ?_
              refine lv_ci (y := 0) (if_neg he9) ?_
              refine lv_if_eq (tgt := 51) hx hb dX8_readHoliday_25 (by decide) (fun c_25 => ?_) (fun c_25 => ?_)
              rotate_left
              · exact absurd c_25 (by decide)
              refine lv_iinc (v := (nI (k + 1))) (lv' := [(2, .int (nI (k + 1))), (1, .int v_1), (0, .ref (B 0))]) hx hb dX8_readHoliday_51 hl (k := 0) rfl (nI_ad rfl rfl) (by decide) rfl (fun ls hl => ?_)
              refine lv_goto (tgt := 11) hx hb dX8_readHoliday_54 (by decide) ?_
              exact ih2 (k + 1) ps er ea ns (by omega) (by omega) he9 hRE H locs hP hS ls (lv_sub hl [0, 1, 2] rfl)
        have lpG : ∀ (i k : Nat), nh1 < k + i → k ≤ nh1 → (∀ a, a < k → ¬ dr1 (6 + a) = v_1) → ∀ (H : Heap) (locs : List Loc), MW G B (fm t bl (nI n) (nI q2) 0 (-1) eo ud (nI (spc bf n q1)) ne se) bf da dr1 hi sk H → va_S (MA B) s.heap H locs → ∀ ls : Array Slot, lv_has ls 3 [(2, .int (nI k)), (1, .int v_1), (0, .ref (B 0))] → W p l e { frames := 3, cells := 0, slots := 0, locals := 65 } s m ([.ref (B 0)] : List Value).toArray below meth c H locs 0 0 (WQ below ([.ref (B 0)] : List Value).toArray s 0 0 (MA B) (fun v9 H9 => v9 = none ∧ ∃ ps er ea ns dr1, MW G B (fm t bl (nI n) ps er ea eo ud ns ne se) bf da dr1 hi sk H9 ∧ RK bf n (pl (hoF bf n (n + 1) (spc bf n q) dr nh)) ps er ea ∧ ∀ s9 d9 k9, (hoF bf n (n + 1) (spc bf n q) dr nh) = .ok (s9, d9, k9) → dr1 = d9)) (F0 m 11 ls []) := by
          intro i
          induction i with
          | zero => intro k y1 y2; omega
          | succ i ih2 =>
            intro k y1 y2 y3 H locs hP hS ls hl
            refine lv_iload_n hx hb dX8_readHoliday_11 rfl (lv_at hl 0 rfl) ?_
            refine lv_aload_n hx hb dX8_readHoliday_12 rfl (lv_at hl 2 rfl) ?_
            refine gf_X8_20 (v := .ref (B 3)) E hG hP.1 rfl dX8_readHoliday_13 ?_
            refine lv_iconst (v := 2) hx hb dX8_readHoliday_16 rfl ?_
            refine g_ild 2 E hG hP.2.2.2.1 rfl (by omega) (by decide) dX8_readHoliday_17 ?_
            refine lv_icmp_ge (tgt := 57) hx hb dX8_readHoliday_18 (by decide) (fun c_18 => ?_) (fun c_18 => ?_)
            · have c_18 : nh1 ≤ k := (nLE (x := (dr1 2)) (y := (nI k)) (a := nh1) (b := k) h21 rfl (by omega) (by omega)).mp c_18
              have hnh : ¬ hol dr1 v_1.toNatClampNeg nh1 = true := fun z => by obtain ⟨a9, h9, h8⟩ := hol_iff.mp z; rw [ec] at h8; exact y3 a9 (by omega) h8
              refine lv_aload_n hx hb dX8_readHoliday_57 rfl (lv_at hl 2 rfl) ?_
              refine gf_X8_20 (v := .ref (B 3)) E hG hP.1 rfl dX8_readHoliday_58 ?_
              refine lv_iconst (v := 2) hx hb dX8_readHoliday_61 rfl ?_
              refine g_ild 2 E hG hP.2.2.2.1 rfl (by omega) (by decide) dX8_readHoliday_62 ?_
              refine lv_bipush (v := 16) hx hb dX8_readHoliday_63 rfl ?_
              refine lv_icmp_ne (tgt := 78) hx hb dX8_readHoliday_65 (by decide) (fun c_65 => ?_) (fun c_65 => ?_)
              · have c_65 : ¬ nh1 = 16 := fun z9 => c_65 ((nEQ (x := (dr1 2)) (y := 16) (a := nh1) (b := 16) h21 rfl (by omega) (by omega)).mpr z9)
                have ef := hs1_ok (d := dr1) (nh := nh1) hnu hnh c_65
                have hh2 : nh1 < 16 := by omega
                refine lv_aload_n hx hb dX8_readHoliday_78 rfl (lv_at hl 2 rfl) ?_
                refine Rd.callV (rest := []) (c_X8_isGood l G) yk_X8_isGood E km_X8_58 dX8_readHoliday_79 hG (hE.S hS hD.efa) hP (At.recv hG hP.1 rfl) rfl rfl hl.1 ⟨Nat.le_of_ble_eq_true rfl, Nat.le_of_ble_eq_true rfl⟩ ⟨Nat.zero_le _, Nat.zero_le _⟩ (Nat.le_of_ble_eq_true rfl) ?_
                refine lv_ci (y := 1) (if_pos rfl) ?_
                refine lv_if_ne (tgt := 86) hx hb dX8_readHoliday_82 (by decide) (fun c_82 => ?_) (fun c_82 => ?_)
                rotate_left
                · exact absurd c_82 (by decide)
                refine lv_aload_n hx hb dX8_readHoliday_86 rfl (lv_at hl 2 rfl) ?_
                refine gf_X8_20 (v := .ref (B 3)) E hG hP.1 rfl dX8_readHoliday_87 ?_
                refine lv_bipush (v := 6) hx hb dX8_readHoliday_90 rfl ?_
                refine lv_aload_n hx hb dX8_readHoliday_92 rfl (lv_at hl 2 rfl) ?_
                refine gf_X8_20 (v := .ref (B 3)) E hG hP.1 rfl dX8_readHoliday_93 ?_
                refine lv_iconst (v := 2) hx hb dX8_readHoliday_96 rfl ?_
                refine g_ild 2 E hG hP.2.2.2.1 rfl (by omega) (by decide) dX8_readHoliday_97 ?_
                refine lv_iadd hx hb dX8_readHoliday_98 ?_
                refine lv_iload_n hx hb dX8_readHoliday_99 rfl (lv_at hl 1 rfl) ?_
                refine g_ist (6 + nh1) E hG hP.2.2.2.1 (ixq (nI_ad rfl h21)) (by omega) (by decide) hS ⟨3, by decide, rfl⟩ dX8_readHoliday_100 (fun H locs ho hz oq hS => ?_)
                have hP : MW G B (fm t bl (nI n) (nI q2) 0 (-1) eo ud (nI (spc bf n q1)) ne se) bf da (upd dr1 (6 + nh1) v_1) hi sk H := hP.setR hD ho oq
                refine lv_aload_n hx hb dX8_readHoliday_101 rfl (lv_at hl 2 rfl) ?_
                refine gf_X8_20 (v := .ref (B 3)) E hG hP.1 rfl dX8_readHoliday_102 ?_
                refine lv_iconst (v := 2) hx hb dX8_readHoliday_105 rfl ?_
                refine lv_dup2_11 hx hb dX8_readHoliday_106 rfl rfl ?_
                refine g_ild 2 E hG hP.2.2.2.1 rfl (by omega) (by decide) dX8_readHoliday_107 ?_
                refine lv_iconst (v := 1) hx hb dX8_readHoliday_108 rfl ?_
                refine lv_iadd hx hb dX8_readHoliday_109 ?_
                refine lv_ci (y := nI (nh1 + 1)) (by rw [show (upd dr1 (6 + nh1) v_1) 2 = dr1 2 from pk_un (by omega), h21, nI_1]) ?_
                refine g_ist 2 E hG hP.2.2.2.1 rfl (by omega) (by decide) hS ⟨3, by decide, rfl⟩ dX8_readHoliday_110 (fun H locs ho hz oq hS => ?_)
                have hP : MW G B (fm t bl (nI n) (nI q2) 0 (-1) eo ud (nI (spc bf n q1)) ne se) bf da (upd (upd dr1 (6 + nh1) v_1) 2 (nI (nh1 + 1))) hi sk H := hP.setR hD ho oq
                refine lv_aload_n hx hb dX8_readHoliday_111 rfl (lv_at hl 2 rfl) ?_
                refine Wr.callV (rest := []) (c_X8_next l G hD n q2 hn9 (by omega)) yk_X8_next E km_X8_62 dX8_readHoliday_112 hG (hE.S hS hD.efa) hP (At.recv hG hP.1 rfl) rfl rfl hl.1 ⟨Nat.le_of_ble_eq_true rfl, Nat.le_of_ble_eq_true rfl⟩ ⟨Nat.le_of_ble_eq_true rfl, Nat.le_of_ble_eq_true rfl⟩ (Nat.le_of_ble_eq_true rfl) hS (fun _ h9 => h9) (fun v9 H locs hq hz9 hfr9 hS => ?_)
                obtain ⟨rfl, hP⟩ := hq
                refine Rd.callS (rest := []) (c_X8_isDigit l G (bt bf n (spc bf n q2))) yk_X8_isDigit E km_X8_79 dX8_readHoliday_115 hG (hE.S hS hD.efa) trivial rfl rfl hl.1 ⟨Nat.le_of_ble_eq_true rfl, Nat.le_of_ble_eq_true rfl⟩ ⟨Nat.zero_le _, Nat.zero_le _⟩ (Nat.le_of_ble_eq_true rfl) ?_
                refine lv_if_ne (tgt := 0) hx hb dX8_readHoliday_118 (by decide) (fun c_118 => ?_) (fun c_118 => ?_)
                · have c9 : inV (bt bf n (spc bf n q2)) 48 57 = 1 := (inV01 _ _ _).resolve_left c_118
                  exact ih (spc bf n q2) _ _ (nh1 + 1) (by rw [sk_ii]; omega) (by omega) (by rw [sk_ii, ← z3, hoF_go ef c9]; rfl) pk_us (by omega) H locs hP hS ls (lv_sub hl [2] rfl)
                · have c9 : ¬ inV (bt bf n (spc bf n q2)) 48 57 = 1 := by rw [c_118]; decide
                  exact wr_void E hr hk hS (by decide) (by decide) (⟨rfl, _, _, _, _, _, hP, by rw [← z3, hoF_end ef c9]; exact ⟨rfl, rfl, _, rfl, (sk_b hq2).2, sk_ii bf n q2⟩, fun s9 d9 k9 z => by rw [← z3, hoF_end ef c9] at z; cases z; rfl⟩) dX8_readHoliday_121
              · have c_65 : nh1 = 16 := (nEQ (x := (dr1 2)) (y := 16) (a := nh1) (b := 16) h21 rfl (by omega) (by omega)).mp c_65
                have ef := hs1_fu (d := dr1) (nh := nh1) hnu hnh c_65
                refine lv_aload_n hx hb dX8_readHoliday_68 rfl (lv_at hl 2 rfl) ?_
                refine lv_bipush (v := (-4)) hx hb dX8_readHoliday_69 rfl ?_
                refine lv_aload_n hx hb dX8_readHoliday_71 rfl (lv_at hl 2 rfl) ?_
                refine gf_X8_83 (v := .int (nI (spc bf n q1))) E hG hP.1 rfl dX8_readHoliday_72 ?_
                refine Wr.callV (rest := []) (c_X8_report l G hD (-4) (nI (spc bf n q1))) yk_X8_report E km_X8_75 dX8_readHoliday_75 hG (hE.S hS hD.efa) hP (At.recv hG hP.1 rfl) rfl rfl hl.1 ⟨Nat.le_of_ble_eq_true rfl, Nat.le_of_ble_eq_true rfl⟩ ⟨Nat.le_of_ble_eq_true rfl, Nat.le_of_ble_eq_true rfl⟩ (Nat.le_of_ble_eq_true rfl) hS (fun _ h9 => h9) (fun v9 H locs hq hz9 hfr9 hS => ?_)
                obtain ⟨rfl, hP⟩ := hq
                refine lv_aload_n hx hb dX8_readHoliday_78 rfl (lv_at hl 2 rfl) ?_
                refine Rd.callV (rest := []) (c_X8_isGood l G) yk_X8_isGood E km_X8_58 dX8_readHoliday_79 hG (hE.S hS hD.efa) hP (At.recv hG hP.1 rfl) rfl rfl hl.1 ⟨Nat.le_of_ble_eq_true rfl, Nat.le_of_ble_eq_true rfl⟩ ⟨Nat.zero_le _, Nat.zero_le _⟩ (Nat.le_of_ble_eq_true rfl) ?_
                refine lv_ci (y := 0) (if_neg (show ¬ ((-4) : Int32) = 0 by decide)) ?_
                refine lv_if_ne (tgt := 86) hx hb dX8_readHoliday_82 (by decide) (fun c_82 => ?_) (fun c_82 => ?_)
                · exact absurd c_82 (by decide)
                · exact wr_void E hr hk hS (by decide) (by decide) (⟨rfl, _, _, _, _, _, hP, by rw [← z3, hoF_er ef]; exact ⟨rfl, by decide, rfl, (sk_b hqq).2⟩, fun s9 d9 k9 z => by rw [← z3, hoF_er ef] at z; cases z⟩) dX8_readHoliday_85
            · have c_18 : ¬ nh1 ≤ k := fun z9 => c_18 ((nLE (x := (dr1 2)) (y := (nI k)) (a := nh1) (b := k) h21 rfl (by omega) (by omega)).mpr z9)
              refine lv_aload_n hx hb dX8_readHoliday_21 rfl (lv_at hl 2 rfl) ?_
              refine Rd.callV (rest := []) (c_X8_isGood l G) yk_X8_isGood E km_X8_58 dX8_readHoliday_22 hG (hE.S hS hD.efa) hP (At.recv hG hP.1 rfl) rfl rfl hl.1 ⟨Nat.le_of_ble_eq_true rfl, Nat.le_of_ble_eq_true rfl⟩ ⟨Nat.zero_le _, Nat.zero_le _⟩ (Nat.le_of_ble_eq_true rfl) ?_
              refine lv_ci (y := 1) (if_pos rfl) ?_
              refine lv_if_eq (tgt := 51) hx hb dX8_readHoliday_25 (by decide) (fun c_25 => ?_) (fun c_25 => ?_)
              · exact absurd c_25 (by decide)
              refine lv_aload_n hx hb dX8_readHoliday_28 rfl (lv_at hl 2 rfl) ?_
              refine gf_X8_20 (v := .ref (B 3)) E hG hP.1 rfl dX8_readHoliday_29 ?_
              refine lv_bipush (v := 6) hx hb dX8_readHoliday_32 rfl ?_
              refine lv_iload_n hx hb dX8_readHoliday_34 rfl (lv_at hl 0 rfl) ?_
              refine lv_iadd hx hb dX8_readHoliday_35 ?_
              refine g_ild (6 + k) E hG hP.2.2.2.1 (ixq (nI_ad rfl rfl)) (by omega) (by decide) dX8_readHoliday_36 ?_
              refine lv_iload_n hx hb dX8_readHoliday_37 rfl (lv_at hl 1 rfl) ?_
              refine lv_icmp_ne (tgt := 51) hx hb dX8_readHoliday_38 (by decide) (fun c_38 => ?_) (fun c_38 => ?_)
              · refine lv_iinc (v := (nI (k + 1))) (lv' := [(2, .int (nI (k + 1))), (1, .int v_1), (0, .ref (B 0))]) hx hb dX8_readHoliday_51 hl (k := 0) rfl (nI_ad rfl rfl) (by decide) rfl (fun ls hl => ?_)
                refine lv_goto (tgt := 11) hx hb dX8_readHoliday_54 (by decide) ?_
                exact ih2 (k + 1) (by omega) (by omega) (fun a h1 => by by_cases h2 : a = k; (rw [h2]; exact c_38); (exact y3 a (by omega))) H locs hP hS ls (lv_sub hl [0, 1, 2] rfl)
              · have hth : hol dr1 v_1.toNatClampNeg nh1 = true := hol_iff.mpr ⟨k, by omega, by rw [ec]; exact c_38⟩
                have ef := hs1_tw (d := dr1) (nh := nh1) hnu hth
                refine lv_aload_n hx hb dX8_readHoliday_41 rfl (lv_at hl 2 rfl) ?_
                refine lv_bipush (v := (-3)) hx hb dX8_readHoliday_42 rfl ?_
                refine lv_aload_n hx hb dX8_readHoliday_44 rfl (lv_at hl 2 rfl) ?_
                refine gf_X8_83 (v := .int (nI (spc bf n q1))) E hG hP.1 rfl dX8_readHoliday_45 ?_
                refine Wr.callV (rest := []) (c_X8_report l G hD (-3) (nI (spc bf n q1))) yk_X8_report E km_X8_75 dX8_readHoliday_48 hG (hE.S hS hD.efa) hP (At.recv hG hP.1 rfl) rfl rfl hl.1 ⟨Nat.le_of_ble_eq_true rfl, Nat.le_of_ble_eq_true rfl⟩ ⟨Nat.le_of_ble_eq_true rfl, Nat.le_of_ble_eq_true rfl⟩ (Nat.le_of_ble_eq_true rfl) hS (fun _ h9 => h9) (fun v9 H locs hq hz9 hfr9 hS => ?_)
                obtain ⟨rfl, hP⟩ := hq
                refine lv_iinc (v := (nI (k + 1))) (lv' := [(2, .int (nI (k + 1))), (1, .int v_1), (0, .ref (B 0))]) hx hb dX8_readHoliday_51 hl (k := 0) rfl (nI_ad rfl rfl) (by decide) rfl (fun ls hl => ?_)
                refine lv_goto (tgt := 11) hx hb dX8_readHoliday_54 (by decide) ?_
                exact lpE (nh1 + 1) (k + 1) _ _ _ _ (by omega) (by omega) (by decide) (by rw [← z3, hoF_er ef]; exact ⟨rfl, by decide, rfl, (sk_b hqq).2⟩) _ _ hP hS ls (lv_sub hl [0, 1, 2] rfl)
        refine lv_istore_n (lv' := [(1, .int v_1), (0, .ref (B 0))]) hx hb dX8_readHoliday_8 rfl hl (by decide) rfl (fun ls hl => ?_)
        refine lv_iconst (v := 0) hx hb dX8_readHoliday_9 rfl ?_
        refine lv_ci (y := nI 0) (ixq rfl) ?_
        refine lv_istore_n (lv' := [(2, .int (nI 0)), (1, .int v_1), (0, .ref (B 0))]) hx hb dX8_readHoliday_10 rfl hl (by decide) rfl (fun ls hl => ?_)
        exact lpG (nh1 + 1) 0 (by omega) (by omega) (fun a h1 => absurd h1 (Nat.not_lt_zero a)) _ _ hP hS ls (lv_sub hl [0, 1, 2] rfl)
  exact loop (n + 1) q ns dr nh (by have := sk_b (bf := bf) hq9; omega) hq9 rfl h2 hh _ _ hP hS ls (lv_sub hl [0] rfl)

set_option maxHeartbeats 4000000 in
set_option maxRecDepth 100000 in
/-- readCredit, too many -/
theorem c_X8_readCredit_x (l : Launch) (G : CG) {B : Nat → Nat} {t bl eo ud ns ne se : Int32} {bf da dr : Nat → Int32} {hi : Nat → Nat → Int32} {sk : Nat → Int64} (hD : MD G B) (n q : Nat) (hn9 : n ≤ 900) (hq9 : q ≤ n) (hB : ByO bf) (z : Int32) (h0 : dr 0 = 12) : Wr l yX8_readCredit cX8_readCredit 3 ((Option.none : Option FieldType)) 1 22 0 0 G [.ref (B 0), .int z] (MW G B (fm t bl (nI n) (nI q) 0 (-1) eo ud ns ne se) bf da dr hi sk) (MA B) (fun v9 H9 => v9 = none ∧ MW G B (fm t bl (nI n) (nI q) (-4) z eo ud ns ne se) bf da dr hi sk H9) := by
  refine Wr.ofW (by decide) (Nat.le_of_ble_eq_true rfl) (fun p e s m below meth c ls E hG hE hP hr hk hin hl => ?_)
  have hS : va_S (MA B) s.heap s.heap [] := va_S.rf
  have hx := E.1
  have hb := E.2.1
  have hl : lv_has ls 3 [(0, .ref (B 0)), (1, .int z)] := hl
  refine lv_aload_n hx hb dX8_readCredit_0 rfl (lv_at hl 0 rfl) ?_
  refine gf_X8_20 (v := .ref (B 3)) E hG hP.1 rfl dX8_readCredit_1 ?_
  refine lv_iconst (v := 0) hx hb dX8_readCredit_4 rfl ?_
  refine g_ild 0 E hG hP.2.2.2.1 rfl (by omega) (by decide) dX8_readCredit_5 ?_
  refine lv_bipush (v := 12) hx hb dX8_readCredit_6 rfl ?_
  refine lv_icmp_ne (tgt := 18) hx hb dX8_readCredit_8 (by decide) (fun c_8 => ?_) (fun c_8 => ?_)
  · exact absurd h0 c_8
  · refine lv_aload_n hx hb dX8_readCredit_11 rfl (lv_at hl 0 rfl) ?_
    refine lv_bipush (v := (-4)) hx hb dX8_readCredit_12 rfl ?_
    refine lv_iload_n hx hb dX8_readCredit_14 rfl (lv_at hl 1 rfl) ?_
    refine Wr.callV (rest := []) (c_X8_report l G hD (-4) z) yk_X8_report E km_X8_75 dX8_readCredit_15 hG (hE.S hS hD.efa) hP (At.recv hG hP.1 rfl) rfl rfl hl.1 ⟨Nat.le_of_ble_eq_true rfl, Nat.le_of_ble_eq_true rfl⟩ ⟨Nat.le_of_ble_eq_true rfl, Nat.le_of_ble_eq_true rfl⟩ (Nat.le_of_ble_eq_true rfl) hS (fun _ h9 => h9) (fun v9 H locs hq hz9 hfr9 hS => ?_)
    obtain ⟨rfl, hP⟩ := hq
    refine lv_aload_n hx hb dX8_readCredit_18 rfl (lv_at hl 0 rfl) ?_
    refine Rd.callV (rest := []) (c_X8_isGood l G) yk_X8_isGood E km_X8_58 dX8_readCredit_19 hG (hE.S hS hD.efa) hP (At.recv hG hP.1 rfl) rfl rfl hl.1 ⟨Nat.le_of_ble_eq_true rfl, Nat.le_of_ble_eq_true rfl⟩ ⟨Nat.zero_le _, Nat.zero_le _⟩ (Nat.le_of_ble_eq_true rfl) ?_
    refine lv_ci (y := 0) (if_neg (show ¬ ((-4) : Int32) = 0 by decide)) ?_
    refine lv_if_ne (tgt := 26) hx hb dX8_readCredit_22 (by decide) (fun c_22 => ?_) (fun c_22 => ?_)
    · exact absurd c_22 (by decide)
    · exact wr_void E hr hk hS (by decide) (by decide) (⟨rfl, hP⟩) dX8_readCredit_25

set_option maxHeartbeats 4000000 in
set_option maxRecDepth 100000 in
/-- readCredit -/
theorem c_X8_readCredit (l : Launch) (G : CG) {B : Nat → Nat} {t bl eo ud ns ne se : Int32} {bf da dr : Nat → Int32} {hi : Nat → Nat → Int32} {sk : Nat → Int64} (hD : MD G B) (n q : Nat) (hn9 : n ≤ 900) (hq9 : q ≤ n) (hB : ByO bf) (z : Int32) (nc : Nat) (h0 : dr 0 = nI nc) (hc1 : nc < 12) : Wr l yX8_readCredit cX8_readCredit 3 ((Option.none : Option FieldType)) 5 107 0 0 G [.ref (B 0), .int z] (MW G B (fm t bl (nI n) (nI q) 0 (-1) eo ud ns ne se) bf da dr hi sk) (MA B) (fun v9 H9 => v9 = none ∧ ∃ ps er ea ns dr1, MW G B (fm t bl (nI n) ps er ea eo ud ns ne se) bf da dr1 hi sk H9 ∧ RK bf n (pl (cdF bf n (spc bf n q))) ps er ea ∧ ∀ s9 L9, (cdF bf n (spc bf n q)) = .ok (s9, L9) → dr1 = crD dr nc L9) := by
  refine Wr.ofW (by decide) (Nat.le_of_ble_eq_true rfl) (fun p e s m below meth c ls E hG hE hP hr hk hin hl => ?_)
  have hS : va_S (MA B) s.heap s.heap [] := va_S.rf
  have hx := E.1
  have hb := E.2.1
  have hl : lv_has ls 3 [(0, .ref (B 0)), (1, .int z)] := hl
  have hRK : RK bf n (pl (.ok (spc bf n q, []) : Rr)) (nI q) 0 (-1) := ⟨rfl, rfl, q, rfl, hq9, rfl⟩
  refine lv_aload_n hx hb dX8_readCredit_0 rfl (lv_at hl 0 rfl) ?_
  refine gf_X8_20 (v := .ref (B 3)) E hG hP.1 rfl dX8_readCredit_1 ?_
  refine lv_iconst (v := 0) hx hb dX8_readCredit_4 rfl ?_
  refine g_ild 0 E hG hP.2.2.2.1 rfl (by omega) (by decide) dX8_readCredit_5 ?_
  refine lv_bipush (v := 12) hx hb dX8_readCredit_6 rfl ?_
  refine lv_icmp_ne (tgt := 18) hx hb dX8_readCredit_8 (by decide) (fun c_8 => ?_) (fun c_8 => ?_)
  · refine lv_aload_n hx hb dX8_readCredit_18 rfl (lv_at hl 0 rfl) ?_
    refine Rd.callV (rest := []) (c_X8_isGood l G) yk_X8_isGood E km_X8_58 dX8_readCredit_19 hG (hE.S hS hD.efa) hP (At.recv hG hP.1 rfl) rfl rfl hl.1 ⟨Nat.le_of_ble_eq_true rfl, Nat.le_of_ble_eq_true rfl⟩ ⟨Nat.zero_le _, Nat.zero_le _⟩ (Nat.le_of_ble_eq_true rfl) ?_
    refine lv_ci (y := 1) (if_pos rfl) ?_
    refine lv_if_ne (tgt := 26) hx hb dX8_readCredit_22 (by decide) (fun c_22 => ?_) (fun c_22 => ?_)
    · refine lv_aload_n hx hb dX8_readCredit_26 rfl (lv_at hl 0 rfl) ?_
      refine gf_X8_20 (v := .ref (B 3)) E hG hP.1 rfl dX8_readCredit_27 ?_
      refine lv_iconst (v := 0) hx hb dX8_readCredit_30 rfl ?_
      refine g_ild 0 E hG hP.2.2.2.1 rfl (by omega) (by decide) dX8_readCredit_31 ?_
      refine Rd.callS (rest := []) (c_X8_credit l G (dr 0)) yk_X8_credit E km_X8_126 dX8_readCredit_32 hG (hE.S hS hD.efa) trivial rfl rfl hl.1 ⟨Nat.le_of_ble_eq_true rfl, Nat.le_of_ble_eq_true rfl⟩ ⟨Nat.zero_le _, Nat.zero_le _⟩ (Nat.le_of_ble_eq_true rfl) ?_
      refine lv_ci (y := nI (22 + 11 * nc)) (ixq (by rw [h0, show (11 : Int32) = nI 11 from rfl, show (22 : Int32) = nI 22 from rfl, pk_mul, nI_add])) ?_
      refine lv_istore_n (lv' := [(2, .int (nI (22 + 11 * nc))), (0, .ref (B 0)), (1, .int z)]) hx hb dX8_readCredit_35 rfl hl (by decide) rfl (fun ls hl => ?_)
      refine lv_aload_n hx hb dX8_readCredit_36 rfl (lv_at hl 1 rfl) ?_
      refine gf_X8_20 (v := .ref (B 3)) E hG hP.1 rfl dX8_readCredit_37 ?_
      refine lv_iload_n hx hb dX8_readCredit_40 rfl (lv_at hl 0 rfl) ?_
      refine lv_aload_n hx hb dX8_readCredit_41 rfl (lv_at hl 1 rfl) ?_
      refine lv_iconst (v := 1) hx hb dX8_readCredit_42 rfl ?_
      refine lv_ldc (v := 999999) hx hb E.2.2.2.1 (E.2.2.2.2 _ kk_X8_129) dX8_readCredit_43 ?_
      refine Wr.callV (rest := [.int (nI (22 + 11 * nc)), .ref (B 3)]) (c_X8_number_u l G hD hB n hn9 (.ok (spc bf n q, [])) hRK 1 999999) yk_X8_number E km_X8_111 dX8_readCredit_45 hG (hE.S hS hD.efa) hP (At.recv hG hP.1 rfl) rfl rfl hl.1 ⟨Nat.le_of_ble_eq_true rfl, Nat.le_of_ble_eq_true rfl⟩ ⟨Nat.le_of_ble_eq_true rfl, Nat.le_of_ble_eq_true rfl⟩ (Nat.le_of_ble_eq_true rfl) hS (fun _ h9 => h9) (fun v9 H locs hq hz9 hfr9 hS => ?_)
      obtain ⟨v_1, ps, er, ea, ns, rfl, hP, hRK, hv_1⟩ := hq
      refine g_ist (22 + 11 * nc) E hG hP.2.2.2.1 rfl (by omega) (by decide) hS ⟨3, by decide, rfl⟩ dX8_readCredit_48 (fun H locs ho hz oq hS => ?_)
      have hP : MW G B (fm t bl (nI n) ps er ea eo ud ns ne se) bf da (upd dr (22 + 11 * nc) v_1) hi sk H := hP.setR hD ho oq
      refine lv_aload_n hx hb dX8_readCredit_49 rfl (lv_at hl 1 rfl) ?_
      refine gf_X8_20 (v := .ref (B 3)) E hG hP.1 rfl dX8_readCredit_50 ?_
      refine lv_iload_n hx hb dX8_readCredit_53 rfl (lv_at hl 0 rfl) ?_
      refine lv_iconst (v := 1) hx hb dX8_readCredit_54 rfl ?_
      refine lv_iadd hx hb dX8_readCredit_55 ?_
      refine lv_aload_n hx hb dX8_readCredit_56 rfl (lv_at hl 1 rfl) ?_
      refine lv_iconst (v := 0) hx hb dX8_readCredit_57 rfl ?_
      refine lv_bipush (v := 10) hx hb dX8_readCredit_58 rfl ?_
      refine Wr.callV (rest := [.int ((nI (22 + 11 * nc)) + 1), .ref (B 3)]) (c_X8_number_u l G hD hB n hn9 (nbL bf n 1 999999 (.ok (spc bf n q, []))) hRK 0 10) yk_X8_number E km_X8_111 dX8_readCredit_60 hG (hE.S hS hD.efa) hP (At.recv hG hP.1 rfl) rfl rfl hl.1 ⟨Nat.le_of_ble_eq_true rfl, Nat.le_of_ble_eq_true rfl⟩ ⟨Nat.le_of_ble_eq_true rfl, Nat.le_of_ble_eq_true rfl⟩ (Nat.le_of_ble_eq_true rfl) hS (fun _ h9 => h9) (fun v9 H locs hq hz9 hfr9 hS => ?_)
      obtain ⟨v_2, ps, er, ea, ns, rfl, hP, hRK, hv_2⟩ := hq
      refine g_ist ((22 + 11 * nc) + 1) E hG hP.2.2.2.1 (ixq (nI_ad rfl rfl)) (by omega) (by decide) hS ⟨3, by decide, rfl⟩ dX8_readCredit_63 (fun H locs ho hz oq hS => ?_)
      have hP : MW G B (fm t bl (nI n) ps er ea eo ud ns ne se) bf da (upd (upd dr (22 + 11 * nc) v_1) ((22 + 11 * nc) + 1) v_2) hi sk H := hP.setR hD ho oq
      refine lv_aload_n hx hb dX8_readCredit_64 rfl (lv_at hl 1 rfl) ?_
      refine gf_X8_20 (v := .ref (B 3)) E hG hP.1 rfl dX8_readCredit_65 ?_
      refine lv_iload_n hx hb dX8_readCredit_68 rfl (lv_at hl 0 rfl) ?_
      refine lv_iconst (v := 2) hx hb dX8_readCredit_69 rfl ?_
      refine lv_iadd hx hb dX8_readCredit_70 ?_
      refine lv_aload_n hx hb dX8_readCredit_71 rfl (lv_at hl 1 rfl) ?_
      refine lv_iconst (v := 0) hx hb dX8_readCredit_72 rfl ?_
      refine lv_bipush (v := 10) hx hb dX8_readCredit_73 rfl ?_
      refine Wr.callV (rest := [.int ((nI (22 + 11 * nc)) + 2), .ref (B 3)]) (c_X8_number_u l G hD hB n hn9 (nbL bf n 0 10 (nbL bf n 1 999999 (.ok (spc bf n q, [])))) hRK 0 10) yk_X8_number E km_X8_111 dX8_readCredit_75 hG (hE.S hS hD.efa) hP (At.recv hG hP.1 rfl) rfl rfl hl.1 ⟨Nat.le_of_ble_eq_true rfl, Nat.le_of_ble_eq_true rfl⟩ ⟨Nat.le_of_ble_eq_true rfl, Nat.le_of_ble_eq_true rfl⟩ (Nat.le_of_ble_eq_true rfl) hS (fun _ h9 => h9) (fun v9 H locs hq hz9 hfr9 hS => ?_)
      obtain ⟨v_3, ps, er, ea, ns, rfl, hP, hRK, hv_3⟩ := hq
      refine g_ist ((22 + 11 * nc) + 2) E hG hP.2.2.2.1 (ixq (nI_ad rfl rfl)) (by omega) (by decide) hS ⟨3, by decide, rfl⟩ dX8_readCredit_78 (fun H locs ho hz oq hS => ?_)
      have hP : MW G B (fm t bl (nI n) ps er ea eo ud ns ne se) bf da (upd (upd (upd dr (22 + 11 * nc) v_1) ((22 + 11 * nc) + 1) v_2) ((22 + 11 * nc) + 2) v_3) hi sk H := hP.setR hD ho oq
      refine lv_aload_n hx hb dX8_readCredit_79 rfl (lv_at hl 1 rfl) ?_
      refine gf_X8_20 (v := .ref (B 3)) E hG hP.1 rfl dX8_readCredit_80 ?_
      refine lv_iload_n hx hb dX8_readCredit_83 rfl (lv_at hl 0 rfl) ?_
      refine lv_iconst (v := 3) hx hb dX8_readCredit_84 rfl ?_
      refine lv_iadd hx hb dX8_readCredit_85 ?_
      refine lv_aload_n hx hb dX8_readCredit_86 rfl (lv_at hl 1 rfl) ?_
      refine lv_iconst (v := 0) hx hb dX8_readCredit_87 rfl ?_
      refine lv_sipush (v := 999) hx hb dX8_readCredit_88 rfl ?_
      refine Wr.callV (rest := [.int ((nI (22 + 11 * nc)) + 3), .ref (B 3)]) (c_X8_number_u l G hD hB n hn9 (nbL bf n 0 10 (nbL bf n 0 10 (nbL bf n 1 999999 (.ok (spc bf n q, []))))) hRK 0 999) yk_X8_number E km_X8_111 dX8_readCredit_91 hG (hE.S hS hD.efa) hP (At.recv hG hP.1 rfl) rfl rfl hl.1 ⟨Nat.le_of_ble_eq_true rfl, Nat.le_of_ble_eq_true rfl⟩ ⟨Nat.le_of_ble_eq_true rfl, Nat.le_of_ble_eq_true rfl⟩ (Nat.le_of_ble_eq_true rfl) hS (fun _ h9 => h9) (fun v9 H locs hq hz9 hfr9 hS => ?_)
      obtain ⟨v_4, ps, er, ea, ns, rfl, hP, hRK, hv_4⟩ := hq
      refine g_ist ((22 + 11 * nc) + 3) E hG hP.2.2.2.1 (ixq (nI_ad rfl rfl)) (by omega) (by decide) hS ⟨3, by decide, rfl⟩ dX8_readCredit_94 (fun H locs ho hz oq hS => ?_)
      have hP : MW G B (fm t bl (nI n) ps er ea eo ud ns ne se) bf da (upd (upd (upd (upd dr (22 + 11 * nc) v_1) ((22 + 11 * nc) + 1) v_2) ((22 + 11 * nc) + 2) v_3) ((22 + 11 * nc) + 3) v_4) hi sk H := hP.setR hD ho oq
      refine lv_aload_n hx hb dX8_readCredit_95 rfl (lv_at hl 1 rfl) ?_
      refine gf_X8_20 (v := .ref (B 3)) E hG hP.1 rfl dX8_readCredit_96 ?_
      refine lv_iload_n hx hb dX8_readCredit_99 rfl (lv_at hl 0 rfl) ?_
      refine lv_iconst (v := 4) hx hb dX8_readCredit_100 rfl ?_
      refine lv_iadd hx hb dX8_readCredit_101 ?_
      refine lv_aload_n hx hb dX8_readCredit_102 rfl (lv_at hl 1 rfl) ?_
      refine lv_iconst (v := 0) hx hb dX8_readCredit_103 rfl ?_
      refine lv_sipush (v := 999) hx hb dX8_readCredit_104 rfl ?_
      refine Wr.callV (rest := [.int ((nI (22 + 11 * nc)) + 4), .ref (B 3)]) (c_X8_number_u l G hD hB n hn9 (nbL bf n 0 999 (nbL bf n 0 10 (nbL bf n 0 10 (nbL bf n 1 999999 (.ok (spc bf n q, [])))))) hRK 0 999) yk_X8_number E km_X8_111 dX8_readCredit_107 hG (hE.S hS hD.efa) hP (At.recv hG hP.1 rfl) rfl rfl hl.1 ⟨Nat.le_of_ble_eq_true rfl, Nat.le_of_ble_eq_true rfl⟩ ⟨Nat.le_of_ble_eq_true rfl, Nat.le_of_ble_eq_true rfl⟩ (Nat.le_of_ble_eq_true rfl) hS (fun _ h9 => h9) (fun v9 H locs hq hz9 hfr9 hS => ?_)
      obtain ⟨v_5, ps, er, ea, ns, rfl, hP, hRK, hv_5⟩ := hq
      refine g_ist ((22 + 11 * nc) + 4) E hG hP.2.2.2.1 (ixq (nI_ad rfl rfl)) (by omega) (by decide) hS ⟨3, by decide, rfl⟩ dX8_readCredit_110 (fun H locs ho hz oq hS => ?_)
      have hP : MW G B (fm t bl (nI n) ps er ea eo ud ns ne se) bf da (upd (upd (upd (upd (upd dr (22 + 11 * nc) v_1) ((22 + 11 * nc) + 1) v_2) ((22 + 11 * nc) + 2) v_3) ((22 + 11 * nc) + 3) v_4) ((22 + 11 * nc) + 4) v_5) hi sk H := hP.setR hD ho oq
      refine lv_aload_n hx hb dX8_readCredit_111 rfl (lv_at hl 1 rfl) ?_
      refine gf_X8_20 (v := .ref (B 3)) E hG hP.1 rfl dX8_readCredit_112 ?_
      refine lv_iload_n hx hb dX8_readCredit_115 rfl (lv_at hl 0 rfl) ?_
      refine lv_iconst (v := 5) hx hb dX8_readCredit_116 rfl ?_
      refine lv_iadd hx hb dX8_readCredit_117 ?_
      refine lv_aload_n hx hb dX8_readCredit_118 rfl (lv_at hl 1 rfl) ?_
      refine lv_iconst (v := 1) hx hb dX8_readCredit_119 rfl ?_
      refine lv_bipush (v := 60) hx hb dX8_readCredit_120 rfl ?_
      refine Wr.callV (rest := [.int ((nI (22 + 11 * nc)) + 5), .ref (B 3)]) (c_X8_number_u l G hD hB n hn9 (nbL bf n 0 999 (nbL bf n 0 999 (nbL bf n 0 10 (nbL bf n 0 10 (nbL bf n 1 999999 (.ok (spc bf n q, []))))))) hRK 1 60) yk_X8_number E km_X8_111 dX8_readCredit_122 hG (hE.S hS hD.efa) hP (At.recv hG hP.1 rfl) rfl rfl hl.1 ⟨Nat.le_of_ble_eq_true rfl, Nat.le_of_ble_eq_true rfl⟩ ⟨Nat.le_of_ble_eq_true rfl, Nat.le_of_ble_eq_true rfl⟩ (Nat.le_of_ble_eq_true rfl) hS (fun _ h9 => h9) (fun v9 H locs hq hz9 hfr9 hS => ?_)
      obtain ⟨v_6, ps, er, ea, ns, rfl, hP, hRK, hv_6⟩ := hq
      refine g_ist ((22 + 11 * nc) + 5) E hG hP.2.2.2.1 (ixq (nI_ad rfl rfl)) (by omega) (by decide) hS ⟨3, by decide, rfl⟩ dX8_readCredit_125 (fun H locs ho hz oq hS => ?_)
      have hP : MW G B (fm t bl (nI n) ps er ea eo ud ns ne se) bf da (upd (upd (upd (upd (upd (upd dr (22 + 11 * nc) v_1) ((22 + 11 * nc) + 1) v_2) ((22 + 11 * nc) + 2) v_3) ((22 + 11 * nc) + 3) v_4) ((22 + 11 * nc) + 4) v_5) ((22 + 11 * nc) + 5) v_6) hi sk H := hP.setR hD ho oq
      refine lv_aload_n hx hb dX8_readCredit_126 rfl (lv_at hl 1 rfl) ?_
      refine gf_X8_20 (v := .ref (B 3)) E hG hP.1 rfl dX8_readCredit_127 ?_
      refine lv_iload_n hx hb dX8_readCredit_130 rfl (lv_at hl 0 rfl) ?_
      refine lv_bipush (v := 6) hx hb dX8_readCredit_131 rfl ?_
      refine lv_iadd hx hb dX8_readCredit_133 ?_
      refine lv_aload_n hx hb dX8_readCredit_134 rfl (lv_at hl 1 rfl) ?_
      refine lv_iconst (v := 0) hx hb dX8_readCredit_135 rfl ?_
      refine lv_sipush (v := 180) hx hb dX8_readCredit_136 rfl ?_
      refine Wr.callV (rest := [.int ((nI (22 + 11 * nc)) + 6), .ref (B 3)]) (c_X8_number_u l G hD hB n hn9 (nbL bf n 1 60 (nbL bf n 0 999 (nbL bf n 0 999 (nbL bf n 0 10 (nbL bf n 0 10 (nbL bf n 1 999999 (.ok (spc bf n q, [])))))))) hRK 0 180) yk_X8_number E km_X8_111 dX8_readCredit_139 hG (hE.S hS hD.efa) hP (At.recv hG hP.1 rfl) rfl rfl hl.1 ⟨Nat.le_of_ble_eq_true rfl, Nat.le_of_ble_eq_true rfl⟩ ⟨Nat.le_of_ble_eq_true rfl, Nat.le_of_ble_eq_true rfl⟩ (Nat.le_of_ble_eq_true rfl) hS (fun _ h9 => h9) (fun v9 H locs hq hz9 hfr9 hS => ?_)
      obtain ⟨v_7, ps, er, ea, ns, rfl, hP, hRK, hv_7⟩ := hq
      refine g_ist ((22 + 11 * nc) + 6) E hG hP.2.2.2.1 (ixq (nI_ad rfl rfl)) (by omega) (by decide) hS ⟨3, by decide, rfl⟩ dX8_readCredit_142 (fun H locs ho hz oq hS => ?_)
      have hP : MW G B (fm t bl (nI n) ps er ea eo ud ns ne se) bf da (upd (upd (upd (upd (upd (upd (upd dr (22 + 11 * nc) v_1) ((22 + 11 * nc) + 1) v_2) ((22 + 11 * nc) + 2) v_3) ((22 + 11 * nc) + 3) v_4) ((22 + 11 * nc) + 4) v_5) ((22 + 11 * nc) + 5) v_6) ((22 + 11 * nc) + 6) v_7) hi sk H := hP.setR hD ho oq
      refine lv_aload_n hx hb dX8_readCredit_143 rfl (lv_at hl 1 rfl) ?_
      refine gf_X8_20 (v := .ref (B 3)) E hG hP.1 rfl dX8_readCredit_144 ?_
      refine lv_iload_n hx hb dX8_readCredit_147 rfl (lv_at hl 0 rfl) ?_
      refine lv_bipush (v := 7) hx hb dX8_readCredit_148 rfl ?_
      refine lv_iadd hx hb dX8_readCredit_150 ?_
      refine lv_aload_n hx hb dX8_readCredit_151 rfl (lv_at hl 1 rfl) ?_
      refine va_ldcS hx hb E.2.2.2.1 (hG.2.2.2.2.2.1 (RX8, 130, "partial", 22) (by decide +kernel)) dX8_readCredit_152 ?_
      refine Wr.callV (rest := [.int ((nI (22 + 11 * nc)) + 7), .ref (B 3)]) (c_X8_takeWord_u l G hD n hn9 (isT_r (i := 2) (by decide)) (txt_A (i := 2) (by decide)).1 (txt_A (i := 2) (by decide)).2 (txt_L (i := 2) (by decide)) (nbL bf n 0 180 (nbL bf n 1 60 (nbL bf n 0 999 (nbL bf n 0 999 (nbL bf n 0 10 (nbL bf n 0 10 (nbL bf n 1 999999 (.ok (spc bf n q, []))))))))) hRK) yk_X8_takeWord E km_X8_103 dX8_readCredit_154 hG (hE.S hS hD.efa) hP (At.recv hG hP.1 rfl) rfl rfl hl.1 ⟨Nat.le_of_ble_eq_true rfl, Nat.le_of_ble_eq_true rfl⟩ ⟨Nat.le_of_ble_eq_true rfl, Nat.le_of_ble_eq_true rfl⟩ (Nat.le_of_ble_eq_true rfl) hS (fun _ h9 => h9) (fun v9 H locs hq hz9 hfr9 hS => ?_)
      obtain ⟨v_8, ps, er, ea, rfl, hP, hRK, hv_8, hb_8⟩ := hq
      refine W.cut (g := F0 m 165 ls [.int v_8, .int ((nI (22 + 11 * nc)) + 7), .ref (B 3)]) (fun K => ?_) ?_
      · refine lv_if_eq (tgt := 164) hx hb dX8_readCredit_157 (by decide) (fun c_w => ?_) (fun c_w => ?_)
        · refine lv_iconst (v := 0) hx hb dX8_readCredit_164 rfl ?_
          exact W.eq (congrArg (fun z9 => F0 m 165 ls (.int z9 :: [.int ((nI (22 + 11 * nc)) + 7), .ref (B 3)])) (show (0 : Int32) = v_8 from c_w.symm)) K
        · refine lv_iconst (v := 1) hx hb dX8_readCredit_160 rfl ?_
          refine lv_goto (tgt := 165) hx hb dX8_readCredit_161 (by decide) ?_
          exact W.eq (congrArg (fun z9 => F0 m 165 ls (.int z9 :: [.int ((nI (22 + 11 * nc)) + 7), .ref (B 3)])) (show (1 : Int32) = v_8 from (hb_8.elim (fun y9 => absurd y9.1 c_w) (fun y9 => y9.1)).symm)) K
      refine g_ist ((22 + 11 * nc) + 7) E hG hP.2.2.2.1 (ixq (nI_ad rfl rfl)) (by omega) (by decide) hS ⟨3, by decide, rfl⟩ dX8_readCredit_165 (fun H locs ho hz oq hS => ?_)
      have hP : MW G B (fm t bl (nI n) ps er ea eo ud ns ne se) bf da (upd (upd (upd (upd (upd (upd (upd (upd dr (22 + 11 * nc) v_1) ((22 + 11 * nc) + 1) v_2) ((22 + 11 * nc) + 2) v_3) ((22 + 11 * nc) + 3) v_4) ((22 + 11 * nc) + 4) v_5) ((22 + 11 * nc) + 5) v_6) ((22 + 11 * nc) + 6) v_7) ((22 + 11 * nc) + 7) v_8) hi sk H := hP.setR hD ho oq
      refine lv_aload_n hx hb dX8_readCredit_166 rfl (lv_at hl 1 rfl) ?_
      refine gf_X8_20 (v := .ref (B 3)) E hG hP.1 rfl dX8_readCredit_167 ?_
      refine lv_iload_n hx hb dX8_readCredit_170 rfl (lv_at hl 0 rfl) ?_
      refine lv_bipush (v := 8) hx hb dX8_readCredit_171 rfl ?_
      refine lv_iadd hx hb dX8_readCredit_173 ?_
      refine lv_aload_n hx hb dX8_readCredit_174 rfl (lv_at hl 1 rfl) ?_
      refine va_ldcS hx hb E.2.2.2.1 (hG.2.2.2.2.2.1 (RX8, 132, "transferable", 23) (by decide +kernel)) dX8_readCredit_175 ?_
      refine Wr.callV (rest := [.int ((nI (22 + 11 * nc)) + 8), .ref (B 3)]) (c_X8_takeWord_u l G hD n hn9 (isT_r (i := 3) (by decide)) (txt_A (i := 3) (by decide)).1 (txt_A (i := 3) (by decide)).2 (txt_L (i := 3) (by decide)) (wdL bf n (txt 2) (nbL bf n 0 180 (nbL bf n 1 60 (nbL bf n 0 999 (nbL bf n 0 999 (nbL bf n 0 10 (nbL bf n 0 10 (nbL bf n 1 999999 (.ok (spc bf n q, [])))))))))) hRK) yk_X8_takeWord E km_X8_103 dX8_readCredit_177 hG (hE.S hS hD.efa) hP (At.recv hG hP.1 rfl) rfl rfl hl.1 ⟨Nat.le_of_ble_eq_true rfl, Nat.le_of_ble_eq_true rfl⟩ ⟨Nat.le_of_ble_eq_true rfl, Nat.le_of_ble_eq_true rfl⟩ (Nat.le_of_ble_eq_true rfl) hS (fun _ h9 => h9) (fun v9 H locs hq hz9 hfr9 hS => ?_)
      obtain ⟨v_9, ps, er, ea, rfl, hP, hRK, hv_9, hb_9⟩ := hq
      refine W.cut (g := F0 m 188 ls [.int v_9, .int ((nI (22 + 11 * nc)) + 8), .ref (B 3)]) (fun K => ?_) ?_
      · refine lv_if_eq (tgt := 187) hx hb dX8_readCredit_180 (by decide) (fun c_w => ?_) (fun c_w => ?_)
        · refine lv_iconst (v := 0) hx hb dX8_readCredit_187 rfl ?_
          exact W.eq (congrArg (fun z9 => F0 m 188 ls (.int z9 :: [.int ((nI (22 + 11 * nc)) + 8), .ref (B 3)])) (show (0 : Int32) = v_9 from c_w.symm)) K
        · refine lv_iconst (v := 1) hx hb dX8_readCredit_183 rfl ?_
          refine lv_goto (tgt := 188) hx hb dX8_readCredit_184 (by decide) ?_
          exact W.eq (congrArg (fun z9 => F0 m 188 ls (.int z9 :: [.int ((nI (22 + 11 * nc)) + 8), .ref (B 3)])) (show (1 : Int32) = v_9 from (hb_9.elim (fun y9 => absurd y9.1 c_w) (fun y9 => y9.1)).symm)) K
      refine g_ist ((22 + 11 * nc) + 8) E hG hP.2.2.2.1 (ixq (nI_ad rfl rfl)) (by omega) (by decide) hS ⟨3, by decide, rfl⟩ dX8_readCredit_188 (fun H locs ho hz oq hS => ?_)
      have hP : MW G B (fm t bl (nI n) ps er ea eo ud ns ne se) bf da (upd (upd (upd (upd (upd (upd (upd (upd (upd dr (22 + 11 * nc) v_1) ((22 + 11 * nc) + 1) v_2) ((22 + 11 * nc) + 2) v_3) ((22 + 11 * nc) + 3) v_4) ((22 + 11 * nc) + 4) v_5) ((22 + 11 * nc) + 5) v_6) ((22 + 11 * nc) + 6) v_7) ((22 + 11 * nc) + 7) v_8) ((22 + 11 * nc) + 8) v_9) hi sk H := hP.setR hD ho oq
      refine lv_aload_n hx hb dX8_readCredit_189 rfl (lv_at hl 1 rfl) ?_
      refine gf_X8_20 (v := .ref (B 3)) E hG hP.1 rfl dX8_readCredit_190 ?_
      refine lv_iload_n hx hb dX8_readCredit_193 rfl (lv_at hl 0 rfl) ?_
      refine lv_bipush (v := 9) hx hb dX8_readCredit_194 rfl ?_
      refine lv_iadd hx hb dX8_readCredit_196 ?_
      refine lv_iconst (v := 0) hx hb dX8_readCredit_197 rfl ?_
      refine g_ist ((22 + 11 * nc) + 9) E hG hP.2.2.2.1 (ixq (nI_ad rfl rfl)) (by omega) (by decide) hS ⟨3, by decide, rfl⟩ dX8_readCredit_198 (fun H locs ho hz oq hS => ?_)
      have hP : MW G B (fm t bl (nI n) ps er ea eo ud ns ne se) bf da (upd (upd (upd (upd (upd (upd (upd (upd (upd (upd dr (22 + 11 * nc) v_1) ((22 + 11 * nc) + 1) v_2) ((22 + 11 * nc) + 2) v_3) ((22 + 11 * nc) + 3) v_4) ((22 + 11 * nc) + 4) v_5) ((22 + 11 * nc) + 5) v_6) ((22 + 11 * nc) + 6) v_7) ((22 + 11 * nc) + 7) v_8) ((22 + 11 * nc) + 8) v_9) ((22 + 11 * nc) + 9) 0) hi sk H := hP.setR hD ho oq
      refine lv_aload_n hx hb dX8_readCredit_199 rfl (lv_at hl 1 rfl) ?_
      refine gf_X8_20 (v := .ref (B 3)) E hG hP.1 rfl dX8_readCredit_200 ?_
      refine lv_iload_n hx hb dX8_readCredit_203 rfl (lv_at hl 0 rfl) ?_
      refine lv_bipush (v := 10) hx hb dX8_readCredit_204 rfl ?_
      refine lv_iadd hx hb dX8_readCredit_206 ?_
      refine lv_iconst (v := (-1)) hx hb dX8_readCredit_207 rfl ?_
      refine g_ist ((22 + 11 * nc) + 10) E hG hP.2.2.2.1 (ixq (nI_ad rfl rfl)) (by omega) (by decide) hS ⟨3, by decide, rfl⟩ dX8_readCredit_208 (fun H locs ho hz oq hS => ?_)
      have hP : MW G B (fm t bl (nI n) ps er ea eo ud ns ne se) bf da (upd (upd (upd (upd (upd (upd (upd (upd (upd (upd (upd dr (22 + 11 * nc) v_1) ((22 + 11 * nc) + 1) v_2) ((22 + 11 * nc) + 2) v_3) ((22 + 11 * nc) + 3) v_4) ((22 + 11 * nc) + 4) v_5) ((22 + 11 * nc) + 5) v_6) ((22 + 11 * nc) + 6) v_7) ((22 + 11 * nc) + 7) v_8) ((22 + 11 * nc) + 8) v_9) ((22 + 11 * nc) + 9) 0) ((22 + 11 * nc) + 10) (-1)) hi sk H := hP.setR hD ho oq
      refine lv_aload_n hx hb dX8_readCredit_209 rfl (lv_at hl 1 rfl) ?_
      refine va_ldcS hx hb E.2.2.2.1 (hG.2.2.2.2.2.1 (RX8, 134, "needs", 24) (by decide +kernel)) dX8_readCredit_210 ?_
      refine Wr.callV (rest := []) (c_X8_takeWord_u l G hD n hn9 (isT_r (i := 4) (by decide)) (txt_A (i := 4) (by decide)).1 (txt_A (i := 4) (by decide)).2 (txt_L (i := 4) (by decide)) (wdL bf n (txt 3) (wdL bf n (txt 2) (nbL bf n 0 180 (nbL bf n 1 60 (nbL bf n 0 999 (nbL bf n 0 999 (nbL bf n 0 10 (nbL bf n 0 10 (nbL bf n 1 999999 (.ok (spc bf n q, []))))))))))) hRK) yk_X8_takeWord E km_X8_103 dX8_readCredit_212 hG (hE.S hS hD.efa) hP (At.recv hG hP.1 rfl) rfl rfl hl.1 ⟨Nat.le_of_ble_eq_true rfl, Nat.le_of_ble_eq_true rfl⟩ ⟨Nat.le_of_ble_eq_true rfl, Nat.le_of_ble_eq_true rfl⟩ (Nat.le_of_ble_eq_true rfl) hS (fun _ h9 => h9) (fun v9 H locs hq hz9 hfr9 hS => ?_)
      obtain ⟨v_10, ps, er, ea, rfl, hP, hRK, hv_10, hb_10⟩ := hq
      have hP : MW G B (fm t bl (nI n) ps er ea eo ud ns ne se) bf da (ch9 dr (22 + 11 * nc) v_1 v_2 v_3 v_4 v_5 v_6 v_7 v_8 v_9) hi sk H := hP
      have h10 : (ch9 dr (22 + 11 * nc) v_1 v_2 v_3 v_4 v_5 v_6 v_7 v_8 v_9) 0 = nI nc := (ch9_0 (by omega)).trans h0
      have hL : ∀ s9 L9, (wdL bf n (txt 3) (wdL bf n (txt 2) (nbL bf n 0 180 (nbL bf n 1 60 (nbL bf n 0 999 (nbL bf n 0 999 (nbL bf n 0 10 (nbL bf n 0 10 (nbL bf n 1 999999 (.ok (spc bf n q, []))))))))))) = .ok (s9, L9) → L9 = [v_1, v_2, v_3, v_4, v_5, v_6, v_7, v_8, v_9] := by
        intro s9 L9 y_9
        obtain ⟨t_8, M_8, y_8, w_8⟩ := hv_9 _ _ y_9
        obtain ⟨t_7, M_7, y_7, w_7⟩ := hv_8 _ _ y_8
        obtain ⟨t_6, M_6, y_6, w_6, -, -⟩ := hv_7 _ _ y_7
        obtain ⟨t_5, M_5, y_5, w_5, -, -⟩ := hv_6 _ _ y_6
        obtain ⟨t_4, M_4, y_4, w_4, -, -⟩ := hv_5 _ _ y_5
        obtain ⟨t_3, M_3, y_3, w_3, -, -⟩ := hv_4 _ _ y_4
        obtain ⟨t_2, M_2, y_2, w_2, -, -⟩ := hv_3 _ _ y_3
        obtain ⟨t_1, M_1, y_1, w_1, -, -⟩ := hv_2 _ _ y_2
        obtain ⟨t_0, M_0, y_0, w_0, -, -⟩ := hv_1 _ _ y_1
        cases y_0
        rw [w_8, w_7, w_6, w_5, w_4, w_3, w_2, w_1, w_0]
        rfl
      rcases hb_10 with ⟨hv0, hb0⟩ | ⟨hv1, s8, L8, e8, hw8⟩
      · refine lv_if_eq (tgt := 226) hx hb dX8_readCredit_215 (by decide) (fun c_215 => ?_) (fun c_215 => ?_)
        · refine lv_aload_n hx hb dX8_readCredit_226 rfl (lv_at hl 1 rfl) ?_
          refine gf_X8_20 (v := .ref (B 3)) E hG hP.1 rfl dX8_readCredit_227 ?_
          refine lv_iconst (v := 0) hx hb dX8_readCredit_230 rfl ?_
          refine lv_dup2_11 hx hb dX8_readCredit_231 rfl rfl ?_
          refine g_ild 0 E hG hP.2.2.2.1 rfl (by omega) (by decide) dX8_readCredit_232 ?_
          refine lv_iconst (v := 1) hx hb dX8_readCredit_233 rfl ?_
          refine lv_iadd hx hb dX8_readCredit_234 ?_
          refine lv_ci (y := nI (nc + 1)) (by rw [h10, nI_1]) ?_
          have ef : (cdF bf n (spc bf n q)) = wdL bf n (txt 4) (wdL bf n (txt 3) (wdL bf n (txt 2) (nbL bf n 0 180 (nbL bf n 1 60 (nbL bf n 0 999 (nbL bf n 0 999 (nbL bf n 0 10 (nbL bf n 0 10 (nbL bf n 1 999999 (.ok (spc bf n q, []))))))))))) := ndL_no hb0
          refine g_ist 0 E hG hP.2.2.2.1 rfl (by omega) (by decide) hS ⟨3, by decide, rfl⟩ dX8_readCredit_235 (fun H locs ho hz oq hS => ?_)
          have hP : MW G B (fm t bl (nI n) ps er ea eo ud ns ne se) bf da (upd (ch9 dr (22 + 11 * nc) v_1 v_2 v_3 v_4 v_5 v_6 v_7 v_8 v_9) 0 (nI (nc + 1))) hi sk H := hP.setR hD ho oq
          exact wr_void E hr hk hS (by decide) (by decide) (⟨rfl, _, _, _, _, _, hP, by rw [ef]; exact hRK, fun s9 L9 z9 => by rw [ef] at z9; obtain ⟨s8, L8, z8, rfl⟩ := hv_10 _ _ z9; rw [hL _ _ z8, hv0]; exact crD_0⟩) dX8_readCredit_236
        · exact (by rw [hv0] at c_215; exact absurd c_215 (by decide))
      · refine lv_if_eq (tgt := 226) hx hb dX8_readCredit_215 (by decide) (fun c_215 => ?_) (fun c_215 => ?_)
        · exact (by rw [hv1] at c_215; exact absurd c_215 (by decide))
        have h9 : pl (wdL bf n (txt 4) (wdL bf n (txt 3) (wdL bf n (txt 2) (nbL bf n 0 180 (nbL bf n 1 60 (nbL bf n 0 999 (nbL bf n 0 999 (nbL bf n 0 10 (nbL bf n 0 10 (nbL bf n 1 999999 (.ok (spc bf n q, [])))))))))))) = .ok (spc bf n (s8 + (txt 4).length)) := by rw [e8, wdL_ok hw8]; rfl
        rw [h9] at hRK
        obtain ⟨her, hea, q2, hps, hq2, hs2⟩ := hRK
        subst her hea hps
        refine lv_aload_n hx hb dX8_readCredit_218 rfl (lv_at hl 1 rfl) ?_
        refine lv_iload_n hx hb dX8_readCredit_219 rfl (lv_at hl 0 rfl) ?_
        refine lv_bipush (v := 9) hx hb dX8_readCredit_220 rfl ?_
        refine lv_iadd hx hb dX8_readCredit_222 ?_
        refine Wr.callV (rest := []) (c_X8_readNeeds l G hD n q2 hn9 hq2 hB _ (22 + 11 * nc + 9) (nI_ad rfl rfl) (by omega)) yk_X8_readNeeds E km_X8_136 dX8_readCredit_223 hG (hE.S hS hD.efa) hP (At.recv hG hP.1 rfl) rfl rfl hl.1 ⟨Nat.le_of_ble_eq_true rfl, Nat.le_of_ble_eq_true rfl⟩ ⟨Nat.le_of_ble_eq_true rfl, Nat.le_of_ble_eq_true rfl⟩ (Nat.le_of_ble_eq_true rfl) hS (fun _ h9 => h9) (fun v9 H locs hq hz9 hfr9 hS => ?_)
        obtain ⟨rfl, ps, er, ea, ns, dr1, hP, hRK, hdr⟩ := hq
        refine lv_aload_n hx hb dX8_readCredit_226 rfl (lv_at hl 1 rfl) ?_
        refine gf_X8_20 (v := .ref (B 3)) E hG hP.1 rfl dX8_readCredit_227 ?_
        refine lv_iconst (v := 0) hx hb dX8_readCredit_230 rfl ?_
        refine lv_dup2_11 hx hb dX8_readCredit_231 rfl rfl ?_
        refine g_ild 0 E hG hP.2.2.2.1 rfl (by omega) (by decide) dX8_readCredit_232 ?_
        refine lv_iconst (v := 1) hx hb dX8_readCredit_233 rfl ?_
        refine lv_iadd hx hb dX8_readCredit_234 ?_
        rw [ch9_9, hs2] at hRK hdr
        rcases hnd : ndF bf n (n + 1) (spc bf n (s8 + (txt 4).length)) 0 with ⟨c7, o7⟩ | ⟨s7, v7⟩
        · have ef : (cdF bf n (spc bf n q)) = .error (c7, o7) := by show ndL bf n (wdL bf n (txt 3) (wdL bf n (txt 2) (nbL bf n 0 180 (nbL bf n 1 60 (nbL bf n 0 999 (nbL bf n 0 999 (nbL bf n 0 10 (nbL bf n 0 10 (nbL bf n 1 999999 (.ok (spc bf n q, []))))))))))) = _; rw [e8]; exact ndL_er hw8 hnd
          rw [hnd] at hRK
          refine g_ist 0 E hG hP.2.2.2.1 rfl (by omega) (by decide) hS ⟨3, by decide, rfl⟩ dX8_readCredit_235 (fun H locs ho hz oq hS => ?_)
          have hP : MW G B (fm t bl (nI n) ps er ea eo ud ns ne se) bf da (upd dr1 0 ((dr1 0) + 1)) hi sk H := hP.setR hD ho oq
          exact wr_void E hr hk hS (by decide) (by decide) (⟨rfl, _, _, _, _, _, hP, by rw [ef]; exact hRK, fun s9 L9 z9 => by rw [ef] at z9; cases z9⟩) dX8_readCredit_236
        · have ef : (cdF bf n (spc bf n q)) = .ok (s7, L8 ++ [v7]) := by show ndL bf n (wdL bf n (txt 3) (wdL bf n (txt 2) (nbL bf n 0 180 (nbL bf n 1 60 (nbL bf n 0 999 (nbL bf n 0 999 (nbL bf n 0 10 (nbL bf n 0 10 (nbL bf n 1 999999 (.ok (spc bf n q, []))))))))))) = _; rw [e8]; exact ndL_ok hw8 hnd
          rw [hnd] at hRK
          have e7 := hdr _ _ hnd
          refine lv_ci (y := nI (nc + 1)) (by rw [e7, pk_un (by omega), h10, nI_1]) ?_
          refine g_ist 0 E hG hP.2.2.2.1 rfl (by omega) (by decide) hS ⟨3, by decide, rfl⟩ dX8_readCredit_235 (fun H locs ho hz oq hS => ?_)
          have hP : MW G B (fm t bl (nI n) ps er ea eo ud ns ne se) bf da (upd dr1 0 (nI (nc + 1))) hi sk H := hP.setR hD ho oq
          exact wr_void E hr hk hS (by decide) (by decide) (⟨rfl, _, _, _, _, _, hP, by rw [ef]; exact hRK, fun s9 L9 z9 => by rw [ef] at z9; cases z9; rw [hL _ _ e8, e7]; exact crD_1⟩) dX8_readCredit_236
    · exact absurd c_22 (by decide)
  · exact absurd ((nEQ (x := dr 0) (y := 12) (a := nc) (b := 12) h0 rfl (by omega) (by omega)).mp c_8) (by omega)
