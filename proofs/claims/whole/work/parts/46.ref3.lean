/-! READING: the reference's reader of fee rules -/
set_option maxHeartbeats 4000000 in
set_option maxRecDepth 100000 in
/-- factor, behind an error -/
theorem c_X8_factor_b (l : Launch) (G : CG) {B : Nat → Nat} {t bl tl ps er ea eo ud ns ne se : Int32} {bf da dr : Nat → Int32} {hi : Nat → Nat → Int32} {sk : Nat → Int64} (hD : MD G B) (he9 : ¬ er = 0) : Wr l yX8_factor cX8_factor 4 ((Option.none : Option FieldType)) 1 20 0 0 G [.ref (B 0)] (MW G B (fm t bl tl ps er ea eo ud ns ne se) bf da dr hi sk) (MA B) (fun v9 H9 => v9 = none ∧ MW G B (fm t bl tl ps er ea eo ud ns ne se) bf da dr hi sk H9) := by
  refine Wr.ofW (by decide) (Nat.le_of_ble_eq_true rfl) (fun p e s m below meth c ls E hG hE hP hr hk hin hl => ?_)
  have hS : va_S (MA B) s.heap s.heap [] := va_S.rf
  have hx := E.1
  have hb := E.2.1
  have hl : lv_has ls 4 [(0, .ref (B 0))] := hl
  refine lv_aload_n hx hb dX8_factor_0 rfl (lv_at hl 0 rfl) ?_
  refine Rd.callV (rest := []) (c_X8_isGood l G) yk_X8_isGood E km_X8_58 dX8_factor_1 hG (hE.S hS hD.efa) hP (At.recv hG hP.1 rfl) rfl rfl hl.1 ⟨Nat.le_of_ble_eq_true rfl, Nat.le_of_ble_eq_true rfl⟩ ⟨Nat.zero_le _, Nat.zero_le _⟩ (Nat.le_of_ble_eq_true rfl) ?_
  refine lv_ci (y := 0) (if_neg he9) ?_
  refine lv_if_ne (tgt := 8) hx hb dX8_factor_4 (by decide) (fun c_4 => ?_) (fun c_4 => ?_)
  · exact absurd c_4 (by decide)
  · exact wr_void E hr hk hS (by decide) (by decide) (⟨rfl, hP⟩) dX8_factor_7

set_option maxHeartbeats 4000000 in
set_option maxRecDepth 100000 in
/-- term, behind an error -/
theorem c_X8_term_b (l : Launch) (G : CG) {B : Nat → Nat} {t bl tl ps er ea eo ud ns ne se : Int32} {bf da dr : Nat → Int32} {hi : Nat → Nat → Int32} {sk : Nat → Int64} (hD : MD G B) (he9 : ¬ er = 0) : Wr l yX8_term cX8_term 2 ((Option.none : Option FieldType)) 2 43 0 0 G [.ref (B 0)] (MW G B (fm t bl tl ps er ea eo ud ns ne se) bf da dr hi sk) (MA B) (fun v9 H9 => v9 = none ∧ MW G B (fm t bl tl ps er ea eo ud ns ne se) bf da dr hi sk H9) := by
  refine Wr.ofW (by decide) (Nat.le_of_ble_eq_true rfl) (fun p e s m below meth c ls E hG hE hP hr hk hin hl => ?_)
  have hS : va_S (MA B) s.heap s.heap [] := va_S.rf
  have hx := E.1
  have hb := E.2.1
  have hl : lv_has ls 2 [(0, .ref (B 0))] := hl
  refine lv_aload_n hx hb dX8_term_0 rfl (lv_at hl 0 rfl) ?_
  refine Wr.callV (rest := []) (c_X8_factor_b l G hD he9) yk_X8_factor E km_X8_117 dX8_term_1 hG (hE.S hS hD.efa) hP (At.recv hG hP.1 rfl) rfl rfl hl.1 ⟨Nat.le_of_ble_eq_true rfl, Nat.le_of_ble_eq_true rfl⟩ ⟨Nat.le_of_ble_eq_true rfl, Nat.le_of_ble_eq_true rfl⟩ (Nat.le_of_ble_eq_true rfl) hS (fun _ h9 => h9) (fun v9 H locs hq hz9 hfr9 hS => ?_)
  obtain ⟨rfl, hP⟩ := hq
  refine lv_aload_n hx hb dX8_term_4 rfl (lv_at hl 0 rfl) ?_
  refine Rd.callV (rest := []) (c_X8_isGood l G) yk_X8_isGood E km_X8_58 dX8_term_5 hG (hE.S hS hD.efa) hP (At.recv hG hP.1 rfl) rfl rfl hl.1 ⟨Nat.le_of_ble_eq_true rfl, Nat.le_of_ble_eq_true rfl⟩ ⟨Nat.zero_le _, Nat.zero_le _⟩ (Nat.le_of_ble_eq_true rfl) ?_
  refine lv_ci (y := 0) (if_neg he9) ?_
  refine lv_if_eq (tgt := 74) hx hb dX8_term_8 (by decide) (fun c_8 => ?_) (fun c_8 => ?_)
  · exact wr_void E hr hk hS (by decide) (by decide) (⟨rfl, hP⟩) dX8_term_74
  · exact absurd c_8 (by decide)

set_option maxHeartbeats 4000000 in
set_option maxRecDepth 100000 in
/-- sum, behind an error -/
theorem c_X8_sum_b (l : Launch) (G : CG) {B : Nat → Nat} {t bl tl ps er ea eo ud ns ne se : Int32} {bf da dr : Nat → Int32} {hi : Nat → Nat → Int32} {sk : Nat → Int64} (hD : MD G B) (he9 : ¬ er = 0) : Wr l yX8_sum cX8_sum 2 ((Option.none : Option FieldType)) 3 64 0 0 G [.ref (B 0)] (MW G B (fm t bl tl ps er ea eo ud ns ne se) bf da dr hi sk) (MA B) (fun v9 H9 => v9 = none ∧ MW G B (fm t bl tl ps er ea eo ud ns ne se) bf da dr hi sk H9) := by
  refine Wr.ofW (by decide) (Nat.le_of_ble_eq_true rfl) (fun p e s m below meth c ls E hG hE hP hr hk hin hl => ?_)
  have hS : va_S (MA B) s.heap s.heap [] := va_S.rf
  have hx := E.1
  have hb := E.2.1
  have hl : lv_has ls 2 [(0, .ref (B 0))] := hl
  refine lv_aload_n hx hb dX8_sum_0 rfl (lv_at hl 0 rfl) ?_
  refine Wr.callV (rest := []) (c_X8_term_b l G hD he9) yk_X8_term E km_X8_120 dX8_sum_1 hG (hE.S hS hD.efa) hP (At.recv hG hP.1 rfl) rfl rfl hl.1 ⟨Nat.le_of_ble_eq_true rfl, Nat.le_of_ble_eq_true rfl⟩ ⟨Nat.le_of_ble_eq_true rfl, Nat.le_of_ble_eq_true rfl⟩ (Nat.le_of_ble_eq_true rfl) hS (fun _ h9 => h9) (fun v9 H locs hq hz9 hfr9 hS => ?_)
  obtain ⟨rfl, hP⟩ := hq
  refine lv_aload_n hx hb dX8_sum_4 rfl (lv_at hl 0 rfl) ?_
  refine Rd.callV (rest := []) (c_X8_isGood l G) yk_X8_isGood E km_X8_58 dX8_sum_5 hG (hE.S hS hD.efa) hP (At.recv hG hP.1 rfl) rfl rfl hl.1 ⟨Nat.le_of_ble_eq_true rfl, Nat.le_of_ble_eq_true rfl⟩ ⟨Nat.zero_le _, Nat.zero_le _⟩ (Nat.le_of_ble_eq_true rfl) ?_
  refine lv_ci (y := 0) (if_neg he9) ?_
  refine lv_if_eq (tgt := 74) hx hb dX8_sum_8 (by decide) (fun c_8 => ?_) (fun c_8 => ?_)
  · exact wr_void E hr hk hS (by decide) (by decide) (⟨rfl, hP⟩) dX8_sum_74
  · exact absurd c_8 (by decide)

set_option maxHeartbeats 4000000 in
set_option maxRecDepth 100000 in
/-- term -/
theorem c_X8_term (l : Launch) (G : CG) {B : Nat → Nat} {t bl eo ud ns ne se : Int32} {bf da : Nat → Int32} {hi : Nat → Nat → Int32} {sk : Nat → Int64} (hD : MD G B) (n q : Nat) (hn9 : n ≤ 900) (hq9 : q ≤ n) (hB : ByO bf) {d0 : Nat → Int32} (C : List Int32) (hC : 2 * C.length ≤ 3 * spc bf n q) {fac : Nat → Rr} {w : Nat} (hGd : Gd n fac w) {fr lo : Nat} (hfr : 4 ≤ fr) (hlo : 86 ≤ lo) (hF : ∀ (q : Nat) (ns : Int32) (C : List Int32), q ≤ n → 2 * C.length ≤ 3 * spc bf n q → Wr l yX8_factor cX8_factor 4 ((Option.none : Option FieldType)) fr lo 0 0 G [.ref (B 0)] (MW G B (fm t bl (nI n) (nI q) 0 (-1) eo ud ns ne se) bf da (emC d0 C) hi sk) (MA B) (fun v9 H9 => v9 = none ∧ ∃ ps er ea ns dr1, MW G B (fm t bl (nI n) ps er ea eo ud ns ne se) bf da dr1 hi sk H9 ∧ RK bf n (pl (fac (spc bf n q))) ps er ea ∧ ∀ s9 L9, fac (spc bf n q) = .ok (s9, L9) → dr1 = emC d0 (C ++ exL L9))) : Wr l yX8_term cX8_term 2 ((Option.none : Option FieldType)) (fr + 1) (lo + 23) 0 0 G [.ref (B 0)] (MW G B (fm t bl (nI n) (nI q) 0 (-1) eo ud ns ne se) bf da (emC d0 C) hi sk) (MA B) (fun v9 H9 => v9 = none ∧ ∃ ps er ea ns dr1, MW G B (fm t bl (nI n) ps er ea eo ud ns ne se) bf da dr1 hi sk H9 ∧ RK bf n (pl (chF bf n fac 42 47 (-6) (-7) (spc bf n q))) ps er ea ∧ ∀ s9 L9, (chF bf n fac 42 47 (-6) (-7) (spc bf n q)) = .ok (s9, L9) → dr1 = emC d0 (C ++ exL L9)) := by
  refine Wr.ofW (by decide) (Nat.le_of_ble_eq_true rfl) (fun p e s m below meth c ls E hG hE hP hr hk hin hl => ?_)
  have hS : va_S (MA B) s.heap s.heap [] := va_S.rf
  have hx := E.1
  have hb := E.2.1
  have hl : lv_has ls 2 [(0, .ref (B 0))] := hl
  have hsb0 := sk_b (bf := bf) hq9
  refine lv_aload_n hx hb dX8_term_0 rfl (lv_at hl 0 rfl) ?_
  refine Wr.callV (rest := []) (hF q _ C hq9 hC) yk_X8_factor E km_X8_117 dX8_term_1 hG (hE.S hS hD.efa) hP (At.recv hG hP.1 rfl) rfl rfl hl.1 ⟨by show _ ≤ fr + 1; omega, by show _ ≤ lo + 23; omega⟩ ⟨Nat.le_of_ble_eq_true rfl, Nat.le_of_ble_eq_true rfl⟩ (Nat.le_of_ble_eq_true rfl) hS (fun _ h9 => h9) (fun v9 H locs hq hz9 hfr9 hS => ?_)
  obtain ⟨rfl, ps, er, ea, ns, dr1, hP, hRK, hdr⟩ := hq
  rcases hfa : fac (spc bf n q) with ⟨c8, o8⟩ | ⟨s8, L8⟩
  · rw [hfa] at hRK
    have he9 : ¬ er = 0 := by rw [hRK.1]; exact hRK.2.1
    refine lv_aload_n hx hb dX8_term_4 rfl (lv_at hl 0 rfl) ?_
    refine Rd.callV (rest := []) (c_X8_isGood l G) yk_X8_isGood E km_X8_58 dX8_term_5 hG (hE.S hS hD.efa) hP (At.recv hG hP.1 rfl) rfl rfl hl.1 ⟨by show _ ≤ fr + 1; omega, by show _ ≤ lo + 23; omega⟩ ⟨Nat.zero_le _, Nat.zero_le _⟩ (Nat.le_of_ble_eq_true rfl) ?_
    refine lv_ci (y := 0) (if_neg he9) ?_
    refine lv_if_eq (tgt := 74) hx hb dX8_term_8 (by decide) (fun c_8 => ?_) (fun c_8 => ?_)
    · exact wr_void E hr hk hS (by decide) (by decide) (⟨rfl, _, _, _, _, _, hP, by rw [chF_e hfa]; exact hRK, fun s9 L9 z => by rw [chF_e hfa] at z; cases z⟩) dX8_term_74
    · exact absurd c_8 (by decide)
  · rw [hfa] at hRK
    obtain ⟨her, hea, q2, hps, hq2, hs2⟩ := hRK
    have hdr := hdr _ _ hfa
    subst her hea hps hs2 hdr
    have g0 := hGd _ _ _ hsb0.2 hfa
    have loop : ∀ (j q1 : Nat) (ns : Int32) (L : List Int32), n < spc bf n q1 + j → q1 ≤ n → lpF bf n fac 42 47 (-6) (-7) j (spc bf n q1) L = (chF bf n fac 42 47 (-6) (-7) (spc bf n q)) → 2 * (C ++ exL L).length ≤ 3 * spc bf n q1 + 1 → ∀ (H : Heap) (locs : List Loc), MW G B (fm t bl (nI n) (nI q1) 0 (-1) eo ud ns ne se) bf da (emC d0 (C ++ exL L)) hi sk H → va_S (MA B) s.heap H locs → ∀ ls : Array Slot, lv_has ls 2 [(0, .ref (B 0))] → W p l e { frames := (fr + 1), cells := 0, slots := 0, locals := (lo + 23) } s m ([.ref (B 0)] : List Value).toArray below meth c H locs 0 0 (WQ below ([.ref (B 0)] : List Value).toArray s 0 0 (MA B) (fun v9 H9 => v9 = none ∧ ∃ ps er ea ns dr1, MW G B (fm t bl (nI n) ps er ea eo ud ns ne se) bf da dr1 hi sk H9 ∧ RK bf n (pl (chF bf n fac 42 47 (-6) (-7) (spc bf n q))) ps er ea ∧ ∀ s9 L9, (chF bf n fac 42 47 (-6) (-7) (spc bf n q)) = .ok (s9, L9) → dr1 = emC d0 (C ++ exL L9))) (F0 m 4 ls []) := by
      intro j
      induction j with
      | zero => intro q1 ns L z1 z2; have := sk_b (bf := bf) z2; omega
      | succ j ih =>
        intro q1 ns L z1 hqq z3 z4 H locs hP hS ls hl
        have hsb := sk_b (bf := bf) hqq
        refine lv_aload_n hx hb dX8_term_4 rfl (lv_at hl 0 rfl) ?_
        refine Rd.callV (rest := []) (c_X8_isGood l G) yk_X8_isGood E km_X8_58 dX8_term_5 hG (hE.S hS hD.efa) hP (At.recv hG hP.1 rfl) rfl rfl hl.1 ⟨by show _ ≤ fr + 1; omega, by show _ ≤ lo + 23; omega⟩ ⟨Nat.zero_le _, Nat.zero_le _⟩ (Nat.le_of_ble_eq_true rfl) ?_
        refine lv_ci (y := 1) (if_pos rfl) ?_
        refine lv_if_eq (tgt := 74) hx hb dX8_term_8 (by decide) (fun c_8 => ?_) (fun c_8 => ?_)
        · exact absurd c_8 (by decide)
        refine lv_aload_n hx hb dX8_term_11 rfl (lv_at hl 0 rfl) ?_
        refine Wr.callV (rest := []) (c_X8_next l G hD n q1 hn9 (by omega)) yk_X8_next E km_X8_62 dX8_term_12 hG (hE.S hS hD.efa) hP (At.recv hG hP.1 rfl) rfl rfl hl.1 ⟨by show _ ≤ fr + 1; omega, by show _ ≤ lo + 23; omega⟩ ⟨Nat.le_of_ble_eq_true rfl, Nat.le_of_ble_eq_true rfl⟩ (Nat.le_of_ble_eq_true rfl) hS (fun _ h9 => h9) (fun v9 H locs hq hz9 hfr9 hS => ?_)
        obtain ⟨rfl, hP⟩ := hq
        refine lv_bipush (v := 42) hx hb dX8_term_15 rfl ?_
        refine lv_icmp_eq (tgt := 29) hx hb dX8_term_17 (by decide) (fun c_17 => ?_) (fun c_17 => ?_)
        · refine lv_aload_n hx hb dX8_term_29 rfl (lv_at hl 0 rfl) ?_
          refine Wr.callV (rest := []) (c_X8_next_i l G hD n q1 hn9 (by omega)) yk_X8_next E km_X8_62 dX8_term_30 hG (hE.S hS hD.efa) hP (At.recv hG hP.1 rfl) rfl rfl hl.1 ⟨by show _ ≤ fr + 1; omega, by show _ ≤ lo + 23; omega⟩ ⟨Nat.le_of_ble_eq_true rfl, Nat.le_of_ble_eq_true rfl⟩ (Nat.le_of_ble_eq_true rfl) hS (fun _ h9 => h9) (fun v9 H locs hq hz9 hfr9 hS => ?_)
          obtain ⟨rfl, hP⟩ := hq
          refine lv_bipush (v := 42) hx hb dX8_term_33 rfl ?_
          refine lv_icmp_ne (tgt := 42) hx hb dX8_term_35 (by decide) (fun c_35 => ?_) (fun c_35 => ?_)
          · exact (by rw [c_17] at c_35; exact absurd c_35 (by decide))
          refine lv_iconst (v := 1) hx hb dX8_term_38 rfl ?_
          refine lv_goto (tgt := 43) hx hb dX8_term_39 (by decide) ?_
          have hq3 := bt_lt c_17 (by decide)
          refine lv_istore_n (lv' := [(1, .int 1), (0, .ref (B 0))]) hx hb dX8_term_43 rfl hl (by decide) rfl (fun ls hl => ?_)
          refine lv_aload_n hx hb dX8_term_44 rfl (lv_at hl 1 rfl) ?_
          refine lv_dup hx hb dX8_term_45 rfl ?_
          refine gf_X8_41 (v := .int (nI (spc bf n q1))) E hG hP.1 rfl dX8_term_46 ?_
          refine lv_iconst (v := 1) hx hb dX8_term_49 rfl ?_
          refine lv_iadd hx hb dX8_term_50 ?_
          refine lv_ci (y := nI (spc bf n q1 + 1)) (ixq (nI_ad rfl rfl)) ?_
          have hsb3 := sk_b (bf := bf) (n := n) (q := spc bf n q1 + 1) (by omega)
          refine pf_X8_41 E hG hP.1 (Nat.le_of_ble_eq_true rfl) rfl rfl hS ⟨0, by decide, rfl⟩ dX8_term_51 (fun H locs ho hz oq hS => ?_)
          have hP : MW G B (fm t bl (nI n) (nI (spc bf n q1 + 1)) 0 (-1) eo ud ns ne se) bf da (emC d0 (C ++ exL L)) hi sk H := hP.setO hD ho oq
          refine lv_aload_n hx hb dX8_term_54 rfl (lv_at hl 1 rfl) ?_
          refine Wr.callV (rest := []) (hF (spc bf n q1 + 1) _ (C ++ exL L) (by omega) (by omega)) yk_X8_factor E km_X8_117 dX8_term_55 hG (hE.S hS hD.efa) hP (At.recv hG hP.1 rfl) rfl rfl hl.1 ⟨by show _ ≤ fr + 1; omega, by show _ ≤ lo + 23; omega⟩ ⟨Nat.le_of_ble_eq_true rfl, Nat.le_of_ble_eq_true rfl⟩ (Nat.le_of_ble_eq_true rfl) hS (fun _ h9 => h9) (fun v9 H locs hq hz9 hfr9 hS => ?_)
          obtain ⟨rfl, ps, er, ea, ns, dr1, hP, hRK, hdr⟩ := hq
          rcases hfa : fac (spc bf n (spc bf n q1 + 1)) with ⟨c8, o8⟩ | ⟨s8, L8⟩
          · rw [hfa] at hRK
            have he9 : ¬ er = 0 := by rw [hRK.1]; exact hRK.2.1
            refine lv_aload_n hx hb dX8_term_58 rfl (lv_at hl 1 rfl) ?_
            refine lv_iload_n hx hb dX8_term_59 rfl (lv_at hl 0 rfl) ?_
            refine lv_if_eq (tgt := 67) hx hb dX8_term_60 (by decide) (fun c_60 => ?_) (fun c_60 => ?_)
            · exact absurd c_60 (by decide)
            · refine lv_iconst (v := 4) hx hb dX8_term_63 rfl ?_
              refine lv_goto (tgt := 68) hx hb dX8_term_64 (by decide) ?_
              refine Wr.callV (rest := []) (c_X8_emit_b l G hD 4 he9) yk_X8_emit E km_X8_114 dX8_term_68 hG (hE.S hS hD.efa) hP (At.recv hG hP.1 rfl) rfl rfl hl.1 ⟨by show _ ≤ fr + 1; omega, by show _ ≤ lo + 23; omega⟩ ⟨Nat.le_of_ble_eq_true rfl, Nat.le_of_ble_eq_true rfl⟩ (Nat.le_of_ble_eq_true rfl) hS (fun _ h9 => h9) (fun v9 H locs hq hz9 hfr9 hS => ?_)
              obtain ⟨rfl, hP⟩ := hq
              refine lv_goto (tgt := 4) hx hb dX8_term_71 (by decide) ?_
              refine lv_aload_n hx hb dX8_term_4 rfl (lv_at hl 1 rfl) ?_
              refine Rd.callV (rest := []) (c_X8_isGood l G) yk_X8_isGood E km_X8_58 dX8_term_5 hG (hE.S hS hD.efa) hP (At.recv hG hP.1 rfl) rfl rfl hl.1 ⟨by show _ ≤ fr + 1; omega, by show _ ≤ lo + 23; omega⟩ ⟨Nat.zero_le _, Nat.zero_le _⟩ (Nat.le_of_ble_eq_true rfl) ?_
              refine lv_ci (y := 0) (if_neg he9) ?_
              refine lv_if_eq (tgt := 74) hx hb dX8_term_8 (by decide) (fun c_8 => ?_) (fun c_8 => ?_)
              · exact wr_void E hr hk hS (by decide) (by decide) (⟨rfl, _, _, _, _, _, hP, by rw [← z3, lpF_e (Or.inl c_17) hfa]; exact hRK, fun s9 L9 z => by rw [← z3, lpF_e (Or.inl c_17) hfa] at z; cases z⟩) dX8_term_74
              · exact absurd c_8 (by decide)
          · rw [hfa] at hRK
            obtain ⟨her, hea, q2, hps, hq2, hs2⟩ := hRK
            have hdr := hdr _ _ hfa
            subst her hea hps hs2 hdr
            have g1 := hGd _ _ _ hsb3.2 hfa
            have hlen : 2 * (C ++ exL L ++ exL L8).length ≤ 3 * spc bf n q2 - 1 := by rw [List.length_append]; have := g1.2.2.1; have := g1.1; have := g1.2.1; omega
            have hsq := sk_b (bf := bf) hq2
            refine lv_aload_n hx hb dX8_term_58 rfl (lv_at hl 1 rfl) ?_
            refine lv_iload_n hx hb dX8_term_59 rfl (lv_at hl 0 rfl) ?_
            refine lv_if_eq (tgt := 67) hx hb dX8_term_60 (by decide) (fun c_60 => ?_) (fun c_60 => ?_)
            · exact absurd c_60 (by decide)
            refine lv_iconst (v := 4) hx hb dX8_term_63 rfl ?_
            refine lv_goto (tgt := 68) hx hb dX8_term_64 (by decide) ?_
            refine Wr.callV (rest := []) (c_X8_emit l G hD ((C ++ exL L) ++ exL L8).length (emC_5 d0 ((C ++ exL L) ++ exL L8)) (by have := g1.2.1; omega) 4) yk_X8_emit E km_X8_114 dX8_term_68 hG (hE.S hS hD.efa) hP (At.recv hG hP.1 rfl) rfl rfl hl.1 ⟨by show _ ≤ fr + 1; omega, by show _ ≤ lo + 23; omega⟩ ⟨Nat.le_of_ble_eq_true rfl, Nat.le_of_ble_eq_true rfl⟩ (Nat.le_of_ble_eq_true rfl) hS (fun _ h9 => h9) (fun v9 H locs hq hz9 hfr9 hS => ?_)
            obtain ⟨rfl, hP⟩ := hq
            have hP : MW G B (fm t bl (nI n) (nI q2) 0 (-1) eo ud ns ne se) bf da (emC d0 (((C ++ exL L) ++ exL L8) ++ [4])) hi sk H := by rw [← emC_snoc]; exact hP
            refine lv_goto (tgt := 4) hx hb dX8_term_71 (by decide) ?_
            have eC : C ++ exL L ++ exL L8 ++ [4] = C ++ exL (L ++ L8 ++ [(-6)]) := by rw [exL_app, exL_app, exL_1, show exS (-6) = [4] by decide]; simp only [List.append_assoc]
            rw [eC] at hP
            exact ih q2 _ (L ++ L8 ++ [(-6)]) (by have := g1.1; omega) hq2 (by rw [← z3, lpF_1 c_17 hfa]) (by rw [← eC, List.length_append, List.length_singleton]; have := g1.1; omega) _ _ hP hS ls (lv_sub hl [1] rfl)
        · refine lv_aload_n hx hb dX8_term_20 rfl (lv_at hl 0 rfl) ?_
          refine Wr.callV (rest := []) (c_X8_next_i l G hD n q1 hn9 (by omega)) yk_X8_next E km_X8_62 dX8_term_21 hG (hE.S hS hD.efa) hP (At.recv hG hP.1 rfl) rfl rfl hl.1 ⟨by show _ ≤ fr + 1; omega, by show _ ≤ lo + 23; omega⟩ ⟨Nat.le_of_ble_eq_true rfl, Nat.le_of_ble_eq_true rfl⟩ (Nat.le_of_ble_eq_true rfl) hS (fun _ h9 => h9) (fun v9 H locs hq hz9 hfr9 hS => ?_)
          obtain ⟨rfl, hP⟩ := hq
          refine lv_bipush (v := 47) hx hb dX8_term_24 rfl ?_
          refine lv_icmp_ne (tgt := 74) hx hb dX8_term_26 (by decide) (fun c_26 => ?_) (fun c_26 => ?_)
          · exact wr_void E hr hk hS (by decide) (by decide) (⟨rfl, _, _, _, _, _, hP, by rw [← z3, lpF_n (fun z9 => z9.elim c_17 c_26)]; exact ⟨rfl, rfl, _, rfl, hsb.2, sk_ii bf n q1⟩, fun s9 L9 z => by rw [← z3, lpF_n (fun z9 => z9.elim c_17 c_26)] at z; cases z; rfl⟩) dX8_term_74
          · refine lv_aload_n hx hb dX8_term_29 rfl (lv_at hl 0 rfl) ?_
            refine Wr.callV (rest := []) (c_X8_next_i l G hD n q1 hn9 (by omega)) yk_X8_next E km_X8_62 dX8_term_30 hG (hE.S hS hD.efa) hP (At.recv hG hP.1 rfl) rfl rfl hl.1 ⟨by show _ ≤ fr + 1; omega, by show _ ≤ lo + 23; omega⟩ ⟨Nat.le_of_ble_eq_true rfl, Nat.le_of_ble_eq_true rfl⟩ (Nat.le_of_ble_eq_true rfl) hS (fun _ h9 => h9) (fun v9 H locs hq hz9 hfr9 hS => ?_)
            obtain ⟨rfl, hP⟩ := hq
            refine lv_bipush (v := 42) hx hb dX8_term_33 rfl ?_
            refine lv_icmp_ne (tgt := 42) hx hb dX8_term_35 (by decide) (fun c_35 => ?_) (fun c_35 => ?_)
            rotate_left
            · exact absurd c_35 c_17
            refine lv_iconst (v := 0) hx hb dX8_term_42 rfl ?_
            have hq3 := bt_lt c_26 (by decide)
            refine lv_istore_n (lv' := [(1, .int 0), (0, .ref (B 0))]) hx hb dX8_term_43 rfl hl (by decide) rfl (fun ls hl => ?_)
            refine lv_aload_n hx hb dX8_term_44 rfl (lv_at hl 1 rfl) ?_
            refine lv_dup hx hb dX8_term_45 rfl ?_
            refine gf_X8_41 (v := .int (nI (spc bf n q1))) E hG hP.1 rfl dX8_term_46 ?_
            refine lv_iconst (v := 1) hx hb dX8_term_49 rfl ?_
            refine lv_iadd hx hb dX8_term_50 ?_
            refine lv_ci (y := nI (spc bf n q1 + 1)) (ixq (nI_ad rfl rfl)) ?_
            have hsb3 := sk_b (bf := bf) (n := n) (q := spc bf n q1 + 1) (by omega)
            refine pf_X8_41 E hG hP.1 (Nat.le_of_ble_eq_true rfl) rfl rfl hS ⟨0, by decide, rfl⟩ dX8_term_51 (fun H locs ho hz oq hS => ?_)
            have hP : MW G B (fm t bl (nI n) (nI (spc bf n q1 + 1)) 0 (-1) eo ud ns ne se) bf da (emC d0 (C ++ exL L)) hi sk H := hP.setO hD ho oq
            refine lv_aload_n hx hb dX8_term_54 rfl (lv_at hl 1 rfl) ?_
            refine Wr.callV (rest := []) (hF (spc bf n q1 + 1) _ (C ++ exL L) (by omega) (by omega)) yk_X8_factor E km_X8_117 dX8_term_55 hG (hE.S hS hD.efa) hP (At.recv hG hP.1 rfl) rfl rfl hl.1 ⟨by show _ ≤ fr + 1; omega, by show _ ≤ lo + 23; omega⟩ ⟨Nat.le_of_ble_eq_true rfl, Nat.le_of_ble_eq_true rfl⟩ (Nat.le_of_ble_eq_true rfl) hS (fun _ h9 => h9) (fun v9 H locs hq hz9 hfr9 hS => ?_)
            obtain ⟨rfl, ps, er, ea, ns, dr1, hP, hRK, hdr⟩ := hq
            rcases hfa : fac (spc bf n (spc bf n q1 + 1)) with ⟨c8, o8⟩ | ⟨s8, L8⟩
            · rw [hfa] at hRK
              have he9 : ¬ er = 0 := by rw [hRK.1]; exact hRK.2.1
              refine lv_aload_n hx hb dX8_term_58 rfl (lv_at hl 1 rfl) ?_
              refine lv_iload_n hx hb dX8_term_59 rfl (lv_at hl 0 rfl) ?_
              refine lv_if_eq (tgt := 67) hx hb dX8_term_60 (by decide) (fun c_60 => ?_) (fun c_60 => ?_)
              · refine lv_iconst (v := 5) hx hb dX8_term_67 rfl ?_
                refine Wr.callV (rest := []) (c_X8_emit_b l G hD 5 he9) yk_X8_emit E km_X8_114 dX8_term_68 hG (hE.S hS hD.efa) hP (At.recv hG hP.1 rfl) rfl rfl hl.1 ⟨by show _ ≤ fr + 1; omega, by show _ ≤ lo + 23; omega⟩ ⟨Nat.le_of_ble_eq_true rfl, Nat.le_of_ble_eq_true rfl⟩ (Nat.le_of_ble_eq_true rfl) hS (fun _ h9 => h9) (fun v9 H locs hq hz9 hfr9 hS => ?_)
                obtain ⟨rfl, hP⟩ := hq
                refine lv_goto (tgt := 4) hx hb dX8_term_71 (by decide) ?_
                refine lv_aload_n hx hb dX8_term_4 rfl (lv_at hl 1 rfl) ?_
                refine Rd.callV (rest := []) (c_X8_isGood l G) yk_X8_isGood E km_X8_58 dX8_term_5 hG (hE.S hS hD.efa) hP (At.recv hG hP.1 rfl) rfl rfl hl.1 ⟨by show _ ≤ fr + 1; omega, by show _ ≤ lo + 23; omega⟩ ⟨Nat.zero_le _, Nat.zero_le _⟩ (Nat.le_of_ble_eq_true rfl) ?_
                refine lv_ci (y := 0) (if_neg he9) ?_
                refine lv_if_eq (tgt := 74) hx hb dX8_term_8 (by decide) (fun c_8 => ?_) (fun c_8 => ?_)
                · exact wr_void E hr hk hS (by decide) (by decide) (⟨rfl, _, _, _, _, _, hP, by rw [← z3, lpF_e (Or.inr c_26) hfa]; exact hRK, fun s9 L9 z => by rw [← z3, lpF_e (Or.inr c_26) hfa] at z; cases z⟩) dX8_term_74
                · exact absurd c_8 (by decide)
              · exact absurd c_60 (by decide)
            · rw [hfa] at hRK
              obtain ⟨her, hea, q2, hps, hq2, hs2⟩ := hRK
              have hdr := hdr _ _ hfa
              subst her hea hps hs2 hdr
              have g1 := hGd _ _ _ hsb3.2 hfa
              have hlen : 2 * (C ++ exL L ++ exL L8).length ≤ 3 * spc bf n q2 - 1 := by rw [List.length_append]; have := g1.2.2.1; have := g1.1; have := g1.2.1; omega
              have hsq := sk_b (bf := bf) hq2
              refine lv_aload_n hx hb dX8_term_58 rfl (lv_at hl 1 rfl) ?_
              refine lv_iload_n hx hb dX8_term_59 rfl (lv_at hl 0 rfl) ?_
              refine lv_if_eq (tgt := 67) hx hb dX8_term_60 (by decide) (fun c_60 => ?_) (fun c_60 => ?_)
              rotate_left
              · exact absurd c_60 (by decide)
              refine lv_iconst (v := 5) hx hb dX8_term_67 rfl ?_
              refine Wr.callV (rest := []) (c_X8_emit l G hD ((C ++ exL L) ++ exL L8).length (emC_5 d0 ((C ++ exL L) ++ exL L8)) (by have := g1.2.1; omega) 5) yk_X8_emit E km_X8_114 dX8_term_68 hG (hE.S hS hD.efa) hP (At.recv hG hP.1 rfl) rfl rfl hl.1 ⟨by show _ ≤ fr + 1; omega, by show _ ≤ lo + 23; omega⟩ ⟨Nat.le_of_ble_eq_true rfl, Nat.le_of_ble_eq_true rfl⟩ (Nat.le_of_ble_eq_true rfl) hS (fun _ h9 => h9) (fun v9 H locs hq hz9 hfr9 hS => ?_)
              obtain ⟨rfl, hP⟩ := hq
              have hP : MW G B (fm t bl (nI n) (nI q2) 0 (-1) eo ud ns ne se) bf da (emC d0 (((C ++ exL L) ++ exL L8) ++ [5])) hi sk H := by rw [← emC_snoc]; exact hP
              refine lv_goto (tgt := 4) hx hb dX8_term_71 (by decide) ?_
              have eC : C ++ exL L ++ exL L8 ++ [5] = C ++ exL (L ++ L8 ++ [(-7)]) := by rw [exL_app, exL_app, exL_1, show exS (-7) = [5] by decide]; simp only [List.append_assoc]
              rw [eC] at hP
              exact ih q2 _ (L ++ L8 ++ [(-7)]) (by have := g1.1; omega) hq2 (by rw [← z3, lpF_2 c_26 (by decide) hfa]) (by rw [← eC, List.length_append, List.length_singleton]; have := g1.1; omega) _ _ hP hS ls (lv_sub hl [1] rfl)
    exact loop (n + 1) q2 _ L8 (by have := sk_b (bf := bf) hq2; omega) hq2 (by rw [chF_o hfa]) (by rw [List.length_append]; have := g0.2.2.1; have := g0.1; omega) _ _ hP hS ls (lv_sub hl [0] rfl)

set_option maxHeartbeats 4000000 in
set_option maxRecDepth 100000 in
/-- sum -/
theorem c_X8_sum (l : Launch) (G : CG) {B : Nat → Nat} {t bl eo ud ns ne se : Int32} {bf da : Nat → Int32} {hi : Nat → Nat → Int32} {sk : Nat → Int64} (hD : MD G B) (n q : Nat) (hn9 : n ≤ 900) (hq9 : q ≤ n) (hB : ByO bf) {d0 : Nat → Int32} (C : List Int32) (hC : 2 * C.length ≤ 3 * spc bf n q) {fac : Nat → Rr} {w : Nat} (hGd : Gd n (chF bf n fac 42 47 (-6) (-7)) w) {fr lo : Nat} (hfr : 4 ≤ fr) (hlo : 86 ≤ lo) (hF : ∀ (q : Nat) (ns : Int32) (C : List Int32), q ≤ n → 2 * C.length ≤ 3 * spc bf n q → Wr l yX8_term cX8_term 2 ((Option.none : Option FieldType)) fr lo 0 0 G [.ref (B 0)] (MW G B (fm t bl (nI n) (nI q) 0 (-1) eo ud ns ne se) bf da (emC d0 C) hi sk) (MA B) (fun v9 H9 => v9 = none ∧ ∃ ps er ea ns dr1, MW G B (fm t bl (nI n) ps er ea eo ud ns ne se) bf da dr1 hi sk H9 ∧ RK bf n (pl ((chF bf n fac 42 47 (-6) (-7)) (spc bf n q))) ps er ea ∧ ∀ s9 L9, (chF bf n fac 42 47 (-6) (-7)) (spc bf n q) = .ok (s9, L9) → dr1 = emC d0 (C ++ exL L9))) : Wr l yX8_sum cX8_sum 2 ((Option.none : Option FieldType)) (fr + 1) (lo + 21) 0 0 G [.ref (B 0)] (MW G B (fm t bl (nI n) (nI q) 0 (-1) eo ud ns ne se) bf da (emC d0 C) hi sk) (MA B) (fun v9 H9 => v9 = none ∧ ∃ ps er ea ns dr1, MW G B (fm t bl (nI n) ps er ea eo ud ns ne se) bf da dr1 hi sk H9 ∧ RK bf n (pl (chF bf n (chF bf n fac 42 47 (-6) (-7)) 43 45 (-4) (-5) (spc bf n q))) ps er ea ∧ ∀ s9 L9, (chF bf n (chF bf n fac 42 47 (-6) (-7)) 43 45 (-4) (-5) (spc bf n q)) = .ok (s9, L9) → dr1 = emC d0 (C ++ exL L9)) := by
  refine Wr.ofW (by decide) (Nat.le_of_ble_eq_true rfl) (fun p e s m below meth c ls E hG hE hP hr hk hin hl => ?_)
  have hS : va_S (MA B) s.heap s.heap [] := va_S.rf
  have hx := E.1
  have hb := E.2.1
  have hl : lv_has ls 2 [(0, .ref (B 0))] := hl
  have hsb0 := sk_b (bf := bf) hq9
  refine lv_aload_n hx hb dX8_sum_0 rfl (lv_at hl 0 rfl) ?_
  refine Wr.callV (rest := []) (hF q _ C hq9 hC) yk_X8_term E km_X8_120 dX8_sum_1 hG (hE.S hS hD.efa) hP (At.recv hG hP.1 rfl) rfl rfl hl.1 ⟨by show _ ≤ fr + 1; omega, by show _ ≤ lo + 21; omega⟩ ⟨Nat.le_of_ble_eq_true rfl, Nat.le_of_ble_eq_true rfl⟩ (Nat.le_of_ble_eq_true rfl) hS (fun _ h9 => h9) (fun v9 H locs hq hz9 hfr9 hS => ?_)
  obtain ⟨rfl, ps, er, ea, ns, dr1, hP, hRK, hdr⟩ := hq
  rcases hfa : (chF bf n fac 42 47 (-6) (-7)) (spc bf n q) with ⟨c8, o8⟩ | ⟨s8, L8⟩
  · rw [hfa] at hRK
    have he9 : ¬ er = 0 := by rw [hRK.1]; exact hRK.2.1
    refine lv_aload_n hx hb dX8_sum_4 rfl (lv_at hl 0 rfl) ?_
    refine Rd.callV (rest := []) (c_X8_isGood l G) yk_X8_isGood E km_X8_58 dX8_sum_5 hG (hE.S hS hD.efa) hP (At.recv hG hP.1 rfl) rfl rfl hl.1 ⟨by show _ ≤ fr + 1; omega, by show _ ≤ lo + 21; omega⟩ ⟨Nat.zero_le _, Nat.zero_le _⟩ (Nat.le_of_ble_eq_true rfl) ?_
    refine lv_ci (y := 0) (if_neg he9) ?_
    refine lv_if_eq (tgt := 74) hx hb dX8_sum_8 (by decide) (fun c_8 => ?_) (fun c_8 => ?_)
    · exact wr_void E hr hk hS (by decide) (by decide) (⟨rfl, _, _, _, _, _, hP, by rw [chF_e hfa]; exact hRK, fun s9 L9 z => by rw [chF_e hfa] at z; cases z⟩) dX8_sum_74
    · exact absurd c_8 (by decide)
  · rw [hfa] at hRK
    obtain ⟨her, hea, q2, hps, hq2, hs2⟩ := hRK
    have hdr := hdr _ _ hfa
    subst her hea hps hs2 hdr
    have g0 := hGd _ _ _ hsb0.2 hfa
    have loop : ∀ (j q1 : Nat) (ns : Int32) (L : List Int32), n < spc bf n q1 + j → q1 ≤ n → lpF bf n (chF bf n fac 42 47 (-6) (-7)) 43 45 (-4) (-5) j (spc bf n q1) L = (chF bf n (chF bf n fac 42 47 (-6) (-7)) 43 45 (-4) (-5) (spc bf n q)) → 2 * (C ++ exL L).length ≤ 3 * spc bf n q1 + 1 → ∀ (H : Heap) (locs : List Loc), MW G B (fm t bl (nI n) (nI q1) 0 (-1) eo ud ns ne se) bf da (emC d0 (C ++ exL L)) hi sk H → va_S (MA B) s.heap H locs → ∀ ls : Array Slot, lv_has ls 2 [(0, .ref (B 0))] → W p l e { frames := (fr + 1), cells := 0, slots := 0, locals := (lo + 21) } s m ([.ref (B 0)] : List Value).toArray below meth c H locs 0 0 (WQ below ([.ref (B 0)] : List Value).toArray s 0 0 (MA B) (fun v9 H9 => v9 = none ∧ ∃ ps er ea ns dr1, MW G B (fm t bl (nI n) ps er ea eo ud ns ne se) bf da dr1 hi sk H9 ∧ RK bf n (pl (chF bf n (chF bf n fac 42 47 (-6) (-7)) 43 45 (-4) (-5) (spc bf n q))) ps er ea ∧ ∀ s9 L9, (chF bf n (chF bf n fac 42 47 (-6) (-7)) 43 45 (-4) (-5) (spc bf n q)) = .ok (s9, L9) → dr1 = emC d0 (C ++ exL L9))) (F0 m 4 ls []) := by
      intro j
      induction j with
      | zero => intro q1 ns L z1 z2; have := sk_b (bf := bf) z2; omega
      | succ j ih =>
        intro q1 ns L z1 hqq z3 z4 H locs hP hS ls hl
        have hsb := sk_b (bf := bf) hqq
        refine lv_aload_n hx hb dX8_sum_4 rfl (lv_at hl 0 rfl) ?_
        refine Rd.callV (rest := []) (c_X8_isGood l G) yk_X8_isGood E km_X8_58 dX8_sum_5 hG (hE.S hS hD.efa) hP (At.recv hG hP.1 rfl) rfl rfl hl.1 ⟨by show _ ≤ fr + 1; omega, by show _ ≤ lo + 21; omega⟩ ⟨Nat.zero_le _, Nat.zero_le _⟩ (Nat.le_of_ble_eq_true rfl) ?_
        refine lv_ci (y := 1) (if_pos rfl) ?_
        refine lv_if_eq (tgt := 74) hx hb dX8_sum_8 (by decide) (fun c_8 => ?_) (fun c_8 => ?_)
        · exact absurd c_8 (by decide)
        refine lv_aload_n hx hb dX8_sum_11 rfl (lv_at hl 0 rfl) ?_
        refine Wr.callV (rest := []) (c_X8_next l G hD n q1 hn9 (by omega)) yk_X8_next E km_X8_62 dX8_sum_12 hG (hE.S hS hD.efa) hP (At.recv hG hP.1 rfl) rfl rfl hl.1 ⟨by show _ ≤ fr + 1; omega, by show _ ≤ lo + 21; omega⟩ ⟨Nat.le_of_ble_eq_true rfl, Nat.le_of_ble_eq_true rfl⟩ (Nat.le_of_ble_eq_true rfl) hS (fun _ h9 => h9) (fun v9 H locs hq hz9 hfr9 hS => ?_)
        obtain ⟨rfl, hP⟩ := hq
        refine lv_bipush (v := 43) hx hb dX8_sum_15 rfl ?_
        refine lv_icmp_eq (tgt := 29) hx hb dX8_sum_17 (by decide) (fun c_17 => ?_) (fun c_17 => ?_)
        · refine lv_aload_n hx hb dX8_sum_29 rfl (lv_at hl 0 rfl) ?_
          refine Wr.callV (rest := []) (c_X8_next_i l G hD n q1 hn9 (by omega)) yk_X8_next E km_X8_62 dX8_sum_30 hG (hE.S hS hD.efa) hP (At.recv hG hP.1 rfl) rfl rfl hl.1 ⟨by show _ ≤ fr + 1; omega, by show _ ≤ lo + 21; omega⟩ ⟨Nat.le_of_ble_eq_true rfl, Nat.le_of_ble_eq_true rfl⟩ (Nat.le_of_ble_eq_true rfl) hS (fun _ h9 => h9) (fun v9 H locs hq hz9 hfr9 hS => ?_)
          obtain ⟨rfl, hP⟩ := hq
          refine lv_bipush (v := 43) hx hb dX8_sum_33 rfl ?_
          refine lv_icmp_ne (tgt := 42) hx hb dX8_sum_35 (by decide) (fun c_35 => ?_) (fun c_35 => ?_)
          · exact (by rw [c_17] at c_35; exact absurd c_35 (by decide))
          refine lv_iconst (v := 1) hx hb dX8_sum_38 rfl ?_
          refine lv_goto (tgt := 43) hx hb dX8_sum_39 (by decide) ?_
          have hq3 := bt_lt c_17 (by decide)
          refine lv_istore_n (lv' := [(1, .int 1), (0, .ref (B 0))]) hx hb dX8_sum_43 rfl hl (by decide) rfl (fun ls hl => ?_)
          refine lv_aload_n hx hb dX8_sum_44 rfl (lv_at hl 1 rfl) ?_
          refine lv_dup hx hb dX8_sum_45 rfl ?_
          refine gf_X8_41 (v := .int (nI (spc bf n q1))) E hG hP.1 rfl dX8_sum_46 ?_
          refine lv_iconst (v := 1) hx hb dX8_sum_49 rfl ?_
          refine lv_iadd hx hb dX8_sum_50 ?_
          refine lv_ci (y := nI (spc bf n q1 + 1)) (ixq (nI_ad rfl rfl)) ?_
          have hsb3 := sk_b (bf := bf) (n := n) (q := spc bf n q1 + 1) (by omega)
          refine pf_X8_41 E hG hP.1 (Nat.le_of_ble_eq_true rfl) rfl rfl hS ⟨0, by decide, rfl⟩ dX8_sum_51 (fun H locs ho hz oq hS => ?_)
          have hP : MW G B (fm t bl (nI n) (nI (spc bf n q1 + 1)) 0 (-1) eo ud ns ne se) bf da (emC d0 (C ++ exL L)) hi sk H := hP.setO hD ho oq
          refine lv_aload_n hx hb dX8_sum_54 rfl (lv_at hl 1 rfl) ?_
          refine Wr.callV (rest := []) (hF (spc bf n q1 + 1) _ (C ++ exL L) (by omega) (by omega)) yk_X8_term E km_X8_120 dX8_sum_55 hG (hE.S hS hD.efa) hP (At.recv hG hP.1 rfl) rfl rfl hl.1 ⟨by show _ ≤ fr + 1; omega, by show _ ≤ lo + 21; omega⟩ ⟨Nat.le_of_ble_eq_true rfl, Nat.le_of_ble_eq_true rfl⟩ (Nat.le_of_ble_eq_true rfl) hS (fun _ h9 => h9) (fun v9 H locs hq hz9 hfr9 hS => ?_)
          obtain ⟨rfl, ps, er, ea, ns, dr1, hP, hRK, hdr⟩ := hq
          rcases hfa : (chF bf n fac 42 47 (-6) (-7)) (spc bf n (spc bf n q1 + 1)) with ⟨c8, o8⟩ | ⟨s8, L8⟩
          · rw [hfa] at hRK
            have he9 : ¬ er = 0 := by rw [hRK.1]; exact hRK.2.1
            refine lv_aload_n hx hb dX8_sum_58 rfl (lv_at hl 1 rfl) ?_
            refine lv_iload_n hx hb dX8_sum_59 rfl (lv_at hl 0 rfl) ?_
            refine lv_if_eq (tgt := 67) hx hb dX8_sum_60 (by decide) (fun c_60 => ?_) (fun c_60 => ?_)
            · exact absurd c_60 (by decide)
            · refine lv_iconst (v := 2) hx hb dX8_sum_63 rfl ?_
              refine lv_goto (tgt := 68) hx hb dX8_sum_64 (by decide) ?_
              refine Wr.callV (rest := []) (c_X8_emit_b l G hD 2 he9) yk_X8_emit E km_X8_114 dX8_sum_68 hG (hE.S hS hD.efa) hP (At.recv hG hP.1 rfl) rfl rfl hl.1 ⟨by show _ ≤ fr + 1; omega, by show _ ≤ lo + 21; omega⟩ ⟨Nat.le_of_ble_eq_true rfl, Nat.le_of_ble_eq_true rfl⟩ (Nat.le_of_ble_eq_true rfl) hS (fun _ h9 => h9) (fun v9 H locs hq hz9 hfr9 hS => ?_)
              obtain ⟨rfl, hP⟩ := hq
              refine lv_goto (tgt := 4) hx hb dX8_sum_71 (by decide) ?_
              refine lv_aload_n hx hb dX8_sum_4 rfl (lv_at hl 1 rfl) ?_
              refine Rd.callV (rest := []) (c_X8_isGood l G) yk_X8_isGood E km_X8_58 dX8_sum_5 hG (hE.S hS hD.efa) hP (At.recv hG hP.1 rfl) rfl rfl hl.1 ⟨by show _ ≤ fr + 1; omega, by show _ ≤ lo + 21; omega⟩ ⟨Nat.zero_le _, Nat.zero_le _⟩ (Nat.le_of_ble_eq_true rfl) ?_
              refine lv_ci (y := 0) (if_neg he9) ?_
              refine lv_if_eq (tgt := 74) hx hb dX8_sum_8 (by decide) (fun c_8 => ?_) (fun c_8 => ?_)
              · exact wr_void E hr hk hS (by decide) (by decide) (⟨rfl, _, _, _, _, _, hP, by rw [← z3, lpF_e (Or.inl c_17) hfa]; exact hRK, fun s9 L9 z => by rw [← z3, lpF_e (Or.inl c_17) hfa] at z; cases z⟩) dX8_sum_74
              · exact absurd c_8 (by decide)
          · rw [hfa] at hRK
            obtain ⟨her, hea, q2, hps, hq2, hs2⟩ := hRK
            have hdr := hdr _ _ hfa
            subst her hea hps hs2 hdr
            have g1 := hGd _ _ _ hsb3.2 hfa
            have hlen : 2 * (C ++ exL L ++ exL L8).length ≤ 3 * spc bf n q2 - 1 := by rw [List.length_append]; have := g1.2.2.1; have := g1.1; have := g1.2.1; omega
            have hsq := sk_b (bf := bf) hq2
            refine lv_aload_n hx hb dX8_sum_58 rfl (lv_at hl 1 rfl) ?_
            refine lv_iload_n hx hb dX8_sum_59 rfl (lv_at hl 0 rfl) ?_
            refine lv_if_eq (tgt := 67) hx hb dX8_sum_60 (by decide) (fun c_60 => ?_) (fun c_60 => ?_)
            · exact absurd c_60 (by decide)
            refine lv_iconst (v := 2) hx hb dX8_sum_63 rfl ?_
            refine lv_goto (tgt := 68) hx hb dX8_sum_64 (by decide) ?_
            refine Wr.callV (rest := []) (c_X8_emit l G hD ((C ++ exL L) ++ exL L8).length (emC_5 d0 ((C ++ exL L) ++ exL L8)) (by have := g1.2.1; omega) 2) yk_X8_emit E km_X8_114 dX8_sum_68 hG (hE.S hS hD.efa) hP (At.recv hG hP.1 rfl) rfl rfl hl.1 ⟨by show _ ≤ fr + 1; omega, by show _ ≤ lo + 21; omega⟩ ⟨Nat.le_of_ble_eq_true rfl, Nat.le_of_ble_eq_true rfl⟩ (Nat.le_of_ble_eq_true rfl) hS (fun _ h9 => h9) (fun v9 H locs hq hz9 hfr9 hS => ?_)
            obtain ⟨rfl, hP⟩ := hq
            have hP : MW G B (fm t bl (nI n) (nI q2) 0 (-1) eo ud ns ne se) bf da (emC d0 (((C ++ exL L) ++ exL L8) ++ [2])) hi sk H := by rw [← emC_snoc]; exact hP
            refine lv_goto (tgt := 4) hx hb dX8_sum_71 (by decide) ?_
            have eC : C ++ exL L ++ exL L8 ++ [2] = C ++ exL (L ++ L8 ++ [(-4)]) := by rw [exL_app, exL_app, exL_1, show exS (-4) = [2] by decide]; simp only [List.append_assoc]
            rw [eC] at hP
            exact ih q2 _ (L ++ L8 ++ [(-4)]) (by have := g1.1; omega) hq2 (by rw [← z3, lpF_1 c_17 hfa]) (by rw [← eC, List.length_append, List.length_singleton]; have := g1.1; omega) _ _ hP hS ls (lv_sub hl [1] rfl)
        · refine lv_aload_n hx hb dX8_sum_20 rfl (lv_at hl 0 rfl) ?_
          refine Wr.callV (rest := []) (c_X8_next_i l G hD n q1 hn9 (by omega)) yk_X8_next E km_X8_62 dX8_sum_21 hG (hE.S hS hD.efa) hP (At.recv hG hP.1 rfl) rfl rfl hl.1 ⟨by show _ ≤ fr + 1; omega, by show _ ≤ lo + 21; omega⟩ ⟨Nat.le_of_ble_eq_true rfl, Nat.le_of_ble_eq_true rfl⟩ (Nat.le_of_ble_eq_true rfl) hS (fun _ h9 => h9) (fun v9 H locs hq hz9 hfr9 hS => ?_)
          obtain ⟨rfl, hP⟩ := hq
          refine lv_bipush (v := 45) hx hb dX8_sum_24 rfl ?_
          refine lv_icmp_ne (tgt := 74) hx hb dX8_sum_26 (by decide) (fun c_26 => ?_) (fun c_26 => ?_)
          · exact wr_void E hr hk hS (by decide) (by decide) (⟨rfl, _, _, _, _, _, hP, by rw [← z3, lpF_n (fun z9 => z9.elim c_17 c_26)]; exact ⟨rfl, rfl, _, rfl, hsb.2, sk_ii bf n q1⟩, fun s9 L9 z => by rw [← z3, lpF_n (fun z9 => z9.elim c_17 c_26)] at z; cases z; rfl⟩) dX8_sum_74
          · refine lv_aload_n hx hb dX8_sum_29 rfl (lv_at hl 0 rfl) ?_
            refine Wr.callV (rest := []) (c_X8_next_i l G hD n q1 hn9 (by omega)) yk_X8_next E km_X8_62 dX8_sum_30 hG (hE.S hS hD.efa) hP (At.recv hG hP.1 rfl) rfl rfl hl.1 ⟨by show _ ≤ fr + 1; omega, by show _ ≤ lo + 21; omega⟩ ⟨Nat.le_of_ble_eq_true rfl, Nat.le_of_ble_eq_true rfl⟩ (Nat.le_of_ble_eq_true rfl) hS (fun _ h9 => h9) (fun v9 H locs hq hz9 hfr9 hS => ?_)
            obtain ⟨rfl, hP⟩ := hq
            refine lv_bipush (v := 43) hx hb dX8_sum_33 rfl ?_
            refine lv_icmp_ne (tgt := 42) hx hb dX8_sum_35 (by decide) (fun c_35 => ?_) (fun c_35 => ?_)
            rotate_left
            · exact absurd c_35 c_17
            refine lv_iconst (v := 0) hx hb dX8_sum_42 rfl ?_
            have hq3 := bt_lt c_26 (by decide)
            refine lv_istore_n (lv' := [(1, .int 0), (0, .ref (B 0))]) hx hb dX8_sum_43 rfl hl (by decide) rfl (fun ls hl => ?_)
            refine lv_aload_n hx hb dX8_sum_44 rfl (lv_at hl 1 rfl) ?_
            refine lv_dup hx hb dX8_sum_45 rfl ?_
            refine gf_X8_41 (v := .int (nI (spc bf n q1))) E hG hP.1 rfl dX8_sum_46 ?_
            refine lv_iconst (v := 1) hx hb dX8_sum_49 rfl ?_
            refine lv_iadd hx hb dX8_sum_50 ?_
            refine lv_ci (y := nI (spc bf n q1 + 1)) (ixq (nI_ad rfl rfl)) ?_
            have hsb3 := sk_b (bf := bf) (n := n) (q := spc bf n q1 + 1) (by omega)
            refine pf_X8_41 E hG hP.1 (Nat.le_of_ble_eq_true rfl) rfl rfl hS ⟨0, by decide, rfl⟩ dX8_sum_51 (fun H locs ho hz oq hS => ?_)
            have hP : MW G B (fm t bl (nI n) (nI (spc bf n q1 + 1)) 0 (-1) eo ud ns ne se) bf da (emC d0 (C ++ exL L)) hi sk H := hP.setO hD ho oq
            refine lv_aload_n hx hb dX8_sum_54 rfl (lv_at hl 1 rfl) ?_
            refine Wr.callV (rest := []) (hF (spc bf n q1 + 1) _ (C ++ exL L) (by omega) (by omega)) yk_X8_term E km_X8_120 dX8_sum_55 hG (hE.S hS hD.efa) hP (At.recv hG hP.1 rfl) rfl rfl hl.1 ⟨by show _ ≤ fr + 1; omega, by show _ ≤ lo + 21; omega⟩ ⟨Nat.le_of_ble_eq_true rfl, Nat.le_of_ble_eq_true rfl⟩ (Nat.le_of_ble_eq_true rfl) hS (fun _ h9 => h9) (fun v9 H locs hq hz9 hfr9 hS => ?_)
            obtain ⟨rfl, ps, er, ea, ns, dr1, hP, hRK, hdr⟩ := hq
            rcases hfa : (chF bf n fac 42 47 (-6) (-7)) (spc bf n (spc bf n q1 + 1)) with ⟨c8, o8⟩ | ⟨s8, L8⟩
            · rw [hfa] at hRK
              have he9 : ¬ er = 0 := by rw [hRK.1]; exact hRK.2.1
              refine lv_aload_n hx hb dX8_sum_58 rfl (lv_at hl 1 rfl) ?_
              refine lv_iload_n hx hb dX8_sum_59 rfl (lv_at hl 0 rfl) ?_
              refine lv_if_eq (tgt := 67) hx hb dX8_sum_60 (by decide) (fun c_60 => ?_) (fun c_60 => ?_)
              · refine lv_iconst (v := 3) hx hb dX8_sum_67 rfl ?_
                refine Wr.callV (rest := []) (c_X8_emit_b l G hD 3 he9) yk_X8_emit E km_X8_114 dX8_sum_68 hG (hE.S hS hD.efa) hP (At.recv hG hP.1 rfl) rfl rfl hl.1 ⟨by show _ ≤ fr + 1; omega, by show _ ≤ lo + 21; omega⟩ ⟨Nat.le_of_ble_eq_true rfl, Nat.le_of_ble_eq_true rfl⟩ (Nat.le_of_ble_eq_true rfl) hS (fun _ h9 => h9) (fun v9 H locs hq hz9 hfr9 hS => ?_)
                obtain ⟨rfl, hP⟩ := hq
                refine lv_goto (tgt := 4) hx hb dX8_sum_71 (by decide) ?_
                refine lv_aload_n hx hb dX8_sum_4 rfl (lv_at hl 1 rfl) ?_
                refine Rd.callV (rest := []) (c_X8_isGood l G) yk_X8_isGood E km_X8_58 dX8_sum_5 hG (hE.S hS hD.efa) hP (At.recv hG hP.1 rfl) rfl rfl hl.1 ⟨by show _ ≤ fr + 1; omega, by show _ ≤ lo + 21; omega⟩ ⟨Nat.zero_le _, Nat.zero_le _⟩ (Nat.le_of_ble_eq_true rfl) ?_
                refine lv_ci (y := 0) (if_neg he9) ?_
                refine lv_if_eq (tgt := 74) hx hb dX8_sum_8 (by decide) (fun c_8 => ?_) (fun c_8 => ?_)
                · exact wr_void E hr hk hS (by decide) (by decide) (⟨rfl, _, _, _, _, _, hP, by rw [← z3, lpF_e (Or.inr c_26) hfa]; exact hRK, fun s9 L9 z => by rw [← z3, lpF_e (Or.inr c_26) hfa] at z; cases z⟩) dX8_sum_74
                · exact absurd c_8 (by decide)
              · exact absurd c_60 (by decide)
            · rw [hfa] at hRK
              obtain ⟨her, hea, q2, hps, hq2, hs2⟩ := hRK
              have hdr := hdr _ _ hfa
              subst her hea hps hs2 hdr
              have g1 := hGd _ _ _ hsb3.2 hfa
              have hlen : 2 * (C ++ exL L ++ exL L8).length ≤ 3 * spc bf n q2 - 1 := by rw [List.length_append]; have := g1.2.2.1; have := g1.1; have := g1.2.1; omega
              have hsq := sk_b (bf := bf) hq2
              refine lv_aload_n hx hb dX8_sum_58 rfl (lv_at hl 1 rfl) ?_
              refine lv_iload_n hx hb dX8_sum_59 rfl (lv_at hl 0 rfl) ?_
              refine lv_if_eq (tgt := 67) hx hb dX8_sum_60 (by decide) (fun c_60 => ?_) (fun c_60 => ?_)
              rotate_left
              · exact absurd c_60 (by decide)
              refine lv_iconst (v := 3) hx hb dX8_sum_67 rfl ?_
              refine Wr.callV (rest := []) (c_X8_emit l G hD ((C ++ exL L) ++ exL L8).length (emC_5 d0 ((C ++ exL L) ++ exL L8)) (by have := g1.2.1; omega) 3) yk_X8_emit E km_X8_114 dX8_sum_68 hG (hE.S hS hD.efa) hP (At.recv hG hP.1 rfl) rfl rfl hl.1 ⟨by show _ ≤ fr + 1; omega, by show _ ≤ lo + 21; omega⟩ ⟨Nat.le_of_ble_eq_true rfl, Nat.le_of_ble_eq_true rfl⟩ (Nat.le_of_ble_eq_true rfl) hS (fun _ h9 => h9) (fun v9 H locs hq hz9 hfr9 hS => ?_)
              obtain ⟨rfl, hP⟩ := hq
              have hP : MW G B (fm t bl (nI n) (nI q2) 0 (-1) eo ud ns ne se) bf da (emC d0 (((C ++ exL L) ++ exL L8) ++ [3])) hi sk H := by rw [← emC_snoc]; exact hP
              refine lv_goto (tgt := 4) hx hb dX8_sum_71 (by decide) ?_
              have eC : C ++ exL L ++ exL L8 ++ [3] = C ++ exL (L ++ L8 ++ [(-5)]) := by rw [exL_app, exL_app, exL_1, show exS (-5) = [3] by decide]; simp only [List.append_assoc]
              rw [eC] at hP
              exact ih q2 _ (L ++ L8 ++ [(-5)]) (by have := g1.1; omega) hq2 (by rw [← z3, lpF_2 c_26 (by decide) hfa]) (by rw [← eC, List.length_append, List.length_singleton]; have := g1.1; omega) _ _ hP hS ls (lv_sub hl [1] rfl)
    exact loop (n + 1) q2 _ L8 (by have := sk_b (bf := bf) hq2; omega) hq2 (by rw [chF_o hfa]) (by rw [List.length_append]; have := g0.2.2.1; have := g0.1; omega) _ _ hP hS ls (lv_sub hl [0] rfl)
