/-! READING: the reference's statements and load -/
section CUTP
variable {p : Program} {l : Launch} {e : Env} {R : Room} {s : State} {m : MethodId} {args : Array Value} {below : List Frame} {meth : Method} {c : Code} {H : Heap} {locs : List Loc} {cells slots : Nat} {Q : State → Prop}
variable {cc : ByteArray} {nL : Nat} {own : String} {pc : Nat} {ls : Array Slot} {rest : List Value} {G : CG} {a : Nat} {H0 : Heap} {A : Nat → Prop} {sz : Nat}
/-- a way to a place with any heap of a kind -/
theorem W.cutP {g9 : JFrame} {P9 : Heap → List Loc → Prop} {lv : List (Nat × Value)} (h1 : (∀ H locs, P9 H locs → ∀ ls : Array Slot, lv_has ls nL lv → W p l e R s m args below meth c H locs cells slots Q (F0 m pc ls [])) → W p l e R s m args below meth c H locs cells slots Q g9) (h2 : ∀ H locs, P9 H locs → ∀ ls : Array Slot, lv_has ls nL lv → W p l e R s m args below meth c H locs cells slots Q (F0 m pc ls [])) : W p l e R s m args below meth c H locs cells slots Q g9 := h1 h2
end CUTP
set_option maxHeartbeats 4000000 in
set_option maxRecDepth 100000 in
/-- statement -/
theorem c_X8_statement (l : Launch) (G : CG) {B : Nat → Nat} {t bl eo ud ns se : Int32} {bf da dr : Nat → Int32} {hi : Nat → Nat → Int32} {sk : Nat → Int64} (hD : MD G B) (n q : Nat) (hn9 : n ≤ 900) (hq9 : q ≤ n) (hB : ByO bf) (nc nh : Nat) (hx9 : LD (dr, nc, nh)) (hse : se = dr 4) : Wr l yX8_statement cX8_statement 2 ((Option.none : Option FieldType)) 20 432 0 0 G [.ref (B 0)] (MW G B (fm t bl (nI n) (nI q) 0 (-1) eo ud ns (nI 0) se) bf da dr hi sk) (MA B) (fun v9 H9 => v9 = none ∧ ∃ ps er ea ns se1 dr1, MW G B (fm t bl (nI n) ps er ea eo ud ns (nI 0) se1) bf da dr1 hi sk H9 ∧ RK bf n (pl (stF bf n (spc bf n q) (dr, nc, nh))) ps er ea ∧ ∀ s9 y9, (stF bf n (spc bf n q) (dr, nc, nh)) = .ok (s9, y9) → dr1 = y9.1 ∧ se1 = y9.1 4) := by
  refine Wr.ofW (by decide) (Nat.le_of_ble_eq_true rfl) (fun p e s m below meth c ls E hG hE hP hr hk hin hl => ?_)
  have hS : va_S (MA B) s.heap s.heap [] := va_S.rf
  have hx := E.1
  have hb := E.2.1
  have hl : lv_has ls 2 [(0, .ref (B 0))] := hl
  have hsb := sk_b (bf := bf) hq9
  have hqq := hq9
  have hc0 : nc ≤ 12 := hx9.c0.2
  have hh0 : nh ≤ 16 := hx9.h2.2
  refine lv_aload_n hx hb dX8_statement_0 rfl (lv_at hl 0 rfl) ?_
  refine Wr.callV (rest := []) (c_X8_next l G hD n q hn9 (by omega)) yk_X8_next E km_X8_62 dX8_statement_1 hG (hE.S hS hD.efa) hP (At.recv hG hP.1 rfl) rfl rfl hl.1 ⟨Nat.le_of_ble_eq_true rfl, Nat.le_of_ble_eq_true rfl⟩ ⟨Nat.le_of_ble_eq_true rfl, Nat.le_of_ble_eq_true rfl⟩ (Nat.le_of_ble_eq_true rfl) hS (fun _ h9 => h9) (fun v9 H locs hq hz9 hfr9 hS => ?_)
  obtain ⟨rfl, hP⟩ := hq
  refine lv_pop hx hb dX8_statement_4 rfl ?_
  refine lv_aload_n hx hb dX8_statement_5 rfl (lv_at hl 0 rfl) ?_
  refine gf_X8_41 (v := .int (nI (spc bf n q))) E hG hP.1 rfl dX8_statement_6 ?_
  refine lv_istore_n (lv' := [(1, .int (nI (spc bf n q))), (0, .ref (B 0))]) hx hb dX8_statement_9 rfl hl (by decide) rfl (fun ls hl => ?_)
  have hRK : RK bf n (pl ((.ok (spc bf n q, [])) : Rr)) (nI (spc bf n q)) 0 (-1) := ⟨rfl, rfl, (spc bf n q), rfl, hsb.2, sk_ii bf n q⟩
  refine lv_aload_n hx hb dX8_statement_10 rfl (lv_at hl 1 rfl) ?_
  refine va_ldcS hx hb E.2.2.2.1 (hG.2.2.2.2.2.1 (RX8, 139, "holiday", 20) (by decide +kernel)) dX8_statement_11 ?_
  refine Wr.callV (rest := []) (c_X8_takeWord_u l G hD n hn9 (isT_r (i := 0) (by decide)) (txt_A (i := 0) (by decide)).1 (txt_A (i := 0) (by decide)).2 (txt_L (i := 0) (by decide)) (.ok (spc bf n q, [])) hRK) yk_X8_takeWord E km_X8_103 dX8_statement_13 hG (hE.S hS hD.efa) hP (At.recv hG hP.1 rfl) rfl rfl hl.1 ⟨Nat.le_of_ble_eq_true rfl, Nat.le_of_ble_eq_true rfl⟩ ⟨Nat.le_of_ble_eq_true rfl, Nat.le_of_ble_eq_true rfl⟩ (Nat.le_of_ble_eq_true rfl) hS (fun _ h9 => h9) (fun v9 H locs hq hz9 hfr9 hS => ?_)
  obtain ⟨v_1, ps, er, ea, rfl, hP, hRK, hv_1, hb_1⟩ := hq
  rcases hb_1 with ⟨hv0, hb0⟩ | ⟨hv1, s8, L8, e8, hw8⟩
  · have h0 : ¬ isW bf n (spc bf n q) (txt 0) := hb0 _ _ rfl
    rw [wdL_no h0] at hRK
    obtain ⟨her, hea, q0, hps, hq0, hs0⟩ := hRK
    subst her hea hps
    have hRK : RK bf n (pl ((.ok (spc bf n q, [])) : Rr)) (nI q0) 0 (-1) := ⟨rfl, rfl, q0, rfl, hq0, hs0⟩
    refine lv_if_eq (tgt := 26) hx hb dX8_statement_16 (by decide) (fun c_16 => ?_) (fun c_16 => ?_)
    rotate_left
    · exact (by rw [hv0] at c_16; exact absurd c_16 (by decide))
    refine lv_aload_n hx hb dX8_statement_26 rfl (lv_at hl 1 rfl) ?_
    refine va_ldcS hx hb E.2.2.2.1 (hG.2.2.2.2.2.1 (RX8, 144, "credit", 21) (by decide +kernel)) dX8_statement_27 ?_
    refine Wr.callV (rest := []) (c_X8_takeWord_u l G hD n hn9 (isT_r (i := 1) (by decide)) (txt_A (i := 1) (by decide)).1 (txt_A (i := 1) (by decide)).2 (txt_L (i := 1) (by decide)) (.ok (spc bf n q, [])) hRK) yk_X8_takeWord E km_X8_103 dX8_statement_29 hG (hE.S hS hD.efa) hP (At.recv hG hP.1 rfl) rfl rfl hl.1 ⟨Nat.le_of_ble_eq_true rfl, Nat.le_of_ble_eq_true rfl⟩ ⟨Nat.le_of_ble_eq_true rfl, Nat.le_of_ble_eq_true rfl⟩ (Nat.le_of_ble_eq_true rfl) hS (fun _ h9 => h9) (fun v9 H locs hq hz9 hfr9 hS => ?_)
    obtain ⟨v_2, ps, er, ea, rfl, hP, hRK, hv_2, hb_2⟩ := hq
    rcases hb_2 with ⟨hv0, hb0⟩ | ⟨hv1, s8, L8, e8, hw8⟩
    · have h1 : ¬ isW bf n (spc bf n q) (txt 1) := hb0 _ _ rfl
      rw [wdL_no h1] at hRK
      obtain ⟨her, hea, q1, hps, hq1, hs1⟩ := hRK
      subst her hea hps
      have hRK : RK bf n (pl ((.ok (spc bf n q, [])) : Rr)) (nI q1) 0 (-1) := ⟨rfl, rfl, q1, rfl, hq1, hs1⟩
      refine lv_if_eq (tgt := 43) hx hb dX8_statement_32 (by decide) (fun c_32 => ?_) (fun c_32 => ?_)
      rotate_left
      · exact (by rw [hv0] at c_32; exact absurd c_32 (by decide))
      refine lv_aload_n hx hb dX8_statement_43 rfl (lv_at hl 1 rfl) ?_
      refine va_ldcS hx hb E.2.2.2.1 (hG.2.2.2.2.2.1 (RX8, 148, "fee", 25) (by decide +kernel)) dX8_statement_44 ?_
      refine Wr.callV (rest := []) (c_X8_takeWord_u l G hD n hn9 (isT_r (i := 5) (by decide)) (txt_A (i := 5) (by decide)).1 (txt_A (i := 5) (by decide)).2 (txt_L (i := 5) (by decide)) (.ok (spc bf n q, [])) hRK) yk_X8_takeWord E km_X8_103 dX8_statement_46 hG (hE.S hS hD.efa) hP (At.recv hG hP.1 rfl) rfl rfl hl.1 ⟨Nat.le_of_ble_eq_true rfl, Nat.le_of_ble_eq_true rfl⟩ ⟨Nat.le_of_ble_eq_true rfl, Nat.le_of_ble_eq_true rfl⟩ (Nat.le_of_ble_eq_true rfl) hS (fun _ h9 => h9) (fun v9 H locs hq hz9 hfr9 hS => ?_)
      obtain ⟨v_3, ps, er, ea, rfl, hP, hRK, hv_3, hb_3⟩ := hq
      rcases hb_3 with ⟨hv0, hb0⟩ | ⟨hv1, s8, L8, e8, hw8⟩
      · have h5 : ¬ isW bf n (spc bf n q) (txt 5) := hb0 _ _ rfl
        rw [wdL_no h5] at hRK
        obtain ⟨her, hea, q5, hps, hq5, hs5⟩ := hRK
        subst her hea hps
        have hRK : RK bf n (pl ((.ok (spc bf n q, [])) : Rr)) (nI q5) 0 (-1) := ⟨rfl, rfl, q5, rfl, hq5, hs5⟩
        refine lv_if_eq (tgt := 72) hx hb dX8_statement_49 (by decide) (fun c_49 => ?_) (fun c_49 => ?_)
        rotate_left
        · exact (by rw [hv0] at c_49; exact absurd c_49 (by decide))
        refine lv_aload_n hx hb dX8_statement_72 rfl (lv_at hl 1 rfl) ?_
        refine lv_bipush (v := (-2)) hx hb dX8_statement_73 rfl ?_
        refine lv_iload_n hx hb dX8_statement_75 rfl (lv_at hl 0 rfl) ?_
        refine Wr.callV (rest := []) (c_X8_report l G hD (-2) (nI (spc bf n q))) yk_X8_report E km_X8_75 dX8_statement_76 hG (hE.S hS hD.efa) hP (At.recv hG hP.1 rfl) rfl rfl hl.1 ⟨Nat.le_of_ble_eq_true rfl, Nat.le_of_ble_eq_true rfl⟩ ⟨Nat.le_of_ble_eq_true rfl, Nat.le_of_ble_eq_true rfl⟩ (Nat.le_of_ble_eq_true rfl) hS (fun _ h9 => h9) (fun v9 H locs hq hz9 hfr9 hS => ?_)
        obtain ⟨rfl, hP⟩ := hq
        have hRK : RK bf n (.error (-2, spc bf n q)) (nI q5) (-2) (nI (spc bf n q)) := ⟨rfl, by decide, rfl, hsb.2⟩
        refine lv_aload_n hx hb dX8_statement_79 rfl (lv_at hl 1 rfl) ?_
        refine lv_bipush (v := 59) hx hb dX8_statement_80 rfl ?_
        refine Wr.callV (rest := []) (c_X8_expect_u l G hD n hn9 (.error (-2, spc bf n q)) hRK 59 (by decide)) yk_X8_expect E km_X8_97 dX8_statement_82 hG (hE.S hS hD.efa) hP (At.recv hG hP.1 rfl) rfl rfl hl.1 ⟨Nat.le_of_ble_eq_true rfl, Nat.le_of_ble_eq_true rfl⟩ ⟨Nat.le_of_ble_eq_true rfl, Nat.le_of_ble_eq_true rfl⟩ (Nat.le_of_ble_eq_true rfl) hS (fun _ h9 => h9) (fun v9 H locs hq hz9 hfr9 hS => ?_)
        obtain ⟨ps, er, ea, rfl, hP, hRK⟩ := hq
        exact wr_void E hr hk hS (by decide) (by decide) (⟨rfl, _, _, _, _, _, _, hP, by rw [stF_e (bdF_n (x := (dr, nc, nh)) h0 h1 h5)]; exact hRK, fun s9 y9 z => by rw [stF_e (bdF_n (x := (dr, nc, nh)) h0 h1 h5)] at z; cases z⟩) dX8_statement_85
      · cases e8
        rw [wdL_ok hw8] at hRK
        obtain ⟨her, hea, q2, hps, hq2, hs2⟩ := hRK
        subst her hea hps
        rcases hx9.s4 with ⟨h4, h5⟩ | h4
        · have h4 : dr 4 = 0 := h4
          have h5 : dr 5 = 0 := h5
          have hse0 : se = 0 := hse.trans h4
          subst hse0
          refine lv_if_eq (tgt := 72) hx hb dX8_statement_49 (by decide) (fun c_49 => ?_) (fun c_49 => ?_)
          · exact (by rw [hv1] at c_49; exact absurd c_49 (by decide))
          refine lv_aload_n hx hb dX8_statement_52 rfl (lv_at hl 1 rfl) ?_
          refine lv_iconst (v := 0) hx hb dX8_statement_53 rfl ?_
          refine lv_iload_n hx hb dX8_statement_54 rfl (lv_at hl 0 rfl) ?_
          refine Wr.callV (rest := []) (c_X8_once l G hD (nI (spc bf n q))) yk_X8_once E km_X8_150 dX8_statement_55 hG (hE.S hS hD.efa) hP (At.recv hG hP.1 rfl) rfl rfl hl.1 ⟨Nat.le_of_ble_eq_true rfl, Nat.le_of_ble_eq_true rfl⟩ ⟨Nat.le_of_ble_eq_true rfl, Nat.le_of_ble_eq_true rfl⟩ (Nat.le_of_ble_eq_true rfl) hS (fun _ h9 => h9) (fun v9 H locs hq hz9 hfr9 hS => ?_)
          obtain ⟨rfl, hP⟩ := hq
          refine lv_aload_n hx hb dX8_statement_58 rfl (lv_at hl 1 rfl) ?_
          refine gf_X8_20 (v := .ref (B 3)) E hG hP.1 rfl dX8_statement_59 ?_
          refine lv_iconst (v := 4) hx hb dX8_statement_62 rfl ?_
          refine lv_iconst (v := 1) hx hb dX8_statement_63 rfl ?_
          refine g_ist 4 E hG hP.2.2.2.1 rfl (by omega) (by decide) hS ⟨3, by decide, rfl⟩ dX8_statement_64 (fun H locs ho hz oq hS => ?_)
          have hP : MW G B (fm t bl (nI n) (nI q2) 0 (-1) eo ud ns (nI 0) 1) bf da (upd dr 4 1) hi sk H := hP.setR hD ho oq
          have hP : MW G B (fm t bl (nI n) (nI q2) 0 (-1) eo ud ns (nI 0) 1) bf da (emC (upd dr 4 1) []) hi sk H := by rw [emC_nil (show upd dr 4 1 5 = 0 by rw [pk_un (by omega)]; exact h5)]; exact hP
          refine lv_aload_n hx hb dX8_statement_65 rfl (lv_at hl 1 rfl) ?_
          refine Wr.callV (rest := []) (c_X8_sm4 l G hD n hn9 hB q2 _ [] hq2 (by rw [List.length_nil]; omega)) yk_X8_sum E km_X8_94 dX8_statement_66 hG (hE.S hS hD.efa) hP (At.recv hG hP.1 rfl) rfl rfl hl.1 ⟨Nat.le_of_ble_eq_true rfl, Nat.le_of_ble_eq_true rfl⟩ ⟨Nat.le_of_ble_eq_true rfl, Nat.le_of_ble_eq_true rfl⟩ (Nat.le_of_ble_eq_true rfl) hS (fun _ h9 => h9) (fun v9 H locs hq hz9 hfr9 hS => ?_)
          obtain ⟨rfl, ps, er, ea, ns, dr1, hP, hRK, hdr⟩ := hq
          refine lv_goto (tgt := 79) hx hb dX8_statement_69 (by decide) ?_
          rw [hs2] at hRK hdr
          rcases hfa : smF bf n (fcF bf n 4) (spc bf n (spc bf n q + (txt 5).length)) with e7 | ⟨s7, L7⟩
          · rw [hfa] at hRK
            refine lv_aload_n hx hb dX8_statement_79 rfl (lv_at hl 1 rfl) ?_
            refine lv_bipush (v := 59) hx hb dX8_statement_80 rfl ?_
            refine Wr.callV (rest := []) (c_X8_expect_u l G hD n hn9 (.error e7) hRK 59 (by decide)) yk_X8_expect E km_X8_97 dX8_statement_82 hG (hE.S hS hD.efa) hP (At.recv hG hP.1 rfl) rfl rfl hl.1 ⟨Nat.le_of_ble_eq_true rfl, Nat.le_of_ble_eq_true rfl⟩ ⟨Nat.le_of_ble_eq_true rfl, Nat.le_of_ble_eq_true rfl⟩ (Nat.le_of_ble_eq_true rfl) hS (fun _ h9 => h9) (fun v9 H locs hq hz9 hfr9 hS => ?_)
            obtain ⟨ps, er, ea, rfl, hP, hRK⟩ := hq
            exact wr_void E hr hk hS (by decide) (by decide) (⟨rfl, _, _, _, _, _, _, hP, by rw [stF_e (bdF_fe (x := (dr, nc, nh)) h0 h1 hw8 (show ¬ dr 4 = 1 by rw [h4]; decide) hfa)]; exact hRK, fun s9 y9 z => by rw [stF_e (bdF_fe (x := (dr, nc, nh)) h0 h1 hw8 (show ¬ dr 4 = 1 by rw [h4]; decide) hfa)] at z; cases z⟩) dX8_statement_85
          · rw [hfa] at hRK
            have hdr := hdr _ _ hfa
            rw [List.nil_append] at hdr
            refine lv_aload_n hx hb dX8_statement_79 rfl (lv_at hl 1 rfl) ?_
            refine lv_bipush (v := 59) hx hb dX8_statement_80 rfl ?_
            refine Wr.callV (rest := []) (c_X8_expect_u l G hD n hn9 (.ok s7) hRK 59 (by decide)) yk_X8_expect E km_X8_97 dX8_statement_82 hG (hE.S hS hD.efa) hP (At.recv hG hP.1 rfl) rfl rfl hl.1 ⟨Nat.le_of_ble_eq_true rfl, Nat.le_of_ble_eq_true rfl⟩ ⟨Nat.le_of_ble_eq_true rfl, Nat.le_of_ble_eq_true rfl⟩ (Nat.le_of_ble_eq_true rfl) hS (fun _ h9 => h9) (fun v9 H locs hq hz9 hfr9 hS => ?_)
            obtain ⟨ps, er, ea, rfl, hP, hRK⟩ := hq
            have hRK : RK bf n (syF bf n 59 s7) ps er ea := hRK
            rcases hsy : syF bf n 59 s7 with e6 | s6
            · rw [hsy] at hRK
              exact wr_void E hr hk hS (by decide) (by decide) (⟨rfl, _, _, _, _, _, _, hP, by rw [stF_x (bdF_f (x := (dr, nc, nh)) h0 h1 hw8 (show ¬ dr 4 = 1 by rw [h4]; decide) hfa) hsy]; exact hRK, fun s9 y9 z => by rw [stF_x (bdF_f (x := (dr, nc, nh)) h0 h1 hw8 (show ¬ dr 4 = 1 by rw [h4]; decide) hfa) hsy] at z; cases z⟩) dX8_statement_85
            · rw [hsy] at hRK
              exact wr_void E hr hk hS (by decide) (by decide) (⟨rfl, _, _, _, _, _, _, hP, by rw [stF_o (bdF_f (x := (dr, nc, nh)) h0 h1 hw8 (show ¬ dr 4 = 1 by rw [h4]; decide) hfa) hsy]; exact hRK, fun s9 y9 z => by rw [stF_o (bdF_f (x := (dr, nc, nh)) h0 h1 hw8 (show ¬ dr 4 = 1 by rw [h4]; decide) hfa) hsy] at z; cases z; exact ⟨hdr, (show emC (upd dr 4 1) (exL L7) 4 = 1 by rw [emC_o (by omega) (by omega), pk_us]).symm⟩⟩) dX8_statement_85
        · have h4 : dr 4 = 1 := h4
          have hse0 : se = 1 := hse.trans h4
          subst hse0
          refine lv_if_eq (tgt := 72) hx hb dX8_statement_49 (by decide) (fun c_49 => ?_) (fun c_49 => ?_)
          · exact (by rw [hv1] at c_49; exact absurd c_49 (by decide))
          refine lv_aload_n hx hb dX8_statement_52 rfl (lv_at hl 1 rfl) ?_
          refine lv_iconst (v := 0) hx hb dX8_statement_53 rfl ?_
          refine lv_iload_n hx hb dX8_statement_54 rfl (lv_at hl 0 rfl) ?_
          refine Wr.callV (rest := []) (c_X8_once_x l G hD (nI (spc bf n q))) yk_X8_once E km_X8_150 dX8_statement_55 hG (hE.S hS hD.efa) hP (At.recv hG hP.1 rfl) rfl rfl hl.1 ⟨Nat.le_of_ble_eq_true rfl, Nat.le_of_ble_eq_true rfl⟩ ⟨Nat.le_of_ble_eq_true rfl, Nat.le_of_ble_eq_true rfl⟩ (Nat.le_of_ble_eq_true rfl) hS (fun _ h9 => h9) (fun v9 H locs hq hz9 hfr9 hS => ?_)
          obtain ⟨rfl, hP⟩ := hq
          refine lv_aload_n hx hb dX8_statement_58 rfl (lv_at hl 1 rfl) ?_
          refine gf_X8_20 (v := .ref (B 3)) E hG hP.1 rfl dX8_statement_59 ?_
          refine lv_iconst (v := 4) hx hb dX8_statement_62 rfl ?_
          refine lv_iconst (v := 1) hx hb dX8_statement_63 rfl ?_
          refine g_ist 4 E hG hP.2.2.2.1 rfl (by omega) (by decide) hS ⟨3, by decide, rfl⟩ dX8_statement_64 (fun H locs ho hz oq hS => ?_)
          have hP : MW G B (fm t bl (nI n) (nI q2) (-2) (nI (spc bf n q)) eo ud ns (nI 0) 1) bf da (upd dr 4 1) hi sk H := hP.setR hD ho oq
          refine lv_aload_n hx hb dX8_statement_65 rfl (lv_at hl 1 rfl) ?_
          refine Wr.callV (rest := []) (c_X8_sum_b l G hD (show ¬ (-2 : Int32) = 0 by decide)) yk_X8_sum E km_X8_94 dX8_statement_66 hG (hE.S hS hD.efa) hP (At.recv hG hP.1 rfl) rfl rfl hl.1 ⟨Nat.le_of_ble_eq_true rfl, Nat.le_of_ble_eq_true rfl⟩ ⟨Nat.le_of_ble_eq_true rfl, Nat.le_of_ble_eq_true rfl⟩ (Nat.le_of_ble_eq_true rfl) hS (fun _ h9 => h9) (fun v9 H locs hq hz9 hfr9 hS => ?_)
          obtain ⟨rfl, hP⟩ := hq
          refine lv_goto (tgt := 79) hx hb dX8_statement_69 (by decide) ?_
          have hRK : RK bf n (.error (-2, spc bf n q)) (nI q2) (-2) (nI (spc bf n q)) := ⟨rfl, by decide, rfl, hsb.2⟩
          refine lv_aload_n hx hb dX8_statement_79 rfl (lv_at hl 1 rfl) ?_
          refine lv_bipush (v := 59) hx hb dX8_statement_80 rfl ?_
          refine Wr.callV (rest := []) (c_X8_expect_u l G hD n hn9 (.error (-2, spc bf n q)) hRK 59 (by decide)) yk_X8_expect E km_X8_97 dX8_statement_82 hG (hE.S hS hD.efa) hP (At.recv hG hP.1 rfl) rfl rfl hl.1 ⟨Nat.le_of_ble_eq_true rfl, Nat.le_of_ble_eq_true rfl⟩ ⟨Nat.le_of_ble_eq_true rfl, Nat.le_of_ble_eq_true rfl⟩ (Nat.le_of_ble_eq_true rfl) hS (fun _ h9 => h9) (fun v9 H locs hq hz9 hfr9 hS => ?_)
          obtain ⟨ps, er, ea, rfl, hP, hRK⟩ := hq
          exact wr_void E hr hk hS (by decide) (by decide) (⟨rfl, _, _, _, _, _, _, hP, by rw [stF_e (bdF_fx (x := (dr, nc, nh)) h0 h1 hw8 h4)]; exact hRK, fun s9 y9 z => by rw [stF_e (bdF_fx (x := (dr, nc, nh)) h0 h1 hw8 h4)] at z; cases z⟩) dX8_statement_85
    · cases e8
      rw [wdL_ok hw8] at hRK
      obtain ⟨her, hea, q2, hps, hq2, hs2⟩ := hRK
      subst her hea hps
      by_cases h12 : nc = 12
      · refine lv_if_eq (tgt := 43) hx hb dX8_statement_32 (by decide) (fun c_32 => ?_) (fun c_32 => ?_)
        · exact (by rw [hv1] at c_32; exact absurd c_32 (by decide))
        refine lv_aload_n hx hb dX8_statement_35 rfl (lv_at hl 1 rfl) ?_
        refine lv_iload_n hx hb dX8_statement_36 rfl (lv_at hl 0 rfl) ?_
        refine Wr.callV (rest := []) (c_X8_readCredit_x l G hD n q2 hn9 hq2 hB (nI (spc bf n q)) (show dr 0 = 12 from hx9.c0.1.trans (show nI nc = 12 by rw [h12]; rfl))) yk_X8_readCredit E km_X8_145 dX8_statement_37 hG (hE.S hS hD.efa) hP (At.recv hG hP.1 rfl) rfl rfl hl.1 ⟨Nat.le_of_ble_eq_true rfl, Nat.le_of_ble_eq_true rfl⟩ ⟨Nat.le_of_ble_eq_true rfl, Nat.le_of_ble_eq_true rfl⟩ (Nat.le_of_ble_eq_true rfl) hS (fun _ h9 => h9) (fun v9 H locs hq hz9 hfr9 hS => ?_)
        obtain ⟨rfl, hP⟩ := hq
        refine lv_goto (tgt := 79) hx hb dX8_statement_40 (by decide) ?_
        have hRK : RK bf n (.error (-4, spc bf n q)) (nI q2) (-4) (nI (spc bf n q)) := ⟨rfl, by decide, rfl, hsb.2⟩
        refine lv_aload_n hx hb dX8_statement_79 rfl (lv_at hl 1 rfl) ?_
        refine lv_bipush (v := 59) hx hb dX8_statement_80 rfl ?_
        refine Wr.callV (rest := []) (c_X8_expect_u l G hD n hn9 (.error (-4, spc bf n q)) hRK 59 (by decide)) yk_X8_expect E km_X8_97 dX8_statement_82 hG (hE.S hS hD.efa) hP (At.recv hG hP.1 rfl) rfl rfl hl.1 ⟨Nat.le_of_ble_eq_true rfl, Nat.le_of_ble_eq_true rfl⟩ ⟨Nat.le_of_ble_eq_true rfl, Nat.le_of_ble_eq_true rfl⟩ (Nat.le_of_ble_eq_true rfl) hS (fun _ h9 => h9) (fun v9 H locs hq hz9 hfr9 hS => ?_)
        obtain ⟨ps, er, ea, rfl, hP, hRK⟩ := hq
        exact wr_void E hr hk hS (by decide) (by decide) (⟨rfl, _, _, _, _, _, _, hP, by rw [stF_e (bdF_cx (x := (dr, nc, nh)) h0 hw8 h12)]; exact hRK, fun s9 y9 z => by rw [stF_e (bdF_cx (x := (dr, nc, nh)) h0 hw8 h12)] at z; cases z⟩) dX8_statement_85
      · refine lv_if_eq (tgt := 43) hx hb dX8_statement_32 (by decide) (fun c_32 => ?_) (fun c_32 => ?_)
        · exact (by rw [hv1] at c_32; exact absurd c_32 (by decide))
        refine lv_aload_n hx hb dX8_statement_35 rfl (lv_at hl 1 rfl) ?_
        refine lv_iload_n hx hb dX8_statement_36 rfl (lv_at hl 0 rfl) ?_
        refine Wr.callV (rest := []) (c_X8_readCredit l G hD n q2 hn9 hq2 hB (nI (spc bf n q)) nc hx9.c0.1 (by omega)) yk_X8_readCredit E km_X8_145 dX8_statement_37 hG (hE.S hS hD.efa) hP (At.recv hG hP.1 rfl) rfl rfl hl.1 ⟨Nat.le_of_ble_eq_true rfl, Nat.le_of_ble_eq_true rfl⟩ ⟨Nat.le_of_ble_eq_true rfl, Nat.le_of_ble_eq_true rfl⟩ (Nat.le_of_ble_eq_true rfl) hS (fun _ h9 => h9) (fun v9 H locs hq hz9 hfr9 hS => ?_)
        obtain ⟨rfl, ps, er, ea, ns, dr1, hP, hRK, hdr⟩ := hq
        refine lv_goto (tgt := 79) hx hb dX8_statement_40 (by decide) ?_
        rw [hs2] at hRK hdr
        rcases hcd : cdF bf n (spc bf n (spc bf n q + (txt 1).length)) with e7 | ⟨s7, L7⟩
        · rw [hcd] at hRK
          refine lv_aload_n hx hb dX8_statement_79 rfl (lv_at hl 1 rfl) ?_
          refine lv_bipush (v := 59) hx hb dX8_statement_80 rfl ?_
          refine Wr.callV (rest := []) (c_X8_expect_u l G hD n hn9 (.error e7) hRK 59 (by decide)) yk_X8_expect E km_X8_97 dX8_statement_82 hG (hE.S hS hD.efa) hP (At.recv hG hP.1 rfl) rfl rfl hl.1 ⟨Nat.le_of_ble_eq_true rfl, Nat.le_of_ble_eq_true rfl⟩ ⟨Nat.le_of_ble_eq_true rfl, Nat.le_of_ble_eq_true rfl⟩ (Nat.le_of_ble_eq_true rfl) hS (fun _ h9 => h9) (fun v9 H locs hq hz9 hfr9 hS => ?_)
          obtain ⟨ps, er, ea, rfl, hP, hRK⟩ := hq
          exact wr_void E hr hk hS (by decide) (by decide) (⟨rfl, _, _, _, _, _, _, hP, by rw [stF_e (bdF_ce (x := (dr, nc, nh)) h0 hw8 h12 hcd)]; exact hRK, fun s9 y9 z => by rw [stF_e (bdF_ce (x := (dr, nc, nh)) h0 hw8 h12 hcd)] at z; cases z⟩) dX8_statement_85
        · rw [hcd] at hRK
          have hdr := hdr _ _ hcd
          refine lv_aload_n hx hb dX8_statement_79 rfl (lv_at hl 1 rfl) ?_
          refine lv_bipush (v := 59) hx hb dX8_statement_80 rfl ?_
          refine Wr.callV (rest := []) (c_X8_expect_u l G hD n hn9 (.ok s7) hRK 59 (by decide)) yk_X8_expect E km_X8_97 dX8_statement_82 hG (hE.S hS hD.efa) hP (At.recv hG hP.1 rfl) rfl rfl hl.1 ⟨Nat.le_of_ble_eq_true rfl, Nat.le_of_ble_eq_true rfl⟩ ⟨Nat.le_of_ble_eq_true rfl, Nat.le_of_ble_eq_true rfl⟩ (Nat.le_of_ble_eq_true rfl) hS (fun _ h9 => h9) (fun v9 H locs hq hz9 hfr9 hS => ?_)
          obtain ⟨ps, er, ea, rfl, hP, hRK⟩ := hq
          have hRK : RK bf n (syF bf n 59 s7) ps er ea := hRK
          rcases hsy : syF bf n 59 s7 with e6 | s6
          · rw [hsy] at hRK
            exact wr_void E hr hk hS (by decide) (by decide) (⟨rfl, _, _, _, _, _, _, hP, by rw [stF_x (bdF_c (x := (dr, nc, nh)) h0 hw8 h12 hcd) hsy]; exact hRK, fun s9 y9 z => by rw [stF_x (bdF_c (x := (dr, nc, nh)) h0 hw8 h12 hcd) hsy] at z; cases z⟩) dX8_statement_85
          · rw [hsy] at hRK
            exact wr_void E hr hk hS (by decide) (by decide) (⟨rfl, _, _, _, _, _, _, hP, by rw [stF_o (bdF_c (x := (dr, nc, nh)) h0 hw8 h12 hcd) hsy]; exact hRK, fun s9 y9 z => by rw [stF_o (bdF_c (x := (dr, nc, nh)) h0 hw8 h12 hcd) hsy] at z; cases z; exact ⟨hdr, hse.trans (show crD dr nc L7 4 = dr 4 from crD_lo (by omega) (by omega)).symm⟩⟩) dX8_statement_85
  · cases e8
    rw [wdL_ok hw8] at hRK
    obtain ⟨her, hea, q2, hps, hq2, hs2⟩ := hRK
    subst her hea hps
    refine lv_if_eq (tgt := 26) hx hb dX8_statement_16 (by decide) (fun c_16 => ?_) (fun c_16 => ?_)
    · exact (by rw [hv1] at c_16; exact absurd c_16 (by decide))
    refine lv_aload_n hx hb dX8_statement_19 rfl (lv_at hl 1 rfl) ?_
    refine Wr.callV (rest := []) (c_X8_readHoliday l G hD n q2 hn9 hq2 hB nh hx9.h2.1 hh0) yk_X8_readHoliday E km_X8_141 dX8_statement_20 hG (hE.S hS hD.efa) hP (At.recv hG hP.1 rfl) rfl rfl hl.1 ⟨Nat.le_of_ble_eq_true rfl, Nat.le_of_ble_eq_true rfl⟩ ⟨Nat.le_of_ble_eq_true rfl, Nat.le_of_ble_eq_true rfl⟩ (Nat.le_of_ble_eq_true rfl) hS (fun _ h9 => h9) (fun v9 H locs hq hz9 hfr9 hS => ?_)
    obtain ⟨rfl, ps, er, ea, ns, dr1, hP, hRK, hdr⟩ := hq
    refine lv_goto (tgt := 79) hx hb dX8_statement_23 (by decide) ?_
    rw [hs2] at hRK hdr
    rcases hho : hoF bf n (n + 1) (spc bf n (spc bf n q + (txt 0).length)) dr nh with e7 | ⟨s7, d7, k7⟩
    · rw [hho] at hRK
      refine lv_aload_n hx hb dX8_statement_79 rfl (lv_at hl 1 rfl) ?_
      refine lv_bipush (v := 59) hx hb dX8_statement_80 rfl ?_
      refine Wr.callV (rest := []) (c_X8_expect_u l G hD n hn9 (.error e7) hRK 59 (by decide)) yk_X8_expect E km_X8_97 dX8_statement_82 hG (hE.S hS hD.efa) hP (At.recv hG hP.1 rfl) rfl rfl hl.1 ⟨Nat.le_of_ble_eq_true rfl, Nat.le_of_ble_eq_true rfl⟩ ⟨Nat.le_of_ble_eq_true rfl, Nat.le_of_ble_eq_true rfl⟩ (Nat.le_of_ble_eq_true rfl) hS (fun _ h9 => h9) (fun v9 H locs hq hz9 hfr9 hS => ?_)
      obtain ⟨ps, er, ea, rfl, hP, hRK⟩ := hq
      exact wr_void E hr hk hS (by decide) (by decide) (⟨rfl, _, _, _, _, _, _, hP, by rw [stF_e (bdF_he (x := (dr, nc, nh)) hw8 hho)]; exact hRK, fun s9 y9 z => by rw [stF_e (bdF_he (x := (dr, nc, nh)) hw8 hho)] at z; cases z⟩) dX8_statement_85
    · rw [hho] at hRK
      have h4 := (ld_hoF hB (n + 1) _ (dr, nc, nh) _ _ _ (sk_b (isW_le hw8 (isL_p (txt_L (i := 0) (by decide))) hsb.2)).2 hx9 hho).2.2.2.1
      have hdr := hdr _ _ _ hho
      refine lv_aload_n hx hb dX8_statement_79 rfl (lv_at hl 1 rfl) ?_
      refine lv_bipush (v := 59) hx hb dX8_statement_80 rfl ?_
      refine Wr.callV (rest := []) (c_X8_expect_u l G hD n hn9 (.ok s7) hRK 59 (by decide)) yk_X8_expect E km_X8_97 dX8_statement_82 hG (hE.S hS hD.efa) hP (At.recv hG hP.1 rfl) rfl rfl hl.1 ⟨Nat.le_of_ble_eq_true rfl, Nat.le_of_ble_eq_true rfl⟩ ⟨Nat.le_of_ble_eq_true rfl, Nat.le_of_ble_eq_true rfl⟩ (Nat.le_of_ble_eq_true rfl) hS (fun _ h9 => h9) (fun v9 H locs hq hz9 hfr9 hS => ?_)
      obtain ⟨ps, er, ea, rfl, hP, hRK⟩ := hq
      have hRK : RK bf n (syF bf n 59 s7) ps er ea := hRK
      rcases hsy : syF bf n 59 s7 with e6 | s6
      · rw [hsy] at hRK
        exact wr_void E hr hk hS (by decide) (by decide) (⟨rfl, _, _, _, _, _, _, hP, by rw [stF_x (bdF_h (x := (dr, nc, nh)) hw8 hho) hsy]; exact hRK, fun s9 y9 z => by rw [stF_x (bdF_h (x := (dr, nc, nh)) hw8 hho) hsy] at z; cases z⟩) dX8_statement_85
      · rw [hsy] at hRK
        exact wr_void E hr hk hS (by decide) (by decide) (⟨rfl, _, _, _, _, _, _, hP, by rw [stF_o (bdF_h (x := (dr, nc, nh)) hw8 hho) hsy]; exact hRK, fun s9 y9 z => by rw [stF_o (bdF_h (x := (dr, nc, nh)) hw8 hho) hsy] at z; cases z; exact ⟨hdr, hse.trans h4.symm⟩⟩) dX8_statement_85

set_option maxHeartbeats 4000000 in
set_option maxRecDepth 100000 in
/-- load -/
theorem c_X8_load (l : Launch) (G : CG) {B : Nat → Nat} {t tl ps er ea eo ns ne se : Int32} {bf da dr : Nat → Int32} {hi : Nat → Nat → Int32} {sk : Nat → Int64} (hD : MD G B) (n b9 : Nat) (hB : ByO bf) (hnb : n ≤ b9) (hb9 : b9 ≤ 900) (u : Nat) (hu : u ≤ 8) (x : Int32) (ex : x = nI n) : Wr l yX8_load cX8_load 3 ((Option.some FieldType.int)) 21 453 0 0 G [.ref (B 0), .int x] (MW G B (fm t (nI b9) tl ps er ea eo (nI u) ns ne se) bf da dr hi sk) (MA B) (fun v9 H9 => (∃ c9 o9, (ldF bf n) = .error (c9, o9) ∧ ¬ c9 = 0 ∧ o9 ≤ n ∧ v9 = some (.int c9) ∧ ∃ ps er ea ns ne se dr1, MW G B (fm 0 0 (nI n) ps er ea (nI o9) (nI u) ns ne se) bf da dr1 hi sk H9) ∨ (∃ s9 y9, (ldF bf n) = .ok (s9, y9) ∧ LD y9 ∧ v9 = some (.int (y9.1 0)) ∧ ∃ ps er ea ns ne se dr1, MW G B (fm 0 0 (nI n) ps er ea (-1) (nI (remU u)) ns ne se) bf y9.1 dr1 (remH hi da u) sk H9)) := by
  refine Wr.ofW (by decide) (Nat.le_of_ble_eq_true rfl) (fun p e s m below meth c ls E hG hE hP hr hk hin hl => ?_)
  have hS : va_S (MA B) s.heap s.heap [] := va_S.rf
  have hx := E.1
  have hb := E.2.1
  have hl : lv_has ls 3 [(0, .ref (B 0)), (1, .int x)] := hl
  have hn9 : n ≤ 900 := by omega
  have hin9 : inV x 0 (nI b9) = 1 := by rw [ex]; exact (inV_nI (v := n) (lo := 0) (hi := b9) (by omega) (by omega) (by omega)).mpr ⟨by omega, hnb⟩
  refine lv_aload_n hx hb dX8_load_0 rfl (lv_at hl 0 rfl) ?_
  refine lv_iconst (v := 0) hx hb dX8_load_1 rfl ?_
  refine pf_X8_32 E hG hP.1 (Nat.le_of_ble_eq_true rfl) rfl rfl hS ⟨0, by decide, rfl⟩ dX8_load_2 (fun H locs ho hz oq hS => ?_)
  have hP : MW G B (fm 0 (nI b9) tl ps er ea eo (nI u) ns ne se) bf da dr hi sk H := hP.setO hD ho oq
  refine lv_aload_n hx hb dX8_load_5 rfl (lv_at hl 0 rfl) ?_
  refine lv_iload_n hx hb dX8_load_6 rfl (lv_at hl 1 rfl) ?_
  refine lv_iconst (v := 0) hx hb dX8_load_7 rfl ?_
  refine lv_aload_n hx hb dX8_load_8 rfl (lv_at hl 0 rfl) ?_
  refine gf_X8_35 (v := .int (nI b9)) E hG hP.1 rfl dX8_load_9 ?_
  refine Rd.callS (rest := [.ref (B 0)]) (c_X8_in l G x 0 (nI b9)) yk_X8_in E km_X8_54 dX8_load_12 hG (hE.S hS hD.efa) trivial rfl rfl hl.1 ⟨Nat.le_of_ble_eq_true rfl, Nat.le_of_ble_eq_true rfl⟩ ⟨Nat.zero_le _, Nat.zero_le _⟩ (Nat.le_of_ble_eq_true rfl) ?_
  refine lv_if_ne (tgt := 22) hx hb dX8_load_15 (by decide) (fun c_15 => ?_) (fun c_15 => ?_)
  rotate_left
  · exact (by rw [hin9] at c_15; exact absurd c_15 (by decide))
  refine lv_iconst (v := 0) hx hb dX8_load_22 rfl ?_
  refine lv_iconst (v := 1) hx hb dX8_load_23 rfl ?_
  refine Wr.callV (rest := []) (c_X8_fails0 l G hD 1) yk_X8_fails E km_X8_153 dX8_load_24 hG (hE.S hS hD.efa) hP (At.recv hG hP.1 rfl) rfl rfl hl.1 ⟨Nat.le_of_ble_eq_true rfl, Nat.le_of_ble_eq_true rfl⟩ ⟨Nat.le_of_ble_eq_true rfl, Nat.le_of_ble_eq_true rfl⟩ (Nat.le_of_ble_eq_true rfl) hS (fun _ h9 => h9) (fun v9 H locs hq hz9 hfr9 hS => ?_)
  obtain ⟨rfl, hP⟩ := hq
  refine lv_if_eq (tgt := 32) hx hb dX8_load_27 (by decide) (fun c_27 => ?_) (fun c_27 => ?_)
  rotate_left
  · exact absurd c_27 (by decide)
  refine lv_aload_n hx hb dX8_load_32 rfl (lv_at hl 0 rfl) ?_
  refine lv_iconst (v := 0) hx hb dX8_load_33 rfl ?_
  refine pf_X8_35 E hG hP.1 (Nat.le_of_ble_eq_true rfl) rfl rfl hS ⟨0, by decide, rfl⟩ dX8_load_34 (fun H locs ho hz oq hS => ?_)
  have hP : MW G B (fm 0 0 tl ps er ea eo (nI u) ns ne se) bf da dr hi sk H := hP.setO hD ho oq
  refine lv_aload_n hx hb dX8_load_37 rfl (lv_at hl 0 rfl) ?_
  refine lv_iload_n hx hb dX8_load_38 rfl (lv_at hl 1 rfl) ?_
  refine lv_ci (y := nI n) ex ?_
  refine pf_X8_38 E hG hP.1 (Nat.le_of_ble_eq_true rfl) rfl rfl hS ⟨0, by decide, rfl⟩ dX8_load_39 (fun H locs ho hz oq hS => ?_)
  have hP : MW G B (fm 0 0 (nI n) ps er ea eo (nI u) ns ne se) bf da dr hi sk H := hP.setO hD ho oq
  refine lv_aload_n hx hb dX8_load_42 rfl (lv_at hl 0 rfl) ?_
  refine lv_iconst (v := 0) hx hb dX8_load_43 rfl ?_
  refine lv_ci (y := nI 0) rfl ?_
  refine pf_X8_41 E hG hP.1 (Nat.le_of_ble_eq_true rfl) rfl rfl hS ⟨0, by decide, rfl⟩ dX8_load_44 (fun H locs ho hz oq hS => ?_)
  have hP : MW G B (fm 0 0 (nI n) (nI 0) er ea eo (nI u) ns ne se) bf da dr hi sk H := hP.setO hD ho oq
  refine lv_aload_n hx hb dX8_load_47 rfl (lv_at hl 0 rfl) ?_
  refine lv_iconst (v := 0) hx hb dX8_load_48 rfl ?_
  refine pf_X8_48 E hG hP.1 (Nat.le_of_ble_eq_true rfl) rfl rfl hS ⟨0, by decide, rfl⟩ dX8_load_49 (fun H locs ho hz oq hS => ?_)
  have hP : MW G B (fm 0 0 (nI n) (nI 0) 0 ea eo (nI u) ns ne se) bf da dr hi sk H := hP.setO hD ho oq
  refine lv_aload_n hx hb dX8_load_52 rfl (lv_at hl 0 rfl) ?_
  refine lv_iconst (v := (-1)) hx hb dX8_load_53 rfl ?_
  refine pf_X8_51 E hG hP.1 (Nat.le_of_ble_eq_true rfl) rfl rfl hS ⟨0, by decide, rfl⟩ dX8_load_54 (fun H locs ho hz oq hS => ?_)
  have hP : MW G B (fm 0 0 (nI n) (nI 0) 0 (-1) eo (nI u) ns ne se) bf da dr hi sk H := hP.setO hD ho oq
  refine lv_aload_n hx hb dX8_load_57 rfl (lv_at hl 0 rfl) ?_
  refine lv_iconst (v := 0) hx hb dX8_load_58 rfl ?_
  refine lv_ci (y := nI 0) rfl ?_
  refine pf_X8_91 E hG hP.1 (Nat.le_of_ble_eq_true rfl) rfl rfl hS ⟨0, by decide, rfl⟩ dX8_load_59 (fun H locs ho hz oq hS => ?_)
  have hP : MW G B (fm 0 0 (nI n) (nI 0) 0 (-1) eo (nI u) ns (nI 0) se) bf da dr hi sk H := hP.setO hD ho oq
  refine lv_aload_n hx hb dX8_load_62 rfl (lv_at hl 0 rfl) ?_
  refine lv_iconst (v := 0) hx hb dX8_load_63 rfl ?_
  refine pf_X8_123 E hG hP.1 (Nat.le_of_ble_eq_true rfl) rfl rfl hS ⟨0, by decide, rfl⟩ dX8_load_64 (fun H locs ho hz oq hS => ?_)
  have hP : MW G B (fm 0 0 (nI n) (nI 0) 0 (-1) eo (nI u) ns (nI 0) 0) bf da dr hi sk H := hP.setO hD ho oq
  refine lv_iconst (v := 0) hx hb dX8_load_67 rfl ?_
  refine lv_ci (y := nI 0) (ixq rfl) ?_
  refine lv_istore_n (lv' := [(2, .int (nI 0)), (0, .ref (B 0)), (1, .int x)]) hx hb dX8_load_68 rfl hl (by decide) rfl (fun ls hl => ?_)
  refine W.cutP (P9 := fun H locs => MW G B (fm 0 0 (nI n) (nI 0) 0 (-1) eo (nI u) ns (nI 0) 0) bf da (fun _ => 0) hi sk H ∧ va_S (MA B) s.heap H locs) (nL := 3) (pc := 89) (lv := [(0, .ref (B 0)), (1, .int x)]) (fun K => ?_) (fun H locs hPS ls hl => ?_)
  · have loop : ∀ (j k : Nat) (g : Nat → Int32), 1798 < k + j → k ≤ 1798 → (∀ i, i < k → g i = 0) → ∀ (H : Heap) (locs : List Loc), MW G B (fm 0 0 (nI n) (nI 0) 0 (-1) eo (nI u) ns (nI 0) 0) bf da g hi sk H → va_S (MA B) s.heap H locs → ∀ ls : Array Slot, lv_has ls 3 [(2, .int (nI k)), (0, .ref (B 0)), (1, .int x)] → W p l e { frames := 21, cells := 0, slots := 0, locals := 453 } s m ([.ref (B 0), .int x] : List Value).toArray below meth c H locs 0 0 (WQ below ([.ref (B 0), .int x] : List Value).toArray s 0 0 (MA B) (fun v9 H9 => (∃ c9 o9, (ldF bf n) = .error (c9, o9) ∧ ¬ c9 = 0 ∧ o9 ≤ n ∧ v9 = some (.int c9) ∧ ∃ ps er ea ns ne se dr1, MW G B (fm 0 0 (nI n) ps er ea (nI o9) (nI u) ns ne se) bf da dr1 hi sk H9) ∨ (∃ s9 y9, (ldF bf n) = .ok (s9, y9) ∧ LD y9 ∧ v9 = some (.int (y9.1 0)) ∧ ∃ ps er ea ns ne se dr1, MW G B (fm 0 0 (nI n) ps er ea (-1) (nI (remU u)) ns ne se) bf y9.1 dr1 (remH hi da u) sk H9))) (F0 m 69 ls []) := by
      intro j
      induction j with
      | zero => intro k g z1 z2; omega
      | succ j ih =>
        intro k g z1 z2 z3 H locs hP hS ls hl
        refine lv_iload_n hx hb dX8_load_69 rfl (lv_at hl 0 rfl) ?_
        refine lv_sipush (v := 1798) hx hb dX8_load_70 rfl ?_
        refine lv_icmp_ge (tgt := 89) hx hb dX8_load_73 (by decide) (fun c_73 => ?_) (fun c_73 => ?_)
        · have c_73 : 1798 ≤ k := (nLE (x := 1798) (y := (nI k)) (a := 1798) (b := k) rfl rfl (by omega) (by omega)).mp c_73
          exact K H locs ⟨⟨hP.1, hP.2.1, hP.2.2.1, At.congr hP.2.2.2.1 (fun i9 h9 => z3 i9 (by omega)), hP.2.2.2.2⟩, hS⟩ ls (lv_sub hl [1, 2] rfl)
        · have c_73 : ¬ 1798 ≤ k := fun z9 => c_73 ((nLE (x := 1798) (y := (nI k)) (a := 1798) (b := k) rfl rfl (by omega) (by omega)).mpr z9)
          refine lv_aload_n hx hb dX8_load_76 rfl (lv_at hl 1 rfl) ?_
          refine gf_X8_20 (v := .ref (B 3)) E hG hP.1 rfl dX8_load_77 ?_
          refine lv_iload_n hx hb dX8_load_80 rfl (lv_at hl 0 rfl) ?_
          refine lv_iconst (v := 0) hx hb dX8_load_81 rfl ?_
          refine g_ist k E hG hP.2.2.2.1 rfl (by omega) (by decide) hS ⟨3, by decide, rfl⟩ dX8_load_82 (fun H locs ho hz oq hS => ?_)
          have hP : MW G B (fm 0 0 (nI n) (nI 0) 0 (-1) eo (nI u) ns (nI 0) 0) bf da (upd g k 0) hi sk H := hP.setR hD ho oq
          refine lv_iinc (v := (nI (k + 1))) (lv' := [(2, .int (nI (k + 1))), (0, .ref (B 0)), (1, .int x)]) hx hb dX8_load_83 hl (k := 0) rfl (nI_ad rfl rfl) (by decide) rfl (fun ls hl => ?_)
          refine lv_goto (tgt := 69) hx hb dX8_load_86 (by decide) ?_
          exact ih (k + 1) _ (by omega) (by omega) (fun i h1 => by by_cases h2 : i = k; (rw [h2]; exact pk_us); (rw [pk_un h2]; exact z3 i (by omega))) H locs hP hS ls (lv_sub hl [0, 1, 2] rfl)
    exact loop 1799 0 dr (by omega) (by omega) (fun i h1 => absurd h1 (Nat.not_lt_zero i)) _ _ hP hS ls (lv_sub hl [0, 1, 2] rfl)
  obtain ⟨hP, hS⟩ := hPS
  have loop : ∀ (j q1 : Nat) (ns se1 : Int32) (dr1 : Nat → Int32) (nc nh : Nat), n < spc bf n q1 + j → q1 ≤ n → lpS bf n j (spc bf n q1) (dr1, nc, nh) = (ldF bf n) → LD (dr1, nc, nh) → se1 = dr1 4 → ∀ (H : Heap) (locs : List Loc), MW G B (fm 0 0 (nI n) (nI q1) 0 (-1) eo (nI u) ns (nI 0) se1) bf da dr1 hi sk H → va_S (MA B) s.heap H locs → ∀ ls : Array Slot, lv_has ls 3 [(0, .ref (B 0)), (1, .int x)] → W p l e { frames := 21, cells := 0, slots := 0, locals := 453 } s m ([.ref (B 0), .int x] : List Value).toArray below meth c H locs 0 0 (WQ below ([.ref (B 0), .int x] : List Value).toArray s 0 0 (MA B) (fun v9 H9 => (∃ c9 o9, (ldF bf n) = .error (c9, o9) ∧ ¬ c9 = 0 ∧ o9 ≤ n ∧ v9 = some (.int c9) ∧ ∃ ps er ea ns ne se dr1, MW G B (fm 0 0 (nI n) ps er ea (nI o9) (nI u) ns ne se) bf da dr1 hi sk H9) ∨ (∃ s9 y9, (ldF bf n) = .ok (s9, y9) ∧ LD y9 ∧ v9 = some (.int (y9.1 0)) ∧ ∃ ps er ea ns ne se dr1, MW G B (fm 0 0 (nI n) ps er ea (-1) (nI (remU u)) ns ne se) bf y9.1 dr1 (remH hi da u) sk H9))) (F0 m 89 ls []) := by
    intro j
    induction j with
    | zero => intro q1 ns se1 dr1 nc nh z1 z2; have := sk_b (bf := bf) z2; omega
    | succ j ih =>
      intro q1 ns se1 dr1 nc nh z1 hqq z3 z4 z5 H locs hP hS ls hl
      have hsb := sk_b (bf := bf) hqq
      refine lv_aload_n hx hb dX8_load_89 rfl (lv_at hl 0 rfl) ?_
      refine Rd.callV (rest := []) (c_X8_isGood l G) yk_X8_isGood E km_X8_58 dX8_load_90 hG (hE.S hS hD.efa) hP (At.recv hG hP.1 rfl) rfl rfl hl.1 ⟨Nat.le_of_ble_eq_true rfl, Nat.le_of_ble_eq_true rfl⟩ ⟨Nat.zero_le _, Nat.zero_le _⟩ (Nat.le_of_ble_eq_true rfl) ?_
      refine lv_ci (y := 1) (if_pos rfl) ?_
      refine lv_if_eq (tgt := 111) hx hb dX8_load_93 (by decide) (fun c_93 => ?_) (fun c_93 => ?_)
      · exact absurd c_93 (by decide)
      refine lv_aload_n hx hb dX8_load_96 rfl (lv_at hl 0 rfl) ?_
      refine Wr.callV (rest := []) (c_X8_next l G hD n q1 hn9 (by omega)) yk_X8_next E km_X8_62 dX8_load_97 hG (hE.S hS hD.efa) hP (At.recv hG hP.1 rfl) rfl rfl hl.1 ⟨Nat.le_of_ble_eq_true rfl, Nat.le_of_ble_eq_true rfl⟩ ⟨Nat.le_of_ble_eq_true rfl, Nat.le_of_ble_eq_true rfl⟩ (Nat.le_of_ble_eq_true rfl) hS (fun _ h9 => h9) (fun v9 H locs hq hz9 hfr9 hS => ?_)
      obtain ⟨rfl, hP⟩ := hq
      refine lv_iconst (v := (-1)) hx hb dX8_load_100 rfl ?_
      refine lv_icmp_eq (tgt := 111) hx hb dX8_load_101 (by decide) (fun c_101 => ?_) (fun c_101 => ?_)
      · have hend := (bt_end hB).mp c_101
        have ef := lpS_n (bf := bf) (x := (dr1, nc, nh)) (j := j) hend
        refine lv_aload_n hx hb dX8_load_111 rfl (lv_at hl 0 rfl) ?_
        refine lv_aload_n hx hb dX8_load_112 rfl (lv_at hl 0 rfl) ?_
        refine gf_X8_51 (v := .int (-1)) E hG hP.1 rfl dX8_load_113 ?_
        refine pf_X8_13 E hG hP.1 (Nat.le_of_ble_eq_true rfl) rfl rfl hS ⟨0, by decide, rfl⟩ dX8_load_116 (fun H locs ho hz oq hS => ?_)
        have hP : MW G B (fm 0 0 (nI n) (nI (spc bf n q1)) 0 (-1) (-1) (nI u) ns (nI 0) se1) bf da dr1 hi sk H := hP.setO hD ho oq
        refine lv_aload_n hx hb dX8_load_119 rfl (lv_at hl 0 rfl) ?_
        refine Rd.callV (rest := []) (c_X8_isGood l G) yk_X8_isGood E km_X8_58 dX8_load_120 hG (hE.S hS hD.efa) hP (At.recv hG hP.1 rfl) rfl rfl hl.1 ⟨Nat.le_of_ble_eq_true rfl, Nat.le_of_ble_eq_true rfl⟩ ⟨Nat.zero_le _, Nat.zero_le _⟩ (Nat.le_of_ble_eq_true rfl) ?_
        refine lv_ci (y := 1) (if_pos rfl) ?_
        refine lv_if_ne (tgt := 131) hx hb dX8_load_123 (by decide) (fun c_123 => ?_) (fun c_123 => ?_)
        · refine lv_aload_n hx hb dX8_load_131 rfl (lv_at hl 0 rfl) ?_
          refine Wr.callV (rest := []) (c_X8_remember l G hD u hu) yk_X8_remember E km_X8_160 dX8_load_132 hG (hE.S hS hD.efa) hP (At.recv hG hP.1 rfl) rfl rfl hl.1 ⟨Nat.le_of_ble_eq_true rfl, Nat.le_of_ble_eq_true rfl⟩ ⟨Nat.le_of_ble_eq_true rfl, Nat.le_of_ble_eq_true rfl⟩ (Nat.le_of_ble_eq_true rfl) hS (fun _ h9 => h9) (fun v9 H locs hq hz9 hfr9 hS => ?_)
          obtain ⟨rfl, hP⟩ := hq
          refine lv_aload_n hx hb dX8_load_135 rfl (lv_at hl 0 rfl) ?_
          refine gf_X8_20 (v := .ref (B 3)) E hG hP.1 rfl dX8_load_136 ?_
          refine lv_aload_n hx hb dX8_load_139 rfl (lv_at hl 0 rfl) ?_
          refine gf_X8_17 (v := .ref (B 2)) E hG hP.1 rfl dX8_load_140 ?_
          refine Wr.callS (rest := []) (c_X8_copy l G (B 3) (B 2) dr1 da (hD.ne (by omega) (by omega) (by omega))) yk_X8_copy E km_X8_163 dX8_load_143 hG (hE.S hS hD.efa) ⟨hP.2.2.2.1, hP.2.2.1⟩ rfl rfl hl.1 ⟨Nat.le_of_ble_eq_true rfl, Nat.le_of_ble_eq_true rfl⟩ ⟨Nat.le_of_ble_eq_true rfl, Nat.le_of_ble_eq_true rfl⟩ (Nat.le_of_ble_eq_true rfl) hS (fun q9 h9 => ⟨2, by omega, h9⟩) (fun v9 H locs hq hz9 hfr9 hS => ?_)
          obtain ⟨rfl, ho⟩ := hq
          have hP : MW G B (fm 0 0 (nI n) (nI (spc bf n q1)) 0 (-1) (-1) (nI (remU u)) ns (nI 0) se1) bf dr1 dr1 (remH hi da u) sk H := hP.setD2 hD ho hfr9
          refine lv_aload_n hx hb dX8_load_146 rfl (lv_at hl 0 rfl) ?_
          refine gf_X8_17 (v := .ref (B 2)) E hG hP.1 rfl dX8_load_147 ?_
          refine lv_iconst (v := 0) hx hb dX8_load_150 rfl ?_
          refine g_ild 0 E hG hP.2.2.1 rfl (by omega) (by decide) dX8_load_151 ?_
          exact wr_int E hr hk hS (by decide) (by decide) (Or.inr ⟨_, (dr1, nc, nh), by rw [← z3, ef], z4, rfl, _, _, _, _, _, _, _, hP⟩) dX8_load_152
        · exact absurd c_123 (by decide)
      · have hend : ¬ n ≤ spc bf n q1 := fun z9 => c_101 (bt_out z9)
        refine lv_aload_n hx hb dX8_load_104 rfl (lv_at hl 0 rfl) ?_
        refine Wr.callV (rest := []) (c_X8_statement l G hD n (spc bf n q1) hn9 hsb.2 hB nc nh z4 z5) yk_X8_statement E km_X8_157 dX8_load_105 hG (hE.S hS hD.efa) hP (At.recv hG hP.1 rfl) rfl rfl hl.1 ⟨Nat.le_of_ble_eq_true rfl, Nat.le_of_ble_eq_true rfl⟩ ⟨Nat.le_of_ble_eq_true rfl, Nat.le_of_ble_eq_true rfl⟩ (Nat.le_of_ble_eq_true rfl) hS (fun _ h9 => h9) (fun v9 H locs hq hz9 hfr9 hS => ?_)
        obtain ⟨rfl, ps, er, ea, ns, se2, dr2, hP, hRK, hdr⟩ := hq
        rw [sk_ii] at hRK hdr
        rcases hst : stF bf n (spc bf n q1) (dr1, nc, nh) with ⟨c7, o7⟩ | ⟨s7, y7⟩
        · rw [hst] at hRK
          have he9 : ¬ er = 0 := by rw [hRK.1]; exact hRK.2.1
          obtain ⟨her, hc7, hea, ho7⟩ := hRK
          subst hea
          refine lv_goto (tgt := 89) hx hb dX8_load_108 (by decide) ?_
          refine lv_aload_n hx hb dX8_load_89 rfl (lv_at hl 0 rfl) ?_
          refine Rd.callV (rest := []) (c_X8_isGood l G) yk_X8_isGood E km_X8_58 dX8_load_90 hG (hE.S hS hD.efa) hP (At.recv hG hP.1 rfl) rfl rfl hl.1 ⟨Nat.le_of_ble_eq_true rfl, Nat.le_of_ble_eq_true rfl⟩ ⟨Nat.zero_le _, Nat.zero_le _⟩ (Nat.le_of_ble_eq_true rfl) ?_
          refine lv_ci (y := 0) (if_neg he9) ?_
          refine lv_if_eq (tgt := 111) hx hb dX8_load_93 (by decide) (fun c_93 => ?_) (fun c_93 => ?_)
          · refine lv_aload_n hx hb dX8_load_111 rfl (lv_at hl 0 rfl) ?_
            refine lv_aload_n hx hb dX8_load_112 rfl (lv_at hl 0 rfl) ?_
            refine gf_X8_51 (v := .int (nI o7)) E hG hP.1 rfl dX8_load_113 ?_
            refine pf_X8_13 E hG hP.1 (Nat.le_of_ble_eq_true rfl) rfl rfl hS ⟨0, by decide, rfl⟩ dX8_load_116 (fun H locs ho hz oq hS => ?_)
            have hP : MW G B (fm 0 0 (nI n) ps er (nI o7) (nI o7) (nI u) ns (nI 0) se2) bf da dr2 hi sk H := hP.setO hD ho oq
            refine lv_aload_n hx hb dX8_load_119 rfl (lv_at hl 0 rfl) ?_
            refine Rd.callV (rest := []) (c_X8_isGood l G) yk_X8_isGood E km_X8_58 dX8_load_120 hG (hE.S hS hD.efa) hP (At.recv hG hP.1 rfl) rfl rfl hl.1 ⟨Nat.le_of_ble_eq_true rfl, Nat.le_of_ble_eq_true rfl⟩ ⟨Nat.zero_le _, Nat.zero_le _⟩ (Nat.le_of_ble_eq_true rfl) ?_
            refine lv_ci (y := 0) (if_neg he9) ?_
            refine lv_if_ne (tgt := 131) hx hb dX8_load_123 (by decide) (fun c_123 => ?_) (fun c_123 => ?_)
            · exact absurd c_123 (by decide)
            · refine lv_aload_n hx hb dX8_load_126 rfl (lv_at hl 0 rfl) ?_
              refine gf_X8_48 (v := .int er) E hG hP.1 rfl dX8_load_127 ?_
              exact wr_int E hr hk hS (by decide) (by decide) (Or.inl ⟨c7, o7, by rw [← z3, lpS_e hend hst], hc7, ho7, by rw [her], _, _, _, _, _, _, _, hP⟩) dX8_load_130
          · exact absurd c_93 (by decide)
        · rw [hst] at hRK
          obtain ⟨her, hea, q2, hps, hq2, hs2⟩ := hRK
          have hd := hdr _ _ hst
          obtain ⟨d7, n7, k7⟩ := y7
          obtain ⟨e1, e2⟩ := hd
          have e1 : dr2 = d7 := e1
          subst her hea hps hs2 e1
          have hw := ld_st hB hn9 hsb.2 z4 hst
          refine lv_goto (tgt := 89) hx hb dX8_load_108 (by decide) ?_
          exact ih q2 _ _ _ n7 k7 (by have := hw.2.1; omega) hq2 (by rw [← z3, lpS_o hend hst]) hw.1 e2 H locs hP hS ls (lv_sub hl [0, 1] rfl)
  exact loop (n + 1) 0 _ _ _ 0 0 (by omega) (by omega) rfl LD_0 rfl H locs hP hS ls hl
