/-! READING: the reference's factor, at every depth -/
theorem numF_x {bf : Nat → Int32} {n s : Nat} {lo hi : Int32} (h : ¬ inV (bt bf n s) 48 57 = 1) : numF bf n lo hi s = .error (-2, s) := if_neg h
set_option maxHeartbeats 4000000 in
set_option maxRecDepth 100000 in
/-- factor, as deep as can be -/
theorem c_X8_factor_0 (l : Launch) (G : CG) {B : Nat → Nat} {t bl eo ud ns se : Int32} {bf da : Nat → Int32} {hi : Nat → Nat → Int32} {sk : Nat → Int64} (hD : MD G B) (n q : Nat) (hn9 : n ≤ 900) (hq9 : q ≤ n) (hB : ByO bf) {d0 : Nat → Int32} (C : List Int32) (hC : 2 * C.length ≤ 3 * spc bf n q) : Wr l yX8_factor cX8_factor 4 ((Option.none : Option FieldType)) 5 107 0 0 G [.ref (B 0)] (MW G B (fm t bl (nI n) (nI q) 0 (-1) eo ud ns (nI 4) se) bf da (emC d0 C) hi sk) (MA B) (fun v9 H9 => v9 = none ∧ ∃ ps er ea ns dr1, MW G B (fm t bl (nI n) ps er ea eo ud ns (nI 4) se) bf da dr1 hi sk H9 ∧ RK bf n (pl (fcF bf n 0 (spc bf n q))) ps er ea ∧ ∀ s9 L9, (fcF bf n 0 (spc bf n q)) = .ok (s9, L9) → dr1 = emC d0 (C ++ exL L9)) := by
  refine Wr.ofW (by decide) (Nat.le_of_ble_eq_true rfl) (fun p e s m below meth c ls E hG hE hP hr hk hin hl => ?_)
  have hS : va_S (MA B) s.heap s.heap [] := va_S.rf
  have hx := E.1
  have hb := E.2.1
  have hl : lv_has ls 4 [(0, .ref (B 0))] := hl
  refine lv_aload_n hx hb dX8_factor_0 rfl (lv_at hl 0 rfl) ?_
  refine Rd.callV (rest := []) (c_X8_isGood l G) yk_X8_isGood E km_X8_58 dX8_factor_1 hG (hE.S hS hD.efa) hP (At.recv hG hP.1 rfl) rfl rfl hl.1 ⟨Nat.le_of_ble_eq_true rfl, Nat.le_of_ble_eq_true rfl⟩ ⟨Nat.zero_le _, Nat.zero_le _⟩ (Nat.le_of_ble_eq_true rfl) ?_
  refine lv_ci (y := 1) (if_pos rfl) ?_
  refine lv_if_ne (tgt := 8) hx hb dX8_factor_4 (by decide) (fun c_4 => ?_) (fun c_4 => ?_)
  rotate_left
  · exact absurd c_4 (by decide)
  refine lv_aload_n hx hb dX8_factor_8 rfl (lv_at hl 0 rfl) ?_
  refine Wr.callV (rest := []) (c_X8_next l G hD n q hn9 (by omega)) yk_X8_next E km_X8_62 dX8_factor_9 hG (hE.S hS hD.efa) hP (At.recv hG hP.1 rfl) rfl rfl hl.1 ⟨Nat.le_of_ble_eq_true rfl, Nat.le_of_ble_eq_true rfl⟩ ⟨Nat.le_of_ble_eq_true rfl, Nat.le_of_ble_eq_true rfl⟩ (Nat.le_of_ble_eq_true rfl) hS (fun _ h9 => h9) (fun v9 H locs hq hz9 hfr9 hS => ?_)
  obtain ⟨rfl, hP⟩ := hq
  refine lv_istore_n (lv' := [(1, .int (bt bf n (spc bf n q))), (0, .ref (B 0))]) hx hb dX8_factor_12 rfl hl (by decide) rfl (fun ls hl => ?_)
  refine lv_iload_n hx hb dX8_factor_13 rfl (lv_at hl 0 rfl) ?_
  refine lv_bipush (v := 40) hx hb dX8_factor_14 rfl ?_
  refine lv_icmp_ne (tgt := 78) hx hb dX8_factor_16 (by decide) (fun c_16 => ?_) (fun c_16 => ?_)
  · have hfo : fcF bf n 0 (spc bf n q) = opF bf n (spc bf n q) := fcF_o c_16
    have hqq := hq9
    have hsb := sk_b (bf := bf) hq9
    refine lv_iload_n hx hb dX8_factor_78 rfl (lv_at hl 0 rfl) ?_
    refine Rd.callS (rest := []) (c_X8_isDigit l G (bt bf n (spc bf n q))) yk_X8_isDigit E km_X8_79 dX8_factor_79 hG (hE.S hS hD.efa) trivial rfl rfl hl.1 ⟨Nat.le_of_ble_eq_true rfl, Nat.le_of_ble_eq_true rfl⟩ ⟨Nat.zero_le _, Nat.zero_le _⟩ (Nat.le_of_ble_eq_true rfl) ?_
    refine lv_if_eq (tgt := 89) hx hb dX8_factor_82 (by decide) (fun c_82 => ?_) (fun c_82 => ?_)
    · have c9 : ¬ inV (bt bf n (spc bf n q)) 48 57 = 1 := by rw [c_82]; decide
      have hRK : RK bf n (pl ((.ok (spc bf n q, [])) : Rr)) (nI (spc bf n q)) 0 (-1) := ⟨rfl, rfl, (spc bf n q), rfl, hsb.2, sk_ii bf n q⟩
      refine lv_aload_n hx hb dX8_factor_89 rfl (lv_at hl 1 rfl) ?_
      refine va_ldcS hx hb E.2.2.2.1 (hG.2.2.2.2.2.1 (RX8, 101, "amount", 26) (by decide +kernel)) dX8_factor_90 ?_
      refine Wr.callV (rest := []) (c_X8_takeWord_u l G hD n hn9 (isT_r (i := 6) (by decide)) (txt_A (i := 6) (by decide)).1 (txt_A (i := 6) (by decide)).2 (txt_L (i := 6) (by decide)) (.ok (spc bf n q, [])) hRK) yk_X8_takeWord E km_X8_103 dX8_factor_92 hG (hE.S hS hD.efa) hP (At.recv hG hP.1 rfl) rfl rfl hl.1 ⟨Nat.le_of_ble_eq_true rfl, Nat.le_of_ble_eq_true rfl⟩ ⟨Nat.le_of_ble_eq_true rfl, Nat.le_of_ble_eq_true rfl⟩ (Nat.le_of_ble_eq_true rfl) hS (fun _ h9 => h9) (fun v9 H locs hq hz9 hfr9 hS => ?_)
      obtain ⟨v_1, ps, er, ea, rfl, hP, hRK, hv_1, hb_1⟩ := hq
      rcases hb_1 with ⟨hv0, hb0⟩ | ⟨hv1, s8, L8, e8, hw8⟩
      · have h6 : ¬ isW bf n (spc bf n q) (txt 6) := hb0 _ _ rfl
        rw [wdL_no h6] at hRK
        obtain ⟨her, hea, q6, hps, hq6, hs6⟩ := hRK
        subst her hea hps
        have hRK : RK bf n (pl ((.ok (spc bf n q, [])) : Rr)) (nI q6) 0 (-1) := ⟨rfl, rfl, q6, rfl, hq6, hs6⟩
        refine lv_if_eq (tgt := 102) hx hb dX8_factor_95 (by decide) (fun c_95 => ?_) (fun c_95 => ?_)
        rotate_left
        · exact (by rw [hv0] at c_95; exact absurd c_95 (by decide))
        refine lv_aload_n hx hb dX8_factor_102 rfl (lv_at hl 1 rfl) ?_
        refine va_ldcS hx hb E.2.2.2.1 (hG.2.2.2.2.2.1 (RX8, 107, "days", 27) (by decide +kernel)) dX8_factor_103 ?_
        refine Wr.callV (rest := []) (c_X8_takeWord_u l G hD n hn9 (isT_r (i := 7) (by decide)) (txt_A (i := 7) (by decide)).1 (txt_A (i := 7) (by decide)).2 (txt_L (i := 7) (by decide)) (.ok (spc bf n q, [])) hRK) yk_X8_takeWord E km_X8_103 dX8_factor_105 hG (hE.S hS hD.efa) hP (At.recv hG hP.1 rfl) rfl rfl hl.1 ⟨Nat.le_of_ble_eq_true rfl, Nat.le_of_ble_eq_true rfl⟩ ⟨Nat.le_of_ble_eq_true rfl, Nat.le_of_ble_eq_true rfl⟩ (Nat.le_of_ble_eq_true rfl) hS (fun _ h9 => h9) (fun v9 H locs hq hz9 hfr9 hS => ?_)
        obtain ⟨v_2, ps, er, ea, rfl, hP, hRK, hv_2, hb_2⟩ := hq
        rcases hb_2 with ⟨hv0, hb0⟩ | ⟨hv1, s8, L8, e8, hw8⟩
        · have h7 : ¬ isW bf n (spc bf n q) (txt 7) := hb0 _ _ rfl
          rw [wdL_no h7] at hRK
          obtain ⟨her, hea, q7, hps, hq7, hs7⟩ := hRK
          subst her hea hps
          have hRK : RK bf n (pl ((.ok (spc bf n q, [])) : Rr)) (nI q7) 0 (-1) := ⟨rfl, rfl, q7, rfl, hq7, hs7⟩
          refine lv_if_eq (tgt := 115) hx hb dX8_factor_108 (by decide) (fun c_108 => ?_) (fun c_108 => ?_)
          rotate_left
          · exact (by rw [hv0] at c_108; exact absurd c_108 (by decide))
          refine lv_aload_n hx hb dX8_factor_115 rfl (lv_at hl 1 rfl) ?_
          refine va_ldcS hx hb E.2.2.2.1 (hG.2.2.2.2.2.1 (RX8, 109, "errors", 28) (by decide +kernel)) dX8_factor_116 ?_
          refine Wr.callV (rest := []) (c_X8_takeWord_u l G hD n hn9 (isT_r (i := 8) (by decide)) (txt_A (i := 8) (by decide)).1 (txt_A (i := 8) (by decide)).2 (txt_L (i := 8) (by decide)) (.ok (spc bf n q, [])) hRK) yk_X8_takeWord E km_X8_103 dX8_factor_118 hG (hE.S hS hD.efa) hP (At.recv hG hP.1 rfl) rfl rfl hl.1 ⟨Nat.le_of_ble_eq_true rfl, Nat.le_of_ble_eq_true rfl⟩ ⟨Nat.le_of_ble_eq_true rfl, Nat.le_of_ble_eq_true rfl⟩ (Nat.le_of_ble_eq_true rfl) hS (fun _ h9 => h9) (fun v9 H locs hq hz9 hfr9 hS => ?_)
          obtain ⟨v_3, ps, er, ea, rfl, hP, hRK, hv_3, hb_3⟩ := hq
          rcases hb_3 with ⟨hv0, hb0⟩ | ⟨hv1, s8, L8, e8, hw8⟩
          · have h8 : ¬ isW bf n (spc bf n q) (txt 8) := hb0 _ _ rfl
            rw [wdL_no h8] at hRK
            obtain ⟨her, hea, q8, hps, hq8, hs8⟩ := hRK
            subst her hea hps
            have hRK : RK bf n (pl ((.ok (spc bf n q, [])) : Rr)) (nI q8) 0 (-1) := ⟨rfl, rfl, q8, rfl, hq8, hs8⟩
            refine lv_if_eq (tgt := 128) hx hb dX8_factor_121 (by decide) (fun c_121 => ?_) (fun c_121 => ?_)
            rotate_left
            · exact (by rw [hv0] at c_121; exact absurd c_121 (by decide))
            refine lv_iconst (v := (-1)) hx hb dX8_factor_128 rfl ?_
            refine lv_istore_n (lv' := [(2, .int (-1)), (1, .int (bt bf n (spc bf n q))), (0, .ref (B 0))]) hx hb dX8_factor_129 rfl hl (by decide) rfl (fun ls hl => ?_)
            refine lv_iload_n hx hb dX8_factor_130 rfl (lv_at hl 0 rfl) ?_
            refine lv_if_ge (tgt := 145) hx hb dX8_factor_131 (by decide) (fun c_131 => ?_) (fun c_131 => ?_)
            · exact absurd c_131 (by decide)
            refine lv_aload_n hx hb dX8_factor_134 rfl (lv_at hl 2 rfl) ?_
            refine lv_iconst (v := 0) hx hb dX8_factor_135 rfl ?_
            refine lv_sipush (v := 9999) hx hb dX8_factor_136 rfl ?_
            refine Wr.callV (rest := []) (c_X8_number_u l G hD hB n hn9 (.ok (spc bf n q, [])) hRK 0 9999) yk_X8_number E km_X8_111 dX8_factor_139 hG (hE.S hS hD.efa) hP (At.recv hG hP.1 rfl) rfl rfl hl.1 ⟨Nat.le_of_ble_eq_true rfl, Nat.le_of_ble_eq_true rfl⟩ ⟨Nat.le_of_ble_eq_true rfl, Nat.le_of_ble_eq_true rfl⟩ (Nat.le_of_ble_eq_true rfl) hS (fun _ h9 => h9) (fun v9 H locs hq hz9 hfr9 hS => ?_)
            obtain ⟨v_4, ps, er, ea, ns, rfl, hP, hRK, hv_4⟩ := hq
            have hnu := numF_x (lo := 0) (hi := 9999) c9
            rw [nbL_er hnu] at hRK
            have he9 : ¬ er = 0 := by rw [hRK.1]; exact hRK.2.1
            refine lv_goto (tgt := 146) hx hb dX8_factor_142 (by decide) ?_
            refine lv_istore_n (lv' := [(3, .int v_4), (2, .int (-1)), (1, .int (bt bf n (spc bf n q))), (0, .ref (B 0))]) hx hb dX8_factor_146 rfl hl (by decide) rfl (fun ls hl => ?_)
            refine lv_aload_n hx hb dX8_factor_147 rfl (lv_at hl 3 rfl) ?_
            refine lv_iload_n hx hb dX8_factor_148 rfl (lv_at hl 1 rfl) ?_
            refine lv_if_ge (tgt := 156) hx hb dX8_factor_149 (by decide) (fun c_149 => ?_) (fun c_149 => ?_)
            · exact absurd c_149 (by decide)
            · refine lv_iconst (v := 0) hx hb dX8_factor_152 rfl ?_
              refine lv_goto (tgt := 157) hx hb dX8_factor_153 (by decide) ?_
              refine Wr.callV (rest := []) (c_X8_emit_b l G hD 0 he9) yk_X8_emit E km_X8_114 dX8_factor_157 hG (hE.S hS hD.efa) hP (At.recv hG hP.1 rfl) rfl rfl hl.1 ⟨Nat.le_of_ble_eq_true rfl, Nat.le_of_ble_eq_true rfl⟩ ⟨Nat.le_of_ble_eq_true rfl, Nat.le_of_ble_eq_true rfl⟩ (Nat.le_of_ble_eq_true rfl) hS (fun _ h9 => h9) (fun v9 H locs hq hz9 hfr9 hS => ?_)
              obtain ⟨rfl, hP⟩ := hq
              refine lv_aload_n hx hb dX8_factor_160 rfl (lv_at hl 3 rfl) ?_
              refine lv_iload_n hx hb dX8_factor_161 rfl (lv_at hl 0 rfl) ?_
              refine Wr.callV (rest := []) (c_X8_emit_b l G hD v_4 he9) yk_X8_emit E km_X8_114 dX8_factor_162 hG (hE.S hS hD.efa) hP (At.recv hG hP.1 rfl) rfl rfl hl.1 ⟨Nat.le_of_ble_eq_true rfl, Nat.le_of_ble_eq_true rfl⟩ ⟨Nat.le_of_ble_eq_true rfl, Nat.le_of_ble_eq_true rfl⟩ (Nat.le_of_ble_eq_true rfl) hS (fun _ h9 => h9) (fun v9 H locs hq hz9 hfr9 hS => ?_)
              obtain ⟨rfl, hP⟩ := hq
              exact wr_void E hr hk hS (by decide) (by decide) (⟨rfl, _, _, _, _, _, hP, by rw [hfo, opF_n c9 h6 h7 h8]; exact hRK, fun s9 L9 z => by rw [hfo, opF_n c9 h6 h7 h8] at z; cases z⟩) dX8_factor_165
          · cases e8
            rw [wdL_ok hw8] at hRK
            obtain ⟨her, hea, q2, hps, hq2, hs2⟩ := hRK
            subst her hea hps
            refine lv_if_eq (tgt := 128) hx hb dX8_factor_121 (by decide) (fun c_121 => ?_) (fun c_121 => ?_)
            · exact (by rw [hv1] at c_121; exact absurd c_121 (by decide))
            · refine lv_iconst (v := 2) hx hb dX8_factor_124 rfl ?_
              refine lv_goto (tgt := 129) hx hb dX8_factor_125 (by decide) ?_
              refine lv_istore_n (lv' := [(2, .int 2), (1, .int (bt bf n (spc bf n q))), (0, .ref (B 0))]) hx hb dX8_factor_129 rfl hl (by decide) rfl (fun ls hl => ?_)
              refine lv_iload_n hx hb dX8_factor_130 rfl (lv_at hl 0 rfl) ?_
              refine lv_if_ge (tgt := 145) hx hb dX8_factor_131 (by decide) (fun c_131 => ?_) (fun c_131 => ?_)
              · refine lv_iload_n hx hb dX8_factor_145 rfl (lv_at hl 0 rfl) ?_
                refine lv_istore_n (lv' := [(3, .int 2), (2, .int 2), (1, .int (bt bf n (spc bf n q))), (0, .ref (B 0))]) hx hb dX8_factor_146 rfl hl (by decide) rfl (fun ls hl => ?_)
                refine lv_aload_n hx hb dX8_factor_147 rfl (lv_at hl 3 rfl) ?_
                refine lv_iload_n hx hb dX8_factor_148 rfl (lv_at hl 1 rfl) ?_
                refine lv_if_ge (tgt := 156) hx hb dX8_factor_149 (by decide) (fun c_149 => ?_) (fun c_149 => ?_)
                · refine lv_iconst (v := 1) hx hb dX8_factor_156 rfl ?_
                  refine Wr.callV (rest := []) (c_X8_emit l G hD C.length (emC_5 d0 C) (by first | omega | (simp only [List.length_append, List.length_singleton]; omega)) 1) yk_X8_emit E km_X8_114 dX8_factor_157 hG (hE.S hS hD.efa) hP (At.recv hG hP.1 rfl) rfl rfl hl.1 ⟨Nat.le_of_ble_eq_true rfl, Nat.le_of_ble_eq_true rfl⟩ ⟨Nat.le_of_ble_eq_true rfl, Nat.le_of_ble_eq_true rfl⟩ (Nat.le_of_ble_eq_true rfl) hS (fun _ h9 => h9) (fun v9 H locs hq hz9 hfr9 hS => ?_)
                  obtain ⟨rfl, hP⟩ := hq
                  have hP : MW G B (fm t bl (nI n) (nI q2) 0 (-1) eo ud ns (nI 4) se) bf da (emC d0 (C ++ [1])) hi sk H := by rw [← emC_snoc]; exact hP
                  refine lv_aload_n hx hb dX8_factor_160 rfl (lv_at hl 3 rfl) ?_
                  refine lv_iload_n hx hb dX8_factor_161 rfl (lv_at hl 0 rfl) ?_
                  refine Wr.callV (rest := []) (c_X8_emit l G hD (C ++ [1]).length (emC_5 d0 (C ++ [1])) (by first | omega | (simp only [List.length_append, List.length_singleton]; omega)) 2) yk_X8_emit E km_X8_114 dX8_factor_162 hG (hE.S hS hD.efa) hP (At.recv hG hP.1 rfl) rfl rfl hl.1 ⟨Nat.le_of_ble_eq_true rfl, Nat.le_of_ble_eq_true rfl⟩ ⟨Nat.le_of_ble_eq_true rfl, Nat.le_of_ble_eq_true rfl⟩ (Nat.le_of_ble_eq_true rfl) hS (fun _ h9 => h9) (fun v9 H locs hq hz9 hfr9 hS => ?_)
                  obtain ⟨rfl, hP⟩ := hq
                  have hP : MW G B (fm t bl (nI n) (nI q2) 0 (-1) eo ud ns (nI 4) se) bf da (emC d0 ((C ++ [1]) ++ [2])) hi sk H := by rw [← emC_snoc]; exact hP
                  exact wr_void E hr hk hS (by decide) (by decide) (⟨rfl, _, _, _, _, _, hP, by rw [hfo, opF_8 c9 h6 h7 hw8]; exact ⟨rfl, rfl, q2, rfl, hq2, hs2⟩, fun s9 L9 z => by rw [hfo, opF_8 c9 h6 h7 hw8] at z; cases z; rw [exL_1, show exS (-3) = [1, 2] by decide]; simp only [List.append_assoc, List.cons_append, List.nil_append]⟩) dX8_factor_165
                · exact absurd c_149 (by decide)
              · exact absurd c_131 (by decide)
        · cases e8
          rw [wdL_ok hw8] at hRK
          obtain ⟨her, hea, q2, hps, hq2, hs2⟩ := hRK
          subst her hea hps
          refine lv_if_eq (tgt := 115) hx hb dX8_factor_108 (by decide) (fun c_108 => ?_) (fun c_108 => ?_)
          · exact (by rw [hv1] at c_108; exact absurd c_108 (by decide))
          · refine lv_iconst (v := 1) hx hb dX8_factor_111 rfl ?_
            refine lv_goto (tgt := 129) hx hb dX8_factor_112 (by decide) ?_
            refine lv_istore_n (lv' := [(2, .int 1), (1, .int (bt bf n (spc bf n q))), (0, .ref (B 0))]) hx hb dX8_factor_129 rfl hl (by decide) rfl (fun ls hl => ?_)
            refine lv_iload_n hx hb dX8_factor_130 rfl (lv_at hl 0 rfl) ?_
            refine lv_if_ge (tgt := 145) hx hb dX8_factor_131 (by decide) (fun c_131 => ?_) (fun c_131 => ?_)
            · refine lv_iload_n hx hb dX8_factor_145 rfl (lv_at hl 0 rfl) ?_
              refine lv_istore_n (lv' := [(3, .int 1), (2, .int 1), (1, .int (bt bf n (spc bf n q))), (0, .ref (B 0))]) hx hb dX8_factor_146 rfl hl (by decide) rfl (fun ls hl => ?_)
              refine lv_aload_n hx hb dX8_factor_147 rfl (lv_at hl 3 rfl) ?_
              refine lv_iload_n hx hb dX8_factor_148 rfl (lv_at hl 1 rfl) ?_
              refine lv_if_ge (tgt := 156) hx hb dX8_factor_149 (by decide) (fun c_149 => ?_) (fun c_149 => ?_)
              · refine lv_iconst (v := 1) hx hb dX8_factor_156 rfl ?_
                refine Wr.callV (rest := []) (c_X8_emit l G hD C.length (emC_5 d0 C) (by first | omega | (simp only [List.length_append, List.length_singleton]; omega)) 1) yk_X8_emit E km_X8_114 dX8_factor_157 hG (hE.S hS hD.efa) hP (At.recv hG hP.1 rfl) rfl rfl hl.1 ⟨Nat.le_of_ble_eq_true rfl, Nat.le_of_ble_eq_true rfl⟩ ⟨Nat.le_of_ble_eq_true rfl, Nat.le_of_ble_eq_true rfl⟩ (Nat.le_of_ble_eq_true rfl) hS (fun _ h9 => h9) (fun v9 H locs hq hz9 hfr9 hS => ?_)
                obtain ⟨rfl, hP⟩ := hq
                have hP : MW G B (fm t bl (nI n) (nI q2) 0 (-1) eo ud ns (nI 4) se) bf da (emC d0 (C ++ [1])) hi sk H := by rw [← emC_snoc]; exact hP
                refine lv_aload_n hx hb dX8_factor_160 rfl (lv_at hl 3 rfl) ?_
                refine lv_iload_n hx hb dX8_factor_161 rfl (lv_at hl 0 rfl) ?_
                refine Wr.callV (rest := []) (c_X8_emit l G hD (C ++ [1]).length (emC_5 d0 (C ++ [1])) (by first | omega | (simp only [List.length_append, List.length_singleton]; omega)) 1) yk_X8_emit E km_X8_114 dX8_factor_162 hG (hE.S hS hD.efa) hP (At.recv hG hP.1 rfl) rfl rfl hl.1 ⟨Nat.le_of_ble_eq_true rfl, Nat.le_of_ble_eq_true rfl⟩ ⟨Nat.le_of_ble_eq_true rfl, Nat.le_of_ble_eq_true rfl⟩ (Nat.le_of_ble_eq_true rfl) hS (fun _ h9 => h9) (fun v9 H locs hq hz9 hfr9 hS => ?_)
                obtain ⟨rfl, hP⟩ := hq
                have hP : MW G B (fm t bl (nI n) (nI q2) 0 (-1) eo ud ns (nI 4) se) bf da (emC d0 ((C ++ [1]) ++ [1])) hi sk H := by rw [← emC_snoc]; exact hP
                exact wr_void E hr hk hS (by decide) (by decide) (⟨rfl, _, _, _, _, _, hP, by rw [hfo, opF_7 c9 h6 hw8]; exact ⟨rfl, rfl, q2, rfl, hq2, hs2⟩, fun s9 L9 z => by rw [hfo, opF_7 c9 h6 hw8] at z; cases z; rw [exL_1, show exS (-2) = [1, 1] by decide]; simp only [List.append_assoc, List.cons_append, List.nil_append]⟩) dX8_factor_165
              · exact absurd c_149 (by decide)
            · exact absurd c_131 (by decide)
      · cases e8
        rw [wdL_ok hw8] at hRK
        obtain ⟨her, hea, q2, hps, hq2, hs2⟩ := hRK
        subst her hea hps
        refine lv_if_eq (tgt := 102) hx hb dX8_factor_95 (by decide) (fun c_95 => ?_) (fun c_95 => ?_)
        · exact (by rw [hv1] at c_95; exact absurd c_95 (by decide))
        · refine lv_iconst (v := 0) hx hb dX8_factor_98 rfl ?_
          refine lv_goto (tgt := 129) hx hb dX8_factor_99 (by decide) ?_
          refine lv_istore_n (lv' := [(2, .int 0), (1, .int (bt bf n (spc bf n q))), (0, .ref (B 0))]) hx hb dX8_factor_129 rfl hl (by decide) rfl (fun ls hl => ?_)
          refine lv_iload_n hx hb dX8_factor_130 rfl (lv_at hl 0 rfl) ?_
          refine lv_if_ge (tgt := 145) hx hb dX8_factor_131 (by decide) (fun c_131 => ?_) (fun c_131 => ?_)
          · refine lv_iload_n hx hb dX8_factor_145 rfl (lv_at hl 0 rfl) ?_
            refine lv_istore_n (lv' := [(3, .int 0), (2, .int 0), (1, .int (bt bf n (spc bf n q))), (0, .ref (B 0))]) hx hb dX8_factor_146 rfl hl (by decide) rfl (fun ls hl => ?_)
            refine lv_aload_n hx hb dX8_factor_147 rfl (lv_at hl 3 rfl) ?_
            refine lv_iload_n hx hb dX8_factor_148 rfl (lv_at hl 1 rfl) ?_
            refine lv_if_ge (tgt := 156) hx hb dX8_factor_149 (by decide) (fun c_149 => ?_) (fun c_149 => ?_)
            · refine lv_iconst (v := 1) hx hb dX8_factor_156 rfl ?_
              refine Wr.callV (rest := []) (c_X8_emit l G hD C.length (emC_5 d0 C) (by first | omega | (simp only [List.length_append, List.length_singleton]; omega)) 1) yk_X8_emit E km_X8_114 dX8_factor_157 hG (hE.S hS hD.efa) hP (At.recv hG hP.1 rfl) rfl rfl hl.1 ⟨Nat.le_of_ble_eq_true rfl, Nat.le_of_ble_eq_true rfl⟩ ⟨Nat.le_of_ble_eq_true rfl, Nat.le_of_ble_eq_true rfl⟩ (Nat.le_of_ble_eq_true rfl) hS (fun _ h9 => h9) (fun v9 H locs hq hz9 hfr9 hS => ?_)
              obtain ⟨rfl, hP⟩ := hq
              have hP : MW G B (fm t bl (nI n) (nI q2) 0 (-1) eo ud ns (nI 4) se) bf da (emC d0 (C ++ [1])) hi sk H := by rw [← emC_snoc]; exact hP
              refine lv_aload_n hx hb dX8_factor_160 rfl (lv_at hl 3 rfl) ?_
              refine lv_iload_n hx hb dX8_factor_161 rfl (lv_at hl 0 rfl) ?_
              refine Wr.callV (rest := []) (c_X8_emit l G hD (C ++ [1]).length (emC_5 d0 (C ++ [1])) (by first | omega | (simp only [List.length_append, List.length_singleton]; omega)) 0) yk_X8_emit E km_X8_114 dX8_factor_162 hG (hE.S hS hD.efa) hP (At.recv hG hP.1 rfl) rfl rfl hl.1 ⟨Nat.le_of_ble_eq_true rfl, Nat.le_of_ble_eq_true rfl⟩ ⟨Nat.le_of_ble_eq_true rfl, Nat.le_of_ble_eq_true rfl⟩ (Nat.le_of_ble_eq_true rfl) hS (fun _ h9 => h9) (fun v9 H locs hq hz9 hfr9 hS => ?_)
              obtain ⟨rfl, hP⟩ := hq
              have hP : MW G B (fm t bl (nI n) (nI q2) 0 (-1) eo ud ns (nI 4) se) bf da (emC d0 ((C ++ [1]) ++ [0])) hi sk H := by rw [← emC_snoc]; exact hP
              exact wr_void E hr hk hS (by decide) (by decide) (⟨rfl, _, _, _, _, _, hP, by rw [hfo, opF_6 c9 hw8]; exact ⟨rfl, rfl, q2, rfl, hq2, hs2⟩, fun s9 L9 z => by rw [hfo, opF_6 c9 hw8] at z; cases z; rw [exL_1, show exS (-1) = [1, 0] by decide]; simp only [List.append_assoc, List.cons_append, List.nil_append]⟩) dX8_factor_165
            · exact absurd c_149 (by decide)
          · exact absurd c_131 (by decide)
    · have c9 : inV (bt bf n (spc bf n q)) 48 57 = 1 := (inV01 _ _ _).resolve_left c_82
      have hRK : RK bf n (pl ((.ok (spc bf n q, [])) : Rr)) (nI (spc bf n q)) 0 (-1) := ⟨rfl, rfl, (spc bf n q), rfl, hsb.2, sk_ii bf n q⟩
      refine lv_iconst (v := (-1)) hx hb dX8_factor_85 rfl ?_
      refine lv_goto (tgt := 129) hx hb dX8_factor_86 (by decide) ?_
      refine lv_istore_n (lv' := [(2, .int (-1)), (1, .int (bt bf n (spc bf n q))), (0, .ref (B 0))]) hx hb dX8_factor_129 rfl hl (by decide) rfl (fun ls hl => ?_)
      refine lv_iload_n hx hb dX8_factor_130 rfl (lv_at hl 0 rfl) ?_
      refine lv_if_ge (tgt := 145) hx hb dX8_factor_131 (by decide) (fun c_131 => ?_) (fun c_131 => ?_)
      · exact absurd c_131 (by decide)
      refine lv_aload_n hx hb dX8_factor_134 rfl (lv_at hl 2 rfl) ?_
      refine lv_iconst (v := 0) hx hb dX8_factor_135 rfl ?_
      refine lv_sipush (v := 9999) hx hb dX8_factor_136 rfl ?_
      refine Wr.callV (rest := []) (c_X8_number_u l G hD hB n hn9 (.ok (spc bf n q, [])) hRK 0 9999) yk_X8_number E km_X8_111 dX8_factor_139 hG (hE.S hS hD.efa) hP (At.recv hG hP.1 rfl) rfl rfl hl.1 ⟨Nat.le_of_ble_eq_true rfl, Nat.le_of_ble_eq_true rfl⟩ ⟨Nat.le_of_ble_eq_true rfl, Nat.le_of_ble_eq_true rfl⟩ (Nat.le_of_ble_eq_true rfl) hS (fun _ h9 => h9) (fun v9 H locs hq hz9 hfr9 hS => ?_)
      obtain ⟨v_5, ps, er, ea, ns, rfl, hP, hRK, hv_5⟩ := hq
      rcases hnu : numF bf n 0 9999 (spc bf n q) with ⟨c8, o8⟩ | ⟨s8, v8⟩
      · rw [nbL_er hnu] at hRK
        have he9 : ¬ er = 0 := by rw [hRK.1]; exact hRK.2.1
        refine lv_goto (tgt := 146) hx hb dX8_factor_142 (by decide) ?_
        refine lv_istore_n (lv' := [(3, .int v_5), (2, .int (-1)), (1, .int (bt bf n (spc bf n q))), (0, .ref (B 0))]) hx hb dX8_factor_146 rfl hl (by decide) rfl (fun ls hl => ?_)
        refine lv_aload_n hx hb dX8_factor_147 rfl (lv_at hl 3 rfl) ?_
        refine lv_iload_n hx hb dX8_factor_148 rfl (lv_at hl 1 rfl) ?_
        refine lv_if_ge (tgt := 156) hx hb dX8_factor_149 (by decide) (fun c_149 => ?_) (fun c_149 => ?_)
        · exact absurd c_149 (by decide)
        · refine lv_iconst (v := 0) hx hb dX8_factor_152 rfl ?_
          refine lv_goto (tgt := 157) hx hb dX8_factor_153 (by decide) ?_
          refine Wr.callV (rest := []) (c_X8_emit_b l G hD 0 he9) yk_X8_emit E km_X8_114 dX8_factor_157 hG (hE.S hS hD.efa) hP (At.recv hG hP.1 rfl) rfl rfl hl.1 ⟨Nat.le_of_ble_eq_true rfl, Nat.le_of_ble_eq_true rfl⟩ ⟨Nat.le_of_ble_eq_true rfl, Nat.le_of_ble_eq_true rfl⟩ (Nat.le_of_ble_eq_true rfl) hS (fun _ h9 => h9) (fun v9 H locs hq hz9 hfr9 hS => ?_)
          obtain ⟨rfl, hP⟩ := hq
          refine lv_aload_n hx hb dX8_factor_160 rfl (lv_at hl 3 rfl) ?_
          refine lv_iload_n hx hb dX8_factor_161 rfl (lv_at hl 0 rfl) ?_
          refine Wr.callV (rest := []) (c_X8_emit_b l G hD v_5 he9) yk_X8_emit E km_X8_114 dX8_factor_162 hG (hE.S hS hD.efa) hP (At.recv hG hP.1 rfl) rfl rfl hl.1 ⟨Nat.le_of_ble_eq_true rfl, Nat.le_of_ble_eq_true rfl⟩ ⟨Nat.le_of_ble_eq_true rfl, Nat.le_of_ble_eq_true rfl⟩ (Nat.le_of_ble_eq_true rfl) hS (fun _ h9 => h9) (fun v9 H locs hq hz9 hfr9 hS => ?_)
          obtain ⟨rfl, hP⟩ := hq
          exact wr_void E hr hk hS (by decide) (by decide) (⟨rfl, _, _, _, _, _, hP, by rw [hfo, opF_de c9 hnu]; exact hRK, fun s9 L9 z => by rw [hfo, opF_de c9 hnu] at z; cases z⟩) dX8_factor_165
      · rw [nbL_ok hnu] at hRK
        obtain ⟨her, hea, q2, hps, hq2, hs2⟩ := hRK
        obtain ⟨s7, L7, e7, e8, hns, hv7⟩ := hv_5 _ _ (nbL_ok hnu)
        cases e7
        rw [hnu] at hv7
        have ev : v8 = v_5 := congrArg Prod.snd (Except.ok.inj hv7)
        rw [ev] at hnu
        subst her hea hps hns hs2
        have hnb := numF_b hB (sk_b hqq).2 hnu
        obtain ⟨a8, ev8, ha7, ha8⟩ := numF_v (lo := 0) (hi := 9999) hB hsb.2 (by decide) (by decide) hnu
        have hv8 : (0 : Int32) ≤ v_5 := by rw [ev8]; exact nI_pos' (by omega)
        refine lv_goto (tgt := 146) hx hb dX8_factor_142 (by decide) ?_
        refine lv_istore_n (lv' := [(3, .int v_5), (2, .int (-1)), (1, .int (bt bf n (spc bf n q))), (0, .ref (B 0))]) hx hb dX8_factor_146 rfl hl (by decide) rfl (fun ls hl => ?_)
        refine lv_aload_n hx hb dX8_factor_147 rfl (lv_at hl 3 rfl) ?_
        refine lv_iload_n hx hb dX8_factor_148 rfl (lv_at hl 1 rfl) ?_
        refine lv_if_ge (tgt := 156) hx hb dX8_factor_149 (by decide) (fun c_149 => ?_) (fun c_149 => ?_)
        · exact absurd c_149 (by decide)
        · refine lv_iconst (v := 0) hx hb dX8_factor_152 rfl ?_
          refine lv_goto (tgt := 157) hx hb dX8_factor_153 (by decide) ?_
          refine Wr.callV (rest := []) (c_X8_emit l G hD C.length (emC_5 d0 C) (by first | omega | (simp only [List.length_append, List.length_singleton]; omega)) 0) yk_X8_emit E km_X8_114 dX8_factor_157 hG (hE.S hS hD.efa) hP (At.recv hG hP.1 rfl) rfl rfl hl.1 ⟨Nat.le_of_ble_eq_true rfl, Nat.le_of_ble_eq_true rfl⟩ ⟨Nat.le_of_ble_eq_true rfl, Nat.le_of_ble_eq_true rfl⟩ (Nat.le_of_ble_eq_true rfl) hS (fun _ h9 => h9) (fun v9 H locs hq hz9 hfr9 hS => ?_)
          obtain ⟨rfl, hP⟩ := hq
          have hP : MW G B (fm t bl (nI n) (nI q2) 0 (-1) eo ud (nI (spc bf n q)) (nI 4) se) bf da (emC d0 (C ++ [0])) hi sk H := by rw [← emC_snoc]; exact hP
          refine lv_aload_n hx hb dX8_factor_160 rfl (lv_at hl 3 rfl) ?_
          refine lv_iload_n hx hb dX8_factor_161 rfl (lv_at hl 0 rfl) ?_
          refine Wr.callV (rest := []) (c_X8_emit l G hD (C ++ [0]).length (emC_5 d0 (C ++ [0])) (by first | omega | (simp only [List.length_append, List.length_singleton]; omega)) v_5) yk_X8_emit E km_X8_114 dX8_factor_162 hG (hE.S hS hD.efa) hP (At.recv hG hP.1 rfl) rfl rfl hl.1 ⟨Nat.le_of_ble_eq_true rfl, Nat.le_of_ble_eq_true rfl⟩ ⟨Nat.le_of_ble_eq_true rfl, Nat.le_of_ble_eq_true rfl⟩ (Nat.le_of_ble_eq_true rfl) hS (fun _ h9 => h9) (fun v9 H locs hq hz9 hfr9 hS => ?_)
          obtain ⟨rfl, hP⟩ := hq
          have hP : MW G B (fm t bl (nI n) (nI q2) 0 (-1) eo ud (nI (spc bf n q)) (nI 4) se) bf da (emC d0 ((C ++ [0]) ++ [v_5])) hi sk H := by rw [← emC_snoc]; exact hP
          exact wr_void E hr hk hS (by decide) (by decide) (⟨rfl, _, _, _, _, _, hP, by rw [hfo, opF_d c9 hnu]; exact ⟨rfl, rfl, q2, rfl, hq2, rfl⟩, fun s9 L9 z => by rw [hfo, opF_d c9 hnu] at z; cases z; rw [exL_1, show exS v_5 = [0, v_5] from if_pos hv8]; simp only [List.append_assoc, List.cons_append, List.nil_append]⟩) dX8_factor_165
  · refine lv_aload_n hx hb dX8_factor_19 rfl (lv_at hl 1 rfl) ?_
    refine gf_X8_91 (v := .int (nI 4)) E hG hP.1 rfl dX8_factor_20 ?_
    refine lv_iconst (v := 4) hx hb dX8_factor_23 rfl ?_
    refine lv_icmp_ne (tgt := 37) hx hb dX8_factor_24 (by decide) (fun c_24 => ?_) (fun c_24 => ?_)
    · exact absurd rfl c_24
    refine lv_aload_n hx hb dX8_factor_27 rfl (lv_at hl 1 rfl) ?_
    refine lv_bipush (v := (-5)) hx hb dX8_factor_28 rfl ?_
    refine lv_aload_n hx hb dX8_factor_30 rfl (lv_at hl 1 rfl) ?_
    refine gf_X8_41 (v := .int (nI (spc bf n q))) E hG hP.1 rfl dX8_factor_31 ?_
    refine Wr.callV (rest := []) (c_X8_report l G hD (-5) (nI (spc bf n q))) yk_X8_report E km_X8_75 dX8_factor_34 hG (hE.S hS hD.efa) hP (At.recv hG hP.1 rfl) rfl rfl hl.1 ⟨Nat.le_of_ble_eq_true rfl, Nat.le_of_ble_eq_true rfl⟩ ⟨Nat.le_of_ble_eq_true rfl, Nat.le_of_ble_eq_true rfl⟩ (Nat.le_of_ble_eq_true rfl) hS (fun _ h9 => h9) (fun v9 H locs hq hz9 hfr9 hS => ?_)
    obtain ⟨rfl, hP⟩ := hq
    refine lv_aload_n hx hb dX8_factor_37 rfl (lv_at hl 1 rfl) ?_
    refine lv_dup hx hb dX8_factor_38 rfl ?_
    refine gf_X8_41 (v := .int (nI (spc bf n q))) E hG hP.1 rfl dX8_factor_39 ?_
    refine lv_iconst (v := 1) hx hb dX8_factor_42 rfl ?_
    refine lv_iadd hx hb dX8_factor_43 ?_
    refine lv_ci (y := nI (spc bf n q + 1)) (ixq (nI_ad rfl rfl)) ?_
    refine pf_X8_41 E hG hP.1 (Nat.le_of_ble_eq_true rfl) rfl rfl hS ⟨0, by decide, rfl⟩ dX8_factor_44 (fun H locs ho hz oq hS => ?_)
    have hP : MW G B (fm t bl (nI n) (nI (spc bf n q + 1)) (-5) (nI (spc bf n q)) eo ud ns (nI 4) se) bf da (emC d0 C) hi sk H := hP.setO hD ho oq
    refine lv_aload_n hx hb dX8_factor_47 rfl (lv_at hl 1 rfl) ?_
    refine lv_dup hx hb dX8_factor_48 rfl ?_
    refine gf_X8_91 (v := .int (nI 4)) E hG hP.1 rfl dX8_factor_49 ?_
    refine lv_iconst (v := 1) hx hb dX8_factor_52 rfl ?_
    refine lv_iadd hx hb dX8_factor_53 ?_
    refine lv_ci (y := nI 5) (ixq (nI_ad rfl rfl)) ?_
    refine pf_X8_91 E hG hP.1 (Nat.le_of_ble_eq_true rfl) rfl rfl hS ⟨0, by decide, rfl⟩ dX8_factor_54 (fun H locs ho hz oq hS => ?_)
    have hP : MW G B (fm t bl (nI n) (nI (spc bf n q + 1)) (-5) (nI (spc bf n q)) eo ud ns (nI 5) se) bf da (emC d0 C) hi sk H := hP.setO hD ho oq
    refine lv_aload_n hx hb dX8_factor_57 rfl (lv_at hl 1 rfl) ?_
    refine Wr.callV (rest := []) (c_X8_sum_b l G hD (show ¬ ((-5) : Int32) = 0 by decide)) yk_X8_sum E km_X8_94 dX8_factor_58 hG (hE.S hS hD.efa) hP (At.recv hG hP.1 rfl) rfl rfl hl.1 ⟨Nat.le_of_ble_eq_true rfl, Nat.le_of_ble_eq_true rfl⟩ ⟨Nat.le_of_ble_eq_true rfl, Nat.le_of_ble_eq_true rfl⟩ (Nat.le_of_ble_eq_true rfl) hS (fun _ h9 => h9) (fun v9 H locs hq hz9 hfr9 hS => ?_)
    obtain ⟨rfl, hP⟩ := hq
    refine lv_aload_n hx hb dX8_factor_61 rfl (lv_at hl 1 rfl) ?_
    refine lv_bipush (v := 41) hx hb dX8_factor_62 rfl ?_
    refine Wr.callV (rest := []) (c_X8_expect_b l G hD 41 (show ¬ ((-5) : Int32) = 0 by decide)) yk_X8_expect E km_X8_97 dX8_factor_64 hG (hE.S hS hD.efa) hP (At.recv hG hP.1 rfl) rfl rfl hl.1 ⟨Nat.le_of_ble_eq_true rfl, Nat.le_of_ble_eq_true rfl⟩ ⟨Nat.le_of_ble_eq_true rfl, Nat.le_of_ble_eq_true rfl⟩ (Nat.le_of_ble_eq_true rfl) hS (fun _ h9 => h9) (fun v9 H locs hq hz9 hfr9 hS => ?_)
    obtain ⟨rfl, hP⟩ := hq
    refine lv_aload_n hx hb dX8_factor_67 rfl (lv_at hl 1 rfl) ?_
    refine lv_dup hx hb dX8_factor_68 rfl ?_
    refine gf_X8_91 (v := .int (nI 5)) E hG hP.1 rfl dX8_factor_69 ?_
    refine lv_iconst (v := 1) hx hb dX8_factor_72 rfl ?_
    refine lv_isub hx hb dX8_factor_73 ?_
    refine lv_ci (y := nI 4) (nI_pred 4) ?_
    refine pf_X8_91 E hG hP.1 (Nat.le_of_ble_eq_true rfl) rfl rfl hS ⟨0, by decide, rfl⟩ dX8_factor_74 (fun H locs ho hz oq hS => ?_)
    have hP : MW G B (fm t bl (nI n) (nI (spc bf n q + 1)) (-5) (nI (spc bf n q)) eo ud ns (nI 4) se) bf da (emC d0 C) hi sk H := hP.setO hD ho oq
    exact wr_void E hr hk hS (by decide) (by decide) (⟨rfl, _, _, _, _, _, hP, by rw [fcF_0 c_16]; exact ⟨rfl, by decide, rfl, (sk_b hq9).2⟩, fun s9 L9 z => by rw [fcF_0 c_16] at z; cases z⟩) dX8_factor_77

set_option maxHeartbeats 4000000 in
set_option maxRecDepth 100000 in
/-- factor -/
theorem c_X8_factor_s (l : Launch) (G : CG) {B : Nat → Nat} {t bl eo ud ns se : Int32} {bf da : Nat → Int32} {hi : Nat → Nat → Int32} {sk : Nat → Int64} (hD : MD G B) (n q : Nat) (hn9 : n ≤ 900) (hq9 : q ≤ n) (hB : ByO bf) {d0 : Nat → Int32} (C : List Int32) (hC : 2 * C.length ≤ 3 * spc bf n q) (k : Nat) (hk9 : k < 4) {fr lo : Nat} (hfr : 4 ≤ fr) (hlo : 86 ≤ lo) (hF : ∀ (q : Nat) (ns : Int32) (C : List Int32), q ≤ n → 2 * C.length ≤ 3 * spc bf n q → Wr l yX8_sum cX8_sum 2 ((Option.none : Option FieldType)) fr lo 0 0 G [.ref (B 0)] (MW G B (fm t bl (nI n) (nI q) 0 (-1) eo ud ns (nI (3 - k + 1)) se) bf da (emC d0 C) hi sk) (MA B) (fun v9 H9 => v9 = none ∧ ∃ ps er ea ns dr1, MW G B (fm t bl (nI n) ps er ea eo ud ns (nI (3 - k + 1)) se) bf da dr1 hi sk H9 ∧ RK bf n (pl (smF bf n (fcF bf n k) (spc bf n q))) ps er ea ∧ ∀ s9 L9, smF bf n (fcF bf n k) (spc bf n q) = .ok (s9, L9) → dr1 = emC d0 (C ++ exL L9))) : Wr l yX8_factor cX8_factor 4 ((Option.none : Option FieldType)) (fr + 1) (lo + 21) 0 0 G [.ref (B 0)] (MW G B (fm t bl (nI n) (nI q) 0 (-1) eo ud ns (nI (3 - k)) se) bf da (emC d0 C) hi sk) (MA B) (fun v9 H9 => v9 = none ∧ ∃ ps er ea ns dr1, MW G B (fm t bl (nI n) ps er ea eo ud ns (nI (3 - k)) se) bf da dr1 hi sk H9 ∧ RK bf n (pl (fcF bf n (k + 1) (spc bf n q))) ps er ea ∧ ∀ s9 L9, (fcF bf n (k + 1) (spc bf n q)) = .ok (s9, L9) → dr1 = emC d0 (C ++ exL L9)) := by
  refine Wr.ofW (by decide) (Nat.le_of_ble_eq_true rfl) (fun p e s m below meth c ls E hG hE hP hr hk hin hl => ?_)
  have hS : va_S (MA B) s.heap s.heap [] := va_S.rf
  have hx := E.1
  have hb := E.2.1
  have hl : lv_has ls 4 [(0, .ref (B 0))] := hl
  refine lv_aload_n hx hb dX8_factor_0 rfl (lv_at hl 0 rfl) ?_
  refine Rd.callV (rest := []) (c_X8_isGood l G) yk_X8_isGood E km_X8_58 dX8_factor_1 hG (hE.S hS hD.efa) hP (At.recv hG hP.1 rfl) rfl rfl hl.1 ⟨by show _ ≤ fr + 1; omega, by show _ ≤ lo + 21; omega⟩ ⟨Nat.zero_le _, Nat.zero_le _⟩ (Nat.le_of_ble_eq_true rfl) ?_
  refine lv_ci (y := 1) (if_pos rfl) ?_
  refine lv_if_ne (tgt := 8) hx hb dX8_factor_4 (by decide) (fun c_4 => ?_) (fun c_4 => ?_)
  rotate_left
  · exact absurd c_4 (by decide)
  refine lv_aload_n hx hb dX8_factor_8 rfl (lv_at hl 0 rfl) ?_
  refine Wr.callV (rest := []) (c_X8_next l G hD n q hn9 (by omega)) yk_X8_next E km_X8_62 dX8_factor_9 hG (hE.S hS hD.efa) hP (At.recv hG hP.1 rfl) rfl rfl hl.1 ⟨by show _ ≤ fr + 1; omega, by show _ ≤ lo + 21; omega⟩ ⟨Nat.le_of_ble_eq_true rfl, Nat.le_of_ble_eq_true rfl⟩ (Nat.le_of_ble_eq_true rfl) hS (fun _ h9 => h9) (fun v9 H locs hq hz9 hfr9 hS => ?_)
  obtain ⟨rfl, hP⟩ := hq
  refine lv_istore_n (lv' := [(1, .int (bt bf n (spc bf n q))), (0, .ref (B 0))]) hx hb dX8_factor_12 rfl hl (by decide) rfl (fun ls hl => ?_)
  refine lv_iload_n hx hb dX8_factor_13 rfl (lv_at hl 0 rfl) ?_
  refine lv_bipush (v := 40) hx hb dX8_factor_14 rfl ?_
  refine lv_icmp_ne (tgt := 78) hx hb dX8_factor_16 (by decide) (fun c_16 => ?_) (fun c_16 => ?_)
  · have hfo : fcF bf n (k + 1) (spc bf n q) = opF bf n (spc bf n q) := fcF_o c_16
    have hqq := hq9
    have hsb := sk_b (bf := bf) hq9
    refine lv_iload_n hx hb dX8_factor_78 rfl (lv_at hl 0 rfl) ?_
    refine Rd.callS (rest := []) (c_X8_isDigit l G (bt bf n (spc bf n q))) yk_X8_isDigit E km_X8_79 dX8_factor_79 hG (hE.S hS hD.efa) trivial rfl rfl hl.1 ⟨by show _ ≤ fr + 1; omega, by show _ ≤ lo + 21; omega⟩ ⟨Nat.zero_le _, Nat.zero_le _⟩ (Nat.le_of_ble_eq_true rfl) ?_
    refine lv_if_eq (tgt := 89) hx hb dX8_factor_82 (by decide) (fun c_82 => ?_) (fun c_82 => ?_)
    · have c9 : ¬ inV (bt bf n (spc bf n q)) 48 57 = 1 := by rw [c_82]; decide
      have hRK : RK bf n (pl ((.ok (spc bf n q, [])) : Rr)) (nI (spc bf n q)) 0 (-1) := ⟨rfl, rfl, (spc bf n q), rfl, hsb.2, sk_ii bf n q⟩
      refine lv_aload_n hx hb dX8_factor_89 rfl (lv_at hl 1 rfl) ?_
      refine va_ldcS hx hb E.2.2.2.1 (hG.2.2.2.2.2.1 (RX8, 101, "amount", 26) (by decide +kernel)) dX8_factor_90 ?_
      refine Wr.callV (rest := []) (c_X8_takeWord_u l G hD n hn9 (isT_r (i := 6) (by decide)) (txt_A (i := 6) (by decide)).1 (txt_A (i := 6) (by decide)).2 (txt_L (i := 6) (by decide)) (.ok (spc bf n q, [])) hRK) yk_X8_takeWord E km_X8_103 dX8_factor_92 hG (hE.S hS hD.efa) hP (At.recv hG hP.1 rfl) rfl rfl hl.1 ⟨by show _ ≤ fr + 1; omega, by show _ ≤ lo + 21; omega⟩ ⟨Nat.le_of_ble_eq_true rfl, Nat.le_of_ble_eq_true rfl⟩ (Nat.le_of_ble_eq_true rfl) hS (fun _ h9 => h9) (fun v9 H locs hq hz9 hfr9 hS => ?_)
      obtain ⟨v_1, ps, er, ea, rfl, hP, hRK, hv_1, hb_1⟩ := hq
      rcases hb_1 with ⟨hv0, hb0⟩ | ⟨hv1, s8, L8, e8, hw8⟩
      · have h6 : ¬ isW bf n (spc bf n q) (txt 6) := hb0 _ _ rfl
        rw [wdL_no h6] at hRK
        obtain ⟨her, hea, q6, hps, hq6, hs6⟩ := hRK
        subst her hea hps
        have hRK : RK bf n (pl ((.ok (spc bf n q, [])) : Rr)) (nI q6) 0 (-1) := ⟨rfl, rfl, q6, rfl, hq6, hs6⟩
        refine lv_if_eq (tgt := 102) hx hb dX8_factor_95 (by decide) (fun c_95 => ?_) (fun c_95 => ?_)
        rotate_left
        · exact (by rw [hv0] at c_95; exact absurd c_95 (by decide))
        refine lv_aload_n hx hb dX8_factor_102 rfl (lv_at hl 1 rfl) ?_
        refine va_ldcS hx hb E.2.2.2.1 (hG.2.2.2.2.2.1 (RX8, 107, "days", 27) (by decide +kernel)) dX8_factor_103 ?_
        refine Wr.callV (rest := []) (c_X8_takeWord_u l G hD n hn9 (isT_r (i := 7) (by decide)) (txt_A (i := 7) (by decide)).1 (txt_A (i := 7) (by decide)).2 (txt_L (i := 7) (by decide)) (.ok (spc bf n q, [])) hRK) yk_X8_takeWord E km_X8_103 dX8_factor_105 hG (hE.S hS hD.efa) hP (At.recv hG hP.1 rfl) rfl rfl hl.1 ⟨by show _ ≤ fr + 1; omega, by show _ ≤ lo + 21; omega⟩ ⟨Nat.le_of_ble_eq_true rfl, Nat.le_of_ble_eq_true rfl⟩ (Nat.le_of_ble_eq_true rfl) hS (fun _ h9 => h9) (fun v9 H locs hq hz9 hfr9 hS => ?_)
        obtain ⟨v_2, ps, er, ea, rfl, hP, hRK, hv_2, hb_2⟩ := hq
        rcases hb_2 with ⟨hv0, hb0⟩ | ⟨hv1, s8, L8, e8, hw8⟩
        · have h7 : ¬ isW bf n (spc bf n q) (txt 7) := hb0 _ _ rfl
          rw [wdL_no h7] at hRK
          obtain ⟨her, hea, q7, hps, hq7, hs7⟩ := hRK
          subst her hea hps
          have hRK : RK bf n (pl ((.ok (spc bf n q, [])) : Rr)) (nI q7) 0 (-1) := ⟨rfl, rfl, q7, rfl, hq7, hs7⟩
          refine lv_if_eq (tgt := 115) hx hb dX8_factor_108 (by decide) (fun c_108 => ?_) (fun c_108 => ?_)
          rotate_left
          · exact (by rw [hv0] at c_108; exact absurd c_108 (by decide))
          refine lv_aload_n hx hb dX8_factor_115 rfl (lv_at hl 1 rfl) ?_
          refine va_ldcS hx hb E.2.2.2.1 (hG.2.2.2.2.2.1 (RX8, 109, "errors", 28) (by decide +kernel)) dX8_factor_116 ?_
          refine Wr.callV (rest := []) (c_X8_takeWord_u l G hD n hn9 (isT_r (i := 8) (by decide)) (txt_A (i := 8) (by decide)).1 (txt_A (i := 8) (by decide)).2 (txt_L (i := 8) (by decide)) (.ok (spc bf n q, [])) hRK) yk_X8_takeWord E km_X8_103 dX8_factor_118 hG (hE.S hS hD.efa) hP (At.recv hG hP.1 rfl) rfl rfl hl.1 ⟨by show _ ≤ fr + 1; omega, by show _ ≤ lo + 21; omega⟩ ⟨Nat.le_of_ble_eq_true rfl, Nat.le_of_ble_eq_true rfl⟩ (Nat.le_of_ble_eq_true rfl) hS (fun _ h9 => h9) (fun v9 H locs hq hz9 hfr9 hS => ?_)
          obtain ⟨v_3, ps, er, ea, rfl, hP, hRK, hv_3, hb_3⟩ := hq
          rcases hb_3 with ⟨hv0, hb0⟩ | ⟨hv1, s8, L8, e8, hw8⟩
          · have h8 : ¬ isW bf n (spc bf n q) (txt 8) := hb0 _ _ rfl
            rw [wdL_no h8] at hRK
            obtain ⟨her, hea, q8, hps, hq8, hs8⟩ := hRK
            subst her hea hps
            have hRK : RK bf n (pl ((.ok (spc bf n q, [])) : Rr)) (nI q8) 0 (-1) := ⟨rfl, rfl, q8, rfl, hq8, hs8⟩
            refine lv_if_eq (tgt := 128) hx hb dX8_factor_121 (by decide) (fun c_121 => ?_) (fun c_121 => ?_)
            rotate_left
            · exact (by rw [hv0] at c_121; exact absurd c_121 (by decide))
            refine lv_iconst (v := (-1)) hx hb dX8_factor_128 rfl ?_
            refine lv_istore_n (lv' := [(2, .int (-1)), (1, .int (bt bf n (spc bf n q))), (0, .ref (B 0))]) hx hb dX8_factor_129 rfl hl (by decide) rfl (fun ls hl => ?_)
            refine lv_iload_n hx hb dX8_factor_130 rfl (lv_at hl 0 rfl) ?_
            refine lv_if_ge (tgt := 145) hx hb dX8_factor_131 (by decide) (fun c_131 => ?_) (fun c_131 => ?_)
            · exact absurd c_131 (by decide)
            refine lv_aload_n hx hb dX8_factor_134 rfl (lv_at hl 2 rfl) ?_
            refine lv_iconst (v := 0) hx hb dX8_factor_135 rfl ?_
            refine lv_sipush (v := 9999) hx hb dX8_factor_136 rfl ?_
            refine Wr.callV (rest := []) (c_X8_number_u l G hD hB n hn9 (.ok (spc bf n q, [])) hRK 0 9999) yk_X8_number E km_X8_111 dX8_factor_139 hG (hE.S hS hD.efa) hP (At.recv hG hP.1 rfl) rfl rfl hl.1 ⟨by show _ ≤ fr + 1; omega, by show _ ≤ lo + 21; omega⟩ ⟨Nat.le_of_ble_eq_true rfl, Nat.le_of_ble_eq_true rfl⟩ (Nat.le_of_ble_eq_true rfl) hS (fun _ h9 => h9) (fun v9 H locs hq hz9 hfr9 hS => ?_)
            obtain ⟨v_4, ps, er, ea, ns, rfl, hP, hRK, hv_4⟩ := hq
            have hnu := numF_x (lo := 0) (hi := 9999) c9
            rw [nbL_er hnu] at hRK
            have he9 : ¬ er = 0 := by rw [hRK.1]; exact hRK.2.1
            refine lv_goto (tgt := 146) hx hb dX8_factor_142 (by decide) ?_
            refine lv_istore_n (lv' := [(3, .int v_4), (2, .int (-1)), (1, .int (bt bf n (spc bf n q))), (0, .ref (B 0))]) hx hb dX8_factor_146 rfl hl (by decide) rfl (fun ls hl => ?_)
            refine lv_aload_n hx hb dX8_factor_147 rfl (lv_at hl 3 rfl) ?_
            refine lv_iload_n hx hb dX8_factor_148 rfl (lv_at hl 1 rfl) ?_
            refine lv_if_ge (tgt := 156) hx hb dX8_factor_149 (by decide) (fun c_149 => ?_) (fun c_149 => ?_)
            · exact absurd c_149 (by decide)
            · refine lv_iconst (v := 0) hx hb dX8_factor_152 rfl ?_
              refine lv_goto (tgt := 157) hx hb dX8_factor_153 (by decide) ?_
              refine Wr.callV (rest := []) (c_X8_emit_b l G hD 0 he9) yk_X8_emit E km_X8_114 dX8_factor_157 hG (hE.S hS hD.efa) hP (At.recv hG hP.1 rfl) rfl rfl hl.1 ⟨by show _ ≤ fr + 1; omega, by show _ ≤ lo + 21; omega⟩ ⟨Nat.le_of_ble_eq_true rfl, Nat.le_of_ble_eq_true rfl⟩ (Nat.le_of_ble_eq_true rfl) hS (fun _ h9 => h9) (fun v9 H locs hq hz9 hfr9 hS => ?_)
              obtain ⟨rfl, hP⟩ := hq
              refine lv_aload_n hx hb dX8_factor_160 rfl (lv_at hl 3 rfl) ?_
              refine lv_iload_n hx hb dX8_factor_161 rfl (lv_at hl 0 rfl) ?_
              refine Wr.callV (rest := []) (c_X8_emit_b l G hD v_4 he9) yk_X8_emit E km_X8_114 dX8_factor_162 hG (hE.S hS hD.efa) hP (At.recv hG hP.1 rfl) rfl rfl hl.1 ⟨by show _ ≤ fr + 1; omega, by show _ ≤ lo + 21; omega⟩ ⟨Nat.le_of_ble_eq_true rfl, Nat.le_of_ble_eq_true rfl⟩ (Nat.le_of_ble_eq_true rfl) hS (fun _ h9 => h9) (fun v9 H locs hq hz9 hfr9 hS => ?_)
              obtain ⟨rfl, hP⟩ := hq
              exact wr_void E hr hk hS (by decide) (by decide) (⟨rfl, _, _, _, _, _, hP, by rw [hfo, opF_n c9 h6 h7 h8]; exact hRK, fun s9 L9 z => by rw [hfo, opF_n c9 h6 h7 h8] at z; cases z⟩) dX8_factor_165
          · cases e8
            rw [wdL_ok hw8] at hRK
            obtain ⟨her, hea, q2, hps, hq2, hs2⟩ := hRK
            subst her hea hps
            refine lv_if_eq (tgt := 128) hx hb dX8_factor_121 (by decide) (fun c_121 => ?_) (fun c_121 => ?_)
            · exact (by rw [hv1] at c_121; exact absurd c_121 (by decide))
            · refine lv_iconst (v := 2) hx hb dX8_factor_124 rfl ?_
              refine lv_goto (tgt := 129) hx hb dX8_factor_125 (by decide) ?_
              refine lv_istore_n (lv' := [(2, .int 2), (1, .int (bt bf n (spc bf n q))), (0, .ref (B 0))]) hx hb dX8_factor_129 rfl hl (by decide) rfl (fun ls hl => ?_)
              refine lv_iload_n hx hb dX8_factor_130 rfl (lv_at hl 0 rfl) ?_
              refine lv_if_ge (tgt := 145) hx hb dX8_factor_131 (by decide) (fun c_131 => ?_) (fun c_131 => ?_)
              · refine lv_iload_n hx hb dX8_factor_145 rfl (lv_at hl 0 rfl) ?_
                refine lv_istore_n (lv' := [(3, .int 2), (2, .int 2), (1, .int (bt bf n (spc bf n q))), (0, .ref (B 0))]) hx hb dX8_factor_146 rfl hl (by decide) rfl (fun ls hl => ?_)
                refine lv_aload_n hx hb dX8_factor_147 rfl (lv_at hl 3 rfl) ?_
                refine lv_iload_n hx hb dX8_factor_148 rfl (lv_at hl 1 rfl) ?_
                refine lv_if_ge (tgt := 156) hx hb dX8_factor_149 (by decide) (fun c_149 => ?_) (fun c_149 => ?_)
                · refine lv_iconst (v := 1) hx hb dX8_factor_156 rfl ?_
                  refine Wr.callV (rest := []) (c_X8_emit l G hD C.length (emC_5 d0 C) (by first | omega | (simp only [List.length_append, List.length_singleton]; omega)) 1) yk_X8_emit E km_X8_114 dX8_factor_157 hG (hE.S hS hD.efa) hP (At.recv hG hP.1 rfl) rfl rfl hl.1 ⟨by show _ ≤ fr + 1; omega, by show _ ≤ lo + 21; omega⟩ ⟨Nat.le_of_ble_eq_true rfl, Nat.le_of_ble_eq_true rfl⟩ (Nat.le_of_ble_eq_true rfl) hS (fun _ h9 => h9) (fun v9 H locs hq hz9 hfr9 hS => ?_)
                  obtain ⟨rfl, hP⟩ := hq
                  have hP : MW G B (fm t bl (nI n) (nI q2) 0 (-1) eo ud ns (nI (3 - k)) se) bf da (emC d0 (C ++ [1])) hi sk H := by rw [← emC_snoc]; exact hP
                  refine lv_aload_n hx hb dX8_factor_160 rfl (lv_at hl 3 rfl) ?_
                  refine lv_iload_n hx hb dX8_factor_161 rfl (lv_at hl 0 rfl) ?_
                  refine Wr.callV (rest := []) (c_X8_emit l G hD (C ++ [1]).length (emC_5 d0 (C ++ [1])) (by first | omega | (simp only [List.length_append, List.length_singleton]; omega)) 2) yk_X8_emit E km_X8_114 dX8_factor_162 hG (hE.S hS hD.efa) hP (At.recv hG hP.1 rfl) rfl rfl hl.1 ⟨by show _ ≤ fr + 1; omega, by show _ ≤ lo + 21; omega⟩ ⟨Nat.le_of_ble_eq_true rfl, Nat.le_of_ble_eq_true rfl⟩ (Nat.le_of_ble_eq_true rfl) hS (fun _ h9 => h9) (fun v9 H locs hq hz9 hfr9 hS => ?_)
                  obtain ⟨rfl, hP⟩ := hq
                  have hP : MW G B (fm t bl (nI n) (nI q2) 0 (-1) eo ud ns (nI (3 - k)) se) bf da (emC d0 ((C ++ [1]) ++ [2])) hi sk H := by rw [← emC_snoc]; exact hP
                  exact wr_void E hr hk hS (by decide) (by decide) (⟨rfl, _, _, _, _, _, hP, by rw [hfo, opF_8 c9 h6 h7 hw8]; exact ⟨rfl, rfl, q2, rfl, hq2, hs2⟩, fun s9 L9 z => by rw [hfo, opF_8 c9 h6 h7 hw8] at z; cases z; rw [exL_1, show exS (-3) = [1, 2] by decide]; simp only [List.append_assoc, List.cons_append, List.nil_append]⟩) dX8_factor_165
                · exact absurd c_149 (by decide)
              · exact absurd c_131 (by decide)
        · cases e8
          rw [wdL_ok hw8] at hRK
          obtain ⟨her, hea, q2, hps, hq2, hs2⟩ := hRK
          subst her hea hps
          refine lv_if_eq (tgt := 115) hx hb dX8_factor_108 (by decide) (fun c_108 => ?_) (fun c_108 => ?_)
          · exact (by rw [hv1] at c_108; exact absurd c_108 (by decide))
          · refine lv_iconst (v := 1) hx hb dX8_factor_111 rfl ?_
            refine lv_goto (tgt := 129) hx hb dX8_factor_112 (by decide) ?_
            refine lv_istore_n (lv' := [(2, .int 1), (1, .int (bt bf n (spc bf n q))), (0, .ref (B 0))]) hx hb dX8_factor_129 rfl hl (by decide) rfl (fun ls hl => ?_)
            refine lv_iload_n hx hb dX8_factor_130 rfl (lv_at hl 0 rfl) ?_
            refine lv_if_ge (tgt := 145) hx hb dX8_factor_131 (by decide) (fun c_131 => ?_) (fun c_131 => ?_)
            · refine lv_iload_n hx hb dX8_factor_145 rfl (lv_at hl 0 rfl) ?_
              refine lv_istore_n (lv' := [(3, .int 1), (2, .int 1), (1, .int (bt bf n (spc bf n q))), (0, .ref (B 0))]) hx hb dX8_factor_146 rfl hl (by decide) rfl (fun ls hl => ?_)
              refine lv_aload_n hx hb dX8_factor_147 rfl (lv_at hl 3 rfl) ?_
              refine lv_iload_n hx hb dX8_factor_148 rfl (lv_at hl 1 rfl) ?_
              refine lv_if_ge (tgt := 156) hx hb dX8_factor_149 (by decide) (fun c_149 => ?_) (fun c_149 => ?_)
              · refine lv_iconst (v := 1) hx hb dX8_factor_156 rfl ?_
                refine Wr.callV (rest := []) (c_X8_emit l G hD C.length (emC_5 d0 C) (by first | omega | (simp only [List.length_append, List.length_singleton]; omega)) 1) yk_X8_emit E km_X8_114 dX8_factor_157 hG (hE.S hS hD.efa) hP (At.recv hG hP.1 rfl) rfl rfl hl.1 ⟨by show _ ≤ fr + 1; omega, by show _ ≤ lo + 21; omega⟩ ⟨Nat.le_of_ble_eq_true rfl, Nat.le_of_ble_eq_true rfl⟩ (Nat.le_of_ble_eq_true rfl) hS (fun _ h9 => h9) (fun v9 H locs hq hz9 hfr9 hS => ?_)
                obtain ⟨rfl, hP⟩ := hq
                have hP : MW G B (fm t bl (nI n) (nI q2) 0 (-1) eo ud ns (nI (3 - k)) se) bf da (emC d0 (C ++ [1])) hi sk H := by rw [← emC_snoc]; exact hP
                refine lv_aload_n hx hb dX8_factor_160 rfl (lv_at hl 3 rfl) ?_
                refine lv_iload_n hx hb dX8_factor_161 rfl (lv_at hl 0 rfl) ?_
                refine Wr.callV (rest := []) (c_X8_emit l G hD (C ++ [1]).length (emC_5 d0 (C ++ [1])) (by first | omega | (simp only [List.length_append, List.length_singleton]; omega)) 1) yk_X8_emit E km_X8_114 dX8_factor_162 hG (hE.S hS hD.efa) hP (At.recv hG hP.1 rfl) rfl rfl hl.1 ⟨by show _ ≤ fr + 1; omega, by show _ ≤ lo + 21; omega⟩ ⟨Nat.le_of_ble_eq_true rfl, Nat.le_of_ble_eq_true rfl⟩ (Nat.le_of_ble_eq_true rfl) hS (fun _ h9 => h9) (fun v9 H locs hq hz9 hfr9 hS => ?_)
                obtain ⟨rfl, hP⟩ := hq
                have hP : MW G B (fm t bl (nI n) (nI q2) 0 (-1) eo ud ns (nI (3 - k)) se) bf da (emC d0 ((C ++ [1]) ++ [1])) hi sk H := by rw [← emC_snoc]; exact hP
                exact wr_void E hr hk hS (by decide) (by decide) (⟨rfl, _, _, _, _, _, hP, by rw [hfo, opF_7 c9 h6 hw8]; exact ⟨rfl, rfl, q2, rfl, hq2, hs2⟩, fun s9 L9 z => by rw [hfo, opF_7 c9 h6 hw8] at z; cases z; rw [exL_1, show exS (-2) = [1, 1] by decide]; simp only [List.append_assoc, List.cons_append, List.nil_append]⟩) dX8_factor_165
              · exact absurd c_149 (by decide)
            · exact absurd c_131 (by decide)
      · cases e8
        rw [wdL_ok hw8] at hRK
        obtain ⟨her, hea, q2, hps, hq2, hs2⟩ := hRK
        subst her hea hps
        refine lv_if_eq (tgt := 102) hx hb dX8_factor_95 (by decide) (fun c_95 => ?_) (fun c_95 => ?_)
        · exact (by rw [hv1] at c_95; exact absurd c_95 (by decide))
        · refine lv_iconst (v := 0) hx hb dX8_factor_98 rfl ?_
          refine lv_goto (tgt := 129) hx hb dX8_factor_99 (by decide) ?_
          refine lv_istore_n (lv' := [(2, .int 0), (1, .int (bt bf n (spc bf n q))), (0, .ref (B 0))]) hx hb dX8_factor_129 rfl hl (by decide) rfl (fun ls hl => ?_)
          refine lv_iload_n hx hb dX8_factor_130 rfl (lv_at hl 0 rfl) ?_
          refine lv_if_ge (tgt := 145) hx hb dX8_factor_131 (by decide) (fun c_131 => ?_) (fun c_131 => ?_)
          · refine lv_iload_n hx hb dX8_factor_145 rfl (lv_at hl 0 rfl) ?_
            refine lv_istore_n (lv' := [(3, .int 0), (2, .int 0), (1, .int (bt bf n (spc bf n q))), (0, .ref (B 0))]) hx hb dX8_factor_146 rfl hl (by decide) rfl (fun ls hl => ?_)
            refine lv_aload_n hx hb dX8_factor_147 rfl (lv_at hl 3 rfl) ?_
            refine lv_iload_n hx hb dX8_factor_148 rfl (lv_at hl 1 rfl) ?_
            refine lv_if_ge (tgt := 156) hx hb dX8_factor_149 (by decide) (fun c_149 => ?_) (fun c_149 => ?_)
            · refine lv_iconst (v := 1) hx hb dX8_factor_156 rfl ?_
              refine Wr.callV (rest := []) (c_X8_emit l G hD C.length (emC_5 d0 C) (by first | omega | (simp only [List.length_append, List.length_singleton]; omega)) 1) yk_X8_emit E km_X8_114 dX8_factor_157 hG (hE.S hS hD.efa) hP (At.recv hG hP.1 rfl) rfl rfl hl.1 ⟨by show _ ≤ fr + 1; omega, by show _ ≤ lo + 21; omega⟩ ⟨Nat.le_of_ble_eq_true rfl, Nat.le_of_ble_eq_true rfl⟩ (Nat.le_of_ble_eq_true rfl) hS (fun _ h9 => h9) (fun v9 H locs hq hz9 hfr9 hS => ?_)
              obtain ⟨rfl, hP⟩ := hq
              have hP : MW G B (fm t bl (nI n) (nI q2) 0 (-1) eo ud ns (nI (3 - k)) se) bf da (emC d0 (C ++ [1])) hi sk H := by rw [← emC_snoc]; exact hP
              refine lv_aload_n hx hb dX8_factor_160 rfl (lv_at hl 3 rfl) ?_
              refine lv_iload_n hx hb dX8_factor_161 rfl (lv_at hl 0 rfl) ?_
              refine Wr.callV (rest := []) (c_X8_emit l G hD (C ++ [1]).length (emC_5 d0 (C ++ [1])) (by first | omega | (simp only [List.length_append, List.length_singleton]; omega)) 0) yk_X8_emit E km_X8_114 dX8_factor_162 hG (hE.S hS hD.efa) hP (At.recv hG hP.1 rfl) rfl rfl hl.1 ⟨by show _ ≤ fr + 1; omega, by show _ ≤ lo + 21; omega⟩ ⟨Nat.le_of_ble_eq_true rfl, Nat.le_of_ble_eq_true rfl⟩ (Nat.le_of_ble_eq_true rfl) hS (fun _ h9 => h9) (fun v9 H locs hq hz9 hfr9 hS => ?_)
              obtain ⟨rfl, hP⟩ := hq
              have hP : MW G B (fm t bl (nI n) (nI q2) 0 (-1) eo ud ns (nI (3 - k)) se) bf da (emC d0 ((C ++ [1]) ++ [0])) hi sk H := by rw [← emC_snoc]; exact hP
              exact wr_void E hr hk hS (by decide) (by decide) (⟨rfl, _, _, _, _, _, hP, by rw [hfo, opF_6 c9 hw8]; exact ⟨rfl, rfl, q2, rfl, hq2, hs2⟩, fun s9 L9 z => by rw [hfo, opF_6 c9 hw8] at z; cases z; rw [exL_1, show exS (-1) = [1, 0] by decide]; simp only [List.append_assoc, List.cons_append, List.nil_append]⟩) dX8_factor_165
            · exact absurd c_149 (by decide)
          · exact absurd c_131 (by decide)
    · have c9 : inV (bt bf n (spc bf n q)) 48 57 = 1 := (inV01 _ _ _).resolve_left c_82
      have hRK : RK bf n (pl ((.ok (spc bf n q, [])) : Rr)) (nI (spc bf n q)) 0 (-1) := ⟨rfl, rfl, (spc bf n q), rfl, hsb.2, sk_ii bf n q⟩
      refine lv_iconst (v := (-1)) hx hb dX8_factor_85 rfl ?_
      refine lv_goto (tgt := 129) hx hb dX8_factor_86 (by decide) ?_
      refine lv_istore_n (lv' := [(2, .int (-1)), (1, .int (bt bf n (spc bf n q))), (0, .ref (B 0))]) hx hb dX8_factor_129 rfl hl (by decide) rfl (fun ls hl => ?_)
      refine lv_iload_n hx hb dX8_factor_130 rfl (lv_at hl 0 rfl) ?_
      refine lv_if_ge (tgt := 145) hx hb dX8_factor_131 (by decide) (fun c_131 => ?_) (fun c_131 => ?_)
      · exact absurd c_131 (by decide)
      refine lv_aload_n hx hb dX8_factor_134 rfl (lv_at hl 2 rfl) ?_
      refine lv_iconst (v := 0) hx hb dX8_factor_135 rfl ?_
      refine lv_sipush (v := 9999) hx hb dX8_factor_136 rfl ?_
      refine Wr.callV (rest := []) (c_X8_number_u l G hD hB n hn9 (.ok (spc bf n q, [])) hRK 0 9999) yk_X8_number E km_X8_111 dX8_factor_139 hG (hE.S hS hD.efa) hP (At.recv hG hP.1 rfl) rfl rfl hl.1 ⟨by show _ ≤ fr + 1; omega, by show _ ≤ lo + 21; omega⟩ ⟨Nat.le_of_ble_eq_true rfl, Nat.le_of_ble_eq_true rfl⟩ (Nat.le_of_ble_eq_true rfl) hS (fun _ h9 => h9) (fun v9 H locs hq hz9 hfr9 hS => ?_)
      obtain ⟨v_5, ps, er, ea, ns, rfl, hP, hRK, hv_5⟩ := hq
      rcases hnu : numF bf n 0 9999 (spc bf n q) with ⟨c8, o8⟩ | ⟨s8, v8⟩
      · rw [nbL_er hnu] at hRK
        have he9 : ¬ er = 0 := by rw [hRK.1]; exact hRK.2.1
        refine lv_goto (tgt := 146) hx hb dX8_factor_142 (by decide) ?_
        refine lv_istore_n (lv' := [(3, .int v_5), (2, .int (-1)), (1, .int (bt bf n (spc bf n q))), (0, .ref (B 0))]) hx hb dX8_factor_146 rfl hl (by decide) rfl (fun ls hl => ?_)
        refine lv_aload_n hx hb dX8_factor_147 rfl (lv_at hl 3 rfl) ?_
        refine lv_iload_n hx hb dX8_factor_148 rfl (lv_at hl 1 rfl) ?_
        refine lv_if_ge (tgt := 156) hx hb dX8_factor_149 (by decide) (fun c_149 => ?_) (fun c_149 => ?_)
        · exact absurd c_149 (by decide)
        · refine lv_iconst (v := 0) hx hb dX8_factor_152 rfl ?_
          refine lv_goto (tgt := 157) hx hb dX8_factor_153 (by decide) ?_
          refine Wr.callV (rest := []) (c_X8_emit_b l G hD 0 he9) yk_X8_emit E km_X8_114 dX8_factor_157 hG (hE.S hS hD.efa) hP (At.recv hG hP.1 rfl) rfl rfl hl.1 ⟨by show _ ≤ fr + 1; omega, by show _ ≤ lo + 21; omega⟩ ⟨Nat.le_of_ble_eq_true rfl, Nat.le_of_ble_eq_true rfl⟩ (Nat.le_of_ble_eq_true rfl) hS (fun _ h9 => h9) (fun v9 H locs hq hz9 hfr9 hS => ?_)
          obtain ⟨rfl, hP⟩ := hq
          refine lv_aload_n hx hb dX8_factor_160 rfl (lv_at hl 3 rfl) ?_
          refine lv_iload_n hx hb dX8_factor_161 rfl (lv_at hl 0 rfl) ?_
          refine Wr.callV (rest := []) (c_X8_emit_b l G hD v_5 he9) yk_X8_emit E km_X8_114 dX8_factor_162 hG (hE.S hS hD.efa) hP (At.recv hG hP.1 rfl) rfl rfl hl.1 ⟨by show _ ≤ fr + 1; omega, by show _ ≤ lo + 21; omega⟩ ⟨Nat.le_of_ble_eq_true rfl, Nat.le_of_ble_eq_true rfl⟩ (Nat.le_of_ble_eq_true rfl) hS (fun _ h9 => h9) (fun v9 H locs hq hz9 hfr9 hS => ?_)
          obtain ⟨rfl, hP⟩ := hq
          exact wr_void E hr hk hS (by decide) (by decide) (⟨rfl, _, _, _, _, _, hP, by rw [hfo, opF_de c9 hnu]; exact hRK, fun s9 L9 z => by rw [hfo, opF_de c9 hnu] at z; cases z⟩) dX8_factor_165
      · rw [nbL_ok hnu] at hRK
        obtain ⟨her, hea, q2, hps, hq2, hs2⟩ := hRK
        obtain ⟨s7, L7, e7, e8, hns, hv7⟩ := hv_5 _ _ (nbL_ok hnu)
        cases e7
        rw [hnu] at hv7
        have ev : v8 = v_5 := congrArg Prod.snd (Except.ok.inj hv7)
        rw [ev] at hnu
        subst her hea hps hns hs2
        have hnb := numF_b hB (sk_b hqq).2 hnu
        obtain ⟨a8, ev8, ha7, ha8⟩ := numF_v (lo := 0) (hi := 9999) hB hsb.2 (by decide) (by decide) hnu
        have hv8 : (0 : Int32) ≤ v_5 := by rw [ev8]; exact nI_pos' (by omega)
        refine lv_goto (tgt := 146) hx hb dX8_factor_142 (by decide) ?_
        refine lv_istore_n (lv' := [(3, .int v_5), (2, .int (-1)), (1, .int (bt bf n (spc bf n q))), (0, .ref (B 0))]) hx hb dX8_factor_146 rfl hl (by decide) rfl (fun ls hl => ?_)
        refine lv_aload_n hx hb dX8_factor_147 rfl (lv_at hl 3 rfl) ?_
        refine lv_iload_n hx hb dX8_factor_148 rfl (lv_at hl 1 rfl) ?_
        refine lv_if_ge (tgt := 156) hx hb dX8_factor_149 (by decide) (fun c_149 => ?_) (fun c_149 => ?_)
        · exact absurd c_149 (by decide)
        · refine lv_iconst (v := 0) hx hb dX8_factor_152 rfl ?_
          refine lv_goto (tgt := 157) hx hb dX8_factor_153 (by decide) ?_
          refine Wr.callV (rest := []) (c_X8_emit l G hD C.length (emC_5 d0 C) (by first | omega | (simp only [List.length_append, List.length_singleton]; omega)) 0) yk_X8_emit E km_X8_114 dX8_factor_157 hG (hE.S hS hD.efa) hP (At.recv hG hP.1 rfl) rfl rfl hl.1 ⟨by show _ ≤ fr + 1; omega, by show _ ≤ lo + 21; omega⟩ ⟨Nat.le_of_ble_eq_true rfl, Nat.le_of_ble_eq_true rfl⟩ (Nat.le_of_ble_eq_true rfl) hS (fun _ h9 => h9) (fun v9 H locs hq hz9 hfr9 hS => ?_)
          obtain ⟨rfl, hP⟩ := hq
          have hP : MW G B (fm t bl (nI n) (nI q2) 0 (-1) eo ud (nI (spc bf n q)) (nI (3 - k)) se) bf da (emC d0 (C ++ [0])) hi sk H := by rw [← emC_snoc]; exact hP
          refine lv_aload_n hx hb dX8_factor_160 rfl (lv_at hl 3 rfl) ?_
          refine lv_iload_n hx hb dX8_factor_161 rfl (lv_at hl 0 rfl) ?_
          refine Wr.callV (rest := []) (c_X8_emit l G hD (C ++ [0]).length (emC_5 d0 (C ++ [0])) (by first | omega | (simp only [List.length_append, List.length_singleton]; omega)) v_5) yk_X8_emit E km_X8_114 dX8_factor_162 hG (hE.S hS hD.efa) hP (At.recv hG hP.1 rfl) rfl rfl hl.1 ⟨by show _ ≤ fr + 1; omega, by show _ ≤ lo + 21; omega⟩ ⟨Nat.le_of_ble_eq_true rfl, Nat.le_of_ble_eq_true rfl⟩ (Nat.le_of_ble_eq_true rfl) hS (fun _ h9 => h9) (fun v9 H locs hq hz9 hfr9 hS => ?_)
          obtain ⟨rfl, hP⟩ := hq
          have hP : MW G B (fm t bl (nI n) (nI q2) 0 (-1) eo ud (nI (spc bf n q)) (nI (3 - k)) se) bf da (emC d0 ((C ++ [0]) ++ [v_5])) hi sk H := by rw [← emC_snoc]; exact hP
          exact wr_void E hr hk hS (by decide) (by decide) (⟨rfl, _, _, _, _, _, hP, by rw [hfo, opF_d c9 hnu]; exact ⟨rfl, rfl, q2, rfl, hq2, rfl⟩, fun s9 L9 z => by rw [hfo, opF_d c9 hnu] at z; cases z; rw [exL_1, show exS v_5 = [0, v_5] from if_pos hv8]; simp only [List.append_assoc, List.cons_append, List.nil_append]⟩) dX8_factor_165
  · have hsb := sk_b (bf := bf) hq9
    have hlt := bt_lt c_16 (by decide)
    have hsb3 := sk_b (bf := bf) (n := n) (q := spc bf n q + 1) (by omega)
    refine lv_aload_n hx hb dX8_factor_19 rfl (lv_at hl 1 rfl) ?_
    refine gf_X8_91 (v := .int (nI (3 - k))) E hG hP.1 rfl dX8_factor_20 ?_
    refine lv_iconst (v := 4) hx hb dX8_factor_23 rfl ?_
    refine lv_icmp_ne (tgt := 37) hx hb dX8_factor_24 (by decide) (fun c_24 => ?_) (fun c_24 => ?_)
    rotate_left
    · exact absurd ((nEQ (x := nI (3 - k)) (y := 4) (a := 3 - k) (b := 4) rfl rfl (by omega) (by omega)).mp c_24) (by omega)
    refine lv_aload_n hx hb dX8_factor_37 rfl (lv_at hl 1 rfl) ?_
    refine lv_dup hx hb dX8_factor_38 rfl ?_
    refine gf_X8_41 (v := .int (nI (spc bf n q))) E hG hP.1 rfl dX8_factor_39 ?_
    refine lv_iconst (v := 1) hx hb dX8_factor_42 rfl ?_
    refine lv_iadd hx hb dX8_factor_43 ?_
    refine lv_ci (y := nI (spc bf n q + 1)) (ixq (nI_ad rfl rfl)) ?_
    refine pf_X8_41 E hG hP.1 (Nat.le_of_ble_eq_true rfl) rfl rfl hS ⟨0, by decide, rfl⟩ dX8_factor_44 (fun H locs ho hz oq hS => ?_)
    have hP : MW G B (fm t bl (nI n) (nI (spc bf n q + 1)) 0 (-1) eo ud ns (nI (3 - k)) se) bf da (emC d0 C) hi sk H := hP.setO hD ho oq
    refine lv_aload_n hx hb dX8_factor_47 rfl (lv_at hl 1 rfl) ?_
    refine lv_dup hx hb dX8_factor_48 rfl ?_
    refine gf_X8_91 (v := .int (nI (3 - k))) E hG hP.1 rfl dX8_factor_49 ?_
    refine lv_iconst (v := 1) hx hb dX8_factor_52 rfl ?_
    refine lv_iadd hx hb dX8_factor_53 ?_
    refine lv_ci (y := nI (3 - k + 1)) (nI_1 _) ?_
    refine pf_X8_91 E hG hP.1 (Nat.le_of_ble_eq_true rfl) rfl rfl hS ⟨0, by decide, rfl⟩ dX8_factor_54 (fun H locs ho hz oq hS => ?_)
    have hP : MW G B (fm t bl (nI n) (nI (spc bf n q + 1)) 0 (-1) eo ud ns (nI (3 - k + 1)) se) bf da (emC d0 C) hi sk H := hP.setO hD ho oq
    refine lv_aload_n hx hb dX8_factor_57 rfl (lv_at hl 1 rfl) ?_
    refine Wr.callV (rest := []) (hF (spc bf n q + 1) _ C (by omega) (by omega)) yk_X8_sum E km_X8_94 dX8_factor_58 hG (hE.S hS hD.efa) hP (At.recv hG hP.1 rfl) rfl rfl hl.1 ⟨by show _ ≤ fr + 1; omega, by show _ ≤ lo + 21; omega⟩ ⟨Nat.le_of_ble_eq_true rfl, Nat.le_of_ble_eq_true rfl⟩ (Nat.le_of_ble_eq_true rfl) hS (fun _ h9 => h9) (fun v9 H locs hq hz9 hfr9 hS => ?_)
    obtain ⟨rfl, ps, er, ea, ns, dr1, hP, hRK, hdr⟩ := hq
    rcases hfa : smF bf n (fcF bf n k) (spc bf n (spc bf n q + 1)) with ⟨c8, o8⟩ | ⟨s8, L8⟩
    · rw [hfa] at hRK
      have he9 : ¬ er = 0 := by rw [hRK.1]; exact hRK.2.1
      refine lv_aload_n hx hb dX8_factor_61 rfl (lv_at hl 1 rfl) ?_
      refine lv_bipush (v := 41) hx hb dX8_factor_62 rfl ?_
      refine Wr.callV (rest := []) (c_X8_expect_b l G hD 41 he9) yk_X8_expect E km_X8_97 dX8_factor_64 hG (hE.S hS hD.efa) hP (At.recv hG hP.1 rfl) rfl rfl hl.1 ⟨by show _ ≤ fr + 1; omega, by show _ ≤ lo + 21; omega⟩ ⟨Nat.le_of_ble_eq_true rfl, Nat.le_of_ble_eq_true rfl⟩ (Nat.le_of_ble_eq_true rfl) hS (fun _ h9 => h9) (fun v9 H locs hq hz9 hfr9 hS => ?_)
      obtain ⟨rfl, hP⟩ := hq
      refine lv_aload_n hx hb dX8_factor_67 rfl (lv_at hl 1 rfl) ?_
      refine lv_dup hx hb dX8_factor_68 rfl ?_
      refine gf_X8_91 (v := .int (nI (3 - k + 1))) E hG hP.1 rfl dX8_factor_69 ?_
      refine lv_iconst (v := 1) hx hb dX8_factor_72 rfl ?_
      refine lv_isub hx hb dX8_factor_73 ?_
      refine lv_ci (y := nI (3 - k)) (nI_pred _) ?_
      refine pf_X8_91 E hG hP.1 (Nat.le_of_ble_eq_true rfl) rfl rfl hS ⟨0, by decide, rfl⟩ dX8_factor_74 (fun H locs ho hz oq hS => ?_)
      have hP : MW G B (fm t bl (nI n) ps er ea eo ud ns (nI (3 - k)) se) bf da dr1 hi sk H := hP.setO hD ho oq
      exact wr_void E hr hk hS (by decide) (by decide) (⟨rfl, _, _, _, _, _, hP, by rw [fcF_s c_16, paF_e hfa]; exact hRK, fun s9 L9 z => by rw [fcF_s c_16, paF_e hfa] at z; cases z⟩) dX8_factor_77
    · rw [hfa] at hRK
      obtain ⟨her, hea, q2, hps, hq2, hs2⟩ := hRK
      have hdr := hdr _ _ hfa
      subst her hea hps hs2 hdr
      refine lv_aload_n hx hb dX8_factor_61 rfl (lv_at hl 1 rfl) ?_
      refine lv_bipush (v := 41) hx hb dX8_factor_62 rfl ?_
      refine Wr.callV (rest := []) (c_X8_expect_u l G hD n hn9 (.ok (spc bf n q2)) ⟨rfl, rfl, q2, rfl, hq2, rfl⟩ 41 (by decide)) yk_X8_expect E km_X8_97 dX8_factor_64 hG (hE.S hS hD.efa) hP (At.recv hG hP.1 rfl) rfl rfl hl.1 ⟨by show _ ≤ fr + 1; omega, by show _ ≤ lo + 21; omega⟩ ⟨Nat.le_of_ble_eq_true rfl, Nat.le_of_ble_eq_true rfl⟩ (Nat.le_of_ble_eq_true rfl) hS (fun _ h9 => h9) (fun v9 H locs hq hz9 hfr9 hS => ?_)
      obtain ⟨ps, er, ea, rfl, hP, hRK⟩ := hq
      have hRK : RK bf n (syF bf n 41 (spc bf n q2)) ps er ea := hRK
      refine lv_aload_n hx hb dX8_factor_67 rfl (lv_at hl 1 rfl) ?_
      refine lv_dup hx hb dX8_factor_68 rfl ?_
      refine gf_X8_91 (v := .int (nI (3 - k + 1))) E hG hP.1 rfl dX8_factor_69 ?_
      refine lv_iconst (v := 1) hx hb dX8_factor_72 rfl ?_
      refine lv_isub hx hb dX8_factor_73 ?_
      refine lv_ci (y := nI (3 - k)) (nI_pred _) ?_
      rcases hsy : syF bf n 41 (spc bf n q2) with e7 | s7
      · rw [hsy] at hRK
        refine pf_X8_91 E hG hP.1 (Nat.le_of_ble_eq_true rfl) rfl rfl hS ⟨0, by decide, rfl⟩ dX8_factor_74 (fun H locs ho hz oq hS => ?_)
        have hP : MW G B (fm t bl (nI n) ps er ea eo ud ns (nI (3 - k)) se) bf da (emC d0 (C ++ exL L8)) hi sk H := hP.setO hD ho oq
        exact wr_void E hr hk hS (by decide) (by decide) (⟨rfl, _, _, _, _, _, hP, by rw [fcF_s c_16, paF_x hfa hsy]; exact hRK, fun s9 L9 z => by rw [fcF_s c_16, paF_x hfa hsy] at z; cases z⟩) dX8_factor_77
      · rw [hsy] at hRK
        refine pf_X8_91 E hG hP.1 (Nat.le_of_ble_eq_true rfl) rfl rfl hS ⟨0, by decide, rfl⟩ dX8_factor_74 (fun H locs ho hz oq hS => ?_)
        have hP : MW G B (fm t bl (nI n) ps er ea eo ud ns (nI (3 - k)) se) bf da (emC d0 (C ++ exL L8)) hi sk H := hP.setO hD ho oq
        exact wr_void E hr hk hS (by decide) (by decide) (⟨rfl, _, _, _, _, _, hP, by rw [fcF_s c_16, paF_o hfa hsy]; exact hRK, fun s9 L9 z => by rw [fcF_s c_16, paF_o hfa hsy] at z; cases z; rfl⟩) dX8_factor_77
theorem c_X8_fac0 (l : Launch) (G : CG) {B : Nat → Nat} {t bl eo ud se : Int32} {bf da : Nat → Int32} {hi : Nat → Nat → Int32} {sk : Nat → Int64} (hD : MD G B) (n : Nat) (hn9 : n ≤ 900) (hB : ByO bf) {d0 : Nat → Int32} : ∀ (q : Nat) (ns : Int32) (C : List Int32), q ≤ n → 2 * C.length ≤ 3 * spc bf n q → Wr l yX8_factor cX8_factor 4 ((Option.none : Option FieldType)) 5 107 0 0 G [.ref (B 0)] (MW G B (fm t bl (nI n) (nI q) 0 (-1) eo ud ns (nI 4) se) bf da (emC d0 C) hi sk) (MA B) (fun v9 H9 => v9 = none ∧ ∃ ps er ea ns dr1, MW G B (fm t bl (nI n) ps er ea eo ud ns (nI 4) se) bf da dr1 hi sk H9 ∧ RK bf n (pl ((fcF bf n 0) (spc bf n q))) ps er ea ∧ ∀ s9 L9, (fcF bf n 0) (spc bf n q) = .ok (s9, L9) → dr1 = emC d0 (C ++ exL L9)) := fun q ns C h1 h2 => c_X8_factor_0 l G hD n q hn9 h1 hB C h2
theorem c_X8_tm0 (l : Launch) (G : CG) {B : Nat → Nat} {t bl eo ud se : Int32} {bf da : Nat → Int32} {hi : Nat → Nat → Int32} {sk : Nat → Int64} (hD : MD G B) (n : Nat) (hn9 : n ≤ 900) (hB : ByO bf) {d0 : Nat → Int32} : ∀ (q : Nat) (ns : Int32) (C : List Int32), q ≤ n → 2 * C.length ≤ 3 * spc bf n q → Wr l yX8_term cX8_term 2 ((Option.none : Option FieldType)) 6 130 0 0 G [.ref (B 0)] (MW G B (fm t bl (nI n) (nI q) 0 (-1) eo ud ns (nI 4) se) bf da (emC d0 C) hi sk) (MA B) (fun v9 H9 => v9 = none ∧ ∃ ps er ea ns dr1, MW G B (fm t bl (nI n) ps er ea eo ud ns (nI 4) se) bf da dr1 hi sk H9 ∧ RK bf n (pl ((tmF bf n (fcF bf n 0)) (spc bf n q))) ps er ea ∧ ∀ s9 L9, (tmF bf n (fcF bf n 0)) (spc bf n q) = .ok (s9, L9) → dr1 = emC d0 (C ++ exL L9)) := fun q ns C h1 h2 => c_X8_term l G hD n q hn9 h1 hB C h2 (Gd_fc hB 0) (by decide) (by decide) (c_X8_fac0 l G hD n hn9 hB)
theorem c_X8_sm0 (l : Launch) (G : CG) {B : Nat → Nat} {t bl eo ud se : Int32} {bf da : Nat → Int32} {hi : Nat → Nat → Int32} {sk : Nat → Int64} (hD : MD G B) (n : Nat) (hn9 : n ≤ 900) (hB : ByO bf) {d0 : Nat → Int32} : ∀ (q : Nat) (ns : Int32) (C : List Int32), q ≤ n → 2 * C.length ≤ 3 * spc bf n q → Wr l yX8_sum cX8_sum 2 ((Option.none : Option FieldType)) 7 151 0 0 G [.ref (B 0)] (MW G B (fm t bl (nI n) (nI q) 0 (-1) eo ud ns (nI 4) se) bf da (emC d0 C) hi sk) (MA B) (fun v9 H9 => v9 = none ∧ ∃ ps er ea ns dr1, MW G B (fm t bl (nI n) ps er ea eo ud ns (nI 4) se) bf da dr1 hi sk H9 ∧ RK bf n (pl ((smF bf n (fcF bf n 0)) (spc bf n q))) ps er ea ∧ ∀ s9 L9, (smF bf n (fcF bf n 0)) (spc bf n q) = .ok (s9, L9) → dr1 = emC d0 (C ++ exL L9)) := fun q ns C h1 h2 => c_X8_sum l G hD n q hn9 h1 hB C h2 (Gd_fc hB 0).tm (by decide) (by decide) (c_X8_tm0 l G hD n hn9 hB)
theorem c_X8_fac1 (l : Launch) (G : CG) {B : Nat → Nat} {t bl eo ud se : Int32} {bf da : Nat → Int32} {hi : Nat → Nat → Int32} {sk : Nat → Int64} (hD : MD G B) (n : Nat) (hn9 : n ≤ 900) (hB : ByO bf) {d0 : Nat → Int32} : ∀ (q : Nat) (ns : Int32) (C : List Int32), q ≤ n → 2 * C.length ≤ 3 * spc bf n q → Wr l yX8_factor cX8_factor 4 ((Option.none : Option FieldType)) 8 172 0 0 G [.ref (B 0)] (MW G B (fm t bl (nI n) (nI q) 0 (-1) eo ud ns (nI 3) se) bf da (emC d0 C) hi sk) (MA B) (fun v9 H9 => v9 = none ∧ ∃ ps er ea ns dr1, MW G B (fm t bl (nI n) ps er ea eo ud ns (nI 3) se) bf da dr1 hi sk H9 ∧ RK bf n (pl ((fcF bf n 1) (spc bf n q))) ps er ea ∧ ∀ s9 L9, (fcF bf n 1) (spc bf n q) = .ok (s9, L9) → dr1 = emC d0 (C ++ exL L9)) := fun q ns C h1 h2 => c_X8_factor_s l G hD n q hn9 h1 hB C h2 0 (by decide) (by decide) (by decide) (c_X8_sm0 l G hD n hn9 hB)
theorem c_X8_tm1 (l : Launch) (G : CG) {B : Nat → Nat} {t bl eo ud se : Int32} {bf da : Nat → Int32} {hi : Nat → Nat → Int32} {sk : Nat → Int64} (hD : MD G B) (n : Nat) (hn9 : n ≤ 900) (hB : ByO bf) {d0 : Nat → Int32} : ∀ (q : Nat) (ns : Int32) (C : List Int32), q ≤ n → 2 * C.length ≤ 3 * spc bf n q → Wr l yX8_term cX8_term 2 ((Option.none : Option FieldType)) 9 195 0 0 G [.ref (B 0)] (MW G B (fm t bl (nI n) (nI q) 0 (-1) eo ud ns (nI 3) se) bf da (emC d0 C) hi sk) (MA B) (fun v9 H9 => v9 = none ∧ ∃ ps er ea ns dr1, MW G B (fm t bl (nI n) ps er ea eo ud ns (nI 3) se) bf da dr1 hi sk H9 ∧ RK bf n (pl ((tmF bf n (fcF bf n 1)) (spc bf n q))) ps er ea ∧ ∀ s9 L9, (tmF bf n (fcF bf n 1)) (spc bf n q) = .ok (s9, L9) → dr1 = emC d0 (C ++ exL L9)) := fun q ns C h1 h2 => c_X8_term l G hD n q hn9 h1 hB C h2 (Gd_fc hB 1) (by decide) (by decide) (c_X8_fac1 l G hD n hn9 hB)
theorem c_X8_sm1 (l : Launch) (G : CG) {B : Nat → Nat} {t bl eo ud se : Int32} {bf da : Nat → Int32} {hi : Nat → Nat → Int32} {sk : Nat → Int64} (hD : MD G B) (n : Nat) (hn9 : n ≤ 900) (hB : ByO bf) {d0 : Nat → Int32} : ∀ (q : Nat) (ns : Int32) (C : List Int32), q ≤ n → 2 * C.length ≤ 3 * spc bf n q → Wr l yX8_sum cX8_sum 2 ((Option.none : Option FieldType)) 10 216 0 0 G [.ref (B 0)] (MW G B (fm t bl (nI n) (nI q) 0 (-1) eo ud ns (nI 3) se) bf da (emC d0 C) hi sk) (MA B) (fun v9 H9 => v9 = none ∧ ∃ ps er ea ns dr1, MW G B (fm t bl (nI n) ps er ea eo ud ns (nI 3) se) bf da dr1 hi sk H9 ∧ RK bf n (pl ((smF bf n (fcF bf n 1)) (spc bf n q))) ps er ea ∧ ∀ s9 L9, (smF bf n (fcF bf n 1)) (spc bf n q) = .ok (s9, L9) → dr1 = emC d0 (C ++ exL L9)) := fun q ns C h1 h2 => c_X8_sum l G hD n q hn9 h1 hB C h2 (Gd_fc hB 1).tm (by decide) (by decide) (c_X8_tm1 l G hD n hn9 hB)
theorem c_X8_fac2 (l : Launch) (G : CG) {B : Nat → Nat} {t bl eo ud se : Int32} {bf da : Nat → Int32} {hi : Nat → Nat → Int32} {sk : Nat → Int64} (hD : MD G B) (n : Nat) (hn9 : n ≤ 900) (hB : ByO bf) {d0 : Nat → Int32} : ∀ (q : Nat) (ns : Int32) (C : List Int32), q ≤ n → 2 * C.length ≤ 3 * spc bf n q → Wr l yX8_factor cX8_factor 4 ((Option.none : Option FieldType)) 11 237 0 0 G [.ref (B 0)] (MW G B (fm t bl (nI n) (nI q) 0 (-1) eo ud ns (nI 2) se) bf da (emC d0 C) hi sk) (MA B) (fun v9 H9 => v9 = none ∧ ∃ ps er ea ns dr1, MW G B (fm t bl (nI n) ps er ea eo ud ns (nI 2) se) bf da dr1 hi sk H9 ∧ RK bf n (pl ((fcF bf n 2) (spc bf n q))) ps er ea ∧ ∀ s9 L9, (fcF bf n 2) (spc bf n q) = .ok (s9, L9) → dr1 = emC d0 (C ++ exL L9)) := fun q ns C h1 h2 => c_X8_factor_s l G hD n q hn9 h1 hB C h2 1 (by decide) (by decide) (by decide) (c_X8_sm1 l G hD n hn9 hB)
theorem c_X8_tm2 (l : Launch) (G : CG) {B : Nat → Nat} {t bl eo ud se : Int32} {bf da : Nat → Int32} {hi : Nat → Nat → Int32} {sk : Nat → Int64} (hD : MD G B) (n : Nat) (hn9 : n ≤ 900) (hB : ByO bf) {d0 : Nat → Int32} : ∀ (q : Nat) (ns : Int32) (C : List Int32), q ≤ n → 2 * C.length ≤ 3 * spc bf n q → Wr l yX8_term cX8_term 2 ((Option.none : Option FieldType)) 12 260 0 0 G [.ref (B 0)] (MW G B (fm t bl (nI n) (nI q) 0 (-1) eo ud ns (nI 2) se) bf da (emC d0 C) hi sk) (MA B) (fun v9 H9 => v9 = none ∧ ∃ ps er ea ns dr1, MW G B (fm t bl (nI n) ps er ea eo ud ns (nI 2) se) bf da dr1 hi sk H9 ∧ RK bf n (pl ((tmF bf n (fcF bf n 2)) (spc bf n q))) ps er ea ∧ ∀ s9 L9, (tmF bf n (fcF bf n 2)) (spc bf n q) = .ok (s9, L9) → dr1 = emC d0 (C ++ exL L9)) := fun q ns C h1 h2 => c_X8_term l G hD n q hn9 h1 hB C h2 (Gd_fc hB 2) (by decide) (by decide) (c_X8_fac2 l G hD n hn9 hB)
theorem c_X8_sm2 (l : Launch) (G : CG) {B : Nat → Nat} {t bl eo ud se : Int32} {bf da : Nat → Int32} {hi : Nat → Nat → Int32} {sk : Nat → Int64} (hD : MD G B) (n : Nat) (hn9 : n ≤ 900) (hB : ByO bf) {d0 : Nat → Int32} : ∀ (q : Nat) (ns : Int32) (C : List Int32), q ≤ n → 2 * C.length ≤ 3 * spc bf n q → Wr l yX8_sum cX8_sum 2 ((Option.none : Option FieldType)) 13 281 0 0 G [.ref (B 0)] (MW G B (fm t bl (nI n) (nI q) 0 (-1) eo ud ns (nI 2) se) bf da (emC d0 C) hi sk) (MA B) (fun v9 H9 => v9 = none ∧ ∃ ps er ea ns dr1, MW G B (fm t bl (nI n) ps er ea eo ud ns (nI 2) se) bf da dr1 hi sk H9 ∧ RK bf n (pl ((smF bf n (fcF bf n 2)) (spc bf n q))) ps er ea ∧ ∀ s9 L9, (smF bf n (fcF bf n 2)) (spc bf n q) = .ok (s9, L9) → dr1 = emC d0 (C ++ exL L9)) := fun q ns C h1 h2 => c_X8_sum l G hD n q hn9 h1 hB C h2 (Gd_fc hB 2).tm (by decide) (by decide) (c_X8_tm2 l G hD n hn9 hB)
theorem c_X8_fac3 (l : Launch) (G : CG) {B : Nat → Nat} {t bl eo ud se : Int32} {bf da : Nat → Int32} {hi : Nat → Nat → Int32} {sk : Nat → Int64} (hD : MD G B) (n : Nat) (hn9 : n ≤ 900) (hB : ByO bf) {d0 : Nat → Int32} : ∀ (q : Nat) (ns : Int32) (C : List Int32), q ≤ n → 2 * C.length ≤ 3 * spc bf n q → Wr l yX8_factor cX8_factor 4 ((Option.none : Option FieldType)) 14 302 0 0 G [.ref (B 0)] (MW G B (fm t bl (nI n) (nI q) 0 (-1) eo ud ns (nI 1) se) bf da (emC d0 C) hi sk) (MA B) (fun v9 H9 => v9 = none ∧ ∃ ps er ea ns dr1, MW G B (fm t bl (nI n) ps er ea eo ud ns (nI 1) se) bf da dr1 hi sk H9 ∧ RK bf n (pl ((fcF bf n 3) (spc bf n q))) ps er ea ∧ ∀ s9 L9, (fcF bf n 3) (spc bf n q) = .ok (s9, L9) → dr1 = emC d0 (C ++ exL L9)) := fun q ns C h1 h2 => c_X8_factor_s l G hD n q hn9 h1 hB C h2 2 (by decide) (by decide) (by decide) (c_X8_sm2 l G hD n hn9 hB)
theorem c_X8_tm3 (l : Launch) (G : CG) {B : Nat → Nat} {t bl eo ud se : Int32} {bf da : Nat → Int32} {hi : Nat → Nat → Int32} {sk : Nat → Int64} (hD : MD G B) (n : Nat) (hn9 : n ≤ 900) (hB : ByO bf) {d0 : Nat → Int32} : ∀ (q : Nat) (ns : Int32) (C : List Int32), q ≤ n → 2 * C.length ≤ 3 * spc bf n q → Wr l yX8_term cX8_term 2 ((Option.none : Option FieldType)) 15 325 0 0 G [.ref (B 0)] (MW G B (fm t bl (nI n) (nI q) 0 (-1) eo ud ns (nI 1) se) bf da (emC d0 C) hi sk) (MA B) (fun v9 H9 => v9 = none ∧ ∃ ps er ea ns dr1, MW G B (fm t bl (nI n) ps er ea eo ud ns (nI 1) se) bf da dr1 hi sk H9 ∧ RK bf n (pl ((tmF bf n (fcF bf n 3)) (spc bf n q))) ps er ea ∧ ∀ s9 L9, (tmF bf n (fcF bf n 3)) (spc bf n q) = .ok (s9, L9) → dr1 = emC d0 (C ++ exL L9)) := fun q ns C h1 h2 => c_X8_term l G hD n q hn9 h1 hB C h2 (Gd_fc hB 3) (by decide) (by decide) (c_X8_fac3 l G hD n hn9 hB)
theorem c_X8_sm3 (l : Launch) (G : CG) {B : Nat → Nat} {t bl eo ud se : Int32} {bf da : Nat → Int32} {hi : Nat → Nat → Int32} {sk : Nat → Int64} (hD : MD G B) (n : Nat) (hn9 : n ≤ 900) (hB : ByO bf) {d0 : Nat → Int32} : ∀ (q : Nat) (ns : Int32) (C : List Int32), q ≤ n → 2 * C.length ≤ 3 * spc bf n q → Wr l yX8_sum cX8_sum 2 ((Option.none : Option FieldType)) 16 346 0 0 G [.ref (B 0)] (MW G B (fm t bl (nI n) (nI q) 0 (-1) eo ud ns (nI 1) se) bf da (emC d0 C) hi sk) (MA B) (fun v9 H9 => v9 = none ∧ ∃ ps er ea ns dr1, MW G B (fm t bl (nI n) ps er ea eo ud ns (nI 1) se) bf da dr1 hi sk H9 ∧ RK bf n (pl ((smF bf n (fcF bf n 3)) (spc bf n q))) ps er ea ∧ ∀ s9 L9, (smF bf n (fcF bf n 3)) (spc bf n q) = .ok (s9, L9) → dr1 = emC d0 (C ++ exL L9)) := fun q ns C h1 h2 => c_X8_sum l G hD n q hn9 h1 hB C h2 (Gd_fc hB 3).tm (by decide) (by decide) (c_X8_tm3 l G hD n hn9 hB)
theorem c_X8_fac4 (l : Launch) (G : CG) {B : Nat → Nat} {t bl eo ud se : Int32} {bf da : Nat → Int32} {hi : Nat → Nat → Int32} {sk : Nat → Int64} (hD : MD G B) (n : Nat) (hn9 : n ≤ 900) (hB : ByO bf) {d0 : Nat → Int32} : ∀ (q : Nat) (ns : Int32) (C : List Int32), q ≤ n → 2 * C.length ≤ 3 * spc bf n q → Wr l yX8_factor cX8_factor 4 ((Option.none : Option FieldType)) 17 367 0 0 G [.ref (B 0)] (MW G B (fm t bl (nI n) (nI q) 0 (-1) eo ud ns (nI 0) se) bf da (emC d0 C) hi sk) (MA B) (fun v9 H9 => v9 = none ∧ ∃ ps er ea ns dr1, MW G B (fm t bl (nI n) ps er ea eo ud ns (nI 0) se) bf da dr1 hi sk H9 ∧ RK bf n (pl ((fcF bf n 4) (spc bf n q))) ps er ea ∧ ∀ s9 L9, (fcF bf n 4) (spc bf n q) = .ok (s9, L9) → dr1 = emC d0 (C ++ exL L9)) := fun q ns C h1 h2 => c_X8_factor_s l G hD n q hn9 h1 hB C h2 3 (by decide) (by decide) (by decide) (c_X8_sm3 l G hD n hn9 hB)
theorem c_X8_tm4 (l : Launch) (G : CG) {B : Nat → Nat} {t bl eo ud se : Int32} {bf da : Nat → Int32} {hi : Nat → Nat → Int32} {sk : Nat → Int64} (hD : MD G B) (n : Nat) (hn9 : n ≤ 900) (hB : ByO bf) {d0 : Nat → Int32} : ∀ (q : Nat) (ns : Int32) (C : List Int32), q ≤ n → 2 * C.length ≤ 3 * spc bf n q → Wr l yX8_term cX8_term 2 ((Option.none : Option FieldType)) 18 390 0 0 G [.ref (B 0)] (MW G B (fm t bl (nI n) (nI q) 0 (-1) eo ud ns (nI 0) se) bf da (emC d0 C) hi sk) (MA B) (fun v9 H9 => v9 = none ∧ ∃ ps er ea ns dr1, MW G B (fm t bl (nI n) ps er ea eo ud ns (nI 0) se) bf da dr1 hi sk H9 ∧ RK bf n (pl ((tmF bf n (fcF bf n 4)) (spc bf n q))) ps er ea ∧ ∀ s9 L9, (tmF bf n (fcF bf n 4)) (spc bf n q) = .ok (s9, L9) → dr1 = emC d0 (C ++ exL L9)) := fun q ns C h1 h2 => c_X8_term l G hD n q hn9 h1 hB C h2 (Gd_fc hB 4) (by decide) (by decide) (c_X8_fac4 l G hD n hn9 hB)
theorem c_X8_sm4 (l : Launch) (G : CG) {B : Nat → Nat} {t bl eo ud se : Int32} {bf da : Nat → Int32} {hi : Nat → Nat → Int32} {sk : Nat → Int64} (hD : MD G B) (n : Nat) (hn9 : n ≤ 900) (hB : ByO bf) {d0 : Nat → Int32} : ∀ (q : Nat) (ns : Int32) (C : List Int32), q ≤ n → 2 * C.length ≤ 3 * spc bf n q → Wr l yX8_sum cX8_sum 2 ((Option.none : Option FieldType)) 19 411 0 0 G [.ref (B 0)] (MW G B (fm t bl (nI n) (nI q) 0 (-1) eo ud ns (nI 0) se) bf da (emC d0 C) hi sk) (MA B) (fun v9 H9 => v9 = none ∧ ∃ ps er ea ns dr1, MW G B (fm t bl (nI n) ps er ea eo ud ns (nI 0) se) bf da dr1 hi sk H9 ∧ RK bf n (pl ((smF bf n (fcF bf n 4)) (spc bf n q))) ps er ea ∧ ∀ s9 L9, (smF bf n (fcF bf n 4)) (spc bf n q) = .ok (s9, L9) → dr1 = emC d0 (C ++ exL L9)) := fun q ns C h1 h2 => c_X8_sum l G hD n q hn9 h1 hB C h2 (Gd_fc hB 4).tm (by decide) (by decide) (c_X8_tm4 l G hD n hn9 hB)
