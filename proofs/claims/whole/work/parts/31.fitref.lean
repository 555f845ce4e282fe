set_option maxHeartbeats 4000000 in
set_option maxRecDepth 100000 in
/-- bestFit -/
theorem c_X8_bestFit (l : Launch) (G : CG) {B : Nat → Nat} {t bl tl ps er ea eo ud ns ne se : Int32} {bf da dr : Nat → Int32} {hi : Nat → Nat → Int32} {sk : Nat → Int64} (hD : MD G B) (x : Int32) (c9 : Nat) (ex : x = nI c9) (hk9 : c9 < 12) (hin9 : inV x 0 (da 0 - 1) = 1) (np nc : Nat) (h1 : da 1 = nI np) (hp0 : np ≤ 24) (h0 : da 0 = nI nc) (hc0 : nc ≤ 12) (hA : AmOk da np) : Wr l yX8_bestFit cX8_bestFit 10 ((Option.some FieldType.int)) 4 86 0 0 G [.ref (B 0), .int x] (MW G B (fm t bl tl ps er ea eo ud ns ne se) bf da dr hi sk) (MA B) (fun v9 H9 => v9 = some (.int (fitV da np nc c9)) ∧ MW G B (fm 0 bl tl ps er ea eo ud ns ne se) bf da dr hi sk H9) := by
  refine Wr.ofW (by decide) (Nat.le_of_ble_eq_true rfl) (fun p e s m below meth c ls E hG hE hP hr hk hin hl => ?_)
  have hS : va_S (MA B) s.heap s.heap [] := va_S.rf
  have hx := E.1
  have hb := E.2.1
  have hl : lv_has ls 10 [(0, .ref (B 0)), (1, .int x)] := hl
  refine lv_aload_n hx hb dX8_bestFit_0 rfl (lv_at hl 0 rfl) ?_
  refine lv_iconst (v := 0) hx hb dX8_bestFit_1 rfl ?_
  refine pf_X8_32 E hG hP.1 (Nat.le_of_ble_eq_true rfl) rfl rfl hS ⟨0, by decide, rfl⟩ dX8_bestFit_2 (fun H locs ho hz oq hS => ?_)
  have hP : MW G B (fm 0 bl tl ps er ea eo ud ns ne se) bf da dr hi sk H := hP.setO hD ho oq
  refine lv_aload_n hx hb dX8_bestFit_5 rfl (lv_at hl 0 rfl) ?_
  refine lv_iload_n hx hb dX8_bestFit_6 rfl (lv_at hl 1 rfl) ?_
  refine Wr.callV (rest := []) (c_X8_noCredit l G hD x hin9) yk_X8_noCredit E km_X8_179 dX8_bestFit_7 hG (hE.S hS hD.efa) hP (At.recv hG hP.1 rfl) rfl rfl hl.1 ⟨Nat.le_of_ble_eq_true rfl, Nat.le_of_ble_eq_true rfl⟩ ⟨Nat.le_of_ble_eq_true rfl, Nat.le_of_ble_eq_true rfl⟩ (Nat.le_of_ble_eq_true rfl) hS (fun _ h9 => h9) (fun v9 H locs hq hz9 hfr9 hS => ?_)
  obtain ⟨rfl, hP⟩ := hq
  refine lv_if_eq (tgt := 15) hx hb dX8_bestFit_10 (by decide) (fun c_10 => ?_) (fun c_10 => ?_)
  · refine lv_iconst (v := 0) hx hb dX8_bestFit_15 rfl ?_
    refine lv_istore_n (lv' := [(2, .int 0), (0, .ref (B 0)), (1, .int x)]) hx hb dX8_bestFit_16 rfl hl (by decide) rfl (fun ls hl => ?_)
    refine lv_iconst (v := 0) hx hb dX8_bestFit_17 rfl ?_
    refine lv_ci (y := nI 0) (ixq rfl) ?_
    refine lv_istore_n (lv' := [(3, .int (nI 0)), (2, .int 0), (0, .ref (B 0)), (1, .int x)]) hx hb dX8_bestFit_18 rfl hl (by decide) rfl (fun ls hl => ?_)
    refine lv_iconst (v := 0) hx hb dX8_bestFit_19 rfl ?_
    refine lv_istore (lv' := [(4, .int 0), (3, .int (nI 0)), (2, .int 0), (0, .ref (B 0)), (1, .int x)]) hx hb dX8_bestFit_20 hl (by decide) rfl (fun ls hl => ?_)
    refine lv_iconst (v := 0) hx hb dX8_bestFit_22 rfl ?_
    refine lv_istore (lv' := [(5, .int 0), (4, .int 0), (3, .int (nI 0)), (2, .int 0), (0, .ref (B 0)), (1, .int x)]) hx hb dX8_bestFit_23 hl (by decide) rfl (fun ls hl => ?_)
    refine lv_aload_n hx hb dX8_bestFit_25 rfl (lv_at hl 4 rfl) ?_
    refine lv_iload_n hx hb dX8_bestFit_26 rfl (lv_at hl 5 rfl) ?_
    refine Rd.callV (rest := []) (c_X8_availableOf l G x c9 np nc ex (by omega) h1 hp0 h0 hc0) yk_X8_availableOf E km_X8_201 dX8_bestFit_27 hG (hE.S hS hD.efa) hP (At.recv hG hP.1 rfl) rfl rfl hl.1 ⟨Nat.le_of_ble_eq_true rfl, Nat.le_of_ble_eq_true rfl⟩ ⟨Nat.zero_le _, Nat.zero_le _⟩ (Nat.le_of_ble_eq_true rfl) ?_
    refine lv_istore (lv' := [(6, .int (availV da np nc c9)), (5, .int 0), (4, .int 0), (3, .int (nI 0)), (2, .int 0), (0, .ref (B 0)), (1, .int x)]) hx hb dX8_bestFit_30 hl (by decide) rfl (fun ls hl => ?_)
    refine lv_iconst (v := 0) hx hb dX8_bestFit_32 rfl ?_
    refine lv_ci (y := nI 0) (ixq rfl) ?_
    refine lv_istore (lv' := [(7, .int (nI 0)), (6, .int (availV da np nc c9)), (5, .int 0), (4, .int 0), (3, .int (nI 0)), (2, .int 0), (0, .ref (B 0)), (1, .int x)]) hx hb dX8_bestFit_33 hl (by decide) rfl (fun ls hl => ?_)
    have hM := mS_lt da (nI c9) np
    have hM2 : 2 ^ np ≤ 2 ^ 24 := Nat.pow_le_pow_right (by decide) hp0
    have second : ∀ ls : Array Slot, lv_has ls 10 [(4, .int 0), (5, .int 0), (2, .int (nI (mS da (nI c9) np))), (6, .int (availV da np nc c9)), (0, .ref (B 0)), (1, .int x)] → W p l e { frames := 4, cells := 0, slots := 0, locals := 86 } s m ([.ref (B 0), .int x] : List Value).toArray below meth c H locs 0 0 (WQ below ([.ref (B 0), .int x] : List Value).toArray s 0 0 (MA B) (fun v9 H9 => v9 = some (.int (fitV da np nc c9)) ∧ MW G B (fm 0 bl tl ps er ea eo ud ns ne se) bf da dr hi sk H9)) (F0 m 101 ls []) := by
      intro ls hl
      have cps : ∀ (k ta ra ha sm : Nat) (mo be : Int32), k ≤ np → Dj ta ra ha → mS da (nI c9) np = 2 ^ k * ha + mS da (nI c9) k → smS da (2 ^ k * ta) np = nI sm → sm + 2000000 * k < 100000000 → (∀ ls : Array Slot, lv_has ls 10 [(7, .int (nI (2 ^ k * ta + mS da (nI c9) k))), (4, .int ((uS da (nI c9) (availV da np nc c9) k ta sm (mo, be)).2)), (5, .int ((uS da (nI c9) (availV da np nc c9) k ta sm (mo, be)).1)), (2, .int (nI (mS da (nI c9) np))), (6, .int (availV da np nc c9)), (0, .ref (B 0)), (1, .int x)] → W p l e { frames := 4, cells := 0, slots := 0, locals := 86 } s m ([.ref (B 0), .int x] : List Value).toArray below meth c H locs 0 0 (WQ below ([.ref (B 0), .int x] : List Value).toArray s 0 0 (MA B) (fun v9 H9 => v9 = some (.int (fitV da np nc c9)) ∧ MW G B (fm 0 bl tl ps er ea eo ud ns ne se) bf da dr hi sk H9)) (F0 m 181 ls [])) → ∀ ls : Array Slot, lv_has ls 10 [(7, .int (nI (2 ^ k * ta))), (4, .int be), (5, .int mo), (2, .int (nI (mS da (nI c9) np))), (6, .int (availV da np nc c9)), (0, .ref (B 0)), (1, .int x)] → W p l e { frames := 4, cells := 0, slots := 0, locals := 86 } s m ([.ref (B 0), .int x] : List Value).toArray below meth c H locs 0 0 (WQ below ([.ref (B 0), .int x] : List Value).toArray s 0 0 (MA B) (fun v9 H9 => v9 = some (.int (fitV da np nc c9)) ∧ MW G B (fm 0 bl tl ps er ea eo ud ns ne se) bf da dr hi sk H9)) (F0 m 104 ls []) := by
        intro k
        induction k with
        | zero =>
          intro ta ra ha sm mo be z0 z1 z2 z3 z4 K ls hl
          have e0 : 2 ^ 0 * ta + mS da (nI c9) 0 = ta := by show 2 ^ 0 * ta + 0 = ta; rw [Nat.pow_zero]; omega
          have e1 : 2 ^ 0 * ta = ta := by rw [Nat.pow_zero]; omega
          rw [e0] at K
          rw [e1] at hl z3
          have z2 : mS da (nI c9) np = 2 ^ 0 * ha + 0 := z2
          rw [Nat.pow_zero] at z2
          have hta : ta < 2 ^ 24 := by have := z1.1; omega
          refine lv_iconst (v := 0) hx hb dX8_bestFit_104 rfl ?_
          refine lv_istore (lv' := [(8, .int 0), (7, .int (nI ta)), (4, .int be), (5, .int mo), (2, .int (nI (mS da (nI c9) np))), (6, .int (availV da np nc c9)), (0, .ref (B 0)), (1, .int x)]) hx hb dX8_bestFit_105 hl (by decide) rfl (fun ls hl => ?_)
          refine lv_iconst (v := 0) hx hb dX8_bestFit_107 rfl ?_
          refine lv_ci (y := nI 0) (ixq rfl) ?_
          refine lv_istore (lv' := [(9, .int (nI 0)), (8, .int 0), (7, .int (nI ta)), (4, .int be), (5, .int mo), (2, .int (nI (mS da (nI c9) np))), (6, .int (availV da np nc c9)), (0, .ref (B 0)), (1, .int x)]) hx hb dX8_bestFit_108 hl (by decide) rfl (fun ls hl => ?_)
          have inner : ∀ (j p9 : Nat), (np < p9 + j) → (p9 ≤ np) → ∀ ls : Array Slot, lv_has ls 10 [(9, .int (nI p9)), (8, .int (smS da ta p9)), (7, .int (nI ta)), (4, .int be), (5, .int mo), (2, .int (nI (mS da (nI c9) np))), (6, .int (availV da np nc c9)), (0, .ref (B 0)), (1, .int x)] → W p l e { frames := 4, cells := 0, slots := 0, locals := 86 } s m ([.ref (B 0), .int x] : List Value).toArray below meth c H locs 0 0 (WQ below ([.ref (B 0), .int x] : List Value).toArray s 0 0 (MA B) (fun v9 H9 => v9 = some (.int (fitV da np nc c9)) ∧ MW G B (fm 0 bl tl ps er ea eo ud ns ne se) bf da dr hi sk H9)) (F0 m 110 ls []) := by
            intro j
            induction j with
            | zero => intro p9 y1 y2; omega
            | succ j ih =>
              intro p9 y1 y2 ls hl
              refine lv_iload hx hb dX8_bestFit_110 (lv_at hl 0 rfl) ?_
              refine lv_aload_n hx hb dX8_bestFit_112 rfl (lv_at hl 7 rfl) ?_
              refine gf_X8_17 (v := .ref (B 2)) E hG hP.1 rfl dX8_bestFit_113 ?_
              refine lv_iconst (v := 1) hx hb dX8_bestFit_116 rfl ?_
              refine g_ild 1 E hG hP.2.2.1 rfl (by omega) (by decide) dX8_bestFit_117 ?_
              refine lv_icmp_ge (tgt := 159) hx hb dX8_bestFit_118 (by decide) (fun c_118 => ?_) (fun c_118 => ?_)
              · have c_118 : np ≤ p9 := (nLE (x := (da 1)) (y := (nI p9)) (a := np) (b := p9) h1 rfl (by omega) (by omega)).mp c_118
                have e9 : np = p9 := by omega
                rw [← e9, z3] at hl
                refine lv_iload hx hb dX8_bestFit_159 (lv_at hl 1 rfl) ?_
                refine lv_iload hx hb dX8_bestFit_161 (lv_at hl 6 rfl) ?_
                refine lv_icmp_gt (tgt := 181) hx hb dX8_bestFit_163 (by decide) (fun c_163 => ?_) (fun c_163 => ?_)
                · have e7 : uS da (nI c9) (availV da np nc c9) 0 ta sm (mo, be) = (mo, be) := if_pos c_163
                  exact K ls (by rw [e7]; exact (lv_sub hl [2, 3, 4, 5, 6, 7, 8] rfl))
                · refine lv_iload hx hb dX8_bestFit_166 (lv_at hl 1 rfl) ?_
                  refine lv_iload hx hb dX8_bestFit_168 (lv_at hl 4 rfl) ?_
                  refine lv_icmp_le (tgt := 181) hx hb dX8_bestFit_170 (by decide) (fun c_170 => ?_) (fun c_170 => ?_)
                  · have e7 : uS da (nI c9) (availV da np nc c9) 0 ta sm (mo, be) = (mo, be) := (if_neg c_163).trans (if_pos c_170)
                    exact K ls (by rw [e7]; exact (lv_sub hl [2, 3, 4, 5, 6, 7, 8] rfl))
                  · refine lv_iload hx hb dX8_bestFit_173 (lv_at hl 2 rfl) ?_
                    refine lv_istore (lv' := [(4, .int (nI ta)), (9, .int (nI np)), (8, .int (nI sm)), (7, .int (nI ta)), (5, .int mo), (2, .int (nI (mS da (nI c9) np))), (6, .int (availV da np nc c9)), (0, .ref (B 0)), (1, .int x)]) hx hb dX8_bestFit_175 hl (by decide) rfl (fun ls hl => ?_)
                    refine lv_iload hx hb dX8_bestFit_177 (lv_at hl 2 rfl) ?_
                    refine lv_istore (lv' := [(5, .int (nI sm)), (4, .int (nI ta)), (9, .int (nI np)), (8, .int (nI sm)), (7, .int (nI ta)), (2, .int (nI (mS da (nI c9) np))), (6, .int (availV da np nc c9)), (0, .ref (B 0)), (1, .int x)]) hx hb dX8_bestFit_179 hl (by decide) rfl (fun ls hl => ?_)
                    have e7 : uS da (nI c9) (availV da np nc c9) 0 ta sm (mo, be) = (nI sm, nI ta) := (if_neg c_163).trans (if_neg c_170)
                    exact K ls (by rw [e7]; exact (lv_sub hl [4, 1, 0, 5, 6, 7, 8] rfl))
              · have c_118 : ¬ np ≤ p9 := fun z9 => c_118 ((nLE (x := (da 1)) (y := (nI p9)) (a := np) (b := p9) h1 rfl (by omega) (by omega)).mpr z9)
                refine lv_iload hx hb dX8_bestFit_121 (lv_at hl 1 rfl) ?_
                refine lv_iload hx hb dX8_bestFit_123 (lv_at hl 2 rfl) ?_
                refine lv_iload hx hb dX8_bestFit_125 (lv_at hl 0 rfl) ?_
                refine lv_ishr hx hb dX8_bestFit_127 ?_
                refine lv_iconst (v := 1) hx hb dX8_bestFit_128 rfl ?_
                refine lv_iand hx hb dX8_bestFit_129 ?_
                refine lv_iconst (v := 1) hx hb dX8_bestFit_130 rfl ?_
                refine lv_icmp_ne (tgt := 149) hx hb dX8_bestFit_131 (by decide) (fun c_131 => ?_) (fun c_131 => ?_)
                · refine lv_iconst (v := 0) hx hb dX8_bestFit_149 rfl ?_
                  refine lv_iadd hx hb dX8_bestFit_150 ?_
                  refine lv_ci (y := (smS da ta (p9 + 1))) (show _ = smS da ta p9 + (if ta.testBit p9 = true then da (pP p9 + 2) else 0) from by rw [if_neg (fun z9 => c_131 ((bit_at hta (by omega)).mpr z9))]) ?_
                  refine lv_istore (lv' := [(8, .int (smS da ta (p9 + 1))), (9, .int (nI p9)), (7, .int (nI ta)), (4, .int be), (5, .int mo), (2, .int (nI (mS da (nI c9) np))), (6, .int (availV da np nc c9)), (0, .ref (B 0)), (1, .int x)]) hx hb dX8_bestFit_151 hl (by decide) rfl (fun ls hl => ?_)
                  refine lv_iinc (v := (nI (p9 + 1))) (lv' := [(9, .int (nI (p9 + 1))), (8, .int (smS da ta (p9 + 1))), (7, .int (nI ta)), (4, .int be), (5, .int mo), (2, .int (nI (mS da (nI c9) np))), (6, .int (availV da np nc c9)), (0, .ref (B 0)), (1, .int x)]) hx hb dX8_bestFit_153 hl (k := 1) rfl (nI_ad rfl rfl) (by decide) rfl (fun ls hl => ?_)
                  refine lv_goto (tgt := 110) hx hb dX8_bestFit_156 (by decide) ?_
                  exact ih (p9 + 1) (by omega) (by omega) ls (lv_sub hl [0, 1, 2, 3, 4, 5, 6, 7, 8] rfl)
                · refine lv_aload_n hx hb dX8_bestFit_134 rfl (lv_at hl 7 rfl) ?_
                  refine gf_X8_17 (v := .ref (B 2)) E hG hP.1 rfl dX8_bestFit_135 ?_
                  refine lv_iload hx hb dX8_bestFit_138 (lv_at hl 0 rfl) ?_
                  refine Rd.callS (rest := [.ref (B 2), .int (smS da ta p9)]) (c_X8_presentation l G (nI p9)) yk_X8_presentation E km_X8_188 dX8_bestFit_140 hG (hE.S hS hD.efa) trivial rfl rfl hl.1 ⟨Nat.le_of_ble_eq_true rfl, Nat.le_of_ble_eq_true rfl⟩ ⟨Nat.zero_le _, Nat.zero_le _⟩ (Nat.le_of_ble_eq_true rfl) ?_
                  refine lv_iconst (v := 2) hx hb dX8_bestFit_143 rfl ?_
                  refine lv_iadd hx hb dX8_bestFit_144 ?_
                  refine g_ild ((154 + 6 * p9) + 2) E hG hP.2.2.1 (ixq (nI_ad (nI_ad rfl (nI_mu rfl rfl)) rfl)) (by omega) (by decide) dX8_bestFit_145 ?_
                  refine lv_goto (tgt := 150) hx hb dX8_bestFit_146 (by decide) ?_
                  refine lv_iadd hx hb dX8_bestFit_150 ?_
                  refine lv_ci (y := (smS da ta (p9 + 1))) (show _ = smS da ta p9 + (if ta.testBit p9 = true then da (pP p9 + 2) else 0) from by rw [if_pos ((bit_at hta (by omega)).mp c_131)]) ?_
                  refine lv_istore (lv' := [(8, .int (smS da ta (p9 + 1))), (9, .int (nI p9)), (7, .int (nI ta)), (4, .int be), (5, .int mo), (2, .int (nI (mS da (nI c9) np))), (6, .int (availV da np nc c9)), (0, .ref (B 0)), (1, .int x)]) hx hb dX8_bestFit_151 hl (by decide) rfl (fun ls hl => ?_)
                  refine lv_iinc (v := (nI (p9 + 1))) (lv' := [(9, .int (nI (p9 + 1))), (8, .int (smS da ta (p9 + 1))), (7, .int (nI ta)), (4, .int be), (5, .int mo), (2, .int (nI (mS da (nI c9) np))), (6, .int (availV da np nc c9)), (0, .ref (B 0)), (1, .int x)]) hx hb dX8_bestFit_153 hl (k := 1) rfl (nI_ad rfl rfl) (by decide) rfl (fun ls hl => ?_)
                  refine lv_goto (tgt := 110) hx hb dX8_bestFit_156 (by decide) ?_
                  exact ih (p9 + 1) (by omega) (by omega) ls (lv_sub hl [0, 1, 2, 3, 4, 5, 6, 7, 8] rfl)
          exact inner (np + 1) 0 (by omega) (by omega) ls (lv_sub hl [0, 1, 2, 3, 4, 5, 6, 7, 8] rfl)
        | succ k ih =>
          intro ta ra ha sm mo be z0 z1 z2 z3 z4 K ls hl
          have e2 : ∀ y : Nat, 2 ^ (k + 1) * y = 2 ^ k * (2 * y) := fun y => by rw [Nat.pow_succ, Nat.mul_assoc]
          rw [e2] at z2 z3 K hl
          have hml := mS_lt da (nI c9) k
          by_cases h_8 : da (pP k) = nI c9 ∧ da (pP k + 4) = 3 ∧ (cS da (nI c9) k).1 < 12
          · rw [mS_y h_8] at z2 K
            rw [uS_y h_8] at K
            obtain ⟨ha1, ha2⟩ := hA.clamp (k := k) (by omega)
            generalize hc8 : (da (pP k + 2)).toNatClampNeg = am at ha1 ha2 K
            have z2 : mS da (nI c9) np = 2 ^ k * (2 * ha + 1) + mS da (nI c9) k := by rw [z2, Nat.mul_add, Nat.mul_one]; omega
            refine ih (2 * ta) (2 * ra + 1) (2 * ha + 1) sm mo be (by omega) z1.d1 z2 z3 (by omega) (fun ls hl => ?_) ls hl
            have hpk : 0 < 2 ^ k := Nat.pow_pos (by decide)
            have hlt : 2 ^ k * (2 * ta + 1) ≤ 2 ^ k * (2 * ha + 1) := Nat.mul_le_mul_left _ (by have := z1.1; omega)
            have hp2 : 0 < 2 ^ k * (2 * ta + 1) := Nat.mul_pos hpk (by omega)
            refine lv_iload hx hb dX8_bestFit_181 (lv_at hl 0 rfl) ?_
            refine lv_iload_n hx hb dX8_bestFit_183 rfl (lv_at hl 3 rfl) ?_
            refine lv_isub hx hb dX8_bestFit_184 ?_
            refine lv_iload_n hx hb dX8_bestFit_185 rfl (lv_at hl 3 rfl) ?_
            refine lv_iand hx hb dX8_bestFit_186 ?_
            refine lv_ci (y := (nI (2 ^ k * (2 * ta + 1)))) (by rw [z2]; exact nxt (by omega) hml z1 (by omega)) ?_
            refine lv_istore (lv' := [(7, .int (nI (2 ^ k * (2 * ta + 1)))), (4, .int ((uS da (nI c9) (availV da np nc c9) k (2 * ta) sm (mo, be)).2)), (5, .int ((uS da (nI c9) (availV da np nc c9) k (2 * ta) sm (mo, be)).1)), (2, .int (nI (mS da (nI c9) np))), (6, .int (availV da np nc c9)), (0, .ref (B 0)), (1, .int x)]) hx hb dX8_bestFit_187 hl (by decide) rfl (fun ls hl => ?_)
            refine lv_iload hx hb dX8_bestFit_189 (lv_at hl 0 rfl) ?_
            refine lv_if_ne (tgt := 104) hx hb dX8_bestFit_191 (by decide) (fun c_191 => ?_) (fun c_191 => ?_)
            · refine ih (2 * ta + 1) (2 * ra) (2 * ha + 1) (sm + am) (uS da (nI c9) (availV da np nc c9) k (2 * ta) sm (mo, be)).1 (uS da (nI c9) (availV da np nc c9) k (2 * ta) sm (mo, be)).2 (by omega) z1.d2 z2 (by rw [sm_add, z3, if_pos (show k < np by omega), ha2, nI_add]) (by omega) (fun ls hl => K ls ?_) ls (lv_sub hl [0, 1, 2, 3, 4, 5, 6] rfl)
              rw [show 2 ^ k * (2 * ta) + (mS da (nI c9) k + 2 ^ k) = 2 ^ k * (2 * ta + 1) + mS da (nI c9) k by rw [Nat.mul_add, Nat.mul_one]; omega]
              exact hl
            · exact absurd c_191 (nI_ne0 hp2 (by omega))
          · rw [mS_n h_8] at z2 K
            rw [uS_n h_8] at K
            exact ih (2 * ta) (2 * ra) (2 * ha) sm mo be (by omega) z1.d0 z2 z3 (by omega) K ls hl
      refine lv_iconst (v := 0) hx hb dX8_bestFit_101 rfl ?_
      refine lv_ci (y := nI 0) (ixq rfl) ?_
      refine lv_istore (lv' := [(7, .int (nI 0)), (4, .int 0), (5, .int 0), (2, .int (nI (mS da (nI c9) np))), (6, .int (availV da np nc c9)), (0, .ref (B 0)), (1, .int x)]) hx hb dX8_bestFit_102 hl (by decide) rfl (fun ls hl => ?_)
      have hz : 2 ^ np * 0 = 0 := Nat.mul_zero _
      refine cps np 0 0 0 0 0 0 (Nat.le_refl _) ⟨rfl, fun i => by simp⟩ (by omega) (by rw [hz]; exact sm_zero da np) (by omega) (fun ls hl => ?_) ls (by rw [hz]; exact (lv_sub hl [0, 1, 2, 3, 4, 5, 6] rfl))
      refine lv_iload hx hb dX8_bestFit_181 (lv_at hl 0 rfl) ?_
      refine lv_iload_n hx hb dX8_bestFit_183 rfl (lv_at hl 3 rfl) ?_
      refine lv_isub hx hb dX8_bestFit_184 ?_
      refine lv_iload_n hx hb dX8_bestFit_185 rfl (lv_at hl 3 rfl) ?_
      refine lv_iand hx hb dX8_bestFit_186 ?_
      refine lv_ci (y := 0) (by rw [show 2 ^ np * 0 + mS da (nI c9) np = mS da (nI c9) np by omega, Int32.sub_self]; exact Int32.zero_and) ?_
      refine lv_istore (lv' := [(7, .int 0), (4, .int ((uS da (nI c9) (availV da np nc c9) np 0 0 (0, 0)).2)), (5, .int ((uS da (nI c9) (availV da np nc c9) np 0 0 (0, 0)).1)), (2, .int (nI (mS da (nI c9) np))), (6, .int (availV da np nc c9)), (0, .ref (B 0)), (1, .int x)]) hx hb dX8_bestFit_187 hl (by decide) rfl (fun ls hl => ?_)
      refine lv_iload hx hb dX8_bestFit_189 (lv_at hl 0 rfl) ?_
      refine lv_if_ne (tgt := 104) hx hb dX8_bestFit_191 (by decide) (fun c_191 => ?_) (fun c_191 => ?_)
      · exact absurd c_191 (by decide)
      · refine lv_iload hx hb dX8_bestFit_194 (lv_at hl 1 rfl) ?_
        exact wr_int E hr hk hS (by decide) (by decide) (⟨by rw [uS_gS np 0 0 (0, 0) hp0 hA (by omega) (by decide) (Or.inr rfl), hz]; rfl, hP⟩) dX8_bestFit_196
    have loop : ∀ (j k : Nat), (np < k + j) → (k ≤ np) → ∀ ls : Array Slot, lv_has ls 10 [(7, .int (nI k)), (2, .int (nI (mS da (nI c9) k))), (3, .int (nI ((cS da (nI c9) k).1))), (4, .int 0), (5, .int 0), (6, .int (availV da np nc c9)), (0, .ref (B 0)), (1, .int x)] → W p l e { frames := 4, cells := 0, slots := 0, locals := 86 } s m ([.ref (B 0), .int x] : List Value).toArray below meth c H locs 0 0 (WQ below ([.ref (B 0), .int x] : List Value).toArray s 0 0 (MA B) (fun v9 H9 => v9 = some (.int (fitV da np nc c9)) ∧ MW G B (fm 0 bl tl ps er ea eo ud ns ne se) bf da dr hi sk H9)) (F0 m 35 ls []) := by
      intro j
      induction j with
      | zero => intro k z1 z2; omega
      | succ j ih =>
        intro k z1 z2 ls hl
        have hcn := cS_le da (nI c9) k
        refine lv_iload hx hb dX8_bestFit_35 (lv_at hl 0 rfl) ?_
        refine lv_aload_n hx hb dX8_bestFit_37 rfl (lv_at hl 6 rfl) ?_
        refine gf_X8_17 (v := .ref (B 2)) E hG hP.1 rfl dX8_bestFit_38 ?_
        refine lv_iconst (v := 1) hx hb dX8_bestFit_41 rfl ?_
        refine g_ild 1 E hG hP.2.2.1 rfl (by omega) (by decide) dX8_bestFit_42 ?_
        refine lv_icmp_ge (tgt := 101) hx hb dX8_bestFit_43 (by decide) (fun c_43 => ?_) (fun c_43 => ?_)
        · have c_43 : np ≤ k := (nLE (x := (da 1)) (y := (nI k)) (a := np) (b := k) h1 rfl (by omega) (by omega)).mp c_43
          have e9 : k = np := by omega
          rw [e9] at hl
          exact second ls (lv_sub hl [3, 4, 1, 5, 6, 7] rfl)
        · have c_43 : ¬ np ≤ k := fun z9 => c_43 ((nLE (x := (da 1)) (y := (nI k)) (a := np) (b := k) h1 rfl (by omega) (by omega)).mpr z9)
          refine lv_iload_n hx hb dX8_bestFit_46 rfl (lv_at hl 2 rfl) ?_
          refine lv_bipush (v := 12) hx hb dX8_bestFit_47 rfl ?_
          refine lv_icmp_ge (tgt := 101) hx hb dX8_bestFit_49 (by decide) (fun c_49 => ?_) (fun c_49 => ?_)
          · have c_49 : 12 ≤ (cS da (nI c9) k).1 := (nLE (x := 12) (y := (nI ((cS da (nI c9) k).1))) (a := 12) (b := (cS da (nI c9) k).1) rfl rfl (by omega) (by omega)).mp c_49
            have e9 := (full_s (d := da) (c := nI c9) (k := k) (by omega) (np - k)).2
            rw [show k + (np - k) = np by omega] at e9
            rw [← e9] at hl
            exact second ls (lv_sub hl [3, 4, 1, 5, 6, 7] rfl)
          · have c_49 : ¬ 12 ≤ (cS da (nI c9) k).1 := fun z9 => c_49 ((nLE (x := 12) (y := (nI ((cS da (nI c9) k).1))) (a := 12) (b := (cS da (nI c9) k).1) rfl rfl (by omega) (by omega)).mpr z9)
            refine lv_aload_n hx hb dX8_bestFit_52 rfl (lv_at hl 6 rfl) ?_
            refine gf_X8_17 (v := .ref (B 2)) E hG hP.1 rfl dX8_bestFit_53 ?_
            refine lv_iload hx hb dX8_bestFit_56 (lv_at hl 0 rfl) ?_
            refine Rd.callS (rest := [.ref (B 2)]) (c_X8_presentation l G (nI k)) yk_X8_presentation E km_X8_188 dX8_bestFit_58 hG (hE.S hS hD.efa) trivial rfl rfl hl.1 ⟨Nat.le_of_ble_eq_true rfl, Nat.le_of_ble_eq_true rfl⟩ ⟨Nat.zero_le _, Nat.zero_le _⟩ (Nat.le_of_ble_eq_true rfl) ?_
            refine g_ild (154 + 6 * k) E hG hP.2.2.1 (ixq (nI_ad rfl (nI_mu rfl rfl))) (by omega) (by decide) dX8_bestFit_61 ?_
            refine lv_iload_n hx hb dX8_bestFit_62 rfl (lv_at hl 7 rfl) ?_
            refine lv_icmp_ne (tgt := 95) hx hb dX8_bestFit_63 (by decide) (fun c_63 => ?_) (fun c_63 => ?_)
            · refine lv_iinc (v := (nI (k + 1))) (lv' := [(7, .int (nI (k + 1))), (2, .int (nI (mS da (nI c9) k))), (3, .int (nI ((cS da (nI c9) k).1))), (4, .int 0), (5, .int 0), (6, .int (availV da np nc c9)), (0, .ref (B 0)), (1, .int x)]) hx hb dX8_bestFit_95 hl (k := 0) rfl (nI_ad rfl rfl) (by decide) rfl (fun ls hl => ?_)
              refine lv_goto (tgt := 35) hx hb dX8_bestFit_98 (by decide) ?_
              exact ih (k + 1) (by omega) (by omega) ls (by rw [mS_n (fun z9 => c_63 (z9.1.trans ex.symm)), cS_n (fun z9 => c_63 (z9.1.trans ex.symm))]; exact (lv_sub hl [0, 1, 2, 3, 4, 5, 6, 7] rfl))
            · refine lv_aload_n hx hb dX8_bestFit_66 rfl (lv_at hl 6 rfl) ?_
              refine gf_X8_17 (v := .ref (B 2)) E hG hP.1 rfl dX8_bestFit_67 ?_
              refine lv_iload hx hb dX8_bestFit_70 (lv_at hl 0 rfl) ?_
              refine Rd.callS (rest := [.ref (B 2)]) (c_X8_presentation l G (nI k)) yk_X8_presentation E km_X8_188 dX8_bestFit_72 hG (hE.S hS hD.efa) trivial rfl rfl hl.1 ⟨Nat.le_of_ble_eq_true rfl, Nat.le_of_ble_eq_true rfl⟩ ⟨Nat.zero_le _, Nat.zero_le _⟩ (Nat.le_of_ble_eq_true rfl) ?_
              refine lv_iconst (v := 4) hx hb dX8_bestFit_75 rfl ?_
              refine lv_iadd hx hb dX8_bestFit_76 ?_
              refine g_ild ((154 + 6 * k) + 4) E hG hP.2.2.1 (ixq (nI_ad (nI_ad rfl (nI_mu rfl rfl)) rfl)) (by omega) (by decide) dX8_bestFit_77 ?_
              refine lv_iconst (v := 3) hx hb dX8_bestFit_78 rfl ?_
              refine lv_icmp_eq (tgt := 85) hx hb dX8_bestFit_79 (by decide) (fun c_79 => ?_) (fun c_79 => ?_)
              · refine lv_iload_n hx hb dX8_bestFit_85 rfl (lv_at hl 1 rfl) ?_
                refine lv_iconst (v := 1) hx hb dX8_bestFit_86 rfl ?_
                refine lv_iload hx hb dX8_bestFit_87 (lv_at hl 0 rfl) ?_
                refine lv_ishl hx hb dX8_bestFit_89 ?_
                refine lv_ior hx hb dX8_bestFit_90 ?_
                refine lv_ci (y := (nI (mS da (nI c9) k + 2 ^ k))) (or_lo (by omega) (mS_lt da (nI c9) k)) ?_
                refine lv_istore_n (lv' := [(2, .int (nI (mS da (nI c9) k + 2 ^ k))), (7, .int (nI k)), (3, .int (nI ((cS da (nI c9) k).1))), (4, .int 0), (5, .int 0), (6, .int (availV da np nc c9)), (0, .ref (B 0)), (1, .int x)]) hx hb dX8_bestFit_91 rfl hl (by decide) rfl (fun ls hl => ?_)
                refine lv_iinc (v := (nI ((cS da (nI c9) k).1 + 1))) (lv' := [(3, .int (nI ((cS da (nI c9) k).1 + 1))), (2, .int (nI (mS da (nI c9) k + 2 ^ k))), (7, .int (nI k)), (4, .int 0), (5, .int 0), (6, .int (availV da np nc c9)), (0, .ref (B 0)), (1, .int x)]) hx hb dX8_bestFit_92 hl (k := 2) rfl (nI_ad rfl rfl) (by decide) rfl (fun ls hl => ?_)
                refine lv_iinc (v := (nI (k + 1))) (lv' := [(7, .int (nI (k + 1))), (3, .int (nI ((cS da (nI c9) k).1 + 1))), (2, .int (nI (mS da (nI c9) k + 2 ^ k))), (4, .int 0), (5, .int 0), (6, .int (availV da np nc c9)), (0, .ref (B 0)), (1, .int x)]) hx hb dX8_bestFit_95 hl (k := 2) rfl (nI_ad rfl rfl) (by decide) rfl (fun ls hl => ?_)
                refine lv_goto (tgt := 35) hx hb dX8_bestFit_98 (by decide) ?_
                have h_7 : da (pP k) = nI c9 ∧ da (pP k + 4) = 3 ∧ (cS da (nI c9) k).1 < 12 := ⟨c_63.trans ex, c_79, by omega⟩
                exact ih (k + 1) (by omega) (by omega) ls (by rw [mS_y h_7, cS_y h_7.1 h_7.2.1 h_7.2.2]; exact (lv_sub hl [0, 2, 1, 3, 4, 5, 6, 7] rfl))
              · refine lv_goto (tgt := 95) hx hb dX8_bestFit_82 (by decide) ?_
                refine lv_iinc (v := (nI (k + 1))) (lv' := [(7, .int (nI (k + 1))), (2, .int (nI (mS da (nI c9) k))), (3, .int (nI ((cS da (nI c9) k).1))), (4, .int 0), (5, .int 0), (6, .int (availV da np nc c9)), (0, .ref (B 0)), (1, .int x)]) hx hb dX8_bestFit_95 hl (k := 0) rfl (nI_ad rfl rfl) (by decide) rfl (fun ls hl => ?_)
                refine lv_goto (tgt := 35) hx hb dX8_bestFit_98 (by decide) ?_
                exact ih (k + 1) (by omega) (by omega) ls (by rw [mS_n (fun z9 => c_79 z9.2.1), cS_n (fun z9 => c_79 z9.2.1)]; exact (lv_sub hl [0, 1, 2, 3, 4, 5, 6, 7] rfl))
    exact loop (np + 1) 0 (by omega) (by omega) ls (lv_sub hl [0, 5, 4, 3, 2, 1, 6, 7] rfl)
  · exact absurd c_10 (by decide)

set_option maxHeartbeats 4000000 in
set_option maxRecDepth 100000 in
/-- bestFit -/
theorem c_X8_bestFit_x (l : Launch) (G : CG) {B : Nat → Nat} {t bl tl ps er ea eo ud ns ne se : Int32} {bf da dr : Nat → Int32} {hi : Nat → Nat → Int32} {sk : Nat → Int64} (hD : MD G B) (x : Int32) (hin9 : inV x 0 (da 0 - 1) = 0) : Wr l yX8_bestFit cX8_bestFit 10 ((Option.some FieldType.int)) 2 43 0 0 G [.ref (B 0), .int x] (MW G B (fm t bl tl ps er ea eo ud ns ne se) bf da dr hi sk) (MA B) (fun v9 H9 => v9 = some (.int 0) ∧ MW G B (fm 1 bl tl ps er ea eo ud ns ne se) bf da dr hi sk H9) := by
  refine Wr.ofW (by decide) (Nat.le_of_ble_eq_true rfl) (fun p e s m below meth c ls E hG hE hP hr hk hin hl => ?_)
  have hS : va_S (MA B) s.heap s.heap [] := va_S.rf
  have hx := E.1
  have hb := E.2.1
  have hl : lv_has ls 10 [(0, .ref (B 0)), (1, .int x)] := hl
  refine lv_aload_n hx hb dX8_bestFit_0 rfl (lv_at hl 0 rfl) ?_
  refine lv_iconst (v := 0) hx hb dX8_bestFit_1 rfl ?_
  refine pf_X8_32 E hG hP.1 (Nat.le_of_ble_eq_true rfl) rfl rfl hS ⟨0, by decide, rfl⟩ dX8_bestFit_2 (fun H locs ho hz oq hS => ?_)
  have hP : MW G B (fm 0 bl tl ps er ea eo ud ns ne se) bf da dr hi sk H := hP.setO hD ho oq
  refine lv_aload_n hx hb dX8_bestFit_5 rfl (lv_at hl 0 rfl) ?_
  refine lv_iload_n hx hb dX8_bestFit_6 rfl (lv_at hl 1 rfl) ?_
  refine Wr.callV (rest := []) (c_X8_noCredit_x l G hD x hin9) yk_X8_noCredit E km_X8_179 dX8_bestFit_7 hG (hE.S hS hD.efa) hP (At.recv hG hP.1 rfl) rfl rfl hl.1 ⟨Nat.le_of_ble_eq_true rfl, Nat.le_of_ble_eq_true rfl⟩ ⟨Nat.le_of_ble_eq_true rfl, Nat.le_of_ble_eq_true rfl⟩ (Nat.le_of_ble_eq_true rfl) hS (fun _ h9 => h9) (fun v9 H locs hq hz9 hfr9 hS => ?_)
  obtain ⟨rfl, hP⟩ := hq
  refine lv_if_eq (tgt := 15) hx hb dX8_bestFit_10 (by decide) (fun c_10 => ?_) (fun c_10 => ?_)
  · exact absurd c_10 (by decide)
  · refine lv_iconst (v := 0) hx hb dX8_bestFit_13 rfl ?_
    exact wr_int E hr hk hS (by decide) (by decide) (⟨rfl, hP⟩) dX8_bestFit_14
