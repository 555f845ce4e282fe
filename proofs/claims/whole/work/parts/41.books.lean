/-! READING: books with another calendar, another rule -/
theorem fek {G : CG} {AO : Nat → Prop} {fe sz : Nat} {d : Nat → Int32} {H0 H : Heap} {locs : List Loc} (hS : va_S (fun q9 => sz ≤ q9) H0 H locs) (hz : H0.size = sz) (h : FeeAt G AO fe d H0) : FeeAt G AO fe d H := h.kept (fun q h1 _ => hS.2.1 q h1 (by rw [← hz]; exact Nat.not_le.mpr h1))
set_option maxHeartbeats 4000000 in
set_option maxRecDepth 100000 in
/-- withCalendar -/
theorem c_X0_withCalendar (l : Launch) (G : CG) {a sz : Nat} {AO : Nat → Prop} {d d9 : Nat → Int32} {nc nh nh9 : Nat} (hz1 : EFA G sz) (hAO : ∀ q, AO q → q < sz) {c8 h8 : Nat} (hcr : ∀ c, c < nc → crF d9 c = crF d c) (hfs : FS d d9) (ht : d 3 = d9 3) : Wr l yX0_withCalendar cX0_withCalendar 2 ((Option.some (FieldType.object "DocumentaryCreditDesk$Book"))) 2 45 1 5 G [.ref a, .ref c8] (fun H9 => H9.size = sz ∧ BK G AO a d nc 0 nh H9 ∧ (At G c8 (.inr (1, [.ref h8])) H9 ∧ ¬ AO c8) ∧ (At G h8 (iA G nh9 (fun k9 => d9 (6 + k9))) H9 ∧ ¬ AO h8)) (fun q9 => sz ≤ q9) (fun v9 H9 => ∃ b, v9 = some (.ref b) ∧ BK G AO b d9 nc 0 nh9 H9) := by
  refine Wr.ofW (by decide) (Nat.le_of_ble_eq_true rfl) (fun p e s m below meth c ls E hG hE hP hr hk hin hl => ?_)
  have hS : va_S (fun q9 => sz ≤ q9) s.heap s.heap [] := va_S.rf
  have hx := E.1
  have hb := E.2.1
  have hl : lv_has ls 2 [(0, .ref a), (1, .ref c8)] := hl
  obtain ⟨hz0, hB, hc8, hh8⟩ := hP
  obtain ⟨ca, ho, fe, cr, pr, cA, pA, k1, k2, k3, k4, k5, k6, k7, k8⟩ := id hB
  have hEA : ∀ q9, sz ≤ q9 → EFA G q9 := fun q9 h9 => Nat.le_trans hz1 h9
  refine n_new (ci := 0) (fs := [.int 0, .null, .null, .null, .null]) (ty := tyX0) inX0 tyX0_ok rfl kl_X0_10 kn_X0 kin_X0 df_X0 E hG hS (Nat.le_of_eq hz0.symm) (show 0 + 1 ≤ 1 by omega) (show 0 + 5 ≤ 5 by omega) dX0_withCalendar_0 (fun b_1 H hb_1 hg_1 f_1 hz oq hS => ?_)
  refine lv_dup hx hb dX0_withCalendar_3 rfl ?_
  refine lv_aload_n hx hb dX0_withCalendar_4 rfl (lv_at hl 0 rfl) ?_
  refine gf_X0_9 E hG (kn hS hz0 k1.1) rfl dX0_withCalendar_5 ?_
  refine lv_aload_n hx hb dX0_withCalendar_8 rfl (lv_at hl 1 rfl) ?_
  refine lv_aload_n hx hb dX0_withCalendar_9 rfl (lv_at hl 0 rfl) ?_
  refine gf_X0_19 E hG (kn hS hz0 k1.1) rfl dX0_withCalendar_10 ?_
  refine lv_aload_n hx hb dX0_withCalendar_13 rfl (lv_at hl 0 rfl) ?_
  refine gf_X0_23 E hG (kn hS hz0 k1.1) rfl dX0_withCalendar_14 ?_
  refine lv_aload_n hx hb dX0_withCalendar_17 rfl (lv_at hl 0 rfl) ?_
  refine gf_X0_27 E hG (kn hS hz0 k1.1) rfl dX0_withCalendar_18 ?_
  refine Wr.callI (rest := [.ref b_1]) (c_X0_init l G (d 3) c8 fe cr pr) yk_X0_init E km_X0_47 dX0_withCalendar_21 hG (hE.S hS hEA) f_1 rfl rfl hl.1 ⟨Nat.le_of_ble_eq_true rfl, Nat.le_of_ble_eq_true rfl⟩ ⟨(show 0 + 1 + 0 ≤ 1 by omega), (show 0 + 5 + 0 ≤ 5 by omega)⟩ (Nat.le_of_ble_eq_true rfl) hS (fun q9 h9 => by rw [h9]; exact hg_1) (fun v9 H locs hq hz9 hfr9 hS => ?_)
  obtain ⟨rfl, f_1⟩ := hq
  exact wr_ref E hr (by first | exact Or.inl ⟨_, rfl⟩ | exact Or.inr ⟨_, rfl⟩) hk hS (show 0 + 1 + 0 ≤ 1 by omega) (show 0 + 5 + 0 ≤ 5 by omega) (⟨b_1, rfl, BK.next (d := d9) ⟨f_1, (fun z9 => absurd (hAO _ z9) (Nat.not_lt.mpr hg_1))⟩ ht (knp hS hz0 hc8) (knp hS hz0 hh8) (fun _ _ => rfl) (knp hS hz0 k4) (knp hS hz0 k5) (fun c9 h9 => by rw [hcr c9 h9]; exact knp hS hz0 (k6 c9 h9)) (fun p9 h9 => absurd h9 (Nat.not_lt_zero p9)) (fen hS hz0 k8 hfs)⟩) dX0_withCalendar_24

set_option maxHeartbeats 4000000 in
set_option maxRecDepth 100000 in
/-- withFeeRule -/
theorem c_X0_withFeeRule (l : Launch) (G : CG) {a sz : Nat} {AO : Nat → Prop} {d d9 : Nat → Int32} {nc nh nh9 : Nat} (hz1 : EFA G sz) (hAO : ∀ q, AO q → q < sz) {f8 : Nat} (hcr : ∀ c, c < nc → crF d9 c = crF d c) (hho : ∀ k, k < nh → d9 (6 + k) = d (6 + k)) (ht : d 3 = d9 3) (_hn : nh9 = nh) : Wr l yX0_withFeeRule cX0_withFeeRule 2 ((Option.some (FieldType.object "DocumentaryCreditDesk$Book"))) 2 45 1 5 G [.ref a, .ref f8] (fun H9 => H9.size = sz ∧ BK G AO a d nc 0 nh H9 ∧ FeeAt G AO f8 d9 H9) (fun q9 => sz ≤ q9) (fun v9 H9 => ∃ b, v9 = some (.ref b) ∧ BK G AO b d9 nc 0 nh H9) := by
  refine Wr.ofW (by decide) (Nat.le_of_ble_eq_true rfl) (fun p e s m below meth c ls E hG hE hP hr hk hin hl => ?_)
  have hS : va_S (fun q9 => sz ≤ q9) s.heap s.heap [] := va_S.rf
  have hx := E.1
  have hb := E.2.1
  have hl : lv_has ls 2 [(0, .ref a), (1, .ref f8)] := hl
  obtain ⟨hz0, hB, hf8⟩ := hP
  obtain ⟨ca, ho, fe, cr, pr, cA, pA, k1, k2, k3, k4, k5, k6, k7, k8⟩ := id hB
  have hEA : ∀ q9, sz ≤ q9 → EFA G q9 := fun q9 h9 => Nat.le_trans hz1 h9
  refine n_new (ci := 0) (fs := [.int 0, .null, .null, .null, .null]) (ty := tyX0) inX0 tyX0_ok rfl kl_X0_10 kn_X0 kin_X0 df_X0 E hG hS (Nat.le_of_eq hz0.symm) (show 0 + 1 ≤ 1 by omega) (show 0 + 5 ≤ 5 by omega) dX0_withFeeRule_0 (fun b_1 H hb_1 hg_1 f_1 hz oq hS => ?_)
  refine lv_dup hx hb dX0_withFeeRule_3 rfl ?_
  refine lv_aload_n hx hb dX0_withFeeRule_4 rfl (lv_at hl 0 rfl) ?_
  refine gf_X0_9 E hG (kn hS hz0 k1.1) rfl dX0_withFeeRule_5 ?_
  refine lv_aload_n hx hb dX0_withFeeRule_8 rfl (lv_at hl 0 rfl) ?_
  refine gf_X0_15 E hG (kn hS hz0 k1.1) rfl dX0_withFeeRule_9 ?_
  refine lv_aload_n hx hb dX0_withFeeRule_12 rfl (lv_at hl 1 rfl) ?_
  refine lv_aload_n hx hb dX0_withFeeRule_13 rfl (lv_at hl 0 rfl) ?_
  refine gf_X0_23 E hG (kn hS hz0 k1.1) rfl dX0_withFeeRule_14 ?_
  refine lv_aload_n hx hb dX0_withFeeRule_17 rfl (lv_at hl 0 rfl) ?_
  refine gf_X0_27 E hG (kn hS hz0 k1.1) rfl dX0_withFeeRule_18 ?_
  refine Wr.callI (rest := [.ref b_1]) (c_X0_init l G (d 3) ca f8 cr pr) yk_X0_init E km_X0_47 dX0_withFeeRule_21 hG (hE.S hS hEA) f_1 rfl rfl hl.1 ⟨Nat.le_of_ble_eq_true rfl, Nat.le_of_ble_eq_true rfl⟩ ⟨(show 0 + 1 + 0 ≤ 1 by omega), (show 0 + 5 + 0 ≤ 5 by omega)⟩ (Nat.le_of_ble_eq_true rfl) hS (fun q9 h9 => by rw [h9]; exact hg_1) (fun v9 H locs hq hz9 hfr9 hS => ?_)
  obtain ⟨rfl, f_1⟩ := hq
  exact wr_ref E hr (by first | exact Or.inl ⟨_, rfl⟩ | exact Or.inr ⟨_, rfl⟩) hk hS (show 0 + 1 + 0 ≤ 1 by omega) (show 0 + 5 + 0 ≤ 5 by omega) (⟨b_1, rfl, BK.next ⟨f_1, (fun z9 => absurd (hAO _ z9) (Nat.not_lt.mpr hg_1))⟩ ht (knp hS hz0 k2) (knp hS hz0 k3) hho (knp hS hz0 k4) (knp hS hz0 k5) (fun c9 h9 => by rw [hcr c9 h9]; exact knp hS hz0 (k6 c9 h9)) (fun p9 h9 => absurd h9 (Nat.not_lt_zero p9)) (fek hS hz0 hf8)⟩) dX0_withFeeRule_24

set_option maxHeartbeats 4000000 in
set_option maxRecDepth 100000 in
/-- isFull -/
theorem c_X1_isFull (l : Launch) (G : CG) {ca ho : Nat} {d : Nat → Int32} {nh : Nat} (hh : nh ≤ 16) : Rd l yX1_isFull cX1_isFull 1 ((Option.some FieldType.boolean)) 0 0 G [.ref ca] (fun H9 => At G ca (.inr (1, [.ref ho])) H9 ∧ At G ho (iA G nh (fun k9 => d (6 + k9))) H9) (some (.int (if nh < 16 then 0 else 1))) := by
  refine Rd.ofW (by decide) (Nat.le_of_ble_eq_true rfl) (fun p e s m below meth c ls E hG hE hP hr hk hl => ?_)
  have hx := E.1
  have hb := E.2.1
  have hl : lv_has ls 1 [(0, .ref ca)] := hl
  refine lv_aload_n hx hb dX1_isFull_0 rfl (lv_at hl 0 rfl) ?_
  refine gf_X1_7 E hG hP.1 rfl dX1_isFull_1 ?_
  refine g_len (t0 := 1) (v := (nI nh)) E hG hP.2 rfl rfl dX1_isFull_4 ?_
  refine lv_bipush (v := 16) hx hb dX1_isFull_5 rfl ?_
  refine lv_icmp_lt (tgt := 14) hx hb dX1_isFull_7 (by decide) (fun c_7 => ?_) (fun c_7 => ?_)
  · have c_7 : nh < 16 := (nLT (x := (nI nh)) (y := 16) (a := nh) (b := 16) rfl rfl (by omega) (by omega)).mp c_7
    refine lv_iconst (v := 0) hx hb dX1_isFull_14 rfl ?_
    exact rd_bool E hr hk (by first | (simp only [c_7, ↓reduceIte, not_true_eq_false, not_false_eq_true]; done) | (simp [c_7]; done)) (by first | exact Or.inl rfl | exact Or.inr rfl | (omega)) dX1_isFull_15
  · have c_7 : ¬ nh < 16 := fun z9 => c_7 ((nLT (x := (nI nh)) (y := 16) (a := nh) (b := 16) rfl rfl (by omega) (by omega)).mpr z9)
    refine lv_iconst (v := 1) hx hb dX1_isFull_10 rfl ?_
    refine lv_goto (tgt := 15) hx hb dX1_isFull_11 (by decide) ?_
    exact rd_bool E hr hk (by first | (simp only [c_7, ↓reduceIte, not_true_eq_false, not_false_eq_true]; done) | (simp [c_7]; done)) (by first | exact Or.inl rfl | exact Or.inr rfl | (omega)) dX1_isFull_15
