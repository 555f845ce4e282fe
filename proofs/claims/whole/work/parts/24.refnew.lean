set_option maxHeartbeats 4000000 in
set_option maxRecDepth 100000 in
/-- constructor -/
theorem c_X8_init (l : Launch) (G : CG) {x sz : Nat} (hz1 : EFA G sz) (hEx : EFA G x) (hxz : x < sz) : Wr l yX8_init cX8_init 1 ((Option.none : Option FieldType)) 1 20 13 20388 G [.ref x] (fun H9 => H9.size = sz ∧ At G x (.inr (8, [.int 0, .null, .int 0, .int 0, .int 0, .int 0, .int 0, .int 0, .null, .null, .null, .int 0, .int 0, .int 0, .int 0, .null])) H9) (fun q9 => q9 = x ∨ sz ≤ q9) (fun v9 H9 => v9 = none ∧ ∃ B : Nat → Nat, B 0 = x ∧ (∀ i, 1 ≤ i → i < 14 → sz ≤ B i) ∧ MD G B ∧ MW G B (fm 0 0 0 0 0 0 (-1) 0 0 0 0) (fun _ => 0) (fun _ => 0) (fun _ => 0) (fun _ _ => 0) (fun _ => 0) H9) := by
  refine Wr.ofW (by decide) (Nat.le_of_ble_eq_true rfl) (fun p e s m below meth c ls E hG hE hP hr hk hin hl => ?_)
  have hS : va_S (fun q9 => q9 = x ∨ sz ≤ q9) s.heap s.heap [] := va_S.rf
  have hx := E.1
  have hb := E.2.1
  have hl : lv_has ls 1 [(0, .ref x)] := hl
  obtain ⟨hz0, f_x⟩ := hP
  have hEA : ∀ q9, q9 = x ∨ sz ≤ q9 → EFA G q9 := fun q9 h9 => h9.elim (fun z9 => by rw [z9]; exact hEx) (fun z9 => Nat.le_trans hz1 z9)
  refine lv_aload_n hx hb dX8_init_0 rfl (lv_at hl 0 rfl) ?_
  refine W.objInit hx hb E.2.2.2.1 (E.2.2.2.2 _ km_X8_3) (E.2.2.2.2 _ ki_objInit) (E.2.2.2.2 _ kc_objInit) rfl (by rw [E.2.2.1]; exact hl.1) rfl dX8_init_1 (Nat.le_of_ble_eq_true rfl) (Nat.le_of_ble_eq_true rfl) ?_
  refine lv_aload_n hx hb dX8_init_4 rfl (lv_at hl 0 rfl) ?_
  refine lv_sipush (v := 900) hx hb dX8_init_5 rfl ?_
  refine n_newa (atype := .int) (N := 900) (x := (900, .inl (fun _ => 0))) (t0 := 1) rfl ka_int (by exact Or.inl rfl) rfl E hG hS (Nat.le_of_eq hz0.symm) rfl (by omega) (show 0 + 1 ≤ 13 by omega) (show 0 + 900 ≤ 20388 by omega) dX8_init_8 (fun b_1 H hb_1 hg_1 f_1 hz oq hS => ?_)
  have ne_x_b_1 : x ≠ b_1 := fun z9 => absurd (va_at.lt f_x) (by rw [z9, hb_1]; exact Nat.lt_irrefl _)
  have f_x : At G x (.inr (8, [.int 0, .null, .int 0, .int 0, .int 0, .int 0, .int 0, .int 0, .null, .null, .null, .int 0, .int 0, .int 0, .int 0, .null])) H := olt f_x oq
  refine pf_X8_9 E hG (hin rfl) f_x (Nat.le_of_ble_eq_true rfl) rfl rfl hS (Or.inl rfl) dX8_init_10 (fun H locs f_x hz oq hS => ?_)
  have f_1 : At G b_1 (.inl (G.2.1 1, 900, .inl (fun _ => 0))) H := oth f_1 (Ne.symm ne_x_b_1) oq
  have f_x : At G x (.inr (8, [.int 0, .ref b_1, .int 0, .int 0, .int 0, .int 0, .int 0, .int 0, .null, .null, .null, .int 0, .int 0, .int 0, .int 0, .null])) H := f_x
  refine lv_aload_n hx hb dX8_init_13 rfl (lv_at hl 0 rfl) ?_
  refine lv_iconst (v := (-1)) hx hb dX8_init_14 rfl ?_
  refine pf_X8_13 E hG f_x (Nat.le_of_ble_eq_true rfl) rfl rfl hS (Or.inl rfl) dX8_init_15 (fun H locs f_x hz oq hS => ?_)
  have f_1 : At G b_1 (.inl (G.2.1 1, 900, .inl (fun _ => 0))) H := oth f_1 (Ne.symm ne_x_b_1) oq
  have f_x : At G x (.inr (8, [.int 0, .ref b_1, .int 0, .int 0, .int 0, .int 0, .int 0, .int (-1), .null, .null, .null, .int 0, .int 0, .int 0, .int 0, .null])) H := f_x
  refine lv_aload_n hx hb dX8_init_18 rfl (lv_at hl 0 rfl) ?_
  refine lv_sipush (v := 1798) hx hb dX8_init_19 rfl ?_
  refine n_newa (atype := .int) (N := 1798) (x := (1798, .inl (fun _ => 0))) (t0 := 1) rfl ka_int (by exact Or.inl rfl) rfl E hG hS (Nat.le_of_eq hz0.symm) rfl (by omega) (show 0 + 1 + 1 ≤ 13 by omega) (show 0 + 900 + 1798 ≤ 20388 by omega) dX8_init_22 (fun b_2 H hb_2 hg_2 f_2 hz oq hS => ?_)
  have ne_x_b_2 : x ≠ b_2 := fun z9 => absurd (va_at.lt f_x) (by rw [z9, hb_2]; exact Nat.lt_irrefl _)
  have ne_b_1_b_2 : b_1 ≠ b_2 := fun z9 => absurd (va_at.lt f_1) (by rw [z9, hb_2]; exact Nat.lt_irrefl _)
  have f_x : At G x (.inr (8, [.int 0, .ref b_1, .int 0, .int 0, .int 0, .int 0, .int 0, .int (-1), .null, .null, .null, .int 0, .int 0, .int 0, .int 0, .null])) H := olt f_x oq
  have f_1 : At G b_1 (.inl (G.2.1 1, 900, .inl (fun _ => 0))) H := olt f_1 oq
  refine pf_X8_17 E hG (hin rfl) f_x (Nat.le_of_ble_eq_true rfl) rfl rfl hS (Or.inl rfl) dX8_init_24 (fun H locs f_x hz oq hS => ?_)
  have f_1 : At G b_1 (.inl (G.2.1 1, 900, .inl (fun _ => 0))) H := oth f_1 (Ne.symm ne_x_b_1) oq
  have f_2 : At G b_2 (.inl (G.2.1 1, 1798, .inl (fun _ => 0))) H := oth f_2 (Ne.symm ne_x_b_2) oq
  have f_x : At G x (.inr (8, [.int 0, .ref b_1, .int 0, .int 0, .int 0, .int 0, .int 0, .int (-1), .ref b_2, .null, .null, .int 0, .int 0, .int 0, .int 0, .null])) H := f_x
  refine lv_aload_n hx hb dX8_init_27 rfl (lv_at hl 0 rfl) ?_
  refine lv_sipush (v := 1798) hx hb dX8_init_28 rfl ?_
  refine n_newa (atype := .int) (N := 1798) (x := (1798, .inl (fun _ => 0))) (t0 := 1) rfl ka_int (by exact Or.inl rfl) rfl E hG hS (Nat.le_of_eq hz0.symm) rfl (by omega) (show 0 + 1 + 1 + 1 ≤ 13 by omega) (show 0 + 900 + 1798 + 1798 ≤ 20388 by omega) dX8_init_31 (fun b_3 H hb_3 hg_3 f_3 hz oq hS => ?_)
  have ne_x_b_3 : x ≠ b_3 := fun z9 => absurd (va_at.lt f_x) (by rw [z9, hb_3]; exact Nat.lt_irrefl _)
  have ne_b_1_b_3 : b_1 ≠ b_3 := fun z9 => absurd (va_at.lt f_1) (by rw [z9, hb_3]; exact Nat.lt_irrefl _)
  have ne_b_2_b_3 : b_2 ≠ b_3 := fun z9 => absurd (va_at.lt f_2) (by rw [z9, hb_3]; exact Nat.lt_irrefl _)
  have f_x : At G x (.inr (8, [.int 0, .ref b_1, .int 0, .int 0, .int 0, .int 0, .int 0, .int (-1), .ref b_2, .null, .null, .int 0, .int 0, .int 0, .int 0, .null])) H := olt f_x oq
  have f_1 : At G b_1 (.inl (G.2.1 1, 900, .inl (fun _ => 0))) H := olt f_1 oq
  have f_2 : At G b_2 (.inl (G.2.1 1, 1798, .inl (fun _ => 0))) H := olt f_2 oq
  refine pf_X8_20 E hG (hin rfl) f_x (Nat.le_of_ble_eq_true rfl) rfl rfl hS (Or.inl rfl) dX8_init_33 (fun H locs f_x hz oq hS => ?_)
  have f_1 : At G b_1 (.inl (G.2.1 1, 900, .inl (fun _ => 0))) H := oth f_1 (Ne.symm ne_x_b_1) oq
  have f_2 : At G b_2 (.inl (G.2.1 1, 1798, .inl (fun _ => 0))) H := oth f_2 (Ne.symm ne_x_b_2) oq
  have f_3 : At G b_3 (.inl (G.2.1 1, 1798, .inl (fun _ => 0))) H := oth f_3 (Ne.symm ne_x_b_3) oq
  have f_x : At G x (.inr (8, [.int 0, .ref b_1, .int 0, .int 0, .int 0, .int 0, .int 0, .int (-1), .ref b_2, .ref b_3, .null, .int 0, .int 0, .int 0, .int 0, .null])) H := f_x
  refine lv_aload_n hx hb dX8_init_36 rfl (lv_at hl 0 rfl) ?_
  refine lv_bipush (v := 8) hx hb dX8_init_37 rfl ?_
  refine lv_sipush (v := 1798) hx hb dX8_init_39 rfl ?_
  refine g_mna kl_X8_23 E hG hS (Nat.le_of_eq hz0.symm) (show 0 + 1 + 1 + 1 + 9 ≤ 13 by omega) (show 0 + 900 + 1798 + 1798 + 14392 ≤ 20388 by omega) dX8_init_42 (fun b_4 H hb_4 hg_4 f_4 hrow hz oq hS => ?_)
  have ne_x_b_4 : x ≠ b_4 := fun z9 => absurd (va_at.lt f_x) (by rw [z9, hb_4]; exact Nat.lt_irrefl _)
  have ne_b_1_b_4 : b_1 ≠ b_4 := fun z9 => absurd (va_at.lt f_1) (by rw [z9, hb_4]; exact Nat.lt_irrefl _)
  have ne_b_2_b_4 : b_2 ≠ b_4 := fun z9 => absurd (va_at.lt f_2) (by rw [z9, hb_4]; exact Nat.lt_irrefl _)
  have ne_b_3_b_4 : b_3 ≠ b_4 := fun z9 => absurd (va_at.lt f_3) (by rw [z9, hb_4]; exact Nat.lt_irrefl _)
  have f_x : At G x (.inr (8, [.int 0, .ref b_1, .int 0, .int 0, .int 0, .int 0, .int 0, .int (-1), .ref b_2, .ref b_3, .null, .int 0, .int 0, .int 0, .int 0, .null])) H := olt f_x oq
  have f_1 : At G b_1 (.inl (G.2.1 1, 900, .inl (fun _ => 0))) H := olt f_1 oq
  have f_2 : At G b_2 (.inl (G.2.1 1, 1798, .inl (fun _ => 0))) H := olt f_2 oq
  have f_3 : At G b_3 (.inl (G.2.1 1, 1798, .inl (fun _ => 0))) H := olt f_3 oq
  refine pf_X8_25 E hG (hin rfl) f_x (Nat.le_of_ble_eq_true rfl) rfl rfl hS (Or.inl rfl) dX8_init_46 (fun H locs f_x hz oq hS => ?_)
  have f_1 : At G b_1 (.inl (G.2.1 1, 900, .inl (fun _ => 0))) H := oth f_1 (Ne.symm ne_x_b_1) oq
  have f_2 : At G b_2 (.inl (G.2.1 1, 1798, .inl (fun _ => 0))) H := oth f_2 (Ne.symm ne_x_b_2) oq
  have f_3 : At G b_3 (.inl (G.2.1 1, 1798, .inl (fun _ => 0))) H := oth f_3 (Ne.symm ne_x_b_3) oq
  have f_4 : At G b_4 (.inl (G.2.1 6, 8, .inr (.inr (.inr (.inr (fun i => some (b_4 + 1 + i))))))) H := oth f_4 (Ne.symm ne_x_b_4) oq
  have f_x : At G x (.inr (8, [.int 0, .ref b_1, .int 0, .int 0, .int 0, .int 0, .int 0, .int (-1), .ref b_2, .ref b_3, .ref b_4, .int 0, .int 0, .int 0, .int 0, .null])) H := f_x
  have hrow : ∀ j, j < 8 → At G (b_4 + 1 + j) (iA G 1798 (fun _ => 0)) H := fun j hj => oth (hrow j hj) (by omega) oq
  have hl4 : b_4 + 9 ≤ H.size := by omega
  refine lv_aload_n hx hb dX8_init_49 rfl (lv_at hl 0 rfl) ?_
  refine lv_sipush (v := 1500) hx hb dX8_init_50 rfl ?_
  refine n_newa (atype := .long) (N := 1500) (x := (1500, .inr (.inl (fun _ => 0)))) (t0 := 2) rfl ka_long (by exact Or.inr (Or.inl rfl)) rfl E hG hS (Nat.le_of_eq hz0.symm) rfl (by omega) (show 0 + 1 + 1 + 1 + 9 + 1 ≤ 13 by omega) (show 0 + 900 + 1798 + 1798 + 14392 + 1500 ≤ 20388 by omega) dX8_init_53 (fun b_5 H hb_5 hg_5 f_5 hz oq hS => ?_)
  have ne_x_b_5 : x ≠ b_5 := fun z9 => absurd (va_at.lt f_x) (by rw [z9, hb_5]; exact Nat.lt_irrefl _)
  have ne_b_1_b_5 : b_1 ≠ b_5 := fun z9 => absurd (va_at.lt f_1) (by rw [z9, hb_5]; exact Nat.lt_irrefl _)
  have ne_b_2_b_5 : b_2 ≠ b_5 := fun z9 => absurd (va_at.lt f_2) (by rw [z9, hb_5]; exact Nat.lt_irrefl _)
  have ne_b_3_b_5 : b_3 ≠ b_5 := fun z9 => absurd (va_at.lt f_3) (by rw [z9, hb_5]; exact Nat.lt_irrefl _)
  have ne_b_4_b_5 : b_4 ≠ b_5 := fun z9 => absurd (va_at.lt f_4) (by rw [z9, hb_5]; exact Nat.lt_irrefl _)
  have f_x : At G x (.inr (8, [.int 0, .ref b_1, .int 0, .int 0, .int 0, .int 0, .int 0, .int (-1), .ref b_2, .ref b_3, .ref b_4, .int 0, .int 0, .int 0, .int 0, .null])) H := olt f_x oq
  have f_1 : At G b_1 (.inl (G.2.1 1, 900, .inl (fun _ => 0))) H := olt f_1 oq
  have f_2 : At G b_2 (.inl (G.2.1 1, 1798, .inl (fun _ => 0))) H := olt f_2 oq
  have f_3 : At G b_3 (.inl (G.2.1 1, 1798, .inl (fun _ => 0))) H := olt f_3 oq
  have f_4 : At G b_4 (.inl (G.2.1 6, 8, .inr (.inr (.inr (.inr (fun i => some (b_4 + 1 + i))))))) H := olt f_4 oq
  have hrow : ∀ j, j < 8 → At G (b_4 + 1 + j) (iA G 1798 (fun _ => 0)) H := fun j hj => olt (hrow j hj) oq
  refine pf_X8_28 E hG (hin rfl) f_x (Nat.le_of_ble_eq_true rfl) rfl rfl hS (Or.inl rfl) dX8_init_55 (fun H locs f_x hz oq hS => ?_)
  have f_1 : At G b_1 (.inl (G.2.1 1, 900, .inl (fun _ => 0))) H := oth f_1 (Ne.symm ne_x_b_1) oq
  have f_2 : At G b_2 (.inl (G.2.1 1, 1798, .inl (fun _ => 0))) H := oth f_2 (Ne.symm ne_x_b_2) oq
  have f_3 : At G b_3 (.inl (G.2.1 1, 1798, .inl (fun _ => 0))) H := oth f_3 (Ne.symm ne_x_b_3) oq
  have f_4 : At G b_4 (.inl (G.2.1 6, 8, .inr (.inr (.inr (.inr (fun i => some (b_4 + 1 + i))))))) H := oth f_4 (Ne.symm ne_x_b_4) oq
  have f_5 : At G b_5 (.inl (G.2.1 2, 1500, .inr (.inl (fun _ => 0)))) H := oth f_5 (Ne.symm ne_x_b_5) oq
  have f_x : At G x (.inr (8, [.int 0, .ref b_1, .int 0, .int 0, .int 0, .int 0, .int 0, .int (-1), .ref b_2, .ref b_3, .ref b_4, .int 0, .int 0, .int 0, .int 0, .ref b_5])) H := f_x
  have hrow : ∀ j, j < 8 → At G (b_4 + 1 + j) (iA G 1798 (fun _ => 0)) H := fun j hj => oth (hrow j hj) (by omega) oq
  exact wr_void E hr hk hS (show 0 + 1 + 1 + 1 + 9 + 1 ≤ 13 by omega) (show 0 + 900 + 1798 + 1798 + 14392 + 1500 ≤ 20388 by omega) (⟨rfl, mkB x b_1 b_2 b_3 b_4 b_5, rfl, mkB_ge hg_1 hg_2 hg_3 hg_4 hg_5, mkB_md hz1 hEx (by omega) (by omega) (by omega) (by omega) (by omega) hg_1, mkB_mw f_x f_1 f_2 f_3 f_4 f_5 hrow⟩) dX8_init_58
