/-! THE REFERENCE: transfer, bestFit, fee -/
def trW (da : Nat → Int32) (k : Nat) (y z : Int32) : Int32 := if inV y 1 999999 = 0 then 1 else if inV z 0 999 = 0 then 1 else if z ≤ da (cP k + 3) then 0 else 1
def trR (da : Nat → Int32) (np nc k : Nat) (y : Int32) : Int32 := if da (cP k + 8) = 0 then 1 else if availV da np nc k < y then 1 else if ¬ da (cP k + 7) = 0 then 0 else if transV da (nI k) nc = 0 then 0 else 1
def trF (da : Nat → Int32) (np nc k : Nat) (y : Int32) : Int32 := if ¬ trR da np nc k y = 0 then 1 else if ¬ da 0 = 12 then 0 else 1
theorem cpy_s {d1 : Nat → Int32} {a b i : Nat} (dd : Nat → Int32) (hd : ∀ j, dd j = if a ≤ j ∧ j < a + i then d1 (b + (j - a)) else d1 j) (hne : b + i < a ∨ a + 11 ≤ b) (hi : i < 11) : ∀ j, upd dd (a + i) (dd (b + i)) j = if a ≤ j ∧ j < a + (i + 1) then d1 (b + (j - a)) else d1 j := by
  intro j
  unfold upd
  by_cases e : j = a + i
  · subst e
    rw [if_pos rfl, if_pos (by omega), hd, if_neg (by omega)]
    congr 1
    omega
  · rw [if_neg e, hd]
    by_cases h : a ≤ j ∧ j < a + i
    · rw [if_pos h, if_pos (by omega)]
    · rw [if_neg h, if_neg (by omega)]
theorem trD_eq {da dd : Nat → Int32} {nc k : Nat} {x am ei : Int32} (hk : k < nc) (hd : ∀ j, dd j = if cP nc ≤ j ∧ j < cP nc + 11 then upd da 0 (da 0 + 1) (cP k + (j - cP nc)) else upd da 0 (da 0 + 1) j) :
    upd (upd (upd (upd (upd (upd (upd dd (22 + 11 * nc) am) (22 + 11 * nc + 1) 0) (22 + 11 * nc + 2) 0) (22 + 11 * nc + 3) ei) (22 + 11 * nc + 4) (minV (da (cP k + 4)) ei)) (22 + 11 * nc + 8) 0) (22 + 11 * nc + 10) x = trD da nc k x am ei := by
  funext j
  unfold trD
  have hd := hd j
  simp only [cP] at hd ⊢
  by_cases h : 22 + 11 * nc ≤ j ∧ j < 22 + 11 * nc + 11
  · rw [if_neg (show ¬ j = 0 by omega), if_pos h]
    rw [if_pos h] at hd
    simp only [upd]
    rw [hd]
    simp only [upd]
    rw [if_neg (show ¬ 22 + 11 * k + (j - (22 + 11 * nc)) = 0 by omega)]
    repeat' split
    all_goals first | rfl | omega
  · rw [if_neg h]
    rw [if_neg h] at hd
    simp only [upd]
    rw [hd]
    simp only [upd]
    repeat' split
    all_goals first | rfl | omega
theorem tr_rd {da dd : Nat → Int32} {nc k : Nat} {y z : Int32} (hk : k < nc) (hd : ∀ j, dd j = if cP nc ≤ j ∧ j < cP nc + 11 then upd da 0 (da 0 + 1) (cP k + (j - cP nc)) else upd da 0 (da 0 + 1) j) :
    (upd (upd (upd (upd dd (22 + 11 * nc) y) (22 + 11 * nc + 1) 0) (22 + 11 * nc + 2) 0) (22 + 11 * nc + 3) z) (22 + 11 * k + 4) = da (cP k + 4) := by
  have hd := hd (22 + 11 * k + 4)
  simp only [cP] at hd ⊢
  rw [if_neg (by omega)] at hd
  simp only [upd] at hd ⊢
  rw [if_neg (by omega)] at hd
  rw [if_neg (by omega), if_neg (by omega), if_neg (by omega), if_neg (by omega), hd]
set_option maxHeartbeats 4000000 in
set_option maxRecDepth 100000 in
/-- transfer -/
theorem c_X8_transfer_x (l : Launch) (G : CG) {B : Nat → Nat} {t bl tl ps er ea eo ud ns ne se : Int32} {bf da dr : Nat → Int32} {hi : Nat → Nat → Int32} {sk : Nat → Int64} (hD : MD G B) (x y z : Int32) (hin9 : inV x 0 (da 0 - 1) = 0) : Wr l yX8_transfer cX8_transfer 9 ((Option.some FieldType.int)) 2 43 0 0 G [.ref (B 0), .int x, .int y, .int z] (MW G B (fm t bl tl ps er ea eo ud ns ne se) bf da dr hi sk) (MA B) (fun v9 H9 => v9 = some (.int 0) ∧ MW G B (fm 1 bl tl ps er ea eo ud ns ne se) bf da dr hi sk H9) := by
  refine Wr.ofW (by decide) (Nat.le_of_ble_eq_true rfl) (fun p e s m below meth c ls E hG hE hP hr hk hin hl => ?_)
  have hS : va_S (MA B) s.heap s.heap [] := va_S.rf
  have hx := E.1
  have hb := E.2.1
  have hl : lv_has ls 9 [(0, .ref (B 0)), (1, .int x), (2, .int y), (3, .int z)] := hl
  refine lv_aload_n hx hb dX8_transfer_0 rfl (lv_at hl 0 rfl) ?_
  refine lv_iconst (v := 0) hx hb dX8_transfer_1 rfl ?_
  refine pf_X8_32 E hG hP.1 (Nat.le_of_ble_eq_true rfl) rfl rfl hS ⟨0, by decide, rfl⟩ dX8_transfer_2 (fun H locs ho hz oq hS => ?_)
  have hP : MW G B (fm 0 bl tl ps er ea eo ud ns ne se) bf da dr hi sk H := hP.setO hD ho oq
  refine lv_aload_n hx hb dX8_transfer_5 rfl (lv_at hl 0 rfl) ?_
  refine lv_iload_n hx hb dX8_transfer_6 rfl (lv_at hl 1 rfl) ?_
  refine Wr.callV (rest := []) (c_X8_noCredit_x l G hD x hin9) yk_X8_noCredit E km_X8_179 dX8_transfer_7 hG (hE.S hS hD.efa) hP (At.recv hG hP.1 rfl) rfl rfl hl.1 ⟨Nat.le_of_ble_eq_true rfl, Nat.le_of_ble_eq_true rfl⟩ ⟨Nat.le_of_ble_eq_true rfl, Nat.le_of_ble_eq_true rfl⟩ (Nat.le_of_ble_eq_true rfl) hS (fun _ h9 => h9) (fun v9 H locs hq hz9 hfr9 hS => ?_)
  obtain ⟨rfl, hP⟩ := hq
  refine lv_if_eq (tgt := 15) hx hb dX8_transfer_10 (by decide) (fun c_10 => ?_) (fun c_10 => ?_)
  · exact absurd c_10 (by decide)
  · refine lv_iconst (v := 0) hx hb dX8_transfer_13 rfl ?_
    exact wr_int E hr hk hS (by decide) (by decide) (⟨rfl, hP⟩) dX8_transfer_14

set_option maxHeartbeats 4000000 in
set_option maxRecDepth 100000 in
/-- transfer -/
theorem c_X8_transfer_y (l : Launch) (G : CG) {B : Nat → Nat} {t bl tl ps er ea eo ud ns ne se : Int32} {bf da dr : Nat → Int32} {hi : Nat → Nat → Int32} {sk : Nat → Int64} (hD : MD G B) (x y z : Int32) (k np nc : Nat) (ex : x = nI k) (hk9 : k < nc) (hin9 : inV x 0 (da 0 - 1) = 1) (h1 : da 1 = nI np) (hp0 : np ≤ 24) (h0 : da 0 = nI nc) (hc0 : nc ≤ 12) (hw9 : trW da k y z = 1) : Wr l yX8_transfer cX8_transfer 9 ((Option.some FieldType.int)) 2 43 0 0 G [.ref (B 0), .int x, .int y, .int z] (MW G B (fm t bl tl ps er ea eo ud ns ne se) bf da dr hi sk) (MA B) (fun v9 H9 => v9 = some (.int 0) ∧ MW G B (fm 2 bl tl ps er ea eo ud ns ne se) bf da dr hi sk H9) := by
  refine Wr.ofW (by decide) (Nat.le_of_ble_eq_true rfl) (fun p e s m below meth c ls E hG hE hP hr hk hin hl => ?_)
  have hS : va_S (MA B) s.heap s.heap [] := va_S.rf
  have hx := E.1
  have hb := E.2.1
  have hl : lv_has ls 9 [(0, .ref (B 0)), (1, .int x), (2, .int y), (3, .int z)] := hl
  refine lv_aload_n hx hb dX8_transfer_0 rfl (lv_at hl 0 rfl) ?_
  refine lv_iconst (v := 0) hx hb dX8_transfer_1 rfl ?_
  refine pf_X8_32 E hG hP.1 (Nat.le_of_ble_eq_true rfl) rfl rfl hS ⟨0, by decide, rfl⟩ dX8_transfer_2 (fun H locs ho hz oq hS => ?_)
  have hP : MW G B (fm 0 bl tl ps er ea eo ud ns ne se) bf da dr hi sk H := hP.setO hD ho oq
  refine lv_aload_n hx hb dX8_transfer_5 rfl (lv_at hl 0 rfl) ?_
  refine lv_iload_n hx hb dX8_transfer_6 rfl (lv_at hl 1 rfl) ?_
  refine Wr.callV (rest := []) (c_X8_noCredit l G hD x hin9) yk_X8_noCredit E km_X8_179 dX8_transfer_7 hG (hE.S hS hD.efa) hP (At.recv hG hP.1 rfl) rfl rfl hl.1 ⟨Nat.le_of_ble_eq_true rfl, Nat.le_of_ble_eq_true rfl⟩ ⟨Nat.le_of_ble_eq_true rfl, Nat.le_of_ble_eq_true rfl⟩ (Nat.le_of_ble_eq_true rfl) hS (fun _ h9 => h9) (fun v9 H locs hq hz9 hfr9 hS => ?_)
  obtain ⟨rfl, hP⟩ := hq
  refine lv_if_eq (tgt := 15) hx hb dX8_transfer_10 (by decide) (fun c_10 => ?_) (fun c_10 => ?_)
  · refine lv_iload_n hx hb dX8_transfer_15 rfl (lv_at hl 1 rfl) ?_
    refine Rd.callS (rest := []) (c_X8_credit l G x) yk_X8_credit E km_X8_126 dX8_transfer_16 hG (hE.S hS hD.efa) trivial rfl rfl hl.1 ⟨Nat.le_of_ble_eq_true rfl, Nat.le_of_ble_eq_true rfl⟩ ⟨Nat.zero_le _, Nat.zero_le _⟩ (Nat.le_of_ble_eq_true rfl) ?_
    refine lv_ci (y := nI (22 + 11 * k)) (ixq (nI_ad rfl (nI_mu rfl ex))) ?_
    refine lv_istore (lv' := [(4, .int (nI (22 + 11 * k))), (0, .ref (B 0)), (1, .int x), (2, .int y), (3, .int z)]) hx hb dX8_transfer_19 hl (by decide) rfl (fun ls hl => ?_)
    refine lv_aload_n hx hb dX8_transfer_21 rfl (lv_at hl 1 rfl) ?_
    refine W.cut (g := F0 m 61 ls [.int (trW da k y z), .ref (B 0)]) (fun K => ?_) ?_
    · refine lv_iload_n hx hb dX8_transfer_22 rfl (lv_at hl 3 rfl) ?_
      refine lv_iconst (v := 1) hx hb dX8_transfer_23 rfl ?_
      refine lv_ldc (v := 999999) hx hb E.2.2.2.1 (E.2.2.2.2 _ kk_X8_129) dX8_transfer_24 ?_
      refine Rd.callS (rest := [.ref (B 0)]) (c_X8_in l G y 1 999999) yk_X8_in E km_X8_54 dX8_transfer_26 hG (hE.S hS hD.efa) trivial rfl rfl hl.1 ⟨Nat.le_of_ble_eq_true rfl, Nat.le_of_ble_eq_true rfl⟩ ⟨Nat.zero_le _, Nat.zero_le _⟩ (Nat.le_of_ble_eq_true rfl) ?_
      refine lv_if_eq (tgt := 56) hx hb dX8_transfer_29 (by decide) (fun c_29 => ?_) (fun c_29 => ?_)
      · refine lv_iconst (v := 1) hx hb dX8_transfer_56 rfl ?_
        refine lv_goto (tgt := 61) hx hb dX8_transfer_57 (by decide) ?_
        exact W.eq (congrArg (fun z9 => F0 m 61 ls (.int z9 :: [.ref (B 0)])) (show (1 : Int32) = (trW da k y z) by first | (simp only [trW, c_29, ↓reduceIte, not_true_eq_false, not_false_eq_true]; done) | (simp [trW, c_29]; done))) K
      · refine lv_iload_n hx hb dX8_transfer_32 rfl (lv_at hl 4 rfl) ?_
        refine lv_iconst (v := 0) hx hb dX8_transfer_33 rfl ?_
        refine lv_sipush (v := 999) hx hb dX8_transfer_34 rfl ?_
        refine Rd.callS (rest := [.ref (B 0)]) (c_X8_in l G z 0 999) yk_X8_in E km_X8_54 dX8_transfer_37 hG (hE.S hS hD.efa) trivial rfl rfl hl.1 ⟨Nat.le_of_ble_eq_true rfl, Nat.le_of_ble_eq_true rfl⟩ ⟨Nat.zero_le _, Nat.zero_le _⟩ (Nat.le_of_ble_eq_true rfl) ?_
        refine lv_if_eq (tgt := 56) hx hb dX8_transfer_40 (by decide) (fun c_40 => ?_) (fun c_40 => ?_)
        · refine lv_iconst (v := 1) hx hb dX8_transfer_56 rfl ?_
          refine lv_goto (tgt := 61) hx hb dX8_transfer_57 (by decide) ?_
          exact W.eq (congrArg (fun z9 => F0 m 61 ls (.int z9 :: [.ref (B 0)])) (show (1 : Int32) = (trW da k y z) by first | (simp only [trW, c_29, c_40, ↓reduceIte, not_true_eq_false, not_false_eq_true]; done) | (simp [trW, c_29, c_40]; done))) K
        · refine lv_iload_n hx hb dX8_transfer_43 rfl (lv_at hl 4 rfl) ?_
          refine lv_aload_n hx hb dX8_transfer_44 rfl (lv_at hl 1 rfl) ?_
          refine gf_X8_17 (v := .ref (B 2)) E hG hP.1 rfl dX8_transfer_45 ?_
          refine lv_iload hx hb dX8_transfer_48 (lv_at hl 0 rfl) ?_
          refine lv_iconst (v := 3) hx hb dX8_transfer_50 rfl ?_
          refine lv_iadd hx hb dX8_transfer_51 ?_
          refine g_ild ((22 + 11 * k) + 3) E hG hP.2.2.1 (ixq (nI_ad rfl rfl)) (by omega) (by decide) dX8_transfer_52 ?_
          refine lv_icmp_le (tgt := 60) hx hb dX8_transfer_53 (by decide) (fun c_53 => ?_) (fun c_53 => ?_)
          · refine lv_iconst (v := 0) hx hb dX8_transfer_60 rfl ?_
            exact W.eq (congrArg (fun z9 => F0 m 61 ls (.int z9 :: [.ref (B 0)])) (show (0 : Int32) = (trW da k y z) by first | (simp only [trW, c_29, c_40, c_53, ↓reduceIte, not_true_eq_false, not_false_eq_true]; done) | (simp [trW, c_29, c_40, c_53]; done))) K
          · refine lv_iconst (v := 1) hx hb dX8_transfer_56 rfl ?_
            refine lv_goto (tgt := 61) hx hb dX8_transfer_57 (by decide) ?_
            exact W.eq (congrArg (fun z9 => F0 m 61 ls (.int z9 :: [.ref (B 0)])) (show (1 : Int32) = (trW da k y z) by first | (simp only [trW, c_29, c_40, c_53, ↓reduceIte, not_true_eq_false, not_false_eq_true]; done) | (simp [trW, c_29, c_40, c_53]; done))) K
    refine lv_iconst (v := 2) hx hb dX8_transfer_61 rfl ?_
    rw [hw9]
    refine Wr.callV (rest := []) (c_X8_fails1 l G hD 2 (by decide)) yk_X8_fails E km_X8_153 dX8_transfer_62 hG (hE.S hS hD.efa) hP (At.recv hG hP.1 rfl) rfl rfl hl.1 ⟨Nat.le_of_ble_eq_true rfl, Nat.le_of_ble_eq_true rfl⟩ ⟨Nat.le_of_ble_eq_true rfl, Nat.le_of_ble_eq_true rfl⟩ (Nat.le_of_ble_eq_true rfl) hS (fun _ h9 => h9) (fun v9 H locs hq hz9 hfr9 hS => ?_)
    obtain ⟨rfl, hP⟩ := hq
    refine lv_if_eq (tgt := 70) hx hb dX8_transfer_65 (by decide) (fun c_65 => ?_) (fun c_65 => ?_)
    · exact absurd c_65 (by decide)
    · refine lv_iconst (v := 0) hx hb dX8_transfer_68 rfl ?_
      exact wr_int E hr hk hS (by decide) (by decide) (⟨rfl, hP⟩) dX8_transfer_69
  · exact absurd c_10 (by decide)

set_option maxHeartbeats 4000000 in
set_option maxRecDepth 100000 in
/-- transfer -/
theorem c_X8_transfer_z (l : Launch) (G : CG) {B : Nat → Nat} {t bl tl ps er ea eo ud ns ne se : Int32} {bf da dr : Nat → Int32} {hi : Nat → Nat → Int32} {sk : Nat → Int64} (hD : MD G B) (x y z : Int32) (k np nc : Nat) (ex : x = nI k) (hk9 : k < nc) (hin9 : inV x 0 (da 0 - 1) = 1) (h1 : da 1 = nI np) (hp0 : np ≤ 24) (h0 : da 0 = nI nc) (hc0 : nc ≤ 12) (hw9 : trW da k y z = 0) (hf9 : trF da np nc k y = 1) : Wr l yX8_transfer cX8_transfer 9 ((Option.some FieldType.int)) 4 86 0 0 G [.ref (B 0), .int x, .int y, .int z] (MW G B (fm t bl tl ps er ea eo ud ns ne se) bf da dr hi sk) (MA B) (fun v9 H9 => v9 = some (.int 0) ∧ MW G B (fm 3 bl tl ps er ea eo ud ns ne se) bf da dr hi sk H9) := by
  refine Wr.ofW (by decide) (Nat.le_of_ble_eq_true rfl) (fun p e s m below meth c ls E hG hE hP hr hk hin hl => ?_)
  have hS : va_S (MA B) s.heap s.heap [] := va_S.rf
  have hx := E.1
  have hb := E.2.1
  have hl : lv_has ls 9 [(0, .ref (B 0)), (1, .int x), (2, .int y), (3, .int z)] := hl
  subst ex
  refine lv_aload_n hx hb dX8_transfer_0 rfl (lv_at hl 0 rfl) ?_
  refine lv_iconst (v := 0) hx hb dX8_transfer_1 rfl ?_
  refine pf_X8_32 E hG hP.1 (Nat.le_of_ble_eq_true rfl) rfl rfl hS ⟨0, by decide, rfl⟩ dX8_transfer_2 (fun H locs ho hz oq hS => ?_)
  have hP : MW G B (fm 0 bl tl ps er ea eo ud ns ne se) bf da dr hi sk H := hP.setO hD ho oq
  refine lv_aload_n hx hb dX8_transfer_5 rfl (lv_at hl 0 rfl) ?_
  refine lv_iload_n hx hb dX8_transfer_6 rfl (lv_at hl 1 rfl) ?_
  refine Wr.callV (rest := []) (c_X8_noCredit l G hD (nI k) hin9) yk_X8_noCredit E km_X8_179 dX8_transfer_7 hG (hE.S hS hD.efa) hP (At.recv hG hP.1 rfl) rfl rfl hl.1 ⟨Nat.le_of_ble_eq_true rfl, Nat.le_of_ble_eq_true rfl⟩ ⟨Nat.le_of_ble_eq_true rfl, Nat.le_of_ble_eq_true rfl⟩ (Nat.le_of_ble_eq_true rfl) hS (fun _ h9 => h9) (fun v9 H locs hq hz9 hfr9 hS => ?_)
  obtain ⟨rfl, hP⟩ := hq
  refine lv_if_eq (tgt := 15) hx hb dX8_transfer_10 (by decide) (fun c_10 => ?_) (fun c_10 => ?_)
  · refine lv_iload_n hx hb dX8_transfer_15 rfl (lv_at hl 1 rfl) ?_
    refine Rd.callS (rest := []) (c_X8_credit l G (nI k)) yk_X8_credit E km_X8_126 dX8_transfer_16 hG (hE.S hS hD.efa) trivial rfl rfl hl.1 ⟨Nat.le_of_ble_eq_true rfl, Nat.le_of_ble_eq_true rfl⟩ ⟨Nat.zero_le _, Nat.zero_le _⟩ (Nat.le_of_ble_eq_true rfl) ?_
    refine lv_ci (y := nI (22 + 11 * k)) (ixq (nI_ad rfl (nI_mu rfl rfl))) ?_
    refine lv_istore (lv' := [(4, .int (nI (22 + 11 * k))), (0, .ref (B 0)), (1, .int (nI k)), (2, .int y), (3, .int z)]) hx hb dX8_transfer_19 hl (by decide) rfl (fun ls hl => ?_)
    refine lv_aload_n hx hb dX8_transfer_21 rfl (lv_at hl 1 rfl) ?_
    refine W.cut (g := F0 m 61 ls [.int (trW da k y z), .ref (B 0)]) (fun K => ?_) ?_
    · refine lv_iload_n hx hb dX8_transfer_22 rfl (lv_at hl 3 rfl) ?_
      refine lv_iconst (v := 1) hx hb dX8_transfer_23 rfl ?_
      refine lv_ldc (v := 999999) hx hb E.2.2.2.1 (E.2.2.2.2 _ kk_X8_129) dX8_transfer_24 ?_
      refine Rd.callS (rest := [.ref (B 0)]) (c_X8_in l G y 1 999999) yk_X8_in E km_X8_54 dX8_transfer_26 hG (hE.S hS hD.efa) trivial rfl rfl hl.1 ⟨Nat.le_of_ble_eq_true rfl, Nat.le_of_ble_eq_true rfl⟩ ⟨Nat.zero_le _, Nat.zero_le _⟩ (Nat.le_of_ble_eq_true rfl) ?_
      refine lv_if_eq (tgt := 56) hx hb dX8_transfer_29 (by decide) (fun c_29 => ?_) (fun c_29 => ?_)
      · refine lv_iconst (v := 1) hx hb dX8_transfer_56 rfl ?_
        refine lv_goto (tgt := 61) hx hb dX8_transfer_57 (by decide) ?_
        exact W.eq (congrArg (fun z9 => F0 m 61 ls (.int z9 :: [.ref (B 0)])) (show (1 : Int32) = (trW da k y z) by first | (simp only [trW, c_29, ↓reduceIte, not_true_eq_false, not_false_eq_true]; done) | (simp [trW, c_29]; done))) K
      · refine lv_iload_n hx hb dX8_transfer_32 rfl (lv_at hl 4 rfl) ?_
        refine lv_iconst (v := 0) hx hb dX8_transfer_33 rfl ?_
        refine lv_sipush (v := 999) hx hb dX8_transfer_34 rfl ?_
        refine Rd.callS (rest := [.ref (B 0)]) (c_X8_in l G z 0 999) yk_X8_in E km_X8_54 dX8_transfer_37 hG (hE.S hS hD.efa) trivial rfl rfl hl.1 ⟨Nat.le_of_ble_eq_true rfl, Nat.le_of_ble_eq_true rfl⟩ ⟨Nat.zero_le _, Nat.zero_le _⟩ (Nat.le_of_ble_eq_true rfl) ?_
        refine lv_if_eq (tgt := 56) hx hb dX8_transfer_40 (by decide) (fun c_40 => ?_) (fun c_40 => ?_)
        · refine lv_iconst (v := 1) hx hb dX8_transfer_56 rfl ?_
          refine lv_goto (tgt := 61) hx hb dX8_transfer_57 (by decide) ?_
          exact W.eq (congrArg (fun z9 => F0 m 61 ls (.int z9 :: [.ref (B 0)])) (show (1 : Int32) = (trW da k y z) by first | (simp only [trW, c_29, c_40, ↓reduceIte, not_true_eq_false, not_false_eq_true]; done) | (simp [trW, c_29, c_40]; done))) K
        · refine lv_iload_n hx hb dX8_transfer_43 rfl (lv_at hl 4 rfl) ?_
          refine lv_aload_n hx hb dX8_transfer_44 rfl (lv_at hl 1 rfl) ?_
          refine gf_X8_17 (v := .ref (B 2)) E hG hP.1 rfl dX8_transfer_45 ?_
          refine lv_iload hx hb dX8_transfer_48 (lv_at hl 0 rfl) ?_
          refine lv_iconst (v := 3) hx hb dX8_transfer_50 rfl ?_
          refine lv_iadd hx hb dX8_transfer_51 ?_
          refine g_ild ((22 + 11 * k) + 3) E hG hP.2.2.1 (ixq (nI_ad rfl rfl)) (by omega) (by decide) dX8_transfer_52 ?_
          refine lv_icmp_le (tgt := 60) hx hb dX8_transfer_53 (by decide) (fun c_53 => ?_) (fun c_53 => ?_)
          · refine lv_iconst (v := 0) hx hb dX8_transfer_60 rfl ?_
            exact W.eq (congrArg (fun z9 => F0 m 61 ls (.int z9 :: [.ref (B 0)])) (show (0 : Int32) = (trW da k y z) by first | (simp only [trW, c_29, c_40, c_53, ↓reduceIte, not_true_eq_false, not_false_eq_true]; done) | (simp [trW, c_29, c_40, c_53]; done))) K
          · refine lv_iconst (v := 1) hx hb dX8_transfer_56 rfl ?_
            refine lv_goto (tgt := 61) hx hb dX8_transfer_57 (by decide) ?_
            exact W.eq (congrArg (fun z9 => F0 m 61 ls (.int z9 :: [.ref (B 0)])) (show (1 : Int32) = (trW da k y z) by first | (simp only [trW, c_29, c_40, c_53, ↓reduceIte, not_true_eq_false, not_false_eq_true]; done) | (simp [trW, c_29, c_40, c_53]; done))) K
    refine lv_iconst (v := 2) hx hb dX8_transfer_61 rfl ?_
    rw [hw9]
    refine Wr.callV (rest := []) (c_X8_fails0 l G hD 2) yk_X8_fails E km_X8_153 dX8_transfer_62 hG (hE.S hS hD.efa) hP (At.recv hG hP.1 rfl) rfl rfl hl.1 ⟨Nat.le_of_ble_eq_true rfl, Nat.le_of_ble_eq_true rfl⟩ ⟨Nat.le_of_ble_eq_true rfl, Nat.le_of_ble_eq_true rfl⟩ (Nat.le_of_ble_eq_true rfl) hS (fun _ h9 => h9) (fun v9 H locs hq hz9 hfr9 hS => ?_)
    obtain ⟨rfl, hP⟩ := hq
    refine lv_if_eq (tgt := 70) hx hb dX8_transfer_65 (by decide) (fun c_65 => ?_) (fun c_65 => ?_)
    · have hk8 : k < 12 := by omega
      refine W.cut (g := F0 m 118 ls [.int (trR da np nc k y)]) (fun K => ?_) ?_
      · refine lv_aload_n hx hb dX8_transfer_70 rfl (lv_at hl 1 rfl) ?_
        refine gf_X8_17 (v := .ref (B 2)) E hG hP.1 rfl dX8_transfer_71 ?_
        refine lv_iload hx hb dX8_transfer_74 (lv_at hl 0 rfl) ?_
        refine lv_bipush (v := 8) hx hb dX8_transfer_76 rfl ?_
        refine lv_iadd hx hb dX8_transfer_78 ?_
        refine g_ild ((22 + 11 * k) + 8) E hG hP.2.2.1 (ixq (nI_ad rfl rfl)) (by omega) (by decide) dX8_transfer_79 ?_
        refine lv_if_eq (tgt := 113) hx hb dX8_transfer_80 (by decide) (fun c_80 => ?_) (fun c_80 => ?_)
        · refine lv_iconst (v := 1) hx hb dX8_transfer_113 rfl ?_
          refine lv_goto (tgt := 118) hx hb dX8_transfer_114 (by decide) ?_
          exact W.eq (congrArg (fun z9 => F0 m 118 ls (.int z9 :: [])) (show (1 : Int32) = (trR da np nc k y) by first | (simp only [trR, c_80, ↓reduceIte, not_true_eq_false, not_false_eq_true]; done) | (simp [trR, c_80]; done))) K
        · refine lv_iload_n hx hb dX8_transfer_83 rfl (lv_at hl 3 rfl) ?_
          refine lv_aload_n hx hb dX8_transfer_84 rfl (lv_at hl 1 rfl) ?_
          refine lv_iload_n hx hb dX8_transfer_85 rfl (lv_at hl 2 rfl) ?_
          refine Rd.callV (rest := [.int y]) (c_X8_availableOf l G (nI k) k np nc rfl (by omega) h1 hp0 h0 hc0) yk_X8_availableOf E km_X8_201 dX8_transfer_86 hG (hE.S hS hD.efa) hP (At.recv hG hP.1 rfl) rfl rfl hl.1 ⟨Nat.le_of_ble_eq_true rfl, Nat.le_of_ble_eq_true rfl⟩ ⟨Nat.zero_le _, Nat.zero_le _⟩ (Nat.le_of_ble_eq_true rfl) ?_
          refine lv_icmp_gt (tgt := 113) hx hb dX8_transfer_89 (by decide) (fun c_89 => ?_) (fun c_89 => ?_)
          · refine lv_iconst (v := 1) hx hb dX8_transfer_113 rfl ?_
            refine lv_goto (tgt := 118) hx hb dX8_transfer_114 (by decide) ?_
            exact W.eq (congrArg (fun z9 => F0 m 118 ls (.int z9 :: [])) (show (1 : Int32) = (trR da np nc k y) by first | (simp only [trR, c_80, c_89, ↓reduceIte, not_true_eq_false, not_false_eq_true]; done) | (simp [trR, c_80, c_89]; done))) K
          · refine lv_aload_n hx hb dX8_transfer_92 rfl (lv_at hl 1 rfl) ?_
            refine gf_X8_17 (v := .ref (B 2)) E hG hP.1 rfl dX8_transfer_93 ?_
            refine lv_iload hx hb dX8_transfer_96 (lv_at hl 0 rfl) ?_
            refine lv_bipush (v := 7) hx hb dX8_transfer_98 rfl ?_
            refine lv_iadd hx hb dX8_transfer_100 ?_
            refine g_ild ((22 + 11 * k) + 7) E hG hP.2.2.1 (ixq (nI_ad rfl rfl)) (by omega) (by decide) dX8_transfer_101 ?_
            refine lv_if_ne (tgt := 117) hx hb dX8_transfer_102 (by decide) (fun c_102 => ?_) (fun c_102 => ?_)
            · refine lv_iconst (v := 0) hx hb dX8_transfer_117 rfl ?_
              exact W.eq (congrArg (fun z9 => F0 m 118 ls (.int z9 :: [])) (show (0 : Int32) = (trR da np nc k y) by first | (simp only [trR, c_80, c_89, c_102, ↓reduceIte, not_true_eq_false, not_false_eq_true]; done) | (simp [trR, c_80, c_89, c_102]; done))) K
            · refine lv_aload_n hx hb dX8_transfer_105 rfl (lv_at hl 1 rfl) ?_
              refine lv_iload_n hx hb dX8_transfer_106 rfl (lv_at hl 2 rfl) ?_
              refine Rd.callV (rest := []) (c_X8_transferredOf l G (nI k) nc h0 hc0) yk_X8_transferredOf E km_X8_198 dX8_transfer_107 hG (hE.S hS hD.efa) hP (At.recv hG hP.1 rfl) rfl rfl hl.1 ⟨Nat.le_of_ble_eq_true rfl, Nat.le_of_ble_eq_true rfl⟩ ⟨Nat.zero_le _, Nat.zero_le _⟩ (Nat.le_of_ble_eq_true rfl) ?_
              refine lv_if_eq (tgt := 117) hx hb dX8_transfer_110 (by decide) (fun c_110 => ?_) (fun c_110 => ?_)
              · refine lv_iconst (v := 0) hx hb dX8_transfer_117 rfl ?_
                exact W.eq (congrArg (fun z9 => F0 m 118 ls (.int z9 :: [])) (show (0 : Int32) = (trR da np nc k y) by first | (simp only [trR, c_80, c_89, c_102, c_110, ↓reduceIte, not_true_eq_false, not_false_eq_true]; done) | (simp [trR, c_80, c_89, c_102, c_110]; done))) K
              · refine lv_iconst (v := 1) hx hb dX8_transfer_113 rfl ?_
                refine lv_goto (tgt := 118) hx hb dX8_transfer_114 (by decide) ?_
                exact W.eq (congrArg (fun z9 => F0 m 118 ls (.int z9 :: [])) (show (1 : Int32) = (trR da np nc k y) by first | (simp only [trR, c_80, c_89, c_102, c_110, ↓reduceIte, not_true_eq_false, not_false_eq_true]; done) | (simp [trR, c_80, c_89, c_102, c_110]; done))) K
      refine lv_istore (lv' := [(5, .int (trR da np nc k y)), (4, .int (nI (22 + 11 * k))), (0, .ref (B 0)), (1, .int (nI k)), (2, .int y), (3, .int z)]) hx hb dX8_transfer_118 hl (by decide) rfl (fun ls hl => ?_)
      refine lv_aload_n hx hb dX8_transfer_120 rfl (lv_at hl 2 rfl) ?_
      refine W.cut (g := F0 m 142 ls [.int (trF da np nc k y), .ref (B 0)]) (fun K => ?_) ?_
      · refine lv_iload hx hb dX8_transfer_121 (lv_at hl 0 rfl) ?_
        refine lv_if_ne (tgt := 137) hx hb dX8_transfer_123 (by decide) (fun c_123 => ?_) (fun c_123 => ?_)
        · refine lv_iconst (v := 1) hx hb dX8_transfer_137 rfl ?_
          refine lv_goto (tgt := 142) hx hb dX8_transfer_138 (by decide) ?_
          exact W.eq (congrArg (fun z9 => F0 m 142 ls (.int z9 :: [.ref (B 0)])) (show (1 : Int32) = (trF da np nc k y) by first | (simp only [trF, c_123, ↓reduceIte, not_true_eq_false, not_false_eq_true]; done) | (simp [trF, c_123]; done))) K
        · refine lv_aload_n hx hb dX8_transfer_126 rfl (lv_at hl 2 rfl) ?_
          refine gf_X8_17 (v := .ref (B 2)) E hG hP.1 rfl dX8_transfer_127 ?_
          refine lv_iconst (v := 0) hx hb dX8_transfer_130 rfl ?_
          refine g_ild 0 E hG hP.2.2.1 rfl (by omega) (by decide) dX8_transfer_131 ?_
          refine lv_bipush (v := 12) hx hb dX8_transfer_132 rfl ?_
          refine lv_icmp_ne (tgt := 141) hx hb dX8_transfer_134 (by decide) (fun c_134 => ?_) (fun c_134 => ?_)
          · refine lv_iconst (v := 0) hx hb dX8_transfer_141 rfl ?_
            exact W.eq (congrArg (fun z9 => F0 m 142 ls (.int z9 :: [.ref (B 0)])) (show (0 : Int32) = (trF da np nc k y) by first | (simp only [trF, c_123, c_134, ↓reduceIte, not_true_eq_false, not_false_eq_true]; done) | (simp [trF, c_123, c_134]; done))) K
          · refine lv_iconst (v := 1) hx hb dX8_transfer_137 rfl ?_
            refine lv_goto (tgt := 142) hx hb dX8_transfer_138 (by decide) ?_
            exact W.eq (congrArg (fun z9 => F0 m 142 ls (.int z9 :: [.ref (B 0)])) (show (1 : Int32) = (trF da np nc k y) by first | (simp only [trF, c_123, c_134, ↓reduceIte, not_true_eq_false, not_false_eq_true]; done) | (simp [trF, c_123, c_134]; done))) K
      refine lv_iconst (v := 3) hx hb dX8_transfer_142 rfl ?_
      rw [hf9]
      refine Wr.callV (rest := []) (c_X8_fails1 l G hD 3 (by decide)) yk_X8_fails E km_X8_153 dX8_transfer_143 hG (hE.S hS hD.efa) hP (At.recv hG hP.1 rfl) rfl rfl hl.1 ⟨Nat.le_of_ble_eq_true rfl, Nat.le_of_ble_eq_true rfl⟩ ⟨Nat.le_of_ble_eq_true rfl, Nat.le_of_ble_eq_true rfl⟩ (Nat.le_of_ble_eq_true rfl) hS (fun _ h9 => h9) (fun v9 H locs hq hz9 hfr9 hS => ?_)
      obtain ⟨rfl, hP⟩ := hq
      refine lv_if_eq (tgt := 151) hx hb dX8_transfer_146 (by decide) (fun c_146 => ?_) (fun c_146 => ?_)
      · exact absurd c_146 (by decide)
      · refine lv_iconst (v := 0) hx hb dX8_transfer_149 rfl ?_
        exact wr_int E hr hk hS (by decide) (by decide) (⟨rfl, hP⟩) dX8_transfer_150
    · exact absurd c_65 (by decide)
  · exact absurd c_10 (by decide)

set_option maxHeartbeats 4000000 in
set_option maxRecDepth 100000 in
/-- transfer -/
theorem c_X8_transfer (l : Launch) (G : CG) {B : Nat → Nat} {t bl tl ps er ea eo ns ne se : Int32} {bf da dr : Nat → Int32} {hi : Nat → Nat → Int32} {sk : Nat → Int64} (hD : MD G B) (x y z : Int32) (k np nc : Nat) (ex : x = nI k) (hk9 : k < nc) (hin9 : inV x 0 (da 0 - 1) = 1) (h1 : da 1 = nI np) (hp0 : np ≤ 24) (h0 : da 0 = nI nc) (hc0 : nc ≤ 12) (hw9 : trW da k y z = 0) (hf9 : trF da np nc k y = 0) (hn12 : nc < 12) (u : Nat) (hu : u ≤ 8) : Wr l yX8_transfer cX8_transfer 9 ((Option.some FieldType.int)) 4 86 0 0 G [.ref (B 0), .int (nI k), .int y, .int z] (MW G B (fm t bl tl ps er ea eo (nI u) ns ne se) bf da dr hi sk) (MA B) (fun v9 H9 => v9 = some (.int (nI nc)) ∧ MW G B (fm 0 bl tl ps er ea eo (nI (remU u)) ns ne se) bf (trD da nc k (nI k) y z) dr (remH hi da u) sk H9) := by
  refine Wr.ofW (by decide) (Nat.le_of_ble_eq_true rfl) (fun p e s m below meth c ls E hG hE hP hr hk hin hl => ?_)
  have hS : va_S (MA B) s.heap s.heap [] := va_S.rf
  have hx := E.1
  have hb := E.2.1
  have hl : lv_has ls 9 [(0, .ref (B 0)), (1, .int (nI k)), (2, .int y), (3, .int z)] := hl
  subst ex
  refine lv_aload_n hx hb dX8_transfer_0 rfl (lv_at hl 0 rfl) ?_
  refine lv_iconst (v := 0) hx hb dX8_transfer_1 rfl ?_
  refine pf_X8_32 E hG hP.1 (Nat.le_of_ble_eq_true rfl) rfl rfl hS ⟨0, by decide, rfl⟩ dX8_transfer_2 (fun H locs ho hz oq hS => ?_)
  have hP : MW G B (fm 0 bl tl ps er ea eo (nI u) ns ne se) bf da dr hi sk H := hP.setO hD ho oq
  refine lv_aload_n hx hb dX8_transfer_5 rfl (lv_at hl 0 rfl) ?_
  refine lv_iload_n hx hb dX8_transfer_6 rfl (lv_at hl 1 rfl) ?_
  refine Wr.callV (rest := []) (c_X8_noCredit l G hD (nI k) hin9) yk_X8_noCredit E km_X8_179 dX8_transfer_7 hG (hE.S hS hD.efa) hP (At.recv hG hP.1 rfl) rfl rfl hl.1 ⟨Nat.le_of_ble_eq_true rfl, Nat.le_of_ble_eq_true rfl⟩ ⟨Nat.le_of_ble_eq_true rfl, Nat.le_of_ble_eq_true rfl⟩ (Nat.le_of_ble_eq_true rfl) hS (fun _ h9 => h9) (fun v9 H locs hq hz9 hfr9 hS => ?_)
  obtain ⟨rfl, hP⟩ := hq
  refine lv_if_eq (tgt := 15) hx hb dX8_transfer_10 (by decide) (fun c_10 => ?_) (fun c_10 => ?_)
  · refine lv_iload_n hx hb dX8_transfer_15 rfl (lv_at hl 1 rfl) ?_
    refine Rd.callS (rest := []) (c_X8_credit l G (nI k)) yk_X8_credit E km_X8_126 dX8_transfer_16 hG (hE.S hS hD.efa) trivial rfl rfl hl.1 ⟨Nat.le_of_ble_eq_true rfl, Nat.le_of_ble_eq_true rfl⟩ ⟨Nat.zero_le _, Nat.zero_le _⟩ (Nat.le_of_ble_eq_true rfl) ?_
    refine lv_ci (y := nI (22 + 11 * k)) (ixq (nI_ad rfl (nI_mu rfl rfl))) ?_
    refine lv_istore (lv' := [(4, .int (nI (22 + 11 * k))), (0, .ref (B 0)), (1, .int (nI k)), (2, .int y), (3, .int z)]) hx hb dX8_transfer_19 hl (by decide) rfl (fun ls hl => ?_)
    refine lv_aload_n hx hb dX8_transfer_21 rfl (lv_at hl 1 rfl) ?_
    refine W.cut (g := F0 m 61 ls [.int (trW da k y z), .ref (B 0)]) (fun K => ?_) ?_
    · refine lv_iload_n hx hb dX8_transfer_22 rfl (lv_at hl 3 rfl) ?_
      refine lv_iconst (v := 1) hx hb dX8_transfer_23 rfl ?_
      refine lv_ldc (v := 999999) hx hb E.2.2.2.1 (E.2.2.2.2 _ kk_X8_129) dX8_transfer_24 ?_
      refine Rd.callS (rest := [.ref (B 0)]) (c_X8_in l G y 1 999999) yk_X8_in E km_X8_54 dX8_transfer_26 hG (hE.S hS hD.efa) trivial rfl rfl hl.1 ⟨Nat.le_of_ble_eq_true rfl, Nat.le_of_ble_eq_true rfl⟩ ⟨Nat.zero_le _, Nat.zero_le _⟩ (Nat.le_of_ble_eq_true rfl) ?_
      refine lv_if_eq (tgt := 56) hx hb dX8_transfer_29 (by decide) (fun c_29 => ?_) (fun c_29 => ?_)
      · refine lv_iconst (v := 1) hx hb dX8_transfer_56 rfl ?_
        refine lv_goto (tgt := 61) hx hb dX8_transfer_57 (by decide) ?_
        exact W.eq (congrArg (fun z9 => F0 m 61 ls (.int z9 :: [.ref (B 0)])) (show (1 : Int32) = (trW da k y z) by first | (simp only [trW, c_29, ↓reduceIte, not_true_eq_false, not_false_eq_true]; done) | (simp [trW, c_29]; done))) K
      · refine lv_iload_n hx hb dX8_transfer_32 rfl (lv_at hl 4 rfl) ?_
        refine lv_iconst (v := 0) hx hb dX8_transfer_33 rfl ?_
        refine lv_sipush (v := 999) hx hb dX8_transfer_34 rfl ?_
        refine Rd.callS (rest := [.ref (B 0)]) (c_X8_in l G z 0 999) yk_X8_in E km_X8_54 dX8_transfer_37 hG (hE.S hS hD.efa) trivial rfl rfl hl.1 ⟨Nat.le_of_ble_eq_true rfl, Nat.le_of_ble_eq_true rfl⟩ ⟨Nat.zero_le _, Nat.zero_le _⟩ (Nat.le_of_ble_eq_true rfl) ?_
        refine lv_if_eq (tgt := 56) hx hb dX8_transfer_40 (by decide) (fun c_40 => ?_) (fun c_40 => ?_)
        · refine lv_iconst (v := 1) hx hb dX8_transfer_56 rfl ?_
          refine lv_goto (tgt := 61) hx hb dX8_transfer_57 (by decide) ?_
          exact W.eq (congrArg (fun z9 => F0 m 61 ls (.int z9 :: [.ref (B 0)])) (show (1 : Int32) = (trW da k y z) by first | (simp only [trW, c_29, c_40, ↓reduceIte, not_true_eq_false, not_false_eq_true]; done) | (simp [trW, c_29, c_40]; done))) K
        · refine lv_iload_n hx hb dX8_transfer_43 rfl (lv_at hl 4 rfl) ?_
          refine lv_aload_n hx hb dX8_transfer_44 rfl (lv_at hl 1 rfl) ?_
          refine gf_X8_17 (v := .ref (B 2)) E hG hP.1 rfl dX8_transfer_45 ?_
          refine lv_iload hx hb dX8_transfer_48 (lv_at hl 0 rfl) ?_
          refine lv_iconst (v := 3) hx hb dX8_transfer_50 rfl ?_
          refine lv_iadd hx hb dX8_transfer_51 ?_
          refine g_ild ((22 + 11 * k) + 3) E hG hP.2.2.1 (ixq (nI_ad rfl rfl)) (by omega) (by decide) dX8_transfer_52 ?_
          refine lv_icmp_le (tgt := 60) hx hb dX8_transfer_53 (by decide) (fun c_53 => ?_) (fun c_53 => ?_)
          · refine lv_iconst (v := 0) hx hb dX8_transfer_60 rfl ?_
            exact W.eq (congrArg (fun z9 => F0 m 61 ls (.int z9 :: [.ref (B 0)])) (show (0 : Int32) = (trW da k y z) by first | (simp only [trW, c_29, c_40, c_53, ↓reduceIte, not_true_eq_false, not_false_eq_true]; done) | (simp [trW, c_29, c_40, c_53]; done))) K
          · refine lv_iconst (v := 1) hx hb dX8_transfer_56 rfl ?_
            refine lv_goto (tgt := 61) hx hb dX8_transfer_57 (by decide) ?_
            exact W.eq (congrArg (fun z9 => F0 m 61 ls (.int z9 :: [.ref (B 0)])) (show (1 : Int32) = (trW da k y z) by first | (simp only [trW, c_29, c_40, c_53, ↓reduceIte, not_true_eq_false, not_false_eq_true]; done) | (simp [trW, c_29, c_40, c_53]; done))) K
    refine lv_iconst (v := 2) hx hb dX8_transfer_61 rfl ?_
    rw [hw9]
    refine Wr.callV (rest := []) (c_X8_fails0 l G hD 2) yk_X8_fails E km_X8_153 dX8_transfer_62 hG (hE.S hS hD.efa) hP (At.recv hG hP.1 rfl) rfl rfl hl.1 ⟨Nat.le_of_ble_eq_true rfl, Nat.le_of_ble_eq_true rfl⟩ ⟨Nat.le_of_ble_eq_true rfl, Nat.le_of_ble_eq_true rfl⟩ (Nat.le_of_ble_eq_true rfl) hS (fun _ h9 => h9) (fun v9 H locs hq hz9 hfr9 hS => ?_)
    obtain ⟨rfl, hP⟩ := hq
    refine lv_if_eq (tgt := 70) hx hb dX8_transfer_65 (by decide) (fun c_65 => ?_) (fun c_65 => ?_)
    · have hk8 : k < 12 := by omega
      refine W.cut (g := F0 m 118 ls [.int (trR da np nc k y)]) (fun K => ?_) ?_
      · refine lv_aload_n hx hb dX8_transfer_70 rfl (lv_at hl 1 rfl) ?_
        refine gf_X8_17 (v := .ref (B 2)) E hG hP.1 rfl dX8_transfer_71 ?_
        refine lv_iload hx hb dX8_transfer_74 (lv_at hl 0 rfl) ?_
        refine lv_bipush (v := 8) hx hb dX8_transfer_76 rfl ?_
        refine lv_iadd hx hb dX8_transfer_78 ?_
        refine g_ild ((22 + 11 * k) + 8) E hG hP.2.2.1 (ixq (nI_ad rfl rfl)) (by omega) (by decide) dX8_transfer_79 ?_
        refine lv_if_eq (tgt := 113) hx hb dX8_transfer_80 (by decide) (fun c_80 => ?_) (fun c_80 => ?_)
        · refine lv_iconst (v := 1) hx hb dX8_transfer_113 rfl ?_
          refine lv_goto (tgt := 118) hx hb dX8_transfer_114 (by decide) ?_
          exact W.eq (congrArg (fun z9 => F0 m 118 ls (.int z9 :: [])) (show (1 : Int32) = (trR da np nc k y) by first | (simp only [trR, c_80, ↓reduceIte, not_true_eq_false, not_false_eq_true]; done) | (simp [trR, c_80]; done))) K
        · refine lv_iload_n hx hb dX8_transfer_83 rfl (lv_at hl 3 rfl) ?_
          refine lv_aload_n hx hb dX8_transfer_84 rfl (lv_at hl 1 rfl) ?_
          refine lv_iload_n hx hb dX8_transfer_85 rfl (lv_at hl 2 rfl) ?_
          refine Rd.callV (rest := [.int y]) (c_X8_availableOf l G (nI k) k np nc rfl (by omega) h1 hp0 h0 hc0) yk_X8_availableOf E km_X8_201 dX8_transfer_86 hG (hE.S hS hD.efa) hP (At.recv hG hP.1 rfl) rfl rfl hl.1 ⟨Nat.le_of_ble_eq_true rfl, Nat.le_of_ble_eq_true rfl⟩ ⟨Nat.zero_le _, Nat.zero_le _⟩ (Nat.le_of_ble_eq_true rfl) ?_
          refine lv_icmp_gt (tgt := 113) hx hb dX8_transfer_89 (by decide) (fun c_89 => ?_) (fun c_89 => ?_)
          · refine lv_iconst (v := 1) hx hb dX8_transfer_113 rfl ?_
            refine lv_goto (tgt := 118) hx hb dX8_transfer_114 (by decide) ?_
            exact W.eq (congrArg (fun z9 => F0 m 118 ls (.int z9 :: [])) (show (1 : Int32) = (trR da np nc k y) by first | (simp only [trR, c_80, c_89, ↓reduceIte, not_true_eq_false, not_false_eq_true]; done) | (simp [trR, c_80, c_89]; done))) K
          · refine lv_aload_n hx hb dX8_transfer_92 rfl (lv_at hl 1 rfl) ?_
            refine gf_X8_17 (v := .ref (B 2)) E hG hP.1 rfl dX8_transfer_93 ?_
            refine lv_iload hx hb dX8_transfer_96 (lv_at hl 0 rfl) ?_
            refine lv_bipush (v := 7) hx hb dX8_transfer_98 rfl ?_
            refine lv_iadd hx hb dX8_transfer_100 ?_
            refine g_ild ((22 + 11 * k) + 7) E hG hP.2.2.1 (ixq (nI_ad rfl rfl)) (by omega) (by decide) dX8_transfer_101 ?_
            refine lv_if_ne (tgt := 117) hx hb dX8_transfer_102 (by decide) (fun c_102 => ?_) (fun c_102 => ?_)
            · refine lv_iconst (v := 0) hx hb dX8_transfer_117 rfl ?_
              exact W.eq (congrArg (fun z9 => F0 m 118 ls (.int z9 :: [])) (show (0 : Int32) = (trR da np nc k y) by first | (simp only [trR, c_80, c_89, c_102, ↓reduceIte, not_true_eq_false, not_false_eq_true]; done) | (simp [trR, c_80, c_89, c_102]; done))) K
            · refine lv_aload_n hx hb dX8_transfer_105 rfl (lv_at hl 1 rfl) ?_
              refine lv_iload_n hx hb dX8_transfer_106 rfl (lv_at hl 2 rfl) ?_
              refine Rd.callV (rest := []) (c_X8_transferredOf l G (nI k) nc h0 hc0) yk_X8_transferredOf E km_X8_198 dX8_transfer_107 hG (hE.S hS hD.efa) hP (At.recv hG hP.1 rfl) rfl rfl hl.1 ⟨Nat.le_of_ble_eq_true rfl, Nat.le_of_ble_eq_true rfl⟩ ⟨Nat.zero_le _, Nat.zero_le _⟩ (Nat.le_of_ble_eq_true rfl) ?_
              refine lv_if_eq (tgt := 117) hx hb dX8_transfer_110 (by decide) (fun c_110 => ?_) (fun c_110 => ?_)
              · refine lv_iconst (v := 0) hx hb dX8_transfer_117 rfl ?_
                exact W.eq (congrArg (fun z9 => F0 m 118 ls (.int z9 :: [])) (show (0 : Int32) = (trR da np nc k y) by first | (simp only [trR, c_80, c_89, c_102, c_110, ↓reduceIte, not_true_eq_false, not_false_eq_true]; done) | (simp [trR, c_80, c_89, c_102, c_110]; done))) K
              · refine lv_iconst (v := 1) hx hb dX8_transfer_113 rfl ?_
                refine lv_goto (tgt := 118) hx hb dX8_transfer_114 (by decide) ?_
                exact W.eq (congrArg (fun z9 => F0 m 118 ls (.int z9 :: [])) (show (1 : Int32) = (trR da np nc k y) by first | (simp only [trR, c_80, c_89, c_102, c_110, ↓reduceIte, not_true_eq_false, not_false_eq_true]; done) | (simp [trR, c_80, c_89, c_102, c_110]; done))) K
      refine lv_istore (lv' := [(5, .int (trR da np nc k y)), (4, .int (nI (22 + 11 * k))), (0, .ref (B 0)), (1, .int (nI k)), (2, .int y), (3, .int z)]) hx hb dX8_transfer_118 hl (by decide) rfl (fun ls hl => ?_)
      refine lv_aload_n hx hb dX8_transfer_120 rfl (lv_at hl 2 rfl) ?_
      refine W.cut (g := F0 m 142 ls [.int (trF da np nc k y), .ref (B 0)]) (fun K => ?_) ?_
      · refine lv_iload hx hb dX8_transfer_121 (lv_at hl 0 rfl) ?_
        refine lv_if_ne (tgt := 137) hx hb dX8_transfer_123 (by decide) (fun c_123 => ?_) (fun c_123 => ?_)
        · refine lv_iconst (v := 1) hx hb dX8_transfer_137 rfl ?_
          refine lv_goto (tgt := 142) hx hb dX8_transfer_138 (by decide) ?_
          exact W.eq (congrArg (fun z9 => F0 m 142 ls (.int z9 :: [.ref (B 0)])) (show (1 : Int32) = (trF da np nc k y) by first | (simp only [trF, c_123, ↓reduceIte, not_true_eq_false, not_false_eq_true]; done) | (simp [trF, c_123]; done))) K
        · refine lv_aload_n hx hb dX8_transfer_126 rfl (lv_at hl 2 rfl) ?_
          refine gf_X8_17 (v := .ref (B 2)) E hG hP.1 rfl dX8_transfer_127 ?_
          refine lv_iconst (v := 0) hx hb dX8_transfer_130 rfl ?_
          refine g_ild 0 E hG hP.2.2.1 rfl (by omega) (by decide) dX8_transfer_131 ?_
          refine lv_bipush (v := 12) hx hb dX8_transfer_132 rfl ?_
          refine lv_icmp_ne (tgt := 141) hx hb dX8_transfer_134 (by decide) (fun c_134 => ?_) (fun c_134 => ?_)
          · refine lv_iconst (v := 0) hx hb dX8_transfer_141 rfl ?_
            exact W.eq (congrArg (fun z9 => F0 m 142 ls (.int z9 :: [.ref (B 0)])) (show (0 : Int32) = (trF da np nc k y) by first | (simp only [trF, c_123, c_134, ↓reduceIte, not_true_eq_false, not_false_eq_true]; done) | (simp [trF, c_123, c_134]; done))) K
          · refine lv_iconst (v := 1) hx hb dX8_transfer_137 rfl ?_
            refine lv_goto (tgt := 142) hx hb dX8_transfer_138 (by decide) ?_
            exact W.eq (congrArg (fun z9 => F0 m 142 ls (.int z9 :: [.ref (B 0)])) (show (1 : Int32) = (trF da np nc k y) by first | (simp only [trF, c_123, c_134, ↓reduceIte, not_true_eq_false, not_false_eq_true]; done) | (simp [trF, c_123, c_134]; done))) K
      refine lv_iconst (v := 3) hx hb dX8_transfer_142 rfl ?_
      rw [hf9]
      refine Wr.callV (rest := []) (c_X8_fails0 l G hD 3) yk_X8_fails E km_X8_153 dX8_transfer_143 hG (hE.S hS hD.efa) hP (At.recv hG hP.1 rfl) rfl rfl hl.1 ⟨Nat.le_of_ble_eq_true rfl, Nat.le_of_ble_eq_true rfl⟩ ⟨Nat.le_of_ble_eq_true rfl, Nat.le_of_ble_eq_true rfl⟩ (Nat.le_of_ble_eq_true rfl) hS (fun _ h9 => h9) (fun v9 H locs hq hz9 hfr9 hS => ?_)
      obtain ⟨rfl, hP⟩ := hq
      refine lv_if_eq (tgt := 151) hx hb dX8_transfer_146 (by decide) (fun c_146 => ?_) (fun c_146 => ?_)
      · refine lv_aload_n hx hb dX8_transfer_151 rfl (lv_at hl 2 rfl) ?_
        refine Wr.callV (rest := []) (c_X8_remember l G hD u hu) yk_X8_remember E km_X8_160 dX8_transfer_152 hG (hE.S hS hD.efa) hP (At.recv hG hP.1 rfl) rfl rfl hl.1 ⟨Nat.le_of_ble_eq_true rfl, Nat.le_of_ble_eq_true rfl⟩ ⟨Nat.le_of_ble_eq_true rfl, Nat.le_of_ble_eq_true rfl⟩ (Nat.le_of_ble_eq_true rfl) hS (fun _ h9 => h9) (fun v9 H locs hq hz9 hfr9 hS => ?_)
        obtain ⟨rfl, hP⟩ := hq
        refine lv_aload_n hx hb dX8_transfer_155 rfl (lv_at hl 2 rfl) ?_
        refine gf_X8_17 (v := .ref (B 2)) E hG hP.1 rfl dX8_transfer_156 ?_
        refine lv_iconst (v := 0) hx hb dX8_transfer_159 rfl ?_
        refine g_ild 0 E hG hP.2.2.1 rfl (by omega) (by decide) dX8_transfer_160 ?_
        refine lv_ci (y := nI nc) (ixq h0) ?_
        refine lv_istore (lv' := [(6, .int (nI nc)), (5, .int (trR da np nc k y)), (4, .int (nI (22 + 11 * k))), (0, .ref (B 0)), (1, .int (nI k)), (2, .int y), (3, .int z)]) hx hb dX8_transfer_161 hl (by decide) rfl (fun ls hl => ?_)
        refine lv_iload hx hb dX8_transfer_163 (lv_at hl 0 rfl) ?_
        refine Rd.callS (rest := []) (c_X8_credit l G (nI nc)) yk_X8_credit E km_X8_126 dX8_transfer_165 hG (hE.S hS hD.efa) trivial rfl rfl hl.1 ⟨Nat.le_of_ble_eq_true rfl, Nat.le_of_ble_eq_true rfl⟩ ⟨Nat.zero_le _, Nat.zero_le _⟩ (Nat.le_of_ble_eq_true rfl) ?_
        refine lv_ci (y := nI (22 + 11 * nc)) (ixq (nI_ad rfl (nI_mu rfl rfl))) ?_
        refine lv_istore (lv' := [(7, .int (nI (22 + 11 * nc))), (6, .int (nI nc)), (5, .int (trR da np nc k y)), (4, .int (nI (22 + 11 * k))), (0, .ref (B 0)), (1, .int (nI k)), (2, .int y), (3, .int z)]) hx hb dX8_transfer_168 hl (by decide) rfl (fun ls hl => ?_)
        refine lv_aload_n hx hb dX8_transfer_170 rfl (lv_at hl 4 rfl) ?_
        refine gf_X8_17 (v := .ref (B 2)) E hG hP.1 rfl dX8_transfer_171 ?_
        refine lv_iconst (v := 0) hx hb dX8_transfer_174 rfl ?_
        refine lv_dup2_11 hx hb dX8_transfer_175 rfl rfl ?_
        refine g_ild 0 E hG hP.2.2.1 rfl (by omega) (by decide) dX8_transfer_176 ?_
        refine lv_iconst (v := 1) hx hb dX8_transfer_177 rfl ?_
        refine lv_iadd hx hb dX8_transfer_178 ?_
        refine g_ist 0 E hG hP.2.2.1 rfl (by omega) (by decide) hS ⟨2, by decide, rfl⟩ dX8_transfer_179 (fun H locs ho hz oq hS => ?_)
        have hP : MW G B (fm 0 bl tl ps er ea eo (nI (remU u)) ns ne se) bf (upd da 0 ((da 0) + 1)) dr (remH hi da u) sk H := hP.setD hD ho oq
        refine lv_iconst (v := 0) hx hb dX8_transfer_180 rfl ?_
        refine lv_ci (y := nI 0) (ixq rfl) ?_
        refine lv_istore (lv' := [(8, .int (nI 0)), (7, .int (nI (22 + 11 * nc))), (6, .int (nI nc)), (5, .int (trR da np nc k y)), (4, .int (nI (22 + 11 * k))), (0, .ref (B 0)), (1, .int (nI k)), (2, .int y), (3, .int z)]) hx hb dX8_transfer_181 hl (by decide) rfl (fun ls hl => ?_)
        have loop : ∀ (j i : Nat) (dd : Nat → Int32), 11 < i + j → i ≤ 11 → (∀ j9, dd j9 = if cP nc ≤ j9 ∧ j9 < cP nc + i then upd da 0 (da 0 + 1) (cP k + (j9 - cP nc)) else upd da 0 (da 0 + 1) j9) → ∀ (H : Heap) (locs : List Loc), MW G B (fm 0 bl tl ps er ea eo (nI (remU u)) ns ne se) bf dd dr (remH hi da u) sk H → va_S (MA B) s.heap H locs → ∀ ls : Array Slot, lv_has ls 9 [(8, .int (nI i)), (7, .int (nI (22 + 11 * nc))), (6, .int (nI nc)), (5, .int (trR da np nc k y)), (4, .int (nI (22 + 11 * k))), (0, .ref (B 0)), (1, .int (nI k)), (2, .int y), (3, .int z)] → W p l e { frames := 4, cells := 0, slots := 0, locals := 86 } s m ([.ref (B 0), .int (nI k), .int y, .int z] : List Value).toArray below meth c H locs 0 0 (WQ below ([.ref (B 0), .int (nI k), .int y, .int z] : List Value).toArray s 0 0 (MA B) (fun v9 H9 => v9 = some (.int (nI nc)) ∧ MW G B (fm 0 bl tl ps er ea eo (nI (remU u)) ns ne se) bf (trD da nc k (nI k) y z) dr (remH hi da u) sk H9)) (F0 m 183 ls []) := by
          intro j
          induction j with
          | zero => intro i dd z1 z2; omega
          | succ j ih =>
            intro i dd z1 z2 z3 H locs hP hS ls hl
            refine lv_iload hx hb dX8_transfer_183 (lv_at hl 0 rfl) ?_
            refine lv_bipush (v := 11) hx hb dX8_transfer_185 rfl ?_
            refine lv_icmp_ge (tgt := 216) hx hb dX8_transfer_187 (by decide) (fun c_187 => ?_) (fun c_187 => ?_)
            · have c_187 : 11 ≤ i := (nLE (x := 11) (y := (nI i)) (a := 11) (b := i) rfl rfl (by omega) (by omega)).mp c_187
              have e9 : i = 11 := by omega
              subst e9
              refine lv_aload_n hx hb dX8_transfer_216 rfl (lv_at hl 5 rfl) ?_
              refine gf_X8_17 (v := .ref (B 2)) E hG hP.1 rfl dX8_transfer_217 ?_
              refine lv_iload hx hb dX8_transfer_220 (lv_at hl 1 rfl) ?_
              refine lv_iload_n hx hb dX8_transfer_222 rfl (lv_at hl 7 rfl) ?_
              refine g_ist (22 + 11 * nc) E hG hP.2.2.1 rfl (by omega) (by decide) hS ⟨2, by decide, rfl⟩ dX8_transfer_223 (fun H locs ho hz oq hS => ?_)
              have hP : MW G B (fm 0 bl tl ps er ea eo (nI (remU u)) ns ne se) bf (upd dd (22 + 11 * nc) y) dr (remH hi da u) sk H := hP.setD hD ho oq
              refine lv_aload_n hx hb dX8_transfer_224 rfl (lv_at hl 5 rfl) ?_
              refine gf_X8_17 (v := .ref (B 2)) E hG hP.1 rfl dX8_transfer_225 ?_
              refine lv_iload hx hb dX8_transfer_228 (lv_at hl 1 rfl) ?_
              refine lv_iconst (v := 1) hx hb dX8_transfer_230 rfl ?_
              refine lv_iadd hx hb dX8_transfer_231 ?_
              refine lv_iconst (v := 0) hx hb dX8_transfer_232 rfl ?_
              refine g_ist ((22 + 11 * nc) + 1) E hG hP.2.2.1 (ixq (nI_ad rfl rfl)) (by omega) (by decide) hS ⟨2, by decide, rfl⟩ dX8_transfer_233 (fun H locs ho hz oq hS => ?_)
              have hP : MW G B (fm 0 bl tl ps er ea eo (nI (remU u)) ns ne se) bf (upd (upd dd (22 + 11 * nc) y) ((22 + 11 * nc) + 1) 0) dr (remH hi da u) sk H := hP.setD hD ho oq
              refine lv_aload_n hx hb dX8_transfer_234 rfl (lv_at hl 5 rfl) ?_
              refine gf_X8_17 (v := .ref (B 2)) E hG hP.1 rfl dX8_transfer_235 ?_
              refine lv_iload hx hb dX8_transfer_238 (lv_at hl 1 rfl) ?_
              refine lv_iconst (v := 2) hx hb dX8_transfer_240 rfl ?_
              refine lv_iadd hx hb dX8_transfer_241 ?_
              refine lv_iconst (v := 0) hx hb dX8_transfer_242 rfl ?_
              refine g_ist ((22 + 11 * nc) + 2) E hG hP.2.2.1 (ixq (nI_ad rfl rfl)) (by omega) (by decide) hS ⟨2, by decide, rfl⟩ dX8_transfer_243 (fun H locs ho hz oq hS => ?_)
              have hP : MW G B (fm 0 bl tl ps er ea eo (nI (remU u)) ns ne se) bf (upd (upd (upd dd (22 + 11 * nc) y) ((22 + 11 * nc) + 1) 0) ((22 + 11 * nc) + 2) 0) dr (remH hi da u) sk H := hP.setD hD ho oq
              refine lv_aload_n hx hb dX8_transfer_244 rfl (lv_at hl 5 rfl) ?_
              refine gf_X8_17 (v := .ref (B 2)) E hG hP.1 rfl dX8_transfer_245 ?_
              refine lv_iload hx hb dX8_transfer_248 (lv_at hl 1 rfl) ?_
              refine lv_iconst (v := 3) hx hb dX8_transfer_250 rfl ?_
              refine lv_iadd hx hb dX8_transfer_251 ?_
              refine lv_iload_n hx hb dX8_transfer_252 rfl (lv_at hl 8 rfl) ?_
              refine g_ist ((22 + 11 * nc) + 3) E hG hP.2.2.1 (ixq (nI_ad rfl rfl)) (by omega) (by decide) hS ⟨2, by decide, rfl⟩ dX8_transfer_253 (fun H locs ho hz oq hS => ?_)
              have hP : MW G B (fm 0 bl tl ps er ea eo (nI (remU u)) ns ne se) bf (upd (upd (upd (upd dd (22 + 11 * nc) y) ((22 + 11 * nc) + 1) 0) ((22 + 11 * nc) + 2) 0) ((22 + 11 * nc) + 3) z) dr (remH hi da u) sk H := hP.setD hD ho oq
              refine lv_aload_n hx hb dX8_transfer_254 rfl (lv_at hl 5 rfl) ?_
              refine gf_X8_17 (v := .ref (B 2)) E hG hP.1 rfl dX8_transfer_255 ?_
              refine lv_iload hx hb dX8_transfer_258 (lv_at hl 1 rfl) ?_
              refine lv_iconst (v := 4) hx hb dX8_transfer_260 rfl ?_
              refine lv_iadd hx hb dX8_transfer_261 ?_
              refine lv_aload_n hx hb dX8_transfer_262 rfl (lv_at hl 5 rfl) ?_
              refine gf_X8_17 (v := .ref (B 2)) E hG hP.1 rfl dX8_transfer_263 ?_
              refine lv_iload hx hb dX8_transfer_266 (lv_at hl 4 rfl) ?_
              refine lv_iconst (v := 4) hx hb dX8_transfer_268 rfl ?_
              refine lv_iadd hx hb dX8_transfer_269 ?_
              refine g_ild ((22 + 11 * k) + 4) E hG hP.2.2.1 (ixq (nI_ad rfl rfl)) (by omega) (by decide) dX8_transfer_270 ?_
              refine lv_ci (y := da (cP k + 4)) (tr_rd hk9 z3) ?_
              refine lv_iload_n hx hb dX8_transfer_271 rfl (lv_at hl 8 rfl) ?_
              refine Rd.callS (rest := [.int ((nI (22 + 11 * nc)) + 4), .ref (B 2)]) (c_X8_min l G (da (cP k + 4)) z) yk_X8_min E km_X8_87 dX8_transfer_272 hG (hE.S hS hD.efa) trivial rfl rfl hl.1 ⟨Nat.le_of_ble_eq_true rfl, Nat.le_of_ble_eq_true rfl⟩ ⟨Nat.zero_le _, Nat.zero_le _⟩ (Nat.le_of_ble_eq_true rfl) ?_
              refine g_ist ((22 + 11 * nc) + 4) E hG hP.2.2.1 (ixq (nI_ad rfl rfl)) (by omega) (by decide) hS ⟨2, by decide, rfl⟩ dX8_transfer_275 (fun H locs ho hz oq hS => ?_)
              have hP : MW G B (fm 0 bl tl ps er ea eo (nI (remU u)) ns ne se) bf (upd (upd (upd (upd (upd dd (22 + 11 * nc) y) ((22 + 11 * nc) + 1) 0) ((22 + 11 * nc) + 2) 0) ((22 + 11 * nc) + 3) z) ((22 + 11 * nc) + 4) (minV (da (cP k + 4)) z)) dr (remH hi da u) sk H := hP.setD hD ho oq
              refine lv_aload_n hx hb dX8_transfer_276 rfl (lv_at hl 5 rfl) ?_
              refine gf_X8_17 (v := .ref (B 2)) E hG hP.1 rfl dX8_transfer_277 ?_
              refine lv_iload hx hb dX8_transfer_280 (lv_at hl 1 rfl) ?_
              refine lv_bipush (v := 8) hx hb dX8_transfer_282 rfl ?_
              refine lv_iadd hx hb dX8_transfer_284 ?_
              refine lv_iconst (v := 0) hx hb dX8_transfer_285 rfl ?_
              refine g_ist ((22 + 11 * nc) + 8) E hG hP.2.2.1 (ixq (nI_ad rfl rfl)) (by omega) (by decide) hS ⟨2, by decide, rfl⟩ dX8_transfer_286 (fun H locs ho hz oq hS => ?_)
              have hP : MW G B (fm 0 bl tl ps er ea eo (nI (remU u)) ns ne se) bf (upd (upd (upd (upd (upd (upd dd (22 + 11 * nc) y) ((22 + 11 * nc) + 1) 0) ((22 + 11 * nc) + 2) 0) ((22 + 11 * nc) + 3) z) ((22 + 11 * nc) + 4) (minV (da (cP k + 4)) z)) ((22 + 11 * nc) + 8) 0) dr (remH hi da u) sk H := hP.setD hD ho oq
              refine lv_aload_n hx hb dX8_transfer_287 rfl (lv_at hl 5 rfl) ?_
              refine gf_X8_17 (v := .ref (B 2)) E hG hP.1 rfl dX8_transfer_288 ?_
              refine lv_iload hx hb dX8_transfer_291 (lv_at hl 1 rfl) ?_
              refine lv_bipush (v := 10) hx hb dX8_transfer_293 rfl ?_
              refine lv_iadd hx hb dX8_transfer_295 ?_
              refine lv_iload_n hx hb dX8_transfer_296 rfl (lv_at hl 6 rfl) ?_
              refine g_ist ((22 + 11 * nc) + 10) E hG hP.2.2.1 (ixq (nI_ad rfl rfl)) (by omega) (by decide) hS ⟨2, by decide, rfl⟩ dX8_transfer_297 (fun H locs ho hz oq hS => ?_)
              have hP : MW G B (fm 0 bl tl ps er ea eo (nI (remU u)) ns ne se) bf (upd (upd (upd (upd (upd (upd (upd dd (22 + 11 * nc) y) ((22 + 11 * nc) + 1) 0) ((22 + 11 * nc) + 2) 0) ((22 + 11 * nc) + 3) z) ((22 + 11 * nc) + 4) (minV (da (cP k + 4)) z)) ((22 + 11 * nc) + 8) 0) ((22 + 11 * nc) + 10) (nI k)) dr (remH hi da u) sk H := hP.setD hD ho oq
              refine lv_iload hx hb dX8_transfer_298 (lv_at hl 2 rfl) ?_
              exact wr_int E hr hk hS (by decide) (by decide) (⟨rfl, by rw [← trD_eq (x := nI k) (am := y) (ei := z) hk9 z3]; exact hP⟩) dX8_transfer_300
            · have c_187 : ¬ 11 ≤ i := fun z9 => c_187 ((nLE (x := 11) (y := (nI i)) (a := 11) (b := i) rfl rfl (by omega) (by omega)).mpr z9)
              refine lv_aload_n hx hb dX8_transfer_190 rfl (lv_at hl 5 rfl) ?_
              refine gf_X8_17 (v := .ref (B 2)) E hG hP.1 rfl dX8_transfer_191 ?_
              refine lv_iload hx hb dX8_transfer_194 (lv_at hl 1 rfl) ?_
              refine lv_iload hx hb dX8_transfer_196 (lv_at hl 0 rfl) ?_
              refine lv_iadd hx hb dX8_transfer_198 ?_
              refine lv_aload_n hx hb dX8_transfer_199 rfl (lv_at hl 5 rfl) ?_
              refine gf_X8_17 (v := .ref (B 2)) E hG hP.1 rfl dX8_transfer_200 ?_
              refine lv_iload hx hb dX8_transfer_203 (lv_at hl 4 rfl) ?_
              refine lv_iload hx hb dX8_transfer_205 (lv_at hl 0 rfl) ?_
              refine lv_iadd hx hb dX8_transfer_207 ?_
              refine g_ild ((22 + 11 * k) + i) E hG hP.2.2.1 (ixq (nI_ad rfl rfl)) (by omega) (by decide) dX8_transfer_208 ?_
              refine g_ist ((22 + 11 * nc) + i) E hG hP.2.2.1 (ixq (nI_ad rfl rfl)) (by omega) (by decide) hS ⟨2, by decide, rfl⟩ dX8_transfer_209 (fun H locs ho hz oq hS => ?_)
              have hP : MW G B (fm 0 bl tl ps er ea eo (nI (remU u)) ns ne se) bf (upd dd ((22 + 11 * nc) + i) (dd ((22 + 11 * k) + i))) dr (remH hi da u) sk H := hP.setD hD ho oq
              refine lv_iinc (v := (nI (i + 1))) (lv' := [(8, .int (nI (i + 1))), (7, .int (nI (22 + 11 * nc))), (6, .int (nI nc)), (5, .int (trR da np nc k y)), (4, .int (nI (22 + 11 * k))), (0, .ref (B 0)), (1, .int (nI k)), (2, .int y), (3, .int z)]) hx hb dX8_transfer_210 hl (k := 0) rfl (nI_ad rfl rfl) (by decide) rfl (fun ls hl => ?_)
              refine lv_goto (tgt := 183) hx hb dX8_transfer_213 (by decide) ?_
              exact ih (i + 1) _ (by omega) (by omega) (cpy_s dd z3 (Or.inl (by show 22 + 11 * k + i < 22 + 11 * nc; omega)) (by omega)) _ _ hP hS ls (lv_sub hl [0, 1, 2, 3, 4, 5, 6, 7, 8] rfl)
        exact loop 12 0 _ (by omega) (by omega) (fun j9 => by rw [if_neg (by omega)]) _ _ hP hS ls (lv_sub hl [0, 1, 2, 3, 4, 5, 6, 7, 8] rfl)
      · exact absurd c_146 (by decide)
    · exact absurd c_65 (by decide)
  · exact absurd c_10 (by decide)
