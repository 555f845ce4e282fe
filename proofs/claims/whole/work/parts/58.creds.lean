/-! READING: the class's credits and fee rule -/
theorem nz {v : Int32} (h : v = 0 ∨ v = 1) : narrow .boolean (.int v) = .int v ∧ fits .boolean (.int v) = true := by
  rcases h with h | h <;> rw [h] <;> exact ⟨rfl, rfl⟩
theorem crF_new {d : Nat → Int32} {nc : Nat} {v0 v1 v2 v3 v4 v5 v6 v7 v8 w : Int32} : crF (crD d nc [v0, v1, v2, v3, v4, v5, v6, v7, v8, w]) nc = [.int (nI nc), .int (-1), .int v0, .int v1, .int v2, .int v3, .int v4, .int v5, .int v6, .int w, .int v7, .int v8] := by
  have e0 := crD_at (d := d) (nc := nc) (i := 0) (L := [v0, v1, v2, v3, v4, v5, v6, v7, v8, w]) (by omega)
  rw [Nat.add_zero] at e0
  show [Value.int (nI nc), .int (crD d nc _ (22 + 11 * nc + 10)), .int (crD d nc _ (22 + 11 * nc)), .int (crD d nc _ (22 + 11 * nc + 1)), .int (crD d nc _ (22 + 11 * nc + 2)), .int (crD d nc _ (22 + 11 * nc + 3)), .int (crD d nc _ (22 + 11 * nc + 4)), .int (crD d nc _ (22 + 11 * nc + 5)), .int (crD d nc _ (22 + 11 * nc + 6)), .int (crD d nc _ (22 + 11 * nc + 9)), .int (crD d nc _ (22 + 11 * nc + 7)), .int (crD d nc _ (22 + 11 * nc + 8))] = _
  rw [crD_pa, e0, crD_at (i := 1) (by omega), crD_at (i := 2) (by omega), crD_at (i := 3) (by omega), crD_at (i := 4) (by omega), crD_at (i := 5) (by omega), crD_at (i := 6) (by omega), crD_at (i := 9) (by omega), crD_at (i := 7) (by omega), crD_at (i := 8) (by omega)]
  rfl
theorem crD_sm {d : Nat → Int32} {nc nh : Nat} {L : List Int32} (hh : nh ≤ 16) (hc : nc < 12) : Sm d (crD d nc L) nc 0 nh := by
  refine ⟨fun k hk => crD_lo (by omega) (by omega), fun c hc2 => ?_, fun p hp => absurd hp (Nat.not_lt_zero p), crD_lo (by omega) (by omega), crD_lo (by omega) (by omega), fun j => crD_hi (by omega)⟩
  have e : ∀ i, i < 11 → crD d nc L (22 + 11 * c + i) = d (22 + 11 * c + i) := fun i _ => crD_lo (by omega) (by omega)
  have e0 : crD d nc L (22 + 11 * c) = d (22 + 11 * c) := crD_lo (by omega) (by omega)
  show [Value.int (nI c), .int (crD d nc L (22 + 11 * c + 10)), .int (crD d nc L (22 + 11 * c)), .int (crD d nc L (22 + 11 * c + 1)), .int (crD d nc L (22 + 11 * c + 2)), .int (crD d nc L (22 + 11 * c + 3)), .int (crD d nc L (22 + 11 * c + 4)), .int (crD d nc L (22 + 11 * c + 5)), .int (crD d nc L (22 + 11 * c + 6)), .int (crD d nc L (22 + 11 * c + 9)), .int (crD d nc L (22 + 11 * c + 7)), .int (crD d nc L (22 + 11 * c + 8))] = _
  rw [e 10 (by omega), e0, e 1 (by omega), e 2 (by omega), e 3 (by omega), e 4 (by omega), e 5 (by omega), e 6 (by omega), e 9 (by omega), e 7 (by omega), e 8 (by omega)]
theorem em_cr {d : Nat → Int32} {nc : Nat} {C : List Int32} (hc : nc ≤ 12) : ∀ c, c < nc → crF (emC (upd d 4 1) C) c = crF d c := fun c hc2 => by
  have q : ∀ j, j ≠ 4 → j ≠ 5 → j < 298 → emC (upd d 4 1) C j = d j := fun j h4 h5 h => by rw [emC_o h5 h, pk_un h4]
  have e : ∀ i, i < 11 → emC (upd d 4 1) C (22 + 11 * c + i) = d (22 + 11 * c + i) := fun i _ => q _ (by omega) (by omega) (by omega)
  have e0 : emC (upd d 4 1) C (22 + 11 * c) = d (22 + 11 * c) := q _ (by omega) (by omega) (by omega)
  show [Value.int (nI c), .int (emC (upd d 4 1) C (22 + 11 * c + 10)), .int (emC (upd d 4 1) C (22 + 11 * c)), .int (emC (upd d 4 1) C (22 + 11 * c + 1)), .int (emC (upd d 4 1) C (22 + 11 * c + 2)), .int (emC (upd d 4 1) C (22 + 11 * c + 3)), .int (emC (upd d 4 1) C (22 + 11 * c + 4)), .int (emC (upd d 4 1) C (22 + 11 * c + 5)), .int (emC (upd d 4 1) C (22 + 11 * c + 6)), .int (emC (upd d 4 1) C (22 + 11 * c + 9)), .int (emC (upd d 4 1) C (22 + 11 * c + 7)), .int (emC (upd d 4 1) C (22 + 11 * c + 8))] = _
  rw [e 10 (by omega), e0, e 1 (by omega), e 2 (by omega), e 3 (by omega), e 4 (by omega), e 5 (by omega), e 6 (by omega), e 9 (by omega), e 7 (by omega), e 8 (by omega)]
theorem em_lo {d : Nat → Int32} {C : List Int32} {j : Nat} (h4 : j ≠ 4) (h5 : j ≠ 5) (h : j < 298) : emC (upd d 4 1) C j = d j := by rw [emC_o h5 h, pk_un h4]
set_option maxHeartbeats 4000000 in
set_option maxRecDepth 100000 in
/-- withFeeRule -/
theorem c_X0_withFeeRule_b (l : Launch) (G : CG) {a sz ca fe cr pr f8 : Nat} {t : Int32} (hz1 : EFA G sz) : Wr l yX0_withFeeRule cX0_withFeeRule 2 ((Option.some (FieldType.object "DocumentaryCreditDesk$Book"))) 2 45 1 5 G [.ref a, .ref f8] (fun H9 => H9.size = sz ∧ At G a (.inr (0, [.int t, .ref ca, .ref fe, .ref cr, .ref pr])) H9) (fun q9 => sz ≤ q9) (fun v9 H9 => ∃ b, v9 = some (.ref b)) := by
  refine Wr.ofW (by decide) (Nat.le_of_ble_eq_true rfl) (fun p e s m below meth c ls E hG hE hP hr hk hin hl => ?_)
  have hS : va_S (fun q9 => sz ≤ q9) s.heap s.heap [] := va_S.rf
  have hx := E.1
  have hb := E.2.1
  have hl : lv_has ls 2 [(0, .ref a), (1, .ref f8)] := hl
  obtain ⟨hz0, f_a⟩ := hP
  have hEA : ∀ q9, sz ≤ q9 → EFA G q9 := fun q9 h9 => Nat.le_trans hz1 h9
  refine n_new (ci := 0) (fs := [.int 0, .null, .null, .null, .null]) (ty := tyX0) inX0 tyX0_ok rfl kl_X0_10 kn_X0 kin_X0 df_X0 E hG hS (Nat.le_of_eq hz0.symm) (show 0 + 1 ≤ 1 by omega) (show 0 + 5 ≤ 5 by omega) dX0_withFeeRule_0 (fun b_1 H hb_1 hg_1 f_1 hz oq hS => ?_)
  refine lv_dup hx hb dX0_withFeeRule_3 rfl ?_
  refine lv_aload_n hx hb dX0_withFeeRule_4 rfl (lv_at hl 0 rfl) ?_
  refine gf_X0_9 E hG (kn hS hz0 f_a) rfl dX0_withFeeRule_5 ?_
  refine lv_aload_n hx hb dX0_withFeeRule_8 rfl (lv_at hl 0 rfl) ?_
  refine gf_X0_15 E hG (kn hS hz0 f_a) rfl dX0_withFeeRule_9 ?_
  refine lv_aload_n hx hb dX0_withFeeRule_12 rfl (lv_at hl 1 rfl) ?_
  refine lv_aload_n hx hb dX0_withFeeRule_13 rfl (lv_at hl 0 rfl) ?_
  refine gf_X0_23 E hG (kn hS hz0 f_a) rfl dX0_withFeeRule_14 ?_
  refine lv_aload_n hx hb dX0_withFeeRule_17 rfl (lv_at hl 0 rfl) ?_
  refine gf_X0_27 E hG (kn hS hz0 f_a) rfl dX0_withFeeRule_18 ?_
  refine Wr.callI (rest := [.ref b_1]) (c_X0_init l G t ca f8 cr pr) yk_X0_init E km_X0_47 dX0_withFeeRule_21 hG (hE.S hS hEA) f_1 rfl rfl hl.1 ⟨Nat.le_of_ble_eq_true rfl, Nat.le_of_ble_eq_true rfl⟩ ⟨(show 0 + 1 + 0 ≤ 1 by omega), (show 0 + 5 + 0 ≤ 5 by omega)⟩ (Nat.le_of_ble_eq_true rfl) hS (fun q9 h9 => by rw [h9]; exact hg_1) (fun v9 H locs hq hz9 hfr9 hS => ?_)
  obtain ⟨rfl, f_1⟩ := hq
  exact wr_ref E hr (by first | exact Or.inl ⟨_, rfl⟩ | exact Or.inr ⟨_, rfl⟩) hk hS (show 0 + 1 + 0 ≤ 1 by omega) (show 0 + 5 + 0 ≤ 5 by omega) (⟨_, rfl⟩) dX0_withFeeRule_24

set_option maxHeartbeats 4000000 in
set_option maxRecDepth 100000 in
/-- readCredit, too many -/
theorem c_X6_readCredit_x (l : Launch) (G : CG) {sL sz x bk tx fs : Nat} {fg fc : Int32} {bf : Nat → Int32} (hB : ByO bf) (n : Nat) (hn9 : n ≤ 900) (hzL : EFA G sL) (hxL : sL ≤ x) (htL : sL ≤ tx) (ne_tx_x : tx ≠ x) (s9 : Nat) (hs9 : s9 ≤ n) {d : Nat → Int32} {nc nh : Nat} (hc9 : nc = 12) : Wr l yX6_readCredit cX6_readCredit 2 ((Option.none : Option FieldType)) 1 21 0 0 G [.ref x] (fun H9 => H9.size = sz ∧ At G x (.inr (6, rdF 0 (-1) bk tx (kd bf n s9) (nI s9) (nI (te bf n s9)) (va bf n s9) fg fs fc)) H9 ∧ At G tx (bA G n (sB bf)) H9 ∧ BK G (AL sL x tx) bk d nc 0 nh H9) (fun q9 => sL ≤ q9) (fun v9 H9 => v9 = none ∧ At G x (.inr (6, rdF (-4) (nI s9) bk tx 1000 (nI s9) (nI (te bf n s9)) (va bf n s9) fg fs fc)) H9 ∧ At G tx (bA G n (sB bf)) H9) := by
  refine Wr.ofW (by decide) (Nat.le_of_ble_eq_true rfl) (fun p e s m below meth c ls E hG hE hP hr hk hin hl => ?_)
  have hS : va_S (fun q9 => sL ≤ q9) s.heap s.heap [] := va_S.rf
  have hx := E.1
  have hb := E.2.1
  have hl : lv_has ls 2 [(0, .ref x)] := hl
  obtain ⟨hz0, f_x, f_tx, hB0⟩ := hP
  have hEx : EFA G x := Nat.le_trans hzL hxL
  have hLz : sL ≤ sz := by have := va_at.lt f_x; omega
  have hEA : ∀ q9, sL ≤ q9 → EFA G q9 := fun q9 h9 => Nat.le_trans hzL h9
  have hfm : ∀ q : Nat, q < sz → q ≠ x → s.heap[q]? = s.heap[q]? := fun q9 _ _ => rfl
  have hsz : sz ≤ s.heap.size := Nat.le_of_eq hz0.symm
  have hlx0 := va_at.lt f_x
  have hlt0 := va_at.lt f_tx
  obtain ⟨ca, ho, fe, cr, pr, cA, pA, k1, k2, k3, k4, k5, k6, k7, k8⟩ := id hB0
  refine lv_aload_n hx hb dX6_readCredit_0 rfl (lv_at hl 0 rfl) ?_
  refine gf_X6_28 E hG f_x rfl dX6_readCredit_1 ?_
  refine gf_X6_105 E hG (kfm k1 hz0 hfm) rfl dX6_readCredit_4 ?_
  refine g_len (t0 := 4) (v := (nI nc)) E hG (kfm k4 hz0 hfm) rfl rfl dX6_readCredit_7 ?_
  refine lv_bipush (v := 12) hx hb dX6_readCredit_8 rfl ?_
  refine lv_icmp_lt (tgt := 20) hx hb dX6_readCredit_10 (by decide) (fun c_10 => ?_) (fun c_10 => ?_)
  · exact (by rw [hc9] at c_10; exact absurd c_10 (by decide))
  · refine lv_aload_n hx hb dX6_readCredit_13 rfl (lv_at hl 0 rfl) ?_
    refine lv_bipush (v := (-4)) hx hb dX6_readCredit_14 rfl ?_
    refine Wr.callV (rest := []) (c_X6_fail l G hEx (-4) rfl) yk_X6_fail E km_X6_65 dX6_readCredit_16 hG (hE.S hS hEA) f_x (At.recv hG f_x rfl) rfl rfl hl.1 ⟨Nat.le_of_ble_eq_true rfl, Nat.le_of_ble_eq_true rfl⟩ ⟨(show 0 + 0 ≤ 0 by omega), (show 0 + 0 ≤ 0 by omega)⟩ (Nat.le_of_ble_eq_true rfl) hS (fun q9 h9 => by rw [h9]; exact hxL) (fun v9 H locs hq hz9 hfr9 hS => ?_)
    have f_tx : At G tx (.inl (G.2.1 0, n, .inl (sB bf))) H := va_at.kept f_tx (hfr9 _ (va_at.lt f_tx) ne_tx_x)
    have hfm : ∀ q : Nat, q < sz → q ≠ x → H[q]? = s.heap[q]? := fun q9 h9 h8 => (hfr9 q9 (Nat.lt_of_lt_of_le h9 hsz) h8).trans (hfm q9 h9 h8)
    have hsz : sz ≤ H.size := Nat.le_trans hsz hz9
    obtain ⟨rfl, f_x⟩ := hq
    exact wr_void E hr hk hS (show 0 + 0 ≤ 0 by omega) (show 0 + 0 ≤ 0 by omega) (⟨rfl, f_x, f_tx⟩) dX6_readCredit_19

set_option maxHeartbeats 4000000 in
set_option maxRecDepth 100000 in
/-- readCredit -/
theorem c_X6_readCredit (l : Launch) (G : CG) {sL sz x bk tx fs : Nat} {fg fc : Int32} {bf : Nat → Int32} (hB : ByO bf) (n : Nat) (hn9 : n ≤ 900) (hzL : EFA G sL) (hxL : sL ≤ x) (htL : sL ≤ tx) (ne_tx_x : tx ≠ x) (s9 : Nat) (hs9 : s9 ≤ n) {d : Nat → Int32} {nc nh : Nat} (hh : nh ≤ 16) (hc9 : nc < 12) : Wr l yX6_readCredit cX6_readCredit 2 ((Option.none : Option FieldType)) 6 129 3 29 G [.ref x] (fun H9 => H9.size = sz ∧ At G x (.inr (6, rdF 0 (-1) bk tx (kd bf n s9) (nI s9) (nI (te bf n s9)) (va bf n s9) fg fs fc)) H9 ∧ At G tx (bA G n (sB bf)) H9 ∧ BK G (AL sL x tx) bk d nc 0 nh H9) (fun q9 => sL ≤ q9) (fun v9 H9 => v9 = none ∧ ∃ er es ki st en vv bk1, At G x (.inr (6, rdF er es bk1 tx ki st en vv fg fs fc)) H9 ∧ At G tx (bA G n (sB bf)) H9 ∧ TK bf n (pl (cdF bf n (spc bf n (te bf n s9)))) er es ki st en vv ∧ ∀ s8 L8, (cdF bf n (spc bf n (te bf n s9))) = .ok (s8, L8) → BK G (AL sL x tx) bk1 (crD d nc L8) (nc + 1) 0 nh H9) := by
  refine Wr.ofW (by decide) (Nat.le_of_ble_eq_true rfl) (fun p e s m below meth c ls E hG hE hP hr hk hin hl => ?_)
  have hS : va_S (fun q9 => sL ≤ q9) s.heap s.heap [] := va_S.rf
  have hx := E.1
  have hb := E.2.1
  have hl : lv_has ls 2 [(0, .ref x)] := hl
  obtain ⟨hz0, f_x, f_tx, hB0⟩ := hP
  have hEx : EFA G x := Nat.le_trans hzL hxL
  have hLz : sL ≤ sz := by have := va_at.lt f_x; omega
  have hEA : ∀ q9, sL ≤ q9 → EFA G q9 := fun q9 h9 => Nat.le_trans hzL h9
  have hfm : ∀ q : Nat, q < sz → q ≠ x → s.heap[q]? = s.heap[q]? := fun q9 _ _ => rfl
  have hsz : sz ≤ s.heap.size := Nat.le_of_eq hz0.symm
  have hlx0 := va_at.lt f_x
  have hlt0 := va_at.lt f_tx
  obtain ⟨ca, ho, fe, cr, pr, cA, pA, k1, k2, k3, k4, k5, k6, k7, k8⟩ := id hB0
  have htb := te_b hB hs9
  have hsb := sk_b (bf := bf) htb.2
  refine lv_aload_n hx hb dX6_readCredit_0 rfl (lv_at hl 0 rfl) ?_
  refine gf_X6_28 E hG f_x rfl dX6_readCredit_1 ?_
  refine gf_X6_105 E hG (kfm k1 hz0 hfm) rfl dX6_readCredit_4 ?_
  refine g_len (t0 := 4) (v := (nI nc)) E hG (kfm k4 hz0 hfm) rfl rfl dX6_readCredit_7 ?_
  refine lv_bipush (v := 12) hx hb dX6_readCredit_8 rfl ?_
  refine lv_icmp_lt (tgt := 20) hx hb dX6_readCredit_10 (by decide) (fun c_10 => ?_) (fun c_10 => ?_)
  rotate_left
  · exact absurd ((nLT (x := nI nc) (y := 12) (a := nc) (b := 12) rfl rfl (by omega) (by omega)).mpr hc9) c_10
  refine lv_aload_n hx hb dX6_readCredit_20 rfl (lv_at hl 0 rfl) ?_
  refine Wr.callV (rest := []) (c_X6_nextToken l G hB n hn9 hEx ne_tx_x (te bf n s9) (by omega)) yk_X6_nextToken E km_X6_36 dX6_readCredit_21 hG (hE.S hS hEA) ⟨f_x, f_tx⟩ (At.recv hG f_x rfl) rfl rfl hl.1 ⟨Nat.le_of_ble_eq_true rfl, Nat.le_of_ble_eq_true rfl⟩ ⟨(show 0 + 0 ≤ 3 by omega), (show 0 + 0 ≤ 29 by omega)⟩ (Nat.le_of_ble_eq_true rfl) hS (fun q9 h9 => by rw [h9]; exact hxL) (fun v9 H locs hq hz9 hfr9 hS => ?_)
  have f_tx : At G tx (.inl (G.2.1 0, n, .inl (sB bf))) H := va_at.kept f_tx (hfr9 _ (va_at.lt f_tx) ne_tx_x)
  have hfm : ∀ q : Nat, q < sz → q ≠ x → H[q]? = s.heap[q]? := fun q9 h9 h8 => (hfr9 q9 (Nat.lt_of_lt_of_le h9 hsz) h8).trans (hfm q9 h9 h8)
  have hsz : sz ≤ H.size := Nat.le_trans hsz hz9
  obtain ⟨rfl, er, es, ki, st, en, vv, f_x, hTK⟩ := hq
  refine n_new (ci := 2) (fs := [.int 0, .int 0, .int 0, .int 0, .int 0, .int 0, .int 0, .int 0, .int 0, .int 0, .int 0, .int 0]) (ty := tyX2) inX2 tyX2_ok rfl kl_X6_109 kn_X2 kin_X2 df_X2 E hG hS (Nat.le_of_eq hz0.symm) (show 0 + 0 + 1 ≤ 3 by omega) (show 0 + 0 + 12 ≤ 29 by omega) dX6_readCredit_24 (fun b_1 H hb_1 hg_1 f_1 hz oq hS => ?_)
  have ne_x_b_1 : x ≠ b_1 := fun z9 => absurd (va_at.lt f_x) (by rw [z9, hb_1]; exact Nat.lt_irrefl _)
  have ne_tx_b_1 : tx ≠ b_1 := fun z9 => absurd (va_at.lt f_tx) (by rw [z9, hb_1]; exact Nat.lt_irrefl _)
  have f_x : At G x (.inr (6, [.int er, .int es, .ref bk, .ref tx, .int ki, .int st, .int en, .int vv, .int fg, .ref fs, .int fc])) H := olt f_x oq
  have f_tx : At G tx (.inl (G.2.1 0, n, .inl (sB bf))) H := olt f_tx oq
  have hfm : ∀ q : Nat, q < sz → q ≠ x → H[q]? = s.heap[q]? := fun q9 h9 h8 => (oq q9 (by have := hg_1; have := hb_1; omega)).trans (hfm q9 h9 h8)
  have hsz : sz ≤ H.size := by omega
  refine lv_dup hx hb dX6_readCredit_27 rfl ?_
  refine lv_aload_n hx hb dX6_readCredit_28 rfl (lv_at hl 0 rfl) ?_
  refine gf_X6_28 E hG f_x rfl dX6_readCredit_29 ?_
  refine gf_X6_105 E hG (kfm k1 hz0 hfm) rfl dX6_readCredit_32 ?_
  refine g_len (t0 := 4) (v := (nI nc)) E hG (kfm k4 hz0 hfm) rfl rfl dX6_readCredit_35 ?_
  refine lv_iconst (v := (-1)) hx hb dX6_readCredit_36 rfl ?_
  refine Wr.callI (rest := [.ref b_1]) (c_X2_init l G (nI nc) (-1)) yk_X2_init E km_X6_111 dX6_readCredit_37 hG (hE.S hS hEA) f_1 rfl rfl hl.1 ⟨Nat.le_of_ble_eq_true rfl, Nat.le_of_ble_eq_true rfl⟩ ⟨(show 0 + 0 + 1 + 0 ≤ 3 by omega), (show 0 + 0 + 12 + 0 ≤ 29 by omega)⟩ (Nat.le_of_ble_eq_true rfl) hS (fun q9 h9 => by rw [h9]; exact (Nat.le_trans hLz hg_1)) (fun v9 H locs hq hz9 hfr9 hS => ?_)
  have f_x : At G x (.inr (6, [.int er, .int es, .ref bk, .ref tx, .int ki, .int st, .int en, .int vv, .int fg, .ref fs, .int fc])) H := va_at.kept f_x (hfr9 _ (va_at.lt f_x) ne_x_b_1)
  have f_tx : At G tx (.inl (G.2.1 0, n, .inl (sB bf))) H := va_at.kept f_tx (hfr9 _ (va_at.lt f_tx) ne_tx_b_1)
  have hfm : ∀ q : Nat, q < sz → q ≠ x → H[q]? = s.heap[q]? := fun q9 h9 h8 => (hfr9 q9 (Nat.lt_of_lt_of_le h9 hsz) (fun z9 => by have := hg_1; omega)).trans (hfm q9 h9 h8)
  have hsz : sz ≤ H.size := Nat.le_trans hsz hz9
  obtain ⟨rfl, f_1⟩ := hq
  refine lv_astore_n (lv' := [(1, .ref b_1), (0, .ref x)]) hx hb dX6_readCredit_40 rfl hl (by decide) rfl (fun ls hl => ?_)
  refine lv_aload_n hx hb dX6_readCredit_41 rfl (lv_at hl 0 rfl) ?_
  refine lv_aload_n hx hb dX6_readCredit_42 rfl (lv_at hl 1 rfl) ?_
  refine lv_iconst (v := 1) hx hb dX6_readCredit_43 rfl ?_
  refine lv_ldc (v := 999999) hx hb E.2.2.2.1 (E.2.2.2.2 _ kk_X6_114) dX6_readCredit_44 ?_
  refine Wr.callV (rest := [.ref b_1]) (c_X6_readNumber_u l G hB n hn9 hEx ne_tx_x (.ok (spc bf n (te bf n s9), [])) hTK 1 999999 ⟨1, 999999, rfl, rfl, by decide, by decide⟩) yk_X6_readNumber E km_X6_115 dX6_readCredit_46 hG (hE.S hS hEA) ⟨f_x, f_tx⟩ (At.recv hG f_x rfl) rfl rfl hl.1 ⟨Nat.le_of_ble_eq_true rfl, Nat.le_of_ble_eq_true rfl⟩ ⟨(show 0 + 0 + 1 + 0 + 0 ≤ 3 by omega), (show 0 + 0 + 12 + 0 + 0 ≤ 29 by omega)⟩ (Nat.le_of_ble_eq_true rfl) hS (fun q9 h9 => by rw [h9]; exact hxL) (fun v9 H locs hq hz9 hfr9 hS => ?_)
  have f_tx : At G tx (.inl (G.2.1 0, n, .inl (sB bf))) H := va_at.kept f_tx (hfr9 _ (va_at.lt f_tx) ne_tx_x)
  have f_1 : At G b_1 (.inr (2, [.int (nI nc), .int (-1), .int 0, .int 0, .int 0, .int 0, .int 0, .int 0, .int 0, .int 0, .int 0, .int 0])) H := va_at.kept f_1 (hfr9 _ (va_at.lt f_1) (Ne.symm ne_x_b_1))
  have hfm : ∀ q : Nat, q < sz → q ≠ x → H[q]? = s.heap[q]? := fun q9 h9 h8 => (hfr9 q9 (Nat.lt_of_lt_of_le h9 hsz) h8).trans (hfm q9 h9 h8)
  have hsz : sz ≤ H.size := Nat.le_trans hsz hz9
  obtain ⟨v_1, er, es, ki, st, en, vv, rfl, f_x, hTK, hv_1⟩ := hq
  refine pf_X6_119 E hG f_1 (Nat.le_of_ble_eq_true rfl) rfl rfl hS (Nat.le_trans hLz hg_1) dX6_readCredit_49 (fun H locs f_1 hz oq hS => ?_)
  have f_x : At G x (.inr (6, [.int er, .int es, .ref bk, .ref tx, .int ki, .int st, .int en, .int vv, .int fg, .ref fs, .int fc])) H := oth f_x ne_x_b_1 oq
  have f_tx : At G tx (.inl (G.2.1 0, n, .inl (sB bf))) H := oth f_tx ne_tx_b_1 oq
  have f_1 : At G b_1 (.inr (2, [.int (nI nc), .int (-1), .int v_1, .int 0, .int 0, .int 0, .int 0, .int 0, .int 0, .int 0, .int 0, .int 0])) H := f_1
  have hfm : ∀ q : Nat, q < sz → q ≠ x → H[q]? = s.heap[q]? := fun q9 h9 h8 => (oq q9 (fun z9 => by have := hg_1; omega)).trans (hfm q9 h9 h8)
  have hsz : sz ≤ H.size := by omega
  refine lv_aload_n hx hb dX6_readCredit_52 rfl (lv_at hl 0 rfl) ?_
  refine lv_aload_n hx hb dX6_readCredit_53 rfl (lv_at hl 1 rfl) ?_
  refine lv_iconst (v := 0) hx hb dX6_readCredit_54 rfl ?_
  refine lv_bipush (v := 10) hx hb dX6_readCredit_55 rfl ?_
  refine Wr.callV (rest := [.ref b_1]) (c_X6_readNumber_u l G hB n hn9 hEx ne_tx_x (nbL bf n 1 999999 (.ok (spc bf n (te bf n s9), []))) hTK 0 10 ⟨0, 10, rfl, rfl, by decide, by decide⟩) yk_X6_readNumber E km_X6_115 dX6_readCredit_57 hG (hE.S hS hEA) ⟨f_x, f_tx⟩ (At.recv hG f_x rfl) rfl rfl hl.1 ⟨Nat.le_of_ble_eq_true rfl, Nat.le_of_ble_eq_true rfl⟩ ⟨(show 0 + 0 + 1 + 0 + 0 + 0 ≤ 3 by omega), (show 0 + 0 + 12 + 0 + 0 + 0 ≤ 29 by omega)⟩ (Nat.le_of_ble_eq_true rfl) hS (fun q9 h9 => by rw [h9]; exact hxL) (fun v9 H locs hq hz9 hfr9 hS => ?_)
  have f_tx : At G tx (.inl (G.2.1 0, n, .inl (sB bf))) H := va_at.kept f_tx (hfr9 _ (va_at.lt f_tx) ne_tx_x)
  have f_1 : At G b_1 (.inr (2, [.int (nI nc), .int (-1), .int v_1, .int 0, .int 0, .int 0, .int 0, .int 0, .int 0, .int 0, .int 0, .int 0])) H := va_at.kept f_1 (hfr9 _ (va_at.lt f_1) (Ne.symm ne_x_b_1))
  have hfm : ∀ q : Nat, q < sz → q ≠ x → H[q]? = s.heap[q]? := fun q9 h9 h8 => (hfr9 q9 (Nat.lt_of_lt_of_le h9 hsz) h8).trans (hfm q9 h9 h8)
  have hsz : sz ≤ H.size := Nat.le_trans hsz hz9
  obtain ⟨v_2, er, es, ki, st, en, vv, rfl, f_x, hTK, hv_2⟩ := hq
  refine pf_X6_122 E hG f_1 (Nat.le_of_ble_eq_true rfl) rfl rfl hS (Nat.le_trans hLz hg_1) dX6_readCredit_60 (fun H locs f_1 hz oq hS => ?_)
  have f_x : At G x (.inr (6, [.int er, .int es, .ref bk, .ref tx, .int ki, .int st, .int en, .int vv, .int fg, .ref fs, .int fc])) H := oth f_x ne_x_b_1 oq
  have f_tx : At G tx (.inl (G.2.1 0, n, .inl (sB bf))) H := oth f_tx ne_tx_b_1 oq
  have f_1 : At G b_1 (.inr (2, [.int (nI nc), .int (-1), .int v_1, .int v_2, .int 0, .int 0, .int 0, .int 0, .int 0, .int 0, .int 0, .int 0])) H := f_1
  have hfm : ∀ q : Nat, q < sz → q ≠ x → H[q]? = s.heap[q]? := fun q9 h9 h8 => (oq q9 (fun z9 => by have := hg_1; omega)).trans (hfm q9 h9 h8)
  have hsz : sz ≤ H.size := by omega
  refine lv_aload_n hx hb dX6_readCredit_63 rfl (lv_at hl 0 rfl) ?_
  refine lv_aload_n hx hb dX6_readCredit_64 rfl (lv_at hl 1 rfl) ?_
  refine lv_iconst (v := 0) hx hb dX6_readCredit_65 rfl ?_
  refine lv_bipush (v := 10) hx hb dX6_readCredit_66 rfl ?_
  refine Wr.callV (rest := [.ref b_1]) (c_X6_readNumber_u l G hB n hn9 hEx ne_tx_x (nbL bf n 0 10 (nbL bf n 1 999999 (.ok (spc bf n (te bf n s9), [])))) hTK 0 10 ⟨0, 10, rfl, rfl, by decide, by decide⟩) yk_X6_readNumber E km_X6_115 dX6_readCredit_68 hG (hE.S hS hEA) ⟨f_x, f_tx⟩ (At.recv hG f_x rfl) rfl rfl hl.1 ⟨Nat.le_of_ble_eq_true rfl, Nat.le_of_ble_eq_true rfl⟩ ⟨(show 0 + 0 + 1 + 0 + 0 + 0 + 0 ≤ 3 by omega), (show 0 + 0 + 12 + 0 + 0 + 0 + 0 ≤ 29 by omega)⟩ (Nat.le_of_ble_eq_true rfl) hS (fun q9 h9 => by rw [h9]; exact hxL) (fun v9 H locs hq hz9 hfr9 hS => ?_)
  have f_tx : At G tx (.inl (G.2.1 0, n, .inl (sB bf))) H := va_at.kept f_tx (hfr9 _ (va_at.lt f_tx) ne_tx_x)
  have f_1 : At G b_1 (.inr (2, [.int (nI nc), .int (-1), .int v_1, .int v_2, .int 0, .int 0, .int 0, .int 0, .int 0, .int 0, .int 0, .int 0])) H := va_at.kept f_1 (hfr9 _ (va_at.lt f_1) (Ne.symm ne_x_b_1))
  have hfm : ∀ q : Nat, q < sz → q ≠ x → H[q]? = s.heap[q]? := fun q9 h9 h8 => (hfr9 q9 (Nat.lt_of_lt_of_le h9 hsz) h8).trans (hfm q9 h9 h8)
  have hsz : sz ≤ H.size := Nat.le_trans hsz hz9
  obtain ⟨v_3, er, es, ki, st, en, vv, rfl, f_x, hTK, hv_3⟩ := hq
  refine pf_X6_125 E hG f_1 (Nat.le_of_ble_eq_true rfl) rfl rfl hS (Nat.le_trans hLz hg_1) dX6_readCredit_71 (fun H locs f_1 hz oq hS => ?_)
  have f_x : At G x (.inr (6, [.int er, .int es, .ref bk, .ref tx, .int ki, .int st, .int en, .int vv, .int fg, .ref fs, .int fc])) H := oth f_x ne_x_b_1 oq
  have f_tx : At G tx (.inl (G.2.1 0, n, .inl (sB bf))) H := oth f_tx ne_tx_b_1 oq
  have f_1 : At G b_1 (.inr (2, [.int (nI nc), .int (-1), .int v_1, .int v_2, .int v_3, .int 0, .int 0, .int 0, .int 0, .int 0, .int 0, .int 0])) H := f_1
  have hfm : ∀ q : Nat, q < sz → q ≠ x → H[q]? = s.heap[q]? := fun q9 h9 h8 => (oq q9 (fun z9 => by have := hg_1; omega)).trans (hfm q9 h9 h8)
  have hsz : sz ≤ H.size := by omega
  refine lv_aload_n hx hb dX6_readCredit_74 rfl (lv_at hl 0 rfl) ?_
  refine lv_aload_n hx hb dX6_readCredit_75 rfl (lv_at hl 1 rfl) ?_
  refine lv_iconst (v := 0) hx hb dX6_readCredit_76 rfl ?_
  refine lv_sipush (v := 999) hx hb dX6_readCredit_77 rfl ?_
  refine Wr.callV (rest := [.ref b_1]) (c_X6_readNumber_u l G hB n hn9 hEx ne_tx_x (nbL bf n 0 10 (nbL bf n 0 10 (nbL bf n 1 999999 (.ok (spc bf n (te bf n s9), []))))) hTK 0 999 ⟨0, 999, rfl, rfl, by decide, by decide⟩) yk_X6_readNumber E km_X6_115 dX6_readCredit_80 hG (hE.S hS hEA) ⟨f_x, f_tx⟩ (At.recv hG f_x rfl) rfl rfl hl.1 ⟨Nat.le_of_ble_eq_true rfl, Nat.le_of_ble_eq_true rfl⟩ ⟨(show 0 + 0 + 1 + 0 + 0 + 0 + 0 + 0 ≤ 3 by omega), (show 0 + 0 + 12 + 0 + 0 + 0 + 0 + 0 ≤ 29 by omega)⟩ (Nat.le_of_ble_eq_true rfl) hS (fun q9 h9 => by rw [h9]; exact hxL) (fun v9 H locs hq hz9 hfr9 hS => ?_)
  have f_tx : At G tx (.inl (G.2.1 0, n, .inl (sB bf))) H := va_at.kept f_tx (hfr9 _ (va_at.lt f_tx) ne_tx_x)
  have f_1 : At G b_1 (.inr (2, [.int (nI nc), .int (-1), .int v_1, .int v_2, .int v_3, .int 0, .int 0, .int 0, .int 0, .int 0, .int 0, .int 0])) H := va_at.kept f_1 (hfr9 _ (va_at.lt f_1) (Ne.symm ne_x_b_1))
  have hfm : ∀ q : Nat, q < sz → q ≠ x → H[q]? = s.heap[q]? := fun q9 h9 h8 => (hfr9 q9 (Nat.lt_of_lt_of_le h9 hsz) h8).trans (hfm q9 h9 h8)
  have hsz : sz ≤ H.size := Nat.le_trans hsz hz9
  obtain ⟨v_4, er, es, ki, st, en, vv, rfl, f_x, hTK, hv_4⟩ := hq
  refine pf_X6_128 E hG f_1 (Nat.le_of_ble_eq_true rfl) rfl rfl hS (Nat.le_trans hLz hg_1) dX6_readCredit_83 (fun H locs f_1 hz oq hS => ?_)
  have f_x : At G x (.inr (6, [.int er, .int es, .ref bk, .ref tx, .int ki, .int st, .int en, .int vv, .int fg, .ref fs, .int fc])) H := oth f_x ne_x_b_1 oq
  have f_tx : At G tx (.inl (G.2.1 0, n, .inl (sB bf))) H := oth f_tx ne_tx_b_1 oq
  have f_1 : At G b_1 (.inr (2, [.int (nI nc), .int (-1), .int v_1, .int v_2, .int v_3, .int v_4, .int 0, .int 0, .int 0, .int 0, .int 0, .int 0])) H := f_1
  have hfm : ∀ q : Nat, q < sz → q ≠ x → H[q]? = s.heap[q]? := fun q9 h9 h8 => (oq q9 (fun z9 => by have := hg_1; omega)).trans (hfm q9 h9 h8)
  have hsz : sz ≤ H.size := by omega
  refine lv_aload_n hx hb dX6_readCredit_86 rfl (lv_at hl 0 rfl) ?_
  refine lv_aload_n hx hb dX6_readCredit_87 rfl (lv_at hl 1 rfl) ?_
  refine lv_iconst (v := 0) hx hb dX6_readCredit_88 rfl ?_
  refine lv_sipush (v := 999) hx hb dX6_readCredit_89 rfl ?_
  refine Wr.callV (rest := [.ref b_1]) (c_X6_readNumber_u l G hB n hn9 hEx ne_tx_x (nbL bf n 0 999 (nbL bf n 0 10 (nbL bf n 0 10 (nbL bf n 1 999999 (.ok (spc bf n (te bf n s9), [])))))) hTK 0 999 ⟨0, 999, rfl, rfl, by decide, by decide⟩) yk_X6_readNumber E km_X6_115 dX6_readCredit_92 hG (hE.S hS hEA) ⟨f_x, f_tx⟩ (At.recv hG f_x rfl) rfl rfl hl.1 ⟨Nat.le_of_ble_eq_true rfl, Nat.le_of_ble_eq_true rfl⟩ ⟨(show 0 + 0 + 1 + 0 + 0 + 0 + 0 + 0 + 0 ≤ 3 by omega), (show 0 + 0 + 12 + 0 + 0 + 0 + 0 + 0 + 0 ≤ 29 by omega)⟩ (Nat.le_of_ble_eq_true rfl) hS (fun q9 h9 => by rw [h9]; exact hxL) (fun v9 H locs hq hz9 hfr9 hS => ?_)
  have f_tx : At G tx (.inl (G.2.1 0, n, .inl (sB bf))) H := va_at.kept f_tx (hfr9 _ (va_at.lt f_tx) ne_tx_x)
  have f_1 : At G b_1 (.inr (2, [.int (nI nc), .int (-1), .int v_1, .int v_2, .int v_3, .int v_4, .int 0, .int 0, .int 0, .int 0, .int 0, .int 0])) H := va_at.kept f_1 (hfr9 _ (va_at.lt f_1) (Ne.symm ne_x_b_1))
  have hfm : ∀ q : Nat, q < sz → q ≠ x → H[q]? = s.heap[q]? := fun q9 h9 h8 => (hfr9 q9 (Nat.lt_of_lt_of_le h9 hsz) h8).trans (hfm q9 h9 h8)
  have hsz : sz ≤ H.size := Nat.le_trans hsz hz9
  obtain ⟨v_5, er, es, ki, st, en, vv, rfl, f_x, hTK, hv_5⟩ := hq
  refine pf_X6_131 E hG f_1 (Nat.le_of_ble_eq_true rfl) rfl rfl hS (Nat.le_trans hLz hg_1) dX6_readCredit_95 (fun H locs f_1 hz oq hS => ?_)
  have f_x : At G x (.inr (6, [.int er, .int es, .ref bk, .ref tx, .int ki, .int st, .int en, .int vv, .int fg, .ref fs, .int fc])) H := oth f_x ne_x_b_1 oq
  have f_tx : At G tx (.inl (G.2.1 0, n, .inl (sB bf))) H := oth f_tx ne_tx_b_1 oq
  have f_1 : At G b_1 (.inr (2, [.int (nI nc), .int (-1), .int v_1, .int v_2, .int v_3, .int v_4, .int v_5, .int 0, .int 0, .int 0, .int 0, .int 0])) H := f_1
  have hfm : ∀ q : Nat, q < sz → q ≠ x → H[q]? = s.heap[q]? := fun q9 h9 h8 => (oq q9 (fun z9 => by have := hg_1; omega)).trans (hfm q9 h9 h8)
  have hsz : sz ≤ H.size := by omega
  refine lv_aload_n hx hb dX6_readCredit_98 rfl (lv_at hl 0 rfl) ?_
  refine lv_aload_n hx hb dX6_readCredit_99 rfl (lv_at hl 1 rfl) ?_
  refine lv_iconst (v := 1) hx hb dX6_readCredit_100 rfl ?_
  refine lv_bipush (v := 60) hx hb dX6_readCredit_101 rfl ?_
  refine Wr.callV (rest := [.ref b_1]) (c_X6_readNumber_u l G hB n hn9 hEx ne_tx_x (nbL bf n 0 999 (nbL bf n 0 999 (nbL bf n 0 10 (nbL bf n 0 10 (nbL bf n 1 999999 (.ok (spc bf n (te bf n s9), []))))))) hTK 1 60 ⟨1, 60, rfl, rfl, by decide, by decide⟩) yk_X6_readNumber E km_X6_115 dX6_readCredit_103 hG (hE.S hS hEA) ⟨f_x, f_tx⟩ (At.recv hG f_x rfl) rfl rfl hl.1 ⟨Nat.le_of_ble_eq_true rfl, Nat.le_of_ble_eq_true rfl⟩ ⟨(show 0 + 0 + 1 + 0 + 0 + 0 + 0 + 0 + 0 + 0 ≤ 3 by omega), (show 0 + 0 + 12 + 0 + 0 + 0 + 0 + 0 + 0 + 0 ≤ 29 by omega)⟩ (Nat.le_of_ble_eq_true rfl) hS (fun q9 h9 => by rw [h9]; exact hxL) (fun v9 H locs hq hz9 hfr9 hS => ?_)
  have f_tx : At G tx (.inl (G.2.1 0, n, .inl (sB bf))) H := va_at.kept f_tx (hfr9 _ (va_at.lt f_tx) ne_tx_x)
  have f_1 : At G b_1 (.inr (2, [.int (nI nc), .int (-1), .int v_1, .int v_2, .int v_3, .int v_4, .int v_5, .int 0, .int 0, .int 0, .int 0, .int 0])) H := va_at.kept f_1 (hfr9 _ (va_at.lt f_1) (Ne.symm ne_x_b_1))
  have hfm : ∀ q : Nat, q < sz → q ≠ x → H[q]? = s.heap[q]? := fun q9 h9 h8 => (hfr9 q9 (Nat.lt_of_lt_of_le h9 hsz) h8).trans (hfm q9 h9 h8)
  have hsz : sz ≤ H.size := Nat.le_trans hsz hz9
  obtain ⟨v_6, er, es, ki, st, en, vv, rfl, f_x, hTK, hv_6⟩ := hq
  refine pf_X6_134 E hG f_1 (Nat.le_of_ble_eq_true rfl) rfl rfl hS (Nat.le_trans hLz hg_1) dX6_readCredit_106 (fun H locs f_1 hz oq hS => ?_)
  have f_x : At G x (.inr (6, [.int er, .int es, .ref bk, .ref tx, .int ki, .int st, .int en, .int vv, .int fg, .ref fs, .int fc])) H := oth f_x ne_x_b_1 oq
  have f_tx : At G tx (.inl (G.2.1 0, n, .inl (sB bf))) H := oth f_tx ne_tx_b_1 oq
  have f_1 : At G b_1 (.inr (2, [.int (nI nc), .int (-1), .int v_1, .int v_2, .int v_3, .int v_4, .int v_5, .int v_6, .int 0, .int 0, .int 0, .int 0])) H := f_1
  have hfm : ∀ q : Nat, q < sz → q ≠ x → H[q]? = s.heap[q]? := fun q9 h9 h8 => (oq q9 (fun z9 => by have := hg_1; omega)).trans (hfm q9 h9 h8)
  have hsz : sz ≤ H.size := by omega
  refine lv_aload_n hx hb dX6_readCredit_109 rfl (lv_at hl 0 rfl) ?_
  refine lv_aload_n hx hb dX6_readCredit_110 rfl (lv_at hl 1 rfl) ?_
  refine lv_iconst (v := 0) hx hb dX6_readCredit_111 rfl ?_
  refine lv_sipush (v := 180) hx hb dX6_readCredit_112 rfl ?_
  refine Wr.callV (rest := [.ref b_1]) (c_X6_readNumber_u l G hB n hn9 hEx ne_tx_x (nbL bf n 1 60 (nbL bf n 0 999 (nbL bf n 0 999 (nbL bf n 0 10 (nbL bf n 0 10 (nbL bf n 1 999999 (.ok (spc bf n (te bf n s9), [])))))))) hTK 0 180 ⟨0, 180, rfl, rfl, by decide, by decide⟩) yk_X6_readNumber E km_X6_115 dX6_readCredit_115 hG (hE.S hS hEA) ⟨f_x, f_tx⟩ (At.recv hG f_x rfl) rfl rfl hl.1 ⟨Nat.le_of_ble_eq_true rfl, Nat.le_of_ble_eq_true rfl⟩ ⟨(show 0 + 0 + 1 + 0 + 0 + 0 + 0 + 0 + 0 + 0 + 0 ≤ 3 by omega), (show 0 + 0 + 12 + 0 + 0 + 0 + 0 + 0 + 0 + 0 + 0 ≤ 29 by omega)⟩ (Nat.le_of_ble_eq_true rfl) hS (fun q9 h9 => by rw [h9]; exact hxL) (fun v9 H locs hq hz9 hfr9 hS => ?_)
  have f_tx : At G tx (.inl (G.2.1 0, n, .inl (sB bf))) H := va_at.kept f_tx (hfr9 _ (va_at.lt f_tx) ne_tx_x)
  have f_1 : At G b_1 (.inr (2, [.int (nI nc), .int (-1), .int v_1, .int v_2, .int v_3, .int v_4, .int v_5, .int v_6, .int 0, .int 0, .int 0, .int 0])) H := va_at.kept f_1 (hfr9 _ (va_at.lt f_1) (Ne.symm ne_x_b_1))
  have hfm : ∀ q : Nat, q < sz → q ≠ x → H[q]? = s.heap[q]? := fun q9 h9 h8 => (hfr9 q9 (Nat.lt_of_lt_of_le h9 hsz) h8).trans (hfm q9 h9 h8)
  have hsz : sz ≤ H.size := Nat.le_trans hsz hz9
  obtain ⟨v_7, er, es, ki, st, en, vv, rfl, f_x, hTK, hv_7⟩ := hq
  refine pf_X6_137 E hG f_1 (Nat.le_of_ble_eq_true rfl) rfl rfl hS (Nat.le_trans hLz hg_1) dX6_readCredit_118 (fun H locs f_1 hz oq hS => ?_)
  have f_x : At G x (.inr (6, [.int er, .int es, .ref bk, .ref tx, .int ki, .int st, .int en, .int vv, .int fg, .ref fs, .int fc])) H := oth f_x ne_x_b_1 oq
  have f_tx : At G tx (.inl (G.2.1 0, n, .inl (sB bf))) H := oth f_tx ne_tx_b_1 oq
  have f_1 : At G b_1 (.inr (2, [.int (nI nc), .int (-1), .int v_1, .int v_2, .int v_3, .int v_4, .int v_5, .int v_6, .int v_7, .int 0, .int 0, .int 0])) H := f_1
  have hfm : ∀ q : Nat, q < sz → q ≠ x → H[q]? = s.heap[q]? := fun q9 h9 h8 => (oq q9 (fun z9 => by have := hg_1; omega)).trans (hfm q9 h9 h8)
  have hsz : sz ≤ H.size := by omega
  refine lv_aload_n hx hb dX6_readCredit_121 rfl (lv_at hl 0 rfl) ?_
  refine lv_aload_n hx hb dX6_readCredit_122 rfl (lv_at hl 1 rfl) ?_
  refine va_ldcS hx hb E.2.2.2.1 (hG.2.2.2.2.2.1 (RX6, 140, "partial", 2) (by decide +kernel)) dX6_readCredit_123 ?_
  refine Wr.callV (rest := [.ref b_1]) (c_X6_tookWord_u l G hB n hn9 hEx ne_tx_x (isT_c (i := 2) (by decide)) (txt_A (i := 2) (by decide)).1 (txt_A (i := 2) (by decide)).2 (txt_L (i := 2) (by decide)) (nbL bf n 0 180 (nbL bf n 1 60 (nbL bf n 0 999 (nbL bf n 0 999 (nbL bf n 0 10 (nbL bf n 0 10 (nbL bf n 1 999999 (.ok (spc bf n (te bf n s9), []))))))))) hTK) yk_X6_tookWord E km_X6_142 dX6_readCredit_125 hG (hE.S hS hEA) ⟨f_x, f_tx⟩ (At.recv hG f_x rfl) rfl rfl hl.1 ⟨Nat.le_of_ble_eq_true rfl, Nat.le_of_ble_eq_true rfl⟩ ⟨(show 0 + 0 + 1 + 0 + 0 + 0 + 0 + 0 + 0 + 0 + 0 + 0 ≤ 3 by omega), (show 0 + 0 + 12 + 0 + 0 + 0 + 0 + 0 + 0 + 0 + 0 + 0 ≤ 29 by omega)⟩ (Nat.le_of_ble_eq_true rfl) hS (fun q9 h9 => by rw [h9]; exact hxL) (fun v9 H locs hq hz9 hfr9 hS => ?_)
  have f_tx : At G tx (.inl (G.2.1 0, n, .inl (sB bf))) H := va_at.kept f_tx (hfr9 _ (va_at.lt f_tx) ne_tx_x)
  have f_1 : At G b_1 (.inr (2, [.int (nI nc), .int (-1), .int v_1, .int v_2, .int v_3, .int v_4, .int v_5, .int v_6, .int v_7, .int 0, .int 0, .int 0])) H := va_at.kept f_1 (hfr9 _ (va_at.lt f_1) (Ne.symm ne_x_b_1))
  have hfm : ∀ q : Nat, q < sz → q ≠ x → H[q]? = s.heap[q]? := fun q9 h9 h8 => (hfr9 q9 (Nat.lt_of_lt_of_le h9 hsz) h8).trans (hfm q9 h9 h8)
  have hsz : sz ≤ H.size := Nat.le_trans hsz hz9
  obtain ⟨v_8, er, es, ki, st, en, vv, rfl, f_x, hTK, hv_8, hb_8⟩ := hq
  have hz_8 : v_8 = 0 ∨ v_8 = 1 := hb_8.elim (fun y9 => Or.inl y9.1) (fun y9 => Or.inr y9.1)
  refine pf_X6_145 E hG f_1 (Nat.le_of_ble_eq_true rfl) (nz hz_8).1 (nz hz_8).2 hS (Nat.le_trans hLz hg_1) dX6_readCredit_128 (fun H locs f_1 hz oq hS => ?_)
  have f_x : At G x (.inr (6, [.int er, .int es, .ref bk, .ref tx, .int ki, .int st, .int en, .int vv, .int fg, .ref fs, .int fc])) H := oth f_x ne_x_b_1 oq
  have f_tx : At G tx (.inl (G.2.1 0, n, .inl (sB bf))) H := oth f_tx ne_tx_b_1 oq
  have f_1 : At G b_1 (.inr (2, [.int (nI nc), .int (-1), .int v_1, .int v_2, .int v_3, .int v_4, .int v_5, .int v_6, .int v_7, .int 0, .int v_8, .int 0])) H := f_1
  have hfm : ∀ q : Nat, q < sz → q ≠ x → H[q]? = s.heap[q]? := fun q9 h9 h8 => (oq q9 (fun z9 => by have := hg_1; omega)).trans (hfm q9 h9 h8)
  have hsz : sz ≤ H.size := by omega
  refine lv_aload_n hx hb dX6_readCredit_131 rfl (lv_at hl 0 rfl) ?_
  refine lv_aload_n hx hb dX6_readCredit_132 rfl (lv_at hl 1 rfl) ?_
  refine va_ldcS hx hb E.2.2.2.1 (hG.2.2.2.2.2.1 (RX6, 147, "transferable", 3) (by decide +kernel)) dX6_readCredit_133 ?_
  refine Wr.callV (rest := [.ref b_1]) (c_X6_tookWord_u l G hB n hn9 hEx ne_tx_x (isT_c (i := 3) (by decide)) (txt_A (i := 3) (by decide)).1 (txt_A (i := 3) (by decide)).2 (txt_L (i := 3) (by decide)) (wdL bf n (txt 2) (nbL bf n 0 180 (nbL bf n 1 60 (nbL bf n 0 999 (nbL bf n 0 999 (nbL bf n 0 10 (nbL bf n 0 10 (nbL bf n 1 999999 (.ok (spc bf n (te bf n s9), [])))))))))) hTK) yk_X6_tookWord E km_X6_142 dX6_readCredit_135 hG (hE.S hS hEA) ⟨f_x, f_tx⟩ (At.recv hG f_x rfl) rfl rfl hl.1 ⟨Nat.le_of_ble_eq_true rfl, Nat.le_of_ble_eq_true rfl⟩ ⟨(show 0 + 0 + 1 + 0 + 0 + 0 + 0 + 0 + 0 + 0 + 0 + 0 + 0 ≤ 3 by omega), (show 0 + 0 + 12 + 0 + 0 + 0 + 0 + 0 + 0 + 0 + 0 + 0 + 0 ≤ 29 by omega)⟩ (Nat.le_of_ble_eq_true rfl) hS (fun q9 h9 => by rw [h9]; exact hxL) (fun v9 H locs hq hz9 hfr9 hS => ?_)
  have f_tx : At G tx (.inl (G.2.1 0, n, .inl (sB bf))) H := va_at.kept f_tx (hfr9 _ (va_at.lt f_tx) ne_tx_x)
  have f_1 : At G b_1 (.inr (2, [.int (nI nc), .int (-1), .int v_1, .int v_2, .int v_3, .int v_4, .int v_5, .int v_6, .int v_7, .int 0, .int v_8, .int 0])) H := va_at.kept f_1 (hfr9 _ (va_at.lt f_1) (Ne.symm ne_x_b_1))
  have hfm : ∀ q : Nat, q < sz → q ≠ x → H[q]? = s.heap[q]? := fun q9 h9 h8 => (hfr9 q9 (Nat.lt_of_lt_of_le h9 hsz) h8).trans (hfm q9 h9 h8)
  have hsz : sz ≤ H.size := Nat.le_trans hsz hz9
  obtain ⟨v_9, er, es, ki, st, en, vv, rfl, f_x, hTK, hv_9, hb_9⟩ := hq
  have hz_9 : v_9 = 0 ∨ v_9 = 1 := hb_9.elim (fun y9 => Or.inl y9.1) (fun y9 => Or.inr y9.1)
  refine pf_X6_149 E hG f_1 (Nat.le_of_ble_eq_true rfl) (nz hz_9).1 (nz hz_9).2 hS (Nat.le_trans hLz hg_1) dX6_readCredit_138 (fun H locs f_1 hz oq hS => ?_)
  have f_x : At G x (.inr (6, [.int er, .int es, .ref bk, .ref tx, .int ki, .int st, .int en, .int vv, .int fg, .ref fs, .int fc])) H := oth f_x ne_x_b_1 oq
  have f_tx : At G tx (.inl (G.2.1 0, n, .inl (sB bf))) H := oth f_tx ne_tx_b_1 oq
  have f_1 : At G b_1 (.inr (2, [.int (nI nc), .int (-1), .int v_1, .int v_2, .int v_3, .int v_4, .int v_5, .int v_6, .int v_7, .int 0, .int v_8, .int v_9])) H := f_1
  have hfm : ∀ q : Nat, q < sz → q ≠ x → H[q]? = s.heap[q]? := fun q9 h9 h8 => (oq q9 (fun z9 => by have := hg_1; omega)).trans (hfm q9 h9 h8)
  have hsz : sz ≤ H.size := by omega
  refine lv_aload_n hx hb dX6_readCredit_141 rfl (lv_at hl 1 rfl) ?_
  refine va_ldcS hx hb E.2.2.2.1 (hG.2.2.2.2.2.1 (RX6, 151, "needs", 4) (by decide +kernel)) dX6_readCredit_142 ?_
  refine Wr.callV (rest := []) (c_X6_tookWord_u l G hB n hn9 hEx ne_tx_x (isT_c (i := 4) (by decide)) (txt_A (i := 4) (by decide)).1 (txt_A (i := 4) (by decide)).2 (txt_L (i := 4) (by decide)) (wdL bf n (txt 3) (wdL bf n (txt 2) (nbL bf n 0 180 (nbL bf n 1 60 (nbL bf n 0 999 (nbL bf n 0 999 (nbL bf n 0 10 (nbL bf n 0 10 (nbL bf n 1 999999 (.ok (spc bf n (te bf n s9), []))))))))))) hTK) yk_X6_tookWord E km_X6_142 dX6_readCredit_144 hG (hE.S hS hEA) ⟨f_x, f_tx⟩ (At.recv hG f_x rfl) rfl rfl hl.1 ⟨Nat.le_of_ble_eq_true rfl, Nat.le_of_ble_eq_true rfl⟩ ⟨(show 0 + 0 + 1 + 0 + 0 + 0 + 0 + 0 + 0 + 0 + 0 + 0 + 0 + 0 ≤ 3 by omega), (show 0 + 0 + 12 + 0 + 0 + 0 + 0 + 0 + 0 + 0 + 0 + 0 + 0 + 0 ≤ 29 by omega)⟩ (Nat.le_of_ble_eq_true rfl) hS (fun q9 h9 => by rw [h9]; exact hxL) (fun v9 H locs hq hz9 hfr9 hS => ?_)
  have f_tx : At G tx (.inl (G.2.1 0, n, .inl (sB bf))) H := va_at.kept f_tx (hfr9 _ (va_at.lt f_tx) ne_tx_x)
  have f_1 : At G b_1 (.inr (2, [.int (nI nc), .int (-1), .int v_1, .int v_2, .int v_3, .int v_4, .int v_5, .int v_6, .int v_7, .int 0, .int v_8, .int v_9])) H := va_at.kept f_1 (hfr9 _ (va_at.lt f_1) (Ne.symm ne_x_b_1))
  have hfm : ∀ q : Nat, q < sz → q ≠ x → H[q]? = s.heap[q]? := fun q9 h9 h8 => (hfr9 q9 (Nat.lt_of_lt_of_le h9 hsz) h8).trans (hfm q9 h9 h8)
  have hsz : sz ≤ H.size := Nat.le_trans hsz hz9
  obtain ⟨v_10, er, es, ki, st, en, vv, rfl, f_x, hTK, hv_10, hb_10⟩ := hq
  have hL : ∀ sx Lx, (wdL bf n (txt 3) (wdL bf n (txt 2) (nbL bf n 0 180 (nbL bf n 1 60 (nbL bf n 0 999 (nbL bf n 0 999 (nbL bf n 0 10 (nbL bf n 0 10 (nbL bf n 1 999999 (.ok (spc bf n (te bf n s9), []))))))))))) = .ok (sx, Lx) → Lx = [v_1, v_2, v_3, v_4, v_5, v_6, v_7, v_8, v_9] := by
    intro sx Lx y_9
    obtain ⟨t_8, M_8, y_8, w_8⟩ := hv_9 _ _ y_9
    obtain ⟨t_7, M_7, y_7, w_7⟩ := hv_8 _ _ y_8
    obtain ⟨t_6, M_6, y_6, w_6, -⟩ := hv_7 _ _ y_7
    obtain ⟨t_5, M_5, y_5, w_5, -⟩ := hv_6 _ _ y_6
    obtain ⟨t_4, M_4, y_4, w_4, -⟩ := hv_5 _ _ y_5
    obtain ⟨t_3, M_3, y_3, w_3, -⟩ := hv_4 _ _ y_4
    obtain ⟨t_2, M_2, y_2, w_2, -⟩ := hv_3 _ _ y_3
    obtain ⟨t_1, M_1, y_1, w_1, -⟩ := hv_2 _ _ y_2
    obtain ⟨t_0, M_0, y_0, w_0, -⟩ := hv_1 _ _ y_1
    cases y_0
    rw [w_8, w_7, w_6, w_5, w_4, w_3, w_2, w_1, w_0]
    rfl
  rcases hb_10 with ⟨hv0, hb0⟩ | ⟨hv1, s8, L8, e8, hw8⟩
  · refine lv_if_eq (tgt := 158) hx hb dX6_readCredit_147 (by decide) (fun c_147 => ?_) (fun c_147 => ?_)
    rotate_left
    · exact (by rw [hv0] at c_147; exact absurd c_147 (by decide))
    have ef : (cdF bf n (spc bf n (te bf n s9))) = wdL bf n (txt 4) (wdL bf n (txt 3) (wdL bf n (txt 2) (nbL bf n 0 180 (nbL bf n 1 60 (nbL bf n 0 999 (nbL bf n 0 999 (nbL bf n 0 10 (nbL bf n 0 10 (nbL bf n 1 999999 (.ok (spc bf n (te bf n s9), []))))))))))) := ndL_no hb0
    refine lv_aload_n hx hb dX6_readCredit_158 rfl (lv_at hl 1 rfl) ?_
    refine lv_aload_n hx hb dX6_readCredit_159 rfl (lv_at hl 1 rfl) ?_
    refine gf_X6_28 E hG f_x rfl dX6_readCredit_160 ?_
    refine lv_aload_n hx hb dX6_readCredit_163 rfl (lv_at hl 0 rfl) ?_
    refine Wr.callV (rest := [.ref x]) (c_X0_withCredit (sz := H.size) (AO := AL sL x tx) (d := d) (d9 := (crD d nc [v_1, v_2, v_3, v_4, v_5, v_6, v_7, v_8, v_9, 0])) (nc := nc) (np := 0) (nh := nh) l G (Nat.le_trans hzL (Nat.le_trans hLz hsz)) (fun q9 h9 => by have := va_at.lt f_x; have := va_at.lt f_tx; rcases h9 with z9 | z9 | z9 <;> omega) (crD_sm hh hc9) (crD_lo (by omega) (by omega)).symm hc9) yk_X0_withCredit E km_X6_160 dX6_readCredit_164 hG (hE.S hS hEA) ⟨rfl, bk_fm hB0 hz0 hfm, by rw [crF_new]; exact f_1, al_new hg_1 hLz (by omega) (by omega)⟩ (At.recv hG (kfm k1 hz0 hfm) rfl) rfl rfl hl.1 ⟨Nat.le_of_ble_eq_true rfl, Nat.le_of_ble_eq_true rfl⟩ ⟨(show 0 + 0 + 1 + 0 + 0 + 0 + 0 + 0 + 0 + 0 + 0 + 0 + 0 + 0 + 2 ≤ 3 by omega), (show 0 + 0 + 12 + 0 + 0 + 0 + 0 + 0 + 0 + 0 + 0 + 0 + 0 + 0 + 17 ≤ 29 by omega)⟩ (Nat.le_of_ble_eq_true rfl) hS (fun q9 h9 => Nat.le_trans hLz (Nat.le_trans hsz h9)) (fun v9 H locs hq hz9 hfr9 hS => ?_)
    have f_x : At G x (.inr (6, [.int er, .int es, .ref bk, .ref tx, .int ki, .int st, .int en, .int vv, .int fg, .ref fs, .int fc])) H := va_at.kept f_x (hfr9 _ (va_at.lt f_x) (Nat.not_le.mpr (va_at.lt f_x)))
    have f_tx : At G tx (.inl (G.2.1 0, n, .inl (sB bf))) H := va_at.kept f_tx (hfr9 _ (va_at.lt f_tx) (Nat.not_le.mpr (va_at.lt f_tx)))
    have f_1 : At G b_1 (.inr (2, [.int (nI nc), .int (-1), .int v_1, .int v_2, .int v_3, .int v_4, .int v_5, .int v_6, .int v_7, .int 0, .int v_8, .int v_9])) H := va_at.kept f_1 (hfr9 _ (va_at.lt f_1) (Nat.not_le.mpr (va_at.lt f_1)))
    have hfm : ∀ q : Nat, q < sz → q ≠ x → H[q]? = s.heap[q]? := fun q9 h9 h8 => (hfr9 q9 (Nat.lt_of_lt_of_le h9 hsz) (Nat.not_le.mpr (Nat.lt_of_lt_of_le h9 hsz))).trans (hfm q9 h9 h8)
    have hsz : sz ≤ H.size := Nat.le_trans hsz hz9
    obtain ⟨b_9, rfl, hBN⟩ := hq
    refine pf_X6_28 E hG f_x (Nat.le_of_ble_eq_true rfl) rfl rfl hS hxL dX6_readCredit_167 (fun H locs f_x hz oq hS => ?_)
    have f_tx : At G tx (.inl (G.2.1 0, n, .inl (sB bf))) H := oth f_tx ne_tx_x oq
    have f_1 : At G b_1 (.inr (2, [.int (nI nc), .int (-1), .int v_1, .int v_2, .int v_3, .int v_4, .int v_5, .int v_6, .int v_7, .int 0, .int v_8, .int v_9])) H := oth f_1 (Ne.symm ne_x_b_1) oq
    have f_x : At G x (.inr (6, [.int er, .int es, .ref b_9, .ref tx, .int ki, .int st, .int en, .int vv, .int fg, .ref fs, .int fc])) H := f_x
    have hfm : ∀ q : Nat, q < sz → q ≠ x → H[q]? = s.heap[q]? := fun q9 h9 h8 => (oq q9 h8).trans (hfm q9 h9 h8)
    have hsz : sz ≤ H.size := by omega
    have hBN : BK G (AL sL x tx) b_9 (crD d nc [v_1, v_2, v_3, v_4, v_5, v_6, v_7, v_8, v_9, 0]) (nc + 1) 0 nh H := hBN.kept (fun q9 _ h8 => oq q9 (fun z9 => h8 (Or.inr (Or.inl z9))))
    exact wr_void E hr hk hS (show 0 + 0 + 1 + 0 + 0 + 0 + 0 + 0 + 0 + 0 + 0 + 0 + 0 + 0 + 2 ≤ 3 by omega) (show 0 + 0 + 12 + 0 + 0 + 0 + 0 + 0 + 0 + 0 + 0 + 0 + 0 + 0 + 17 ≤ 29 by omega) (⟨rfl, _, _, _, _, _, _, b_9, f_x, f_tx, by rw [ef]; exact hTK, fun s8 L8 z => by rw [ef] at z; obtain ⟨s7, L7, z7, e7⟩ := hv_10 _ _ z; rw [e7, hL _ _ z7, hv0]; exact hBN⟩) dX6_readCredit_170
  · refine lv_if_eq (tgt := 158) hx hb dX6_readCredit_147 (by decide) (fun c_147 => ?_) (fun c_147 => ?_)
    · exact (by rw [hv1] at c_147; exact absurd c_147 (by decide))
    have h9 : pl (wdL bf n (txt 4) (wdL bf n (txt 3) (wdL bf n (txt 2) (nbL bf n 0 180 (nbL bf n 1 60 (nbL bf n 0 999 (nbL bf n 0 999 (nbL bf n 0 10 (nbL bf n 0 10 (nbL bf n 1 999999 (.ok (spc bf n (te bf n s9), [])))))))))))) = .ok (spc bf n (s8 + (txt 4).length)) := by rw [e8, wdL_ok hw8]; rfl
    rw [h9] at hTK
    obtain ⟨her, hes, hs_g, hst, hki, hen, hvv⟩ := hTK
    subst her hes hst hki hen hvv
    refine lv_aload_n hx hb dX6_readCredit_150 rfl (lv_at hl 0 rfl) ?_
    refine lv_aload_n hx hb dX6_readCredit_151 rfl (lv_at hl 1 rfl) ?_
    refine Wr.callV (rest := [.ref b_1]) (c_X6_readDocuments l G hB n hn9 hEx ne_tx_x (spc bf n (s8 + (txt 4).length)) hs_g) yk_X6_readDocuments E km_X6_153 dX6_readCredit_152 hG (hE.S hS hEA) ⟨f_x, f_tx⟩ (At.recv hG f_x rfl) rfl rfl hl.1 ⟨Nat.le_of_ble_eq_true rfl, Nat.le_of_ble_eq_true rfl⟩ ⟨(show 0 + 0 + 1 + 0 + 0 + 0 + 0 + 0 + 0 + 0 + 0 + 0 + 0 + 0 + 0 ≤ 3 by omega), (show 0 + 0 + 12 + 0 + 0 + 0 + 0 + 0 + 0 + 0 + 0 + 0 + 0 + 0 + 0 ≤ 29 by omega)⟩ (Nat.le_of_ble_eq_true rfl) hS (fun q9 h9 => by rw [h9]; exact hxL) (fun v9 H locs hq hz9 hfr9 hS => ?_)
    have f_tx : At G tx (.inl (G.2.1 0, n, .inl (sB bf))) H := va_at.kept f_tx (hfr9 _ (va_at.lt f_tx) ne_tx_x)
    have f_1 : At G b_1 (.inr (2, [.int (nI nc), .int (-1), .int v_1, .int v_2, .int v_3, .int v_4, .int v_5, .int v_6, .int v_7, .int 0, .int v_8, .int v_9])) H := va_at.kept f_1 (hfr9 _ (va_at.lt f_1) (Ne.symm ne_x_b_1))
    have hfm : ∀ q : Nat, q < sz → q ≠ x → H[q]? = s.heap[q]? := fun q9 h9 h8 => (hfr9 q9 (Nat.lt_of_lt_of_le h9 hsz) h8).trans (hfm q9 h9 h8)
    have hsz : sz ≤ H.size := Nat.le_trans hsz hz9
    obtain ⟨w9, er, es, ki, st, en, vv, rfl, f_x, hTK, hw9⟩ := hq
    refine pf_X6_157 E hG f_1 (Nat.le_of_ble_eq_true rfl) rfl rfl hS (Nat.le_trans hLz hg_1) dX6_readCredit_155 (fun H locs f_1 hz oq hS => ?_)
    have f_x : At G x (.inr (6, [.int er, .int es, .ref bk, .ref tx, .int ki, .int st, .int en, .int vv, .int fg, .ref fs, .int fc])) H := oth f_x ne_x_b_1 oq
    have f_tx : At G tx (.inl (G.2.1 0, n, .inl (sB bf))) H := oth f_tx ne_tx_b_1 oq
    have f_1 : At G b_1 (.inr (2, [.int (nI nc), .int (-1), .int v_1, .int v_2, .int v_3, .int v_4, .int v_5, .int v_6, .int v_7, .int w9, .int v_8, .int v_9])) H := f_1
    have hfm : ∀ q : Nat, q < sz → q ≠ x → H[q]? = s.heap[q]? := fun q9 h9 h8 => (oq q9 (fun z9 => by have := hg_1; omega)).trans (hfm q9 h9 h8)
    have hsz : sz ≤ H.size := by omega
    rcases hnd : ndF bf n (n + 1) (spc bf n (s8 + (txt 4).length)) 0 with e7 | ⟨s7, v7⟩
    · have ef : (cdF bf n (spc bf n (te bf n s9))) = .error e7 := by show ndL bf n (wdL bf n (txt 3) (wdL bf n (txt 2) (nbL bf n 0 180 (nbL bf n 1 60 (nbL bf n 0 999 (nbL bf n 0 999 (nbL bf n 0 10 (nbL bf n 0 10 (nbL bf n 1 999999 (.ok (spc bf n (te bf n s9), []))))))))))) = _; rw [e8]; exact ndL_er hw8 hnd
      rw [hnd] at hTK
      refine lv_aload_n hx hb dX6_readCredit_158 rfl (lv_at hl 1 rfl) ?_
      refine lv_aload_n hx hb dX6_readCredit_159 rfl (lv_at hl 1 rfl) ?_
      refine gf_X6_28 E hG f_x rfl dX6_readCredit_160 ?_
      refine lv_aload_n hx hb dX6_readCredit_163 rfl (lv_at hl 0 rfl) ?_
      refine Wr.callV (rest := [.ref x]) (c_X0_withCredit (sz := H.size) (AO := AL sL x tx) (d := d) (d9 := (crD d nc [v_1, v_2, v_3, v_4, v_5, v_6, v_7, v_8, v_9, w9])) (nc := nc) (np := 0) (nh := nh) l G (Nat.le_trans hzL (Nat.le_trans hLz hsz)) (fun q9 h9 => by have := va_at.lt f_x; have := va_at.lt f_tx; rcases h9 with z9 | z9 | z9 <;> omega) (crD_sm hh hc9) (crD_lo (by omega) (by omega)).symm hc9) yk_X0_withCredit E km_X6_160 dX6_readCredit_164 hG (hE.S hS hEA) ⟨rfl, bk_fm hB0 hz0 hfm, by rw [crF_new]; exact f_1, al_new hg_1 hLz (by omega) (by omega)⟩ (At.recv hG (kfm k1 hz0 hfm) rfl) rfl rfl hl.1 ⟨Nat.le_of_ble_eq_true rfl, Nat.le_of_ble_eq_true rfl⟩ ⟨(show 0 + 0 + 1 + 0 + 0 + 0 + 0 + 0 + 0 + 0 + 0 + 0 + 0 + 0 + 0 + 2 ≤ 3 by omega), (show 0 + 0 + 12 + 0 + 0 + 0 + 0 + 0 + 0 + 0 + 0 + 0 + 0 + 0 + 0 + 17 ≤ 29 by omega)⟩ (Nat.le_of_ble_eq_true rfl) hS (fun q9 h9 => Nat.le_trans hLz (Nat.le_trans hsz h9)) (fun v9 H locs hq hz9 hfr9 hS => ?_)
      have f_x : At G x (.inr (6, [.int er, .int es, .ref bk, .ref tx, .int ki, .int st, .int en, .int vv, .int fg, .ref fs, .int fc])) H := va_at.kept f_x (hfr9 _ (va_at.lt f_x) (Nat.not_le.mpr (va_at.lt f_x)))
      have f_tx : At G tx (.inl (G.2.1 0, n, .inl (sB bf))) H := va_at.kept f_tx (hfr9 _ (va_at.lt f_tx) (Nat.not_le.mpr (va_at.lt f_tx)))
      have f_1 : At G b_1 (.inr (2, [.int (nI nc), .int (-1), .int v_1, .int v_2, .int v_3, .int v_4, .int v_5, .int v_6, .int v_7, .int w9, .int v_8, .int v_9])) H := va_at.kept f_1 (hfr9 _ (va_at.lt f_1) (Nat.not_le.mpr (va_at.lt f_1)))
      have hfm : ∀ q : Nat, q < sz → q ≠ x → H[q]? = s.heap[q]? := fun q9 h9 h8 => (hfr9 q9 (Nat.lt_of_lt_of_le h9 hsz) (Nat.not_le.mpr (Nat.lt_of_lt_of_le h9 hsz))).trans (hfm q9 h9 h8)
      have hsz : sz ≤ H.size := Nat.le_trans hsz hz9
      obtain ⟨b_9, rfl, hBN⟩ := hq
      refine pf_X6_28 E hG f_x (Nat.le_of_ble_eq_true rfl) rfl rfl hS hxL dX6_readCredit_167 (fun H locs f_x hz oq hS => ?_)
      have f_tx : At G tx (.inl (G.2.1 0, n, .inl (sB bf))) H := oth f_tx ne_tx_x oq
      have f_1 : At G b_1 (.inr (2, [.int (nI nc), .int (-1), .int v_1, .int v_2, .int v_3, .int v_4, .int v_5, .int v_6, .int v_7, .int w9, .int v_8, .int v_9])) H := oth f_1 (Ne.symm ne_x_b_1) oq
      have f_x : At G x (.inr (6, [.int er, .int es, .ref b_9, .ref tx, .int ki, .int st, .int en, .int vv, .int fg, .ref fs, .int fc])) H := f_x
      have hfm : ∀ q : Nat, q < sz → q ≠ x → H[q]? = s.heap[q]? := fun q9 h9 h8 => (oq q9 h8).trans (hfm q9 h9 h8)
      have hsz : sz ≤ H.size := by omega
      have hBN : BK G (AL sL x tx) b_9 (crD d nc [v_1, v_2, v_3, v_4, v_5, v_6, v_7, v_8, v_9, w9]) (nc + 1) 0 nh H := hBN.kept (fun q9 _ h8 => oq q9 (fun z9 => h8 (Or.inr (Or.inl z9))))
      exact wr_void E hr hk hS (show 0 + 0 + 1 + 0 + 0 + 0 + 0 + 0 + 0 + 0 + 0 + 0 + 0 + 0 + 0 + 2 ≤ 3 by omega) (show 0 + 0 + 12 + 0 + 0 + 0 + 0 + 0 + 0 + 0 + 0 + 0 + 0 + 0 + 0 + 17 ≤ 29 by omega) (⟨rfl, _, _, _, _, _, _, b_9, f_x, f_tx, by rw [ef]; exact hTK, fun s8 L8 z => by rw [ef] at z; cases z⟩) dX6_readCredit_170
    · have ef : (cdF bf n (spc bf n (te bf n s9))) = .ok (s7, L8 ++ [v7]) := by show ndL bf n (wdL bf n (txt 3) (wdL bf n (txt 2) (nbL bf n 0 180 (nbL bf n 1 60 (nbL bf n 0 999 (nbL bf n 0 999 (nbL bf n 0 10 (nbL bf n 0 10 (nbL bf n 1 999999 (.ok (spc bf n (te bf n s9), []))))))))))) = _; rw [e8]; exact ndL_ok hw8 hnd
      rw [hnd] at hTK
      have e6 := hw9 _ _ hnd
      refine lv_aload_n hx hb dX6_readCredit_158 rfl (lv_at hl 1 rfl) ?_
      refine lv_aload_n hx hb dX6_readCredit_159 rfl (lv_at hl 1 rfl) ?_
      refine gf_X6_28 E hG f_x rfl dX6_readCredit_160 ?_
      refine lv_aload_n hx hb dX6_readCredit_163 rfl (lv_at hl 0 rfl) ?_
      refine Wr.callV (rest := [.ref x]) (c_X0_withCredit (sz := H.size) (AO := AL sL x tx) (d := d) (d9 := (crD d nc [v_1, v_2, v_3, v_4, v_5, v_6, v_7, v_8, v_9, w9])) (nc := nc) (np := 0) (nh := nh) l G (Nat.le_trans hzL (Nat.le_trans hLz hsz)) (fun q9 h9 => by have := va_at.lt f_x; have := va_at.lt f_tx; rcases h9 with z9 | z9 | z9 <;> omega) (crD_sm hh hc9) (crD_lo (by omega) (by omega)).symm hc9) yk_X0_withCredit E km_X6_160 dX6_readCredit_164 hG (hE.S hS hEA) ⟨rfl, bk_fm hB0 hz0 hfm, by rw [crF_new]; exact f_1, al_new hg_1 hLz (by omega) (by omega)⟩ (At.recv hG (kfm k1 hz0 hfm) rfl) rfl rfl hl.1 ⟨Nat.le_of_ble_eq_true rfl, Nat.le_of_ble_eq_true rfl⟩ ⟨(show 0 + 0 + 1 + 0 + 0 + 0 + 0 + 0 + 0 + 0 + 0 + 0 + 0 + 0 + 0 + 2 ≤ 3 by omega), (show 0 + 0 + 12 + 0 + 0 + 0 + 0 + 0 + 0 + 0 + 0 + 0 + 0 + 0 + 0 + 17 ≤ 29 by omega)⟩ (Nat.le_of_ble_eq_true rfl) hS (fun q9 h9 => Nat.le_trans hLz (Nat.le_trans hsz h9)) (fun v9 H locs hq hz9 hfr9 hS => ?_)
      have f_x : At G x (.inr (6, [.int er, .int es, .ref bk, .ref tx, .int ki, .int st, .int en, .int vv, .int fg, .ref fs, .int fc])) H := va_at.kept f_x (hfr9 _ (va_at.lt f_x) (Nat.not_le.mpr (va_at.lt f_x)))
      have f_tx : At G tx (.inl (G.2.1 0, n, .inl (sB bf))) H := va_at.kept f_tx (hfr9 _ (va_at.lt f_tx) (Nat.not_le.mpr (va_at.lt f_tx)))
      have f_1 : At G b_1 (.inr (2, [.int (nI nc), .int (-1), .int v_1, .int v_2, .int v_3, .int v_4, .int v_5, .int v_6, .int v_7, .int w9, .int v_8, .int v_9])) H := va_at.kept f_1 (hfr9 _ (va_at.lt f_1) (Nat.not_le.mpr (va_at.lt f_1)))
      have hfm : ∀ q : Nat, q < sz → q ≠ x → H[q]? = s.heap[q]? := fun q9 h9 h8 => (hfr9 q9 (Nat.lt_of_lt_of_le h9 hsz) (Nat.not_le.mpr (Nat.lt_of_lt_of_le h9 hsz))).trans (hfm q9 h9 h8)
      have hsz : sz ≤ H.size := Nat.le_trans hsz hz9
      obtain ⟨b_9, rfl, hBN⟩ := hq
      refine pf_X6_28 E hG f_x (Nat.le_of_ble_eq_true rfl) rfl rfl hS hxL dX6_readCredit_167 (fun H locs f_x hz oq hS => ?_)
      have f_tx : At G tx (.inl (G.2.1 0, n, .inl (sB bf))) H := oth f_tx ne_tx_x oq
      have f_1 : At G b_1 (.inr (2, [.int (nI nc), .int (-1), .int v_1, .int v_2, .int v_3, .int v_4, .int v_5, .int v_6, .int v_7, .int w9, .int v_8, .int v_9])) H := oth f_1 (Ne.symm ne_x_b_1) oq
      have f_x : At G x (.inr (6, [.int er, .int es, .ref b_9, .ref tx, .int ki, .int st, .int en, .int vv, .int fg, .ref fs, .int fc])) H := f_x
      have hfm : ∀ q : Nat, q < sz → q ≠ x → H[q]? = s.heap[q]? := fun q9 h9 h8 => (oq q9 h8).trans (hfm q9 h9 h8)
      have hsz : sz ≤ H.size := by omega
      have hBN : BK G (AL sL x tx) b_9 (crD d nc [v_1, v_2, v_3, v_4, v_5, v_6, v_7, v_8, v_9, w9]) (nc + 1) 0 nh H := hBN.kept (fun q9 _ h8 => oq q9 (fun z9 => h8 (Or.inr (Or.inl z9))))
      exact wr_void E hr hk hS (show 0 + 0 + 1 + 0 + 0 + 0 + 0 + 0 + 0 + 0 + 0 + 0 + 0 + 0 + 0 + 2 ≤ 3 by omega) (show 0 + 0 + 12 + 0 + 0 + 0 + 0 + 0 + 0 + 0 + 0 + 0 + 0 + 0 + 0 + 17 ≤ 29 by omega) (⟨rfl, _, _, _, _, _, _, b_9, f_x, f_tx, by rw [ef]; exact hTK, fun s8 L9 z => by rw [ef] at z; cases z; rw [hL _ _ e8, ← e6]; exact hBN⟩) dX6_readCredit_170

set_option maxHeartbeats 4000000 in
set_option maxRecDepth 100000 in
/-- readFee -/
theorem c_X6_readFee (l : Launch) (G : CG) {sL sz x bk tx fs : Nat} {fg : Int32} {bf : Nat → Int32} (hB : ByO bf) (n : Nat) (hn9 : n ≤ 900) (hzL : EFA G sL) (hxL : sL ≤ x) (htL : sL ≤ tx) (ne_tx_x : tx ≠ x) (s9 : Nat) (hs9 : s9 ≤ n) {d : Nat → Int32} {nc nh : Nat} (hh : nh ≤ 16) (hc9 : nc ≤ 12) : Wr l yX6_readFee cX6_readFee 1 ((Option.none : Option FieldType)) 25 559 4 1806 G [.ref x] (fun H9 => H9.size = sz ∧ At G x (.inr (6, rdF 0 (-1) bk tx (kd bf n s9) (nI s9) (nI (te bf n s9)) (va bf n s9) fg fs (nI 0))) H9 ∧ At G tx (bA G n (sB bf)) H9 ∧ BK G (AL sL x tx) bk d nc 0 nh H9) (fun q9 => sL ≤ q9) (fun v9 H9 => v9 = none ∧ ∃ er es ki st en vv bk1 fs1 fc1, At G x (.inr (6, rdF er es bk1 tx ki st en vv 1 fs1 fc1)) H9 ∧ At G tx (bA G n (sB bf)) H9 ∧ TK bf n (pl (smF bf n (fcF bf n 4) (spc bf n (te bf n s9)))) er es ki st en vv ∧ ∀ s8 L8, (smF bf n (fcF bf n 4) (spc bf n (te bf n s9))) = .ok (s8, L8) → BK G (AL sL x tx) bk1 (emC (upd d 4 1) (exL L8)) nc 0 nh H9) := by
  refine Wr.ofW (by decide) (Nat.le_of_ble_eq_true rfl) (fun p e s m below meth c ls E hG hE hP hr hk hin hl => ?_)
  have hS : va_S (fun q9 => sL ≤ q9) s.heap s.heap [] := va_S.rf
  have hx := E.1
  have hb := E.2.1
  have hl : lv_has ls 1 [(0, .ref x)] := hl
  obtain ⟨hz0, f_x, f_tx, hB0⟩ := hP
  have hEx : EFA G x := Nat.le_trans hzL hxL
  have hLz : sL ≤ sz := by have := va_at.lt f_x; omega
  have hEA : ∀ q9, sL ≤ q9 → EFA G q9 := fun q9 h9 => Nat.le_trans hzL h9
  have hfm : ∀ q : Nat, q < sz → q ≠ x → s.heap[q]? = s.heap[q]? := fun q9 _ _ => rfl
  have hsz : sz ≤ s.heap.size := Nat.le_of_eq hz0.symm
  have hlx0 := va_at.lt f_x
  have hlt0 := va_at.lt f_tx
  obtain ⟨ca, ho, fe, cr, pr, cA, pA, k1, k2, k3, k4, k5, k6, k7, k8⟩ := id hB0
  have htb := te_b hB hs9
  have hsb := sk_b (bf := bf) htb.2
  refine lv_aload_n hx hb dX6_readFee_0 rfl (lv_at hl 0 rfl) ?_
  refine lv_iconst (v := 1) hx hb dX6_readFee_1 rfl ?_
  refine pf_X6_58 E hG f_x (Nat.le_of_ble_eq_true rfl) rfl rfl hS hxL dX6_readFee_2 (fun H locs f_x hz oq hS => ?_)
  have f_tx : At G tx (.inl (G.2.1 0, n, .inl (sB bf))) H := oth f_tx ne_tx_x oq
  have f_x : At G x (.inr (6, [.int 0, .int (-1), .ref bk, .ref tx, .int (kd bf n s9), .int (nI s9), .int (nI (te bf n s9)), .int (va bf n s9), .int 1, .ref fs, .int (nI 0)])) H := f_x
  have hfm : ∀ q : Nat, q < sz → q ≠ x → H[q]? = s.heap[q]? := fun q9 h9 h8 => (oq q9 h8).trans (hfm q9 h9 h8)
  have hsz : sz ≤ H.size := by omega
  refine lv_aload_n hx hb dX6_readFee_5 rfl (lv_at hl 0 rfl) ?_
  refine lv_aload_n hx hb dX6_readFee_6 rfl (lv_at hl 0 rfl) ?_
  refine gf_X6_9 E hG f_x rfl dX6_readFee_7 ?_
  refine g_len (t0 := 0) (v := (nI n)) E hG f_tx rfl rfl dX6_readFee_10 ?_
  refine n_newa (atype := .int) (N := n) (x := (n, .inl (fun _ => 0))) (t0 := 1) rfl ka_int (by exact Or.inl rfl) rfl E hG hS (Nat.le_of_eq hz0.symm) rfl (by omega) (show 0 + 1 ≤ 4 by omega) (show 0 + n ≤ 1806 by omega) dX6_readFee_11 (fun b_1 H hb_1 hg_1 f_1 hz oq hS => ?_)
  have ne_x_b_1 : x ≠ b_1 := fun z9 => absurd (va_at.lt f_x) (by rw [z9, hb_1]; exact Nat.lt_irrefl _)
  have ne_tx_b_1 : tx ≠ b_1 := fun z9 => absurd (va_at.lt f_tx) (by rw [z9, hb_1]; exact Nat.lt_irrefl _)
  have f_x : At G x (.inr (6, [.int 0, .int (-1), .ref bk, .ref tx, .int (kd bf n s9), .int (nI s9), .int (nI (te bf n s9)), .int (va bf n s9), .int 1, .ref fs, .int (nI 0)])) H := olt f_x oq
  have f_tx : At G tx (.inl (G.2.1 0, n, .inl (sB bf))) H := olt f_tx oq
  have hfm : ∀ q : Nat, q < sz → q ≠ x → H[q]? = s.heap[q]? := fun q9 h9 h8 => (oq q9 (by have := hg_1; have := hb_1; omega)).trans (hfm q9 h9 h8)
  have hsz : sz ≤ H.size := by omega
  refine pf_X6_32 E hG f_x (Nat.le_of_ble_eq_true rfl) rfl rfl hS hxL dX6_readFee_13 (fun H locs f_x hz oq hS => ?_)
  have f_tx : At G tx (.inl (G.2.1 0, n, .inl (sB bf))) H := oth f_tx ne_tx_x oq
  have f_1 : At G b_1 (.inl (G.2.1 1, n, .inl (fun _ => 0))) H := oth f_1 (Ne.symm ne_x_b_1) oq
  have f_x : At G x (.inr (6, [.int 0, .int (-1), .ref bk, .ref tx, .int (kd bf n s9), .int (nI s9), .int (nI (te bf n s9)), .int (va bf n s9), .int 1, .ref b_1, .int (nI 0)])) H := f_x
  have hfm : ∀ q : Nat, q < sz → q ≠ x → H[q]? = s.heap[q]? := fun q9 h9 h8 => (oq q9 h8).trans (hfm q9 h9 h8)
  have hsz : sz ≤ H.size := by omega
  refine lv_aload_n hx hb dX6_readFee_16 rfl (lv_at hl 0 rfl) ?_
  refine Wr.callV (rest := []) (c_X6_nextToken l G hB n hn9 hEx ne_tx_x (te bf n s9) (by omega)) yk_X6_nextToken E km_X6_36 dX6_readFee_17 hG (hE.S hS hEA) ⟨f_x, f_tx⟩ (At.recv hG f_x rfl) rfl rfl hl.1 ⟨Nat.le_of_ble_eq_true rfl, Nat.le_of_ble_eq_true rfl⟩ ⟨(show 0 + 1 + 0 ≤ 4 by omega), (show 0 + n + 0 ≤ 1806 by omega)⟩ (Nat.le_of_ble_eq_true rfl) hS (fun q9 h9 => by rw [h9]; exact hxL) (fun v9 H locs hq hz9 hfr9 hS => ?_)
  have f_tx : At G tx (.inl (G.2.1 0, n, .inl (sB bf))) H := va_at.kept f_tx (hfr9 _ (va_at.lt f_tx) ne_tx_x)
  have f_1 : At G b_1 (.inl (G.2.1 1, n, .inl (fun _ => 0))) H := va_at.kept f_1 (hfr9 _ (va_at.lt f_1) (Ne.symm ne_x_b_1))
  have hfm : ∀ q : Nat, q < sz → q ≠ x → H[q]? = s.heap[q]? := fun q9 h9 h8 => (hfr9 q9 (Nat.lt_of_lt_of_le h9 hsz) h8).trans (hfm q9 h9 h8)
  have hsz : sz ≤ H.size := Nat.le_trans hsz hz9
  obtain ⟨rfl, er, es, ki, st, en, vv, f_x, hTK⟩ := hq
  obtain ⟨her, hes, hs_g, hst, hki, hen, hvv⟩ := hTK
  subst her hes hst hki hen hvv
  refine lv_aload_n hx hb dX6_readFee_20 rfl (lv_at hl 0 rfl) ?_
  refine lv_iconst (v := 0) hx hb dX6_readFee_21 rfl ?_
  refine lv_ci (y := nI 0) rfl ?_
  refine Wr.callV (rest := []) (c_X6_sm4 l G hB n hn9 hEx (Nat.le_trans hzL (Nat.le_trans hLz hg_1)) ne_tx_x (Ne.symm ne_x_b_1) ne_tx_b_1 (spc bf n (te bf n s9)) [] (fun _ => 0) hsb.2 (Nat.zero_le _) (FSt.nil _)) yk_X6_readSum E km_X6_168 dX6_readFee_22 hG (hE.S hS hEA) ⟨f_x, f_tx, f_1⟩ (At.recv hG f_x rfl) rfl rfl hl.1 ⟨Nat.le_of_ble_eq_true rfl, Nat.le_of_ble_eq_true rfl⟩ ⟨(show 0 + 1 + 0 + 0 ≤ 4 by omega), (show 0 + n + 0 + 0 ≤ 1806 by omega)⟩ (Nat.le_of_ble_eq_true rfl) hS (fun q9 h9 => h9.elim (fun z9 => by rw [z9]; exact hxL) (fun z9 => by rw [z9]; exact (Nat.le_trans hLz hg_1))) (fun v9 H locs hq hz9 hfr9 hS => ?_)
  have f_tx : At G tx (.inl (G.2.1 0, n, .inl (sB bf))) H := va_at.kept f_tx (hfr9 _ (va_at.lt f_tx) (fun z9 => z9.elim ne_tx_x ne_tx_b_1))
  have hfm : ∀ q : Nat, q < sz → q ≠ x → H[q]? = s.heap[q]? := fun q9 h9 h8 => (hfr9 q9 (Nat.lt_of_lt_of_le h9 hsz) (fun z9 => z9.elim h8 (fun y9 => by have := hg_1; omega))).trans (hfm q9 h9 h8)
  have hsz : sz ≤ H.size := Nat.le_trans hsz hz9
  obtain ⟨rfl, er, es, ki, st, en, vv, k7, f7, hk7, f_x, f_1, hTK, hL⟩ := hq
  refine lv_aload_n hx hb dX6_readFee_25 rfl (lv_at hl 0 rfl) ?_
  refine lv_aload_n hx hb dX6_readFee_26 rfl (lv_at hl 0 rfl) ?_
  refine gf_X6_28 E hG f_x rfl dX6_readFee_27 ?_
  refine n_new (ci := 3) (fs := [.null]) (ty := tyX3) inX3 tyX3_ok rfl kl_X6_171 kn_X3 kin_X3 df_X3 E hG hS (Nat.le_of_eq hz0.symm) (show 0 + 1 + 0 + 0 + 1 ≤ 4 by omega) (show 0 + n + 0 + 0 + 1 ≤ 1806 by omega) dX6_readFee_30 (fun b_2 H hb_2 hg_2 f_2 hz oq hS => ?_)
  have ne_x_b_2 : x ≠ b_2 := fun z9 => absurd (va_at.lt f_x) (by rw [z9, hb_2]; exact Nat.lt_irrefl _)
  have ne_tx_b_2 : tx ≠ b_2 := fun z9 => absurd (va_at.lt f_tx) (by rw [z9, hb_2]; exact Nat.lt_irrefl _)
  have ne_b_1_b_2 : b_1 ≠ b_2 := fun z9 => absurd (va_at.lt f_1) (by rw [z9, hb_2]; exact Nat.lt_irrefl _)
  have f_x : At G x (.inr (6, [.int er, .int es, .ref bk, .ref tx, .int ki, .int st, .int en, .int vv, .int 1, .ref b_1, .int (nI k7)])) H := olt f_x oq
  have f_tx : At G tx (.inl (G.2.1 0, n, .inl (sB bf))) H := olt f_tx oq
  have f_1 : At G b_1 (.inl (G.2.1 1, n, .inl f7)) H := olt f_1 oq
  have hfm : ∀ q : Nat, q < sz → q ≠ x → H[q]? = s.heap[q]? := fun q9 h9 h8 => (oq q9 (by have := hg_2; have := hb_2; omega)).trans (hfm q9 h9 h8)
  have hsz : sz ≤ H.size := by omega
  refine lv_dup hx hb dX6_readFee_33 rfl ?_
  refine lv_aload_n hx hb dX6_readFee_34 rfl (lv_at hl 0 rfl) ?_
  refine gf_X6_32 E hG f_x rfl dX6_readFee_35 ?_
  refine lv_aload_n hx hb dX6_readFee_38 rfl (lv_at hl 0 rfl) ?_
  refine gf_X6_173 E hG f_x rfl dX6_readFee_39 ?_
  have f_10 := f_1
  have hlx := va_at.lt f_x
  have hlt := va_at.lt f_tx
  have hl2 := va_at.lt f_2
  refine Wr.callS (rest := [.ref b_2, .ref b_2, .ref bk, .ref x]) (c_J7_copyOf_59c91 (sz := H.size) l G (n := n) (f := f7) hn9 (fun _ => rfl) k7 (by omega)) yk_J7_copyOf_59c91 E km_X6_176 dX6_readFee_42 hG (hE.S hS hEA) ⟨rfl, f_1⟩ rfl rfl hl.1 ⟨Nat.le_of_ble_eq_true rfl, Nat.le_of_ble_eq_true rfl⟩ ⟨(show 0 + 1 + 0 + 0 + 1 + 1 ≤ 4 by omega), (show 0 + n + 0 + 0 + 1 + k7 ≤ 1806 by omega)⟩ (Nat.le_of_ble_eq_true rfl) hS (fun q9 h9 => h9.elim (fun z9 => by rw [z9]; exact Nat.le_trans hLz hg_1) (fun z9 => Nat.le_trans hLz (Nat.le_trans hsz z9))) (fun v9 H locs hq hz9 hfr9 hS => ?_)
  obtain ⟨b_3, rfl, hg3, f_1, f_3⟩ := hq
  have hfr8 := fr_all f_1 f_10 hfr9
  have f_x : At G x (.inr (6, [.int er, .int es, .ref bk, .ref tx, .int ki, .int st, .int en, .int vv, .int 1, .ref b_1, .int (nI k7)])) H := va_at.kept f_x (hfr8 _ hlx)
  have f_tx : At G tx (.inl (G.2.1 0, n, .inl (sB bf))) H := va_at.kept f_tx (hfr8 _ hlt)
  have f_2 : At G b_2 (.inr (3, [.null])) H := va_at.kept f_2 (hfr8 _ hl2)
  have hg_3 : sz ≤ b_3 := Nat.le_trans hsz hg3
  have ne_x_b_3 : x ≠ b_3 := by omega
  have ne_tx_b_3 : tx ≠ b_3 := by omega
  have ne_b_2_b_3 : b_2 ≠ b_3 := by omega
  have hfm : ∀ q : Nat, q < sz → q ≠ x → H[q]? = s.heap[q]? := fun q9 h9 h8 => (hfr8 q9 (Nat.lt_of_lt_of_le h9 hsz)).trans (hfm q9 h9 h8)
  have hsz : sz ≤ H.size := Nat.le_trans hsz hz9
  refine Wr.callI (rest := [.ref b_2, .ref bk, .ref x]) (c_X3_init l G b_3) yk_X3_init E km_X6_182 dX6_readFee_45 hG (hE.S hS hEA) f_2 rfl rfl hl.1 ⟨Nat.le_of_ble_eq_true rfl, Nat.le_of_ble_eq_true rfl⟩ ⟨(show 0 + 1 + 0 + 0 + 1 + 1 + 0 ≤ 4 by omega), (show 0 + n + 0 + 0 + 1 + k7 + 0 ≤ 1806 by omega)⟩ (Nat.le_of_ble_eq_true rfl) hS (fun q9 h9 => by rw [h9]; exact (Nat.le_trans hLz hg_2)) (fun v9 H locs hq hz9 hfr9 hS => ?_)
  have f_x : At G x (.inr (6, [.int er, .int es, .ref bk, .ref tx, .int ki, .int st, .int en, .int vv, .int 1, .ref b_1, .int (nI k7)])) H := va_at.kept f_x (hfr9 _ (va_at.lt f_x) ne_x_b_2)
  have f_tx : At G tx (.inl (G.2.1 0, n, .inl (sB bf))) H := va_at.kept f_tx (hfr9 _ (va_at.lt f_tx) ne_tx_b_2)
  have f_3 : At G b_3 (.inl (G.2.1 1, k7, .inl (fun j => if j < n then f7 j else 0))) H := va_at.kept f_3 (hfr9 _ (va_at.lt f_3) (Ne.symm ne_b_2_b_3))
  have hfm : ∀ q : Nat, q < sz → q ≠ x → H[q]? = s.heap[q]? := fun q9 h9 h8 => (hfr9 q9 (Nat.lt_of_lt_of_le h9 hsz) (fun z9 => by have := hg_2; omega)).trans (hfm q9 h9 h8)
  have hsz : sz ≤ H.size := Nat.le_trans hsz hz9
  obtain ⟨rfl, f_2⟩ := hq
  rcases hfa : (smF bf n (fcF bf n 4) (spc bf n (te bf n s9))) with e7 | ⟨s7, L7⟩
  · rw [hfa] at hTK
    refine Wr.callV (rest := [.ref x]) (c_X0_withFeeRule_b (sz := H.size) l G (Nat.le_trans hzL (Nat.le_trans hLz hsz))) yk_X0_withFeeRule E km_X6_185 dX6_readFee_48 hG (hE.S hS hEA) ⟨rfl, kfm k1 hz0 hfm⟩ (At.recv hG (kfm k1 hz0 hfm) rfl) rfl rfl hl.1 ⟨Nat.le_of_ble_eq_true rfl, Nat.le_of_ble_eq_true rfl⟩ ⟨(show 0 + 1 + 0 + 0 + 1 + 1 + 0 + 1 ≤ 4 by omega), (show 0 + n + 0 + 0 + 1 + k7 + 0 + 5 ≤ 1806 by omega)⟩ (Nat.le_of_ble_eq_true rfl) hS (fun q9 h9 => Nat.le_trans hLz (Nat.le_trans hsz h9)) (fun v9 H locs hq hz9 hfr9 hS => ?_)
    have f_x : At G x (.inr (6, [.int er, .int es, .ref bk, .ref tx, .int ki, .int st, .int en, .int vv, .int 1, .ref b_1, .int (nI k7)])) H := va_at.kept f_x (hfr9 _ (va_at.lt f_x) (Nat.not_le.mpr (va_at.lt f_x)))
    have f_tx : At G tx (.inl (G.2.1 0, n, .inl (sB bf))) H := va_at.kept f_tx (hfr9 _ (va_at.lt f_tx) (Nat.not_le.mpr (va_at.lt f_tx)))
    have f_2 : At G b_2 (.inr (3, [.ref b_3])) H := va_at.kept f_2 (hfr9 _ (va_at.lt f_2) (Nat.not_le.mpr (va_at.lt f_2)))
    have f_3 : At G b_3 (.inl (G.2.1 1, k7, .inl (fun j => if j < n then f7 j else 0))) H := va_at.kept f_3 (hfr9 _ (va_at.lt f_3) (Nat.not_le.mpr (va_at.lt f_3)))
    have hfm : ∀ q : Nat, q < sz → q ≠ x → H[q]? = s.heap[q]? := fun q9 h9 h8 => (hfr9 q9 (Nat.lt_of_lt_of_le h9 hsz) (Nat.not_le.mpr (Nat.lt_of_lt_of_le h9 hsz))).trans (hfm q9 h9 h8)
    have hsz : sz ≤ H.size := Nat.le_trans hsz hz9
    obtain ⟨b_9, rfl⟩ := hq
    refine pf_X6_28 E hG f_x (Nat.le_of_ble_eq_true rfl) rfl rfl hS hxL dX6_readFee_51 (fun H locs f_x hz oq hS => ?_)
    have f_tx : At G tx (.inl (G.2.1 0, n, .inl (sB bf))) H := oth f_tx ne_tx_x oq
    have f_2 : At G b_2 (.inr (3, [.ref b_3])) H := oth f_2 (Ne.symm ne_x_b_2) oq
    have f_3 : At G b_3 (.inl (G.2.1 1, k7, .inl (fun j => if j < n then f7 j else 0))) H := oth f_3 (Ne.symm ne_x_b_3) oq
    have f_x : At G x (.inr (6, [.int er, .int es, .ref b_9, .ref tx, .int ki, .int st, .int en, .int vv, .int 1, .ref b_1, .int (nI k7)])) H := f_x
    have hfm : ∀ q : Nat, q < sz → q ≠ x → H[q]? = s.heap[q]? := fun q9 h9 h8 => (oq q9 h8).trans (hfm q9 h9 h8)
    have hsz : sz ≤ H.size := by omega
    exact wr_void E hr hk hS (show 0 + 1 + 0 + 0 + 1 + 1 + 0 + 1 ≤ 4 by omega) (show 0 + n + 0 + 0 + 1 + k7 + 0 + 5 ≤ 1806 by omega) (⟨rfl, _, _, _, _, _, _, _, _, _, f_x, f_tx, hTK, fun _ _ z => by cases z⟩) dX6_readFee_54
  · rw [hfa] at hTK
    obtain ⟨ek7, hF7⟩ := hL _ _ hfa
    rw [List.nil_append] at ek7 hF7
    have g9 := (Gd_fc hB 4).sm _ _ _ hsb.2 hfa
    subst ek7
    have f_30 : At G b_3 (iA G L7.length (fun j => L7.getD j 0)) H := At.congr f_3 (fun j9 h9 => by rw [if_pos (by omega)]; exact hF7 j9 h9)
    refine Wr.callV (rest := [.ref x]) (c_X0_withFeeRule (sz := H.size) (AO := AL sL x tx) (d := d) (d9 := (emC (upd d 4 1) (exL L7))) (nc := nc) (nh := nh) (nh9 := nh) l G (Nat.le_trans hzL (Nat.le_trans hLz hsz)) (fun q9 h9 => by have := va_at.lt f_x; have := va_at.lt f_tx; rcases h9 with z9 | z9 | z9 <;> omega) (em_cr hc9) (fun k9 h9 => em_lo (by omega) (by omega) (by omega)) (em_lo (by omega) (by omega) (by omega)).symm rfl) yk_X0_withFeeRule E km_X6_185 dX6_readFee_48 hG (hE.S hS hEA) ⟨rfl, bk_fm hB0 hz0 hfm, b_3, ⟨f_2, al_new hg_2 hLz (by omega) (by omega)⟩, Or.inr ⟨by rw [emC_o (by omega) (by omega), pk_us], L7, ⟨f_30, al_new hg_3 hLz (by omega) (by omega)⟩, FeR_em hn9 g9⟩⟩ (At.recv hG (kfm k1 hz0 hfm) rfl) rfl rfl hl.1 ⟨Nat.le_of_ble_eq_true rfl, Nat.le_of_ble_eq_true rfl⟩ ⟨(show 0 + 1 + 0 + 0 + 1 + 1 + 0 + 1 ≤ 4 by omega), (show 0 + n + 0 + 0 + 1 + L7.length + 0 + 5 ≤ 1806 by omega)⟩ (Nat.le_of_ble_eq_true rfl) hS (fun q9 h9 => Nat.le_trans hLz (Nat.le_trans hsz h9)) (fun v9 H locs hq hz9 hfr9 hS => ?_)
    have f_x : At G x (.inr (6, [.int er, .int es, .ref bk, .ref tx, .int ki, .int st, .int en, .int vv, .int 1, .ref b_1, .int (nI L7.length)])) H := va_at.kept f_x (hfr9 _ (va_at.lt f_x) (Nat.not_le.mpr (va_at.lt f_x)))
    have f_tx : At G tx (.inl (G.2.1 0, n, .inl (sB bf))) H := va_at.kept f_tx (hfr9 _ (va_at.lt f_tx) (Nat.not_le.mpr (va_at.lt f_tx)))
    have f_2 : At G b_2 (.inr (3, [.ref b_3])) H := va_at.kept f_2 (hfr9 _ (va_at.lt f_2) (Nat.not_le.mpr (va_at.lt f_2)))
    have f_3 : At G b_3 (.inl (G.2.1 1, L7.length, .inl (fun j => if j < n then f7 j else 0))) H := va_at.kept f_3 (hfr9 _ (va_at.lt f_3) (Nat.not_le.mpr (va_at.lt f_3)))
    have hfm : ∀ q : Nat, q < sz → q ≠ x → H[q]? = s.heap[q]? := fun q9 h9 h8 => (hfr9 q9 (Nat.lt_of_lt_of_le h9 hsz) (Nat.not_le.mpr (Nat.lt_of_lt_of_le h9 hsz))).trans (hfm q9 h9 h8)
    have hsz : sz ≤ H.size := Nat.le_trans hsz hz9
    obtain ⟨b_9, rfl, hBN⟩ := hq
    refine pf_X6_28 E hG f_x (Nat.le_of_ble_eq_true rfl) rfl rfl hS hxL dX6_readFee_51 (fun H locs f_x hz oq hS => ?_)
    have f_tx : At G tx (.inl (G.2.1 0, n, .inl (sB bf))) H := oth f_tx ne_tx_x oq
    have f_2 : At G b_2 (.inr (3, [.ref b_3])) H := oth f_2 (Ne.symm ne_x_b_2) oq
    have f_3 : At G b_3 (.inl (G.2.1 1, L7.length, .inl (fun j => if j < n then f7 j else 0))) H := oth f_3 (Ne.symm ne_x_b_3) oq
    have f_x : At G x (.inr (6, [.int er, .int es, .ref b_9, .ref tx, .int ki, .int st, .int en, .int vv, .int 1, .ref b_1, .int (nI L7.length)])) H := f_x
    have hfm : ∀ q : Nat, q < sz → q ≠ x → H[q]? = s.heap[q]? := fun q9 h9 h8 => (oq q9 h8).trans (hfm q9 h9 h8)
    have hsz : sz ≤ H.size := by omega
    have hBN : BK G (AL sL x tx) b_9 (emC (upd d 4 1) (exL L7)) nc 0 nh H := hBN.kept (fun q9 _ h8 => oq q9 (fun z9 => h8 (Or.inr (Or.inl z9))))
    exact wr_void E hr hk hS (show 0 + 1 + 0 + 0 + 1 + 1 + 0 + 1 ≤ 4 by omega) (show 0 + n + 0 + 0 + 1 + L7.length + 0 + 5 ≤ 1806 by omega) (⟨rfl, _, _, _, _, _, _, b_9, _, _, f_x, f_tx, hTK, fun _ _ z => by cases z; exact hBN⟩) dX6_readFee_54
