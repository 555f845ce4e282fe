/-! READING: the class's holidays -/
theorem kfm {G : CG} {sL x tx a sz : Nat} {y : va_E} {H0 H : Heap} (h : At G a y H0 ∧ ¬ AL sL x tx a) (hz : H0.size = sz) (hf : ∀ q : Nat, q < sz → q ≠ x → H[q]? = H0[q]?) : At G a y H := va_at.kept h.1 (hf a (by rw [← hz]; exact va_at.lt h.1) (fun z9 => h.2 (Or.inr (Or.inl z9))))
theorem arr_eq {G : CG} {a : Nat} {y : ClassId × vp_A} {H H1 : Heap} (h1 : At G a (.inl y) H1) (h0 : At G a (.inl y) H) : H1[a]? = H[a]? := by
  have e1 : H1[a]? = some (vp_cell y.1 y.2) := h1
  have e0 : H[a]? = some (vp_cell y.1 y.2) := h0
  rw [e1, e0]
theorem fr_all {G : CG} {a : Nat} {y : ClassId × vp_A} {H H1 : Heap} (h1 : At G a (.inl y) H1) (h0 : At G a (.inl y) H) (hf : ∀ q : Nat, q < H.size → ¬ (q = a ∨ H.size ≤ q) → H1[q]? = H[q]?) : ∀ q : Nat, q < H.size → H1[q]? = H[q]? := fun q h => by
  by_cases e : q = a
  · rw [e]; exact arr_eq h1 h0
  · exact hf q h (fun z => z.elim e (fun y => absurd h (Nat.not_lt.mpr y)))
theorem al_new {sL x tx b S : Nat} (h : S ≤ b) (h1 : sL ≤ S) (h2 : x < S) (h3 : tx < S) : ¬ AL sL x tx b := fun z => by rcases z with z | z | z <;> omega
set_option maxHeartbeats 4000000 in
set_option maxRecDepth 100000 in
/-- withHoliday -/
theorem c_X1_withHoliday (l : Launch) (G : CG) {ca ho sz nh : Nat} {d : Nat → Int32} (hz1 : EFA G sz) (hEo : EFA G ho) (hh : nh < 16) (v : Int32) : Wr l yX1_withHoliday cX1_withHoliday 3 ((Option.some (FieldType.object "DocumentaryCreditDesk$Calendar"))) 2 82 2 (nh + 2) G [.ref ca, .int v] (fun H9 => H9.size = sz ∧ At G ca (.inr (1, [.ref ho])) H9 ∧ At G ho (iA G nh (fun k9 => d (6 + k9))) H9) (fun q9 => q9 = ho ∨ sz ≤ q9) (fun v9 H9 => ∃ b h8, v9 = some (.ref b) ∧ sz ≤ b ∧ sz ≤ h8 ∧ At G ho (iA G nh (fun k9 => d (6 + k9))) H9 ∧ At G b (.inr (1, [.ref h8])) H9 ∧ At G h8 (iA G (nh + 1) (fun k9 => hoD d nh v (6 + k9))) H9) := by
  refine Wr.ofW (by decide) (Nat.le_of_ble_eq_true rfl) (fun p e s m below meth c ls E hG hE hP hr hk hin hl => ?_)
  have hS : va_S (fun q9 => q9 = ho ∨ sz ≤ q9) s.heap s.heap [] := va_S.rf
  have hx := E.1
  have hb := E.2.1
  have hl : lv_has ls 3 [(0, .ref ca), (1, .int v)] := hl
  obtain ⟨hz0, f_ca, f_ho⟩ := hP
  have hEA : ∀ q9, q9 = ho ∨ sz ≤ q9 → EFA G q9 := fun q9 h9 => h9.elim (fun z9 => by rw [z9]; exact hEo) (fun z9 => Nat.le_trans hz1 z9)
  refine lv_aload_n hx hb dX1_withHoliday_0 rfl (lv_at hl 0 rfl) ?_
  refine gf_X1_7 E hG f_ca rfl dX1_withHoliday_1 ?_
  refine lv_aload_n hx hb dX1_withHoliday_4 rfl (lv_at hl 0 rfl) ?_
  refine gf_X1_7 E hG f_ca rfl dX1_withHoliday_5 ?_
  refine g_len (t0 := 1) (v := (nI nh)) E hG f_ho rfl rfl dX1_withHoliday_8 ?_
  refine lv_iconst (v := 1) hx hb dX1_withHoliday_9 rfl ?_
  refine lv_iadd hx hb dX1_withHoliday_10 ?_
  refine lv_ci (y := nI (nh + 1)) (ixq (nI_ad rfl rfl)) ?_
  refine Wr.callS (rest := []) (c_J7_copyOf_59c91 (sz := sz) l G (n := nh) (by omega) (fun _ => rfl) (nh + 1) (by omega)) yk_J7_copyOf_59c91 E km_X1_13 dX1_withHoliday_11 hG (hE.S hS hEA) ⟨hz0, f_ho⟩ rfl rfl hl.1 ⟨Nat.le_of_ble_eq_true rfl, Nat.le_of_ble_eq_true rfl⟩ ⟨show 0 + 1 ≤ 2 by omega, show 0 + (nh + 1) ≤ nh + 2 by omega⟩ (Nat.le_of_ble_eq_true rfl) hS (fun _ h9 => h9) (fun v9 H locs hq hz9 hfr9 hS => ?_)
  obtain ⟨b_1, rfl, hg_1, f_ho9, f_1⟩ := hq
  have hfr8 : ∀ q : Nat, q < s.heap.size → H[q]? = s.heap[q]? := fun q9 h9 => by
    by_cases e9 : q9 = ho
    · rw [e9]; exact arr_eq f_ho9 f_ho
    · exact hfr9 q9 h9 (fun z9 => z9.elim e9 (fun y9 => by omega))
  have hlc := va_at.lt f_ca
  have hlo := va_at.lt f_ho
  have ne_ca_b_1 : ca ≠ b_1 := by omega
  have ne_ho_b_1 : ho ≠ b_1 := by omega
  have f_ca : At G ca (.inr (1, [.ref ho])) H := va_at.kept f_ca (hfr8 _ hlc)
  have f_ho : At G ho (.inl (G.2.1 1, nh, .inl (fun k9 => d (6 + k9)))) H := f_ho9
  refine lv_astore_n (lv' := [(2, .ref b_1), (0, .ref ca), (1, .int v)]) hx hb dX1_withHoliday_14 rfl hl (by decide) rfl (fun ls hl => ?_)
  refine lv_aload_n hx hb dX1_withHoliday_15 rfl (lv_at hl 0 rfl) ?_
  refine lv_aload_n hx hb dX1_withHoliday_16 rfl (lv_at hl 1 rfl) ?_
  refine gf_X1_7 E hG f_ca rfl dX1_withHoliday_17 ?_
  refine g_len (t0 := 1) (v := (nI nh)) E hG f_ho rfl rfl dX1_withHoliday_20 ?_
  refine lv_iload_n hx hb dX1_withHoliday_21 rfl (lv_at hl 2 rfl) ?_
  refine g_ist nh E hG f_1 rfl (by omega) (by omega) hS (Or.inr hg_1) dX1_withHoliday_22 (fun H locs f_1 hz oq hS => ?_)
  have f_ca : At G ca (.inr (1, [.ref ho])) H := oth f_ca ne_ca_b_1 oq
  have f_ho : At G ho (.inl (G.2.1 1, nh, .inl (fun k9 => d (6 + k9)))) H := oth f_ho ne_ho_b_1 oq
  have f_1 : At G b_1 (.inl (G.2.1 1, (nh + 1), .inl (upd (fun j => if j < nh then d (6 + j) else 0) nh v))) H := f_1
  refine n_new (ci := 1) (fs := [.null]) (ty := tyX1) inX1 tyX1_ok rfl kl_X1_8 kn_X1 kin_X1 df_X1 E hG hS (Nat.le_of_eq hz0.symm) (show 0 + 1 + 1 ≤ 2 by omega) (show 0 + (nh + 1) + 1 ≤ nh + 2 by omega) dX1_withHoliday_23 (fun b_2 H hb_2 hg_2 f_2 hz oq hS => ?_)
  have ne_ca_b_2 : ca ≠ b_2 := fun z9 => absurd (va_at.lt f_ca) (by rw [z9, hb_2]; exact Nat.lt_irrefl _)
  have ne_ho_b_2 : ho ≠ b_2 := fun z9 => absurd (va_at.lt f_ho) (by rw [z9, hb_2]; exact Nat.lt_irrefl _)
  have ne_b_1_b_2 : b_1 ≠ b_2 := fun z9 => absurd (va_at.lt f_1) (by rw [z9, hb_2]; exact Nat.lt_irrefl _)
  have f_ca : At G ca (.inr (1, [.ref ho])) H := olt f_ca oq
  have f_ho : At G ho (.inl (G.2.1 1, nh, .inl (fun k9 => d (6 + k9)))) H := olt f_ho oq
  have f_1 : At G b_1 (.inl (G.2.1 1, (nh + 1), .inl (upd (fun j => if j < nh then d (6 + j) else 0) nh v))) H := olt f_1 oq
  refine lv_dup hx hb dX1_withHoliday_26 rfl ?_
  refine lv_aload_n hx hb dX1_withHoliday_27 rfl (lv_at hl 0 rfl) ?_
  refine Wr.callI (rest := [.ref b_2]) (c_X1_init l G b_1) yk_X1_init E km_X1_19 dX1_withHoliday_28 hG (hE.S hS hEA) f_2 rfl rfl hl.1 ⟨Nat.le_of_ble_eq_true rfl, Nat.le_of_ble_eq_true rfl⟩ ⟨(show 0 + 1 + 1 + 0 ≤ 2 by omega), (show 0 + (nh + 1) + 1 + 0 ≤ nh + 2 by omega)⟩ (Nat.le_of_ble_eq_true rfl) hS (fun q9 h9 => by rw [h9]; exact (Or.inr hg_2)) (fun v9 H locs hq hz9 hfr9 hS => ?_)
  have f_ca : At G ca (.inr (1, [.ref ho])) H := va_at.kept f_ca (hfr9 _ (va_at.lt f_ca) ne_ca_b_2)
  have f_ho : At G ho (.inl (G.2.1 1, nh, .inl (fun k9 => d (6 + k9)))) H := va_at.kept f_ho (hfr9 _ (va_at.lt f_ho) ne_ho_b_2)
  have f_1 : At G b_1 (.inl (G.2.1 1, (nh + 1), .inl (upd (fun j => if j < nh then d (6 + j) else 0) nh v))) H := va_at.kept f_1 (hfr9 _ (va_at.lt f_1) ne_b_1_b_2)
  obtain ⟨rfl, f_2⟩ := hq
  exact wr_ref E hr (by first | exact Or.inl ⟨_, rfl⟩ | exact Or.inr ⟨_, rfl⟩) hk hS (show 0 + 1 + 1 + 0 ≤ 2 by omega) (show 0 + (nh + 1) + 1 + 0 ≤ nh + 2 by omega) (⟨b_2, b_1, rfl, hg_2, hg_1, f_ho, f_2, At.congr f_1 hoD_ar⟩) dX1_withHoliday_31

set_option maxHeartbeats 4000000 in
set_option maxRecDepth 100000 in
/-- readHoliday -/
theorem c_X6_readHoliday (l : Launch) (G : CG) {sL sz x bk tx fs : Nat} {fg fc : Int32} {bf : Nat → Int32} (hB : ByO bf) (n : Nat) (hn9 : n ≤ 900) (hzL : EFA G sL) (hxL : sL ≤ x) (htL : sL ≤ tx) (ne_tx_x : tx ≠ x) (s9 : Nat) (hs9 : s9 ≤ n) {d : Nat → Int32} {nc nh : Nat} (hh : nh ≤ 16) : Wr l yX6_readHoliday cX6_readHoliday 1 ((Option.none : Option FieldType)) 3 104 3 22 G [.ref x] (fun H9 => H9.size = sz ∧ At G x (.inr (6, rdF 0 (-1) bk tx (kd bf n s9) (nI s9) (nI (te bf n s9)) (va bf n s9) fg fs fc)) H9 ∧ At G tx (bA G n (sB bf)) H9 ∧ BK G (AL sL x tx) bk d nc 0 nh H9) (fun q9 => sL ≤ q9) (fun v9 H9 => v9 = none ∧ ∃ er es ki st en vv bk1, At G x (.inr (6, rdF er es bk1 tx ki st en vv fg fs fc)) H9 ∧ At G tx (bA G n (sB bf)) H9 ∧ TK bf n (pl (hs1 bf n s9 d nh)) er es ki st en vv ∧ ∀ s8 v8, (hs1 bf n s9 d nh) = .ok (s8, v8) → BK G (AL sL x tx) bk1 (hoD d nh v8) nc 0 (nh + 1) H9) := by
  refine Wr.ofW (by decide) (Nat.le_of_ble_eq_true rfl) (fun p e s m below meth c ls E hG hE hP hr hk hin hl => ?_)
  have hS : va_S (fun q9 => sL ≤ q9) s.heap s.heap [] := va_S.rf
  have hx := E.1
  have hb := E.2.1
  have hl : lv_has ls 1 [(0, .ref x)] := hl
  obtain ⟨hz0, f_x, f_tx, hB0⟩ := hP
  have hEx : EFA G x := Nat.le_trans hzL hxL
  have hLz : sL ≤ sz := by have := va_at.lt f_x; omega
  have hEA : ∀ q9, sL ≤ q9 → EFA G q9 := fun q9 h9 => Nat.le_trans hzL h9
  have hfm : ∀ q : Nat, q < sz → q ≠ x → s.heap[q]? = s.heap[q]? := fun q9 _ _ => rfl
  have hsz : sz ≤ s.heap.size := Nat.le_of_eq hz0.symm
  have hlx0 := va_at.lt f_x
  have hlt0 := va_at.lt f_tx
  obtain ⟨ca, ho, fe, cr, pr, cA, pA, k1, k2, k3, k4, k5, k6, k7, k8⟩ := id hB0
  have htb := te_b hB hs9
  have r9 : Rg 0 999 := ⟨0, 999, rfl, rfl, by decide, by decide⟩
  by_cases hkd : kd bf n s9 = 1001
  · by_cases hir : inV (va bf n s9) 0 999 = 1
    · have hN := numF_ok hB r9 hkd hir
      obtain ⟨a8, ev8, -, ha8⟩ := numF_v (lo := 0) (hi := 999) hB hs9 (by decide) (by decide) hN
      have ec : (va bf n s9).toNatClampNeg = a8 := by rw [ev8]; exact nI_clamp (by omega)
      refine lv_aload_n hx hb dX6_readHoliday_0 rfl (lv_at hl 0 rfl) ?_
      refine lv_iconst (v := 0) hx hb dX6_readHoliday_1 rfl ?_
      refine lv_sipush (v := 999) hx hb dX6_readHoliday_2 rfl ?_
      refine Wr.callV (rest := []) (c_X6_isNumberFrom l G hB n hn9 hEx ne_tx_x s9 hs9 0 999 hkd hir) yk_X6_isNumberFrom E km_X6_78 dX6_readHoliday_5 hG (hE.S hS hEA) ⟨f_x, f_tx⟩ (At.recv hG f_x rfl) rfl rfl hl.1 ⟨Nat.le_of_ble_eq_true rfl, Nat.le_of_ble_eq_true rfl⟩ ⟨(show 0 + 0 ≤ 3 by omega), (show 0 + 0 ≤ 22 by omega)⟩ (Nat.le_of_ble_eq_true rfl) hS (fun q9 h9 => by rw [h9]; exact hxL) (fun v9 H locs hq hz9 hfr9 hS => ?_)
      have f_tx : At G tx (.inl (G.2.1 0, n, .inl (sB bf))) H := va_at.kept f_tx (hfr9 _ (va_at.lt f_tx) ne_tx_x)
      have hfm : ∀ q : Nat, q < sz → q ≠ x → H[q]? = s.heap[q]? := fun q9 h9 h8 => (hfr9 q9 (Nat.lt_of_lt_of_le h9 hsz) h8).trans (hfm q9 h9 h8)
      have hsz : sz ≤ H.size := Nat.le_trans hsz hz9
      obtain ⟨rfl, f_x⟩ := hq
      refine lv_if_ne (tgt := 12) hx hb dX6_readHoliday_8 (by decide) (fun c_8 => ?_) (fun c_8 => ?_)
      rotate_left
      · exact absurd c_8 (by decide)
      refine lv_aload_n hx hb dX6_readHoliday_12 rfl (lv_at hl 0 rfl) ?_
      refine gf_X6_28 E hG f_x rfl dX6_readHoliday_13 ?_
      refine gf_X6_82 E hG (kfm k1 hz0 hfm) rfl dX6_readHoliday_16 ?_
      refine lv_aload_n hx hb dX6_readHoliday_19 rfl (lv_at hl 0 rfl) ?_
      refine gf_X6_86 E hG f_x rfl dX6_readHoliday_20 ?_
      refine Rd.callV (rest := []) (c_X1_isHoliday l G (va bf n s9) a8 ev8 hh) yk_X1_isHoliday E km_X6_89 dX6_readHoliday_23 hG (hE.S hS hEA) ⟨kfm k2 hz0 hfm, kfm k3 hz0 hfm⟩ (At.recv hG (kfm k2 hz0 hfm) rfl) rfl rfl hl.1 ⟨Nat.le_of_ble_eq_true rfl, Nat.le_of_ble_eq_true rfl⟩ ⟨(show 0 + 0 ≤ 3 by omega), (show 0 + 0 ≤ 22 by omega)⟩ (Nat.le_of_ble_eq_true rfl) ?_
      refine lv_if_eq (tgt := 38) hx hb dX6_readHoliday_26 (by decide) (fun c_26 => ?_) (fun c_26 => ?_)
      · rw [ite10] at c_26
        have hnh : ¬ hol d (va bf n s9).toNatClampNeg nh = true := by rw [ec]; exact c_26
        refine lv_aload_n hx hb dX6_readHoliday_38 rfl (lv_at hl 0 rfl) ?_
        refine gf_X6_28 E hG f_x rfl dX6_readHoliday_39 ?_
        refine gf_X6_82 E hG (kfm k1 hz0 hfm) rfl dX6_readHoliday_42 ?_
        refine Rd.callV (rest := []) (c_X1_isFull l G hh) yk_X1_isFull E km_X6_93 dX6_readHoliday_45 hG (hE.S hS hEA) ⟨kfm k2 hz0 hfm, kfm k3 hz0 hfm⟩ (At.recv hG (kfm k2 hz0 hfm) rfl) rfl rfl hl.1 ⟨Nat.le_of_ble_eq_true rfl, Nat.le_of_ble_eq_true rfl⟩ ⟨(show 0 + 0 ≤ 3 by omega), (show 0 + 0 ≤ 22 by omega)⟩ (Nat.le_of_ble_eq_true rfl) ?_
        refine lv_if_eq (tgt := 60) hx hb dX6_readHoliday_48 (by decide) (fun c_48 => ?_) (fun c_48 => ?_)
        · rw [ite01] at c_48
          have h16 : nh < 16 := c_48
          have ef := hs1_ok (d := d) (nh := nh) hN hnh (by omega)
          have hoL : sL ≤ ho := Nat.not_lt.mp (fun z9 => k3.2 (Or.inl z9))
          have hox : ho ≠ x := fun z9 => k3.2 (Or.inr (Or.inl z9))
          refine lv_aload_n hx hb dX6_readHoliday_60 rfl (lv_at hl 0 rfl) ?_
          refine lv_aload_n hx hb dX6_readHoliday_61 rfl (lv_at hl 0 rfl) ?_
          refine gf_X6_28 E hG f_x rfl dX6_readHoliday_62 ?_
          refine lv_aload_n hx hb dX6_readHoliday_65 rfl (lv_at hl 0 rfl) ?_
          refine gf_X6_28 E hG f_x rfl dX6_readHoliday_66 ?_
          refine gf_X6_82 E hG (kfm k1 hz0 hfm) rfl dX6_readHoliday_69 ?_
          refine lv_aload_n hx hb dX6_readHoliday_72 rfl (lv_at hl 0 rfl) ?_
          refine gf_X6_86 E hG f_x rfl dX6_readHoliday_73 ?_
          have f_o := kfm k3 hz0 hfm
          have hlx := va_at.lt f_x
          have hlt := va_at.lt f_tx
          refine Wr.callV (rest := [.ref bk, .ref x]) (c_X1_withHoliday (sz := H.size) (nh := nh) (d := d) l G (Nat.le_trans hzL (Nat.le_trans hLz hsz)) (Nat.le_trans hzL hoL) h16 (va bf n s9)) yk_X1_withHoliday E km_X6_97 dX6_readHoliday_76 hG (hE.S hS hEA) ⟨rfl, kfm k2 hz0 hfm, f_o⟩ (At.recv hG (kfm k2 hz0 hfm) rfl) rfl rfl hl.1 ⟨Nat.le_of_ble_eq_true rfl, Nat.le_of_ble_eq_true rfl⟩ ⟨(show 0 + 0 + 2 ≤ 3 by omega), (show 0 + 0 + (nh + 2) ≤ 22 by omega)⟩ (Nat.le_of_ble_eq_true rfl) hS (fun q9 h9 => h9.elim (fun z9 => by rw [z9]; exact hoL) (fun z9 => Nat.le_trans hLz (Nat.le_trans hsz z9))) (fun v9 H locs hq hz9 hfr9 hS => ?_)
          obtain ⟨c8, h8, rfl, hg8, hg7, f_o9, f_c8, f_h8⟩ := hq
          have hfr8 := fr_all f_o9 f_o hfr9
          have f_x : At G x (.inr (6, [.int 0, .int (-1), .ref bk, .ref tx, .int (kd bf n s9), .int (nI s9), .int (nI (te bf n s9)), .int (va bf n s9), .int fg, .ref fs, .int fc])) H := va_at.kept f_x (hfr8 _ hlx)
          have f_tx : At G tx (.inl (G.2.1 0, n, .inl (sB bf))) H := va_at.kept f_tx (hfr8 _ hlt)
          have hn8 : ¬ AL sL x tx c8 := al_new hg8 (Nat.le_trans hLz hsz) hlx hlt
          have hn7 : ¬ AL sL x tx h8 := al_new hg7 (Nat.le_trans hLz hsz) hlx hlt
          have hfm : ∀ q : Nat, q < sz → q ≠ x → H[q]? = s.heap[q]? := fun q9 h9 h8 => (hfr8 q9 (Nat.lt_of_lt_of_le h9 hsz)).trans (hfm q9 h9 h8)
          have hsz : sz ≤ H.size := Nat.le_trans hsz hz9
          refine Wr.callV (rest := [.ref x]) (c_X0_withCalendar (sz := H.size) (AO := AL sL x tx) (d := d) (d9 := hoD d nh (va bf n s9)) (nc := nc) (nh := nh) (nh9 := nh + 1) l G (Nat.le_trans hzL (Nat.le_trans hLz hsz)) (fun q9 h9 => by have := va_at.lt f_x; have := va_at.lt f_tx; rcases h9 with z9 | z9 | z9 <;> omega) (hoD_cr h16) (hoD_fs h16) (hoD_o (by omega) (by omega)).symm) yk_X0_withCalendar E km_X6_101 dX6_readHoliday_79 hG (hE.S hS hEA) ⟨rfl, bk_fm hB0 hz0 hfm, ⟨f_c8, hn8⟩, ⟨f_h8, hn7⟩⟩ (At.recv hG (kfm k1 hz0 hfm) rfl) rfl rfl hl.1 ⟨Nat.le_of_ble_eq_true rfl, Nat.le_of_ble_eq_true rfl⟩ ⟨(show 0 + 0 + 2 + 1 ≤ 3 by omega), (show 0 + 0 + (nh + 2) + 5 ≤ 22 by omega)⟩ (Nat.le_of_ble_eq_true rfl) hS (fun q9 h9 => Nat.le_trans hLz (Nat.le_trans hsz h9)) (fun v9 H locs hq hz9 hfr9 hS => ?_)
          have f_x : At G x (.inr (6, [.int 0, .int (-1), .ref bk, .ref tx, .int (kd bf n s9), .int (nI s9), .int (nI (te bf n s9)), .int (va bf n s9), .int fg, .ref fs, .int fc])) H := va_at.kept f_x (hfr9 _ (va_at.lt f_x) (Nat.not_le.mpr (va_at.lt f_x)))
          have f_tx : At G tx (.inl (G.2.1 0, n, .inl (sB bf))) H := va_at.kept f_tx (hfr9 _ (va_at.lt f_tx) (Nat.not_le.mpr (va_at.lt f_tx)))
          have hfm : ∀ q : Nat, q < sz → q ≠ x → H[q]? = s.heap[q]? := fun q9 h9 h8 => (hfr9 q9 (Nat.lt_of_lt_of_le h9 hsz) (Nat.not_le.mpr (Nat.lt_of_lt_of_le h9 hsz))).trans (hfm q9 h9 h8)
          have hsz : sz ≤ H.size := Nat.le_trans hsz hz9
          obtain ⟨b_9, rfl, hBN⟩ := hq
          refine pf_X6_28 E hG f_x (Nat.le_of_ble_eq_true rfl) rfl rfl hS hxL dX6_readHoliday_82 (fun H locs f_x hz oq hS => ?_)
          have f_tx : At G tx (.inl (G.2.1 0, n, .inl (sB bf))) H := oth f_tx ne_tx_x oq
          have f_x : At G x (.inr (6, [.int 0, .int (-1), .ref b_9, .ref tx, .int (kd bf n s9), .int (nI s9), .int (nI (te bf n s9)), .int (va bf n s9), .int fg, .ref fs, .int fc])) H := f_x
          have hfm : ∀ q : Nat, q < sz → q ≠ x → H[q]? = s.heap[q]? := fun q9 h9 h8 => (oq q9 h8).trans (hfm q9 h9 h8)
          have hsz : sz ≤ H.size := by omega
          have hBN : BK G (AL sL x tx) b_9 (hoD d nh (va bf n s9)) nc 0 (nh + 1) H := hBN.kept (fun q9 _ h8 => oq q9 (fun z9 => h8 (Or.inr (Or.inl z9))))
          refine lv_aload_n hx hb dX6_readHoliday_85 rfl (lv_at hl 0 rfl) ?_
          refine Wr.callV (rest := []) (c_X6_nextToken l G hB n hn9 hEx ne_tx_x (te bf n s9) (by omega)) yk_X6_nextToken E km_X6_36 dX6_readHoliday_86 hG (hE.S hS hEA) ⟨f_x, f_tx⟩ (At.recv hG f_x rfl) rfl rfl hl.1 ⟨Nat.le_of_ble_eq_true rfl, Nat.le_of_ble_eq_true rfl⟩ ⟨(show 0 + 0 + 2 + 1 + 0 ≤ 3 by omega), (show 0 + 0 + (nh + 2) + 5 + 0 ≤ 22 by omega)⟩ (Nat.le_of_ble_eq_true rfl) hS (fun q9 h9 => by rw [h9]; exact hxL) (fun v9 H locs hq hz9 hfr9 hS => ?_)
          have f_tx : At G tx (.inl (G.2.1 0, n, .inl (sB bf))) H := va_at.kept f_tx (hfr9 _ (va_at.lt f_tx) ne_tx_x)
          have hfm : ∀ q : Nat, q < sz → q ≠ x → H[q]? = s.heap[q]? := fun q9 h9 h8 => (hfr9 q9 (Nat.lt_of_lt_of_le h9 hsz) h8).trans (hfm q9 h9 h8)
          have hsz : sz ≤ H.size := Nat.le_trans hsz hz9
          obtain ⟨rfl, er, es, ki, st, en, vv, f_x, hTK⟩ := hq
          have hBN : BK G (AL sL x tx) b_9 (hoD d nh (va bf n s9)) nc 0 (nh + 1) H := hBN.kept (fun q9 h9 h8 => hfr9 q9 h9 (fun z9 => h8 (Or.inr (Or.inl z9))))
          exact wr_void E hr hk hS (show 0 + 0 + 2 + 1 + 0 ≤ 3 by omega) (show 0 + 0 + (nh + 2) + 5 + 0 ≤ 22 by omega) (⟨rfl, _, _, _, _, _, _, b_9, f_x, f_tx, by rw [ef]; exact hTK, fun _ _ z => by rw [ef] at z; cases z; exact hBN⟩) dX6_readHoliday_89
        · rw [ite01] at c_48
          have ef := hs1_fu (d := d) (nh := nh) hN hnh (by omega)
          refine lv_aload_n hx hb dX6_readHoliday_51 rfl (lv_at hl 0 rfl) ?_
          refine lv_bipush (v := (-4)) hx hb dX6_readHoliday_52 rfl ?_
          refine Wr.callV (rest := []) (c_X6_fail l G hEx (-4) rfl) yk_X6_fail E km_X6_65 dX6_readHoliday_54 hG (hE.S hS hEA) f_x (At.recv hG f_x rfl) rfl rfl hl.1 ⟨Nat.le_of_ble_eq_true rfl, Nat.le_of_ble_eq_true rfl⟩ ⟨(show 0 + 0 + 0 ≤ 3 by omega), (show 0 + 0 + 0 ≤ 22 by omega)⟩ (Nat.le_of_ble_eq_true rfl) hS (fun q9 h9 => by rw [h9]; exact hxL) (fun v9 H locs hq hz9 hfr9 hS => ?_)
          have f_tx : At G tx (.inl (G.2.1 0, n, .inl (sB bf))) H := va_at.kept f_tx (hfr9 _ (va_at.lt f_tx) ne_tx_x)
          have hfm : ∀ q : Nat, q < sz → q ≠ x → H[q]? = s.heap[q]? := fun q9 h9 h8 => (hfr9 q9 (Nat.lt_of_lt_of_le h9 hsz) h8).trans (hfm q9 h9 h8)
          have hsz : sz ≤ H.size := Nat.le_trans hsz hz9
          obtain ⟨rfl, f_x⟩ := hq
          refine lv_goto (tgt := 89) hx hb dX6_readHoliday_57 (by decide) ?_
          exact wr_void E hr hk hS (show 0 + 0 + 0 ≤ 3 by omega) (show 0 + 0 + 0 ≤ 22 by omega) (⟨rfl, _, _, _, _, _, _, _, f_x, f_tx, by rw [ef]; exact ⟨rfl, by decide, rfl, hs9, rfl⟩, fun _ _ z => by rw [ef] at z; cases z⟩) dX6_readHoliday_89
      · rw [ite10] at c_26
        have ef := hs1_tw (d := d) (nh := nh) hN (by rw [ec]; exact Decidable.not_not.mp c_26)
        refine lv_aload_n hx hb dX6_readHoliday_29 rfl (lv_at hl 0 rfl) ?_
        refine lv_bipush (v := (-3)) hx hb dX6_readHoliday_30 rfl ?_
        refine Wr.callV (rest := []) (c_X6_fail l G hEx (-3) rfl) yk_X6_fail E km_X6_65 dX6_readHoliday_32 hG (hE.S hS hEA) f_x (At.recv hG f_x rfl) rfl rfl hl.1 ⟨Nat.le_of_ble_eq_true rfl, Nat.le_of_ble_eq_true rfl⟩ ⟨(show 0 + 0 + 0 ≤ 3 by omega), (show 0 + 0 + 0 ≤ 22 by omega)⟩ (Nat.le_of_ble_eq_true rfl) hS (fun q9 h9 => by rw [h9]; exact hxL) (fun v9 H locs hq hz9 hfr9 hS => ?_)
        have f_tx : At G tx (.inl (G.2.1 0, n, .inl (sB bf))) H := va_at.kept f_tx (hfr9 _ (va_at.lt f_tx) ne_tx_x)
        have hfm : ∀ q : Nat, q < sz → q ≠ x → H[q]? = s.heap[q]? := fun q9 h9 h8 => (hfr9 q9 (Nat.lt_of_lt_of_le h9 hsz) h8).trans (hfm q9 h9 h8)
        have hsz : sz ≤ H.size := Nat.le_trans hsz hz9
        obtain ⟨rfl, f_x⟩ := hq
        refine lv_goto (tgt := 89) hx hb dX6_readHoliday_35 (by decide) ?_
        exact wr_void E hr hk hS (show 0 + 0 + 0 ≤ 3 by omega) (show 0 + 0 + 0 ≤ 22 by omega) (⟨rfl, _, _, _, _, _, _, _, f_x, f_tx, by rw [ef]; exact ⟨rfl, by decide, rfl, hs9, rfl⟩, fun _ _ z => by rw [ef] at z; cases z⟩) dX6_readHoliday_89
    · have ef := hs1_er (d := d) (nh := nh) (numF_r hB r9 hkd hir)
      refine lv_aload_n hx hb dX6_readHoliday_0 rfl (lv_at hl 0 rfl) ?_
      refine lv_iconst (v := 0) hx hb dX6_readHoliday_1 rfl ?_
      refine lv_sipush (v := 999) hx hb dX6_readHoliday_2 rfl ?_
      refine Wr.callV (rest := []) (c_X6_isNumberFrom_r l G hB n hn9 hEx ne_tx_x s9 hs9 0 999 hkd hir) yk_X6_isNumberFrom E km_X6_78 dX6_readHoliday_5 hG (hE.S hS hEA) ⟨f_x, f_tx⟩ (At.recv hG f_x rfl) rfl rfl hl.1 ⟨Nat.le_of_ble_eq_true rfl, Nat.le_of_ble_eq_true rfl⟩ ⟨(show 0 + 0 ≤ 3 by omega), (show 0 + 0 ≤ 22 by omega)⟩ (Nat.le_of_ble_eq_true rfl) hS (fun q9 h9 => by rw [h9]; exact hxL) (fun v9 H locs hq hz9 hfr9 hS => ?_)
      have f_tx : At G tx (.inl (G.2.1 0, n, .inl (sB bf))) H := va_at.kept f_tx (hfr9 _ (va_at.lt f_tx) ne_tx_x)
      have hfm : ∀ q : Nat, q < sz → q ≠ x → H[q]? = s.heap[q]? := fun q9 h9 h8 => (hfr9 q9 (Nat.lt_of_lt_of_le h9 hsz) h8).trans (hfm q9 h9 h8)
      have hsz : sz ≤ H.size := Nat.le_trans hsz hz9
      obtain ⟨rfl, f_x⟩ := hq
      refine lv_if_ne (tgt := 12) hx hb dX6_readHoliday_8 (by decide) (fun c_8 => ?_) (fun c_8 => ?_)
      · exact absurd c_8 (by decide)
      · exact wr_void E hr hk hS (show 0 + 0 ≤ 3 by omega) (show 0 + 0 ≤ 22 by omega) (⟨rfl, _, _, _, _, _, _, _, f_x, f_tx, by rw [ef]; exact ⟨rfl, by decide, rfl, hs9, rfl⟩, fun _ _ z => by rw [ef] at z; cases z⟩) dX6_readHoliday_11
  · have ef := hs1_er (d := d) (nh := nh) (numF_k (lo := 0) (hi := 999) hB hkd)
    refine lv_aload_n hx hb dX6_readHoliday_0 rfl (lv_at hl 0 rfl) ?_
    refine lv_iconst (v := 0) hx hb dX6_readHoliday_1 rfl ?_
    refine lv_sipush (v := 999) hx hb dX6_readHoliday_2 rfl ?_
    refine Wr.callV (rest := []) (c_X6_isNumberFrom_x l G hB n hn9 hEx ne_tx_x s9 hs9 0 999 hkd) yk_X6_isNumberFrom E km_X6_78 dX6_readHoliday_5 hG (hE.S hS hEA) ⟨f_x, f_tx⟩ (At.recv hG f_x rfl) rfl rfl hl.1 ⟨Nat.le_of_ble_eq_true rfl, Nat.le_of_ble_eq_true rfl⟩ ⟨(show 0 + 0 ≤ 3 by omega), (show 0 + 0 ≤ 22 by omega)⟩ (Nat.le_of_ble_eq_true rfl) hS (fun q9 h9 => by rw [h9]; exact hxL) (fun v9 H locs hq hz9 hfr9 hS => ?_)
    have f_tx : At G tx (.inl (G.2.1 0, n, .inl (sB bf))) H := va_at.kept f_tx (hfr9 _ (va_at.lt f_tx) ne_tx_x)
    have hfm : ∀ q : Nat, q < sz → q ≠ x → H[q]? = s.heap[q]? := fun q9 h9 h8 => (hfr9 q9 (Nat.lt_of_lt_of_le h9 hsz) h8).trans (hfm q9 h9 h8)
    have hsz : sz ≤ H.size := Nat.le_trans hsz hz9
    obtain ⟨rfl, f_x⟩ := hq
    refine lv_if_ne (tgt := 12) hx hb dX6_readHoliday_8 (by decide) (fun c_8 => ?_) (fun c_8 => ?_)
    · exact absurd c_8 (by decide)
    · exact wr_void E hr hk hS (show 0 + 0 ≤ 3 by omega) (show 0 + 0 ≤ 22 by omega) (⟨rfl, _, _, _, _, _, _, _, f_x, f_tx, by rw [ef]; exact ⟨rfl, by decide, rfl, hs9, rfl⟩, fun _ _ z => by rw [ef] at z; cases z⟩) dX6_readHoliday_11

set_option maxHeartbeats 4000000 in
set_option maxRecDepth 100000 in
/-- readHolidays -/
theorem c_X6_readHolidays (l : Launch) (G : CG) {sL sz x bk tx fs : Nat} {fg fc : Int32} {bf : Nat → Int32} (hB : ByO bf) (n : Nat) (hn9 : n ≤ 900) (hzL : EFA G sL) (hxL : sL ≤ x) (htL : sL ≤ tx) (ne_tx_x : tx ≠ x) (s9 : Nat) (hs9 : s9 ≤ n) {d : Nat → Int32} {nc nh : Nat} (hh : nh ≤ 16) : Wr l yX6_readHolidays cX6_readHolidays 2 ((Option.none : Option FieldType)) 4 124 (3 * hoM (hoF bf n (n + 1) (spc bf n (te bf n s9)) d nh) nh) (22 * hoM (hoF bf n (n + 1) (spc bf n (te bf n s9)) d nh) nh) G [.ref x] (fun H9 => H9.size = sz ∧ At G x (.inr (6, rdF 0 (-1) bk tx (kd bf n s9) (nI s9) (nI (te bf n s9)) (va bf n s9) fg fs fc)) H9 ∧ At G tx (bA G n (sB bf)) H9 ∧ BK G (AL sL x tx) bk d nc 0 nh H9) (fun q9 => sL ≤ q9) (fun v9 H9 => v9 = none ∧ ∃ er es ki st en vv bk1, At G x (.inr (6, rdF er es bk1 tx ki st en vv fg fs fc)) H9 ∧ At G tx (bA G n (sB bf)) H9 ∧ TK bf n (pl (hoF bf n (n + 1) (spc bf n (te bf n s9)) d nh)) er es ki st en vv ∧ ∀ s8 d8 k8, (hoF bf n (n + 1) (spc bf n (te bf n s9)) d nh) = .ok (s8, d8, k8) → BK G (AL sL x tx) bk1 d8 nc 0 k8 H9) := by
  refine Wr.ofW (by decide) (Nat.le_of_ble_eq_true rfl) (fun p e s m below meth c ls E hG hE hP hr hk hin hl => ?_)
  have hS : va_S (fun q9 => sL ≤ q9) s.heap s.heap [] := va_S.rf
  have hx := E.1
  have hb := E.2.1
  have hl : lv_has ls 2 [(0, .ref x)] := hl
  obtain ⟨hz0, f_x, f_tx, hB0⟩ := hP
  have hEx : EFA G x := Nat.le_trans hzL hxL
  have hLz : sL ≤ sz := by have := va_at.lt f_x; omega
  have hEA : ∀ q9, sL ≤ q9 → EFA G q9 := fun q9 h9 => Nat.le_trans hzL h9
  have hfm : ∀ q : Nat, q < sz → q ≠ x → s.heap[q]? = s.heap[q]? := fun q9 _ _ => rfl
  have hsz : sz ≤ s.heap.size := Nat.le_of_eq hz0.symm
  have hlx0 := va_at.lt f_x
  have hlt0 := va_at.lt f_tx
  have htb := te_b hB hs9
  have hsb := sk_b (bf := bf) htb.2
  have hM := hoM_b (bf := bf) (n := n) (j := n + 1) (s := spc bf n (te bf n s9)) (d := d) rfl (Nat.le_refl nh) hh
  rw [Nat.sub_self] at hM
  refine lv_aload_n hx hb dX6_readHolidays_0 rfl (lv_at hl 0 rfl) ?_
  refine Wr.callV (rest := []) (c_X6_nextToken l G hB n hn9 hEx ne_tx_x (te bf n s9) (by omega)) yk_X6_nextToken E km_X6_36 dX6_readHolidays_1 hG (hE.S hS hEA) ⟨f_x, f_tx⟩ (At.recv hG f_x rfl) rfl rfl hl.1 ⟨Nat.le_of_ble_eq_true rfl, Nat.le_of_ble_eq_true rfl⟩ ⟨(show 0 + 0 ≤ 3 * hoM (hoF bf n (n + 1) (spc bf n (te bf n s9)) d nh) nh by omega), (show 0 + 0 ≤ 22 * hoM (hoF bf n (n + 1) (spc bf n (te bf n s9)) d nh) nh by omega)⟩ (Nat.le_of_ble_eq_true rfl) hS (fun q9 h9 => by rw [h9]; exact hxL) (fun v9 H locs hq hz9 hfr9 hS => ?_)
  have f_tx : At G tx (.inl (G.2.1 0, n, .inl (sB bf))) H := va_at.kept f_tx (hfr9 _ (va_at.lt f_tx) ne_tx_x)
  obtain ⟨rfl, er, es, ki, st, en, vv, f_x, hTK⟩ := hq
  have hBK : BK G (AL sL x tx) bk d nc 0 nh H := hB0.kept (fun q9 h9 h8 => hfr9 q9 h9 (fun z9 => h8 (Or.inr (Or.inl z9))))
  obtain ⟨her, hes, hs_g, hst, hki, hen, hvv⟩ := hTK
  subst her hes hst hki hen hvv
  refine lv_aload_n hx hb dX6_readHolidays_4 rfl (lv_at hl 0 rfl) ?_
  refine Wr.callV (rest := []) (c_X6_readHoliday (sz := H.size) l G hB n hn9 hzL hxL htL ne_tx_x (spc bf n (te bf n s9)) hsb.2 (d := d) (nc := nc) (nh := nh) hh) yk_X6_readHoliday E km_X6_73 dX6_readHolidays_5 hG (hE.S hS hEA) ⟨rfl, f_x, f_tx, hBK⟩ (At.recv hG f_x rfl) rfl rfl hl.1 ⟨Nat.le_of_ble_eq_true rfl, Nat.le_of_ble_eq_true rfl⟩ ⟨(show 0 + 0 + 3 ≤ 3 * hoM (hoF bf n (n + 1) (spc bf n (te bf n s9)) d nh) nh by omega), (show 0 + 0 + 22 ≤ 22 * hoM (hoF bf n (n + 1) (spc bf n (te bf n s9)) d nh) nh by omega)⟩ (Nat.le_of_ble_eq_true rfl) hS (fun _ h9 => h9) (fun v9 H locs hq hz9 hfr9 hS => ?_)
  obtain ⟨rfl, er, es, ki, st, en, vv, bk2, f_x, f_tx, hTK, hBN⟩ := hq
  rcases hh1 : hs1 bf n (spc bf n (te bf n s9)) d nh with ⟨c7, o7⟩ | ⟨s7, v7⟩
  · rw [hh1] at hTK
    have hki := hTK.2.2.2.2
    subst hki
    refine lv_iconst (v := 0) hx hb dX6_readHolidays_8 rfl ?_
    refine lv_ci (y := nI 0) (ixq rfl) ?_
    refine lv_istore_n (lv' := [(1, .int (nI 0)), (0, .ref x)]) hx hb dX6_readHolidays_9 rfl hl (by decide) rfl (fun ls hl => ?_)
    refine lv_iload_n hx hb dX6_readHolidays_10 rfl (lv_at hl 0 rfl) ?_
    refine lv_aload_n hx hb dX6_readHolidays_11 rfl (lv_at hl 1 rfl) ?_
    refine gf_X6_9 E hG f_x rfl dX6_readHolidays_12 ?_
    refine g_len (t0 := 0) (v := (nI n)) E hG f_tx rfl rfl dX6_readHolidays_15 ?_
    refine lv_icmp_ge (tgt := 39) hx hb dX6_readHolidays_16 (by decide) (fun c_16 => ?_) (fun c_16 => ?_)
    · have c_16 : n ≤ 0 := (nLE (x := (nI n)) (y := (nI 0)) (a := n) (b := 0) rfl rfl (by omega) (by omega)).mp c_16
      exact wr_void E hr hk hS (show 0 + 0 + 3 ≤ 3 * hoM (hoF bf n (n + 1) (spc bf n (te bf n s9)) d nh) nh by omega) (show 0 + 0 + 22 ≤ 22 * hoM (hoF bf n (n + 1) (spc bf n (te bf n s9)) d nh) nh by omega) (⟨rfl, _, _, _, _, _, _, _, f_x, f_tx, by rw [hoF_er hh1]; exact hTK, fun _ _ _ z => by rw [hoF_er hh1] at z; cases z⟩) dX6_readHolidays_39
    · have c_16 : ¬ n ≤ 0 := fun z9 => c_16 ((nLE (x := (nI n)) (y := (nI 0)) (a := n) (b := 0) rfl rfl (by omega) (by omega)).mpr z9)
      refine lv_aload_n hx hb dX6_readHolidays_19 rfl (lv_at hl 1 rfl) ?_
      refine gf_X6_39 E hG f_x rfl dX6_readHolidays_20 ?_
      refine lv_sipush (v := 1001) hx hb dX6_readHolidays_23 rfl ?_
      refine lv_icmp_ne (tgt := 39) hx hb dX6_readHolidays_26 (by decide) (fun c_26 => ?_) (fun c_26 => ?_)
      · exact wr_void E hr hk hS (show 0 + 0 + 3 ≤ 3 * hoM (hoF bf n (n + 1) (spc bf n (te bf n s9)) d nh) nh by omega) (show 0 + 0 + 22 ≤ 22 * hoM (hoF bf n (n + 1) (spc bf n (te bf n s9)) d nh) nh by omega) (⟨rfl, _, _, _, _, _, _, _, f_x, f_tx, by rw [hoF_er hh1]; exact hTK, fun _ _ _ z => by rw [hoF_er hh1] at z; cases z⟩) dX6_readHolidays_39
      · exact absurd c_26 (by decide)
  · rw [hh1] at hTK
    have hBK := hBN _ _ hh1
    obtain ⟨hn1, -, h16⟩ := hs1_inv hh1
    have hnb := numF_b hB hsb.2 hn1
    have hs7 : s7 ≤ n := hnb.2.1
    have hTK : TK bf n (.ok s7) er es ki st en vv := hTK
    obtain ⟨her, hes, hs_g, hst, hki, hen, hvv⟩ := hTK
    subst her hes hst hki hen hvv
    refine lv_iconst (v := 0) hx hb dX6_readHolidays_8 rfl ?_
    refine lv_ci (y := nI 0) (ixq rfl) ?_
    refine lv_istore_n (lv' := [(1, .int (nI 0)), (0, .ref x)]) hx hb dX6_readHolidays_9 rfl hl (by decide) rfl (fun ls hl => ?_)
    rw [show 0 + 0 + 3 = 3 * (nh + 1 - nh) by omega, show 0 + 0 + 22 = 22 * (nh + 1 - nh) by omega]
    have loop : ∀ (j i s1 nh1 bk1 : Nat) (d1 : Nat → Int32), n < s1 + j → i ≤ s1 → s1 ≤ n → nh1 ≤ 16 → nh ≤ nh1 → (if inV (bt bf n s1) 48 57 = 1 then hoF bf n j s1 d1 nh1 else .ok (s1, d1, nh1)) = (hoF bf n (n + 1) (spc bf n (te bf n s9)) d nh) → ∀ (H : Heap) (locs : List Loc), At G x (.inr (6, [.int 0, .int (-1), .ref bk1, .ref tx, .int (kd bf n s1), .int (nI s1), .int (nI (te bf n s1)), .int (va bf n s1), .int fg, .ref fs, .int fc])) H → At G tx (.inl (G.2.1 0, n, .inl (sB bf))) H → BK G (AL sL x tx) bk1 d1 nc 0 nh1 H → va_S (fun q9 => sL ≤ q9) s.heap H locs → ∀ ls : Array Slot, lv_has ls 2 [(1, .int (nI i)), (0, .ref x)] → W p l e { frames := 4, cells := 3 * hoM (hoF bf n (n + 1) (spc bf n (te bf n s9)) d nh) nh, slots := 22 * hoM (hoF bf n (n + 1) (spc bf n (te bf n s9)) d nh) nh, locals := 124 } s m ([.ref x] : List Value).toArray below meth c H locs (3 * (nh1 - nh)) (22 * (nh1 - nh)) (WQ below ([.ref x] : List Value).toArray s (3 * hoM (hoF bf n (n + 1) (spc bf n (te bf n s9)) d nh) nh) (22 * hoM (hoF bf n (n + 1) (spc bf n (te bf n s9)) d nh) nh) (fun q9 => sL ≤ q9) (fun v9 H9 => v9 = none ∧ ∃ er es ki st en vv bk1, At G x (.inr (6, rdF er es bk1 tx ki st en vv fg fs fc)) H9 ∧ At G tx (bA G n (sB bf)) H9 ∧ TK bf n (pl (hoF bf n (n + 1) (spc bf n (te bf n s9)) d nh)) er es ki st en vv ∧ ∀ s8 d8 k8, (hoF bf n (n + 1) (spc bf n (te bf n s9)) d nh) = .ok (s8, d8, k8) → BK G (AL sL x tx) bk1 d8 nc 0 k8 H9)) (F0 m 10 ls []) := by
      intro j
      induction j with
      | zero => intro i s1 nh1 bk1 d1 z1 z2 z3; omega
      | succ j ih =>
        intro i s1 nh1 bk1 d1 z1 z2 z3 hh1 hhl z4 H locs f_x f_tx hBK hS ls hl
        have htb1 := te_b hB z3
        refine lv_iload_n hx hb dX6_readHolidays_10 rfl (lv_at hl 0 rfl) ?_
        refine lv_aload_n hx hb dX6_readHolidays_11 rfl (lv_at hl 1 rfl) ?_
        refine gf_X6_9 E hG f_x rfl dX6_readHolidays_12 ?_
        refine g_len (t0 := 0) (v := (nI n)) E hG f_tx rfl rfl dX6_readHolidays_15 ?_
        refine lv_icmp_ge (tgt := 39) hx hb dX6_readHolidays_16 (by decide) (fun c_16 => ?_) (fun c_16 => ?_)
        · have c_16 : n ≤ i := (nLE (x := (nI n)) (y := (nI i)) (a := n) (b := i) rfl rfl (by omega) (by omega)).mp c_16
          have hnd : ¬ inV (bt bf n s1) 48 57 = 1 := by rw [bt_out (by omega)]; decide
          rw [if_neg hnd] at z4
          have hMk : nh1 - nh = hoM (hoF bf n (n + 1) (spc bf n (te bf n s9)) d nh) nh := by rw [← z4]; rfl
          exact wr_void E hr hk hS (show 3 * (nh1 - nh) ≤ 3 * hoM (hoF bf n (n + 1) (spc bf n (te bf n s9)) d nh) nh by omega) (show 22 * (nh1 - nh) ≤ 22 * hoM (hoF bf n (n + 1) (spc bf n (te bf n s9)) d nh) nh by omega) (⟨rfl, _, _, _, _, _, _, _, f_x, f_tx, by rw [← z4]; exact ⟨rfl, rfl, z3, rfl, rfl, rfl, rfl⟩, fun _ _ _ z => by rw [← z4] at z; cases z; exact hBK⟩) dX6_readHolidays_39
        · have c_16 : ¬ n ≤ i := fun z9 => c_16 ((nLE (x := (nI n)) (y := (nI i)) (a := n) (b := i) rfl rfl (by omega) (by omega)).mpr z9)
          refine lv_aload_n hx hb dX6_readHolidays_19 rfl (lv_at hl 1 rfl) ?_
          refine gf_X6_39 E hG f_x rfl dX6_readHolidays_20 ?_
          refine lv_sipush (v := 1001) hx hb dX6_readHolidays_23 rfl ?_
          refine lv_icmp_ne (tgt := 39) hx hb dX6_readHolidays_26 (by decide) (fun c_26 => ?_) (fun c_26 => ?_)
          · have hnd : ¬ inV (bt bf n s1) 48 57 = 1 := fun z9 => c_26 ((kd_num hB).mpr z9)
            rw [if_neg hnd] at z4
            have hMk : nh1 - nh = hoM (hoF bf n (n + 1) (spc bf n (te bf n s9)) d nh) nh := by rw [← z4]; rfl
            exact wr_void E hr hk hS (show 3 * (nh1 - nh) ≤ 3 * hoM (hoF bf n (n + 1) (spc bf n (te bf n s9)) d nh) nh by omega) (show 22 * (nh1 - nh) ≤ 22 * hoM (hoF bf n (n + 1) (spc bf n (te bf n s9)) d nh) nh by omega) (⟨rfl, _, _, _, _, _, _, _, f_x, f_tx, by rw [← z4]; exact ⟨rfl, rfl, z3, rfl, rfl, rfl, rfl⟩, fun _ _ _ z => by rw [← z4] at z; cases z; exact hBK⟩) dX6_readHolidays_39
          · have hnd := (kd_num hB).mp c_26
            rw [if_pos hnd] at z4
            have hlt := kd_lt c_26 (by decide)
            have hM1 := hoM_b z4 hhl hh1
            refine lv_aload_n hx hb dX6_readHolidays_29 rfl (lv_at hl 1 rfl) ?_
            refine Wr.callV (rest := []) (c_X6_readHoliday (sz := H.size) l G hB n hn9 hzL hxL htL ne_tx_x s1 z3 (d := d1) (nc := nc) (nh := nh1) hh1) yk_X6_readHoliday E km_X6_73 dX6_readHolidays_30 hG (hE.S hS hEA) ⟨rfl, f_x, f_tx, hBK⟩ (At.recv hG f_x rfl) rfl rfl hl.1 ⟨Nat.le_of_ble_eq_true rfl, Nat.le_of_ble_eq_true rfl⟩ ⟨(show 3 * (nh1 - nh) + 3 ≤ 3 * hoM (hoF bf n (n + 1) (spc bf n (te bf n s9)) d nh) nh by omega), (show 22 * (nh1 - nh) + 22 ≤ 22 * hoM (hoF bf n (n + 1) (spc bf n (te bf n s9)) d nh) nh by omega)⟩ (Nat.le_of_ble_eq_true rfl) hS (fun _ h9 => h9) (fun v9 H locs hq hz9 hfr9 hS => ?_)
            obtain ⟨rfl, er, es, ki, st, en, vv, bk2, f_x, f_tx, hTK, hBN⟩ := hq
            rcases hh2 : hs1 bf n s1 d1 nh1 with ⟨c7, o7⟩ | ⟨s7, v7⟩
            · rw [hh2] at hTK
              have hki := hTK.2.2.2.2
              subst hki
              refine lv_iinc (v := (nI (i + 1))) (lv' := [(1, .int (nI (i + 1))), (0, .ref x)]) hx hb dX6_readHolidays_33 hl (k := 0) rfl (nI_ad rfl rfl) (by decide) rfl (fun ls hl => ?_)
              refine lv_goto (tgt := 10) hx hb dX6_readHolidays_36 (by decide) ?_
              refine lv_iload_n hx hb dX6_readHolidays_10 rfl (lv_at hl 0 rfl) ?_
              refine lv_aload_n hx hb dX6_readHolidays_11 rfl (lv_at hl 1 rfl) ?_
              refine gf_X6_9 E hG f_x rfl dX6_readHolidays_12 ?_
              refine g_len (t0 := 0) (v := (nI n)) E hG f_tx rfl rfl dX6_readHolidays_15 ?_
              refine lv_icmp_ge (tgt := 39) hx hb dX6_readHolidays_16 (by decide) (fun c_16 => ?_) (fun c_16 => ?_)
              · have c_16 : n ≤ i + 1 := (nLE (x := (nI n)) (y := (nI (i + 1))) (a := n) (b := i + 1) rfl rfl (by omega) (by omega)).mp c_16
                exact wr_void E hr hk hS (show 3 * (nh1 - nh) + 3 ≤ 3 * hoM (hoF bf n (n + 1) (spc bf n (te bf n s9)) d nh) nh by omega) (show 22 * (nh1 - nh) + 22 ≤ 22 * hoM (hoF bf n (n + 1) (spc bf n (te bf n s9)) d nh) nh by omega) (⟨rfl, _, _, _, _, _, _, _, f_x, f_tx, by rw [← z4, hoF_er hh2]; exact hTK, fun _ _ _ z => by rw [← z4, hoF_er hh2] at z; cases z⟩) dX6_readHolidays_39
              · have c_16 : ¬ n ≤ i + 1 := fun z9 => c_16 ((nLE (x := (nI n)) (y := (nI (i + 1))) (a := n) (b := i + 1) rfl rfl (by omega) (by omega)).mpr z9)
                refine lv_aload_n hx hb dX6_readHolidays_19 rfl (lv_at hl 1 rfl) ?_
                refine gf_X6_39 E hG f_x rfl dX6_readHolidays_20 ?_
                refine lv_sipush (v := 1001) hx hb dX6_readHolidays_23 rfl ?_
                refine lv_icmp_ne (tgt := 39) hx hb dX6_readHolidays_26 (by decide) (fun c_26 => ?_) (fun c_26 => ?_)
                · exact wr_void E hr hk hS (show 3 * (nh1 - nh) + 3 ≤ 3 * hoM (hoF bf n (n + 1) (spc bf n (te bf n s9)) d nh) nh by omega) (show 22 * (nh1 - nh) + 22 ≤ 22 * hoM (hoF bf n (n + 1) (spc bf n (te bf n s9)) d nh) nh by omega) (⟨rfl, _, _, _, _, _, _, _, f_x, f_tx, by rw [← z4, hoF_er hh2]; exact hTK, fun _ _ _ z => by rw [← z4, hoF_er hh2] at z; cases z⟩) dX6_readHolidays_39
                · exact absurd c_26 (by decide)
            · rw [hh2] at hTK
              have hBK := hBN _ _ hh2
              obtain ⟨hn1, -, h16⟩ := hs1_inv hh2
              have hnb := numF_b hB z3 hn1
              have hs7 : s7 ≤ n := hnb.2.1
              have hTK : TK bf n (.ok s7) er es ki st en vv := hTK
              obtain ⟨her, hes, hs_g, hst, hki, hen, hvv⟩ := hTK
              subst her hes hst hki hen hvv
              refine lv_iinc (v := (nI (i + 1))) (lv' := [(1, .int (nI (i + 1))), (0, .ref x)]) hx hb dX6_readHolidays_33 hl (k := 0) rfl (nI_ad rfl rfl) (by decide) rfl (fun ls hl => ?_)
              refine lv_goto (tgt := 10) hx hb dX6_readHolidays_36 (by decide) ?_
              rw [show 3 * (nh1 - nh) + 3 = 3 * (nh1 + 1 - nh) by omega, show 22 * (nh1 - nh) + 22 = 22 * (nh1 + 1 - nh) by omega]
              exact ih (i + 1) s7 (nh1 + 1) bk2 _ (by have := hnb.1; omega) (by have := hnb.1; omega) hs7 (by omega) (by omega) (by rw [← z4]; by_cases h3 : inV (bt bf n s7) 48 57 = 1; (rw [if_pos h3, hoF_go hh2 h3]); (rw [if_neg h3, hoF_end hh2 h3])) H locs f_x f_tx hBK hS ls (lv_sub hl [0, 1] rfl)
    exact loop n 0 s7 (nh + 1) bk2 _ (by have := hnb.1; omega) (by omega) hs7 (by omega) (by omega) (by by_cases h3 : inV (bt bf n s7) 48 57 = 1; (rw [if_pos h3]; exact (hoF_go hh1 h3).symm); (rw [if_neg h3]; exact (hoF_end hh1 h3).symm)) _ _ f_x f_tx hBK hS ls (lv_sub hl [0, 1] rfl)
