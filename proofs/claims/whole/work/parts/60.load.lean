/-! READING: load of the class -/
set_option maxHeartbeats 4000000 in
set_option maxRecDepth 100000 in
/-- SetupReader -/
theorem c_X6_init (l : Launch) (G : CG) {sL sz x tx : Nat} (hzL : EFA G sL) (hxL : sL ≤ x) (ne_tx_x : tx ≠ x) (hLz : sL ≤ sz) (htz : tx < sz) : Wr l yX6_init cX6_init 2 ((Option.none : Option FieldType)) 3 64 7 7 G [.ref x, .ref tx] (fun H9 => H9.size = sz ∧ At G x (.inr (6, [.int 0, .int 0, .null, .null, .int 0, .int 0, .int 0, .int 0, .int 0, .null, .int 0])) H9) (fun q9 => q9 = x ∨ sz ≤ q9) (fun v9 H9 => v9 = none ∧ ∃ bk fs, At G x (.inr (6, rdF 0 (-1) bk tx 0 0 (nI 0) 0 0 fs (nI 0))) H9 ∧ BK G (AL sL x tx) bk (fun _ => 0) 0 0 0 H9) := by
  refine Wr.ofW (by decide) (Nat.le_of_ble_eq_true rfl) (fun p e s m below meth c ls E hG hE hP hr hk hin hl => ?_)
  have hS : va_S (fun q9 => q9 = x ∨ sz ≤ q9) s.heap s.heap [] := va_S.rf
  have hx := E.1
  have hb := E.2.1
  have hl : lv_has ls 2 [(0, .ref x), (1, .ref tx)] := hl
  obtain ⟨hz0, f_x⟩ := hP
  have hlx0 := va_at.lt f_x
  have hEA : ∀ q9, q9 = x ∨ sz ≤ q9 → EFA G q9 := fun q9 h9 => h9.elim (fun z9 => by rw [z9]; exact Nat.le_trans hzL hxL) (fun z9 => Nat.le_trans hzL (Nat.le_trans hLz z9))
  refine lv_aload_n hx hb dX6_init_0 rfl (lv_at hl 0 rfl) ?_
  refine W.objInit hx hb E.2.2.2.1 (E.2.2.2.2 _ km_X6_3) (E.2.2.2.2 _ ki_objInit) (E.2.2.2.2 _ kc_objInit) rfl (by rw [E.2.2.1]; exact hl.1) rfl dX6_init_1 (Nat.le_of_ble_eq_true rfl) (Nat.le_of_ble_eq_true rfl) ?_
  refine lv_aload_n hx hb dX6_init_4 rfl (lv_at hl 0 rfl) ?_
  refine lv_aload_n hx hb dX6_init_5 rfl (lv_at hl 1 rfl) ?_
  refine pf_X6_9 E hG (hin rfl) f_x (Nat.le_of_ble_eq_true rfl) rfl rfl hS (Or.inl rfl) dX6_init_6 (fun H locs f_x hz oq hS => ?_)
  have f_x : At G x (.inr (6, [.int 0, .int 0, .null, .ref tx, .int 0, .int 0, .int 0, .int 0, .int 0, .null, .int 0])) H := f_x
  refine lv_aload_n hx hb dX6_init_9 rfl (lv_at hl 0 rfl) ?_
  refine lv_iconst (v := 0) hx hb dX6_init_10 rfl ?_
  refine pf_X6_15 E hG f_x (Nat.le_of_ble_eq_true rfl) rfl rfl hS (Or.inl rfl) dX6_init_11 (fun H locs f_x hz oq hS => ?_)
  have f_x : At G x (.inr (6, [.int 0, .int 0, .null, .ref tx, .int 0, .int 0, .int 0, .int 0, .int 0, .null, .int 0])) H := f_x
  refine lv_aload_n hx hb dX6_init_14 rfl (lv_at hl 0 rfl) ?_
  refine lv_iconst (v := (-1)) hx hb dX6_init_15 rfl ?_
  refine pf_X6_19 E hG f_x (Nat.le_of_ble_eq_true rfl) rfl rfl hS (Or.inl rfl) dX6_init_16 (fun H locs f_x hz oq hS => ?_)
  have f_x : At G x (.inr (6, [.int 0, .int (-1), .null, .ref tx, .int 0, .int 0, .int 0, .int 0, .int 0, .null, .int 0])) H := f_x
  refine lv_aload_n hx hb dX6_init_19 rfl (lv_at hl 0 rfl) ?_
  have hgz : sz ≤ H.size := Nat.le_trans (Nat.le_of_eq hz0.symm) hS.1
  have hlx1 := va_at.lt f_x
  refine Wr.callS (rest := [.ref x]) (c_X0_ofEmptySetup (AO := AL sL x tx) (sz := H.size) (d := fun _ => 0) l G (Nat.le_trans hzL (Nat.le_trans hLz hgz)) (fun q9 h9 => by rcases h9 with z9 | z9 | z9 <;> omega) rfl rfl) yk_X0_ofEmptySetup E km_X6_22 dX6_init_20 hG (hE.S hS hEA) rfl rfl rfl hl.1 ⟨Nat.le_of_ble_eq_true rfl, Nat.le_of_ble_eq_true rfl⟩ ⟨(show 0 + 6 ≤ 7 by omega), (show 0 + 7 ≤ 7 by omega)⟩ (Nat.le_of_ble_eq_true rfl) hS (fun q9 h9 => Or.inr (Nat.le_trans hgz h9)) (fun v9 H locs hq hz9 hfr9 hS => ?_)
  obtain ⟨b9, rfl, hg9, hB9⟩ := hq
  have f_x : At G x (.inr (6, [.int 0, .int (-1), .null, .ref tx, .int 0, .int 0, .int 0, .int 0, .int 0, .null, .int 0])) H := va_at.kept f_x (hfr9 _ hlx1 (Nat.not_le.mpr hlx1))
  refine pf_X6_28 E hG f_x (Nat.le_of_ble_eq_true rfl) rfl rfl hS (Or.inl rfl) dX6_init_23 (fun H locs f_x hz oq hS => ?_)
  have f_x : At G x (.inr (6, [.int 0, .int (-1), .ref b9, .ref tx, .int 0, .int 0, .int 0, .int 0, .int 0, .null, .int 0])) H := f_x
  have hB9 : BK G (AL sL x tx) b9 (fun _ => 0) 0 0 0 H := hB9.kept (fun q9 h9 h8 => oq q9 (fun z9 => h8 (Or.inr (Or.inl z9))))
  refine lv_aload_n hx hb dX6_init_26 rfl (lv_at hl 0 rfl) ?_
  refine lv_iconst (v := 0) hx hb dX6_init_27 rfl ?_
  refine n_newa (atype := .int) (N := 0) (x := (0, .inl (fun _ => 0))) (t0 := 1) rfl ka_int (by exact Or.inl rfl) rfl E hG hS (Nat.le_of_eq hz0.symm) rfl (by omega) (show 0 + 6 + 1 ≤ 7 by omega) (show 0 + 7 + 0 ≤ 7 by omega) dX6_init_28 (fun b_1 H hb_1 hg_1 f_1 hz oq hS => ?_)
  have ne_x_b_1 : x ≠ b_1 := fun z9 => absurd (va_at.lt f_x) (by rw [z9, hb_1]; exact Nat.lt_irrefl _)
  have f_x : At G x (.inr (6, [.int 0, .int (-1), .ref b9, .ref tx, .int 0, .int 0, .int 0, .int 0, .int 0, .null, .int 0])) H := olt f_x oq
  have hB9 : BK G (AL sL x tx) b9 (fun _ => 0) 0 0 0 H := hB9.kept (fun q9 h9 h8 => oq q9 h9)
  refine pf_X6_32 E hG f_x (Nat.le_of_ble_eq_true rfl) rfl rfl hS (Or.inl rfl) dX6_init_30 (fun H locs f_x hz oq hS => ?_)
  have f_1 : At G b_1 (.inl (G.2.1 1, 0, .inl (fun _ => 0))) H := oth f_1 (Ne.symm ne_x_b_1) oq
  have f_x : At G x (.inr (6, [.int 0, .int (-1), .ref b9, .ref tx, .int 0, .int 0, .int 0, .int 0, .int 0, .ref b_1, .int 0])) H := f_x
  have hB9 : BK G (AL sL x tx) b9 (fun _ => 0) 0 0 0 H := hB9.kept (fun q9 h9 h8 => oq q9 (fun z9 => h8 (Or.inr (Or.inl z9))))
  exact wr_void E hr hk hS (show 0 + 6 + 1 ≤ 7 by omega) (show 0 + 7 + 0 ≤ 7 by omega) (⟨rfl, _, _, f_x, hB9⟩) dX6_init_33

set_option maxHeartbeats 4000000 in
set_option maxRecDepth 100000 in
/-- load, refused -/
theorem c_X7_load_x (l : Launch) (hst : l.stackTraces = false) (G : CG) {x bu bk pa : Nat} {bl es pn : Int32} {A : Nat → Prop} {d : Nat → Int32} {nc np nh : Nat} (z : Int32) (hz9 : inV z 0 bl = 0) : Tr l yX7_load cX7_load 3 ((Option.some FieldType.int)) 6 90 G [.ref x, .int z] (DK G A x bu bl es bk pa pn d nc np nh) "java/lang/IllegalArgumentException" := by
  refine Tr.ofW (by decide) (Nat.le_of_ble_eq_true rfl) (fun p e s m below meth c ls E hG hE hP htab hk hl => ?_)
  have hx := E.1
  have hb := E.2.1
  have hl : lv_has ls 3 [(0, .ref x), (1, .int z)] := hl
  obtain ⟨hX, hB⟩ := hP
  obtain ⟨ca, ho, fe, cr, pr, cA, pA, k1, k2, k3, k4, k5, k6, k7, k8⟩ := id hB
  have hz8 : ¬ (¬ z < 0 ∧ z ≤ bl) := fun y9 => by unfold inV at hz9; rw [if_neg y9.1, if_neg (Int32.not_lt.mpr y9.2)] at hz9; exact absurd hz9 (by decide)
  refine lv_iload_n hx hb dX7_load_0 rfl (lv_at hl 1 rfl) ?_
  refine lv_if_lt (tgt := 12) hx hb dX7_load_1 (by decide) (fun c_1 => ?_) (fun c_1 => ?_)
  · exact t_throw (text := "the buffer does not have that many bytes") (i := 9) hst thk_IAE (by decide +kernel) E hG hE htab hk hl.1 dX7_load_12 dX7_load_15 dX7_load_16 dX7_load_18 dX7_load_21 ⟨by decide, by decide, by decide, by decide⟩
  · refine lv_iload_n hx hb dX7_load_4 rfl (lv_at hl 1 rfl) ?_
    refine lv_aload_n hx hb dX7_load_5 rfl (lv_at hl 0 rfl) ?_
    refine gf_X7_13 E hG hX rfl dX7_load_6 ?_
    refine lv_icmp_le (tgt := 22) hx hb dX7_load_9 (by decide) (fun c_9 => ?_) (fun c_9 => ?_)
    · exact absurd ⟨c_1, c_9⟩ hz8
    · exact t_throw (text := "the buffer does not have that many bytes") (i := 9) hst thk_IAE (by decide +kernel) E hG hE htab hk hl.1 dX7_load_12 dX7_load_15 dX7_load_16 dX7_load_18 dX7_load_21 ⟨by decide, by decide, by decide, by decide⟩

set_option maxHeartbeats 4000000 in
set_option maxRecDepth 100000 in
/-- load -/
theorem c_X7_load (l : Launch) (G : CG) {x bu pa bk : Nat} {AO : Nat → Prop} {bb d : Nat → Int32} {es : Int32} {nc np nh u : Nat} {hi : Nat → Nat → Int32} (hD : DD G AO x bu pa) (hu : u ≤ 8) (hO : OkD d nc np nh) {sz : Nat} (hz1 : EFA G sz) (hAO : ∀ q, AO q → q < sz) {bf : Nat → Int32} (hB9 : ByO bf) (n b9 : Nat) (hbb : ∀ j, bb j = sB bf j) (hnb : n ≤ b9) (hb9 : b9 ≤ 900) (z : Int32) (ez : z = nI n) : Wr l yX7_load cX7_load 3 ((Option.some FieldType.int)) 27 600 109 3520 G [.ref x, .int z] (fun H9 => H9.size = sz ∧ DS G AO x bu pa bb (nI b9) es bk d nc np nh u hi H9) (DW x bu pa sz) (fun v9 H9 => (∃ c9 o9, ldF bf n = .error (c9, o9) ∧ v9 = some (.int c9) ∧ DS G AO x bu pa bb 0 (nI o9) bk d nc np nh u hi H9) ∨ (∃ s9 y9, ldF bf n = .ok (s9, y9) ∧ v9 = some (.int (nI y9.2.1)) ∧ ∃ k9, DS G AO x bu pa bb 0 (-1) k9 y9.1 y9.2.1 0 y9.2.2 (remU u) (remH hi d u) H9)) := by
  refine Wr.ofW (by decide) (Nat.le_of_ble_eq_true rfl) (fun p e s m below meth c ls E hG hE hP hr hk hin hl => ?_)
  have hS : va_S (DW x bu pa sz) s.heap s.heap [] := va_S.rf
  have hx := E.1
  have hb := E.2.1
  have hl : lv_has ls 3 [(0, .ref x), (1, .int z)] := hl
  obtain ⟨hz0, ⟨hX, hU, ⟨fq, hQ, hH⟩, hB⟩⟩ := hP
  obtain ⟨ca, ho, fe, cr, pr, cA, pA, k1, k2, k3, k4, k5, k6, k7, k8⟩ := id hB
  obtain ⟨-, ⟨ne_x_bu, ne_x_pa, ne_bu_pa⟩, -⟩ := id hD
  have f_x := hX
  have f_bu := hU
  have f_pa := hQ
  have hEA := hD.efa hz1
  have hN := hD.own hz0
  have hn9 : n ≤ 900 := by omega
  have hlx0 := va_at.lt f_x
  have hlu0 := va_at.lt f_bu
  have hlp0 := va_at.lt f_pa
  refine lv_iload_n hx hb dX7_load_0 rfl (lv_at hl 1 rfl) ?_
  refine lv_if_lt (tgt := 12) hx hb dX7_load_1 (by decide) (fun c_1 => ?_) (fun c_1 => ?_)
  · exact absurd c_1 (nI_nneg ez (by omega))
  refine lv_iload_n hx hb dX7_load_4 rfl (lv_at hl 1 rfl) ?_
  refine lv_aload_n hx hb dX7_load_5 rfl (lv_at hl 0 rfl) ?_
  refine gf_X7_13 E hG f_x rfl dX7_load_6 ?_
  refine lv_icmp_le (tgt := 22) hx hb dX7_load_9 (by decide) (fun c_9 => ?_) (fun c_9 => ?_)
  rotate_left
  · exact absurd ((nLE (x := z) (y := nI b9) (a := n) (b := b9) ez rfl (by omega) (by omega)).mpr hnb) c_9
  refine n_new (ci := 6) (fs := [.int 0, .int 0, .null, .null, .int 0, .int 0, .int 0, .int 0, .int 0, .null, .int 0]) (ty := tyX6) inX6 tyX6_ok rfl kl_X7_48 kn_X6 kin_X6 df_X6 E hG hS (Nat.le_of_eq hz0.symm) (show 0 + 1 ≤ 109 by omega) (show 0 + 11 ≤ 3520 by omega) dX7_load_22 (fun b_1 H hb_1 hg_1 f_1 hz oq hS => ?_)
  have ne_x_b_1 : x ≠ b_1 := fun z9 => absurd (va_at.lt f_x) (by rw [z9, hb_1]; exact Nat.lt_irrefl _)
  have ne_bu_b_1 : bu ≠ b_1 := fun z9 => absurd (va_at.lt f_bu) (by rw [z9, hb_1]; exact Nat.lt_irrefl _)
  have ne_pa_b_1 : pa ≠ b_1 := fun z9 => absurd (va_at.lt f_pa) (by rw [z9, hb_1]; exact Nat.lt_irrefl _)
  have f_x : At G x (.inr (7, [.ref bu, .int (nI b9), .int es, .ref bk, .ref pa, .int (nI u)])) H := olt f_x oq
  have f_bu : At G bu (.inl (G.2.1 0, 900, .inl bb)) H := olt f_bu oq
  have f_pa : At G pa (.inl (G.2.1 3, 8, .inr (.inr (.inr (.inr fq))))) H := olt f_pa oq
  refine lv_dup hx hb dX7_load_25 rfl ?_
  refine lv_aload_n hx hb dX7_load_26 rfl (lv_at hl 0 rfl) ?_
  refine gf_X7_9 E hG f_x rfl dX7_load_27 ?_
  refine lv_iload_n hx hb dX7_load_30 rfl (lv_at hl 1 rfl) ?_
  have hgz : sz ≤ H.size := Nat.le_trans (Nat.le_of_eq hz0.symm) hS.1
  have f_b0 := f_bu
  have hlx := va_at.lt f_x
  have hlp := va_at.lt f_pa
  have hl1 := va_at.lt f_1
  refine lv_ci (y := nI n) ez ?_
  refine Wr.callS (rest := [.ref b_1, .ref b_1]) (c_J7_copyOf_9075b (sz := H.size) l G (n := 900) (f := bb) (by decide) (fun j9 => by rw [hbb]; exact pk_fb _) n (by omega)) yk_J7_copyOf_9075b E km_X7_50 dX7_load_31 hG (hE.S hS hEA) ⟨rfl, f_bu⟩ rfl rfl hl.1 ⟨Nat.le_of_ble_eq_true rfl, Nat.le_of_ble_eq_true rfl⟩ ⟨(show 0 + 1 + 1 ≤ 109 by omega), (show 0 + 11 + n ≤ 3520 by omega)⟩ (Nat.le_of_ble_eq_true rfl) hS (fun q9 h9 => h9.elim (fun z9 => Or.inr (Or.inl z9)) (fun z9 => Or.inr (Or.inr (Or.inr (Nat.le_trans hgz z9))))) (fun v9 H locs hq hz9 hfr9 hS => ?_)
  obtain ⟨b_2, rfl, hg2, f_bu, f_2⟩ := hq
  have hfr8 := fr_all f_bu f_b0 hfr9
  have hg_2 : sz ≤ b_2 := Nat.le_trans hgz hg2
  have f_2 : At G b_2 (bA G n (sB bf)) H := At.congrB f_2 (fun j9 h9 => by rw [if_pos (by omega)]; exact hbb j9)
  have f_x : At G x (.inr (7, [.ref bu, .int (nI b9), .int es, .ref bk, .ref pa, .int (nI u)])) H := va_at.kept f_x (hfr8 _ hlx)
  have f_pa : At G pa (.inl (G.2.1 3, 8, .inr (.inr (.inr (.inr fq))))) H := va_at.kept f_pa (hfr8 _ hlp)
  have f_1 : At G b_1 (.inr (6, [.int 0, .int 0, .null, .null, .int 0, .int 0, .int 0, .int 0, .int 0, .null, .int 0])) H := va_at.kept f_1 (hfr8 _ hl1)
  have ne_x_b_2 : x ≠ b_2 := by omega
  have ne_bu_b_2 : bu ≠ b_2 := by omega
  have ne_pa_b_2 : pa ≠ b_2 := by omega
  have ne_b_1_b_2 : b_1 ≠ b_2 := by omega
  have hgz : sz ≤ H.size := Nat.le_trans (Nat.le_of_eq hz0.symm) hS.1
  have hlx := va_at.lt f_x
  have hlu := va_at.lt f_bu
  have hlp := va_at.lt f_pa
  have hl1 := va_at.lt f_1
  have hl2 := va_at.lt f_2
  refine Wr.callI (rest := [.ref b_1]) (c_X6_init (sL := sz) (sz := H.size) (x := b_1) (tx := b_2) l G hz1 hg_1 (Ne.symm ne_b_1_b_2) hgz hl2) yk_X6_init E km_X7_56 dX7_load_34 hG (hE.S hS hEA) ⟨rfl, f_1⟩ rfl rfl hl.1 ⟨Nat.le_of_ble_eq_true rfl, Nat.le_of_ble_eq_true rfl⟩ ⟨(show 0 + 1 + 1 + 7 ≤ 109 by omega), (show 0 + 11 + n + 7 ≤ 3520 by omega)⟩ (Nat.le_of_ble_eq_true rfl) hS (fun q9 h9 => h9.elim (fun z9 => by rw [z9]; exact Or.inr (Or.inr (Or.inr hg_1))) (fun z9 => Or.inr (Or.inr (Or.inr (Nat.le_trans hgz z9))))) (fun v9 H locs hq hz9 hfr9 hS => ?_)
  obtain ⟨rfl, bk9, fs9, f_1, hB1⟩ := hq
  have f_x : At G x (.inr (7, [.ref bu, .int (nI b9), .int es, .ref bk, .ref pa, .int (nI u)])) H := va_at.kept f_x (hfr9 _ hlx (by omega))
  have f_bu : At G bu (.inl (G.2.1 0, 900, .inl bb)) H := va_at.kept f_bu (hfr9 _ hlu (by omega))
  have f_pa : At G pa (.inl (G.2.1 3, 8, .inr (.inr (.inr (.inr fq))))) H := va_at.kept f_pa (hfr9 _ hlp (by omega))
  have f_2 : At G b_2 (.inl (G.2.1 0, n, .inl (sB bf))) H := va_at.kept f_2 (hfr9 _ hl2 (by omega))
  refine lv_astore_n (lv' := [(2, .ref b_1), (0, .ref x), (1, .int z)]) hx hb dX7_load_37 rfl hl (by decide) rfl (fun ls hl => ?_)
  refine lv_aload_n hx hb dX7_load_38 rfl (lv_at hl 0 rfl) ?_
  have hgz : sz ≤ H.size := Nat.le_trans (Nat.le_of_eq hz0.symm) hS.1
  have hlx := va_at.lt f_x
  have hlu := va_at.lt f_bu
  have hlp := va_at.lt f_pa
  refine Wr.callV (rest := []) (c_X6_readSetup (sL := sz) (sz := H.size) (x := b_1) (tx := b_2) l G hB9 n hn9 hz1 hg_1 hg_2 (Ne.symm ne_b_1_b_2)) yk_X6_readSetup E km_X7_59 dX7_load_39 hG (hE.S hS hEA) ⟨rfl, f_1, f_2, hB1⟩ (At.recv hG f_1 rfl) rfl rfl hl.1 ⟨Nat.le_of_ble_eq_true rfl, Nat.le_of_ble_eq_true rfl⟩ ⟨(show 0 + 1 + 1 + 7 + 100 ≤ 109 by omega), (show 0 + 11 + n + 7 + 2600 ≤ 3520 by omega)⟩ (Nat.le_of_ble_eq_true rfl) hS (fun q9 h9 => Or.inr (Or.inr (Or.inr h9))) (fun v9 H locs hq hz9 hfr9 hS => ?_)
  obtain ⟨rfl, er, es1, ki, st, en, vv, fg, bk8, fs8, fc, f_1, hTK, hBN⟩ := hq
  have f_x : At G x (.inr (7, [.ref bu, .int (nI b9), .int es, .ref bk, .ref pa, .int (nI u)])) H := va_at.kept f_x (hfr9 _ hlx (by omega))
  have f_bu : At G bu (.inl (G.2.1 0, 900, .inl bb)) H := va_at.kept f_bu (hfr9 _ hlu (by omega))
  have f_pa : At G pa (.inl (G.2.1 3, 8, .inr (.inr (.inr (.inr fq))))) H := va_at.kept f_pa (hfr9 _ hlp (by omega))
  rcases hld : ldF bf n with ⟨c7, o7⟩ | ⟨s7, y7⟩
  · rw [hld] at hTK
    obtain ⟨her, hc7, hes, ho7, -⟩ := hTK
    subst hes
    refine lv_aload_n hx hb dX7_load_42 rfl (lv_at hl 1 rfl) ?_
    refine lv_iconst (v := 0) hx hb dX7_load_43 rfl ?_
    refine pf_X7_13 E hG f_x (Nat.le_of_ble_eq_true rfl) rfl rfl hS (Or.inl rfl) dX7_load_44 (fun H locs f_x hz oq hS => ?_)
    have f_bu : At G bu (.inl (G.2.1 0, 900, .inl bb)) H := oth f_bu (Ne.symm ne_x_bu) oq
    have f_pa : At G pa (.inl (G.2.1 3, 8, .inr (.inr (.inr (.inr fq))))) H := oth f_pa (Ne.symm ne_x_pa) oq
    have f_1 : At G b_1 (.inr (6, [.int er, .int (nI o7), .ref bk8, .ref b_2, .int ki, .int st, .int en, .int vv, .int fg, .ref fs8, .int fc])) H := oth f_1 (Ne.symm ne_x_b_1) oq
    have f_x : At G x (.inr (7, [.ref bu, .int 0, .int es, .ref bk, .ref pa, .int (nI u)])) H := f_x
    refine lv_aload_n hx hb dX7_load_47 rfl (lv_at hl 1 rfl) ?_
    refine lv_aload_n hx hb dX7_load_48 rfl (lv_at hl 0 rfl) ?_
    refine gf_X7_62 E hG f_1 rfl dX7_load_49 ?_
    refine pf_X7_17 E hG f_x (Nat.le_of_ble_eq_true rfl) rfl rfl hS (Or.inl rfl) dX7_load_52 (fun H locs f_x hz oq hS => ?_)
    have f_bu : At G bu (.inl (G.2.1 0, 900, .inl bb)) H := oth f_bu (Ne.symm ne_x_bu) oq
    have f_pa : At G pa (.inl (G.2.1 3, 8, .inr (.inr (.inr (.inr fq))))) H := oth f_pa (Ne.symm ne_x_pa) oq
    have f_1 : At G b_1 (.inr (6, [.int er, .int (nI o7), .ref bk8, .ref b_2, .int ki, .int st, .int en, .int vv, .int fg, .ref fs8, .int fc])) H := oth f_1 (Ne.symm ne_x_b_1) oq
    have f_x : At G x (.inr (7, [.ref bu, .int 0, .int (nI o7), .ref bk, .ref pa, .int (nI u)])) H := f_x
    refine lv_aload_n hx hb dX7_load_55 rfl (lv_at hl 0 rfl) ?_
    refine gf_X7_63 E hG f_1 rfl dX7_load_56 ?_
    refine lv_if_eq (tgt := 67) hx hb dX7_load_59 (by decide) (fun c_59 => ?_) (fun c_59 => ?_)
    · exact absurd (her.symm.trans c_59) hc7
    · refine lv_aload_n hx hb dX7_load_62 rfl (lv_at hl 0 rfl) ?_
      refine gf_X7_63 E hG f_1 rfl dX7_load_63 ?_
      exact wr_int E hr hk hS (show 0 + 1 + 1 + 7 + 100 ≤ 109 by omega) (show 0 + 11 + n + 7 + 2600 ≤ 3520 by omega) (Or.inl ⟨c7, o7, rfl, by rw [her], ⟨f_x, f_bu, ⟨_, f_pa, fun j9 h9 => (hH j9 h9).kept (kq hS hN)⟩, BK.kept hB (kq hS hN)⟩⟩) dX7_load_66
  · rw [hld] at hTK
    obtain ⟨her, hes, -⟩ := hTK
    subst her hes
    obtain ⟨d7, n7, k7⟩ := y7
    have hB8 := (hBN _ _ hld).nar (A' := AO) (fun q9 _ h8 => Or.inl (hAO q9 h8))
    refine lv_aload_n hx hb dX7_load_42 rfl (lv_at hl 1 rfl) ?_
    refine lv_iconst (v := 0) hx hb dX7_load_43 rfl ?_
    refine pf_X7_13 E hG f_x (Nat.le_of_ble_eq_true rfl) rfl rfl hS (Or.inl rfl) dX7_load_44 (fun H locs f_x hz oq hS => ?_)
    have f_bu : At G bu (.inl (G.2.1 0, 900, .inl bb)) H := oth f_bu (Ne.symm ne_x_bu) oq
    have f_pa : At G pa (.inl (G.2.1 3, 8, .inr (.inr (.inr (.inr fq))))) H := oth f_pa (Ne.symm ne_x_pa) oq
    have f_1 : At G b_1 (.inr (6, [.int 0, .int (-1), .ref bk8, .ref b_2, .int ki, .int st, .int en, .int vv, .int fg, .ref fs8, .int fc])) H := oth f_1 (Ne.symm ne_x_b_1) oq
    have f_x : At G x (.inr (7, [.ref bu, .int 0, .int es, .ref bk, .ref pa, .int (nI u)])) H := f_x
    have hB8 : BK G AO bk8 d7 n7 0 k7 H := hB8.kept (fun q9 h9 h8 => oq q9 (fun z9 => h8 (by rw [z9]; exact hD.1.1)))
    refine lv_aload_n hx hb dX7_load_47 rfl (lv_at hl 1 rfl) ?_
    refine lv_aload_n hx hb dX7_load_48 rfl (lv_at hl 0 rfl) ?_
    refine gf_X7_62 E hG f_1 rfl dX7_load_49 ?_
    refine pf_X7_17 E hG f_x (Nat.le_of_ble_eq_true rfl) rfl rfl hS (Or.inl rfl) dX7_load_52 (fun H locs f_x hz oq hS => ?_)
    have f_bu : At G bu (.inl (G.2.1 0, 900, .inl bb)) H := oth f_bu (Ne.symm ne_x_bu) oq
    have f_pa : At G pa (.inl (G.2.1 3, 8, .inr (.inr (.inr (.inr fq))))) H := oth f_pa (Ne.symm ne_x_pa) oq
    have f_1 : At G b_1 (.inr (6, [.int 0, .int (-1), .ref bk8, .ref b_2, .int ki, .int st, .int en, .int vv, .int fg, .ref fs8, .int fc])) H := oth f_1 (Ne.symm ne_x_b_1) oq
    have f_x : At G x (.inr (7, [.ref bu, .int 0, .int (-1), .ref bk, .ref pa, .int (nI u)])) H := f_x
    have hB8 : BK G AO bk8 d7 n7 0 k7 H := hB8.kept (fun q9 h9 h8 => oq q9 (fun z9 => h8 (by rw [z9]; exact hD.1.1)))
    refine lv_aload_n hx hb dX7_load_55 rfl (lv_at hl 0 rfl) ?_
    refine gf_X7_63 E hG f_1 rfl dX7_load_56 ?_
    refine lv_if_eq (tgt := 67) hx hb dX7_load_59 (by decide) (fun c_59 => ?_) (fun c_59 => ?_)
    rotate_left
    · exact absurd c_59 (by decide)
    refine lv_aload_n hx hb dX7_load_67 rfl (lv_at hl 1 rfl) ?_
    refine lv_aload_n hx hb dX7_load_68 rfl (lv_at hl 0 rfl) ?_
    refine gf_X7_66 E hG f_1 rfl dX7_load_69 ?_
    refine Wr.callV (rest := []) (c_X7_changeTo l G hD hu hO) yk_X7_changeTo E km_X7_67 dX7_load_72 hG (hE.S hS hEA) ⟨⟨f_x, f_bu, ⟨_, f_pa, fun j9 h9 => (hH j9 h9).kept (kq hS hN)⟩, BK.kept hB (kq hS hN)⟩, hB8⟩ (At.recv hG f_x rfl) rfl rfl hl.1 ⟨Nat.le_of_ble_eq_true rfl, Nat.le_of_ble_eq_true rfl⟩ ⟨(show 0 + 1 + 1 + 7 + 100 + 0 ≤ 109 by omega), (show 0 + 11 + n + 7 + 2600 + 0 ≤ 3520 by omega)⟩ (Nat.le_of_ble_eq_true rfl) hS (fun q9 h9 => h9.elim Or.inl (fun z9 => Or.inr (Or.inr (Or.inl z9)))) (fun v9 H locs hq hz9 hfr9 hS => ?_)
    obtain ⟨rfl, hDS⟩ := hq
    obtain ⟨f_x, f_bu, ⟨fq2, f_pa, hH2⟩, hB2⟩ := id hDS
    obtain ⟨ca2, ho2, fe2, cr2, pr2, cA2, pA2, j1, j2, j3, j4, j5, j6, j7, j8⟩ := id hB2
    refine lv_aload_n hx hb dX7_load_75 rfl (lv_at hl 1 rfl) ?_
    refine gf_X7_26 E hG f_x rfl dX7_load_76 ?_
    refine gf_X7_71 E hG j1.1 rfl dX7_load_79 ?_
    refine g_len (t0 := 4) (v := (nI n7)) E hG j4.1 rfl rfl dX7_load_82 ?_
    exact wr_int E hr hk hS (show 0 + 1 + 1 + 7 + 100 + 0 ≤ 109 by omega) (show 0 + 11 + n + 7 + 2600 + 0 ≤ 3520 by omega) (Or.inr ⟨s7, (d7, n7, k7), rfl, rfl, bk8, hDS⟩) dX7_load_83

set_option maxHeartbeats 4000000 in
set_option maxRecDepth 100000 in
/-- load, refused -/
theorem c_X8_load_x (l : Launch) (G : CG) {B : Nat → Nat} {t bl tl ps er ea eo ud ns ne se : Int32} {bf da dr : Nat → Int32} {hi : Nat → Nat → Int32} {sk : Nat → Int64} (hD : MD G B) (x : Int32) (hz9 : inV x 0 bl = 0) : Wr l yX8_load cX8_load 3 ((Option.some FieldType.int)) 1 22 0 0 G [.ref (B 0), .int x] (MW G B (fm t bl tl ps er ea eo ud ns ne se) bf da dr hi sk) (MA B) (fun v9 H9 => v9 = some (.int 0) ∧ MW G B (fm 1 bl tl ps er ea eo ud ns ne se) bf da dr hi sk H9) := by
  refine Wr.ofW (by decide) (Nat.le_of_ble_eq_true rfl) (fun p e s m below meth c ls E hG hE hP hr hk hin hl => ?_)
  have hS : va_S (MA B) s.heap s.heap [] := va_S.rf
  have hx := E.1
  have hb := E.2.1
  have hl : lv_has ls 3 [(0, .ref (B 0)), (1, .int x)] := hl
  refine lv_aload_n hx hb dX8_load_0 rfl (lv_at hl 0 rfl) ?_
  refine lv_iconst (v := 0) hx hb dX8_load_1 rfl ?_
  refine pf_X8_32 E hG hP.1 (Nat.le_of_ble_eq_true rfl) rfl rfl hS ⟨0, by decide, rfl⟩ dX8_load_2 (fun H locs ho hz oq hS => ?_)
  have hP : MW G B (fm 0 bl tl ps er ea eo ud ns ne se) bf da dr hi sk H := hP.setO hD ho oq
  refine lv_aload_n hx hb dX8_load_5 rfl (lv_at hl 0 rfl) ?_
  refine lv_iload_n hx hb dX8_load_6 rfl (lv_at hl 1 rfl) ?_
  refine lv_iconst (v := 0) hx hb dX8_load_7 rfl ?_
  refine lv_aload_n hx hb dX8_load_8 rfl (lv_at hl 0 rfl) ?_
  refine gf_X8_35 (v := .int bl) E hG hP.1 rfl dX8_load_9 ?_
  refine Rd.callS (rest := [.ref (B 0)]) (c_X8_in l G x 0 bl) yk_X8_in E km_X8_54 dX8_load_12 hG (hE.S hS hD.efa) trivial rfl rfl hl.1 ⟨Nat.le_of_ble_eq_true rfl, Nat.le_of_ble_eq_true rfl⟩ ⟨Nat.zero_le _, Nat.zero_le _⟩ (Nat.le_of_ble_eq_true rfl) ?_
  refine lv_if_ne (tgt := 22) hx hb dX8_load_15 (by decide) (fun c_15 => ?_) (fun c_15 => ?_)
  · exact (by rw [hz9] at c_15; exact absurd c_15 (by decide))
  · refine lv_iconst (v := 1) hx hb dX8_load_18 rfl ?_
    refine lv_goto (tgt := 23) hx hb dX8_load_19 (by decide) ?_
    refine lv_iconst (v := 1) hx hb dX8_load_23 rfl ?_
    refine Wr.callV (rest := []) (c_X8_fails1 l G hD 1 (by decide)) yk_X8_fails E km_X8_153 dX8_load_24 hG (hE.S hS hD.efa) hP (At.recv hG hP.1 rfl) rfl rfl hl.1 ⟨Nat.le_of_ble_eq_true rfl, Nat.le_of_ble_eq_true rfl⟩ ⟨Nat.le_of_ble_eq_true rfl, Nat.le_of_ble_eq_true rfl⟩ (Nat.le_of_ble_eq_true rfl) hS (fun _ h9 => h9) (fun v9 H locs hq hz9 hfr9 hS => ?_)
    obtain ⟨rfl, hP⟩ := hq
    refine lv_if_eq (tgt := 32) hx hb dX8_load_27 (by decide) (fun c_27 => ?_) (fun c_27 => ?_)
    · exact absurd c_27 (by decide)
    · refine lv_iconst (v := 0) hx hb dX8_load_30 rfl ?_
      exact wr_int E hr hk hS (by decide) (by decide) (⟨rfl, hP⟩) dX8_load_31
