/-! data and what changes of it -/
theorem crF_c {d d9 : Nat → Int32} {c : Nat} (h : ∀ j, j < 11 → d9 (22 + 11 * c + j) = d (22 + 11 * c + j)) : crF d9 c = crF d c := by
  have h0 : d9 (22 + 11 * c) = d (22 + 11 * c) := h 0 (by omega)
  simp only [crF, cP, h0, h 1 (by omega), h 2 (by omega), h 3 (by omega), h 4 (by omega), h 5 (by omega), h 6 (by omega), h 7 (by omega), h 8 (by omega), h 9 (by omega), h 10 (by omega)]
theorem hol_c {d d9 : Nat → Int32} {n : Nat} : ∀ {nh : Nat}, (∀ k, k < nh → d9 (6 + k) = d (6 + k)) → hol d9 n nh = hol d n nh
  | 0, _ => rfl
  | nh + 1, h => by
    have h1 := hol_c (n := n) (nh := nh) (fun k hk => h k (by omega))
    have h2 := h nh (by omega)
    simp only [hol, h1, h2]
theorem biz_c {d d9 : Nat → Int32} {nh n : Nat} (h : ∀ k, k < nh → d9 (6 + k) = d (6 + k)) : biz d9 nh n = biz d nh n := by
  unfold biz
  rw [hol_c h]
theorem extF_c {d d9 : Nat → Int32} {nh : Nat} (h : ∀ k, k < nh → d9 (6 + k) = d (6 + k)) : ∀ k n : Nat, extF d9 nh k n = extF d nh k n
  | 0, _ => rfl
  | k + 1, n => by
    unfold extF
    rw [biz_c h, extF_c h k]
theorem ext_c {d d9 : Nat → Int32} {nh n : Nat} (h : ∀ k, k < nh → d9 (6 + k) = d (6 + k)) : ext d9 nh n = ext d nh n := extF_c h 130 n
theorem dueD_c {d d9 : Nat → Int32} {nh p : Nat} (hh : ∀ k, k < nh → d9 (6 + k) = d (6 + k)) (h : ∀ j, j < 6 → d9 (154 + 6 * p + j) = d (154 + 6 * p + j)) (hc : d9 (22 + 11 * (d (154 + 6 * p)).toNatClampNeg + 6) = d (22 + 11 * (d (154 + 6 * p)).toNatClampNeg + 6)) : dueD d9 nh p = dueD d nh p := by
  have h0 : d9 (154 + 6 * p) = d (154 + 6 * p) := h 0 (by omega)
  unfold dueD
  simp only [pP, cP, h0, h 4 (by omega), h 5 (by omega), hc, ext_c hh]
theorem prF_c {d d9 : Nat → Int32} {nh p : Nat} (hh : ∀ k, k < nh → d9 (6 + k) = d (6 + k)) (h : ∀ j, j < 6 → d9 (154 + 6 * p + j) = d (154 + 6 * p + j)) (hc : d9 (22 + 11 * (d (154 + 6 * p)).toNatClampNeg + 6) = d (22 + 11 * (d (154 + 6 * p)).toNatClampNeg + 6)) : prF d9 nh p = prF d nh p := by
  have h0 : d9 (154 + 6 * p) = d (154 + 6 * p) := h 0 (by omega)
  simp only [prF, dueD_c hh h hc, pP, h0, h 1 (by omega), h 2 (by omega), h 3 (by omega), h 4 (by omega)]
theorem PrOk.cr {d : Nat → Int32} {nc p : Nat} (h : PrOk d nc p) (hc : nc ≤ 12) : (d (154 + 6 * p)).toNatClampNeg < nc := by
  obtain ⟨cr, dy, am, fa, si, h1, h2, -⟩ := h
  rw [show d (154 + 6 * p) = nI cr from h1, nI_clamp (by omega)]
  exact h2
/-- d9 is d but in the counts, today, and places that no standing part looks at -/
theorem sm_of {d d9 : Nat → Int32} {nc np nh : Nat} (hO : OkD d nc np nh) (np9 : Nat) (hn : np9 ≤ np) (h : ∀ j, 4 ≤ j → ¬ (154 + 6 * np9 ≤ j ∧ j < 298) → ¬ (22 + 11 * nc ≤ j ∧ j < 154) → d9 j = d j) : Sm d d9 nc np9 nh := by
  have hc := hO.1.2
  have hp := hO.2.1.2
  have hh := hO.2.2.1.2
  have e1 : ∀ k, k < nh → d9 (6 + k) = d (6 + k) := fun k hk => h _ (by omega) (by omega) (by omega)
  refine ⟨e1, fun c h9 => crF_c (fun j hj => h _ (by omega) (by omega) (by omega)), fun p h9 => prF_c e1 (fun j hj => h _ (by omega) (by omega) (by omega)) ?_, h 4 (by omega) (by omega) (by omega), h 5 (by omega) (by omega) (by omega), fun j => h _ (by omega) (by omega) (by omega)⟩
  have := (hO.2.2.2.2.2.1 p (by omega)).cr hc
  exact h _ (by omega) (by omega) (by omega)
theorem crOk_c {d d9 : Nat → Int32} {c : Nat} (hd : CrOk d c) (h : ∀ j, j < 11 → d9 (22 + 11 * c + j) = d (22 + 11 * c + j)) : CrOk d9 c := by
  unfold CrOk at hd ⊢
  simp only [cP] at hd ⊢
  rw [h 3 (by omega), h 5 (by omega), h 6 (by omega), h 9 (by omega), h 7 (by omega), h 8 (by omega)]
  exact hd
theorem prOk_c {d d9 : Nat → Int32} {nc nc9 p : Nat} (hd : PrOk d nc p) (hn : nc ≤ nc9) (h : ∀ j, j < 6 → ¬ j = 4 → d9 (154 + 6 * p + j) = d (154 + 6 * p + j)) : PrOk d9 nc9 p := by
  obtain ⟨cr, dy, am, fa, si, h1, h2, h3, h4, h5, h6, h7, h8, h9, h10, h11⟩ := hd
  exact ⟨cr, dy, am, fa, si, (h 0 (by omega) (by omega)).trans h1, by omega, (h 1 (by omega) (by omega)).trans h3, h4, (h 2 (by omega) (by omega)).trans h5, h6, h7, (h 3 (by omega) (by omega)).trans h8, h9, (h 5 (by omega) (by omega)).trans h10, h11⟩
/-- today -/
theorem pass_sm {d : Nat → Int32} {nc np nh : Nat} {z : Int32} (hO : OkD d nc np nh) : Sm d (passD d z) nc np nh := sm_of hO np (Nat.le_refl _) (fun j h1 _ _ => by unfold passD upd; rw [if_neg (by omega)])
theorem pass_ok {d : Nat → Int32} {nc np nh : Nat} {z : Int32} (hO : OkD d nc np nh) (hz : inV z 1 365 = 1) (h9 : d 3 + z ≤ 9000) : OkD (passD d z) nc np nh := by
  have e : ∀ j, ¬ j = 3 → passD d z j = d j := fun j hj => by unfold passD upd; rw [if_neg hj]
  obtain ⟨⟨o1, o2⟩, ⟨o3, o4⟩, ⟨o5, o6⟩, ⟨td, o7, o8⟩, o9, o10, o11, o12⟩ := hO
  refine ⟨⟨by rw [e 0 (by omega)]; exact o1, o2⟩, ⟨by rw [e 1 (by omega)]; exact o3, o4⟩, ⟨by rw [e 2 (by omega)]; exact o5, o6⟩, ?_, fun c hc => crOk_c (o9 c hc) (fun j _ => e _ (by omega)), fun p hp => prOk_c (o10 p hp) (Nat.le_refl _) (fun j _ _ => e _ (by omega)), fun k hk => by rw [e _ (by omega)]; exact o11 k hk, fun i j hi hj h => o12 i j hi hj (by rw [e _ (by omega), e _ (by omega)] at h; exact h)⟩
  have hz1 := inV_1 hz
  obtain ⟨k, hk, ez⟩ := nI_of (x := z) (fun q => hz1.1 (Int32.lt_of_lt_of_le q (by decide)))
  subst ez
  have hk2 : k ≤ 365 := (nLE (x := nI k) (y := 365) (a := k) (b := 365) rfl rfl (by omega) (by omega)).mp hz1.2
  rw [o8] at h9
  have h8 : td + k ≤ 9000 := (nLE (x := nI td + nI k) (y := 9000) (a := td + k) (b := 9000) (nI_add td k) rfl (by omega) (by omega)).mp h9
  exact ⟨td + k, h8, by unfold passD upd; rw [if_pos rfl, o8, nI_add]⟩
/-- a new presentation -/
theorem pres_e {d : Nat → Int32} {np nc nh ex1 pe1 k n j : Nat} {x am dc ins : Int32} (h1 : ¬ j = 1) (h2 : ¬ (154 + 6 * np ≤ j ∧ j < 160 + 6 * np)) : presD d np nc nh ex1 pe1 k n x am dc ins j = d j := by
  unfold presD upd
  rw [if_neg (by omega), if_neg (by omega), if_neg (by omega), if_neg (by omega), if_neg (by omega), if_neg (by omega), if_neg h1]
theorem pres_sm {d : Nat → Int32} {np nc nh ex1 pe1 k n : Nat} {x am dc ins : Int32} (hO : OkD d nc np nh) (hp : np < 24) : Sm d (presD d np nc nh ex1 pe1 k n x am dc ins) nc np nh := sm_of hO np (Nat.le_refl _) (fun j h1 h2 _ => pres_e (by omega) (by omega))
theorem pres_at {d : Nat → Int32} {np nc nh ex1 pe1 k n : Nat} {x am dc ins : Int32} : presD d np nc nh ex1 pe1 k n x am dc ins (154 + 6 * np) = x ∧ presD d np nc nh ex1 pe1 k n x am dc ins (154 + 6 * np + 1) = d 3 ∧ presD d np nc nh ex1 pe1 k n x am dc ins (154 + 6 * np + 2) = am ∧ presD d np nc nh ex1 pe1 k n x am dc ins (154 + 6 * np + 3) = faultsV d np nc nh ex1 pe1 k n am dc ins ∧ presD d np nc nh ex1 pe1 k n x am dc ins (154 + 6 * np + 4) = 0 ∧ presD d np nc nh ex1 pe1 k n x am dc ins (154 + 6 * np + 5) = 0 := by
  unfold presD upd
  refine ⟨?_, ?_, ?_, ?_, ?_, ?_⟩
  · rw [if_neg (by omega), if_neg (by omega), if_neg (by omega), if_neg (by omega), if_neg (by omega), if_pos rfl]
  · rw [if_neg (by omega), if_neg (by omega), if_neg (by omega), if_neg (by omega), if_pos rfl, if_neg (by omega), if_neg (by omega)]
  · rw [if_neg (by omega), if_neg (by omega), if_neg (by omega), if_pos rfl]
  · rw [if_neg (by omega), if_neg (by omega), if_pos rfl]
  · rw [if_neg (by omega), if_pos rfl]
  · rw [if_pos rfl]
theorem pres_new {d : Nat → Int32} {np nc nh ex1 pe1 k n : Nat} {x am dc ins : Int32} : [.int x, .int (d 3), .int am, .int (faultsV d np nc nh ex1 pe1 k n am dc ins), .int 0, .int (-1)] = prF (presD d np nc nh ex1 pe1 k n x am dc ins) nh np := by
  obtain ⟨h0, h1, h2, h3, h4, h5⟩ := pres_at (d := d) (np := np) (nc := nc) (nh := nh) (ex1 := ex1) (pe1 := pe1) (k := k) (n := n) (x := x) (am := am) (dc := dc) (ins := ins)
  have h6 : dueD (presD d np nc nh ex1 pe1 k n x am dc ins) nh np = (-1) := by
    unfold dueD
    rw [if_pos (show ¬ presD d np nc nh ex1 pe1 k n x am dc ins (154 + 6 * np + 4) = 2 by rw [h4]; decide)]
  simp only [prF, pP, h0, h1, h2, h3, h4, h6]
theorem or128 {x y : Int32} {a : Nat} (hx : x = nI a) (ha : a < 128) (hy : y = 0 ∨ y = 1 ∨ y = 2 ∨ y = 4 ∨ y = 8 ∨ y = 16 ∨ y = 32 ∨ y = 64) : ∃ b, b < 128 ∧ x ||| y = nI b := by
  subst hx
  have h9 : ∀ n : Fin 128, ∀ i : Fin 8, nI n.1 ||| nI (([0, 1, 2, 4, 8, 16, 32, 64] : List Nat).getD i.1 0) = nI (n.1 ||| ([0, 1, 2, 4, 8, 16, 32, 64] : List Nat).getD i.1 0) ∧ (n.1 ||| ([0, 1, 2, 4, 8, 16, 32, 64] : List Nat).getD i.1 0) < 128 := by decide +kernel
  rcases hy with e | e | e | e | e | e | e | e <;> subst e
  · exact ⟨_, (h9 ⟨a, ha⟩ 0).2, (h9 ⟨a, ha⟩ 0).1⟩
  · exact ⟨_, (h9 ⟨a, ha⟩ 1).2, (h9 ⟨a, ha⟩ 1).1⟩
  · exact ⟨_, (h9 ⟨a, ha⟩ 2).2, (h9 ⟨a, ha⟩ 2).1⟩
  · exact ⟨_, (h9 ⟨a, ha⟩ 3).2, (h9 ⟨a, ha⟩ 3).1⟩
  · exact ⟨_, (h9 ⟨a, ha⟩ 4).2, (h9 ⟨a, ha⟩ 4).1⟩
  · exact ⟨_, (h9 ⟨a, ha⟩ 5).2, (h9 ⟨a, ha⟩ 5).1⟩
  · exact ⟨_, (h9 ⟨a, ha⟩ 6).2, (h9 ⟨a, ha⟩ 6).1⟩
  · exact ⟨_, (h9 ⟨a, ha⟩ 7).2, (h9 ⟨a, ha⟩ 7).1⟩
theorem faults_lt (d : Nat → Int32) (np nc nh ex1 pe1 c n : Nat) (am dc ins : Int32) : ∃ b, b < 128 ∧ faultsV d np nc nh ex1 pe1 c n am dc ins = nI b := by
  unfold faultsV
  obtain ⟨a1, g1, e1⟩ := or128 (x := 0) (a := 0) (y := fl1 d c (nI n)) rfl (by decide) (by unfold fl1; split <;> decide)
  obtain ⟨a2, g2, e2⟩ := or128 (y := fl2 d nh ex1 pe1 n (d 3)) e1 g1 (by unfold fl2; split <;> decide)
  obtain ⟨a3, g3, e3⟩ := or128 (y := fl3 d np nc c am) e2 g2 (by unfold fl3; split <;> decide)
  obtain ⟨a4, g4, e4⟩ := or128 (y := fl4 d np c am) e3 g3 (by unfold fl4; by_cases h1 : d (cP c + 7) = 0 <;> by_cases h2 : am < leastV d c <;> by_cases h3 : othersV d (nI c) np ≤ 0 <;> simp [h1, h2, h3])
  obtain ⟨a5, g5, e5⟩ := or128 (y := fl5 d c dc) e4 g4 (by unfold fl5; split <;> decide)
  obtain ⟨a6, g6, e6⟩ := or128 (y := fl6 d c am ins) e5 g5 (by unfold fl6; by_cases h1 : d (cP c + 9) >>> (7 &&& 31) &&& 1 = 1 <;> by_cases h2 : am + am / 10 ≤ ins <;> simp only [h1, h2, not_true_eq_false, not_false_eq_true, if_true, if_false] <;> decide)
  exact or128 (y := fl7 (nI n) (d 3)) e6 g6 (by unfold fl7; split <;> decide)
theorem inV_nat {v : Int32} {lo hi : Nat} (hh : hi < 2147483648) (hl : lo ≤ hi) (h : inV v (nI lo) (nI hi) = 1) : ∃ a, lo ≤ a ∧ a ≤ hi ∧ v = nI a := by
  have h1 := inV_1 h
  obtain ⟨k, hk, e⟩ := nI_of (x := v) (fun q => h1.1 (Int32.lt_of_lt_of_le q (nI_pos' (by omega))))
  subst e
  refine ⟨k, ?_, (nLE rfl rfl (by omega) (by omega)).mp h1.2, rfl⟩
  have h5 : ¬ k < lo := fun z => h1.1 ((nLT (x := nI k) (y := nI lo) (a := k) (b := lo) rfl rfl (by omega) (by omega)).mpr z)
  omega
theorem pres_ok {d : Nat → Int32} {np nc nh ex1 pe1 k n : Nat} {x am dc ins y : Int32} (hO : OkD d nc np nh) (hp : np < 24) (ex : x = nI k) (hk : k < nc) (hw : isWrongV y am dc ins = 0) : OkD (presD d np nc nh ex1 pe1 k n x am dc ins) nc (np + 1) nh := by
  have e : ∀ j, ¬ j = 1 → ¬ (154 + 6 * np ≤ j ∧ j < 160 + 6 * np) → presD d np nc nh ex1 pe1 k n x am dc ins j = d j := fun j h1 h2 => pres_e h1 h2
  obtain ⟨⟨o1, o2⟩, ⟨o3, o4⟩, ⟨o5, o6⟩, ⟨td, o7, o8⟩, o9, o10, o11, o12⟩ := hO
  refine ⟨⟨by rw [e 0 (by omega) (by omega)]; exact o1, o2⟩, ⟨?_, by omega⟩, ⟨by rw [e 2 (by omega) (by omega)]; exact o5, o6⟩, ⟨td, o7, by rw [e 3 (by omega) (by omega)]; exact o8⟩, fun c hc => crOk_c (o9 c hc) (fun j _ => e _ (by omega) (by omega)), ?_, fun k hk => by rw [e _ (by omega) (by omega)]; exact o11 k hk, fun i j hi hj h => o12 i j hi hj (by rw [e _ (by omega) (by omega), e _ (by omega) (by omega)] at h; exact h)⟩
  · unfold presD upd
    rw [if_neg (by omega), if_neg (by omega), if_neg (by omega), if_neg (by omega), if_neg (by omega), if_neg (by omega), if_pos rfl, o3, nI_1]
  · intro p hp9
    by_cases h : p < np
    · exact prOk_c (o10 p h) (Nat.le_refl _) (fun j _ _ => e _ (by omega) (by omega))
    · have h7 : p = np := by omega
      subst h7
      obtain ⟨h0, h1, h2, h3, h4, h5⟩ := pres_at (d := d) (np := p) (nc := nc) (nh := nh) (ex1 := ex1) (pe1 := pe1) (k := k) (n := n) (x := x) (am := am) (dc := dc) (ins := ins)
      obtain ⟨fa, g1, g2⟩ := faults_lt d p nc nh ex1 pe1 k n am dc ins
      obtain ⟨a, g3, g4, g5⟩ := inV_nat (lo := 1) (hi := 1999999) (by omega) (by omega) (isW_0 hw).2.1
      exact ⟨k, td, a, fa, 0, h0.trans ex, hk, h1.trans o8, o7, h2.trans g5, g3, g4, h3.trans g2, g1, h5, by omega⟩
/-- a presentation settled -/
theorem hon_e {d : Nat → Int32} {k j : Nat} (h1 : ¬ j = 154 + 6 * k + 4) (h2 : ¬ j = 154 + 6 * k + 5) : honD d k j = d j := by
  unfold honD upd
  rw [if_neg h2, if_neg h1]
theorem hon_at (d : Nat → Int32) (k : Nat) : honD d k (154 + 6 * k + 4) = 2 ∧ honD d k (154 + 6 * k + 5) = d 3 := by
  unfold honD upd
  refine ⟨?_, ?_⟩
  · rw [if_neg (by omega), if_pos rfl]
  · rw [if_pos rfl, if_neg (by omega)]
theorem hon_sm {d : Nat → Int32} {nc np nh k : Nat} (hO : OkD d nc np nh) (hk : k < np) : Sm d (honD d k) nc 0 nh := sm_of hO 0 (Nat.zero_le _) (fun j h1 h2 _ => hon_e (by have := hO.2.1.2; omega) (by have := hO.2.1.2; omega))
theorem hon_pr {d : Nat → Int32} {nc np nh k : Nat} (hO : OkD d nc np nh) : ∀ p, p < np → p ≠ k → prF (honD d k) nh p = prF d nh p := fun p h1 h2 => by
  have hc := hO.1.2
  have hh := hO.2.2.1.2
  have := (hO.2.2.2.2.2.1 p (by omega)).cr hc
  exact prF_c (fun j hj => hon_e (by omega) (by omega)) (fun j hj => hon_e (by omega) (by omega)) (hon_e (by omega) (by omega))
theorem hon_new {d : Nat → Int32} {nh k cr td te : Nat} (hh : nh ≤ 16) (h1 : d (pP k) = nI cr) (h2 : cr < 12) (h3 : d 3 = nI td) (h4 : td ≤ 9000) (h5 : d (cP cr + 6) = nI te) (h6 : te < 1000) : [.int (d (pP k)), .int (d (pP k + 1)), .int (d (pP k + 2)), .int (d (pP k + 3)), .int 2, .int (nI (ext d nh (td + te)))] = prF (honD d k) nh k := by
  obtain ⟨a1, a2⟩ := hon_at d k
  have e0 : honD d k (154 + 6 * k) = d (154 + 6 * k) := hon_e (by omega) (by omega)
  have e1 : honD d k (154 + 6 * k + 1) = d (154 + 6 * k + 1) := hon_e (by omega) (by omega)
  have e2 : honD d k (154 + 6 * k + 2) = d (154 + 6 * k + 2) := hon_e (by omega) (by omega)
  have e3 : honD d k (154 + 6 * k + 3) = d (154 + 6 * k + 3) := hon_e (by omega) (by omega)
  have h7 : dueD (honD d k) nh k = nI (ext d nh (td + te)) := by
    simp only [pP, cP] at h1 h5
    unfold dueD
    simp only [pP, cP]
    rw [if_neg (by rw [a1]; decide), a2, e0, h1, h3, nI_clamp (by omega), nI_clamp (by omega), hon_e (by omega) (by omega), h5, nI_clamp (by omega), ext_c (fun j hj => hon_e (by omega) (by omega))]
  simp only [prF, pP, e0, e1, e2, e3, a1, h7]
theorem hon_ok {d : Nat → Int32} {nc np nh k : Nat} (hO : OkD d nc np nh) (hk : k < np) : OkD (honD d k) nc np nh := by
  have e : ∀ j, ¬ j = 154 + 6 * k + 4 → ¬ j = 154 + 6 * k + 5 → honD d k j = d j := fun j h1 h2 => hon_e h1 h2
  obtain ⟨⟨o1, o2⟩, ⟨o3, o4⟩, ⟨o5, o6⟩, ⟨td, o7, o8⟩, o9, o10, o11, o12⟩ := hO
  refine ⟨⟨by rw [e 0 (by omega) (by omega)]; exact o1, o2⟩, ⟨by rw [e 1 (by omega) (by omega)]; exact o3, o4⟩, ⟨by rw [e 2 (by omega) (by omega)]; exact o5, o6⟩, ⟨td, o7, by rw [e 3 (by omega) (by omega)]; exact o8⟩, fun c hc => crOk_c (o9 c hc) (fun j _ => e _ (by omega) (by omega)), ?_, fun k hk => by rw [e _ (by omega) (by omega)]; exact o11 k hk, fun i j hi hj h => o12 i j hi hj (by rw [e _ (by omega) (by omega), e _ (by omega) (by omega)] at h; exact h)⟩
  intro p hp
  by_cases h : p = k
  · subst h
    obtain ⟨cr, dy, am, fa, si, h1, h2, h3, h4, h5, h6, h7, h8, h9, h10, h11⟩ := o10 p hp
    exact ⟨cr, dy, am, fa, td, (e (154 + 6 * p) (by omega) (by omega)).trans h1, h2, (e (154 + 6 * p + 1) (by omega) (by omega)).trans h3, h4, (e (154 + 6 * p + 2) (by omega) (by omega)).trans h5, h6, h7, (e (154 + 6 * p + 3) (by omega) (by omega)).trans h8, h9, (hon_at d p).2.trans o8, o7⟩
  · exact prOk_c (o10 p hp) (Nat.le_refl _) (fun j _ _ => e _ (by omega) (by omega))
abbrev stD (d : Nat → Int32) (k : Nat) (st : Int32) : Nat → Int32 := upd d (154 + 6 * k + 4) st
theorem st_e {d : Nat → Int32} {k j : Nat} {st : Int32} (h1 : ¬ j = 154 + 6 * k + 4) : stD d k st j = d j := by
  unfold stD upd
  rw [if_neg h1]
theorem st_sm {d : Nat → Int32} {nc np nh k : Nat} {st : Int32} (hO : OkD d nc np nh) (hk : k < np) : Sm d (stD d k st) nc 0 nh := sm_of hO 0 (Nat.zero_le _) (fun j h1 h2 _ => st_e (by have := hO.2.1.2; omega))
theorem st_pr {d : Nat → Int32} {nc np nh k : Nat} {st : Int32} (hO : OkD d nc np nh) : ∀ p, p < np → p ≠ k → prF (stD d k st) nh p = prF d nh p := fun p h1 h2 => by
  have hc := hO.1.2
  have hh := hO.2.2.1.2
  have := (hO.2.2.2.2.2.1 p (by omega)).cr hc
  exact prF_c (fun j hj => st_e (by omega)) (fun j hj => st_e (by omega)) (st_e (by omega))
theorem st_new {d : Nat → Int32} {nh k : Nat} {st : Int32} (hs : ¬ st = 2) : [.int (d (pP k)), .int (d (pP k + 1)), .int (d (pP k + 2)), .int (d (pP k + 3)), .int st, .int (-1)] = prF (stD d k st) nh k := by
  have a1 : stD d k st (154 + 6 * k + 4) = st := if_pos rfl
  have e0 : stD d k st (154 + 6 * k) = d (154 + 6 * k) := st_e (by omega)
  have e1 : stD d k st (154 + 6 * k + 1) = d (154 + 6 * k + 1) := st_e (by omega)
  have e2 : stD d k st (154 + 6 * k + 2) = d (154 + 6 * k + 2) := st_e (by omega)
  have e3 : stD d k st (154 + 6 * k + 3) = d (154 + 6 * k + 3) := st_e (by omega)
  have h7 : dueD (stD d k st) nh k = (-1) := by
    unfold dueD
    simp only [pP]
    rw [if_pos (by rw [a1]; exact hs)]
  simp only [prF, pP, e0, e1, e2, e3, a1, h7]
theorem st_ok {d : Nat → Int32} {nc np nh k : Nat} {st : Int32} (hO : OkD d nc np nh) : OkD (stD d k st) nc np nh := by
  have e : ∀ j, ¬ j = 154 + 6 * k + 4 → stD d k st j = d j := fun j h1 => st_e h1
  obtain ⟨⟨o1, o2⟩, ⟨o3, o4⟩, ⟨o5, o6⟩, ⟨td, o7, o8⟩, o9, o10, o11, o12⟩ := hO
  refine ⟨⟨by rw [e 0 (by omega)]; exact o1, o2⟩, ⟨by rw [e 1 (by omega)]; exact o3, o4⟩, ⟨by rw [e 2 (by omega)]; exact o5, o6⟩, ⟨td, o7, by rw [e 3 (by omega)]; exact o8⟩, fun c hc => crOk_c (o9 c hc) (fun j _ => e _ (by omega)), ?_, fun k hk => by rw [e _ (by omega)]; exact o11 k hk, fun i j hi hj h => o12 i j hi hj (by rw [e _ (by omega), e _ (by omega)] at h; exact h)⟩
  intro p hp
  exact prOk_c (o10 p hp) (Nat.le_refl _) (fun j _ h4 => e _ (by omega))
/-- a part transferred -/
theorem tr_e {d : Nat → Int32} {nc k j : Nat} {x am ei : Int32} (h0 : ¬ j = 0) (h1 : ¬ (22 + 11 * nc ≤ j ∧ j < 22 + 11 * nc + 11)) : trD d nc k x am ei j = d j := by
  unfold trD
  rw [if_neg h0, if_neg h1]
theorem tr_sm {d : Nat → Int32} {nc np nh k : Nat} {x am ei : Int32} (hO : OkD d nc np nh) (hn : nc < 12) : Sm d (trD d nc k x am ei) nc np nh := sm_of hO np (Nat.le_refl _) (fun j h1 h2 h3 => tr_e (by omega) (by omega))
theorem tr_at {d : Nat → Int32} {nc k : Nat} {x am ei : Int32} (j : Nat) (hj : j < 11) : trD d nc k x am ei (22 + 11 * nc + j) = if j = 0 then am else if j = 1 then 0 else if j = 2 then 0 else if j = 3 then ei else if j = 4 then minV (d (22 + 11 * k + 4)) ei else if j = 8 then 0 else if j = 10 then x else d (22 + 11 * k + j) := by
  unfold trD
  simp only [cP]
  rw [if_neg (by omega), if_pos (by omega)]
  rw [show 22 + 11 * nc + j - (22 + 11 * nc) = j by omega]
  repeat' split
  all_goals first | rfl | omega
theorem jmin_minV (a b : Int32) : jmin a b = minV a b := by
  unfold jmin minV
  by_cases h : b < a
  · rw [if_pos h, if_pos (Int32.le_of_lt h)]
  · rw [if_neg h]
    by_cases h2 : b ≤ a
    · rw [if_pos h2]
      exact Int32.le_antisymm (Int32.not_lt.mp h) h2
    · rw [if_neg h2]
theorem tr_new {d : Nat → Int32} {nc k : Nat} {am ei : Int32} : [.int (nI nc), .int (nI k), .int am, .int 0, .int 0, .int ei, .int (jmin (d (cP k + 4)) ei), .int (d (cP k + 5)), .int (d (cP k + 6)), .int (d (cP k + 9)), .int (d (cP k + 7)), .int 0] = crF (trD d nc k (nI k) am ei) nc := by
  have h := fun j hj => tr_at (d := d) (nc := nc) (k := k) (x := nI k) (am := am) (ei := ei) j hj
  have h0 : trD d nc k (nI k) am ei (22 + 11 * nc) = am := h 0 (by omega)
  have h1 : trD d nc k (nI k) am ei (22 + 11 * nc + 1) = 0 := h 1 (by omega)
  have h2 : trD d nc k (nI k) am ei (22 + 11 * nc + 2) = 0 := h 2 (by omega)
  have h3 : trD d nc k (nI k) am ei (22 + 11 * nc + 3) = ei := h 3 (by omega)
  have h4 : trD d nc k (nI k) am ei (22 + 11 * nc + 4) = minV (d (22 + 11 * k + 4)) ei := h 4 (by omega)
  have h5 : trD d nc k (nI k) am ei (22 + 11 * nc + 5) = d (22 + 11 * k + 5) := h 5 (by omega)
  have h6 : trD d nc k (nI k) am ei (22 + 11 * nc + 6) = d (22 + 11 * k + 6) := h 6 (by omega)
  have h7 : trD d nc k (nI k) am ei (22 + 11 * nc + 7) = d (22 + 11 * k + 7) := h 7 (by omega)
  have h8 : trD d nc k (nI k) am ei (22 + 11 * nc + 8) = 0 := h 8 (by omega)
  have h9 : trD d nc k (nI k) am ei (22 + 11 * nc + 9) = d (22 + 11 * k + 9) := h 9 (by omega)
  have h10 : trD d nc k (nI k) am ei (22 + 11 * nc + 10) = nI k := h 10 (by omega)
  simp only [crF, cP, h0, h1, h2, h3, h4, h5, h6, h7, h8, h9, h10, jmin_minV]
theorem tr_ok {d : Nat → Int32} {nc np nh k : Nat} {x am ei : Int32} (hO : OkD d nc np nh) (hn : nc < 12) (hk : k < nc) (hz : inV ei 0 999 = 1) : OkD (trD d nc k x am ei) (nc + 1) np nh := by
  have e : ∀ j, ¬ j = 0 → ¬ (22 + 11 * nc ≤ j ∧ j < 22 + 11 * nc + 11) → trD d nc k x am ei j = d j := fun j h1 h2 => tr_e h1 h2
  obtain ⟨⟨o1, o2⟩, ⟨o3, o4⟩, ⟨o5, o6⟩, ⟨td, o7, o8⟩, o9, o10, o11, o12⟩ := hO
  refine ⟨⟨?_, by omega⟩, ⟨by rw [e 1 (by omega) (by omega)]; exact o3, o4⟩, ⟨by rw [e 2 (by omega) (by omega)]; exact o5, o6⟩, ⟨td, o7, by rw [e 3 (by omega) (by omega)]; exact o8⟩, ?_, fun p hp => prOk_c (o10 p hp) (by omega) (fun j _ _ => e _ (by omega) (by omega)), fun k hk => by rw [e _ (by omega) (by omega)]; exact o11 k hk, fun i j hi hj h => o12 i j hi hj (by rw [e _ (by omega) (by omega), e _ (by omega) (by omega)] at h; exact h)⟩
  · show trD d nc k x am ei 0 = nI (nc + 1)
    unfold trD
    rw [if_pos rfl, o1, nI_1]
  · intro c hc
    by_cases h : c < nc
    · exact crOk_c (o9 c h) (fun j _ => e _ (by omega) (by omega))
    · have h9 : c = nc := by omega
      subst h9
      obtain ⟨ex, pe, te, nd, h1, h2, h3, h4, h5, h6, h7, h8, h9, h10⟩ := o9 k hk
      obtain ⟨a, g3, g4, g5⟩ := inV_nat (lo := 0) (hi := 999) (by omega) (by omega) hz
      refine ⟨a, pe, te, nd, (tr_at 3 (by omega)).trans g5, g4, (tr_at 5 (by omega)).trans h3, h4, (tr_at 6 (by omega)).trans h5, h6, (tr_at 9 (by omega)).trans h7, h8, ?_, Or.inl (tr_at 8 (by omega))⟩
      rw [show trD d c k x am ei (cP c + 7) = d (cP k + 7) from tr_at 7 (by omega)]
      exact h9
