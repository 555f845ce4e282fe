/-! READING: the reference's steps -/
def bt (bf : Nat → Int32) (n k : Nat) : Int32 := if n ≤ k then (-1) else bf k
def skp (bf : Nat → Int32) (n : Nat) : Nat → Nat → Nat
  | 0, q => q
  | j + 1, q => if bt bf n q = 32 then skp bf n j (q + 1) else q
/-- the first place from q on that is no space -/
def spc (bf : Nat → Int32) (n q : Nat) : Nat := skp bf n (n - q) q
theorem sk_n {bf : Nat → Int32} {n q : Nat} (h : ¬ bt bf n q = 32) : spc bf n q = q := by
  unfold spc
  cases n - q with
  | zero => rfl
  | succ j => exact if_neg h
theorem bt_lt {bf : Nat → Int32} {n q : Nat} {v : Int32} (h : bt bf n q = v) (hv : ¬ v = (-1)) : q < n := by
  unfold bt at h
  by_cases e : n ≤ q
  · rw [if_pos e] at h
    exact absurd h.symm hv
  · omega
theorem sk_s {bf : Nat → Int32} {n q : Nat} (h : bt bf n q = 32) : spc bf n q = spc bf n (q + 1) := by
  have hq := bt_lt h (by decide)
  unfold spc
  rw [show n - q = (n - (q + 1)) + 1 by omega]
  exact if_pos h
theorem sk_le {bf : Nat → Int32} {n : Nat} : ∀ (j q : Nat), n ≤ q + j → q ≤ n → q ≤ spc bf n q ∧ spc bf n q ≤ n
  | 0, q, h1, h2 => by
    have e : spc bf n q = q := by unfold spc; rw [show n - q = 0 by omega]; rfl
    rw [e]
    omega
  | j + 1, q, h1, h2 => by
    by_cases h : bt bf n q = 32
    · have hq := bt_lt h (by decide)
      rw [sk_s h]
      have := sk_le (bf := bf) (n := n) j (q + 1) (by omega) (by omega)
      omega
    · rw [sk_n h]
      omega
theorem sk_b {bf : Nat → Int32} {n q : Nat} (h : q ≤ n) : q ≤ spc bf n q ∧ spc bf n q ≤ n := sk_le (bf := bf) (n := n) n q (by omega) h
set_option maxHeartbeats 4000000 in
set_option maxRecDepth 100000 in
/-- report, the first -/
theorem c_X8_report (l : Launch) (G : CG) {B : Nat → Nat} {t bl tl ps ea eo ud ns ne se : Int32} {bf da dr : Nat → Int32} {hi : Nat → Nat → Int32} {sk : Nat → Int64} (hD : MD G B) (y z : Int32) : Wr l yX8_report cX8_report 3 ((Option.none : Option FieldType)) 0 0 0 0 G [.ref (B 0), .int y, .int z] (MW G B (fm t bl tl ps 0 ea eo ud ns ne se) bf da dr hi sk) (MA B) (fun v9 H9 => v9 = none ∧ MW G B (fm t bl tl ps y z eo ud ns ne se) bf da dr hi sk H9) := by
  refine Wr.ofW (by decide) (Nat.le_of_ble_eq_true rfl) (fun p e s m below meth c ls E hG hE hP hr hk hin hl => ?_)
  have hS : va_S (MA B) s.heap s.heap [] := va_S.rf
  have hx := E.1
  have hb := E.2.1
  have hl : lv_has ls 3 [(0, .ref (B 0)), (1, .int y), (2, .int z)] := hl
  refine lv_aload_n hx hb dX8_report_0 rfl (lv_at hl 0 rfl) ?_
  refine gf_X8_48 (v := .int 0) E hG hP.1 rfl dX8_report_1 ?_
  refine lv_if_eq (tgt := 8) hx hb dX8_report_4 (by decide) (fun c_4 => ?_) (fun c_4 => ?_)
  · refine lv_aload_n hx hb dX8_report_8 rfl (lv_at hl 0 rfl) ?_
    refine lv_iload_n hx hb dX8_report_9 rfl (lv_at hl 1 rfl) ?_
    refine pf_X8_48 E hG hP.1 (Nat.le_of_ble_eq_true rfl) rfl rfl hS ⟨0, by decide, rfl⟩ dX8_report_10 (fun H locs ho hz oq hS => ?_)
    have hP : MW G B (fm t bl tl ps y ea eo ud ns ne se) bf da dr hi sk H := hP.setO hD ho oq
    refine lv_aload_n hx hb dX8_report_13 rfl (lv_at hl 0 rfl) ?_
    refine lv_iload_n hx hb dX8_report_14 rfl (lv_at hl 2 rfl) ?_
    refine pf_X8_51 E hG hP.1 (Nat.le_of_ble_eq_true rfl) rfl rfl hS ⟨0, by decide, rfl⟩ dX8_report_15 (fun H locs ho hz oq hS => ?_)
    have hP : MW G B (fm t bl tl ps y z eo ud ns ne se) bf da dr hi sk H := hP.setO hD ho oq
    exact wr_void E hr hk hS (by decide) (by decide) (⟨rfl, hP⟩) dX8_report_18
  · exact absurd c_4 (by decide)

set_option maxHeartbeats 4000000 in
set_option maxRecDepth 100000 in
/-- report, not the first -/
theorem c_X8_report_b (l : Launch) (G : CG) {B : Nat → Nat} {t bl tl ps er ea eo ud ns ne se : Int32} {bf da dr : Nat → Int32} {hi : Nat → Nat → Int32} {sk : Nat → Int64} (hD : MD G B) (y z : Int32) (he9 : ¬ er = 0) : Wr l yX8_report cX8_report 3 ((Option.none : Option FieldType)) 0 0 0 0 G [.ref (B 0), .int y, .int z] (MW G B (fm t bl tl ps er ea eo ud ns ne se) bf da dr hi sk) (MA B) (fun v9 H9 => v9 = none ∧ MW G B (fm t bl tl ps er ea eo ud ns ne se) bf da dr hi sk H9) := by
  refine Wr.ofW (by decide) (Nat.le_of_ble_eq_true rfl) (fun p e s m below meth c ls E hG hE hP hr hk hin hl => ?_)
  have hS : va_S (MA B) s.heap s.heap [] := va_S.rf
  have hx := E.1
  have hb := E.2.1
  have hl : lv_has ls 3 [(0, .ref (B 0)), (1, .int y), (2, .int z)] := hl
  refine lv_aload_n hx hb dX8_report_0 rfl (lv_at hl 0 rfl) ?_
  refine gf_X8_48 (v := .int er) E hG hP.1 rfl dX8_report_1 ?_
  refine lv_if_eq (tgt := 8) hx hb dX8_report_4 (by decide) (fun c_4 => ?_) (fun c_4 => ?_)
  · exact absurd c_4 he9
  · exact wr_void E hr hk hS (by decide) (by decide) (⟨rfl, hP⟩) dX8_report_7

set_option maxHeartbeats 4000000 in
set_option maxRecDepth 100000 in
/-- next() -/
theorem c_X8_next (l : Launch) (G : CG) {B : Nat → Nat} {t bl er ea eo ud ns ne se : Int32} {bf da dr : Nat → Int32} {hi : Nat → Nat → Int32} {sk : Nat → Int64} (hD : MD G B) (n q : Nat) (hn9 : n ≤ 900) (hq9 : q ≤ n) : Wr l yX8_next cX8_next 1 ((Option.some FieldType.int)) 1 21 0 0 G [.ref (B 0)] (MW G B (fm t bl (nI n) (nI q) er ea eo ud ns ne se) bf da dr hi sk) (MA B) (fun v9 H9 => v9 = some (.int (bt bf n (spc bf n q))) ∧ MW G B (fm t bl (nI n) (nI (spc bf n q)) er ea eo ud ns ne se) bf da dr hi sk H9) := by
  refine Wr.ofW (by decide) (Nat.le_of_ble_eq_true rfl) (fun p e s m below meth c ls E hG hE hP hr hk hin hl => ?_)
  have hS : va_S (MA B) s.heap s.heap [] := va_S.rf
  have hx := E.1
  have hb := E.2.1
  have hl : lv_has ls 1 [(0, .ref (B 0))] := hl
  have loop : ∀ (j q1 : Nat), n < q1 + j → q1 ≤ n → spc bf n q1 = spc bf n q → ∀ (H : Heap) (locs : List Loc), MW G B (fm t bl (nI n) (nI q1) er ea eo ud ns ne se) bf da dr hi sk H → va_S (MA B) s.heap H locs → ∀ ls : Array Slot, lv_has ls 1 [(0, .ref (B 0))] → W p l e { frames := 1, cells := 0, slots := 0, locals := 21 } s m ([.ref (B 0)] : List Value).toArray below meth c H locs 0 0 (WQ below ([.ref (B 0)] : List Value).toArray s 0 0 (MA B) (fun v9 H9 => v9 = some (.int (bt bf n (spc bf n q))) ∧ MW G B (fm t bl (nI n) (nI (spc bf n q)) er ea eo ud ns ne se) bf da dr hi sk H9)) (F0 m 0 ls []) := by
    intro j
    induction j with
    | zero => intro q1 z1 z2; omega
    | succ j ih =>
      intro q1 z1 z2 z3 H locs hP hS ls hl
      refine lv_aload_n hx hb dX8_next_0 rfl (lv_at hl 0 rfl) ?_
      refine lv_aload_n hx hb dX8_next_1 rfl (lv_at hl 0 rfl) ?_
      refine gf_X8_41 (v := .int (nI q1)) E hG hP.1 rfl dX8_next_2 ?_
      refine Rd.callV (rest := []) (c_X8_byteAt l G (nI q1) q1 n rfl (by omega) rfl hn9) yk_X8_byteAt E km_X8_44 dX8_next_5 hG (hE.S hS hD.efa) hP (At.recv hG hP.1 rfl) rfl rfl hl.1 ⟨Nat.le_of_ble_eq_true rfl, Nat.le_of_ble_eq_true rfl⟩ ⟨Nat.zero_le _, Nat.zero_le _⟩ (Nat.le_of_ble_eq_true rfl) ?_
      refine lv_bipush (v := 32) hx hb dX8_next_8 rfl ?_
      refine lv_icmp_ne (tgt := 26) hx hb dX8_next_10 (by decide) (fun c_10 => ?_) (fun c_10 => ?_)
      · refine lv_aload_n hx hb dX8_next_26 rfl (lv_at hl 0 rfl) ?_
        refine lv_aload_n hx hb dX8_next_27 rfl (lv_at hl 0 rfl) ?_
        refine gf_X8_41 (v := .int (nI q1)) E hG hP.1 rfl dX8_next_28 ?_
        refine Rd.callV (rest := []) (c_X8_byteAt l G (nI q1) q1 n rfl (by omega) rfl hn9) yk_X8_byteAt E km_X8_44 dX8_next_31 hG (hE.S hS hD.efa) hP (At.recv hG hP.1 rfl) rfl rfl hl.1 ⟨Nat.le_of_ble_eq_true rfl, Nat.le_of_ble_eq_true rfl⟩ ⟨Nat.zero_le _, Nat.zero_le _⟩ (Nat.le_of_ble_eq_true rfl) ?_
        exact wr_int E hr hk hS (by decide) (by decide) (by rw [← z3, sk_n c_10]; exact ⟨rfl, hP⟩) dX8_next_34
      · have hq2 := bt_lt c_10 (by decide)
        refine lv_aload_n hx hb dX8_next_13 rfl (lv_at hl 0 rfl) ?_
        refine lv_dup hx hb dX8_next_14 rfl ?_
        refine gf_X8_41 (v := .int (nI q1)) E hG hP.1 rfl dX8_next_15 ?_
        refine lv_iconst (v := 1) hx hb dX8_next_18 rfl ?_
        refine lv_iadd hx hb dX8_next_19 ?_
        refine lv_ci (y := nI (q1 + 1)) (ixq (nI_ad rfl rfl)) ?_
        refine pf_X8_41 E hG hP.1 (Nat.le_of_ble_eq_true rfl) rfl rfl hS ⟨0, by decide, rfl⟩ dX8_next_20 (fun H locs ho hz oq hS => ?_)
        have hP : MW G B (fm t bl (nI n) (nI (q1 + 1)) er ea eo ud ns ne se) bf da dr hi sk H := hP.setO hD ho oq
        refine lv_goto (tgt := 0) hx hb dX8_next_23 (by decide) ?_
        exact ih (q1 + 1) (by omega) (by omega) (by rw [← z3, sk_s c_10]) H locs hP hS ls (lv_sub hl [0] rfl)
  exact loop (n + 1) q (by omega) hq9 rfl _ _ hP hS ls (lv_sub hl [0] rfl)

set_option maxHeartbeats 4000000 in
set_option maxRecDepth 100000 in
/-- expect, it is there -/
theorem c_X8_expect (l : Launch) (G : CG) {B : Nat → Nat} {t bl ea eo ud ns ne se : Int32} {bf da dr : Nat → Int32} {hi : Nat → Nat → Int32} {sk : Nat → Int64} (hD : MD G B) (n q : Nat) (hn9 : n ≤ 900) (hq9 : q ≤ n) (z : Int32) (hy9 : bt bf n (spc bf n q) = z) (hz8 : ¬ z = (-1)) : Wr l yX8_expect cX8_expect 2 ((Option.none : Option FieldType)) 2 41 0 0 G [.ref (B 0), .int z] (MW G B (fm t bl (nI n) (nI q) 0 ea eo ud ns ne se) bf da dr hi sk) (MA B) (fun v9 H9 => v9 = none ∧ MW G B (fm t bl (nI n) (nI (spc bf n q + 1)) 0 ea eo ud ns ne se) bf da dr hi sk H9) := by
  refine Wr.ofW (by decide) (Nat.le_of_ble_eq_true rfl) (fun p e s m below meth c ls E hG hE hP hr hk hin hl => ?_)
  have hS : va_S (MA B) s.heap s.heap [] := va_S.rf
  have hx := E.1
  have hb := E.2.1
  have hl : lv_has ls 2 [(0, .ref (B 0)), (1, .int z)] := hl
  have hs9 := bt_lt hy9 hz8
  refine lv_aload_n hx hb dX8_expect_0 rfl (lv_at hl 0 rfl) ?_
  refine Rd.callV (rest := []) (c_X8_isGood l G) yk_X8_isGood E km_X8_58 dX8_expect_1 hG (hE.S hS hD.efa) hP (At.recv hG hP.1 rfl) rfl rfl hl.1 ⟨Nat.le_of_ble_eq_true rfl, Nat.le_of_ble_eq_true rfl⟩ ⟨Nat.zero_le _, Nat.zero_le _⟩ (Nat.le_of_ble_eq_true rfl) ?_
  refine lv_ci (y := 1) (if_pos rfl) ?_
  refine lv_if_ne (tgt := 8) hx hb dX8_expect_4 (by decide) (fun c_4 => ?_) (fun c_4 => ?_)
  · refine lv_aload_n hx hb dX8_expect_8 rfl (lv_at hl 0 rfl) ?_
    refine Wr.callV (rest := []) (c_X8_next l G hD n q hn9 (by omega)) yk_X8_next E km_X8_62 dX8_expect_9 hG (hE.S hS hD.efa) hP (At.recv hG hP.1 rfl) rfl rfl hl.1 ⟨Nat.le_of_ble_eq_true rfl, Nat.le_of_ble_eq_true rfl⟩ ⟨Nat.le_of_ble_eq_true rfl, Nat.le_of_ble_eq_true rfl⟩ (Nat.le_of_ble_eq_true rfl) hS (fun _ h9 => h9) (fun v9 H locs hq hz9 hfr9 hS => ?_)
    obtain ⟨rfl, hP⟩ := hq
    refine lv_iload_n hx hb dX8_expect_12 rfl (lv_at hl 1 rfl) ?_
    refine lv_icmp_ne (tgt := 29) hx hb dX8_expect_13 (by decide) (fun c_13 => ?_) (fun c_13 => ?_)
    · exact absurd hy9 c_13
    · refine lv_aload_n hx hb dX8_expect_16 rfl (lv_at hl 0 rfl) ?_
      refine lv_dup hx hb dX8_expect_17 rfl ?_
      refine gf_X8_41 (v := .int (nI (spc bf n q))) E hG hP.1 rfl dX8_expect_18 ?_
      refine lv_iconst (v := 1) hx hb dX8_expect_21 rfl ?_
      refine lv_iadd hx hb dX8_expect_22 ?_
      refine lv_ci (y := nI (spc bf n q + 1)) (ixq (nI_ad rfl rfl)) ?_
      refine pf_X8_41 E hG hP.1 (Nat.le_of_ble_eq_true rfl) rfl rfl hS ⟨0, by decide, rfl⟩ dX8_expect_23 (fun H locs ho hz oq hS => ?_)
      have hP : MW G B (fm t bl (nI n) (nI (spc bf n q + 1)) 0 ea eo ud ns ne se) bf da dr hi sk H := hP.setO hD ho oq
      refine lv_goto (tgt := 39) hx hb dX8_expect_26 (by decide) ?_
      exact wr_void E hr hk hS (by decide) (by decide) (⟨rfl, hP⟩) dX8_expect_39
  · exact absurd c_4 (by decide)

set_option maxHeartbeats 4000000 in
set_option maxRecDepth 100000 in
/-- expect, it is not there -/
theorem c_X8_expect_x (l : Launch) (G : CG) {B : Nat → Nat} {t bl ea eo ud ns ne se : Int32} {bf da dr : Nat → Int32} {hi : Nat → Nat → Int32} {sk : Nat → Int64} (hD : MD G B) (n q : Nat) (hn9 : n ≤ 900) (hq9 : q ≤ n) (z : Int32) (hy9 : ¬ bt bf n (spc bf n q) = z) : Wr l yX8_expect cX8_expect 2 ((Option.none : Option FieldType)) 2 41 0 0 G [.ref (B 0), .int z] (MW G B (fm t bl (nI n) (nI q) 0 ea eo ud ns ne se) bf da dr hi sk) (MA B) (fun v9 H9 => v9 = none ∧ MW G B (fm t bl (nI n) (nI (spc bf n q)) (-2) (nI (spc bf n q)) eo ud ns ne se) bf da dr hi sk H9) := by
  refine Wr.ofW (by decide) (Nat.le_of_ble_eq_true rfl) (fun p e s m below meth c ls E hG hE hP hr hk hin hl => ?_)
  have hS : va_S (MA B) s.heap s.heap [] := va_S.rf
  have hx := E.1
  have hb := E.2.1
  have hl : lv_has ls 2 [(0, .ref (B 0)), (1, .int z)] := hl
  refine lv_aload_n hx hb dX8_expect_0 rfl (lv_at hl 0 rfl) ?_
  refine Rd.callV (rest := []) (c_X8_isGood l G) yk_X8_isGood E km_X8_58 dX8_expect_1 hG (hE.S hS hD.efa) hP (At.recv hG hP.1 rfl) rfl rfl hl.1 ⟨Nat.le_of_ble_eq_true rfl, Nat.le_of_ble_eq_true rfl⟩ ⟨Nat.zero_le _, Nat.zero_le _⟩ (Nat.le_of_ble_eq_true rfl) ?_
  refine lv_ci (y := 1) (if_pos rfl) ?_
  refine lv_if_ne (tgt := 8) hx hb dX8_expect_4 (by decide) (fun c_4 => ?_) (fun c_4 => ?_)
  · refine lv_aload_n hx hb dX8_expect_8 rfl (lv_at hl 0 rfl) ?_
    refine Wr.callV (rest := []) (c_X8_next l G hD n q hn9 (by omega)) yk_X8_next E km_X8_62 dX8_expect_9 hG (hE.S hS hD.efa) hP (At.recv hG hP.1 rfl) rfl rfl hl.1 ⟨Nat.le_of_ble_eq_true rfl, Nat.le_of_ble_eq_true rfl⟩ ⟨Nat.le_of_ble_eq_true rfl, Nat.le_of_ble_eq_true rfl⟩ (Nat.le_of_ble_eq_true rfl) hS (fun _ h9 => h9) (fun v9 H locs hq hz9 hfr9 hS => ?_)
    obtain ⟨rfl, hP⟩ := hq
    refine lv_iload_n hx hb dX8_expect_12 rfl (lv_at hl 1 rfl) ?_
    refine lv_icmp_ne (tgt := 29) hx hb dX8_expect_13 (by decide) (fun c_13 => ?_) (fun c_13 => ?_)
    · refine lv_aload_n hx hb dX8_expect_29 rfl (lv_at hl 0 rfl) ?_
      refine lv_bipush (v := (-2)) hx hb dX8_expect_30 rfl ?_
      refine lv_aload_n hx hb dX8_expect_32 rfl (lv_at hl 0 rfl) ?_
      refine gf_X8_41 (v := .int (nI (spc bf n q))) E hG hP.1 rfl dX8_expect_33 ?_
      refine Wr.callV (rest := []) (c_X8_report l G hD (-2) (nI (spc bf n q))) yk_X8_report E km_X8_75 dX8_expect_36 hG (hE.S hS hD.efa) hP (At.recv hG hP.1 rfl) rfl rfl hl.1 ⟨Nat.le_of_ble_eq_true rfl, Nat.le_of_ble_eq_true rfl⟩ ⟨Nat.le_of_ble_eq_true rfl, Nat.le_of_ble_eq_true rfl⟩ (Nat.le_of_ble_eq_true rfl) hS (fun _ h9 => h9) (fun v9 H locs hq hz9 hfr9 hS => ?_)
      obtain ⟨rfl, hP⟩ := hq
      exact wr_void E hr hk hS (by decide) (by decide) (⟨rfl, hP⟩) dX8_expect_39
    · exact absurd c_13 hy9
  · exact absurd c_4 (by decide)

set_option maxHeartbeats 4000000 in
set_option maxRecDepth 100000 in
/-- expect, behind an error -/
theorem c_X8_expect_b (l : Launch) (G : CG) {B : Nat → Nat} {t bl tl ps er ea eo ud ns ne se : Int32} {bf da dr : Nat → Int32} {hi : Nat → Nat → Int32} {sk : Nat → Int64} (hD : MD G B) (z : Int32) (he9 : ¬ er = 0) : Wr l yX8_expect cX8_expect 2 ((Option.none : Option FieldType)) 1 20 0 0 G [.ref (B 0), .int z] (MW G B (fm t bl tl ps er ea eo ud ns ne se) bf da dr hi sk) (MA B) (fun v9 H9 => v9 = none ∧ MW G B (fm t bl tl ps er ea eo ud ns ne se) bf da dr hi sk H9) := by
  refine Wr.ofW (by decide) (Nat.le_of_ble_eq_true rfl) (fun p e s m below meth c ls E hG hE hP hr hk hin hl => ?_)
  have hS : va_S (MA B) s.heap s.heap [] := va_S.rf
  have hx := E.1
  have hb := E.2.1
  have hl : lv_has ls 2 [(0, .ref (B 0)), (1, .int z)] := hl
  refine lv_aload_n hx hb dX8_expect_0 rfl (lv_at hl 0 rfl) ?_
  refine Rd.callV (rest := []) (c_X8_isGood l G) yk_X8_isGood E km_X8_58 dX8_expect_1 hG (hE.S hS hD.efa) hP (At.recv hG hP.1 rfl) rfl rfl hl.1 ⟨Nat.le_of_ble_eq_true rfl, Nat.le_of_ble_eq_true rfl⟩ ⟨Nat.zero_le _, Nat.zero_le _⟩ (Nat.le_of_ble_eq_true rfl) ?_
  refine lv_ci (y := 0) (if_neg he9) ?_
  refine lv_if_ne (tgt := 8) hx hb dX8_expect_4 (by decide) (fun c_4 => ?_) (fun c_4 => ?_)
  · exact absurd c_4 (by decide)
  · exact wr_void E hr hk hS (by decide) (by decide) (⟨rfl, hP⟩) dX8_expect_7

set_option maxHeartbeats 4000000 in
set_option maxRecDepth 100000 in
/-- emit -/
theorem c_X8_emit (l : Launch) (G : CG) {B : Nat → Nat} {t bl tl ps ea eo ud ns ne se : Int32} {bf da dr : Nat → Int32} {hi : Nat → Nat → Int32} {sk : Nat → Int64} (hD : MD G B) (i : Nat) (hi9 : dr 5 = nI i) (hi8 : i < 1500) (z : Int32) : Wr l yX8_emit cX8_emit 2 ((Option.none : Option FieldType)) 1 20 0 0 G [.ref (B 0), .int z] (MW G B (fm t bl tl ps 0 ea eo ud ns ne se) bf da dr hi sk) (MA B) (fun v9 H9 => v9 = none ∧ MW G B (fm t bl tl ps 0 ea eo ud ns ne se) bf da (upd (upd dr (298 + i) z) 5 (nI (i + 1))) hi sk H9) := by
  refine Wr.ofW (by decide) (Nat.le_of_ble_eq_true rfl) (fun p e s m below meth c ls E hG hE hP hr hk hin hl => ?_)
  have hS : va_S (MA B) s.heap s.heap [] := va_S.rf
  have hx := E.1
  have hb := E.2.1
  have hl : lv_has ls 2 [(0, .ref (B 0)), (1, .int z)] := hl
  refine lv_aload_n hx hb dX8_emit_0 rfl (lv_at hl 0 rfl) ?_
  refine Rd.callV (rest := []) (c_X8_isGood l G) yk_X8_isGood E km_X8_58 dX8_emit_1 hG (hE.S hS hD.efa) hP (At.recv hG hP.1 rfl) rfl rfl hl.1 ⟨Nat.le_of_ble_eq_true rfl, Nat.le_of_ble_eq_true rfl⟩ ⟨Nat.zero_le _, Nat.zero_le _⟩ (Nat.le_of_ble_eq_true rfl) ?_
  refine lv_ci (y := 1) (if_pos rfl) ?_
  refine lv_if_ne (tgt := 8) hx hb dX8_emit_4 (by decide) (fun c_4 => ?_) (fun c_4 => ?_)
  · refine lv_aload_n hx hb dX8_emit_8 rfl (lv_at hl 0 rfl) ?_
    refine gf_X8_20 (v := .ref (B 3)) E hG hP.1 rfl dX8_emit_9 ?_
    refine lv_sipush (v := 298) hx hb dX8_emit_12 rfl ?_
    refine lv_aload_n hx hb dX8_emit_15 rfl (lv_at hl 0 rfl) ?_
    refine gf_X8_20 (v := .ref (B 3)) E hG hP.1 rfl dX8_emit_16 ?_
    refine lv_iconst (v := 5) hx hb dX8_emit_19 rfl ?_
    refine g_ild 5 E hG hP.2.2.2.1 rfl (by omega) (by decide) dX8_emit_20 ?_
    refine lv_iadd hx hb dX8_emit_21 ?_
    refine lv_iload_n hx hb dX8_emit_22 rfl (lv_at hl 1 rfl) ?_
    refine g_ist (298 + i) E hG hP.2.2.2.1 (ixq (nI_ad rfl hi9)) (by omega) (by decide) hS ⟨3, by decide, rfl⟩ dX8_emit_23 (fun H locs ho hz oq hS => ?_)
    have hP : MW G B (fm t bl tl ps 0 ea eo ud ns ne se) bf da (upd dr (298 + i) z) hi sk H := hP.setR hD ho oq
    refine lv_aload_n hx hb dX8_emit_24 rfl (lv_at hl 0 rfl) ?_
    refine gf_X8_20 (v := .ref (B 3)) E hG hP.1 rfl dX8_emit_25 ?_
    refine lv_iconst (v := 5) hx hb dX8_emit_28 rfl ?_
    refine lv_dup2_11 hx hb dX8_emit_29 rfl rfl ?_
    refine g_ild 5 E hG hP.2.2.2.1 rfl (by omega) (by decide) dX8_emit_30 ?_
    refine lv_iconst (v := 1) hx hb dX8_emit_31 rfl ?_
    refine lv_iadd hx hb dX8_emit_32 ?_
    refine lv_ci (y := nI (i + 1)) (by rw [show (upd dr (298 + i) z) 5 = dr 5 from pk_un (by omega), hi9, nI_1]) ?_
    refine g_ist 5 E hG hP.2.2.2.1 rfl (by omega) (by decide) hS ⟨3, by decide, rfl⟩ dX8_emit_33 (fun H locs ho hz oq hS => ?_)
    have hP : MW G B (fm t bl tl ps 0 ea eo ud ns ne se) bf da (upd (upd dr (298 + i) z) 5 (nI (i + 1))) hi sk H := hP.setR hD ho oq
    exact wr_void E hr hk hS (by decide) (by decide) (⟨rfl, hP⟩) dX8_emit_34
  · exact absurd c_4 (by decide)

set_option maxHeartbeats 4000000 in
set_option maxRecDepth 100000 in
/-- emit, behind an error -/
theorem c_X8_emit_b (l : Launch) (G : CG) {B : Nat → Nat} {t bl tl ps er ea eo ud ns ne se : Int32} {bf da dr : Nat → Int32} {hi : Nat → Nat → Int32} {sk : Nat → Int64} (hD : MD G B) (z : Int32) (he9 : ¬ er = 0) : Wr l yX8_emit cX8_emit 2 ((Option.none : Option FieldType)) 1 20 0 0 G [.ref (B 0), .int z] (MW G B (fm t bl tl ps er ea eo ud ns ne se) bf da dr hi sk) (MA B) (fun v9 H9 => v9 = none ∧ MW G B (fm t bl tl ps er ea eo ud ns ne se) bf da dr hi sk H9) := by
  refine Wr.ofW (by decide) (Nat.le_of_ble_eq_true rfl) (fun p e s m below meth c ls E hG hE hP hr hk hin hl => ?_)
  have hS : va_S (MA B) s.heap s.heap [] := va_S.rf
  have hx := E.1
  have hb := E.2.1
  have hl : lv_has ls 2 [(0, .ref (B 0)), (1, .int z)] := hl
  refine lv_aload_n hx hb dX8_emit_0 rfl (lv_at hl 0 rfl) ?_
  refine Rd.callV (rest := []) (c_X8_isGood l G) yk_X8_isGood E km_X8_58 dX8_emit_1 hG (hE.S hS hD.efa) hP (At.recv hG hP.1 rfl) rfl rfl hl.1 ⟨Nat.le_of_ble_eq_true rfl, Nat.le_of_ble_eq_true rfl⟩ ⟨Nat.zero_le _, Nat.zero_le _⟩ (Nat.le_of_ble_eq_true rfl) ?_
  refine lv_ci (y := 0) (if_neg he9) ?_
  refine lv_if_ne (tgt := 8) hx hb dX8_emit_4 (by decide) (fun c_4 => ?_) (fun c_4 => ?_)
  · exact absurd c_4 (by decide)
  · exact wr_void E hr hk hS (by decide) (by decide) (⟨rfl, hP⟩) dX8_emit_7
