/-! READING: the class's holidays and documents -/
/-- what a book in the making is apart from: old cells, the reader, its text -/
def AL (sL x tx : Nat) : Nat → Prop := fun q => q < sL ∨ q = x ∨ q = tx
theorem bk_fm {G : CG} {sL x tx bk nc nh sz : Nat} {d : Nat → Int32} {H0 H : Heap} (h : BK G (AL sL x tx) bk d nc 0 nh H0) (hz : H0.size = sz) (hf : ∀ q : Nat, q < sz → q ≠ x → H[q]? = H0[q]?) : BK G (AL sL x tx) bk d nc 0 nh H := h.kept (fun q9 h9 h8 => hf q9 (by omega) (fun z9 => h8 (Or.inr (Or.inl z9))))
theorem hoD_cr {d : Nat → Int32} {nc nh : Nat} {v : Int32} (hh : nh < 16) : ∀ c, c < nc → crF (hoD d nh v) c = crF d c := fun c _ => by
  have e : ∀ i, i < 11 → hoD d nh v (22 + 11 * c + i) = d (22 + 11 * c + i) := fun i _ => hoD_o (by omega) (by omega)
  have e0 : hoD d nh v (22 + 11 * c) = d (22 + 11 * c) := hoD_o (by omega) (by omega)
  show [Value.int (nI c), .int (hoD d nh v (22 + 11 * c + 10)), .int (hoD d nh v (22 + 11 * c)), .int (hoD d nh v (22 + 11 * c + 1)), .int (hoD d nh v (22 + 11 * c + 2)), .int (hoD d nh v (22 + 11 * c + 3)), .int (hoD d nh v (22 + 11 * c + 4)), .int (hoD d nh v (22 + 11 * c + 5)), .int (hoD d nh v (22 + 11 * c + 6)), .int (hoD d nh v (22 + 11 * c + 9)), .int (hoD d nh v (22 + 11 * c + 7)), .int (hoD d nh v (22 + 11 * c + 8))] = _
  rw [e 10 (by omega), e0, e 1 (by omega), e 2 (by omega), e 3 (by omega), e 4 (by omega), e 5 (by omega), e 6 (by omega), e 9 (by omega), e 7 (by omega), e 8 (by omega)]
theorem hoD_fs {d : Nat → Int32} {nh : Nat} {v : Int32} (hh : nh < 16) : FS d (hoD d nh v) := ⟨hoD_o (by omega) (by omega), hoD_o (by omega) (by omega), fun j => hoD_o (by omega) (by omega)⟩
theorem hoD_ar {d : Nat → Int32} {nh : Nat} {v : Int32} : ∀ j, j < nh + 1 → upd (fun j => if j < nh then d (6 + j) else 0) nh v j = hoD d nh v (6 + j) := fun j hj => by
  by_cases e : j = nh
  · rw [e, pk_us]
    unfold hoD
    rw [pk_un (by omega), pk_us]
  · rw [pk_un e, hoD_o (by omega) (by omega)]
    show (if j < nh then d (6 + j) else 0) = _
    rw [if_pos (by omega)]
/-- how many holidays a statement makes, at most -/
def hoM (r : Except Er (Nat × (Nat → Int32) × Nat)) (nh : Nat) : Nat := match r with
  | .ok (_, _, k) => k - nh
  | .error _ => 17 - nh
theorem hoF_k {bf : Nat → Int32} {n : Nat} : ∀ (j s : Nat) (d : Nat → Int32) (nh s' : Nat) (d' : Nat → Int32) (k : Nat), hoF bf n j s d nh = .ok (s', d', k) → nh < k
  | 0, s, d, nh, s', d', k, h => by
    cases h1 : hs1 bf n s d nh with
    | error e => simp only [hoF, h1] at h; cases h
    | ok q =>
      obtain ⟨s1, v⟩ := q
      simp only [hoF, h1] at h
      cases h
      omega
  | j + 1, s, d, nh, s', d', k, h => by
    cases h1 : hs1 bf n s d nh with
    | error e => rw [hoF_er h1] at h; cases h
    | ok q =>
      obtain ⟨s1, v⟩ := q
      by_cases h3 : inV (bt bf n s1) 48 57 = 1
      · rw [hoF_go h1 h3] at h
        have := hoF_k j s1 _ (nh + 1) s' d' k h
        omega
      · rw [hoF_end h1 h3] at h
        cases h
        omega
theorem hoM_b {bf : Nat → Int32} {n j s nh nh1 : Nat} {d : Nat → Int32} {r : Except Er (Nat × (Nat → Int32) × Nat)} (h : hoF bf n j s d nh1 = r) (h1 : nh ≤ nh1) (h2 : nh1 ≤ 16) : nh1 - nh + 1 ≤ hoM r nh := by
  cases r with
  | error e => show _ ≤ 17 - nh; omega
  | ok q =>
    obtain ⟨s', d', k⟩ := q
    have := hoF_k _ _ _ _ _ _ _ h
    show _ ≤ k - nh
    omega
theorem bit_in : ∀ a : Fin 256, ∀ b : Fin 8, (nI a.1 &&& 1 <<< (nI b.1 &&& 31) = 0) = ¬ (nI a.1 >>> (nI b.1 &&& 31) &&& 1 = 1) := by
  have h : ∀ a : Fin 256, ∀ b : Fin 8, (nI a.1 &&& 1 <<< (nI b.1 &&& 31) = 0) ↔ ¬ (nI a.1 >>> (nI b.1 &&& 31) &&& 1 = 1) := by decide +kernel
  exact fun a b => propext (h a b)
set_option maxHeartbeats 4000000 in
set_option maxRecDepth 100000 in
/-- readDocumentInto -/
theorem c_X6_readDocumentInto_x (l : Launch) (G : CG) {x bk tx fs : Nat} {fg fc : Int32} {bf : Nat → Int32} (hB : ByO bf) (n : Nat) (hn9 : n ≤ 900) (hEx : EFA G x) (ne_tx_x : tx ≠ x) (s9 : Nat) (hs9 : s9 ≤ n) (a9 : Nat) (ha9 : a9 < 256) (hk9 : ¬ kd bf n s9 = 1001) : Wr l yX6_readDocumentInto cX6_readDocumentInto 3 ((Option.some FieldType.int)) 2 43 0 0 G [.ref x, .int (nI a9)] (fun H9 => At G x (.inr (6, rdF 0 (-1) bk tx (kd bf n s9) (nI s9) (nI (te bf n s9)) (va bf n s9) fg fs fc)) H9 ∧ At G tx (bA G n (sB bf)) H9) (fun q9 => q9 = x) (fun v9 H9 => v9 = some (.int (nI a9)) ∧ At G x (.inr (6, rdF (-2) (nI s9) bk tx 1000 (nI s9) (nI (te bf n s9)) (va bf n s9) fg fs fc)) H9) := by
  refine Wr.ofW (by decide) (Nat.le_of_ble_eq_true rfl) (fun p e s m below meth c ls E hG hE hP hr hk hin hl => ?_)
  have hS : va_S (fun q9 => q9 = x) s.heap s.heap [] := va_S.rf
  have hx := E.1
  have hb := E.2.1
  have hl : lv_has ls 3 [(0, .ref x), (1, .int (nI a9))] := hl
  have f_x := hP.1
  have f_tx := hP.2
  have hEA : ∀ q9, q9 = x → EFA G q9 := fun q9 h9 => by rw [h9]; exact hEx
  refine lv_aload_n hx hb dX6_readDocumentInto_0 rfl (lv_at hl 0 rfl) ?_
  refine lv_iconst (v := 0) hx hb dX6_readDocumentInto_1 rfl ?_
  refine lv_bipush (v := 7) hx hb dX6_readDocumentInto_2 rfl ?_
  refine Wr.callV (rest := []) (c_X6_isNumberFrom_x l G hB n hn9 hEx ne_tx_x s9 hs9 0 7 hk9) yk_X6_isNumberFrom E km_X6_78 dX6_readDocumentInto_4 hG (hE.S hS hEA) ⟨f_x, f_tx⟩ (At.recv hG f_x rfl) rfl rfl hl.1 ⟨Nat.le_of_ble_eq_true rfl, Nat.le_of_ble_eq_true rfl⟩ ⟨(show 0 + 0 ≤ 0 by omega), (show 0 + 0 ≤ 0 by omega)⟩ (Nat.le_of_ble_eq_true rfl) hS (fun _ h9 => h9) (fun v9 H locs hq hz9 hfr9 hS => ?_)
  have f_tx : At G tx (.inl (G.2.1 0, n, .inl (sB bf))) H := va_at.kept f_tx (hfr9 _ (va_at.lt f_tx) ne_tx_x)
  obtain ⟨rfl, f_x⟩ := hq
  refine lv_if_ne (tgt := 12) hx hb dX6_readDocumentInto_7 (by decide) (fun c_7 => ?_) (fun c_7 => ?_)
  · exact absurd c_7 (by decide)
  · refine lv_iload_n hx hb dX6_readDocumentInto_10 rfl (lv_at hl 1 rfl) ?_
    exact wr_int E hr hk hS (show 0 + 0 ≤ 0 by omega) (show 0 + 0 ≤ 0 by omega) (⟨rfl, f_x⟩) dX6_readDocumentInto_11

set_option maxHeartbeats 4000000 in
set_option maxRecDepth 100000 in
/-- readDocumentInto -/
theorem c_X6_readDocumentInto_r (l : Launch) (G : CG) {x bk tx fs : Nat} {fg fc : Int32} {bf : Nat → Int32} (hB : ByO bf) (n : Nat) (hn9 : n ≤ 900) (hEx : EFA G x) (ne_tx_x : tx ≠ x) (s9 : Nat) (hs9 : s9 ≤ n) (a9 : Nat) (ha9 : a9 < 256) (hk9 : kd bf n s9 = 1001) (hr9 : ¬ inV (va bf n s9) 0 7 = 1) : Wr l yX6_readDocumentInto cX6_readDocumentInto 3 ((Option.some FieldType.int)) 2 43 0 0 G [.ref x, .int (nI a9)] (fun H9 => At G x (.inr (6, rdF 0 (-1) bk tx (kd bf n s9) (nI s9) (nI (te bf n s9)) (va bf n s9) fg fs fc)) H9 ∧ At G tx (bA G n (sB bf)) H9) (fun q9 => q9 = x) (fun v9 H9 => v9 = some (.int (nI a9)) ∧ At G x (.inr (6, rdF (-3) (nI s9) bk tx 1000 (nI s9) (nI (te bf n s9)) (va bf n s9) fg fs fc)) H9) := by
  refine Wr.ofW (by decide) (Nat.le_of_ble_eq_true rfl) (fun p e s m below meth c ls E hG hE hP hr hk hin hl => ?_)
  have hS : va_S (fun q9 => q9 = x) s.heap s.heap [] := va_S.rf
  have hx := E.1
  have hb := E.2.1
  have hl : lv_has ls 3 [(0, .ref x), (1, .int (nI a9))] := hl
  have f_x := hP.1
  have f_tx := hP.2
  have hEA : ∀ q9, q9 = x → EFA G q9 := fun q9 h9 => by rw [h9]; exact hEx
  refine lv_aload_n hx hb dX6_readDocumentInto_0 rfl (lv_at hl 0 rfl) ?_
  refine lv_iconst (v := 0) hx hb dX6_readDocumentInto_1 rfl ?_
  refine lv_bipush (v := 7) hx hb dX6_readDocumentInto_2 rfl ?_
  refine Wr.callV (rest := []) (c_X6_isNumberFrom_r l G hB n hn9 hEx ne_tx_x s9 hs9 0 7 hk9 hr9) yk_X6_isNumberFrom E km_X6_78 dX6_readDocumentInto_4 hG (hE.S hS hEA) ⟨f_x, f_tx⟩ (At.recv hG f_x rfl) rfl rfl hl.1 ⟨Nat.le_of_ble_eq_true rfl, Nat.le_of_ble_eq_true rfl⟩ ⟨(show 0 + 0 ≤ 0 by omega), (show 0 + 0 ≤ 0 by omega)⟩ (Nat.le_of_ble_eq_true rfl) hS (fun _ h9 => h9) (fun v9 H locs hq hz9 hfr9 hS => ?_)
  have f_tx : At G tx (.inl (G.2.1 0, n, .inl (sB bf))) H := va_at.kept f_tx (hfr9 _ (va_at.lt f_tx) ne_tx_x)
  obtain ⟨rfl, f_x⟩ := hq
  refine lv_if_ne (tgt := 12) hx hb dX6_readDocumentInto_7 (by decide) (fun c_7 => ?_) (fun c_7 => ?_)
  · exact absurd c_7 (by decide)
  · refine lv_iload_n hx hb dX6_readDocumentInto_10 rfl (lv_at hl 1 rfl) ?_
    exact wr_int E hr hk hS (show 0 + 0 ≤ 0 by omega) (show 0 + 0 ≤ 0 by omega) (⟨rfl, f_x⟩) dX6_readDocumentInto_11

set_option maxHeartbeats 4000000 in
set_option maxRecDepth 100000 in
/-- readDocumentInto -/
theorem c_X6_readDocumentInto (l : Launch) (G : CG) {x bk tx fs : Nat} {fg fc : Int32} {bf : Nat → Int32} (hB : ByO bf) (n : Nat) (hn9 : n ≤ 900) (hEx : EFA G x) (ne_tx_x : tx ≠ x) (s9 : Nat) (hs9 : s9 ≤ n) (a9 : Nat) (ha9 : a9 < 256) (hk9 : kd bf n s9 = 1001) (b9 : Nat) (hb9 : b9 ≤ 7) (hv9 : va bf n s9 = nI b9) (hr9 : inV (va bf n s9) 0 7 = 1) (ht9 : ¬ nI a9 >>> (nI b9 &&& 31) &&& 1 = 1) : Wr l yX6_readDocumentInto cX6_readDocumentInto 3 ((Option.some FieldType.int)) 3 73 0 0 G [.ref x, .int (nI a9)] (fun H9 => At G x (.inr (6, rdF 0 (-1) bk tx (kd bf n s9) (nI s9) (nI (te bf n s9)) (va bf n s9) fg fs fc)) H9 ∧ At G tx (bA G n (sB bf)) H9) (fun q9 => q9 = x) (fun v9 H9 => v9 = some (.int (nI a9 ||| 1 <<< (nI b9 &&& 31))) ∧ ∃ er es ki st en vv, At G x (.inr (6, rdF er es bk tx ki st en vv fg fs fc)) H9 ∧ TK bf n (.ok (spc bf n (te bf n s9))) er es ki st en vv) := by
  refine Wr.ofW (by decide) (Nat.le_of_ble_eq_true rfl) (fun p e s m below meth c ls E hG hE hP hr hk hin hl => ?_)
  have hS : va_S (fun q9 => q9 = x) s.heap s.heap [] := va_S.rf
  have hx := E.1
  have hb := E.2.1
  have hl : lv_has ls 3 [(0, .ref x), (1, .int (nI a9))] := hl
  have f_x := hP.1
  have f_tx := hP.2
  have hEA : ∀ q9, q9 = x → EFA G q9 := fun q9 h9 => by rw [h9]; exact hEx
  have htb := te_b hB hs9
  have hbt := bit_in ⟨a9, ha9⟩ ⟨b9, by omega⟩
  refine lv_aload_n hx hb dX6_readDocumentInto_0 rfl (lv_at hl 0 rfl) ?_
  refine lv_iconst (v := 0) hx hb dX6_readDocumentInto_1 rfl ?_
  refine lv_bipush (v := 7) hx hb dX6_readDocumentInto_2 rfl ?_
  refine Wr.callV (rest := []) (c_X6_isNumberFrom l G hB n hn9 hEx ne_tx_x s9 hs9 0 7 hk9 hr9) yk_X6_isNumberFrom E km_X6_78 dX6_readDocumentInto_4 hG (hE.S hS hEA) ⟨f_x, f_tx⟩ (At.recv hG f_x rfl) rfl rfl hl.1 ⟨Nat.le_of_ble_eq_true rfl, Nat.le_of_ble_eq_true rfl⟩ ⟨(show 0 + 0 ≤ 0 by omega), (show 0 + 0 ≤ 0 by omega)⟩ (Nat.le_of_ble_eq_true rfl) hS (fun _ h9 => h9) (fun v9 H locs hq hz9 hfr9 hS => ?_)
  have f_tx : At G tx (.inl (G.2.1 0, n, .inl (sB bf))) H := va_at.kept f_tx (hfr9 _ (va_at.lt f_tx) ne_tx_x)
  obtain ⟨rfl, f_x⟩ := hq
  refine lv_if_ne (tgt := 12) hx hb dX6_readDocumentInto_7 (by decide) (fun c_7 => ?_) (fun c_7 => ?_)
  rotate_left
  · exact absurd c_7 (by decide)
  refine lv_iconst (v := 1) hx hb dX6_readDocumentInto_12 rfl ?_
  refine lv_aload_n hx hb dX6_readDocumentInto_13 rfl (lv_at hl 0 rfl) ?_
  refine gf_X6_86 E hG f_x rfl dX6_readDocumentInto_14 ?_
  refine lv_ci (y := nI b9) hv9 ?_
  refine lv_ishl hx hb dX6_readDocumentInto_17 ?_
  refine lv_istore_n (lv' := [(2, .int (1 <<< ((nI b9) &&& 31))), (0, .ref x), (1, .int (nI a9))]) hx hb dX6_readDocumentInto_18 rfl hl (by decide) rfl (fun ls hl => ?_)
  refine lv_iload_n hx hb dX6_readDocumentInto_19 rfl (lv_at hl 2 rfl) ?_
  refine lv_iload_n hx hb dX6_readDocumentInto_20 rfl (lv_at hl 0 rfl) ?_
  refine lv_iand hx hb dX6_readDocumentInto_21 ?_
  refine lv_if_eq (tgt := 33) hx hb dX6_readDocumentInto_22 (by decide) (fun c_22 => ?_) (fun c_22 => ?_)
  · refine lv_aload_n hx hb dX6_readDocumentInto_33 rfl (lv_at hl 1 rfl) ?_
    refine Wr.callV (rest := []) (c_X6_nextToken l G hB n hn9 hEx ne_tx_x (te bf n s9) (by omega)) yk_X6_nextToken E km_X6_36 dX6_readDocumentInto_34 hG (hE.S hS hEA) ⟨f_x, f_tx⟩ (At.recv hG f_x rfl) rfl rfl hl.1 ⟨Nat.le_of_ble_eq_true rfl, Nat.le_of_ble_eq_true rfl⟩ ⟨(show 0 + 0 + 0 ≤ 0 by omega), (show 0 + 0 + 0 ≤ 0 by omega)⟩ (Nat.le_of_ble_eq_true rfl) hS (fun _ h9 => h9) (fun v9 H locs hq hz9 hfr9 hS => ?_)
    have f_tx : At G tx (.inl (G.2.1 0, n, .inl (sB bf))) H := va_at.kept f_tx (hfr9 _ (va_at.lt f_tx) ne_tx_x)
    obtain ⟨rfl, er, es, ki, st, en, vv, f_x, hTK⟩ := hq
    refine lv_iload_n hx hb dX6_readDocumentInto_37 rfl (lv_at hl 2 rfl) ?_
    refine lv_iload_n hx hb dX6_readDocumentInto_38 rfl (lv_at hl 0 rfl) ?_
    refine lv_ior hx hb dX6_readDocumentInto_39 ?_
    exact wr_int E hr hk hS (show 0 + 0 + 0 ≤ 0 by omega) (show 0 + 0 + 0 ≤ 0 by omega) (⟨rfl, _, _, _, _, _, _, f_x, hTK⟩) dX6_readDocumentInto_40
  · exact absurd (show nI a9 &&& 1 <<< (nI b9 &&& 31) = 0 by rw [hbt]; exact ht9) c_22

set_option maxHeartbeats 4000000 in
set_option maxRecDepth 100000 in
/-- readDocumentInto -/
theorem c_X6_readDocumentInto_t (l : Launch) (G : CG) {x bk tx fs : Nat} {fg fc : Int32} {bf : Nat → Int32} (hB : ByO bf) (n : Nat) (hn9 : n ≤ 900) (hEx : EFA G x) (ne_tx_x : tx ≠ x) (s9 : Nat) (hs9 : s9 ≤ n) (a9 : Nat) (ha9 : a9 < 256) (hk9 : kd bf n s9 = 1001) (b9 : Nat) (hb9 : b9 ≤ 7) (hv9 : va bf n s9 = nI b9) (hr9 : inV (va bf n s9) 0 7 = 1) (ht9 : nI a9 >>> (nI b9 &&& 31) &&& 1 = 1) : Wr l yX6_readDocumentInto cX6_readDocumentInto 3 ((Option.some FieldType.int)) 2 43 0 0 G [.ref x, .int (nI a9)] (fun H9 => At G x (.inr (6, rdF 0 (-1) bk tx (kd bf n s9) (nI s9) (nI (te bf n s9)) (va bf n s9) fg fs fc)) H9 ∧ At G tx (bA G n (sB bf)) H9) (fun q9 => q9 = x) (fun v9 H9 => v9 = some (.int (nI a9)) ∧ At G x (.inr (6, rdF (-3) (nI s9) bk tx 1000 (nI s9) (nI (te bf n s9)) (va bf n s9) fg fs fc)) H9) := by
  refine Wr.ofW (by decide) (Nat.le_of_ble_eq_true rfl) (fun p e s m below meth c ls E hG hE hP hr hk hin hl => ?_)
  have hS : va_S (fun q9 => q9 = x) s.heap s.heap [] := va_S.rf
  have hx := E.1
  have hb := E.2.1
  have hl : lv_has ls 3 [(0, .ref x), (1, .int (nI a9))] := hl
  have f_x := hP.1
  have f_tx := hP.2
  have hEA : ∀ q9, q9 = x → EFA G q9 := fun q9 h9 => by rw [h9]; exact hEx
  have htb := te_b hB hs9
  have hbt := bit_in ⟨a9, ha9⟩ ⟨b9, by omega⟩
  refine lv_aload_n hx hb dX6_readDocumentInto_0 rfl (lv_at hl 0 rfl) ?_
  refine lv_iconst (v := 0) hx hb dX6_readDocumentInto_1 rfl ?_
  refine lv_bipush (v := 7) hx hb dX6_readDocumentInto_2 rfl ?_
  refine Wr.callV (rest := []) (c_X6_isNumberFrom l G hB n hn9 hEx ne_tx_x s9 hs9 0 7 hk9 hr9) yk_X6_isNumberFrom E km_X6_78 dX6_readDocumentInto_4 hG (hE.S hS hEA) ⟨f_x, f_tx⟩ (At.recv hG f_x rfl) rfl rfl hl.1 ⟨Nat.le_of_ble_eq_true rfl, Nat.le_of_ble_eq_true rfl⟩ ⟨(show 0 + 0 ≤ 0 by omega), (show 0 + 0 ≤ 0 by omega)⟩ (Nat.le_of_ble_eq_true rfl) hS (fun _ h9 => h9) (fun v9 H locs hq hz9 hfr9 hS => ?_)
  have f_tx : At G tx (.inl (G.2.1 0, n, .inl (sB bf))) H := va_at.kept f_tx (hfr9 _ (va_at.lt f_tx) ne_tx_x)
  obtain ⟨rfl, f_x⟩ := hq
  refine lv_if_ne (tgt := 12) hx hb dX6_readDocumentInto_7 (by decide) (fun c_7 => ?_) (fun c_7 => ?_)
  rotate_left
  · exact absurd c_7 (by decide)
  refine lv_iconst (v := 1) hx hb dX6_readDocumentInto_12 rfl ?_
  refine lv_aload_n hx hb dX6_readDocumentInto_13 rfl (lv_at hl 0 rfl) ?_
  refine gf_X6_86 E hG f_x rfl dX6_readDocumentInto_14 ?_
  refine lv_ci (y := nI b9) hv9 ?_
  refine lv_ishl hx hb dX6_readDocumentInto_17 ?_
  refine lv_istore_n (lv' := [(2, .int (1 <<< ((nI b9) &&& 31))), (0, .ref x), (1, .int (nI a9))]) hx hb dX6_readDocumentInto_18 rfl hl (by decide) rfl (fun ls hl => ?_)
  refine lv_iload_n hx hb dX6_readDocumentInto_19 rfl (lv_at hl 2 rfl) ?_
  refine lv_iload_n hx hb dX6_readDocumentInto_20 rfl (lv_at hl 0 rfl) ?_
  refine lv_iand hx hb dX6_readDocumentInto_21 ?_
  refine lv_if_eq (tgt := 33) hx hb dX6_readDocumentInto_22 (by decide) (fun c_22 => ?_) (fun c_22 => ?_)
  · exact absurd ht9 (by have z9 := c_22; rw [show (nI a9 &&& 1 <<< (nI b9 &&& 31) = 0) = ¬ (nI a9 >>> (nI b9 &&& 31) &&& 1 = 1) from hbt] at z9; exact z9)
  · refine lv_aload_n hx hb dX6_readDocumentInto_25 rfl (lv_at hl 1 rfl) ?_
    refine lv_bipush (v := (-3)) hx hb dX6_readDocumentInto_26 rfl ?_
    refine Wr.callV (rest := []) (c_X6_fail l G hEx (-3) rfl) yk_X6_fail E km_X6_65 dX6_readDocumentInto_28 hG (hE.S hS hEA) f_x (At.recv hG f_x rfl) rfl rfl hl.1 ⟨Nat.le_of_ble_eq_true rfl, Nat.le_of_ble_eq_true rfl⟩ ⟨(show 0 + 0 + 0 ≤ 0 by omega), (show 0 + 0 + 0 ≤ 0 by omega)⟩ (Nat.le_of_ble_eq_true rfl) hS (fun _ h9 => h9) (fun v9 H locs hq hz9 hfr9 hS => ?_)
    have f_tx : At G tx (.inl (G.2.1 0, n, .inl (sB bf))) H := va_at.kept f_tx (hfr9 _ (va_at.lt f_tx) ne_tx_x)
    obtain ⟨rfl, f_x⟩ := hq
    refine lv_iload_n hx hb dX6_readDocumentInto_31 rfl (lv_at hl 2 rfl) ?_
    exact wr_int E hr hk hS (show 0 + 0 + 0 ≤ 0 by omega) (show 0 + 0 + 0 ≤ 0 by omega) (⟨rfl, f_x⟩) dX6_readDocumentInto_32

section DOC
variable {x bk tx fs : Nat} {fg fc : Int32} {bf : Nat → Int32}
theorem c_X6_readDocumentInto_u (l : Launch) (G : CG) (hB : ByO bf) (n : Nat) (hn9 : n ≤ 900) (hEx : EFA G x) (ne_tx_x : tx ≠ x) (s9 : Nat) (hs9 : s9 ≤ n) (a9 : Nat) (ha9 : a9 < 256) : Wr l yX6_readDocumentInto cX6_readDocumentInto 3 ((Option.some FieldType.int)) 3 73 0 0 G [.ref x, .int (nI a9)] (fun H9 => At G x (.inr (6, rdF 0 (-1) bk tx (kd bf n s9) (nI s9) (nI (te bf n s9)) (va bf n s9) fg fs fc)) H9 ∧ At G tx (bA G n (sB bf)) H9) (fun q9 => q9 = x) (fun v9 H9 => ∃ v er es ki st en vv, v9 = some (.int v) ∧ At G x (.inr (6, rdF er es bk tx ki st en vv fg fs fc)) H9 ∧ TK bf n (pl (nd1 bf n s9 (nI a9))) er es ki st en vv ∧ ∀ s8 v8, nd1 bf n s9 (nI a9) = .ok (s8, v8) → v = v8) := by
  have r07 : Rg 0 7 := ⟨0, 7, rfl, rfl, by decide, by decide⟩
  by_cases hk : kd bf n s9 = 1001
  · by_cases hr : inV (va bf n s9) 0 7 = 1
    · have hN := numF_ok hB r07 hk hr
      obtain ⟨b, eb, -, hb⟩ := numF_v (lo := 0) (hi := 7) hB hs9 (by decide) (by decide) hN
      by_cases ht : nI a9 >>> (nI b &&& 31) &&& 1 = 1
      · have e : nd1 bf n s9 (nI a9) = .error (-3, s9) := by simp only [nd1, hN, eb, if_pos ht]
        refine Wr.weak (c_X6_readDocumentInto_t l G hB n hn9 hEx ne_tx_x s9 hs9 a9 ha9 hk b hb eb hr ht) (fun _ h => h) ?_ (by decide) (by decide)
        intro v H ⟨e1, h⟩
        rw [e]
        exact ⟨_, _, _, _, _, _, _, e1, h, ⟨rfl, by decide, rfl, hs9, rfl⟩, fun _ _ z => by cases z⟩
      · have e : nd1 bf n s9 (nI a9) = .ok (spc bf n (te bf n s9), nI a9 ||| 1 <<< (nI b &&& 31)) := by simp only [nd1, hN, eb, if_neg ht]
        refine Wr.weak (c_X6_readDocumentInto l G hB n hn9 hEx ne_tx_x s9 hs9 a9 ha9 hk b hb eb hr ht) (fun _ h => h) ?_ (by decide) (by decide)
        intro v H ⟨e1, a1, a2, a3, a4, a5, a6, h, hT⟩
        rw [e]
        exact ⟨_, a1, a2, a3, a4, a5, a6, e1, h, hT, fun _ _ z => by cases z; rfl⟩
    · have hN := numF_r hB r07 hk hr
      have e : nd1 bf n s9 (nI a9) = .error (-3, s9) := by simp only [nd1, hN]
      refine Wr.weak (c_X6_readDocumentInto_r l G hB n hn9 hEx ne_tx_x s9 hs9 a9 ha9 hk hr) (fun _ h => h) ?_ (by decide) (by decide)
      intro v H ⟨e1, h⟩
      rw [e]
      exact ⟨_, _, _, _, _, _, _, e1, h, ⟨rfl, by decide, rfl, hs9, rfl⟩, fun _ _ z => by cases z⟩
  · have hN := numF_k (lo := 0) (hi := 7) hB hk
    have e : nd1 bf n s9 (nI a9) = .error (-2, s9) := by simp only [nd1, hN]
    refine Wr.weak (c_X6_readDocumentInto_x l G hB n hn9 hEx ne_tx_x s9 hs9 a9 ha9 hk) (fun _ h => h) ?_ (by decide) (by decide)
    intro v H ⟨e1, h⟩
    rw [e]
    exact ⟨_, _, _, _, _, _, _, e1, h, ⟨rfl, by decide, rfl, hs9, rfl⟩, fun _ _ z => by cases z⟩
end DOC
theorem nd1_b {bf : Nat → Int32} {n s s' a : Nat} {v : Int32} (hB : ByO bf) (hs : s ≤ n) (ha : a < 256) (h : nd1 bf n s (nI a) = .ok (s', v)) : s < s' ∧ s' ≤ n ∧ ∃ c, c < 256 ∧ v = nI c := ndF_b (n := n) hB 0 s a s' v hs ha h
theorem ndF_1e {bf : Nat → Int32} {n j s : Nat} {set : Int32} {e : Er} (h : nd1 bf n s set = .error e) : ndF bf n (j + 1) s set = .error e := by simp only [ndF, h]
theorem ndF_1g {bf : Nat → Int32} {n j s s' : Nat} {set v : Int32} (h : nd1 bf n s set = .ok (s', v)) (h3 : inV (bt bf n s') 48 57 = 1) : ndF bf n (j + 1) s set = ndF bf n j s' v := by simp only [ndF, h, if_pos h3]
theorem ndF_1o {bf : Nat → Int32} {n j s s' : Nat} {set v : Int32} (h : nd1 bf n s set = .ok (s', v)) (h3 : ¬ inV (bt bf n s') 48 57 = 1) : ndF bf n (j + 1) s set = .ok (s', v) := by simp only [ndF, h, if_neg h3]

set_option maxHeartbeats 4000000 in
set_option maxRecDepth 100000 in
/-- readDocuments -/
theorem c_X6_readDocuments (l : Launch) (G : CG) {x bk tx fs : Nat} {fg fc : Int32} {bf : Nat → Int32} (hB : ByO bf) (n : Nat) (hn9 : n ≤ 900) (hEx : EFA G x) (ne_tx_x : tx ≠ x) (s9 : Nat) (hs9 : s9 ≤ n) : Wr l yX6_readDocuments cX6_readDocuments 3 ((Option.some FieldType.int)) 4 95 0 0 G [.ref x] (fun H9 => At G x (.inr (6, rdF 0 (-1) bk tx (kd bf n s9) (nI s9) (nI (te bf n s9)) (va bf n s9) fg fs fc)) H9 ∧ At G tx (bA G n (sB bf)) H9) (fun q9 => q9 = x) (fun v9 H9 => ∃ v er es ki st en vv, v9 = some (.int v) ∧ At G x (.inr (6, rdF er es bk tx ki st en vv fg fs fc)) H9 ∧ TK bf n (pl (ndF bf n (n + 1) s9 0)) er es ki st en vv ∧ ∀ s8 v8, (ndF bf n (n + 1) s9 0) = .ok (s8, v8) → v = v8) := by
  refine Wr.ofW (by decide) (Nat.le_of_ble_eq_true rfl) (fun p e s m below meth c ls E hG hE hP hr hk hin hl => ?_)
  have hS : va_S (fun q9 => q9 = x) s.heap s.heap [] := va_S.rf
  have hx := E.1
  have hb := E.2.1
  have hl : lv_has ls 3 [(0, .ref x)] := hl
  have f_x := hP.1
  have f_tx := hP.2
  have hEA : ∀ q9, q9 = x → EFA G q9 := fun q9 h9 => by rw [h9]; exact hEx
  refine lv_aload_n hx hb dX6_readDocuments_0 rfl (lv_at hl 0 rfl) ?_
  refine lv_iconst (v := 0) hx hb dX6_readDocuments_1 rfl ?_
  refine lv_ci (y := nI 0) rfl ?_
  refine Wr.callV (rest := []) (c_X6_readDocumentInto_u l G hB n hn9 hEx ne_tx_x s9 hs9 0 (by decide)) yk_X6_readDocumentInto E km_X6_164 dX6_readDocuments_2 hG (hE.S hS hEA) ⟨f_x, f_tx⟩ (At.recv hG f_x rfl) rfl rfl hl.1 ⟨Nat.le_of_ble_eq_true rfl, Nat.le_of_ble_eq_true rfl⟩ ⟨(show 0 + 0 ≤ 0 by omega), (show 0 + 0 ≤ 0 by omega)⟩ (Nat.le_of_ble_eq_true rfl) hS (fun _ h9 => h9) (fun v9 H locs hq hz9 hfr9 hS => ?_)
  have f_tx : At G tx (.inl (G.2.1 0, n, .inl (sB bf))) H := va_at.kept f_tx (hfr9 _ (va_at.lt f_tx) ne_tx_x)
  obtain ⟨v_1, er, es, ki, st, en, vv, rfl, f_x, hTK, hv_1⟩ := hq
  rcases hn1 : nd1 bf n s9 (nI 0) with ⟨c7, o7⟩ | ⟨s7, v7⟩
  · rw [hn1] at hTK
    have hki := hTK.2.2.2.2
    subst hki
    refine lv_istore_n (lv' := [(1, .int v_1), (0, .ref x)]) hx hb dX6_readDocuments_5 rfl hl (by decide) rfl (fun ls hl => ?_)
    refine lv_iconst (v := 0) hx hb dX6_readDocuments_6 rfl ?_
    refine lv_ci (y := nI 0) (ixq rfl) ?_
    refine lv_istore_n (lv' := [(2, .int (nI 0)), (1, .int v_1), (0, .ref x)]) hx hb dX6_readDocuments_7 rfl hl (by decide) rfl (fun ls hl => ?_)
    refine lv_iload_n hx hb dX6_readDocuments_8 rfl (lv_at hl 0 rfl) ?_
    refine lv_aload_n hx hb dX6_readDocuments_9 rfl (lv_at hl 2 rfl) ?_
    refine gf_X6_9 E hG f_x rfl dX6_readDocuments_10 ?_
    refine g_len (t0 := 0) (v := (nI n)) E hG f_tx rfl rfl dX6_readDocuments_13 ?_
    refine lv_icmp_ge (tgt := 39) hx hb dX6_readDocuments_14 (by decide) (fun c_14 => ?_) (fun c_14 => ?_)
    · have c_14 : n ≤ 0 := (nLE (x := (nI n)) (y := (nI 0)) (a := n) (b := 0) rfl rfl (by omega) (by omega)).mp c_14
      refine lv_iload_n hx hb dX6_readDocuments_39 rfl (lv_at hl 1 rfl) ?_
      exact wr_int E hr hk hS (show 0 + 0 ≤ 0 by omega) (show 0 + 0 ≤ 0 by omega) (⟨_, _, _, _, _, _, _, rfl, f_x, by rw [show ndF bf n (n + 1) s9 0 = .error (c7, o7) from ndF_1e hn1]; exact hTK, fun _ _ z => by rw [show ndF bf n (n + 1) s9 0 = .error (c7, o7) from ndF_1e hn1] at z; cases z⟩) dX6_readDocuments_40
    · have c_14 : ¬ n ≤ 0 := fun z9 => c_14 ((nLE (x := (nI n)) (y := (nI 0)) (a := n) (b := 0) rfl rfl (by omega) (by omega)).mpr z9)
      refine lv_aload_n hx hb dX6_readDocuments_17 rfl (lv_at hl 2 rfl) ?_
      refine gf_X6_39 E hG f_x rfl dX6_readDocuments_18 ?_
      refine lv_sipush (v := 1001) hx hb dX6_readDocuments_21 rfl ?_
      refine lv_icmp_ne (tgt := 39) hx hb dX6_readDocuments_24 (by decide) (fun c_24 => ?_) (fun c_24 => ?_)
      · refine lv_iload_n hx hb dX6_readDocuments_39 rfl (lv_at hl 1 rfl) ?_
        exact wr_int E hr hk hS (show 0 + 0 ≤ 0 by omega) (show 0 + 0 ≤ 0 by omega) (⟨_, _, _, _, _, _, _, rfl, f_x, by rw [show ndF bf n (n + 1) s9 0 = .error (c7, o7) from ndF_1e hn1]; exact hTK, fun _ _ z => by rw [show ndF bf n (n + 1) s9 0 = .error (c7, o7) from ndF_1e hn1] at z; cases z⟩) dX6_readDocuments_40
      · exact absurd c_24 (by decide)
  · rw [hn1] at hTK
    have ev := hv_1 _ _ hn1
    have hnb := nd1_b hB hs9 (by decide) hn1
    obtain ⟨hlt7, hs7, a7, ha7, ea7⟩ := hnb
    have hTK : TK bf n (.ok s7) er es ki st en vv := hTK
    obtain ⟨her, hes, hs_g, hst, hki, hen, hvv⟩ := hTK
    subst her hes hst hki hen hvv
    rw [ea7] at hn1 ev
    subst ev
    refine lv_istore_n (lv' := [(1, .int (nI a7)), (0, .ref x)]) hx hb dX6_readDocuments_5 rfl hl (by decide) rfl (fun ls hl => ?_)
    refine lv_iconst (v := 0) hx hb dX6_readDocuments_6 rfl ?_
    refine lv_ci (y := nI 0) (ixq rfl) ?_
    refine lv_istore_n (lv' := [(2, .int (nI 0)), (1, .int (nI a7)), (0, .ref x)]) hx hb dX6_readDocuments_7 rfl hl (by decide) rfl (fun ls hl => ?_)
    have loop : ∀ (j i s1 a1 : Nat), n < s1 + j → i ≤ s1 → s1 ≤ n → a1 < 256 → (if inV (bt bf n s1) 48 57 = 1 then ndF bf n j s1 (nI a1) else .ok (s1, nI a1)) = (ndF bf n (n + 1) s9 0) → ∀ (H : Heap) (locs : List Loc), At G x (.inr (6, [.int 0, .int (-1), .ref bk, .ref tx, .int (kd bf n s1), .int (nI s1), .int (nI (te bf n s1)), .int (va bf n s1), .int fg, .ref fs, .int fc])) H → At G tx (.inl (G.2.1 0, n, .inl (sB bf))) H → va_S (fun q9 => q9 = x) s.heap H locs → ∀ ls : Array Slot, lv_has ls 3 [(2, .int (nI i)), (1, .int (nI a1)), (0, .ref x)] → W p l e { frames := 4, cells := 0, slots := 0, locals := 95 } s m ([.ref x] : List Value).toArray below meth c H locs (0 + 0) (0 + 0) (WQ below ([.ref x] : List Value).toArray s 0 0 (fun q9 => q9 = x) (fun v9 H9 => ∃ v er es ki st en vv, v9 = some (.int v) ∧ At G x (.inr (6, rdF er es bk tx ki st en vv fg fs fc)) H9 ∧ TK bf n (pl (ndF bf n (n + 1) s9 0)) er es ki st en vv ∧ ∀ s8 v8, (ndF bf n (n + 1) s9 0) = .ok (s8, v8) → v = v8)) (F0 m 8 ls []) := by
      intro j
      induction j with
      | zero => intro i s1 a1 z1 z2 z3; omega
      | succ j ih =>
        intro i s1 a1 z1 z2 z3 ha1 z4 H locs f_x f_tx hS ls hl
        have htb1 := te_b hB z3
        refine lv_iload_n hx hb dX6_readDocuments_8 rfl (lv_at hl 0 rfl) ?_
        refine lv_aload_n hx hb dX6_readDocuments_9 rfl (lv_at hl 2 rfl) ?_
        refine gf_X6_9 E hG f_x rfl dX6_readDocuments_10 ?_
        refine g_len (t0 := 0) (v := (nI n)) E hG f_tx rfl rfl dX6_readDocuments_13 ?_
        refine lv_icmp_ge (tgt := 39) hx hb dX6_readDocuments_14 (by decide) (fun c_14 => ?_) (fun c_14 => ?_)
        · have c_14 : n ≤ i := (nLE (x := (nI n)) (y := (nI i)) (a := n) (b := i) rfl rfl (by omega) (by omega)).mp c_14
          have hnd : ¬ inV (bt bf n s1) 48 57 = 1 := by rw [bt_out (by omega)]; decide
          rw [if_neg hnd] at z4
          refine lv_iload_n hx hb dX6_readDocuments_39 rfl (lv_at hl 1 rfl) ?_
          exact wr_int E hr hk hS (show 0 + 0 ≤ 0 by omega) (show 0 + 0 ≤ 0 by omega) (⟨_, _, _, _, _, _, _, rfl, f_x, by rw [← z4]; exact ⟨rfl, rfl, z3, rfl, rfl, rfl, rfl⟩, fun _ _ z => by rw [← z4] at z; cases z; rfl⟩) dX6_readDocuments_40
        · have c_14 : ¬ n ≤ i := fun z9 => c_14 ((nLE (x := (nI n)) (y := (nI i)) (a := n) (b := i) rfl rfl (by omega) (by omega)).mpr z9)
          refine lv_aload_n hx hb dX6_readDocuments_17 rfl (lv_at hl 2 rfl) ?_
          refine gf_X6_39 E hG f_x rfl dX6_readDocuments_18 ?_
          refine lv_sipush (v := 1001) hx hb dX6_readDocuments_21 rfl ?_
          refine lv_icmp_ne (tgt := 39) hx hb dX6_readDocuments_24 (by decide) (fun c_24 => ?_) (fun c_24 => ?_)
          · have hnd : ¬ inV (bt bf n s1) 48 57 = 1 := fun z9 => c_24 ((kd_num hB).mpr z9)
            rw [if_neg hnd] at z4
            refine lv_iload_n hx hb dX6_readDocuments_39 rfl (lv_at hl 1 rfl) ?_
            exact wr_int E hr hk hS (show 0 + 0 ≤ 0 by omega) (show 0 + 0 ≤ 0 by omega) (⟨_, _, _, _, _, _, _, rfl, f_x, by rw [← z4]; exact ⟨rfl, rfl, z3, rfl, rfl, rfl, rfl⟩, fun _ _ z => by rw [← z4] at z; cases z; rfl⟩) dX6_readDocuments_40
          · have hnd := (kd_num hB).mp c_24
            rw [if_pos hnd] at z4
            have hlt := kd_lt c_24 (by decide)
            refine lv_aload_n hx hb dX6_readDocuments_27 rfl (lv_at hl 2 rfl) ?_
            refine lv_iload_n hx hb dX6_readDocuments_28 rfl (lv_at hl 1 rfl) ?_
            refine Wr.callV (rest := []) (c_X6_readDocumentInto_u l G hB n hn9 hEx ne_tx_x s1 z3 a1 ha1) yk_X6_readDocumentInto E km_X6_164 dX6_readDocuments_29 hG (hE.S hS hEA) ⟨f_x, f_tx⟩ (At.recv hG f_x rfl) rfl rfl hl.1 ⟨Nat.le_of_ble_eq_true rfl, Nat.le_of_ble_eq_true rfl⟩ ⟨(show 0 + 0 + 0 ≤ 0 by omega), (show 0 + 0 + 0 ≤ 0 by omega)⟩ (Nat.le_of_ble_eq_true rfl) hS (fun _ h9 => h9) (fun v9 H locs hq hz9 hfr9 hS => ?_)
            have f_tx : At G tx (.inl (G.2.1 0, n, .inl (sB bf))) H := va_at.kept f_tx (hfr9 _ (va_at.lt f_tx) ne_tx_x)
            obtain ⟨v_2, er, es, ki, st, en, vv, rfl, f_x, hTK, hv_2⟩ := hq
            rcases hn1 : nd1 bf n s1 (nI a1) with ⟨c7, o7⟩ | ⟨s7, v7⟩
            · rw [hn1] at hTK
              have hki := hTK.2.2.2.2
              subst hki
              refine lv_istore_n (lv' := [(1, .int v_2), (2, .int (nI i)), (0, .ref x)]) hx hb dX6_readDocuments_32 rfl hl (by decide) rfl (fun ls hl => ?_)
              refine lv_iinc (v := (nI (i + 1))) (lv' := [(2, .int (nI (i + 1))), (1, .int v_2), (0, .ref x)]) hx hb dX6_readDocuments_33 hl (k := 1) rfl (nI_ad rfl rfl) (by decide) rfl (fun ls hl => ?_)
              refine lv_goto (tgt := 8) hx hb dX6_readDocuments_36 (by decide) ?_
              refine lv_iload_n hx hb dX6_readDocuments_8 rfl (lv_at hl 0 rfl) ?_
              refine lv_aload_n hx hb dX6_readDocuments_9 rfl (lv_at hl 2 rfl) ?_
              refine gf_X6_9 E hG f_x rfl dX6_readDocuments_10 ?_
              refine g_len (t0 := 0) (v := (nI n)) E hG f_tx rfl rfl dX6_readDocuments_13 ?_
              refine lv_icmp_ge (tgt := 39) hx hb dX6_readDocuments_14 (by decide) (fun c_14 => ?_) (fun c_14 => ?_)
              · have c_14 : n ≤ i + 1 := (nLE (x := (nI n)) (y := (nI (i + 1))) (a := n) (b := i + 1) rfl rfl (by omega) (by omega)).mp c_14
                refine lv_iload_n hx hb dX6_readDocuments_39 rfl (lv_at hl 1 rfl) ?_
                exact wr_int E hr hk hS (show 0 + 0 + 0 ≤ 0 by omega) (show 0 + 0 + 0 ≤ 0 by omega) (⟨_, _, _, _, _, _, _, rfl, f_x, by rw [← z4, ndF_1e hn1]; exact hTK, fun _ _ z => by rw [← z4, ndF_1e hn1] at z; cases z⟩) dX6_readDocuments_40
              · have c_14 : ¬ n ≤ i + 1 := fun z9 => c_14 ((nLE (x := (nI n)) (y := (nI (i + 1))) (a := n) (b := i + 1) rfl rfl (by omega) (by omega)).mpr z9)
                refine lv_aload_n hx hb dX6_readDocuments_17 rfl (lv_at hl 2 rfl) ?_
                refine gf_X6_39 E hG f_x rfl dX6_readDocuments_18 ?_
                refine lv_sipush (v := 1001) hx hb dX6_readDocuments_21 rfl ?_
                refine lv_icmp_ne (tgt := 39) hx hb dX6_readDocuments_24 (by decide) (fun c_24 => ?_) (fun c_24 => ?_)
                · refine lv_iload_n hx hb dX6_readDocuments_39 rfl (lv_at hl 1 rfl) ?_
                  exact wr_int E hr hk hS (show 0 + 0 + 0 ≤ 0 by omega) (show 0 + 0 + 0 ≤ 0 by omega) (⟨_, _, _, _, _, _, _, rfl, f_x, by rw [← z4, ndF_1e hn1]; exact hTK, fun _ _ z => by rw [← z4, ndF_1e hn1] at z; cases z⟩) dX6_readDocuments_40
                · exact absurd c_24 (by decide)
            · rw [hn1] at hTK
              have ev := hv_2 _ _ hn1
              obtain ⟨hlt7, hs7, a7, ha7, ea7⟩ := nd1_b hB z3 ha1 hn1
              have hTK : TK bf n (.ok s7) er es ki st en vv := hTK
              obtain ⟨her, hes, hs_g, hst, hki, hen, hvv⟩ := hTK
              subst her hes hst hki hen hvv
              rw [ea7] at hn1 ev
              subst ev
              refine lv_istore_n (lv' := [(1, .int (nI a7)), (2, .int (nI i)), (0, .ref x)]) hx hb dX6_readDocuments_32 rfl hl (by decide) rfl (fun ls hl => ?_)
              refine lv_iinc (v := (nI (i + 1))) (lv' := [(2, .int (nI (i + 1))), (1, .int (nI a7)), (0, .ref x)]) hx hb dX6_readDocuments_33 hl (k := 1) rfl (nI_ad rfl rfl) (by decide) rfl (fun ls hl => ?_)
              refine lv_goto (tgt := 8) hx hb dX6_readDocuments_36 (by decide) ?_
              exact ih (i + 1) s7 a7 (by omega) (by omega) hs7 ha7 (by rw [← z4]; by_cases h3 : inV (bt bf n s7) 48 57 = 1; (rw [if_pos h3, ndF_1g hn1 h3]); (rw [if_neg h3, ndF_1o hn1 h3])) H locs f_x f_tx hS ls (lv_sub hl [0, 1, 2] rfl)
    exact loop n 0 s7 a7 (by omega) (by omega) hs7 ha7 (by by_cases h3 : inV (bt bf n s7) 48 57 = 1; (rw [if_pos h3]; exact (ndF_1g hn1 h3).symm); (rw [if_neg h3]; exact (ndF_1o hn1 h3).symm)) _ _ f_x f_tx hS ls (lv_sub hl [0, 1, 2] rfl)
