/-! READING: the class's reader of tokens -/
theorem jmax_0 {k : Nat} (h : k < 2147483648) : jmax (nI k) 0 = nI k := by
  unfold jmax
  rw [if_neg (nI_pos h)]
theorem va_end {bf : Nat → Int32} {n k : Nat} {c : Int32} (h : kd bf n k = c) (hc : ¬ c = 1001) : va bf n k = 0 := by
  unfold va
  rw [if_neg (by rw [h]; exact hc)]
theorem te_0 {bf : Nat → Int32} {n k : Nat} (h : kd bf n k = 1000) : te bf n k = k := by
  unfold te
  rw [if_pos h]
theorem te_1 {bf : Nat → Int32} {n k : Nat} (h : kd bf n k = 1001) : te bf n k = rn bf n 1001 (k + 1) := by
  unfold te
  rw [if_neg (by rw [h]; decide), if_pos h]
theorem te_2 {bf : Nat → Int32} {n k : Nat} (h : kd bf n k = 1002) : te bf n k = rn bf n 1002 (k + 1) := by
  unfold te
  rw [if_neg (by rw [h]; decide), if_neg (by rw [h]; decide), if_pos h]
theorem te_3 {bf : Nat → Int32} {n k : Nat} (h0 : ¬ kd bf n k = 1000) (h1 : ¬ kd bf n k = 1001) (h2 : ¬ kd bf n k = 1002) : te bf n k = k + 1 := by
  unfold te
  rw [if_neg h0, if_neg h1, if_neg h2]
theorem va_no {bf : Nat → Int32} {n k : Nat} (h1 : ¬ kd bf n k = 1001) : va bf n k = 0 := if_neg h1
set_option maxHeartbeats 4000000 in
set_option maxRecDepth 100000 in
/-- valueOfDigits -/
theorem c_X6_valueOfDigits (l : Launch) (G : CG) {x bk tx fs : Nat} {er es ki vv fg fc : Int32} {bf : Nat → Int32} (n : Nat) (hn9 : n ≤ 900) (s9 e9 : Nat) (hs9 : s9 ≤ e9) (he9 : e9 ≤ n) : Rd l yX6_valueOfDigits cX6_valueOfDigits 3 ((Option.some FieldType.int)) 1 30 G [.ref x] (fun H9 => At G x (.inr (6, rdF er es bk tx ki (nI s9) (nI e9) vv fg fs fc)) H9 ∧ At G tx (bA G n (sB bf)) H9) (some (.int (vc bf (e9 - s9) s9 0))) := by
  refine Rd.ofW (by decide) (Nat.le_of_ble_eq_true rfl) (fun p e s m below meth c ls E hG hE hP hr hk hl => ?_)
  have hx := E.1
  have hb := E.2.1
  have hl : lv_has ls 3 [(0, .ref x)] := hl
  refine lv_iconst (v := 0) hx hb dX6_valueOfDigits_0 rfl ?_
  refine lv_istore_n (lv' := [(1, .int 0), (0, .ref x)]) hx hb dX6_valueOfDigits_1 rfl hl (by decide) rfl (fun ls hl => ?_)
  refine lv_aload_n hx hb dX6_valueOfDigits_2 rfl (lv_at hl 1 rfl) ?_
  refine gf_X6_209 E hG hP.1 rfl dX6_valueOfDigits_3 ?_
  refine lv_iconst (v := 0) hx hb dX6_valueOfDigits_6 rfl ?_
  refine g_mmax (rest := []) E km_X6_227 dX6_valueOfDigits_7 (Nat.le_of_ble_eq_true rfl) (Nat.le_of_ble_eq_true rfl) ⟨Nat.le_of_ble_eq_true rfl, Nat.le_of_ble_eq_true rfl⟩ hl.1 ?_
  refine lv_ci (y := nI s9) (jmax_0 (by omega)) ?_
  refine lv_istore_n (lv' := [(2, .int (nI s9)), (1, .int 0), (0, .ref x)]) hx hb dX6_valueOfDigits_10 rfl hl (by decide) rfl (fun ls hl => ?_)
  have loop : ∀ (j k : Nat) (v : Int32), (e9 < k + j) → (k ≤ e9) → (vc bf (e9 - k) k v = vc bf (e9 - s9) s9 0) → ∀ ls : Array Slot, lv_has ls 3 [(2, .int (nI k)), (1, .int v), (0, .ref x)] → W p l e { frames := 1, cells := 0, slots := 0, locals := 30 } s m ([.ref x] : List Value).toArray below meth c s.heap [] 0 0 (RQ below ([.ref x] : List Value).toArray s (some (.int (vc bf (e9 - s9) s9 0)))) (F0 m 11 ls []) := by
    intro j
    induction j with
    | zero => intro k v z1 z2; omega
    | succ j ih =>
      intro k v z1 z2 z3 ls hl
      refine lv_iload_n hx hb dX6_valueOfDigits_11 rfl (lv_at hl 0 rfl) ?_
      refine lv_aload_n hx hb dX6_valueOfDigits_12 rfl (lv_at hl 2 rfl) ?_
      refine gf_X6_206 E hG hP.1 rfl dX6_valueOfDigits_13 ?_
      refine lv_icmp_ge (tgt := 54) hx hb dX6_valueOfDigits_16 (by decide) (fun c_16 => ?_) (fun c_16 => ?_)
      · have c_16 : e9 ≤ k := (nLE (x := (nI e9)) (y := (nI k)) (a := e9) (b := k) rfl rfl (by omega) (by omega)).mp c_16
        have e8 : e9 - k = 0 := by omega
        rw [e8] at z3
        refine lv_iload_n hx hb dX6_valueOfDigits_54 rfl (lv_at hl 1 rfl) ?_
        exact rd_int E hr hk (by rw [← z3]; rfl) dX6_valueOfDigits_55
      · have c_16 : ¬ e9 ≤ k := fun z9 => c_16 ((nLE (x := (nI e9)) (y := (nI k)) (a := e9) (b := k) rfl rfl (by omega) (by omega)).mpr z9)
        refine lv_iload_n hx hb dX6_valueOfDigits_19 rfl (lv_at hl 0 rfl) ?_
        refine lv_aload_n hx hb dX6_valueOfDigits_20 rfl (lv_at hl 2 rfl) ?_
        refine gf_X6_9 E hG hP.1 rfl dX6_valueOfDigits_21 ?_
        refine g_len (t0 := 0) (v := (nI n)) E hG hP.2 rfl rfl dX6_valueOfDigits_24 ?_
        refine lv_icmp_ge (tgt := 54) hx hb dX6_valueOfDigits_25 (by decide) (fun c_25 => ?_) (fun c_25 => ?_)
        · have c_25 : n ≤ k := (nLE (x := (nI n)) (y := (nI k)) (a := n) (b := k) rfl rfl (by omega) (by omega)).mp c_25
          exact absurd c_25 (by omega)
        · have c_25 : ¬ n ≤ k := fun z9 => c_25 ((nLE (x := (nI n)) (y := (nI k)) (a := n) (b := k) rfl rfl (by omega) (by omega)).mpr z9)
          rw [show e9 - k = (e9 - (k + 1)) + 1 by omega] at z3
          refine lv_ldc (v := 10000000) hx hb E.2.2.2.1 (E.2.2.2.2 _ kk_X6_232) dX6_valueOfDigits_28 ?_
          refine lv_iload_n hx hb dX6_valueOfDigits_30 rfl (lv_at hl 1 rfl) ?_
          refine lv_bipush (v := 10) hx hb dX6_valueOfDigits_31 rfl ?_
          refine lv_imul hx hb dX6_valueOfDigits_33 ?_
          refine lv_aload_n hx hb dX6_valueOfDigits_34 rfl (lv_at hl 2 rfl) ?_
          refine gf_X6_9 E hG hP.1 rfl dX6_valueOfDigits_35 ?_
          refine lv_iload_n hx hb dX6_valueOfDigits_38 rfl (lv_at hl 0 rfl) ?_
          refine g_bld k E hG hP.2 rfl (by omega) (by omega) dX6_valueOfDigits_39 ?_
          refine lv_iadd hx hb dX6_valueOfDigits_40 ?_
          refine lv_bipush (v := 48) hx hb dX6_valueOfDigits_41 rfl ?_
          refine lv_isub hx hb dX6_valueOfDigits_43 ?_
          refine g_mmin (rest := []) E km_X6_233 dX6_valueOfDigits_44 (Nat.le_of_ble_eq_true rfl) (Nat.le_of_ble_eq_true rfl) ⟨Nat.le_of_ble_eq_true rfl, Nat.le_of_ble_eq_true rfl⟩ hl.1 ?_
          refine lv_istore_n (lv' := [(1, .int (jmin 10000000 (((v * 10) + ((sB bf) k)) - 48))), (2, .int (nI k)), (0, .ref x)]) hx hb dX6_valueOfDigits_47 rfl hl (by decide) rfl (fun ls hl => ?_)
          refine lv_iinc (v := (nI (k + 1))) (lv' := [(2, .int (nI (k + 1))), (1, .int (jmin 10000000 (((v * 10) + ((sB bf) k)) - 48))), (0, .ref x)]) hx hb dX6_valueOfDigits_48 hl (k := 1) rfl (nI_ad rfl rfl) (by decide) rfl (fun ls hl => ?_)
          refine lv_goto (tgt := 11) hx hb dX6_valueOfDigits_51 (by decide) ?_
          exact ih (k + 1) _ (by omega) (by omega) z3 ls (lv_sub hl [0, 1, 2] rfl)
  exact loop (e9 + 1) s9 0 (by omega) (by omega) rfl ls (lv_sub hl [0, 1, 2] rfl)

set_option maxHeartbeats 4000000 in
set_option maxRecDepth 100000 in
/-- nextToken -/
theorem c_X6_nextToken (l : Launch) (G : CG) {x bk tx fs : Nat} {ki st vv fg fc : Int32} {bf : Nat → Int32} (hB : ByO bf) (n : Nat) (hn9 : n ≤ 900) (hEx : EFA G x) (ne_tx_x : tx ≠ x) (e9 : Nat) (he9 : e9 ≤ n) : Wr l yX6_nextToken cX6_nextToken 2 ((Option.none : Option FieldType)) 2 52 0 0 G [.ref x] (fun H9 => At G x (.inr (6, rdF 0 (-1) bk tx ki st (nI e9) vv fg fs fc)) H9 ∧ At G tx (bA G n (sB bf)) H9) (fun q9 => q9 = x) (fun v9 H9 => v9 = none ∧ ∃ er es ki st en vv, At G x (.inr (6, rdF er es bk tx ki st en vv fg fs fc)) H9 ∧ TK bf n (.ok (spc bf n e9)) er es ki st en vv) := by
  refine Wr.ofW (by decide) (Nat.le_of_ble_eq_true rfl) (fun p e s m below meth c ls E hG hE hP hr hk hin hl => ?_)
  have hS : va_S (fun q9 => q9 = x) s.heap s.heap [] := va_S.rf
  have hx := E.1
  have hb := E.2.1
  have hl : lv_has ls 2 [(0, .ref x)] := hl
  have f_x := hP.1
  have f_tx := hP.2
  have hEA : ∀ q9, q9 = x → EFA G q9 := fun q9 h9 => by rw [h9]; exact hEx
  have hsb := sk_b (bf := bf) he9
  refine lv_aload_n hx hb dX6_nextToken_0 rfl (lv_at hl 0 rfl) ?_
  refine lv_aload_n hx hb dX6_nextToken_1 rfl (lv_at hl 0 rfl) ?_
  refine gf_X6_206 E hG f_x rfl dX6_nextToken_2 ?_
  refine pf_X6_209 E hG f_x (Nat.le_of_ble_eq_true rfl) rfl rfl hS rfl dX6_nextToken_5 (fun H locs f_x hz oq hS => ?_)
  have f_tx : At G tx (.inl (G.2.1 0, n, .inl (sB bf))) H := oth f_tx ne_tx_x oq
  have f_x : At G x (.inr (6, [.int 0, .int (-1), .ref bk, .ref tx, .int ki, .int (nI e9), .int (nI e9), .int vv, .int fg, .ref fs, .int fc])) H := f_x
  have rest : ∀ (_ : Nat),  ∀ (H : Heap) (locs : List Loc), At G x (.inr (6, [.int 0, .int (-1), .ref bk, .ref tx, .int ki, .int (nI (spc bf n e9)), .int (nI e9), .int vv, .int fg, .ref fs, .int fc])) H → At G tx (.inl (G.2.1 0, n, .inl (sB bf))) H → va_S (fun q9 => q9 = x) s.heap H locs → ∀ ls : Array Slot, lv_has ls 2 [(0, .ref x)] → W p l e { frames := 2, cells := 0, slots := 0, locals := 52 } s m ([.ref x] : List Value).toArray below meth c H locs 0 0 (WQ below ([.ref x] : List Value).toArray s 0 0 (fun q9 => q9 = x) (fun v9 H9 => v9 = none ∧ ∃ er es ki st en vv, At G x (.inr (6, rdF er es bk tx ki st en vv fg fs fc)) H9 ∧ TK bf n (.ok (spc bf n e9)) er es ki st en vv)) (F0 m 46 ls []) := by
    intro _ H locs f_x f_tx hS ls hl
    refine lv_aload_n hx hb dX6_nextToken_46 rfl (lv_at hl 0 rfl) ?_
    refine lv_aload_n hx hb dX6_nextToken_47 rfl (lv_at hl 0 rfl) ?_
    refine lv_aload_n hx hb dX6_nextToken_48 rfl (lv_at hl 0 rfl) ?_
    refine gf_X6_209 E hG f_x rfl dX6_nextToken_49 ?_
    refine Rd.callV (rest := [.ref x]) (c_X6_kindAt l G hn9 (nI (spc bf n e9)) (spc bf n e9) rfl (by omega)) yk_X6_kindAt E km_X6_221 dX6_nextToken_52 hG (hE.S hS hEA) ⟨f_x, f_tx⟩ (At.recv hG f_x rfl) rfl rfl hl.1 ⟨Nat.le_of_ble_eq_true rfl, Nat.le_of_ble_eq_true rfl⟩ ⟨(show 0 ≤ 0 by omega), (show 0 ≤ 0 by omega)⟩ (Nat.le_of_ble_eq_true rfl) ?_
    refine lv_ci (y := (kd bf n (spc bf n e9))) rfl ?_
    refine pf_X6_39 E hG f_x (Nat.le_of_ble_eq_true rfl) rfl rfl hS rfl dX6_nextToken_55 (fun H locs f_x hz oq hS => ?_)
    have f_tx : At G tx (.inl (G.2.1 0, n, .inl (sB bf))) H := oth f_tx ne_tx_x oq
    have f_x : At G x (.inr (6, [.int 0, .int (-1), .ref bk, .ref tx, .int (kd bf n (spc bf n e9)), .int (nI (spc bf n e9)), .int (nI e9), .int vv, .int fg, .ref fs, .int fc])) H := f_x
    refine lv_aload_n hx hb dX6_nextToken_58 rfl (lv_at hl 0 rfl) ?_
    refine lv_aload_n hx hb dX6_nextToken_59 rfl (lv_at hl 0 rfl) ?_
    refine gf_X6_39 E hG f_x rfl dX6_nextToken_60 ?_
    by_cases h0 : kd bf n (spc bf n e9) = 1000
    · refine lv_sipush (v := 1000) hx hb dX6_nextToken_63 rfl ?_
      refine lv_icmp_ne (tgt := 76) hx hb dX6_nextToken_66 (by decide) (fun c_66 => ?_) (fun c_66 => ?_)
      · exact (by rw [h0] at c_66; exact absurd c_66 (by decide))
      · refine lv_aload_n hx hb dX6_nextToken_69 rfl (lv_at hl 0 rfl) ?_
        refine gf_X6_209 E hG f_x rfl dX6_nextToken_70 ?_
        refine lv_goto (tgt := 82) hx hb dX6_nextToken_73 (by decide) ?_
        refine pf_X6_206 E hG f_x (Nat.le_of_ble_eq_true rfl) rfl rfl hS rfl dX6_nextToken_82 (fun H locs f_x hz oq hS => ?_)
        have f_tx : At G tx (.inl (G.2.1 0, n, .inl (sB bf))) H := oth f_tx ne_tx_x oq
        have f_x : At G x (.inr (6, [.int 0, .int (-1), .ref bk, .ref tx, .int (kd bf n (spc bf n e9)), .int (nI (spc bf n e9)), .int (nI (spc bf n e9)), .int vv, .int fg, .ref fs, .int fc])) H := f_x
        refine lv_aload_n hx hb dX6_nextToken_85 rfl (lv_at hl 0 rfl) ?_
        refine gf_X6_39 E hG f_x rfl dX6_nextToken_86 ?_
        refine lv_sipush (v := 1001) hx hb dX6_nextToken_89 rfl ?_
        refine lv_icmp_eq (tgt := 105) hx hb dX6_nextToken_92 (by decide) (fun c_92 => ?_) (fun c_92 => ?_)
        · exact (by rw [h0] at c_92; exact absurd c_92 (by decide))
        · refine lv_aload_n hx hb dX6_nextToken_95 rfl (lv_at hl 0 rfl) ?_
          refine gf_X6_39 E hG f_x rfl dX6_nextToken_96 ?_
          refine lv_sipush (v := 1002) hx hb dX6_nextToken_99 rfl ?_
          refine lv_icmp_ne (tgt := 109) hx hb dX6_nextToken_102 (by decide) (fun c_102 => ?_) (fun c_102 => ?_)
          · refine lv_iconst (v := 0) hx hb dX6_nextToken_109 rfl ?_
            refine lv_istore_n (lv' := [(1, .int 0), (0, .ref x)]) hx hb dX6_nextToken_110 rfl hl (by decide) rfl (fun ls hl => ?_)
            refine lv_iload_n hx hb dX6_nextToken_111 rfl (lv_at hl 0 rfl) ?_
            refine lv_if_eq (tgt := 155) hx hb dX6_nextToken_112 (by decide) (fun c_112 => ?_) (fun c_112 => ?_)
            · refine lv_aload_n hx hb dX6_nextToken_155 rfl (lv_at hl 1 rfl) ?_
              refine lv_aload_n hx hb dX6_nextToken_156 rfl (lv_at hl 1 rfl) ?_
              refine gf_X6_39 E hG f_x rfl dX6_nextToken_157 ?_
              refine lv_sipush (v := 1001) hx hb dX6_nextToken_160 rfl ?_
              refine lv_icmp_ne (tgt := 173) hx hb dX6_nextToken_163 (by decide) (fun c_163 => ?_) (fun c_163 => ?_)
              · refine lv_iconst (v := 0) hx hb dX6_nextToken_173 rfl ?_
                refine pf_X6_86 E hG f_x (Nat.le_of_ble_eq_true rfl) rfl rfl hS rfl dX6_nextToken_174 (fun H locs f_x hz oq hS => ?_)
                have f_tx : At G tx (.inl (G.2.1 0, n, .inl (sB bf))) H := oth f_tx ne_tx_x oq
                have f_x : At G x (.inr (6, [.int 0, .int (-1), .ref bk, .ref tx, .int (kd bf n (spc bf n e9)), .int (nI (spc bf n e9)), .int (nI (spc bf n e9)), .int 0, .int fg, .ref fs, .int fc])) H := f_x
                exact wr_void E hr hk hS (show 0 ≤ 0 by omega) (show 0 ≤ 0 by omega) (⟨rfl, _, _, _, _, _, _, f_x, rfl, rfl, hsb.2, rfl, rfl, by rw [te_0 h0], by rw [va_end h0 (by decide)]⟩) dX6_nextToken_177
              · exact (by rw [h0] at c_163; exact absurd c_163 (by decide))
            · exact absurd c_112 (by decide)
          · exact (by rw [h0] at c_102; exact absurd c_102 (by decide))
    · by_cases h1 : kd bf n (spc bf n e9) = 1001
      · refine lv_sipush (v := 1000) hx hb dX6_nextToken_63 rfl ?_
        refine lv_icmp_ne (tgt := 76) hx hb dX6_nextToken_66 (by decide) (fun c_66 => ?_) (fun c_66 => ?_)
        rotate_left
        · exact (by rw [h1] at c_66; exact absurd c_66 (by decide))
        refine lv_aload_n hx hb dX6_nextToken_76 rfl (lv_at hl 0 rfl) ?_
        refine gf_X6_209 E hG f_x rfl dX6_nextToken_77 ?_
        refine lv_iconst (v := 1) hx hb dX6_nextToken_80 rfl ?_
        refine lv_iadd hx hb dX6_nextToken_81 ?_
        refine lv_ci (y := nI (spc bf n e9 + 1)) (ixq (nI_ad rfl rfl)) ?_
        refine pf_X6_206 E hG f_x (Nat.le_of_ble_eq_true rfl) rfl rfl hS rfl dX6_nextToken_82 (fun H locs f_x hz oq hS => ?_)
        have f_tx : At G tx (.inl (G.2.1 0, n, .inl (sB bf))) H := oth f_tx ne_tx_x oq
        have f_x : At G x (.inr (6, [.int 0, .int (-1), .ref bk, .ref tx, .int (kd bf n (spc bf n e9)), .int (nI (spc bf n e9)), .int (nI (spc bf n e9 + 1)), .int vv, .int fg, .ref fs, .int fc])) H := f_x
        refine lv_aload_n hx hb dX6_nextToken_85 rfl (lv_at hl 0 rfl) ?_
        refine gf_X6_39 E hG f_x rfl dX6_nextToken_86 ?_
        refine lv_sipush (v := 1001) hx hb dX6_nextToken_89 rfl ?_
        refine lv_icmp_eq (tgt := 105) hx hb dX6_nextToken_92 (by decide) (fun c_92 => ?_) (fun c_92 => ?_)
        rotate_left
        · exact (by rw [h1] at c_92; exact absurd c_92 (by decide))
        refine lv_iconst (v := 1) hx hb dX6_nextToken_105 rfl ?_
        refine lv_goto (tgt := 110) hx hb dX6_nextToken_106 (by decide) ?_
        refine lv_istore_n (lv' := [(1, .int 1), (0, .ref x)]) hx hb dX6_nextToken_110 rfl hl (by decide) rfl (fun ls hl => ?_)
        have hlt := kd_lt h1 (by decide)
        have hrb := rn_b (bf := bf) (n := n) (c := 1001) (by decide) n (spc bf n e9 + 1) (by omega) (by omega)
        have lp2 : ∀ (j k : Nat), n < k + j → k ≤ n → rn bf n 1001 k = rn bf n 1001 (spc bf n e9 + 1) → ∀ (H : Heap) (locs : List Loc), At G x (.inr (6, [.int 0, .int (-1), .ref bk, .ref tx, .int (kd bf n (spc bf n e9)), .int (nI (spc bf n e9)), .int (nI k), .int vv, .int fg, .ref fs, .int fc])) H → At G tx (.inl (G.2.1 0, n, .inl (sB bf))) H → va_S (fun q9 => q9 = x) s.heap H locs → ∀ ls : Array Slot, lv_has ls 2 [(1, .int 1), (0, .ref x)] → W p l e { frames := 2, cells := 0, slots := 0, locals := 52 } s m ([.ref x] : List Value).toArray below meth c H locs 0 0 (WQ below ([.ref x] : List Value).toArray s 0 0 (fun q9 => q9 = x) (fun v9 H9 => v9 = none ∧ ∃ er es ki st en vv, At G x (.inr (6, rdF er es bk tx ki st en vv fg fs fc)) H9 ∧ TK bf n (.ok (spc bf n e9)) er es ki st en vv)) (F0 m 111 ls []) := by
          intro j
          induction j with
          | zero => intro k z1 z2; omega
          | succ j ih =>
            intro k z1 z2 z3 H locs f_x f_tx hS ls hl
            refine lv_iload_n hx hb dX6_nextToken_111 rfl (lv_at hl 0 rfl) ?_
            refine lv_if_eq (tgt := 155) hx hb dX6_nextToken_112 (by decide) (fun c_112 => ?_) (fun c_112 => ?_)
            · exact absurd c_112 (by decide)
            refine lv_aload_n hx hb dX6_nextToken_115 rfl (lv_at hl 1 rfl) ?_
            refine gf_X6_206 E hG f_x rfl dX6_nextToken_116 ?_
            refine lv_aload_n hx hb dX6_nextToken_119 rfl (lv_at hl 1 rfl) ?_
            refine gf_X6_9 E hG f_x rfl dX6_nextToken_120 ?_
            refine g_len (t0 := 0) (v := (nI n)) E hG f_tx rfl rfl dX6_nextToken_123 ?_
            refine lv_icmp_ge (tgt := 155) hx hb dX6_nextToken_124 (by decide) (fun c_124 => ?_) (fun c_124 => ?_)
            · have c_124 : n ≤ k := (nLE (x := (nI n)) (y := (nI k)) (a := n) (b := k) rfl rfl (by omega) (by omega)).mp c_124
              have e8 : k = (rn bf n 1001 (spc bf n e9 + 1)) := by rw [← z3, rn_n (fun z9 => absurd (kd_lt z9 (by decide)) (by omega))]
              subst e8
              refine lv_aload_n hx hb dX6_nextToken_155 rfl (lv_at hl 1 rfl) ?_
              refine lv_aload_n hx hb dX6_nextToken_156 rfl (lv_at hl 1 rfl) ?_
              refine gf_X6_39 E hG f_x rfl dX6_nextToken_157 ?_
              refine lv_sipush (v := 1001) hx hb dX6_nextToken_160 rfl ?_
              refine lv_icmp_ne (tgt := 173) hx hb dX6_nextToken_163 (by decide) (fun c_163 => ?_) (fun c_163 => ?_)
              · exact (by rw [h1] at c_163; exact absurd c_163 (by decide))
              · refine lv_aload_n hx hb dX6_nextToken_166 rfl (lv_at hl 1 rfl) ?_
                refine Rd.callV (rest := [.ref x]) (c_X6_valueOfDigits l G n hn9 (spc bf n e9) (rn bf n 1001 (spc bf n e9 + 1)) (by omega) (by omega)) yk_X6_valueOfDigits E km_X6_224 dX6_nextToken_167 hG (hE.S hS hEA) ⟨f_x, f_tx⟩ (At.recv hG f_x rfl) rfl rfl hl.1 ⟨Nat.le_of_ble_eq_true rfl, Nat.le_of_ble_eq_true rfl⟩ ⟨(show 0 ≤ 0 by omega), (show 0 ≤ 0 by omega)⟩ (Nat.le_of_ble_eq_true rfl) ?_
                refine lv_goto (tgt := 174) hx hb dX6_nextToken_170 (by decide) ?_
                refine pf_X6_86 E hG f_x (Nat.le_of_ble_eq_true rfl) rfl rfl hS rfl dX6_nextToken_174 (fun H locs f_x hz oq hS => ?_)
                have f_tx : At G tx (.inl (G.2.1 0, n, .inl (sB bf))) H := oth f_tx ne_tx_x oq
                have f_x : At G x (.inr (6, [.int 0, .int (-1), .ref bk, .ref tx, .int (kd bf n (spc bf n e9)), .int (nI (spc bf n e9)), .int (nI (rn bf n 1001 (spc bf n e9 + 1))), .int (vc bf ((rn bf n 1001 (spc bf n e9 + 1)) - (spc bf n e9)) (spc bf n e9) 0), .int fg, .ref fs, .int fc])) H := f_x
                exact wr_void E hr hk hS (show 0 ≤ 0 by omega) (show 0 ≤ 0 by omega) (⟨rfl, _, _, _, _, _, _, f_x, rfl, rfl, hsb.2, rfl, rfl, by rw [te_1 h1], by unfold va; rw [if_pos h1, te_1 h1]⟩) dX6_nextToken_177
            · have c_124 : ¬ n ≤ k := fun z9 => c_124 ((nLE (x := (nI n)) (y := (nI k)) (a := n) (b := k) rfl rfl (by omega) (by omega)).mpr z9)
              refine lv_aload_n hx hb dX6_nextToken_127 rfl (lv_at hl 1 rfl) ?_
              refine lv_aload_n hx hb dX6_nextToken_128 rfl (lv_at hl 1 rfl) ?_
              refine gf_X6_206 E hG f_x rfl dX6_nextToken_129 ?_
              refine Rd.callV (rest := []) (c_X6_kindAt l G hn9 (nI k) k rfl (by omega)) yk_X6_kindAt E km_X6_221 dX6_nextToken_132 hG (hE.S hS hEA) ⟨f_x, f_tx⟩ (At.recv hG f_x rfl) rfl rfl hl.1 ⟨Nat.le_of_ble_eq_true rfl, Nat.le_of_ble_eq_true rfl⟩ ⟨(show 0 ≤ 0 by omega), (show 0 ≤ 0 by omega)⟩ (Nat.le_of_ble_eq_true rfl) ?_
              refine lv_ci (y := (kd bf n k)) rfl ?_
              refine lv_aload_n hx hb dX6_nextToken_135 rfl (lv_at hl 1 rfl) ?_
              refine gf_X6_39 E hG f_x rfl dX6_nextToken_136 ?_
              refine lv_icmp_ne (tgt := 155) hx hb dX6_nextToken_139 (by decide) (fun c_139 => ?_) (fun c_139 => ?_)
              · have e8 : k = (rn bf n 1001 (spc bf n e9 + 1)) := by rw [← z3, rn_n (by rw [← h1]; exact c_139)]
                subst e8
                refine lv_aload_n hx hb dX6_nextToken_155 rfl (lv_at hl 1 rfl) ?_
                refine lv_aload_n hx hb dX6_nextToken_156 rfl (lv_at hl 1 rfl) ?_
                refine gf_X6_39 E hG f_x rfl dX6_nextToken_157 ?_
                refine lv_sipush (v := 1001) hx hb dX6_nextToken_160 rfl ?_
                refine lv_icmp_ne (tgt := 173) hx hb dX6_nextToken_163 (by decide) (fun c_163 => ?_) (fun c_163 => ?_)
                · exact (by rw [h1] at c_163; exact absurd c_163 (by decide))
                · refine lv_aload_n hx hb dX6_nextToken_166 rfl (lv_at hl 1 rfl) ?_
                  refine Rd.callV (rest := [.ref x]) (c_X6_valueOfDigits l G n hn9 (spc bf n e9) (rn bf n 1001 (spc bf n e9 + 1)) (by omega) (by omega)) yk_X6_valueOfDigits E km_X6_224 dX6_nextToken_167 hG (hE.S hS hEA) ⟨f_x, f_tx⟩ (At.recv hG f_x rfl) rfl rfl hl.1 ⟨Nat.le_of_ble_eq_true rfl, Nat.le_of_ble_eq_true rfl⟩ ⟨(show 0 ≤ 0 by omega), (show 0 ≤ 0 by omega)⟩ (Nat.le_of_ble_eq_true rfl) ?_
                  refine lv_goto (tgt := 174) hx hb dX6_nextToken_170 (by decide) ?_
                  refine pf_X6_86 E hG f_x (Nat.le_of_ble_eq_true rfl) rfl rfl hS rfl dX6_nextToken_174 (fun H locs f_x hz oq hS => ?_)
                  have f_tx : At G tx (.inl (G.2.1 0, n, .inl (sB bf))) H := oth f_tx ne_tx_x oq
                  have f_x : At G x (.inr (6, [.int 0, .int (-1), .ref bk, .ref tx, .int (kd bf n (spc bf n e9)), .int (nI (spc bf n e9)), .int (nI (rn bf n 1001 (spc bf n e9 + 1))), .int (vc bf ((rn bf n 1001 (spc bf n e9 + 1)) - (spc bf n e9)) (spc bf n e9) 0), .int fg, .ref fs, .int fc])) H := f_x
                  exact wr_void E hr hk hS (show 0 ≤ 0 by omega) (show 0 ≤ 0 by omega) (⟨rfl, _, _, _, _, _, _, f_x, rfl, rfl, hsb.2, rfl, rfl, by rw [te_1 h1], by unfold va; rw [if_pos h1, te_1 h1]⟩) dX6_nextToken_177
              · have e7 : kd bf n k = 1001 := c_139.trans h1
                refine lv_aload_n hx hb dX6_nextToken_142 rfl (lv_at hl 1 rfl) ?_
                refine lv_dup hx hb dX6_nextToken_143 rfl ?_
                refine gf_X6_206 E hG f_x rfl dX6_nextToken_144 ?_
                refine lv_iconst (v := 1) hx hb dX6_nextToken_147 rfl ?_
                refine lv_iadd hx hb dX6_nextToken_148 ?_
                refine lv_ci (y := nI (k + 1)) (ixq (nI_ad rfl rfl)) ?_
                refine pf_X6_206 E hG f_x (Nat.le_of_ble_eq_true rfl) rfl rfl hS rfl dX6_nextToken_149 (fun H locs f_x hz oq hS => ?_)
                have f_tx : At G tx (.inl (G.2.1 0, n, .inl (sB bf))) H := oth f_tx ne_tx_x oq
                have f_x : At G x (.inr (6, [.int 0, .int (-1), .ref bk, .ref tx, .int (kd bf n (spc bf n e9)), .int (nI (spc bf n e9)), .int (nI (k + 1)), .int vv, .int fg, .ref fs, .int fc])) H := f_x
                refine lv_goto (tgt := 111) hx hb dX6_nextToken_152 (by decide) ?_
                exact ih (k + 1) (by omega) (by omega) (by rw [← z3, rn_s e7 (by decide)]) H locs f_x f_tx hS ls (lv_sub hl [0, 1] rfl)
        exact lp2 (n + 1) (spc bf n e9 + 1) (by omega) (by omega) rfl _ _ f_x f_tx hS ls (lv_sub hl [0, 1] rfl)
      · by_cases h2 : kd bf n (spc bf n e9) = 1002
        · refine lv_sipush (v := 1000) hx hb dX6_nextToken_63 rfl ?_
          refine lv_icmp_ne (tgt := 76) hx hb dX6_nextToken_66 (by decide) (fun c_66 => ?_) (fun c_66 => ?_)
          rotate_left
          · exact (by rw [h2] at c_66; exact absurd c_66 (by decide))
          refine lv_aload_n hx hb dX6_nextToken_76 rfl (lv_at hl 0 rfl) ?_
          refine gf_X6_209 E hG f_x rfl dX6_nextToken_77 ?_
          refine lv_iconst (v := 1) hx hb dX6_nextToken_80 rfl ?_
          refine lv_iadd hx hb dX6_nextToken_81 ?_
          refine lv_ci (y := nI (spc bf n e9 + 1)) (ixq (nI_ad rfl rfl)) ?_
          refine pf_X6_206 E hG f_x (Nat.le_of_ble_eq_true rfl) rfl rfl hS rfl dX6_nextToken_82 (fun H locs f_x hz oq hS => ?_)
          have f_tx : At G tx (.inl (G.2.1 0, n, .inl (sB bf))) H := oth f_tx ne_tx_x oq
          have f_x : At G x (.inr (6, [.int 0, .int (-1), .ref bk, .ref tx, .int (kd bf n (spc bf n e9)), .int (nI (spc bf n e9)), .int (nI (spc bf n e9 + 1)), .int vv, .int fg, .ref fs, .int fc])) H := f_x
          refine lv_aload_n hx hb dX6_nextToken_85 rfl (lv_at hl 0 rfl) ?_
          refine gf_X6_39 E hG f_x rfl dX6_nextToken_86 ?_
          refine lv_sipush (v := 1001) hx hb dX6_nextToken_89 rfl ?_
          refine lv_icmp_eq (tgt := 105) hx hb dX6_nextToken_92 (by decide) (fun c_92 => ?_) (fun c_92 => ?_)
          · exact (by rw [h2] at c_92; exact absurd c_92 (by decide))
          refine lv_aload_n hx hb dX6_nextToken_95 rfl (lv_at hl 0 rfl) ?_
          refine gf_X6_39 E hG f_x rfl dX6_nextToken_96 ?_
          refine lv_sipush (v := 1002) hx hb dX6_nextToken_99 rfl ?_
          refine lv_icmp_ne (tgt := 109) hx hb dX6_nextToken_102 (by decide) (fun c_102 => ?_) (fun c_102 => ?_)
          · exact (by rw [h2] at c_102; exact absurd c_102 (by decide))
          refine lv_iconst (v := 1) hx hb dX6_nextToken_105 rfl ?_
          refine lv_goto (tgt := 110) hx hb dX6_nextToken_106 (by decide) ?_
          refine lv_istore_n (lv' := [(1, .int 1), (0, .ref x)]) hx hb dX6_nextToken_110 rfl hl (by decide) rfl (fun ls hl => ?_)
          have hlt := kd_lt h2 (by decide)
          have hrb := rn_b (bf := bf) (n := n) (c := 1002) (by decide) n (spc bf n e9 + 1) (by omega) (by omega)
          have lp2 : ∀ (j k : Nat), n < k + j → k ≤ n → rn bf n 1002 k = rn bf n 1002 (spc bf n e9 + 1) → ∀ (H : Heap) (locs : List Loc), At G x (.inr (6, [.int 0, .int (-1), .ref bk, .ref tx, .int (kd bf n (spc bf n e9)), .int (nI (spc bf n e9)), .int (nI k), .int vv, .int fg, .ref fs, .int fc])) H → At G tx (.inl (G.2.1 0, n, .inl (sB bf))) H → va_S (fun q9 => q9 = x) s.heap H locs → ∀ ls : Array Slot, lv_has ls 2 [(1, .int 1), (0, .ref x)] → W p l e { frames := 2, cells := 0, slots := 0, locals := 52 } s m ([.ref x] : List Value).toArray below meth c H locs 0 0 (WQ below ([.ref x] : List Value).toArray s 0 0 (fun q9 => q9 = x) (fun v9 H9 => v9 = none ∧ ∃ er es ki st en vv, At G x (.inr (6, rdF er es bk tx ki st en vv fg fs fc)) H9 ∧ TK bf n (.ok (spc bf n e9)) er es ki st en vv)) (F0 m 111 ls []) := by
            intro j
            induction j with
            | zero => intro k z1 z2; omega
            | succ j ih =>
              intro k z1 z2 z3 H locs f_x f_tx hS ls hl
              refine lv_iload_n hx hb dX6_nextToken_111 rfl (lv_at hl 0 rfl) ?_
              refine lv_if_eq (tgt := 155) hx hb dX6_nextToken_112 (by decide) (fun c_112 => ?_) (fun c_112 => ?_)
              · exact absurd c_112 (by decide)
              refine lv_aload_n hx hb dX6_nextToken_115 rfl (lv_at hl 1 rfl) ?_
              refine gf_X6_206 E hG f_x rfl dX6_nextToken_116 ?_
              refine lv_aload_n hx hb dX6_nextToken_119 rfl (lv_at hl 1 rfl) ?_
              refine gf_X6_9 E hG f_x rfl dX6_nextToken_120 ?_
              refine g_len (t0 := 0) (v := (nI n)) E hG f_tx rfl rfl dX6_nextToken_123 ?_
              refine lv_icmp_ge (tgt := 155) hx hb dX6_nextToken_124 (by decide) (fun c_124 => ?_) (fun c_124 => ?_)
              · have c_124 : n ≤ k := (nLE (x := (nI n)) (y := (nI k)) (a := n) (b := k) rfl rfl (by omega) (by omega)).mp c_124
                have e8 : k = (rn bf n 1002 (spc bf n e9 + 1)) := by rw [← z3, rn_n (fun z9 => absurd (kd_lt z9 (by decide)) (by omega))]
                subst e8
                refine lv_aload_n hx hb dX6_nextToken_155 rfl (lv_at hl 1 rfl) ?_
                refine lv_aload_n hx hb dX6_nextToken_156 rfl (lv_at hl 1 rfl) ?_
                refine gf_X6_39 E hG f_x rfl dX6_nextToken_157 ?_
                refine lv_sipush (v := 1001) hx hb dX6_nextToken_160 rfl ?_
                refine lv_icmp_ne (tgt := 173) hx hb dX6_nextToken_163 (by decide) (fun c_163 => ?_) (fun c_163 => ?_)
                · refine lv_iconst (v := 0) hx hb dX6_nextToken_173 rfl ?_
                  refine pf_X6_86 E hG f_x (Nat.le_of_ble_eq_true rfl) rfl rfl hS rfl dX6_nextToken_174 (fun H locs f_x hz oq hS => ?_)
                  have f_tx : At G tx (.inl (G.2.1 0, n, .inl (sB bf))) H := oth f_tx ne_tx_x oq
                  have f_x : At G x (.inr (6, [.int 0, .int (-1), .ref bk, .ref tx, .int (kd bf n (spc bf n e9)), .int (nI (spc bf n e9)), .int (nI (rn bf n 1002 (spc bf n e9 + 1))), .int 0, .int fg, .ref fs, .int fc])) H := f_x
                  exact wr_void E hr hk hS (show 0 ≤ 0 by omega) (show 0 ≤ 0 by omega) (⟨rfl, _, _, _, _, _, _, f_x, rfl, rfl, hsb.2, rfl, rfl, by rw [te_2 h2], by rw [va_no h1]⟩) dX6_nextToken_177
                · exact (by rw [h2] at c_163; exact absurd c_163 (by decide))
              · have c_124 : ¬ n ≤ k := fun z9 => c_124 ((nLE (x := (nI n)) (y := (nI k)) (a := n) (b := k) rfl rfl (by omega) (by omega)).mpr z9)
                refine lv_aload_n hx hb dX6_nextToken_127 rfl (lv_at hl 1 rfl) ?_
                refine lv_aload_n hx hb dX6_nextToken_128 rfl (lv_at hl 1 rfl) ?_
                refine gf_X6_206 E hG f_x rfl dX6_nextToken_129 ?_
                refine Rd.callV (rest := []) (c_X6_kindAt l G hn9 (nI k) k rfl (by omega)) yk_X6_kindAt E km_X6_221 dX6_nextToken_132 hG (hE.S hS hEA) ⟨f_x, f_tx⟩ (At.recv hG f_x rfl) rfl rfl hl.1 ⟨Nat.le_of_ble_eq_true rfl, Nat.le_of_ble_eq_true rfl⟩ ⟨(show 0 ≤ 0 by omega), (show 0 ≤ 0 by omega)⟩ (Nat.le_of_ble_eq_true rfl) ?_
                refine lv_ci (y := (kd bf n k)) rfl ?_
                refine lv_aload_n hx hb dX6_nextToken_135 rfl (lv_at hl 1 rfl) ?_
                refine gf_X6_39 E hG f_x rfl dX6_nextToken_136 ?_
                refine lv_icmp_ne (tgt := 155) hx hb dX6_nextToken_139 (by decide) (fun c_139 => ?_) (fun c_139 => ?_)
                · have e8 : k = (rn bf n 1002 (spc bf n e9 + 1)) := by rw [← z3, rn_n (by rw [← h2]; exact c_139)]
                  subst e8
                  refine lv_aload_n hx hb dX6_nextToken_155 rfl (lv_at hl 1 rfl) ?_
                  refine lv_aload_n hx hb dX6_nextToken_156 rfl (lv_at hl 1 rfl) ?_
                  refine gf_X6_39 E hG f_x rfl dX6_nextToken_157 ?_
                  refine lv_sipush (v := 1001) hx hb dX6_nextToken_160 rfl ?_
                  refine lv_icmp_ne (tgt := 173) hx hb dX6_nextToken_163 (by decide) (fun c_163 => ?_) (fun c_163 => ?_)
                  · refine lv_iconst (v := 0) hx hb dX6_nextToken_173 rfl ?_
                    refine pf_X6_86 E hG f_x (Nat.le_of_ble_eq_true rfl) rfl rfl hS rfl dX6_nextToken_174 (fun H locs f_x hz oq hS => ?_)
                    have f_tx : At G tx (.inl (G.2.1 0, n, .inl (sB bf))) H := oth f_tx ne_tx_x oq
                    have f_x : At G x (.inr (6, [.int 0, .int (-1), .ref bk, .ref tx, .int (kd bf n (spc bf n e9)), .int (nI (spc bf n e9)), .int (nI (rn bf n 1002 (spc bf n e9 + 1))), .int 0, .int fg, .ref fs, .int fc])) H := f_x
                    exact wr_void E hr hk hS (show 0 ≤ 0 by omega) (show 0 ≤ 0 by omega) (⟨rfl, _, _, _, _, _, _, f_x, rfl, rfl, hsb.2, rfl, rfl, by rw [te_2 h2], by rw [va_no h1]⟩) dX6_nextToken_177
                  · exact (by rw [h2] at c_163; exact absurd c_163 (by decide))
                · have e7 : kd bf n k = 1002 := c_139.trans h2
                  refine lv_aload_n hx hb dX6_nextToken_142 rfl (lv_at hl 1 rfl) ?_
                  refine lv_dup hx hb dX6_nextToken_143 rfl ?_
                  refine gf_X6_206 E hG f_x rfl dX6_nextToken_144 ?_
                  refine lv_iconst (v := 1) hx hb dX6_nextToken_147 rfl ?_
                  refine lv_iadd hx hb dX6_nextToken_148 ?_
                  refine lv_ci (y := nI (k + 1)) (ixq (nI_ad rfl rfl)) ?_
                  refine pf_X6_206 E hG f_x (Nat.le_of_ble_eq_true rfl) rfl rfl hS rfl dX6_nextToken_149 (fun H locs f_x hz oq hS => ?_)
                  have f_tx : At G tx (.inl (G.2.1 0, n, .inl (sB bf))) H := oth f_tx ne_tx_x oq
                  have f_x : At G x (.inr (6, [.int 0, .int (-1), .ref bk, .ref tx, .int (kd bf n (spc bf n e9)), .int (nI (spc bf n e9)), .int (nI (k + 1)), .int vv, .int fg, .ref fs, .int fc])) H := f_x
                  refine lv_goto (tgt := 111) hx hb dX6_nextToken_152 (by decide) ?_
                  exact ih (k + 1) (by omega) (by omega) (by rw [← z3, rn_s e7 (by decide)]) H locs f_x f_tx hS ls (lv_sub hl [0, 1] rfl)
          exact lp2 (n + 1) (spc bf n e9 + 1) (by omega) (by omega) rfl _ _ f_x f_tx hS ls (lv_sub hl [0, 1] rfl)
        · refine lv_sipush (v := 1000) hx hb dX6_nextToken_63 rfl ?_
          refine lv_icmp_ne (tgt := 76) hx hb dX6_nextToken_66 (by decide) (fun c_66 => ?_) (fun c_66 => ?_)
          rotate_left
          · exact absurd c_66 h0
          refine lv_aload_n hx hb dX6_nextToken_76 rfl (lv_at hl 0 rfl) ?_
          refine gf_X6_209 E hG f_x rfl dX6_nextToken_77 ?_
          refine lv_iconst (v := 1) hx hb dX6_nextToken_80 rfl ?_
          refine lv_iadd hx hb dX6_nextToken_81 ?_
          refine lv_ci (y := nI (spc bf n e9 + 1)) (ixq (nI_ad rfl rfl)) ?_
          refine pf_X6_206 E hG f_x (Nat.le_of_ble_eq_true rfl) rfl rfl hS rfl dX6_nextToken_82 (fun H locs f_x hz oq hS => ?_)
          have f_tx : At G tx (.inl (G.2.1 0, n, .inl (sB bf))) H := oth f_tx ne_tx_x oq
          have f_x : At G x (.inr (6, [.int 0, .int (-1), .ref bk, .ref tx, .int (kd bf n (spc bf n e9)), .int (nI (spc bf n e9)), .int (nI (spc bf n e9 + 1)), .int vv, .int fg, .ref fs, .int fc])) H := f_x
          refine lv_aload_n hx hb dX6_nextToken_85 rfl (lv_at hl 0 rfl) ?_
          refine gf_X6_39 E hG f_x rfl dX6_nextToken_86 ?_
          refine lv_sipush (v := 1001) hx hb dX6_nextToken_89 rfl ?_
          refine lv_icmp_eq (tgt := 105) hx hb dX6_nextToken_92 (by decide) (fun c_92 => ?_) (fun c_92 => ?_)
          · exact absurd c_92 h1
          · refine lv_aload_n hx hb dX6_nextToken_95 rfl (lv_at hl 0 rfl) ?_
            refine gf_X6_39 E hG f_x rfl dX6_nextToken_96 ?_
            refine lv_sipush (v := 1002) hx hb dX6_nextToken_99 rfl ?_
            refine lv_icmp_ne (tgt := 109) hx hb dX6_nextToken_102 (by decide) (fun c_102 => ?_) (fun c_102 => ?_)
            · refine lv_iconst (v := 0) hx hb dX6_nextToken_109 rfl ?_
              refine lv_istore_n (lv' := [(1, .int 0), (0, .ref x)]) hx hb dX6_nextToken_110 rfl hl (by decide) rfl (fun ls hl => ?_)
              refine lv_iload_n hx hb dX6_nextToken_111 rfl (lv_at hl 0 rfl) ?_
              refine lv_if_eq (tgt := 155) hx hb dX6_nextToken_112 (by decide) (fun c_112 => ?_) (fun c_112 => ?_)
              · refine lv_aload_n hx hb dX6_nextToken_155 rfl (lv_at hl 1 rfl) ?_
                refine lv_aload_n hx hb dX6_nextToken_156 rfl (lv_at hl 1 rfl) ?_
                refine gf_X6_39 E hG f_x rfl dX6_nextToken_157 ?_
                refine lv_sipush (v := 1001) hx hb dX6_nextToken_160 rfl ?_
                refine lv_icmp_ne (tgt := 173) hx hb dX6_nextToken_163 (by decide) (fun c_163 => ?_) (fun c_163 => ?_)
                · refine lv_iconst (v := 0) hx hb dX6_nextToken_173 rfl ?_
                  refine pf_X6_86 E hG f_x (Nat.le_of_ble_eq_true rfl) rfl rfl hS rfl dX6_nextToken_174 (fun H locs f_x hz oq hS => ?_)
                  have f_tx : At G tx (.inl (G.2.1 0, n, .inl (sB bf))) H := oth f_tx ne_tx_x oq
                  have f_x : At G x (.inr (6, [.int 0, .int (-1), .ref bk, .ref tx, .int (kd bf n (spc bf n e9)), .int (nI (spc bf n e9)), .int (nI (spc bf n e9 + 1)), .int 0, .int fg, .ref fs, .int fc])) H := f_x
                  exact wr_void E hr hk hS (show 0 ≤ 0 by omega) (show 0 ≤ 0 by omega) (⟨rfl, _, _, _, _, _, _, f_x, rfl, rfl, hsb.2, rfl, rfl, by rw [te_3 h0 h1 h2], by rw [va_no h1]⟩) dX6_nextToken_177
                · exact absurd c_163 h1
              · exact absurd c_112 (by decide)
            · exact absurd c_102 h2
  have lp1 : ∀ (j k : Nat), n < k + j → k ≤ n → spc bf n k = spc bf n e9 → ∀ (H : Heap) (locs : List Loc), At G x (.inr (6, [.int 0, .int (-1), .ref bk, .ref tx, .int ki, .int (nI k), .int (nI e9), .int vv, .int fg, .ref fs, .int fc])) H → At G tx (.inl (G.2.1 0, n, .inl (sB bf))) H → va_S (fun q9 => q9 = x) s.heap H locs → ∀ ls : Array Slot, lv_has ls 2 [(0, .ref x)] → W p l e { frames := 2, cells := 0, slots := 0, locals := 52 } s m ([.ref x] : List Value).toArray below meth c H locs 0 0 (WQ below ([.ref x] : List Value).toArray s 0 0 (fun q9 => q9 = x) (fun v9 H9 => v9 = none ∧ ∃ er es ki st en vv, At G x (.inr (6, rdF er es bk tx ki st en vv fg fs fc)) H9 ∧ TK bf n (.ok (spc bf n e9)) er es ki st en vv)) (F0 m 8 ls []) := by
    intro j
    induction j with
    | zero => intro k z1 z2; omega
    | succ j ih =>
      intro k z1 z2 z3 H locs f_x f_tx hS ls hl
      refine lv_aload_n hx hb dX6_nextToken_8 rfl (lv_at hl 0 rfl) ?_
      refine gf_X6_209 E hG f_x rfl dX6_nextToken_9 ?_
      refine lv_aload_n hx hb dX6_nextToken_12 rfl (lv_at hl 0 rfl) ?_
      refine gf_X6_9 E hG f_x rfl dX6_nextToken_13 ?_
      refine g_len (t0 := 0) (v := (nI n)) E hG f_tx rfl rfl dX6_nextToken_16 ?_
      refine lv_icmp_ge (tgt := 46) hx hb dX6_nextToken_17 (by decide) (fun c_17 => ?_) (fun c_17 => ?_)
      · have c_17 : n ≤ k := (nLE (x := (nI n)) (y := (nI k)) (a := n) (b := k) rfl rfl (by omega) (by omega)).mp c_17
        have e8 : k = spc bf n e9 := by rw [← z3, sk_n (by rw [bt_out (by omega)]; decide)]
        subst e8
        exact rest 0 H locs f_x f_tx hS ls hl
      · have c_17 : ¬ n ≤ k := fun z9 => c_17 ((nLE (x := (nI n)) (y := (nI k)) (a := n) (b := k) rfl rfl (by omega) (by omega)).mpr z9)
        refine lv_aload_n hx hb dX6_nextToken_20 rfl (lv_at hl 0 rfl) ?_
        refine lv_aload_n hx hb dX6_nextToken_21 rfl (lv_at hl 0 rfl) ?_
        refine gf_X6_209 E hG f_x rfl dX6_nextToken_22 ?_
        refine Rd.callV (rest := []) (c_X6_kindAt l G hn9 (nI k) k rfl (by omega)) yk_X6_kindAt E km_X6_221 dX6_nextToken_25 hG (hE.S hS hEA) ⟨f_x, f_tx⟩ (At.recv hG f_x rfl) rfl rfl hl.1 ⟨Nat.le_of_ble_eq_true rfl, Nat.le_of_ble_eq_true rfl⟩ ⟨(show 0 ≤ 0 by omega), (show 0 ≤ 0 by omega)⟩ (Nat.le_of_ble_eq_true rfl) ?_
        refine lv_ci (y := (kd bf n k)) rfl ?_
        refine lv_bipush (v := 32) hx hb dX6_nextToken_28 rfl ?_
        refine lv_icmp_ne (tgt := 46) hx hb dX6_nextToken_30 (by decide) (fun c_30 => ?_) (fun c_30 => ?_)
        · have e8 : k = spc bf n e9 := by rw [← z3, sk_n (fun z9 => c_30 ((kd_sym hB (by decide)).mpr z9))]
          subst e8
          exact rest 0 H locs f_x f_tx hS ls hl
        · have e7 : bt bf n k = 32 := (kd_sym hB (by decide)).mp c_30
          refine lv_aload_n hx hb dX6_nextToken_33 rfl (lv_at hl 0 rfl) ?_
          refine lv_dup hx hb dX6_nextToken_34 rfl ?_
          refine gf_X6_209 E hG f_x rfl dX6_nextToken_35 ?_
          refine lv_iconst (v := 1) hx hb dX6_nextToken_38 rfl ?_
          refine lv_iadd hx hb dX6_nextToken_39 ?_
          refine lv_ci (y := nI (k + 1)) (ixq (nI_ad rfl rfl)) ?_
          refine pf_X6_209 E hG f_x (Nat.le_of_ble_eq_true rfl) rfl rfl hS rfl dX6_nextToken_40 (fun H locs f_x hz oq hS => ?_)
          have f_tx : At G tx (.inl (G.2.1 0, n, .inl (sB bf))) H := oth f_tx ne_tx_x oq
          have f_x : At G x (.inr (6, [.int 0, .int (-1), .ref bk, .ref tx, .int ki, .int (nI (k + 1)), .int (nI e9), .int vv, .int fg, .ref fs, .int fc])) H := f_x
          refine lv_goto (tgt := 8) hx hb dX6_nextToken_43 (by decide) ?_
          exact ih (k + 1) (by omega) (by omega) (by rw [← z3, sk_s e7]) H locs f_x f_tx hS ls (lv_sub hl [0] rfl)
  exact lp1 (n + 1) e9 (by omega) (by omega) rfl _ _ f_x f_tx hS ls (lv_sub hl [0] rfl)
