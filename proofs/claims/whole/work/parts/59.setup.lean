/-! READING: the class's statements and load -/
theorem hoM_le {r : Except Er (Nat × (Nat → Int32) × Nat)} {nh : Nat} (h : ∀ s d k, r = .ok (s, d, k) → k ≤ 16) : hoM r nh ≤ 17 - nh := by
  cases r with
  | error e => exact Nat.le_refl _
  | ok q =>
    obtain ⟨s, d, k⟩ := q
    have := h s d k rfl
    show k - nh ≤ _
    omega
theorem te_w {bf : Nat → Int32} {n s i : Nat} (hB : ByO bf) (hi : i < 9) (h : isW bf n s (txt i)) : te bf n s = s + (txt i).length := ((isW_iff hB (txt_L hi)).mp h).2.1
set_option maxHeartbeats 4000000 in
set_option maxRecDepth 100000 in
/-- readSetup -/
theorem c_X6_readSetup (l : Launch) (G : CG) {sL sz x bk tx fs : Nat} {bf : Nat → Int32} (hB : ByO bf) (n : Nat) (hn9 : n ≤ 900) (hzL : EFA G sL) (hxL : sL ≤ x) (htL : sL ≤ tx) (ne_tx_x : tx ≠ x)  : Wr l yX6_readSetup cX6_readSetup 2 ((Option.none : Option FieldType)) 26 579 100 2600 G [.ref x] (fun H9 => H9.size = sz ∧ At G x (.inr (6, rdF 0 (-1) bk tx 0 0 (nI 0) 0 0 fs (nI 0))) H9 ∧ At G tx (bA G n (sB bf)) H9 ∧ BK G (AL sL x tx) bk (fun _ => 0) 0 0 0 H9) (fun q9 => sL ≤ q9) (fun v9 H9 => v9 = none ∧ ∃ er es ki st en vv fg bk1 fs1 fc1, At G x (.inr (6, rdF er es bk1 tx ki st en vv fg fs1 fc1)) H9 ∧ TK bf n (pl (ldF bf n)) er es ki st en vv ∧ ∀ s8 y8, (ldF bf n) = .ok (s8, y8) → BK G (AL sL x tx) bk1 y8.1 y8.2.1 0 y8.2.2 H9) := by
  refine Wr.ofW (by decide) (Nat.le_of_ble_eq_true rfl) (fun p e s m below meth c ls E hG hE hP hr hk hin hl => ?_)
  have hS : va_S (fun q9 => sL ≤ q9) s.heap s.heap [] := va_S.rf
  have hx := E.1
  have hb := E.2.1
  have hl : lv_has ls 2 [(0, .ref x)] := hl
  obtain ⟨hz0, f_x, f_tx, hB0⟩ := hP
  have hEx : EFA G x := Nat.le_trans hzL hxL
  have hLz : sL ≤ sz := by have := va_at.lt f_x; omega
  have hEA : ∀ q9, sL ≤ q9 → EFA G q9 := fun q9 h9 => Nat.le_trans hzL h9
  have hfm : ∀ q : Nat, q < sz → q ≠ x → s.heap[q]? = s.heap[q]? := fun q9 _ _ => rfl
  have hsz : sz ≤ s.heap.size := Nat.le_of_eq hz0.symm
  have hlx0 := va_at.lt f_x
  have hlt0 := va_at.lt f_tx
  refine lv_aload_n hx hb dX6_readSetup_0 rfl (lv_at hl 0 rfl) ?_
  refine Wr.callV (rest := []) (c_X6_nextToken l G hB n hn9 hEx ne_tx_x 0 (by omega)) yk_X6_nextToken E km_X6_36 dX6_readSetup_1 hG (hE.S hS hEA) ⟨f_x, f_tx⟩ (At.recv hG f_x rfl) rfl rfl hl.1 ⟨Nat.le_of_ble_eq_true rfl, Nat.le_of_ble_eq_true rfl⟩ ⟨(show 0 + 0 ≤ 100 by omega), (show 0 + 0 ≤ 2600 by omega)⟩ (Nat.le_of_ble_eq_true rfl) hS (fun q9 h9 => by rw [h9]; exact hxL) (fun v9 H locs hq hz9 hfr9 hS => ?_)
  have f_tx : At G tx (.inl (G.2.1 0, n, .inl (sB bf))) H := va_at.kept f_tx (hfr9 _ (va_at.lt f_tx) ne_tx_x)
  obtain ⟨rfl, er, es, ki, st, en, vv, f_x, hTK⟩ := hq
  have hBK : BK G (AL sL x tx) bk (fun _ => 0) 0 0 0 H := hB0.kept (fun q9 h9 h8 => hfr9 q9 h9 (fun z9 => h8 (Or.inr (Or.inl z9))))
  have hsb := sk_b (bf := bf) (Nat.zero_le n)
  obtain ⟨her, hes, hs_g, hst, hki, hen, hvv⟩ := hTK
  subst her hes hst hki hen hvv
  refine lv_iconst (v := 0) hx hb dX6_readSetup_4 rfl ?_
  refine lv_ci (y := nI 0) (ixq rfl) ?_
  refine lv_istore_n (lv' := [(1, .int (nI 0)), (0, .ref x)]) hx hb dX6_readSetup_5 rfl hl (by decide) rfl (fun ls hl => ?_)
  have loop : ∀ (j i s1 nc nh g cs sl bk1 fs1 : Nat) (fg fc : Int32) (d1 : Nat → Int32), n < s1 + j → i ≤ s1 → s1 ≤ n → lpS bf n j s1 (d1, nc, nh) = (ldF bf n) → LD (d1, nc, nh) → cs ≤ 3 * nh + 3 * nc + 4 * g → sl ≤ 22 * nh + 29 * nc + 1806 * g → ((g = 0 ∧ d1 4 = 0 ∧ fg = 0 ∧ fc = nI 0) ∨ (g = 1 ∧ d1 4 = 1 ∧ fg = 1)) → ∀ (H : Heap) (locs : List Loc), At G x (.inr (6, [.int 0, .int (-1), .ref bk1, .ref tx, .int (kd bf n s1), .int (nI s1), .int (nI (te bf n s1)), .int (va bf n s1), .int fg, .ref fs1, .int fc])) H → At G tx (.inl (G.2.1 0, n, .inl (sB bf))) H → BK G (AL sL x tx) bk1 d1 nc 0 nh H → va_S (fun q9 => sL ≤ q9) s.heap H locs → ∀ ls : Array Slot, lv_has ls 2 [(1, .int (nI i)), (0, .ref x)] → W p l e { frames := 26, cells := 100, slots := 2600, locals := 579 } s m ([.ref x] : List Value).toArray below meth c H locs cs sl (WQ below ([.ref x] : List Value).toArray s 100 2600 (fun q9 => sL ≤ q9) (fun v9 H9 => v9 = none ∧ ∃ er es ki st en vv fg bk1 fs1 fc1, At G x (.inr (6, rdF er es bk1 tx ki st en vv fg fs1 fc1)) H9 ∧ TK bf n (pl (ldF bf n)) er es ki st en vv ∧ ∀ s8 y8, (ldF bf n) = .ok (s8, y8) → BK G (AL sL x tx) bk1 y8.1 y8.2.1 0 y8.2.2 H9)) (F0 m 6 ls []) := by
    intro j
    induction j with
    | zero => intro i s1 nc nh g cs sl bk1 fs1 fg fc d1 z1 z2 z3; omega
    | succ j ih =>
      intro i s1 nc nh g cs sl bk1 fs1 fg fc d1 z1 z2 z3 z4 hx9 z5 z6 z7 H locs f_x f_tx hBK hS ls hl
      have htb1 := te_b hB z3
      have hc0 : nc ≤ 12 := hx9.c0.2
      have hh0 : nh ≤ 16 := hx9.h2.2
      have hg1 : g ≤ 1 := by rcases z7 with z9 | z9 <;> omega
      refine lv_iload_n hx hb dX6_readSetup_6 rfl (lv_at hl 0 rfl) ?_
      refine lv_aload_n hx hb dX6_readSetup_7 rfl (lv_at hl 1 rfl) ?_
      refine gf_X6_9 E hG f_x rfl dX6_readSetup_8 ?_
      refine g_len (t0 := 0) (v := (nI n)) E hG f_tx rfl rfl dX6_readSetup_11 ?_
      refine lv_icmp_gt (tgt := 98) hx hb dX6_readSetup_12 (by decide) (fun c_12 => ?_) (fun c_12 => ?_)
      · have c_12 : n < i := (nLT (x := (nI n)) (y := (nI i)) (a := n) (b := i) rfl rfl (by omega) (by omega)).mp c_12
        exact absurd c_12 (by omega)
      · have c_12 : ¬ n < i := fun z9 => c_12 ((nLT (x := (nI n)) (y := (nI i)) (a := n) (b := i) rfl rfl (by omega) (by omega)).mpr z9)
        refine lv_aload_n hx hb dX6_readSetup_15 rfl (lv_at hl 1 rfl) ?_
        refine gf_X6_39 E hG f_x rfl dX6_readSetup_16 ?_
        refine lv_sipush (v := 1000) hx hb dX6_readSetup_19 rfl ?_
        refine lv_icmp_eq (tgt := 98) hx hb dX6_readSetup_22 (by decide) (fun c_22 => ?_) (fun c_22 => ?_)
        · have hend := (kd_end hB).mp c_22
          exact wr_void E hr hk hS (show cs ≤ 100 by omega) (show sl ≤ 2600 by omega) (⟨rfl, _, _, _, _, _, _, _, _, _, _, f_x, by rw [← z4, lpS_n hend]; exact ⟨rfl, rfl, z3, rfl, rfl, rfl, rfl⟩, fun _ _ z => by rw [← z4, lpS_n hend] at z; cases z; exact hBK⟩) dX6_readSetup_98
        · have hend : ¬ n ≤ s1 := fun z9 => c_22 ((kd_end hB).mpr z9)
          by_cases h0 : isW bf n s1 (txt 0)
          · have htw := te_w hB (i := 0) (by decide) h0
            have hsk := sk_b (bf := bf) htb1.2
            have hMl : hoM (hoF bf n (n + 1) (spc bf n (te bf n s1)) d1 nh) nh ≤ 17 - nh := hoM_le (fun s8 d8 k8 z9 => (ld_hoF hB (n + 1) _ (d1, nc, nh) s8 d8 k8 hsk.2 hx9 z9).1.h2.2)
            refine lv_aload_n hx hb dX6_readSetup_25 rfl (lv_at hl 1 rfl) ?_
            refine va_ldcS hx hb E.2.2.2.1 (hG.2.2.2.2.2.1 (RX6, 42, "holiday", 0) (by decide +kernel)) dX6_readSetup_26 ?_
            refine Rd.callV (rest := []) (c_X6_isWord_y l G hB n hn9 s1 z3 (isT_c (i := 0) (by decide)) (txt_A (i := 0) (by decide)).1 (txt_A (i := 0) (by decide)).2 (txt_L (i := 0) (by decide)) h0) yk_X6_isWord E km_X6_44 dX6_readSetup_28 hG (hE.S hS hEA) ⟨f_x, f_tx⟩ (At.recv hG f_x rfl) rfl rfl hl.1 ⟨Nat.le_of_ble_eq_true rfl, Nat.le_of_ble_eq_true rfl⟩ ⟨(show cs ≤ 100 by omega), (show sl ≤ 2600 by omega)⟩ (Nat.le_of_ble_eq_true rfl) ?_
            refine lv_if_eq (tgt := 41) hx hb dX6_readSetup_31 (by decide) (fun c_31 => ?_) (fun c_31 => ?_)
            · exact absurd c_31 (by decide)
            refine lv_aload_n hx hb dX6_readSetup_34 rfl (lv_at hl 1 rfl) ?_
            refine Wr.callV (rest := []) (c_X6_readHolidays (sz := H.size) l G hB n hn9 hzL hxL htL ne_tx_x s1 z3 (d := d1) (nc := nc) (nh := nh) hh0) yk_X6_readHolidays E km_X6_48 dX6_readSetup_35 hG (hE.S hS hEA) ⟨rfl, f_x, f_tx, hBK⟩ (At.recv hG f_x rfl) rfl rfl hl.1 ⟨Nat.le_of_ble_eq_true rfl, Nat.le_of_ble_eq_true rfl⟩ ⟨(show cs + 3 * hoM (hoF bf n (n + 1) (spc bf n (te bf n s1)) d1 nh) nh ≤ 100 by omega), (show sl + 22 * hoM (hoF bf n (n + 1) (spc bf n (te bf n s1)) d1 nh) nh ≤ 2600 by omega)⟩ (Nat.le_of_ble_eq_true rfl) hS (fun _ h9 => h9) (fun v9 H locs hq hz9 hfr9 hS => ?_)
            obtain ⟨rfl, er, es, ki, st, en, vv, bk2, f_x, f_tx, hTK, hBN⟩ := hq
            refine lv_goto (tgt := 86) hx hb dX6_readSetup_38 (by decide) ?_
            rcases hho : hoF bf n (n + 1) (spc bf n (te bf n s1)) d1 nh with ⟨c7, o7⟩ | ⟨s7, d7, k7⟩
            · rw [hho] at hTK hMl
              rw [htw] at hho
              refine lv_aload_n hx hb dX6_readSetup_86 rfl (lv_at hl 1 rfl) ?_
              refine lv_bipush (v := 59) hx hb dX6_readSetup_87 rfl ?_
              refine Wr.callV (rest := []) (c_X6_needSymbol_u l G hB n hn9 hEx ne_tx_x (.error (c7, o7)) hTK 59 (by decide)) yk_X6_needSymbol E km_X6_69 dX6_readSetup_89 hG (hE.S hS hEA) ⟨f_x, f_tx⟩ (At.recv hG f_x rfl) rfl rfl hl.1 ⟨Nat.le_of_ble_eq_true rfl, Nat.le_of_ble_eq_true rfl⟩ ⟨(show cs + 3 * hoM (.error (c7, o7)) nh + 0 ≤ 100 by omega), (show sl + 22 * hoM (.error (c7, o7)) nh + 0 ≤ 2600 by omega)⟩ (Nat.le_of_ble_eq_true rfl) hS (fun q9 h9 => by rw [h9]; exact hxL) (fun v9 H locs hq hz9 hfr9 hS => ?_)
              have f_tx : At G tx (.inl (G.2.1 0, n, .inl (sB bf))) H := va_at.kept f_tx (hfr9 _ (va_at.lt f_tx) ne_tx_x)
              obtain ⟨er, es, ki, st, en, vv, rfl, f_x, hTK⟩ := hq
              have hTK : TK bf n (.error (c7, o7)) er es ki st en vv := hTK
              have hki := hTK.2.2.2.2
              subst hki
              refine lv_iinc (v := (nI (i + 1))) (lv' := [(1, .int (nI (i + 1))), (0, .ref x)]) hx hb dX6_readSetup_92 hl (k := 0) rfl (nI_ad rfl rfl) (by decide) rfl (fun ls hl => ?_)
              refine lv_goto (tgt := 6) hx hb dX6_readSetup_95 (by decide) ?_
              refine lv_iload_n hx hb dX6_readSetup_6 rfl (lv_at hl 0 rfl) ?_
              refine lv_aload_n hx hb dX6_readSetup_7 rfl (lv_at hl 1 rfl) ?_
              refine gf_X6_9 E hG f_x rfl dX6_readSetup_8 ?_
              refine g_len (t0 := 0) (v := (nI n)) E hG f_tx rfl rfl dX6_readSetup_11 ?_
              refine lv_icmp_gt (tgt := 98) hx hb dX6_readSetup_12 (by decide) (fun c_12 => ?_) (fun c_12 => ?_)
              · have c_12 : n < i + 1 := (nLT (x := (nI n)) (y := (nI (i + 1))) (a := n) (b := i + 1) rfl rfl (by omega) (by omega)).mp c_12
                exact wr_void E hr hk hS (show cs + 3 * hoM (.error (c7, o7)) nh + 0 ≤ 100 by omega) (show sl + 22 * hoM (.error (c7, o7)) nh + 0 ≤ 2600 by omega) (⟨rfl, _, _, _, _, _, _, _, _, _, _, f_x, by rw [← z4, lpS_e hend (stF_e (bdF_he (x := (d1, nc, nh)) h0 hho))]; exact hTK, fun _ _ z => by rw [← z4, lpS_e hend (stF_e (bdF_he (x := (d1, nc, nh)) h0 hho))] at z; cases z⟩) dX6_readSetup_98
              · have c_12 : ¬ n < i + 1 := fun z9 => c_12 ((nLT (x := (nI n)) (y := (nI (i + 1))) (a := n) (b := i + 1) rfl rfl (by omega) (by omega)).mpr z9)
                refine lv_aload_n hx hb dX6_readSetup_15 rfl (lv_at hl 1 rfl) ?_
                refine gf_X6_39 E hG f_x rfl dX6_readSetup_16 ?_
                refine lv_sipush (v := 1000) hx hb dX6_readSetup_19 rfl ?_
                refine lv_icmp_eq (tgt := 98) hx hb dX6_readSetup_22 (by decide) (fun c_22 => ?_) (fun c_22 => ?_)
                · exact wr_void E hr hk hS (show cs + 3 * hoM (.error (c7, o7)) nh + 0 ≤ 100 by omega) (show sl + 22 * hoM (.error (c7, o7)) nh + 0 ≤ 2600 by omega) (⟨rfl, _, _, _, _, _, _, _, _, _, _, f_x, by rw [← z4, lpS_e hend (stF_e (bdF_he (x := (d1, nc, nh)) h0 hho))]; exact hTK, fun _ _ z => by rw [← z4, lpS_e hend (stF_e (bdF_he (x := (d1, nc, nh)) h0 hho))] at z; cases z⟩) dX6_readSetup_98
                · exact absurd c_22 (by decide)
            · have hBK := hBN _ _ _ hho
              rw [hho] at hTK hMl
              have hkk := hoF_k _ _ _ _ _ _ _ hho
              rw [htw] at hho
              refine lv_aload_n hx hb dX6_readSetup_86 rfl (lv_at hl 1 rfl) ?_
              refine lv_bipush (v := 59) hx hb dX6_readSetup_87 rfl ?_
              refine Wr.callV (rest := []) (c_X6_needSymbol_u l G hB n hn9 hEx ne_tx_x (.ok s7) hTK 59 (by decide)) yk_X6_needSymbol E km_X6_69 dX6_readSetup_89 hG (hE.S hS hEA) ⟨f_x, f_tx⟩ (At.recv hG f_x rfl) rfl rfl hl.1 ⟨Nat.le_of_ble_eq_true rfl, Nat.le_of_ble_eq_true rfl⟩ ⟨(show cs + 3 * hoM (.ok (s7, d7, k7)) nh + 0 ≤ 100 by omega), (show sl + 22 * hoM (.ok (s7, d7, k7)) nh + 0 ≤ 2600 by omega)⟩ (Nat.le_of_ble_eq_true rfl) hS (fun q9 h9 => by rw [h9]; exact hxL) (fun v9 H locs hq hz9 hfr9 hS => ?_)
              have f_tx : At G tx (.inl (G.2.1 0, n, .inl (sB bf))) H := va_at.kept f_tx (hfr9 _ (va_at.lt f_tx) ne_tx_x)
              obtain ⟨er, es, ki, st, en, vv, rfl, f_x, hTK⟩ := hq
              have hBK : BK G (AL sL x tx) bk2 d7 nc 0 k7 H := hBK.kept (fun q9 h9 h8 => hfr9 q9 h9 (fun z9 => h8 (Or.inr (Or.inl z9))))
              have hTK : TK bf n (syF bf n 59 s7) er es ki st en vv := hTK
              rcases hsy : syF bf n 59 s7 with ⟨c7, o7⟩ | s6
              · rw [hsy] at hTK
                have hki := hTK.2.2.2.2
                subst hki
                refine lv_iinc (v := (nI (i + 1))) (lv' := [(1, .int (nI (i + 1))), (0, .ref x)]) hx hb dX6_readSetup_92 hl (k := 0) rfl (nI_ad rfl rfl) (by decide) rfl (fun ls hl => ?_)
                refine lv_goto (tgt := 6) hx hb dX6_readSetup_95 (by decide) ?_
                refine lv_iload_n hx hb dX6_readSetup_6 rfl (lv_at hl 0 rfl) ?_
                refine lv_aload_n hx hb dX6_readSetup_7 rfl (lv_at hl 1 rfl) ?_
                refine gf_X6_9 E hG f_x rfl dX6_readSetup_8 ?_
                refine g_len (t0 := 0) (v := (nI n)) E hG f_tx rfl rfl dX6_readSetup_11 ?_
                refine lv_icmp_gt (tgt := 98) hx hb dX6_readSetup_12 (by decide) (fun c_12 => ?_) (fun c_12 => ?_)
                · have c_12 : n < i + 1 := (nLT (x := (nI n)) (y := (nI (i + 1))) (a := n) (b := i + 1) rfl rfl (by omega) (by omega)).mp c_12
                  exact wr_void E hr hk hS (show cs + 3 * hoM (.ok (s7, d7, k7)) nh + 0 ≤ 100 by omega) (show sl + 22 * hoM (.ok (s7, d7, k7)) nh + 0 ≤ 2600 by omega) (⟨rfl, _, _, _, _, _, _, _, _, _, _, f_x, by rw [← z4, lpS_e hend (stF_x (bdF_h (x := (d1, nc, nh)) h0 hho) hsy)]; exact hTK, fun _ _ z => by rw [← z4, lpS_e hend (stF_x (bdF_h (x := (d1, nc, nh)) h0 hho) hsy)] at z; cases z⟩) dX6_readSetup_98
                · have c_12 : ¬ n < i + 1 := fun z9 => c_12 ((nLT (x := (nI n)) (y := (nI (i + 1))) (a := n) (b := i + 1) rfl rfl (by omega) (by omega)).mpr z9)
                  refine lv_aload_n hx hb dX6_readSetup_15 rfl (lv_at hl 1 rfl) ?_
                  refine gf_X6_39 E hG f_x rfl dX6_readSetup_16 ?_
                  refine lv_sipush (v := 1000) hx hb dX6_readSetup_19 rfl ?_
                  refine lv_icmp_eq (tgt := 98) hx hb dX6_readSetup_22 (by decide) (fun c_22 => ?_) (fun c_22 => ?_)
                  · exact wr_void E hr hk hS (show cs + 3 * hoM (.ok (s7, d7, k7)) nh + 0 ≤ 100 by omega) (show sl + 22 * hoM (.ok (s7, d7, k7)) nh + 0 ≤ 2600 by omega) (⟨rfl, _, _, _, _, _, _, _, _, _, _, f_x, by rw [← z4, lpS_e hend (stF_x (bdF_h (x := (d1, nc, nh)) h0 hho) hsy)]; exact hTK, fun _ _ z => by rw [← z4, lpS_e hend (stF_x (bdF_h (x := (d1, nc, nh)) h0 hho) hsy)] at z; cases z⟩) dX6_readSetup_98
                  · exact absurd c_22 (by decide)
              · rw [hsy] at hTK
                have hst := stF_o (bdF_h (x := (d1, nc, nh)) h0 hho) hsy
                have hw := ld_st hB hn9 z3 hx9 hst
                obtain ⟨her, hes, hs_g, hst, hki, hen, hvv⟩ := hTK
                subst her hes hst hki hen hvv
                refine lv_iinc (v := (nI (i + 1))) (lv' := [(1, .int (nI (i + 1))), (0, .ref x)]) hx hb dX6_readSetup_92 hl (k := 0) rfl (nI_ad rfl rfl) (by decide) rfl (fun ls hl => ?_)
                refine lv_goto (tgt := 6) hx hb dX6_readSetup_95 (by decide) ?_
                exact ih (i + 1) s6 nc k7 g _ _ bk2 fs1 fg fc d7 (by have := hw.2.1; omega) (by have := hw.2.1; omega) hw.2.2 (by rw [← z4, lpS_o hend hst]) hw.1 (by have e9 : hoM (.ok (s7, d7, k7)) nh = k7 - nh := rfl; omega) (by have e9 : hoM (.ok (s7, d7, k7)) nh = k7 - nh := rfl; omega) (by rw [show d7 4 = d1 4 from (ld_hoF hB (n + 1) _ (d1, nc, nh) _ _ _ (by rw [← htw]; exact hsk.2) hx9 hho).2.2.2.1]; exact z7) H locs f_x f_tx hBK hS ls (lv_sub hl [0, 1] rfl)
          · by_cases h1 : isW bf n s1 (txt 1)
            · have htw := te_w hB (i := 1) (by decide) h1
              by_cases h12 : nc = 12
              · refine lv_aload_n hx hb dX6_readSetup_25 rfl (lv_at hl 1 rfl) ?_
                refine va_ldcS hx hb E.2.2.2.1 (hG.2.2.2.2.2.1 (RX6, 42, "holiday", 0) (by decide +kernel)) dX6_readSetup_26 ?_
                refine Rd.callV (rest := []) (c_X6_isWord_n l G hB n hn9 s1 z3 (isT_c (i := 0) (by decide)) (txt_A (i := 0) (by decide)).1 (txt_A (i := 0) (by decide)).2 (txt_L (i := 0) (by decide)) h0) yk_X6_isWord E km_X6_44 dX6_readSetup_28 hG (hE.S hS hEA) ⟨f_x, f_tx⟩ (At.recv hG f_x rfl) rfl rfl hl.1 ⟨Nat.le_of_ble_eq_true rfl, Nat.le_of_ble_eq_true rfl⟩ ⟨(show cs ≤ 100 by omega), (show sl ≤ 2600 by omega)⟩ (Nat.le_of_ble_eq_true rfl) ?_
                refine lv_if_eq (tgt := 41) hx hb dX6_readSetup_31 (by decide) (fun c_31 => ?_) (fun c_31 => ?_)
                rotate_left
                · exact absurd c_31 (by decide)
                refine lv_aload_n hx hb dX6_readSetup_41 rfl (lv_at hl 1 rfl) ?_
                refine va_ldcS hx hb E.2.2.2.1 (hG.2.2.2.2.2.1 (RX6, 51, "credit", 1) (by decide +kernel)) dX6_readSetup_42 ?_
                refine Rd.callV (rest := []) (c_X6_isWord_y l G hB n hn9 s1 z3 (isT_c (i := 1) (by decide)) (txt_A (i := 1) (by decide)).1 (txt_A (i := 1) (by decide)).2 (txt_L (i := 1) (by decide)) h1) yk_X6_isWord E km_X6_44 dX6_readSetup_44 hG (hE.S hS hEA) ⟨f_x, f_tx⟩ (At.recv hG f_x rfl) rfl rfl hl.1 ⟨Nat.le_of_ble_eq_true rfl, Nat.le_of_ble_eq_true rfl⟩ ⟨(show cs ≤ 100 by omega), (show sl ≤ 2600 by omega)⟩ (Nat.le_of_ble_eq_true rfl) ?_
                refine lv_if_eq (tgt := 57) hx hb dX6_readSetup_47 (by decide) (fun c_47 => ?_) (fun c_47 => ?_)
                · exact absurd c_47 (by decide)
                refine lv_aload_n hx hb dX6_readSetup_50 rfl (lv_at hl 1 rfl) ?_
                refine Wr.callV (rest := []) (c_X6_readCredit_x (sz := H.size) l G hB n hn9 hzL hxL htL ne_tx_x s1 z3 (d := d1) (nc := nc) (nh := nh) h12) yk_X6_readCredit E km_X6_53 dX6_readSetup_51 hG (hE.S hS hEA) ⟨rfl, f_x, f_tx, hBK⟩ (At.recv hG f_x rfl) rfl rfl hl.1 ⟨Nat.le_of_ble_eq_true rfl, Nat.le_of_ble_eq_true rfl⟩ ⟨(show cs + 0 ≤ 100 by omega), (show sl + 0 ≤ 2600 by omega)⟩ (Nat.le_of_ble_eq_true rfl) hS (fun _ h9 => h9) (fun v9 H locs hq hz9 hfr9 hS => ?_)
                obtain ⟨rfl, f_x, f_tx⟩ := hq
                refine lv_goto (tgt := 86) hx hb dX6_readSetup_54 (by decide) ?_
                have hTK : TK bf n (.error (-4, s1)) (-4) (nI s1) 1000 (nI s1) (nI (te bf n s1)) (va bf n s1) := ⟨rfl, by decide, rfl, z3, rfl⟩
                refine lv_aload_n hx hb dX6_readSetup_86 rfl (lv_at hl 1 rfl) ?_
                refine lv_bipush (v := 59) hx hb dX6_readSetup_87 rfl ?_
                refine Wr.callV (rest := []) (c_X6_needSymbol_u l G hB n hn9 hEx ne_tx_x (.error (-4, s1)) hTK 59 (by decide)) yk_X6_needSymbol E km_X6_69 dX6_readSetup_89 hG (hE.S hS hEA) ⟨f_x, f_tx⟩ (At.recv hG f_x rfl) rfl rfl hl.1 ⟨Nat.le_of_ble_eq_true rfl, Nat.le_of_ble_eq_true rfl⟩ ⟨(show cs + 0 + 0 ≤ 100 by omega), (show sl + 0 + 0 ≤ 2600 by omega)⟩ (Nat.le_of_ble_eq_true rfl) hS (fun q9 h9 => by rw [h9]; exact hxL) (fun v9 H locs hq hz9 hfr9 hS => ?_)
                have f_tx : At G tx (.inl (G.2.1 0, n, .inl (sB bf))) H := va_at.kept f_tx (hfr9 _ (va_at.lt f_tx) ne_tx_x)
                obtain ⟨er, es, ki, st, en, vv, rfl, f_x, hTK⟩ := hq
                have hTK : TK bf n (.error (-4, s1)) er es ki st en vv := hTK
                have hki := hTK.2.2.2.2
                subst hki
                refine lv_iinc (v := (nI (i + 1))) (lv' := [(1, .int (nI (i + 1))), (0, .ref x)]) hx hb dX6_readSetup_92 hl (k := 0) rfl (nI_ad rfl rfl) (by decide) rfl (fun ls hl => ?_)
                refine lv_goto (tgt := 6) hx hb dX6_readSetup_95 (by decide) ?_
                refine lv_iload_n hx hb dX6_readSetup_6 rfl (lv_at hl 0 rfl) ?_
                refine lv_aload_n hx hb dX6_readSetup_7 rfl (lv_at hl 1 rfl) ?_
                refine gf_X6_9 E hG f_x rfl dX6_readSetup_8 ?_
                refine g_len (t0 := 0) (v := (nI n)) E hG f_tx rfl rfl dX6_readSetup_11 ?_
                refine lv_icmp_gt (tgt := 98) hx hb dX6_readSetup_12 (by decide) (fun c_12 => ?_) (fun c_12 => ?_)
                · have c_12 : n < i + 1 := (nLT (x := (nI n)) (y := (nI (i + 1))) (a := n) (b := i + 1) rfl rfl (by omega) (by omega)).mp c_12
                  exact wr_void E hr hk hS (show cs + 0 + 0 ≤ 100 by omega) (show sl + 0 + 0 ≤ 2600 by omega) (⟨rfl, _, _, _, _, _, _, _, _, _, _, f_x, by rw [← z4, lpS_e hend (stF_e (bdF_cx (x := (d1, nc, nh)) h0 h1 h12))]; exact hTK, fun _ _ z => by rw [← z4, lpS_e hend (stF_e (bdF_cx (x := (d1, nc, nh)) h0 h1 h12))] at z; cases z⟩) dX6_readSetup_98
                · have c_12 : ¬ n < i + 1 := fun z9 => c_12 ((nLT (x := (nI n)) (y := (nI (i + 1))) (a := n) (b := i + 1) rfl rfl (by omega) (by omega)).mpr z9)
                  refine lv_aload_n hx hb dX6_readSetup_15 rfl (lv_at hl 1 rfl) ?_
                  refine gf_X6_39 E hG f_x rfl dX6_readSetup_16 ?_
                  refine lv_sipush (v := 1000) hx hb dX6_readSetup_19 rfl ?_
                  refine lv_icmp_eq (tgt := 98) hx hb dX6_readSetup_22 (by decide) (fun c_22 => ?_) (fun c_22 => ?_)
                  · exact wr_void E hr hk hS (show cs + 0 + 0 ≤ 100 by omega) (show sl + 0 + 0 ≤ 2600 by omega) (⟨rfl, _, _, _, _, _, _, _, _, _, _, f_x, by rw [← z4, lpS_e hend (stF_e (bdF_cx (x := (d1, nc, nh)) h0 h1 h12))]; exact hTK, fun _ _ z => by rw [← z4, lpS_e hend (stF_e (bdF_cx (x := (d1, nc, nh)) h0 h1 h12))] at z; cases z⟩) dX6_readSetup_98
                  · exact absurd c_22 (by decide)
              · refine lv_aload_n hx hb dX6_readSetup_25 rfl (lv_at hl 1 rfl) ?_
                refine va_ldcS hx hb E.2.2.2.1 (hG.2.2.2.2.2.1 (RX6, 42, "holiday", 0) (by decide +kernel)) dX6_readSetup_26 ?_
                refine Rd.callV (rest := []) (c_X6_isWord_n l G hB n hn9 s1 z3 (isT_c (i := 0) (by decide)) (txt_A (i := 0) (by decide)).1 (txt_A (i := 0) (by decide)).2 (txt_L (i := 0) (by decide)) h0) yk_X6_isWord E km_X6_44 dX6_readSetup_28 hG (hE.S hS hEA) ⟨f_x, f_tx⟩ (At.recv hG f_x rfl) rfl rfl hl.1 ⟨Nat.le_of_ble_eq_true rfl, Nat.le_of_ble_eq_true rfl⟩ ⟨(show cs ≤ 100 by omega), (show sl ≤ 2600 by omega)⟩ (Nat.le_of_ble_eq_true rfl) ?_
                refine lv_if_eq (tgt := 41) hx hb dX6_readSetup_31 (by decide) (fun c_31 => ?_) (fun c_31 => ?_)
                rotate_left
                · exact absurd c_31 (by decide)
                refine lv_aload_n hx hb dX6_readSetup_41 rfl (lv_at hl 1 rfl) ?_
                refine va_ldcS hx hb E.2.2.2.1 (hG.2.2.2.2.2.1 (RX6, 51, "credit", 1) (by decide +kernel)) dX6_readSetup_42 ?_
                refine Rd.callV (rest := []) (c_X6_isWord_y l G hB n hn9 s1 z3 (isT_c (i := 1) (by decide)) (txt_A (i := 1) (by decide)).1 (txt_A (i := 1) (by decide)).2 (txt_L (i := 1) (by decide)) h1) yk_X6_isWord E km_X6_44 dX6_readSetup_44 hG (hE.S hS hEA) ⟨f_x, f_tx⟩ (At.recv hG f_x rfl) rfl rfl hl.1 ⟨Nat.le_of_ble_eq_true rfl, Nat.le_of_ble_eq_true rfl⟩ ⟨(show cs ≤ 100 by omega), (show sl ≤ 2600 by omega)⟩ (Nat.le_of_ble_eq_true rfl) ?_
                refine lv_if_eq (tgt := 57) hx hb dX6_readSetup_47 (by decide) (fun c_47 => ?_) (fun c_47 => ?_)
                · exact absurd c_47 (by decide)
                refine lv_aload_n hx hb dX6_readSetup_50 rfl (lv_at hl 1 rfl) ?_
                refine Wr.callV (rest := []) (c_X6_readCredit (sz := H.size) l G hB n hn9 hzL hxL htL ne_tx_x s1 z3 (d := d1) (nc := nc) (nh := nh) hh0 (by omega)) yk_X6_readCredit E km_X6_53 dX6_readSetup_51 hG (hE.S hS hEA) ⟨rfl, f_x, f_tx, hBK⟩ (At.recv hG f_x rfl) rfl rfl hl.1 ⟨Nat.le_of_ble_eq_true rfl, Nat.le_of_ble_eq_true rfl⟩ ⟨(show cs + 3 ≤ 100 by omega), (show sl + 29 ≤ 2600 by omega)⟩ (Nat.le_of_ble_eq_true rfl) hS (fun _ h9 => h9) (fun v9 H locs hq hz9 hfr9 hS => ?_)
                obtain ⟨rfl, er, es, ki, st, en, vv, bk2, f_x, f_tx, hTK, hBN⟩ := hq
                refine lv_goto (tgt := 86) hx hb dX6_readSetup_54 (by decide) ?_
                rw [htw] at hTK hBN
                rcases hcd : cdF bf n (spc bf n (s1 + (txt 1).length)) with ⟨c7, o7⟩ | ⟨s7, L7⟩
                · rw [hcd] at hTK
                  refine lv_aload_n hx hb dX6_readSetup_86 rfl (lv_at hl 1 rfl) ?_
                  refine lv_bipush (v := 59) hx hb dX6_readSetup_87 rfl ?_
                  refine Wr.callV (rest := []) (c_X6_needSymbol_u l G hB n hn9 hEx ne_tx_x (.error (c7, o7)) hTK 59 (by decide)) yk_X6_needSymbol E km_X6_69 dX6_readSetup_89 hG (hE.S hS hEA) ⟨f_x, f_tx⟩ (At.recv hG f_x rfl) rfl rfl hl.1 ⟨Nat.le_of_ble_eq_true rfl, Nat.le_of_ble_eq_true rfl⟩ ⟨(show cs + 3 + 0 ≤ 100 by omega), (show sl + 29 + 0 ≤ 2600 by omega)⟩ (Nat.le_of_ble_eq_true rfl) hS (fun q9 h9 => by rw [h9]; exact hxL) (fun v9 H locs hq hz9 hfr9 hS => ?_)
                  have f_tx : At G tx (.inl (G.2.1 0, n, .inl (sB bf))) H := va_at.kept f_tx (hfr9 _ (va_at.lt f_tx) ne_tx_x)
                  obtain ⟨er, es, ki, st, en, vv, rfl, f_x, hTK⟩ := hq
                  have hTK : TK bf n (.error (c7, o7)) er es ki st en vv := hTK
                  have hki := hTK.2.2.2.2
                  subst hki
                  refine lv_iinc (v := (nI (i + 1))) (lv' := [(1, .int (nI (i + 1))), (0, .ref x)]) hx hb dX6_readSetup_92 hl (k := 0) rfl (nI_ad rfl rfl) (by decide) rfl (fun ls hl => ?_)
                  refine lv_goto (tgt := 6) hx hb dX6_readSetup_95 (by decide) ?_
                  refine lv_iload_n hx hb dX6_readSetup_6 rfl (lv_at hl 0 rfl) ?_
                  refine lv_aload_n hx hb dX6_readSetup_7 rfl (lv_at hl 1 rfl) ?_
                  refine gf_X6_9 E hG f_x rfl dX6_readSetup_8 ?_
                  refine g_len (t0 := 0) (v := (nI n)) E hG f_tx rfl rfl dX6_readSetup_11 ?_
                  refine lv_icmp_gt (tgt := 98) hx hb dX6_readSetup_12 (by decide) (fun c_12 => ?_) (fun c_12 => ?_)
                  · have c_12 : n < i + 1 := (nLT (x := (nI n)) (y := (nI (i + 1))) (a := n) (b := i + 1) rfl rfl (by omega) (by omega)).mp c_12
                    exact wr_void E hr hk hS (show cs + 3 + 0 ≤ 100 by omega) (show sl + 29 + 0 ≤ 2600 by omega) (⟨rfl, _, _, _, _, _, _, _, _, _, _, f_x, by rw [← z4, lpS_e hend (stF_e (bdF_ce (x := (d1, nc, nh)) h0 h1 h12 hcd))]; exact hTK, fun _ _ z => by rw [← z4, lpS_e hend (stF_e (bdF_ce (x := (d1, nc, nh)) h0 h1 h12 hcd))] at z; cases z⟩) dX6_readSetup_98
                  · have c_12 : ¬ n < i + 1 := fun z9 => c_12 ((nLT (x := (nI n)) (y := (nI (i + 1))) (a := n) (b := i + 1) rfl rfl (by omega) (by omega)).mpr z9)
                    refine lv_aload_n hx hb dX6_readSetup_15 rfl (lv_at hl 1 rfl) ?_
                    refine gf_X6_39 E hG f_x rfl dX6_readSetup_16 ?_
                    refine lv_sipush (v := 1000) hx hb dX6_readSetup_19 rfl ?_
                    refine lv_icmp_eq (tgt := 98) hx hb dX6_readSetup_22 (by decide) (fun c_22 => ?_) (fun c_22 => ?_)
                    · exact wr_void E hr hk hS (show cs + 3 + 0 ≤ 100 by omega) (show sl + 29 + 0 ≤ 2600 by omega) (⟨rfl, _, _, _, _, _, _, _, _, _, _, f_x, by rw [← z4, lpS_e hend (stF_e (bdF_ce (x := (d1, nc, nh)) h0 h1 h12 hcd))]; exact hTK, fun _ _ z => by rw [← z4, lpS_e hend (stF_e (bdF_ce (x := (d1, nc, nh)) h0 h1 h12 hcd))] at z; cases z⟩) dX6_readSetup_98
                    · exact absurd c_22 (by decide)
                · rw [hcd] at hTK
                  have hBK := hBN _ _ hcd
                  refine lv_aload_n hx hb dX6_readSetup_86 rfl (lv_at hl 1 rfl) ?_
                  refine lv_bipush (v := 59) hx hb dX6_readSetup_87 rfl ?_
                  refine Wr.callV (rest := []) (c_X6_needSymbol_u l G hB n hn9 hEx ne_tx_x (.ok s7) hTK 59 (by decide)) yk_X6_needSymbol E km_X6_69 dX6_readSetup_89 hG (hE.S hS hEA) ⟨f_x, f_tx⟩ (At.recv hG f_x rfl) rfl rfl hl.1 ⟨Nat.le_of_ble_eq_true rfl, Nat.le_of_ble_eq_true rfl⟩ ⟨(show cs + 3 + 0 ≤ 100 by omega), (show sl + 29 + 0 ≤ 2600 by omega)⟩ (Nat.le_of_ble_eq_true rfl) hS (fun q9 h9 => by rw [h9]; exact hxL) (fun v9 H locs hq hz9 hfr9 hS => ?_)
                  have f_tx : At G tx (.inl (G.2.1 0, n, .inl (sB bf))) H := va_at.kept f_tx (hfr9 _ (va_at.lt f_tx) ne_tx_x)
                  obtain ⟨er, es, ki, st, en, vv, rfl, f_x, hTK⟩ := hq
                  have hBK : BK G (AL sL x tx) bk2 (crD d1 nc L7) (nc + 1) 0 nh H := hBK.kept (fun q9 h9 h8 => hfr9 q9 h9 (fun z9 => h8 (Or.inr (Or.inl z9))))
                  have hTK : TK bf n (syF bf n 59 s7) er es ki st en vv := hTK
                  rcases hsy : syF bf n 59 s7 with ⟨c7, o7⟩ | s6
                  · rw [hsy] at hTK
                    have hki := hTK.2.2.2.2
                    subst hki
                    refine lv_iinc (v := (nI (i + 1))) (lv' := [(1, .int (nI (i + 1))), (0, .ref x)]) hx hb dX6_readSetup_92 hl (k := 0) rfl (nI_ad rfl rfl) (by decide) rfl (fun ls hl => ?_)
                    refine lv_goto (tgt := 6) hx hb dX6_readSetup_95 (by decide) ?_
                    refine lv_iload_n hx hb dX6_readSetup_6 rfl (lv_at hl 0 rfl) ?_
                    refine lv_aload_n hx hb dX6_readSetup_7 rfl (lv_at hl 1 rfl) ?_
                    refine gf_X6_9 E hG f_x rfl dX6_readSetup_8 ?_
                    refine g_len (t0 := 0) (v := (nI n)) E hG f_tx rfl rfl dX6_readSetup_11 ?_
                    refine lv_icmp_gt (tgt := 98) hx hb dX6_readSetup_12 (by decide) (fun c_12 => ?_) (fun c_12 => ?_)
                    · have c_12 : n < i + 1 := (nLT (x := (nI n)) (y := (nI (i + 1))) (a := n) (b := i + 1) rfl rfl (by omega) (by omega)).mp c_12
                      exact wr_void E hr hk hS (show cs + 3 + 0 ≤ 100 by omega) (show sl + 29 + 0 ≤ 2600 by omega) (⟨rfl, _, _, _, _, _, _, _, _, _, _, f_x, by rw [← z4, lpS_e hend (stF_x (bdF_c (x := (d1, nc, nh)) h0 h1 h12 hcd) hsy)]; exact hTK, fun _ _ z => by rw [← z4, lpS_e hend (stF_x (bdF_c (x := (d1, nc, nh)) h0 h1 h12 hcd) hsy)] at z; cases z⟩) dX6_readSetup_98
                    · have c_12 : ¬ n < i + 1 := fun z9 => c_12 ((nLT (x := (nI n)) (y := (nI (i + 1))) (a := n) (b := i + 1) rfl rfl (by omega) (by omega)).mpr z9)
                      refine lv_aload_n hx hb dX6_readSetup_15 rfl (lv_at hl 1 rfl) ?_
                      refine gf_X6_39 E hG f_x rfl dX6_readSetup_16 ?_
                      refine lv_sipush (v := 1000) hx hb dX6_readSetup_19 rfl ?_
                      refine lv_icmp_eq (tgt := 98) hx hb dX6_readSetup_22 (by decide) (fun c_22 => ?_) (fun c_22 => ?_)
                      · exact wr_void E hr hk hS (show cs + 3 + 0 ≤ 100 by omega) (show sl + 29 + 0 ≤ 2600 by omega) (⟨rfl, _, _, _, _, _, _, _, _, _, _, f_x, by rw [← z4, lpS_e hend (stF_x (bdF_c (x := (d1, nc, nh)) h0 h1 h12 hcd) hsy)]; exact hTK, fun _ _ z => by rw [← z4, lpS_e hend (stF_x (bdF_c (x := (d1, nc, nh)) h0 h1 h12 hcd) hsy)] at z; cases z⟩) dX6_readSetup_98
                      · exact absurd c_22 (by decide)
                  · rw [hsy] at hTK
                    have hst := stF_o (bdF_c (x := (d1, nc, nh)) h0 h1 h12 hcd) hsy
                    have hw := ld_st hB hn9 z3 hx9 hst
                    obtain ⟨her, hes, hs_g, hst, hki, hen, hvv⟩ := hTK
                    subst her hes hst hki hen hvv
                    refine lv_iinc (v := (nI (i + 1))) (lv' := [(1, .int (nI (i + 1))), (0, .ref x)]) hx hb dX6_readSetup_92 hl (k := 0) rfl (nI_ad rfl rfl) (by decide) rfl (fun ls hl => ?_)
                    refine lv_goto (tgt := 6) hx hb dX6_readSetup_95 (by decide) ?_
                    exact ih (i + 1) s6 (nc + 1) nh g _ _ bk2 fs1 fg fc (crD d1 nc L7) (by have := hw.2.1; omega) (by have := hw.2.1; omega) hw.2.2 (by rw [← z4, lpS_o hend hst]) hw.1 (by omega) (by omega) (by rw [show crD d1 nc L7 4 = d1 4 from crD_lo (by omega) (by omega)]; exact z7) H locs f_x f_tx hBK hS ls (lv_sub hl [0, 1] rfl)
            · by_cases h5 : isW bf n s1 (txt 5)
              · have htw := te_w hB (i := 5) (by decide) h5
                rcases z7 with ⟨hg0, h4, hfg, hfc⟩ | ⟨hg0, h4, hfg⟩
                · subst hfg hfc
                  refine lv_aload_n hx hb dX6_readSetup_25 rfl (lv_at hl 1 rfl) ?_
                  refine va_ldcS hx hb E.2.2.2.1 (hG.2.2.2.2.2.1 (RX6, 42, "holiday", 0) (by decide +kernel)) dX6_readSetup_26 ?_
                  refine Rd.callV (rest := []) (c_X6_isWord_n l G hB n hn9 s1 z3 (isT_c (i := 0) (by decide)) (txt_A (i := 0) (by decide)).1 (txt_A (i := 0) (by decide)).2 (txt_L (i := 0) (by decide)) h0) yk_X6_isWord E km_X6_44 dX6_readSetup_28 hG (hE.S hS hEA) ⟨f_x, f_tx⟩ (At.recv hG f_x rfl) rfl rfl hl.1 ⟨Nat.le_of_ble_eq_true rfl, Nat.le_of_ble_eq_true rfl⟩ ⟨(show cs ≤ 100 by omega), (show sl ≤ 2600 by omega)⟩ (Nat.le_of_ble_eq_true rfl) ?_
                  refine lv_if_eq (tgt := 41) hx hb dX6_readSetup_31 (by decide) (fun c_31 => ?_) (fun c_31 => ?_)
                  rotate_left
                  · exact absurd c_31 (by decide)
                  refine lv_aload_n hx hb dX6_readSetup_41 rfl (lv_at hl 1 rfl) ?_
                  refine va_ldcS hx hb E.2.2.2.1 (hG.2.2.2.2.2.1 (RX6, 51, "credit", 1) (by decide +kernel)) dX6_readSetup_42 ?_
                  refine Rd.callV (rest := []) (c_X6_isWord_n l G hB n hn9 s1 z3 (isT_c (i := 1) (by decide)) (txt_A (i := 1) (by decide)).1 (txt_A (i := 1) (by decide)).2 (txt_L (i := 1) (by decide)) h1) yk_X6_isWord E km_X6_44 dX6_readSetup_44 hG (hE.S hS hEA) ⟨f_x, f_tx⟩ (At.recv hG f_x rfl) rfl rfl hl.1 ⟨Nat.le_of_ble_eq_true rfl, Nat.le_of_ble_eq_true rfl⟩ ⟨(show cs ≤ 100 by omega), (show sl ≤ 2600 by omega)⟩ (Nat.le_of_ble_eq_true rfl) ?_
                  refine lv_if_eq (tgt := 57) hx hb dX6_readSetup_47 (by decide) (fun c_47 => ?_) (fun c_47 => ?_)
                  rotate_left
                  · exact absurd c_47 (by decide)
                  refine lv_aload_n hx hb dX6_readSetup_57 rfl (lv_at hl 1 rfl) ?_
                  refine va_ldcS hx hb E.2.2.2.1 (hG.2.2.2.2.2.1 (RX6, 56, "fee", 5) (by decide +kernel)) dX6_readSetup_58 ?_
                  refine Rd.callV (rest := []) (c_X6_isWord_y l G hB n hn9 s1 z3 (isT_c (i := 5) (by decide)) (txt_A (i := 5) (by decide)).1 (txt_A (i := 5) (by decide)).2 (txt_L (i := 5) (by decide)) h5) yk_X6_isWord E km_X6_44 dX6_readSetup_60 hG (hE.S hS hEA) ⟨f_x, f_tx⟩ (At.recv hG f_x rfl) rfl rfl hl.1 ⟨Nat.le_of_ble_eq_true rfl, Nat.le_of_ble_eq_true rfl⟩ ⟨(show cs ≤ 100 by omega), (show sl ≤ 2600 by omega)⟩ (Nat.le_of_ble_eq_true rfl) ?_
                  refine lv_if_eq (tgt := 80) hx hb dX6_readSetup_63 (by decide) (fun c_63 => ?_) (fun c_63 => ?_)
                  · exact absurd c_63 (by decide)
                  refine lv_aload_n hx hb dX6_readSetup_66 rfl (lv_at hl 1 rfl) ?_
                  refine gf_X6_58 E hG f_x rfl dX6_readSetup_67 ?_
                  refine lv_if_ne (tgt := 80) hx hb dX6_readSetup_70 (by decide) (fun c_70 => ?_) (fun c_70 => ?_)
                  · exact absurd c_70 (by decide)
                  refine lv_aload_n hx hb dX6_readSetup_73 rfl (lv_at hl 1 rfl) ?_
                  refine Wr.callV (rest := []) (c_X6_readFee (sz := H.size) l G hB n hn9 hzL hxL htL ne_tx_x s1 z3 (d := d1) (nc := nc) (nh := nh) hh0 hc0) yk_X6_readFee E km_X6_62 dX6_readSetup_74 hG (hE.S hS hEA) ⟨rfl, f_x, f_tx, hBK⟩ (At.recv hG f_x rfl) rfl rfl hl.1 ⟨Nat.le_of_ble_eq_true rfl, Nat.le_of_ble_eq_true rfl⟩ ⟨(show cs + 4 ≤ 100 by omega), (show sl + 1806 ≤ 2600 by omega)⟩ (Nat.le_of_ble_eq_true rfl) hS (fun _ h9 => h9) (fun v9 H locs hq hz9 hfr9 hS => ?_)
                  obtain ⟨rfl, er, es, ki, st, en, vv, bk2, fs2, fc2, f_x, f_tx, hTK, hBN⟩ := hq
                  refine lv_goto (tgt := 86) hx hb dX6_readSetup_77 (by decide) ?_
                  rw [htw] at hTK hBN
                  rcases hfa : smF bf n (fcF bf n 4) (spc bf n (s1 + (txt 5).length)) with ⟨c7, o7⟩ | ⟨s7, L7⟩
                  · rw [hfa] at hTK
                    refine lv_aload_n hx hb dX6_readSetup_86 rfl (lv_at hl 1 rfl) ?_
                    refine lv_bipush (v := 59) hx hb dX6_readSetup_87 rfl ?_
                    refine Wr.callV (rest := []) (c_X6_needSymbol_u l G hB n hn9 hEx ne_tx_x (.error (c7, o7)) hTK 59 (by decide)) yk_X6_needSymbol E km_X6_69 dX6_readSetup_89 hG (hE.S hS hEA) ⟨f_x, f_tx⟩ (At.recv hG f_x rfl) rfl rfl hl.1 ⟨Nat.le_of_ble_eq_true rfl, Nat.le_of_ble_eq_true rfl⟩ ⟨(show cs + 4 + 0 ≤ 100 by omega), (show sl + 1806 + 0 ≤ 2600 by omega)⟩ (Nat.le_of_ble_eq_true rfl) hS (fun q9 h9 => by rw [h9]; exact hxL) (fun v9 H locs hq hz9 hfr9 hS => ?_)
                    have f_tx : At G tx (.inl (G.2.1 0, n, .inl (sB bf))) H := va_at.kept f_tx (hfr9 _ (va_at.lt f_tx) ne_tx_x)
                    obtain ⟨er, es, ki, st, en, vv, rfl, f_x, hTK⟩ := hq
                    have hTK : TK bf n (.error (c7, o7)) er es ki st en vv := hTK
                    have hki := hTK.2.2.2.2
                    subst hki
                    refine lv_iinc (v := (nI (i + 1))) (lv' := [(1, .int (nI (i + 1))), (0, .ref x)]) hx hb dX6_readSetup_92 hl (k := 0) rfl (nI_ad rfl rfl) (by decide) rfl (fun ls hl => ?_)
                    refine lv_goto (tgt := 6) hx hb dX6_readSetup_95 (by decide) ?_
                    refine lv_iload_n hx hb dX6_readSetup_6 rfl (lv_at hl 0 rfl) ?_
                    refine lv_aload_n hx hb dX6_readSetup_7 rfl (lv_at hl 1 rfl) ?_
                    refine gf_X6_9 E hG f_x rfl dX6_readSetup_8 ?_
                    refine g_len (t0 := 0) (v := (nI n)) E hG f_tx rfl rfl dX6_readSetup_11 ?_
                    refine lv_icmp_gt (tgt := 98) hx hb dX6_readSetup_12 (by decide) (fun c_12 => ?_) (fun c_12 => ?_)
                    · have c_12 : n < i + 1 := (nLT (x := (nI n)) (y := (nI (i + 1))) (a := n) (b := i + 1) rfl rfl (by omega) (by omega)).mp c_12
                      exact wr_void E hr hk hS (show cs + 4 + 0 ≤ 100 by omega) (show sl + 1806 + 0 ≤ 2600 by omega) (⟨rfl, _, _, _, _, _, _, _, _, _, _, f_x, by rw [← z4, lpS_e hend (stF_e (bdF_fe (x := (d1, nc, nh)) h0 h1 h5 (show ¬ d1 4 = 1 by rw [h4]; decide) hfa))]; exact hTK, fun _ _ z => by rw [← z4, lpS_e hend (stF_e (bdF_fe (x := (d1, nc, nh)) h0 h1 h5 (show ¬ d1 4 = 1 by rw [h4]; decide) hfa))] at z; cases z⟩) dX6_readSetup_98
                    · have c_12 : ¬ n < i + 1 := fun z9 => c_12 ((nLT (x := (nI n)) (y := (nI (i + 1))) (a := n) (b := i + 1) rfl rfl (by omega) (by omega)).mpr z9)
                      refine lv_aload_n hx hb dX6_readSetup_15 rfl (lv_at hl 1 rfl) ?_
                      refine gf_X6_39 E hG f_x rfl dX6_readSetup_16 ?_
                      refine lv_sipush (v := 1000) hx hb dX6_readSetup_19 rfl ?_
                      refine lv_icmp_eq (tgt := 98) hx hb dX6_readSetup_22 (by decide) (fun c_22 => ?_) (fun c_22 => ?_)
                      · exact wr_void E hr hk hS (show cs + 4 + 0 ≤ 100 by omega) (show sl + 1806 + 0 ≤ 2600 by omega) (⟨rfl, _, _, _, _, _, _, _, _, _, _, f_x, by rw [← z4, lpS_e hend (stF_e (bdF_fe (x := (d1, nc, nh)) h0 h1 h5 (show ¬ d1 4 = 1 by rw [h4]; decide) hfa))]; exact hTK, fun _ _ z => by rw [← z4, lpS_e hend (stF_e (bdF_fe (x := (d1, nc, nh)) h0 h1 h5 (show ¬ d1 4 = 1 by rw [h4]; decide) hfa))] at z; cases z⟩) dX6_readSetup_98
                      · exact absurd c_22 (by decide)
                  · rw [hfa] at hTK
                    have hBK := hBN _ _ hfa
                    refine lv_aload_n hx hb dX6_readSetup_86 rfl (lv_at hl 1 rfl) ?_
                    refine lv_bipush (v := 59) hx hb dX6_readSetup_87 rfl ?_
                    refine Wr.callV (rest := []) (c_X6_needSymbol_u l G hB n hn9 hEx ne_tx_x (.ok s7) hTK 59 (by decide)) yk_X6_needSymbol E km_X6_69 dX6_readSetup_89 hG (hE.S hS hEA) ⟨f_x, f_tx⟩ (At.recv hG f_x rfl) rfl rfl hl.1 ⟨Nat.le_of_ble_eq_true rfl, Nat.le_of_ble_eq_true rfl⟩ ⟨(show cs + 4 + 0 ≤ 100 by omega), (show sl + 1806 + 0 ≤ 2600 by omega)⟩ (Nat.le_of_ble_eq_true rfl) hS (fun q9 h9 => by rw [h9]; exact hxL) (fun v9 H locs hq hz9 hfr9 hS => ?_)
                    have f_tx : At G tx (.inl (G.2.1 0, n, .inl (sB bf))) H := va_at.kept f_tx (hfr9 _ (va_at.lt f_tx) ne_tx_x)
                    obtain ⟨er, es, ki, st, en, vv, rfl, f_x, hTK⟩ := hq
                    have hBK : BK G (AL sL x tx) bk2 (emC (upd d1 4 1) (exL L7)) nc 0 nh H := hBK.kept (fun q9 h9 h8 => hfr9 q9 h9 (fun z9 => h8 (Or.inr (Or.inl z9))))
                    have hTK : TK bf n (syF bf n 59 s7) er es ki st en vv := hTK
                    rcases hsy : syF bf n 59 s7 with ⟨c7, o7⟩ | s6
                    · rw [hsy] at hTK
                      have hki := hTK.2.2.2.2
                      subst hki
                      refine lv_iinc (v := (nI (i + 1))) (lv' := [(1, .int (nI (i + 1))), (0, .ref x)]) hx hb dX6_readSetup_92 hl (k := 0) rfl (nI_ad rfl rfl) (by decide) rfl (fun ls hl => ?_)
                      refine lv_goto (tgt := 6) hx hb dX6_readSetup_95 (by decide) ?_
                      refine lv_iload_n hx hb dX6_readSetup_6 rfl (lv_at hl 0 rfl) ?_
                      refine lv_aload_n hx hb dX6_readSetup_7 rfl (lv_at hl 1 rfl) ?_
                      refine gf_X6_9 E hG f_x rfl dX6_readSetup_8 ?_
                      refine g_len (t0 := 0) (v := (nI n)) E hG f_tx rfl rfl dX6_readSetup_11 ?_
                      refine lv_icmp_gt (tgt := 98) hx hb dX6_readSetup_12 (by decide) (fun c_12 => ?_) (fun c_12 => ?_)
                      · have c_12 : n < i + 1 := (nLT (x := (nI n)) (y := (nI (i + 1))) (a := n) (b := i + 1) rfl rfl (by omega) (by omega)).mp c_12
                        exact wr_void E hr hk hS (show cs + 4 + 0 ≤ 100 by omega) (show sl + 1806 + 0 ≤ 2600 by omega) (⟨rfl, _, _, _, _, _, _, _, _, _, _, f_x, by rw [← z4, lpS_e hend (stF_x (bdF_f (x := (d1, nc, nh)) h0 h1 h5 (show ¬ d1 4 = 1 by rw [h4]; decide) hfa) hsy)]; exact hTK, fun _ _ z => by rw [← z4, lpS_e hend (stF_x (bdF_f (x := (d1, nc, nh)) h0 h1 h5 (show ¬ d1 4 = 1 by rw [h4]; decide) hfa) hsy)] at z; cases z⟩) dX6_readSetup_98
                      · have c_12 : ¬ n < i + 1 := fun z9 => c_12 ((nLT (x := (nI n)) (y := (nI (i + 1))) (a := n) (b := i + 1) rfl rfl (by omega) (by omega)).mpr z9)
                        refine lv_aload_n hx hb dX6_readSetup_15 rfl (lv_at hl 1 rfl) ?_
                        refine gf_X6_39 E hG f_x rfl dX6_readSetup_16 ?_
                        refine lv_sipush (v := 1000) hx hb dX6_readSetup_19 rfl ?_
                        refine lv_icmp_eq (tgt := 98) hx hb dX6_readSetup_22 (by decide) (fun c_22 => ?_) (fun c_22 => ?_)
                        · exact wr_void E hr hk hS (show cs + 4 + 0 ≤ 100 by omega) (show sl + 1806 + 0 ≤ 2600 by omega) (⟨rfl, _, _, _, _, _, _, _, _, _, _, f_x, by rw [← z4, lpS_e hend (stF_x (bdF_f (x := (d1, nc, nh)) h0 h1 h5 (show ¬ d1 4 = 1 by rw [h4]; decide) hfa) hsy)]; exact hTK, fun _ _ z => by rw [← z4, lpS_e hend (stF_x (bdF_f (x := (d1, nc, nh)) h0 h1 h5 (show ¬ d1 4 = 1 by rw [h4]; decide) hfa) hsy)] at z; cases z⟩) dX6_readSetup_98
                        · exact absurd c_22 (by decide)
                    · rw [hsy] at hTK
                      have hst := stF_o (bdF_f (x := (d1, nc, nh)) h0 h1 h5 (show ¬ d1 4 = 1 by rw [h4]; decide) hfa) hsy
                      have hw := ld_st hB hn9 z3 hx9 hst
                      obtain ⟨her, hes, hs_g, hst, hki, hen, hvv⟩ := hTK
                      subst her hes hst hki hen hvv
                      refine lv_iinc (v := (nI (i + 1))) (lv' := [(1, .int (nI (i + 1))), (0, .ref x)]) hx hb dX6_readSetup_92 hl (k := 0) rfl (nI_ad rfl rfl) (by decide) rfl (fun ls hl => ?_)
                      refine lv_goto (tgt := 6) hx hb dX6_readSetup_95 (by decide) ?_
                      exact ih (i + 1) s6 nc nh 1 _ _ bk2 fs2 1 fc2 (emC (upd d1 4 1) (exL L7)) (by have := hw.2.1; omega) (by have := hw.2.1; omega) hw.2.2 (by rw [← z4, lpS_o hend hst]) hw.1 (by omega) (by omega) (Or.inr ⟨rfl, by rw [emC_o (by omega) (by omega), pk_us], rfl⟩) H locs f_x f_tx hBK hS ls (lv_sub hl [0, 1] rfl)
                · subst hfg
                  refine lv_aload_n hx hb dX6_readSetup_25 rfl (lv_at hl 1 rfl) ?_
                  refine va_ldcS hx hb E.2.2.2.1 (hG.2.2.2.2.2.1 (RX6, 42, "holiday", 0) (by decide +kernel)) dX6_readSetup_26 ?_
                  refine Rd.callV (rest := []) (c_X6_isWord_n l G hB n hn9 s1 z3 (isT_c (i := 0) (by decide)) (txt_A (i := 0) (by decide)).1 (txt_A (i := 0) (by decide)).2 (txt_L (i := 0) (by decide)) h0) yk_X6_isWord E km_X6_44 dX6_readSetup_28 hG (hE.S hS hEA) ⟨f_x, f_tx⟩ (At.recv hG f_x rfl) rfl rfl hl.1 ⟨Nat.le_of_ble_eq_true rfl, Nat.le_of_ble_eq_true rfl⟩ ⟨(show cs ≤ 100 by omega), (show sl ≤ 2600 by omega)⟩ (Nat.le_of_ble_eq_true rfl) ?_
                  refine lv_if_eq (tgt := 41) hx hb dX6_readSetup_31 (by decide) (fun c_31 => ?_) (fun c_31 => ?_)
                  rotate_left
                  · exact absurd c_31 (by decide)
                  refine lv_aload_n hx hb dX6_readSetup_41 rfl (lv_at hl 1 rfl) ?_
                  refine va_ldcS hx hb E.2.2.2.1 (hG.2.2.2.2.2.1 (RX6, 51, "credit", 1) (by decide +kernel)) dX6_readSetup_42 ?_
                  refine Rd.callV (rest := []) (c_X6_isWord_n l G hB n hn9 s1 z3 (isT_c (i := 1) (by decide)) (txt_A (i := 1) (by decide)).1 (txt_A (i := 1) (by decide)).2 (txt_L (i := 1) (by decide)) h1) yk_X6_isWord E km_X6_44 dX6_readSetup_44 hG (hE.S hS hEA) ⟨f_x, f_tx⟩ (At.recv hG f_x rfl) rfl rfl hl.1 ⟨Nat.le_of_ble_eq_true rfl, Nat.le_of_ble_eq_true rfl⟩ ⟨(show cs ≤ 100 by omega), (show sl ≤ 2600 by omega)⟩ (Nat.le_of_ble_eq_true rfl) ?_
                  refine lv_if_eq (tgt := 57) hx hb dX6_readSetup_47 (by decide) (fun c_47 => ?_) (fun c_47 => ?_)
                  rotate_left
                  · exact absurd c_47 (by decide)
                  refine lv_aload_n hx hb dX6_readSetup_57 rfl (lv_at hl 1 rfl) ?_
                  refine va_ldcS hx hb E.2.2.2.1 (hG.2.2.2.2.2.1 (RX6, 56, "fee", 5) (by decide +kernel)) dX6_readSetup_58 ?_
                  refine Rd.callV (rest := []) (c_X6_isWord_y l G hB n hn9 s1 z3 (isT_c (i := 5) (by decide)) (txt_A (i := 5) (by decide)).1 (txt_A (i := 5) (by decide)).2 (txt_L (i := 5) (by decide)) h5) yk_X6_isWord E km_X6_44 dX6_readSetup_60 hG (hE.S hS hEA) ⟨f_x, f_tx⟩ (At.recv hG f_x rfl) rfl rfl hl.1 ⟨Nat.le_of_ble_eq_true rfl, Nat.le_of_ble_eq_true rfl⟩ ⟨(show cs ≤ 100 by omega), (show sl ≤ 2600 by omega)⟩ (Nat.le_of_ble_eq_true rfl) ?_
                  refine lv_if_eq (tgt := 80) hx hb dX6_readSetup_63 (by decide) (fun c_63 => ?_) (fun c_63 => ?_)
                  · exact absurd c_63 (by decide)
                  refine lv_aload_n hx hb dX6_readSetup_66 rfl (lv_at hl 1 rfl) ?_
                  refine gf_X6_58 E hG f_x rfl dX6_readSetup_67 ?_
                  refine lv_if_ne (tgt := 80) hx hb dX6_readSetup_70 (by decide) (fun c_70 => ?_) (fun c_70 => ?_)
                  rotate_left
                  · exact absurd c_70 (by decide)
                  refine lv_aload_n hx hb dX6_readSetup_80 rfl (lv_at hl 1 rfl) ?_
                  refine lv_bipush (v := (-2)) hx hb dX6_readSetup_81 rfl ?_
                  refine Wr.callV (rest := []) (c_X6_fail l G hEx (-2) rfl) yk_X6_fail E km_X6_65 dX6_readSetup_83 hG (hE.S hS hEA) f_x (At.recv hG f_x rfl) rfl rfl hl.1 ⟨Nat.le_of_ble_eq_true rfl, Nat.le_of_ble_eq_true rfl⟩ ⟨(show cs + 0 ≤ 100 by omega), (show sl + 0 ≤ 2600 by omega)⟩ (Nat.le_of_ble_eq_true rfl) hS (fun q9 h9 => by rw [h9]; exact hxL) (fun v9 H locs hq hz9 hfr9 hS => ?_)
                  have f_tx : At G tx (.inl (G.2.1 0, n, .inl (sB bf))) H := va_at.kept f_tx (hfr9 _ (va_at.lt f_tx) ne_tx_x)
                  obtain ⟨rfl, f_x⟩ := hq
                  have hTK : TK bf n (.error (-2, s1)) (-2) (nI s1) 1000 (nI s1) (nI (te bf n s1)) (va bf n s1) := ⟨rfl, by decide, rfl, z3, rfl⟩
                  refine lv_aload_n hx hb dX6_readSetup_86 rfl (lv_at hl 1 rfl) ?_
                  refine lv_bipush (v := 59) hx hb dX6_readSetup_87 rfl ?_
                  refine Wr.callV (rest := []) (c_X6_needSymbol_u l G hB n hn9 hEx ne_tx_x (.error (-2, s1)) hTK 59 (by decide)) yk_X6_needSymbol E km_X6_69 dX6_readSetup_89 hG (hE.S hS hEA) ⟨f_x, f_tx⟩ (At.recv hG f_x rfl) rfl rfl hl.1 ⟨Nat.le_of_ble_eq_true rfl, Nat.le_of_ble_eq_true rfl⟩ ⟨(show cs + 0 + 0 ≤ 100 by omega), (show sl + 0 + 0 ≤ 2600 by omega)⟩ (Nat.le_of_ble_eq_true rfl) hS (fun q9 h9 => by rw [h9]; exact hxL) (fun v9 H locs hq hz9 hfr9 hS => ?_)
                  have f_tx : At G tx (.inl (G.2.1 0, n, .inl (sB bf))) H := va_at.kept f_tx (hfr9 _ (va_at.lt f_tx) ne_tx_x)
                  obtain ⟨er, es, ki, st, en, vv, rfl, f_x, hTK⟩ := hq
                  have hTK : TK bf n (.error (-2, s1)) er es ki st en vv := hTK
                  have hki := hTK.2.2.2.2
                  subst hki
                  refine lv_iinc (v := (nI (i + 1))) (lv' := [(1, .int (nI (i + 1))), (0, .ref x)]) hx hb dX6_readSetup_92 hl (k := 0) rfl (nI_ad rfl rfl) (by decide) rfl (fun ls hl => ?_)
                  refine lv_goto (tgt := 6) hx hb dX6_readSetup_95 (by decide) ?_
                  refine lv_iload_n hx hb dX6_readSetup_6 rfl (lv_at hl 0 rfl) ?_
                  refine lv_aload_n hx hb dX6_readSetup_7 rfl (lv_at hl 1 rfl) ?_
                  refine gf_X6_9 E hG f_x rfl dX6_readSetup_8 ?_
                  refine g_len (t0 := 0) (v := (nI n)) E hG f_tx rfl rfl dX6_readSetup_11 ?_
                  refine lv_icmp_gt (tgt := 98) hx hb dX6_readSetup_12 (by decide) (fun c_12 => ?_) (fun c_12 => ?_)
                  · have c_12 : n < i + 1 := (nLT (x := (nI n)) (y := (nI (i + 1))) (a := n) (b := i + 1) rfl rfl (by omega) (by omega)).mp c_12
                    exact wr_void E hr hk hS (show cs + 0 + 0 ≤ 100 by omega) (show sl + 0 + 0 ≤ 2600 by omega) (⟨rfl, _, _, _, _, _, _, _, _, _, _, f_x, by rw [← z4, lpS_e hend (stF_e (bdF_fx (x := (d1, nc, nh)) h0 h1 h5 h4))]; exact hTK, fun _ _ z => by rw [← z4, lpS_e hend (stF_e (bdF_fx (x := (d1, nc, nh)) h0 h1 h5 h4))] at z; cases z⟩) dX6_readSetup_98
                  · have c_12 : ¬ n < i + 1 := fun z9 => c_12 ((nLT (x := (nI n)) (y := (nI (i + 1))) (a := n) (b := i + 1) rfl rfl (by omega) (by omega)).mpr z9)
                    refine lv_aload_n hx hb dX6_readSetup_15 rfl (lv_at hl 1 rfl) ?_
                    refine gf_X6_39 E hG f_x rfl dX6_readSetup_16 ?_
                    refine lv_sipush (v := 1000) hx hb dX6_readSetup_19 rfl ?_
                    refine lv_icmp_eq (tgt := 98) hx hb dX6_readSetup_22 (by decide) (fun c_22 => ?_) (fun c_22 => ?_)
                    · exact wr_void E hr hk hS (show cs + 0 + 0 ≤ 100 by omega) (show sl + 0 + 0 ≤ 2600 by omega) (⟨rfl, _, _, _, _, _, _, _, _, _, _, f_x, by rw [← z4, lpS_e hend (stF_e (bdF_fx (x := (d1, nc, nh)) h0 h1 h5 h4))]; exact hTK, fun _ _ z => by rw [← z4, lpS_e hend (stF_e (bdF_fx (x := (d1, nc, nh)) h0 h1 h5 h4))] at z; cases z⟩) dX6_readSetup_98
                    · exact absurd c_22 (by decide)
              · refine lv_aload_n hx hb dX6_readSetup_25 rfl (lv_at hl 1 rfl) ?_
                refine va_ldcS hx hb E.2.2.2.1 (hG.2.2.2.2.2.1 (RX6, 42, "holiday", 0) (by decide +kernel)) dX6_readSetup_26 ?_
                refine Rd.callV (rest := []) (c_X6_isWord_n l G hB n hn9 s1 z3 (isT_c (i := 0) (by decide)) (txt_A (i := 0) (by decide)).1 (txt_A (i := 0) (by decide)).2 (txt_L (i := 0) (by decide)) h0) yk_X6_isWord E km_X6_44 dX6_readSetup_28 hG (hE.S hS hEA) ⟨f_x, f_tx⟩ (At.recv hG f_x rfl) rfl rfl hl.1 ⟨Nat.le_of_ble_eq_true rfl, Nat.le_of_ble_eq_true rfl⟩ ⟨(show cs ≤ 100 by omega), (show sl ≤ 2600 by omega)⟩ (Nat.le_of_ble_eq_true rfl) ?_
                refine lv_if_eq (tgt := 41) hx hb dX6_readSetup_31 (by decide) (fun c_31 => ?_) (fun c_31 => ?_)
                rotate_left
                · exact absurd c_31 (by decide)
                refine lv_aload_n hx hb dX6_readSetup_41 rfl (lv_at hl 1 rfl) ?_
                refine va_ldcS hx hb E.2.2.2.1 (hG.2.2.2.2.2.1 (RX6, 51, "credit", 1) (by decide +kernel)) dX6_readSetup_42 ?_
                refine Rd.callV (rest := []) (c_X6_isWord_n l G hB n hn9 s1 z3 (isT_c (i := 1) (by decide)) (txt_A (i := 1) (by decide)).1 (txt_A (i := 1) (by decide)).2 (txt_L (i := 1) (by decide)) h1) yk_X6_isWord E km_X6_44 dX6_readSetup_44 hG (hE.S hS hEA) ⟨f_x, f_tx⟩ (At.recv hG f_x rfl) rfl rfl hl.1 ⟨Nat.le_of_ble_eq_true rfl, Nat.le_of_ble_eq_true rfl⟩ ⟨(show cs ≤ 100 by omega), (show sl ≤ 2600 by omega)⟩ (Nat.le_of_ble_eq_true rfl) ?_
                refine lv_if_eq (tgt := 57) hx hb dX6_readSetup_47 (by decide) (fun c_47 => ?_) (fun c_47 => ?_)
                rotate_left
                · exact absurd c_47 (by decide)
                refine lv_aload_n hx hb dX6_readSetup_57 rfl (lv_at hl 1 rfl) ?_
                refine va_ldcS hx hb E.2.2.2.1 (hG.2.2.2.2.2.1 (RX6, 56, "fee", 5) (by decide +kernel)) dX6_readSetup_58 ?_
                refine Rd.callV (rest := []) (c_X6_isWord_n l G hB n hn9 s1 z3 (isT_c (i := 5) (by decide)) (txt_A (i := 5) (by decide)).1 (txt_A (i := 5) (by decide)).2 (txt_L (i := 5) (by decide)) h5) yk_X6_isWord E km_X6_44 dX6_readSetup_60 hG (hE.S hS hEA) ⟨f_x, f_tx⟩ (At.recv hG f_x rfl) rfl rfl hl.1 ⟨Nat.le_of_ble_eq_true rfl, Nat.le_of_ble_eq_true rfl⟩ ⟨(show cs ≤ 100 by omega), (show sl ≤ 2600 by omega)⟩ (Nat.le_of_ble_eq_true rfl) ?_
                refine lv_if_eq (tgt := 80) hx hb dX6_readSetup_63 (by decide) (fun c_63 => ?_) (fun c_63 => ?_)
                rotate_left
                · exact absurd c_63 (by decide)
                refine lv_aload_n hx hb dX6_readSetup_80 rfl (lv_at hl 1 rfl) ?_
                refine lv_bipush (v := (-2)) hx hb dX6_readSetup_81 rfl ?_
                refine Wr.callV (rest := []) (c_X6_fail l G hEx (-2) rfl) yk_X6_fail E km_X6_65 dX6_readSetup_83 hG (hE.S hS hEA) f_x (At.recv hG f_x rfl) rfl rfl hl.1 ⟨Nat.le_of_ble_eq_true rfl, Nat.le_of_ble_eq_true rfl⟩ ⟨(show cs + 0 ≤ 100 by omega), (show sl + 0 ≤ 2600 by omega)⟩ (Nat.le_of_ble_eq_true rfl) hS (fun q9 h9 => by rw [h9]; exact hxL) (fun v9 H locs hq hz9 hfr9 hS => ?_)
                have f_tx : At G tx (.inl (G.2.1 0, n, .inl (sB bf))) H := va_at.kept f_tx (hfr9 _ (va_at.lt f_tx) ne_tx_x)
                obtain ⟨rfl, f_x⟩ := hq
                have hTK : TK bf n (.error (-2, s1)) (-2) (nI s1) 1000 (nI s1) (nI (te bf n s1)) (va bf n s1) := ⟨rfl, by decide, rfl, z3, rfl⟩
                refine lv_aload_n hx hb dX6_readSetup_86 rfl (lv_at hl 1 rfl) ?_
                refine lv_bipush (v := 59) hx hb dX6_readSetup_87 rfl ?_
                refine Wr.callV (rest := []) (c_X6_needSymbol_u l G hB n hn9 hEx ne_tx_x (.error (-2, s1)) hTK 59 (by decide)) yk_X6_needSymbol E km_X6_69 dX6_readSetup_89 hG (hE.S hS hEA) ⟨f_x, f_tx⟩ (At.recv hG f_x rfl) rfl rfl hl.1 ⟨Nat.le_of_ble_eq_true rfl, Nat.le_of_ble_eq_true rfl⟩ ⟨(show cs + 0 + 0 ≤ 100 by omega), (show sl + 0 + 0 ≤ 2600 by omega)⟩ (Nat.le_of_ble_eq_true rfl) hS (fun q9 h9 => by rw [h9]; exact hxL) (fun v9 H locs hq hz9 hfr9 hS => ?_)
                have f_tx : At G tx (.inl (G.2.1 0, n, .inl (sB bf))) H := va_at.kept f_tx (hfr9 _ (va_at.lt f_tx) ne_tx_x)
                obtain ⟨er, es, ki, st, en, vv, rfl, f_x, hTK⟩ := hq
                have hTK : TK bf n (.error (-2, s1)) er es ki st en vv := hTK
                have hki := hTK.2.2.2.2
                subst hki
                refine lv_iinc (v := (nI (i + 1))) (lv' := [(1, .int (nI (i + 1))), (0, .ref x)]) hx hb dX6_readSetup_92 hl (k := 0) rfl (nI_ad rfl rfl) (by decide) rfl (fun ls hl => ?_)
                refine lv_goto (tgt := 6) hx hb dX6_readSetup_95 (by decide) ?_
                refine lv_iload_n hx hb dX6_readSetup_6 rfl (lv_at hl 0 rfl) ?_
                refine lv_aload_n hx hb dX6_readSetup_7 rfl (lv_at hl 1 rfl) ?_
                refine gf_X6_9 E hG f_x rfl dX6_readSetup_8 ?_
                refine g_len (t0 := 0) (v := (nI n)) E hG f_tx rfl rfl dX6_readSetup_11 ?_
                refine lv_icmp_gt (tgt := 98) hx hb dX6_readSetup_12 (by decide) (fun c_12 => ?_) (fun c_12 => ?_)
                · have c_12 : n < i + 1 := (nLT (x := (nI n)) (y := (nI (i + 1))) (a := n) (b := i + 1) rfl rfl (by omega) (by omega)).mp c_12
                  exact wr_void E hr hk hS (show cs + 0 + 0 ≤ 100 by omega) (show sl + 0 + 0 ≤ 2600 by omega) (⟨rfl, _, _, _, _, _, _, _, _, _, _, f_x, by rw [← z4, lpS_e hend (stF_e (bdF_n (x := (d1, nc, nh)) h0 h1 h5))]; exact hTK, fun _ _ z => by rw [← z4, lpS_e hend (stF_e (bdF_n (x := (d1, nc, nh)) h0 h1 h5))] at z; cases z⟩) dX6_readSetup_98
                · have c_12 : ¬ n < i + 1 := fun z9 => c_12 ((nLT (x := (nI n)) (y := (nI (i + 1))) (a := n) (b := i + 1) rfl rfl (by omega) (by omega)).mpr z9)
                  refine lv_aload_n hx hb dX6_readSetup_15 rfl (lv_at hl 1 rfl) ?_
                  refine gf_X6_39 E hG f_x rfl dX6_readSetup_16 ?_
                  refine lv_sipush (v := 1000) hx hb dX6_readSetup_19 rfl ?_
                  refine lv_icmp_eq (tgt := 98) hx hb dX6_readSetup_22 (by decide) (fun c_22 => ?_) (fun c_22 => ?_)
                  · exact wr_void E hr hk hS (show cs + 0 + 0 ≤ 100 by omega) (show sl + 0 + 0 ≤ 2600 by omega) (⟨rfl, _, _, _, _, _, _, _, _, _, _, f_x, by rw [← z4, lpS_e hend (stF_e (bdF_n (x := (d1, nc, nh)) h0 h1 h5))]; exact hTK, fun _ _ z => by rw [← z4, lpS_e hend (stF_e (bdF_n (x := (d1, nc, nh)) h0 h1 h5))] at z; cases z⟩) dX6_readSetup_98
                  · exact absurd c_22 (by decide)
  exact loop (n + 1) 0 (spc bf n 0) 0 0 0 _ _ bk fs 0 (nI 0) (fun _ => 0) (by omega) (by omega) hsb.2 rfl LD_0 (by omega) (by omega) (Or.inl ⟨rfl, rfl, rfl, rfl⟩) _ _ f_x f_tx hBK hS ls (lv_sub hl [0, 1] rfl)
