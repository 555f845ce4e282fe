/-! READING: the class's terms and sums, at every depth -/
set_option maxHeartbeats 4000000 in
set_option maxRecDepth 100000 in
/-- readTerm -/
theorem c_X6_readTerm (l : Launch) (G : CG) {x bk tx fs : Nat} {fg : Int32} {bf : Nat → Int32} (hB : ByO bf) (n : Nat) (hn9 : n ≤ 900) (hEx : EFA G x) (hEf : EFA G fs) (ne_tx_x : tx ≠ x) (ne_fs_x : fs ≠ x) (ne_tx_fs : tx ≠ fs) (s9 : Nat) (hs9 : s9 ≤ n) (C : List Int32) (hC : C.length ≤ s9) {f : Nat → Int32} (hF0 : FSt f C) (dp : Int32) {fac : Nat → Rr} {w : Nat} (hGd : Gd n fac w) {fr lo : Nat} (hfr : 6 ≤ fr) (hlo : 140 ≤ lo) (hF : ∀ (s9 : Nat) (C : List Int32) (f : Nat → Int32), s9 ≤ n → C.length ≤ s9 → FSt f C → Wr l yX6_readFactor cX6_readFactor 2 ((Option.none : Option FieldType)) fr lo 0 0 G [.ref x, .int dp] (fun H9 => At G x (.inr (6, rdF 0 (-1) bk tx (kd bf n s9) (nI s9) (nI (te bf n s9)) (va bf n s9) fg fs (nI C.length))) H9 ∧ At G tx (bA G n (sB bf)) H9 ∧ At G fs (iA G n f) H9) (fun q9 => q9 = x ∨ q9 = fs) (fun v9 H9 => v9 = none ∧ ∃ er es ki st en vv k8 f8, k8 ≤ n ∧ At G x (.inr (6, rdF er es bk tx ki st en vv fg fs (nI k8))) H9 ∧ At G fs (iA G n f8) H9 ∧ TK bf n (pl (fac s9)) er es ki st en vv ∧ ∀ s8 L8, (fac s9) = .ok (s8, L8) → k8 = (C ++ L8).length ∧ FSt f8 (C ++ L8))) : Wr l yX6_readTerm cX6_readTerm 4 ((Option.none : Option FieldType)) (fr + 1) (lo + 21) 0 0 G [.ref x, .int dp] (fun H9 => At G x (.inr (6, rdF 0 (-1) bk tx (kd bf n s9) (nI s9) (nI (te bf n s9)) (va bf n s9) fg fs (nI C.length))) H9 ∧ At G tx (bA G n (sB bf)) H9 ∧ At G fs (iA G n f) H9) (fun q9 => q9 = x ∨ q9 = fs) (fun v9 H9 => v9 = none ∧ ∃ er es ki st en vv k8 f8, k8 ≤ n ∧ At G x (.inr (6, rdF er es bk tx ki st en vv fg fs (nI k8))) H9 ∧ At G fs (iA G n f8) H9 ∧ TK bf n (pl (chF bf n fac 42 47 (-6) (-7) s9)) er es ki st en vv ∧ ∀ s8 L8, (chF bf n fac 42 47 (-6) (-7) s9) = .ok (s8, L8) → k8 = (C ++ L8).length ∧ FSt f8 (C ++ L8)) := by
  refine Wr.ofW (by decide) (Nat.le_of_ble_eq_true rfl) (fun p e s m below meth c ls E hG hE hP hr hk hin hl => ?_)
  have hS : va_S (fun q9 => q9 = x ∨ q9 = fs) s.heap s.heap [] := va_S.rf
  have hx := E.1
  have hb := E.2.1
  have hl : lv_has ls 4 [(0, .ref x), (1, .int dp)] := hl
  have f_x := hP.1
  have f_tx := hP.2.1
  have f_fs := hP.2.2
  have hEA : ∀ q9, q9 = x ∨ q9 = fs → EFA G q9 := fun q9 h9 => h9.elim (fun z9 => by rw [z9]; exact hEx) (fun z9 => by rw [z9]; exact hEf)
  have htb := te_b hB hs9
  have hCn : C.length ≤ n := by omega
  refine lv_aload_n hx hb dX6_readTerm_0 rfl (lv_at hl 0 rfl) ?_
  refine lv_iload_n hx hb dX6_readTerm_1 rfl (lv_at hl 1 rfl) ?_
  refine Wr.callV (rest := []) (hF s9 C _ hs9 hC hF0) yk_X6_readFactor E km_X6_195 dX6_readTerm_2 hG (hE.S hS hEA) ⟨f_x, f_tx, f_fs⟩ (At.recv hG f_x rfl) rfl rfl hl.1 ⟨by show _ ≤ fr + 1; omega, by show _ ≤ lo + 21; omega⟩ ⟨(show 0 + 0 ≤ 0 by omega), (show 0 + 0 ≤ 0 by omega)⟩ (Nat.le_of_ble_eq_true rfl) hS (fun _ h9 => h9) (fun v9 H locs hq hz9 hfr9 hS => ?_)
  have f_tx : At G tx (.inl (G.2.1 0, n, .inl (sB bf))) H := va_at.kept f_tx (hfr9 _ (va_at.lt f_tx) (fun z9 => z9.elim ne_tx_x ne_tx_fs))
  obtain ⟨rfl, er, es, ki, st, en, vv, k7, f7, hk7, f_x, f_fs, hTK, hL⟩ := hq
  rcases hfa : fac s9 with e7 | ⟨s7, L7⟩
  · rw [hfa] at hTK
    obtain ⟨ec, eo⟩ := e7
    have hki := hTK.2.2.2.2
    subst hki
    refine lv_iconst (v := 0) hx hb dX6_readTerm_5 rfl ?_
    refine lv_ci (y := nI 0) (ixq rfl) ?_
    refine lv_istore_n (lv' := [(2, .int (nI 0)), (0, .ref x), (1, .int dp)]) hx hb dX6_readTerm_6 rfl hl (by decide) rfl (fun ls hl => ?_)
    refine lv_iload_n hx hb dX6_readTerm_7 rfl (lv_at hl 0 rfl) ?_
    refine lv_aload_n hx hb dX6_readTerm_8 rfl (lv_at hl 1 rfl) ?_
    refine gf_X6_9 E hG f_x rfl dX6_readTerm_9 ?_
    refine g_len (t0 := 0) (v := (nI n)) E hG f_tx rfl rfl dX6_readTerm_12 ?_
    refine lv_icmp_ge (tgt := 71) hx hb dX6_readTerm_13 (by decide) (fun c_13 => ?_) (fun c_13 => ?_)
    · have c_13 : n ≤ 0 := (nLE (x := (nI n)) (y := (nI 0)) (a := n) (b := 0) rfl rfl (by omega) (by omega)).mp c_13
      exact wr_void E hr hk hS (show 0 + 0 ≤ 0 by omega) (show 0 + 0 ≤ 0 by omega) (⟨rfl, _, _, _, _, _, _, _, _, hk7, f_x, f_fs, by rw [chF_e hfa]; exact hTK, fun s8 L8 z => by rw [chF_e hfa] at z; cases z⟩) dX6_readTerm_71
    · have c_13 : ¬ n ≤ 0 := fun z9 => c_13 ((nLE (x := (nI n)) (y := (nI 0)) (a := n) (b := 0) rfl rfl (by omega) (by omega)).mpr z9)
      refine lv_aload_n hx hb dX6_readTerm_16 rfl (lv_at hl 1 rfl) ?_
      refine gf_X6_39 E hG f_x rfl dX6_readTerm_17 ?_
      refine lv_bipush (v := 42) hx hb dX6_readTerm_20 rfl ?_
      refine lv_icmp_eq (tgt := 34) hx hb dX6_readTerm_22 (by decide) (fun c_22 => ?_) (fun c_22 => ?_)
      · exact absurd c_22 (by decide)
      · refine lv_aload_n hx hb dX6_readTerm_25 rfl (lv_at hl 1 rfl) ?_
        refine gf_X6_39 E hG f_x rfl dX6_readTerm_26 ?_
        refine lv_bipush (v := 47) hx hb dX6_readTerm_29 rfl ?_
        refine lv_icmp_ne (tgt := 71) hx hb dX6_readTerm_31 (by decide) (fun c_31 => ?_) (fun c_31 => ?_)
        · exact wr_void E hr hk hS (show 0 + 0 ≤ 0 by omega) (show 0 + 0 ≤ 0 by omega) (⟨rfl, _, _, _, _, _, _, _, _, hk7, f_x, f_fs, by rw [chF_e hfa]; exact hTK, fun s8 L8 z => by rw [chF_e hfa] at z; cases z⟩) dX6_readTerm_71
        · exact absurd c_31 (by decide)
  · rw [hfa] at hTK
    have g0 := hGd _ _ _ hs9 hfa
    obtain ⟨ek7, hF7⟩ := hL _ _ hfa
    subst ek7
    have hTK : TK bf n (.ok s7) er es ki st en vv := hTK
    obtain ⟨her, hes, hs_g, hst, hki, hen, hvv⟩ := hTK
    subst her hes hst hki hen hvv
    refine lv_iconst (v := 0) hx hb dX6_readTerm_5 rfl ?_
    refine lv_ci (y := nI 0) (ixq rfl) ?_
    refine lv_istore_n (lv' := [(2, .int (nI 0)), (0, .ref x), (1, .int dp)]) hx hb dX6_readTerm_6 rfl hl (by decide) rfl (fun ls hl => ?_)
    have loop : ∀ (j i s1 : Nat) (L : List Int32) (f1 : Nat → Int32), n < s1 + j → i ≤ s1 → s1 ≤ n → lpF bf n fac 42 47 (-6) (-7) j s1 L = (chF bf n fac 42 47 (-6) (-7) s9) → (C ++ L).length ≤ s1 → FSt f1 (C ++ L) → ∀ (H : Heap) (locs : List Loc), At G x (.inr (6, [.int 0, .int (-1), .ref bk, .ref tx, .int (kd bf n s1), .int (nI s1), .int (nI (te bf n s1)), .int (va bf n s1), .int fg, .ref fs, .int (nI ((C ++ L).length))])) H → At G tx (.inl (G.2.1 0, n, .inl (sB bf))) H → At G fs (.inl (G.2.1 1, n, .inl f1)) H → va_S (fun q9 => q9 = x ∨ q9 = fs) s.heap H locs → ∀ ls : Array Slot, lv_has ls 4 [(2, .int (nI i)), (0, .ref x), (1, .int dp)] → W p l e { frames := (fr + 1), cells := 0, slots := 0, locals := (lo + 21) } s m ([.ref x, .int dp] : List Value).toArray below meth c H locs (0 + 0) (0 + 0) (WQ below ([.ref x, .int dp] : List Value).toArray s 0 0 (fun q9 => q9 = x ∨ q9 = fs) (fun v9 H9 => v9 = none ∧ ∃ er es ki st en vv k8 f8, k8 ≤ n ∧ At G x (.inr (6, rdF er es bk tx ki st en vv fg fs (nI k8))) H9 ∧ At G fs (iA G n f8) H9 ∧ TK bf n (pl (chF bf n fac 42 47 (-6) (-7) s9)) er es ki st en vv ∧ ∀ s8 L8, (chF bf n fac 42 47 (-6) (-7) s9) = .ok (s8, L8) → k8 = (C ++ L8).length ∧ FSt f8 (C ++ L8))) (F0 m 7 ls []) := by
      intro j
      induction j with
      | zero => intro i s1 L f1 z1 z2 z3; omega
      | succ j ih =>
        intro i s1 L f1 z1 z2 z3 z4 z5 z6 H locs f_x f_tx f_fs hS ls hl
        have htb1 := te_b hB z3
        have hCL : (C ++ L).length ≤ n := by omega
        refine lv_iload_n hx hb dX6_readTerm_7 rfl (lv_at hl 0 rfl) ?_
        refine lv_aload_n hx hb dX6_readTerm_8 rfl (lv_at hl 1 rfl) ?_
        refine gf_X6_9 E hG f_x rfl dX6_readTerm_9 ?_
        refine g_len (t0 := 0) (v := (nI n)) E hG f_tx rfl rfl dX6_readTerm_12 ?_
        refine lv_icmp_ge (tgt := 71) hx hb dX6_readTerm_13 (by decide) (fun c_13 => ?_) (fun c_13 => ?_)
        · have c_13 : n ≤ i := (nLE (x := (nI n)) (y := (nI i)) (a := n) (b := i) rfl rfl (by omega) (by omega)).mp c_13
          exact wr_void E hr hk hS (show 0 + 0 ≤ 0 by omega) (show 0 + 0 ≤ 0 by omega) (⟨rfl, _, _, _, _, _, _, _, _, hCL, f_x, f_fs, by rw [← z4, lpF_n (fun z9 => by rw [bt_out (by omega)] at z9; exact z9.elim (by decide) (by decide))]; exact ⟨rfl, rfl, z3, rfl, rfl, rfl, rfl⟩, fun s8 L8 z => by rw [← z4, lpF_n (fun z9 => by rw [bt_out (by omega)] at z9; exact z9.elim (by decide) (by decide))] at z; cases z; exact ⟨rfl, z6⟩⟩) dX6_readTerm_71
        · have c_13 : ¬ n ≤ i := fun z9 => c_13 ((nLE (x := (nI n)) (y := (nI i)) (a := n) (b := i) rfl rfl (by omega) (by omega)).mpr z9)
          refine lv_aload_n hx hb dX6_readTerm_16 rfl (lv_at hl 1 rfl) ?_
          refine gf_X6_39 E hG f_x rfl dX6_readTerm_17 ?_
          refine lv_bipush (v := 42) hx hb dX6_readTerm_20 rfl ?_
          refine lv_icmp_eq (tgt := 34) hx hb dX6_readTerm_22 (by decide) (fun c_22 => ?_) (fun c_22 => ?_)
          · have hb9 := (kd_sym (c := 42) hB (by decide)).mp c_22
            have hlt := bt_lt hb9 (by decide)
            have hte := te_sym c_22 (by decide)
            have hsb := sk_b (bf := bf) (n := n) (q := s1 + 1) (by omega)
            refine lv_aload_n hx hb dX6_readTerm_34 rfl (lv_at hl 1 rfl) ?_
            refine gf_X6_39 E hG f_x rfl dX6_readTerm_35 ?_
            refine lv_bipush (v := 42) hx hb dX6_readTerm_38 rfl ?_
            refine lv_icmp_ne (tgt := 48) hx hb dX6_readTerm_40 (by decide) (fun c_40 => ?_) (fun c_40 => ?_)
            · exact (by rw [c_22] at c_40; exact absurd c_40 (by decide))
            refine lv_bipush (v := (-6)) hx hb dX6_readTerm_43 rfl ?_
            refine lv_goto (tgt := 50) hx hb dX6_readTerm_45 (by decide) ?_
            refine lv_istore_n (lv' := [(3, .int (-6)), (2, .int (nI i)), (0, .ref x), (1, .int dp)]) hx hb dX6_readTerm_50 rfl hl (by decide) rfl (fun ls hl => ?_)
            refine lv_aload_n hx hb dX6_readTerm_51 rfl (lv_at hl 2 rfl) ?_
            refine Wr.callV (rest := []) (c_X6_nextToken l G hB n hn9 hEx ne_tx_x (te bf n s1) (by omega)) yk_X6_nextToken E km_X6_36 dX6_readTerm_52 hG (hE.S hS hEA) ⟨f_x, f_tx⟩ (At.recv hG f_x rfl) rfl rfl hl.1 ⟨by show _ ≤ fr + 1; omega, by show _ ≤ lo + 21; omega⟩ ⟨(show 0 + 0 + 0 ≤ 0 by omega), (show 0 + 0 + 0 ≤ 0 by omega)⟩ (Nat.le_of_ble_eq_true rfl) hS (fun _ h9 => Or.inl h9) (fun v9 H locs hq hz9 hfr9 hS => ?_)
            have f_tx : At G tx (.inl (G.2.1 0, n, .inl (sB bf))) H := va_at.kept f_tx (hfr9 _ (va_at.lt f_tx) ne_tx_x)
            have f_fs : At G fs (.inl (G.2.1 1, n, .inl f1)) H := va_at.kept f_fs (hfr9 _ (va_at.lt f_fs) ne_fs_x)
            obtain ⟨rfl, er, es, ki, st, en, vv, f_x, hTK⟩ := hq
            rw [hte] at hTK
            obtain ⟨her, hes, hs_g, hst, hki, hen, hvv⟩ := hTK
            subst her hes hst hki hen hvv
            refine lv_aload_n hx hb dX6_readTerm_55 rfl (lv_at hl 2 rfl) ?_
            refine lv_iload_n hx hb dX6_readTerm_56 rfl (lv_at hl 3 rfl) ?_
            refine Wr.callV (rest := []) (hF (spc bf n (s1 + 1)) (C ++ L) _ hsb.2 (by omega) z6) yk_X6_readFactor E km_X6_195 dX6_readTerm_57 hG (hE.S hS hEA) ⟨f_x, f_tx, f_fs⟩ (At.recv hG f_x rfl) rfl rfl hl.1 ⟨by show _ ≤ fr + 1; omega, by show _ ≤ lo + 21; omega⟩ ⟨(show 0 + 0 + 0 + 0 ≤ 0 by omega), (show 0 + 0 + 0 + 0 ≤ 0 by omega)⟩ (Nat.le_of_ble_eq_true rfl) hS (fun _ h9 => h9) (fun v9 H locs hq hz9 hfr9 hS => ?_)
            have f_tx : At G tx (.inl (G.2.1 0, n, .inl (sB bf))) H := va_at.kept f_tx (hfr9 _ (va_at.lt f_tx) (fun z9 => z9.elim ne_tx_x ne_tx_fs))
            obtain ⟨rfl, er, es, ki, st, en, vv, k7, f7, hk7, f_x, f_fs, hTK, hL⟩ := hq
            rcases hfb : fac (spc bf n (s1 + 1)) with e7 | ⟨s7, L7⟩
            · rw [hfb] at hTK
              obtain ⟨ec, eo⟩ := e7
              have hki := hTK.2.2.2.2
              subst hki
              refine lv_aload_n hx hb dX6_readTerm_60 rfl (lv_at hl 2 rfl) ?_
              refine lv_iload_n hx hb dX6_readTerm_61 rfl (lv_at hl 0 rfl) ?_
              refine Wr.callV (rest := []) (c_X6_addFeeStep l G hn9 ne_fs_x k7 hk7 (-6)) yk_X6_addFeeStep E km_X6_192 dX6_readTerm_62 hG (hE.S hS hEA) ⟨f_x, f_fs⟩ (At.recv hG f_x rfl) rfl rfl hl.1 ⟨by show _ ≤ fr + 1; omega, by show _ ≤ lo + 21; omega⟩ ⟨(show 0 + 0 + 0 + 0 + 0 ≤ 0 by omega), (show 0 + 0 + 0 + 0 + 0 ≤ 0 by omega)⟩ (Nat.le_of_ble_eq_true rfl) hS (fun _ h9 => h9) (fun v9 H locs hq hz9 hfr9 hS => ?_)
              have f_tx : At G tx (.inl (G.2.1 0, n, .inl (sB bf))) H := va_at.kept f_tx (hfr9 _ (va_at.lt f_tx) (fun z9 => z9.elim ne_tx_x ne_tx_fs))
              obtain ⟨rfl, k_1, f_19, hk_1, hadd_1, f_x, f_fs⟩ := hq
              refine lv_iinc (v := (nI (i + 1))) (lv' := [(2, .int (nI (i + 1))), (3, .int (-6)), (0, .ref x), (1, .int dp)]) hx hb dX6_readTerm_65 hl (k := 1) rfl (nI_ad rfl rfl) (by decide) rfl (fun ls hl => ?_)
              refine lv_goto (tgt := 7) hx hb dX6_readTerm_68 (by decide) ?_
              refine lv_iload_n hx hb dX6_readTerm_7 rfl (lv_at hl 0 rfl) ?_
              refine lv_aload_n hx hb dX6_readTerm_8 rfl (lv_at hl 2 rfl) ?_
              refine gf_X6_9 E hG f_x rfl dX6_readTerm_9 ?_
              refine g_len (t0 := 0) (v := (nI n)) E hG f_tx rfl rfl dX6_readTerm_12 ?_
              refine lv_icmp_ge (tgt := 71) hx hb dX6_readTerm_13 (by decide) (fun c_13 => ?_) (fun c_13 => ?_)
              · have c_13 : n ≤ i + 1 := (nLE (x := (nI n)) (y := (nI (i + 1))) (a := n) (b := i + 1) rfl rfl (by omega) (by omega)).mp c_13
                exact wr_void E hr hk hS (show 0 + 0 + 0 + 0 + 0 ≤ 0 by omega) (show 0 + 0 + 0 + 0 + 0 ≤ 0 by omega) (⟨rfl, _, _, _, _, _, _, _, _, hk_1, f_x, f_fs, by rw [← z4, lpF_e (Or.inl hb9) hfb]; exact hTK, fun s8 L8 z => by rw [← z4, lpF_e (Or.inl hb9) hfb] at z; cases z⟩) dX6_readTerm_71
              · have c_13 : ¬ n ≤ i + 1 := fun z9 => c_13 ((nLE (x := (nI n)) (y := (nI (i + 1))) (a := n) (b := i + 1) rfl rfl (by omega) (by omega)).mpr z9)
                refine lv_aload_n hx hb dX6_readTerm_16 rfl (lv_at hl 2 rfl) ?_
                refine gf_X6_39 E hG f_x rfl dX6_readTerm_17 ?_
                refine lv_bipush (v := 42) hx hb dX6_readTerm_20 rfl ?_
                refine lv_icmp_eq (tgt := 34) hx hb dX6_readTerm_22 (by decide) (fun c_22 => ?_) (fun c_22 => ?_)
                · exact absurd c_22 (by decide)
                · refine lv_aload_n hx hb dX6_readTerm_25 rfl (lv_at hl 2 rfl) ?_
                  refine gf_X6_39 E hG f_x rfl dX6_readTerm_26 ?_
                  refine lv_bipush (v := 47) hx hb dX6_readTerm_29 rfl ?_
                  refine lv_icmp_ne (tgt := 71) hx hb dX6_readTerm_31 (by decide) (fun c_31 => ?_) (fun c_31 => ?_)
                  · exact wr_void E hr hk hS (show 0 + 0 + 0 + 0 + 0 ≤ 0 by omega) (show 0 + 0 + 0 + 0 + 0 ≤ 0 by omega) (⟨rfl, _, _, _, _, _, _, _, _, hk_1, f_x, f_fs, by rw [← z4, lpF_e (Or.inl hb9) hfb]; exact hTK, fun s8 L8 z => by rw [← z4, lpF_e (Or.inl hb9) hfb] at z; cases z⟩) dX6_readTerm_71
                  · exact absurd c_31 (by decide)
            · rw [hfb] at hTK
              have g1 := hGd _ _ _ hsb.2 hfb
              obtain ⟨ek7, hF7⟩ := hL _ _ hfb
              subst ek7
              have hTK : TK bf n (.ok s7) er es ki st en vv := hTK
              have hl7 : (C ++ L ++ L7).length + 1 ≤ s7 := by rw [List.length_append]; have := g1.2.2.2.1; have := g1.1; omega
              have hs7 : s7 ≤ n := g1.2.1
              obtain ⟨her, hes, hs_g, hst, hki, hen, hvv⟩ := hTK
              subst her hes hst hki hen hvv
              refine lv_aload_n hx hb dX6_readTerm_60 rfl (lv_at hl 2 rfl) ?_
              refine lv_iload_n hx hb dX6_readTerm_61 rfl (lv_at hl 0 rfl) ?_
              refine Wr.callV (rest := []) (c_X6_addFeeStep l G hn9 ne_fs_x ((C ++ L ++ L7).length) (by omega) (-6)) yk_X6_addFeeStep E km_X6_192 dX6_readTerm_62 hG (hE.S hS hEA) ⟨f_x, f_fs⟩ (At.recv hG f_x rfl) rfl rfl hl.1 ⟨by show _ ≤ fr + 1; omega, by show _ ≤ lo + 21; omega⟩ ⟨(show 0 + 0 + 0 + 0 + 0 ≤ 0 by omega), (show 0 + 0 + 0 + 0 + 0 ≤ 0 by omega)⟩ (Nat.le_of_ble_eq_true rfl) hS (fun _ h9 => h9) (fun v9 H locs hq hz9 hfr9 hS => ?_)
              have f_tx : At G tx (.inl (G.2.1 0, n, .inl (sB bf))) H := va_at.kept f_tx (hfr9 _ (va_at.lt f_tx) (fun z9 => z9.elim ne_tx_x ne_tx_fs))
              obtain ⟨rfl, k_2, f_29, hk_2, hadd_2, f_x, f_fs⟩ := hq
              refine lv_iinc (v := (nI (i + 1))) (lv' := [(2, .int (nI (i + 1))), (3, .int (-6)), (0, .ref x), (1, .int dp)]) hx hb dX6_readTerm_65 hl (k := 1) rfl (nI_ad rfl rfl) (by decide) rfl (fun ls hl => ?_)
              refine lv_goto (tgt := 7) hx hb dX6_readTerm_68 (by decide) ?_
              obtain ⟨ek, eg⟩ := hadd_2 (by omega)
              subst ek eg
              have eL : C ++ L ++ L7 ++ [(-6)] = C ++ (L ++ L7 ++ [(-6)]) := by simp only [List.append_assoc]
              have hF8 := hF7.add (-6)
              rw [eL] at hF8
              have el : (C ++ L ++ L7).length + 1 = (C ++ (L ++ L7 ++ [(-6)])).length := by rw [← eL, List.length_append (as := C ++ L ++ L7), List.length_singleton]
              rw [el] at f_x
              exact ih (i + 1) s7 (L ++ L7 ++ [(-6)]) _ (by have := g1.1; omega) (by have := g1.1; omega) hs7 (by rw [← z4, lpF_1 hb9 hfb]) (by rw [← el]; exact hl7) hF8 H locs f_x f_tx f_fs hS ls (lv_sub hl [0, 2, 3] rfl)
          · refine lv_aload_n hx hb dX6_readTerm_25 rfl (lv_at hl 1 rfl) ?_
            refine gf_X6_39 E hG f_x rfl dX6_readTerm_26 ?_
            refine lv_bipush (v := 47) hx hb dX6_readTerm_29 rfl ?_
            refine lv_icmp_ne (tgt := 71) hx hb dX6_readTerm_31 (by decide) (fun c_31 => ?_) (fun c_31 => ?_)
            · exact wr_void E hr hk hS (show 0 + 0 ≤ 0 by omega) (show 0 + 0 ≤ 0 by omega) (⟨rfl, _, _, _, _, _, _, _, _, hCL, f_x, f_fs, by rw [← z4, lpF_n (fun z9 => z9.elim (fun y9 => c_22 ((kd_sym hB (by decide)).mpr y9)) (fun y9 => c_31 ((kd_sym hB (by decide)).mpr y9)))]; exact ⟨rfl, rfl, z3, rfl, rfl, rfl, rfl⟩, fun s8 L8 z => by rw [← z4, lpF_n (fun z9 => z9.elim (fun y9 => c_22 ((kd_sym hB (by decide)).mpr y9)) (fun y9 => c_31 ((kd_sym hB (by decide)).mpr y9)))] at z; cases z; exact ⟨rfl, z6⟩⟩) dX6_readTerm_71
            · have hb9 := (kd_sym (c := 47) hB (by decide)).mp c_31
              have hlt := bt_lt hb9 (by decide)
              have hte := te_sym c_31 (by decide)
              have hsb := sk_b (bf := bf) (n := n) (q := s1 + 1) (by omega)
              refine lv_aload_n hx hb dX6_readTerm_34 rfl (lv_at hl 1 rfl) ?_
              refine gf_X6_39 E hG f_x rfl dX6_readTerm_35 ?_
              refine lv_bipush (v := 42) hx hb dX6_readTerm_38 rfl ?_
              refine lv_icmp_ne (tgt := 48) hx hb dX6_readTerm_40 (by decide) (fun c_40 => ?_) (fun c_40 => ?_)
              rotate_left
              · exact (by rw [c_31] at c_40; exact absurd c_40 (by decide))
              refine lv_bipush (v := (-7)) hx hb dX6_readTerm_48 rfl ?_
              refine lv_istore_n (lv' := [(3, .int (-7)), (2, .int (nI i)), (0, .ref x), (1, .int dp)]) hx hb dX6_readTerm_50 rfl hl (by decide) rfl (fun ls hl => ?_)
              refine lv_aload_n hx hb dX6_readTerm_51 rfl (lv_at hl 2 rfl) ?_
              refine Wr.callV (rest := []) (c_X6_nextToken l G hB n hn9 hEx ne_tx_x (te bf n s1) (by omega)) yk_X6_nextToken E km_X6_36 dX6_readTerm_52 hG (hE.S hS hEA) ⟨f_x, f_tx⟩ (At.recv hG f_x rfl) rfl rfl hl.1 ⟨by show _ ≤ fr + 1; omega, by show _ ≤ lo + 21; omega⟩ ⟨(show 0 + 0 + 0 ≤ 0 by omega), (show 0 + 0 + 0 ≤ 0 by omega)⟩ (Nat.le_of_ble_eq_true rfl) hS (fun _ h9 => Or.inl h9) (fun v9 H locs hq hz9 hfr9 hS => ?_)
              have f_tx : At G tx (.inl (G.2.1 0, n, .inl (sB bf))) H := va_at.kept f_tx (hfr9 _ (va_at.lt f_tx) ne_tx_x)
              have f_fs : At G fs (.inl (G.2.1 1, n, .inl f1)) H := va_at.kept f_fs (hfr9 _ (va_at.lt f_fs) ne_fs_x)
              obtain ⟨rfl, er, es, ki, st, en, vv, f_x, hTK⟩ := hq
              rw [hte] at hTK
              obtain ⟨her, hes, hs_g, hst, hki, hen, hvv⟩ := hTK
              subst her hes hst hki hen hvv
              refine lv_aload_n hx hb dX6_readTerm_55 rfl (lv_at hl 2 rfl) ?_
              refine lv_iload_n hx hb dX6_readTerm_56 rfl (lv_at hl 3 rfl) ?_
              refine Wr.callV (rest := []) (hF (spc bf n (s1 + 1)) (C ++ L) _ hsb.2 (by omega) z6) yk_X6_readFactor E km_X6_195 dX6_readTerm_57 hG (hE.S hS hEA) ⟨f_x, f_tx, f_fs⟩ (At.recv hG f_x rfl) rfl rfl hl.1 ⟨by show _ ≤ fr + 1; omega, by show _ ≤ lo + 21; omega⟩ ⟨(show 0 + 0 + 0 + 0 ≤ 0 by omega), (show 0 + 0 + 0 + 0 ≤ 0 by omega)⟩ (Nat.le_of_ble_eq_true rfl) hS (fun _ h9 => h9) (fun v9 H locs hq hz9 hfr9 hS => ?_)
              have f_tx : At G tx (.inl (G.2.1 0, n, .inl (sB bf))) H := va_at.kept f_tx (hfr9 _ (va_at.lt f_tx) (fun z9 => z9.elim ne_tx_x ne_tx_fs))
              obtain ⟨rfl, er, es, ki, st, en, vv, k7, f7, hk7, f_x, f_fs, hTK, hL⟩ := hq
              rcases hfb : fac (spc bf n (s1 + 1)) with e7 | ⟨s7, L7⟩
              · rw [hfb] at hTK
                obtain ⟨ec, eo⟩ := e7
                have hki := hTK.2.2.2.2
                subst hki
                refine lv_aload_n hx hb dX6_readTerm_60 rfl (lv_at hl 2 rfl) ?_
                refine lv_iload_n hx hb dX6_readTerm_61 rfl (lv_at hl 0 rfl) ?_
                refine Wr.callV (rest := []) (c_X6_addFeeStep l G hn9 ne_fs_x k7 hk7 (-7)) yk_X6_addFeeStep E km_X6_192 dX6_readTerm_62 hG (hE.S hS hEA) ⟨f_x, f_fs⟩ (At.recv hG f_x rfl) rfl rfl hl.1 ⟨by show _ ≤ fr + 1; omega, by show _ ≤ lo + 21; omega⟩ ⟨(show 0 + 0 + 0 + 0 + 0 ≤ 0 by omega), (show 0 + 0 + 0 + 0 + 0 ≤ 0 by omega)⟩ (Nat.le_of_ble_eq_true rfl) hS (fun _ h9 => h9) (fun v9 H locs hq hz9 hfr9 hS => ?_)
                have f_tx : At G tx (.inl (G.2.1 0, n, .inl (sB bf))) H := va_at.kept f_tx (hfr9 _ (va_at.lt f_tx) (fun z9 => z9.elim ne_tx_x ne_tx_fs))
                obtain ⟨rfl, k_3, f_39, hk_3, hadd_3, f_x, f_fs⟩ := hq
                refine lv_iinc (v := (nI (i + 1))) (lv' := [(2, .int (nI (i + 1))), (3, .int (-7)), (0, .ref x), (1, .int dp)]) hx hb dX6_readTerm_65 hl (k := 1) rfl (nI_ad rfl rfl) (by decide) rfl (fun ls hl => ?_)
                refine lv_goto (tgt := 7) hx hb dX6_readTerm_68 (by decide) ?_
                refine lv_iload_n hx hb dX6_readTerm_7 rfl (lv_at hl 0 rfl) ?_
                refine lv_aload_n hx hb dX6_readTerm_8 rfl (lv_at hl 2 rfl) ?_
                refine gf_X6_9 E hG f_x rfl dX6_readTerm_9 ?_
                refine g_len (t0 := 0) (v := (nI n)) E hG f_tx rfl rfl dX6_readTerm_12 ?_
                refine lv_icmp_ge (tgt := 71) hx hb dX6_readTerm_13 (by decide) (fun c_13 => ?_) (fun c_13 => ?_)
                · have c_13 : n ≤ i + 1 := (nLE (x := (nI n)) (y := (nI (i + 1))) (a := n) (b := i + 1) rfl rfl (by omega) (by omega)).mp c_13
                  exact wr_void E hr hk hS (show 0 + 0 + 0 + 0 + 0 ≤ 0 by omega) (show 0 + 0 + 0 + 0 + 0 ≤ 0 by omega) (⟨rfl, _, _, _, _, _, _, _, _, hk_3, f_x, f_fs, by rw [← z4, lpF_e (Or.inr hb9) hfb]; exact hTK, fun s8 L8 z => by rw [← z4, lpF_e (Or.inr hb9) hfb] at z; cases z⟩) dX6_readTerm_71
                · have c_13 : ¬ n ≤ i + 1 := fun z9 => c_13 ((nLE (x := (nI n)) (y := (nI (i + 1))) (a := n) (b := i + 1) rfl rfl (by omega) (by omega)).mpr z9)
                  refine lv_aload_n hx hb dX6_readTerm_16 rfl (lv_at hl 2 rfl) ?_
                  refine gf_X6_39 E hG f_x rfl dX6_readTerm_17 ?_
                  refine lv_bipush (v := 42) hx hb dX6_readTerm_20 rfl ?_
                  refine lv_icmp_eq (tgt := 34) hx hb dX6_readTerm_22 (by decide) (fun c_22 => ?_) (fun c_22 => ?_)
                  · exact absurd c_22 (by decide)
                  · refine lv_aload_n hx hb dX6_readTerm_25 rfl (lv_at hl 2 rfl) ?_
                    refine gf_X6_39 E hG f_x rfl dX6_readTerm_26 ?_
                    refine lv_bipush (v := 47) hx hb dX6_readTerm_29 rfl ?_
                    refine lv_icmp_ne (tgt := 71) hx hb dX6_readTerm_31 (by decide) (fun c_31 => ?_) (fun c_31 => ?_)
                    · exact wr_void E hr hk hS (show 0 + 0 + 0 + 0 + 0 ≤ 0 by omega) (show 0 + 0 + 0 + 0 + 0 ≤ 0 by omega) (⟨rfl, _, _, _, _, _, _, _, _, hk_3, f_x, f_fs, by rw [← z4, lpF_e (Or.inr hb9) hfb]; exact hTK, fun s8 L8 z => by rw [← z4, lpF_e (Or.inr hb9) hfb] at z; cases z⟩) dX6_readTerm_71
                    · exact absurd c_31 (by decide)
              · rw [hfb] at hTK
                have g1 := hGd _ _ _ hsb.2 hfb
                obtain ⟨ek7, hF7⟩ := hL _ _ hfb
                subst ek7
                have hTK : TK bf n (.ok s7) er es ki st en vv := hTK
                have hl7 : (C ++ L ++ L7).length + 1 ≤ s7 := by rw [List.length_append]; have := g1.2.2.2.1; have := g1.1; omega
                have hs7 : s7 ≤ n := g1.2.1
                obtain ⟨her, hes, hs_g, hst, hki, hen, hvv⟩ := hTK
                subst her hes hst hki hen hvv
                refine lv_aload_n hx hb dX6_readTerm_60 rfl (lv_at hl 2 rfl) ?_
                refine lv_iload_n hx hb dX6_readTerm_61 rfl (lv_at hl 0 rfl) ?_
                refine Wr.callV (rest := []) (c_X6_addFeeStep l G hn9 ne_fs_x ((C ++ L ++ L7).length) (by omega) (-7)) yk_X6_addFeeStep E km_X6_192 dX6_readTerm_62 hG (hE.S hS hEA) ⟨f_x, f_fs⟩ (At.recv hG f_x rfl) rfl rfl hl.1 ⟨by show _ ≤ fr + 1; omega, by show _ ≤ lo + 21; omega⟩ ⟨(show 0 + 0 + 0 + 0 + 0 ≤ 0 by omega), (show 0 + 0 + 0 + 0 + 0 ≤ 0 by omega)⟩ (Nat.le_of_ble_eq_true rfl) hS (fun _ h9 => h9) (fun v9 H locs hq hz9 hfr9 hS => ?_)
                have f_tx : At G tx (.inl (G.2.1 0, n, .inl (sB bf))) H := va_at.kept f_tx (hfr9 _ (va_at.lt f_tx) (fun z9 => z9.elim ne_tx_x ne_tx_fs))
                obtain ⟨rfl, k_4, f_49, hk_4, hadd_4, f_x, f_fs⟩ := hq
                refine lv_iinc (v := (nI (i + 1))) (lv' := [(2, .int (nI (i + 1))), (3, .int (-7)), (0, .ref x), (1, .int dp)]) hx hb dX6_readTerm_65 hl (k := 1) rfl (nI_ad rfl rfl) (by decide) rfl (fun ls hl => ?_)
                refine lv_goto (tgt := 7) hx hb dX6_readTerm_68 (by decide) ?_
                obtain ⟨ek, eg⟩ := hadd_4 (by omega)
                subst ek eg
                have eL : C ++ L ++ L7 ++ [(-7)] = C ++ (L ++ L7 ++ [(-7)]) := by simp only [List.append_assoc]
                have hF8 := hF7.add (-7)
                rw [eL] at hF8
                have el : (C ++ L ++ L7).length + 1 = (C ++ (L ++ L7 ++ [(-7)])).length := by rw [← eL, List.length_append (as := C ++ L ++ L7), List.length_singleton]
                rw [el] at f_x
                exact ih (i + 1) s7 (L ++ L7 ++ [(-7)]) _ (by have := g1.1; omega) (by have := g1.1; omega) hs7 (by rw [← z4, lpF_2 hb9 (by decide) hfb]) (by rw [← el]; exact hl7) hF8 H locs f_x f_tx f_fs hS ls (lv_sub hl [0, 2, 3] rfl)
    exact loop (n + 1) 0 s7 L7 _ (by omega) (by omega) g0.2.1 (by rw [chF_o hfa]) (by rw [List.length_append]; have := g0.2.2.2.1; have := g0.1; omega) hF7 _ _ f_x f_tx f_fs hS ls (lv_sub hl [0, 1, 2] rfl)

set_option maxHeartbeats 4000000 in
set_option maxRecDepth 100000 in
/-- readSum -/
theorem c_X6_readSum (l : Launch) (G : CG) {x bk tx fs : Nat} {fg : Int32} {bf : Nat → Int32} (hB : ByO bf) (n : Nat) (hn9 : n ≤ 900) (hEx : EFA G x) (hEf : EFA G fs) (ne_tx_x : tx ≠ x) (ne_fs_x : fs ≠ x) (ne_tx_fs : tx ≠ fs) (s9 : Nat) (hs9 : s9 ≤ n) (C : List Int32) (hC : C.length ≤ s9) {f : Nat → Int32} (hF0 : FSt f C) (dp : Int32) {fac : Nat → Rr} {w : Nat} (hGd : Gd n (chF bf n fac 42 47 (-6) (-7)) w) {fr lo : Nat} (hfr : 6 ≤ fr) (hlo : 140 ≤ lo) (hF : ∀ (s9 : Nat) (C : List Int32) (f : Nat → Int32), s9 ≤ n → C.length ≤ s9 → FSt f C → Wr l yX6_readTerm cX6_readTerm 4 ((Option.none : Option FieldType)) fr lo 0 0 G [.ref x, .int dp] (fun H9 => At G x (.inr (6, rdF 0 (-1) bk tx (kd bf n s9) (nI s9) (nI (te bf n s9)) (va bf n s9) fg fs (nI C.length))) H9 ∧ At G tx (bA G n (sB bf)) H9 ∧ At G fs (iA G n f) H9) (fun q9 => q9 = x ∨ q9 = fs) (fun v9 H9 => v9 = none ∧ ∃ er es ki st en vv k8 f8, k8 ≤ n ∧ At G x (.inr (6, rdF er es bk tx ki st en vv fg fs (nI k8))) H9 ∧ At G fs (iA G n f8) H9 ∧ TK bf n (pl ((chF bf n fac 42 47 (-6) (-7)) s9)) er es ki st en vv ∧ ∀ s8 L8, ((chF bf n fac 42 47 (-6) (-7)) s9) = .ok (s8, L8) → k8 = (C ++ L8).length ∧ FSt f8 (C ++ L8))) : Wr l yX6_readSum cX6_readSum 4 ((Option.none : Option FieldType)) (fr + 1) (lo + 23) 0 0 G [.ref x, .int dp] (fun H9 => At G x (.inr (6, rdF 0 (-1) bk tx (kd bf n s9) (nI s9) (nI (te bf n s9)) (va bf n s9) fg fs (nI C.length))) H9 ∧ At G tx (bA G n (sB bf)) H9 ∧ At G fs (iA G n f) H9) (fun q9 => q9 = x ∨ q9 = fs) (fun v9 H9 => v9 = none ∧ ∃ er es ki st en vv k8 f8, k8 ≤ n ∧ At G x (.inr (6, rdF er es bk tx ki st en vv fg fs (nI k8))) H9 ∧ At G fs (iA G n f8) H9 ∧ TK bf n (pl (chF bf n (chF bf n fac 42 47 (-6) (-7)) 43 45 (-4) (-5) s9)) er es ki st en vv ∧ ∀ s8 L8, (chF bf n (chF bf n fac 42 47 (-6) (-7)) 43 45 (-4) (-5) s9) = .ok (s8, L8) → k8 = (C ++ L8).length ∧ FSt f8 (C ++ L8)) := by
  refine Wr.ofW (by decide) (Nat.le_of_ble_eq_true rfl) (fun p e s m below meth c ls E hG hE hP hr hk hin hl => ?_)
  have hS : va_S (fun q9 => q9 = x ∨ q9 = fs) s.heap s.heap [] := va_S.rf
  have hx := E.1
  have hb := E.2.1
  have hl : lv_has ls 4 [(0, .ref x), (1, .int dp)] := hl
  have f_x := hP.1
  have f_tx := hP.2.1
  have f_fs := hP.2.2
  have hEA : ∀ q9, q9 = x ∨ q9 = fs → EFA G q9 := fun q9 h9 => h9.elim (fun z9 => by rw [z9]; exact hEx) (fun z9 => by rw [z9]; exact hEf)
  have htb := te_b hB hs9
  have hCn : C.length ≤ n := by omega
  refine lv_aload_n hx hb dX6_readSum_0 rfl (lv_at hl 0 rfl) ?_
  refine lv_iload_n hx hb dX6_readSum_1 rfl (lv_at hl 1 rfl) ?_
  refine Wr.callV (rest := []) (hF s9 C _ hs9 hC hF0) yk_X6_readTerm E km_X6_189 dX6_readSum_2 hG (hE.S hS hEA) ⟨f_x, f_tx, f_fs⟩ (At.recv hG f_x rfl) rfl rfl hl.1 ⟨by show _ ≤ fr + 1; omega, by show _ ≤ lo + 23; omega⟩ ⟨(show 0 + 0 ≤ 0 by omega), (show 0 + 0 ≤ 0 by omega)⟩ (Nat.le_of_ble_eq_true rfl) hS (fun _ h9 => h9) (fun v9 H locs hq hz9 hfr9 hS => ?_)
  have f_tx : At G tx (.inl (G.2.1 0, n, .inl (sB bf))) H := va_at.kept f_tx (hfr9 _ (va_at.lt f_tx) (fun z9 => z9.elim ne_tx_x ne_tx_fs))
  obtain ⟨rfl, er, es, ki, st, en, vv, k7, f7, hk7, f_x, f_fs, hTK, hL⟩ := hq
  rcases hfa : (chF bf n fac 42 47 (-6) (-7)) s9 with e7 | ⟨s7, L7⟩
  · rw [hfa] at hTK
    obtain ⟨ec, eo⟩ := e7
    have hki := hTK.2.2.2.2
    subst hki
    refine lv_iconst (v := 0) hx hb dX6_readSum_5 rfl ?_
    refine lv_ci (y := nI 0) (ixq rfl) ?_
    refine lv_istore_n (lv' := [(2, .int (nI 0)), (0, .ref x), (1, .int dp)]) hx hb dX6_readSum_6 rfl hl (by decide) rfl (fun ls hl => ?_)
    refine lv_iload_n hx hb dX6_readSum_7 rfl (lv_at hl 0 rfl) ?_
    refine lv_aload_n hx hb dX6_readSum_8 rfl (lv_at hl 1 rfl) ?_
    refine gf_X6_9 E hG f_x rfl dX6_readSum_9 ?_
    refine g_len (t0 := 0) (v := (nI n)) E hG f_tx rfl rfl dX6_readSum_12 ?_
    refine lv_icmp_ge (tgt := 71) hx hb dX6_readSum_13 (by decide) (fun c_13 => ?_) (fun c_13 => ?_)
    · have c_13 : n ≤ 0 := (nLE (x := (nI n)) (y := (nI 0)) (a := n) (b := 0) rfl rfl (by omega) (by omega)).mp c_13
      exact wr_void E hr hk hS (show 0 + 0 ≤ 0 by omega) (show 0 + 0 ≤ 0 by omega) (⟨rfl, _, _, _, _, _, _, _, _, hk7, f_x, f_fs, by rw [chF_e hfa]; exact hTK, fun s8 L8 z => by rw [chF_e hfa] at z; cases z⟩) dX6_readSum_71
    · have c_13 : ¬ n ≤ 0 := fun z9 => c_13 ((nLE (x := (nI n)) (y := (nI 0)) (a := n) (b := 0) rfl rfl (by omega) (by omega)).mpr z9)
      refine lv_aload_n hx hb dX6_readSum_16 rfl (lv_at hl 1 rfl) ?_
      refine gf_X6_39 E hG f_x rfl dX6_readSum_17 ?_
      refine lv_bipush (v := 43) hx hb dX6_readSum_20 rfl ?_
      refine lv_icmp_eq (tgt := 34) hx hb dX6_readSum_22 (by decide) (fun c_22 => ?_) (fun c_22 => ?_)
      · exact absurd c_22 (by decide)
      · refine lv_aload_n hx hb dX6_readSum_25 rfl (lv_at hl 1 rfl) ?_
        refine gf_X6_39 E hG f_x rfl dX6_readSum_26 ?_
        refine lv_bipush (v := 45) hx hb dX6_readSum_29 rfl ?_
        refine lv_icmp_ne (tgt := 71) hx hb dX6_readSum_31 (by decide) (fun c_31 => ?_) (fun c_31 => ?_)
        · exact wr_void E hr hk hS (show 0 + 0 ≤ 0 by omega) (show 0 + 0 ≤ 0 by omega) (⟨rfl, _, _, _, _, _, _, _, _, hk7, f_x, f_fs, by rw [chF_e hfa]; exact hTK, fun s8 L8 z => by rw [chF_e hfa] at z; cases z⟩) dX6_readSum_71
        · exact absurd c_31 (by decide)
  · rw [hfa] at hTK
    have g0 := hGd _ _ _ hs9 hfa
    obtain ⟨ek7, hF7⟩ := hL _ _ hfa
    subst ek7
    have hTK : TK bf n (.ok s7) er es ki st en vv := hTK
    obtain ⟨her, hes, hs_g, hst, hki, hen, hvv⟩ := hTK
    subst her hes hst hki hen hvv
    refine lv_iconst (v := 0) hx hb dX6_readSum_5 rfl ?_
    refine lv_ci (y := nI 0) (ixq rfl) ?_
    refine lv_istore_n (lv' := [(2, .int (nI 0)), (0, .ref x), (1, .int dp)]) hx hb dX6_readSum_6 rfl hl (by decide) rfl (fun ls hl => ?_)
    have loop : ∀ (j i s1 : Nat) (L : List Int32) (f1 : Nat → Int32), n < s1 + j → i ≤ s1 → s1 ≤ n → lpF bf n (chF bf n fac 42 47 (-6) (-7)) 43 45 (-4) (-5) j s1 L = (chF bf n (chF bf n fac 42 47 (-6) (-7)) 43 45 (-4) (-5) s9) → (C ++ L).length ≤ s1 → FSt f1 (C ++ L) → ∀ (H : Heap) (locs : List Loc), At G x (.inr (6, [.int 0, .int (-1), .ref bk, .ref tx, .int (kd bf n s1), .int (nI s1), .int (nI (te bf n s1)), .int (va bf n s1), .int fg, .ref fs, .int (nI ((C ++ L).length))])) H → At G tx (.inl (G.2.1 0, n, .inl (sB bf))) H → At G fs (.inl (G.2.1 1, n, .inl f1)) H → va_S (fun q9 => q9 = x ∨ q9 = fs) s.heap H locs → ∀ ls : Array Slot, lv_has ls 4 [(2, .int (nI i)), (0, .ref x), (1, .int dp)] → W p l e { frames := (fr + 1), cells := 0, slots := 0, locals := (lo + 23) } s m ([.ref x, .int dp] : List Value).toArray below meth c H locs (0 + 0) (0 + 0) (WQ below ([.ref x, .int dp] : List Value).toArray s 0 0 (fun q9 => q9 = x ∨ q9 = fs) (fun v9 H9 => v9 = none ∧ ∃ er es ki st en vv k8 f8, k8 ≤ n ∧ At G x (.inr (6, rdF er es bk tx ki st en vv fg fs (nI k8))) H9 ∧ At G fs (iA G n f8) H9 ∧ TK bf n (pl (chF bf n (chF bf n fac 42 47 (-6) (-7)) 43 45 (-4) (-5) s9)) er es ki st en vv ∧ ∀ s8 L8, (chF bf n (chF bf n fac 42 47 (-6) (-7)) 43 45 (-4) (-5) s9) = .ok (s8, L8) → k8 = (C ++ L8).length ∧ FSt f8 (C ++ L8))) (F0 m 7 ls []) := by
      intro j
      induction j with
      | zero => intro i s1 L f1 z1 z2 z3; omega
      | succ j ih =>
        intro i s1 L f1 z1 z2 z3 z4 z5 z6 H locs f_x f_tx f_fs hS ls hl
        have htb1 := te_b hB z3
        have hCL : (C ++ L).length ≤ n := by omega
        refine lv_iload_n hx hb dX6_readSum_7 rfl (lv_at hl 0 rfl) ?_
        refine lv_aload_n hx hb dX6_readSum_8 rfl (lv_at hl 1 rfl) ?_
        refine gf_X6_9 E hG f_x rfl dX6_readSum_9 ?_
        refine g_len (t0 := 0) (v := (nI n)) E hG f_tx rfl rfl dX6_readSum_12 ?_
        refine lv_icmp_ge (tgt := 71) hx hb dX6_readSum_13 (by decide) (fun c_13 => ?_) (fun c_13 => ?_)
        · have c_13 : n ≤ i := (nLE (x := (nI n)) (y := (nI i)) (a := n) (b := i) rfl rfl (by omega) (by omega)).mp c_13
          exact wr_void E hr hk hS (show 0 + 0 ≤ 0 by omega) (show 0 + 0 ≤ 0 by omega) (⟨rfl, _, _, _, _, _, _, _, _, hCL, f_x, f_fs, by rw [← z4, lpF_n (fun z9 => by rw [bt_out (by omega)] at z9; exact z9.elim (by decide) (by decide))]; exact ⟨rfl, rfl, z3, rfl, rfl, rfl, rfl⟩, fun s8 L8 z => by rw [← z4, lpF_n (fun z9 => by rw [bt_out (by omega)] at z9; exact z9.elim (by decide) (by decide))] at z; cases z; exact ⟨rfl, z6⟩⟩) dX6_readSum_71
        · have c_13 : ¬ n ≤ i := fun z9 => c_13 ((nLE (x := (nI n)) (y := (nI i)) (a := n) (b := i) rfl rfl (by omega) (by omega)).mpr z9)
          refine lv_aload_n hx hb dX6_readSum_16 rfl (lv_at hl 1 rfl) ?_
          refine gf_X6_39 E hG f_x rfl dX6_readSum_17 ?_
          refine lv_bipush (v := 43) hx hb dX6_readSum_20 rfl ?_
          refine lv_icmp_eq (tgt := 34) hx hb dX6_readSum_22 (by decide) (fun c_22 => ?_) (fun c_22 => ?_)
          · have hb9 := (kd_sym (c := 43) hB (by decide)).mp c_22
            have hlt := bt_lt hb9 (by decide)
            have hte := te_sym c_22 (by decide)
            have hsb := sk_b (bf := bf) (n := n) (q := s1 + 1) (by omega)
            refine lv_aload_n hx hb dX6_readSum_34 rfl (lv_at hl 1 rfl) ?_
            refine gf_X6_39 E hG f_x rfl dX6_readSum_35 ?_
            refine lv_bipush (v := 43) hx hb dX6_readSum_38 rfl ?_
            refine lv_icmp_ne (tgt := 48) hx hb dX6_readSum_40 (by decide) (fun c_40 => ?_) (fun c_40 => ?_)
            · exact (by rw [c_22] at c_40; exact absurd c_40 (by decide))
            refine lv_bipush (v := (-4)) hx hb dX6_readSum_43 rfl ?_
            refine lv_goto (tgt := 50) hx hb dX6_readSum_45 (by decide) ?_
            refine lv_istore_n (lv' := [(3, .int (-4)), (2, .int (nI i)), (0, .ref x), (1, .int dp)]) hx hb dX6_readSum_50 rfl hl (by decide) rfl (fun ls hl => ?_)
            refine lv_aload_n hx hb dX6_readSum_51 rfl (lv_at hl 2 rfl) ?_
            refine Wr.callV (rest := []) (c_X6_nextToken l G hB n hn9 hEx ne_tx_x (te bf n s1) (by omega)) yk_X6_nextToken E km_X6_36 dX6_readSum_52 hG (hE.S hS hEA) ⟨f_x, f_tx⟩ (At.recv hG f_x rfl) rfl rfl hl.1 ⟨by show _ ≤ fr + 1; omega, by show _ ≤ lo + 23; omega⟩ ⟨(show 0 + 0 + 0 ≤ 0 by omega), (show 0 + 0 + 0 ≤ 0 by omega)⟩ (Nat.le_of_ble_eq_true rfl) hS (fun _ h9 => Or.inl h9) (fun v9 H locs hq hz9 hfr9 hS => ?_)
            have f_tx : At G tx (.inl (G.2.1 0, n, .inl (sB bf))) H := va_at.kept f_tx (hfr9 _ (va_at.lt f_tx) ne_tx_x)
            have f_fs : At G fs (.inl (G.2.1 1, n, .inl f1)) H := va_at.kept f_fs (hfr9 _ (va_at.lt f_fs) ne_fs_x)
            obtain ⟨rfl, er, es, ki, st, en, vv, f_x, hTK⟩ := hq
            rw [hte] at hTK
            obtain ⟨her, hes, hs_g, hst, hki, hen, hvv⟩ := hTK
            subst her hes hst hki hen hvv
            refine lv_aload_n hx hb dX6_readSum_55 rfl (lv_at hl 2 rfl) ?_
            refine lv_iload_n hx hb dX6_readSum_56 rfl (lv_at hl 3 rfl) ?_
            refine Wr.callV (rest := []) (hF (spc bf n (s1 + 1)) (C ++ L) _ hsb.2 (by omega) z6) yk_X6_readTerm E km_X6_189 dX6_readSum_57 hG (hE.S hS hEA) ⟨f_x, f_tx, f_fs⟩ (At.recv hG f_x rfl) rfl rfl hl.1 ⟨by show _ ≤ fr + 1; omega, by show _ ≤ lo + 23; omega⟩ ⟨(show 0 + 0 + 0 + 0 ≤ 0 by omega), (show 0 + 0 + 0 + 0 ≤ 0 by omega)⟩ (Nat.le_of_ble_eq_true rfl) hS (fun _ h9 => h9) (fun v9 H locs hq hz9 hfr9 hS => ?_)
            have f_tx : At G tx (.inl (G.2.1 0, n, .inl (sB bf))) H := va_at.kept f_tx (hfr9 _ (va_at.lt f_tx) (fun z9 => z9.elim ne_tx_x ne_tx_fs))
            obtain ⟨rfl, er, es, ki, st, en, vv, k7, f7, hk7, f_x, f_fs, hTK, hL⟩ := hq
            rcases hfb : (chF bf n fac 42 47 (-6) (-7)) (spc bf n (s1 + 1)) with e7 | ⟨s7, L7⟩
            · rw [hfb] at hTK
              obtain ⟨ec, eo⟩ := e7
              have hki := hTK.2.2.2.2
              subst hki
              refine lv_aload_n hx hb dX6_readSum_60 rfl (lv_at hl 2 rfl) ?_
              refine lv_iload_n hx hb dX6_readSum_61 rfl (lv_at hl 0 rfl) ?_
              refine Wr.callV (rest := []) (c_X6_addFeeStep l G hn9 ne_fs_x k7 hk7 (-4)) yk_X6_addFeeStep E km_X6_192 dX6_readSum_62 hG (hE.S hS hEA) ⟨f_x, f_fs⟩ (At.recv hG f_x rfl) rfl rfl hl.1 ⟨by show _ ≤ fr + 1; omega, by show _ ≤ lo + 23; omega⟩ ⟨(show 0 + 0 + 0 + 0 + 0 ≤ 0 by omega), (show 0 + 0 + 0 + 0 + 0 ≤ 0 by omega)⟩ (Nat.le_of_ble_eq_true rfl) hS (fun _ h9 => h9) (fun v9 H locs hq hz9 hfr9 hS => ?_)
              have f_tx : At G tx (.inl (G.2.1 0, n, .inl (sB bf))) H := va_at.kept f_tx (hfr9 _ (va_at.lt f_tx) (fun z9 => z9.elim ne_tx_x ne_tx_fs))
              obtain ⟨rfl, k_1, f_19, hk_1, hadd_1, f_x, f_fs⟩ := hq
              refine lv_iinc (v := (nI (i + 1))) (lv' := [(2, .int (nI (i + 1))), (3, .int (-4)), (0, .ref x), (1, .int dp)]) hx hb dX6_readSum_65 hl (k := 1) rfl (nI_ad rfl rfl) (by decide) rfl (fun ls hl => ?_)
              refine lv_goto (tgt := 7) hx hb dX6_readSum_68 (by decide) ?_
              refine lv_iload_n hx hb dX6_readSum_7 rfl (lv_at hl 0 rfl) ?_
              refine lv_aload_n hx hb dX6_readSum_8 rfl (lv_at hl 2 rfl) ?_
              refine gf_X6_9 E hG f_x rfl dX6_readSum_9 ?_
              refine g_len (t0 := 0) (v := (nI n)) E hG f_tx rfl rfl dX6_readSum_12 ?_
              refine lv_icmp_ge (tgt := 71) hx hb dX6_readSum_13 (by decide) (fun c_13 => ?_) (fun c_13 => ?_)
              · have c_13 : n ≤ i + 1 := (nLE (x := (nI n)) (y := (nI (i + 1))) (a := n) (b := i + 1) rfl rfl (by omega) (by omega)).mp c_13
                exact wr_void E hr hk hS (show 0 + 0 + 0 + 0 + 0 ≤ 0 by omega) (show 0 + 0 + 0 + 0 + 0 ≤ 0 by omega) (⟨rfl, _, _, _, _, _, _, _, _, hk_1, f_x, f_fs, by rw [← z4, lpF_e (Or.inl hb9) hfb]; exact hTK, fun s8 L8 z => by rw [← z4, lpF_e (Or.inl hb9) hfb] at z; cases z⟩) dX6_readSum_71
              · have c_13 : ¬ n ≤ i + 1 := fun z9 => c_13 ((nLE (x := (nI n)) (y := (nI (i + 1))) (a := n) (b := i + 1) rfl rfl (by omega) (by omega)).mpr z9)
                refine lv_aload_n hx hb dX6_readSum_16 rfl (lv_at hl 2 rfl) ?_
                refine gf_X6_39 E hG f_x rfl dX6_readSum_17 ?_
                refine lv_bipush (v := 43) hx hb dX6_readSum_20 rfl ?_
                refine lv_icmp_eq (tgt := 34) hx hb dX6_readSum_22 (by decide) (fun c_22 => ?_) (fun c_22 => ?_)
                · exact absurd c_22 (by decide)
                · refine lv_aload_n hx hb dX6_readSum_25 rfl (lv_at hl 2 rfl) ?_
                  refine gf_X6_39 E hG f_x rfl dX6_readSum_26 ?_
                  refine lv_bipush (v := 45) hx hb dX6_readSum_29 rfl ?_
                  refine lv_icmp_ne (tgt := 71) hx hb dX6_readSum_31 (by decide) (fun c_31 => ?_) (fun c_31 => ?_)
                  · exact wr_void E hr hk hS (show 0 + 0 + 0 + 0 + 0 ≤ 0 by omega) (show 0 + 0 + 0 + 0 + 0 ≤ 0 by omega) (⟨rfl, _, _, _, _, _, _, _, _, hk_1, f_x, f_fs, by rw [← z4, lpF_e (Or.inl hb9) hfb]; exact hTK, fun s8 L8 z => by rw [← z4, lpF_e (Or.inl hb9) hfb] at z; cases z⟩) dX6_readSum_71
                  · exact absurd c_31 (by decide)
            · rw [hfb] at hTK
              have g1 := hGd _ _ _ hsb.2 hfb
              obtain ⟨ek7, hF7⟩ := hL _ _ hfb
              subst ek7
              have hTK : TK bf n (.ok s7) er es ki st en vv := hTK
              have hl7 : (C ++ L ++ L7).length + 1 ≤ s7 := by rw [List.length_append]; have := g1.2.2.2.1; have := g1.1; omega
              have hs7 : s7 ≤ n := g1.2.1
              obtain ⟨her, hes, hs_g, hst, hki, hen, hvv⟩ := hTK
              subst her hes hst hki hen hvv
              refine lv_aload_n hx hb dX6_readSum_60 rfl (lv_at hl 2 rfl) ?_
              refine lv_iload_n hx hb dX6_readSum_61 rfl (lv_at hl 0 rfl) ?_
              refine Wr.callV (rest := []) (c_X6_addFeeStep l G hn9 ne_fs_x ((C ++ L ++ L7).length) (by omega) (-4)) yk_X6_addFeeStep E km_X6_192 dX6_readSum_62 hG (hE.S hS hEA) ⟨f_x, f_fs⟩ (At.recv hG f_x rfl) rfl rfl hl.1 ⟨by show _ ≤ fr + 1; omega, by show _ ≤ lo + 23; omega⟩ ⟨(show 0 + 0 + 0 + 0 + 0 ≤ 0 by omega), (show 0 + 0 + 0 + 0 + 0 ≤ 0 by omega)⟩ (Nat.le_of_ble_eq_true rfl) hS (fun _ h9 => h9) (fun v9 H locs hq hz9 hfr9 hS => ?_)
              have f_tx : At G tx (.inl (G.2.1 0, n, .inl (sB bf))) H := va_at.kept f_tx (hfr9 _ (va_at.lt f_tx) (fun z9 => z9.elim ne_tx_x ne_tx_fs))
              obtain ⟨rfl, k_2, f_29, hk_2, hadd_2, f_x, f_fs⟩ := hq
              refine lv_iinc (v := (nI (i + 1))) (lv' := [(2, .int (nI (i + 1))), (3, .int (-4)), (0, .ref x), (1, .int dp)]) hx hb dX6_readSum_65 hl (k := 1) rfl (nI_ad rfl rfl) (by decide) rfl (fun ls hl => ?_)
              refine lv_goto (tgt := 7) hx hb dX6_readSum_68 (by decide) ?_
              obtain ⟨ek, eg⟩ := hadd_2 (by omega)
              subst ek eg
              have eL : C ++ L ++ L7 ++ [(-4)] = C ++ (L ++ L7 ++ [(-4)]) := by simp only [List.append_assoc]
              have hF8 := hF7.add (-4)
              rw [eL] at hF8
              have el : (C ++ L ++ L7).length + 1 = (C ++ (L ++ L7 ++ [(-4)])).length := by rw [← eL, List.length_append (as := C ++ L ++ L7), List.length_singleton]
              rw [el] at f_x
              exact ih (i + 1) s7 (L ++ L7 ++ [(-4)]) _ (by have := g1.1; omega) (by have := g1.1; omega) hs7 (by rw [← z4, lpF_1 hb9 hfb]) (by rw [← el]; exact hl7) hF8 H locs f_x f_tx f_fs hS ls (lv_sub hl [0, 2, 3] rfl)
          · refine lv_aload_n hx hb dX6_readSum_25 rfl (lv_at hl 1 rfl) ?_
            refine gf_X6_39 E hG f_x rfl dX6_readSum_26 ?_
            refine lv_bipush (v := 45) hx hb dX6_readSum_29 rfl ?_
            refine lv_icmp_ne (tgt := 71) hx hb dX6_readSum_31 (by decide) (fun c_31 => ?_) (fun c_31 => ?_)
            · exact wr_void E hr hk hS (show 0 + 0 ≤ 0 by omega) (show 0 + 0 ≤ 0 by omega) (⟨rfl, _, _, _, _, _, _, _, _, hCL, f_x, f_fs, by rw [← z4, lpF_n (fun z9 => z9.elim (fun y9 => c_22 ((kd_sym hB (by decide)).mpr y9)) (fun y9 => c_31 ((kd_sym hB (by decide)).mpr y9)))]; exact ⟨rfl, rfl, z3, rfl, rfl, rfl, rfl⟩, fun s8 L8 z => by rw [← z4, lpF_n (fun z9 => z9.elim (fun y9 => c_22 ((kd_sym hB (by decide)).mpr y9)) (fun y9 => c_31 ((kd_sym hB (by decide)).mpr y9)))] at z; cases z; exact ⟨rfl, z6⟩⟩) dX6_readSum_71
            · have hb9 := (kd_sym (c := 45) hB (by decide)).mp c_31
              have hlt := bt_lt hb9 (by decide)
              have hte := te_sym c_31 (by decide)
              have hsb := sk_b (bf := bf) (n := n) (q := s1 + 1) (by omega)
              refine lv_aload_n hx hb dX6_readSum_34 rfl (lv_at hl 1 rfl) ?_
              refine gf_X6_39 E hG f_x rfl dX6_readSum_35 ?_
              refine lv_bipush (v := 43) hx hb dX6_readSum_38 rfl ?_
              refine lv_icmp_ne (tgt := 48) hx hb dX6_readSum_40 (by decide) (fun c_40 => ?_) (fun c_40 => ?_)
              rotate_left
              · exact (by rw [c_31] at c_40; exact absurd c_40 (by decide))
              refine lv_bipush (v := (-5)) hx hb dX6_readSum_48 rfl ?_
              refine lv_istore_n (lv' := [(3, .int (-5)), (2, .int (nI i)), (0, .ref x), (1, .int dp)]) hx hb dX6_readSum_50 rfl hl (by decide) rfl (fun ls hl => ?_)
              refine lv_aload_n hx hb dX6_readSum_51 rfl (lv_at hl 2 rfl) ?_
              refine Wr.callV (rest := []) (c_X6_nextToken l G hB n hn9 hEx ne_tx_x (te bf n s1) (by omega)) yk_X6_nextToken E km_X6_36 dX6_readSum_52 hG (hE.S hS hEA) ⟨f_x, f_tx⟩ (At.recv hG f_x rfl) rfl rfl hl.1 ⟨by show _ ≤ fr + 1; omega, by show _ ≤ lo + 23; omega⟩ ⟨(show 0 + 0 + 0 ≤ 0 by omega), (show 0 + 0 + 0 ≤ 0 by omega)⟩ (Nat.le_of_ble_eq_true rfl) hS (fun _ h9 => Or.inl h9) (fun v9 H locs hq hz9 hfr9 hS => ?_)
              have f_tx : At G tx (.inl (G.2.1 0, n, .inl (sB bf))) H := va_at.kept f_tx (hfr9 _ (va_at.lt f_tx) ne_tx_x)
              have f_fs : At G fs (.inl (G.2.1 1, n, .inl f1)) H := va_at.kept f_fs (hfr9 _ (va_at.lt f_fs) ne_fs_x)
              obtain ⟨rfl, er, es, ki, st, en, vv, f_x, hTK⟩ := hq
              rw [hte] at hTK
              obtain ⟨her, hes, hs_g, hst, hki, hen, hvv⟩ := hTK
              subst her hes hst hki hen hvv
              refine lv_aload_n hx hb dX6_readSum_55 rfl (lv_at hl 2 rfl) ?_
              refine lv_iload_n hx hb dX6_readSum_56 rfl (lv_at hl 3 rfl) ?_
              refine Wr.callV (rest := []) (hF (spc bf n (s1 + 1)) (C ++ L) _ hsb.2 (by omega) z6) yk_X6_readTerm E km_X6_189 dX6_readSum_57 hG (hE.S hS hEA) ⟨f_x, f_tx, f_fs⟩ (At.recv hG f_x rfl) rfl rfl hl.1 ⟨by show _ ≤ fr + 1; omega, by show _ ≤ lo + 23; omega⟩ ⟨(show 0 + 0 + 0 + 0 ≤ 0 by omega), (show 0 + 0 + 0 + 0 ≤ 0 by omega)⟩ (Nat.le_of_ble_eq_true rfl) hS (fun _ h9 => h9) (fun v9 H locs hq hz9 hfr9 hS => ?_)
              have f_tx : At G tx (.inl (G.2.1 0, n, .inl (sB bf))) H := va_at.kept f_tx (hfr9 _ (va_at.lt f_tx) (fun z9 => z9.elim ne_tx_x ne_tx_fs))
              obtain ⟨rfl, er, es, ki, st, en, vv, k7, f7, hk7, f_x, f_fs, hTK, hL⟩ := hq
              rcases hfb : (chF bf n fac 42 47 (-6) (-7)) (spc bf n (s1 + 1)) with e7 | ⟨s7, L7⟩
              · rw [hfb] at hTK
                obtain ⟨ec, eo⟩ := e7
                have hki := hTK.2.2.2.2
                subst hki
                refine lv_aload_n hx hb dX6_readSum_60 rfl (lv_at hl 2 rfl) ?_
                refine lv_iload_n hx hb dX6_readSum_61 rfl (lv_at hl 0 rfl) ?_
                refine Wr.callV (rest := []) (c_X6_addFeeStep l G hn9 ne_fs_x k7 hk7 (-5)) yk_X6_addFeeStep E km_X6_192 dX6_readSum_62 hG (hE.S hS hEA) ⟨f_x, f_fs⟩ (At.recv hG f_x rfl) rfl rfl hl.1 ⟨by show _ ≤ fr + 1; omega, by show _ ≤ lo + 23; omega⟩ ⟨(show 0 + 0 + 0 + 0 + 0 ≤ 0 by omega), (show 0 + 0 + 0 + 0 + 0 ≤ 0 by omega)⟩ (Nat.le_of_ble_eq_true rfl) hS (fun _ h9 => h9) (fun v9 H locs hq hz9 hfr9 hS => ?_)
                have f_tx : At G tx (.inl (G.2.1 0, n, .inl (sB bf))) H := va_at.kept f_tx (hfr9 _ (va_at.lt f_tx) (fun z9 => z9.elim ne_tx_x ne_tx_fs))
                obtain ⟨rfl, k_3, f_39, hk_3, hadd_3, f_x, f_fs⟩ := hq
                refine lv_iinc (v := (nI (i + 1))) (lv' := [(2, .int (nI (i + 1))), (3, .int (-5)), (0, .ref x), (1, .int dp)]) hx hb dX6_readSum_65 hl (k := 1) rfl (nI_ad rfl rfl) (by decide) rfl (fun ls hl => ?_)
                refine lv_goto (tgt := 7) hx hb dX6_readSum_68 (by decide) ?_
                refine lv_iload_n hx hb dX6_readSum_7 rfl (lv_at hl 0 rfl) ?_
                refine lv_aload_n hx hb dX6_readSum_8 rfl (lv_at hl 2 rfl) ?_
                refine gf_X6_9 E hG f_x rfl dX6_readSum_9 ?_
                refine g_len (t0 := 0) (v := (nI n)) E hG f_tx rfl rfl dX6_readSum_12 ?_
                refine lv_icmp_ge (tgt := 71) hx hb dX6_readSum_13 (by decide) (fun c_13 => ?_) (fun c_13 => ?_)
                · have c_13 : n ≤ i + 1 := (nLE (x := (nI n)) (y := (nI (i + 1))) (a := n) (b := i + 1) rfl rfl (by omega) (by omega)).mp c_13
                  exact wr_void E hr hk hS (show 0 + 0 + 0 + 0 + 0 ≤ 0 by omega) (show 0 + 0 + 0 + 0 + 0 ≤ 0 by omega) (⟨rfl, _, _, _, _, _, _, _, _, hk_3, f_x, f_fs, by rw [← z4, lpF_e (Or.inr hb9) hfb]; exact hTK, fun s8 L8 z => by rw [← z4, lpF_e (Or.inr hb9) hfb] at z; cases z⟩) dX6_readSum_71
                · have c_13 : ¬ n ≤ i + 1 := fun z9 => c_13 ((nLE (x := (nI n)) (y := (nI (i + 1))) (a := n) (b := i + 1) rfl rfl (by omega) (by omega)).mpr z9)
                  refine lv_aload_n hx hb dX6_readSum_16 rfl (lv_at hl 2 rfl) ?_
                  refine gf_X6_39 E hG f_x rfl dX6_readSum_17 ?_
                  refine lv_bipush (v := 43) hx hb dX6_readSum_20 rfl ?_
                  refine lv_icmp_eq (tgt := 34) hx hb dX6_readSum_22 (by decide) (fun c_22 => ?_) (fun c_22 => ?_)
                  · exact absurd c_22 (by decide)
                  · refine lv_aload_n hx hb dX6_readSum_25 rfl (lv_at hl 2 rfl) ?_
                    refine gf_X6_39 E hG f_x rfl dX6_readSum_26 ?_
                    refine lv_bipush (v := 45) hx hb dX6_readSum_29 rfl ?_
                    refine lv_icmp_ne (tgt := 71) hx hb dX6_readSum_31 (by decide) (fun c_31 => ?_) (fun c_31 => ?_)
                    · exact wr_void E hr hk hS (show 0 + 0 + 0 + 0 + 0 ≤ 0 by omega) (show 0 + 0 + 0 + 0 + 0 ≤ 0 by omega) (⟨rfl, _, _, _, _, _, _, _, _, hk_3, f_x, f_fs, by rw [← z4, lpF_e (Or.inr hb9) hfb]; exact hTK, fun s8 L8 z => by rw [← z4, lpF_e (Or.inr hb9) hfb] at z; cases z⟩) dX6_readSum_71
                    · exact absurd c_31 (by decide)
              · rw [hfb] at hTK
                have g1 := hGd _ _ _ hsb.2 hfb
                obtain ⟨ek7, hF7⟩ := hL _ _ hfb
                subst ek7
                have hTK : TK bf n (.ok s7) er es ki st en vv := hTK
                have hl7 : (C ++ L ++ L7).length + 1 ≤ s7 := by rw [List.length_append]; have := g1.2.2.2.1; have := g1.1; omega
                have hs7 : s7 ≤ n := g1.2.1
                obtain ⟨her, hes, hs_g, hst, hki, hen, hvv⟩ := hTK
                subst her hes hst hki hen hvv
                refine lv_aload_n hx hb dX6_readSum_60 rfl (lv_at hl 2 rfl) ?_
                refine lv_iload_n hx hb dX6_readSum_61 rfl (lv_at hl 0 rfl) ?_
                refine Wr.callV (rest := []) (c_X6_addFeeStep l G hn9 ne_fs_x ((C ++ L ++ L7).length) (by omega) (-5)) yk_X6_addFeeStep E km_X6_192 dX6_readSum_62 hG (hE.S hS hEA) ⟨f_x, f_fs⟩ (At.recv hG f_x rfl) rfl rfl hl.1 ⟨by show _ ≤ fr + 1; omega, by show _ ≤ lo + 23; omega⟩ ⟨(show 0 + 0 + 0 + 0 + 0 ≤ 0 by omega), (show 0 + 0 + 0 + 0 + 0 ≤ 0 by omega)⟩ (Nat.le_of_ble_eq_true rfl) hS (fun _ h9 => h9) (fun v9 H locs hq hz9 hfr9 hS => ?_)
                have f_tx : At G tx (.inl (G.2.1 0, n, .inl (sB bf))) H := va_at.kept f_tx (hfr9 _ (va_at.lt f_tx) (fun z9 => z9.elim ne_tx_x ne_tx_fs))
                obtain ⟨rfl, k_4, f_49, hk_4, hadd_4, f_x, f_fs⟩ := hq
                refine lv_iinc (v := (nI (i + 1))) (lv' := [(2, .int (nI (i + 1))), (3, .int (-5)), (0, .ref x), (1, .int dp)]) hx hb dX6_readSum_65 hl (k := 1) rfl (nI_ad rfl rfl) (by decide) rfl (fun ls hl => ?_)
                refine lv_goto (tgt := 7) hx hb dX6_readSum_68 (by decide) ?_
                obtain ⟨ek, eg⟩ := hadd_4 (by omega)
                subst ek eg
                have eL : C ++ L ++ L7 ++ [(-5)] = C ++ (L ++ L7 ++ [(-5)]) := by simp only [List.append_assoc]
                have hF8 := hF7.add (-5)
                rw [eL] at hF8
                have el : (C ++ L ++ L7).length + 1 = (C ++ (L ++ L7 ++ [(-5)])).length := by rw [← eL, List.length_append (as := C ++ L ++ L7), List.length_singleton]
                rw [el] at f_x
                exact ih (i + 1) s7 (L ++ L7 ++ [(-5)]) _ (by have := g1.1; omega) (by have := g1.1; omega) hs7 (by rw [← z4, lpF_2 hb9 (by decide) hfb]) (by rw [← el]; exact hl7) hF8 H locs f_x f_tx f_fs hS ls (lv_sub hl [0, 2, 3] rfl)
    exact loop (n + 1) 0 s7 L7 _ (by omega) (by omega) g0.2.1 (by rw [chF_o hfa]) (by rw [List.length_append]; have := g0.2.2.2.1; have := g0.1; omega) hF7 _ _ f_x f_tx f_fs hS ls (lv_sub hl [0, 1, 2] rfl)
theorem c_X6_fac0 (l : Launch) (G : CG) {x bk tx fs : Nat} {fg : Int32} {bf : Nat → Int32} (hB : ByO bf) (n : Nat) (hn9 : n ≤ 900) (hEx : EFA G x) (hEf : EFA G fs) (ne_tx_x : tx ≠ x) (ne_fs_x : fs ≠ x) (ne_tx_fs : tx ≠ fs) : ∀ (s9 : Nat) (C : List Int32) (f : Nat → Int32), s9 ≤ n → C.length ≤ s9 → FSt f C → Wr l yX6_readFactor cX6_readFactor 2 ((Option.none : Option FieldType)) 6 140 0 0 G [.ref x, .int (nI 4)] (fun H9 => At G x (.inr (6, rdF 0 (-1) bk tx (kd bf n s9) (nI s9) (nI (te bf n s9)) (va bf n s9) fg fs (nI C.length))) H9 ∧ At G tx (bA G n (sB bf)) H9 ∧ At G fs (iA G n f) H9) (fun q9 => q9 = x ∨ q9 = fs) (fun v9 H9 => v9 = none ∧ ∃ er es ki st en vv k8 f8, k8 ≤ n ∧ At G x (.inr (6, rdF er es bk tx ki st en vv fg fs (nI k8))) H9 ∧ At G fs (iA G n f8) H9 ∧ TK bf n (pl ((fcF bf n 0) s9)) er es ki st en vv ∧ ∀ s8 L8, ((fcF bf n 0) s9) = .ok (s8, L8) → k8 = (C ++ L8).length ∧ FSt f8 (C ++ L8)) := fun s9 C f h1 h2 h3 => Wr.weak (c_X6_readFactor_0 l G hB n hn9 hEx hEf ne_tx_x ne_fs_x ne_tx_fs s9 h1 C h2 h3) (fun _ h => h) (fun _ _ h => h) (by decide) (by decide)
theorem c_X6_tm0 (l : Launch) (G : CG) {x bk tx fs : Nat} {fg : Int32} {bf : Nat → Int32} (hB : ByO bf) (n : Nat) (hn9 : n ≤ 900) (hEx : EFA G x) (hEf : EFA G fs) (ne_tx_x : tx ≠ x) (ne_fs_x : fs ≠ x) (ne_tx_fs : tx ≠ fs) : ∀ (s9 : Nat) (C : List Int32) (f : Nat → Int32), s9 ≤ n → C.length ≤ s9 → FSt f C → Wr l yX6_readTerm cX6_readTerm 4 ((Option.none : Option FieldType)) 7 161 0 0 G [.ref x, .int (nI 4)] (fun H9 => At G x (.inr (6, rdF 0 (-1) bk tx (kd bf n s9) (nI s9) (nI (te bf n s9)) (va bf n s9) fg fs (nI C.length))) H9 ∧ At G tx (bA G n (sB bf)) H9 ∧ At G fs (iA G n f) H9) (fun q9 => q9 = x ∨ q9 = fs) (fun v9 H9 => v9 = none ∧ ∃ er es ki st en vv k8 f8, k8 ≤ n ∧ At G x (.inr (6, rdF er es bk tx ki st en vv fg fs (nI k8))) H9 ∧ At G fs (iA G n f8) H9 ∧ TK bf n (pl ((tmF bf n (fcF bf n 0)) s9)) er es ki st en vv ∧ ∀ s8 L8, ((tmF bf n (fcF bf n 0)) s9) = .ok (s8, L8) → k8 = (C ++ L8).length ∧ FSt f8 (C ++ L8)) := fun s9 C f h1 h2 h3 => c_X6_readTerm l G hB n hn9 hEx hEf ne_tx_x ne_fs_x ne_tx_fs s9 h1 C h2 h3 _ (Gd_fc hB 0) (by decide) (by decide) (c_X6_fac0 l G hB n hn9 hEx hEf ne_tx_x ne_fs_x ne_tx_fs)
theorem c_X6_sm0 (l : Launch) (G : CG) {x bk tx fs : Nat} {fg : Int32} {bf : Nat → Int32} (hB : ByO bf) (n : Nat) (hn9 : n ≤ 900) (hEx : EFA G x) (hEf : EFA G fs) (ne_tx_x : tx ≠ x) (ne_fs_x : fs ≠ x) (ne_tx_fs : tx ≠ fs) : ∀ (s9 : Nat) (C : List Int32) (f : Nat → Int32), s9 ≤ n → C.length ≤ s9 → FSt f C → Wr l yX6_readSum cX6_readSum 4 ((Option.none : Option FieldType)) 8 184 0 0 G [.ref x, .int (nI 4)] (fun H9 => At G x (.inr (6, rdF 0 (-1) bk tx (kd bf n s9) (nI s9) (nI (te bf n s9)) (va bf n s9) fg fs (nI C.length))) H9 ∧ At G tx (bA G n (sB bf)) H9 ∧ At G fs (iA G n f) H9) (fun q9 => q9 = x ∨ q9 = fs) (fun v9 H9 => v9 = none ∧ ∃ er es ki st en vv k8 f8, k8 ≤ n ∧ At G x (.inr (6, rdF er es bk tx ki st en vv fg fs (nI k8))) H9 ∧ At G fs (iA G n f8) H9 ∧ TK bf n (pl ((smF bf n (fcF bf n 0)) s9)) er es ki st en vv ∧ ∀ s8 L8, ((smF bf n (fcF bf n 0)) s9) = .ok (s8, L8) → k8 = (C ++ L8).length ∧ FSt f8 (C ++ L8)) := fun s9 C f h1 h2 h3 => c_X6_readSum l G hB n hn9 hEx hEf ne_tx_x ne_fs_x ne_tx_fs s9 h1 C h2 h3 _ (Gd_fc hB 0).tm (by decide) (by decide) (c_X6_tm0 l G hB n hn9 hEx hEf ne_tx_x ne_fs_x ne_tx_fs)
theorem c_X6_fac1 (l : Launch) (G : CG) {x bk tx fs : Nat} {fg : Int32} {bf : Nat → Int32} (hB : ByO bf) (n : Nat) (hn9 : n ≤ 900) (hEx : EFA G x) (hEf : EFA G fs) (ne_tx_x : tx ≠ x) (ne_fs_x : fs ≠ x) (ne_tx_fs : tx ≠ fs) : ∀ (s9 : Nat) (C : List Int32) (f : Nat → Int32), s9 ≤ n → C.length ≤ s9 → FSt f C → Wr l yX6_readFactor cX6_readFactor 2 ((Option.none : Option FieldType)) 10 228 0 0 G [.ref x, .int (nI 3)] (fun H9 => At G x (.inr (6, rdF 0 (-1) bk tx (kd bf n s9) (nI s9) (nI (te bf n s9)) (va bf n s9) fg fs (nI C.length))) H9 ∧ At G tx (bA G n (sB bf)) H9 ∧ At G fs (iA G n f) H9) (fun q9 => q9 = x ∨ q9 = fs) (fun v9 H9 => v9 = none ∧ ∃ er es ki st en vv k8 f8, k8 ≤ n ∧ At G x (.inr (6, rdF er es bk tx ki st en vv fg fs (nI k8))) H9 ∧ At G fs (iA G n f8) H9 ∧ TK bf n (pl ((fcF bf n 1) s9)) er es ki st en vv ∧ ∀ s8 L8, ((fcF bf n 1) s9) = .ok (s8, L8) → k8 = (C ++ L8).length ∧ FSt f8 (C ++ L8)) := fun s9 C f h1 h2 h3 => c_X6_readFactor_s l G hB n hn9 hEx hEf ne_tx_x ne_fs_x ne_tx_fs s9 h1 C h2 h3 0 (by decide) (by decide) (by decide) (c_X6_sm0 l G hB n hn9 hEx hEf ne_tx_x ne_fs_x ne_tx_fs)
theorem c_X6_tm1 (l : Launch) (G : CG) {x bk tx fs : Nat} {fg : Int32} {bf : Nat → Int32} (hB : ByO bf) (n : Nat) (hn9 : n ≤ 900) (hEx : EFA G x) (hEf : EFA G fs) (ne_tx_x : tx ≠ x) (ne_fs_x : fs ≠ x) (ne_tx_fs : tx ≠ fs) : ∀ (s9 : Nat) (C : List Int32) (f : Nat → Int32), s9 ≤ n → C.length ≤ s9 → FSt f C → Wr l yX6_readTerm cX6_readTerm 4 ((Option.none : Option FieldType)) 11 249 0 0 G [.ref x, .int (nI 3)] (fun H9 => At G x (.inr (6, rdF 0 (-1) bk tx (kd bf n s9) (nI s9) (nI (te bf n s9)) (va bf n s9) fg fs (nI C.length))) H9 ∧ At G tx (bA G n (sB bf)) H9 ∧ At G fs (iA G n f) H9) (fun q9 => q9 = x ∨ q9 = fs) (fun v9 H9 => v9 = none ∧ ∃ er es ki st en vv k8 f8, k8 ≤ n ∧ At G x (.inr (6, rdF er es bk tx ki st en vv fg fs (nI k8))) H9 ∧ At G fs (iA G n f8) H9 ∧ TK bf n (pl ((tmF bf n (fcF bf n 1)) s9)) er es ki st en vv ∧ ∀ s8 L8, ((tmF bf n (fcF bf n 1)) s9) = .ok (s8, L8) → k8 = (C ++ L8).length ∧ FSt f8 (C ++ L8)) := fun s9 C f h1 h2 h3 => c_X6_readTerm l G hB n hn9 hEx hEf ne_tx_x ne_fs_x ne_tx_fs s9 h1 C h2 h3 _ (Gd_fc hB 1) (by decide) (by decide) (c_X6_fac1 l G hB n hn9 hEx hEf ne_tx_x ne_fs_x ne_tx_fs)
theorem c_X6_sm1 (l : Launch) (G : CG) {x bk tx fs : Nat} {fg : Int32} {bf : Nat → Int32} (hB : ByO bf) (n : Nat) (hn9 : n ≤ 900) (hEx : EFA G x) (hEf : EFA G fs) (ne_tx_x : tx ≠ x) (ne_fs_x : fs ≠ x) (ne_tx_fs : tx ≠ fs) : ∀ (s9 : Nat) (C : List Int32) (f : Nat → Int32), s9 ≤ n → C.length ≤ s9 → FSt f C → Wr l yX6_readSum cX6_readSum 4 ((Option.none : Option FieldType)) 12 272 0 0 G [.ref x, .int (nI 3)] (fun H9 => At G x (.inr (6, rdF 0 (-1) bk tx (kd bf n s9) (nI s9) (nI (te bf n s9)) (va bf n s9) fg fs (nI C.length))) H9 ∧ At G tx (bA G n (sB bf)) H9 ∧ At G fs (iA G n f) H9) (fun q9 => q9 = x ∨ q9 = fs) (fun v9 H9 => v9 = none ∧ ∃ er es ki st en vv k8 f8, k8 ≤ n ∧ At G x (.inr (6, rdF er es bk tx ki st en vv fg fs (nI k8))) H9 ∧ At G fs (iA G n f8) H9 ∧ TK bf n (pl ((smF bf n (fcF bf n 1)) s9)) er es ki st en vv ∧ ∀ s8 L8, ((smF bf n (fcF bf n 1)) s9) = .ok (s8, L8) → k8 = (C ++ L8).length ∧ FSt f8 (C ++ L8)) := fun s9 C f h1 h2 h3 => c_X6_readSum l G hB n hn9 hEx hEf ne_tx_x ne_fs_x ne_tx_fs s9 h1 C h2 h3 _ (Gd_fc hB 1).tm (by decide) (by decide) (c_X6_tm1 l G hB n hn9 hEx hEf ne_tx_x ne_fs_x ne_tx_fs)
theorem c_X6_fac2 (l : Launch) (G : CG) {x bk tx fs : Nat} {fg : Int32} {bf : Nat → Int32} (hB : ByO bf) (n : Nat) (hn9 : n ≤ 900) (hEx : EFA G x) (hEf : EFA G fs) (ne_tx_x : tx ≠ x) (ne_fs_x : fs ≠ x) (ne_tx_fs : tx ≠ fs) : ∀ (s9 : Nat) (C : List Int32) (f : Nat → Int32), s9 ≤ n → C.length ≤ s9 → FSt f C → Wr l yX6_readFactor cX6_readFactor 2 ((Option.none : Option FieldType)) 14 316 0 0 G [.ref x, .int (nI 2)] (fun H9 => At G x (.inr (6, rdF 0 (-1) bk tx (kd bf n s9) (nI s9) (nI (te bf n s9)) (va bf n s9) fg fs (nI C.length))) H9 ∧ At G tx (bA G n (sB bf)) H9 ∧ At G fs (iA G n f) H9) (fun q9 => q9 = x ∨ q9 = fs) (fun v9 H9 => v9 = none ∧ ∃ er es ki st en vv k8 f8, k8 ≤ n ∧ At G x (.inr (6, rdF er es bk tx ki st en vv fg fs (nI k8))) H9 ∧ At G fs (iA G n f8) H9 ∧ TK bf n (pl ((fcF bf n 2) s9)) er es ki st en vv ∧ ∀ s8 L8, ((fcF bf n 2) s9) = .ok (s8, L8) → k8 = (C ++ L8).length ∧ FSt f8 (C ++ L8)) := fun s9 C f h1 h2 h3 => c_X6_readFactor_s l G hB n hn9 hEx hEf ne_tx_x ne_fs_x ne_tx_fs s9 h1 C h2 h3 1 (by decide) (by decide) (by decide) (c_X6_sm1 l G hB n hn9 hEx hEf ne_tx_x ne_fs_x ne_tx_fs)
theorem c_X6_tm2 (l : Launch) (G : CG) {x bk tx fs : Nat} {fg : Int32} {bf : Nat → Int32} (hB : ByO bf) (n : Nat) (hn9 : n ≤ 900) (hEx : EFA G x) (hEf : EFA G fs) (ne_tx_x : tx ≠ x) (ne_fs_x : fs ≠ x) (ne_tx_fs : tx ≠ fs) : ∀ (s9 : Nat) (C : List Int32) (f : Nat → Int32), s9 ≤ n → C.length ≤ s9 → FSt f C → Wr l yX6_readTerm cX6_readTerm 4 ((Option.none : Option FieldType)) 15 337 0 0 G [.ref x, .int (nI 2)] (fun H9 => At G x (.inr (6, rdF 0 (-1) bk tx (kd bf n s9) (nI s9) (nI (te bf n s9)) (va bf n s9) fg fs (nI C.length))) H9 ∧ At G tx (bA G n (sB bf)) H9 ∧ At G fs (iA G n f) H9) (fun q9 => q9 = x ∨ q9 = fs) (fun v9 H9 => v9 = none ∧ ∃ er es ki st en vv k8 f8, k8 ≤ n ∧ At G x (.inr (6, rdF er es bk tx ki st en vv fg fs (nI k8))) H9 ∧ At G fs (iA G n f8) H9 ∧ TK bf n (pl ((tmF bf n (fcF bf n 2)) s9)) er es ki st en vv ∧ ∀ s8 L8, ((tmF bf n (fcF bf n 2)) s9) = .ok (s8, L8) → k8 = (C ++ L8).length ∧ FSt f8 (C ++ L8)) := fun s9 C f h1 h2 h3 => c_X6_readTerm l G hB n hn9 hEx hEf ne_tx_x ne_fs_x ne_tx_fs s9 h1 C h2 h3 _ (Gd_fc hB 2) (by decide) (by decide) (c_X6_fac2 l G hB n hn9 hEx hEf ne_tx_x ne_fs_x ne_tx_fs)
theorem c_X6_sm2 (l : Launch) (G : CG) {x bk tx fs : Nat} {fg : Int32} {bf : Nat → Int32} (hB : ByO bf) (n : Nat) (hn9 : n ≤ 900) (hEx : EFA G x) (hEf : EFA G fs) (ne_tx_x : tx ≠ x) (ne_fs_x : fs ≠ x) (ne_tx_fs : tx ≠ fs) : ∀ (s9 : Nat) (C : List Int32) (f : Nat → Int32), s9 ≤ n → C.length ≤ s9 → FSt f C → Wr l yX6_readSum cX6_readSum 4 ((Option.none : Option FieldType)) 16 360 0 0 G [.ref x, .int (nI 2)] (fun H9 => At G x (.inr (6, rdF 0 (-1) bk tx (kd bf n s9) (nI s9) (nI (te bf n s9)) (va bf n s9) fg fs (nI C.length))) H9 ∧ At G tx (bA G n (sB bf)) H9 ∧ At G fs (iA G n f) H9) (fun q9 => q9 = x ∨ q9 = fs) (fun v9 H9 => v9 = none ∧ ∃ er es ki st en vv k8 f8, k8 ≤ n ∧ At G x (.inr (6, rdF er es bk tx ki st en vv fg fs (nI k8))) H9 ∧ At G fs (iA G n f8) H9 ∧ TK bf n (pl ((smF bf n (fcF bf n 2)) s9)) er es ki st en vv ∧ ∀ s8 L8, ((smF bf n (fcF bf n 2)) s9) = .ok (s8, L8) → k8 = (C ++ L8).length ∧ FSt f8 (C ++ L8)) := fun s9 C f h1 h2 h3 => c_X6_readSum l G hB n hn9 hEx hEf ne_tx_x ne_fs_x ne_tx_fs s9 h1 C h2 h3 _ (Gd_fc hB 2).tm (by decide) (by decide) (c_X6_tm2 l G hB n hn9 hEx hEf ne_tx_x ne_fs_x ne_tx_fs)
theorem c_X6_fac3 (l : Launch) (G : CG) {x bk tx fs : Nat} {fg : Int32} {bf : Nat → Int32} (hB : ByO bf) (n : Nat) (hn9 : n ≤ 900) (hEx : EFA G x) (hEf : EFA G fs) (ne_tx_x : tx ≠ x) (ne_fs_x : fs ≠ x) (ne_tx_fs : tx ≠ fs) : ∀ (s9 : Nat) (C : List Int32) (f : Nat → Int32), s9 ≤ n → C.length ≤ s9 → FSt f C → Wr l yX6_readFactor cX6_readFactor 2 ((Option.none : Option FieldType)) 18 404 0 0 G [.ref x, .int (nI 1)] (fun H9 => At G x (.inr (6, rdF 0 (-1) bk tx (kd bf n s9) (nI s9) (nI (te bf n s9)) (va bf n s9) fg fs (nI C.length))) H9 ∧ At G tx (bA G n (sB bf)) H9 ∧ At G fs (iA G n f) H9) (fun q9 => q9 = x ∨ q9 = fs) (fun v9 H9 => v9 = none ∧ ∃ er es ki st en vv k8 f8, k8 ≤ n ∧ At G x (.inr (6, rdF er es bk tx ki st en vv fg fs (nI k8))) H9 ∧ At G fs (iA G n f8) H9 ∧ TK bf n (pl ((fcF bf n 3) s9)) er es ki st en vv ∧ ∀ s8 L8, ((fcF bf n 3) s9) = .ok (s8, L8) → k8 = (C ++ L8).length ∧ FSt f8 (C ++ L8)) := fun s9 C f h1 h2 h3 => c_X6_readFactor_s l G hB n hn9 hEx hEf ne_tx_x ne_fs_x ne_tx_fs s9 h1 C h2 h3 2 (by decide) (by decide) (by decide) (c_X6_sm2 l G hB n hn9 hEx hEf ne_tx_x ne_fs_x ne_tx_fs)
theorem c_X6_tm3 (l : Launch) (G : CG) {x bk tx fs : Nat} {fg : Int32} {bf : Nat → Int32} (hB : ByO bf) (n : Nat) (hn9 : n ≤ 900) (hEx : EFA G x) (hEf : EFA G fs) (ne_tx_x : tx ≠ x) (ne_fs_x : fs ≠ x) (ne_tx_fs : tx ≠ fs) : ∀ (s9 : Nat) (C : List Int32) (f : Nat → Int32), s9 ≤ n → C.length ≤ s9 → FSt f C → Wr l yX6_readTerm cX6_readTerm 4 ((Option.none : Option FieldType)) 19 425 0 0 G [.ref x, .int (nI 1)] (fun H9 => At G x (.inr (6, rdF 0 (-1) bk tx (kd bf n s9) (nI s9) (nI (te bf n s9)) (va bf n s9) fg fs (nI C.length))) H9 ∧ At G tx (bA G n (sB bf)) H9 ∧ At G fs (iA G n f) H9) (fun q9 => q9 = x ∨ q9 = fs) (fun v9 H9 => v9 = none ∧ ∃ er es ki st en vv k8 f8, k8 ≤ n ∧ At G x (.inr (6, rdF er es bk tx ki st en vv fg fs (nI k8))) H9 ∧ At G fs (iA G n f8) H9 ∧ TK bf n (pl ((tmF bf n (fcF bf n 3)) s9)) er es ki st en vv ∧ ∀ s8 L8, ((tmF bf n (fcF bf n 3)) s9) = .ok (s8, L8) → k8 = (C ++ L8).length ∧ FSt f8 (C ++ L8)) := fun s9 C f h1 h2 h3 => c_X6_readTerm l G hB n hn9 hEx hEf ne_tx_x ne_fs_x ne_tx_fs s9 h1 C h2 h3 _ (Gd_fc hB 3) (by decide) (by decide) (c_X6_fac3 l G hB n hn9 hEx hEf ne_tx_x ne_fs_x ne_tx_fs)
theorem c_X6_sm3 (l : Launch) (G : CG) {x bk tx fs : Nat} {fg : Int32} {bf : Nat → Int32} (hB : ByO bf) (n : Nat) (hn9 : n ≤ 900) (hEx : EFA G x) (hEf : EFA G fs) (ne_tx_x : tx ≠ x) (ne_fs_x : fs ≠ x) (ne_tx_fs : tx ≠ fs) : ∀ (s9 : Nat) (C : List Int32) (f : Nat → Int32), s9 ≤ n → C.length ≤ s9 → FSt f C → Wr l yX6_readSum cX6_readSum 4 ((Option.none : Option FieldType)) 20 448 0 0 G [.ref x, .int (nI 1)] (fun H9 => At G x (.inr (6, rdF 0 (-1) bk tx (kd bf n s9) (nI s9) (nI (te bf n s9)) (va bf n s9) fg fs (nI C.length))) H9 ∧ At G tx (bA G n (sB bf)) H9 ∧ At G fs (iA G n f) H9) (fun q9 => q9 = x ∨ q9 = fs) (fun v9 H9 => v9 = none ∧ ∃ er es ki st en vv k8 f8, k8 ≤ n ∧ At G x (.inr (6, rdF er es bk tx ki st en vv fg fs (nI k8))) H9 ∧ At G fs (iA G n f8) H9 ∧ TK bf n (pl ((smF bf n (fcF bf n 3)) s9)) er es ki st en vv ∧ ∀ s8 L8, ((smF bf n (fcF bf n 3)) s9) = .ok (s8, L8) → k8 = (C ++ L8).length ∧ FSt f8 (C ++ L8)) := fun s9 C f h1 h2 h3 => c_X6_readSum l G hB n hn9 hEx hEf ne_tx_x ne_fs_x ne_tx_fs s9 h1 C h2 h3 _ (Gd_fc hB 3).tm (by decide) (by decide) (c_X6_tm3 l G hB n hn9 hEx hEf ne_tx_x ne_fs_x ne_tx_fs)
theorem c_X6_fac4 (l : Launch) (G : CG) {x bk tx fs : Nat} {fg : Int32} {bf : Nat → Int32} (hB : ByO bf) (n : Nat) (hn9 : n ≤ 900) (hEx : EFA G x) (hEf : EFA G fs) (ne_tx_x : tx ≠ x) (ne_fs_x : fs ≠ x) (ne_tx_fs : tx ≠ fs) : ∀ (s9 : Nat) (C : List Int32) (f : Nat → Int32), s9 ≤ n → C.length ≤ s9 → FSt f C → Wr l yX6_readFactor cX6_readFactor 2 ((Option.none : Option FieldType)) 22 492 0 0 G [.ref x, .int (nI 0)] (fun H9 => At G x (.inr (6, rdF 0 (-1) bk tx (kd bf n s9) (nI s9) (nI (te bf n s9)) (va bf n s9) fg fs (nI C.length))) H9 ∧ At G tx (bA G n (sB bf)) H9 ∧ At G fs (iA G n f) H9) (fun q9 => q9 = x ∨ q9 = fs) (fun v9 H9 => v9 = none ∧ ∃ er es ki st en vv k8 f8, k8 ≤ n ∧ At G x (.inr (6, rdF er es bk tx ki st en vv fg fs (nI k8))) H9 ∧ At G fs (iA G n f8) H9 ∧ TK bf n (pl ((fcF bf n 4) s9)) er es ki st en vv ∧ ∀ s8 L8, ((fcF bf n 4) s9) = .ok (s8, L8) → k8 = (C ++ L8).length ∧ FSt f8 (C ++ L8)) := fun s9 C f h1 h2 h3 => c_X6_readFactor_s l G hB n hn9 hEx hEf ne_tx_x ne_fs_x ne_tx_fs s9 h1 C h2 h3 3 (by decide) (by decide) (by decide) (c_X6_sm3 l G hB n hn9 hEx hEf ne_tx_x ne_fs_x ne_tx_fs)
theorem c_X6_tm4 (l : Launch) (G : CG) {x bk tx fs : Nat} {fg : Int32} {bf : Nat → Int32} (hB : ByO bf) (n : Nat) (hn9 : n ≤ 900) (hEx : EFA G x) (hEf : EFA G fs) (ne_tx_x : tx ≠ x) (ne_fs_x : fs ≠ x) (ne_tx_fs : tx ≠ fs) : ∀ (s9 : Nat) (C : List Int32) (f : Nat → Int32), s9 ≤ n → C.length ≤ s9 → FSt f C → Wr l yX6_readTerm cX6_readTerm 4 ((Option.none : Option FieldType)) 23 513 0 0 G [.ref x, .int (nI 0)] (fun H9 => At G x (.inr (6, rdF 0 (-1) bk tx (kd bf n s9) (nI s9) (nI (te bf n s9)) (va bf n s9) fg fs (nI C.length))) H9 ∧ At G tx (bA G n (sB bf)) H9 ∧ At G fs (iA G n f) H9) (fun q9 => q9 = x ∨ q9 = fs) (fun v9 H9 => v9 = none ∧ ∃ er es ki st en vv k8 f8, k8 ≤ n ∧ At G x (.inr (6, rdF er es bk tx ki st en vv fg fs (nI k8))) H9 ∧ At G fs (iA G n f8) H9 ∧ TK bf n (pl ((tmF bf n (fcF bf n 4)) s9)) er es ki st en vv ∧ ∀ s8 L8, ((tmF bf n (fcF bf n 4)) s9) = .ok (s8, L8) → k8 = (C ++ L8).length ∧ FSt f8 (C ++ L8)) := fun s9 C f h1 h2 h3 => c_X6_readTerm l G hB n hn9 hEx hEf ne_tx_x ne_fs_x ne_tx_fs s9 h1 C h2 h3 _ (Gd_fc hB 4) (by decide) (by decide) (c_X6_fac4 l G hB n hn9 hEx hEf ne_tx_x ne_fs_x ne_tx_fs)
theorem c_X6_sm4 (l : Launch) (G : CG) {x bk tx fs : Nat} {fg : Int32} {bf : Nat → Int32} (hB : ByO bf) (n : Nat) (hn9 : n ≤ 900) (hEx : EFA G x) (hEf : EFA G fs) (ne_tx_x : tx ≠ x) (ne_fs_x : fs ≠ x) (ne_tx_fs : tx ≠ fs) : ∀ (s9 : Nat) (C : List Int32) (f : Nat → Int32), s9 ≤ n → C.length ≤ s9 → FSt f C → Wr l yX6_readSum cX6_readSum 4 ((Option.none : Option FieldType)) 24 536 0 0 G [.ref x, .int (nI 0)] (fun H9 => At G x (.inr (6, rdF 0 (-1) bk tx (kd bf n s9) (nI s9) (nI (te bf n s9)) (va bf n s9) fg fs (nI C.length))) H9 ∧ At G tx (bA G n (sB bf)) H9 ∧ At G fs (iA G n f) H9) (fun q9 => q9 = x ∨ q9 = fs) (fun v9 H9 => v9 = none ∧ ∃ er es ki st en vv k8 f8, k8 ≤ n ∧ At G x (.inr (6, rdF er es bk tx ki st en vv fg fs (nI k8))) H9 ∧ At G fs (iA G n f8) H9 ∧ TK bf n (pl ((smF bf n (fcF bf n 4)) s9)) er es ki st en vv ∧ ∀ s8 L8, ((smF bf n (fcF bf n 4)) s9) = .ok (s8, L8) → k8 = (C ++ L8).length ∧ FSt f8 (C ++ L8)) := fun s9 C f h1 h2 h3 => c_X6_readSum l G hB n hn9 hEx hEf ne_tx_x ne_fs_x ne_tx_fs s9 h1 C h2 h3 _ (Gd_fc hB 4).tm (by decide) (by decide) (c_X6_tm4 l G hB n hn9 hEx hEf ne_tx_x ne_fs_x ne_tx_fs)
