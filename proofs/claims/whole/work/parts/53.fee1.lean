/-! READING: the class's reader of fee rules -/
set_option maxHeartbeats 4000000 in
set_option maxRecDepth 100000 in
/-- readParentheses, too deep -/
theorem c_X6_readParentheses_0 (l : Launch) (G : CG) {x bk tx fs : Nat} {fg : Int32} {bf : Nat → Int32} (hB : ByO bf) (n : Nat) (hn9 : n ≤ 900) (hEx : EFA G x) (hEf : EFA G fs) (ne_tx_x : tx ≠ x) (ne_fs_x : fs ≠ x) (ne_tx_fs : tx ≠ fs) (s9 : Nat) (hs9 : s9 ≤ n) (C : List Int32) (hC : C.length ≤ s9) {f : Nat → Int32} (hF0 : FSt f C) (hp9 : kd bf n s9 = 40) : Wr l yX6_readParentheses cX6_readParentheses 2 ((Option.none : Option FieldType)) 1 21 0 0 G [.ref x, .int 4] (fun H9 => At G x (.inr (6, rdF 0 (-1) bk tx (kd bf n s9) (nI s9) (nI (te bf n s9)) (va bf n s9) fg fs (nI C.length))) H9 ∧ At G tx (bA G n (sB bf)) H9 ∧ At G fs (iA G n f) H9) (fun q9 => q9 = x ∨ q9 = fs) (fun v9 H9 => v9 = none ∧ ∃ er es ki st en vv k8 f8, k8 ≤ n ∧ At G x (.inr (6, rdF er es bk tx ki st en vv fg fs (nI k8))) H9 ∧ At G fs (iA G n f8) H9 ∧ TK bf n (pl (fcF bf n 0 s9)) er es ki st en vv ∧ ∀ s8 L8, (fcF bf n 0 s9) = .ok (s8, L8) → k8 = (C ++ L8).length ∧ FSt f8 (C ++ L8)) := by
  refine Wr.ofW (by decide) (Nat.le_of_ble_eq_true rfl) (fun p e s m below meth c ls E hG hE hP hr hk hin hl => ?_)
  have hS : va_S (fun q9 => q9 = x ∨ q9 = fs) s.heap s.heap [] := va_S.rf
  have hx := E.1
  have hb := E.2.1
  have hl : lv_has ls 2 [(0, .ref x), (1, .int 4)] := hl
  have f_x := hP.1
  have f_tx := hP.2.1
  have f_fs := hP.2.2
  have hEA : ∀ q9, q9 = x ∨ q9 = fs → EFA G q9 := fun q9 h9 => h9.elim (fun z9 => by rw [z9]; exact hEx) (fun z9 => by rw [z9]; exact hEf)
  have htb := te_b hB hs9
  have hCn : C.length ≤ n := by omega
  have hbp := (kd_sym (c := 40) hB (by decide)).mp hp9
  refine lv_iload_n hx hb dX6_readParentheses_0 rfl (lv_at hl 1 rfl) ?_
  refine lv_iconst (v := 4) hx hb dX6_readParentheses_1 rfl ?_
  refine lv_icmp_lt (tgt := 12) hx hb dX6_readParentheses_2 (by decide) (fun c_2 => ?_) (fun c_2 => ?_)
  · exact absurd c_2 (by decide)
  · refine lv_aload_n hx hb dX6_readParentheses_5 rfl (lv_at hl 0 rfl) ?_
    refine lv_bipush (v := (-5)) hx hb dX6_readParentheses_6 rfl ?_
    refine Wr.callV (rest := []) (c_X6_fail l G hEx (-5) rfl) yk_X6_fail E km_X6_65 dX6_readParentheses_8 hG (hE.S hS hEA) f_x (At.recv hG f_x rfl) rfl rfl hl.1 ⟨Nat.le_of_ble_eq_true rfl, Nat.le_of_ble_eq_true rfl⟩ ⟨(show 0 + 0 ≤ 0 by omega), (show 0 + 0 ≤ 0 by omega)⟩ (Nat.le_of_ble_eq_true rfl) hS (fun _ h9 => Or.inl h9) (fun v9 H locs hq hz9 hfr9 hS => ?_)
    have f_tx : At G tx (.inl (G.2.1 0, n, .inl (sB bf))) H := va_at.kept f_tx (hfr9 _ (va_at.lt f_tx) ne_tx_x)
    have f_fs : At G fs (.inl (G.2.1 1, n, .inl f)) H := va_at.kept f_fs (hfr9 _ (va_at.lt f_fs) ne_fs_x)
    obtain ⟨rfl, f_x⟩ := hq
    exact wr_void E hr hk hS (show 0 + 0 ≤ 0 by omega) (show 0 + 0 ≤ 0 by omega) (⟨rfl, _, _, _, _, _, _, _, _, hCn, f_x, f_fs, by rw [fcF_0 hbp]; exact ⟨rfl, by decide, rfl, hs9, rfl⟩, fun s8 L8 z => by rw [fcF_0 hbp] at z; cases z⟩) dX6_readParentheses_11

set_option maxHeartbeats 4000000 in
set_option maxRecDepth 100000 in
/-- readParentheses -/
theorem c_X6_readParentheses_s (l : Launch) (G : CG) {x bk tx fs : Nat} {fg : Int32} {bf : Nat → Int32} (hB : ByO bf) (n : Nat) (hn9 : n ≤ 900) (hEx : EFA G x) (hEf : EFA G fs) (ne_tx_x : tx ≠ x) (ne_fs_x : fs ≠ x) (ne_tx_fs : tx ≠ fs) (s9 : Nat) (hs9 : s9 ≤ n) (C : List Int32) (hC : C.length ≤ s9) {f : Nat → Int32} (hF0 : FSt f C) (hp9 : kd bf n s9 = 40) (k : Nat) (hk9 : k < 4) {fr lo : Nat} (hfr : 6 ≤ fr) (hlo : 140 ≤ lo) (hF : ∀ (s9 : Nat) (C : List Int32) (f : Nat → Int32), s9 ≤ n → C.length ≤ s9 → FSt f C → Wr l yX6_readSum cX6_readSum 4 ((Option.none : Option FieldType)) fr lo 0 0 G [.ref x, .int (nI (3 - k + 1))] (fun H9 => At G x (.inr (6, rdF 0 (-1) bk tx (kd bf n s9) (nI s9) (nI (te bf n s9)) (va bf n s9) fg fs (nI C.length))) H9 ∧ At G tx (bA G n (sB bf)) H9 ∧ At G fs (iA G n f) H9) (fun q9 => q9 = x ∨ q9 = fs) (fun v9 H9 => v9 = none ∧ ∃ er es ki st en vv k8 f8, k8 ≤ n ∧ At G x (.inr (6, rdF er es bk tx ki st en vv fg fs (nI k8))) H9 ∧ At G fs (iA G n f8) H9 ∧ TK bf n (pl (smF bf n (fcF bf n k) s9)) er es ki st en vv ∧ ∀ s8 L8, (smF bf n (fcF bf n k) s9) = .ok (s8, L8) → k8 = (C ++ L8).length ∧ FSt f8 (C ++ L8))) : Wr l yX6_readParentheses cX6_readParentheses 2 ((Option.none : Option FieldType)) (fr + 1) (lo + 23) 0 0 G [.ref x, .int (nI (3 - k))] (fun H9 => At G x (.inr (6, rdF 0 (-1) bk tx (kd bf n s9) (nI s9) (nI (te bf n s9)) (va bf n s9) fg fs (nI C.length))) H9 ∧ At G tx (bA G n (sB bf)) H9 ∧ At G fs (iA G n f) H9) (fun q9 => q9 = x ∨ q9 = fs) (fun v9 H9 => v9 = none ∧ ∃ er es ki st en vv k8 f8, k8 ≤ n ∧ At G x (.inr (6, rdF er es bk tx ki st en vv fg fs (nI k8))) H9 ∧ At G fs (iA G n f8) H9 ∧ TK bf n (pl (fcF bf n (k + 1) s9)) er es ki st en vv ∧ ∀ s8 L8, (fcF bf n (k + 1) s9) = .ok (s8, L8) → k8 = (C ++ L8).length ∧ FSt f8 (C ++ L8)) := by
  refine Wr.ofW (by decide) (Nat.le_of_ble_eq_true rfl) (fun p e s m below meth c ls E hG hE hP hr hk hin hl => ?_)
  have hS : va_S (fun q9 => q9 = x ∨ q9 = fs) s.heap s.heap [] := va_S.rf
  have hx := E.1
  have hb := E.2.1
  have hl : lv_has ls 2 [(0, .ref x), (1, .int (nI (3 - k)))] := hl
  have f_x := hP.1
  have f_tx := hP.2.1
  have f_fs := hP.2.2
  have hEA : ∀ q9, q9 = x ∨ q9 = fs → EFA G q9 := fun q9 h9 => h9.elim (fun z9 => by rw [z9]; exact hEx) (fun z9 => by rw [z9]; exact hEf)
  have htb := te_b hB hs9
  have hCn : C.length ≤ n := by omega
  have hbp := (kd_sym (c := 40) hB (by decide)).mp hp9
  have hte := te_sym hp9 (by decide)
  have hlt := bt_lt hbp (by decide)
  have hsb := sk_b (bf := bf) (n := n) (q := s9 + 1) (by omega)
  refine lv_iload_n hx hb dX6_readParentheses_0 rfl (lv_at hl 1 rfl) ?_
  refine lv_iconst (v := 4) hx hb dX6_readParentheses_1 rfl ?_
  refine lv_icmp_lt (tgt := 12) hx hb dX6_readParentheses_2 (by decide) (fun c_2 => ?_) (fun c_2 => ?_)
  rotate_left
  · exact absurd ((nLT (x := nI (3 - k)) (y := 4) (a := 3 - k) (b := 4) rfl rfl (by omega) (by omega)).mpr (by omega)) c_2
  refine lv_aload_n hx hb dX6_readParentheses_12 rfl (lv_at hl 0 rfl) ?_
  refine Wr.callV (rest := []) (c_X6_nextToken l G hB n hn9 hEx ne_tx_x (te bf n s9) (by omega)) yk_X6_nextToken E km_X6_36 dX6_readParentheses_13 hG (hE.S hS hEA) ⟨f_x, f_tx⟩ (At.recv hG f_x rfl) rfl rfl hl.1 ⟨by show _ ≤ fr + 1; omega, by show _ ≤ lo + 23; omega⟩ ⟨(show 0 + 0 ≤ 0 by omega), (show 0 + 0 ≤ 0 by omega)⟩ (Nat.le_of_ble_eq_true rfl) hS (fun _ h9 => Or.inl h9) (fun v9 H locs hq hz9 hfr9 hS => ?_)
  have f_tx : At G tx (.inl (G.2.1 0, n, .inl (sB bf))) H := va_at.kept f_tx (hfr9 _ (va_at.lt f_tx) ne_tx_x)
  have f_fs : At G fs (.inl (G.2.1 1, n, .inl f)) H := va_at.kept f_fs (hfr9 _ (va_at.lt f_fs) ne_fs_x)
  obtain ⟨rfl, er, es, ki, st, en, vv, f_x, hTK⟩ := hq
  rw [hte] at hTK
  obtain ⟨her, hes, hs_g, hst, hki, hen, hvv⟩ := hTK
  subst her hes hst hki hen hvv
  refine lv_aload_n hx hb dX6_readParentheses_16 rfl (lv_at hl 0 rfl) ?_
  refine lv_iload_n hx hb dX6_readParentheses_17 rfl (lv_at hl 1 rfl) ?_
  refine lv_iconst (v := 1) hx hb dX6_readParentheses_18 rfl ?_
  refine lv_iadd hx hb dX6_readParentheses_19 ?_
  refine lv_ci (y := nI (3 - k + 1)) (nI_1 _) ?_
  refine Wr.callV (rest := []) (hF (spc bf n (s9 + 1)) C _ hsb.2 (by omega) hF0) yk_X6_readSum E km_X6_168 dX6_readParentheses_20 hG (hE.S hS hEA) ⟨f_x, f_tx, f_fs⟩ (At.recv hG f_x rfl) rfl rfl hl.1 ⟨by show _ ≤ fr + 1; omega, by show _ ≤ lo + 23; omega⟩ ⟨(show 0 + 0 + 0 ≤ 0 by omega), (show 0 + 0 + 0 ≤ 0 by omega)⟩ (Nat.le_of_ble_eq_true rfl) hS (fun _ h9 => h9) (fun v9 H locs hq hz9 hfr9 hS => ?_)
  have f_tx : At G tx (.inl (G.2.1 0, n, .inl (sB bf))) H := va_at.kept f_tx (hfr9 _ (va_at.lt f_tx) (fun z9 => z9.elim ne_tx_x ne_tx_fs))
  obtain ⟨rfl, er, es, ki, st, en, vv, k7, f7, hk7, f_x, f_fs, hTK, hL⟩ := hq
  rcases hfa : smF bf n (fcF bf n k) (spc bf n (s9 + 1)) with e7 | ⟨s7, L7⟩
  · rw [hfa] at hTK
    refine lv_aload_n hx hb dX6_readParentheses_23 rfl (lv_at hl 0 rfl) ?_
    refine lv_bipush (v := 41) hx hb dX6_readParentheses_24 rfl ?_
    refine Wr.callV (rest := []) (c_X6_needSymbol_u l G hB n hn9 hEx ne_tx_x (.error e7) hTK 41 (by decide)) yk_X6_needSymbol E km_X6_69 dX6_readParentheses_26 hG (hE.S hS hEA) ⟨f_x, f_tx⟩ (At.recv hG f_x rfl) rfl rfl hl.1 ⟨by show _ ≤ fr + 1; omega, by show _ ≤ lo + 23; omega⟩ ⟨(show 0 + 0 + 0 + 0 ≤ 0 by omega), (show 0 + 0 + 0 + 0 ≤ 0 by omega)⟩ (Nat.le_of_ble_eq_true rfl) hS (fun _ h9 => Or.inl h9) (fun v9 H locs hq hz9 hfr9 hS => ?_)
    have f_tx : At G tx (.inl (G.2.1 0, n, .inl (sB bf))) H := va_at.kept f_tx (hfr9 _ (va_at.lt f_tx) ne_tx_x)
    have f_fs : At G fs (.inl (G.2.1 1, n, .inl f7)) H := va_at.kept f_fs (hfr9 _ (va_at.lt f_fs) ne_fs_x)
    obtain ⟨er, es, ki, st, en, vv, rfl, f_x, hTK⟩ := hq
    exact wr_void E hr hk hS (show 0 + 0 + 0 + 0 ≤ 0 by omega) (show 0 + 0 + 0 + 0 ≤ 0 by omega) (⟨rfl, _, _, _, _, _, _, _, _, hk7, f_x, f_fs, by rw [fcF_s hbp, paF_e hfa]; exact hTK, fun s8 L8 z => by rw [fcF_s hbp, paF_e hfa] at z; cases z⟩) dX6_readParentheses_29
  · rw [hfa] at hTK
    refine lv_aload_n hx hb dX6_readParentheses_23 rfl (lv_at hl 0 rfl) ?_
    refine lv_bipush (v := 41) hx hb dX6_readParentheses_24 rfl ?_
    refine Wr.callV (rest := []) (c_X6_needSymbol_u l G hB n hn9 hEx ne_tx_x (.ok s7) hTK 41 (by decide)) yk_X6_needSymbol E km_X6_69 dX6_readParentheses_26 hG (hE.S hS hEA) ⟨f_x, f_tx⟩ (At.recv hG f_x rfl) rfl rfl hl.1 ⟨by show _ ≤ fr + 1; omega, by show _ ≤ lo + 23; omega⟩ ⟨(show 0 + 0 + 0 + 0 ≤ 0 by omega), (show 0 + 0 + 0 + 0 ≤ 0 by omega)⟩ (Nat.le_of_ble_eq_true rfl) hS (fun _ h9 => Or.inl h9) (fun v9 H locs hq hz9 hfr9 hS => ?_)
    have f_tx : At G tx (.inl (G.2.1 0, n, .inl (sB bf))) H := va_at.kept f_tx (hfr9 _ (va_at.lt f_tx) ne_tx_x)
    have f_fs : At G fs (.inl (G.2.1 1, n, .inl f7)) H := va_at.kept f_fs (hfr9 _ (va_at.lt f_fs) ne_fs_x)
    obtain ⟨er, es, ki, st, en, vv, rfl, f_x, hTK⟩ := hq
    have hTK : TK bf n (syF bf n 41 s7) er es ki st en vv := hTK
    rcases hsy : syF bf n 41 s7 with e6 | s6
    · rw [hsy] at hTK
      exact wr_void E hr hk hS (show 0 + 0 + 0 + 0 ≤ 0 by omega) (show 0 + 0 + 0 + 0 ≤ 0 by omega) (⟨rfl, _, _, _, _, _, _, _, _, hk7, f_x, f_fs, by rw [fcF_s hbp, paF_x hfa hsy]; exact hTK, fun s8 L8 z => by rw [fcF_s hbp, paF_x hfa hsy] at z; cases z⟩) dX6_readParentheses_29
    · rw [hsy] at hTK
      exact wr_void E hr hk hS (show 0 + 0 + 0 + 0 ≤ 0 by omega) (show 0 + 0 + 0 + 0 ≤ 0 by omega) (⟨rfl, _, _, _, _, _, _, _, _, hk7, f_x, f_fs, by rw [fcF_s hbp, paF_o hfa hsy]; exact hTK, fun s8 L8 z => by rw [fcF_s hbp, paF_o hfa hsy] at z; cases z; exact hL _ _ hfa⟩) dX6_readParentheses_29

set_option maxHeartbeats 4000000 in
set_option maxRecDepth 100000 in
/-- readFactor, as deep as can be -/
theorem c_X6_readFactor_0 (l : Launch) (G : CG) {x bk tx fs : Nat} {fg : Int32} {bf : Nat → Int32} (hB : ByO bf) (n : Nat) (hn9 : n ≤ 900) (hEx : EFA G x) (hEf : EFA G fs) (ne_tx_x : tx ≠ x) (ne_fs_x : fs ≠ x) (ne_tx_fs : tx ≠ fs) (s9 : Nat) (hs9 : s9 ≤ n) (C : List Int32) (hC : C.length ≤ s9) {f : Nat → Int32} (hF0 : FSt f C)  : Wr l yX6_readFactor cX6_readFactor 2 ((Option.none : Option FieldType)) 6 129 0 0 G [.ref x, .int 4] (fun H9 => At G x (.inr (6, rdF 0 (-1) bk tx (kd bf n s9) (nI s9) (nI (te bf n s9)) (va bf n s9) fg fs (nI C.length))) H9 ∧ At G tx (bA G n (sB bf)) H9 ∧ At G fs (iA G n f) H9) (fun q9 => q9 = x ∨ q9 = fs) (fun v9 H9 => v9 = none ∧ ∃ er es ki st en vv k8 f8, k8 ≤ n ∧ At G x (.inr (6, rdF er es bk tx ki st en vv fg fs (nI k8))) H9 ∧ At G fs (iA G n f8) H9 ∧ TK bf n (pl (fcF bf n 0 s9)) er es ki st en vv ∧ ∀ s8 L8, (fcF bf n 0 s9) = .ok (s8, L8) → k8 = (C ++ L8).length ∧ FSt f8 (C ++ L8)) := by
  refine Wr.ofW (by decide) (Nat.le_of_ble_eq_true rfl) (fun p e s m below meth c ls E hG hE hP hr hk hin hl => ?_)
  have hS : va_S (fun q9 => q9 = x ∨ q9 = fs) s.heap s.heap [] := va_S.rf
  have hx := E.1
  have hb := E.2.1
  have hl : lv_has ls 2 [(0, .ref x), (1, .int 4)] := hl
  have f_x := hP.1
  have f_tx := hP.2.1
  have f_fs := hP.2.2
  have hEA : ∀ q9, q9 = x ∨ q9 = fs → EFA G q9 := fun q9 h9 => h9.elim (fun z9 => by rw [z9]; exact hEx) (fun z9 => by rw [z9]; exact hEf)
  have htb := te_b hB hs9
  have hCn : C.length ≤ n := by omega
  by_cases hkd : kd bf n s9 = 1001
  · have hnp : ¬ bt bf n s9 = 40 := fun z9 => by have y9 := (kd_sym (c := 40) hB (by decide)).mpr z9; rw [hkd] at y9; exact absurd y9 (by decide)
    have hd := (kd_num hB).mp hkd
    have hTK : TK bf n (pl (.ok (s9, []) : Rr)) 0 (-1) (kd bf n s9) (nI s9) (nI (te bf n s9)) (va bf n s9) := ⟨rfl, rfl, hs9, rfl, rfl, rfl, rfl⟩
    have hlt := kd_lt hkd (by decide)
    refine lv_aload_n hx hb dX6_readFactor_0 rfl (lv_at hl 0 rfl) ?_
    refine gf_X6_39 E hG f_x rfl dX6_readFactor_1 ?_
    refine lv_sipush (v := 1001) hx hb dX6_readFactor_4 rfl ?_
    refine lv_icmp_ne (tgt := 25) hx hb dX6_readFactor_7 (by decide) (fun c_7 => ?_) (fun c_7 => ?_)
    · exact (by rw [hkd] at c_7; exact absurd c_7 (by decide))
    refine lv_aload_n hx hb dX6_readFactor_10 rfl (lv_at hl 0 rfl) ?_
    refine lv_aload_n hx hb dX6_readFactor_11 rfl (lv_at hl 0 rfl) ?_
    refine lv_iconst (v := 0) hx hb dX6_readFactor_12 rfl ?_
    refine lv_sipush (v := 9999) hx hb dX6_readFactor_13 rfl ?_
    refine Wr.callV (rest := [.ref x]) (c_X6_readNumber_u l G hB n hn9 hEx ne_tx_x (.ok (s9, [])) hTK 0 9999 ⟨0, 9999, rfl, rfl, by decide, by decide⟩) yk_X6_readNumber E km_X6_115 dX6_readFactor_16 hG (hE.S hS hEA) ⟨f_x, f_tx⟩ (At.recv hG f_x rfl) rfl rfl hl.1 ⟨Nat.le_of_ble_eq_true rfl, Nat.le_of_ble_eq_true rfl⟩ ⟨(show 0 + 0 ≤ 0 by omega), (show 0 + 0 ≤ 0 by omega)⟩ (Nat.le_of_ble_eq_true rfl) hS (fun _ h9 => Or.inl h9) (fun v9 H locs hq hz9 hfr9 hS => ?_)
    have f_tx : At G tx (.inl (G.2.1 0, n, .inl (sB bf))) H := va_at.kept f_tx (hfr9 _ (va_at.lt f_tx) ne_tx_x)
    have f_fs : At G fs (.inl (G.2.1 1, n, .inl f)) H := va_at.kept f_fs (hfr9 _ (va_at.lt f_fs) ne_fs_x)
    obtain ⟨v_1, er, es, ki, st, en, vv, rfl, f_x, hTK, hv_1⟩ := hq
    rcases hnu : numF bf n 0 9999 s9 with e7 | ⟨s7, v7⟩
    · rw [nbL_er hnu] at hTK
      refine Wr.callV (rest := []) (c_X6_addFeeStep l G hn9 ne_fs_x C.length hCn v_1) yk_X6_addFeeStep E km_X6_192 dX6_readFactor_19 hG (hE.S hS hEA) ⟨f_x, f_fs⟩ (At.recv hG f_x rfl) rfl rfl hl.1 ⟨Nat.le_of_ble_eq_true rfl, Nat.le_of_ble_eq_true rfl⟩ ⟨(show 0 + 0 + 0 ≤ 0 by omega), (show 0 + 0 + 0 ≤ 0 by omega)⟩ (Nat.le_of_ble_eq_true rfl) hS (fun _ h9 => h9) (fun v9 H locs hq hz9 hfr9 hS => ?_)
      have f_tx : At G tx (.inl (G.2.1 0, n, .inl (sB bf))) H := va_at.kept f_tx (hfr9 _ (va_at.lt f_tx) (fun z9 => z9.elim ne_tx_x ne_tx_fs))
      obtain ⟨rfl, k_2, f_29, hk_2, hadd_2, f_x, f_fs⟩ := hq
      refine lv_goto (tgt := 101) hx hb dX6_readFactor_22 (by decide) ?_
      exact wr_void E hr hk hS (show 0 + 0 + 0 ≤ 0 by omega) (show 0 + 0 + 0 ≤ 0 by omega) (⟨rfl, _, _, _, _, _, _, _, _, hk_2, f_x, f_fs, by rw [fcF_o hnp, opF_de hd hnu]; exact hTK, fun s8 L8 z => by rw [fcF_o hnp, opF_de hd hnu] at z; cases z⟩) dX6_readFactor_101
    · rw [nbL_ok hnu] at hTK
      obtain ⟨s6, L6, e6, -, hv7⟩ := hv_1 _ _ (nbL_ok hnu)
      cases e6
      rw [hnu] at hv7
      have ev : v7 = v_1 := congrArg Prod.snd (Except.ok.inj hv7)
      rw [ev] at hnu
      refine Wr.callV (rest := []) (c_X6_addFeeStep l G hn9 ne_fs_x C.length hCn v_1) yk_X6_addFeeStep E km_X6_192 dX6_readFactor_19 hG (hE.S hS hEA) ⟨f_x, f_fs⟩ (At.recv hG f_x rfl) rfl rfl hl.1 ⟨Nat.le_of_ble_eq_true rfl, Nat.le_of_ble_eq_true rfl⟩ ⟨(show 0 + 0 + 0 ≤ 0 by omega), (show 0 + 0 + 0 ≤ 0 by omega)⟩ (Nat.le_of_ble_eq_true rfl) hS (fun _ h9 => h9) (fun v9 H locs hq hz9 hfr9 hS => ?_)
      have f_tx : At G tx (.inl (G.2.1 0, n, .inl (sB bf))) H := va_at.kept f_tx (hfr9 _ (va_at.lt f_tx) (fun z9 => z9.elim ne_tx_x ne_tx_fs))
      obtain ⟨rfl, k_3, f_39, hk_3, hadd_3, f_x, f_fs⟩ := hq
      refine lv_goto (tgt := 101) hx hb dX6_readFactor_22 (by decide) ?_
      obtain ⟨ek, eg⟩ := hadd_3 (by omega)
      subst ek eg
      exact wr_void E hr hk hS (show 0 + 0 + 0 ≤ 0 by omega) (show 0 + 0 + 0 ≤ 0 by omega) (⟨rfl, _, _, _, _, _, _, _, _, hk_3, f_x, f_fs, by rw [fcF_o hnp, opF_d hd hnu]; exact hTK, fun s8 L8 z => by rw [fcF_o hnp, opF_d hd hnu] at z; cases z; exact ⟨by rw [List.length_append, List.length_singleton], hF0.add v_1⟩⟩) dX6_readFactor_101
  · have hd : ¬ inV (bt bf n s9) 48 57 = 1 := fun z9 => hkd ((kd_num hB).mpr z9)
    by_cases h6 : isW bf n s9 (txt 6)
    · have hnp := isW_np hB (txt_L (i := 6) (by decide)) h6
      have hlt := kd_lt ((isW_iff hB (txt_L (i := 6) (by decide))).mp h6).1 (by decide)
      refine lv_aload_n hx hb dX6_readFactor_0 rfl (lv_at hl 0 rfl) ?_
      refine gf_X6_39 E hG f_x rfl dX6_readFactor_1 ?_
      refine lv_sipush (v := 1001) hx hb dX6_readFactor_4 rfl ?_
      refine lv_icmp_ne (tgt := 25) hx hb dX6_readFactor_7 (by decide) (fun c_7 => ?_) (fun c_7 => ?_)
      rotate_left
      · exact absurd c_7 hkd
      refine lv_aload_n hx hb dX6_readFactor_25 rfl (lv_at hl 0 rfl) ?_
      refine va_ldcS hx hb E.2.2.2.1 (hG.2.2.2.2.2.1 (RX6, 198, "amount", 6) (by decide +kernel)) dX6_readFactor_26 ?_
      refine Wr.callV (rest := []) (c_X6_tookWord_y l G hB n hn9 hEx ne_tx_x s9 hs9 (isT_c (i := 6) (by decide)) (txt_A (i := 6) (by decide)).1 (txt_A (i := 6) (by decide)).2 (txt_L (i := 6) (by decide)) h6) yk_X6_tookWord E km_X6_142 dX6_readFactor_28 hG (hE.S hS hEA) ⟨f_x, f_tx⟩ (At.recv hG f_x rfl) rfl rfl hl.1 ⟨Nat.le_of_ble_eq_true rfl, Nat.le_of_ble_eq_true rfl⟩ ⟨(show 0 + 0 ≤ 0 by omega), (show 0 + 0 ≤ 0 by omega)⟩ (Nat.le_of_ble_eq_true rfl) hS (fun _ h9 => Or.inl h9) (fun v9 H locs hq hz9 hfr9 hS => ?_)
      have f_tx : At G tx (.inl (G.2.1 0, n, .inl (sB bf))) H := va_at.kept f_tx (hfr9 _ (va_at.lt f_tx) ne_tx_x)
      have f_fs : At G fs (.inl (G.2.1 1, n, .inl f)) H := va_at.kept f_fs (hfr9 _ (va_at.lt f_fs) ne_fs_x)
      obtain ⟨rfl, er, es, ki, st, en, vv, f_x, hTK⟩ := hq
      refine lv_if_eq (tgt := 42) hx hb dX6_readFactor_31 (by decide) (fun c_31 => ?_) (fun c_31 => ?_)
      · exact absurd c_31 (by decide)
      refine lv_aload_n hx hb dX6_readFactor_34 rfl (lv_at hl 0 rfl) ?_
      refine lv_iconst (v := (-1)) hx hb dX6_readFactor_35 rfl ?_
      refine Wr.callV (rest := []) (c_X6_addFeeStep l G hn9 ne_fs_x C.length hCn (-1)) yk_X6_addFeeStep E km_X6_192 dX6_readFactor_36 hG (hE.S hS hEA) ⟨f_x, f_fs⟩ (At.recv hG f_x rfl) rfl rfl hl.1 ⟨Nat.le_of_ble_eq_true rfl, Nat.le_of_ble_eq_true rfl⟩ ⟨(show 0 + 0 + 0 ≤ 0 by omega), (show 0 + 0 + 0 ≤ 0 by omega)⟩ (Nat.le_of_ble_eq_true rfl) hS (fun _ h9 => h9) (fun v9 H locs hq hz9 hfr9 hS => ?_)
      have f_tx : At G tx (.inl (G.2.1 0, n, .inl (sB bf))) H := va_at.kept f_tx (hfr9 _ (va_at.lt f_tx) (fun z9 => z9.elim ne_tx_x ne_tx_fs))
      obtain ⟨rfl, k_4, f_49, hk_4, hadd_4, f_x, f_fs⟩ := hq
      refine lv_goto (tgt := 101) hx hb dX6_readFactor_39 (by decide) ?_
      obtain ⟨ek, eg⟩ := hadd_4 (by omega)
      subst ek eg
      exact wr_void E hr hk hS (show 0 + 0 + 0 ≤ 0 by omega) (show 0 + 0 + 0 ≤ 0 by omega) (⟨rfl, _, _, _, _, _, _, _, _, hk_4, f_x, f_fs, by rw [fcF_o hnp, opF_6 hd h6]; exact hTK, fun s8 L8 z => by rw [fcF_o hnp, opF_6 hd h6] at z; cases z; exact ⟨by rw [List.length_append, List.length_singleton], hF0.add (-1)⟩⟩) dX6_readFactor_101
    · by_cases h7 : isW bf n s9 (txt 7)
      · have hnp := isW_np hB (txt_L (i := 7) (by decide)) h7
        have hlt := kd_lt ((isW_iff hB (txt_L (i := 7) (by decide))).mp h7).1 (by decide)
        refine lv_aload_n hx hb dX6_readFactor_0 rfl (lv_at hl 0 rfl) ?_
        refine gf_X6_39 E hG f_x rfl dX6_readFactor_1 ?_
        refine lv_sipush (v := 1001) hx hb dX6_readFactor_4 rfl ?_
        refine lv_icmp_ne (tgt := 25) hx hb dX6_readFactor_7 (by decide) (fun c_7 => ?_) (fun c_7 => ?_)
        rotate_left
        · exact absurd c_7 hkd
        refine lv_aload_n hx hb dX6_readFactor_25 rfl (lv_at hl 0 rfl) ?_
        refine va_ldcS hx hb E.2.2.2.1 (hG.2.2.2.2.2.1 (RX6, 198, "amount", 6) (by decide +kernel)) dX6_readFactor_26 ?_
        refine Wr.callV (rest := []) (c_X6_tookWord_n l G hB n hn9 hEx ne_tx_x s9 hs9 (isT_c (i := 6) (by decide)) (txt_A (i := 6) (by decide)).1 (txt_A (i := 6) (by decide)).2 (txt_L (i := 6) (by decide)) h6) yk_X6_tookWord E km_X6_142 dX6_readFactor_28 hG (hE.S hS hEA) ⟨f_x, f_tx⟩ (At.recv hG f_x rfl) rfl rfl hl.1 ⟨Nat.le_of_ble_eq_true rfl, Nat.le_of_ble_eq_true rfl⟩ ⟨(show 0 + 0 ≤ 0 by omega), (show 0 + 0 ≤ 0 by omega)⟩ (Nat.le_of_ble_eq_true rfl) hS (fun _ h9 => Or.inl h9) (fun v9 H locs hq hz9 hfr9 hS => ?_)
        have f_tx : At G tx (.inl (G.2.1 0, n, .inl (sB bf))) H := va_at.kept f_tx (hfr9 _ (va_at.lt f_tx) ne_tx_x)
        have f_fs : At G fs (.inl (G.2.1 1, n, .inl f)) H := va_at.kept f_fs (hfr9 _ (va_at.lt f_fs) ne_fs_x)
        obtain ⟨rfl, f_x⟩ := hq
        refine lv_if_eq (tgt := 42) hx hb dX6_readFactor_31 (by decide) (fun c_31 => ?_) (fun c_31 => ?_)
        rotate_left
        · exact absurd c_31 (by decide)
        refine lv_aload_n hx hb dX6_readFactor_42 rfl (lv_at hl 0 rfl) ?_
        refine va_ldcS hx hb E.2.2.2.1 (hG.2.2.2.2.2.1 (RX6, 199, "days", 7) (by decide +kernel)) dX6_readFactor_43 ?_
        refine Wr.callV (rest := []) (c_X6_tookWord_y l G hB n hn9 hEx ne_tx_x s9 hs9 (isT_c (i := 7) (by decide)) (txt_A (i := 7) (by decide)).1 (txt_A (i := 7) (by decide)).2 (txt_L (i := 7) (by decide)) h7) yk_X6_tookWord E km_X6_142 dX6_readFactor_45 hG (hE.S hS hEA) ⟨f_x, f_tx⟩ (At.recv hG f_x rfl) rfl rfl hl.1 ⟨Nat.le_of_ble_eq_true rfl, Nat.le_of_ble_eq_true rfl⟩ ⟨(show 0 + 0 + 0 ≤ 0 by omega), (show 0 + 0 + 0 ≤ 0 by omega)⟩ (Nat.le_of_ble_eq_true rfl) hS (fun _ h9 => Or.inl h9) (fun v9 H locs hq hz9 hfr9 hS => ?_)
        have f_tx : At G tx (.inl (G.2.1 0, n, .inl (sB bf))) H := va_at.kept f_tx (hfr9 _ (va_at.lt f_tx) ne_tx_x)
        have f_fs : At G fs (.inl (G.2.1 1, n, .inl f)) H := va_at.kept f_fs (hfr9 _ (va_at.lt f_fs) ne_fs_x)
        obtain ⟨rfl, er, es, ki, st, en, vv, f_x, hTK⟩ := hq
        refine lv_if_eq (tgt := 60) hx hb dX6_readFactor_48 (by decide) (fun c_48 => ?_) (fun c_48 => ?_)
        · exact absurd c_48 (by decide)
        refine lv_aload_n hx hb dX6_readFactor_51 rfl (lv_at hl 0 rfl) ?_
        refine lv_bipush (v := (-2)) hx hb dX6_readFactor_52 rfl ?_
        refine Wr.callV (rest := []) (c_X6_addFeeStep l G hn9 ne_fs_x C.length hCn (-2)) yk_X6_addFeeStep E km_X6_192 dX6_readFactor_54 hG (hE.S hS hEA) ⟨f_x, f_fs⟩ (At.recv hG f_x rfl) rfl rfl hl.1 ⟨Nat.le_of_ble_eq_true rfl, Nat.le_of_ble_eq_true rfl⟩ ⟨(show 0 + 0 + 0 + 0 ≤ 0 by omega), (show 0 + 0 + 0 + 0 ≤ 0 by omega)⟩ (Nat.le_of_ble_eq_true rfl) hS (fun _ h9 => h9) (fun v9 H locs hq hz9 hfr9 hS => ?_)
        have f_tx : At G tx (.inl (G.2.1 0, n, .inl (sB bf))) H := va_at.kept f_tx (hfr9 _ (va_at.lt f_tx) (fun z9 => z9.elim ne_tx_x ne_tx_fs))
        obtain ⟨rfl, k_5, f_59, hk_5, hadd_5, f_x, f_fs⟩ := hq
        refine lv_goto (tgt := 101) hx hb dX6_readFactor_57 (by decide) ?_
        obtain ⟨ek, eg⟩ := hadd_5 (by omega)
        subst ek eg
        exact wr_void E hr hk hS (show 0 + 0 + 0 + 0 ≤ 0 by omega) (show 0 + 0 + 0 + 0 ≤ 0 by omega) (⟨rfl, _, _, _, _, _, _, _, _, hk_5, f_x, f_fs, by rw [fcF_o hnp, opF_7 hd h6 h7]; exact hTK, fun s8 L8 z => by rw [fcF_o hnp, opF_7 hd h6 h7] at z; cases z; exact ⟨by rw [List.length_append, List.length_singleton], hF0.add (-2)⟩⟩) dX6_readFactor_101
      · by_cases h8 : isW bf n s9 (txt 8)
        · have hnp := isW_np hB (txt_L (i := 8) (by decide)) h8
          have hlt := kd_lt ((isW_iff hB (txt_L (i := 8) (by decide))).mp h8).1 (by decide)
          refine lv_aload_n hx hb dX6_readFactor_0 rfl (lv_at hl 0 rfl) ?_
          refine gf_X6_39 E hG f_x rfl dX6_readFactor_1 ?_
          refine lv_sipush (v := 1001) hx hb dX6_readFactor_4 rfl ?_
          refine lv_icmp_ne (tgt := 25) hx hb dX6_readFactor_7 (by decide) (fun c_7 => ?_) (fun c_7 => ?_)
          rotate_left
          · exact absurd c_7 hkd
          refine lv_aload_n hx hb dX6_readFactor_25 rfl (lv_at hl 0 rfl) ?_
          refine va_ldcS hx hb E.2.2.2.1 (hG.2.2.2.2.2.1 (RX6, 198, "amount", 6) (by decide +kernel)) dX6_readFactor_26 ?_
          refine Wr.callV (rest := []) (c_X6_tookWord_n l G hB n hn9 hEx ne_tx_x s9 hs9 (isT_c (i := 6) (by decide)) (txt_A (i := 6) (by decide)).1 (txt_A (i := 6) (by decide)).2 (txt_L (i := 6) (by decide)) h6) yk_X6_tookWord E km_X6_142 dX6_readFactor_28 hG (hE.S hS hEA) ⟨f_x, f_tx⟩ (At.recv hG f_x rfl) rfl rfl hl.1 ⟨Nat.le_of_ble_eq_true rfl, Nat.le_of_ble_eq_true rfl⟩ ⟨(show 0 + 0 ≤ 0 by omega), (show 0 + 0 ≤ 0 by omega)⟩ (Nat.le_of_ble_eq_true rfl) hS (fun _ h9 => Or.inl h9) (fun v9 H locs hq hz9 hfr9 hS => ?_)
          have f_tx : At G tx (.inl (G.2.1 0, n, .inl (sB bf))) H := va_at.kept f_tx (hfr9 _ (va_at.lt f_tx) ne_tx_x)
          have f_fs : At G fs (.inl (G.2.1 1, n, .inl f)) H := va_at.kept f_fs (hfr9 _ (va_at.lt f_fs) ne_fs_x)
          obtain ⟨rfl, f_x⟩ := hq
          refine lv_if_eq (tgt := 42) hx hb dX6_readFactor_31 (by decide) (fun c_31 => ?_) (fun c_31 => ?_)
          rotate_left
          · exact absurd c_31 (by decide)
          refine lv_aload_n hx hb dX6_readFactor_42 rfl (lv_at hl 0 rfl) ?_
          refine va_ldcS hx hb E.2.2.2.1 (hG.2.2.2.2.2.1 (RX6, 199, "days", 7) (by decide +kernel)) dX6_readFactor_43 ?_
          refine Wr.callV (rest := []) (c_X6_tookWord_n l G hB n hn9 hEx ne_tx_x s9 hs9 (isT_c (i := 7) (by decide)) (txt_A (i := 7) (by decide)).1 (txt_A (i := 7) (by decide)).2 (txt_L (i := 7) (by decide)) h7) yk_X6_tookWord E km_X6_142 dX6_readFactor_45 hG (hE.S hS hEA) ⟨f_x, f_tx⟩ (At.recv hG f_x rfl) rfl rfl hl.1 ⟨Nat.le_of_ble_eq_true rfl, Nat.le_of_ble_eq_true rfl⟩ ⟨(show 0 + 0 + 0 ≤ 0 by omega), (show 0 + 0 + 0 ≤ 0 by omega)⟩ (Nat.le_of_ble_eq_true rfl) hS (fun _ h9 => Or.inl h9) (fun v9 H locs hq hz9 hfr9 hS => ?_)
          have f_tx : At G tx (.inl (G.2.1 0, n, .inl (sB bf))) H := va_at.kept f_tx (hfr9 _ (va_at.lt f_tx) ne_tx_x)
          have f_fs : At G fs (.inl (G.2.1 1, n, .inl f)) H := va_at.kept f_fs (hfr9 _ (va_at.lt f_fs) ne_fs_x)
          obtain ⟨rfl, f_x⟩ := hq
          refine lv_if_eq (tgt := 60) hx hb dX6_readFactor_48 (by decide) (fun c_48 => ?_) (fun c_48 => ?_)
          rotate_left
          · exact absurd c_48 (by decide)
          refine lv_aload_n hx hb dX6_readFactor_60 rfl (lv_at hl 0 rfl) ?_
          refine va_ldcS hx hb E.2.2.2.1 (hG.2.2.2.2.2.1 (RX6, 201, "errors", 8) (by decide +kernel)) dX6_readFactor_61 ?_
          refine Wr.callV (rest := []) (c_X6_tookWord_y l G hB n hn9 hEx ne_tx_x s9 hs9 (isT_c (i := 8) (by decide)) (txt_A (i := 8) (by decide)).1 (txt_A (i := 8) (by decide)).2 (txt_L (i := 8) (by decide)) h8) yk_X6_tookWord E km_X6_142 dX6_readFactor_63 hG (hE.S hS hEA) ⟨f_x, f_tx⟩ (At.recv hG f_x rfl) rfl rfl hl.1 ⟨Nat.le_of_ble_eq_true rfl, Nat.le_of_ble_eq_true rfl⟩ ⟨(show 0 + 0 + 0 + 0 ≤ 0 by omega), (show 0 + 0 + 0 + 0 ≤ 0 by omega)⟩ (Nat.le_of_ble_eq_true rfl) hS (fun _ h9 => Or.inl h9) (fun v9 H locs hq hz9 hfr9 hS => ?_)
          have f_tx : At G tx (.inl (G.2.1 0, n, .inl (sB bf))) H := va_at.kept f_tx (hfr9 _ (va_at.lt f_tx) ne_tx_x)
          have f_fs : At G fs (.inl (G.2.1 1, n, .inl f)) H := va_at.kept f_fs (hfr9 _ (va_at.lt f_fs) ne_fs_x)
          obtain ⟨rfl, er, es, ki, st, en, vv, f_x, hTK⟩ := hq
          refine lv_if_eq (tgt := 78) hx hb dX6_readFactor_66 (by decide) (fun c_66 => ?_) (fun c_66 => ?_)
          · exact absurd c_66 (by decide)
          refine lv_aload_n hx hb dX6_readFactor_69 rfl (lv_at hl 0 rfl) ?_
          refine lv_bipush (v := (-3)) hx hb dX6_readFactor_70 rfl ?_
          refine Wr.callV (rest := []) (c_X6_addFeeStep l G hn9 ne_fs_x C.length hCn (-3)) yk_X6_addFeeStep E km_X6_192 dX6_readFactor_72 hG (hE.S hS hEA) ⟨f_x, f_fs⟩ (At.recv hG f_x rfl) rfl rfl hl.1 ⟨Nat.le_of_ble_eq_true rfl, Nat.le_of_ble_eq_true rfl⟩ ⟨(show 0 + 0 + 0 + 0 + 0 ≤ 0 by omega), (show 0 + 0 + 0 + 0 + 0 ≤ 0 by omega)⟩ (Nat.le_of_ble_eq_true rfl) hS (fun _ h9 => h9) (fun v9 H locs hq hz9 hfr9 hS => ?_)
          have f_tx : At G tx (.inl (G.2.1 0, n, .inl (sB bf))) H := va_at.kept f_tx (hfr9 _ (va_at.lt f_tx) (fun z9 => z9.elim ne_tx_x ne_tx_fs))
          obtain ⟨rfl, k_6, f_69, hk_6, hadd_6, f_x, f_fs⟩ := hq
          refine lv_goto (tgt := 101) hx hb dX6_readFactor_75 (by decide) ?_
          obtain ⟨ek, eg⟩ := hadd_6 (by omega)
          subst ek eg
          exact wr_void E hr hk hS (show 0 + 0 + 0 + 0 + 0 ≤ 0 by omega) (show 0 + 0 + 0 + 0 + 0 ≤ 0 by omega) (⟨rfl, _, _, _, _, _, _, _, _, hk_6, f_x, f_fs, by rw [fcF_o hnp, opF_8 hd h6 h7 h8]; exact hTK, fun s8 L8 z => by rw [fcF_o hnp, opF_8 hd h6 h7 h8] at z; cases z; exact ⟨by rw [List.length_append, List.length_singleton], hF0.add (-3)⟩⟩) dX6_readFactor_101
        · by_cases hp : kd bf n s9 = 40
          · refine lv_aload_n hx hb dX6_readFactor_0 rfl (lv_at hl 0 rfl) ?_
            refine gf_X6_39 E hG f_x rfl dX6_readFactor_1 ?_
            refine lv_sipush (v := 1001) hx hb dX6_readFactor_4 rfl ?_
            refine lv_icmp_ne (tgt := 25) hx hb dX6_readFactor_7 (by decide) (fun c_7 => ?_) (fun c_7 => ?_)
            rotate_left
            · exact absurd c_7 hkd
            refine lv_aload_n hx hb dX6_readFactor_25 rfl (lv_at hl 0 rfl) ?_
            refine va_ldcS hx hb E.2.2.2.1 (hG.2.2.2.2.2.1 (RX6, 198, "amount", 6) (by decide +kernel)) dX6_readFactor_26 ?_
            refine Wr.callV (rest := []) (c_X6_tookWord_n l G hB n hn9 hEx ne_tx_x s9 hs9 (isT_c (i := 6) (by decide)) (txt_A (i := 6) (by decide)).1 (txt_A (i := 6) (by decide)).2 (txt_L (i := 6) (by decide)) h6) yk_X6_tookWord E km_X6_142 dX6_readFactor_28 hG (hE.S hS hEA) ⟨f_x, f_tx⟩ (At.recv hG f_x rfl) rfl rfl hl.1 ⟨Nat.le_of_ble_eq_true rfl, Nat.le_of_ble_eq_true rfl⟩ ⟨(show 0 + 0 ≤ 0 by omega), (show 0 + 0 ≤ 0 by omega)⟩ (Nat.le_of_ble_eq_true rfl) hS (fun _ h9 => Or.inl h9) (fun v9 H locs hq hz9 hfr9 hS => ?_)
            have f_tx : At G tx (.inl (G.2.1 0, n, .inl (sB bf))) H := va_at.kept f_tx (hfr9 _ (va_at.lt f_tx) ne_tx_x)
            have f_fs : At G fs (.inl (G.2.1 1, n, .inl f)) H := va_at.kept f_fs (hfr9 _ (va_at.lt f_fs) ne_fs_x)
            obtain ⟨rfl, f_x⟩ := hq
            refine lv_if_eq (tgt := 42) hx hb dX6_readFactor_31 (by decide) (fun c_31 => ?_) (fun c_31 => ?_)
            rotate_left
            · exact absurd c_31 (by decide)
            refine lv_aload_n hx hb dX6_readFactor_42 rfl (lv_at hl 0 rfl) ?_
            refine va_ldcS hx hb E.2.2.2.1 (hG.2.2.2.2.2.1 (RX6, 199, "days", 7) (by decide +kernel)) dX6_readFactor_43 ?_
            refine Wr.callV (rest := []) (c_X6_tookWord_n l G hB n hn9 hEx ne_tx_x s9 hs9 (isT_c (i := 7) (by decide)) (txt_A (i := 7) (by decide)).1 (txt_A (i := 7) (by decide)).2 (txt_L (i := 7) (by decide)) h7) yk_X6_tookWord E km_X6_142 dX6_readFactor_45 hG (hE.S hS hEA) ⟨f_x, f_tx⟩ (At.recv hG f_x rfl) rfl rfl hl.1 ⟨Nat.le_of_ble_eq_true rfl, Nat.le_of_ble_eq_true rfl⟩ ⟨(show 0 + 0 + 0 ≤ 0 by omega), (show 0 + 0 + 0 ≤ 0 by omega)⟩ (Nat.le_of_ble_eq_true rfl) hS (fun _ h9 => Or.inl h9) (fun v9 H locs hq hz9 hfr9 hS => ?_)
            have f_tx : At G tx (.inl (G.2.1 0, n, .inl (sB bf))) H := va_at.kept f_tx (hfr9 _ (va_at.lt f_tx) ne_tx_x)
            have f_fs : At G fs (.inl (G.2.1 1, n, .inl f)) H := va_at.kept f_fs (hfr9 _ (va_at.lt f_fs) ne_fs_x)
            obtain ⟨rfl, f_x⟩ := hq
            refine lv_if_eq (tgt := 60) hx hb dX6_readFactor_48 (by decide) (fun c_48 => ?_) (fun c_48 => ?_)
            rotate_left
            · exact absurd c_48 (by decide)
            refine lv_aload_n hx hb dX6_readFactor_60 rfl (lv_at hl 0 rfl) ?_
            refine va_ldcS hx hb E.2.2.2.1 (hG.2.2.2.2.2.1 (RX6, 201, "errors", 8) (by decide +kernel)) dX6_readFactor_61 ?_
            refine Wr.callV (rest := []) (c_X6_tookWord_n l G hB n hn9 hEx ne_tx_x s9 hs9 (isT_c (i := 8) (by decide)) (txt_A (i := 8) (by decide)).1 (txt_A (i := 8) (by decide)).2 (txt_L (i := 8) (by decide)) h8) yk_X6_tookWord E km_X6_142 dX6_readFactor_63 hG (hE.S hS hEA) ⟨f_x, f_tx⟩ (At.recv hG f_x rfl) rfl rfl hl.1 ⟨Nat.le_of_ble_eq_true rfl, Nat.le_of_ble_eq_true rfl⟩ ⟨(show 0 + 0 + 0 + 0 ≤ 0 by omega), (show 0 + 0 + 0 + 0 ≤ 0 by omega)⟩ (Nat.le_of_ble_eq_true rfl) hS (fun _ h9 => Or.inl h9) (fun v9 H locs hq hz9 hfr9 hS => ?_)
            have f_tx : At G tx (.inl (G.2.1 0, n, .inl (sB bf))) H := va_at.kept f_tx (hfr9 _ (va_at.lt f_tx) ne_tx_x)
            have f_fs : At G fs (.inl (G.2.1 1, n, .inl f)) H := va_at.kept f_fs (hfr9 _ (va_at.lt f_fs) ne_fs_x)
            obtain ⟨rfl, f_x⟩ := hq
            refine lv_if_eq (tgt := 78) hx hb dX6_readFactor_66 (by decide) (fun c_66 => ?_) (fun c_66 => ?_)
            rotate_left
            · exact absurd c_66 (by decide)
            refine lv_aload_n hx hb dX6_readFactor_78 rfl (lv_at hl 0 rfl) ?_
            refine gf_X6_39 E hG f_x rfl dX6_readFactor_79 ?_
            refine lv_bipush (v := 40) hx hb dX6_readFactor_82 rfl ?_
            refine lv_icmp_ne (tgt := 95) hx hb dX6_readFactor_84 (by decide) (fun c_84 => ?_) (fun c_84 => ?_)
            · exact (by rw [hp] at c_84; exact absurd c_84 (by decide))
            refine lv_aload_n hx hb dX6_readFactor_87 rfl (lv_at hl 0 rfl) ?_
            refine lv_iload_n hx hb dX6_readFactor_88 rfl (lv_at hl 1 rfl) ?_
            refine Wr.callV (rest := []) (c_X6_readParentheses_0 l G hB n hn9 hEx hEf ne_tx_x ne_fs_x ne_tx_fs s9 hs9 C hC hF0 hp) yk_X6_readParentheses E km_X6_203 dX6_readFactor_89 hG (hE.S hS hEA) ⟨f_x, f_tx, f_fs⟩ (At.recv hG f_x rfl) rfl rfl hl.1 ⟨Nat.le_of_ble_eq_true rfl, Nat.le_of_ble_eq_true rfl⟩ ⟨(show 0 + 0 + 0 + 0 + 0 ≤ 0 by omega), (show 0 + 0 + 0 + 0 + 0 ≤ 0 by omega)⟩ (Nat.le_of_ble_eq_true rfl) hS (fun _ h9 => h9) (fun v9 H locs hq hz9 hfr9 hS => ?_)
            have f_tx : At G tx (.inl (G.2.1 0, n, .inl (sB bf))) H := va_at.kept f_tx (hfr9 _ (va_at.lt f_tx) (fun z9 => z9.elim ne_tx_x ne_tx_fs))
            obtain ⟨rfl, er, es, ki, st, en, vv, k7, f7, hk7, f_x, f_fs, hTK, hL⟩ := hq
            refine lv_goto (tgt := 101) hx hb dX6_readFactor_92 (by decide) ?_
            exact wr_void E hr hk hS (show 0 + 0 + 0 + 0 + 0 ≤ 0 by omega) (show 0 + 0 + 0 + 0 + 0 ≤ 0 by omega) (⟨rfl, _, _, _, _, _, _, _, _, hk7, f_x, f_fs, hTK, hL⟩) dX6_readFactor_101
          · have hnp : ¬ bt bf n s9 = 40 := fun z9 => hp ((kd_sym (c := 40) hB (by decide)).mpr z9)
            refine lv_aload_n hx hb dX6_readFactor_0 rfl (lv_at hl 0 rfl) ?_
            refine gf_X6_39 E hG f_x rfl dX6_readFactor_1 ?_
            refine lv_sipush (v := 1001) hx hb dX6_readFactor_4 rfl ?_
            refine lv_icmp_ne (tgt := 25) hx hb dX6_readFactor_7 (by decide) (fun c_7 => ?_) (fun c_7 => ?_)
            · refine lv_aload_n hx hb dX6_readFactor_25 rfl (lv_at hl 0 rfl) ?_
              refine va_ldcS hx hb E.2.2.2.1 (hG.2.2.2.2.2.1 (RX6, 198, "amount", 6) (by decide +kernel)) dX6_readFactor_26 ?_
              refine Wr.callV (rest := []) (c_X6_tookWord_n l G hB n hn9 hEx ne_tx_x s9 hs9 (isT_c (i := 6) (by decide)) (txt_A (i := 6) (by decide)).1 (txt_A (i := 6) (by decide)).2 (txt_L (i := 6) (by decide)) h6) yk_X6_tookWord E km_X6_142 dX6_readFactor_28 hG (hE.S hS hEA) ⟨f_x, f_tx⟩ (At.recv hG f_x rfl) rfl rfl hl.1 ⟨Nat.le_of_ble_eq_true rfl, Nat.le_of_ble_eq_true rfl⟩ ⟨(show 0 + 0 ≤ 0 by omega), (show 0 + 0 ≤ 0 by omega)⟩ (Nat.le_of_ble_eq_true rfl) hS (fun _ h9 => Or.inl h9) (fun v9 H locs hq hz9 hfr9 hS => ?_)
              have f_tx : At G tx (.inl (G.2.1 0, n, .inl (sB bf))) H := va_at.kept f_tx (hfr9 _ (va_at.lt f_tx) ne_tx_x)
              have f_fs : At G fs (.inl (G.2.1 1, n, .inl f)) H := va_at.kept f_fs (hfr9 _ (va_at.lt f_fs) ne_fs_x)
              obtain ⟨rfl, f_x⟩ := hq
              refine lv_if_eq (tgt := 42) hx hb dX6_readFactor_31 (by decide) (fun c_31 => ?_) (fun c_31 => ?_)
              · refine lv_aload_n hx hb dX6_readFactor_42 rfl (lv_at hl 0 rfl) ?_
                refine va_ldcS hx hb E.2.2.2.1 (hG.2.2.2.2.2.1 (RX6, 199, "days", 7) (by decide +kernel)) dX6_readFactor_43 ?_
                refine Wr.callV (rest := []) (c_X6_tookWord_n l G hB n hn9 hEx ne_tx_x s9 hs9 (isT_c (i := 7) (by decide)) (txt_A (i := 7) (by decide)).1 (txt_A (i := 7) (by decide)).2 (txt_L (i := 7) (by decide)) h7) yk_X6_tookWord E km_X6_142 dX6_readFactor_45 hG (hE.S hS hEA) ⟨f_x, f_tx⟩ (At.recv hG f_x rfl) rfl rfl hl.1 ⟨Nat.le_of_ble_eq_true rfl, Nat.le_of_ble_eq_true rfl⟩ ⟨(show 0 + 0 + 0 ≤ 0 by omega), (show 0 + 0 + 0 ≤ 0 by omega)⟩ (Nat.le_of_ble_eq_true rfl) hS (fun _ h9 => Or.inl h9) (fun v9 H locs hq hz9 hfr9 hS => ?_)
                have f_tx : At G tx (.inl (G.2.1 0, n, .inl (sB bf))) H := va_at.kept f_tx (hfr9 _ (va_at.lt f_tx) ne_tx_x)
                have f_fs : At G fs (.inl (G.2.1 1, n, .inl f)) H := va_at.kept f_fs (hfr9 _ (va_at.lt f_fs) ne_fs_x)
                obtain ⟨rfl, f_x⟩ := hq
                refine lv_if_eq (tgt := 60) hx hb dX6_readFactor_48 (by decide) (fun c_48 => ?_) (fun c_48 => ?_)
                · refine lv_aload_n hx hb dX6_readFactor_60 rfl (lv_at hl 0 rfl) ?_
                  refine va_ldcS hx hb E.2.2.2.1 (hG.2.2.2.2.2.1 (RX6, 201, "errors", 8) (by decide +kernel)) dX6_readFactor_61 ?_
                  refine Wr.callV (rest := []) (c_X6_tookWord_n l G hB n hn9 hEx ne_tx_x s9 hs9 (isT_c (i := 8) (by decide)) (txt_A (i := 8) (by decide)).1 (txt_A (i := 8) (by decide)).2 (txt_L (i := 8) (by decide)) h8) yk_X6_tookWord E km_X6_142 dX6_readFactor_63 hG (hE.S hS hEA) ⟨f_x, f_tx⟩ (At.recv hG f_x rfl) rfl rfl hl.1 ⟨Nat.le_of_ble_eq_true rfl, Nat.le_of_ble_eq_true rfl⟩ ⟨(show 0 + 0 + 0 + 0 ≤ 0 by omega), (show 0 + 0 + 0 + 0 ≤ 0 by omega)⟩ (Nat.le_of_ble_eq_true rfl) hS (fun _ h9 => Or.inl h9) (fun v9 H locs hq hz9 hfr9 hS => ?_)
                  have f_tx : At G tx (.inl (G.2.1 0, n, .inl (sB bf))) H := va_at.kept f_tx (hfr9 _ (va_at.lt f_tx) ne_tx_x)
                  have f_fs : At G fs (.inl (G.2.1 1, n, .inl f)) H := va_at.kept f_fs (hfr9 _ (va_at.lt f_fs) ne_fs_x)
                  obtain ⟨rfl, f_x⟩ := hq
                  refine lv_if_eq (tgt := 78) hx hb dX6_readFactor_66 (by decide) (fun c_66 => ?_) (fun c_66 => ?_)
                  · refine lv_aload_n hx hb dX6_readFactor_78 rfl (lv_at hl 0 rfl) ?_
                    refine gf_X6_39 E hG f_x rfl dX6_readFactor_79 ?_
                    refine lv_bipush (v := 40) hx hb dX6_readFactor_82 rfl ?_
                    refine lv_icmp_ne (tgt := 95) hx hb dX6_readFactor_84 (by decide) (fun c_84 => ?_) (fun c_84 => ?_)
                    · refine lv_aload_n hx hb dX6_readFactor_95 rfl (lv_at hl 0 rfl) ?_
                      refine lv_bipush (v := (-2)) hx hb dX6_readFactor_96 rfl ?_
                      refine Wr.callV (rest := []) (c_X6_fail l G hEx (-2) rfl) yk_X6_fail E km_X6_65 dX6_readFactor_98 hG (hE.S hS hEA) f_x (At.recv hG f_x rfl) rfl rfl hl.1 ⟨Nat.le_of_ble_eq_true rfl, Nat.le_of_ble_eq_true rfl⟩ ⟨(show 0 + 0 + 0 + 0 + 0 ≤ 0 by omega), (show 0 + 0 + 0 + 0 + 0 ≤ 0 by omega)⟩ (Nat.le_of_ble_eq_true rfl) hS (fun _ h9 => Or.inl h9) (fun v9 H locs hq hz9 hfr9 hS => ?_)
                      have f_tx : At G tx (.inl (G.2.1 0, n, .inl (sB bf))) H := va_at.kept f_tx (hfr9 _ (va_at.lt f_tx) ne_tx_x)
                      have f_fs : At G fs (.inl (G.2.1 1, n, .inl f)) H := va_at.kept f_fs (hfr9 _ (va_at.lt f_fs) ne_fs_x)
                      obtain ⟨rfl, f_x⟩ := hq
                      exact wr_void E hr hk hS (show 0 + 0 + 0 + 0 + 0 ≤ 0 by omega) (show 0 + 0 + 0 + 0 + 0 ≤ 0 by omega) (⟨rfl, _, _, _, _, _, _, _, _, hCn, f_x, f_fs, by rw [fcF_o hnp, opF_n hd h6 h7 h8]; exact ⟨rfl, by decide, rfl, hs9, rfl⟩, fun s8 L8 z => by rw [fcF_o hnp, opF_n hd h6 h7 h8] at z; cases z⟩) dX6_readFactor_101
                    · exact absurd c_84 hp
                  · exact absurd c_66 (by decide)
                · exact absurd c_48 (by decide)
              · exact absurd c_31 (by decide)
            · exact absurd c_7 hkd

set_option maxHeartbeats 4000000 in
set_option maxRecDepth 100000 in
/-- readFactor -/
theorem c_X6_readFactor_s (l : Launch) (G : CG) {x bk tx fs : Nat} {fg : Int32} {bf : Nat → Int32} (hB : ByO bf) (n : Nat) (hn9 : n ≤ 900) (hEx : EFA G x) (hEf : EFA G fs) (ne_tx_x : tx ≠ x) (ne_fs_x : fs ≠ x) (ne_tx_fs : tx ≠ fs) (s9 : Nat) (hs9 : s9 ≤ n) (C : List Int32) (hC : C.length ≤ s9) {f : Nat → Int32} (hF0 : FSt f C) (k : Nat) (hk9 : k < 4) {fr lo : Nat} (hfr : 6 ≤ fr) (hlo : 140 ≤ lo) (hF : ∀ (s9 : Nat) (C : List Int32) (f : Nat → Int32), s9 ≤ n → C.length ≤ s9 → FSt f C → Wr l yX6_readSum cX6_readSum 4 ((Option.none : Option FieldType)) fr lo 0 0 G [.ref x, .int (nI (3 - k + 1))] (fun H9 => At G x (.inr (6, rdF 0 (-1) bk tx (kd bf n s9) (nI s9) (nI (te bf n s9)) (va bf n s9) fg fs (nI C.length))) H9 ∧ At G tx (bA G n (sB bf)) H9 ∧ At G fs (iA G n f) H9) (fun q9 => q9 = x ∨ q9 = fs) (fun v9 H9 => v9 = none ∧ ∃ er es ki st en vv k8 f8, k8 ≤ n ∧ At G x (.inr (6, rdF er es bk tx ki st en vv fg fs (nI k8))) H9 ∧ At G fs (iA G n f8) H9 ∧ TK bf n (pl (smF bf n (fcF bf n k) s9)) er es ki st en vv ∧ ∀ s8 L8, (smF bf n (fcF bf n k) s9) = .ok (s8, L8) → k8 = (C ++ L8).length ∧ FSt f8 (C ++ L8))) : Wr l yX6_readFactor cX6_readFactor 2 ((Option.none : Option FieldType)) (fr + 2) (lo + 44) 0 0 G [.ref x, .int (nI (3 - k))] (fun H9 => At G x (.inr (6, rdF 0 (-1) bk tx (kd bf n s9) (nI s9) (nI (te bf n s9)) (va bf n s9) fg fs (nI C.length))) H9 ∧ At G tx (bA G n (sB bf)) H9 ∧ At G fs (iA G n f) H9) (fun q9 => q9 = x ∨ q9 = fs) (fun v9 H9 => v9 = none ∧ ∃ er es ki st en vv k8 f8, k8 ≤ n ∧ At G x (.inr (6, rdF er es bk tx ki st en vv fg fs (nI k8))) H9 ∧ At G fs (iA G n f8) H9 ∧ TK bf n (pl (fcF bf n (k + 1) s9)) er es ki st en vv ∧ ∀ s8 L8, (fcF bf n (k + 1) s9) = .ok (s8, L8) → k8 = (C ++ L8).length ∧ FSt f8 (C ++ L8)) := by
  refine Wr.ofW (by decide) (Nat.le_of_ble_eq_true rfl) (fun p e s m below meth c ls E hG hE hP hr hk hin hl => ?_)
  have hS : va_S (fun q9 => q9 = x ∨ q9 = fs) s.heap s.heap [] := va_S.rf
  have hx := E.1
  have hb := E.2.1
  have hl : lv_has ls 2 [(0, .ref x), (1, .int (nI (3 - k)))] := hl
  have f_x := hP.1
  have f_tx := hP.2.1
  have f_fs := hP.2.2
  have hEA : ∀ q9, q9 = x ∨ q9 = fs → EFA G q9 := fun q9 h9 => h9.elim (fun z9 => by rw [z9]; exact hEx) (fun z9 => by rw [z9]; exact hEf)
  have htb := te_b hB hs9
  have hCn : C.length ≤ n := by omega
  by_cases hkd : kd bf n s9 = 1001
  · have hnp : ¬ bt bf n s9 = 40 := fun z9 => by have y9 := (kd_sym (c := 40) hB (by decide)).mpr z9; rw [hkd] at y9; exact absurd y9 (by decide)
    have hd := (kd_num hB).mp hkd
    have hTK : TK bf n (pl (.ok (s9, []) : Rr)) 0 (-1) (kd bf n s9) (nI s9) (nI (te bf n s9)) (va bf n s9) := ⟨rfl, rfl, hs9, rfl, rfl, rfl, rfl⟩
    have hlt := kd_lt hkd (by decide)
    refine lv_aload_n hx hb dX6_readFactor_0 rfl (lv_at hl 0 rfl) ?_
    refine gf_X6_39 E hG f_x rfl dX6_readFactor_1 ?_
    refine lv_sipush (v := 1001) hx hb dX6_readFactor_4 rfl ?_
    refine lv_icmp_ne (tgt := 25) hx hb dX6_readFactor_7 (by decide) (fun c_7 => ?_) (fun c_7 => ?_)
    · exact (by rw [hkd] at c_7; exact absurd c_7 (by decide))
    refine lv_aload_n hx hb dX6_readFactor_10 rfl (lv_at hl 0 rfl) ?_
    refine lv_aload_n hx hb dX6_readFactor_11 rfl (lv_at hl 0 rfl) ?_
    refine lv_iconst (v := 0) hx hb dX6_readFactor_12 rfl ?_
    refine lv_sipush (v := 9999) hx hb dX6_readFactor_13 rfl ?_
    refine Wr.callV (rest := [.ref x]) (c_X6_readNumber_u l G hB n hn9 hEx ne_tx_x (.ok (s9, [])) hTK 0 9999 ⟨0, 9999, rfl, rfl, by decide, by decide⟩) yk_X6_readNumber E km_X6_115 dX6_readFactor_16 hG (hE.S hS hEA) ⟨f_x, f_tx⟩ (At.recv hG f_x rfl) rfl rfl hl.1 ⟨by show _ ≤ fr + 2; omega, by show _ ≤ lo + 44; omega⟩ ⟨(show 0 + 0 ≤ 0 by omega), (show 0 + 0 ≤ 0 by omega)⟩ (Nat.le_of_ble_eq_true rfl) hS (fun _ h9 => Or.inl h9) (fun v9 H locs hq hz9 hfr9 hS => ?_)
    have f_tx : At G tx (.inl (G.2.1 0, n, .inl (sB bf))) H := va_at.kept f_tx (hfr9 _ (va_at.lt f_tx) ne_tx_x)
    have f_fs : At G fs (.inl (G.2.1 1, n, .inl f)) H := va_at.kept f_fs (hfr9 _ (va_at.lt f_fs) ne_fs_x)
    obtain ⟨v_1, er, es, ki, st, en, vv, rfl, f_x, hTK, hv_1⟩ := hq
    rcases hnu : numF bf n 0 9999 s9 with e7 | ⟨s7, v7⟩
    · rw [nbL_er hnu] at hTK
      refine Wr.callV (rest := []) (c_X6_addFeeStep l G hn9 ne_fs_x C.length hCn v_1) yk_X6_addFeeStep E km_X6_192 dX6_readFactor_19 hG (hE.S hS hEA) ⟨f_x, f_fs⟩ (At.recv hG f_x rfl) rfl rfl hl.1 ⟨by show _ ≤ fr + 2; omega, by show _ ≤ lo + 44; omega⟩ ⟨(show 0 + 0 + 0 ≤ 0 by omega), (show 0 + 0 + 0 ≤ 0 by omega)⟩ (Nat.le_of_ble_eq_true rfl) hS (fun _ h9 => h9) (fun v9 H locs hq hz9 hfr9 hS => ?_)
      have f_tx : At G tx (.inl (G.2.1 0, n, .inl (sB bf))) H := va_at.kept f_tx (hfr9 _ (va_at.lt f_tx) (fun z9 => z9.elim ne_tx_x ne_tx_fs))
      obtain ⟨rfl, k_2, f_29, hk_2, hadd_2, f_x, f_fs⟩ := hq
      refine lv_goto (tgt := 101) hx hb dX6_readFactor_22 (by decide) ?_
      exact wr_void E hr hk hS (show 0 + 0 + 0 ≤ 0 by omega) (show 0 + 0 + 0 ≤ 0 by omega) (⟨rfl, _, _, _, _, _, _, _, _, hk_2, f_x, f_fs, by rw [fcF_o hnp, opF_de hd hnu]; exact hTK, fun s8 L8 z => by rw [fcF_o hnp, opF_de hd hnu] at z; cases z⟩) dX6_readFactor_101
    · rw [nbL_ok hnu] at hTK
      obtain ⟨s6, L6, e6, -, hv7⟩ := hv_1 _ _ (nbL_ok hnu)
      cases e6
      rw [hnu] at hv7
      have ev : v7 = v_1 := congrArg Prod.snd (Except.ok.inj hv7)
      rw [ev] at hnu
      refine Wr.callV (rest := []) (c_X6_addFeeStep l G hn9 ne_fs_x C.length hCn v_1) yk_X6_addFeeStep E km_X6_192 dX6_readFactor_19 hG (hE.S hS hEA) ⟨f_x, f_fs⟩ (At.recv hG f_x rfl) rfl rfl hl.1 ⟨by show _ ≤ fr + 2; omega, by show _ ≤ lo + 44; omega⟩ ⟨(show 0 + 0 + 0 ≤ 0 by omega), (show 0 + 0 + 0 ≤ 0 by omega)⟩ (Nat.le_of_ble_eq_true rfl) hS (fun _ h9 => h9) (fun v9 H locs hq hz9 hfr9 hS => ?_)
      have f_tx : At G tx (.inl (G.2.1 0, n, .inl (sB bf))) H := va_at.kept f_tx (hfr9 _ (va_at.lt f_tx) (fun z9 => z9.elim ne_tx_x ne_tx_fs))
      obtain ⟨rfl, k_3, f_39, hk_3, hadd_3, f_x, f_fs⟩ := hq
      refine lv_goto (tgt := 101) hx hb dX6_readFactor_22 (by decide) ?_
      obtain ⟨ek, eg⟩ := hadd_3 (by omega)
      subst ek eg
      exact wr_void E hr hk hS (show 0 + 0 + 0 ≤ 0 by omega) (show 0 + 0 + 0 ≤ 0 by omega) (⟨rfl, _, _, _, _, _, _, _, _, hk_3, f_x, f_fs, by rw [fcF_o hnp, opF_d hd hnu]; exact hTK, fun s8 L8 z => by rw [fcF_o hnp, opF_d hd hnu] at z; cases z; exact ⟨by rw [List.length_append, List.length_singleton], hF0.add v_1⟩⟩) dX6_readFactor_101
  · have hd : ¬ inV (bt bf n s9) 48 57 = 1 := fun z9 => hkd ((kd_num hB).mpr z9)
    by_cases h6 : isW bf n s9 (txt 6)
    · have hnp := isW_np hB (txt_L (i := 6) (by decide)) h6
      have hlt := kd_lt ((isW_iff hB (txt_L (i := 6) (by decide))).mp h6).1 (by decide)
      refine lv_aload_n hx hb dX6_readFactor_0 rfl (lv_at hl 0 rfl) ?_
      refine gf_X6_39 E hG f_x rfl dX6_readFactor_1 ?_
      refine lv_sipush (v := 1001) hx hb dX6_readFactor_4 rfl ?_
      refine lv_icmp_ne (tgt := 25) hx hb dX6_readFactor_7 (by decide) (fun c_7 => ?_) (fun c_7 => ?_)
      rotate_left
      · exact absurd c_7 hkd
      refine lv_aload_n hx hb dX6_readFactor_25 rfl (lv_at hl 0 rfl) ?_
      refine va_ldcS hx hb E.2.2.2.1 (hG.2.2.2.2.2.1 (RX6, 198, "amount", 6) (by decide +kernel)) dX6_readFactor_26 ?_
      refine Wr.callV (rest := []) (c_X6_tookWord_y l G hB n hn9 hEx ne_tx_x s9 hs9 (isT_c (i := 6) (by decide)) (txt_A (i := 6) (by decide)).1 (txt_A (i := 6) (by decide)).2 (txt_L (i := 6) (by decide)) h6) yk_X6_tookWord E km_X6_142 dX6_readFactor_28 hG (hE.S hS hEA) ⟨f_x, f_tx⟩ (At.recv hG f_x rfl) rfl rfl hl.1 ⟨by show _ ≤ fr + 2; omega, by show _ ≤ lo + 44; omega⟩ ⟨(show 0 + 0 ≤ 0 by omega), (show 0 + 0 ≤ 0 by omega)⟩ (Nat.le_of_ble_eq_true rfl) hS (fun _ h9 => Or.inl h9) (fun v9 H locs hq hz9 hfr9 hS => ?_)
      have f_tx : At G tx (.inl (G.2.1 0, n, .inl (sB bf))) H := va_at.kept f_tx (hfr9 _ (va_at.lt f_tx) ne_tx_x)
      have f_fs : At G fs (.inl (G.2.1 1, n, .inl f)) H := va_at.kept f_fs (hfr9 _ (va_at.lt f_fs) ne_fs_x)
      obtain ⟨rfl, er, es, ki, st, en, vv, f_x, hTK⟩ := hq
      refine lv_if_eq (tgt := 42) hx hb dX6_readFactor_31 (by decide) (fun c_31 => ?_) (fun c_31 => ?_)
      · exact absurd c_31 (by decide)
      refine lv_aload_n hx hb dX6_readFactor_34 rfl (lv_at hl 0 rfl) ?_
      refine lv_iconst (v := (-1)) hx hb dX6_readFactor_35 rfl ?_
      refine Wr.callV (rest := []) (c_X6_addFeeStep l G hn9 ne_fs_x C.length hCn (-1)) yk_X6_addFeeStep E km_X6_192 dX6_readFactor_36 hG (hE.S hS hEA) ⟨f_x, f_fs⟩ (At.recv hG f_x rfl) rfl rfl hl.1 ⟨by show _ ≤ fr + 2; omega, by show _ ≤ lo + 44; omega⟩ ⟨(show 0 + 0 + 0 ≤ 0 by omega), (show 0 + 0 + 0 ≤ 0 by omega)⟩ (Nat.le_of_ble_eq_true rfl) hS (fun _ h9 => h9) (fun v9 H locs hq hz9 hfr9 hS => ?_)
      have f_tx : At G tx (.inl (G.2.1 0, n, .inl (sB bf))) H := va_at.kept f_tx (hfr9 _ (va_at.lt f_tx) (fun z9 => z9.elim ne_tx_x ne_tx_fs))
      obtain ⟨rfl, k_4, f_49, hk_4, hadd_4, f_x, f_fs⟩ := hq
      refine lv_goto (tgt := 101) hx hb dX6_readFactor_39 (by decide) ?_
      obtain ⟨ek, eg⟩ := hadd_4 (by omega)
      subst ek eg
      exact wr_void E hr hk hS (show 0 + 0 + 0 ≤ 0 by omega) (show 0 + 0 + 0 ≤ 0 by omega) (⟨rfl, _, _, _, _, _, _, _, _, hk_4, f_x, f_fs, by rw [fcF_o hnp, opF_6 hd h6]; exact hTK, fun s8 L8 z => by rw [fcF_o hnp, opF_6 hd h6] at z; cases z; exact ⟨by rw [List.length_append, List.length_singleton], hF0.add (-1)⟩⟩) dX6_readFactor_101
    · by_cases h7 : isW bf n s9 (txt 7)
      · have hnp := isW_np hB (txt_L (i := 7) (by decide)) h7
        have hlt := kd_lt ((isW_iff hB (txt_L (i := 7) (by decide))).mp h7).1 (by decide)
        refine lv_aload_n hx hb dX6_readFactor_0 rfl (lv_at hl 0 rfl) ?_
        refine gf_X6_39 E hG f_x rfl dX6_readFactor_1 ?_
        refine lv_sipush (v := 1001) hx hb dX6_readFactor_4 rfl ?_
        refine lv_icmp_ne (tgt := 25) hx hb dX6_readFactor_7 (by decide) (fun c_7 => ?_) (fun c_7 => ?_)
        rotate_left
        · exact absurd c_7 hkd
        refine lv_aload_n hx hb dX6_readFactor_25 rfl (lv_at hl 0 rfl) ?_
        refine va_ldcS hx hb E.2.2.2.1 (hG.2.2.2.2.2.1 (RX6, 198, "amount", 6) (by decide +kernel)) dX6_readFactor_26 ?_
        refine Wr.callV (rest := []) (c_X6_tookWord_n l G hB n hn9 hEx ne_tx_x s9 hs9 (isT_c (i := 6) (by decide)) (txt_A (i := 6) (by decide)).1 (txt_A (i := 6) (by decide)).2 (txt_L (i := 6) (by decide)) h6) yk_X6_tookWord E km_X6_142 dX6_readFactor_28 hG (hE.S hS hEA) ⟨f_x, f_tx⟩ (At.recv hG f_x rfl) rfl rfl hl.1 ⟨by show _ ≤ fr + 2; omega, by show _ ≤ lo + 44; omega⟩ ⟨(show 0 + 0 ≤ 0 by omega), (show 0 + 0 ≤ 0 by omega)⟩ (Nat.le_of_ble_eq_true rfl) hS (fun _ h9 => Or.inl h9) (fun v9 H locs hq hz9 hfr9 hS => ?_)
        have f_tx : At G tx (.inl (G.2.1 0, n, .inl (sB bf))) H := va_at.kept f_tx (hfr9 _ (va_at.lt f_tx) ne_tx_x)
        have f_fs : At G fs (.inl (G.2.1 1, n, .inl f)) H := va_at.kept f_fs (hfr9 _ (va_at.lt f_fs) ne_fs_x)
        obtain ⟨rfl, f_x⟩ := hq
        refine lv_if_eq (tgt := 42) hx hb dX6_readFactor_31 (by decide) (fun c_31 => ?_) (fun c_31 => ?_)
        rotate_left
        · exact absurd c_31 (by decide)
        refine lv_aload_n hx hb dX6_readFactor_42 rfl (lv_at hl 0 rfl) ?_
        refine va_ldcS hx hb E.2.2.2.1 (hG.2.2.2.2.2.1 (RX6, 199, "days", 7) (by decide +kernel)) dX6_readFactor_43 ?_
        refine Wr.callV (rest := []) (c_X6_tookWord_y l G hB n hn9 hEx ne_tx_x s9 hs9 (isT_c (i := 7) (by decide)) (txt_A (i := 7) (by decide)).1 (txt_A (i := 7) (by decide)).2 (txt_L (i := 7) (by decide)) h7) yk_X6_tookWord E km_X6_142 dX6_readFactor_45 hG (hE.S hS hEA) ⟨f_x, f_tx⟩ (At.recv hG f_x rfl) rfl rfl hl.1 ⟨by show _ ≤ fr + 2; omega, by show _ ≤ lo + 44; omega⟩ ⟨(show 0 + 0 + 0 ≤ 0 by omega), (show 0 + 0 + 0 ≤ 0 by omega)⟩ (Nat.le_of_ble_eq_true rfl) hS (fun _ h9 => Or.inl h9) (fun v9 H locs hq hz9 hfr9 hS => ?_)
        have f_tx : At G tx (.inl (G.2.1 0, n, .inl (sB bf))) H := va_at.kept f_tx (hfr9 _ (va_at.lt f_tx) ne_tx_x)
        have f_fs : At G fs (.inl (G.2.1 1, n, .inl f)) H := va_at.kept f_fs (hfr9 _ (va_at.lt f_fs) ne_fs_x)
        obtain ⟨rfl, er, es, ki, st, en, vv, f_x, hTK⟩ := hq
        refine lv_if_eq (tgt := 60) hx hb dX6_readFactor_48 (by decide) (fun c_48 => ?_) (fun c_48 => ?_)
        · exact absurd c_48 (by decide)
        refine lv_aload_n hx hb dX6_readFactor_51 rfl (lv_at hl 0 rfl) ?_
        refine lv_bipush (v := (-2)) hx hb dX6_readFactor_52 rfl ?_
        refine Wr.callV (rest := []) (c_X6_addFeeStep l G hn9 ne_fs_x C.length hCn (-2)) yk_X6_addFeeStep E km_X6_192 dX6_readFactor_54 hG (hE.S hS hEA) ⟨f_x, f_fs⟩ (At.recv hG f_x rfl) rfl rfl hl.1 ⟨by show _ ≤ fr + 2; omega, by show _ ≤ lo + 44; omega⟩ ⟨(show 0 + 0 + 0 + 0 ≤ 0 by omega), (show 0 + 0 + 0 + 0 ≤ 0 by omega)⟩ (Nat.le_of_ble_eq_true rfl) hS (fun _ h9 => h9) (fun v9 H locs hq hz9 hfr9 hS => ?_)
        have f_tx : At G tx (.inl (G.2.1 0, n, .inl (sB bf))) H := va_at.kept f_tx (hfr9 _ (va_at.lt f_tx) (fun z9 => z9.elim ne_tx_x ne_tx_fs))
        obtain ⟨rfl, k_5, f_59, hk_5, hadd_5, f_x, f_fs⟩ := hq
        refine lv_goto (tgt := 101) hx hb dX6_readFactor_57 (by decide) ?_
        obtain ⟨ek, eg⟩ := hadd_5 (by omega)
        subst ek eg
        exact wr_void E hr hk hS (show 0 + 0 + 0 + 0 ≤ 0 by omega) (show 0 + 0 + 0 + 0 ≤ 0 by omega) (⟨rfl, _, _, _, _, _, _, _, _, hk_5, f_x, f_fs, by rw [fcF_o hnp, opF_7 hd h6 h7]; exact hTK, fun s8 L8 z => by rw [fcF_o hnp, opF_7 hd h6 h7] at z; cases z; exact ⟨by rw [List.length_append, List.length_singleton], hF0.add (-2)⟩⟩) dX6_readFactor_101
      · by_cases h8 : isW bf n s9 (txt 8)
        · have hnp := isW_np hB (txt_L (i := 8) (by decide)) h8
          have hlt := kd_lt ((isW_iff hB (txt_L (i := 8) (by decide))).mp h8).1 (by decide)
          refine lv_aload_n hx hb dX6_readFactor_0 rfl (lv_at hl 0 rfl) ?_
          refine gf_X6_39 E hG f_x rfl dX6_readFactor_1 ?_
          refine lv_sipush (v := 1001) hx hb dX6_readFactor_4 rfl ?_
          refine lv_icmp_ne (tgt := 25) hx hb dX6_readFactor_7 (by decide) (fun c_7 => ?_) (fun c_7 => ?_)
          rotate_left
          · exact absurd c_7 hkd
          refine lv_aload_n hx hb dX6_readFactor_25 rfl (lv_at hl 0 rfl) ?_
          refine va_ldcS hx hb E.2.2.2.1 (hG.2.2.2.2.2.1 (RX6, 198, "amount", 6) (by decide +kernel)) dX6_readFactor_26 ?_
          refine Wr.callV (rest := []) (c_X6_tookWord_n l G hB n hn9 hEx ne_tx_x s9 hs9 (isT_c (i := 6) (by decide)) (txt_A (i := 6) (by decide)).1 (txt_A (i := 6) (by decide)).2 (txt_L (i := 6) (by decide)) h6) yk_X6_tookWord E km_X6_142 dX6_readFactor_28 hG (hE.S hS hEA) ⟨f_x, f_tx⟩ (At.recv hG f_x rfl) rfl rfl hl.1 ⟨by show _ ≤ fr + 2; omega, by show _ ≤ lo + 44; omega⟩ ⟨(show 0 + 0 ≤ 0 by omega), (show 0 + 0 ≤ 0 by omega)⟩ (Nat.le_of_ble_eq_true rfl) hS (fun _ h9 => Or.inl h9) (fun v9 H locs hq hz9 hfr9 hS => ?_)
          have f_tx : At G tx (.inl (G.2.1 0, n, .inl (sB bf))) H := va_at.kept f_tx (hfr9 _ (va_at.lt f_tx) ne_tx_x)
          have f_fs : At G fs (.inl (G.2.1 1, n, .inl f)) H := va_at.kept f_fs (hfr9 _ (va_at.lt f_fs) ne_fs_x)
          obtain ⟨rfl, f_x⟩ := hq
          refine lv_if_eq (tgt := 42) hx hb dX6_readFactor_31 (by decide) (fun c_31 => ?_) (fun c_31 => ?_)
          rotate_left
          · exact absurd c_31 (by decide)
          refine lv_aload_n hx hb dX6_readFactor_42 rfl (lv_at hl 0 rfl) ?_
          refine va_ldcS hx hb E.2.2.2.1 (hG.2.2.2.2.2.1 (RX6, 199, "days", 7) (by decide +kernel)) dX6_readFactor_43 ?_
          refine Wr.callV (rest := []) (c_X6_tookWord_n l G hB n hn9 hEx ne_tx_x s9 hs9 (isT_c (i := 7) (by decide)) (txt_A (i := 7) (by decide)).1 (txt_A (i := 7) (by decide)).2 (txt_L (i := 7) (by decide)) h7) yk_X6_tookWord E km_X6_142 dX6_readFactor_45 hG (hE.S hS hEA) ⟨f_x, f_tx⟩ (At.recv hG f_x rfl) rfl rfl hl.1 ⟨by show _ ≤ fr + 2; omega, by show _ ≤ lo + 44; omega⟩ ⟨(show 0 + 0 + 0 ≤ 0 by omega), (show 0 + 0 + 0 ≤ 0 by omega)⟩ (Nat.le_of_ble_eq_true rfl) hS (fun _ h9 => Or.inl h9) (fun v9 H locs hq hz9 hfr9 hS => ?_)
          have f_tx : At G tx (.inl (G.2.1 0, n, .inl (sB bf))) H := va_at.kept f_tx (hfr9 _ (va_at.lt f_tx) ne_tx_x)
          have f_fs : At G fs (.inl (G.2.1 1, n, .inl f)) H := va_at.kept f_fs (hfr9 _ (va_at.lt f_fs) ne_fs_x)
          obtain ⟨rfl, f_x⟩ := hq
          refine lv_if_eq (tgt := 60) hx hb dX6_readFactor_48 (by decide) (fun c_48 => ?_) (fun c_48 => ?_)
          rotate_left
          · exact absurd c_48 (by decide)
          refine lv_aload_n hx hb dX6_readFactor_60 rfl (lv_at hl 0 rfl) ?_
          refine va_ldcS hx hb E.2.2.2.1 (hG.2.2.2.2.2.1 (RX6, 201, "errors", 8) (by decide +kernel)) dX6_readFactor_61 ?_
          refine Wr.callV (rest := []) (c_X6_tookWord_y l G hB n hn9 hEx ne_tx_x s9 hs9 (isT_c (i := 8) (by decide)) (txt_A (i := 8) (by decide)).1 (txt_A (i := 8) (by decide)).2 (txt_L (i := 8) (by decide)) h8) yk_X6_tookWord E km_X6_142 dX6_readFactor_63 hG (hE.S hS hEA) ⟨f_x, f_tx⟩ (At.recv hG f_x rfl) rfl rfl hl.1 ⟨by show _ ≤ fr + 2; omega, by show _ ≤ lo + 44; omega⟩ ⟨(show 0 + 0 + 0 + 0 ≤ 0 by omega), (show 0 + 0 + 0 + 0 ≤ 0 by omega)⟩ (Nat.le_of_ble_eq_true rfl) hS (fun _ h9 => Or.inl h9) (fun v9 H locs hq hz9 hfr9 hS => ?_)
          have f_tx : At G tx (.inl (G.2.1 0, n, .inl (sB bf))) H := va_at.kept f_tx (hfr9 _ (va_at.lt f_tx) ne_tx_x)
          have f_fs : At G fs (.inl (G.2.1 1, n, .inl f)) H := va_at.kept f_fs (hfr9 _ (va_at.lt f_fs) ne_fs_x)
          obtain ⟨rfl, er, es, ki, st, en, vv, f_x, hTK⟩ := hq
          refine lv_if_eq (tgt := 78) hx hb dX6_readFactor_66 (by decide) (fun c_66 => ?_) (fun c_66 => ?_)
          · exact absurd c_66 (by decide)
          refine lv_aload_n hx hb dX6_readFactor_69 rfl (lv_at hl 0 rfl) ?_
          refine lv_bipush (v := (-3)) hx hb dX6_readFactor_70 rfl ?_
          refine Wr.callV (rest := []) (c_X6_addFeeStep l G hn9 ne_fs_x C.length hCn (-3)) yk_X6_addFeeStep E km_X6_192 dX6_readFactor_72 hG (hE.S hS hEA) ⟨f_x, f_fs⟩ (At.recv hG f_x rfl) rfl rfl hl.1 ⟨by show _ ≤ fr + 2; omega, by show _ ≤ lo + 44; omega⟩ ⟨(show 0 + 0 + 0 + 0 + 0 ≤ 0 by omega), (show 0 + 0 + 0 + 0 + 0 ≤ 0 by omega)⟩ (Nat.le_of_ble_eq_true rfl) hS (fun _ h9 => h9) (fun v9 H locs hq hz9 hfr9 hS => ?_)
          have f_tx : At G tx (.inl (G.2.1 0, n, .inl (sB bf))) H := va_at.kept f_tx (hfr9 _ (va_at.lt f_tx) (fun z9 => z9.elim ne_tx_x ne_tx_fs))
          obtain ⟨rfl, k_6, f_69, hk_6, hadd_6, f_x, f_fs⟩ := hq
          refine lv_goto (tgt := 101) hx hb dX6_readFactor_75 (by decide) ?_
          obtain ⟨ek, eg⟩ := hadd_6 (by omega)
          subst ek eg
          exact wr_void E hr hk hS (show 0 + 0 + 0 + 0 + 0 ≤ 0 by omega) (show 0 + 0 + 0 + 0 + 0 ≤ 0 by omega) (⟨rfl, _, _, _, _, _, _, _, _, hk_6, f_x, f_fs, by rw [fcF_o hnp, opF_8 hd h6 h7 h8]; exact hTK, fun s8 L8 z => by rw [fcF_o hnp, opF_8 hd h6 h7 h8] at z; cases z; exact ⟨by rw [List.length_append, List.length_singleton], hF0.add (-3)⟩⟩) dX6_readFactor_101
        · by_cases hp : kd bf n s9 = 40
          · refine lv_aload_n hx hb dX6_readFactor_0 rfl (lv_at hl 0 rfl) ?_
            refine gf_X6_39 E hG f_x rfl dX6_readFactor_1 ?_
            refine lv_sipush (v := 1001) hx hb dX6_readFactor_4 rfl ?_
            refine lv_icmp_ne (tgt := 25) hx hb dX6_readFactor_7 (by decide) (fun c_7 => ?_) (fun c_7 => ?_)
            rotate_left
            · exact absurd c_7 hkd
            refine lv_aload_n hx hb dX6_readFactor_25 rfl (lv_at hl 0 rfl) ?_
            refine va_ldcS hx hb E.2.2.2.1 (hG.2.2.2.2.2.1 (RX6, 198, "amount", 6) (by decide +kernel)) dX6_readFactor_26 ?_
            refine Wr.callV (rest := []) (c_X6_tookWord_n l G hB n hn9 hEx ne_tx_x s9 hs9 (isT_c (i := 6) (by decide)) (txt_A (i := 6) (by decide)).1 (txt_A (i := 6) (by decide)).2 (txt_L (i := 6) (by decide)) h6) yk_X6_tookWord E km_X6_142 dX6_readFactor_28 hG (hE.S hS hEA) ⟨f_x, f_tx⟩ (At.recv hG f_x rfl) rfl rfl hl.1 ⟨by show _ ≤ fr + 2; omega, by show _ ≤ lo + 44; omega⟩ ⟨(show 0 + 0 ≤ 0 by omega), (show 0 + 0 ≤ 0 by omega)⟩ (Nat.le_of_ble_eq_true rfl) hS (fun _ h9 => Or.inl h9) (fun v9 H locs hq hz9 hfr9 hS => ?_)
            have f_tx : At G tx (.inl (G.2.1 0, n, .inl (sB bf))) H := va_at.kept f_tx (hfr9 _ (va_at.lt f_tx) ne_tx_x)
            have f_fs : At G fs (.inl (G.2.1 1, n, .inl f)) H := va_at.kept f_fs (hfr9 _ (va_at.lt f_fs) ne_fs_x)
            obtain ⟨rfl, f_x⟩ := hq
            refine lv_if_eq (tgt := 42) hx hb dX6_readFactor_31 (by decide) (fun c_31 => ?_) (fun c_31 => ?_)
            rotate_left
            · exact absurd c_31 (by decide)
            refine lv_aload_n hx hb dX6_readFactor_42 rfl (lv_at hl 0 rfl) ?_
            refine va_ldcS hx hb E.2.2.2.1 (hG.2.2.2.2.2.1 (RX6, 199, "days", 7) (by decide +kernel)) dX6_readFactor_43 ?_
            refine Wr.callV (rest := []) (c_X6_tookWord_n l G hB n hn9 hEx ne_tx_x s9 hs9 (isT_c (i := 7) (by decide)) (txt_A (i := 7) (by decide)).1 (txt_A (i := 7) (by decide)).2 (txt_L (i := 7) (by decide)) h7) yk_X6_tookWord E km_X6_142 dX6_readFactor_45 hG (hE.S hS hEA) ⟨f_x, f_tx⟩ (At.recv hG f_x rfl) rfl rfl hl.1 ⟨by show _ ≤ fr + 2; omega, by show _ ≤ lo + 44; omega⟩ ⟨(show 0 + 0 + 0 ≤ 0 by omega), (show 0 + 0 + 0 ≤ 0 by omega)⟩ (Nat.le_of_ble_eq_true rfl) hS (fun _ h9 => Or.inl h9) (fun v9 H locs hq hz9 hfr9 hS => ?_)
            have f_tx : At G tx (.inl (G.2.1 0, n, .inl (sB bf))) H := va_at.kept f_tx (hfr9 _ (va_at.lt f_tx) ne_tx_x)
            have f_fs : At G fs (.inl (G.2.1 1, n, .inl f)) H := va_at.kept f_fs (hfr9 _ (va_at.lt f_fs) ne_fs_x)
            obtain ⟨rfl, f_x⟩ := hq
            refine lv_if_eq (tgt := 60) hx hb dX6_readFactor_48 (by decide) (fun c_48 => ?_) (fun c_48 => ?_)
            rotate_left
            · exact absurd c_48 (by decide)
            refine lv_aload_n hx hb dX6_readFactor_60 rfl (lv_at hl 0 rfl) ?_
            refine va_ldcS hx hb E.2.2.2.1 (hG.2.2.2.2.2.1 (RX6, 201, "errors", 8) (by decide +kernel)) dX6_readFactor_61 ?_
            refine Wr.callV (rest := []) (c_X6_tookWord_n l G hB n hn9 hEx ne_tx_x s9 hs9 (isT_c (i := 8) (by decide)) (txt_A (i := 8) (by decide)).1 (txt_A (i := 8) (by decide)).2 (txt_L (i := 8) (by decide)) h8) yk_X6_tookWord E km_X6_142 dX6_readFactor_63 hG (hE.S hS hEA) ⟨f_x, f_tx⟩ (At.recv hG f_x rfl) rfl rfl hl.1 ⟨by show _ ≤ fr + 2; omega, by show _ ≤ lo + 44; omega⟩ ⟨(show 0 + 0 + 0 + 0 ≤ 0 by omega), (show 0 + 0 + 0 + 0 ≤ 0 by omega)⟩ (Nat.le_of_ble_eq_true rfl) hS (fun _ h9 => Or.inl h9) (fun v9 H locs hq hz9 hfr9 hS => ?_)
            have f_tx : At G tx (.inl (G.2.1 0, n, .inl (sB bf))) H := va_at.kept f_tx (hfr9 _ (va_at.lt f_tx) ne_tx_x)
            have f_fs : At G fs (.inl (G.2.1 1, n, .inl f)) H := va_at.kept f_fs (hfr9 _ (va_at.lt f_fs) ne_fs_x)
            obtain ⟨rfl, f_x⟩ := hq
            refine lv_if_eq (tgt := 78) hx hb dX6_readFactor_66 (by decide) (fun c_66 => ?_) (fun c_66 => ?_)
            rotate_left
            · exact absurd c_66 (by decide)
            refine lv_aload_n hx hb dX6_readFactor_78 rfl (lv_at hl 0 rfl) ?_
            refine gf_X6_39 E hG f_x rfl dX6_readFactor_79 ?_
            refine lv_bipush (v := 40) hx hb dX6_readFactor_82 rfl ?_
            refine lv_icmp_ne (tgt := 95) hx hb dX6_readFactor_84 (by decide) (fun c_84 => ?_) (fun c_84 => ?_)
            · exact (by rw [hp] at c_84; exact absurd c_84 (by decide))
            refine lv_aload_n hx hb dX6_readFactor_87 rfl (lv_at hl 0 rfl) ?_
            refine lv_iload_n hx hb dX6_readFactor_88 rfl (lv_at hl 1 rfl) ?_
            refine Wr.callV (rest := []) (c_X6_readParentheses_s l G hB n hn9 hEx hEf ne_tx_x ne_fs_x ne_tx_fs s9 hs9 C hC hF0 hp k hk9 hfr hlo hF) yk_X6_readParentheses E km_X6_203 dX6_readFactor_89 hG (hE.S hS hEA) ⟨f_x, f_tx, f_fs⟩ (At.recv hG f_x rfl) rfl rfl hl.1 ⟨by show _ ≤ fr + 2; omega, by show _ ≤ lo + 44; omega⟩ ⟨(show 0 + 0 + 0 + 0 + 0 ≤ 0 by omega), (show 0 + 0 + 0 + 0 + 0 ≤ 0 by omega)⟩ (Nat.le_of_ble_eq_true rfl) hS (fun _ h9 => h9) (fun v9 H locs hq hz9 hfr9 hS => ?_)
            have f_tx : At G tx (.inl (G.2.1 0, n, .inl (sB bf))) H := va_at.kept f_tx (hfr9 _ (va_at.lt f_tx) (fun z9 => z9.elim ne_tx_x ne_tx_fs))
            obtain ⟨rfl, er, es, ki, st, en, vv, k7, f7, hk7, f_x, f_fs, hTK, hL⟩ := hq
            refine lv_goto (tgt := 101) hx hb dX6_readFactor_92 (by decide) ?_
            exact wr_void E hr hk hS (show 0 + 0 + 0 + 0 + 0 ≤ 0 by omega) (show 0 + 0 + 0 + 0 + 0 ≤ 0 by omega) (⟨rfl, _, _, _, _, _, _, _, _, hk7, f_x, f_fs, hTK, hL⟩) dX6_readFactor_101
          · have hnp : ¬ bt bf n s9 = 40 := fun z9 => hp ((kd_sym (c := 40) hB (by decide)).mpr z9)
            refine lv_aload_n hx hb dX6_readFactor_0 rfl (lv_at hl 0 rfl) ?_
            refine gf_X6_39 E hG f_x rfl dX6_readFactor_1 ?_
            refine lv_sipush (v := 1001) hx hb dX6_readFactor_4 rfl ?_
            refine lv_icmp_ne (tgt := 25) hx hb dX6_readFactor_7 (by decide) (fun c_7 => ?_) (fun c_7 => ?_)
            · refine lv_aload_n hx hb dX6_readFactor_25 rfl (lv_at hl 0 rfl) ?_
              refine va_ldcS hx hb E.2.2.2.1 (hG.2.2.2.2.2.1 (RX6, 198, "amount", 6) (by decide +kernel)) dX6_readFactor_26 ?_
              refine Wr.callV (rest := []) (c_X6_tookWord_n l G hB n hn9 hEx ne_tx_x s9 hs9 (isT_c (i := 6) (by decide)) (txt_A (i := 6) (by decide)).1 (txt_A (i := 6) (by decide)).2 (txt_L (i := 6) (by decide)) h6) yk_X6_tookWord E km_X6_142 dX6_readFactor_28 hG (hE.S hS hEA) ⟨f_x, f_tx⟩ (At.recv hG f_x rfl) rfl rfl hl.1 ⟨by show _ ≤ fr + 2; omega, by show _ ≤ lo + 44; omega⟩ ⟨(show 0 + 0 ≤ 0 by omega), (show 0 + 0 ≤ 0 by omega)⟩ (Nat.le_of_ble_eq_true rfl) hS (fun _ h9 => Or.inl h9) (fun v9 H locs hq hz9 hfr9 hS => ?_)
              have f_tx : At G tx (.inl (G.2.1 0, n, .inl (sB bf))) H := va_at.kept f_tx (hfr9 _ (va_at.lt f_tx) ne_tx_x)
              have f_fs : At G fs (.inl (G.2.1 1, n, .inl f)) H := va_at.kept f_fs (hfr9 _ (va_at.lt f_fs) ne_fs_x)
              obtain ⟨rfl, f_x⟩ := hq
              refine lv_if_eq (tgt := 42) hx hb dX6_readFactor_31 (by decide) (fun c_31 => ?_) (fun c_31 => ?_)
              · refine lv_aload_n hx hb dX6_readFactor_42 rfl (lv_at hl 0 rfl) ?_
                refine va_ldcS hx hb E.2.2.2.1 (hG.2.2.2.2.2.1 (RX6, 199, "days", 7) (by decide +kernel)) dX6_readFactor_43 ?_
                refine Wr.callV (rest := []) (c_X6_tookWord_n l G hB n hn9 hEx ne_tx_x s9 hs9 (isT_c (i := 7) (by decide)) (txt_A (i := 7) (by decide)).1 (txt_A (i := 7) (by decide)).2 (txt_L (i := 7) (by decide)) h7) yk_X6_tookWord E km_X6_142 dX6_readFactor_45 hG (hE.S hS hEA) ⟨f_x, f_tx⟩ (At.recv hG f_x rfl) rfl rfl hl.1 ⟨by show _ ≤ fr + 2; omega, by show _ ≤ lo + 44; omega⟩ ⟨(show 0 + 0 + 0 ≤ 0 by omega), (show 0 + 0 + 0 ≤ 0 by omega)⟩ (Nat.le_of_ble_eq_true rfl) hS (fun _ h9 => Or.inl h9) (fun v9 H locs hq hz9 hfr9 hS => ?_)
                have f_tx : At G tx (.inl (G.2.1 0, n, .inl (sB bf))) H := va_at.kept f_tx (hfr9 _ (va_at.lt f_tx) ne_tx_x)
                have f_fs : At G fs (.inl (G.2.1 1, n, .inl f)) H := va_at.kept f_fs (hfr9 _ (va_at.lt f_fs) ne_fs_x)
                obtain ⟨rfl, f_x⟩ := hq
                refine lv_if_eq (tgt := 60) hx hb dX6_readFactor_48 (by decide) (fun c_48 => ?_) (fun c_48 => ?_)
                · refine lv_aload_n hx hb dX6_readFactor_60 rfl (lv_at hl 0 rfl) ?_
                  refine va_ldcS hx hb E.2.2.2.1 (hG.2.2.2.2.2.1 (RX6, 201, "errors", 8) (by decide +kernel)) dX6_readFactor_61 ?_
                  refine Wr.callV (rest := []) (c_X6_tookWord_n l G hB n hn9 hEx ne_tx_x s9 hs9 (isT_c (i := 8) (by decide)) (txt_A (i := 8) (by decide)).1 (txt_A (i := 8) (by decide)).2 (txt_L (i := 8) (by decide)) h8) yk_X6_tookWord E km_X6_142 dX6_readFactor_63 hG (hE.S hS hEA) ⟨f_x, f_tx⟩ (At.recv hG f_x rfl) rfl rfl hl.1 ⟨by show _ ≤ fr + 2; omega, by show _ ≤ lo + 44; omega⟩ ⟨(show 0 + 0 + 0 + 0 ≤ 0 by omega), (show 0 + 0 + 0 + 0 ≤ 0 by omega)⟩ (Nat.le_of_ble_eq_true rfl) hS (fun _ h9 => Or.inl h9) (fun v9 H locs hq hz9 hfr9 hS => ?_)
                  have f_tx : At G tx (.inl (G.2.1 0, n, .inl (sB bf))) H := va_at.kept f_tx (hfr9 _ (va_at.lt f_tx) ne_tx_x)
                  have f_fs : At G fs (.inl (G.2.1 1, n, .inl f)) H := va_at.kept f_fs (hfr9 _ (va_at.lt f_fs) ne_fs_x)
                  obtain ⟨rfl, f_x⟩ := hq
                  refine lv_if_eq (tgt := 78) hx hb dX6_readFactor_66 (by decide) (fun c_66 => ?_) (fun c_66 => ?_)
                  · refine lv_aload_n hx hb dX6_readFactor_78 rfl (lv_at hl 0 rfl) ?_
                    refine gf_X6_39 E hG f_x rfl dX6_readFactor_79 ?_
                    refine lv_bipush (v := 40) hx hb dX6_readFactor_82 rfl ?_
                    refine lv_icmp_ne (tgt := 95) hx hb dX6_readFactor_84 (by decide) (fun c_84 => ?_) (fun c_84 => ?_)
                    · refine lv_aload_n hx hb dX6_readFactor_95 rfl (lv_at hl 0 rfl) ?_
                      refine lv_bipush (v := (-2)) hx hb dX6_readFactor_96 rfl ?_
                      refine Wr.callV (rest := []) (c_X6_fail l G hEx (-2) rfl) yk_X6_fail E km_X6_65 dX6_readFactor_98 hG (hE.S hS hEA) f_x (At.recv hG f_x rfl) rfl rfl hl.1 ⟨by show _ ≤ fr + 2; omega, by show _ ≤ lo + 44; omega⟩ ⟨(show 0 + 0 + 0 + 0 + 0 ≤ 0 by omega), (show 0 + 0 + 0 + 0 + 0 ≤ 0 by omega)⟩ (Nat.le_of_ble_eq_true rfl) hS (fun _ h9 => Or.inl h9) (fun v9 H locs hq hz9 hfr9 hS => ?_)
                      have f_tx : At G tx (.inl (G.2.1 0, n, .inl (sB bf))) H := va_at.kept f_tx (hfr9 _ (va_at.lt f_tx) ne_tx_x)
                      have f_fs : At G fs (.inl (G.2.1 1, n, .inl f)) H := va_at.kept f_fs (hfr9 _ (va_at.lt f_fs) ne_fs_x)
                      obtain ⟨rfl, f_x⟩ := hq
                      exact wr_void E hr hk hS (show 0 + 0 + 0 + 0 + 0 ≤ 0 by omega) (show 0 + 0 + 0 + 0 + 0 ≤ 0 by omega) (⟨rfl, _, _, _, _, _, _, _, _, hCn, f_x, f_fs, by rw [fcF_o hnp, opF_n hd h6 h7 h8]; exact ⟨rfl, by decide, rfl, hs9, rfl⟩, fun s8 L8 z => by rw [fcF_o hnp, opF_n hd h6 h7 h8] at z; cases z⟩) dX6_readFactor_101
                    · exact absurd c_84 hp
                  · exact absurd c_66 (by decide)
                · exact absurd c_48 (by decide)
              · exact absurd c_31 (by decide)
            · exact absurd c_7 hkd
