/-! THE LAW: the loop, and the start -/
theorem law_cmp {i L : Nat} (hi : i ≤ 4000) (hL : L ≤ 3072) : nI L - 6 < nI i ↔ ¬ i + 6 ≤ L := by
  have h := pk_sub_toInt (a := L) (b := 6) (by omega) (by omega)
  rw [Int32.lt_iff_toInt_lt, show (6 : Int32) = nI 6 from rfl, h, nI_toInt (by omega)]
  omega
set_option maxHeartbeats 4000000 in
/-- the script ends -/
theorem law_out {p : Program} {l : Launch} {e : Env} {s : State} {m : MethodId} {below : List Frame} {meth : Method} {c : Code} {Q : State → Prop} {b L : Nat} {xs : Nat → Int32} {G : CG} {B : Nat → Nat} {x bu pa ou i c0 s0 : Nat} {H : Heap} {locs : List Loc} {ls : Array Slot} (E : CallFix p m c code 7 s ([.ref b] : List Value).toArray TB RL) (hG : KT G s) (hE : EF G s s.heap) (hXs : va_X b L xs s s.heap) (hbl : b < s.heap.size) (hL : L ≤ 3072) (hZ : EFA G s.heap.size) (hp : LAp G B x bu pa ou) (hnew : ∀ q, LAO B x bu pa ou q → s.heap.size ≤ q) (hi : i ≤ 3072) (hno : ¬ i + 6 ≤ L) (hS : va_S (fun q9 => s.heap.size ≤ q9) s.heap H locs) (hl : lv_has ls 7 [(4, .int (nI i)), (3, .ref ou), (2, .ref (B 0)), (1, .ref x), (0, .ref b)]) (hK : W p l e room_1 s m ([.ref b] : List Value).toArray below meth c H locs c0 s0 Q (F0 m 2036 ls [.int 1])) : W p l e room_1 s m ([.ref b] : List Value).toArray below meth c H locs c0 s0 Q (F0 m 23 ls []) := by
  have hx := E.1
  have hb := E.2.1
  have hbA : ¬ s.heap.size ≤ b := Nat.not_le.mpr hbl
  refine lv_iload hx hb dL_law_23 (lv_at hl 0 rfl) ?_
  refine lv_aload_n hx hb dL_law_25 rfl (lv_at hl 4 rfl) ?_
  refine va_slen hx hb hXs hbl hbA hS dL_law_26 ?_
  refine lv_ci (y := nI L) rfl ?_
  refine lv_bipush (v := 6) hx hb dL_law_27 rfl ?_
  refine lv_isub hx hb dL_law_29 ?_
  refine lv_icmp_gt hx hb (tgt := 2035) dL_law_30 rfl (fun h => ?_) (fun h => absurd ((law_cmp (by omega) hL).mpr hno) h)
  exact lv_iconst (v := 1) hx hb dL_law_2035 rfl hK
set_option maxHeartbeats 16000000 in
set_option maxRecDepth 100000 in
/-- one call -/
theorem law_in {p : Program} {l : Launch} {e : Env} {s : State} {m : MethodId} {below : List Frame} {meth : Method} {c : Code} {Q : State → Prop} {b L : Nat} {xs : Nat → Int32} {G : CG} {B : Nat → Nat} {x bu pa ou i c0 s0 : Nat} {H : Heap} {locs : List Loc} {ls : Array Slot} (hst : l.stackTraces = false) (E : CallFix p m c code 7 s ([.ref b] : List Value).toArray TB RL) (hG : KT G s) (hE : EF G s s.heap) (hXs : va_X b L xs s s.heap) (hbl : b < s.heap.size) (hL : L ≤ 3072) (hZ : EFA G s.heap.size) (hp : LAp G B x bu pa ou) (hnew : ∀ q, LAO B x bu pa ou q → s.heap.size ≤ q) (hi6 : i + 6 ≤ L) (hc9 : c0 + 200 ≤ 601024) (hs9 : s0 + 4000 ≤ 7293034) (hI : LI G B x bu pa ou H) (hS : va_S (fun q9 => s.heap.size ≤ q9) s.heap H locs) (hl : lv_has ls 7 [(4, .int (nI i)), (3, .ref ou), (2, .ref (B 0)), (1, .ref x), (0, .ref b)]) (hK : ∀ (H : Heap) (locs : List Loc) (cs sl : Nat), cs ≤ c0 + 200 → sl ≤ s0 + 4000 → LI G B x bu pa ou H → va_S (fun q9 => s.heap.size ≤ q9) s.heap H locs → ∀ ls : Array Slot, lv_has ls 7 [(4, .int (nI i)), (3, .ref ou), (2, .ref (B 0)), (1, .ref x), (0, .ref b)] → W p l e room_1 s m ([.ref b] : List Value).toArray below meth c H locs cs sl Q (F0 m 2029 ls [])) : W p l e room_1 s m ([.ref b] : List Value).toArray below meth c H locs c0 s0 Q (F0 m 23 ls []) := by
  have hx := E.1
  have hb := E.2.1
  have hbA : ¬ s.heap.size ≤ b := Nat.not_le.mpr hbl
  refine lv_iload hx hb dL_law_23 (lv_at hl 0 rfl) ?_
  refine lv_aload_n hx hb dL_law_25 rfl (lv_at hl 4 rfl) ?_
  refine va_slen hx hb hXs hbl hbA hS dL_law_26 ?_
  refine lv_ci (y := nI L) rfl ?_
  refine lv_bipush (v := 6) hx hb dL_law_27 rfl ?_
  refine lv_isub hx hb dL_law_29 ?_
  refine lv_icmp_gt hx hb (tgt := 2035) dL_law_30 rfl (fun h => absurd hi6 ((law_cmp (by omega) hL).mp h)) (fun _ => ?_)
  refine lv_aload_n hx hb dL_law_33 rfl (lv_at hl 4 rfl) ?_
  refine lv_iload hx hb dL_law_34 (lv_at hl 0 rfl) ?_
  refine l_sld (k := i) hx hb hXs hbl hbA hS rfl (by omega) hL rfl dL_law_36 ?_
  refine lv_bipush (v := 63) hx hb dL_law_37 rfl ?_
  refine lv_iand hx hb dL_law_39 ?_
  obtain ⟨w, hw, hwe⟩ := pk_andE (xs i) (m := 63) 6 (by decide)
  refine lv_ci (y := nI w) hwe ?_
  by_cases h33 : 33 < w
  · exact lv_tableOut (tgt := 2029) hx hb dL_law_40 (Or.inr (by rw [nI_toInt (by omega)]; omega)) rfl (hK H locs _ _ (by omega) (by omega) hI hS ls hl)
  obtain rfl | rfl | rfl | rfl | rfl | rfl | rfl | rfl | rfl | rfl | rfl | rfl | rfl | rfl | rfl | rfl | rfl | rfl | rfl | rfl | rfl | rfl | rfl | rfl | rfl | rfl | rfl | rfl | rfl | rfl | rfl | rfl | rfl | rfl := (show w = 0 ∨ w = 1 ∨ w = 2 ∨ w = 3 ∨ w = 4 ∨ w = 5 ∨ w = 6 ∨ w = 7 ∨ w = 8 ∨ w = 9 ∨ w = 10 ∨ w = 11 ∨ w = 12 ∨ w = 13 ∨ w = 14 ∨ w = 15 ∨ w = 16 ∨ w = 17 ∨ w = 18 ∨ w = 19 ∨ w = 20 ∨ w = 21 ∨ w = 22 ∨ w = 23 ∨ w = 24 ∨ w = 25 ∨ w = 26 ∨ w = 27 ∨ w = 28 ∨ w = 29 ∨ w = 30 ∨ w = 31 ∨ w = 32 ∨ w = 33 by omega)
  · exact lv_tableIn (off := 152) (tgt := 192) hx hb dL_law_40 (by decide) (by decide) (by decide +kernel) rfl (lc_append hst E hG hE hXs hbl hL hZ hp hnew hi6 hc9 hs9 hI hS hl hK)
  · exact lv_tableIn (off := 225) (tgt := 265) hx hb dL_law_40 (by decide) (by decide) (by decide +kernel) rfl (lc_load hst E hG hE hXs hbl hL hZ hp hnew hi6 hc9 hs9 hI hS hl hK)
  · exact lv_tableIn (off := 281) (tgt := 321) hx hb dL_law_40 (by decide) (by decide) (by decide +kernel) rfl (lc_errorOffset hst E hG hE hXs hbl hL hZ hp hnew hi6 hc9 hs9 hI hS hl hK)
  · exact lv_tableIn (off := 294) (tgt := 334) hx hb dL_law_40 (by decide) (by decide) (by decide +kernel) rfl (lc_creditCount hst E hG hE hXs hbl hL hZ hp hnew hi6 hc9 hs9 hI hS hl hK)
  · exact lv_tableIn (off := 307) (tgt := 347) hx hb dL_law_40 (by decide) (by decide) (by decide +kernel) rfl (lc_presentationCount hst E hG hE hXs hbl hL hZ hp hnew hi6 hc9 hs9 hI hS hl hK)
  · exact lv_tableIn (off := 320) (tgt := 360) hx hb dL_law_40 (by decide) (by decide) (by decide +kernel) rfl (lc_today hst E hG hE hXs hbl hL hZ hp hnew hi6 hc9 hs9 hI hS hl hK)
  · exact lv_tableIn (off := 333) (tgt := 373) hx hb dL_law_40 (by decide) (by decide) (by decide +kernel) rfl (lc_isBusinessDay hst E hG hE hXs hbl hL hZ hp hnew hi6 hc9 hs9 hI hS hl hK)
  · exact lv_tableIn (off := 396) (tgt := 436) hx hb dL_law_40 (by decide) (by decide) (by decide +kernel) rfl (lc_extended hst E hG hE hXs hbl hL hZ hp hnew hi6 hc9 hs9 hI hS hl hK)
  · exact lv_tableIn (off := 452) (tgt := 492) hx hb dL_law_40 (by decide) (by decide) (by decide +kernel) rfl (lc_addBusinessDays hst E hG hE hXs hbl hL hZ hp hnew hi6 hc9 hs9 hI hS hl hK)
  · exact lv_tableIn (off := 520) (tgt := 560) hx hb dL_law_40 (by decide) (by decide) (by decide +kernel) rfl (lc_businessDays hst E hG hE hXs hbl hL hZ hp hnew hi6 hc9 hs9 hI hS hl hK)
  · exact lv_tableIn (off := 588) (tgt := 628) hx hb dL_law_40 (by decide) (by decide) (by decide +kernel) rfl (lc_parent hst E hG hE hXs hbl hL hZ hp hnew hi6 hc9 hs9 hI hS hl hK)
  · exact lv_tableIn (off := 644) (tgt := 684) hx hb dL_law_40 (by decide) (by decide) (by decide +kernel) rfl (lc_bound hst E hG hE hXs hbl hL hZ hp hnew hi6 hc9 hs9 hI hS hl hK)
  · exact lv_tableIn (off := 728) (tgt := 768) hx hb dL_law_40 (by decide) (by decide) (by decide +kernel) rfl (lc_expiry hst E hG hE hXs hbl hL hZ hp hnew hi6 hc9 hs9 hI hS hl hK)
  · exact lv_tableIn (off := 784) (tgt := 824) hx hb dL_law_40 (by decide) (by decide) (by decide +kernel) rfl (lc_drawn hst E hG hE hXs hbl hL hZ hp hnew hi6 hc9 hs9 hI hS hl hK)
  · exact lv_tableIn (off := 840) (tgt := 880) hx hb dL_law_40 (by decide) (by decide) (by decide +kernel) rfl (lc_transferred hst E hG hE hXs hbl hL hZ hp hnew hi6 hc9 hs9 hI hS hl hK)
  · exact lv_tableIn (off := 896) (tgt := 936) hx hb dL_law_40 (by decide) (by decide) (by decide +kernel) rfl (lc_available hst E hG hE hXs hbl hL hZ hp hnew hi6 hc9 hs9 hI hS hl hK)
  · exact lv_tableIn (off := 952) (tgt := 992) hx hb dL_law_40 (by decide) (by decide) (by decide +kernel) rfl (lc_creditOf hst E hG hE hXs hbl hL hZ hp hnew hi6 hc9 hs9 hI hS hl hK)
  · exact lv_tableIn (off := 1008) (tgt := 1048) hx hb dL_law_40 (by decide) (by decide) (by decide +kernel) rfl (lc_state hst E hG hE hXs hbl hL hZ hp hnew hi6 hc9 hs9 hI hS hl hK)
  · exact lv_tableIn (off := 1064) (tgt := 1104) hx hb dL_law_40 (by decide) (by decide) (by decide +kernel) rfl (lc_discrepancies hst E hG hE hXs hbl hL hZ hp hnew hi6 hc9 hs9 hI hS hl hK)
  · exact lv_tableIn (off := 1120) (tgt := 1160) hx hb dL_law_40 (by decide) (by decide) (by decide +kernel) rfl (lc_deadline hst E hG hE hXs hbl hL hZ hp hnew hi6 hc9 hs9 hI hS hl hK)
  · exact lv_tableIn (off := 1176) (tgt := 1216) hx hb dL_law_40 (by decide) (by decide) (by decide +kernel) rfl (lc_dueDay hst E hG hE hXs hbl hL hZ hp hnew hi6 hc9 hs9 hI hS hl hK)
  · exact lv_tableIn (off := 1232) (tgt := 1272) hx hb dL_law_40 (by decide) (by decide) (by decide +kernel) rfl (lc_fee hst E hG hE hXs hbl hL hZ hp hnew hi6 hc9 hs9 hI hS hl hK)
  · exact lv_tableIn (off := 1288) (tgt := 1328) hx hb dL_law_40 (by decide) (by decide) (by decide +kernel) rfl (lc_dueBetween hst E hG hE hXs hbl hL hZ hp hnew hi6 hc9 hs9 hI hS hl hK)
  · exact lv_tableIn (off := 1326) (tgt := 1366) hx hb dL_law_40 (by decide) (by decide) (by decide +kernel) rfl (lc_check hst E hG hE hXs hbl hL hZ hp hnew hi6 hc9 hs9 hI hS hl hK)
  · exact lv_tableIn (off := 1430) (tgt := 1470) hx hb dL_law_40 (by decide) (by decide) (by decide +kernel) rfl (lc_lastDay hst E hG hE hXs hbl hL hZ hp hnew hi6 hc9 hs9 hI hS hl hK)
  · exact lv_tableIn (off := 1498) (tgt := 1538) hx hb dL_law_40 (by decide) (by decide) (by decide +kernel) rfl (lc_bestFit hst E hG hE hXs hbl hL hZ hp hnew hi6 hc9 hs9 hI hS hl hK)
  · exact lv_tableIn (off := 1554) (tgt := 1594) hx hb dL_law_40 (by decide) (by decide) (by decide +kernel) rfl (lc_present hst E hG hE hXs hbl hL hZ hp hnew hi6 hc9 hs9 hI hS hl hK)
  · exact lv_tableIn (off := 1658) (tgt := 1698) hx hb dL_law_40 (by decide) (by decide) (by decide +kernel) rfl (lc_examine hst E hG hE hXs hbl hL hZ hp hnew hi6 hc9 hs9 hI hS hl hK)
  · exact lv_tableIn (off := 1714) (tgt := 1754) hx hb dL_law_40 (by decide) (by decide) (by decide +kernel) rfl (lc_waive hst E hG hE hXs hbl hL hZ hp hnew hi6 hc9 hs9 hI hS hl hK)
  · exact lv_tableIn (off := 1770) (tgt := 1810) hx hb dL_law_40 (by decide) (by decide) (by decide +kernel) rfl (lc_refuse hst E hG hE hXs hbl hL hZ hp hnew hi6 hc9 hs9 hI hS hl hK)
  · exact lv_tableIn (off := 1826) (tgt := 1866) hx hb dL_law_40 (by decide) (by decide) (by decide +kernel) rfl (lc_transfer hst E hG hE hXs hbl hL hZ hp hnew hi6 hc9 hs9 hI hS hl hK)
  · exact lv_tableIn (off := 1906) (tgt := 1946) hx hb dL_law_40 (by decide) (by decide) (by decide +kernel) rfl (lc_pass hst E hG hE hXs hbl hL hZ hp hnew hi6 hc9 hs9 hI hS hl hK)
  · exact lv_tableIn (off := 1962) (tgt := 2002) hx hb dL_law_40 (by decide) (by decide) (by decide +kernel) rfl (lc_undo hst E hG hE hXs hbl hL hZ hp hnew hi6 hc9 hs9 hI hS hl hK)
  · exact lv_tableIn (off := 1975) (tgt := 2015) hx hb dL_law_40 (by decide) (by decide) (by decide +kernel) rfl (lc_checksum hst E hG hE hXs hbl hL hZ hp hnew hi6 hc9 hs9 hI hS hl hK)
set_option maxRecDepth 100000 in
/-- the loop -/
theorem law_loop {p : Program} {l : Launch} {e : Env} {s : State} {m : MethodId} {below : List Frame} {meth : Method} {c : Code} {Q : State → Prop} {b L : Nat} {xs : Nat → Int32} {G : CG} {B : Nat → Nat} {x bu pa ou : Nat} (hst : l.stackTraces = false) (E : CallFix p m c code 7 s ([.ref b] : List Value).toArray TB RL) (hG : KT G s) (hE : EF G s s.heap) (hXs : va_X b L xs s s.heap) (hbl : b < s.heap.size) (hL : L ≤ 3072) (hZ : EFA G s.heap.size) (hp : LAp G B x bu pa ou) (hnew : ∀ q, LAO B x bu pa ou q → s.heap.size ≤ q) (hEnd : ∀ (H : Heap) (locs : List Loc) (cs sl : Nat), cs ≤ 601024 → sl ≤ 7293034 → va_S (fun q9 => s.heap.size ≤ q9) s.heap H locs → ∀ ls : Array Slot, W p l e room_1 s m ([.ref b] : List Value).toArray below meth c H locs cs sl Q (F0 m 2036 ls [.int 1])) : ∀ (j n : Nat), n + j = 512 → ∀ (H : Heap) (locs : List Loc) (cs sl : Nat) (ls : Array Slot), cs ≤ 100 + 200 * n → sl ≤ 30000 + 4000 * n → LI G B x bu pa ou H → va_S (fun q9 => s.heap.size ≤ q9) s.heap H locs → lv_has ls 7 [(4, .int (nI (6 * n))), (3, .ref ou), (2, .ref (B 0)), (1, .ref x), (0, .ref b)] → W p l e room_1 s m ([.ref b] : List Value).toArray below meth c H locs cs sl Q (F0 m 23 ls []) := by
  intro j
  induction j with
  | zero =>
    intro n hn H locs cs sl ls hc hs hI hS hl
    exact law_out E hG hE hXs hbl hL hZ hp hnew (by omega) (by omega) hS hl (hEnd H locs cs sl (by omega) (by omega) hS ls)
  | succ j ih =>
    intro n hn H locs cs sl ls hc hs hI hS hl
    by_cases h6 : 6 * n + 6 ≤ L
    · refine law_in hst E hG hE hXs hbl hL hZ hp hnew h6 (by omega) (by omega) hI hS hl (fun H locs cs2 sl2 h1 h2 hI hS ls hl => ?_)
      refine lv_iinc (v := nI (6 * (n + 1))) (lv' := [(4, .int (nI (6 * (n + 1)))), (3, .ref ou), (2, .ref (B 0)), (1, .ref x), (0, .ref b)]) E.1 E.2.1 dL_law_2029 hl (k := 0) rfl (nI_ad rfl rfl) (by decide) rfl (fun ls hl => ?_)
      refine lv_goto E.1 E.2.1 (tgt := 23) dL_law_2032 rfl ?_
      exact ih (n + 1) (by omega) H locs cs2 sl2 ls (by omega) (by omega) hI hS hl
    · exact law_out E hG hE hXs hbl hL hZ hp hnew (by omega) h6 hS hl (hEnd H locs cs sl (by omega) (by omega) hS ls)
set_option maxHeartbeats 4000000 in
set_option maxRecDepth 100000 in
/-- from the start -/
theorem law_start {p : Program} {l : Launch} {e : Env} {s : State} {m : MethodId} {below : List Frame} {meth : Method} {c : Code} {Q : State → Prop} {b L : Nat} {xs : Nat → Int32} {G : CG} {ls : Array Slot} (hst : l.stackTraces = false) (E : CallFix p m c code 7 s ([.ref b] : List Value).toArray TB RL) (hG : KT G s) (hE : EF G s s.heap) (hXs : va_X b L xs s s.heap) (hbl : b < s.heap.size) (hL : L ≤ 3072) (hZ : EFA G s.heap.size) (hl : lv_has ls 7 [(0, .ref b)]) (hEnd : ∀ (H : Heap) (locs : List Loc) (cs sl : Nat), cs ≤ 601024 → sl ≤ 7293034 → va_S (fun q9 => s.heap.size ≤ q9) s.heap H locs → ∀ ls : Array Slot, W p l e room_1 s m ([.ref b] : List Value).toArray below meth c H locs cs sl Q (F0 m 2036 ls [.int 1])) : W p l e room_1 s m ([.ref b] : List Value).toArray below meth c s.heap [] 0 0 Q (F0 m 0 ls []) := by
  have hS : va_S (fun q9 => s.heap.size ≤ q9) s.heap s.heap [] := va_S.rf
  have hx := E.1
  have hb := E.2.1
  have hEA : ∀ q9, s.heap.size ≤ q9 → EFA G q9 := fun q9 h9 => Nat.le_trans hZ h9
  refine n_new (sz := s.heap.size) (ci := 7) (fs := [.null, .int 0, .int 0, .null, .null, .int 0]) (ty := tyX7) inX7 tyX7_ok rfl kl_L_8 kn_X7 kin_X7 df_X7 E hG hS (Nat.le_refl _) (Nat.le_of_ble_eq_true rfl) (Nat.le_of_ble_eq_true rfl) dL_law_0 (fun x H0 hx0 hxg f_x hz0 oq hS => ?_)
  refine lv_dup hx hb dL_law_3 rfl ?_
  have hzx : x < H0.size := va_at.lt f_x
  have hsz0 := hS.1
  refine Wr.callI (rest := [.ref x]) (c_X7_init (sz := H0.size) (d := fun _ => 0) l G (hEA _ hS.1) (hEA _ hxg) hzx rfl rfl) yk_X7_init E km_L_99 dL_law_4 hG (hE.S hS hEA) ⟨rfl, f_x⟩ rfl rfl hl.1 ⟨Nat.le_of_ble_eq_true rfl, Nat.le_of_ble_eq_true rfl⟩ ⟨Nat.le_of_ble_eq_true rfl, Nat.le_of_ble_eq_true rfl⟩ (Nat.le_of_ble_eq_true rfl) hS (fun q9 h9 => h9.elim (fun z9 => by rw [z9]; exact hxg) (fun z9 => Nat.le_trans hsz0 z9)) (fun v9 H1 locs hq hz8 hfr9 hS => ?_)
  obtain ⟨rfl, bu, pa, bk, hg1, hg2, hg3, f_x, f_bu, f_pa, hB⟩ := hq
  have hB : BK G (fun q => (q = x ∨ q = bu ∨ q = pa) ∨ H1.size ≤ q) bk (fun _ => 0) 0 0 0 H1 := hB.nar (fun q h8 h9 => h9.elim id (fun z => absurd h8 (Nat.not_lt.mpr z)))
  refine lv_astore_n (lv' := [(1, .ref x), (0, .ref b)]) hx hb dL_law_7 rfl hl (by decide) rfl (fun ls hl => ?_)
  refine n_new (sz := s.heap.size) (ci := 8) (fs := [.int 0, .null, .int 0, .int 0, .int 0, .int 0, .int 0, .int 0, .null, .null, .null, .int 0, .int 0, .int 0, .int 0, .null]) (ty := tyX8) inX8 tyX8_ok rfl kl_L_100 kn_X8 kin_X8 df_X8 E hG hS (Nat.le_refl _) (Nat.le_of_ble_eq_true rfl) (Nat.le_of_ble_eq_true rfl) dL_law_8 (fun y H2 hy0 hyg f_y hz2 oq hS => ?_)
  have f_x := olt f_x oq
  have f_bu := olt f_bu oq
  have f_pa := olt f_pa oq
  have hB : BK G (fun q => (q = x ∨ q = bu ∨ q = pa) ∨ H1.size ≤ q) bk (fun _ => 0) 0 0 0 H2 := hB.kept (fun q h9 _ => oq q h9)
  refine lv_dup hx hb dL_law_11 rfl ?_
  have hzy : y < H2.size := va_at.lt f_y
  have hsz2 := hS.1
  refine Wr.callI (rest := [.ref y]) (c_X8_init (sz := H2.size) l G (hEA _ hS.1) (hEA _ hyg) hzy) yk_X8_init E km_L_102 dL_law_12 hG (hE.S hS hEA) ⟨rfl, f_y⟩ rfl rfl hl.1 ⟨Nat.le_of_ble_eq_true rfl, Nat.le_of_ble_eq_true rfl⟩ ⟨Nat.le_of_ble_eq_true rfl, Nat.le_of_ble_eq_true rfl⟩ (Nat.le_of_ble_eq_true rfl) hS (fun q9 h9 => h9.elim (fun z9 => by rw [z9]; exact hyg) (fun z9 => Nat.le_trans hsz2 z9)) (fun v9 H3 locs hq hz9 hfr9 hS => ?_)
  obtain ⟨rfl, B, hB0, hBi, hMD, hM⟩ := hq
  have hnn : ∀ q, q < H1.size → H3[q]? = H2[q]? := fun q h => hfr9 q (by omega) (fun z => by rcases z with z | z <;> omega)
  have f_x := va_at.kept f_x (hnn x (by omega))
  have f_bu := va_at.kept f_bu (hnn bu (by omega))
  have f_pa := va_at.kept f_pa (hnn pa (by omega))
  have hB : BK G (fun q => (q = x ∨ q = bu ∨ q = pa) ∨ H1.size ≤ q) bk (fun _ => 0) 0 0 0 H3 := hB.kept (fun q h9 h8 => hnn q (Nat.lt_of_not_le (fun z => h8 (Or.inr z))))
  refine lv_astore_n (lv' := [(2, .ref y), (1, .ref x), (0, .ref b)]) hx hb dL_law_15 rfl hl (by decide) rfl (fun ls hl => ?_)
  rw [← hB0] at hl
  refine lv_iconst (v := 1) hx hb dL_law_16 rfl ?_
  refine n_newa (sz := s.heap.size) (atype := .long) (N := 1) (x := (1, .inr (.inl (fun _ => 0)))) (t0 := 2) rfl ka_long (Or.inr (Or.inl rfl)) rfl E hG hS (Nat.le_refl _) rfl (by omega) (Nat.le_of_ble_eq_true rfl) (Nat.le_of_ble_eq_true rfl) dL_law_17 (fun ou H4 ho0 hog f_o hz4 oq hS => ?_)
  have hlt : ∀ i, i < 14 → B i < H3.size := fun i h => hM.lt i h
  have hM := hM.kept (fun i h => oq (B i) (hM.lt i h))
  have f_x := olt f_x oq
  have f_bu := olt f_bu oq
  have f_pa := olt f_pa oq
  have hB : BK G (fun q => (q = x ∨ q = bu ∨ q = pa) ∨ H1.size ≤ q) bk (fun _ => 0) 0 0 0 H4 := hB.kept (fun q h9 _ => oq q h9)
  refine lv_astore_n (lv' := [(3, .ref ou), (2, .ref (B 0)), (1, .ref x), (0, .ref b)]) hx hb dL_law_19 rfl hl (by decide) rfl (fun ls hl => ?_)
  refine lv_iconst (v := 0) hx hb dL_law_20 rfl ?_
  refine lv_istore (lv' := [(4, .int (nI (6 * 0))), (3, .ref ou), (2, .ref (B 0)), (1, .ref x), (0, .ref b)]) hx hb dL_law_21 hl (by decide) rfl (fun ls hl => ?_)
  have hBg : ∀ i, i < 14 → H1.size ≤ B i := fun i h => by
    by_cases h0 : i = 0
    · rw [h0, hB0]; omega
    · have := hBi i (by omega) h; omega
  have hnew : ∀ q, LAO B x bu pa ou q → s.heap.size ≤ q := fun q h => by
    rcases h with h | h | h | h | ⟨i, hi, h⟩
    · omega
    · omega
    · omega
    · omega
    · have := hBg i hi; omega
  have hp : LAp G B x bu pa ou := by
    refine ⟨hMD, ⟨⟨Or.inl rfl, Or.inr (Or.inl rfl), Or.inr (Or.inr (Or.inl rfl))⟩, ⟨by omega, by omega, by omega⟩, hEA _ (by omega), hEA _ (by omega), hEA _ (by omega)⟩, ⟨by omega, by omega, by omega⟩, fun i hi => ?_, hEA _ (by omega)⟩
    have h1 := hBg i hi
    have h2 := hlt i hi
    exact ⟨by omega, by omega, by omega, by omega⟩
  have hB : BK G (LAO B x bu pa ou) bk (fun _ => 0) 0 0 0 H4 := hB.nar (fun q h8 h9 => by
    rcases h9 with h | h | h | h | ⟨i, hi, h⟩
    · exact Or.inl (Or.inl h)
    · exact Or.inl (Or.inr (Or.inl h))
    · exact Or.inl (Or.inr (Or.inr h))
    · right; omega
    · right; have := hBg i hi; omega)
  have hI : LI G B x bu pa ou H4 := li_mk (b9 := 0) (u := 0) (nc := 0) (np := 0) (nh := 0) (bk := bk) (es := -1) (bf := fun _ => 0) (bb := fun _ => 0) (d := fun _ => 0) (hi := fun _ _ => 0) (f := fun _ => 0) (t := 0) (tl := 0) (ps := 0) (er := 0) (ea := 0) (ns := 0) (ne := 0) (se := 0) (dr := fun _ => 0) (sk := fun _ => 0) (by omega) (by omega) (fun j => ⟨0, by decide, rfl⟩) (fun j => rfl) LD_0.1 hM ⟨f_x, f_bu, ⟨_, f_pa, fun j hj => absurd hj (Nat.not_lt_zero j)⟩, hB⟩ f_o
  exact law_loop hst E hG hE hXs hbl hL hZ hp hnew hEnd 512 0 (by omega) H4 _ _ _ ls (Nat.le_of_ble_eq_true rfl) (Nat.le_of_ble_eq_true rfl) hI hS hl
