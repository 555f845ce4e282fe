/-! THE LAW: calls that only ask -/
set_option maxHeartbeats 4000000 in
set_option maxRecDepth 100000 in
/-- the law: extended -/
theorem lc_extended {p : Program} {l : Launch} {e : Env} {s : State} {m : MethodId} {below : List Frame} {meth : Method} {c : Code} {Q : State → Prop} {b L : Nat} {xs : Nat → Int32} {G : CG} {B : Nat → Nat} {x bu pa ou i c0 s0 : Nat} {H : Heap} {locs : List Loc} {ls : Array Slot} (hst : l.stackTraces = false) (E : CallFix p m c code 7 s ([.ref b] : List Value).toArray TB RL) (hG : KT G s) (hE : EF G s s.heap) (hXs : va_X b L xs s s.heap) (hbl : b < s.heap.size) (hL : L ≤ 3072) (hZ : EFA G s.heap.size) (hp : LAp G B x bu pa ou) (hnew : ∀ q, LAO B x bu pa ou q → s.heap.size ≤ q) (hi6 : i + 6 ≤ L) (hc9 : c0 + 200 ≤ 601024) (hs9 : s0 + 4000 ≤ 7293034) (hI : LI G B x bu pa ou H) (hS : va_S (fun q9 => s.heap.size ≤ q9) s.heap H locs) (hl : lv_has ls 7 [(4, .int (nI i)), (3, .ref ou), (2, .ref (B 0)), (1, .ref x), (0, .ref b)]) (hK : ∀ (H : Heap) (locs : List Loc) (cs sl : Nat), cs ≤ c0 + 200 → sl ≤ s0 + 4000 → LI G B x bu pa ou H → va_S (fun q9 => s.heap.size ≤ q9) s.heap H locs → ∀ ls : Array Slot, lv_has ls 7 [(4, .int (nI i)), (3, .ref ou), (2, .ref (B 0)), (1, .ref x), (0, .ref b)] → W p l e room_1 s m ([.ref b] : List Value).toArray below meth c H locs cs sl Q (F0 m 2029 ls [])) : W p l e room_1 s m ([.ref b] : List Value).toArray below meth c H locs c0 s0 Q (F0 m 436 ls []) := by
  obtain ⟨b9, u, nc, np, nh, bk, es, bf, bb, da, hi, f, t, tl, ps, er, ea, ns, ne, se, dr, sk, hb9, hu, hBy, hbb, hO, hM, hDS, f_o⟩ := hI
  have hx := E.1
  have hb := E.2.1
  have hMD := hp.1
  have hDD := hp.2.1
  obtain ⟨⟨h0, hc0⟩, ⟨h1, hp0⟩, ⟨h2, hh⟩, ⟨td, htd, h3⟩, hCr, hPr, hHo, hIj⟩ := id hO
  have hEA : ∀ q9, s.heap.size ≤ q9 → EFA G q9 := fun q9 h9 => Nat.le_trans hZ h9
  have hbA : ¬ s.heap.size ≤ b := Nat.not_le.mpr hbl
  have hAo9 : ∀ q, q = ou → s.heap.size ≤ q := fun q h => hnew q (Or.inr (Or.inr (Or.inr (Or.inl h))))
  have hAB : ∀ q, MA B q → s.heap.size ≤ q := fun q h => hnew q (Or.inr (Or.inr (Or.inr (Or.inr h))))
  have hAO := lao_lt hM hDS f_o
  have hz9 : EFA G H.size := Nat.le_trans hZ hS.1
  have hou : ou < H.size := va_at.lt f_o
  obtain ⟨z1, hz_1⟩ : ∃ z, xs (i + 1) = z := ⟨_, rfl⟩
  rcases inV01 z1 0 9999 with hy0 | hy1
  · refine lv_aload_n hx hb dL_law_436 rfl (lv_at hl 3 rfl) ?_
    refine lv_aload_n hx hb dL_law_437 rfl (lv_at hl 4 rfl) ?_
    refine lv_iload hx hb dL_law_438 (lv_at hl 0 rfl) ?_
    refine lv_iconst (v := 1) hx hb dL_law_440 rfl ?_
    refine lv_iadd hx hb dL_law_441 ?_
    refine l_sld (k := i + 1) hx hb hXs hbl hbA hS (ixq (nI_ad rfl rfl)) (by omega) hL hz_1 dL_law_442 ?_
    refine lv_aload_n hx hb dL_law_443 rfl (lv_at hl 1 rfl) ?_
    refine WW.callS (rest := []) (w_L_extended_t1 l G z1 (P := DS G (LAO B x bu pa ou) x bu pa bb (nI b9) es bk da nc np nh u hi) (Tr.w (c_X7_extended_x l hst G z1 hy0) (fun _ h9 => ds_dk h9))) yk_L_extended E km_L_136 dL_law_444 hG (hE.S hS hEA) ⟨hDS, _, hDS.1⟩ rfl rfl hl.1 ⟨Nat.le_of_ble_eq_true rfl, Nat.le_of_ble_eq_true rfl⟩ ⟨show c0 + 1 ≤ 601024 by omega, show s0 + 6 ≤ 7293034 by omega⟩ (Nat.le_of_ble_eq_true rfl) hS (fun q9 h9 => h9.elim) (fun v9 H1 locs hq hz8 hfr9 hS => ?_)
    obtain rfl := hq
    have hf9 : ∀ q : Nat, q < H.size → q ≠ ou → H1[q]? = H[q]? := fun q9 h9 _ => hfr9 q9 h9 (fun w9 => w9)
    have f_o := va_at.kept f_o (hfr9 _ (va_at.lt f_o) (fun w9 => w9))
    have hM := ro_M hp hM hf9
    have hDS := ro_D hp hDS hf9
    refine lv_istore (lv' := [(5, .int 1), (4, .int (nI i)), (3, .ref ou), (2, .ref (B 0)), (1, .ref x), (0, .ref b)]) hx hb dL_law_447 hl (by decide) rfl (fun ls hl => ?_)
    refine lv_aload_n hx hb dL_law_449 rfl (lv_at hl 3 rfl) ?_
    refine lv_aload_n hx hb dL_law_450 rfl (lv_at hl 5 rfl) ?_
    refine lv_iload hx hb dL_law_451 (lv_at hl 1 rfl) ?_
    refine lv_iconst (v := 1) hx hb dL_law_453 rfl ?_
    refine lv_iadd hx hb dL_law_454 ?_
    refine l_sld (k := i + 1) hx hb hXs hbl hbA hS (ixq (nI_ad rfl rfl)) (by omega) hL hz_1 dL_law_455 ?_
    refine Wr.callV (rest := []) (c_X8_extended_x l G hMD z1 hy0) yk_X8_extended E km_L_138 dL_law_456 hG (hE.S hS hEA) hM (At.recv hG hM.1 rfl) rfl rfl hl.1 ⟨Nat.le_of_ble_eq_true rfl, Nat.le_of_ble_eq_true rfl⟩ ⟨show c0 + 1 + 0 ≤ 601024 by omega, show s0 + 6 + 0 ≤ 7293034 by omega⟩ (Nat.le_of_ble_eq_true rfl) hS hAB (fun v9 H2 locs hq hz8 hfr9 hS => ?_)
    obtain ⟨rfl, hM⟩ := hq
    have hDS := rf_D hp hDS hfr9
    have f_o := rf_o hp f_o hfr9
    refine lv_istore (lv' := [(6, .int 0), (5, .int 1), (4, .int (nI i)), (3, .ref ou), (2, .ref (B 0)), (1, .ref x), (0, .ref b)]) hx hb dL_law_459 hl (by decide) rfl (fun ls hl => ?_)
    refine lv_aload_n hx hb dL_law_461 rfl (lv_at hl 4 rfl) ?_
    refine Rd.callV (rest := []) (c_X8_thrown l G) yk_X8_thrown E km_L_113 dL_law_462 hG (hE.S hS hEA) hM (At.recv hG hM.1 rfl) rfl rfl hl.1 ⟨Nat.le_of_ble_eq_true rfl, Nat.le_of_ble_eq_true rfl⟩ ⟨show c0 + 1 + 0 ≤ 601024 by omega, show s0 + 6 + 0 ≤ 7293034 by omega⟩ (Nat.le_of_ble_eq_true rfl) ?_
    refine lv_ci (y := 1) rfl ?_
    refine lv_iload hx hb dL_law_465 (lv_at hl 1 rfl) ?_
    refine lv_icmp_eq (tgt := 472) hx hb dL_law_467 (by decide) (fun c_467 => ?_) (fun c_467 => ?_)
    rotate_left
    · exact absurd c_467 (by decide)
    refine lv_iload hx hb dL_law_472 (lv_at hl 1 rfl) ?_
    refine lv_if_ne (tgt := 489) hx hb dL_law_474 (by decide) (fun c_474 => ?_) (fun c_474 => ?_)
    rotate_left
    · exact absurd c_474 (by decide)
    refine lv_goto (tgt := 2029) hx hb dL_law_489 (by decide) ?_
    exact hK H2 locs _ _ (show c0 + 1 + 0 ≤ c0 + 200 by omega) (show s0 + 6 + 0 ≤ s0 + 4000 by omega) (li_mk hb9 hu hBy hbb hO hM hDS f_o) hS ls (lv_sub hl [2, 3, 4, 5, 6] rfl)
  · obtain ⟨n, hn9, ez⟩ := in_of (n := 9999) (by decide) hy1
    refine lv_aload_n hx hb dL_law_436 rfl (lv_at hl 3 rfl) ?_
    refine lv_aload_n hx hb dL_law_437 rfl (lv_at hl 4 rfl) ?_
    refine lv_iload hx hb dL_law_438 (lv_at hl 0 rfl) ?_
    refine lv_iconst (v := 1) hx hb dL_law_440 rfl ?_
    refine lv_iadd hx hb dL_law_441 ?_
    refine l_sld (k := i + 1) hx hb hXs hbl hbA hS (ixq (nI_ad rfl rfl)) (by omega) hL hz_1 dL_law_442 ?_
    refine lv_aload_n hx hb dL_law_443 rfl (lv_at hl 1 rfl) ?_
    refine WW.callS (rest := []) (w_L_extended l G z1 (Q := (fun r9 _ => r9 = nI (ext da nh n))) (f := f) (Rd.w (D := DS G (LAO B x bu pa ou) x bu pa bb (nI b9) es bk da nc np nh u hi) (c_X7_extended l G z1 n ez hn9 hy1 hh) (fun _ h9 => ds_dk h9)) (fun w9 => w9) (fun _ _ _ _ _ h9 => h9)) yk_L_extended E km_L_136 dL_law_444 hG (hE.S hS hEA) ⟨hDS, ⟨_, hDS.1⟩, f_o⟩ rfl rfl hl.1 ⟨Nat.le_of_ble_eq_true rfl, Nat.le_of_ble_eq_true rfl⟩ ⟨show c0 + 0 ≤ 601024 by omega, show s0 + 0 ≤ 7293034 by omega⟩ (Nat.le_of_ble_eq_true rfl) hS (fun q9 h9 => h9.elim (fun w9 => w9.elim) (hAo9 q9)) (fun v9 H3 locs hq hz8 hfr9 hS => ?_)
    obtain ⟨rfl, r, hQ9, f_o⟩ := hq
    have hf9 : ∀ q : Nat, q < H.size → q ≠ ou → H3[q]? = H[q]? := fun q9 h9 h8 => hfr9 q9 h9 (fun z9 => z9.elim (fun w9 => w9.elim) h8)
    have hM := ro_M hp hM hf9
    have hDS := ro_D hp hDS hf9
    refine lv_istore (lv' := [(5, .int 0), (4, .int (nI i)), (3, .ref ou), (2, .ref (B 0)), (1, .ref x), (0, .ref b)]) hx hb dL_law_447 hl (by decide) rfl (fun ls hl => ?_)
    refine lv_aload_n hx hb dL_law_449 rfl (lv_at hl 3 rfl) ?_
    refine lv_aload_n hx hb dL_law_450 rfl (lv_at hl 5 rfl) ?_
    refine lv_iload hx hb dL_law_451 (lv_at hl 1 rfl) ?_
    refine lv_iconst (v := 1) hx hb dL_law_453 rfl ?_
    refine lv_iadd hx hb dL_law_454 ?_
    refine l_sld (k := i + 1) hx hb hXs hbl hbA hS (ixq (nI_ad rfl rfl)) (by omega) hL hz_1 dL_law_455 ?_
    refine Wr.callV (rest := []) (c_X8_extended l G hMD z1 n nh ez hn9 hy1 h2 hh) yk_X8_extended E km_L_138 dL_law_456 hG (hE.S hS hEA) hM (At.recv hG hM.1 rfl) rfl rfl hl.1 ⟨Nat.le_of_ble_eq_true rfl, Nat.le_of_ble_eq_true rfl⟩ ⟨show c0 + 0 + 0 ≤ 601024 by omega, show s0 + 0 + 0 ≤ 7293034 by omega⟩ (Nat.le_of_ble_eq_true rfl) hS hAB (fun v9 H4 locs hq hz8 hfr9 hS => ?_)
    obtain ⟨rfl, hM⟩ := hq
    have hDS := rf_D hp hDS hfr9
    have f_o := rf_o hp f_o hfr9
    refine lv_istore (lv' := [(6, .int (nI (ext da nh n))), (5, .int 0), (4, .int (nI i)), (3, .ref ou), (2, .ref (B 0)), (1, .ref x), (0, .ref b)]) hx hb dL_law_459 hl (by decide) rfl (fun ls hl => ?_)
    refine lv_aload_n hx hb dL_law_461 rfl (lv_at hl 4 rfl) ?_
    refine Rd.callV (rest := []) (c_X8_thrown l G) yk_X8_thrown E km_L_113 dL_law_462 hG (hE.S hS hEA) hM (At.recv hG hM.1 rfl) rfl rfl hl.1 ⟨Nat.le_of_ble_eq_true rfl, Nat.le_of_ble_eq_true rfl⟩ ⟨show c0 + 0 + 0 ≤ 601024 by omega, show s0 + 0 + 0 ≤ 7293034 by omega⟩ (Nat.le_of_ble_eq_true rfl) ?_
    refine lv_ci (y := 0) rfl ?_
    refine lv_iload hx hb dL_law_465 (lv_at hl 1 rfl) ?_
    refine lv_icmp_eq (tgt := 472) hx hb dL_law_467 (by decide) (fun c_467 => ?_) (fun c_467 => ?_)
    rotate_left
    · exact absurd c_467 (by decide)
    refine lv_iload hx hb dL_law_472 (lv_at hl 1 rfl) ?_
    refine lv_if_ne (tgt := 489) hx hb dL_law_474 (by decide) (fun c_474 => ?_) (fun c_474 => ?_)
    · exact absurd c_474 (by decide)
    refine lv_aload_n hx hb dL_law_477 rfl (lv_at hl 3 rfl) ?_
    refine lv_iconst (v := 0) hx hb dL_law_478 rfl ?_
    refine g_lld 0 E hG f_o rfl (by omega) (by decide) dL_law_479 ?_
    refine lv_iload hx hb dL_law_480 (lv_at hl 0 rfl) ?_
    refine lv_i2l (v := (nI (ext da nh n)).toInt64) hx hb dL_law_482 rfl ?_
    refine W.lcmp hx hb dL_law_483 ?_
    refine lv_if_eq (tgt := 489) hx hb dL_law_484 (by decide) (fun c_484 => ?_) (fun c_484 => ?_)
    rotate_left
    · exact absurd ((lg_cmp_eq _ _).mpr (by rw [pk_uLs]; rw [hQ9])) c_484
    refine lv_goto (tgt := 2029) hx hb dL_law_489 (by decide) ?_
    exact hK H4 locs _ _ (show c0 + 0 + 0 ≤ c0 + 200 by omega) (show s0 + 0 + 0 ≤ s0 + 4000 by omega) (li_mk hb9 hu hBy hbb hO hM hDS f_o) hS ls (lv_sub hl [2, 3, 4, 5, 6] rfl)

set_option maxHeartbeats 4000000 in
set_option maxRecDepth 100000 in
/-- the law: isBusinessDay -/
theorem lc_isBusinessDay {p : Program} {l : Launch} {e : Env} {s : State} {m : MethodId} {below : List Frame} {meth : Method} {c : Code} {Q : State → Prop} {b L : Nat} {xs : Nat → Int32} {G : CG} {B : Nat → Nat} {x bu pa ou i c0 s0 : Nat} {H : Heap} {locs : List Loc} {ls : Array Slot} (hst : l.stackTraces = false) (E : CallFix p m c code 7 s ([.ref b] : List Value).toArray TB RL) (hG : KT G s) (hE : EF G s s.heap) (hXs : va_X b L xs s s.heap) (hbl : b < s.heap.size) (hL : L ≤ 3072) (hZ : EFA G s.heap.size) (hp : LAp G B x bu pa ou) (hnew : ∀ q, LAO B x bu pa ou q → s.heap.size ≤ q) (hi6 : i + 6 ≤ L) (hc9 : c0 + 200 ≤ 601024) (hs9 : s0 + 4000 ≤ 7293034) (hI : LI G B x bu pa ou H) (hS : va_S (fun q9 => s.heap.size ≤ q9) s.heap H locs) (hl : lv_has ls 7 [(4, .int (nI i)), (3, .ref ou), (2, .ref (B 0)), (1, .ref x), (0, .ref b)]) (hK : ∀ (H : Heap) (locs : List Loc) (cs sl : Nat), cs ≤ c0 + 200 → sl ≤ s0 + 4000 → LI G B x bu pa ou H → va_S (fun q9 => s.heap.size ≤ q9) s.heap H locs → ∀ ls : Array Slot, lv_has ls 7 [(4, .int (nI i)), (3, .ref ou), (2, .ref (B 0)), (1, .ref x), (0, .ref b)] → W p l e room_1 s m ([.ref b] : List Value).toArray below meth c H locs cs sl Q (F0 m 2029 ls [])) : W p l e room_1 s m ([.ref b] : List Value).toArray below meth c H locs c0 s0 Q (F0 m 373 ls []) := by
  obtain ⟨b9, u, nc, np, nh, bk, es, bf, bb, da, hi, f, t, tl, ps, er, ea, ns, ne, se, dr, sk, hb9, hu, hBy, hbb, hO, hM, hDS, f_o⟩ := hI
  have hx := E.1
  have hb := E.2.1
  have hMD := hp.1
  have hDD := hp.2.1
  obtain ⟨⟨h0, hc0⟩, ⟨h1, hp0⟩, ⟨h2, hh⟩, ⟨td, htd, h3⟩, hCr, hPr, hHo, hIj⟩ := id hO
  have hEA : ∀ q9, s.heap.size ≤ q9 → EFA G q9 := fun q9 h9 => Nat.le_trans hZ h9
  have hbA : ¬ s.heap.size ≤ b := Nat.not_le.mpr hbl
  have hAo9 : ∀ q, q = ou → s.heap.size ≤ q := fun q h => hnew q (Or.inr (Or.inr (Or.inr (Or.inl h))))
  have hAB : ∀ q, MA B q → s.heap.size ≤ q := fun q h => hnew q (Or.inr (Or.inr (Or.inr (Or.inr h))))
  have hAO := lao_lt hM hDS f_o
  have hz9 : EFA G H.size := Nat.le_trans hZ hS.1
  have hou : ou < H.size := va_at.lt f_o
  obtain ⟨z1, hz_1⟩ : ∃ z, xs (i + 1) = z := ⟨_, rfl⟩
  rcases inV01 z1 0 9999 with hy0 | hy1
  · refine lv_aload_n hx hb dL_law_373 rfl (lv_at hl 3 rfl) ?_
    refine lv_aload_n hx hb dL_law_374 rfl (lv_at hl 4 rfl) ?_
    refine lv_iload hx hb dL_law_375 (lv_at hl 0 rfl) ?_
    refine lv_iconst (v := 1) hx hb dL_law_377 rfl ?_
    refine lv_iadd hx hb dL_law_378 ?_
    refine l_sld (k := i + 1) hx hb hXs hbl hbA hS (ixq (nI_ad rfl rfl)) (by omega) hL hz_1 dL_law_379 ?_
    refine lv_aload_n hx hb dL_law_380 rfl (lv_at hl 1 rfl) ?_
    refine WW.callS (rest := []) (w_L_isBusinessDay_t1 l G z1 (P := DS G (LAO B x bu pa ou) x bu pa bb (nI b9) es bk da nc np nh u hi) (Tr.w (c_X7_isBusinessDay_x l hst G z1 hy0) (fun _ h9 => ds_dk h9))) yk_L_isBusinessDay E km_L_133 dL_law_381 hG (hE.S hS hEA) ⟨hDS, _, hDS.1⟩ rfl rfl hl.1 ⟨Nat.le_of_ble_eq_true rfl, Nat.le_of_ble_eq_true rfl⟩ ⟨show c0 + 1 ≤ 601024 by omega, show s0 + 6 ≤ 7293034 by omega⟩ (Nat.le_of_ble_eq_true rfl) hS (fun q9 h9 => h9.elim) (fun v9 H1 locs hq hz8 hfr9 hS => ?_)
    obtain rfl := hq
    have hf9 : ∀ q : Nat, q < H.size → q ≠ ou → H1[q]? = H[q]? := fun q9 h9 _ => hfr9 q9 h9 (fun w9 => w9)
    have f_o := va_at.kept f_o (hfr9 _ (va_at.lt f_o) (fun w9 => w9))
    have hM := ro_M hp hM hf9
    have hDS := ro_D hp hDS hf9
    refine lv_istore (lv' := [(5, .int 1), (4, .int (nI i)), (3, .ref ou), (2, .ref (B 0)), (1, .ref x), (0, .ref b)]) hx hb dL_law_384 hl (by decide) rfl (fun ls hl => ?_)
    refine lv_aload_n hx hb dL_law_386 rfl (lv_at hl 3 rfl) ?_
    refine lv_aload_n hx hb dL_law_387 rfl (lv_at hl 5 rfl) ?_
    refine lv_iload hx hb dL_law_388 (lv_at hl 1 rfl) ?_
    refine lv_iconst (v := 1) hx hb dL_law_390 rfl ?_
    refine lv_iadd hx hb dL_law_391 ?_
    refine l_sld (k := i + 1) hx hb hXs hbl hbA hS (ixq (nI_ad rfl rfl)) (by omega) hL hz_1 dL_law_392 ?_
    refine Wr.callV (rest := []) (c_X8_isBusinessDay_x l G hMD z1 hy0) yk_X8_isBusinessDay E km_L_135 dL_law_393 hG (hE.S hS hEA) hM (At.recv hG hM.1 rfl) rfl rfl hl.1 ⟨Nat.le_of_ble_eq_true rfl, Nat.le_of_ble_eq_true rfl⟩ ⟨show c0 + 1 + 0 ≤ 601024 by omega, show s0 + 6 + 0 ≤ 7293034 by omega⟩ (Nat.le_of_ble_eq_true rfl) hS hAB (fun v9 H2 locs hq hz8 hfr9 hS => ?_)
    obtain ⟨rfl, hM⟩ := hq
    have hDS := rf_D hp hDS hfr9
    have f_o := rf_o hp f_o hfr9
    refine lv_istore (lv' := [(6, .int 0), (5, .int 1), (4, .int (nI i)), (3, .ref ou), (2, .ref (B 0)), (1, .ref x), (0, .ref b)]) hx hb dL_law_396 hl (by decide) rfl (fun ls hl => ?_)
    refine lv_aload_n hx hb dL_law_398 rfl (lv_at hl 4 rfl) ?_
    refine Rd.callV (rest := []) (c_X8_thrown l G) yk_X8_thrown E km_L_113 dL_law_399 hG (hE.S hS hEA) hM (At.recv hG hM.1 rfl) rfl rfl hl.1 ⟨Nat.le_of_ble_eq_true rfl, Nat.le_of_ble_eq_true rfl⟩ ⟨show c0 + 1 + 0 ≤ 601024 by omega, show s0 + 6 + 0 ≤ 7293034 by omega⟩ (Nat.le_of_ble_eq_true rfl) ?_
    refine lv_ci (y := 1) rfl ?_
    refine lv_iload hx hb dL_law_402 (lv_at hl 1 rfl) ?_
    refine lv_icmp_eq (tgt := 409) hx hb dL_law_404 (by decide) (fun c_404 => ?_) (fun c_404 => ?_)
    rotate_left
    · exact absurd c_404 (by decide)
    refine lv_iload hx hb dL_law_409 (lv_at hl 1 rfl) ?_
    refine lv_if_ne (tgt := 433) hx hb dL_law_411 (by decide) (fun c_411 => ?_) (fun c_411 => ?_)
    rotate_left
    · exact absurd c_411 (by decide)
    refine lv_goto (tgt := 2029) hx hb dL_law_433 (by decide) ?_
    exact hK H2 locs _ _ (show c0 + 1 + 0 ≤ c0 + 200 by omega) (show s0 + 6 + 0 ≤ s0 + 4000 by omega) (li_mk hb9 hu hBy hbb hO hM hDS f_o) hS ls (lv_sub hl [2, 3, 4, 5, 6] rfl)
  · obtain ⟨n, hn9, ez⟩ := in_of (n := 9999) (by decide) hy1
    refine lv_aload_n hx hb dL_law_373 rfl (lv_at hl 3 rfl) ?_
    refine lv_aload_n hx hb dL_law_374 rfl (lv_at hl 4 rfl) ?_
    refine lv_iload hx hb dL_law_375 (lv_at hl 0 rfl) ?_
    refine lv_iconst (v := 1) hx hb dL_law_377 rfl ?_
    refine lv_iadd hx hb dL_law_378 ?_
    refine l_sld (k := i + 1) hx hb hXs hbl hbA hS (ixq (nI_ad rfl rfl)) (by omega) hL hz_1 dL_law_379 ?_
    refine lv_aload_n hx hb dL_law_380 rfl (lv_at hl 1 rfl) ?_
    refine WW.callS (rest := []) (w_L_isBusinessDay l G z1 (Q := (fun r9 _ => r9 = (if biz da nh n = true then 1 else 0))) (f := f) (Rd.w (D := DS G (LAO B x bu pa ou) x bu pa bb (nI b9) es bk da nc np nh u hi) (c_X7_isBusinessDay l G z1 n ez hn9 hy1 hh) (fun _ h9 => ds_dk h9)) (fun w9 => w9) (fun _ _ _ _ _ h9 => h9)) yk_L_isBusinessDay E km_L_133 dL_law_381 hG (hE.S hS hEA) ⟨hDS, ⟨_, hDS.1⟩, f_o⟩ rfl rfl hl.1 ⟨Nat.le_of_ble_eq_true rfl, Nat.le_of_ble_eq_true rfl⟩ ⟨show c0 + 0 ≤ 601024 by omega, show s0 + 0 ≤ 7293034 by omega⟩ (Nat.le_of_ble_eq_true rfl) hS (fun q9 h9 => h9.elim (fun w9 => w9.elim) (hAo9 q9)) (fun v9 H3 locs hq hz8 hfr9 hS => ?_)
    obtain ⟨rfl, r, hQ9, f_o⟩ := hq
    have hf9 : ∀ q : Nat, q < H.size → q ≠ ou → H3[q]? = H[q]? := fun q9 h9 h8 => hfr9 q9 h9 (fun z9 => z9.elim (fun w9 => w9.elim) h8)
    have hM := ro_M hp hM hf9
    have hDS := ro_D hp hDS hf9
    refine lv_istore (lv' := [(5, .int 0), (4, .int (nI i)), (3, .ref ou), (2, .ref (B 0)), (1, .ref x), (0, .ref b)]) hx hb dL_law_384 hl (by decide) rfl (fun ls hl => ?_)
    refine lv_aload_n hx hb dL_law_386 rfl (lv_at hl 3 rfl) ?_
    refine lv_aload_n hx hb dL_law_387 rfl (lv_at hl 5 rfl) ?_
    refine lv_iload hx hb dL_law_388 (lv_at hl 1 rfl) ?_
    refine lv_iconst (v := 1) hx hb dL_law_390 rfl ?_
    refine lv_iadd hx hb dL_law_391 ?_
    refine l_sld (k := i + 1) hx hb hXs hbl hbA hS (ixq (nI_ad rfl rfl)) (by omega) hL hz_1 dL_law_392 ?_
    refine Wr.callV (rest := []) (c_X8_isBusinessDay l G hMD z1 n nh ez hn9 hy1 h2 hh) yk_X8_isBusinessDay E km_L_135 dL_law_393 hG (hE.S hS hEA) hM (At.recv hG hM.1 rfl) rfl rfl hl.1 ⟨Nat.le_of_ble_eq_true rfl, Nat.le_of_ble_eq_true rfl⟩ ⟨show c0 + 0 + 0 ≤ 601024 by omega, show s0 + 0 + 0 ≤ 7293034 by omega⟩ (Nat.le_of_ble_eq_true rfl) hS hAB (fun v9 H4 locs hq hz8 hfr9 hS => ?_)
    obtain ⟨rfl, hM⟩ := hq
    have hDS := rf_D hp hDS hfr9
    have f_o := rf_o hp f_o hfr9
    by_cases hbz : biz da nh n = true
    · refine lv_ci (y := 1) (if_pos hbz) ?_
      have hr9 : r = 1 := hQ9.trans (if_pos hbz)
      refine lv_istore (lv' := [(6, .int 1), (5, .int 0), (4, .int (nI i)), (3, .ref ou), (2, .ref (B 0)), (1, .ref x), (0, .ref b)]) hx hb dL_law_396 hl (by decide) rfl (fun ls hl => ?_)
      refine lv_aload_n hx hb dL_law_398 rfl (lv_at hl 4 rfl) ?_
      refine Rd.callV (rest := []) (c_X8_thrown l G) yk_X8_thrown E km_L_113 dL_law_399 hG (hE.S hS hEA) hM (At.recv hG hM.1 rfl) rfl rfl hl.1 ⟨Nat.le_of_ble_eq_true rfl, Nat.le_of_ble_eq_true rfl⟩ ⟨show c0 + 0 + 0 ≤ 601024 by omega, show s0 + 0 + 0 ≤ 7293034 by omega⟩ (Nat.le_of_ble_eq_true rfl) ?_
      refine lv_ci (y := 0) rfl ?_
      refine lv_iload hx hb dL_law_402 (lv_at hl 1 rfl) ?_
      refine lv_icmp_eq (tgt := 409) hx hb dL_law_404 (by decide) (fun c_404 => ?_) (fun c_404 => ?_)
      rotate_left
      · exact absurd c_404 (by decide)
      refine lv_iload hx hb dL_law_409 (lv_at hl 1 rfl) ?_
      refine lv_if_ne (tgt := 433) hx hb dL_law_411 (by decide) (fun c_411 => ?_) (fun c_411 => ?_)
      · exact absurd c_411 (by decide)
      refine lv_aload_n hx hb dL_law_414 rfl (lv_at hl 3 rfl) ?_
      refine lv_iconst (v := 0) hx hb dL_law_415 rfl ?_
      refine g_lld 0 E hG f_o rfl (by omega) (by decide) dL_law_416 ?_
      refine lv_iload hx hb dL_law_417 (lv_at hl 0 rfl) ?_
      refine lv_if_eq (tgt := 426) hx hb dL_law_419 (by decide) (fun c_419 => ?_) (fun c_419 => ?_)
      · exact absurd c_419 (by decide)
      refine lv_lconst (v := 1) hx hb dL_law_422 rfl ?_
      refine lv_goto (tgt := 427) hx hb dL_law_423 (by decide) ?_
      refine W.lcmp hx hb dL_law_427 ?_
      refine lv_if_eq (tgt := 433) hx hb dL_law_428 (by decide) (fun c_428 => ?_) (fun c_428 => ?_)
      rotate_left
      · exact absurd ((lg_cmp_eq _ _).mpr (by rw [pk_uLs]; rw [hr9]; decide)) c_428
      refine lv_goto (tgt := 2029) hx hb dL_law_433 (by decide) ?_
      exact hK H4 locs _ _ (show c0 + 0 + 0 ≤ c0 + 200 by omega) (show s0 + 0 + 0 ≤ s0 + 4000 by omega) (li_mk hb9 hu hBy hbb hO hM hDS f_o) hS ls (lv_sub hl [2, 3, 4, 5, 6] rfl)
    · refine lv_ci (y := 0) (if_neg hbz) ?_
      have hr9 : r = 0 := hQ9.trans (if_neg hbz)
      refine lv_istore (lv' := [(6, .int 0), (5, .int 0), (4, .int (nI i)), (3, .ref ou), (2, .ref (B 0)), (1, .ref x), (0, .ref b)]) hx hb dL_law_396 hl (by decide) rfl (fun ls hl => ?_)
      refine lv_aload_n hx hb dL_law_398 rfl (lv_at hl 4 rfl) ?_
      refine Rd.callV (rest := []) (c_X8_thrown l G) yk_X8_thrown E km_L_113 dL_law_399 hG (hE.S hS hEA) hM (At.recv hG hM.1 rfl) rfl rfl hl.1 ⟨Nat.le_of_ble_eq_true rfl, Nat.le_of_ble_eq_true rfl⟩ ⟨show c0 + 0 + 0 ≤ 601024 by omega, show s0 + 0 + 0 ≤ 7293034 by omega⟩ (Nat.le_of_ble_eq_true rfl) ?_
      refine lv_ci (y := 0) rfl ?_
      refine lv_iload hx hb dL_law_402 (lv_at hl 1 rfl) ?_
      refine lv_icmp_eq (tgt := 409) hx hb dL_law_404 (by decide) (fun c_404 => ?_) (fun c_404 => ?_)
      rotate_left
      · exact absurd c_404 (by decide)
      refine lv_iload hx hb dL_law_409 (lv_at hl 1 rfl) ?_
      refine lv_if_ne (tgt := 433) hx hb dL_law_411 (by decide) (fun c_411 => ?_) (fun c_411 => ?_)
      · exact absurd c_411 (by decide)
      refine lv_aload_n hx hb dL_law_414 rfl (lv_at hl 3 rfl) ?_
      refine lv_iconst (v := 0) hx hb dL_law_415 rfl ?_
      refine g_lld 0 E hG f_o rfl (by omega) (by decide) dL_law_416 ?_
      refine lv_iload hx hb dL_law_417 (lv_at hl 0 rfl) ?_
      refine lv_if_eq (tgt := 426) hx hb dL_law_419 (by decide) (fun c_419 => ?_) (fun c_419 => ?_)
      rotate_left
      · exact absurd c_419 (by decide)
      refine lv_lconst (v := 0) hx hb dL_law_426 rfl ?_
      refine W.lcmp hx hb dL_law_427 ?_
      refine lv_if_eq (tgt := 433) hx hb dL_law_428 (by decide) (fun c_428 => ?_) (fun c_428 => ?_)
      rotate_left
      · exact absurd ((lg_cmp_eq _ _).mpr (by rw [pk_uLs]; rw [hr9]; decide)) c_428
      refine lv_goto (tgt := 2029) hx hb dL_law_433 (by decide) ?_
      exact hK H4 locs _ _ (show c0 + 0 + 0 ≤ c0 + 200 by omega) (show s0 + 0 + 0 ≤ s0 + 4000 by omega) (li_mk hb9 hu hBy hbb hO hM hDS f_o) hS ls (lv_sub hl [2, 3, 4, 5, 6] rfl)

set_option maxHeartbeats 4000000 in
set_option maxRecDepth 100000 in
/-- the law: addBusinessDays -/
theorem lc_addBusinessDays {p : Program} {l : Launch} {e : Env} {s : State} {m : MethodId} {below : List Frame} {meth : Method} {c : Code} {Q : State → Prop} {b L : Nat} {xs : Nat → Int32} {G : CG} {B : Nat → Nat} {x bu pa ou i c0 s0 : Nat} {H : Heap} {locs : List Loc} {ls : Array Slot} (hst : l.stackTraces = false) (E : CallFix p m c code 7 s ([.ref b] : List Value).toArray TB RL) (hG : KT G s) (hE : EF G s s.heap) (hXs : va_X b L xs s s.heap) (hbl : b < s.heap.size) (hL : L ≤ 3072) (hZ : EFA G s.heap.size) (hp : LAp G B x bu pa ou) (hnew : ∀ q, LAO B x bu pa ou q → s.heap.size ≤ q) (hi6 : i + 6 ≤ L) (hc9 : c0 + 200 ≤ 601024) (hs9 : s0 + 4000 ≤ 7293034) (hI : LI G B x bu pa ou H) (hS : va_S (fun q9 => s.heap.size ≤ q9) s.heap H locs) (hl : lv_has ls 7 [(4, .int (nI i)), (3, .ref ou), (2, .ref (B 0)), (1, .ref x), (0, .ref b)]) (hK : ∀ (H : Heap) (locs : List Loc) (cs sl : Nat), cs ≤ c0 + 200 → sl ≤ s0 + 4000 → LI G B x bu pa ou H → va_S (fun q9 => s.heap.size ≤ q9) s.heap H locs → ∀ ls : Array Slot, lv_has ls 7 [(4, .int (nI i)), (3, .ref ou), (2, .ref (B 0)), (1, .ref x), (0, .ref b)] → W p l e room_1 s m ([.ref b] : List Value).toArray below meth c H locs cs sl Q (F0 m 2029 ls [])) : W p l e room_1 s m ([.ref b] : List Value).toArray below meth c H locs c0 s0 Q (F0 m 492 ls []) := by
  obtain ⟨b9, u, nc, np, nh, bk, es, bf, bb, da, hi, f, t, tl, ps, er, ea, ns, ne, se, dr, sk, hb9, hu, hBy, hbb, hO, hM, hDS, f_o⟩ := hI
  have hx := E.1
  have hb := E.2.1
  have hMD := hp.1
  have hDD := hp.2.1
  obtain ⟨⟨h0, hc0⟩, ⟨h1, hp0⟩, ⟨h2, hh⟩, ⟨td, htd, h3⟩, hCr, hPr, hHo, hIj⟩ := id hO
  have hEA : ∀ q9, s.heap.size ≤ q9 → EFA G q9 := fun q9 h9 => Nat.le_trans hZ h9
  have hbA : ¬ s.heap.size ≤ b := Nat.not_le.mpr hbl
  have hAo9 : ∀ q, q = ou → s.heap.size ≤ q := fun q h => hnew q (Or.inr (Or.inr (Or.inr (Or.inl h))))
  have hAB : ∀ q, MA B q → s.heap.size ≤ q := fun q h => hnew q (Or.inr (Or.inr (Or.inr (Or.inr h))))
  have hAO := lao_lt hM hDS f_o
  have hz9 : EFA G H.size := Nat.le_trans hZ hS.1
  have hou : ou < H.size := va_at.lt f_o
  obtain ⟨z1, hz_1⟩ : ∃ z, xs (i + 1) = z := ⟨_, rfl⟩
  obtain ⟨z2, hz_2⟩ : ∃ z, xs (i + 2) = z := ⟨_, rfl⟩
  rcases inV01 z1 0 9999 with hy0 | hy1
  · refine lv_aload_n hx hb dL_law_492 rfl (lv_at hl 3 rfl) ?_
    refine lv_aload_n hx hb dL_law_493 rfl (lv_at hl 4 rfl) ?_
    refine lv_iload hx hb dL_law_494 (lv_at hl 0 rfl) ?_
    refine lv_iconst (v := 1) hx hb dL_law_496 rfl ?_
    refine lv_iadd hx hb dL_law_497 ?_
    refine l_sld (k := i + 1) hx hb hXs hbl hbA hS (ixq (nI_ad rfl rfl)) (by omega) hL hz_1 dL_law_498 ?_
    refine lv_aload_n hx hb dL_law_499 rfl (lv_at hl 4 rfl) ?_
    refine lv_iload hx hb dL_law_500 (lv_at hl 0 rfl) ?_
    refine lv_iconst (v := 2) hx hb dL_law_502 rfl ?_
    refine lv_iadd hx hb dL_law_503 ?_
    refine l_sld (k := i + 2) hx hb hXs hbl hbA hS (ixq (nI_ad rfl rfl)) (by omega) hL hz_2 dL_law_504 ?_
    refine lv_aload_n hx hb dL_law_505 rfl (lv_at hl 1 rfl) ?_
    refine WW.callS (rest := []) (w_L_addBusinessDays_t1 l G z1 z2 (P := DS G (LAO B x bu pa ou) x bu pa bb (nI b9) es bk da nc np nh u hi) (Tr.w (c_X7_addBusinessDays_x l hst G z1 z2 hy0) (fun _ h9 => ds_dk h9))) yk_L_addBusinessDays E km_L_139 dL_law_506 hG (hE.S hS hEA) ⟨hDS, _, hDS.1⟩ rfl rfl hl.1 ⟨Nat.le_of_ble_eq_true rfl, Nat.le_of_ble_eq_true rfl⟩ ⟨show c0 + 1 ≤ 601024 by omega, show s0 + 6 ≤ 7293034 by omega⟩ (Nat.le_of_ble_eq_true rfl) hS (fun q9 h9 => h9.elim) (fun v9 H1 locs hq hz8 hfr9 hS => ?_)
    obtain rfl := hq
    have hf9 : ∀ q : Nat, q < H.size → q ≠ ou → H1[q]? = H[q]? := fun q9 h9 _ => hfr9 q9 h9 (fun w9 => w9)
    have f_o := va_at.kept f_o (hfr9 _ (va_at.lt f_o) (fun w9 => w9))
    have hM := ro_M hp hM hf9
    have hDS := ro_D hp hDS hf9
    refine lv_istore (lv' := [(5, .int 1), (4, .int (nI i)), (3, .ref ou), (2, .ref (B 0)), (1, .ref x), (0, .ref b)]) hx hb dL_law_509 hl (by decide) rfl (fun ls hl => ?_)
    refine lv_aload_n hx hb dL_law_511 rfl (lv_at hl 3 rfl) ?_
    refine lv_aload_n hx hb dL_law_512 rfl (lv_at hl 5 rfl) ?_
    refine lv_iload hx hb dL_law_513 (lv_at hl 1 rfl) ?_
    refine lv_iconst (v := 1) hx hb dL_law_515 rfl ?_
    refine lv_iadd hx hb dL_law_516 ?_
    refine l_sld (k := i + 1) hx hb hXs hbl hbA hS (ixq (nI_ad rfl rfl)) (by omega) hL hz_1 dL_law_517 ?_
    refine lv_aload_n hx hb dL_law_518 rfl (lv_at hl 5 rfl) ?_
    refine lv_iload hx hb dL_law_519 (lv_at hl 1 rfl) ?_
    refine lv_iconst (v := 2) hx hb dL_law_521 rfl ?_
    refine lv_iadd hx hb dL_law_522 ?_
    refine l_sld (k := i + 2) hx hb hXs hbl hbA hS (ixq (nI_ad rfl rfl)) (by omega) hL hz_2 dL_law_523 ?_
    refine Wr.callV (rest := []) (c_X8_addBusinessDays_x l G hMD z1 z2 hy0) yk_X8_addBusinessDays E km_L_142 dL_law_524 hG (hE.S hS hEA) hM (At.recv hG hM.1 rfl) rfl rfl hl.1 ⟨Nat.le_of_ble_eq_true rfl, Nat.le_of_ble_eq_true rfl⟩ ⟨show c0 + 1 + 0 ≤ 601024 by omega, show s0 + 6 + 0 ≤ 7293034 by omega⟩ (Nat.le_of_ble_eq_true rfl) hS hAB (fun v9 H2 locs hq hz8 hfr9 hS => ?_)
    obtain ⟨rfl, hM⟩ := hq
    have hDS := rf_D hp hDS hfr9
    have f_o := rf_o hp f_o hfr9
    refine lv_istore (lv' := [(6, .int 0), (5, .int 1), (4, .int (nI i)), (3, .ref ou), (2, .ref (B 0)), (1, .ref x), (0, .ref b)]) hx hb dL_law_527 hl (by decide) rfl (fun ls hl => ?_)
    refine lv_aload_n hx hb dL_law_529 rfl (lv_at hl 4 rfl) ?_
    refine Rd.callV (rest := []) (c_X8_thrown l G) yk_X8_thrown E km_L_113 dL_law_530 hG (hE.S hS hEA) hM (At.recv hG hM.1 rfl) rfl rfl hl.1 ⟨Nat.le_of_ble_eq_true rfl, Nat.le_of_ble_eq_true rfl⟩ ⟨show c0 + 1 + 0 ≤ 601024 by omega, show s0 + 6 + 0 ≤ 7293034 by omega⟩ (Nat.le_of_ble_eq_true rfl) ?_
    refine lv_ci (y := 1) rfl ?_
    refine lv_iload hx hb dL_law_533 (lv_at hl 1 rfl) ?_
    refine lv_icmp_eq (tgt := 540) hx hb dL_law_535 (by decide) (fun c_535 => ?_) (fun c_535 => ?_)
    rotate_left
    · exact absurd c_535 (by decide)
    refine lv_iload hx hb dL_law_540 (lv_at hl 1 rfl) ?_
    refine lv_if_ne (tgt := 557) hx hb dL_law_542 (by decide) (fun c_542 => ?_) (fun c_542 => ?_)
    rotate_left
    · exact absurd c_542 (by decide)
    refine lv_goto (tgt := 2029) hx hb dL_law_557 (by decide) ?_
    exact hK H2 locs _ _ (show c0 + 1 + 0 ≤ c0 + 200 by omega) (show s0 + 6 + 0 ≤ s0 + 4000 by omega) (li_mk hb9 hu hBy hbb hO hM hDS f_o) hS ls (lv_sub hl [2, 3, 4, 5, 6] rfl)
  · rcases inV01 z2 0 100 with hw0 | hw1
    · refine lv_aload_n hx hb dL_law_492 rfl (lv_at hl 3 rfl) ?_
      refine lv_aload_n hx hb dL_law_493 rfl (lv_at hl 4 rfl) ?_
      refine lv_iload hx hb dL_law_494 (lv_at hl 0 rfl) ?_
      refine lv_iconst (v := 1) hx hb dL_law_496 rfl ?_
      refine lv_iadd hx hb dL_law_497 ?_
      refine l_sld (k := i + 1) hx hb hXs hbl hbA hS (ixq (nI_ad rfl rfl)) (by omega) hL hz_1 dL_law_498 ?_
      refine lv_aload_n hx hb dL_law_499 rfl (lv_at hl 4 rfl) ?_
      refine lv_iload hx hb dL_law_500 (lv_at hl 0 rfl) ?_
      refine lv_iconst (v := 2) hx hb dL_law_502 rfl ?_
      refine lv_iadd hx hb dL_law_503 ?_
      refine l_sld (k := i + 2) hx hb hXs hbl hbA hS (ixq (nI_ad rfl rfl)) (by omega) hL hz_2 dL_law_504 ?_
      refine lv_aload_n hx hb dL_law_505 rfl (lv_at hl 1 rfl) ?_
      refine WW.callS (rest := []) (w_L_addBusinessDays_t1 l G z1 z2 (P := DS G (LAO B x bu pa ou) x bu pa bb (nI b9) es bk da nc np nh u hi) (Tr.w (c_X7_addBusinessDays_y l hst G z1 z2 hy1 hw0) (fun _ h9 => ds_dk h9))) yk_L_addBusinessDays E km_L_139 dL_law_506 hG (hE.S hS hEA) ⟨hDS, _, hDS.1⟩ rfl rfl hl.1 ⟨Nat.le_of_ble_eq_true rfl, Nat.le_of_ble_eq_true rfl⟩ ⟨show c0 + 1 ≤ 601024 by omega, show s0 + 6 ≤ 7293034 by omega⟩ (Nat.le_of_ble_eq_true rfl) hS (fun q9 h9 => h9.elim) (fun v9 H3 locs hq hz8 hfr9 hS => ?_)
      obtain rfl := hq
      have hf9 : ∀ q : Nat, q < H.size → q ≠ ou → H3[q]? = H[q]? := fun q9 h9 _ => hfr9 q9 h9 (fun w9 => w9)
      have f_o := va_at.kept f_o (hfr9 _ (va_at.lt f_o) (fun w9 => w9))
      have hM := ro_M hp hM hf9
      have hDS := ro_D hp hDS hf9
      refine lv_istore (lv' := [(5, .int 1), (4, .int (nI i)), (3, .ref ou), (2, .ref (B 0)), (1, .ref x), (0, .ref b)]) hx hb dL_law_509 hl (by decide) rfl (fun ls hl => ?_)
      refine lv_aload_n hx hb dL_law_511 rfl (lv_at hl 3 rfl) ?_
      refine lv_aload_n hx hb dL_law_512 rfl (lv_at hl 5 rfl) ?_
      refine lv_iload hx hb dL_law_513 (lv_at hl 1 rfl) ?_
      refine lv_iconst (v := 1) hx hb dL_law_515 rfl ?_
      refine lv_iadd hx hb dL_law_516 ?_
      refine l_sld (k := i + 1) hx hb hXs hbl hbA hS (ixq (nI_ad rfl rfl)) (by omega) hL hz_1 dL_law_517 ?_
      refine lv_aload_n hx hb dL_law_518 rfl (lv_at hl 5 rfl) ?_
      refine lv_iload hx hb dL_law_519 (lv_at hl 1 rfl) ?_
      refine lv_iconst (v := 2) hx hb dL_law_521 rfl ?_
      refine lv_iadd hx hb dL_law_522 ?_
      refine l_sld (k := i + 2) hx hb hXs hbl hbA hS (ixq (nI_ad rfl rfl)) (by omega) hL hz_2 dL_law_523 ?_
      refine Wr.callV (rest := []) (c_X8_addBusinessDays_y l G hMD z1 z2 hy1 hw0) yk_X8_addBusinessDays E km_L_142 dL_law_524 hG (hE.S hS hEA) hM (At.recv hG hM.1 rfl) rfl rfl hl.1 ⟨Nat.le_of_ble_eq_true rfl, Nat.le_of_ble_eq_true rfl⟩ ⟨show c0 + 1 + 0 ≤ 601024 by omega, show s0 + 6 + 0 ≤ 7293034 by omega⟩ (Nat.le_of_ble_eq_true rfl) hS hAB (fun v9 H4 locs hq hz8 hfr9 hS => ?_)
      obtain ⟨rfl, hM⟩ := hq
      have hDS := rf_D hp hDS hfr9
      have f_o := rf_o hp f_o hfr9
      refine lv_istore (lv' := [(6, .int 0), (5, .int 1), (4, .int (nI i)), (3, .ref ou), (2, .ref (B 0)), (1, .ref x), (0, .ref b)]) hx hb dL_law_527 hl (by decide) rfl (fun ls hl => ?_)
      refine lv_aload_n hx hb dL_law_529 rfl (lv_at hl 4 rfl) ?_
      refine Rd.callV (rest := []) (c_X8_thrown l G) yk_X8_thrown E km_L_113 dL_law_530 hG (hE.S hS hEA) hM (At.recv hG hM.1 rfl) rfl rfl hl.1 ⟨Nat.le_of_ble_eq_true rfl, Nat.le_of_ble_eq_true rfl⟩ ⟨show c0 + 1 + 0 ≤ 601024 by omega, show s0 + 6 + 0 ≤ 7293034 by omega⟩ (Nat.le_of_ble_eq_true rfl) ?_
      refine lv_ci (y := 1) rfl ?_
      refine lv_iload hx hb dL_law_533 (lv_at hl 1 rfl) ?_
      refine lv_icmp_eq (tgt := 540) hx hb dL_law_535 (by decide) (fun c_535 => ?_) (fun c_535 => ?_)
      rotate_left
      · exact absurd c_535 (by decide)
      refine lv_iload hx hb dL_law_540 (lv_at hl 1 rfl) ?_
      refine lv_if_ne (tgt := 557) hx hb dL_law_542 (by decide) (fun c_542 => ?_) (fun c_542 => ?_)
      rotate_left
      · exact absurd c_542 (by decide)
      refine lv_goto (tgt := 2029) hx hb dL_law_557 (by decide) ?_
      exact hK H4 locs _ _ (show c0 + 1 + 0 ≤ c0 + 200 by omega) (show s0 + 6 + 0 ≤ s0 + 4000 by omega) (li_mk hb9 hu hBy hbb hO hM hDS f_o) hS ls (lv_sub hl [2, 3, 4, 5, 6] rfl)
    · obtain ⟨n, hn9, ez⟩ := in_of (n := 9999) (by decide) hy1
      obtain ⟨k0, hn8, ey⟩ := in_of (n := 100) (by decide) hw1
      refine lv_aload_n hx hb dL_law_492 rfl (lv_at hl 3 rfl) ?_
      refine lv_aload_n hx hb dL_law_493 rfl (lv_at hl 4 rfl) ?_
      refine lv_iload hx hb dL_law_494 (lv_at hl 0 rfl) ?_
      refine lv_iconst (v := 1) hx hb dL_law_496 rfl ?_
      refine lv_iadd hx hb dL_law_497 ?_
      refine l_sld (k := i + 1) hx hb hXs hbl hbA hS (ixq (nI_ad rfl rfl)) (by omega) hL hz_1 dL_law_498 ?_
      refine lv_aload_n hx hb dL_law_499 rfl (lv_at hl 4 rfl) ?_
      refine lv_iload hx hb dL_law_500 (lv_at hl 0 rfl) ?_
      refine lv_iconst (v := 2) hx hb dL_law_502 rfl ?_
      refine lv_iadd hx hb dL_law_503 ?_
      refine l_sld (k := i + 2) hx hb hXs hbl hbA hS (ixq (nI_ad rfl rfl)) (by omega) hL hz_2 dL_law_504 ?_
      refine lv_aload_n hx hb dL_law_505 rfl (lv_at hl 1 rfl) ?_
      refine WW.callS (rest := []) (w_L_addBusinessDays l G z1 z2 (Q := (fun r9 _ => r9 = nI (addB da nh k0 n))) (f := f) (Rd.w (D := DS G (LAO B x bu pa ou) x bu pa bb (nI b9) es bk da nc np nh u hi) (c_X7_addBusinessDays l G z1 z2 n ez hn9 hy1 k0 ey hn8 hw1 hh) (fun _ h9 => ds_dk h9)) (fun w9 => w9) (fun _ _ _ _ _ h9 => h9)) yk_L_addBusinessDays E km_L_139 dL_law_506 hG (hE.S hS hEA) ⟨hDS, ⟨_, hDS.1⟩, f_o⟩ rfl rfl hl.1 ⟨Nat.le_of_ble_eq_true rfl, Nat.le_of_ble_eq_true rfl⟩ ⟨show c0 + 0 ≤ 601024 by omega, show s0 + 0 ≤ 7293034 by omega⟩ (Nat.le_of_ble_eq_true rfl) hS (fun q9 h9 => h9.elim (fun w9 => w9.elim) (hAo9 q9)) (fun v9 H5 locs hq hz8 hfr9 hS => ?_)
      obtain ⟨rfl, r, hQ9, f_o⟩ := hq
      have hf9 : ∀ q : Nat, q < H.size → q ≠ ou → H5[q]? = H[q]? := fun q9 h9 h8 => hfr9 q9 h9 (fun z9 => z9.elim (fun w9 => w9.elim) h8)
      have hM := ro_M hp hM hf9
      have hDS := ro_D hp hDS hf9
      refine lv_istore (lv' := [(5, .int 0), (4, .int (nI i)), (3, .ref ou), (2, .ref (B 0)), (1, .ref x), (0, .ref b)]) hx hb dL_law_509 hl (by decide) rfl (fun ls hl => ?_)
      refine lv_aload_n hx hb dL_law_511 rfl (lv_at hl 3 rfl) ?_
      refine lv_aload_n hx hb dL_law_512 rfl (lv_at hl 5 rfl) ?_
      refine lv_iload hx hb dL_law_513 (lv_at hl 1 rfl) ?_
      refine lv_iconst (v := 1) hx hb dL_law_515 rfl ?_
      refine lv_iadd hx hb dL_law_516 ?_
      refine l_sld (k := i + 1) hx hb hXs hbl hbA hS (ixq (nI_ad rfl rfl)) (by omega) hL hz_1 dL_law_517 ?_
      refine lv_aload_n hx hb dL_law_518 rfl (lv_at hl 5 rfl) ?_
      refine lv_iload hx hb dL_law_519 (lv_at hl 1 rfl) ?_
      refine lv_iconst (v := 2) hx hb dL_law_521 rfl ?_
      refine lv_iadd hx hb dL_law_522 ?_
      refine l_sld (k := i + 2) hx hb hXs hbl hbA hS (ixq (nI_ad rfl rfl)) (by omega) hL hz_2 dL_law_523 ?_
      refine Wr.callV (rest := []) (c_X8_addBusinessDays l G hMD z1 z2 n k0 nh ez ey hn9 hn8 hy1 hw1 h2 hh) yk_X8_addBusinessDays E km_L_142 dL_law_524 hG (hE.S hS hEA) hM (At.recv hG hM.1 rfl) rfl rfl hl.1 ⟨Nat.le_of_ble_eq_true rfl, Nat.le_of_ble_eq_true rfl⟩ ⟨show c0 + 0 + 0 ≤ 601024 by omega, show s0 + 0 + 0 ≤ 7293034 by omega⟩ (Nat.le_of_ble_eq_true rfl) hS hAB (fun v9 H6 locs hq hz8 hfr9 hS => ?_)
      obtain ⟨rfl, hM⟩ := hq
      have hDS := rf_D hp hDS hfr9
      have f_o := rf_o hp f_o hfr9
      refine lv_istore (lv' := [(6, .int (nI (addB da nh k0 n))), (5, .int 0), (4, .int (nI i)), (3, .ref ou), (2, .ref (B 0)), (1, .ref x), (0, .ref b)]) hx hb dL_law_527 hl (by decide) rfl (fun ls hl => ?_)
      refine lv_aload_n hx hb dL_law_529 rfl (lv_at hl 4 rfl) ?_
      refine Rd.callV (rest := []) (c_X8_thrown l G) yk_X8_thrown E km_L_113 dL_law_530 hG (hE.S hS hEA) hM (At.recv hG hM.1 rfl) rfl rfl hl.1 ⟨Nat.le_of_ble_eq_true rfl, Nat.le_of_ble_eq_true rfl⟩ ⟨show c0 + 0 + 0 ≤ 601024 by omega, show s0 + 0 + 0 ≤ 7293034 by omega⟩ (Nat.le_of_ble_eq_true rfl) ?_
      refine lv_ci (y := 0) rfl ?_
      refine lv_iload hx hb dL_law_533 (lv_at hl 1 rfl) ?_
      refine lv_icmp_eq (tgt := 540) hx hb dL_law_535 (by decide) (fun c_535 => ?_) (fun c_535 => ?_)
      rotate_left
      · exact absurd c_535 (by decide)
      refine lv_iload hx hb dL_law_540 (lv_at hl 1 rfl) ?_
      refine lv_if_ne (tgt := 557) hx hb dL_law_542 (by decide) (fun c_542 => ?_) (fun c_542 => ?_)
      · exact absurd c_542 (by decide)
      refine lv_aload_n hx hb dL_law_545 rfl (lv_at hl 3 rfl) ?_
      refine lv_iconst (v := 0) hx hb dL_law_546 rfl ?_
      refine g_lld 0 E hG f_o rfl (by omega) (by decide) dL_law_547 ?_
      refine lv_iload hx hb dL_law_548 (lv_at hl 0 rfl) ?_
      refine lv_i2l (v := (nI (addB da nh k0 n)).toInt64) hx hb dL_law_550 rfl ?_
      refine W.lcmp hx hb dL_law_551 ?_
      refine lv_if_eq (tgt := 557) hx hb dL_law_552 (by decide) (fun c_552 => ?_) (fun c_552 => ?_)
      rotate_left
      · exact absurd ((lg_cmp_eq _ _).mpr (by rw [pk_uLs]; rw [hQ9])) c_552
      refine lv_goto (tgt := 2029) hx hb dL_law_557 (by decide) ?_
      exact hK H6 locs _ _ (show c0 + 0 + 0 ≤ c0 + 200 by omega) (show s0 + 0 + 0 ≤ s0 + 4000 by omega) (li_mk hb9 hu hBy hbb hO hM hDS f_o) hS ls (lv_sub hl [2, 3, 4, 5, 6] rfl)

set_option maxHeartbeats 4000000 in
set_option maxRecDepth 100000 in
/-- the law: businessDays -/
theorem lc_businessDays {p : Program} {l : Launch} {e : Env} {s : State} {m : MethodId} {below : List Frame} {meth : Method} {c : Code} {Q : State → Prop} {b L : Nat} {xs : Nat → Int32} {G : CG} {B : Nat → Nat} {x bu pa ou i c0 s0 : Nat} {H : Heap} {locs : List Loc} {ls : Array Slot} (hst : l.stackTraces = false) (E : CallFix p m c code 7 s ([.ref b] : List Value).toArray TB RL) (hG : KT G s) (hE : EF G s s.heap) (hXs : va_X b L xs s s.heap) (hbl : b < s.heap.size) (hL : L ≤ 3072) (hZ : EFA G s.heap.size) (hp : LAp G B x bu pa ou) (hnew : ∀ q, LAO B x bu pa ou q → s.heap.size ≤ q) (hi6 : i + 6 ≤ L) (hc9 : c0 + 200 ≤ 601024) (hs9 : s0 + 4000 ≤ 7293034) (hI : LI G B x bu pa ou H) (hS : va_S (fun q9 => s.heap.size ≤ q9) s.heap H locs) (hl : lv_has ls 7 [(4, .int (nI i)), (3, .ref ou), (2, .ref (B 0)), (1, .ref x), (0, .ref b)]) (hK : ∀ (H : Heap) (locs : List Loc) (cs sl : Nat), cs ≤ c0 + 200 → sl ≤ s0 + 4000 → LI G B x bu pa ou H → va_S (fun q9 => s.heap.size ≤ q9) s.heap H locs → ∀ ls : Array Slot, lv_has ls 7 [(4, .int (nI i)), (3, .ref ou), (2, .ref (B 0)), (1, .ref x), (0, .ref b)] → W p l e room_1 s m ([.ref b] : List Value).toArray below meth c H locs cs sl Q (F0 m 2029 ls [])) : W p l e room_1 s m ([.ref b] : List Value).toArray below meth c H locs c0 s0 Q (F0 m 560 ls []) := by
  obtain ⟨b9, u, nc, np, nh, bk, es, bf, bb, da, hi, f, t, tl, ps, er, ea, ns, ne, se, dr, sk, hb9, hu, hBy, hbb, hO, hM, hDS, f_o⟩ := hI
  have hx := E.1
  have hb := E.2.1
  have hMD := hp.1
  have hDD := hp.2.1
  obtain ⟨⟨h0, hc0⟩, ⟨h1, hp0⟩, ⟨h2, hh⟩, ⟨td, htd, h3⟩, hCr, hPr, hHo, hIj⟩ := id hO
  have hEA : ∀ q9, s.heap.size ≤ q9 → EFA G q9 := fun q9 h9 => Nat.le_trans hZ h9
  have hbA : ¬ s.heap.size ≤ b := Nat.not_le.mpr hbl
  have hAo9 : ∀ q, q = ou → s.heap.size ≤ q := fun q h => hnew q (Or.inr (Or.inr (Or.inr (Or.inl h))))
  have hAB : ∀ q, MA B q → s.heap.size ≤ q := fun q h => hnew q (Or.inr (Or.inr (Or.inr (Or.inr h))))
  have hAO := lao_lt hM hDS f_o
  have hz9 : EFA G H.size := Nat.le_trans hZ hS.1
  have hou : ou < H.size := va_at.lt f_o
  obtain ⟨z1, hz_1⟩ : ∃ z, xs (i + 1) = z := ⟨_, rfl⟩
  obtain ⟨z2, hz_2⟩ : ∃ z, xs (i + 2) = z := ⟨_, rfl⟩
  rcases inV01 z1 0 9999 with hy0 | hy1
  · refine lv_aload_n hx hb dL_law_560 rfl (lv_at hl 3 rfl) ?_
    refine lv_aload_n hx hb dL_law_561 rfl (lv_at hl 4 rfl) ?_
    refine lv_iload hx hb dL_law_562 (lv_at hl 0 rfl) ?_
    refine lv_iconst (v := 1) hx hb dL_law_564 rfl ?_
    refine lv_iadd hx hb dL_law_565 ?_
    refine l_sld (k := i + 1) hx hb hXs hbl hbA hS (ixq (nI_ad rfl rfl)) (by omega) hL hz_1 dL_law_566 ?_
    refine lv_aload_n hx hb dL_law_567 rfl (lv_at hl 4 rfl) ?_
    refine lv_iload hx hb dL_law_568 (lv_at hl 0 rfl) ?_
    refine lv_iconst (v := 2) hx hb dL_law_570 rfl ?_
    refine lv_iadd hx hb dL_law_571 ?_
    refine l_sld (k := i + 2) hx hb hXs hbl hbA hS (ixq (nI_ad rfl rfl)) (by omega) hL hz_2 dL_law_572 ?_
    refine lv_aload_n hx hb dL_law_573 rfl (lv_at hl 1 rfl) ?_
    refine WW.callS (rest := []) (w_L_businessDays_t1 l G z1 z2 (P := DS G (LAO B x bu pa ou) x bu pa bb (nI b9) es bk da nc np nh u hi) (Tr.w (c_X7_businessDays_x l hst G z1 z2 hy0) (fun _ h9 => ds_dk h9))) yk_L_businessDays E km_L_143 dL_law_574 hG (hE.S hS hEA) ⟨hDS, _, hDS.1⟩ rfl rfl hl.1 ⟨Nat.le_of_ble_eq_true rfl, Nat.le_of_ble_eq_true rfl⟩ ⟨show c0 + 1 ≤ 601024 by omega, show s0 + 6 ≤ 7293034 by omega⟩ (Nat.le_of_ble_eq_true rfl) hS (fun q9 h9 => h9.elim) (fun v9 H1 locs hq hz8 hfr9 hS => ?_)
    obtain rfl := hq
    have hf9 : ∀ q : Nat, q < H.size → q ≠ ou → H1[q]? = H[q]? := fun q9 h9 _ => hfr9 q9 h9 (fun w9 => w9)
    have f_o := va_at.kept f_o (hfr9 _ (va_at.lt f_o) (fun w9 => w9))
    have hM := ro_M hp hM hf9
    have hDS := ro_D hp hDS hf9
    refine lv_istore (lv' := [(5, .int 1), (4, .int (nI i)), (3, .ref ou), (2, .ref (B 0)), (1, .ref x), (0, .ref b)]) hx hb dL_law_577 hl (by decide) rfl (fun ls hl => ?_)
    refine lv_aload_n hx hb dL_law_579 rfl (lv_at hl 3 rfl) ?_
    refine lv_aload_n hx hb dL_law_580 rfl (lv_at hl 5 rfl) ?_
    refine lv_iload hx hb dL_law_581 (lv_at hl 1 rfl) ?_
    refine lv_iconst (v := 1) hx hb dL_law_583 rfl ?_
    refine lv_iadd hx hb dL_law_584 ?_
    refine l_sld (k := i + 1) hx hb hXs hbl hbA hS (ixq (nI_ad rfl rfl)) (by omega) hL hz_1 dL_law_585 ?_
    refine lv_aload_n hx hb dL_law_586 rfl (lv_at hl 5 rfl) ?_
    refine lv_iload hx hb dL_law_587 (lv_at hl 1 rfl) ?_
    refine lv_iconst (v := 2) hx hb dL_law_589 rfl ?_
    refine lv_iadd hx hb dL_law_590 ?_
    refine l_sld (k := i + 2) hx hb hXs hbl hbA hS (ixq (nI_ad rfl rfl)) (by omega) hL hz_2 dL_law_591 ?_
    refine Wr.callV (rest := []) (c_X8_businessDays_x l G hMD z1 z2 hy0) yk_X8_businessDays E km_L_145 dL_law_592 hG (hE.S hS hEA) hM (At.recv hG hM.1 rfl) rfl rfl hl.1 ⟨Nat.le_of_ble_eq_true rfl, Nat.le_of_ble_eq_true rfl⟩ ⟨show c0 + 1 + 0 ≤ 601024 by omega, show s0 + 6 + 0 ≤ 7293034 by omega⟩ (Nat.le_of_ble_eq_true rfl) hS hAB (fun v9 H2 locs hq hz8 hfr9 hS => ?_)
    obtain ⟨rfl, hM⟩ := hq
    have hDS := rf_D hp hDS hfr9
    have f_o := rf_o hp f_o hfr9
    refine lv_istore (lv' := [(6, .int 0), (5, .int 1), (4, .int (nI i)), (3, .ref ou), (2, .ref (B 0)), (1, .ref x), (0, .ref b)]) hx hb dL_law_595 hl (by decide) rfl (fun ls hl => ?_)
    refine lv_aload_n hx hb dL_law_597 rfl (lv_at hl 4 rfl) ?_
    refine Rd.callV (rest := []) (c_X8_thrown l G) yk_X8_thrown E km_L_113 dL_law_598 hG (hE.S hS hEA) hM (At.recv hG hM.1 rfl) rfl rfl hl.1 ⟨Nat.le_of_ble_eq_true rfl, Nat.le_of_ble_eq_true rfl⟩ ⟨show c0 + 1 + 0 ≤ 601024 by omega, show s0 + 6 + 0 ≤ 7293034 by omega⟩ (Nat.le_of_ble_eq_true rfl) ?_
    refine lv_ci (y := 1) rfl ?_
    refine lv_iload hx hb dL_law_601 (lv_at hl 1 rfl) ?_
    refine lv_icmp_eq (tgt := 608) hx hb dL_law_603 (by decide) (fun c_603 => ?_) (fun c_603 => ?_)
    rotate_left
    · exact absurd c_603 (by decide)
    refine lv_iload hx hb dL_law_608 (lv_at hl 1 rfl) ?_
    refine lv_if_ne (tgt := 625) hx hb dL_law_610 (by decide) (fun c_610 => ?_) (fun c_610 => ?_)
    rotate_left
    · exact absurd c_610 (by decide)
    refine lv_goto (tgt := 2029) hx hb dL_law_625 (by decide) ?_
    exact hK H2 locs _ _ (show c0 + 1 + 0 ≤ c0 + 200 by omega) (show s0 + 6 + 0 ≤ s0 + 4000 by omega) (li_mk hb9 hu hBy hbb hO hM hDS f_o) hS ls (lv_sub hl [2, 3, 4, 5, 6] rfl)
  · rcases inV01 z2 0 9999 with hw0 | hw1
    · refine lv_aload_n hx hb dL_law_560 rfl (lv_at hl 3 rfl) ?_
      refine lv_aload_n hx hb dL_law_561 rfl (lv_at hl 4 rfl) ?_
      refine lv_iload hx hb dL_law_562 (lv_at hl 0 rfl) ?_
      refine lv_iconst (v := 1) hx hb dL_law_564 rfl ?_
      refine lv_iadd hx hb dL_law_565 ?_
      refine l_sld (k := i + 1) hx hb hXs hbl hbA hS (ixq (nI_ad rfl rfl)) (by omega) hL hz_1 dL_law_566 ?_
      refine lv_aload_n hx hb dL_law_567 rfl (lv_at hl 4 rfl) ?_
      refine lv_iload hx hb dL_law_568 (lv_at hl 0 rfl) ?_
      refine lv_iconst (v := 2) hx hb dL_law_570 rfl ?_
      refine lv_iadd hx hb dL_law_571 ?_
      refine l_sld (k := i + 2) hx hb hXs hbl hbA hS (ixq (nI_ad rfl rfl)) (by omega) hL hz_2 dL_law_572 ?_
      refine lv_aload_n hx hb dL_law_573 rfl (lv_at hl 1 rfl) ?_
      refine WW.callS (rest := []) (w_L_businessDays_t1 l G z1 z2 (P := DS G (LAO B x bu pa ou) x bu pa bb (nI b9) es bk da nc np nh u hi) (Tr.w (c_X7_businessDays_y l hst G z1 z2 hy1 hw0) (fun _ h9 => ds_dk h9))) yk_L_businessDays E km_L_143 dL_law_574 hG (hE.S hS hEA) ⟨hDS, _, hDS.1⟩ rfl rfl hl.1 ⟨Nat.le_of_ble_eq_true rfl, Nat.le_of_ble_eq_true rfl⟩ ⟨show c0 + 1 ≤ 601024 by omega, show s0 + 6 ≤ 7293034 by omega⟩ (Nat.le_of_ble_eq_true rfl) hS (fun q9 h9 => h9.elim) (fun v9 H3 locs hq hz8 hfr9 hS => ?_)
      obtain rfl := hq
      have hf9 : ∀ q : Nat, q < H.size → q ≠ ou → H3[q]? = H[q]? := fun q9 h9 _ => hfr9 q9 h9 (fun w9 => w9)
      have f_o := va_at.kept f_o (hfr9 _ (va_at.lt f_o) (fun w9 => w9))
      have hM := ro_M hp hM hf9
      have hDS := ro_D hp hDS hf9
      refine lv_istore (lv' := [(5, .int 1), (4, .int (nI i)), (3, .ref ou), (2, .ref (B 0)), (1, .ref x), (0, .ref b)]) hx hb dL_law_577 hl (by decide) rfl (fun ls hl => ?_)
      refine lv_aload_n hx hb dL_law_579 rfl (lv_at hl 3 rfl) ?_
      refine lv_aload_n hx hb dL_law_580 rfl (lv_at hl 5 rfl) ?_
      refine lv_iload hx hb dL_law_581 (lv_at hl 1 rfl) ?_
      refine lv_iconst (v := 1) hx hb dL_law_583 rfl ?_
      refine lv_iadd hx hb dL_law_584 ?_
      refine l_sld (k := i + 1) hx hb hXs hbl hbA hS (ixq (nI_ad rfl rfl)) (by omega) hL hz_1 dL_law_585 ?_
      refine lv_aload_n hx hb dL_law_586 rfl (lv_at hl 5 rfl) ?_
      refine lv_iload hx hb dL_law_587 (lv_at hl 1 rfl) ?_
      refine lv_iconst (v := 2) hx hb dL_law_589 rfl ?_
      refine lv_iadd hx hb dL_law_590 ?_
      refine l_sld (k := i + 2) hx hb hXs hbl hbA hS (ixq (nI_ad rfl rfl)) (by omega) hL hz_2 dL_law_591 ?_
      refine Wr.callV (rest := []) (c_X8_businessDays_y l G hMD z1 z2 hy1 hw0) yk_X8_businessDays E km_L_145 dL_law_592 hG (hE.S hS hEA) hM (At.recv hG hM.1 rfl) rfl rfl hl.1 ⟨Nat.le_of_ble_eq_true rfl, Nat.le_of_ble_eq_true rfl⟩ ⟨show c0 + 1 + 0 ≤ 601024 by omega, show s0 + 6 + 0 ≤ 7293034 by omega⟩ (Nat.le_of_ble_eq_true rfl) hS hAB (fun v9 H4 locs hq hz8 hfr9 hS => ?_)
      obtain ⟨rfl, hM⟩ := hq
      have hDS := rf_D hp hDS hfr9
      have f_o := rf_o hp f_o hfr9
      refine lv_istore (lv' := [(6, .int 0), (5, .int 1), (4, .int (nI i)), (3, .ref ou), (2, .ref (B 0)), (1, .ref x), (0, .ref b)]) hx hb dL_law_595 hl (by decide) rfl (fun ls hl => ?_)
      refine lv_aload_n hx hb dL_law_597 rfl (lv_at hl 4 rfl) ?_
      refine Rd.callV (rest := []) (c_X8_thrown l G) yk_X8_thrown E km_L_113 dL_law_598 hG (hE.S hS hEA) hM (At.recv hG hM.1 rfl) rfl rfl hl.1 ⟨Nat.le_of_ble_eq_true rfl, Nat.le_of_ble_eq_true rfl⟩ ⟨show c0 + 1 + 0 ≤ 601024 by omega, show s0 + 6 + 0 ≤ 7293034 by omega⟩ (Nat.le_of_ble_eq_true rfl) ?_
      refine lv_ci (y := 1) rfl ?_
      refine lv_iload hx hb dL_law_601 (lv_at hl 1 rfl) ?_
      refine lv_icmp_eq (tgt := 608) hx hb dL_law_603 (by decide) (fun c_603 => ?_) (fun c_603 => ?_)
      rotate_left
      · exact absurd c_603 (by decide)
      refine lv_iload hx hb dL_law_608 (lv_at hl 1 rfl) ?_
      refine lv_if_ne (tgt := 625) hx hb dL_law_610 (by decide) (fun c_610 => ?_) (fun c_610 => ?_)
      rotate_left
      · exact absurd c_610 (by decide)
      refine lv_goto (tgt := 2029) hx hb dL_law_625 (by decide) ?_
      exact hK H4 locs _ _ (show c0 + 1 + 0 ≤ c0 + 200 by omega) (show s0 + 6 + 0 ≤ s0 + 4000 by omega) (li_mk hb9 hu hBy hbb hO hM hDS f_o) hS ls (lv_sub hl [2, 3, 4, 5, 6] rfl)
    · obtain ⟨n, hn9, ez⟩ := in_of (n := 9999) (by decide) hy1
      obtain ⟨k0, hn8, ey⟩ := in_of (n := 9999) (by decide) hw1
      refine lv_aload_n hx hb dL_law_560 rfl (lv_at hl 3 rfl) ?_
      refine lv_aload_n hx hb dL_law_561 rfl (lv_at hl 4 rfl) ?_
      refine lv_iload hx hb dL_law_562 (lv_at hl 0 rfl) ?_
      refine lv_iconst (v := 1) hx hb dL_law_564 rfl ?_
      refine lv_iadd hx hb dL_law_565 ?_
      refine l_sld (k := i + 1) hx hb hXs hbl hbA hS (ixq (nI_ad rfl rfl)) (by omega) hL hz_1 dL_law_566 ?_
      refine lv_aload_n hx hb dL_law_567 rfl (lv_at hl 4 rfl) ?_
      refine lv_iload hx hb dL_law_568 (lv_at hl 0 rfl) ?_
      refine lv_iconst (v := 2) hx hb dL_law_570 rfl ?_
      refine lv_iadd hx hb dL_law_571 ?_
      refine l_sld (k := i + 2) hx hb hXs hbl hbA hS (ixq (nI_ad rfl rfl)) (by omega) hL hz_2 dL_law_572 ?_
      refine lv_aload_n hx hb dL_law_573 rfl (lv_at hl 1 rfl) ?_
      refine WW.callS (rest := []) (w_L_businessDays l G z1 z2 (Q := (fun r9 _ => r9 = nI (cntB da nh n (k0 - n)))) (f := f) (Rd.w (D := DS G (LAO B x bu pa ou) x bu pa bb (nI b9) es bk da nc np nh u hi) (c_X7_businessDays l G z1 z2 n ez hn9 hy1 k0 ey hn8 hw1 hh hHo hIj) (fun _ h9 => ds_dk h9)) (fun w9 => w9) (fun _ _ _ _ _ h9 => h9)) yk_L_businessDays E km_L_143 dL_law_574 hG (hE.S hS hEA) ⟨hDS, ⟨_, hDS.1⟩, f_o⟩ rfl rfl hl.1 ⟨Nat.le_of_ble_eq_true rfl, Nat.le_of_ble_eq_true rfl⟩ ⟨show c0 + 0 ≤ 601024 by omega, show s0 + 0 ≤ 7293034 by omega⟩ (Nat.le_of_ble_eq_true rfl) hS (fun q9 h9 => h9.elim (fun w9 => w9.elim) (hAo9 q9)) (fun v9 H5 locs hq hz8 hfr9 hS => ?_)
      obtain ⟨rfl, r, hQ9, f_o⟩ := hq
      have hf9 : ∀ q : Nat, q < H.size → q ≠ ou → H5[q]? = H[q]? := fun q9 h9 h8 => hfr9 q9 h9 (fun z9 => z9.elim (fun w9 => w9.elim) h8)
      have hM := ro_M hp hM hf9
      have hDS := ro_D hp hDS hf9
      refine lv_istore (lv' := [(5, .int 0), (4, .int (nI i)), (3, .ref ou), (2, .ref (B 0)), (1, .ref x), (0, .ref b)]) hx hb dL_law_577 hl (by decide) rfl (fun ls hl => ?_)
      refine lv_aload_n hx hb dL_law_579 rfl (lv_at hl 3 rfl) ?_
      refine lv_aload_n hx hb dL_law_580 rfl (lv_at hl 5 rfl) ?_
      refine lv_iload hx hb dL_law_581 (lv_at hl 1 rfl) ?_
      refine lv_iconst (v := 1) hx hb dL_law_583 rfl ?_
      refine lv_iadd hx hb dL_law_584 ?_
      refine l_sld (k := i + 1) hx hb hXs hbl hbA hS (ixq (nI_ad rfl rfl)) (by omega) hL hz_1 dL_law_585 ?_
      refine lv_aload_n hx hb dL_law_586 rfl (lv_at hl 5 rfl) ?_
      refine lv_iload hx hb dL_law_587 (lv_at hl 1 rfl) ?_
      refine lv_iconst (v := 2) hx hb dL_law_589 rfl ?_
      refine lv_iadd hx hb dL_law_590 ?_
      refine l_sld (k := i + 2) hx hb hXs hbl hbA hS (ixq (nI_ad rfl rfl)) (by omega) hL hz_2 dL_law_591 ?_
      refine Wr.callV (rest := []) (c_X8_businessDays l G hMD z1 z2 n k0 nh ez ey hn9 hn8 hy1 hw1 h2 hh) yk_X8_businessDays E km_L_145 dL_law_592 hG (hE.S hS hEA) hM (At.recv hG hM.1 rfl) rfl rfl hl.1 ⟨Nat.le_of_ble_eq_true rfl, Nat.le_of_ble_eq_true rfl⟩ ⟨show c0 + 0 + 0 ≤ 601024 by omega, show s0 + 0 + 0 ≤ 7293034 by omega⟩ (Nat.le_of_ble_eq_true rfl) hS hAB (fun v9 H6 locs hq hz8 hfr9 hS => ?_)
      obtain ⟨rfl, hM⟩ := hq
      have hDS := rf_D hp hDS hfr9
      have f_o := rf_o hp f_o hfr9
      refine lv_istore (lv' := [(6, .int (nI (cntB da nh n (k0 - n)))), (5, .int 0), (4, .int (nI i)), (3, .ref ou), (2, .ref (B 0)), (1, .ref x), (0, .ref b)]) hx hb dL_law_595 hl (by decide) rfl (fun ls hl => ?_)
      refine lv_aload_n hx hb dL_law_597 rfl (lv_at hl 4 rfl) ?_
      refine Rd.callV (rest := []) (c_X8_thrown l G) yk_X8_thrown E km_L_113 dL_law_598 hG (hE.S hS hEA) hM (At.recv hG hM.1 rfl) rfl rfl hl.1 ⟨Nat.le_of_ble_eq_true rfl, Nat.le_of_ble_eq_true rfl⟩ ⟨show c0 + 0 + 0 ≤ 601024 by omega, show s0 + 0 + 0 ≤ 7293034 by omega⟩ (Nat.le_of_ble_eq_true rfl) ?_
      refine lv_ci (y := 0) rfl ?_
      refine lv_iload hx hb dL_law_601 (lv_at hl 1 rfl) ?_
      refine lv_icmp_eq (tgt := 608) hx hb dL_law_603 (by decide) (fun c_603 => ?_) (fun c_603 => ?_)
      rotate_left
      · exact absurd c_603 (by decide)
      refine lv_iload hx hb dL_law_608 (lv_at hl 1 rfl) ?_
      refine lv_if_ne (tgt := 625) hx hb dL_law_610 (by decide) (fun c_610 => ?_) (fun c_610 => ?_)
      · exact absurd c_610 (by decide)
      refine lv_aload_n hx hb dL_law_613 rfl (lv_at hl 3 rfl) ?_
      refine lv_iconst (v := 0) hx hb dL_law_614 rfl ?_
      refine g_lld 0 E hG f_o rfl (by omega) (by decide) dL_law_615 ?_
      refine lv_iload hx hb dL_law_616 (lv_at hl 0 rfl) ?_
      refine lv_i2l (v := (nI (cntB da nh n (k0 - n))).toInt64) hx hb dL_law_618 rfl ?_
      refine W.lcmp hx hb dL_law_619 ?_
      refine lv_if_eq (tgt := 625) hx hb dL_law_620 (by decide) (fun c_620 => ?_) (fun c_620 => ?_)
      rotate_left
      · exact absurd ((lg_cmp_eq _ _).mpr (by rw [pk_uLs]; rw [hQ9])) c_620
      refine lv_goto (tgt := 2029) hx hb dL_law_625 (by decide) ?_
      exact hK H6 locs _ _ (show c0 + 0 + 0 ≤ c0 + 200 by omega) (show s0 + 0 + 0 ≤ s0 + 4000 by omega) (li_mk hb9 hu hBy hbb hO hM hDS f_o) hS ls (lv_sub hl [2, 3, 4, 5, 6] rfl)

set_option maxHeartbeats 4000000 in
set_option maxRecDepth 100000 in
/-- the law: parent -/
theorem lc_parent {p : Program} {l : Launch} {e : Env} {s : State} {m : MethodId} {below : List Frame} {meth : Method} {c : Code} {Q : State → Prop} {b L : Nat} {xs : Nat → Int32} {G : CG} {B : Nat → Nat} {x bu pa ou i c0 s0 : Nat} {H : Heap} {locs : List Loc} {ls : Array Slot} (hst : l.stackTraces = false) (E : CallFix p m c code 7 s ([.ref b] : List Value).toArray TB RL) (hG : KT G s) (hE : EF G s s.heap) (hXs : va_X b L xs s s.heap) (hbl : b < s.heap.size) (hL : L ≤ 3072) (hZ : EFA G s.heap.size) (hp : LAp G B x bu pa ou) (hnew : ∀ q, LAO B x bu pa ou q → s.heap.size ≤ q) (hi6 : i + 6 ≤ L) (hc9 : c0 + 200 ≤ 601024) (hs9 : s0 + 4000 ≤ 7293034) (hI : LI G B x bu pa ou H) (hS : va_S (fun q9 => s.heap.size ≤ q9) s.heap H locs) (hl : lv_has ls 7 [(4, .int (nI i)), (3, .ref ou), (2, .ref (B 0)), (1, .ref x), (0, .ref b)]) (hK : ∀ (H : Heap) (locs : List Loc) (cs sl : Nat), cs ≤ c0 + 200 → sl ≤ s0 + 4000 → LI G B x bu pa ou H → va_S (fun q9 => s.heap.size ≤ q9) s.heap H locs → ∀ ls : Array Slot, lv_has ls 7 [(4, .int (nI i)), (3, .ref ou), (2, .ref (B 0)), (1, .ref x), (0, .ref b)] → W p l e room_1 s m ([.ref b] : List Value).toArray below meth c H locs cs sl Q (F0 m 2029 ls [])) : W p l e room_1 s m ([.ref b] : List Value).toArray below meth c H locs c0 s0 Q (F0 m 628 ls []) := by
  obtain ⟨b9, u, nc, np, nh, bk, es, bf, bb, da, hi, f, t, tl, ps, er, ea, ns, ne, se, dr, sk, hb9, hu, hBy, hbb, hO, hM, hDS, f_o⟩ := hI
  have hx := E.1
  have hb := E.2.1
  have hMD := hp.1
  have hDD := hp.2.1
  obtain ⟨⟨h0, hc0⟩, ⟨h1, hp0⟩, ⟨h2, hh⟩, ⟨td, htd, h3⟩, hCr, hPr, hHo, hIj⟩ := id hO
  have hEA : ∀ q9, s.heap.size ≤ q9 → EFA G q9 := fun q9 h9 => Nat.le_trans hZ h9
  have hbA : ¬ s.heap.size ≤ b := Nat.not_le.mpr hbl
  have hAo9 : ∀ q, q = ou → s.heap.size ≤ q := fun q h => hnew q (Or.inr (Or.inr (Or.inr (Or.inl h))))
  have hAB : ∀ q, MA B q → s.heap.size ≤ q := fun q h => hnew q (Or.inr (Or.inr (Or.inr (Or.inr h))))
  have hAO := lao_lt hM hDS f_o
  have hz9 : EFA G H.size := Nat.le_trans hZ hS.1
  have hou : ou < H.size := va_at.lt f_o
  obtain ⟨z1, hz_1⟩ : ∃ z, xs (i + 1) = z := ⟨_, rfl⟩
  rcases inV01 z1 0 (nI nc - 1) with hy0 | hy1
  · refine lv_aload_n hx hb dL_law_628 rfl (lv_at hl 3 rfl) ?_
    refine lv_aload_n hx hb dL_law_629 rfl (lv_at hl 4 rfl) ?_
    refine lv_iload hx hb dL_law_630 (lv_at hl 0 rfl) ?_
    refine lv_iconst (v := 1) hx hb dL_law_632 rfl ?_
    refine lv_iadd hx hb dL_law_633 ?_
    refine l_sld (k := i + 1) hx hb hXs hbl hbA hS (ixq (nI_ad rfl rfl)) (by omega) hL hz_1 dL_law_634 ?_
    refine lv_aload_n hx hb dL_law_635 rfl (lv_at hl 1 rfl) ?_
    refine WW.callS (rest := []) (w_L_parent_t1 l G z1 (P := DS G (LAO B x bu pa ou) x bu pa bb (nI b9) es bk da nc np nh u hi) (Tr.w (c_X7_parent_x l hst G z1 hy0 hc0) (fun _ h9 => ds_dk h9))) yk_L_parent E km_L_146 dL_law_636 hG (hE.S hS hEA) ⟨hDS, _, hDS.1⟩ rfl rfl hl.1 ⟨Nat.le_of_ble_eq_true rfl, Nat.le_of_ble_eq_true rfl⟩ ⟨show c0 + 1 ≤ 601024 by omega, show s0 + 6 ≤ 7293034 by omega⟩ (Nat.le_of_ble_eq_true rfl) hS (fun q9 h9 => h9.elim) (fun v9 H1 locs hq hz8 hfr9 hS => ?_)
    obtain rfl := hq
    have hf9 : ∀ q : Nat, q < H.size → q ≠ ou → H1[q]? = H[q]? := fun q9 h9 _ => hfr9 q9 h9 (fun w9 => w9)
    have f_o := va_at.kept f_o (hfr9 _ (va_at.lt f_o) (fun w9 => w9))
    have hM := ro_M hp hM hf9
    have hDS := ro_D hp hDS hf9
    refine lv_istore (lv' := [(5, .int 1), (4, .int (nI i)), (3, .ref ou), (2, .ref (B 0)), (1, .ref x), (0, .ref b)]) hx hb dL_law_639 hl (by decide) rfl (fun ls hl => ?_)
    refine lv_aload_n hx hb dL_law_641 rfl (lv_at hl 3 rfl) ?_
    refine lv_aload_n hx hb dL_law_642 rfl (lv_at hl 5 rfl) ?_
    refine lv_iload hx hb dL_law_643 (lv_at hl 1 rfl) ?_
    refine lv_iconst (v := 1) hx hb dL_law_645 rfl ?_
    refine lv_iadd hx hb dL_law_646 ?_
    refine l_sld (k := i + 1) hx hb hXs hbl hbA hS (ixq (nI_ad rfl rfl)) (by omega) hL hz_1 dL_law_647 ?_
    refine Wr.callV (rest := []) (c_X8_parent_x l G hMD z1 (by rw [h0]; exact hy0)) yk_X8_parent E km_L_148 dL_law_648 hG (hE.S hS hEA) hM (At.recv hG hM.1 rfl) rfl rfl hl.1 ⟨Nat.le_of_ble_eq_true rfl, Nat.le_of_ble_eq_true rfl⟩ ⟨show c0 + 1 + 0 ≤ 601024 by omega, show s0 + 6 + 0 ≤ 7293034 by omega⟩ (Nat.le_of_ble_eq_true rfl) hS hAB (fun v9 H2 locs hq hz8 hfr9 hS => ?_)
    obtain ⟨rfl, hM⟩ := hq
    have hDS := rf_D hp hDS hfr9
    have f_o := rf_o hp f_o hfr9
    refine lv_istore (lv' := [(6, .int 0), (5, .int 1), (4, .int (nI i)), (3, .ref ou), (2, .ref (B 0)), (1, .ref x), (0, .ref b)]) hx hb dL_law_651 hl (by decide) rfl (fun ls hl => ?_)
    refine lv_aload_n hx hb dL_law_653 rfl (lv_at hl 4 rfl) ?_
    refine Rd.callV (rest := []) (c_X8_thrown l G) yk_X8_thrown E km_L_113 dL_law_654 hG (hE.S hS hEA) hM (At.recv hG hM.1 rfl) rfl rfl hl.1 ⟨Nat.le_of_ble_eq_true rfl, Nat.le_of_ble_eq_true rfl⟩ ⟨show c0 + 1 + 0 ≤ 601024 by omega, show s0 + 6 + 0 ≤ 7293034 by omega⟩ (Nat.le_of_ble_eq_true rfl) ?_
    refine lv_ci (y := 1) rfl ?_
    refine lv_iload hx hb dL_law_657 (lv_at hl 1 rfl) ?_
    refine lv_icmp_eq (tgt := 664) hx hb dL_law_659 (by decide) (fun c_659 => ?_) (fun c_659 => ?_)
    rotate_left
    · exact absurd c_659 (by decide)
    refine lv_iload hx hb dL_law_664 (lv_at hl 1 rfl) ?_
    refine lv_if_ne (tgt := 681) hx hb dL_law_666 (by decide) (fun c_666 => ?_) (fun c_666 => ?_)
    rotate_left
    · exact absurd c_666 (by decide)
    refine lv_goto (tgt := 2029) hx hb dL_law_681 (by decide) ?_
    exact hK H2 locs _ _ (show c0 + 1 + 0 ≤ c0 + 200 by omega) (show s0 + 6 + 0 ≤ s0 + 4000 by omega) (li_mk hb9 hu hBy hbb hO hM hDS f_o) hS ls (lv_sub hl [2, 3, 4, 5, 6] rfl)
  · obtain ⟨k, hk9, ez⟩ := ix_of (by omega) hy1
    refine lv_aload_n hx hb dL_law_628 rfl (lv_at hl 3 rfl) ?_
    refine lv_aload_n hx hb dL_law_629 rfl (lv_at hl 4 rfl) ?_
    refine lv_iload hx hb dL_law_630 (lv_at hl 0 rfl) ?_
    refine lv_iconst (v := 1) hx hb dL_law_632 rfl ?_
    refine lv_iadd hx hb dL_law_633 ?_
    refine l_sld (k := i + 1) hx hb hXs hbl hbA hS (ixq (nI_ad rfl rfl)) (by omega) hL hz_1 dL_law_634 ?_
    refine lv_aload_n hx hb dL_law_635 rfl (lv_at hl 1 rfl) ?_
    refine WW.callS (rest := []) (w_L_parent l G z1 (Q := (fun r9 _ => r9 = da (cP k + 10))) (f := f) (Rd.w (D := DS G (LAO B x bu pa ou) x bu pa bb (nI b9) es bk da nc np nh u hi) (c_X7_parent l G z1 k ez hk9 hc0) (fun _ h9 => ds_dk h9)) (fun w9 => w9) (fun _ _ _ _ _ h9 => h9)) yk_L_parent E km_L_146 dL_law_636 hG (hE.S hS hEA) ⟨hDS, ⟨_, hDS.1⟩, f_o⟩ rfl rfl hl.1 ⟨Nat.le_of_ble_eq_true rfl, Nat.le_of_ble_eq_true rfl⟩ ⟨show c0 + 0 ≤ 601024 by omega, show s0 + 0 ≤ 7293034 by omega⟩ (Nat.le_of_ble_eq_true rfl) hS (fun q9 h9 => h9.elim (fun w9 => w9.elim) (hAo9 q9)) (fun v9 H3 locs hq hz8 hfr9 hS => ?_)
    obtain ⟨rfl, r, hQ9, f_o⟩ := hq
    have hf9 : ∀ q : Nat, q < H.size → q ≠ ou → H3[q]? = H[q]? := fun q9 h9 h8 => hfr9 q9 h9 (fun z9 => z9.elim (fun w9 => w9.elim) h8)
    have hM := ro_M hp hM hf9
    have hDS := ro_D hp hDS hf9
    refine lv_istore (lv' := [(5, .int 0), (4, .int (nI i)), (3, .ref ou), (2, .ref (B 0)), (1, .ref x), (0, .ref b)]) hx hb dL_law_639 hl (by decide) rfl (fun ls hl => ?_)
    refine lv_aload_n hx hb dL_law_641 rfl (lv_at hl 3 rfl) ?_
    refine lv_aload_n hx hb dL_law_642 rfl (lv_at hl 5 rfl) ?_
    refine lv_iload hx hb dL_law_643 (lv_at hl 1 rfl) ?_
    refine lv_iconst (v := 1) hx hb dL_law_645 rfl ?_
    refine lv_iadd hx hb dL_law_646 ?_
    refine l_sld (k := i + 1) hx hb hXs hbl hbA hS (ixq (nI_ad rfl rfl)) (by omega) hL hz_1 dL_law_647 ?_
    refine Wr.callV (rest := []) (c_X8_parent l G hMD z1 k ez (by omega) (by rw [h0]; exact hy1)) yk_X8_parent E km_L_148 dL_law_648 hG (hE.S hS hEA) hM (At.recv hG hM.1 rfl) rfl rfl hl.1 ⟨Nat.le_of_ble_eq_true rfl, Nat.le_of_ble_eq_true rfl⟩ ⟨show c0 + 0 + 0 ≤ 601024 by omega, show s0 + 0 + 0 ≤ 7293034 by omega⟩ (Nat.le_of_ble_eq_true rfl) hS hAB (fun v9 H4 locs hq hz8 hfr9 hS => ?_)
    obtain ⟨rfl, hM⟩ := hq
    have hDS := rf_D hp hDS hfr9
    have f_o := rf_o hp f_o hfr9
    refine lv_istore (lv' := [(6, .int (da (cP k + 10))), (5, .int 0), (4, .int (nI i)), (3, .ref ou), (2, .ref (B 0)), (1, .ref x), (0, .ref b)]) hx hb dL_law_651 hl (by decide) rfl (fun ls hl => ?_)
    refine lv_aload_n hx hb dL_law_653 rfl (lv_at hl 4 rfl) ?_
    refine Rd.callV (rest := []) (c_X8_thrown l G) yk_X8_thrown E km_L_113 dL_law_654 hG (hE.S hS hEA) hM (At.recv hG hM.1 rfl) rfl rfl hl.1 ⟨Nat.le_of_ble_eq_true rfl, Nat.le_of_ble_eq_true rfl⟩ ⟨show c0 + 0 + 0 ≤ 601024 by omega, show s0 + 0 + 0 ≤ 7293034 by omega⟩ (Nat.le_of_ble_eq_true rfl) ?_
    refine lv_ci (y := 0) rfl ?_
    refine lv_iload hx hb dL_law_657 (lv_at hl 1 rfl) ?_
    refine lv_icmp_eq (tgt := 664) hx hb dL_law_659 (by decide) (fun c_659 => ?_) (fun c_659 => ?_)
    rotate_left
    · exact absurd c_659 (by decide)
    refine lv_iload hx hb dL_law_664 (lv_at hl 1 rfl) ?_
    refine lv_if_ne (tgt := 681) hx hb dL_law_666 (by decide) (fun c_666 => ?_) (fun c_666 => ?_)
    · exact absurd c_666 (by decide)
    refine lv_aload_n hx hb dL_law_669 rfl (lv_at hl 3 rfl) ?_
    refine lv_iconst (v := 0) hx hb dL_law_670 rfl ?_
    refine g_lld 0 E hG f_o rfl (by omega) (by decide) dL_law_671 ?_
    refine lv_iload hx hb dL_law_672 (lv_at hl 0 rfl) ?_
    refine lv_i2l (v := (da (cP k + 10)).toInt64) hx hb dL_law_674 rfl ?_
    refine W.lcmp hx hb dL_law_675 ?_
    refine lv_if_eq (tgt := 681) hx hb dL_law_676 (by decide) (fun c_676 => ?_) (fun c_676 => ?_)
    rotate_left
    · exact absurd ((lg_cmp_eq _ _).mpr (by rw [pk_uLs]; rw [hQ9])) c_676
    refine lv_goto (tgt := 2029) hx hb dL_law_681 (by decide) ?_
    exact hK H4 locs _ _ (show c0 + 0 + 0 ≤ c0 + 200 by omega) (show s0 + 0 + 0 ≤ s0 + 4000 by omega) (li_mk hb9 hu hBy hbb hO hM hDS f_o) hS ls (lv_sub hl [2, 3, 4, 5, 6] rfl)

set_option maxHeartbeats 4000000 in
set_option maxRecDepth 100000 in
/-- the law: expiry -/
theorem lc_expiry {p : Program} {l : Launch} {e : Env} {s : State} {m : MethodId} {below : List Frame} {meth : Method} {c : Code} {Q : State → Prop} {b L : Nat} {xs : Nat → Int32} {G : CG} {B : Nat → Nat} {x bu pa ou i c0 s0 : Nat} {H : Heap} {locs : List Loc} {ls : Array Slot} (hst : l.stackTraces = false) (E : CallFix p m c code 7 s ([.ref b] : List Value).toArray TB RL) (hG : KT G s) (hE : EF G s s.heap) (hXs : va_X b L xs s s.heap) (hbl : b < s.heap.size) (hL : L ≤ 3072) (hZ : EFA G s.heap.size) (hp : LAp G B x bu pa ou) (hnew : ∀ q, LAO B x bu pa ou q → s.heap.size ≤ q) (hi6 : i + 6 ≤ L) (hc9 : c0 + 200 ≤ 601024) (hs9 : s0 + 4000 ≤ 7293034) (hI : LI G B x bu pa ou H) (hS : va_S (fun q9 => s.heap.size ≤ q9) s.heap H locs) (hl : lv_has ls 7 [(4, .int (nI i)), (3, .ref ou), (2, .ref (B 0)), (1, .ref x), (0, .ref b)]) (hK : ∀ (H : Heap) (locs : List Loc) (cs sl : Nat), cs ≤ c0 + 200 → sl ≤ s0 + 4000 → LI G B x bu pa ou H → va_S (fun q9 => s.heap.size ≤ q9) s.heap H locs → ∀ ls : Array Slot, lv_has ls 7 [(4, .int (nI i)), (3, .ref ou), (2, .ref (B 0)), (1, .ref x), (0, .ref b)] → W p l e room_1 s m ([.ref b] : List Value).toArray below meth c H locs cs sl Q (F0 m 2029 ls [])) : W p l e room_1 s m ([.ref b] : List Value).toArray below meth c H locs c0 s0 Q (F0 m 768 ls []) := by
  obtain ⟨b9, u, nc, np, nh, bk, es, bf, bb, da, hi, f, t, tl, ps, er, ea, ns, ne, se, dr, sk, hb9, hu, hBy, hbb, hO, hM, hDS, f_o⟩ := hI
  have hx := E.1
  have hb := E.2.1
  have hMD := hp.1
  have hDD := hp.2.1
  obtain ⟨⟨h0, hc0⟩, ⟨h1, hp0⟩, ⟨h2, hh⟩, ⟨td, htd, h3⟩, hCr, hPr, hHo, hIj⟩ := id hO
  have hEA : ∀ q9, s.heap.size ≤ q9 → EFA G q9 := fun q9 h9 => Nat.le_trans hZ h9
  have hbA : ¬ s.heap.size ≤ b := Nat.not_le.mpr hbl
  have hAo9 : ∀ q, q = ou → s.heap.size ≤ q := fun q h => hnew q (Or.inr (Or.inr (Or.inr (Or.inl h))))
  have hAB : ∀ q, MA B q → s.heap.size ≤ q := fun q h => hnew q (Or.inr (Or.inr (Or.inr (Or.inr h))))
  have hAO := lao_lt hM hDS f_o
  have hz9 : EFA G H.size := Nat.le_trans hZ hS.1
  have hou : ou < H.size := va_at.lt f_o
  obtain ⟨z1, hz_1⟩ : ∃ z, xs (i + 1) = z := ⟨_, rfl⟩
  rcases inV01 z1 0 (nI nc - 1) with hy0 | hy1
  · refine lv_aload_n hx hb dL_law_768 rfl (lv_at hl 3 rfl) ?_
    refine lv_aload_n hx hb dL_law_769 rfl (lv_at hl 4 rfl) ?_
    refine lv_iload hx hb dL_law_770 (lv_at hl 0 rfl) ?_
    refine lv_iconst (v := 1) hx hb dL_law_772 rfl ?_
    refine lv_iadd hx hb dL_law_773 ?_
    refine l_sld (k := i + 1) hx hb hXs hbl hbA hS (ixq (nI_ad rfl rfl)) (by omega) hL hz_1 dL_law_774 ?_
    refine lv_aload_n hx hb dL_law_775 rfl (lv_at hl 1 rfl) ?_
    refine WW.callS (rest := []) (w_L_expiry_t1 l G z1 (P := DS G (LAO B x bu pa ou) x bu pa bb (nI b9) es bk da nc np nh u hi) (Tr.w (c_X7_expiry_x l hst G z1 hy0 hc0) (fun _ h9 => ds_dk h9))) yk_L_expiry E km_L_153 dL_law_776 hG (hE.S hS hEA) ⟨hDS, _, hDS.1⟩ rfl rfl hl.1 ⟨Nat.le_of_ble_eq_true rfl, Nat.le_of_ble_eq_true rfl⟩ ⟨show c0 + 1 ≤ 601024 by omega, show s0 + 6 ≤ 7293034 by omega⟩ (Nat.le_of_ble_eq_true rfl) hS (fun q9 h9 => h9.elim) (fun v9 H1 locs hq hz8 hfr9 hS => ?_)
    obtain rfl := hq
    have hf9 : ∀ q : Nat, q < H.size → q ≠ ou → H1[q]? = H[q]? := fun q9 h9 _ => hfr9 q9 h9 (fun w9 => w9)
    have f_o := va_at.kept f_o (hfr9 _ (va_at.lt f_o) (fun w9 => w9))
    have hM := ro_M hp hM hf9
    have hDS := ro_D hp hDS hf9
    refine lv_istore (lv' := [(5, .int 1), (4, .int (nI i)), (3, .ref ou), (2, .ref (B 0)), (1, .ref x), (0, .ref b)]) hx hb dL_law_779 hl (by decide) rfl (fun ls hl => ?_)
    refine lv_aload_n hx hb dL_law_781 rfl (lv_at hl 3 rfl) ?_
    refine lv_aload_n hx hb dL_law_782 rfl (lv_at hl 5 rfl) ?_
    refine lv_iload hx hb dL_law_783 (lv_at hl 1 rfl) ?_
    refine lv_iconst (v := 1) hx hb dL_law_785 rfl ?_
    refine lv_iadd hx hb dL_law_786 ?_
    refine l_sld (k := i + 1) hx hb hXs hbl hbA hS (ixq (nI_ad rfl rfl)) (by omega) hL hz_1 dL_law_787 ?_
    refine Wr.callV (rest := []) (c_X8_expiry_x l G hMD z1 (by rw [h0]; exact hy0)) yk_X8_expiry E km_L_155 dL_law_788 hG (hE.S hS hEA) hM (At.recv hG hM.1 rfl) rfl rfl hl.1 ⟨Nat.le_of_ble_eq_true rfl, Nat.le_of_ble_eq_true rfl⟩ ⟨show c0 + 1 + 0 ≤ 601024 by omega, show s0 + 6 + 0 ≤ 7293034 by omega⟩ (Nat.le_of_ble_eq_true rfl) hS hAB (fun v9 H2 locs hq hz8 hfr9 hS => ?_)
    obtain ⟨rfl, hM⟩ := hq
    have hDS := rf_D hp hDS hfr9
    have f_o := rf_o hp f_o hfr9
    refine lv_istore (lv' := [(6, .int 0), (5, .int 1), (4, .int (nI i)), (3, .ref ou), (2, .ref (B 0)), (1, .ref x), (0, .ref b)]) hx hb dL_law_791 hl (by decide) rfl (fun ls hl => ?_)
    refine lv_aload_n hx hb dL_law_793 rfl (lv_at hl 4 rfl) ?_
    refine Rd.callV (rest := []) (c_X8_thrown l G) yk_X8_thrown E km_L_113 dL_law_794 hG (hE.S hS hEA) hM (At.recv hG hM.1 rfl) rfl rfl hl.1 ⟨Nat.le_of_ble_eq_true rfl, Nat.le_of_ble_eq_true rfl⟩ ⟨show c0 + 1 + 0 ≤ 601024 by omega, show s0 + 6 + 0 ≤ 7293034 by omega⟩ (Nat.le_of_ble_eq_true rfl) ?_
    refine lv_ci (y := 1) rfl ?_
    refine lv_iload hx hb dL_law_797 (lv_at hl 1 rfl) ?_
    refine lv_icmp_eq (tgt := 804) hx hb dL_law_799 (by decide) (fun c_799 => ?_) (fun c_799 => ?_)
    rotate_left
    · exact absurd c_799 (by decide)
    refine lv_iload hx hb dL_law_804 (lv_at hl 1 rfl) ?_
    refine lv_if_ne (tgt := 821) hx hb dL_law_806 (by decide) (fun c_806 => ?_) (fun c_806 => ?_)
    rotate_left
    · exact absurd c_806 (by decide)
    refine lv_goto (tgt := 2029) hx hb dL_law_821 (by decide) ?_
    exact hK H2 locs _ _ (show c0 + 1 + 0 ≤ c0 + 200 by omega) (show s0 + 6 + 0 ≤ s0 + 4000 by omega) (li_mk hb9 hu hBy hbb hO hM hDS f_o) hS ls (lv_sub hl [2, 3, 4, 5, 6] rfl)
  · obtain ⟨k, hk9, ez⟩ := ix_of (by omega) hy1
    refine lv_aload_n hx hb dL_law_768 rfl (lv_at hl 3 rfl) ?_
    refine lv_aload_n hx hb dL_law_769 rfl (lv_at hl 4 rfl) ?_
    refine lv_iload hx hb dL_law_770 (lv_at hl 0 rfl) ?_
    refine lv_iconst (v := 1) hx hb dL_law_772 rfl ?_
    refine lv_iadd hx hb dL_law_773 ?_
    refine l_sld (k := i + 1) hx hb hXs hbl hbA hS (ixq (nI_ad rfl rfl)) (by omega) hL hz_1 dL_law_774 ?_
    refine lv_aload_n hx hb dL_law_775 rfl (lv_at hl 1 rfl) ?_
    refine WW.callS (rest := []) (w_L_expiry l G z1 (Q := (fun r9 _ => r9 = da (cP k + 3))) (f := f) (Rd.w (D := DS G (LAO B x bu pa ou) x bu pa bb (nI b9) es bk da nc np nh u hi) (c_X7_expiry l G z1 k ez hk9 hc0) (fun _ h9 => ds_dk h9)) (fun w9 => w9) (fun _ _ _ _ _ h9 => h9)) yk_L_expiry E km_L_153 dL_law_776 hG (hE.S hS hEA) ⟨hDS, ⟨_, hDS.1⟩, f_o⟩ rfl rfl hl.1 ⟨Nat.le_of_ble_eq_true rfl, Nat.le_of_ble_eq_true rfl⟩ ⟨show c0 + 0 ≤ 601024 by omega, show s0 + 0 ≤ 7293034 by omega⟩ (Nat.le_of_ble_eq_true rfl) hS (fun q9 h9 => h9.elim (fun w9 => w9.elim) (hAo9 q9)) (fun v9 H3 locs hq hz8 hfr9 hS => ?_)
    obtain ⟨rfl, r, hQ9, f_o⟩ := hq
    have hf9 : ∀ q : Nat, q < H.size → q ≠ ou → H3[q]? = H[q]? := fun q9 h9 h8 => hfr9 q9 h9 (fun z9 => z9.elim (fun w9 => w9.elim) h8)
    have hM := ro_M hp hM hf9
    have hDS := ro_D hp hDS hf9
    refine lv_istore (lv' := [(5, .int 0), (4, .int (nI i)), (3, .ref ou), (2, .ref (B 0)), (1, .ref x), (0, .ref b)]) hx hb dL_law_779 hl (by decide) rfl (fun ls hl => ?_)
    refine lv_aload_n hx hb dL_law_781 rfl (lv_at hl 3 rfl) ?_
    refine lv_aload_n hx hb dL_law_782 rfl (lv_at hl 5 rfl) ?_
    refine lv_iload hx hb dL_law_783 (lv_at hl 1 rfl) ?_
    refine lv_iconst (v := 1) hx hb dL_law_785 rfl ?_
    refine lv_iadd hx hb dL_law_786 ?_
    refine l_sld (k := i + 1) hx hb hXs hbl hbA hS (ixq (nI_ad rfl rfl)) (by omega) hL hz_1 dL_law_787 ?_
    refine Wr.callV (rest := []) (c_X8_expiry l G hMD z1 k ez (by omega) (by rw [h0]; exact hy1)) yk_X8_expiry E km_L_155 dL_law_788 hG (hE.S hS hEA) hM (At.recv hG hM.1 rfl) rfl rfl hl.1 ⟨Nat.le_of_ble_eq_true rfl, Nat.le_of_ble_eq_true rfl⟩ ⟨show c0 + 0 + 0 ≤ 601024 by omega, show s0 + 0 + 0 ≤ 7293034 by omega⟩ (Nat.le_of_ble_eq_true rfl) hS hAB (fun v9 H4 locs hq hz8 hfr9 hS => ?_)
    obtain ⟨rfl, hM⟩ := hq
    have hDS := rf_D hp hDS hfr9
    have f_o := rf_o hp f_o hfr9
    refine lv_istore (lv' := [(6, .int (da (cP k + 3))), (5, .int 0), (4, .int (nI i)), (3, .ref ou), (2, .ref (B 0)), (1, .ref x), (0, .ref b)]) hx hb dL_law_791 hl (by decide) rfl (fun ls hl => ?_)
    refine lv_aload_n hx hb dL_law_793 rfl (lv_at hl 4 rfl) ?_
    refine Rd.callV (rest := []) (c_X8_thrown l G) yk_X8_thrown E km_L_113 dL_law_794 hG (hE.S hS hEA) hM (At.recv hG hM.1 rfl) rfl rfl hl.1 ⟨Nat.le_of_ble_eq_true rfl, Nat.le_of_ble_eq_true rfl⟩ ⟨show c0 + 0 + 0 ≤ 601024 by omega, show s0 + 0 + 0 ≤ 7293034 by omega⟩ (Nat.le_of_ble_eq_true rfl) ?_
    refine lv_ci (y := 0) rfl ?_
    refine lv_iload hx hb dL_law_797 (lv_at hl 1 rfl) ?_
    refine lv_icmp_eq (tgt := 804) hx hb dL_law_799 (by decide) (fun c_799 => ?_) (fun c_799 => ?_)
    rotate_left
    · exact absurd c_799 (by decide)
    refine lv_iload hx hb dL_law_804 (lv_at hl 1 rfl) ?_
    refine lv_if_ne (tgt := 821) hx hb dL_law_806 (by decide) (fun c_806 => ?_) (fun c_806 => ?_)
    · exact absurd c_806 (by decide)
    refine lv_aload_n hx hb dL_law_809 rfl (lv_at hl 3 rfl) ?_
    refine lv_iconst (v := 0) hx hb dL_law_810 rfl ?_
    refine g_lld 0 E hG f_o rfl (by omega) (by decide) dL_law_811 ?_
    refine lv_iload hx hb dL_law_812 (lv_at hl 0 rfl) ?_
    refine lv_i2l (v := (da (cP k + 3)).toInt64) hx hb dL_law_814 rfl ?_
    refine W.lcmp hx hb dL_law_815 ?_
    refine lv_if_eq (tgt := 821) hx hb dL_law_816 (by decide) (fun c_816 => ?_) (fun c_816 => ?_)
    rotate_left
    · exact absurd ((lg_cmp_eq _ _).mpr (by rw [pk_uLs]; rw [hQ9])) c_816
    refine lv_goto (tgt := 2029) hx hb dL_law_821 (by decide) ?_
    exact hK H4 locs _ _ (show c0 + 0 + 0 ≤ c0 + 200 by omega) (show s0 + 0 + 0 ≤ s0 + 4000 by omega) (li_mk hb9 hu hBy hbb hO hM hDS f_o) hS ls (lv_sub hl [2, 3, 4, 5, 6] rfl)

set_option maxHeartbeats 4000000 in
set_option maxRecDepth 100000 in
/-- the law: drawn -/
theorem lc_drawn {p : Program} {l : Launch} {e : Env} {s : State} {m : MethodId} {below : List Frame} {meth : Method} {c : Code} {Q : State → Prop} {b L : Nat} {xs : Nat → Int32} {G : CG} {B : Nat → Nat} {x bu pa ou i c0 s0 : Nat} {H : Heap} {locs : List Loc} {ls : Array Slot} (hst : l.stackTraces = false) (E : CallFix p m c code 7 s ([.ref b] : List Value).toArray TB RL) (hG : KT G s) (hE : EF G s s.heap) (hXs : va_X b L xs s s.heap) (hbl : b < s.heap.size) (hL : L ≤ 3072) (hZ : EFA G s.heap.size) (hp : LAp G B x bu pa ou) (hnew : ∀ q, LAO B x bu pa ou q → s.heap.size ≤ q) (hi6 : i + 6 ≤ L) (hc9 : c0 + 200 ≤ 601024) (hs9 : s0 + 4000 ≤ 7293034) (hI : LI G B x bu pa ou H) (hS : va_S (fun q9 => s.heap.size ≤ q9) s.heap H locs) (hl : lv_has ls 7 [(4, .int (nI i)), (3, .ref ou), (2, .ref (B 0)), (1, .ref x), (0, .ref b)]) (hK : ∀ (H : Heap) (locs : List Loc) (cs sl : Nat), cs ≤ c0 + 200 → sl ≤ s0 + 4000 → LI G B x bu pa ou H → va_S (fun q9 => s.heap.size ≤ q9) s.heap H locs → ∀ ls : Array Slot, lv_has ls 7 [(4, .int (nI i)), (3, .ref ou), (2, .ref (B 0)), (1, .ref x), (0, .ref b)] → W p l e room_1 s m ([.ref b] : List Value).toArray below meth c H locs cs sl Q (F0 m 2029 ls [])) : W p l e room_1 s m ([.ref b] : List Value).toArray below meth c H locs c0 s0 Q (F0 m 824 ls []) := by
  obtain ⟨b9, u, nc, np, nh, bk, es, bf, bb, da, hi, f, t, tl, ps, er, ea, ns, ne, se, dr, sk, hb9, hu, hBy, hbb, hO, hM, hDS, f_o⟩ := hI
  have hx := E.1
  have hb := E.2.1
  have hMD := hp.1
  have hDD := hp.2.1
  obtain ⟨⟨h0, hc0⟩, ⟨h1, hp0⟩, ⟨h2, hh⟩, ⟨td, htd, h3⟩, hCr, hPr, hHo, hIj⟩ := id hO
  have hEA : ∀ q9, s.heap.size ≤ q9 → EFA G q9 := fun q9 h9 => Nat.le_trans hZ h9
  have hbA : ¬ s.heap.size ≤ b := Nat.not_le.mpr hbl
  have hAo9 : ∀ q, q = ou → s.heap.size ≤ q := fun q h => hnew q (Or.inr (Or.inr (Or.inr (Or.inl h))))
  have hAB : ∀ q, MA B q → s.heap.size ≤ q := fun q h => hnew q (Or.inr (Or.inr (Or.inr (Or.inr h))))
  have hAO := lao_lt hM hDS f_o
  have hz9 : EFA G H.size := Nat.le_trans hZ hS.1
  have hou : ou < H.size := va_at.lt f_o
  obtain ⟨z1, hz_1⟩ : ∃ z, xs (i + 1) = z := ⟨_, rfl⟩
  rcases inV01 z1 0 (nI nc - 1) with hy0 | hy1
  · refine lv_aload_n hx hb dL_law_824 rfl (lv_at hl 3 rfl) ?_
    refine lv_aload_n hx hb dL_law_825 rfl (lv_at hl 4 rfl) ?_
    refine lv_iload hx hb dL_law_826 (lv_at hl 0 rfl) ?_
    refine lv_iconst (v := 1) hx hb dL_law_828 rfl ?_
    refine lv_iadd hx hb dL_law_829 ?_
    refine l_sld (k := i + 1) hx hb hXs hbl hbA hS (ixq (nI_ad rfl rfl)) (by omega) hL hz_1 dL_law_830 ?_
    refine lv_aload_n hx hb dL_law_831 rfl (lv_at hl 1 rfl) ?_
    refine WW.callS (rest := []) (w_L_drawn_t1 l G z1 (P := DS G (LAO B x bu pa ou) x bu pa bb (nI b9) es bk da nc np nh u hi) (Tr.w (c_X7_drawn_x l hst G z1 hy0 hc0) (fun _ h9 => ds_dk h9))) yk_L_drawn E km_L_156 dL_law_832 hG (hE.S hS hEA) ⟨hDS, _, hDS.1⟩ rfl rfl hl.1 ⟨Nat.le_of_ble_eq_true rfl, Nat.le_of_ble_eq_true rfl⟩ ⟨show c0 + 1 ≤ 601024 by omega, show s0 + 6 ≤ 7293034 by omega⟩ (Nat.le_of_ble_eq_true rfl) hS (fun q9 h9 => h9.elim) (fun v9 H1 locs hq hz8 hfr9 hS => ?_)
    obtain rfl := hq
    have hf9 : ∀ q : Nat, q < H.size → q ≠ ou → H1[q]? = H[q]? := fun q9 h9 _ => hfr9 q9 h9 (fun w9 => w9)
    have f_o := va_at.kept f_o (hfr9 _ (va_at.lt f_o) (fun w9 => w9))
    have hM := ro_M hp hM hf9
    have hDS := ro_D hp hDS hf9
    refine lv_istore (lv' := [(5, .int 1), (4, .int (nI i)), (3, .ref ou), (2, .ref (B 0)), (1, .ref x), (0, .ref b)]) hx hb dL_law_835 hl (by decide) rfl (fun ls hl => ?_)
    refine lv_aload_n hx hb dL_law_837 rfl (lv_at hl 3 rfl) ?_
    refine lv_aload_n hx hb dL_law_838 rfl (lv_at hl 5 rfl) ?_
    refine lv_iload hx hb dL_law_839 (lv_at hl 1 rfl) ?_
    refine lv_iconst (v := 1) hx hb dL_law_841 rfl ?_
    refine lv_iadd hx hb dL_law_842 ?_
    refine l_sld (k := i + 1) hx hb hXs hbl hbA hS (ixq (nI_ad rfl rfl)) (by omega) hL hz_1 dL_law_843 ?_
    refine Wr.callV (rest := []) (c_X8_drawn_x l G hMD z1 (by rw [h0]; exact hy0)) yk_X8_drawn E km_L_158 dL_law_844 hG (hE.S hS hEA) hM (At.recv hG hM.1 rfl) rfl rfl hl.1 ⟨Nat.le_of_ble_eq_true rfl, Nat.le_of_ble_eq_true rfl⟩ ⟨show c0 + 1 + 0 ≤ 601024 by omega, show s0 + 6 + 0 ≤ 7293034 by omega⟩ (Nat.le_of_ble_eq_true rfl) hS hAB (fun v9 H2 locs hq hz8 hfr9 hS => ?_)
    obtain ⟨rfl, hM⟩ := hq
    have hDS := rf_D hp hDS hfr9
    have f_o := rf_o hp f_o hfr9
    refine lv_istore (lv' := [(6, .int 0), (5, .int 1), (4, .int (nI i)), (3, .ref ou), (2, .ref (B 0)), (1, .ref x), (0, .ref b)]) hx hb dL_law_847 hl (by decide) rfl (fun ls hl => ?_)
    refine lv_aload_n hx hb dL_law_849 rfl (lv_at hl 4 rfl) ?_
    refine Rd.callV (rest := []) (c_X8_thrown l G) yk_X8_thrown E km_L_113 dL_law_850 hG (hE.S hS hEA) hM (At.recv hG hM.1 rfl) rfl rfl hl.1 ⟨Nat.le_of_ble_eq_true rfl, Nat.le_of_ble_eq_true rfl⟩ ⟨show c0 + 1 + 0 ≤ 601024 by omega, show s0 + 6 + 0 ≤ 7293034 by omega⟩ (Nat.le_of_ble_eq_true rfl) ?_
    refine lv_ci (y := 1) rfl ?_
    refine lv_iload hx hb dL_law_853 (lv_at hl 1 rfl) ?_
    refine lv_icmp_eq (tgt := 860) hx hb dL_law_855 (by decide) (fun c_855 => ?_) (fun c_855 => ?_)
    rotate_left
    · exact absurd c_855 (by decide)
    refine lv_iload hx hb dL_law_860 (lv_at hl 1 rfl) ?_
    refine lv_if_ne (tgt := 877) hx hb dL_law_862 (by decide) (fun c_862 => ?_) (fun c_862 => ?_)
    rotate_left
    · exact absurd c_862 (by decide)
    refine lv_goto (tgt := 2029) hx hb dL_law_877 (by decide) ?_
    exact hK H2 locs _ _ (show c0 + 1 + 0 ≤ c0 + 200 by omega) (show s0 + 6 + 0 ≤ s0 + 4000 by omega) (li_mk hb9 hu hBy hbb hO hM hDS f_o) hS ls (lv_sub hl [2, 3, 4, 5, 6] rfl)
  · obtain ⟨k, hk9, ez⟩ := ix_of (by omega) hy1
    refine lv_aload_n hx hb dL_law_824 rfl (lv_at hl 3 rfl) ?_
    refine lv_aload_n hx hb dL_law_825 rfl (lv_at hl 4 rfl) ?_
    refine lv_iload hx hb dL_law_826 (lv_at hl 0 rfl) ?_
    refine lv_iconst (v := 1) hx hb dL_law_828 rfl ?_
    refine lv_iadd hx hb dL_law_829 ?_
    refine l_sld (k := i + 1) hx hb hXs hbl hbA hS (ixq (nI_ad rfl rfl)) (by omega) hL hz_1 dL_law_830 ?_
    refine lv_aload_n hx hb dL_law_831 rfl (lv_at hl 1 rfl) ?_
    refine WW.callS (rest := []) (w_L_drawn l G z1 (Q := (fun r9 _ => r9 = drawnV da (nI k) np)) (f := f) (Rd.w (D := DS G (LAO B x bu pa ou) x bu pa bb (nI b9) es bk da nc np nh u hi) (c_X7_drawn l G z1 k ez hk9 hc0 hp0) (fun _ h9 => ds_dk h9)) (fun w9 => w9) (fun _ _ _ _ _ h9 => h9)) yk_L_drawn E km_L_156 dL_law_832 hG (hE.S hS hEA) ⟨hDS, ⟨_, hDS.1⟩, f_o⟩ rfl rfl hl.1 ⟨Nat.le_of_ble_eq_true rfl, Nat.le_of_ble_eq_true rfl⟩ ⟨show c0 + 0 ≤ 601024 by omega, show s0 + 0 ≤ 7293034 by omega⟩ (Nat.le_of_ble_eq_true rfl) hS (fun q9 h9 => h9.elim (fun w9 => w9.elim) (hAo9 q9)) (fun v9 H3 locs hq hz8 hfr9 hS => ?_)
    obtain ⟨rfl, r, hQ9, f_o⟩ := hq
    have hf9 : ∀ q : Nat, q < H.size → q ≠ ou → H3[q]? = H[q]? := fun q9 h9 h8 => hfr9 q9 h9 (fun z9 => z9.elim (fun w9 => w9.elim) h8)
    have hM := ro_M hp hM hf9
    have hDS := ro_D hp hDS hf9
    refine lv_istore (lv' := [(5, .int 0), (4, .int (nI i)), (3, .ref ou), (2, .ref (B 0)), (1, .ref x), (0, .ref b)]) hx hb dL_law_835 hl (by decide) rfl (fun ls hl => ?_)
    refine lv_aload_n hx hb dL_law_837 rfl (lv_at hl 3 rfl) ?_
    refine lv_aload_n hx hb dL_law_838 rfl (lv_at hl 5 rfl) ?_
    refine lv_iload hx hb dL_law_839 (lv_at hl 1 rfl) ?_
    refine lv_iconst (v := 1) hx hb dL_law_841 rfl ?_
    refine lv_iadd hx hb dL_law_842 ?_
    refine l_sld (k := i + 1) hx hb hXs hbl hbA hS (ixq (nI_ad rfl rfl)) (by omega) hL hz_1 dL_law_843 ?_
    refine Wr.callV (rest := []) (c_X8_drawn l G hMD z1 k ez (by omega) (by rw [h0]; exact hy1) np h1 hp0) yk_X8_drawn E km_L_158 dL_law_844 hG (hE.S hS hEA) hM (At.recv hG hM.1 rfl) rfl rfl hl.1 ⟨Nat.le_of_ble_eq_true rfl, Nat.le_of_ble_eq_true rfl⟩ ⟨show c0 + 0 + 0 ≤ 601024 by omega, show s0 + 0 + 0 ≤ 7293034 by omega⟩ (Nat.le_of_ble_eq_true rfl) hS hAB (fun v9 H4 locs hq hz8 hfr9 hS => ?_)
    obtain ⟨rfl, hM⟩ := hq
    have hDS := rf_D hp hDS hfr9
    have f_o := rf_o hp f_o hfr9
    refine lv_istore (lv' := [(6, .int (drawnV da z1 np)), (5, .int 0), (4, .int (nI i)), (3, .ref ou), (2, .ref (B 0)), (1, .ref x), (0, .ref b)]) hx hb dL_law_847 hl (by decide) rfl (fun ls hl => ?_)
    refine lv_aload_n hx hb dL_law_849 rfl (lv_at hl 4 rfl) ?_
    refine Rd.callV (rest := []) (c_X8_thrown l G) yk_X8_thrown E km_L_113 dL_law_850 hG (hE.S hS hEA) hM (At.recv hG hM.1 rfl) rfl rfl hl.1 ⟨Nat.le_of_ble_eq_true rfl, Nat.le_of_ble_eq_true rfl⟩ ⟨show c0 + 0 + 0 ≤ 601024 by omega, show s0 + 0 + 0 ≤ 7293034 by omega⟩ (Nat.le_of_ble_eq_true rfl) ?_
    refine lv_ci (y := 0) rfl ?_
    refine lv_iload hx hb dL_law_853 (lv_at hl 1 rfl) ?_
    refine lv_icmp_eq (tgt := 860) hx hb dL_law_855 (by decide) (fun c_855 => ?_) (fun c_855 => ?_)
    rotate_left
    · exact absurd c_855 (by decide)
    refine lv_iload hx hb dL_law_860 (lv_at hl 1 rfl) ?_
    refine lv_if_ne (tgt := 877) hx hb dL_law_862 (by decide) (fun c_862 => ?_) (fun c_862 => ?_)
    · exact absurd c_862 (by decide)
    refine lv_aload_n hx hb dL_law_865 rfl (lv_at hl 3 rfl) ?_
    refine lv_iconst (v := 0) hx hb dL_law_866 rfl ?_
    refine g_lld 0 E hG f_o rfl (by omega) (by decide) dL_law_867 ?_
    refine lv_iload hx hb dL_law_868 (lv_at hl 0 rfl) ?_
    refine lv_i2l (v := (drawnV da z1 np).toInt64) hx hb dL_law_870 rfl ?_
    refine W.lcmp hx hb dL_law_871 ?_
    refine lv_if_eq (tgt := 877) hx hb dL_law_872 (by decide) (fun c_872 => ?_) (fun c_872 => ?_)
    rotate_left
    · exact absurd ((lg_cmp_eq _ _).mpr (by rw [pk_uLs]; rw [hQ9, ez])) c_872
    refine lv_goto (tgt := 2029) hx hb dL_law_877 (by decide) ?_
    exact hK H4 locs _ _ (show c0 + 0 + 0 ≤ c0 + 200 by omega) (show s0 + 0 + 0 ≤ s0 + 4000 by omega) (li_mk hb9 hu hBy hbb hO hM hDS f_o) hS ls (lv_sub hl [2, 3, 4, 5, 6] rfl)

set_option maxHeartbeats 4000000 in
set_option maxRecDepth 100000 in
/-- the law: transferred -/
theorem lc_transferred {p : Program} {l : Launch} {e : Env} {s : State} {m : MethodId} {below : List Frame} {meth : Method} {c : Code} {Q : State → Prop} {b L : Nat} {xs : Nat → Int32} {G : CG} {B : Nat → Nat} {x bu pa ou i c0 s0 : Nat} {H : Heap} {locs : List Loc} {ls : Array Slot} (hst : l.stackTraces = false) (E : CallFix p m c code 7 s ([.ref b] : List Value).toArray TB RL) (hG : KT G s) (hE : EF G s s.heap) (hXs : va_X b L xs s s.heap) (hbl : b < s.heap.size) (hL : L ≤ 3072) (hZ : EFA G s.heap.size) (hp : LAp G B x bu pa ou) (hnew : ∀ q, LAO B x bu pa ou q → s.heap.size ≤ q) (hi6 : i + 6 ≤ L) (hc9 : c0 + 200 ≤ 601024) (hs9 : s0 + 4000 ≤ 7293034) (hI : LI G B x bu pa ou H) (hS : va_S (fun q9 => s.heap.size ≤ q9) s.heap H locs) (hl : lv_has ls 7 [(4, .int (nI i)), (3, .ref ou), (2, .ref (B 0)), (1, .ref x), (0, .ref b)]) (hK : ∀ (H : Heap) (locs : List Loc) (cs sl : Nat), cs ≤ c0 + 200 → sl ≤ s0 + 4000 → LI G B x bu pa ou H → va_S (fun q9 => s.heap.size ≤ q9) s.heap H locs → ∀ ls : Array Slot, lv_has ls 7 [(4, .int (nI i)), (3, .ref ou), (2, .ref (B 0)), (1, .ref x), (0, .ref b)] → W p l e room_1 s m ([.ref b] : List Value).toArray below meth c H locs cs sl Q (F0 m 2029 ls [])) : W p l e room_1 s m ([.ref b] : List Value).toArray below meth c H locs c0 s0 Q (F0 m 880 ls []) := by
  obtain ⟨b9, u, nc, np, nh, bk, es, bf, bb, da, hi, f, t, tl, ps, er, ea, ns, ne, se, dr, sk, hb9, hu, hBy, hbb, hO, hM, hDS, f_o⟩ := hI
  have hx := E.1
  have hb := E.2.1
  have hMD := hp.1
  have hDD := hp.2.1
  obtain ⟨⟨h0, hc0⟩, ⟨h1, hp0⟩, ⟨h2, hh⟩, ⟨td, htd, h3⟩, hCr, hPr, hHo, hIj⟩ := id hO
  have hEA : ∀ q9, s.heap.size ≤ q9 → EFA G q9 := fun q9 h9 => Nat.le_trans hZ h9
  have hbA : ¬ s.heap.size ≤ b := Nat.not_le.mpr hbl
  have hAo9 : ∀ q, q = ou → s.heap.size ≤ q := fun q h => hnew q (Or.inr (Or.inr (Or.inr (Or.inl h))))
  have hAB : ∀ q, MA B q → s.heap.size ≤ q := fun q h => hnew q (Or.inr (Or.inr (Or.inr (Or.inr h))))
  have hAO := lao_lt hM hDS f_o
  have hz9 : EFA G H.size := Nat.le_trans hZ hS.1
  have hou : ou < H.size := va_at.lt f_o
  obtain ⟨z1, hz_1⟩ : ∃ z, xs (i + 1) = z := ⟨_, rfl⟩
  rcases inV01 z1 0 (nI nc - 1) with hy0 | hy1
  · refine lv_aload_n hx hb dL_law_880 rfl (lv_at hl 3 rfl) ?_
    refine lv_aload_n hx hb dL_law_881 rfl (lv_at hl 4 rfl) ?_
    refine lv_iload hx hb dL_law_882 (lv_at hl 0 rfl) ?_
    refine lv_iconst (v := 1) hx hb dL_law_884 rfl ?_
    refine lv_iadd hx hb dL_law_885 ?_
    refine l_sld (k := i + 1) hx hb hXs hbl hbA hS (ixq (nI_ad rfl rfl)) (by omega) hL hz_1 dL_law_886 ?_
    refine lv_aload_n hx hb dL_law_887 rfl (lv_at hl 1 rfl) ?_
    refine WW.callS (rest := []) (w_L_transferred_t1 l G z1 (P := DS G (LAO B x bu pa ou) x bu pa bb (nI b9) es bk da nc np nh u hi) (Tr.w (c_X7_transferred_x l hst G z1 hy0 hc0) (fun _ h9 => ds_dk h9))) yk_L_transferred E km_L_159 dL_law_888 hG (hE.S hS hEA) ⟨hDS, _, hDS.1⟩ rfl rfl hl.1 ⟨Nat.le_of_ble_eq_true rfl, Nat.le_of_ble_eq_true rfl⟩ ⟨show c0 + 1 ≤ 601024 by omega, show s0 + 6 ≤ 7293034 by omega⟩ (Nat.le_of_ble_eq_true rfl) hS (fun q9 h9 => h9.elim) (fun v9 H1 locs hq hz8 hfr9 hS => ?_)
    obtain rfl := hq
    have hf9 : ∀ q : Nat, q < H.size → q ≠ ou → H1[q]? = H[q]? := fun q9 h9 _ => hfr9 q9 h9 (fun w9 => w9)
    have f_o := va_at.kept f_o (hfr9 _ (va_at.lt f_o) (fun w9 => w9))
    have hM := ro_M hp hM hf9
    have hDS := ro_D hp hDS hf9
    refine lv_istore (lv' := [(5, .int 1), (4, .int (nI i)), (3, .ref ou), (2, .ref (B 0)), (1, .ref x), (0, .ref b)]) hx hb dL_law_891 hl (by decide) rfl (fun ls hl => ?_)
    refine lv_aload_n hx hb dL_law_893 rfl (lv_at hl 3 rfl) ?_
    refine lv_aload_n hx hb dL_law_894 rfl (lv_at hl 5 rfl) ?_
    refine lv_iload hx hb dL_law_895 (lv_at hl 1 rfl) ?_
    refine lv_iconst (v := 1) hx hb dL_law_897 rfl ?_
    refine lv_iadd hx hb dL_law_898 ?_
    refine l_sld (k := i + 1) hx hb hXs hbl hbA hS (ixq (nI_ad rfl rfl)) (by omega) hL hz_1 dL_law_899 ?_
    refine Wr.callV (rest := []) (c_X8_transferred_x l G hMD z1 (by rw [h0]; exact hy0)) yk_X8_transferred E km_L_161 dL_law_900 hG (hE.S hS hEA) hM (At.recv hG hM.1 rfl) rfl rfl hl.1 ⟨Nat.le_of_ble_eq_true rfl, Nat.le_of_ble_eq_true rfl⟩ ⟨show c0 + 1 + 0 ≤ 601024 by omega, show s0 + 6 + 0 ≤ 7293034 by omega⟩ (Nat.le_of_ble_eq_true rfl) hS hAB (fun v9 H2 locs hq hz8 hfr9 hS => ?_)
    obtain ⟨rfl, hM⟩ := hq
    have hDS := rf_D hp hDS hfr9
    have f_o := rf_o hp f_o hfr9
    refine lv_istore (lv' := [(6, .int 0), (5, .int 1), (4, .int (nI i)), (3, .ref ou), (2, .ref (B 0)), (1, .ref x), (0, .ref b)]) hx hb dL_law_903 hl (by decide) rfl (fun ls hl => ?_)
    refine lv_aload_n hx hb dL_law_905 rfl (lv_at hl 4 rfl) ?_
    refine Rd.callV (rest := []) (c_X8_thrown l G) yk_X8_thrown E km_L_113 dL_law_906 hG (hE.S hS hEA) hM (At.recv hG hM.1 rfl) rfl rfl hl.1 ⟨Nat.le_of_ble_eq_true rfl, Nat.le_of_ble_eq_true rfl⟩ ⟨show c0 + 1 + 0 ≤ 601024 by omega, show s0 + 6 + 0 ≤ 7293034 by omega⟩ (Nat.le_of_ble_eq_true rfl) ?_
    refine lv_ci (y := 1) rfl ?_
    refine lv_iload hx hb dL_law_909 (lv_at hl 1 rfl) ?_
    refine lv_icmp_eq (tgt := 916) hx hb dL_law_911 (by decide) (fun c_911 => ?_) (fun c_911 => ?_)
    rotate_left
    · exact absurd c_911 (by decide)
    refine lv_iload hx hb dL_law_916 (lv_at hl 1 rfl) ?_
    refine lv_if_ne (tgt := 933) hx hb dL_law_918 (by decide) (fun c_918 => ?_) (fun c_918 => ?_)
    rotate_left
    · exact absurd c_918 (by decide)
    refine lv_goto (tgt := 2029) hx hb dL_law_933 (by decide) ?_
    exact hK H2 locs _ _ (show c0 + 1 + 0 ≤ c0 + 200 by omega) (show s0 + 6 + 0 ≤ s0 + 4000 by omega) (li_mk hb9 hu hBy hbb hO hM hDS f_o) hS ls (lv_sub hl [2, 3, 4, 5, 6] rfl)
  · obtain ⟨k, hk9, ez⟩ := ix_of (by omega) hy1
    refine lv_aload_n hx hb dL_law_880 rfl (lv_at hl 3 rfl) ?_
    refine lv_aload_n hx hb dL_law_881 rfl (lv_at hl 4 rfl) ?_
    refine lv_iload hx hb dL_law_882 (lv_at hl 0 rfl) ?_
    refine lv_iconst (v := 1) hx hb dL_law_884 rfl ?_
    refine lv_iadd hx hb dL_law_885 ?_
    refine l_sld (k := i + 1) hx hb hXs hbl hbA hS (ixq (nI_ad rfl rfl)) (by omega) hL hz_1 dL_law_886 ?_
    refine lv_aload_n hx hb dL_law_887 rfl (lv_at hl 1 rfl) ?_
    refine WW.callS (rest := []) (w_L_transferred l G z1 (Q := (fun r9 _ => r9 = transV da (nI k) nc)) (f := f) (Rd.w (D := DS G (LAO B x bu pa ou) x bu pa bb (nI b9) es bk da nc np nh u hi) (c_X7_transferred l G z1 k ez hk9 hc0) (fun _ h9 => ds_dk h9)) (fun w9 => w9) (fun _ _ _ _ _ h9 => h9)) yk_L_transferred E km_L_159 dL_law_888 hG (hE.S hS hEA) ⟨hDS, ⟨_, hDS.1⟩, f_o⟩ rfl rfl hl.1 ⟨Nat.le_of_ble_eq_true rfl, Nat.le_of_ble_eq_true rfl⟩ ⟨show c0 + 0 ≤ 601024 by omega, show s0 + 0 ≤ 7293034 by omega⟩ (Nat.le_of_ble_eq_true rfl) hS (fun q9 h9 => h9.elim (fun w9 => w9.elim) (hAo9 q9)) (fun v9 H3 locs hq hz8 hfr9 hS => ?_)
    obtain ⟨rfl, r, hQ9, f_o⟩ := hq
    have hf9 : ∀ q : Nat, q < H.size → q ≠ ou → H3[q]? = H[q]? := fun q9 h9 h8 => hfr9 q9 h9 (fun z9 => z9.elim (fun w9 => w9.elim) h8)
    have hM := ro_M hp hM hf9
    have hDS := ro_D hp hDS hf9
    refine lv_istore (lv' := [(5, .int 0), (4, .int (nI i)), (3, .ref ou), (2, .ref (B 0)), (1, .ref x), (0, .ref b)]) hx hb dL_law_891 hl (by decide) rfl (fun ls hl => ?_)
    refine lv_aload_n hx hb dL_law_893 rfl (lv_at hl 3 rfl) ?_
    refine lv_aload_n hx hb dL_law_894 rfl (lv_at hl 5 rfl) ?_
    refine lv_iload hx hb dL_law_895 (lv_at hl 1 rfl) ?_
    refine lv_iconst (v := 1) hx hb dL_law_897 rfl ?_
    refine lv_iadd hx hb dL_law_898 ?_
    refine l_sld (k := i + 1) hx hb hXs hbl hbA hS (ixq (nI_ad rfl rfl)) (by omega) hL hz_1 dL_law_899 ?_
    refine Wr.callV (rest := []) (c_X8_transferred l G hMD z1 k ez (by omega) (by rw [h0]; exact hy1) nc h0 hc0) yk_X8_transferred E km_L_161 dL_law_900 hG (hE.S hS hEA) hM (At.recv hG hM.1 rfl) rfl rfl hl.1 ⟨Nat.le_of_ble_eq_true rfl, Nat.le_of_ble_eq_true rfl⟩ ⟨show c0 + 0 + 0 ≤ 601024 by omega, show s0 + 0 + 0 ≤ 7293034 by omega⟩ (Nat.le_of_ble_eq_true rfl) hS hAB (fun v9 H4 locs hq hz8 hfr9 hS => ?_)
    obtain ⟨rfl, hM⟩ := hq
    have hDS := rf_D hp hDS hfr9
    have f_o := rf_o hp f_o hfr9
    refine lv_istore (lv' := [(6, .int (transV da z1 nc)), (5, .int 0), (4, .int (nI i)), (3, .ref ou), (2, .ref (B 0)), (1, .ref x), (0, .ref b)]) hx hb dL_law_903 hl (by decide) rfl (fun ls hl => ?_)
    refine lv_aload_n hx hb dL_law_905 rfl (lv_at hl 4 rfl) ?_
    refine Rd.callV (rest := []) (c_X8_thrown l G) yk_X8_thrown E km_L_113 dL_law_906 hG (hE.S hS hEA) hM (At.recv hG hM.1 rfl) rfl rfl hl.1 ⟨Nat.le_of_ble_eq_true rfl, Nat.le_of_ble_eq_true rfl⟩ ⟨show c0 + 0 + 0 ≤ 601024 by omega, show s0 + 0 + 0 ≤ 7293034 by omega⟩ (Nat.le_of_ble_eq_true rfl) ?_
    refine lv_ci (y := 0) rfl ?_
    refine lv_iload hx hb dL_law_909 (lv_at hl 1 rfl) ?_
    refine lv_icmp_eq (tgt := 916) hx hb dL_law_911 (by decide) (fun c_911 => ?_) (fun c_911 => ?_)
    rotate_left
    · exact absurd c_911 (by decide)
    refine lv_iload hx hb dL_law_916 (lv_at hl 1 rfl) ?_
    refine lv_if_ne (tgt := 933) hx hb dL_law_918 (by decide) (fun c_918 => ?_) (fun c_918 => ?_)
    · exact absurd c_918 (by decide)
    refine lv_aload_n hx hb dL_law_921 rfl (lv_at hl 3 rfl) ?_
    refine lv_iconst (v := 0) hx hb dL_law_922 rfl ?_
    refine g_lld 0 E hG f_o rfl (by omega) (by decide) dL_law_923 ?_
    refine lv_iload hx hb dL_law_924 (lv_at hl 0 rfl) ?_
    refine lv_i2l (v := (transV da z1 nc).toInt64) hx hb dL_law_926 rfl ?_
    refine W.lcmp hx hb dL_law_927 ?_
    refine lv_if_eq (tgt := 933) hx hb dL_law_928 (by decide) (fun c_928 => ?_) (fun c_928 => ?_)
    rotate_left
    · exact absurd ((lg_cmp_eq _ _).mpr (by rw [pk_uLs]; rw [hQ9, ez])) c_928
    refine lv_goto (tgt := 2029) hx hb dL_law_933 (by decide) ?_
    exact hK H4 locs _ _ (show c0 + 0 + 0 ≤ c0 + 200 by omega) (show s0 + 0 + 0 ≤ s0 + 4000 by omega) (li_mk hb9 hu hBy hbb hO hM hDS f_o) hS ls (lv_sub hl [2, 3, 4, 5, 6] rfl)

set_option maxHeartbeats 4000000 in
set_option maxRecDepth 100000 in
/-- the law: available -/
theorem lc_available {p : Program} {l : Launch} {e : Env} {s : State} {m : MethodId} {below : List Frame} {meth : Method} {c : Code} {Q : State → Prop} {b L : Nat} {xs : Nat → Int32} {G : CG} {B : Nat → Nat} {x bu pa ou i c0 s0 : Nat} {H : Heap} {locs : List Loc} {ls : Array Slot} (hst : l.stackTraces = false) (E : CallFix p m c code 7 s ([.ref b] : List Value).toArray TB RL) (hG : KT G s) (hE : EF G s s.heap) (hXs : va_X b L xs s s.heap) (hbl : b < s.heap.size) (hL : L ≤ 3072) (hZ : EFA G s.heap.size) (hp : LAp G B x bu pa ou) (hnew : ∀ q, LAO B x bu pa ou q → s.heap.size ≤ q) (hi6 : i + 6 ≤ L) (hc9 : c0 + 200 ≤ 601024) (hs9 : s0 + 4000 ≤ 7293034) (hI : LI G B x bu pa ou H) (hS : va_S (fun q9 => s.heap.size ≤ q9) s.heap H locs) (hl : lv_has ls 7 [(4, .int (nI i)), (3, .ref ou), (2, .ref (B 0)), (1, .ref x), (0, .ref b)]) (hK : ∀ (H : Heap) (locs : List Loc) (cs sl : Nat), cs ≤ c0 + 200 → sl ≤ s0 + 4000 → LI G B x bu pa ou H → va_S (fun q9 => s.heap.size ≤ q9) s.heap H locs → ∀ ls : Array Slot, lv_has ls 7 [(4, .int (nI i)), (3, .ref ou), (2, .ref (B 0)), (1, .ref x), (0, .ref b)] → W p l e room_1 s m ([.ref b] : List Value).toArray below meth c H locs cs sl Q (F0 m 2029 ls [])) : W p l e room_1 s m ([.ref b] : List Value).toArray below meth c H locs c0 s0 Q (F0 m 936 ls []) := by
  obtain ⟨b9, u, nc, np, nh, bk, es, bf, bb, da, hi, f, t, tl, ps, er, ea, ns, ne, se, dr, sk, hb9, hu, hBy, hbb, hO, hM, hDS, f_o⟩ := hI
  have hx := E.1
  have hb := E.2.1
  have hMD := hp.1
  have hDD := hp.2.1
  obtain ⟨⟨h0, hc0⟩, ⟨h1, hp0⟩, ⟨h2, hh⟩, ⟨td, htd, h3⟩, hCr, hPr, hHo, hIj⟩ := id hO
  have hEA : ∀ q9, s.heap.size ≤ q9 → EFA G q9 := fun q9 h9 => Nat.le_trans hZ h9
  have hbA : ¬ s.heap.size ≤ b := Nat.not_le.mpr hbl
  have hAo9 : ∀ q, q = ou → s.heap.size ≤ q := fun q h => hnew q (Or.inr (Or.inr (Or.inr (Or.inl h))))
  have hAB : ∀ q, MA B q → s.heap.size ≤ q := fun q h => hnew q (Or.inr (Or.inr (Or.inr (Or.inr h))))
  have hAO := lao_lt hM hDS f_o
  have hz9 : EFA G H.size := Nat.le_trans hZ hS.1
  have hou : ou < H.size := va_at.lt f_o
  obtain ⟨z1, hz_1⟩ : ∃ z, xs (i + 1) = z := ⟨_, rfl⟩
  rcases inV01 z1 0 (nI nc - 1) with hy0 | hy1
  · refine lv_aload_n hx hb dL_law_936 rfl (lv_at hl 3 rfl) ?_
    refine lv_aload_n hx hb dL_law_937 rfl (lv_at hl 4 rfl) ?_
    refine lv_iload hx hb dL_law_938 (lv_at hl 0 rfl) ?_
    refine lv_iconst (v := 1) hx hb dL_law_940 rfl ?_
    refine lv_iadd hx hb dL_law_941 ?_
    refine l_sld (k := i + 1) hx hb hXs hbl hbA hS (ixq (nI_ad rfl rfl)) (by omega) hL hz_1 dL_law_942 ?_
    refine lv_aload_n hx hb dL_law_943 rfl (lv_at hl 1 rfl) ?_
    refine WW.callS (rest := []) (w_L_available_t1 l G z1 (P := DS G (LAO B x bu pa ou) x bu pa bb (nI b9) es bk da nc np nh u hi) (Tr.w (c_X7_available_x l hst G z1 hy0 hc0) (fun _ h9 => ds_dk h9))) yk_L_available E km_L_162 dL_law_944 hG (hE.S hS hEA) ⟨hDS, _, hDS.1⟩ rfl rfl hl.1 ⟨Nat.le_of_ble_eq_true rfl, Nat.le_of_ble_eq_true rfl⟩ ⟨show c0 + 1 ≤ 601024 by omega, show s0 + 6 ≤ 7293034 by omega⟩ (Nat.le_of_ble_eq_true rfl) hS (fun q9 h9 => h9.elim) (fun v9 H1 locs hq hz8 hfr9 hS => ?_)
    obtain rfl := hq
    have hf9 : ∀ q : Nat, q < H.size → q ≠ ou → H1[q]? = H[q]? := fun q9 h9 _ => hfr9 q9 h9 (fun w9 => w9)
    have f_o := va_at.kept f_o (hfr9 _ (va_at.lt f_o) (fun w9 => w9))
    have hM := ro_M hp hM hf9
    have hDS := ro_D hp hDS hf9
    refine lv_istore (lv' := [(5, .int 1), (4, .int (nI i)), (3, .ref ou), (2, .ref (B 0)), (1, .ref x), (0, .ref b)]) hx hb dL_law_947 hl (by decide) rfl (fun ls hl => ?_)
    refine lv_aload_n hx hb dL_law_949 rfl (lv_at hl 3 rfl) ?_
    refine lv_aload_n hx hb dL_law_950 rfl (lv_at hl 5 rfl) ?_
    refine lv_iload hx hb dL_law_951 (lv_at hl 1 rfl) ?_
    refine lv_iconst (v := 1) hx hb dL_law_953 rfl ?_
    refine lv_iadd hx hb dL_law_954 ?_
    refine l_sld (k := i + 1) hx hb hXs hbl hbA hS (ixq (nI_ad rfl rfl)) (by omega) hL hz_1 dL_law_955 ?_
    refine Wr.callV (rest := []) (c_X8_available_x l G hMD z1 (by rw [h0]; exact hy0)) yk_X8_available E km_L_164 dL_law_956 hG (hE.S hS hEA) hM (At.recv hG hM.1 rfl) rfl rfl hl.1 ⟨Nat.le_of_ble_eq_true rfl, Nat.le_of_ble_eq_true rfl⟩ ⟨show c0 + 1 + 0 ≤ 601024 by omega, show s0 + 6 + 0 ≤ 7293034 by omega⟩ (Nat.le_of_ble_eq_true rfl) hS hAB (fun v9 H2 locs hq hz8 hfr9 hS => ?_)
    obtain ⟨rfl, hM⟩ := hq
    have hDS := rf_D hp hDS hfr9
    have f_o := rf_o hp f_o hfr9
    refine lv_istore (lv' := [(6, .int 0), (5, .int 1), (4, .int (nI i)), (3, .ref ou), (2, .ref (B 0)), (1, .ref x), (0, .ref b)]) hx hb dL_law_959 hl (by decide) rfl (fun ls hl => ?_)
    refine lv_aload_n hx hb dL_law_961 rfl (lv_at hl 4 rfl) ?_
    refine Rd.callV (rest := []) (c_X8_thrown l G) yk_X8_thrown E km_L_113 dL_law_962 hG (hE.S hS hEA) hM (At.recv hG hM.1 rfl) rfl rfl hl.1 ⟨Nat.le_of_ble_eq_true rfl, Nat.le_of_ble_eq_true rfl⟩ ⟨show c0 + 1 + 0 ≤ 601024 by omega, show s0 + 6 + 0 ≤ 7293034 by omega⟩ (Nat.le_of_ble_eq_true rfl) ?_
    refine lv_ci (y := 1) rfl ?_
    refine lv_iload hx hb dL_law_965 (lv_at hl 1 rfl) ?_
    refine lv_icmp_eq (tgt := 972) hx hb dL_law_967 (by decide) (fun c_967 => ?_) (fun c_967 => ?_)
    rotate_left
    · exact absurd c_967 (by decide)
    refine lv_iload hx hb dL_law_972 (lv_at hl 1 rfl) ?_
    refine lv_if_ne (tgt := 989) hx hb dL_law_974 (by decide) (fun c_974 => ?_) (fun c_974 => ?_)
    rotate_left
    · exact absurd c_974 (by decide)
    refine lv_goto (tgt := 2029) hx hb dL_law_989 (by decide) ?_
    exact hK H2 locs _ _ (show c0 + 1 + 0 ≤ c0 + 200 by omega) (show s0 + 6 + 0 ≤ s0 + 4000 by omega) (li_mk hb9 hu hBy hbb hO hM hDS f_o) hS ls (lv_sub hl [2, 3, 4, 5, 6] rfl)
  · obtain ⟨k, hk9, ez⟩ := ix_of (by omega) hy1
    refine lv_aload_n hx hb dL_law_936 rfl (lv_at hl 3 rfl) ?_
    refine lv_aload_n hx hb dL_law_937 rfl (lv_at hl 4 rfl) ?_
    refine lv_iload hx hb dL_law_938 (lv_at hl 0 rfl) ?_
    refine lv_iconst (v := 1) hx hb dL_law_940 rfl ?_
    refine lv_iadd hx hb dL_law_941 ?_
    refine l_sld (k := i + 1) hx hb hXs hbl hbA hS (ixq (nI_ad rfl rfl)) (by omega) hL hz_1 dL_law_942 ?_
    refine lv_aload_n hx hb dL_law_943 rfl (lv_at hl 1 rfl) ?_
    refine WW.callS (rest := []) (w_L_available l G z1 (Q := (fun r9 _ => r9 = availV da np nc k)) (f := f) (Rd.w (D := DS G (LAO B x bu pa ou) x bu pa bb (nI b9) es bk da nc np nh u hi) (c_X7_available l G z1 k ez hk9 hc0 hp0) (fun _ h9 => ds_dk h9)) (fun w9 => w9) (fun _ _ _ _ _ h9 => h9)) yk_L_available E km_L_162 dL_law_944 hG (hE.S hS hEA) ⟨hDS, ⟨_, hDS.1⟩, f_o⟩ rfl rfl hl.1 ⟨Nat.le_of_ble_eq_true rfl, Nat.le_of_ble_eq_true rfl⟩ ⟨show c0 + 0 ≤ 601024 by omega, show s0 + 0 ≤ 7293034 by omega⟩ (Nat.le_of_ble_eq_true rfl) hS (fun q9 h9 => h9.elim (fun w9 => w9.elim) (hAo9 q9)) (fun v9 H3 locs hq hz8 hfr9 hS => ?_)
    obtain ⟨rfl, r, hQ9, f_o⟩ := hq
    have hf9 : ∀ q : Nat, q < H.size → q ≠ ou → H3[q]? = H[q]? := fun q9 h9 h8 => hfr9 q9 h9 (fun z9 => z9.elim (fun w9 => w9.elim) h8)
    have hM := ro_M hp hM hf9
    have hDS := ro_D hp hDS hf9
    refine lv_istore (lv' := [(5, .int 0), (4, .int (nI i)), (3, .ref ou), (2, .ref (B 0)), (1, .ref x), (0, .ref b)]) hx hb dL_law_947 hl (by decide) rfl (fun ls hl => ?_)
    refine lv_aload_n hx hb dL_law_949 rfl (lv_at hl 3 rfl) ?_
    refine lv_aload_n hx hb dL_law_950 rfl (lv_at hl 5 rfl) ?_
    refine lv_iload hx hb dL_law_951 (lv_at hl 1 rfl) ?_
    refine lv_iconst (v := 1) hx hb dL_law_953 rfl ?_
    refine lv_iadd hx hb dL_law_954 ?_
    refine l_sld (k := i + 1) hx hb hXs hbl hbA hS (ixq (nI_ad rfl rfl)) (by omega) hL hz_1 dL_law_955 ?_
    refine Wr.callV (rest := []) (c_X8_available l G hMD z1 k ez (by omega) (by rw [h0]; exact hy1) np nc h1 hp0 h0 hc0) yk_X8_available E km_L_164 dL_law_956 hG (hE.S hS hEA) hM (At.recv hG hM.1 rfl) rfl rfl hl.1 ⟨Nat.le_of_ble_eq_true rfl, Nat.le_of_ble_eq_true rfl⟩ ⟨show c0 + 0 + 0 ≤ 601024 by omega, show s0 + 0 + 0 ≤ 7293034 by omega⟩ (Nat.le_of_ble_eq_true rfl) hS hAB (fun v9 H4 locs hq hz8 hfr9 hS => ?_)
    obtain ⟨rfl, hM⟩ := hq
    have hDS := rf_D hp hDS hfr9
    have f_o := rf_o hp f_o hfr9
    refine lv_istore (lv' := [(6, .int (availV da np nc k)), (5, .int 0), (4, .int (nI i)), (3, .ref ou), (2, .ref (B 0)), (1, .ref x), (0, .ref b)]) hx hb dL_law_959 hl (by decide) rfl (fun ls hl => ?_)
    refine lv_aload_n hx hb dL_law_961 rfl (lv_at hl 4 rfl) ?_
    refine Rd.callV (rest := []) (c_X8_thrown l G) yk_X8_thrown E km_L_113 dL_law_962 hG (hE.S hS hEA) hM (At.recv hG hM.1 rfl) rfl rfl hl.1 ⟨Nat.le_of_ble_eq_true rfl, Nat.le_of_ble_eq_true rfl⟩ ⟨show c0 + 0 + 0 ≤ 601024 by omega, show s0 + 0 + 0 ≤ 7293034 by omega⟩ (Nat.le_of_ble_eq_true rfl) ?_
    refine lv_ci (y := 0) rfl ?_
    refine lv_iload hx hb dL_law_965 (lv_at hl 1 rfl) ?_
    refine lv_icmp_eq (tgt := 972) hx hb dL_law_967 (by decide) (fun c_967 => ?_) (fun c_967 => ?_)
    rotate_left
    · exact absurd c_967 (by decide)
    refine lv_iload hx hb dL_law_972 (lv_at hl 1 rfl) ?_
    refine lv_if_ne (tgt := 989) hx hb dL_law_974 (by decide) (fun c_974 => ?_) (fun c_974 => ?_)
    · exact absurd c_974 (by decide)
    refine lv_aload_n hx hb dL_law_977 rfl (lv_at hl 3 rfl) ?_
    refine lv_iconst (v := 0) hx hb dL_law_978 rfl ?_
    refine g_lld 0 E hG f_o rfl (by omega) (by decide) dL_law_979 ?_
    refine lv_iload hx hb dL_law_980 (lv_at hl 0 rfl) ?_
    refine lv_i2l (v := (availV da np nc k).toInt64) hx hb dL_law_982 rfl ?_
    refine W.lcmp hx hb dL_law_983 ?_
    refine lv_if_eq (tgt := 989) hx hb dL_law_984 (by decide) (fun c_984 => ?_) (fun c_984 => ?_)
    rotate_left
    · exact absurd ((lg_cmp_eq _ _).mpr (by rw [pk_uLs]; rw [hQ9])) c_984
    refine lv_goto (tgt := 2029) hx hb dL_law_989 (by decide) ?_
    exact hK H4 locs _ _ (show c0 + 0 + 0 ≤ c0 + 200 by omega) (show s0 + 0 + 0 ≤ s0 + 4000 by omega) (li_mk hb9 hu hBy hbb hO hM hDS f_o) hS ls (lv_sub hl [2, 3, 4, 5, 6] rfl)

set_option maxHeartbeats 4000000 in
set_option maxRecDepth 100000 in
/-- the law: creditOf -/
theorem lc_creditOf {p : Program} {l : Launch} {e : Env} {s : State} {m : MethodId} {below : List Frame} {meth : Method} {c : Code} {Q : State → Prop} {b L : Nat} {xs : Nat → Int32} {G : CG} {B : Nat → Nat} {x bu pa ou i c0 s0 : Nat} {H : Heap} {locs : List Loc} {ls : Array Slot} (hst : l.stackTraces = false) (E : CallFix p m c code 7 s ([.ref b] : List Value).toArray TB RL) (hG : KT G s) (hE : EF G s s.heap) (hXs : va_X b L xs s s.heap) (hbl : b < s.heap.size) (hL : L ≤ 3072) (hZ : EFA G s.heap.size) (hp : LAp G B x bu pa ou) (hnew : ∀ q, LAO B x bu pa ou q → s.heap.size ≤ q) (hi6 : i + 6 ≤ L) (hc9 : c0 + 200 ≤ 601024) (hs9 : s0 + 4000 ≤ 7293034) (hI : LI G B x bu pa ou H) (hS : va_S (fun q9 => s.heap.size ≤ q9) s.heap H locs) (hl : lv_has ls 7 [(4, .int (nI i)), (3, .ref ou), (2, .ref (B 0)), (1, .ref x), (0, .ref b)]) (hK : ∀ (H : Heap) (locs : List Loc) (cs sl : Nat), cs ≤ c0 + 200 → sl ≤ s0 + 4000 → LI G B x bu pa ou H → va_S (fun q9 => s.heap.size ≤ q9) s.heap H locs → ∀ ls : Array Slot, lv_has ls 7 [(4, .int (nI i)), (3, .ref ou), (2, .ref (B 0)), (1, .ref x), (0, .ref b)] → W p l e room_1 s m ([.ref b] : List Value).toArray below meth c H locs cs sl Q (F0 m 2029 ls [])) : W p l e room_1 s m ([.ref b] : List Value).toArray below meth c H locs c0 s0 Q (F0 m 992 ls []) := by
  obtain ⟨b9, u, nc, np, nh, bk, es, bf, bb, da, hi, f, t, tl, ps, er, ea, ns, ne, se, dr, sk, hb9, hu, hBy, hbb, hO, hM, hDS, f_o⟩ := hI
  have hx := E.1
  have hb := E.2.1
  have hMD := hp.1
  have hDD := hp.2.1
  obtain ⟨⟨h0, hc0⟩, ⟨h1, hp0⟩, ⟨h2, hh⟩, ⟨td, htd, h3⟩, hCr, hPr, hHo, hIj⟩ := id hO
  have hEA : ∀ q9, s.heap.size ≤ q9 → EFA G q9 := fun q9 h9 => Nat.le_trans hZ h9
  have hbA : ¬ s.heap.size ≤ b := Nat.not_le.mpr hbl
  have hAo9 : ∀ q, q = ou → s.heap.size ≤ q := fun q h => hnew q (Or.inr (Or.inr (Or.inr (Or.inl h))))
  have hAB : ∀ q, MA B q → s.heap.size ≤ q := fun q h => hnew q (Or.inr (Or.inr (Or.inr (Or.inr h))))
  have hAO := lao_lt hM hDS f_o
  have hz9 : EFA G H.size := Nat.le_trans hZ hS.1
  have hou : ou < H.size := va_at.lt f_o
  obtain ⟨z1, hz_1⟩ : ∃ z, xs (i + 1) = z := ⟨_, rfl⟩
  rcases inV01 z1 0 (nI np - 1) with hy0 | hy1
  · refine lv_aload_n hx hb dL_law_992 rfl (lv_at hl 3 rfl) ?_
    refine lv_aload_n hx hb dL_law_993 rfl (lv_at hl 4 rfl) ?_
    refine lv_iload hx hb dL_law_994 (lv_at hl 0 rfl) ?_
    refine lv_iconst (v := 1) hx hb dL_law_996 rfl ?_
    refine lv_iadd hx hb dL_law_997 ?_
    refine l_sld (k := i + 1) hx hb hXs hbl hbA hS (ixq (nI_ad rfl rfl)) (by omega) hL hz_1 dL_law_998 ?_
    refine lv_aload_n hx hb dL_law_999 rfl (lv_at hl 1 rfl) ?_
    refine WW.callS (rest := []) (w_L_creditOf_t1 l G z1 (P := DS G (LAO B x bu pa ou) x bu pa bb (nI b9) es bk da nc np nh u hi) (Tr.w (c_X7_creditOf_x l hst G z1 hy0 hp0) (fun _ h9 => ds_dk h9))) yk_L_creditOf E km_L_165 dL_law_1000 hG (hE.S hS hEA) ⟨hDS, _, hDS.1⟩ rfl rfl hl.1 ⟨Nat.le_of_ble_eq_true rfl, Nat.le_of_ble_eq_true rfl⟩ ⟨show c0 + 1 ≤ 601024 by omega, show s0 + 6 ≤ 7293034 by omega⟩ (Nat.le_of_ble_eq_true rfl) hS (fun q9 h9 => h9.elim) (fun v9 H1 locs hq hz8 hfr9 hS => ?_)
    obtain rfl := hq
    have hf9 : ∀ q : Nat, q < H.size → q ≠ ou → H1[q]? = H[q]? := fun q9 h9 _ => hfr9 q9 h9 (fun w9 => w9)
    have f_o := va_at.kept f_o (hfr9 _ (va_at.lt f_o) (fun w9 => w9))
    have hM := ro_M hp hM hf9
    have hDS := ro_D hp hDS hf9
    refine lv_istore (lv' := [(5, .int 1), (4, .int (nI i)), (3, .ref ou), (2, .ref (B 0)), (1, .ref x), (0, .ref b)]) hx hb dL_law_1003 hl (by decide) rfl (fun ls hl => ?_)
    refine lv_aload_n hx hb dL_law_1005 rfl (lv_at hl 3 rfl) ?_
    refine lv_aload_n hx hb dL_law_1006 rfl (lv_at hl 5 rfl) ?_
    refine lv_iload hx hb dL_law_1007 (lv_at hl 1 rfl) ?_
    refine lv_iconst (v := 1) hx hb dL_law_1009 rfl ?_
    refine lv_iadd hx hb dL_law_1010 ?_
    refine l_sld (k := i + 1) hx hb hXs hbl hbA hS (ixq (nI_ad rfl rfl)) (by omega) hL hz_1 dL_law_1011 ?_
    refine Wr.callV (rest := []) (c_X8_creditOf_x l G hMD z1 (by rw [h1]; exact hy0)) yk_X8_creditOf E km_L_167 dL_law_1012 hG (hE.S hS hEA) hM (At.recv hG hM.1 rfl) rfl rfl hl.1 ⟨Nat.le_of_ble_eq_true rfl, Nat.le_of_ble_eq_true rfl⟩ ⟨show c0 + 1 + 0 ≤ 601024 by omega, show s0 + 6 + 0 ≤ 7293034 by omega⟩ (Nat.le_of_ble_eq_true rfl) hS hAB (fun v9 H2 locs hq hz8 hfr9 hS => ?_)
    obtain ⟨rfl, hM⟩ := hq
    have hDS := rf_D hp hDS hfr9
    have f_o := rf_o hp f_o hfr9
    refine lv_istore (lv' := [(6, .int 0), (5, .int 1), (4, .int (nI i)), (3, .ref ou), (2, .ref (B 0)), (1, .ref x), (0, .ref b)]) hx hb dL_law_1015 hl (by decide) rfl (fun ls hl => ?_)
    refine lv_aload_n hx hb dL_law_1017 rfl (lv_at hl 4 rfl) ?_
    refine Rd.callV (rest := []) (c_X8_thrown l G) yk_X8_thrown E km_L_113 dL_law_1018 hG (hE.S hS hEA) hM (At.recv hG hM.1 rfl) rfl rfl hl.1 ⟨Nat.le_of_ble_eq_true rfl, Nat.le_of_ble_eq_true rfl⟩ ⟨show c0 + 1 + 0 ≤ 601024 by omega, show s0 + 6 + 0 ≤ 7293034 by omega⟩ (Nat.le_of_ble_eq_true rfl) ?_
    refine lv_ci (y := 1) rfl ?_
    refine lv_iload hx hb dL_law_1021 (lv_at hl 1 rfl) ?_
    refine lv_icmp_eq (tgt := 1028) hx hb dL_law_1023 (by decide) (fun c_1023 => ?_) (fun c_1023 => ?_)
    rotate_left
    · exact absurd c_1023 (by decide)
    refine lv_iload hx hb dL_law_1028 (lv_at hl 1 rfl) ?_
    refine lv_if_ne (tgt := 1045) hx hb dL_law_1030 (by decide) (fun c_1030 => ?_) (fun c_1030 => ?_)
    rotate_left
    · exact absurd c_1030 (by decide)
    refine lv_goto (tgt := 2029) hx hb dL_law_1045 (by decide) ?_
    exact hK H2 locs _ _ (show c0 + 1 + 0 ≤ c0 + 200 by omega) (show s0 + 6 + 0 ≤ s0 + 4000 by omega) (li_mk hb9 hu hBy hbb hO hM hDS f_o) hS ls (lv_sub hl [2, 3, 4, 5, 6] rfl)
  · obtain ⟨k, hk9, ez⟩ := ix_of (by omega) hy1
    refine lv_aload_n hx hb dL_law_992 rfl (lv_at hl 3 rfl) ?_
    refine lv_aload_n hx hb dL_law_993 rfl (lv_at hl 4 rfl) ?_
    refine lv_iload hx hb dL_law_994 (lv_at hl 0 rfl) ?_
    refine lv_iconst (v := 1) hx hb dL_law_996 rfl ?_
    refine lv_iadd hx hb dL_law_997 ?_
    refine l_sld (k := i + 1) hx hb hXs hbl hbA hS (ixq (nI_ad rfl rfl)) (by omega) hL hz_1 dL_law_998 ?_
    refine lv_aload_n hx hb dL_law_999 rfl (lv_at hl 1 rfl) ?_
    refine WW.callS (rest := []) (w_L_creditOf l G z1 (Q := (fun r9 _ => r9 = da (pP k))) (f := f) (Rd.w (D := DS G (LAO B x bu pa ou) x bu pa bb (nI b9) es bk da nc np nh u hi) (c_X7_creditOf l G z1 k ez hk9 hp0) (fun _ h9 => ds_dk h9)) (fun w9 => w9) (fun _ _ _ _ _ h9 => h9)) yk_L_creditOf E km_L_165 dL_law_1000 hG (hE.S hS hEA) ⟨hDS, ⟨_, hDS.1⟩, f_o⟩ rfl rfl hl.1 ⟨Nat.le_of_ble_eq_true rfl, Nat.le_of_ble_eq_true rfl⟩ ⟨show c0 + 0 ≤ 601024 by omega, show s0 + 0 ≤ 7293034 by omega⟩ (Nat.le_of_ble_eq_true rfl) hS (fun q9 h9 => h9.elim (fun w9 => w9.elim) (hAo9 q9)) (fun v9 H3 locs hq hz8 hfr9 hS => ?_)
    obtain ⟨rfl, r, hQ9, f_o⟩ := hq
    have hf9 : ∀ q : Nat, q < H.size → q ≠ ou → H3[q]? = H[q]? := fun q9 h9 h8 => hfr9 q9 h9 (fun z9 => z9.elim (fun w9 => w9.elim) h8)
    have hM := ro_M hp hM hf9
    have hDS := ro_D hp hDS hf9
    refine lv_istore (lv' := [(5, .int 0), (4, .int (nI i)), (3, .ref ou), (2, .ref (B 0)), (1, .ref x), (0, .ref b)]) hx hb dL_law_1003 hl (by decide) rfl (fun ls hl => ?_)
    refine lv_aload_n hx hb dL_law_1005 rfl (lv_at hl 3 rfl) ?_
    refine lv_aload_n hx hb dL_law_1006 rfl (lv_at hl 5 rfl) ?_
    refine lv_iload hx hb dL_law_1007 (lv_at hl 1 rfl) ?_
    refine lv_iconst (v := 1) hx hb dL_law_1009 rfl ?_
    refine lv_iadd hx hb dL_law_1010 ?_
    refine l_sld (k := i + 1) hx hb hXs hbl hbA hS (ixq (nI_ad rfl rfl)) (by omega) hL hz_1 dL_law_1011 ?_
    refine Wr.callV (rest := []) (c_X8_creditOf l G hMD z1 k ez (by omega) (by rw [h1]; exact hy1)) yk_X8_creditOf E km_L_167 dL_law_1012 hG (hE.S hS hEA) hM (At.recv hG hM.1 rfl) rfl rfl hl.1 ⟨Nat.le_of_ble_eq_true rfl, Nat.le_of_ble_eq_true rfl⟩ ⟨show c0 + 0 + 0 ≤ 601024 by omega, show s0 + 0 + 0 ≤ 7293034 by omega⟩ (Nat.le_of_ble_eq_true rfl) hS hAB (fun v9 H4 locs hq hz8 hfr9 hS => ?_)
    obtain ⟨rfl, hM⟩ := hq
    have hDS := rf_D hp hDS hfr9
    have f_o := rf_o hp f_o hfr9
    refine lv_istore (lv' := [(6, .int (da (pP k))), (5, .int 0), (4, .int (nI i)), (3, .ref ou), (2, .ref (B 0)), (1, .ref x), (0, .ref b)]) hx hb dL_law_1015 hl (by decide) rfl (fun ls hl => ?_)
    refine lv_aload_n hx hb dL_law_1017 rfl (lv_at hl 4 rfl) ?_
    refine Rd.callV (rest := []) (c_X8_thrown l G) yk_X8_thrown E km_L_113 dL_law_1018 hG (hE.S hS hEA) hM (At.recv hG hM.1 rfl) rfl rfl hl.1 ⟨Nat.le_of_ble_eq_true rfl, Nat.le_of_ble_eq_true rfl⟩ ⟨show c0 + 0 + 0 ≤ 601024 by omega, show s0 + 0 + 0 ≤ 7293034 by omega⟩ (Nat.le_of_ble_eq_true rfl) ?_
    refine lv_ci (y := 0) rfl ?_
    refine lv_iload hx hb dL_law_1021 (lv_at hl 1 rfl) ?_
    refine lv_icmp_eq (tgt := 1028) hx hb dL_law_1023 (by decide) (fun c_1023 => ?_) (fun c_1023 => ?_)
    rotate_left
    · exact absurd c_1023 (by decide)
    refine lv_iload hx hb dL_law_1028 (lv_at hl 1 rfl) ?_
    refine lv_if_ne (tgt := 1045) hx hb dL_law_1030 (by decide) (fun c_1030 => ?_) (fun c_1030 => ?_)
    · exact absurd c_1030 (by decide)
    refine lv_aload_n hx hb dL_law_1033 rfl (lv_at hl 3 rfl) ?_
    refine lv_iconst (v := 0) hx hb dL_law_1034 rfl ?_
    refine g_lld 0 E hG f_o rfl (by omega) (by decide) dL_law_1035 ?_
    refine lv_iload hx hb dL_law_1036 (lv_at hl 0 rfl) ?_
    refine lv_i2l (v := (da (pP k)).toInt64) hx hb dL_law_1038 rfl ?_
    refine W.lcmp hx hb dL_law_1039 ?_
    refine lv_if_eq (tgt := 1045) hx hb dL_law_1040 (by decide) (fun c_1040 => ?_) (fun c_1040 => ?_)
    rotate_left
    · exact absurd ((lg_cmp_eq _ _).mpr (by rw [pk_uLs]; rw [hQ9])) c_1040
    refine lv_goto (tgt := 2029) hx hb dL_law_1045 (by decide) ?_
    exact hK H4 locs _ _ (show c0 + 0 + 0 ≤ c0 + 200 by omega) (show s0 + 0 + 0 ≤ s0 + 4000 by omega) (li_mk hb9 hu hBy hbb hO hM hDS f_o) hS ls (lv_sub hl [2, 3, 4, 5, 6] rfl)

set_option maxHeartbeats 4000000 in
set_option maxRecDepth 100000 in
/-- the law: state -/
theorem lc_state {p : Program} {l : Launch} {e : Env} {s : State} {m : MethodId} {below : List Frame} {meth : Method} {c : Code} {Q : State → Prop} {b L : Nat} {xs : Nat → Int32} {G : CG} {B : Nat → Nat} {x bu pa ou i c0 s0 : Nat} {H : Heap} {locs : List Loc} {ls : Array Slot} (hst : l.stackTraces = false) (E : CallFix p m c code 7 s ([.ref b] : List Value).toArray TB RL) (hG : KT G s) (hE : EF G s s.heap) (hXs : va_X b L xs s s.heap) (hbl : b < s.heap.size) (hL : L ≤ 3072) (hZ : EFA G s.heap.size) (hp : LAp G B x bu pa ou) (hnew : ∀ q, LAO B x bu pa ou q → s.heap.size ≤ q) (hi6 : i + 6 ≤ L) (hc9 : c0 + 200 ≤ 601024) (hs9 : s0 + 4000 ≤ 7293034) (hI : LI G B x bu pa ou H) (hS : va_S (fun q9 => s.heap.size ≤ q9) s.heap H locs) (hl : lv_has ls 7 [(4, .int (nI i)), (3, .ref ou), (2, .ref (B 0)), (1, .ref x), (0, .ref b)]) (hK : ∀ (H : Heap) (locs : List Loc) (cs sl : Nat), cs ≤ c0 + 200 → sl ≤ s0 + 4000 → LI G B x bu pa ou H → va_S (fun q9 => s.heap.size ≤ q9) s.heap H locs → ∀ ls : Array Slot, lv_has ls 7 [(4, .int (nI i)), (3, .ref ou), (2, .ref (B 0)), (1, .ref x), (0, .ref b)] → W p l e room_1 s m ([.ref b] : List Value).toArray below meth c H locs cs sl Q (F0 m 2029 ls [])) : W p l e room_1 s m ([.ref b] : List Value).toArray below meth c H locs c0 s0 Q (F0 m 1048 ls []) := by
  obtain ⟨b9, u, nc, np, nh, bk, es, bf, bb, da, hi, f, t, tl, ps, er, ea, ns, ne, se, dr, sk, hb9, hu, hBy, hbb, hO, hM, hDS, f_o⟩ := hI
  have hx := E.1
  have hb := E.2.1
  have hMD := hp.1
  have hDD := hp.2.1
  obtain ⟨⟨h0, hc0⟩, ⟨h1, hp0⟩, ⟨h2, hh⟩, ⟨td, htd, h3⟩, hCr, hPr, hHo, hIj⟩ := id hO
  have hEA : ∀ q9, s.heap.size ≤ q9 → EFA G q9 := fun q9 h9 => Nat.le_trans hZ h9
  have hbA : ¬ s.heap.size ≤ b := Nat.not_le.mpr hbl
  have hAo9 : ∀ q, q = ou → s.heap.size ≤ q := fun q h => hnew q (Or.inr (Or.inr (Or.inr (Or.inl h))))
  have hAB : ∀ q, MA B q → s.heap.size ≤ q := fun q h => hnew q (Or.inr (Or.inr (Or.inr (Or.inr h))))
  have hAO := lao_lt hM hDS f_o
  have hz9 : EFA G H.size := Nat.le_trans hZ hS.1
  have hou : ou < H.size := va_at.lt f_o
  obtain ⟨z1, hz_1⟩ : ∃ z, xs (i + 1) = z := ⟨_, rfl⟩
  rcases inV01 z1 0 (nI np - 1) with hy0 | hy1
  · refine lv_aload_n hx hb dL_law_1048 rfl (lv_at hl 3 rfl) ?_
    refine lv_aload_n hx hb dL_law_1049 rfl (lv_at hl 4 rfl) ?_
    refine lv_iload hx hb dL_law_1050 (lv_at hl 0 rfl) ?_
    refine lv_iconst (v := 1) hx hb dL_law_1052 rfl ?_
    refine lv_iadd hx hb dL_law_1053 ?_
    refine l_sld (k := i + 1) hx hb hXs hbl hbA hS (ixq (nI_ad rfl rfl)) (by omega) hL hz_1 dL_law_1054 ?_
    refine lv_aload_n hx hb dL_law_1055 rfl (lv_at hl 1 rfl) ?_
    refine WW.callS (rest := []) (w_L_state_t1 l G z1 (P := DS G (LAO B x bu pa ou) x bu pa bb (nI b9) es bk da nc np nh u hi) (Tr.w (c_X7_state_x l hst G z1 hy0 hp0) (fun _ h9 => ds_dk h9))) yk_L_state E km_L_168 dL_law_1056 hG (hE.S hS hEA) ⟨hDS, _, hDS.1⟩ rfl rfl hl.1 ⟨Nat.le_of_ble_eq_true rfl, Nat.le_of_ble_eq_true rfl⟩ ⟨show c0 + 1 ≤ 601024 by omega, show s0 + 6 ≤ 7293034 by omega⟩ (Nat.le_of_ble_eq_true rfl) hS (fun q9 h9 => h9.elim) (fun v9 H1 locs hq hz8 hfr9 hS => ?_)
    obtain rfl := hq
    have hf9 : ∀ q : Nat, q < H.size → q ≠ ou → H1[q]? = H[q]? := fun q9 h9 _ => hfr9 q9 h9 (fun w9 => w9)
    have f_o := va_at.kept f_o (hfr9 _ (va_at.lt f_o) (fun w9 => w9))
    have hM := ro_M hp hM hf9
    have hDS := ro_D hp hDS hf9
    refine lv_istore (lv' := [(5, .int 1), (4, .int (nI i)), (3, .ref ou), (2, .ref (B 0)), (1, .ref x), (0, .ref b)]) hx hb dL_law_1059 hl (by decide) rfl (fun ls hl => ?_)
    refine lv_aload_n hx hb dL_law_1061 rfl (lv_at hl 3 rfl) ?_
    refine lv_aload_n hx hb dL_law_1062 rfl (lv_at hl 5 rfl) ?_
    refine lv_iload hx hb dL_law_1063 (lv_at hl 1 rfl) ?_
    refine lv_iconst (v := 1) hx hb dL_law_1065 rfl ?_
    refine lv_iadd hx hb dL_law_1066 ?_
    refine l_sld (k := i + 1) hx hb hXs hbl hbA hS (ixq (nI_ad rfl rfl)) (by omega) hL hz_1 dL_law_1067 ?_
    refine Wr.callV (rest := []) (c_X8_state_x l G hMD z1 (by rw [h1]; exact hy0)) yk_X8_state E km_L_170 dL_law_1068 hG (hE.S hS hEA) hM (At.recv hG hM.1 rfl) rfl rfl hl.1 ⟨Nat.le_of_ble_eq_true rfl, Nat.le_of_ble_eq_true rfl⟩ ⟨show c0 + 1 + 0 ≤ 601024 by omega, show s0 + 6 + 0 ≤ 7293034 by omega⟩ (Nat.le_of_ble_eq_true rfl) hS hAB (fun v9 H2 locs hq hz8 hfr9 hS => ?_)
    obtain ⟨rfl, hM⟩ := hq
    have hDS := rf_D hp hDS hfr9
    have f_o := rf_o hp f_o hfr9
    refine lv_istore (lv' := [(6, .int 0), (5, .int 1), (4, .int (nI i)), (3, .ref ou), (2, .ref (B 0)), (1, .ref x), (0, .ref b)]) hx hb dL_law_1071 hl (by decide) rfl (fun ls hl => ?_)
    refine lv_aload_n hx hb dL_law_1073 rfl (lv_at hl 4 rfl) ?_
    refine Rd.callV (rest := []) (c_X8_thrown l G) yk_X8_thrown E km_L_113 dL_law_1074 hG (hE.S hS hEA) hM (At.recv hG hM.1 rfl) rfl rfl hl.1 ⟨Nat.le_of_ble_eq_true rfl, Nat.le_of_ble_eq_true rfl⟩ ⟨show c0 + 1 + 0 ≤ 601024 by omega, show s0 + 6 + 0 ≤ 7293034 by omega⟩ (Nat.le_of_ble_eq_true rfl) ?_
    refine lv_ci (y := 1) rfl ?_
    refine lv_iload hx hb dL_law_1077 (lv_at hl 1 rfl) ?_
    refine lv_icmp_eq (tgt := 1084) hx hb dL_law_1079 (by decide) (fun c_1079 => ?_) (fun c_1079 => ?_)
    rotate_left
    · exact absurd c_1079 (by decide)
    refine lv_iload hx hb dL_law_1084 (lv_at hl 1 rfl) ?_
    refine lv_if_ne (tgt := 1101) hx hb dL_law_1086 (by decide) (fun c_1086 => ?_) (fun c_1086 => ?_)
    rotate_left
    · exact absurd c_1086 (by decide)
    refine lv_goto (tgt := 2029) hx hb dL_law_1101 (by decide) ?_
    exact hK H2 locs _ _ (show c0 + 1 + 0 ≤ c0 + 200 by omega) (show s0 + 6 + 0 ≤ s0 + 4000 by omega) (li_mk hb9 hu hBy hbb hO hM hDS f_o) hS ls (lv_sub hl [2, 3, 4, 5, 6] rfl)
  · obtain ⟨k, hk9, ez⟩ := ix_of (by omega) hy1
    refine lv_aload_n hx hb dL_law_1048 rfl (lv_at hl 3 rfl) ?_
    refine lv_aload_n hx hb dL_law_1049 rfl (lv_at hl 4 rfl) ?_
    refine lv_iload hx hb dL_law_1050 (lv_at hl 0 rfl) ?_
    refine lv_iconst (v := 1) hx hb dL_law_1052 rfl ?_
    refine lv_iadd hx hb dL_law_1053 ?_
    refine l_sld (k := i + 1) hx hb hXs hbl hbA hS (ixq (nI_ad rfl rfl)) (by omega) hL hz_1 dL_law_1054 ?_
    refine lv_aload_n hx hb dL_law_1055 rfl (lv_at hl 1 rfl) ?_
    refine WW.callS (rest := []) (w_L_state l G z1 (Q := (fun r9 _ => r9 = da (pP k + 4))) (f := f) (Rd.w (D := DS G (LAO B x bu pa ou) x bu pa bb (nI b9) es bk da nc np nh u hi) (c_X7_state l G z1 k ez hk9 hp0) (fun _ h9 => ds_dk h9)) (fun w9 => w9) (fun _ _ _ _ _ h9 => h9)) yk_L_state E km_L_168 dL_law_1056 hG (hE.S hS hEA) ⟨hDS, ⟨_, hDS.1⟩, f_o⟩ rfl rfl hl.1 ⟨Nat.le_of_ble_eq_true rfl, Nat.le_of_ble_eq_true rfl⟩ ⟨show c0 + 0 ≤ 601024 by omega, show s0 + 0 ≤ 7293034 by omega⟩ (Nat.le_of_ble_eq_true rfl) hS (fun q9 h9 => h9.elim (fun w9 => w9.elim) (hAo9 q9)) (fun v9 H3 locs hq hz8 hfr9 hS => ?_)
    obtain ⟨rfl, r, hQ9, f_o⟩ := hq
    have hf9 : ∀ q : Nat, q < H.size → q ≠ ou → H3[q]? = H[q]? := fun q9 h9 h8 => hfr9 q9 h9 (fun z9 => z9.elim (fun w9 => w9.elim) h8)
    have hM := ro_M hp hM hf9
    have hDS := ro_D hp hDS hf9
    refine lv_istore (lv' := [(5, .int 0), (4, .int (nI i)), (3, .ref ou), (2, .ref (B 0)), (1, .ref x), (0, .ref b)]) hx hb dL_law_1059 hl (by decide) rfl (fun ls hl => ?_)
    refine lv_aload_n hx hb dL_law_1061 rfl (lv_at hl 3 rfl) ?_
    refine lv_aload_n hx hb dL_law_1062 rfl (lv_at hl 5 rfl) ?_
    refine lv_iload hx hb dL_law_1063 (lv_at hl 1 rfl) ?_
    refine lv_iconst (v := 1) hx hb dL_law_1065 rfl ?_
    refine lv_iadd hx hb dL_law_1066 ?_
    refine l_sld (k := i + 1) hx hb hXs hbl hbA hS (ixq (nI_ad rfl rfl)) (by omega) hL hz_1 dL_law_1067 ?_
    refine Wr.callV (rest := []) (c_X8_state l G hMD z1 k ez (by omega) (by rw [h1]; exact hy1)) yk_X8_state E km_L_170 dL_law_1068 hG (hE.S hS hEA) hM (At.recv hG hM.1 rfl) rfl rfl hl.1 ⟨Nat.le_of_ble_eq_true rfl, Nat.le_of_ble_eq_true rfl⟩ ⟨show c0 + 0 + 0 ≤ 601024 by omega, show s0 + 0 + 0 ≤ 7293034 by omega⟩ (Nat.le_of_ble_eq_true rfl) hS hAB (fun v9 H4 locs hq hz8 hfr9 hS => ?_)
    obtain ⟨rfl, hM⟩ := hq
    have hDS := rf_D hp hDS hfr9
    have f_o := rf_o hp f_o hfr9
    refine lv_istore (lv' := [(6, .int (da (pP k + 4))), (5, .int 0), (4, .int (nI i)), (3, .ref ou), (2, .ref (B 0)), (1, .ref x), (0, .ref b)]) hx hb dL_law_1071 hl (by decide) rfl (fun ls hl => ?_)
    refine lv_aload_n hx hb dL_law_1073 rfl (lv_at hl 4 rfl) ?_
    refine Rd.callV (rest := []) (c_X8_thrown l G) yk_X8_thrown E km_L_113 dL_law_1074 hG (hE.S hS hEA) hM (At.recv hG hM.1 rfl) rfl rfl hl.1 ⟨Nat.le_of_ble_eq_true rfl, Nat.le_of_ble_eq_true rfl⟩ ⟨show c0 + 0 + 0 ≤ 601024 by omega, show s0 + 0 + 0 ≤ 7293034 by omega⟩ (Nat.le_of_ble_eq_true rfl) ?_
    refine lv_ci (y := 0) rfl ?_
    refine lv_iload hx hb dL_law_1077 (lv_at hl 1 rfl) ?_
    refine lv_icmp_eq (tgt := 1084) hx hb dL_law_1079 (by decide) (fun c_1079 => ?_) (fun c_1079 => ?_)
    rotate_left
    · exact absurd c_1079 (by decide)
    refine lv_iload hx hb dL_law_1084 (lv_at hl 1 rfl) ?_
    refine lv_if_ne (tgt := 1101) hx hb dL_law_1086 (by decide) (fun c_1086 => ?_) (fun c_1086 => ?_)
    · exact absurd c_1086 (by decide)
    refine lv_aload_n hx hb dL_law_1089 rfl (lv_at hl 3 rfl) ?_
    refine lv_iconst (v := 0) hx hb dL_law_1090 rfl ?_
    refine g_lld 0 E hG f_o rfl (by omega) (by decide) dL_law_1091 ?_
    refine lv_iload hx hb dL_law_1092 (lv_at hl 0 rfl) ?_
    refine lv_i2l (v := (da (pP k + 4)).toInt64) hx hb dL_law_1094 rfl ?_
    refine W.lcmp hx hb dL_law_1095 ?_
    refine lv_if_eq (tgt := 1101) hx hb dL_law_1096 (by decide) (fun c_1096 => ?_) (fun c_1096 => ?_)
    rotate_left
    · exact absurd ((lg_cmp_eq _ _).mpr (by rw [pk_uLs]; rw [hQ9])) c_1096
    refine lv_goto (tgt := 2029) hx hb dL_law_1101 (by decide) ?_
    exact hK H4 locs _ _ (show c0 + 0 + 0 ≤ c0 + 200 by omega) (show s0 + 0 + 0 ≤ s0 + 4000 by omega) (li_mk hb9 hu hBy hbb hO hM hDS f_o) hS ls (lv_sub hl [2, 3, 4, 5, 6] rfl)

set_option maxHeartbeats 4000000 in
set_option maxRecDepth 100000 in
/-- the law: discrepancies -/
theorem lc_discrepancies {p : Program} {l : Launch} {e : Env} {s : State} {m : MethodId} {below : List Frame} {meth : Method} {c : Code} {Q : State → Prop} {b L : Nat} {xs : Nat → Int32} {G : CG} {B : Nat → Nat} {x bu pa ou i c0 s0 : Nat} {H : Heap} {locs : List Loc} {ls : Array Slot} (hst : l.stackTraces = false) (E : CallFix p m c code 7 s ([.ref b] : List Value).toArray TB RL) (hG : KT G s) (hE : EF G s s.heap) (hXs : va_X b L xs s s.heap) (hbl : b < s.heap.size) (hL : L ≤ 3072) (hZ : EFA G s.heap.size) (hp : LAp G B x bu pa ou) (hnew : ∀ q, LAO B x bu pa ou q → s.heap.size ≤ q) (hi6 : i + 6 ≤ L) (hc9 : c0 + 200 ≤ 601024) (hs9 : s0 + 4000 ≤ 7293034) (hI : LI G B x bu pa ou H) (hS : va_S (fun q9 => s.heap.size ≤ q9) s.heap H locs) (hl : lv_has ls 7 [(4, .int (nI i)), (3, .ref ou), (2, .ref (B 0)), (1, .ref x), (0, .ref b)]) (hK : ∀ (H : Heap) (locs : List Loc) (cs sl : Nat), cs ≤ c0 + 200 → sl ≤ s0 + 4000 → LI G B x bu pa ou H → va_S (fun q9 => s.heap.size ≤ q9) s.heap H locs → ∀ ls : Array Slot, lv_has ls 7 [(4, .int (nI i)), (3, .ref ou), (2, .ref (B 0)), (1, .ref x), (0, .ref b)] → W p l e room_1 s m ([.ref b] : List Value).toArray below meth c H locs cs sl Q (F0 m 2029 ls [])) : W p l e room_1 s m ([.ref b] : List Value).toArray below meth c H locs c0 s0 Q (F0 m 1104 ls []) := by
  obtain ⟨b9, u, nc, np, nh, bk, es, bf, bb, da, hi, f, t, tl, ps, er, ea, ns, ne, se, dr, sk, hb9, hu, hBy, hbb, hO, hM, hDS, f_o⟩ := hI
  have hx := E.1
  have hb := E.2.1
  have hMD := hp.1
  have hDD := hp.2.1
  obtain ⟨⟨h0, hc0⟩, ⟨h1, hp0⟩, ⟨h2, hh⟩, ⟨td, htd, h3⟩, hCr, hPr, hHo, hIj⟩ := id hO
  have hEA : ∀ q9, s.heap.size ≤ q9 → EFA G q9 := fun q9 h9 => Nat.le_trans hZ h9
  have hbA : ¬ s.heap.size ≤ b := Nat.not_le.mpr hbl
  have hAo9 : ∀ q, q = ou → s.heap.size ≤ q := fun q h => hnew q (Or.inr (Or.inr (Or.inr (Or.inl h))))
  have hAB : ∀ q, MA B q → s.heap.size ≤ q := fun q h => hnew q (Or.inr (Or.inr (Or.inr (Or.inr h))))
  have hAO := lao_lt hM hDS f_o
  have hz9 : EFA G H.size := Nat.le_trans hZ hS.1
  have hou : ou < H.size := va_at.lt f_o
  obtain ⟨z1, hz_1⟩ : ∃ z, xs (i + 1) = z := ⟨_, rfl⟩
  rcases inV01 z1 0 (nI np - 1) with hy0 | hy1
  · refine lv_aload_n hx hb dL_law_1104 rfl (lv_at hl 3 rfl) ?_
    refine lv_aload_n hx hb dL_law_1105 rfl (lv_at hl 4 rfl) ?_
    refine lv_iload hx hb dL_law_1106 (lv_at hl 0 rfl) ?_
    refine lv_iconst (v := 1) hx hb dL_law_1108 rfl ?_
    refine lv_iadd hx hb dL_law_1109 ?_
    refine l_sld (k := i + 1) hx hb hXs hbl hbA hS (ixq (nI_ad rfl rfl)) (by omega) hL hz_1 dL_law_1110 ?_
    refine lv_aload_n hx hb dL_law_1111 rfl (lv_at hl 1 rfl) ?_
    refine WW.callS (rest := []) (w_L_discrepancies_t1 l G z1 (P := DS G (LAO B x bu pa ou) x bu pa bb (nI b9) es bk da nc np nh u hi) (Tr.w (c_X7_discrepancies_x l hst G z1 hy0 hp0) (fun _ h9 => ds_dk h9))) yk_L_discrepancies E km_L_171 dL_law_1112 hG (hE.S hS hEA) ⟨hDS, _, hDS.1⟩ rfl rfl hl.1 ⟨Nat.le_of_ble_eq_true rfl, Nat.le_of_ble_eq_true rfl⟩ ⟨show c0 + 1 ≤ 601024 by omega, show s0 + 6 ≤ 7293034 by omega⟩ (Nat.le_of_ble_eq_true rfl) hS (fun q9 h9 => h9.elim) (fun v9 H1 locs hq hz8 hfr9 hS => ?_)
    obtain rfl := hq
    have hf9 : ∀ q : Nat, q < H.size → q ≠ ou → H1[q]? = H[q]? := fun q9 h9 _ => hfr9 q9 h9 (fun w9 => w9)
    have f_o := va_at.kept f_o (hfr9 _ (va_at.lt f_o) (fun w9 => w9))
    have hM := ro_M hp hM hf9
    have hDS := ro_D hp hDS hf9
    refine lv_istore (lv' := [(5, .int 1), (4, .int (nI i)), (3, .ref ou), (2, .ref (B 0)), (1, .ref x), (0, .ref b)]) hx hb dL_law_1115 hl (by decide) rfl (fun ls hl => ?_)
    refine lv_aload_n hx hb dL_law_1117 rfl (lv_at hl 3 rfl) ?_
    refine lv_aload_n hx hb dL_law_1118 rfl (lv_at hl 5 rfl) ?_
    refine lv_iload hx hb dL_law_1119 (lv_at hl 1 rfl) ?_
    refine lv_iconst (v := 1) hx hb dL_law_1121 rfl ?_
    refine lv_iadd hx hb dL_law_1122 ?_
    refine l_sld (k := i + 1) hx hb hXs hbl hbA hS (ixq (nI_ad rfl rfl)) (by omega) hL hz_1 dL_law_1123 ?_
    refine Wr.callV (rest := []) (c_X8_discrepancies_x l G hMD z1 (by rw [h1]; exact hy0)) yk_X8_discrepancies E km_L_173 dL_law_1124 hG (hE.S hS hEA) hM (At.recv hG hM.1 rfl) rfl rfl hl.1 ⟨Nat.le_of_ble_eq_true rfl, Nat.le_of_ble_eq_true rfl⟩ ⟨show c0 + 1 + 0 ≤ 601024 by omega, show s0 + 6 + 0 ≤ 7293034 by omega⟩ (Nat.le_of_ble_eq_true rfl) hS hAB (fun v9 H2 locs hq hz8 hfr9 hS => ?_)
    obtain ⟨rfl, hM⟩ := hq
    have hDS := rf_D hp hDS hfr9
    have f_o := rf_o hp f_o hfr9
    refine lv_istore (lv' := [(6, .int 0), (5, .int 1), (4, .int (nI i)), (3, .ref ou), (2, .ref (B 0)), (1, .ref x), (0, .ref b)]) hx hb dL_law_1127 hl (by decide) rfl (fun ls hl => ?_)
    refine lv_aload_n hx hb dL_law_1129 rfl (lv_at hl 4 rfl) ?_
    refine Rd.callV (rest := []) (c_X8_thrown l G) yk_X8_thrown E km_L_113 dL_law_1130 hG (hE.S hS hEA) hM (At.recv hG hM.1 rfl) rfl rfl hl.1 ⟨Nat.le_of_ble_eq_true rfl, Nat.le_of_ble_eq_true rfl⟩ ⟨show c0 + 1 + 0 ≤ 601024 by omega, show s0 + 6 + 0 ≤ 7293034 by omega⟩ (Nat.le_of_ble_eq_true rfl) ?_
    refine lv_ci (y := 1) rfl ?_
    refine lv_iload hx hb dL_law_1133 (lv_at hl 1 rfl) ?_
    refine lv_icmp_eq (tgt := 1140) hx hb dL_law_1135 (by decide) (fun c_1135 => ?_) (fun c_1135 => ?_)
    rotate_left
    · exact absurd c_1135 (by decide)
    refine lv_iload hx hb dL_law_1140 (lv_at hl 1 rfl) ?_
    refine lv_if_ne (tgt := 1157) hx hb dL_law_1142 (by decide) (fun c_1142 => ?_) (fun c_1142 => ?_)
    rotate_left
    · exact absurd c_1142 (by decide)
    refine lv_goto (tgt := 2029) hx hb dL_law_1157 (by decide) ?_
    exact hK H2 locs _ _ (show c0 + 1 + 0 ≤ c0 + 200 by omega) (show s0 + 6 + 0 ≤ s0 + 4000 by omega) (li_mk hb9 hu hBy hbb hO hM hDS f_o) hS ls (lv_sub hl [2, 3, 4, 5, 6] rfl)
  · obtain ⟨k, hk9, ez⟩ := ix_of (by omega) hy1
    refine lv_aload_n hx hb dL_law_1104 rfl (lv_at hl 3 rfl) ?_
    refine lv_aload_n hx hb dL_law_1105 rfl (lv_at hl 4 rfl) ?_
    refine lv_iload hx hb dL_law_1106 (lv_at hl 0 rfl) ?_
    refine lv_iconst (v := 1) hx hb dL_law_1108 rfl ?_
    refine lv_iadd hx hb dL_law_1109 ?_
    refine l_sld (k := i + 1) hx hb hXs hbl hbA hS (ixq (nI_ad rfl rfl)) (by omega) hL hz_1 dL_law_1110 ?_
    refine lv_aload_n hx hb dL_law_1111 rfl (lv_at hl 1 rfl) ?_
    refine WW.callS (rest := []) (w_L_discrepancies l G z1 (Q := (fun r9 _ => r9 = da (pP k + 3))) (f := f) (Rd.w (D := DS G (LAO B x bu pa ou) x bu pa bb (nI b9) es bk da nc np nh u hi) (c_X7_discrepancies l G z1 k ez hk9 hp0) (fun _ h9 => ds_dk h9)) (fun w9 => w9) (fun _ _ _ _ _ h9 => h9)) yk_L_discrepancies E km_L_171 dL_law_1112 hG (hE.S hS hEA) ⟨hDS, ⟨_, hDS.1⟩, f_o⟩ rfl rfl hl.1 ⟨Nat.le_of_ble_eq_true rfl, Nat.le_of_ble_eq_true rfl⟩ ⟨show c0 + 0 ≤ 601024 by omega, show s0 + 0 ≤ 7293034 by omega⟩ (Nat.le_of_ble_eq_true rfl) hS (fun q9 h9 => h9.elim (fun w9 => w9.elim) (hAo9 q9)) (fun v9 H3 locs hq hz8 hfr9 hS => ?_)
    obtain ⟨rfl, r, hQ9, f_o⟩ := hq
    have hf9 : ∀ q : Nat, q < H.size → q ≠ ou → H3[q]? = H[q]? := fun q9 h9 h8 => hfr9 q9 h9 (fun z9 => z9.elim (fun w9 => w9.elim) h8)
    have hM := ro_M hp hM hf9
    have hDS := ro_D hp hDS hf9
    refine lv_istore (lv' := [(5, .int 0), (4, .int (nI i)), (3, .ref ou), (2, .ref (B 0)), (1, .ref x), (0, .ref b)]) hx hb dL_law_1115 hl (by decide) rfl (fun ls hl => ?_)
    refine lv_aload_n hx hb dL_law_1117 rfl (lv_at hl 3 rfl) ?_
    refine lv_aload_n hx hb dL_law_1118 rfl (lv_at hl 5 rfl) ?_
    refine lv_iload hx hb dL_law_1119 (lv_at hl 1 rfl) ?_
    refine lv_iconst (v := 1) hx hb dL_law_1121 rfl ?_
    refine lv_iadd hx hb dL_law_1122 ?_
    refine l_sld (k := i + 1) hx hb hXs hbl hbA hS (ixq (nI_ad rfl rfl)) (by omega) hL hz_1 dL_law_1123 ?_
    refine Wr.callV (rest := []) (c_X8_discrepancies l G hMD z1 k ez (by omega) (by rw [h1]; exact hy1)) yk_X8_discrepancies E km_L_173 dL_law_1124 hG (hE.S hS hEA) hM (At.recv hG hM.1 rfl) rfl rfl hl.1 ⟨Nat.le_of_ble_eq_true rfl, Nat.le_of_ble_eq_true rfl⟩ ⟨show c0 + 0 + 0 ≤ 601024 by omega, show s0 + 0 + 0 ≤ 7293034 by omega⟩ (Nat.le_of_ble_eq_true rfl) hS hAB (fun v9 H4 locs hq hz8 hfr9 hS => ?_)
    obtain ⟨rfl, hM⟩ := hq
    have hDS := rf_D hp hDS hfr9
    have f_o := rf_o hp f_o hfr9
    refine lv_istore (lv' := [(6, .int (da (pP k + 3))), (5, .int 0), (4, .int (nI i)), (3, .ref ou), (2, .ref (B 0)), (1, .ref x), (0, .ref b)]) hx hb dL_law_1127 hl (by decide) rfl (fun ls hl => ?_)
    refine lv_aload_n hx hb dL_law_1129 rfl (lv_at hl 4 rfl) ?_
    refine Rd.callV (rest := []) (c_X8_thrown l G) yk_X8_thrown E km_L_113 dL_law_1130 hG (hE.S hS hEA) hM (At.recv hG hM.1 rfl) rfl rfl hl.1 ⟨Nat.le_of_ble_eq_true rfl, Nat.le_of_ble_eq_true rfl⟩ ⟨show c0 + 0 + 0 ≤ 601024 by omega, show s0 + 0 + 0 ≤ 7293034 by omega⟩ (Nat.le_of_ble_eq_true rfl) ?_
    refine lv_ci (y := 0) rfl ?_
    refine lv_iload hx hb dL_law_1133 (lv_at hl 1 rfl) ?_
    refine lv_icmp_eq (tgt := 1140) hx hb dL_law_1135 (by decide) (fun c_1135 => ?_) (fun c_1135 => ?_)
    rotate_left
    · exact absurd c_1135 (by decide)
    refine lv_iload hx hb dL_law_1140 (lv_at hl 1 rfl) ?_
    refine lv_if_ne (tgt := 1157) hx hb dL_law_1142 (by decide) (fun c_1142 => ?_) (fun c_1142 => ?_)
    · exact absurd c_1142 (by decide)
    refine lv_aload_n hx hb dL_law_1145 rfl (lv_at hl 3 rfl) ?_
    refine lv_iconst (v := 0) hx hb dL_law_1146 rfl ?_
    refine g_lld 0 E hG f_o rfl (by omega) (by decide) dL_law_1147 ?_
    refine lv_iload hx hb dL_law_1148 (lv_at hl 0 rfl) ?_
    refine lv_i2l (v := (da (pP k + 3)).toInt64) hx hb dL_law_1150 rfl ?_
    refine W.lcmp hx hb dL_law_1151 ?_
    refine lv_if_eq (tgt := 1157) hx hb dL_law_1152 (by decide) (fun c_1152 => ?_) (fun c_1152 => ?_)
    rotate_left
    · exact absurd ((lg_cmp_eq _ _).mpr (by rw [pk_uLs]; rw [hQ9])) c_1152
    refine lv_goto (tgt := 2029) hx hb dL_law_1157 (by decide) ?_
    exact hK H4 locs _ _ (show c0 + 0 + 0 ≤ c0 + 200 by omega) (show s0 + 0 + 0 ≤ s0 + 4000 by omega) (li_mk hb9 hu hBy hbb hO hM hDS f_o) hS ls (lv_sub hl [2, 3, 4, 5, 6] rfl)

set_option maxHeartbeats 4000000 in
set_option maxRecDepth 100000 in
/-- the law: deadline -/
theorem lc_deadline {p : Program} {l : Launch} {e : Env} {s : State} {m : MethodId} {below : List Frame} {meth : Method} {c : Code} {Q : State → Prop} {b L : Nat} {xs : Nat → Int32} {G : CG} {B : Nat → Nat} {x bu pa ou i c0 s0 : Nat} {H : Heap} {locs : List Loc} {ls : Array Slot} (hst : l.stackTraces = false) (E : CallFix p m c code 7 s ([.ref b] : List Value).toArray TB RL) (hG : KT G s) (hE : EF G s s.heap) (hXs : va_X b L xs s s.heap) (hbl : b < s.heap.size) (hL : L ≤ 3072) (hZ : EFA G s.heap.size) (hp : LAp G B x bu pa ou) (hnew : ∀ q, LAO B x bu pa ou q → s.heap.size ≤ q) (hi6 : i + 6 ≤ L) (hc9 : c0 + 200 ≤ 601024) (hs9 : s0 + 4000 ≤ 7293034) (hI : LI G B x bu pa ou H) (hS : va_S (fun q9 => s.heap.size ≤ q9) s.heap H locs) (hl : lv_has ls 7 [(4, .int (nI i)), (3, .ref ou), (2, .ref (B 0)), (1, .ref x), (0, .ref b)]) (hK : ∀ (H : Heap) (locs : List Loc) (cs sl : Nat), cs ≤ c0 + 200 → sl ≤ s0 + 4000 → LI G B x bu pa ou H → va_S (fun q9 => s.heap.size ≤ q9) s.heap H locs → ∀ ls : Array Slot, lv_has ls 7 [(4, .int (nI i)), (3, .ref ou), (2, .ref (B 0)), (1, .ref x), (0, .ref b)] → W p l e room_1 s m ([.ref b] : List Value).toArray below meth c H locs cs sl Q (F0 m 2029 ls [])) : W p l e room_1 s m ([.ref b] : List Value).toArray below meth c H locs c0 s0 Q (F0 m 1160 ls []) := by
  obtain ⟨b9, u, nc, np, nh, bk, es, bf, bb, da, hi, f, t, tl, ps, er, ea, ns, ne, se, dr, sk, hb9, hu, hBy, hbb, hO, hM, hDS, f_o⟩ := hI
  have hx := E.1
  have hb := E.2.1
  have hMD := hp.1
  have hDD := hp.2.1
  obtain ⟨⟨h0, hc0⟩, ⟨h1, hp0⟩, ⟨h2, hh⟩, ⟨td, htd, h3⟩, hCr, hPr, hHo, hIj⟩ := id hO
  have hEA : ∀ q9, s.heap.size ≤ q9 → EFA G q9 := fun q9 h9 => Nat.le_trans hZ h9
  have hbA : ¬ s.heap.size ≤ b := Nat.not_le.mpr hbl
  have hAo9 : ∀ q, q = ou → s.heap.size ≤ q := fun q h => hnew q (Or.inr (Or.inr (Or.inr (Or.inl h))))
  have hAB : ∀ q, MA B q → s.heap.size ≤ q := fun q h => hnew q (Or.inr (Or.inr (Or.inr (Or.inr h))))
  have hAO := lao_lt hM hDS f_o
  have hz9 : EFA G H.size := Nat.le_trans hZ hS.1
  have hou : ou < H.size := va_at.lt f_o
  obtain ⟨z1, hz_1⟩ : ∃ z, xs (i + 1) = z := ⟨_, rfl⟩
  rcases inV01 z1 0 (nI np - 1) with hy0 | hy1
  · refine lv_aload_n hx hb dL_law_1160 rfl (lv_at hl 3 rfl) ?_
    refine lv_aload_n hx hb dL_law_1161 rfl (lv_at hl 4 rfl) ?_
    refine lv_iload hx hb dL_law_1162 (lv_at hl 0 rfl) ?_
    refine lv_iconst (v := 1) hx hb dL_law_1164 rfl ?_
    refine lv_iadd hx hb dL_law_1165 ?_
    refine l_sld (k := i + 1) hx hb hXs hbl hbA hS (ixq (nI_ad rfl rfl)) (by omega) hL hz_1 dL_law_1166 ?_
    refine lv_aload_n hx hb dL_law_1167 rfl (lv_at hl 1 rfl) ?_
    refine WW.callS (rest := []) (w_L_deadline_t1 l G z1 (P := DS G (LAO B x bu pa ou) x bu pa bb (nI b9) es bk da nc np nh u hi) (Tr.w (c_X7_deadline_x l hst G z1 hy0 hp0) (fun _ h9 => ds_dk h9))) yk_L_deadline E km_L_174 dL_law_1168 hG (hE.S hS hEA) ⟨hDS, _, hDS.1⟩ rfl rfl hl.1 ⟨Nat.le_of_ble_eq_true rfl, Nat.le_of_ble_eq_true rfl⟩ ⟨show c0 + 1 ≤ 601024 by omega, show s0 + 6 ≤ 7293034 by omega⟩ (Nat.le_of_ble_eq_true rfl) hS (fun q9 h9 => h9.elim) (fun v9 H1 locs hq hz8 hfr9 hS => ?_)
    obtain rfl := hq
    have hf9 : ∀ q : Nat, q < H.size → q ≠ ou → H1[q]? = H[q]? := fun q9 h9 _ => hfr9 q9 h9 (fun w9 => w9)
    have f_o := va_at.kept f_o (hfr9 _ (va_at.lt f_o) (fun w9 => w9))
    have hM := ro_M hp hM hf9
    have hDS := ro_D hp hDS hf9
    refine lv_istore (lv' := [(5, .int 1), (4, .int (nI i)), (3, .ref ou), (2, .ref (B 0)), (1, .ref x), (0, .ref b)]) hx hb dL_law_1171 hl (by decide) rfl (fun ls hl => ?_)
    refine lv_aload_n hx hb dL_law_1173 rfl (lv_at hl 3 rfl) ?_
    refine lv_aload_n hx hb dL_law_1174 rfl (lv_at hl 5 rfl) ?_
    refine lv_iload hx hb dL_law_1175 (lv_at hl 1 rfl) ?_
    refine lv_iconst (v := 1) hx hb dL_law_1177 rfl ?_
    refine lv_iadd hx hb dL_law_1178 ?_
    refine l_sld (k := i + 1) hx hb hXs hbl hbA hS (ixq (nI_ad rfl rfl)) (by omega) hL hz_1 dL_law_1179 ?_
    refine Wr.callV (rest := []) (c_X8_deadline_x l G hMD z1 (by rw [h1]; exact hy0)) yk_X8_deadline E km_L_176 dL_law_1180 hG (hE.S hS hEA) hM (At.recv hG hM.1 rfl) rfl rfl hl.1 ⟨Nat.le_of_ble_eq_true rfl, Nat.le_of_ble_eq_true rfl⟩ ⟨show c0 + 1 + 0 ≤ 601024 by omega, show s0 + 6 + 0 ≤ 7293034 by omega⟩ (Nat.le_of_ble_eq_true rfl) hS hAB (fun v9 H2 locs hq hz8 hfr9 hS => ?_)
    obtain ⟨rfl, hM⟩ := hq
    have hDS := rf_D hp hDS hfr9
    have f_o := rf_o hp f_o hfr9
    refine lv_istore (lv' := [(6, .int 0), (5, .int 1), (4, .int (nI i)), (3, .ref ou), (2, .ref (B 0)), (1, .ref x), (0, .ref b)]) hx hb dL_law_1183 hl (by decide) rfl (fun ls hl => ?_)
    refine lv_aload_n hx hb dL_law_1185 rfl (lv_at hl 4 rfl) ?_
    refine Rd.callV (rest := []) (c_X8_thrown l G) yk_X8_thrown E km_L_113 dL_law_1186 hG (hE.S hS hEA) hM (At.recv hG hM.1 rfl) rfl rfl hl.1 ⟨Nat.le_of_ble_eq_true rfl, Nat.le_of_ble_eq_true rfl⟩ ⟨show c0 + 1 + 0 ≤ 601024 by omega, show s0 + 6 + 0 ≤ 7293034 by omega⟩ (Nat.le_of_ble_eq_true rfl) ?_
    refine lv_ci (y := 1) rfl ?_
    refine lv_iload hx hb dL_law_1189 (lv_at hl 1 rfl) ?_
    refine lv_icmp_eq (tgt := 1196) hx hb dL_law_1191 (by decide) (fun c_1191 => ?_) (fun c_1191 => ?_)
    rotate_left
    · exact absurd c_1191 (by decide)
    refine lv_iload hx hb dL_law_1196 (lv_at hl 1 rfl) ?_
    refine lv_if_ne (tgt := 1213) hx hb dL_law_1198 (by decide) (fun c_1198 => ?_) (fun c_1198 => ?_)
    rotate_left
    · exact absurd c_1198 (by decide)
    refine lv_goto (tgt := 2029) hx hb dL_law_1213 (by decide) ?_
    exact hK H2 locs _ _ (show c0 + 1 + 0 ≤ c0 + 200 by omega) (show s0 + 6 + 0 ≤ s0 + 4000 by omega) (li_mk hb9 hu hBy hbb hO hM hDS f_o) hS ls (lv_sub hl [2, 3, 4, 5, 6] rfl)
  · obtain ⟨k, hk9, ez⟩ := ix_of (by omega) hy1
    obtain ⟨cr, dy, am, fa, si, e1, e2, e3, e4, e5, e6, e7, e8, e9, e10, e11⟩ := hPr k hk9
    refine lv_aload_n hx hb dL_law_1160 rfl (lv_at hl 3 rfl) ?_
    refine lv_aload_n hx hb dL_law_1161 rfl (lv_at hl 4 rfl) ?_
    refine lv_iload hx hb dL_law_1162 (lv_at hl 0 rfl) ?_
    refine lv_iconst (v := 1) hx hb dL_law_1164 rfl ?_
    refine lv_iadd hx hb dL_law_1165 ?_
    refine l_sld (k := i + 1) hx hb hXs hbl hbA hS (ixq (nI_ad rfl rfl)) (by omega) hL hz_1 dL_law_1166 ?_
    refine lv_aload_n hx hb dL_law_1167 rfl (lv_at hl 1 rfl) ?_
    refine WW.callS (rest := []) (w_L_deadline l G z1 (Q := (fun r9 _ => r9 = nI (addB da nh 5 dy))) (f := f) (Rd.w (D := DS G (LAO B x bu pa ou) x bu pa bb (nI b9) es bk da nc np nh u hi) (c_X7_deadline l G z1 k ez hk9 hp0 dy e3 e4 hh) (fun _ h9 => ds_dk h9)) (fun w9 => w9) (fun _ _ _ _ _ h9 => h9)) yk_L_deadline E km_L_174 dL_law_1168 hG (hE.S hS hEA) ⟨hDS, ⟨_, hDS.1⟩, f_o⟩ rfl rfl hl.1 ⟨Nat.le_of_ble_eq_true rfl, Nat.le_of_ble_eq_true rfl⟩ ⟨show c0 + 0 ≤ 601024 by omega, show s0 + 0 ≤ 7293034 by omega⟩ (Nat.le_of_ble_eq_true rfl) hS (fun q9 h9 => h9.elim (fun w9 => w9.elim) (hAo9 q9)) (fun v9 H3 locs hq hz8 hfr9 hS => ?_)
    obtain ⟨rfl, r, hQ9, f_o⟩ := hq
    have hf9 : ∀ q : Nat, q < H.size → q ≠ ou → H3[q]? = H[q]? := fun q9 h9 h8 => hfr9 q9 h9 (fun z9 => z9.elim (fun w9 => w9.elim) h8)
    have hM := ro_M hp hM hf9
    have hDS := ro_D hp hDS hf9
    refine lv_istore (lv' := [(5, .int 0), (4, .int (nI i)), (3, .ref ou), (2, .ref (B 0)), (1, .ref x), (0, .ref b)]) hx hb dL_law_1171 hl (by decide) rfl (fun ls hl => ?_)
    refine lv_aload_n hx hb dL_law_1173 rfl (lv_at hl 3 rfl) ?_
    refine lv_aload_n hx hb dL_law_1174 rfl (lv_at hl 5 rfl) ?_
    refine lv_iload hx hb dL_law_1175 (lv_at hl 1 rfl) ?_
    refine lv_iconst (v := 1) hx hb dL_law_1177 rfl ?_
    refine lv_iadd hx hb dL_law_1178 ?_
    refine l_sld (k := i + 1) hx hb hXs hbl hbA hS (ixq (nI_ad rfl rfl)) (by omega) hL hz_1 dL_law_1179 ?_
    refine Wr.callV (rest := []) (c_X8_deadline l G hMD z1 k ez (by omega) (by rw [h1]; exact hy1) dy nh e3 (by omega) h2 hh) yk_X8_deadline E km_L_176 dL_law_1180 hG (hE.S hS hEA) hM (At.recv hG hM.1 rfl) rfl rfl hl.1 ⟨Nat.le_of_ble_eq_true rfl, Nat.le_of_ble_eq_true rfl⟩ ⟨show c0 + 0 + 0 ≤ 601024 by omega, show s0 + 0 + 0 ≤ 7293034 by omega⟩ (Nat.le_of_ble_eq_true rfl) hS hAB (fun v9 H4 locs hq hz8 hfr9 hS => ?_)
    obtain ⟨rfl, hM⟩ := hq
    have hDS := rf_D hp hDS hfr9
    have f_o := rf_o hp f_o hfr9
    refine lv_istore (lv' := [(6, .int (nI (addB da nh 5 dy))), (5, .int 0), (4, .int (nI i)), (3, .ref ou), (2, .ref (B 0)), (1, .ref x), (0, .ref b)]) hx hb dL_law_1183 hl (by decide) rfl (fun ls hl => ?_)
    refine lv_aload_n hx hb dL_law_1185 rfl (lv_at hl 4 rfl) ?_
    refine Rd.callV (rest := []) (c_X8_thrown l G) yk_X8_thrown E km_L_113 dL_law_1186 hG (hE.S hS hEA) hM (At.recv hG hM.1 rfl) rfl rfl hl.1 ⟨Nat.le_of_ble_eq_true rfl, Nat.le_of_ble_eq_true rfl⟩ ⟨show c0 + 0 + 0 ≤ 601024 by omega, show s0 + 0 + 0 ≤ 7293034 by omega⟩ (Nat.le_of_ble_eq_true rfl) ?_
    refine lv_ci (y := 0) rfl ?_
    refine lv_iload hx hb dL_law_1189 (lv_at hl 1 rfl) ?_
    refine lv_icmp_eq (tgt := 1196) hx hb dL_law_1191 (by decide) (fun c_1191 => ?_) (fun c_1191 => ?_)
    rotate_left
    · exact absurd c_1191 (by decide)
    refine lv_iload hx hb dL_law_1196 (lv_at hl 1 rfl) ?_
    refine lv_if_ne (tgt := 1213) hx hb dL_law_1198 (by decide) (fun c_1198 => ?_) (fun c_1198 => ?_)
    · exact absurd c_1198 (by decide)
    refine lv_aload_n hx hb dL_law_1201 rfl (lv_at hl 3 rfl) ?_
    refine lv_iconst (v := 0) hx hb dL_law_1202 rfl ?_
    refine g_lld 0 E hG f_o rfl (by omega) (by decide) dL_law_1203 ?_
    refine lv_iload hx hb dL_law_1204 (lv_at hl 0 rfl) ?_
    refine lv_i2l (v := (nI (addB da nh 5 dy)).toInt64) hx hb dL_law_1206 rfl ?_
    refine W.lcmp hx hb dL_law_1207 ?_
    refine lv_if_eq (tgt := 1213) hx hb dL_law_1208 (by decide) (fun c_1208 => ?_) (fun c_1208 => ?_)
    rotate_left
    · exact absurd ((lg_cmp_eq _ _).mpr (by rw [pk_uLs]; rw [hQ9])) c_1208
    refine lv_goto (tgt := 2029) hx hb dL_law_1213 (by decide) ?_
    exact hK H4 locs _ _ (show c0 + 0 + 0 ≤ c0 + 200 by omega) (show s0 + 0 + 0 ≤ s0 + 4000 by omega) (li_mk hb9 hu hBy hbb hO hM hDS f_o) hS ls (lv_sub hl [2, 3, 4, 5, 6] rfl)

set_option maxHeartbeats 4000000 in
set_option maxRecDepth 100000 in
/-- the law: dueDay -/
theorem lc_dueDay {p : Program} {l : Launch} {e : Env} {s : State} {m : MethodId} {below : List Frame} {meth : Method} {c : Code} {Q : State → Prop} {b L : Nat} {xs : Nat → Int32} {G : CG} {B : Nat → Nat} {x bu pa ou i c0 s0 : Nat} {H : Heap} {locs : List Loc} {ls : Array Slot} (hst : l.stackTraces = false) (E : CallFix p m c code 7 s ([.ref b] : List Value).toArray TB RL) (hG : KT G s) (hE : EF G s s.heap) (hXs : va_X b L xs s s.heap) (hbl : b < s.heap.size) (hL : L ≤ 3072) (hZ : EFA G s.heap.size) (hp : LAp G B x bu pa ou) (hnew : ∀ q, LAO B x bu pa ou q → s.heap.size ≤ q) (hi6 : i + 6 ≤ L) (hc9 : c0 + 200 ≤ 601024) (hs9 : s0 + 4000 ≤ 7293034) (hI : LI G B x bu pa ou H) (hS : va_S (fun q9 => s.heap.size ≤ q9) s.heap H locs) (hl : lv_has ls 7 [(4, .int (nI i)), (3, .ref ou), (2, .ref (B 0)), (1, .ref x), (0, .ref b)]) (hK : ∀ (H : Heap) (locs : List Loc) (cs sl : Nat), cs ≤ c0 + 200 → sl ≤ s0 + 4000 → LI G B x bu pa ou H → va_S (fun q9 => s.heap.size ≤ q9) s.heap H locs → ∀ ls : Array Slot, lv_has ls 7 [(4, .int (nI i)), (3, .ref ou), (2, .ref (B 0)), (1, .ref x), (0, .ref b)] → W p l e room_1 s m ([.ref b] : List Value).toArray below meth c H locs cs sl Q (F0 m 2029 ls [])) : W p l e room_1 s m ([.ref b] : List Value).toArray below meth c H locs c0 s0 Q (F0 m 1216 ls []) := by
  obtain ⟨b9, u, nc, np, nh, bk, es, bf, bb, da, hi, f, t, tl, ps, er, ea, ns, ne, se, dr, sk, hb9, hu, hBy, hbb, hO, hM, hDS, f_o⟩ := hI
  have hx := E.1
  have hb := E.2.1
  have hMD := hp.1
  have hDD := hp.2.1
  obtain ⟨⟨h0, hc0⟩, ⟨h1, hp0⟩, ⟨h2, hh⟩, ⟨td, htd, h3⟩, hCr, hPr, hHo, hIj⟩ := id hO
  have hEA : ∀ q9, s.heap.size ≤ q9 → EFA G q9 := fun q9 h9 => Nat.le_trans hZ h9
  have hbA : ¬ s.heap.size ≤ b := Nat.not_le.mpr hbl
  have hAo9 : ∀ q, q = ou → s.heap.size ≤ q := fun q h => hnew q (Or.inr (Or.inr (Or.inr (Or.inl h))))
  have hAB : ∀ q, MA B q → s.heap.size ≤ q := fun q h => hnew q (Or.inr (Or.inr (Or.inr (Or.inr h))))
  have hAO := lao_lt hM hDS f_o
  have hz9 : EFA G H.size := Nat.le_trans hZ hS.1
  have hou : ou < H.size := va_at.lt f_o
  obtain ⟨z1, hz_1⟩ : ∃ z, xs (i + 1) = z := ⟨_, rfl⟩
  rcases inV01 z1 0 (nI np - 1) with hy0 | hy1
  · refine lv_aload_n hx hb dL_law_1216 rfl (lv_at hl 3 rfl) ?_
    refine lv_aload_n hx hb dL_law_1217 rfl (lv_at hl 4 rfl) ?_
    refine lv_iload hx hb dL_law_1218 (lv_at hl 0 rfl) ?_
    refine lv_iconst (v := 1) hx hb dL_law_1220 rfl ?_
    refine lv_iadd hx hb dL_law_1221 ?_
    refine l_sld (k := i + 1) hx hb hXs hbl hbA hS (ixq (nI_ad rfl rfl)) (by omega) hL hz_1 dL_law_1222 ?_
    refine lv_aload_n hx hb dL_law_1223 rfl (lv_at hl 1 rfl) ?_
    refine WW.callS (rest := []) (w_L_dueDay_t1 l G z1 (P := DS G (LAO B x bu pa ou) x bu pa bb (nI b9) es bk da nc np nh u hi) (Tr.w (c_X7_dueDay_x l hst G z1 hy0 hp0) (fun _ h9 => ds_dk h9))) yk_L_dueDay E km_L_177 dL_law_1224 hG (hE.S hS hEA) ⟨hDS, _, hDS.1⟩ rfl rfl hl.1 ⟨Nat.le_of_ble_eq_true rfl, Nat.le_of_ble_eq_true rfl⟩ ⟨show c0 + 1 ≤ 601024 by omega, show s0 + 6 ≤ 7293034 by omega⟩ (Nat.le_of_ble_eq_true rfl) hS (fun q9 h9 => h9.elim) (fun v9 H1 locs hq hz8 hfr9 hS => ?_)
    obtain rfl := hq
    have hf9 : ∀ q : Nat, q < H.size → q ≠ ou → H1[q]? = H[q]? := fun q9 h9 _ => hfr9 q9 h9 (fun w9 => w9)
    have f_o := va_at.kept f_o (hfr9 _ (va_at.lt f_o) (fun w9 => w9))
    have hM := ro_M hp hM hf9
    have hDS := ro_D hp hDS hf9
    refine lv_istore (lv' := [(5, .int 1), (4, .int (nI i)), (3, .ref ou), (2, .ref (B 0)), (1, .ref x), (0, .ref b)]) hx hb dL_law_1227 hl (by decide) rfl (fun ls hl => ?_)
    refine lv_aload_n hx hb dL_law_1229 rfl (lv_at hl 3 rfl) ?_
    refine lv_aload_n hx hb dL_law_1230 rfl (lv_at hl 5 rfl) ?_
    refine lv_iload hx hb dL_law_1231 (lv_at hl 1 rfl) ?_
    refine lv_iconst (v := 1) hx hb dL_law_1233 rfl ?_
    refine lv_iadd hx hb dL_law_1234 ?_
    refine l_sld (k := i + 1) hx hb hXs hbl hbA hS (ixq (nI_ad rfl rfl)) (by omega) hL hz_1 dL_law_1235 ?_
    refine Wr.callV (rest := []) (c_X8_dueDay_x l G hMD z1 (by rw [h1]; exact hy0)) yk_X8_dueDay E km_L_179 dL_law_1236 hG (hE.S hS hEA) hM (At.recv hG hM.1 rfl) rfl rfl hl.1 ⟨Nat.le_of_ble_eq_true rfl, Nat.le_of_ble_eq_true rfl⟩ ⟨show c0 + 1 + 0 ≤ 601024 by omega, show s0 + 6 + 0 ≤ 7293034 by omega⟩ (Nat.le_of_ble_eq_true rfl) hS hAB (fun v9 H2 locs hq hz8 hfr9 hS => ?_)
    obtain ⟨rfl, hM⟩ := hq
    have hDS := rf_D hp hDS hfr9
    have f_o := rf_o hp f_o hfr9
    refine lv_istore (lv' := [(6, .int 0), (5, .int 1), (4, .int (nI i)), (3, .ref ou), (2, .ref (B 0)), (1, .ref x), (0, .ref b)]) hx hb dL_law_1239 hl (by decide) rfl (fun ls hl => ?_)
    refine lv_aload_n hx hb dL_law_1241 rfl (lv_at hl 4 rfl) ?_
    refine Rd.callV (rest := []) (c_X8_thrown l G) yk_X8_thrown E km_L_113 dL_law_1242 hG (hE.S hS hEA) hM (At.recv hG hM.1 rfl) rfl rfl hl.1 ⟨Nat.le_of_ble_eq_true rfl, Nat.le_of_ble_eq_true rfl⟩ ⟨show c0 + 1 + 0 ≤ 601024 by omega, show s0 + 6 + 0 ≤ 7293034 by omega⟩ (Nat.le_of_ble_eq_true rfl) ?_
    refine lv_ci (y := 1) rfl ?_
    refine lv_iload hx hb dL_law_1245 (lv_at hl 1 rfl) ?_
    refine lv_icmp_eq (tgt := 1252) hx hb dL_law_1247 (by decide) (fun c_1247 => ?_) (fun c_1247 => ?_)
    rotate_left
    · exact absurd c_1247 (by decide)
    refine lv_iload hx hb dL_law_1252 (lv_at hl 1 rfl) ?_
    refine lv_if_ne (tgt := 1269) hx hb dL_law_1254 (by decide) (fun c_1254 => ?_) (fun c_1254 => ?_)
    rotate_left
    · exact absurd c_1254 (by decide)
    refine lv_goto (tgt := 2029) hx hb dL_law_1269 (by decide) ?_
    exact hK H2 locs _ _ (show c0 + 1 + 0 ≤ c0 + 200 by omega) (show s0 + 6 + 0 ≤ s0 + 4000 by omega) (li_mk hb9 hu hBy hbb hO hM hDS f_o) hS ls (lv_sub hl [2, 3, 4, 5, 6] rfl)
  · obtain ⟨k, hk9, ez⟩ := ix_of (by omega) hy1
    obtain ⟨cr, dy, am, fa, si, e1, e2, e3, e4, e5, e6, e7, e8, e9, e10, e11⟩ := hPr k hk9
    obtain ⟨ex1, pe1, te, nd, g1, g2, g3, g4, g5, g6, g7, g8, g9, g10⟩ := hCr cr e2
    refine lv_aload_n hx hb dL_law_1216 rfl (lv_at hl 3 rfl) ?_
    refine lv_aload_n hx hb dL_law_1217 rfl (lv_at hl 4 rfl) ?_
    refine lv_iload hx hb dL_law_1218 (lv_at hl 0 rfl) ?_
    refine lv_iconst (v := 1) hx hb dL_law_1220 rfl ?_
    refine lv_iadd hx hb dL_law_1221 ?_
    refine l_sld (k := i + 1) hx hb hXs hbl hbA hS (ixq (nI_ad rfl rfl)) (by omega) hL hz_1 dL_law_1222 ?_
    refine lv_aload_n hx hb dL_law_1223 rfl (lv_at hl 1 rfl) ?_
    refine WW.callS (rest := []) (w_L_dueDay l G z1 (Q := (fun r9 _ => r9 = dueD da nh k)) (f := f) (Rd.w (D := DS G (LAO B x bu pa ou) x bu pa bb (nI b9) es bk da nc np nh u hi) (c_X7_dueDay l G z1 k ez hk9 hp0) (fun _ h9 => ds_dk h9)) (fun w9 => w9) (fun _ _ _ _ _ h9 => h9)) yk_L_dueDay E km_L_177 dL_law_1224 hG (hE.S hS hEA) ⟨hDS, ⟨_, hDS.1⟩, f_o⟩ rfl rfl hl.1 ⟨Nat.le_of_ble_eq_true rfl, Nat.le_of_ble_eq_true rfl⟩ ⟨show c0 + 0 ≤ 601024 by omega, show s0 + 0 ≤ 7293034 by omega⟩ (Nat.le_of_ble_eq_true rfl) hS (fun q9 h9 => h9.elim (fun w9 => w9.elim) (hAo9 q9)) (fun v9 H3 locs hq hz8 hfr9 hS => ?_)
    obtain ⟨rfl, r, hQ9, f_o⟩ := hq
    have hf9 : ∀ q : Nat, q < H.size → q ≠ ou → H3[q]? = H[q]? := fun q9 h9 h8 => hfr9 q9 h9 (fun z9 => z9.elim (fun w9 => w9.elim) h8)
    have hM := ro_M hp hM hf9
    have hDS := ro_D hp hDS hf9
    refine lv_istore (lv' := [(5, .int 0), (4, .int (nI i)), (3, .ref ou), (2, .ref (B 0)), (1, .ref x), (0, .ref b)]) hx hb dL_law_1227 hl (by decide) rfl (fun ls hl => ?_)
    refine lv_aload_n hx hb dL_law_1229 rfl (lv_at hl 3 rfl) ?_
    refine lv_aload_n hx hb dL_law_1230 rfl (lv_at hl 5 rfl) ?_
    refine lv_iload hx hb dL_law_1231 (lv_at hl 1 rfl) ?_
    refine lv_iconst (v := 1) hx hb dL_law_1233 rfl ?_
    refine lv_iadd hx hb dL_law_1234 ?_
    refine l_sld (k := i + 1) hx hb hXs hbl hbA hS (ixq (nI_ad rfl rfl)) (by omega) hL hz_1 dL_law_1235 ?_
    refine Wr.callV (rest := []) (c_X8_dueDay l G hMD z1 k ez (by omega) (by rw [h1]; exact hy1) nh cr si te e1 (by omega) e10 (by omega) g5 (by omega) h2 hh) yk_X8_dueDay E km_L_179 dL_law_1236 hG (hE.S hS hEA) hM (At.recv hG hM.1 rfl) rfl rfl hl.1 ⟨Nat.le_of_ble_eq_true rfl, Nat.le_of_ble_eq_true rfl⟩ ⟨show c0 + 0 + 0 ≤ 601024 by omega, show s0 + 0 + 0 ≤ 7293034 by omega⟩ (Nat.le_of_ble_eq_true rfl) hS hAB (fun v9 H4 locs hq hz8 hfr9 hS => ?_)
    obtain ⟨rfl, hM⟩ := hq
    have hDS := rf_D hp hDS hfr9
    have f_o := rf_o hp f_o hfr9
    refine lv_istore (lv' := [(6, .int (dueV da nh k si te)), (5, .int 0), (4, .int (nI i)), (3, .ref ou), (2, .ref (B 0)), (1, .ref x), (0, .ref b)]) hx hb dL_law_1239 hl (by decide) rfl (fun ls hl => ?_)
    refine lv_aload_n hx hb dL_law_1241 rfl (lv_at hl 4 rfl) ?_
    refine Rd.callV (rest := []) (c_X8_thrown l G) yk_X8_thrown E km_L_113 dL_law_1242 hG (hE.S hS hEA) hM (At.recv hG hM.1 rfl) rfl rfl hl.1 ⟨Nat.le_of_ble_eq_true rfl, Nat.le_of_ble_eq_true rfl⟩ ⟨show c0 + 0 + 0 ≤ 601024 by omega, show s0 + 0 + 0 ≤ 7293034 by omega⟩ (Nat.le_of_ble_eq_true rfl) ?_
    refine lv_ci (y := 0) rfl ?_
    refine lv_iload hx hb dL_law_1245 (lv_at hl 1 rfl) ?_
    refine lv_icmp_eq (tgt := 1252) hx hb dL_law_1247 (by decide) (fun c_1247 => ?_) (fun c_1247 => ?_)
    rotate_left
    · exact absurd c_1247 (by decide)
    refine lv_iload hx hb dL_law_1252 (lv_at hl 1 rfl) ?_
    refine lv_if_ne (tgt := 1269) hx hb dL_law_1254 (by decide) (fun c_1254 => ?_) (fun c_1254 => ?_)
    · exact absurd c_1254 (by decide)
    refine lv_aload_n hx hb dL_law_1257 rfl (lv_at hl 3 rfl) ?_
    refine lv_iconst (v := 0) hx hb dL_law_1258 rfl ?_
    refine g_lld 0 E hG f_o rfl (by omega) (by decide) dL_law_1259 ?_
    refine lv_iload hx hb dL_law_1260 (lv_at hl 0 rfl) ?_
    refine lv_i2l (v := (dueV da nh k si te).toInt64) hx hb dL_law_1262 rfl ?_
    refine W.lcmp hx hb dL_law_1263 ?_
    refine lv_if_eq (tgt := 1269) hx hb dL_law_1264 (by decide) (fun c_1264 => ?_) (fun c_1264 => ?_)
    rotate_left
    · exact absurd ((lg_cmp_eq _ _).mpr (by rw [pk_uLs]; rw [hQ9, dueV_D e1 (by omega) e10 (by omega) g5 (by omega)])) c_1264
    refine lv_goto (tgt := 2029) hx hb dL_law_1269 (by decide) ?_
    exact hK H4 locs _ _ (show c0 + 0 + 0 ≤ c0 + 200 by omega) (show s0 + 0 + 0 ≤ s0 + 4000 by omega) (li_mk hb9 hu hBy hbb hO hM hDS f_o) hS ls (lv_sub hl [2, 3, 4, 5, 6] rfl)

set_option maxHeartbeats 4000000 in
set_option maxRecDepth 100000 in
/-- the law: bound -/
theorem lc_bound {p : Program} {l : Launch} {e : Env} {s : State} {m : MethodId} {below : List Frame} {meth : Method} {c : Code} {Q : State → Prop} {b L : Nat} {xs : Nat → Int32} {G : CG} {B : Nat → Nat} {x bu pa ou i c0 s0 : Nat} {H : Heap} {locs : List Loc} {ls : Array Slot} (hst : l.stackTraces = false) (E : CallFix p m c code 7 s ([.ref b] : List Value).toArray TB RL) (hG : KT G s) (hE : EF G s s.heap) (hXs : va_X b L xs s s.heap) (hbl : b < s.heap.size) (hL : L ≤ 3072) (hZ : EFA G s.heap.size) (hp : LAp G B x bu pa ou) (hnew : ∀ q, LAO B x bu pa ou q → s.heap.size ≤ q) (hi6 : i + 6 ≤ L) (hc9 : c0 + 200 ≤ 601024) (hs9 : s0 + 4000 ≤ 7293034) (hI : LI G B x bu pa ou H) (hS : va_S (fun q9 => s.heap.size ≤ q9) s.heap H locs) (hl : lv_has ls 7 [(4, .int (nI i)), (3, .ref ou), (2, .ref (B 0)), (1, .ref x), (0, .ref b)]) (hK : ∀ (H : Heap) (locs : List Loc) (cs sl : Nat), cs ≤ c0 + 200 → sl ≤ s0 + 4000 → LI G B x bu pa ou H → va_S (fun q9 => s.heap.size ≤ q9) s.heap H locs → ∀ ls : Array Slot, lv_has ls 7 [(4, .int (nI i)), (3, .ref ou), (2, .ref (B 0)), (1, .ref x), (0, .ref b)] → W p l e room_1 s m ([.ref b] : List Value).toArray below meth c H locs cs sl Q (F0 m 2029 ls [])) : W p l e room_1 s m ([.ref b] : List Value).toArray below meth c H locs c0 s0 Q (F0 m 684 ls []) := by
  obtain ⟨b9, u, nc, np, nh, bk, es, bf, bb, da, hi, f, t, tl, ps, er, ea, ns, ne, se, dr, sk, hb9, hu, hBy, hbb, hO, hM, hDS, f_o⟩ := hI
  have hx := E.1
  have hb := E.2.1
  have hMD := hp.1
  have hDD := hp.2.1
  obtain ⟨⟨h0, hc0⟩, ⟨h1, hp0⟩, ⟨h2, hh⟩, ⟨td, htd, h3⟩, hCr, hPr, hHo, hIj⟩ := id hO
  have hEA : ∀ q9, s.heap.size ≤ q9 → EFA G q9 := fun q9 h9 => Nat.le_trans hZ h9
  have hbA : ¬ s.heap.size ≤ b := Nat.not_le.mpr hbl
  have hAo9 : ∀ q, q = ou → s.heap.size ≤ q := fun q h => hnew q (Or.inr (Or.inr (Or.inr (Or.inl h))))
  have hAB : ∀ q, MA B q → s.heap.size ≤ q := fun q h => hnew q (Or.inr (Or.inr (Or.inr (Or.inr h))))
  have hAO := lao_lt hM hDS f_o
  have hz9 : EFA G H.size := Nat.le_trans hZ hS.1
  have hou : ou < H.size := va_at.lt f_o
  obtain ⟨z1, hz_1⟩ : ∃ z, xs (i + 1) = z := ⟨_, rfl⟩
  obtain ⟨z2, hz_2⟩ : ∃ z, xs (i + 2) = z := ⟨_, rfl⟩
  by_cases hz2 : z2 = 0
  · rcases inV01 z1 0 (nI nc - 1) with hy0 | hy1
    · refine lv_aload_n hx hb dL_law_684 rfl (lv_at hl 3 rfl) ?_
      refine lv_aload_n hx hb dL_law_685 rfl (lv_at hl 4 rfl) ?_
      refine lv_iload hx hb dL_law_686 (lv_at hl 0 rfl) ?_
      refine lv_iconst (v := 1) hx hb dL_law_688 rfl ?_
      refine lv_iadd hx hb dL_law_689 ?_
      refine l_sld (k := i + 1) hx hb hXs hbl hbA hS (ixq (nI_ad rfl rfl)) (by omega) hL hz_1 dL_law_690 ?_
      refine lv_aload_n hx hb dL_law_691 rfl (lv_at hl 4 rfl) ?_
      refine lv_iload hx hb dL_law_692 (lv_at hl 0 rfl) ?_
      refine lv_iconst (v := 2) hx hb dL_law_694 rfl ?_
      refine lv_iadd hx hb dL_law_695 ?_
      refine l_sld (k := i + 2) hx hb hXs hbl hbA hS (ixq (nI_ad rfl rfl)) (by omega) hL hz_2 dL_law_696 ?_
      refine lv_if_eq (tgt := 704) hx hb dL_law_697 (by decide) (fun c_697 => ?_) (fun c_697 => ?_)
      rotate_left
      · exact (by rw [hz2] at c_697; exact absurd c_697 (by decide))
      refine lv_iconst (v := 0) hx hb dL_law_704 rfl ?_
      refine lv_aload_n hx hb dL_law_705 rfl (lv_at hl 1 rfl) ?_
      refine WW.callS (rest := []) (w_L_bound_t1 l G z1 0 (P := DS G (LAO B x bu pa ou) x bu pa bb (nI b9) es bk da nc np nh u hi) (Tr.w (c_X7_bound_x l hst G z1 hy0 hc0 0) (fun _ h9 => ds_dk h9))) yk_L_bound E km_L_149 dL_law_706 hG (hE.S hS hEA) ⟨hDS, _, hDS.1⟩ rfl rfl hl.1 ⟨Nat.le_of_ble_eq_true rfl, Nat.le_of_ble_eq_true rfl⟩ ⟨show c0 + 1 ≤ 601024 by omega, show s0 + 6 ≤ 7293034 by omega⟩ (Nat.le_of_ble_eq_true rfl) hS (fun q9 h9 => h9.elim) (fun v9 H1 locs hq hz8 hfr9 hS => ?_)
      obtain rfl := hq
      have hf9 : ∀ q : Nat, q < H.size → q ≠ ou → H1[q]? = H[q]? := fun q9 h9 _ => hfr9 q9 h9 (fun w9 => w9)
      have f_o := va_at.kept f_o (hfr9 _ (va_at.lt f_o) (fun w9 => w9))
      have hM := ro_M hp hM hf9
      have hDS := ro_D hp hDS hf9
      refine lv_istore (lv' := [(5, .int 1), (4, .int (nI i)), (3, .ref ou), (2, .ref (B 0)), (1, .ref x), (0, .ref b)]) hx hb dL_law_709 hl (by decide) rfl (fun ls hl => ?_)
      refine lv_aload_n hx hb dL_law_711 rfl (lv_at hl 3 rfl) ?_
      refine lv_aload_n hx hb dL_law_712 rfl (lv_at hl 5 rfl) ?_
      refine lv_iload hx hb dL_law_713 (lv_at hl 1 rfl) ?_
      refine lv_iconst (v := 1) hx hb dL_law_715 rfl ?_
      refine lv_iadd hx hb dL_law_716 ?_
      refine l_sld (k := i + 1) hx hb hXs hbl hbA hS (ixq (nI_ad rfl rfl)) (by omega) hL hz_1 dL_law_717 ?_
      refine lv_aload_n hx hb dL_law_718 rfl (lv_at hl 5 rfl) ?_
      refine lv_iload hx hb dL_law_719 (lv_at hl 1 rfl) ?_
      refine lv_iconst (v := 2) hx hb dL_law_721 rfl ?_
      refine lv_iadd hx hb dL_law_722 ?_
      refine l_sld (k := i + 2) hx hb hXs hbl hbA hS (ixq (nI_ad rfl rfl)) (by omega) hL hz_2 dL_law_723 ?_
      refine lv_if_eq (tgt := 731) hx hb dL_law_724 (by decide) (fun c_724 => ?_) (fun c_724 => ?_)
      rotate_left
      · exact (by rw [hz2] at c_724; exact absurd c_724 (by decide))
      refine lv_iconst (v := 0) hx hb dL_law_731 rfl ?_
      refine Wr.callV (rest := []) (c_X8_bound_x l G hMD z1 (by rw [h0]; exact hy0) 0) yk_X8_bound E km_L_152 dL_law_732 hG (hE.S hS hEA) hM (At.recv hG hM.1 rfl) rfl rfl hl.1 ⟨Nat.le_of_ble_eq_true rfl, Nat.le_of_ble_eq_true rfl⟩ ⟨show c0 + 1 + 0 ≤ 601024 by omega, show s0 + 6 + 0 ≤ 7293034 by omega⟩ (Nat.le_of_ble_eq_true rfl) hS hAB (fun v9 H2 locs hq hz8 hfr9 hS => ?_)
      obtain ⟨rfl, hM⟩ := hq
      have hDS := rf_D hp hDS hfr9
      have f_o := rf_o hp f_o hfr9
      refine lv_istore (lv' := [(6, .int 0), (5, .int 1), (4, .int (nI i)), (3, .ref ou), (2, .ref (B 0)), (1, .ref x), (0, .ref b)]) hx hb dL_law_735 hl (by decide) rfl (fun ls hl => ?_)
      refine lv_aload_n hx hb dL_law_737 rfl (lv_at hl 4 rfl) ?_
      refine Rd.callV (rest := []) (c_X8_thrown l G) yk_X8_thrown E km_L_113 dL_law_738 hG (hE.S hS hEA) hM (At.recv hG hM.1 rfl) rfl rfl hl.1 ⟨Nat.le_of_ble_eq_true rfl, Nat.le_of_ble_eq_true rfl⟩ ⟨show c0 + 1 + 0 ≤ 601024 by omega, show s0 + 6 + 0 ≤ 7293034 by omega⟩ (Nat.le_of_ble_eq_true rfl) ?_
      refine lv_ci (y := 1) rfl ?_
      refine lv_iload hx hb dL_law_741 (lv_at hl 1 rfl) ?_
      refine lv_icmp_eq (tgt := 748) hx hb dL_law_743 (by decide) (fun c_743 => ?_) (fun c_743 => ?_)
      rotate_left
      · exact absurd c_743 (by decide)
      refine lv_iload hx hb dL_law_748 (lv_at hl 1 rfl) ?_
      refine lv_if_ne (tgt := 765) hx hb dL_law_750 (by decide) (fun c_750 => ?_) (fun c_750 => ?_)
      rotate_left
      · exact absurd c_750 (by decide)
      refine lv_goto (tgt := 2029) hx hb dL_law_765 (by decide) ?_
      exact hK H2 locs _ _ (show c0 + 1 + 0 ≤ c0 + 200 by omega) (show s0 + 6 + 0 ≤ s0 + 4000 by omega) (li_mk hb9 hu hBy hbb hO hM hDS f_o) hS ls (lv_sub hl [2, 3, 4, 5, 6] rfl)
    · obtain ⟨k, hk9, ez⟩ := ix_of (by omega) hy1
      refine lv_aload_n hx hb dL_law_684 rfl (lv_at hl 3 rfl) ?_
      refine lv_aload_n hx hb dL_law_685 rfl (lv_at hl 4 rfl) ?_
      refine lv_iload hx hb dL_law_686 (lv_at hl 0 rfl) ?_
      refine lv_iconst (v := 1) hx hb dL_law_688 rfl ?_
      refine lv_iadd hx hb dL_law_689 ?_
      refine l_sld (k := i + 1) hx hb hXs hbl hbA hS (ixq (nI_ad rfl rfl)) (by omega) hL hz_1 dL_law_690 ?_
      refine lv_aload_n hx hb dL_law_691 rfl (lv_at hl 4 rfl) ?_
      refine lv_iload hx hb dL_law_692 (lv_at hl 0 rfl) ?_
      refine lv_iconst (v := 2) hx hb dL_law_694 rfl ?_
      refine lv_iadd hx hb dL_law_695 ?_
      refine l_sld (k := i + 2) hx hb hXs hbl hbA hS (ixq (nI_ad rfl rfl)) (by omega) hL hz_2 dL_law_696 ?_
      refine lv_if_eq (tgt := 704) hx hb dL_law_697 (by decide) (fun c_697 => ?_) (fun c_697 => ?_)
      rotate_left
      · exact (by rw [hz2] at c_697; exact absurd c_697 (by decide))
      refine lv_iconst (v := 0) hx hb dL_law_704 rfl ?_
      refine lv_aload_n hx hb dL_law_705 rfl (lv_at hl 1 rfl) ?_
      refine WW.callS (rest := []) (w_L_bound l G z1 0 (Q := (fun r9 _ => r9 = (if (0 : Int32) = 0 then leastV da k else mostV da k))) (f := f) (Rd.w (D := DS G (LAO B x bu pa ou) x bu pa bb (nI b9) es bk da nc np nh u hi) (c_X7_bound l G z1 k ez hk9 hc0 0) (fun _ h9 => ds_dk h9)) (fun w9 => w9) (fun _ _ _ _ _ h9 => h9)) yk_L_bound E km_L_149 dL_law_706 hG (hE.S hS hEA) ⟨hDS, ⟨_, hDS.1⟩, f_o⟩ rfl rfl hl.1 ⟨Nat.le_of_ble_eq_true rfl, Nat.le_of_ble_eq_true rfl⟩ ⟨show c0 + 0 ≤ 601024 by omega, show s0 + 0 ≤ 7293034 by omega⟩ (Nat.le_of_ble_eq_true rfl) hS (fun q9 h9 => h9.elim (fun w9 => w9.elim) (hAo9 q9)) (fun v9 H3 locs hq hz8 hfr9 hS => ?_)
      obtain ⟨rfl, r, hQ9, f_o⟩ := hq
      have hf9 : ∀ q : Nat, q < H.size → q ≠ ou → H3[q]? = H[q]? := fun q9 h9 h8 => hfr9 q9 h9 (fun z9 => z9.elim (fun w9 => w9.elim) h8)
      have hM := ro_M hp hM hf9
      have hDS := ro_D hp hDS hf9
      refine lv_istore (lv' := [(5, .int 0), (4, .int (nI i)), (3, .ref ou), (2, .ref (B 0)), (1, .ref x), (0, .ref b)]) hx hb dL_law_709 hl (by decide) rfl (fun ls hl => ?_)
      refine lv_aload_n hx hb dL_law_711 rfl (lv_at hl 3 rfl) ?_
      refine lv_aload_n hx hb dL_law_712 rfl (lv_at hl 5 rfl) ?_
      refine lv_iload hx hb dL_law_713 (lv_at hl 1 rfl) ?_
      refine lv_iconst (v := 1) hx hb dL_law_715 rfl ?_
      refine lv_iadd hx hb dL_law_716 ?_
      refine l_sld (k := i + 1) hx hb hXs hbl hbA hS (ixq (nI_ad rfl rfl)) (by omega) hL hz_1 dL_law_717 ?_
      refine lv_aload_n hx hb dL_law_718 rfl (lv_at hl 5 rfl) ?_
      refine lv_iload hx hb dL_law_719 (lv_at hl 1 rfl) ?_
      refine lv_iconst (v := 2) hx hb dL_law_721 rfl ?_
      refine lv_iadd hx hb dL_law_722 ?_
      refine l_sld (k := i + 2) hx hb hXs hbl hbA hS (ixq (nI_ad rfl rfl)) (by omega) hL hz_2 dL_law_723 ?_
      refine lv_if_eq (tgt := 731) hx hb dL_law_724 (by decide) (fun c_724 => ?_) (fun c_724 => ?_)
      rotate_left
      · exact (by rw [hz2] at c_724; exact absurd c_724 (by decide))
      refine lv_iconst (v := 0) hx hb dL_law_731 rfl ?_
      refine Wr.callV (rest := []) (c_X8_bound l G hMD z1 k ez (by omega) (by rw [h0]; exact hy1) 0) yk_X8_bound E km_L_152 dL_law_732 hG (hE.S hS hEA) hM (At.recv hG hM.1 rfl) rfl rfl hl.1 ⟨Nat.le_of_ble_eq_true rfl, Nat.le_of_ble_eq_true rfl⟩ ⟨show c0 + 0 + 0 ≤ 601024 by omega, show s0 + 0 + 0 ≤ 7293034 by omega⟩ (Nat.le_of_ble_eq_true rfl) hS hAB (fun v9 H4 locs hq hz8 hfr9 hS => ?_)
      obtain ⟨rfl, hM⟩ := hq
      have hDS := rf_D hp hDS hfr9
      have f_o := rf_o hp f_o hfr9
      refine lv_istore (lv' := [(6, .int (if (0 : Int32) = 0 then leastV da k else mostV da k)), (5, .int 0), (4, .int (nI i)), (3, .ref ou), (2, .ref (B 0)), (1, .ref x), (0, .ref b)]) hx hb dL_law_735 hl (by decide) rfl (fun ls hl => ?_)
      refine lv_aload_n hx hb dL_law_737 rfl (lv_at hl 4 rfl) ?_
      refine Rd.callV (rest := []) (c_X8_thrown l G) yk_X8_thrown E km_L_113 dL_law_738 hG (hE.S hS hEA) hM (At.recv hG hM.1 rfl) rfl rfl hl.1 ⟨Nat.le_of_ble_eq_true rfl, Nat.le_of_ble_eq_true rfl⟩ ⟨show c0 + 0 + 0 ≤ 601024 by omega, show s0 + 0 + 0 ≤ 7293034 by omega⟩ (Nat.le_of_ble_eq_true rfl) ?_
      refine lv_ci (y := 0) rfl ?_
      refine lv_iload hx hb dL_law_741 (lv_at hl 1 rfl) ?_
      refine lv_icmp_eq (tgt := 748) hx hb dL_law_743 (by decide) (fun c_743 => ?_) (fun c_743 => ?_)
      rotate_left
      · exact absurd c_743 (by decide)
      refine lv_iload hx hb dL_law_748 (lv_at hl 1 rfl) ?_
      refine lv_if_ne (tgt := 765) hx hb dL_law_750 (by decide) (fun c_750 => ?_) (fun c_750 => ?_)
      · exact absurd c_750 (by decide)
      refine lv_aload_n hx hb dL_law_753 rfl (lv_at hl 3 rfl) ?_
      refine lv_iconst (v := 0) hx hb dL_law_754 rfl ?_
      refine g_lld 0 E hG f_o rfl (by omega) (by decide) dL_law_755 ?_
      refine lv_iload hx hb dL_law_756 (lv_at hl 0 rfl) ?_
      refine lv_i2l (v := (if (0 : Int32) = 0 then leastV da k else mostV da k).toInt64) hx hb dL_law_758 rfl ?_
      refine W.lcmp hx hb dL_law_759 ?_
      refine lv_if_eq (tgt := 765) hx hb dL_law_760 (by decide) (fun c_760 => ?_) (fun c_760 => ?_)
      rotate_left
      · exact absurd ((lg_cmp_eq _ _).mpr (by rw [pk_uLs]; rw [hQ9])) c_760
      refine lv_goto (tgt := 2029) hx hb dL_law_765 (by decide) ?_
      exact hK H4 locs _ _ (show c0 + 0 + 0 ≤ c0 + 200 by omega) (show s0 + 0 + 0 ≤ s0 + 4000 by omega) (li_mk hb9 hu hBy hbb hO hM hDS f_o) hS ls (lv_sub hl [2, 3, 4, 5, 6] rfl)
  · rcases inV01 z1 0 (nI nc - 1) with hy0 | hy1
    · refine lv_aload_n hx hb dL_law_684 rfl (lv_at hl 3 rfl) ?_
      refine lv_aload_n hx hb dL_law_685 rfl (lv_at hl 4 rfl) ?_
      refine lv_iload hx hb dL_law_686 (lv_at hl 0 rfl) ?_
      refine lv_iconst (v := 1) hx hb dL_law_688 rfl ?_
      refine lv_iadd hx hb dL_law_689 ?_
      refine l_sld (k := i + 1) hx hb hXs hbl hbA hS (ixq (nI_ad rfl rfl)) (by omega) hL hz_1 dL_law_690 ?_
      refine lv_aload_n hx hb dL_law_691 rfl (lv_at hl 4 rfl) ?_
      refine lv_iload hx hb dL_law_692 (lv_at hl 0 rfl) ?_
      refine lv_iconst (v := 2) hx hb dL_law_694 rfl ?_
      refine lv_iadd hx hb dL_law_695 ?_
      refine l_sld (k := i + 2) hx hb hXs hbl hbA hS (ixq (nI_ad rfl rfl)) (by omega) hL hz_2 dL_law_696 ?_
      refine lv_if_eq (tgt := 704) hx hb dL_law_697 (by decide) (fun c_697 => ?_) (fun c_697 => ?_)
      · exact absurd c_697 hz2
      refine lv_iconst (v := 1) hx hb dL_law_700 rfl ?_
      refine lv_goto (tgt := 705) hx hb dL_law_701 (by decide) ?_
      refine lv_aload_n hx hb dL_law_705 rfl (lv_at hl 1 rfl) ?_
      refine WW.callS (rest := []) (w_L_bound_t1 l G z1 1 (P := DS G (LAO B x bu pa ou) x bu pa bb (nI b9) es bk da nc np nh u hi) (Tr.w (c_X7_bound_x l hst G z1 hy0 hc0 1) (fun _ h9 => ds_dk h9))) yk_L_bound E km_L_149 dL_law_706 hG (hE.S hS hEA) ⟨hDS, _, hDS.1⟩ rfl rfl hl.1 ⟨Nat.le_of_ble_eq_true rfl, Nat.le_of_ble_eq_true rfl⟩ ⟨show c0 + 1 ≤ 601024 by omega, show s0 + 6 ≤ 7293034 by omega⟩ (Nat.le_of_ble_eq_true rfl) hS (fun q9 h9 => h9.elim) (fun v9 H5 locs hq hz8 hfr9 hS => ?_)
      obtain rfl := hq
      have hf9 : ∀ q : Nat, q < H.size → q ≠ ou → H5[q]? = H[q]? := fun q9 h9 _ => hfr9 q9 h9 (fun w9 => w9)
      have f_o := va_at.kept f_o (hfr9 _ (va_at.lt f_o) (fun w9 => w9))
      have hM := ro_M hp hM hf9
      have hDS := ro_D hp hDS hf9
      refine lv_istore (lv' := [(5, .int 1), (4, .int (nI i)), (3, .ref ou), (2, .ref (B 0)), (1, .ref x), (0, .ref b)]) hx hb dL_law_709 hl (by decide) rfl (fun ls hl => ?_)
      refine lv_aload_n hx hb dL_law_711 rfl (lv_at hl 3 rfl) ?_
      refine lv_aload_n hx hb dL_law_712 rfl (lv_at hl 5 rfl) ?_
      refine lv_iload hx hb dL_law_713 (lv_at hl 1 rfl) ?_
      refine lv_iconst (v := 1) hx hb dL_law_715 rfl ?_
      refine lv_iadd hx hb dL_law_716 ?_
      refine l_sld (k := i + 1) hx hb hXs hbl hbA hS (ixq (nI_ad rfl rfl)) (by omega) hL hz_1 dL_law_717 ?_
      refine lv_aload_n hx hb dL_law_718 rfl (lv_at hl 5 rfl) ?_
      refine lv_iload hx hb dL_law_719 (lv_at hl 1 rfl) ?_
      refine lv_iconst (v := 2) hx hb dL_law_721 rfl ?_
      refine lv_iadd hx hb dL_law_722 ?_
      refine l_sld (k := i + 2) hx hb hXs hbl hbA hS (ixq (nI_ad rfl rfl)) (by omega) hL hz_2 dL_law_723 ?_
      refine lv_if_eq (tgt := 731) hx hb dL_law_724 (by decide) (fun c_724 => ?_) (fun c_724 => ?_)
      · exact absurd c_724 hz2
      refine lv_iconst (v := 1) hx hb dL_law_727 rfl ?_
      refine lv_goto (tgt := 732) hx hb dL_law_728 (by decide) ?_
      refine Wr.callV (rest := []) (c_X8_bound_x l G hMD z1 (by rw [h0]; exact hy0) 1) yk_X8_bound E km_L_152 dL_law_732 hG (hE.S hS hEA) hM (At.recv hG hM.1 rfl) rfl rfl hl.1 ⟨Nat.le_of_ble_eq_true rfl, Nat.le_of_ble_eq_true rfl⟩ ⟨show c0 + 1 + 0 ≤ 601024 by omega, show s0 + 6 + 0 ≤ 7293034 by omega⟩ (Nat.le_of_ble_eq_true rfl) hS hAB (fun v9 H6 locs hq hz8 hfr9 hS => ?_)
      obtain ⟨rfl, hM⟩ := hq
      have hDS := rf_D hp hDS hfr9
      have f_o := rf_o hp f_o hfr9
      refine lv_istore (lv' := [(6, .int 0), (5, .int 1), (4, .int (nI i)), (3, .ref ou), (2, .ref (B 0)), (1, .ref x), (0, .ref b)]) hx hb dL_law_735 hl (by decide) rfl (fun ls hl => ?_)
      refine lv_aload_n hx hb dL_law_737 rfl (lv_at hl 4 rfl) ?_
      refine Rd.callV (rest := []) (c_X8_thrown l G) yk_X8_thrown E km_L_113 dL_law_738 hG (hE.S hS hEA) hM (At.recv hG hM.1 rfl) rfl rfl hl.1 ⟨Nat.le_of_ble_eq_true rfl, Nat.le_of_ble_eq_true rfl⟩ ⟨show c0 + 1 + 0 ≤ 601024 by omega, show s0 + 6 + 0 ≤ 7293034 by omega⟩ (Nat.le_of_ble_eq_true rfl) ?_
      refine lv_ci (y := 1) rfl ?_
      refine lv_iload hx hb dL_law_741 (lv_at hl 1 rfl) ?_
      refine lv_icmp_eq (tgt := 748) hx hb dL_law_743 (by decide) (fun c_743 => ?_) (fun c_743 => ?_)
      rotate_left
      · exact absurd c_743 (by decide)
      refine lv_iload hx hb dL_law_748 (lv_at hl 1 rfl) ?_
      refine lv_if_ne (tgt := 765) hx hb dL_law_750 (by decide) (fun c_750 => ?_) (fun c_750 => ?_)
      rotate_left
      · exact absurd c_750 (by decide)
      refine lv_goto (tgt := 2029) hx hb dL_law_765 (by decide) ?_
      exact hK H6 locs _ _ (show c0 + 1 + 0 ≤ c0 + 200 by omega) (show s0 + 6 + 0 ≤ s0 + 4000 by omega) (li_mk hb9 hu hBy hbb hO hM hDS f_o) hS ls (lv_sub hl [2, 3, 4, 5, 6] rfl)
    · obtain ⟨k, hk9, ez⟩ := ix_of (by omega) hy1
      refine lv_aload_n hx hb dL_law_684 rfl (lv_at hl 3 rfl) ?_
      refine lv_aload_n hx hb dL_law_685 rfl (lv_at hl 4 rfl) ?_
      refine lv_iload hx hb dL_law_686 (lv_at hl 0 rfl) ?_
      refine lv_iconst (v := 1) hx hb dL_law_688 rfl ?_
      refine lv_iadd hx hb dL_law_689 ?_
      refine l_sld (k := i + 1) hx hb hXs hbl hbA hS (ixq (nI_ad rfl rfl)) (by omega) hL hz_1 dL_law_690 ?_
      refine lv_aload_n hx hb dL_law_691 rfl (lv_at hl 4 rfl) ?_
      refine lv_iload hx hb dL_law_692 (lv_at hl 0 rfl) ?_
      refine lv_iconst (v := 2) hx hb dL_law_694 rfl ?_
      refine lv_iadd hx hb dL_law_695 ?_
      refine l_sld (k := i + 2) hx hb hXs hbl hbA hS (ixq (nI_ad rfl rfl)) (by omega) hL hz_2 dL_law_696 ?_
      refine lv_if_eq (tgt := 704) hx hb dL_law_697 (by decide) (fun c_697 => ?_) (fun c_697 => ?_)
      · exact absurd c_697 hz2
      refine lv_iconst (v := 1) hx hb dL_law_700 rfl ?_
      refine lv_goto (tgt := 705) hx hb dL_law_701 (by decide) ?_
      refine lv_aload_n hx hb dL_law_705 rfl (lv_at hl 1 rfl) ?_
      refine WW.callS (rest := []) (w_L_bound l G z1 1 (Q := (fun r9 _ => r9 = (if (1 : Int32) = 0 then leastV da k else mostV da k))) (f := f) (Rd.w (D := DS G (LAO B x bu pa ou) x bu pa bb (nI b9) es bk da nc np nh u hi) (c_X7_bound l G z1 k ez hk9 hc0 1) (fun _ h9 => ds_dk h9)) (fun w9 => w9) (fun _ _ _ _ _ h9 => h9)) yk_L_bound E km_L_149 dL_law_706 hG (hE.S hS hEA) ⟨hDS, ⟨_, hDS.1⟩, f_o⟩ rfl rfl hl.1 ⟨Nat.le_of_ble_eq_true rfl, Nat.le_of_ble_eq_true rfl⟩ ⟨show c0 + 0 ≤ 601024 by omega, show s0 + 0 ≤ 7293034 by omega⟩ (Nat.le_of_ble_eq_true rfl) hS (fun q9 h9 => h9.elim (fun w9 => w9.elim) (hAo9 q9)) (fun v9 H7 locs hq hz8 hfr9 hS => ?_)
      obtain ⟨rfl, r, hQ9, f_o⟩ := hq
      have hf9 : ∀ q : Nat, q < H.size → q ≠ ou → H7[q]? = H[q]? := fun q9 h9 h8 => hfr9 q9 h9 (fun z9 => z9.elim (fun w9 => w9.elim) h8)
      have hM := ro_M hp hM hf9
      have hDS := ro_D hp hDS hf9
      refine lv_istore (lv' := [(5, .int 0), (4, .int (nI i)), (3, .ref ou), (2, .ref (B 0)), (1, .ref x), (0, .ref b)]) hx hb dL_law_709 hl (by decide) rfl (fun ls hl => ?_)
      refine lv_aload_n hx hb dL_law_711 rfl (lv_at hl 3 rfl) ?_
      refine lv_aload_n hx hb dL_law_712 rfl (lv_at hl 5 rfl) ?_
      refine lv_iload hx hb dL_law_713 (lv_at hl 1 rfl) ?_
      refine lv_iconst (v := 1) hx hb dL_law_715 rfl ?_
      refine lv_iadd hx hb dL_law_716 ?_
      refine l_sld (k := i + 1) hx hb hXs hbl hbA hS (ixq (nI_ad rfl rfl)) (by omega) hL hz_1 dL_law_717 ?_
      refine lv_aload_n hx hb dL_law_718 rfl (lv_at hl 5 rfl) ?_
      refine lv_iload hx hb dL_law_719 (lv_at hl 1 rfl) ?_
      refine lv_iconst (v := 2) hx hb dL_law_721 rfl ?_
      refine lv_iadd hx hb dL_law_722 ?_
      refine l_sld (k := i + 2) hx hb hXs hbl hbA hS (ixq (nI_ad rfl rfl)) (by omega) hL hz_2 dL_law_723 ?_
      refine lv_if_eq (tgt := 731) hx hb dL_law_724 (by decide) (fun c_724 => ?_) (fun c_724 => ?_)
      · exact absurd c_724 hz2
      refine lv_iconst (v := 1) hx hb dL_law_727 rfl ?_
      refine lv_goto (tgt := 732) hx hb dL_law_728 (by decide) ?_
      refine Wr.callV (rest := []) (c_X8_bound l G hMD z1 k ez (by omega) (by rw [h0]; exact hy1) 1) yk_X8_bound E km_L_152 dL_law_732 hG (hE.S hS hEA) hM (At.recv hG hM.1 rfl) rfl rfl hl.1 ⟨Nat.le_of_ble_eq_true rfl, Nat.le_of_ble_eq_true rfl⟩ ⟨show c0 + 0 + 0 ≤ 601024 by omega, show s0 + 0 + 0 ≤ 7293034 by omega⟩ (Nat.le_of_ble_eq_true rfl) hS hAB (fun v9 H8 locs hq hz8 hfr9 hS => ?_)
      obtain ⟨rfl, hM⟩ := hq
      have hDS := rf_D hp hDS hfr9
      have f_o := rf_o hp f_o hfr9
      refine lv_istore (lv' := [(6, .int (if (1 : Int32) = 0 then leastV da k else mostV da k)), (5, .int 0), (4, .int (nI i)), (3, .ref ou), (2, .ref (B 0)), (1, .ref x), (0, .ref b)]) hx hb dL_law_735 hl (by decide) rfl (fun ls hl => ?_)
      refine lv_aload_n hx hb dL_law_737 rfl (lv_at hl 4 rfl) ?_
      refine Rd.callV (rest := []) (c_X8_thrown l G) yk_X8_thrown E km_L_113 dL_law_738 hG (hE.S hS hEA) hM (At.recv hG hM.1 rfl) rfl rfl hl.1 ⟨Nat.le_of_ble_eq_true rfl, Nat.le_of_ble_eq_true rfl⟩ ⟨show c0 + 0 + 0 ≤ 601024 by omega, show s0 + 0 + 0 ≤ 7293034 by omega⟩ (Nat.le_of_ble_eq_true rfl) ?_
      refine lv_ci (y := 0) rfl ?_
      refine lv_iload hx hb dL_law_741 (lv_at hl 1 rfl) ?_
      refine lv_icmp_eq (tgt := 748) hx hb dL_law_743 (by decide) (fun c_743 => ?_) (fun c_743 => ?_)
      rotate_left
      · exact absurd c_743 (by decide)
      refine lv_iload hx hb dL_law_748 (lv_at hl 1 rfl) ?_
      refine lv_if_ne (tgt := 765) hx hb dL_law_750 (by decide) (fun c_750 => ?_) (fun c_750 => ?_)
      · exact absurd c_750 (by decide)
      refine lv_aload_n hx hb dL_law_753 rfl (lv_at hl 3 rfl) ?_
      refine lv_iconst (v := 0) hx hb dL_law_754 rfl ?_
      refine g_lld 0 E hG f_o rfl (by omega) (by decide) dL_law_755 ?_
      refine lv_iload hx hb dL_law_756 (lv_at hl 0 rfl) ?_
      refine lv_i2l (v := (if (1 : Int32) = 0 then leastV da k else mostV da k).toInt64) hx hb dL_law_758 rfl ?_
      refine W.lcmp hx hb dL_law_759 ?_
      refine lv_if_eq (tgt := 765) hx hb dL_law_760 (by decide) (fun c_760 => ?_) (fun c_760 => ?_)
      rotate_left
      · exact absurd ((lg_cmp_eq _ _).mpr (by rw [pk_uLs]; rw [hQ9])) c_760
      refine lv_goto (tgt := 2029) hx hb dL_law_765 (by decide) ?_
      exact hK H8 locs _ _ (show c0 + 0 + 0 ≤ c0 + 200 by omega) (show s0 + 0 + 0 ≤ s0 + 4000 by omega) (li_mk hb9 hu hBy hbb hO hM hDS f_o) hS ls (lv_sub hl [2, 3, 4, 5, 6] rfl)
