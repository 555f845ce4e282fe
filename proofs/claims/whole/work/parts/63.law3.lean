/-! THE LAW: more calls that ask; append -/
set_option maxHeartbeats 4000000 in
set_option maxRecDepth 100000 in
/-- the law: errorOffset -/
theorem lc_errorOffset {p : Program} {l : Launch} {e : Env} {s : State} {m : MethodId} {below : List Frame} {meth : Method} {c : Code} {Q : State → Prop} {b L : Nat} {xs : Nat → Int32} {G : CG} {B : Nat → Nat} {x bu pa ou i c0 s0 : Nat} {H : Heap} {locs : List Loc} {ls : Array Slot} (hst : l.stackTraces = false) (E : CallFix p m c code 7 s ([.ref b] : List Value).toArray TB RL) (hG : KT G s) (hE : EF G s s.heap) (hXs : va_X b L xs s s.heap) (hbl : b < s.heap.size) (hL : L ≤ 3072) (hZ : EFA G s.heap.size) (hp : LAp G B x bu pa ou) (hnew : ∀ q, LAO B x bu pa ou q → s.heap.size ≤ q) (hi6 : i + 6 ≤ L) (hc9 : c0 + 200 ≤ 601024) (hs9 : s0 + 4000 ≤ 7293034) (hI : LI G B x bu pa ou H) (hS : va_S (fun q9 => s.heap.size ≤ q9) s.heap H locs) (hl : lv_has ls 7 [(4, .int (nI i)), (3, .ref ou), (2, .ref (B 0)), (1, .ref x), (0, .ref b)]) (hK : ∀ (H : Heap) (locs : List Loc) (cs sl : Nat), cs ≤ c0 + 200 → sl ≤ s0 + 4000 → LI G B x bu pa ou H → va_S (fun q9 => s.heap.size ≤ q9) s.heap H locs → ∀ ls : Array Slot, lv_has ls 7 [(4, .int (nI i)), (3, .ref ou), (2, .ref (B 0)), (1, .ref x), (0, .ref b)] → W p l e room_1 s m ([.ref b] : List Value).toArray below meth c H locs cs sl Q (F0 m 2029 ls [])) : W p l e room_1 s m ([.ref b] : List Value).toArray below meth c H locs c0 s0 Q (F0 m 321 ls []) := by
  obtain ⟨b9, u, nc, np, nh, bk, es, bf, bb, da, hi, f, t, tl, ps, er, ea, ns, ne, se, dr, sk, hb9, hu, hBy, hbb, hO, hM, hDS, f_o⟩ := hI
  have hx := E.1
  have hb := E.2.1
  have hMD := hp.1
  have hDD := hp.2.1
  obtain ⟨⟨h0, hc0⟩, ⟨h1, hp0⟩, ⟨h2, hh⟩, ⟨td, htd, h3⟩, hCr, hPr, hHo, hIj⟩ := id hO
  have hEA : ∀ q9, s.heap.size ≤ q9 → EFA G q9 := fun q9 h9 => Nat.le_trans hZ h9
  have hbA : ¬ s.heap.size ≤ b := Nat.not_le.mpr hbl
  have hAo9 : ∀ q, q = ou → s.heap.size ≤ q := fun q h => hnew q (Or.inr (Or.inr (Or.inr (Or.inl h))))
  have hAB : ∀ q, MA B q → s.heap.size ≤ q := fun q h => hnew q (Or.inr (Or.inr (Or.inr (Or.inr h))))
  have hAO := lao_lt hM hDS f_o
  have hz9 : EFA G H.size := Nat.le_trans hZ hS.1
  have hou : ou < H.size := va_at.lt f_o
  refine lv_aload_n hx hb dL_law_321 rfl (lv_at hl 3 rfl) ?_
  refine Rd.callV (rest := []) (c_X7_errorOffset l G) yk_X7_errorOffset E km_L_117 dL_law_322 hG (hE.S hS hEA) (ds_dk hDS) (At.recv hG hDS.1 rfl) rfl rfl hl.1 ⟨Nat.le_of_ble_eq_true rfl, Nat.le_of_ble_eq_true rfl⟩ ⟨show c0 ≤ 601024 by omega, show s0 ≤ 7293034 by omega⟩ (Nat.le_of_ble_eq_true rfl) ?_
  refine lv_aload_n hx hb dL_law_325 rfl (lv_at hl 2 rfl) ?_
  refine Wr.callV (rest := [.int es]) (c_X8_errorOffset l G hMD) yk_X8_errorOffset E km_L_120 dL_law_326 hG (hE.S hS hEA) hM (At.recv hG hM.1 rfl) rfl rfl hl.1 ⟨Nat.le_of_ble_eq_true rfl, Nat.le_of_ble_eq_true rfl⟩ ⟨show c0 + 0 ≤ 601024 by omega, show s0 + 0 ≤ 7293034 by omega⟩ (Nat.le_of_ble_eq_true rfl) hS hAB (fun v9 H1 locs hq hz8 hfr9 hS => ?_)
  obtain ⟨rfl, hM⟩ := hq
  have hDS := rf_D hp hDS hfr9
  have f_o := rf_o hp f_o hfr9
  refine lv_icmp_eq (tgt := 2029) hx hb dL_law_329 (by decide) (fun c_329 => ?_) (fun c_329 => ?_)
  rotate_left
  · exact absurd (rfl) c_329
  exact hK H1 locs _ _ (show c0 + 0 ≤ c0 + 200 by omega) (show s0 + 0 ≤ s0 + 4000 by omega) (li_mk hb9 hu hBy hbb hO hM hDS f_o) hS ls (lv_sub hl [0, 1, 2, 3, 4] rfl)

set_option maxHeartbeats 4000000 in
set_option maxRecDepth 100000 in
/-- the law: creditCount -/
theorem lc_creditCount {p : Program} {l : Launch} {e : Env} {s : State} {m : MethodId} {below : List Frame} {meth : Method} {c : Code} {Q : State → Prop} {b L : Nat} {xs : Nat → Int32} {G : CG} {B : Nat → Nat} {x bu pa ou i c0 s0 : Nat} {H : Heap} {locs : List Loc} {ls : Array Slot} (hst : l.stackTraces = false) (E : CallFix p m c code 7 s ([.ref b] : List Value).toArray TB RL) (hG : KT G s) (hE : EF G s s.heap) (hXs : va_X b L xs s s.heap) (hbl : b < s.heap.size) (hL : L ≤ 3072) (hZ : EFA G s.heap.size) (hp : LAp G B x bu pa ou) (hnew : ∀ q, LAO B x bu pa ou q → s.heap.size ≤ q) (hi6 : i + 6 ≤ L) (hc9 : c0 + 200 ≤ 601024) (hs9 : s0 + 4000 ≤ 7293034) (hI : LI G B x bu pa ou H) (hS : va_S (fun q9 => s.heap.size ≤ q9) s.heap H locs) (hl : lv_has ls 7 [(4, .int (nI i)), (3, .ref ou), (2, .ref (B 0)), (1, .ref x), (0, .ref b)]) (hK : ∀ (H : Heap) (locs : List Loc) (cs sl : Nat), cs ≤ c0 + 200 → sl ≤ s0 + 4000 → LI G B x bu pa ou H → va_S (fun q9 => s.heap.size ≤ q9) s.heap H locs → ∀ ls : Array Slot, lv_has ls 7 [(4, .int (nI i)), (3, .ref ou), (2, .ref (B 0)), (1, .ref x), (0, .ref b)] → W p l e room_1 s m ([.ref b] : List Value).toArray below meth c H locs cs sl Q (F0 m 2029 ls [])) : W p l e room_1 s m ([.ref b] : List Value).toArray below meth c H locs c0 s0 Q (F0 m 334 ls []) := by
  obtain ⟨b9, u, nc, np, nh, bk, es, bf, bb, da, hi, f, t, tl, ps, er, ea, ns, ne, se, dr, sk, hb9, hu, hBy, hbb, hO, hM, hDS, f_o⟩ := hI
  have hx := E.1
  have hb := E.2.1
  have hMD := hp.1
  have hDD := hp.2.1
  obtain ⟨⟨h0, hc0⟩, ⟨h1, hp0⟩, ⟨h2, hh⟩, ⟨td, htd, h3⟩, hCr, hPr, hHo, hIj⟩ := id hO
  have hEA : ∀ q9, s.heap.size ≤ q9 → EFA G q9 := fun q9 h9 => Nat.le_trans hZ h9
  have hbA : ¬ s.heap.size ≤ b := Nat.not_le.mpr hbl
  have hAo9 : ∀ q, q = ou → s.heap.size ≤ q := fun q h => hnew q (Or.inr (Or.inr (Or.inr (Or.inl h))))
  have hAB : ∀ q, MA B q → s.heap.size ≤ q := fun q h => hnew q (Or.inr (Or.inr (Or.inr (Or.inr h))))
  have hAO := lao_lt hM hDS f_o
  have hz9 : EFA G H.size := Nat.le_trans hZ hS.1
  have hou : ou < H.size := va_at.lt f_o
  refine lv_aload_n hx hb dL_law_334 rfl (lv_at hl 3 rfl) ?_
  refine Rd.callV (rest := []) (c_X7_creditCount l G) yk_X7_creditCount E km_L_121 dL_law_335 hG (hE.S hS hEA) (ds_dk hDS) (At.recv hG hDS.1 rfl) rfl rfl hl.1 ⟨Nat.le_of_ble_eq_true rfl, Nat.le_of_ble_eq_true rfl⟩ ⟨show c0 ≤ 601024 by omega, show s0 ≤ 7293034 by omega⟩ (Nat.le_of_ble_eq_true rfl) ?_
  refine lv_aload_n hx hb dL_law_338 rfl (lv_at hl 2 rfl) ?_
  refine Wr.callV (rest := [.int (nI nc)]) (c_X8_creditCount l G hMD) yk_X8_creditCount E km_L_124 dL_law_339 hG (hE.S hS hEA) hM (At.recv hG hM.1 rfl) rfl rfl hl.1 ⟨Nat.le_of_ble_eq_true rfl, Nat.le_of_ble_eq_true rfl⟩ ⟨show c0 + 0 ≤ 601024 by omega, show s0 + 0 ≤ 7293034 by omega⟩ (Nat.le_of_ble_eq_true rfl) hS hAB (fun v9 H1 locs hq hz8 hfr9 hS => ?_)
  obtain ⟨rfl, hM⟩ := hq
  have hDS := rf_D hp hDS hfr9
  have f_o := rf_o hp f_o hfr9
  refine lv_icmp_eq (tgt := 2029) hx hb dL_law_342 (by decide) (fun c_342 => ?_) (fun c_342 => ?_)
  rotate_left
  · exact absurd (h0.symm) c_342
  exact hK H1 locs _ _ (show c0 + 0 ≤ c0 + 200 by omega) (show s0 + 0 ≤ s0 + 4000 by omega) (li_mk hb9 hu hBy hbb hO hM hDS f_o) hS ls (lv_sub hl [0, 1, 2, 3, 4] rfl)

set_option maxHeartbeats 4000000 in
set_option maxRecDepth 100000 in
/-- the law: presentationCount -/
theorem lc_presentationCount {p : Program} {l : Launch} {e : Env} {s : State} {m : MethodId} {below : List Frame} {meth : Method} {c : Code} {Q : State → Prop} {b L : Nat} {xs : Nat → Int32} {G : CG} {B : Nat → Nat} {x bu pa ou i c0 s0 : Nat} {H : Heap} {locs : List Loc} {ls : Array Slot} (hst : l.stackTraces = false) (E : CallFix p m c code 7 s ([.ref b] : List Value).toArray TB RL) (hG : KT G s) (hE : EF G s s.heap) (hXs : va_X b L xs s s.heap) (hbl : b < s.heap.size) (hL : L ≤ 3072) (hZ : EFA G s.heap.size) (hp : LAp G B x bu pa ou) (hnew : ∀ q, LAO B x bu pa ou q → s.heap.size ≤ q) (hi6 : i + 6 ≤ L) (hc9 : c0 + 200 ≤ 601024) (hs9 : s0 + 4000 ≤ 7293034) (hI : LI G B x bu pa ou H) (hS : va_S (fun q9 => s.heap.size ≤ q9) s.heap H locs) (hl : lv_has ls 7 [(4, .int (nI i)), (3, .ref ou), (2, .ref (B 0)), (1, .ref x), (0, .ref b)]) (hK : ∀ (H : Heap) (locs : List Loc) (cs sl : Nat), cs ≤ c0 + 200 → sl ≤ s0 + 4000 → LI G B x bu pa ou H → va_S (fun q9 => s.heap.size ≤ q9) s.heap H locs → ∀ ls : Array Slot, lv_has ls 7 [(4, .int (nI i)), (3, .ref ou), (2, .ref (B 0)), (1, .ref x), (0, .ref b)] → W p l e room_1 s m ([.ref b] : List Value).toArray below meth c H locs cs sl Q (F0 m 2029 ls [])) : W p l e room_1 s m ([.ref b] : List Value).toArray below meth c H locs c0 s0 Q (F0 m 347 ls []) := by
  obtain ⟨b9, u, nc, np, nh, bk, es, bf, bb, da, hi, f, t, tl, ps, er, ea, ns, ne, se, dr, sk, hb9, hu, hBy, hbb, hO, hM, hDS, f_o⟩ := hI
  have hx := E.1
  have hb := E.2.1
  have hMD := hp.1
  have hDD := hp.2.1
  obtain ⟨⟨h0, hc0⟩, ⟨h1, hp0⟩, ⟨h2, hh⟩, ⟨td, htd, h3⟩, hCr, hPr, hHo, hIj⟩ := id hO
  have hEA : ∀ q9, s.heap.size ≤ q9 → EFA G q9 := fun q9 h9 => Nat.le_trans hZ h9
  have hbA : ¬ s.heap.size ≤ b := Nat.not_le.mpr hbl
  have hAo9 : ∀ q, q = ou → s.heap.size ≤ q := fun q h => hnew q (Or.inr (Or.inr (Or.inr (Or.inl h))))
  have hAB : ∀ q, MA B q → s.heap.size ≤ q := fun q h => hnew q (Or.inr (Or.inr (Or.inr (Or.inr h))))
  have hAO := lao_lt hM hDS f_o
  have hz9 : EFA G H.size := Nat.le_trans hZ hS.1
  have hou : ou < H.size := va_at.lt f_o
  refine lv_aload_n hx hb dL_law_347 rfl (lv_at hl 3 rfl) ?_
  refine Rd.callV (rest := []) (c_X7_presentationCount l G) yk_X7_presentationCount E km_L_125 dL_law_348 hG (hE.S hS hEA) (ds_dk hDS) (At.recv hG hDS.1 rfl) rfl rfl hl.1 ⟨Nat.le_of_ble_eq_true rfl, Nat.le_of_ble_eq_true rfl⟩ ⟨show c0 ≤ 601024 by omega, show s0 ≤ 7293034 by omega⟩ (Nat.le_of_ble_eq_true rfl) ?_
  refine lv_aload_n hx hb dL_law_351 rfl (lv_at hl 2 rfl) ?_
  refine Wr.callV (rest := [.int (nI np)]) (c_X8_presentationCount l G hMD) yk_X8_presentationCount E km_L_128 dL_law_352 hG (hE.S hS hEA) hM (At.recv hG hM.1 rfl) rfl rfl hl.1 ⟨Nat.le_of_ble_eq_true rfl, Nat.le_of_ble_eq_true rfl⟩ ⟨show c0 + 0 ≤ 601024 by omega, show s0 + 0 ≤ 7293034 by omega⟩ (Nat.le_of_ble_eq_true rfl) hS hAB (fun v9 H1 locs hq hz8 hfr9 hS => ?_)
  obtain ⟨rfl, hM⟩ := hq
  have hDS := rf_D hp hDS hfr9
  have f_o := rf_o hp f_o hfr9
  refine lv_icmp_eq (tgt := 2029) hx hb dL_law_355 (by decide) (fun c_355 => ?_) (fun c_355 => ?_)
  rotate_left
  · exact absurd (h1.symm) c_355
  exact hK H1 locs _ _ (show c0 + 0 ≤ c0 + 200 by omega) (show s0 + 0 ≤ s0 + 4000 by omega) (li_mk hb9 hu hBy hbb hO hM hDS f_o) hS ls (lv_sub hl [0, 1, 2, 3, 4] rfl)

set_option maxHeartbeats 4000000 in
set_option maxRecDepth 100000 in
/-- the law: today -/
theorem lc_today {p : Program} {l : Launch} {e : Env} {s : State} {m : MethodId} {below : List Frame} {meth : Method} {c : Code} {Q : State → Prop} {b L : Nat} {xs : Nat → Int32} {G : CG} {B : Nat → Nat} {x bu pa ou i c0 s0 : Nat} {H : Heap} {locs : List Loc} {ls : Array Slot} (hst : l.stackTraces = false) (E : CallFix p m c code 7 s ([.ref b] : List Value).toArray TB RL) (hG : KT G s) (hE : EF G s s.heap) (hXs : va_X b L xs s s.heap) (hbl : b < s.heap.size) (hL : L ≤ 3072) (hZ : EFA G s.heap.size) (hp : LAp G B x bu pa ou) (hnew : ∀ q, LAO B x bu pa ou q → s.heap.size ≤ q) (hi6 : i + 6 ≤ L) (hc9 : c0 + 200 ≤ 601024) (hs9 : s0 + 4000 ≤ 7293034) (hI : LI G B x bu pa ou H) (hS : va_S (fun q9 => s.heap.size ≤ q9) s.heap H locs) (hl : lv_has ls 7 [(4, .int (nI i)), (3, .ref ou), (2, .ref (B 0)), (1, .ref x), (0, .ref b)]) (hK : ∀ (H : Heap) (locs : List Loc) (cs sl : Nat), cs ≤ c0 + 200 → sl ≤ s0 + 4000 → LI G B x bu pa ou H → va_S (fun q9 => s.heap.size ≤ q9) s.heap H locs → ∀ ls : Array Slot, lv_has ls 7 [(4, .int (nI i)), (3, .ref ou), (2, .ref (B 0)), (1, .ref x), (0, .ref b)] → W p l e room_1 s m ([.ref b] : List Value).toArray below meth c H locs cs sl Q (F0 m 2029 ls [])) : W p l e room_1 s m ([.ref b] : List Value).toArray below meth c H locs c0 s0 Q (F0 m 360 ls []) := by
  obtain ⟨b9, u, nc, np, nh, bk, es, bf, bb, da, hi, f, t, tl, ps, er, ea, ns, ne, se, dr, sk, hb9, hu, hBy, hbb, hO, hM, hDS, f_o⟩ := hI
  have hx := E.1
  have hb := E.2.1
  have hMD := hp.1
  have hDD := hp.2.1
  obtain ⟨⟨h0, hc0⟩, ⟨h1, hp0⟩, ⟨h2, hh⟩, ⟨td, htd, h3⟩, hCr, hPr, hHo, hIj⟩ := id hO
  have hEA : ∀ q9, s.heap.size ≤ q9 → EFA G q9 := fun q9 h9 => Nat.le_trans hZ h9
  have hbA : ¬ s.heap.size ≤ b := Nat.not_le.mpr hbl
  have hAo9 : ∀ q, q = ou → s.heap.size ≤ q := fun q h => hnew q (Or.inr (Or.inr (Or.inr (Or.inl h))))
  have hAB : ∀ q, MA B q → s.heap.size ≤ q := fun q h => hnew q (Or.inr (Or.inr (Or.inr (Or.inr h))))
  have hAO := lao_lt hM hDS f_o
  have hz9 : EFA G H.size := Nat.le_trans hZ hS.1
  have hou : ou < H.size := va_at.lt f_o
  refine lv_aload_n hx hb dL_law_360 rfl (lv_at hl 3 rfl) ?_
  refine Rd.callV (rest := []) (c_X7_today l G) yk_X7_today E km_L_129 dL_law_361 hG (hE.S hS hEA) (ds_dk hDS) (At.recv hG hDS.1 rfl) rfl rfl hl.1 ⟨Nat.le_of_ble_eq_true rfl, Nat.le_of_ble_eq_true rfl⟩ ⟨show c0 ≤ 601024 by omega, show s0 ≤ 7293034 by omega⟩ (Nat.le_of_ble_eq_true rfl) ?_
  refine lv_aload_n hx hb dL_law_364 rfl (lv_at hl 2 rfl) ?_
  refine Wr.callV (rest := [.int (da 3)]) (c_X8_today l G hMD) yk_X8_today E km_L_132 dL_law_365 hG (hE.S hS hEA) hM (At.recv hG hM.1 rfl) rfl rfl hl.1 ⟨Nat.le_of_ble_eq_true rfl, Nat.le_of_ble_eq_true rfl⟩ ⟨show c0 + 0 ≤ 601024 by omega, show s0 + 0 ≤ 7293034 by omega⟩ (Nat.le_of_ble_eq_true rfl) hS hAB (fun v9 H1 locs hq hz8 hfr9 hS => ?_)
  obtain ⟨rfl, hM⟩ := hq
  have hDS := rf_D hp hDS hfr9
  have f_o := rf_o hp f_o hfr9
  refine lv_icmp_eq (tgt := 2029) hx hb dL_law_368 (by decide) (fun c_368 => ?_) (fun c_368 => ?_)
  rotate_left
  · exact absurd (rfl) c_368
  exact hK H1 locs _ _ (show c0 + 0 ≤ c0 + 200 by omega) (show s0 + 0 ≤ s0 + 4000 by omega) (li_mk hb9 hu hBy hbb hO hM hDS f_o) hS ls (lv_sub hl [0, 1, 2, 3, 4] rfl)

set_option maxHeartbeats 4000000 in
set_option maxRecDepth 100000 in
/-- the law: dueBetween -/
theorem lc_dueBetween {p : Program} {l : Launch} {e : Env} {s : State} {m : MethodId} {below : List Frame} {meth : Method} {c : Code} {Q : State → Prop} {b L : Nat} {xs : Nat → Int32} {G : CG} {B : Nat → Nat} {x bu pa ou i c0 s0 : Nat} {H : Heap} {locs : List Loc} {ls : Array Slot} (hst : l.stackTraces = false) (E : CallFix p m c code 7 s ([.ref b] : List Value).toArray TB RL) (hG : KT G s) (hE : EF G s s.heap) (hXs : va_X b L xs s s.heap) (hbl : b < s.heap.size) (hL : L ≤ 3072) (hZ : EFA G s.heap.size) (hp : LAp G B x bu pa ou) (hnew : ∀ q, LAO B x bu pa ou q → s.heap.size ≤ q) (hi6 : i + 6 ≤ L) (hc9 : c0 + 200 ≤ 601024) (hs9 : s0 + 4000 ≤ 7293034) (hI : LI G B x bu pa ou H) (hS : va_S (fun q9 => s.heap.size ≤ q9) s.heap H locs) (hl : lv_has ls 7 [(4, .int (nI i)), (3, .ref ou), (2, .ref (B 0)), (1, .ref x), (0, .ref b)]) (hK : ∀ (H : Heap) (locs : List Loc) (cs sl : Nat), cs ≤ c0 + 200 → sl ≤ s0 + 4000 → LI G B x bu pa ou H → va_S (fun q9 => s.heap.size ≤ q9) s.heap H locs → ∀ ls : Array Slot, lv_has ls 7 [(4, .int (nI i)), (3, .ref ou), (2, .ref (B 0)), (1, .ref x), (0, .ref b)] → W p l e room_1 s m ([.ref b] : List Value).toArray below meth c H locs cs sl Q (F0 m 2029 ls [])) : W p l e room_1 s m ([.ref b] : List Value).toArray below meth c H locs c0 s0 Q (F0 m 1328 ls []) := by
  obtain ⟨b9, u, nc, np, nh, bk, es, bf, bb, da, hi, f, t, tl, ps, er, ea, ns, ne, se, dr, sk, hb9, hu, hBy, hbb, hO, hM, hDS, f_o⟩ := hI
  have hx := E.1
  have hb := E.2.1
  have hMD := hp.1
  have hDD := hp.2.1
  obtain ⟨⟨h0, hc0⟩, ⟨h1, hp0⟩, ⟨h2, hh⟩, ⟨td, htd, h3⟩, hCr, hPr, hHo, hIj⟩ := id hO
  have hEA : ∀ q9, s.heap.size ≤ q9 → EFA G q9 := fun q9 h9 => Nat.le_trans hZ h9
  have hbA : ¬ s.heap.size ≤ b := Nat.not_le.mpr hbl
  have hAo9 : ∀ q, q = ou → s.heap.size ≤ q := fun q h => hnew q (Or.inr (Or.inr (Or.inr (Or.inl h))))
  have hAB : ∀ q, MA B q → s.heap.size ≤ q := fun q h => hnew q (Or.inr (Or.inr (Or.inr (Or.inr h))))
  have hAO := lao_lt hM hDS f_o
  have hz9 : EFA G H.size := Nat.le_trans hZ hS.1
  have hou : ou < H.size := va_at.lt f_o
  obtain ⟨z1, hz_1⟩ : ∃ z, xs (i + 1) = z := ⟨_, rfl⟩
  obtain ⟨z2, hz_2⟩ : ∃ z, xs (i + 2) = z := ⟨_, rfl⟩
  refine lv_aload_n hx hb dL_law_1328 rfl (lv_at hl 3 rfl) ?_
  refine lv_aload_n hx hb dL_law_1329 rfl (lv_at hl 4 rfl) ?_
  refine lv_iload hx hb dL_law_1330 (lv_at hl 0 rfl) ?_
  refine lv_iconst (v := 1) hx hb dL_law_1332 rfl ?_
  refine lv_iadd hx hb dL_law_1333 ?_
  refine l_sld (k := i + 1) hx hb hXs hbl hbA hS (ixq (nI_ad rfl rfl)) (by omega) hL hz_1 dL_law_1334 ?_
  refine lv_aload_n hx hb dL_law_1335 rfl (lv_at hl 4 rfl) ?_
  refine lv_iload hx hb dL_law_1336 (lv_at hl 0 rfl) ?_
  refine lv_iconst (v := 2) hx hb dL_law_1338 rfl ?_
  refine lv_iadd hx hb dL_law_1339 ?_
  refine l_sld (k := i + 2) hx hb hXs hbl hbA hS (ixq (nI_ad rfl rfl)) (by omega) hL hz_2 dL_law_1340 ?_
  refine Rd.callV (rest := []) (c_X7_dueBetween l G z1 z2 hO) yk_X7_dueBetween E km_L_183 dL_law_1341 hG (hE.S hS hEA) (ds_dk hDS) (At.recv hG hDS.1 rfl) rfl rfl hl.1 ⟨Nat.le_of_ble_eq_true rfl, Nat.le_of_ble_eq_true rfl⟩ ⟨show c0 ≤ 601024 by omega, show s0 ≤ 7293034 by omega⟩ (Nat.le_of_ble_eq_true rfl) ?_
  refine lv_aload_n hx hb dL_law_1344 rfl (lv_at hl 2 rfl) ?_
  refine lv_aload_n hx hb dL_law_1345 rfl (lv_at hl 4 rfl) ?_
  refine lv_iload hx hb dL_law_1346 (lv_at hl 0 rfl) ?_
  refine lv_iconst (v := 1) hx hb dL_law_1348 rfl ?_
  refine lv_iadd hx hb dL_law_1349 ?_
  refine l_sld (k := i + 1) hx hb hXs hbl hbA hS (ixq (nI_ad rfl rfl)) (by omega) hL hz_1 dL_law_1350 ?_
  refine lv_aload_n hx hb dL_law_1351 rfl (lv_at hl 4 rfl) ?_
  refine lv_iload hx hb dL_law_1352 (lv_at hl 0 rfl) ?_
  refine lv_iconst (v := 2) hx hb dL_law_1354 rfl ?_
  refine lv_iadd hx hb dL_law_1355 ?_
  refine l_sld (k := i + 2) hx hb hXs hbl hbA hS (ixq (nI_ad rfl rfl)) (by omega) hL hz_2 dL_law_1356 ?_
  refine Wr.callV (rest := [.long (dueS da nh z1 z2 np)]) (c_X8_dueBetween l G hMD z1 z2 nc np nh hO) yk_X8_dueBetween E km_L_187 dL_law_1357 hG (hE.S hS hEA) hM (At.recv hG hM.1 rfl) rfl rfl hl.1 ⟨Nat.le_of_ble_eq_true rfl, Nat.le_of_ble_eq_true rfl⟩ ⟨show c0 + 0 ≤ 601024 by omega, show s0 + 0 ≤ 7293034 by omega⟩ (Nat.le_of_ble_eq_true rfl) hS hAB (fun v9 H1 locs hq hz8 hfr9 hS => ?_)
  obtain ⟨rfl, hM⟩ := hq
  have hDS := rf_D hp hDS hfr9
  have f_o := rf_o hp f_o hfr9
  refine W.lcmp hx hb dL_law_1360 ?_
  refine lv_if_eq (tgt := 2029) hx hb dL_law_1361 (by decide) (fun c_1361 => ?_) (fun c_1361 => ?_)
  rotate_left
  · exact absurd ((lg_cmp_eq _ _).mpr rfl) c_1361
  exact hK H1 locs _ _ (show c0 + 0 ≤ c0 + 200 by omega) (show s0 + 0 ≤ s0 + 4000 by omega) (li_mk hb9 hu hBy hbb hO hM hDS f_o) hS ls (lv_sub hl [0, 1, 2, 3, 4] rfl)

set_option maxHeartbeats 4000000 in
set_option maxRecDepth 100000 in
/-- the law: checksum -/
theorem lc_checksum {p : Program} {l : Launch} {e : Env} {s : State} {m : MethodId} {below : List Frame} {meth : Method} {c : Code} {Q : State → Prop} {b L : Nat} {xs : Nat → Int32} {G : CG} {B : Nat → Nat} {x bu pa ou i c0 s0 : Nat} {H : Heap} {locs : List Loc} {ls : Array Slot} (hst : l.stackTraces = false) (E : CallFix p m c code 7 s ([.ref b] : List Value).toArray TB RL) (hG : KT G s) (hE : EF G s s.heap) (hXs : va_X b L xs s s.heap) (hbl : b < s.heap.size) (hL : L ≤ 3072) (hZ : EFA G s.heap.size) (hp : LAp G B x bu pa ou) (hnew : ∀ q, LAO B x bu pa ou q → s.heap.size ≤ q) (hi6 : i + 6 ≤ L) (hc9 : c0 + 200 ≤ 601024) (hs9 : s0 + 4000 ≤ 7293034) (hI : LI G B x bu pa ou H) (hS : va_S (fun q9 => s.heap.size ≤ q9) s.heap H locs) (hl : lv_has ls 7 [(4, .int (nI i)), (3, .ref ou), (2, .ref (B 0)), (1, .ref x), (0, .ref b)]) (hK : ∀ (H : Heap) (locs : List Loc) (cs sl : Nat), cs ≤ c0 + 200 → sl ≤ s0 + 4000 → LI G B x bu pa ou H → va_S (fun q9 => s.heap.size ≤ q9) s.heap H locs → ∀ ls : Array Slot, lv_has ls 7 [(4, .int (nI i)), (3, .ref ou), (2, .ref (B 0)), (1, .ref x), (0, .ref b)] → W p l e room_1 s m ([.ref b] : List Value).toArray below meth c H locs cs sl Q (F0 m 2029 ls [])) : W p l e room_1 s m ([.ref b] : List Value).toArray below meth c H locs c0 s0 Q (F0 m 2015 ls []) := by
  obtain ⟨b9, u, nc, np, nh, bk, es, bf, bb, da, hi, f, t, tl, ps, er, ea, ns, ne, se, dr, sk, hb9, hu, hBy, hbb, hO, hM, hDS, f_o⟩ := hI
  have hx := E.1
  have hb := E.2.1
  have hMD := hp.1
  have hDD := hp.2.1
  obtain ⟨⟨h0, hc0⟩, ⟨h1, hp0⟩, ⟨h2, hh⟩, ⟨td, htd, h3⟩, hCr, hPr, hHo, hIj⟩ := id hO
  have hEA : ∀ q9, s.heap.size ≤ q9 → EFA G q9 := fun q9 h9 => Nat.le_trans hZ h9
  have hbA : ¬ s.heap.size ≤ b := Nat.not_le.mpr hbl
  have hAo9 : ∀ q, q = ou → s.heap.size ≤ q := fun q h => hnew q (Or.inr (Or.inr (Or.inr (Or.inl h))))
  have hAB : ∀ q, MA B q → s.heap.size ≤ q := fun q h => hnew q (Or.inr (Or.inr (Or.inr (Or.inr h))))
  have hAO := lao_lt hM hDS f_o
  have hz9 : EFA G H.size := Nat.le_trans hZ hS.1
  have hou : ou < H.size := va_at.lt f_o
  refine lv_aload_n hx hb dL_law_2015 rfl (lv_at hl 3 rfl) ?_
  refine Rd.callV (rest := []) (c_X7_checksum l G hp0 hc0) yk_X7_checksum E km_L_221 dL_law_2016 hG (hE.S hS hEA) (ds_dk hDS) (At.recv hG hDS.1 rfl) rfl rfl hl.1 ⟨Nat.le_of_ble_eq_true rfl, Nat.le_of_ble_eq_true rfl⟩ ⟨show c0 ≤ 601024 by omega, show s0 ≤ 7293034 by omega⟩ (Nat.le_of_ble_eq_true rfl) ?_
  refine lv_aload_n hx hb dL_law_2019 rfl (lv_at hl 2 rfl) ?_
  refine Wr.callV (rest := [.long (ckP da np nc nh np)]) (c_X8_checksum l G hMD nc np nh hO) yk_X8_checksum E km_L_225 dL_law_2020 hG (hE.S hS hEA) hM (At.recv hG hM.1 rfl) rfl rfl hl.1 ⟨Nat.le_of_ble_eq_true rfl, Nat.le_of_ble_eq_true rfl⟩ ⟨show c0 + 0 ≤ 601024 by omega, show s0 + 0 ≤ 7293034 by omega⟩ (Nat.le_of_ble_eq_true rfl) hS hAB (fun v9 H1 locs hq hz8 hfr9 hS => ?_)
  obtain ⟨rfl, hM⟩ := hq
  have hDS := rf_D hp hDS hfr9
  have f_o := rf_o hp f_o hfr9
  refine W.lcmp hx hb dL_law_2023 ?_
  refine lv_if_eq (tgt := 2029) hx hb dL_law_2024 (by decide) (fun c_2024 => ?_) (fun c_2024 => ?_)
  rotate_left
  · exact absurd ((lg_cmp_eq _ _).mpr rfl) c_2024
  exact hK H1 locs _ _ (show c0 + 0 ≤ c0 + 200 by omega) (show s0 + 0 ≤ s0 + 4000 by omega) (li_mk hb9 hu hBy hbb hO hM hDS f_o) hS ls (lv_sub hl [0, 1, 2, 3, 4] rfl)

set_option maxHeartbeats 4000000 in
set_option maxRecDepth 100000 in
/-- the law: append -/
theorem lc_append {p : Program} {l : Launch} {e : Env} {s : State} {m : MethodId} {below : List Frame} {meth : Method} {c : Code} {Q : State → Prop} {b L : Nat} {xs : Nat → Int32} {G : CG} {B : Nat → Nat} {x bu pa ou i c0 s0 : Nat} {H : Heap} {locs : List Loc} {ls : Array Slot} (hst : l.stackTraces = false) (E : CallFix p m c code 7 s ([.ref b] : List Value).toArray TB RL) (hG : KT G s) (hE : EF G s s.heap) (hXs : va_X b L xs s s.heap) (hbl : b < s.heap.size) (hL : L ≤ 3072) (hZ : EFA G s.heap.size) (hp : LAp G B x bu pa ou) (hnew : ∀ q, LAO B x bu pa ou q → s.heap.size ≤ q) (hi6 : i + 6 ≤ L) (hc9 : c0 + 200 ≤ 601024) (hs9 : s0 + 4000 ≤ 7293034) (hI : LI G B x bu pa ou H) (hS : va_S (fun q9 => s.heap.size ≤ q9) s.heap H locs) (hl : lv_has ls 7 [(4, .int (nI i)), (3, .ref ou), (2, .ref (B 0)), (1, .ref x), (0, .ref b)]) (hK : ∀ (H : Heap) (locs : List Loc) (cs sl : Nat), cs ≤ c0 + 200 → sl ≤ s0 + 4000 → LI G B x bu pa ou H → va_S (fun q9 => s.heap.size ≤ q9) s.heap H locs → ∀ ls : Array Slot, lv_has ls 7 [(4, .int (nI i)), (3, .ref ou), (2, .ref (B 0)), (1, .ref x), (0, .ref b)] → W p l e room_1 s m ([.ref b] : List Value).toArray below meth c H locs cs sl Q (F0 m 2029 ls [])) : W p l e room_1 s m ([.ref b] : List Value).toArray below meth c H locs c0 s0 Q (F0 m 192 ls []) := by
  obtain ⟨b9, u, nc, np, nh, bk, es, bf, bb, da, hi, f, t, tl, ps, er, ea, ns, ne, se, dr, sk, hb9, hu, hBy, hbb, hO, hM, hDS, f_o⟩ := hI
  have hx := E.1
  have hb := E.2.1
  have hMD := hp.1
  have hDD := hp.2.1
  obtain ⟨⟨h0, hc0⟩, ⟨h1, hp0⟩, ⟨h2, hh⟩, ⟨td, htd, h3⟩, hCr, hPr, hHo, hIj⟩ := id hO
  have hEA : ∀ q9, s.heap.size ≤ q9 → EFA G q9 := fun q9 h9 => Nat.le_trans hZ h9
  have hbA : ¬ s.heap.size ≤ b := Nat.not_le.mpr hbl
  have hAo9 : ∀ q, q = ou → s.heap.size ≤ q := fun q h => hnew q (Or.inr (Or.inr (Or.inr (Or.inl h))))
  have hAB : ∀ q, MA B q → s.heap.size ≤ q := fun q h => hnew q (Or.inr (Or.inr (Or.inr (Or.inr h))))
  have hAO := lao_lt hM hDS f_o
  have hz9 : EFA G H.size := Nat.le_trans hZ hS.1
  have hou : ou < H.size := va_at.lt f_o
  obtain ⟨z1, hz_1⟩ : ∃ z, xs (i + 1) = z := ⟨_, rfl⟩
  obtain ⟨z2, hz_2⟩ : ∃ z, xs (i + 2) = z := ⟨_, rfl⟩
  obtain ⟨z3, hz_3⟩ : ∃ z, xs (i + 3) = z := ⟨_, rfl⟩
  obtain ⟨z4, hz_4⟩ : ∃ z, xs (i + 4) = z := ⟨_, rfl⟩
  obtain ⟨z5, hz_5⟩ : ∃ z, xs (i + 5) = z := ⟨_, rfl⟩
  by_cases h20 : b9 + 20 ≤ 900
  · refine lv_aload_n hx hb dL_law_192 rfl (lv_at hl 3 rfl) ?_
    refine lv_aload_n hx hb dL_law_193 rfl (lv_at hl 4 rfl) ?_
    refine lv_iload hx hb dL_law_194 (lv_at hl 0 rfl) ?_
    refine lv_iconst (v := 1) hx hb dL_law_196 rfl ?_
    refine lv_iadd hx hb dL_law_197 ?_
    refine l_sld (k := i + 1) hx hb hXs hbl hbA hS (ixq (nI_ad rfl rfl)) (by omega) hL hz_1 dL_law_198 ?_
    refine lv_aload_n hx hb dL_law_199 rfl (lv_at hl 4 rfl) ?_
    refine lv_iload hx hb dL_law_200 (lv_at hl 0 rfl) ?_
    refine lv_iconst (v := 2) hx hb dL_law_202 rfl ?_
    refine lv_iadd hx hb dL_law_203 ?_
    refine l_sld (k := i + 2) hx hb hXs hbl hbA hS (ixq (nI_ad rfl rfl)) (by omega) hL hz_2 dL_law_204 ?_
    refine lv_aload_n hx hb dL_law_205 rfl (lv_at hl 4 rfl) ?_
    refine lv_iload hx hb dL_law_206 (lv_at hl 0 rfl) ?_
    refine lv_iconst (v := 3) hx hb dL_law_208 rfl ?_
    refine lv_iadd hx hb dL_law_209 ?_
    refine l_sld (k := i + 3) hx hb hXs hbl hbA hS (ixq (nI_ad rfl rfl)) (by omega) hL hz_3 dL_law_210 ?_
    refine lv_aload_n hx hb dL_law_211 rfl (lv_at hl 4 rfl) ?_
    refine lv_iload hx hb dL_law_212 (lv_at hl 0 rfl) ?_
    refine lv_iconst (v := 4) hx hb dL_law_214 rfl ?_
    refine lv_iadd hx hb dL_law_215 ?_
    refine l_sld (k := i + 4) hx hb hXs hbl hbA hS (ixq (nI_ad rfl rfl)) (by omega) hL hz_4 dL_law_216 ?_
    refine lv_aload_n hx hb dL_law_217 rfl (lv_at hl 4 rfl) ?_
    refine lv_iload hx hb dL_law_218 (lv_at hl 0 rfl) ?_
    refine lv_iconst (v := 5) hx hb dL_law_220 rfl ?_
    refine lv_iadd hx hb dL_law_221 ?_
    refine l_sld (k := i + 5) hx hb hXs hbl hbA hS (ixq (nI_ad rfl rfl)) (by omega) hL hz_5 dL_law_222 ?_
    refine Wr.callV (rest := []) (c_X7_append (bk := bk) (pa := pa) (pn := nI u) (bb := bb) l G hDD.2.1.1 hDD.2.2.1 hDD.2.2.2.1 z1 z2 z3 z4 z5 b9 h20) yk_X7_append E km_L_103 dL_law_223 hG (hE.S hS hEA) ⟨hDS.1, hDS.2.1⟩ (At.recv hG hDS.1 rfl) rfl rfl hl.1 ⟨Nat.le_of_ble_eq_true rfl, Nat.le_of_ble_eq_true rfl⟩ ⟨show c0 + 0 ≤ 601024 by omega, show s0 + 0 ≤ 7293034 by omega⟩ (Nat.le_of_ble_eq_true rfl) hS (fun q9 h9 => dw_new (sz := H.size) hnew hS.1 (h9.elim Or.inl (fun y9 => Or.inr (Or.inl y9)))) (fun v9 H1 locs hq hz8 hfr9 hS => ?_)
    obtain ⟨rfl, f_x9, f_b9⟩ := hq
    have hM := ch_M hp hM (fun q9 h9 h8 => hfr9 q9 h9 (fun z9 => h8 (Or.inl (z9.elim Or.inl (fun y9 => Or.inr (Or.inl y9))))))
    have f_o := va_at.kept f_o (hfr9 _ (va_at.lt f_o) (fun z9 => z9.elim hp.2.2.1.1 hp.2.2.1.2.1))
    have hDS : DS G (LAO B x bu pa ou) x bu pa (apC bb b9 z1 z2 z3 z4 z5) (nI (b9 + 20)) es bk da nc np nh u hi H1 := by
      obtain ⟨-, -, ⟨fq, g3, g4⟩, g5⟩ := hDS
      have hq9 : ∀ q : Nat, q < H.size → ¬ LAO B x bu pa ou q → H1[q]? = H[q]? := fun q9 h9 h8 => hfr9 q9 h9 (fun z9 => h8 (z9.elim Or.inl (fun y9 => Or.inr (Or.inl y9))))
      exact ⟨f_x9, f_b9, ⟨fq, va_at.kept g3 (hfr9 _ (va_at.lt g3) (fun z9 => z9.elim hDD.2.1.2.1.symm hDD.2.1.2.2.symm)), fun j hj => (g4 j hj).kept hq9⟩, g5.kept hq9⟩
    refine lv_aload_n hx hb dL_law_226 rfl (lv_at hl 2 rfl) ?_
    refine lv_aload_n hx hb dL_law_227 rfl (lv_at hl 4 rfl) ?_
    refine lv_iload hx hb dL_law_228 (lv_at hl 0 rfl) ?_
    refine lv_iconst (v := 1) hx hb dL_law_230 rfl ?_
    refine lv_iadd hx hb dL_law_231 ?_
    refine l_sld (k := i + 1) hx hb hXs hbl hbA hS (ixq (nI_ad rfl rfl)) (by omega) hL hz_1 dL_law_232 ?_
    refine lv_aload_n hx hb dL_law_233 rfl (lv_at hl 4 rfl) ?_
    refine lv_iload hx hb dL_law_234 (lv_at hl 0 rfl) ?_
    refine lv_iconst (v := 2) hx hb dL_law_236 rfl ?_
    refine lv_iadd hx hb dL_law_237 ?_
    refine l_sld (k := i + 2) hx hb hXs hbl hbA hS (ixq (nI_ad rfl rfl)) (by omega) hL hz_2 dL_law_238 ?_
    refine lv_aload_n hx hb dL_law_239 rfl (lv_at hl 4 rfl) ?_
    refine lv_iload hx hb dL_law_240 (lv_at hl 0 rfl) ?_
    refine lv_iconst (v := 3) hx hb dL_law_242 rfl ?_
    refine lv_iadd hx hb dL_law_243 ?_
    refine l_sld (k := i + 3) hx hb hXs hbl hbA hS (ixq (nI_ad rfl rfl)) (by omega) hL hz_3 dL_law_244 ?_
    refine lv_aload_n hx hb dL_law_245 rfl (lv_at hl 4 rfl) ?_
    refine lv_iload hx hb dL_law_246 (lv_at hl 0 rfl) ?_
    refine lv_iconst (v := 4) hx hb dL_law_248 rfl ?_
    refine lv_iadd hx hb dL_law_249 ?_
    refine l_sld (k := i + 4) hx hb hXs hbl hbA hS (ixq (nI_ad rfl rfl)) (by omega) hL hz_4 dL_law_250 ?_
    refine lv_aload_n hx hb dL_law_251 rfl (lv_at hl 4 rfl) ?_
    refine lv_iload hx hb dL_law_252 (lv_at hl 0 rfl) ?_
    refine lv_iconst (v := 5) hx hb dL_law_254 rfl ?_
    refine lv_iadd hx hb dL_law_255 ?_
    refine l_sld (k := i + 5) hx hb hXs hbl hbA hS (ixq (nI_ad rfl rfl)) (by omega) hL hz_5 dL_law_256 ?_
    refine Wr.callV (rest := [.int (nI (b9 + 20))]) (c_X8_append l G hMD z1 z2 z3 z4 z5 b9 h20) yk_X8_append E km_L_106 dL_law_257 hG (hE.S hS hEA) hM (At.recv hG hM.1 rfl) rfl rfl hl.1 ⟨Nat.le_of_ble_eq_true rfl, Nat.le_of_ble_eq_true rfl⟩ ⟨show c0 + 0 + 0 ≤ 601024 by omega, show s0 + 0 + 0 ≤ 7293034 by omega⟩ (Nat.le_of_ble_eq_true rfl) hS hAB (fun v9 H2 locs hq hz8 hfr9 hS => ?_)
    obtain ⟨rfl, hM⟩ := hq
    have hDS := rf_D hp hDS hfr9
    have f_o := rf_o hp f_o hfr9
    refine lv_icmp_eq (tgt := 2029) hx hb dL_law_260 (by decide) (fun c_260 => ?_) (fun c_260 => ?_)
    rotate_left
    · exact absurd rfl c_260
    exact hK H2 locs _ _ (show c0 + 0 + 0 ≤ c0 + 200 by omega) (show s0 + 0 + 0 ≤ s0 + 4000 by omega) (li_mk h20 hu (byo_app hBy) (apC_eq hbb) hO hM hDS f_o) hS ls (lv_sub hl [0, 1, 2, 3, 4] rfl)
  · refine lv_aload_n hx hb dL_law_192 rfl (lv_at hl 3 rfl) ?_
    refine lv_aload_n hx hb dL_law_193 rfl (lv_at hl 4 rfl) ?_
    refine lv_iload hx hb dL_law_194 (lv_at hl 0 rfl) ?_
    refine lv_iconst (v := 1) hx hb dL_law_196 rfl ?_
    refine lv_iadd hx hb dL_law_197 ?_
    refine l_sld (k := i + 1) hx hb hXs hbl hbA hS (ixq (nI_ad rfl rfl)) (by omega) hL hz_1 dL_law_198 ?_
    refine lv_aload_n hx hb dL_law_199 rfl (lv_at hl 4 rfl) ?_
    refine lv_iload hx hb dL_law_200 (lv_at hl 0 rfl) ?_
    refine lv_iconst (v := 2) hx hb dL_law_202 rfl ?_
    refine lv_iadd hx hb dL_law_203 ?_
    refine l_sld (k := i + 2) hx hb hXs hbl hbA hS (ixq (nI_ad rfl rfl)) (by omega) hL hz_2 dL_law_204 ?_
    refine lv_aload_n hx hb dL_law_205 rfl (lv_at hl 4 rfl) ?_
    refine lv_iload hx hb dL_law_206 (lv_at hl 0 rfl) ?_
    refine lv_iconst (v := 3) hx hb dL_law_208 rfl ?_
    refine lv_iadd hx hb dL_law_209 ?_
    refine l_sld (k := i + 3) hx hb hXs hbl hbA hS (ixq (nI_ad rfl rfl)) (by omega) hL hz_3 dL_law_210 ?_
    refine lv_aload_n hx hb dL_law_211 rfl (lv_at hl 4 rfl) ?_
    refine lv_iload hx hb dL_law_212 (lv_at hl 0 rfl) ?_
    refine lv_iconst (v := 4) hx hb dL_law_214 rfl ?_
    refine lv_iadd hx hb dL_law_215 ?_
    refine l_sld (k := i + 4) hx hb hXs hbl hbA hS (ixq (nI_ad rfl rfl)) (by omega) hL hz_4 dL_law_216 ?_
    refine lv_aload_n hx hb dL_law_217 rfl (lv_at hl 4 rfl) ?_
    refine lv_iload hx hb dL_law_218 (lv_at hl 0 rfl) ?_
    refine lv_iconst (v := 5) hx hb dL_law_220 rfl ?_
    refine lv_iadd hx hb dL_law_221 ?_
    refine l_sld (k := i + 5) hx hb hXs hbl hbA hS (ixq (nI_ad rfl rfl)) (by omega) hL hz_5 dL_law_222 ?_
    refine Rd.callV (rest := []) (c_X7_append_x (pa := pa) (pn := nI u) (bk := bk) (bu := bu) (es := es) l G z1 z2 z3 z4 z5 b9 h20 hb9) yk_X7_append E km_L_103 dL_law_223 hG (hE.S hS hEA) hDS.1 (At.recv hG hDS.1 rfl) rfl rfl hl.1 ⟨Nat.le_of_ble_eq_true rfl, Nat.le_of_ble_eq_true rfl⟩ ⟨show c0 ≤ 601024 by omega, show s0 ≤ 7293034 by omega⟩ (Nat.le_of_ble_eq_true rfl) ?_
    refine lv_aload_n hx hb dL_law_226 rfl (lv_at hl 2 rfl) ?_
    refine lv_aload_n hx hb dL_law_227 rfl (lv_at hl 4 rfl) ?_
    refine lv_iload hx hb dL_law_228 (lv_at hl 0 rfl) ?_
    refine lv_iconst (v := 1) hx hb dL_law_230 rfl ?_
    refine lv_iadd hx hb dL_law_231 ?_
    refine l_sld (k := i + 1) hx hb hXs hbl hbA hS (ixq (nI_ad rfl rfl)) (by omega) hL hz_1 dL_law_232 ?_
    refine lv_aload_n hx hb dL_law_233 rfl (lv_at hl 4 rfl) ?_
    refine lv_iload hx hb dL_law_234 (lv_at hl 0 rfl) ?_
    refine lv_iconst (v := 2) hx hb dL_law_236 rfl ?_
    refine lv_iadd hx hb dL_law_237 ?_
    refine l_sld (k := i + 2) hx hb hXs hbl hbA hS (ixq (nI_ad rfl rfl)) (by omega) hL hz_2 dL_law_238 ?_
    refine lv_aload_n hx hb dL_law_239 rfl (lv_at hl 4 rfl) ?_
    refine lv_iload hx hb dL_law_240 (lv_at hl 0 rfl) ?_
    refine lv_iconst (v := 3) hx hb dL_law_242 rfl ?_
    refine lv_iadd hx hb dL_law_243 ?_
    refine l_sld (k := i + 3) hx hb hXs hbl hbA hS (ixq (nI_ad rfl rfl)) (by omega) hL hz_3 dL_law_244 ?_
    refine lv_aload_n hx hb dL_law_245 rfl (lv_at hl 4 rfl) ?_
    refine lv_iload hx hb dL_law_246 (lv_at hl 0 rfl) ?_
    refine lv_iconst (v := 4) hx hb dL_law_248 rfl ?_
    refine lv_iadd hx hb dL_law_249 ?_
    refine l_sld (k := i + 4) hx hb hXs hbl hbA hS (ixq (nI_ad rfl rfl)) (by omega) hL hz_4 dL_law_250 ?_
    refine lv_aload_n hx hb dL_law_251 rfl (lv_at hl 4 rfl) ?_
    refine lv_iload hx hb dL_law_252 (lv_at hl 0 rfl) ?_
    refine lv_iconst (v := 5) hx hb dL_law_254 rfl ?_
    refine lv_iadd hx hb dL_law_255 ?_
    refine l_sld (k := i + 5) hx hb hXs hbl hbA hS (ixq (nI_ad rfl rfl)) (by omega) hL hz_5 dL_law_256 ?_
    refine Wr.callV (rest := [.int (-1)]) (c_X8_append_x l G hMD z1 z2 z3 z4 z5 b9 h20 hb9) yk_X8_append E km_L_106 dL_law_257 hG (hE.S hS hEA) hM (At.recv hG hM.1 rfl) rfl rfl hl.1 ⟨Nat.le_of_ble_eq_true rfl, Nat.le_of_ble_eq_true rfl⟩ ⟨show c0 + 0 ≤ 601024 by omega, show s0 + 0 ≤ 7293034 by omega⟩ (Nat.le_of_ble_eq_true rfl) hS hAB (fun v9 H3 locs hq hz8 hfr9 hS => ?_)
    obtain ⟨rfl, hM⟩ := hq
    have hDS := rf_D hp hDS hfr9
    have f_o := rf_o hp f_o hfr9
    refine lv_icmp_eq (tgt := 2029) hx hb dL_law_260 (by decide) (fun c_260 => ?_) (fun c_260 => ?_)
    rotate_left
    · exact absurd rfl c_260
    exact hK H3 locs _ _ (show c0 + 0 ≤ c0 + 200 by omega) (show s0 + 0 ≤ s0 + 4000 by omega) (li_mk hb9 hu hBy hbb hO hM hDS f_o) hS ls (lv_sub hl [0, 1, 2, 3, 4] rfl)

set_option maxHeartbeats 4000000 in
set_option maxRecDepth 100000 in
/-- the law: check -/
theorem lc_check {p : Program} {l : Launch} {e : Env} {s : State} {m : MethodId} {below : List Frame} {meth : Method} {c : Code} {Q : State → Prop} {b L : Nat} {xs : Nat → Int32} {G : CG} {B : Nat → Nat} {x bu pa ou i c0 s0 : Nat} {H : Heap} {locs : List Loc} {ls : Array Slot} (hst : l.stackTraces = false) (E : CallFix p m c code 7 s ([.ref b] : List Value).toArray TB RL) (hG : KT G s) (hE : EF G s s.heap) (hXs : va_X b L xs s s.heap) (hbl : b < s.heap.size) (hL : L ≤ 3072) (hZ : EFA G s.heap.size) (hp : LAp G B x bu pa ou) (hnew : ∀ q, LAO B x bu pa ou q → s.heap.size ≤ q) (hi6 : i + 6 ≤ L) (hc9 : c0 + 200 ≤ 601024) (hs9 : s0 + 4000 ≤ 7293034) (hI : LI G B x bu pa ou H) (hS : va_S (fun q9 => s.heap.size ≤ q9) s.heap H locs) (hl : lv_has ls 7 [(4, .int (nI i)), (3, .ref ou), (2, .ref (B 0)), (1, .ref x), (0, .ref b)]) (hK : ∀ (H : Heap) (locs : List Loc) (cs sl : Nat), cs ≤ c0 + 200 → sl ≤ s0 + 4000 → LI G B x bu pa ou H → va_S (fun q9 => s.heap.size ≤ q9) s.heap H locs → ∀ ls : Array Slot, lv_has ls 7 [(4, .int (nI i)), (3, .ref ou), (2, .ref (B 0)), (1, .ref x), (0, .ref b)] → W p l e room_1 s m ([.ref b] : List Value).toArray below meth c H locs cs sl Q (F0 m 2029 ls [])) : W p l e room_1 s m ([.ref b] : List Value).toArray below meth c H locs c0 s0 Q (F0 m 1366 ls []) := by
  obtain ⟨b9, u, nc, np, nh, bk, es, bf, bb, da, hi, f, t, tl, ps, er, ea, ns, ne, se, dr, sk, hb9, hu, hBy, hbb, hO, hM, hDS, f_o⟩ := hI
  have hx := E.1
  have hb := E.2.1
  have hMD := hp.1
  have hDD := hp.2.1
  obtain ⟨⟨h0, hc0⟩, ⟨h1, hp0⟩, ⟨h2, hh⟩, ⟨td, htd, h3⟩, hCr, hPr, hHo, hIj⟩ := id hO
  have hEA : ∀ q9, s.heap.size ≤ q9 → EFA G q9 := fun q9 h9 => Nat.le_trans hZ h9
  have hbA : ¬ s.heap.size ≤ b := Nat.not_le.mpr hbl
  have hAo9 : ∀ q, q = ou → s.heap.size ≤ q := fun q h => hnew q (Or.inr (Or.inr (Or.inr (Or.inl h))))
  have hAB : ∀ q, MA B q → s.heap.size ≤ q := fun q h => hnew q (Or.inr (Or.inr (Or.inr (Or.inr h))))
  have hAO := lao_lt hM hDS f_o
  have hz9 : EFA G H.size := Nat.le_trans hZ hS.1
  have hou : ou < H.size := va_at.lt f_o
  obtain ⟨z1, hz_1⟩ : ∃ z, xs (i + 1) = z := ⟨_, rfl⟩
  obtain ⟨z2, hz_2⟩ : ∃ z, xs (i + 2) = z := ⟨_, rfl⟩
  obtain ⟨z3, hz_3⟩ : ∃ z, xs (i + 3) = z := ⟨_, rfl⟩
  obtain ⟨z4, hz_4⟩ : ∃ z, xs (i + 4) = z := ⟨_, rfl⟩
  obtain ⟨z5, hz_5⟩ : ∃ z, xs (i + 5) = z := ⟨_, rfl⟩
  rcases inV01 z1 0 (nI nc - 1) with hy0 | hy1
  · refine lv_aload_n hx hb dL_law_1366 rfl (lv_at hl 3 rfl) ?_
    refine lv_aload_n hx hb dL_law_1367 rfl (lv_at hl 4 rfl) ?_
    refine lv_iload hx hb dL_law_1368 (lv_at hl 0 rfl) ?_
    refine lv_iconst (v := 1) hx hb dL_law_1370 rfl ?_
    refine lv_iadd hx hb dL_law_1371 ?_
    refine l_sld (k := i + 1) hx hb hXs hbl hbA hS (ixq (nI_ad rfl rfl)) (by omega) hL hz_1 dL_law_1372 ?_
    refine lv_aload_n hx hb dL_law_1373 rfl (lv_at hl 4 rfl) ?_
    refine lv_iload hx hb dL_law_1374 (lv_at hl 0 rfl) ?_
    refine lv_iconst (v := 2) hx hb dL_law_1376 rfl ?_
    refine lv_iadd hx hb dL_law_1377 ?_
    refine l_sld (k := i + 2) hx hb hXs hbl hbA hS (ixq (nI_ad rfl rfl)) (by omega) hL hz_2 dL_law_1378 ?_
    refine lv_aload_n hx hb dL_law_1379 rfl (lv_at hl 4 rfl) ?_
    refine lv_iload hx hb dL_law_1380 (lv_at hl 0 rfl) ?_
    refine lv_iconst (v := 3) hx hb dL_law_1382 rfl ?_
    refine lv_iadd hx hb dL_law_1383 ?_
    refine l_sld (k := i + 3) hx hb hXs hbl hbA hS (ixq (nI_ad rfl rfl)) (by omega) hL hz_3 dL_law_1384 ?_
    refine lv_aload_n hx hb dL_law_1385 rfl (lv_at hl 4 rfl) ?_
    refine lv_iload hx hb dL_law_1386 (lv_at hl 0 rfl) ?_
    refine lv_iconst (v := 4) hx hb dL_law_1388 rfl ?_
    refine lv_iadd hx hb dL_law_1389 ?_
    refine l_sld (k := i + 4) hx hb hXs hbl hbA hS (ixq (nI_ad rfl rfl)) (by omega) hL hz_4 dL_law_1390 ?_
    refine lv_aload_n hx hb dL_law_1391 rfl (lv_at hl 4 rfl) ?_
    refine lv_iload hx hb dL_law_1392 (lv_at hl 0 rfl) ?_
    refine lv_iconst (v := 5) hx hb dL_law_1394 rfl ?_
    refine lv_iadd hx hb dL_law_1395 ?_
    refine l_sld (k := i + 5) hx hb hXs hbl hbA hS (ixq (nI_ad rfl rfl)) (by omega) hL hz_5 dL_law_1396 ?_
    refine lv_aload_n hx hb dL_law_1397 rfl (lv_at hl 1 rfl) ?_
    refine WW.callS (rest := []) (w_L_check_t1 l G z1 z2 z3 z4 z5 (P := DS G (LAO B x bu pa ou) x bu pa bb (nI b9) es bk da nc np nh u hi) (Tr.w (c_X7_check_x l hst G z1 hy0 hc0 z2 z3 z4 z5) (fun _ h9 => ds_dk h9))) yk_L_check E km_L_188 dL_law_1398 hG (hE.S hS hEA) ⟨hDS, _, hDS.1⟩ rfl rfl hl.1 ⟨Nat.le_of_ble_eq_true rfl, Nat.le_of_ble_eq_true rfl⟩ ⟨show c0 + 1 ≤ 601024 by omega, show s0 + 6 ≤ 7293034 by omega⟩ (Nat.le_of_ble_eq_true rfl) hS (fun q9 h9 => h9.elim) (fun v9 H1 locs hq hz8 hfr9 hS => ?_)
    obtain rfl := hq
    have hf9 : ∀ q : Nat, q < H.size → q ≠ ou → H1[q]? = H[q]? := fun q9 h9 _ => hfr9 q9 h9 (fun w9 => w9)
    have f_o := va_at.kept f_o (hfr9 _ (va_at.lt f_o) (fun w9 => w9))
    have hM := ro_M hp hM hf9
    have hDS := ro_D hp hDS hf9
    refine lv_istore (lv' := [(5, .int 1), (4, .int (nI i)), (3, .ref ou), (2, .ref (B 0)), (1, .ref x), (0, .ref b)]) hx hb dL_law_1401 hl (by decide) rfl (fun ls hl => ?_)
    refine lv_aload_n hx hb dL_law_1403 rfl (lv_at hl 3 rfl) ?_
    refine lv_aload_n hx hb dL_law_1404 rfl (lv_at hl 5 rfl) ?_
    refine lv_iload hx hb dL_law_1405 (lv_at hl 1 rfl) ?_
    refine lv_iconst (v := 1) hx hb dL_law_1407 rfl ?_
    refine lv_iadd hx hb dL_law_1408 ?_
    refine l_sld (k := i + 1) hx hb hXs hbl hbA hS (ixq (nI_ad rfl rfl)) (by omega) hL hz_1 dL_law_1409 ?_
    refine lv_aload_n hx hb dL_law_1410 rfl (lv_at hl 5 rfl) ?_
    refine lv_iload hx hb dL_law_1411 (lv_at hl 1 rfl) ?_
    refine lv_iconst (v := 2) hx hb dL_law_1413 rfl ?_
    refine lv_iadd hx hb dL_law_1414 ?_
    refine l_sld (k := i + 2) hx hb hXs hbl hbA hS (ixq (nI_ad rfl rfl)) (by omega) hL hz_2 dL_law_1415 ?_
    refine lv_aload_n hx hb dL_law_1416 rfl (lv_at hl 5 rfl) ?_
    refine lv_iload hx hb dL_law_1417 (lv_at hl 1 rfl) ?_
    refine lv_iconst (v := 3) hx hb dL_law_1419 rfl ?_
    refine lv_iadd hx hb dL_law_1420 ?_
    refine l_sld (k := i + 3) hx hb hXs hbl hbA hS (ixq (nI_ad rfl rfl)) (by omega) hL hz_3 dL_law_1421 ?_
    refine lv_aload_n hx hb dL_law_1422 rfl (lv_at hl 5 rfl) ?_
    refine lv_iload hx hb dL_law_1423 (lv_at hl 1 rfl) ?_
    refine lv_iconst (v := 4) hx hb dL_law_1425 rfl ?_
    refine lv_iadd hx hb dL_law_1426 ?_
    refine l_sld (k := i + 4) hx hb hXs hbl hbA hS (ixq (nI_ad rfl rfl)) (by omega) hL hz_4 dL_law_1427 ?_
    refine lv_aload_n hx hb dL_law_1428 rfl (lv_at hl 5 rfl) ?_
    refine lv_iload hx hb dL_law_1429 (lv_at hl 1 rfl) ?_
    refine lv_iconst (v := 5) hx hb dL_law_1431 rfl ?_
    refine lv_iadd hx hb dL_law_1432 ?_
    refine l_sld (k := i + 5) hx hb hXs hbl hbA hS (ixq (nI_ad rfl rfl)) (by omega) hL hz_5 dL_law_1433 ?_
    refine Wr.callV (rest := []) (c_X8_check_x l G hMD z1 z2 z3 z4 z5 (by rw [h0]; exact hy0)) yk_X8_check E km_L_191 dL_law_1434 hG (hE.S hS hEA) hM (At.recv hG hM.1 rfl) rfl rfl hl.1 ⟨Nat.le_of_ble_eq_true rfl, Nat.le_of_ble_eq_true rfl⟩ ⟨show c0 + 1 + 0 ≤ 601024 by omega, show s0 + 6 + 0 ≤ 7293034 by omega⟩ (Nat.le_of_ble_eq_true rfl) hS hAB (fun v9 H2 locs hq hz8 hfr9 hS => ?_)
    obtain ⟨rfl, hM⟩ := hq
    have hDS := rf_D hp hDS hfr9
    have f_o := rf_o hp f_o hfr9
    refine lv_istore (lv' := [(6, .int 0), (5, .int 1), (4, .int (nI i)), (3, .ref ou), (2, .ref (B 0)), (1, .ref x), (0, .ref b)]) hx hb dL_law_1437 hl (by decide) rfl (fun ls hl => ?_)
    refine lv_aload_n hx hb dL_law_1439 rfl (lv_at hl 4 rfl) ?_
    refine Rd.callV (rest := []) (c_X8_thrown l G) yk_X8_thrown E km_L_113 dL_law_1440 hG (hE.S hS hEA) hM (At.recv hG hM.1 rfl) rfl rfl hl.1 ⟨Nat.le_of_ble_eq_true rfl, Nat.le_of_ble_eq_true rfl⟩ ⟨show c0 + 1 + 0 ≤ 601024 by omega, show s0 + 6 + 0 ≤ 7293034 by omega⟩ (Nat.le_of_ble_eq_true rfl) ?_
    refine lv_ci (y := 1) rfl ?_
    refine lv_iload hx hb dL_law_1443 (lv_at hl 1 rfl) ?_
    refine lv_icmp_eq (tgt := 1450) hx hb dL_law_1445 (by decide) (fun c_1445 => ?_) (fun c_1445 => ?_)
    rotate_left
    · exact absurd c_1445 (by decide)
    refine lv_iload hx hb dL_law_1450 (lv_at hl 1 rfl) ?_
    refine lv_if_ne (tgt := 1467) hx hb dL_law_1452 (by decide) (fun c_1452 => ?_) (fun c_1452 => ?_)
    rotate_left
    · exact absurd c_1452 (by decide)
    refine lv_goto (tgt := 2029) hx hb dL_law_1467 (by decide) ?_
    exact hK H2 locs _ _ (show c0 + 1 + 0 ≤ c0 + 200 by omega) (show s0 + 6 + 0 ≤ s0 + 4000 by omega) (li_mk hb9 hu hBy hbb hO hM hDS f_o) hS ls (lv_sub hl [2, 3, 4, 5, 6] rfl)
  · obtain ⟨k, hk9, ez⟩ := ix_of (by omega) hy1
    rcases wr01 z2 z3 z4 z5 with hw0 | hw1
    · obtain ⟨n, hn9, ey⟩ := in_of (n := 9999) (by decide) (wr_day hw0)
      obtain ⟨ex1, pe1, te, nd, g1, g2, g3, g4, g5, g6, g7, g8, g9, g10⟩ := hCr k hk9
      refine lv_aload_n hx hb dL_law_1366 rfl (lv_at hl 3 rfl) ?_
      refine lv_aload_n hx hb dL_law_1367 rfl (lv_at hl 4 rfl) ?_
      refine lv_iload hx hb dL_law_1368 (lv_at hl 0 rfl) ?_
      refine lv_iconst (v := 1) hx hb dL_law_1370 rfl ?_
      refine lv_iadd hx hb dL_law_1371 ?_
      refine l_sld (k := i + 1) hx hb hXs hbl hbA hS (ixq (nI_ad rfl rfl)) (by omega) hL hz_1 dL_law_1372 ?_
      refine lv_aload_n hx hb dL_law_1373 rfl (lv_at hl 4 rfl) ?_
      refine lv_iload hx hb dL_law_1374 (lv_at hl 0 rfl) ?_
      refine lv_iconst (v := 2) hx hb dL_law_1376 rfl ?_
      refine lv_iadd hx hb dL_law_1377 ?_
      refine l_sld (k := i + 2) hx hb hXs hbl hbA hS (ixq (nI_ad rfl rfl)) (by omega) hL hz_2 dL_law_1378 ?_
      refine lv_aload_n hx hb dL_law_1379 rfl (lv_at hl 4 rfl) ?_
      refine lv_iload hx hb dL_law_1380 (lv_at hl 0 rfl) ?_
      refine lv_iconst (v := 3) hx hb dL_law_1382 rfl ?_
      refine lv_iadd hx hb dL_law_1383 ?_
      refine l_sld (k := i + 3) hx hb hXs hbl hbA hS (ixq (nI_ad rfl rfl)) (by omega) hL hz_3 dL_law_1384 ?_
      refine lv_aload_n hx hb dL_law_1385 rfl (lv_at hl 4 rfl) ?_
      refine lv_iload hx hb dL_law_1386 (lv_at hl 0 rfl) ?_
      refine lv_iconst (v := 4) hx hb dL_law_1388 rfl ?_
      refine lv_iadd hx hb dL_law_1389 ?_
      refine l_sld (k := i + 4) hx hb hXs hbl hbA hS (ixq (nI_ad rfl rfl)) (by omega) hL hz_4 dL_law_1390 ?_
      refine lv_aload_n hx hb dL_law_1391 rfl (lv_at hl 4 rfl) ?_
      refine lv_iload hx hb dL_law_1392 (lv_at hl 0 rfl) ?_
      refine lv_iconst (v := 5) hx hb dL_law_1394 rfl ?_
      refine lv_iadd hx hb dL_law_1395 ?_
      refine l_sld (k := i + 5) hx hb hXs hbl hbA hS (ixq (nI_ad rfl rfl)) (by omega) hL hz_5 dL_law_1396 ?_
      refine lv_aload_n hx hb dL_law_1397 rfl (lv_at hl 1 rfl) ?_
      refine WW.callS (rest := []) (w_L_check l G z1 z2 z3 z4 z5 (Q := (fun r9 _ => r9 = faultsV da np nc nh ex1 pe1 k n z3 z4 z5)) (f := f) (Rd.w (D := DS G (LAO B x bu pa ou) x bu pa bb (nI b9) es bk da nc np nh u hi) (c_X7_check l G z1 k ez hk9 hc0 hp0 hh z2 z3 z4 z5 n ex1 pe1 ey hn9 hw0 nd g7 g8 g1 (by omega) g3 (by omega)) (fun _ h9 => ds_dk h9)) (fun w9 => w9) (fun _ _ _ _ _ h9 => h9)) yk_L_check E km_L_188 dL_law_1398 hG (hE.S hS hEA) ⟨hDS, ⟨_, hDS.1⟩, f_o⟩ rfl rfl hl.1 ⟨Nat.le_of_ble_eq_true rfl, Nat.le_of_ble_eq_true rfl⟩ ⟨show c0 + 0 ≤ 601024 by omega, show s0 + 0 ≤ 7293034 by omega⟩ (Nat.le_of_ble_eq_true rfl) hS (fun q9 h9 => h9.elim (fun w9 => w9.elim) (hAo9 q9)) (fun v9 H3 locs hq hz8 hfr9 hS => ?_)
      obtain ⟨rfl, r, hQ9, f_o⟩ := hq
      have hf9 : ∀ q : Nat, q < H.size → q ≠ ou → H3[q]? = H[q]? := fun q9 h9 h8 => hfr9 q9 h9 (fun z9 => z9.elim (fun w9 => w9.elim) h8)
      have hM := ro_M hp hM hf9
      have hDS := ro_D hp hDS hf9
      refine lv_istore (lv' := [(5, .int 0), (4, .int (nI i)), (3, .ref ou), (2, .ref (B 0)), (1, .ref x), (0, .ref b)]) hx hb dL_law_1401 hl (by decide) rfl (fun ls hl => ?_)
      refine lv_aload_n hx hb dL_law_1403 rfl (lv_at hl 3 rfl) ?_
      refine lv_aload_n hx hb dL_law_1404 rfl (lv_at hl 5 rfl) ?_
      refine lv_iload hx hb dL_law_1405 (lv_at hl 1 rfl) ?_
      refine lv_iconst (v := 1) hx hb dL_law_1407 rfl ?_
      refine lv_iadd hx hb dL_law_1408 ?_
      refine l_sld (k := i + 1) hx hb hXs hbl hbA hS (ixq (nI_ad rfl rfl)) (by omega) hL hz_1 dL_law_1409 ?_
      refine lv_aload_n hx hb dL_law_1410 rfl (lv_at hl 5 rfl) ?_
      refine lv_iload hx hb dL_law_1411 (lv_at hl 1 rfl) ?_
      refine lv_iconst (v := 2) hx hb dL_law_1413 rfl ?_
      refine lv_iadd hx hb dL_law_1414 ?_
      refine l_sld (k := i + 2) hx hb hXs hbl hbA hS (ixq (nI_ad rfl rfl)) (by omega) hL hz_2 dL_law_1415 ?_
      refine lv_aload_n hx hb dL_law_1416 rfl (lv_at hl 5 rfl) ?_
      refine lv_iload hx hb dL_law_1417 (lv_at hl 1 rfl) ?_
      refine lv_iconst (v := 3) hx hb dL_law_1419 rfl ?_
      refine lv_iadd hx hb dL_law_1420 ?_
      refine l_sld (k := i + 3) hx hb hXs hbl hbA hS (ixq (nI_ad rfl rfl)) (by omega) hL hz_3 dL_law_1421 ?_
      refine lv_aload_n hx hb dL_law_1422 rfl (lv_at hl 5 rfl) ?_
      refine lv_iload hx hb dL_law_1423 (lv_at hl 1 rfl) ?_
      refine lv_iconst (v := 4) hx hb dL_law_1425 rfl ?_
      refine lv_iadd hx hb dL_law_1426 ?_
      refine l_sld (k := i + 4) hx hb hXs hbl hbA hS (ixq (nI_ad rfl rfl)) (by omega) hL hz_4 dL_law_1427 ?_
      refine lv_aload_n hx hb dL_law_1428 rfl (lv_at hl 5 rfl) ?_
      refine lv_iload hx hb dL_law_1429 (lv_at hl 1 rfl) ?_
      refine lv_iconst (v := 5) hx hb dL_law_1431 rfl ?_
      refine lv_iadd hx hb dL_law_1432 ?_
      refine l_sld (k := i + 5) hx hb hXs hbl hbA hS (ixq (nI_ad rfl rfl)) (by omega) hL hz_5 dL_law_1433 ?_
      refine Wr.callV (rest := []) (c_X8_check l G hMD z1 z2 z3 z4 z5 k n np nc nh ex1 pe1 ez ey (by omega) hn9 (by rw [h0]; exact hy1) h1 hp0 h0 hc0 h2 hh g1 (by omega) g3 (by omega) hw0) yk_X8_check E km_L_191 dL_law_1434 hG (hE.S hS hEA) hM (At.recv hG hM.1 rfl) rfl rfl hl.1 ⟨Nat.le_of_ble_eq_true rfl, Nat.le_of_ble_eq_true rfl⟩ ⟨show c0 + 0 + 0 ≤ 601024 by omega, show s0 + 0 + 0 ≤ 7293034 by omega⟩ (Nat.le_of_ble_eq_true rfl) hS hAB (fun v9 H4 locs hq hz8 hfr9 hS => ?_)
      obtain ⟨rfl, hM⟩ := hq
      have hDS := rf_D hp hDS hfr9
      have f_o := rf_o hp f_o hfr9
      refine lv_istore (lv' := [(6, .int (faultsV da np nc nh ex1 pe1 k n z3 z4 z5)), (5, .int 0), (4, .int (nI i)), (3, .ref ou), (2, .ref (B 0)), (1, .ref x), (0, .ref b)]) hx hb dL_law_1437 hl (by decide) rfl (fun ls hl => ?_)
      refine lv_aload_n hx hb dL_law_1439 rfl (lv_at hl 4 rfl) ?_
      refine Rd.callV (rest := []) (c_X8_thrown l G) yk_X8_thrown E km_L_113 dL_law_1440 hG (hE.S hS hEA) hM (At.recv hG hM.1 rfl) rfl rfl hl.1 ⟨Nat.le_of_ble_eq_true rfl, Nat.le_of_ble_eq_true rfl⟩ ⟨show c0 + 0 + 0 ≤ 601024 by omega, show s0 + 0 + 0 ≤ 7293034 by omega⟩ (Nat.le_of_ble_eq_true rfl) ?_
      refine lv_ci (y := 0) rfl ?_
      refine lv_iload hx hb dL_law_1443 (lv_at hl 1 rfl) ?_
      refine lv_icmp_eq (tgt := 1450) hx hb dL_law_1445 (by decide) (fun c_1445 => ?_) (fun c_1445 => ?_)
      rotate_left
      · exact absurd c_1445 (by decide)
      refine lv_iload hx hb dL_law_1450 (lv_at hl 1 rfl) ?_
      refine lv_if_ne (tgt := 1467) hx hb dL_law_1452 (by decide) (fun c_1452 => ?_) (fun c_1452 => ?_)
      · exact absurd c_1452 (by decide)
      refine lv_aload_n hx hb dL_law_1455 rfl (lv_at hl 3 rfl) ?_
      refine lv_iconst (v := 0) hx hb dL_law_1456 rfl ?_
      refine g_lld 0 E hG f_o rfl (by omega) (by decide) dL_law_1457 ?_
      refine lv_iload hx hb dL_law_1458 (lv_at hl 0 rfl) ?_
      refine lv_i2l (v := (faultsV da np nc nh ex1 pe1 k n z3 z4 z5).toInt64) hx hb dL_law_1460 rfl ?_
      refine W.lcmp hx hb dL_law_1461 ?_
      refine lv_if_eq (tgt := 1467) hx hb dL_law_1462 (by decide) (fun c_1462 => ?_) (fun c_1462 => ?_)
      rotate_left
      · exact absurd ((lg_cmp_eq _ _).mpr (by rw [pk_uLs]; rw [hQ9])) c_1462
      refine lv_goto (tgt := 2029) hx hb dL_law_1467 (by decide) ?_
      exact hK H4 locs _ _ (show c0 + 0 + 0 ≤ c0 + 200 by omega) (show s0 + 0 + 0 ≤ s0 + 4000 by omega) (li_mk hb9 hu hBy hbb hO hM hDS f_o) hS ls (lv_sub hl [2, 3, 4, 5, 6] rfl)
    · refine lv_aload_n hx hb dL_law_1366 rfl (lv_at hl 3 rfl) ?_
      refine lv_aload_n hx hb dL_law_1367 rfl (lv_at hl 4 rfl) ?_
      refine lv_iload hx hb dL_law_1368 (lv_at hl 0 rfl) ?_
      refine lv_iconst (v := 1) hx hb dL_law_1370 rfl ?_
      refine lv_iadd hx hb dL_law_1371 ?_
      refine l_sld (k := i + 1) hx hb hXs hbl hbA hS (ixq (nI_ad rfl rfl)) (by omega) hL hz_1 dL_law_1372 ?_
      refine lv_aload_n hx hb dL_law_1373 rfl (lv_at hl 4 rfl) ?_
      refine lv_iload hx hb dL_law_1374 (lv_at hl 0 rfl) ?_
      refine lv_iconst (v := 2) hx hb dL_law_1376 rfl ?_
      refine lv_iadd hx hb dL_law_1377 ?_
      refine l_sld (k := i + 2) hx hb hXs hbl hbA hS (ixq (nI_ad rfl rfl)) (by omega) hL hz_2 dL_law_1378 ?_
      refine lv_aload_n hx hb dL_law_1379 rfl (lv_at hl 4 rfl) ?_
      refine lv_iload hx hb dL_law_1380 (lv_at hl 0 rfl) ?_
      refine lv_iconst (v := 3) hx hb dL_law_1382 rfl ?_
      refine lv_iadd hx hb dL_law_1383 ?_
      refine l_sld (k := i + 3) hx hb hXs hbl hbA hS (ixq (nI_ad rfl rfl)) (by omega) hL hz_3 dL_law_1384 ?_
      refine lv_aload_n hx hb dL_law_1385 rfl (lv_at hl 4 rfl) ?_
      refine lv_iload hx hb dL_law_1386 (lv_at hl 0 rfl) ?_
      refine lv_iconst (v := 4) hx hb dL_law_1388 rfl ?_
      refine lv_iadd hx hb dL_law_1389 ?_
      refine l_sld (k := i + 4) hx hb hXs hbl hbA hS (ixq (nI_ad rfl rfl)) (by omega) hL hz_4 dL_law_1390 ?_
      refine lv_aload_n hx hb dL_law_1391 rfl (lv_at hl 4 rfl) ?_
      refine lv_iload hx hb dL_law_1392 (lv_at hl 0 rfl) ?_
      refine lv_iconst (v := 5) hx hb dL_law_1394 rfl ?_
      refine lv_iadd hx hb dL_law_1395 ?_
      refine l_sld (k := i + 5) hx hb hXs hbl hbA hS (ixq (nI_ad rfl rfl)) (by omega) hL hz_5 dL_law_1396 ?_
      refine lv_aload_n hx hb dL_law_1397 rfl (lv_at hl 1 rfl) ?_
      refine WW.callS (rest := []) (w_L_check_t2 l G z1 z2 z3 z4 z5 (P := DS G (LAO B x bu pa ou) x bu pa bb (nI b9) es bk da nc np nh u hi) (Tr.w (c_X7_check_y l hst G z1 k ez hk9 hc0 z2 z3 z4 z5 hw1) (fun _ h9 => ds_dk h9))) yk_L_check E km_L_188 dL_law_1398 hG (hE.S hS hEA) ⟨hDS, _, hDS.1⟩ rfl rfl hl.1 ⟨Nat.le_of_ble_eq_true rfl, Nat.le_of_ble_eq_true rfl⟩ ⟨show c0 + 1 ≤ 601024 by omega, show s0 + 6 ≤ 7293034 by omega⟩ (Nat.le_of_ble_eq_true rfl) hS (fun q9 h9 => h9.elim) (fun v9 H5 locs hq hz8 hfr9 hS => ?_)
      obtain rfl := hq
      have hf9 : ∀ q : Nat, q < H.size → q ≠ ou → H5[q]? = H[q]? := fun q9 h9 _ => hfr9 q9 h9 (fun w9 => w9)
      have f_o := va_at.kept f_o (hfr9 _ (va_at.lt f_o) (fun w9 => w9))
      have hM := ro_M hp hM hf9
      have hDS := ro_D hp hDS hf9
      refine lv_istore (lv' := [(5, .int 2), (4, .int (nI i)), (3, .ref ou), (2, .ref (B 0)), (1, .ref x), (0, .ref b)]) hx hb dL_law_1401 hl (by decide) rfl (fun ls hl => ?_)
      refine lv_aload_n hx hb dL_law_1403 rfl (lv_at hl 3 rfl) ?_
      refine lv_aload_n hx hb dL_law_1404 rfl (lv_at hl 5 rfl) ?_
      refine lv_iload hx hb dL_law_1405 (lv_at hl 1 rfl) ?_
      refine lv_iconst (v := 1) hx hb dL_law_1407 rfl ?_
      refine lv_iadd hx hb dL_law_1408 ?_
      refine l_sld (k := i + 1) hx hb hXs hbl hbA hS (ixq (nI_ad rfl rfl)) (by omega) hL hz_1 dL_law_1409 ?_
      refine lv_aload_n hx hb dL_law_1410 rfl (lv_at hl 5 rfl) ?_
      refine lv_iload hx hb dL_law_1411 (lv_at hl 1 rfl) ?_
      refine lv_iconst (v := 2) hx hb dL_law_1413 rfl ?_
      refine lv_iadd hx hb dL_law_1414 ?_
      refine l_sld (k := i + 2) hx hb hXs hbl hbA hS (ixq (nI_ad rfl rfl)) (by omega) hL hz_2 dL_law_1415 ?_
      refine lv_aload_n hx hb dL_law_1416 rfl (lv_at hl 5 rfl) ?_
      refine lv_iload hx hb dL_law_1417 (lv_at hl 1 rfl) ?_
      refine lv_iconst (v := 3) hx hb dL_law_1419 rfl ?_
      refine lv_iadd hx hb dL_law_1420 ?_
      refine l_sld (k := i + 3) hx hb hXs hbl hbA hS (ixq (nI_ad rfl rfl)) (by omega) hL hz_3 dL_law_1421 ?_
      refine lv_aload_n hx hb dL_law_1422 rfl (lv_at hl 5 rfl) ?_
      refine lv_iload hx hb dL_law_1423 (lv_at hl 1 rfl) ?_
      refine lv_iconst (v := 4) hx hb dL_law_1425 rfl ?_
      refine lv_iadd hx hb dL_law_1426 ?_
      refine l_sld (k := i + 4) hx hb hXs hbl hbA hS (ixq (nI_ad rfl rfl)) (by omega) hL hz_4 dL_law_1427 ?_
      refine lv_aload_n hx hb dL_law_1428 rfl (lv_at hl 5 rfl) ?_
      refine lv_iload hx hb dL_law_1429 (lv_at hl 1 rfl) ?_
      refine lv_iconst (v := 5) hx hb dL_law_1431 rfl ?_
      refine lv_iadd hx hb dL_law_1432 ?_
      refine l_sld (k := i + 5) hx hb hXs hbl hbA hS (ixq (nI_ad rfl rfl)) (by omega) hL hz_5 dL_law_1433 ?_
      refine Wr.callV (rest := []) (c_X8_check_y l G hMD z1 z2 z3 z4 z5 (by rw [h0]; exact hy1) hw1) yk_X8_check E km_L_191 dL_law_1434 hG (hE.S hS hEA) hM (At.recv hG hM.1 rfl) rfl rfl hl.1 ⟨Nat.le_of_ble_eq_true rfl, Nat.le_of_ble_eq_true rfl⟩ ⟨show c0 + 1 + 0 ≤ 601024 by omega, show s0 + 6 + 0 ≤ 7293034 by omega⟩ (Nat.le_of_ble_eq_true rfl) hS hAB (fun v9 H6 locs hq hz8 hfr9 hS => ?_)
      obtain ⟨rfl, hM⟩ := hq
      have hDS := rf_D hp hDS hfr9
      have f_o := rf_o hp f_o hfr9
      refine lv_istore (lv' := [(6, .int 0), (5, .int 2), (4, .int (nI i)), (3, .ref ou), (2, .ref (B 0)), (1, .ref x), (0, .ref b)]) hx hb dL_law_1437 hl (by decide) rfl (fun ls hl => ?_)
      refine lv_aload_n hx hb dL_law_1439 rfl (lv_at hl 4 rfl) ?_
      refine Rd.callV (rest := []) (c_X8_thrown l G) yk_X8_thrown E km_L_113 dL_law_1440 hG (hE.S hS hEA) hM (At.recv hG hM.1 rfl) rfl rfl hl.1 ⟨Nat.le_of_ble_eq_true rfl, Nat.le_of_ble_eq_true rfl⟩ ⟨show c0 + 1 + 0 ≤ 601024 by omega, show s0 + 6 + 0 ≤ 7293034 by omega⟩ (Nat.le_of_ble_eq_true rfl) ?_
      refine lv_ci (y := 2) rfl ?_
      refine lv_iload hx hb dL_law_1443 (lv_at hl 1 rfl) ?_
      refine lv_icmp_eq (tgt := 1450) hx hb dL_law_1445 (by decide) (fun c_1445 => ?_) (fun c_1445 => ?_)
      rotate_left
      · exact absurd c_1445 (by decide)
      refine lv_iload hx hb dL_law_1450 (lv_at hl 1 rfl) ?_
      refine lv_if_ne (tgt := 1467) hx hb dL_law_1452 (by decide) (fun c_1452 => ?_) (fun c_1452 => ?_)
      rotate_left
      · exact absurd c_1452 (by decide)
      refine lv_goto (tgt := 2029) hx hb dL_law_1467 (by decide) ?_
      exact hK H6 locs _ _ (show c0 + 1 + 0 ≤ c0 + 200 by omega) (show s0 + 6 + 0 ≤ s0 + 4000 by omega) (li_mk hb9 hu hBy hbb hO hM hDS f_o) hS ls (lv_sub hl [2, 3, 4, 5, 6] rfl)

set_option maxHeartbeats 4000000 in
set_option maxRecDepth 100000 in
/-- the law: lastDay -/
theorem lc_lastDay {p : Program} {l : Launch} {e : Env} {s : State} {m : MethodId} {below : List Frame} {meth : Method} {c : Code} {Q : State → Prop} {b L : Nat} {xs : Nat → Int32} {G : CG} {B : Nat → Nat} {x bu pa ou i c0 s0 : Nat} {H : Heap} {locs : List Loc} {ls : Array Slot} (hst : l.stackTraces = false) (E : CallFix p m c code 7 s ([.ref b] : List Value).toArray TB RL) (hG : KT G s) (hE : EF G s s.heap) (hXs : va_X b L xs s s.heap) (hbl : b < s.heap.size) (hL : L ≤ 3072) (hZ : EFA G s.heap.size) (hp : LAp G B x bu pa ou) (hnew : ∀ q, LAO B x bu pa ou q → s.heap.size ≤ q) (hi6 : i + 6 ≤ L) (hc9 : c0 + 200 ≤ 601024) (hs9 : s0 + 4000 ≤ 7293034) (hI : LI G B x bu pa ou H) (hS : va_S (fun q9 => s.heap.size ≤ q9) s.heap H locs) (hl : lv_has ls 7 [(4, .int (nI i)), (3, .ref ou), (2, .ref (B 0)), (1, .ref x), (0, .ref b)]) (hK : ∀ (H : Heap) (locs : List Loc) (cs sl : Nat), cs ≤ c0 + 200 → sl ≤ s0 + 4000 → LI G B x bu pa ou H → va_S (fun q9 => s.heap.size ≤ q9) s.heap H locs → ∀ ls : Array Slot, lv_has ls 7 [(4, .int (nI i)), (3, .ref ou), (2, .ref (B 0)), (1, .ref x), (0, .ref b)] → W p l e room_1 s m ([.ref b] : List Value).toArray below meth c H locs cs sl Q (F0 m 2029 ls [])) : W p l e room_1 s m ([.ref b] : List Value).toArray below meth c H locs c0 s0 Q (F0 m 1470 ls []) := by
  obtain ⟨b9, u, nc, np, nh, bk, es, bf, bb, da, hi, f, t, tl, ps, er, ea, ns, ne, se, dr, sk, hb9, hu, hBy, hbb, hO, hM, hDS, f_o⟩ := hI
  have hx := E.1
  have hb := E.2.1
  have hMD := hp.1
  have hDD := hp.2.1
  obtain ⟨⟨h0, hc0⟩, ⟨h1, hp0⟩, ⟨h2, hh⟩, ⟨td, htd, h3⟩, hCr, hPr, hHo, hIj⟩ := id hO
  have hEA : ∀ q9, s.heap.size ≤ q9 → EFA G q9 := fun q9 h9 => Nat.le_trans hZ h9
  have hbA : ¬ s.heap.size ≤ b := Nat.not_le.mpr hbl
  have hAo9 : ∀ q, q = ou → s.heap.size ≤ q := fun q h => hnew q (Or.inr (Or.inr (Or.inr (Or.inl h))))
  have hAB : ∀ q, MA B q → s.heap.size ≤ q := fun q h => hnew q (Or.inr (Or.inr (Or.inr (Or.inr h))))
  have hAO := lao_lt hM hDS f_o
  have hz9 : EFA G H.size := Nat.le_trans hZ hS.1
  have hou : ou < H.size := va_at.lt f_o
  obtain ⟨z1, hz_1⟩ : ∃ z, xs (i + 1) = z := ⟨_, rfl⟩
  obtain ⟨z2, hz_2⟩ : ∃ z, xs (i + 2) = z := ⟨_, rfl⟩
  rcases inV01 z1 0 (nI nc - 1) with hy0 | hy1
  · refine lv_aload_n hx hb dL_law_1470 rfl (lv_at hl 3 rfl) ?_
    refine lv_aload_n hx hb dL_law_1471 rfl (lv_at hl 4 rfl) ?_
    refine lv_iload hx hb dL_law_1472 (lv_at hl 0 rfl) ?_
    refine lv_iconst (v := 1) hx hb dL_law_1474 rfl ?_
    refine lv_iadd hx hb dL_law_1475 ?_
    refine l_sld (k := i + 1) hx hb hXs hbl hbA hS (ixq (nI_ad rfl rfl)) (by omega) hL hz_1 dL_law_1476 ?_
    refine lv_aload_n hx hb dL_law_1477 rfl (lv_at hl 4 rfl) ?_
    refine lv_iload hx hb dL_law_1478 (lv_at hl 0 rfl) ?_
    refine lv_iconst (v := 2) hx hb dL_law_1480 rfl ?_
    refine lv_iadd hx hb dL_law_1481 ?_
    refine l_sld (k := i + 2) hx hb hXs hbl hbA hS (ixq (nI_ad rfl rfl)) (by omega) hL hz_2 dL_law_1482 ?_
    refine lv_aload_n hx hb dL_law_1483 rfl (lv_at hl 1 rfl) ?_
    refine WW.callS (rest := []) (w_L_lastDay_t1 l G z1 z2 (P := DS G (LAO B x bu pa ou) x bu pa bb (nI b9) es bk da nc np nh u hi) (Tr.w (c_X7_lastDay_x l hst G z1 hy0 hc0 z2) (fun _ h9 => ds_dk h9))) yk_L_lastDay E km_L_192 dL_law_1484 hG (hE.S hS hEA) ⟨hDS, _, hDS.1⟩ rfl rfl hl.1 ⟨Nat.le_of_ble_eq_true rfl, Nat.le_of_ble_eq_true rfl⟩ ⟨show c0 + 1 ≤ 601024 by omega, show s0 + 6 ≤ 7293034 by omega⟩ (Nat.le_of_ble_eq_true rfl) hS (fun q9 h9 => h9.elim) (fun v9 H1 locs hq hz8 hfr9 hS => ?_)
    obtain rfl := hq
    have hf9 : ∀ q : Nat, q < H.size → q ≠ ou → H1[q]? = H[q]? := fun q9 h9 _ => hfr9 q9 h9 (fun w9 => w9)
    have f_o := va_at.kept f_o (hfr9 _ (va_at.lt f_o) (fun w9 => w9))
    have hM := ro_M hp hM hf9
    have hDS := ro_D hp hDS hf9
    refine lv_istore (lv' := [(5, .int 1), (4, .int (nI i)), (3, .ref ou), (2, .ref (B 0)), (1, .ref x), (0, .ref b)]) hx hb dL_law_1487 hl (by decide) rfl (fun ls hl => ?_)
    refine lv_aload_n hx hb dL_law_1489 rfl (lv_at hl 3 rfl) ?_
    refine lv_aload_n hx hb dL_law_1490 rfl (lv_at hl 5 rfl) ?_
    refine lv_iload hx hb dL_law_1491 (lv_at hl 1 rfl) ?_
    refine lv_iconst (v := 1) hx hb dL_law_1493 rfl ?_
    refine lv_iadd hx hb dL_law_1494 ?_
    refine l_sld (k := i + 1) hx hb hXs hbl hbA hS (ixq (nI_ad rfl rfl)) (by omega) hL hz_1 dL_law_1495 ?_
    refine lv_aload_n hx hb dL_law_1496 rfl (lv_at hl 5 rfl) ?_
    refine lv_iload hx hb dL_law_1497 (lv_at hl 1 rfl) ?_
    refine lv_iconst (v := 2) hx hb dL_law_1499 rfl ?_
    refine lv_iadd hx hb dL_law_1500 ?_
    refine l_sld (k := i + 2) hx hb hXs hbl hbA hS (ixq (nI_ad rfl rfl)) (by omega) hL hz_2 dL_law_1501 ?_
    refine Wr.callV (rest := []) (c_X8_lastDay_x l G hMD z1 z2 (by rw [h0]; exact hy0)) yk_X8_lastDay E km_L_194 dL_law_1502 hG (hE.S hS hEA) hM (At.recv hG hM.1 rfl) rfl rfl hl.1 ⟨Nat.le_of_ble_eq_true rfl, Nat.le_of_ble_eq_true rfl⟩ ⟨show c0 + 1 + 0 ≤ 601024 by omega, show s0 + 6 + 0 ≤ 7293034 by omega⟩ (Nat.le_of_ble_eq_true rfl) hS hAB (fun v9 H2 locs hq hz8 hfr9 hS => ?_)
    obtain ⟨rfl, hM⟩ := hq
    have hDS := rf_D hp hDS hfr9
    have f_o := rf_o hp f_o hfr9
    refine lv_istore (lv' := [(6, .int 0), (5, .int 1), (4, .int (nI i)), (3, .ref ou), (2, .ref (B 0)), (1, .ref x), (0, .ref b)]) hx hb dL_law_1505 hl (by decide) rfl (fun ls hl => ?_)
    refine lv_aload_n hx hb dL_law_1507 rfl (lv_at hl 4 rfl) ?_
    refine Rd.callV (rest := []) (c_X8_thrown l G) yk_X8_thrown E km_L_113 dL_law_1508 hG (hE.S hS hEA) hM (At.recv hG hM.1 rfl) rfl rfl hl.1 ⟨Nat.le_of_ble_eq_true rfl, Nat.le_of_ble_eq_true rfl⟩ ⟨show c0 + 1 + 0 ≤ 601024 by omega, show s0 + 6 + 0 ≤ 7293034 by omega⟩ (Nat.le_of_ble_eq_true rfl) ?_
    refine lv_ci (y := 1) rfl ?_
    refine lv_iload hx hb dL_law_1511 (lv_at hl 1 rfl) ?_
    refine lv_icmp_eq (tgt := 1518) hx hb dL_law_1513 (by decide) (fun c_1513 => ?_) (fun c_1513 => ?_)
    rotate_left
    · exact absurd c_1513 (by decide)
    refine lv_iload hx hb dL_law_1518 (lv_at hl 1 rfl) ?_
    refine lv_if_ne (tgt := 1535) hx hb dL_law_1520 (by decide) (fun c_1520 => ?_) (fun c_1520 => ?_)
    rotate_left
    · exact absurd c_1520 (by decide)
    refine lv_goto (tgt := 2029) hx hb dL_law_1535 (by decide) ?_
    exact hK H2 locs _ _ (show c0 + 1 + 0 ≤ c0 + 200 by omega) (show s0 + 6 + 0 ≤ s0 + 4000 by omega) (li_mk hb9 hu hBy hbb hO hM hDS f_o) hS ls (lv_sub hl [2, 3, 4, 5, 6] rfl)
  · obtain ⟨k, hk9, ez⟩ := ix_of (by omega) hy1
    rcases inV01 z2 0 9999 with hw0 | hw1
    · refine lv_aload_n hx hb dL_law_1470 rfl (lv_at hl 3 rfl) ?_
      refine lv_aload_n hx hb dL_law_1471 rfl (lv_at hl 4 rfl) ?_
      refine lv_iload hx hb dL_law_1472 (lv_at hl 0 rfl) ?_
      refine lv_iconst (v := 1) hx hb dL_law_1474 rfl ?_
      refine lv_iadd hx hb dL_law_1475 ?_
      refine l_sld (k := i + 1) hx hb hXs hbl hbA hS (ixq (nI_ad rfl rfl)) (by omega) hL hz_1 dL_law_1476 ?_
      refine lv_aload_n hx hb dL_law_1477 rfl (lv_at hl 4 rfl) ?_
      refine lv_iload hx hb dL_law_1478 (lv_at hl 0 rfl) ?_
      refine lv_iconst (v := 2) hx hb dL_law_1480 rfl ?_
      refine lv_iadd hx hb dL_law_1481 ?_
      refine l_sld (k := i + 2) hx hb hXs hbl hbA hS (ixq (nI_ad rfl rfl)) (by omega) hL hz_2 dL_law_1482 ?_
      refine lv_aload_n hx hb dL_law_1483 rfl (lv_at hl 1 rfl) ?_
      refine WW.callS (rest := []) (w_L_lastDay_t2 l G z1 z2 (P := DS G (LAO B x bu pa ou) x bu pa bb (nI b9) es bk da nc np nh u hi) (Tr.w (c_X7_lastDay_y l hst G z1 k ez hk9 hc0 z2 hw0) (fun _ h9 => ds_dk h9))) yk_L_lastDay E km_L_192 dL_law_1484 hG (hE.S hS hEA) ⟨hDS, _, hDS.1⟩ rfl rfl hl.1 ⟨Nat.le_of_ble_eq_true rfl, Nat.le_of_ble_eq_true rfl⟩ ⟨show c0 + 1 ≤ 601024 by omega, show s0 + 6 ≤ 7293034 by omega⟩ (Nat.le_of_ble_eq_true rfl) hS (fun q9 h9 => h9.elim) (fun v9 H3 locs hq hz8 hfr9 hS => ?_)
      obtain rfl := hq
      have hf9 : ∀ q : Nat, q < H.size → q ≠ ou → H3[q]? = H[q]? := fun q9 h9 _ => hfr9 q9 h9 (fun w9 => w9)
      have f_o := va_at.kept f_o (hfr9 _ (va_at.lt f_o) (fun w9 => w9))
      have hM := ro_M hp hM hf9
      have hDS := ro_D hp hDS hf9
      refine lv_istore (lv' := [(5, .int 2), (4, .int (nI i)), (3, .ref ou), (2, .ref (B 0)), (1, .ref x), (0, .ref b)]) hx hb dL_law_1487 hl (by decide) rfl (fun ls hl => ?_)
      refine lv_aload_n hx hb dL_law_1489 rfl (lv_at hl 3 rfl) ?_
      refine lv_aload_n hx hb dL_law_1490 rfl (lv_at hl 5 rfl) ?_
      refine lv_iload hx hb dL_law_1491 (lv_at hl 1 rfl) ?_
      refine lv_iconst (v := 1) hx hb dL_law_1493 rfl ?_
      refine lv_iadd hx hb dL_law_1494 ?_
      refine l_sld (k := i + 1) hx hb hXs hbl hbA hS (ixq (nI_ad rfl rfl)) (by omega) hL hz_1 dL_law_1495 ?_
      refine lv_aload_n hx hb dL_law_1496 rfl (lv_at hl 5 rfl) ?_
      refine lv_iload hx hb dL_law_1497 (lv_at hl 1 rfl) ?_
      refine lv_iconst (v := 2) hx hb dL_law_1499 rfl ?_
      refine lv_iadd hx hb dL_law_1500 ?_
      refine l_sld (k := i + 2) hx hb hXs hbl hbA hS (ixq (nI_ad rfl rfl)) (by omega) hL hz_2 dL_law_1501 ?_
      refine Wr.callV (rest := []) (c_X8_lastDay_y l G hMD z1 z2 (by rw [h0]; exact hy1) hw0) yk_X8_lastDay E km_L_194 dL_law_1502 hG (hE.S hS hEA) hM (At.recv hG hM.1 rfl) rfl rfl hl.1 ⟨Nat.le_of_ble_eq_true rfl, Nat.le_of_ble_eq_true rfl⟩ ⟨show c0 + 1 + 0 ≤ 601024 by omega, show s0 + 6 + 0 ≤ 7293034 by omega⟩ (Nat.le_of_ble_eq_true rfl) hS hAB (fun v9 H4 locs hq hz8 hfr9 hS => ?_)
      obtain ⟨rfl, hM⟩ := hq
      have hDS := rf_D hp hDS hfr9
      have f_o := rf_o hp f_o hfr9
      refine lv_istore (lv' := [(6, .int 0), (5, .int 2), (4, .int (nI i)), (3, .ref ou), (2, .ref (B 0)), (1, .ref x), (0, .ref b)]) hx hb dL_law_1505 hl (by decide) rfl (fun ls hl => ?_)
      refine lv_aload_n hx hb dL_law_1507 rfl (lv_at hl 4 rfl) ?_
      refine Rd.callV (rest := []) (c_X8_thrown l G) yk_X8_thrown E km_L_113 dL_law_1508 hG (hE.S hS hEA) hM (At.recv hG hM.1 rfl) rfl rfl hl.1 ⟨Nat.le_of_ble_eq_true rfl, Nat.le_of_ble_eq_true rfl⟩ ⟨show c0 + 1 + 0 ≤ 601024 by omega, show s0 + 6 + 0 ≤ 7293034 by omega⟩ (Nat.le_of_ble_eq_true rfl) ?_
      refine lv_ci (y := 2) rfl ?_
      refine lv_iload hx hb dL_law_1511 (lv_at hl 1 rfl) ?_
      refine lv_icmp_eq (tgt := 1518) hx hb dL_law_1513 (by decide) (fun c_1513 => ?_) (fun c_1513 => ?_)
      rotate_left
      · exact absurd c_1513 (by decide)
      refine lv_iload hx hb dL_law_1518 (lv_at hl 1 rfl) ?_
      refine lv_if_ne (tgt := 1535) hx hb dL_law_1520 (by decide) (fun c_1520 => ?_) (fun c_1520 => ?_)
      rotate_left
      · exact absurd c_1520 (by decide)
      refine lv_goto (tgt := 2029) hx hb dL_law_1535 (by decide) ?_
      exact hK H4 locs _ _ (show c0 + 1 + 0 ≤ c0 + 200 by omega) (show s0 + 6 + 0 ≤ s0 + 4000 by omega) (li_mk hb9 hu hBy hbb hO hM hDS f_o) hS ls (lv_sub hl [2, 3, 4, 5, 6] rfl)
    · obtain ⟨n, hn9, ey⟩ := in_of (n := 9999) (by decide) hw1
      obtain ⟨ex1, pe1, te, nd, g1, g2, g3, g4, g5, g6, g7, g8, g9, g10⟩ := hCr k hk9
      refine lv_aload_n hx hb dL_law_1470 rfl (lv_at hl 3 rfl) ?_
      refine lv_aload_n hx hb dL_law_1471 rfl (lv_at hl 4 rfl) ?_
      refine lv_iload hx hb dL_law_1472 (lv_at hl 0 rfl) ?_
      refine lv_iconst (v := 1) hx hb dL_law_1474 rfl ?_
      refine lv_iadd hx hb dL_law_1475 ?_
      refine l_sld (k := i + 1) hx hb hXs hbl hbA hS (ixq (nI_ad rfl rfl)) (by omega) hL hz_1 dL_law_1476 ?_
      refine lv_aload_n hx hb dL_law_1477 rfl (lv_at hl 4 rfl) ?_
      refine lv_iload hx hb dL_law_1478 (lv_at hl 0 rfl) ?_
      refine lv_iconst (v := 2) hx hb dL_law_1480 rfl ?_
      refine lv_iadd hx hb dL_law_1481 ?_
      refine l_sld (k := i + 2) hx hb hXs hbl hbA hS (ixq (nI_ad rfl rfl)) (by omega) hL hz_2 dL_law_1482 ?_
      refine lv_aload_n hx hb dL_law_1483 rfl (lv_at hl 1 rfl) ?_
      refine WW.callS (rest := []) (w_L_lastDay l G z1 z2 (Q := (fun r9 _ => r9 = nI (lastV da nh ex1 pe1 n))) (f := f) (Rd.w (D := DS G (LAO B x bu pa ou) x bu pa bb (nI b9) es bk da nc np nh u hi) (c_X7_lastDay l G z1 k ez hk9 hc0 hh z2 n ex1 pe1 ey hn9 hw1 g1 (by omega) g3 (by omega)) (fun _ h9 => ds_dk h9)) (fun w9 => w9) (fun _ _ _ _ _ h9 => h9)) yk_L_lastDay E km_L_192 dL_law_1484 hG (hE.S hS hEA) ⟨hDS, ⟨_, hDS.1⟩, f_o⟩ rfl rfl hl.1 ⟨Nat.le_of_ble_eq_true rfl, Nat.le_of_ble_eq_true rfl⟩ ⟨show c0 + 0 ≤ 601024 by omega, show s0 + 0 ≤ 7293034 by omega⟩ (Nat.le_of_ble_eq_true rfl) hS (fun q9 h9 => h9.elim (fun w9 => w9.elim) (hAo9 q9)) (fun v9 H5 locs hq hz8 hfr9 hS => ?_)
      obtain ⟨rfl, r, hQ9, f_o⟩ := hq
      have hf9 : ∀ q : Nat, q < H.size → q ≠ ou → H5[q]? = H[q]? := fun q9 h9 h8 => hfr9 q9 h9 (fun z9 => z9.elim (fun w9 => w9.elim) h8)
      have hM := ro_M hp hM hf9
      have hDS := ro_D hp hDS hf9
      refine lv_istore (lv' := [(5, .int 0), (4, .int (nI i)), (3, .ref ou), (2, .ref (B 0)), (1, .ref x), (0, .ref b)]) hx hb dL_law_1487 hl (by decide) rfl (fun ls hl => ?_)
      refine lv_aload_n hx hb dL_law_1489 rfl (lv_at hl 3 rfl) ?_
      refine lv_aload_n hx hb dL_law_1490 rfl (lv_at hl 5 rfl) ?_
      refine lv_iload hx hb dL_law_1491 (lv_at hl 1 rfl) ?_
      refine lv_iconst (v := 1) hx hb dL_law_1493 rfl ?_
      refine lv_iadd hx hb dL_law_1494 ?_
      refine l_sld (k := i + 1) hx hb hXs hbl hbA hS (ixq (nI_ad rfl rfl)) (by omega) hL hz_1 dL_law_1495 ?_
      refine lv_aload_n hx hb dL_law_1496 rfl (lv_at hl 5 rfl) ?_
      refine lv_iload hx hb dL_law_1497 (lv_at hl 1 rfl) ?_
      refine lv_iconst (v := 2) hx hb dL_law_1499 rfl ?_
      refine lv_iadd hx hb dL_law_1500 ?_
      refine l_sld (k := i + 2) hx hb hXs hbl hbA hS (ixq (nI_ad rfl rfl)) (by omega) hL hz_2 dL_law_1501 ?_
      refine Wr.callV (rest := []) (c_X8_lastDay l G hMD z1 z2 k n nh ex1 pe1 ez ey (by omega) hn9 (by rw [h0]; exact hy1) hw1 h2 hh g1 (by omega) g3 (by omega)) yk_X8_lastDay E km_L_194 dL_law_1502 hG (hE.S hS hEA) hM (At.recv hG hM.1 rfl) rfl rfl hl.1 ⟨Nat.le_of_ble_eq_true rfl, Nat.le_of_ble_eq_true rfl⟩ ⟨show c0 + 0 + 0 ≤ 601024 by omega, show s0 + 0 + 0 ≤ 7293034 by omega⟩ (Nat.le_of_ble_eq_true rfl) hS hAB (fun v9 H6 locs hq hz8 hfr9 hS => ?_)
      obtain ⟨rfl, hM⟩ := hq
      have hDS := rf_D hp hDS hfr9
      have f_o := rf_o hp f_o hfr9
      refine lv_istore (lv' := [(6, .int (nI (lastV da nh ex1 pe1 n))), (5, .int 0), (4, .int (nI i)), (3, .ref ou), (2, .ref (B 0)), (1, .ref x), (0, .ref b)]) hx hb dL_law_1505 hl (by decide) rfl (fun ls hl => ?_)
      refine lv_aload_n hx hb dL_law_1507 rfl (lv_at hl 4 rfl) ?_
      refine Rd.callV (rest := []) (c_X8_thrown l G) yk_X8_thrown E km_L_113 dL_law_1508 hG (hE.S hS hEA) hM (At.recv hG hM.1 rfl) rfl rfl hl.1 ⟨Nat.le_of_ble_eq_true rfl, Nat.le_of_ble_eq_true rfl⟩ ⟨show c0 + 0 + 0 ≤ 601024 by omega, show s0 + 0 + 0 ≤ 7293034 by omega⟩ (Nat.le_of_ble_eq_true rfl) ?_
      refine lv_ci (y := 0) rfl ?_
      refine lv_iload hx hb dL_law_1511 (lv_at hl 1 rfl) ?_
      refine lv_icmp_eq (tgt := 1518) hx hb dL_law_1513 (by decide) (fun c_1513 => ?_) (fun c_1513 => ?_)
      rotate_left
      · exact absurd c_1513 (by decide)
      refine lv_iload hx hb dL_law_1518 (lv_at hl 1 rfl) ?_
      refine lv_if_ne (tgt := 1535) hx hb dL_law_1520 (by decide) (fun c_1520 => ?_) (fun c_1520 => ?_)
      · exact absurd c_1520 (by decide)
      refine lv_aload_n hx hb dL_law_1523 rfl (lv_at hl 3 rfl) ?_
      refine lv_iconst (v := 0) hx hb dL_law_1524 rfl ?_
      refine g_lld 0 E hG f_o rfl (by omega) (by decide) dL_law_1525 ?_
      refine lv_iload hx hb dL_law_1526 (lv_at hl 0 rfl) ?_
      refine lv_i2l (v := (nI (lastV da nh ex1 pe1 n)).toInt64) hx hb dL_law_1528 rfl ?_
      refine W.lcmp hx hb dL_law_1529 ?_
      refine lv_if_eq (tgt := 1535) hx hb dL_law_1530 (by decide) (fun c_1530 => ?_) (fun c_1530 => ?_)
      rotate_left
      · exact absurd ((lg_cmp_eq _ _).mpr (by rw [pk_uLs]; rw [hQ9])) c_1530
      refine lv_goto (tgt := 2029) hx hb dL_law_1535 (by decide) ?_
      exact hK H6 locs _ _ (show c0 + 0 + 0 ≤ c0 + 200 by omega) (show s0 + 0 + 0 ≤ s0 + 4000 by omega) (li_mk hb9 hu hBy hbb hO hM hDS f_o) hS ls (lv_sub hl [2, 3, 4, 5, 6] rfl)

set_option maxHeartbeats 4000000 in
set_option maxRecDepth 100000 in
/-- the law: bestFit -/
theorem lc_bestFit {p : Program} {l : Launch} {e : Env} {s : State} {m : MethodId} {below : List Frame} {meth : Method} {c : Code} {Q : State → Prop} {b L : Nat} {xs : Nat → Int32} {G : CG} {B : Nat → Nat} {x bu pa ou i c0 s0 : Nat} {H : Heap} {locs : List Loc} {ls : Array Slot} (hst : l.stackTraces = false) (E : CallFix p m c code 7 s ([.ref b] : List Value).toArray TB RL) (hG : KT G s) (hE : EF G s s.heap) (hXs : va_X b L xs s s.heap) (hbl : b < s.heap.size) (hL : L ≤ 3072) (hZ : EFA G s.heap.size) (hp : LAp G B x bu pa ou) (hnew : ∀ q, LAO B x bu pa ou q → s.heap.size ≤ q) (hi6 : i + 6 ≤ L) (hc9 : c0 + 200 ≤ 601024) (hs9 : s0 + 4000 ≤ 7293034) (hI : LI G B x bu pa ou H) (hS : va_S (fun q9 => s.heap.size ≤ q9) s.heap H locs) (hl : lv_has ls 7 [(4, .int (nI i)), (3, .ref ou), (2, .ref (B 0)), (1, .ref x), (0, .ref b)]) (hK : ∀ (H : Heap) (locs : List Loc) (cs sl : Nat), cs ≤ c0 + 200 → sl ≤ s0 + 4000 → LI G B x bu pa ou H → va_S (fun q9 => s.heap.size ≤ q9) s.heap H locs → ∀ ls : Array Slot, lv_has ls 7 [(4, .int (nI i)), (3, .ref ou), (2, .ref (B 0)), (1, .ref x), (0, .ref b)] → W p l e room_1 s m ([.ref b] : List Value).toArray below meth c H locs cs sl Q (F0 m 2029 ls [])) : W p l e room_1 s m ([.ref b] : List Value).toArray below meth c H locs c0 s0 Q (F0 m 1538 ls []) := by
  obtain ⟨b9, u, nc, np, nh, bk, es, bf, bb, da, hi, f, t, tl, ps, er, ea, ns, ne, se, dr, sk, hb9, hu, hBy, hbb, hO, hM, hDS, f_o⟩ := hI
  have hx := E.1
  have hb := E.2.1
  have hMD := hp.1
  have hDD := hp.2.1
  obtain ⟨⟨h0, hc0⟩, ⟨h1, hp0⟩, ⟨h2, hh⟩, ⟨td, htd, h3⟩, hCr, hPr, hHo, hIj⟩ := id hO
  have hEA : ∀ q9, s.heap.size ≤ q9 → EFA G q9 := fun q9 h9 => Nat.le_trans hZ h9
  have hbA : ¬ s.heap.size ≤ b := Nat.not_le.mpr hbl
  have hAo9 : ∀ q, q = ou → s.heap.size ≤ q := fun q h => hnew q (Or.inr (Or.inr (Or.inr (Or.inl h))))
  have hAB : ∀ q, MA B q → s.heap.size ≤ q := fun q h => hnew q (Or.inr (Or.inr (Or.inr (Or.inr h))))
  have hAO := lao_lt hM hDS f_o
  have hz9 : EFA G H.size := Nat.le_trans hZ hS.1
  have hou : ou < H.size := va_at.lt f_o
  obtain ⟨z1, hz_1⟩ : ∃ z, xs (i + 1) = z := ⟨_, rfl⟩
  rcases inV01 z1 0 (nI nc - 1) with hy0 | hy1
  · refine lv_aload_n hx hb dL_law_1538 rfl (lv_at hl 3 rfl) ?_
    refine lv_aload_n hx hb dL_law_1539 rfl (lv_at hl 4 rfl) ?_
    refine lv_iload hx hb dL_law_1540 (lv_at hl 0 rfl) ?_
    refine lv_iconst (v := 1) hx hb dL_law_1542 rfl ?_
    refine lv_iadd hx hb dL_law_1543 ?_
    refine l_sld (k := i + 1) hx hb hXs hbl hbA hS (ixq (nI_ad rfl rfl)) (by omega) hL hz_1 dL_law_1544 ?_
    refine lv_aload_n hx hb dL_law_1545 rfl (lv_at hl 1 rfl) ?_
    refine WW.callS (rest := []) (w_L_bestFit_t1 l G z1 (P := DS G (LAO B x bu pa ou) x bu pa bb (nI b9) es bk da nc np nh u hi) (Tr.w (c_X7_bestFit_x l hst G z1 hy0 hc0) (fun _ h9 => ds_dk h9))) yk_L_bestFit E km_L_195 dL_law_1546 hG (hE.S hS hEA) ⟨hDS, _, hDS.1⟩ rfl rfl hl.1 ⟨Nat.le_of_ble_eq_true rfl, Nat.le_of_ble_eq_true rfl⟩ ⟨show c0 + 1 ≤ 601024 by omega, show s0 + 6 ≤ 7293034 by omega⟩ (Nat.le_of_ble_eq_true rfl) hS (fun q9 h9 => h9.elim) (fun v9 H1 locs hq hz8 hfr9 hS => ?_)
    obtain rfl := hq
    have hf9 : ∀ q : Nat, q < H.size → q ≠ ou → H1[q]? = H[q]? := fun q9 h9 _ => hfr9 q9 h9 (fun w9 => w9)
    have f_o := va_at.kept f_o (hfr9 _ (va_at.lt f_o) (fun w9 => w9))
    have hM := ro_M hp hM hf9
    have hDS := ro_D hp hDS hf9
    refine lv_istore (lv' := [(5, .int 1), (4, .int (nI i)), (3, .ref ou), (2, .ref (B 0)), (1, .ref x), (0, .ref b)]) hx hb dL_law_1549 hl (by decide) rfl (fun ls hl => ?_)
    refine lv_aload_n hx hb dL_law_1551 rfl (lv_at hl 3 rfl) ?_
    refine lv_aload_n hx hb dL_law_1552 rfl (lv_at hl 5 rfl) ?_
    refine lv_iload hx hb dL_law_1553 (lv_at hl 1 rfl) ?_
    refine lv_iconst (v := 1) hx hb dL_law_1555 rfl ?_
    refine lv_iadd hx hb dL_law_1556 ?_
    refine l_sld (k := i + 1) hx hb hXs hbl hbA hS (ixq (nI_ad rfl rfl)) (by omega) hL hz_1 dL_law_1557 ?_
    refine Wr.callV (rest := []) (c_X8_bestFit_x l G hMD z1 (by rw [h0]; exact hy0)) yk_X8_bestFit E km_L_197 dL_law_1558 hG (hE.S hS hEA) hM (At.recv hG hM.1 rfl) rfl rfl hl.1 ⟨Nat.le_of_ble_eq_true rfl, Nat.le_of_ble_eq_true rfl⟩ ⟨show c0 + 1 + 0 ≤ 601024 by omega, show s0 + 6 + 0 ≤ 7293034 by omega⟩ (Nat.le_of_ble_eq_true rfl) hS hAB (fun v9 H2 locs hq hz8 hfr9 hS => ?_)
    obtain ⟨rfl, hM⟩ := hq
    have hDS := rf_D hp hDS hfr9
    have f_o := rf_o hp f_o hfr9
    refine lv_istore (lv' := [(6, .int 0), (5, .int 1), (4, .int (nI i)), (3, .ref ou), (2, .ref (B 0)), (1, .ref x), (0, .ref b)]) hx hb dL_law_1561 hl (by decide) rfl (fun ls hl => ?_)
    refine lv_aload_n hx hb dL_law_1563 rfl (lv_at hl 4 rfl) ?_
    refine Rd.callV (rest := []) (c_X8_thrown l G) yk_X8_thrown E km_L_113 dL_law_1564 hG (hE.S hS hEA) hM (At.recv hG hM.1 rfl) rfl rfl hl.1 ⟨Nat.le_of_ble_eq_true rfl, Nat.le_of_ble_eq_true rfl⟩ ⟨show c0 + 1 + 0 ≤ 601024 by omega, show s0 + 6 + 0 ≤ 7293034 by omega⟩ (Nat.le_of_ble_eq_true rfl) ?_
    refine lv_ci (y := 1) rfl ?_
    refine lv_iload hx hb dL_law_1567 (lv_at hl 1 rfl) ?_
    refine lv_icmp_eq (tgt := 1574) hx hb dL_law_1569 (by decide) (fun c_1569 => ?_) (fun c_1569 => ?_)
    rotate_left
    · exact absurd c_1569 (by decide)
    refine lv_iload hx hb dL_law_1574 (lv_at hl 1 rfl) ?_
    refine lv_if_ne (tgt := 1591) hx hb dL_law_1576 (by decide) (fun c_1576 => ?_) (fun c_1576 => ?_)
    rotate_left
    · exact absurd c_1576 (by decide)
    refine lv_goto (tgt := 2029) hx hb dL_law_1591 (by decide) ?_
    exact hK H2 locs _ _ (show c0 + 1 + 0 ≤ c0 + 200 by omega) (show s0 + 6 + 0 ≤ s0 + 4000 by omega) (li_mk hb9 hu hBy hbb hO hM hDS f_o) hS ls (lv_sub hl [2, 3, 4, 5, 6] rfl)
  · obtain ⟨k, hk9, ez⟩ := ix_of (by omega) hy1
    refine lv_aload_n hx hb dL_law_1538 rfl (lv_at hl 3 rfl) ?_
    refine lv_aload_n hx hb dL_law_1539 rfl (lv_at hl 4 rfl) ?_
    refine lv_iload hx hb dL_law_1540 (lv_at hl 0 rfl) ?_
    refine lv_iconst (v := 1) hx hb dL_law_1542 rfl ?_
    refine lv_iadd hx hb dL_law_1543 ?_
    refine l_sld (k := i + 1) hx hb hXs hbl hbA hS (ixq (nI_ad rfl rfl)) (by omega) hL hz_1 dL_law_1544 ?_
    refine lv_aload_n hx hb dL_law_1545 rfl (lv_at hl 1 rfl) ?_
    refine WW.callS (rest := []) (w_L_bestFit l G z1 (Q := (fun r9 _ => r9 = fitV da np nc k)) (f := f) (Wr.weak (P' := (fun H9 => H9.size = H.size ∧ DS G (LAO B x bu pa ou) x bu pa bb (nI b9) es bk da nc np nh u hi H9)) (Q' := fun v9 _ => ∃ r, v9 = some (.int r) ∧ r = fitV da np nc k) (c_X7_bestFit l G hz9 z1 k ez hk9 hp0 hc0) (fun _ h9 => ⟨h9.1, ds_dk h9.2⟩) (fun _ _ h9 => ⟨_, h9, rfl⟩) (Nat.le_refl _) (Nat.le_refl _)) (Nat.not_le.mpr hou) (fun _ _ _ _ _ h9 => h9)) yk_L_bestFit E km_L_195 dL_law_1546 hG (hE.S hS hEA) ⟨⟨rfl, hDS⟩, ⟨_, hDS.1⟩, f_o⟩ rfl rfl hl.1 ⟨Nat.le_of_ble_eq_true rfl, Nat.le_of_ble_eq_true rfl⟩ ⟨show c0 + 3 ≤ 601024 by omega, show s0 + 30 ≤ 7293034 by omega⟩ (Nat.le_of_ble_eq_true rfl) hS (fun q9 h9 => h9.elim (fun w9 => Nat.le_trans hS.1 w9) (hAo9 q9)) (fun v9 H3 locs hq hz8 hfr9 hS => ?_)
    obtain ⟨rfl, r, hQ9, f_o⟩ := hq
    have hf9 : ∀ q : Nat, q < H.size → q ≠ ou → H3[q]? = H[q]? := fun q9 h9 h8 => hfr9 q9 h9 (fun z9 => z9.elim (fun w9 => absurd h9 (Nat.not_lt.mpr w9)) h8)
    have hM := ro_M hp hM hf9
    have hDS := ro_D hp hDS hf9
    refine lv_istore (lv' := [(5, .int 0), (4, .int (nI i)), (3, .ref ou), (2, .ref (B 0)), (1, .ref x), (0, .ref b)]) hx hb dL_law_1549 hl (by decide) rfl (fun ls hl => ?_)
    refine lv_aload_n hx hb dL_law_1551 rfl (lv_at hl 3 rfl) ?_
    refine lv_aload_n hx hb dL_law_1552 rfl (lv_at hl 5 rfl) ?_
    refine lv_iload hx hb dL_law_1553 (lv_at hl 1 rfl) ?_
    refine lv_iconst (v := 1) hx hb dL_law_1555 rfl ?_
    refine lv_iadd hx hb dL_law_1556 ?_
    refine l_sld (k := i + 1) hx hb hXs hbl hbA hS (ixq (nI_ad rfl rfl)) (by omega) hL hz_1 dL_law_1557 ?_
    refine Wr.callV (rest := []) (c_X8_bestFit l G hMD z1 k ez (by omega) (by rw [h0]; exact hy1) np nc h1 hp0 h0 hc0 (amOk hO)) yk_X8_bestFit E km_L_197 dL_law_1558 hG (hE.S hS hEA) hM (At.recv hG hM.1 rfl) rfl rfl hl.1 ⟨Nat.le_of_ble_eq_true rfl, Nat.le_of_ble_eq_true rfl⟩ ⟨show c0 + 3 + 0 ≤ 601024 by omega, show s0 + 30 + 0 ≤ 7293034 by omega⟩ (Nat.le_of_ble_eq_true rfl) hS hAB (fun v9 H4 locs hq hz8 hfr9 hS => ?_)
    obtain ⟨rfl, hM⟩ := hq
    have hDS := rf_D hp hDS hfr9
    have f_o := rf_o hp f_o hfr9
    refine lv_istore (lv' := [(6, .int (fitV da np nc k)), (5, .int 0), (4, .int (nI i)), (3, .ref ou), (2, .ref (B 0)), (1, .ref x), (0, .ref b)]) hx hb dL_law_1561 hl (by decide) rfl (fun ls hl => ?_)
    refine lv_aload_n hx hb dL_law_1563 rfl (lv_at hl 4 rfl) ?_
    refine Rd.callV (rest := []) (c_X8_thrown l G) yk_X8_thrown E km_L_113 dL_law_1564 hG (hE.S hS hEA) hM (At.recv hG hM.1 rfl) rfl rfl hl.1 ⟨Nat.le_of_ble_eq_true rfl, Nat.le_of_ble_eq_true rfl⟩ ⟨show c0 + 3 + 0 ≤ 601024 by omega, show s0 + 30 + 0 ≤ 7293034 by omega⟩ (Nat.le_of_ble_eq_true rfl) ?_
    refine lv_ci (y := 0) rfl ?_
    refine lv_iload hx hb dL_law_1567 (lv_at hl 1 rfl) ?_
    refine lv_icmp_eq (tgt := 1574) hx hb dL_law_1569 (by decide) (fun c_1569 => ?_) (fun c_1569 => ?_)
    rotate_left
    · exact absurd c_1569 (by decide)
    refine lv_iload hx hb dL_law_1574 (lv_at hl 1 rfl) ?_
    refine lv_if_ne (tgt := 1591) hx hb dL_law_1576 (by decide) (fun c_1576 => ?_) (fun c_1576 => ?_)
    · exact absurd c_1576 (by decide)
    refine lv_aload_n hx hb dL_law_1579 rfl (lv_at hl 3 rfl) ?_
    refine lv_iconst (v := 0) hx hb dL_law_1580 rfl ?_
    refine g_lld 0 E hG f_o rfl (by omega) (by decide) dL_law_1581 ?_
    refine lv_iload hx hb dL_law_1582 (lv_at hl 0 rfl) ?_
    refine lv_i2l (v := (fitV da np nc k).toInt64) hx hb dL_law_1584 rfl ?_
    refine W.lcmp hx hb dL_law_1585 ?_
    refine lv_if_eq (tgt := 1591) hx hb dL_law_1586 (by decide) (fun c_1586 => ?_) (fun c_1586 => ?_)
    rotate_left
    · exact absurd ((lg_cmp_eq _ _).mpr (by rw [pk_uLs]; rw [hQ9])) c_1586
    refine lv_goto (tgt := 2029) hx hb dL_law_1591 (by decide) ?_
    exact hK H4 locs _ _ (show c0 + 3 + 0 ≤ c0 + 200 by omega) (show s0 + 30 + 0 ≤ s0 + 4000 by omega) (li_mk hb9 hu hBy hbb hO hM hDS f_o) hS ls (lv_sub hl [2, 3, 4, 5, 6] rfl)

set_option maxHeartbeats 4000000 in
set_option maxRecDepth 100000 in
/-- the law: fee -/
theorem lc_fee {p : Program} {l : Launch} {e : Env} {s : State} {m : MethodId} {below : List Frame} {meth : Method} {c : Code} {Q : State → Prop} {b L : Nat} {xs : Nat → Int32} {G : CG} {B : Nat → Nat} {x bu pa ou i c0 s0 : Nat} {H : Heap} {locs : List Loc} {ls : Array Slot} (hst : l.stackTraces = false) (E : CallFix p m c code 7 s ([.ref b] : List Value).toArray TB RL) (hG : KT G s) (hE : EF G s s.heap) (hXs : va_X b L xs s s.heap) (hbl : b < s.heap.size) (hL : L ≤ 3072) (hZ : EFA G s.heap.size) (hp : LAp G B x bu pa ou) (hnew : ∀ q, LAO B x bu pa ou q → s.heap.size ≤ q) (hi6 : i + 6 ≤ L) (hc9 : c0 + 200 ≤ 601024) (hs9 : s0 + 4000 ≤ 7293034) (hI : LI G B x bu pa ou H) (hS : va_S (fun q9 => s.heap.size ≤ q9) s.heap H locs) (hl : lv_has ls 7 [(4, .int (nI i)), (3, .ref ou), (2, .ref (B 0)), (1, .ref x), (0, .ref b)]) (hK : ∀ (H : Heap) (locs : List Loc) (cs sl : Nat), cs ≤ c0 + 200 → sl ≤ s0 + 4000 → LI G B x bu pa ou H → va_S (fun q9 => s.heap.size ≤ q9) s.heap H locs → ∀ ls : Array Slot, lv_has ls 7 [(4, .int (nI i)), (3, .ref ou), (2, .ref (B 0)), (1, .ref x), (0, .ref b)] → W p l e room_1 s m ([.ref b] : List Value).toArray below meth c H locs cs sl Q (F0 m 2029 ls [])) : W p l e room_1 s m ([.ref b] : List Value).toArray below meth c H locs c0 s0 Q (F0 m 1272 ls []) := by
  obtain ⟨b9, u, nc, np, nh, bk, es, bf, bb, da, hi, f, t, tl, ps, er, ea, ns, ne, se, dr, sk, hb9, hu, hBy, hbb, hO, hM, hDS, f_o⟩ := hI
  have hx := E.1
  have hb := E.2.1
  have hMD := hp.1
  have hDD := hp.2.1
  obtain ⟨⟨h0, hc0⟩, ⟨h1, hp0⟩, ⟨h2, hh⟩, ⟨td, htd, h3⟩, hCr, hPr, hHo, hIj⟩ := id hO
  have hEA : ∀ q9, s.heap.size ≤ q9 → EFA G q9 := fun q9 h9 => Nat.le_trans hZ h9
  have hbA : ¬ s.heap.size ≤ b := Nat.not_le.mpr hbl
  have hAo9 : ∀ q, q = ou → s.heap.size ≤ q := fun q h => hnew q (Or.inr (Or.inr (Or.inr (Or.inl h))))
  have hAB : ∀ q, MA B q → s.heap.size ≤ q := fun q h => hnew q (Or.inr (Or.inr (Or.inr (Or.inr h))))
  have hAO := lao_lt hM hDS f_o
  have hz9 : EFA G H.size := Nat.le_trans hZ hS.1
  have hou : ou < H.size := va_at.lt f_o
  obtain ⟨z1, hz_1⟩ : ∃ z, xs (i + 1) = z := ⟨_, rfl⟩
  rcases inV01 z1 0 (nI np - 1) with hy0 | hy1
  · refine lv_aload_n hx hb dL_law_1272 rfl (lv_at hl 3 rfl) ?_
    refine lv_aload_n hx hb dL_law_1273 rfl (lv_at hl 4 rfl) ?_
    refine lv_iload hx hb dL_law_1274 (lv_at hl 0 rfl) ?_
    refine lv_iconst (v := 1) hx hb dL_law_1276 rfl ?_
    refine lv_iadd hx hb dL_law_1277 ?_
    refine l_sld (k := i + 1) hx hb hXs hbl hbA hS (ixq (nI_ad rfl rfl)) (by omega) hL hz_1 dL_law_1278 ?_
    refine lv_aload_n hx hb dL_law_1279 rfl (lv_at hl 1 rfl) ?_
    refine WW.callS (rest := []) (w_L_fee_t1 l G z1 (P := DS G (LAO B x bu pa ou) x bu pa bb (nI b9) es bk da nc np nh u hi) (Tr.w (c_X7_fee_x l hst G z1 hy0 hp0) (fun _ h9 => ds_dk h9))) yk_L_fee E km_L_180 dL_law_1280 hG (hE.S hS hEA) ⟨hDS, _, hDS.1⟩ rfl rfl hl.1 ⟨Nat.le_of_ble_eq_true rfl, Nat.le_of_ble_eq_true rfl⟩ ⟨show c0 + 1 ≤ 601024 by omega, show s0 + 6 ≤ 7293034 by omega⟩ (Nat.le_of_ble_eq_true rfl) hS (fun q9 h9 => h9.elim) (fun v9 H1 locs hq hz8 hfr9 hS => ?_)
    obtain rfl := hq
    have hf9 : ∀ q : Nat, q < H.size → q ≠ ou → H1[q]? = H[q]? := fun q9 h9 _ => hfr9 q9 h9 (fun w9 => w9)
    have f_o := va_at.kept f_o (hfr9 _ (va_at.lt f_o) (fun w9 => w9))
    have hM := ro_M hp hM hf9
    have hDS := ro_D hp hDS hf9
    refine lv_istore (lv' := [(5, .int 1), (4, .int (nI i)), (3, .ref ou), (2, .ref (B 0)), (1, .ref x), (0, .ref b)]) hx hb dL_law_1283 hl (by decide) rfl (fun ls hl => ?_)
    refine lv_aload_n hx hb dL_law_1285 rfl (lv_at hl 3 rfl) ?_
    refine lv_aload_n hx hb dL_law_1286 rfl (lv_at hl 5 rfl) ?_
    refine lv_iload hx hb dL_law_1287 (lv_at hl 1 rfl) ?_
    refine lv_iconst (v := 1) hx hb dL_law_1289 rfl ?_
    refine lv_iadd hx hb dL_law_1290 ?_
    refine l_sld (k := i + 1) hx hb hXs hbl hbA hS (ixq (nI_ad rfl rfl)) (by omega) hL hz_1 dL_law_1291 ?_
    refine Wr.callV (rest := []) (c_X8_fee_x l G hMD z1 (by rw [h1]; exact hy0)) yk_X8_fee E km_L_182 dL_law_1292 hG (hE.S hS hEA) hM (At.recv hG hM.1 rfl) rfl rfl hl.1 ⟨Nat.le_of_ble_eq_true rfl, Nat.le_of_ble_eq_true rfl⟩ ⟨show c0 + 1 + 0 ≤ 601024 by omega, show s0 + 6 + 0 ≤ 7293034 by omega⟩ (Nat.le_of_ble_eq_true rfl) hS hAB (fun v9 H2 locs hq hz8 hfr9 hS => ?_)
    obtain ⟨rfl, hM⟩ := hq
    have hDS := rf_D hp hDS hfr9
    have f_o := rf_o hp f_o hfr9
    refine lv_istore (lv' := [(6, .int 0), (5, .int 1), (4, .int (nI i)), (3, .ref ou), (2, .ref (B 0)), (1, .ref x), (0, .ref b)]) hx hb dL_law_1295 hl (by decide) rfl (fun ls hl => ?_)
    refine lv_aload_n hx hb dL_law_1297 rfl (lv_at hl 4 rfl) ?_
    refine Rd.callV (rest := []) (c_X8_thrown l G) yk_X8_thrown E km_L_113 dL_law_1298 hG (hE.S hS hEA) hM (At.recv hG hM.1 rfl) rfl rfl hl.1 ⟨Nat.le_of_ble_eq_true rfl, Nat.le_of_ble_eq_true rfl⟩ ⟨show c0 + 1 + 0 ≤ 601024 by omega, show s0 + 6 + 0 ≤ 7293034 by omega⟩ (Nat.le_of_ble_eq_true rfl) ?_
    refine lv_ci (y := 1) rfl ?_
    refine lv_iload hx hb dL_law_1301 (lv_at hl 1 rfl) ?_
    refine lv_icmp_eq (tgt := 1308) hx hb dL_law_1303 (by decide) (fun c_1303 => ?_) (fun c_1303 => ?_)
    rotate_left
    · exact absurd c_1303 (by decide)
    refine lv_iload hx hb dL_law_1308 (lv_at hl 1 rfl) ?_
    refine lv_if_ne (tgt := 1325) hx hb dL_law_1310 (by decide) (fun c_1310 => ?_) (fun c_1310 => ?_)
    rotate_left
    · exact absurd c_1310 (by decide)
    refine lv_goto (tgt := 2029) hx hb dL_law_1325 (by decide) ?_
    exact hK H2 locs _ _ (show c0 + 1 + 0 ≤ c0 + 200 by omega) (show s0 + 6 + 0 ≤ s0 + 4000 by omega) (li_mk hb9 hu hBy hbb hO hM hDS f_o) hS ls (lv_sub hl [2, 3, 4, 5, 6] rfl)
  · obtain ⟨k, hk9, ez⟩ := ix_of (by omega) hy1
    obtain ⟨cr, dy, am, fa, si, e1, e2, e3, e4, e5, e6, e7, e8, e9, e10, e11⟩ := hPr k hk9
    refine lv_aload_n hx hb dL_law_1272 rfl (lv_at hl 3 rfl) ?_
    refine lv_aload_n hx hb dL_law_1273 rfl (lv_at hl 4 rfl) ?_
    refine lv_iload hx hb dL_law_1274 (lv_at hl 0 rfl) ?_
    refine lv_iconst (v := 1) hx hb dL_law_1276 rfl ?_
    refine lv_iadd hx hb dL_law_1277 ?_
    refine l_sld (k := i + 1) hx hb hXs hbl hbA hS (ixq (nI_ad rfl rfl)) (by omega) hL hz_1 dL_law_1278 ?_
    refine lv_aload_n hx hb dL_law_1279 rfl (lv_at hl 1 rfl) ?_
    refine WW.callS (rest := []) (w_L_fee l G z1 (Q := (fun r9 _ => FeeR da k r9)) (f := f) (Wr.weak (P' := (fun H9 => H9.size = H.size ∧ DS G (LAO B x bu pa ou) x bu pa bb (nI b9) es bk da nc np nh u hi H9)) (Q' := fun v9 _ => ∃ r, v9 = some (.int r) ∧ FeeR da k r) (c_X7_fee l G hz9 z1 k ez hk9 hp0) (fun _ h9 => ⟨h9.1, ds_dk h9.2⟩) (fun _ _ h9 => h9) (Nat.le_refl _) (Nat.le_refl _)) (Nat.not_le.mpr hou) (fun _ _ _ _ _ h9 => h9)) yk_L_fee E km_L_180 dL_law_1280 hG (hE.S hS hEA) ⟨⟨rfl, hDS⟩, ⟨_, hDS.1⟩, f_o⟩ rfl rfl hl.1 ⟨Nat.le_of_ble_eq_true rfl, Nat.le_of_ble_eq_true rfl⟩ ⟨show c0 + 1 ≤ 601024 by omega, show s0 + 11 ≤ 7293034 by omega⟩ (Nat.le_of_ble_eq_true rfl) hS (fun q9 h9 => h9.elim (fun w9 => Nat.le_trans hS.1 w9) (hAo9 q9)) (fun v9 H3 locs hq hz8 hfr9 hS => ?_)
    obtain ⟨rfl, r, hQ9, f_o⟩ := hq
    have hf9 : ∀ q : Nat, q < H.size → q ≠ ou → H3[q]? = H[q]? := fun q9 h9 h8 => hfr9 q9 h9 (fun z9 => z9.elim (fun w9 => absurd h9 (Nat.not_lt.mpr w9)) h8)
    have hM := ro_M hp hM hf9
    have hDS := ro_D hp hDS hf9
    rcases hQ9 with ⟨h4, hr9⟩ | ⟨h4, Lf, hF9, hr9⟩
    · refine lv_istore (lv' := [(5, .int 0), (4, .int (nI i)), (3, .ref ou), (2, .ref (B 0)), (1, .ref x), (0, .ref b)]) hx hb dL_law_1283 hl (by decide) rfl (fun ls hl => ?_)
      refine lv_aload_n hx hb dL_law_1285 rfl (lv_at hl 3 rfl) ?_
      refine lv_aload_n hx hb dL_law_1286 rfl (lv_at hl 5 rfl) ?_
      refine lv_iload hx hb dL_law_1287 (lv_at hl 1 rfl) ?_
      refine lv_iconst (v := 1) hx hb dL_law_1289 rfl ?_
      refine lv_iadd hx hb dL_law_1290 ?_
      refine l_sld (k := i + 1) hx hb hXs hbl hbA hS (ixq (nI_ad rfl rfl)) (by omega) hL hz_1 dL_law_1291 ?_
      refine Wr.callV (rest := []) (c_X8_fee_u l G hMD z1 k ez (by omega) (by rw [h1]; exact hy1) h4) yk_X8_fee E km_L_182 dL_law_1292 hG (hE.S hS hEA) hM (At.recv hG hM.1 rfl) rfl rfl hl.1 ⟨Nat.le_of_ble_eq_true rfl, Nat.le_of_ble_eq_true rfl⟩ ⟨show c0 + 1 + 0 ≤ 601024 by omega, show s0 + 11 + 0 ≤ 7293034 by omega⟩ (Nat.le_of_ble_eq_true rfl) hS hAB (fun v9 H4 locs hq hz8 hfr9 hS => ?_)
      obtain ⟨rfl, hM⟩ := hq
      have hDS := rf_D hp hDS hfr9
      have f_o := rf_o hp f_o hfr9
      refine lv_istore (lv' := [(6, .int (da (pP k + 2) / 1000)), (5, .int 0), (4, .int (nI i)), (3, .ref ou), (2, .ref (B 0)), (1, .ref x), (0, .ref b)]) hx hb dL_law_1295 hl (by decide) rfl (fun ls hl => ?_)
      refine lv_aload_n hx hb dL_law_1297 rfl (lv_at hl 4 rfl) ?_
      refine Rd.callV (rest := []) (c_X8_thrown l G) yk_X8_thrown E km_L_113 dL_law_1298 hG (hE.S hS hEA) hM (At.recv hG hM.1 rfl) rfl rfl hl.1 ⟨Nat.le_of_ble_eq_true rfl, Nat.le_of_ble_eq_true rfl⟩ ⟨show c0 + 1 + 0 ≤ 601024 by omega, show s0 + 11 + 0 ≤ 7293034 by omega⟩ (Nat.le_of_ble_eq_true rfl) ?_
      refine lv_ci (y := 0) rfl ?_
      refine lv_iload hx hb dL_law_1301 (lv_at hl 1 rfl) ?_
      refine lv_icmp_eq (tgt := 1308) hx hb dL_law_1303 (by decide) (fun c_1303 => ?_) (fun c_1303 => ?_)
      rotate_left
      · exact absurd c_1303 (by decide)
      refine lv_iload hx hb dL_law_1308 (lv_at hl 1 rfl) ?_
      refine lv_if_ne (tgt := 1325) hx hb dL_law_1310 (by decide) (fun c_1310 => ?_) (fun c_1310 => ?_)
      · exact absurd c_1310 (by decide)
      refine lv_aload_n hx hb dL_law_1313 rfl (lv_at hl 3 rfl) ?_
      refine lv_iconst (v := 0) hx hb dL_law_1314 rfl ?_
      refine g_lld 0 E hG f_o rfl (by omega) (by decide) dL_law_1315 ?_
      refine lv_iload hx hb dL_law_1316 (lv_at hl 0 rfl) ?_
      refine lv_i2l (v := (da (pP k + 2) / 1000).toInt64) hx hb dL_law_1318 rfl ?_
      refine W.lcmp hx hb dL_law_1319 ?_
      refine lv_if_eq (tgt := 1325) hx hb dL_law_1320 (by decide) (fun c_1320 => ?_) (fun c_1320 => ?_)
      rotate_left
      · exact absurd ((lg_cmp_eq _ _).mpr (by rw [pk_uLs]; rw [hr9, e5, fee_usual e7])) c_1320
      refine lv_goto (tgt := 2029) hx hb dL_law_1325 (by decide) ?_
      exact hK H4 locs _ _ (show c0 + 1 + 0 ≤ c0 + 200 by omega) (show s0 + 11 + 0 ≤ s0 + 4000 by omega) (li_mk hb9 hu hBy hbb hO hM hDS f_o) hS ls (lv_sub hl [2, 3, 4, 5, 6] rfl)
    · refine lv_istore (lv' := [(5, .int 0), (4, .int (nI i)), (3, .ref ou), (2, .ref (B 0)), (1, .ref x), (0, .ref b)]) hx hb dL_law_1283 hl (by decide) rfl (fun ls hl => ?_)
      refine lv_aload_n hx hb dL_law_1285 rfl (lv_at hl 3 rfl) ?_
      refine lv_aload_n hx hb dL_law_1286 rfl (lv_at hl 5 rfl) ?_
      refine lv_iload hx hb dL_law_1287 (lv_at hl 1 rfl) ?_
      refine lv_iconst (v := 1) hx hb dL_law_1289 rfl ?_
      refine lv_iadd hx hb dL_law_1290 ?_
      refine l_sld (k := i + 1) hx hb hXs hbl hbA hS (ixq (nI_ad rfl rfl)) (by omega) hL hz_1 dL_law_1291 ?_
      refine Wr.callV (rest := []) (c_X8_fee l G hMD z1 k ez (by omega) (by rw [h1]; exact hy1) fa e8 e9 (by rw [e5]; exact b8_nI (by omega)) (by rw [h3, e3]; exact b8_sub htd e4) h4 Lf hF9) yk_X8_fee E km_L_182 dL_law_1292 hG (hE.S hS hEA) hM (At.recv hG hM.1 rfl) rfl rfl hl.1 ⟨Nat.le_of_ble_eq_true rfl, Nat.le_of_ble_eq_true rfl⟩ ⟨show c0 + 1 + 0 ≤ 601024 by omega, show s0 + 11 + 0 ≤ 7293034 by omega⟩ (Nat.le_of_ble_eq_true rfl) hS hAB (fun v9 H5 locs hq hz8 hfr9 hS => ?_)
      obtain ⟨rfl, sk9, hM⟩ := hq
      have hDS := rf_D hp hDS hfr9
      have f_o := rf_o hp f_o hfr9
      refine lv_istore (lv' := [(6, .int (feeV (da (pP k + 2)) (da 3 - da (pP k + 1)) (nI (bits 8 fa)) Lf)), (5, .int 0), (4, .int (nI i)), (3, .ref ou), (2, .ref (B 0)), (1, .ref x), (0, .ref b)]) hx hb dL_law_1295 hl (by decide) rfl (fun ls hl => ?_)
      refine lv_aload_n hx hb dL_law_1297 rfl (lv_at hl 4 rfl) ?_
      refine Rd.callV (rest := []) (c_X8_thrown l G) yk_X8_thrown E km_L_113 dL_law_1298 hG (hE.S hS hEA) hM (At.recv hG hM.1 rfl) rfl rfl hl.1 ⟨Nat.le_of_ble_eq_true rfl, Nat.le_of_ble_eq_true rfl⟩ ⟨show c0 + 1 + 0 ≤ 601024 by omega, show s0 + 11 + 0 ≤ 7293034 by omega⟩ (Nat.le_of_ble_eq_true rfl) ?_
      refine lv_ci (y := 0) rfl ?_
      refine lv_iload hx hb dL_law_1301 (lv_at hl 1 rfl) ?_
      refine lv_icmp_eq (tgt := 1308) hx hb dL_law_1303 (by decide) (fun c_1303 => ?_) (fun c_1303 => ?_)
      rotate_left
      · exact absurd c_1303 (by decide)
      refine lv_iload hx hb dL_law_1308 (lv_at hl 1 rfl) ?_
      refine lv_if_ne (tgt := 1325) hx hb dL_law_1310 (by decide) (fun c_1310 => ?_) (fun c_1310 => ?_)
      · exact absurd c_1310 (by decide)
      refine lv_aload_n hx hb dL_law_1313 rfl (lv_at hl 3 rfl) ?_
      refine lv_iconst (v := 0) hx hb dL_law_1314 rfl ?_
      refine g_lld 0 E hG f_o rfl (by omega) (by decide) dL_law_1315 ?_
      refine lv_iload hx hb dL_law_1316 (lv_at hl 0 rfl) ?_
      refine lv_i2l (v := (feeV (da (pP k + 2)) (da 3 - da (pP k + 1)) (nI (bits 8 fa)) Lf).toInt64) hx hb dL_law_1318 rfl ?_
      refine W.lcmp hx hb dL_law_1319 ?_
      refine lv_if_eq (tgt := 1325) hx hb dL_law_1320 (by decide) (fun c_1320 => ?_) (fun c_1320 => ?_)
      rotate_left
      · exact absurd ((lg_cmp_eq _ _).mpr (by rw [pk_uLs]; rw [hr9, e8, bc_bits e9])) c_1320
      refine lv_goto (tgt := 2029) hx hb dL_law_1325 (by decide) ?_
      exact hK H5 locs _ _ (show c0 + 1 + 0 ≤ c0 + 200 by omega) (show s0 + 11 + 0 ≤ s0 + 4000 by omega) (li_mk hb9 hu hBy hbb hO hM hDS f_o) hS ls (lv_sub hl [2, 3, 4, 5, 6] rfl)
