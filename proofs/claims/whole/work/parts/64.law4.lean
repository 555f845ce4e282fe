/-! THE LAW: calls that change -/
theorem remU_le {u : Nat} (h : u ≤ 8) : remU u ≤ 8 := by
  unfold remU
  by_cases e : u = 8
  · rw [if_pos e]; exact Nat.le_refl _
  · rw [if_neg e]; omega
set_option maxHeartbeats 4000000 in
set_option maxRecDepth 100000 in
/-- the law: present -/
theorem lc_present {p : Program} {l : Launch} {e : Env} {s : State} {m : MethodId} {below : List Frame} {meth : Method} {c : Code} {Q : State → Prop} {b L : Nat} {xs : Nat → Int32} {G : CG} {B : Nat → Nat} {x bu pa ou i c0 s0 : Nat} {H : Heap} {locs : List Loc} {ls : Array Slot} (hst : l.stackTraces = false) (E : CallFix p m c code 7 s ([.ref b] : List Value).toArray TB RL) (hG : KT G s) (hE : EF G s s.heap) (hXs : va_X b L xs s s.heap) (hbl : b < s.heap.size) (hL : L ≤ 3072) (hZ : EFA G s.heap.size) (hp : LAp G B x bu pa ou) (hnew : ∀ q, LAO B x bu pa ou q → s.heap.size ≤ q) (hi6 : i + 6 ≤ L) (hc9 : c0 + 200 ≤ 601024) (hs9 : s0 + 4000 ≤ 7293034) (hI : LI G B x bu pa ou H) (hS : va_S (fun q9 => s.heap.size ≤ q9) s.heap H locs) (hl : lv_has ls 7 [(4, .int (nI i)), (3, .ref ou), (2, .ref (B 0)), (1, .ref x), (0, .ref b)]) (hK : ∀ (H : Heap) (locs : List Loc) (cs sl : Nat), cs ≤ c0 + 200 → sl ≤ s0 + 4000 → LI G B x bu pa ou H → va_S (fun q9 => s.heap.size ≤ q9) s.heap H locs → ∀ ls : Array Slot, lv_has ls 7 [(4, .int (nI i)), (3, .ref ou), (2, .ref (B 0)), (1, .ref x), (0, .ref b)] → W p l e room_1 s m ([.ref b] : List Value).toArray below meth c H locs cs sl Q (F0 m 2029 ls [])) : W p l e room_1 s m ([.ref b] : List Value).toArray below meth c H locs c0 s0 Q (F0 m 1594 ls []) := by
  obtain ⟨b9, u, nc, np, nh, bk, es, bf, bb, da, hi, f, t, tl, ps, er, ea, ns, ne, se, dr, sk, hb9, hu, hBy, hbb, hO, hM, hDS, f_o⟩ := hI
  have hx := E.1
  have hb := E.2.1
  have hMD := hp.1
  have hDD := hp.2.1
  obtain ⟨⟨h0, hc0⟩, ⟨h1, hp0⟩, ⟨h2, hh⟩, ⟨td, htd, h3⟩, hCr, hPr, hHo, hIj⟩ := id hO
  have hEA : ∀ q9, s.heap.size ≤ q9 → EFA G q9 := fun q9 h9 => Nat.le_trans hZ h9
  have hbA : ¬ s.heap.size ≤ b := Nat.not_le.mpr hbl
  have hAo9 : ∀ q, q = ou → s.heap.size ≤ q := fun q h => hnew q (Or.inr (Or.inr (Or.inr (Or.inl h))))
  have hAB : ∀ q, MA B q → s.heap.size ≤ q := fun q h => hnew q (Or.inr (Or.inr (Or.inr (Or.inr h))))
  have hAO := lao_lt hM hDS f_o
  have hz9 : EFA G H.size := Nat.le_trans hZ hS.1
  have hou : ou < H.size := va_at.lt f_o
  obtain ⟨z1, hz_1⟩ : ∃ z, xs (i + 1) = z := ⟨_, rfl⟩
  obtain ⟨z2, hz_2⟩ : ∃ z, xs (i + 2) = z := ⟨_, rfl⟩
  obtain ⟨z3, hz_3⟩ : ∃ z, xs (i + 3) = z := ⟨_, rfl⟩
  obtain ⟨z4, hz_4⟩ : ∃ z, xs (i + 4) = z := ⟨_, rfl⟩
  obtain ⟨z5, hz_5⟩ : ∃ z, xs (i + 5) = z := ⟨_, rfl⟩
  rcases inV01 z1 0 (nI nc - 1) with hy0 | hy1
  · refine lv_aload_n hx hb dL_law_1594 rfl (lv_at hl 3 rfl) ?_
    refine lv_aload_n hx hb dL_law_1595 rfl (lv_at hl 4 rfl) ?_
    refine lv_iload hx hb dL_law_1596 (lv_at hl 0 rfl) ?_
    refine lv_iconst (v := 1) hx hb dL_law_1598 rfl ?_
    refine lv_iadd hx hb dL_law_1599 ?_
    refine l_sld (k := i + 1) hx hb hXs hbl hbA hS (ixq (nI_ad rfl rfl)) (by omega) hL hz_1 dL_law_1600 ?_
    refine lv_aload_n hx hb dL_law_1601 rfl (lv_at hl 4 rfl) ?_
    refine lv_iload hx hb dL_law_1602 (lv_at hl 0 rfl) ?_
    refine lv_iconst (v := 2) hx hb dL_law_1604 rfl ?_
    refine lv_iadd hx hb dL_law_1605 ?_
    refine l_sld (k := i + 2) hx hb hXs hbl hbA hS (ixq (nI_ad rfl rfl)) (by omega) hL hz_2 dL_law_1606 ?_
    refine lv_aload_n hx hb dL_law_1607 rfl (lv_at hl 4 rfl) ?_
    refine lv_iload hx hb dL_law_1608 (lv_at hl 0 rfl) ?_
    refine lv_iconst (v := 3) hx hb dL_law_1610 rfl ?_
    refine lv_iadd hx hb dL_law_1611 ?_
    refine l_sld (k := i + 3) hx hb hXs hbl hbA hS (ixq (nI_ad rfl rfl)) (by omega) hL hz_3 dL_law_1612 ?_
    refine lv_aload_n hx hb dL_law_1613 rfl (lv_at hl 4 rfl) ?_
    refine lv_iload hx hb dL_law_1614 (lv_at hl 0 rfl) ?_
    refine lv_iconst (v := 4) hx hb dL_law_1616 rfl ?_
    refine lv_iadd hx hb dL_law_1617 ?_
    refine l_sld (k := i + 4) hx hb hXs hbl hbA hS (ixq (nI_ad rfl rfl)) (by omega) hL hz_4 dL_law_1618 ?_
    refine lv_aload_n hx hb dL_law_1619 rfl (lv_at hl 4 rfl) ?_
    refine lv_iload hx hb dL_law_1620 (lv_at hl 0 rfl) ?_
    refine lv_iconst (v := 5) hx hb dL_law_1622 rfl ?_
    refine lv_iadd hx hb dL_law_1623 ?_
    refine l_sld (k := i + 5) hx hb hXs hbl hbA hS (ixq (nI_ad rfl rfl)) (by omega) hL hz_5 dL_law_1624 ?_
    refine lv_aload_n hx hb dL_law_1625 rfl (lv_at hl 1 rfl) ?_
    refine WW.callS (rest := []) (w_L_present_t1 l G z1 z2 z3 z4 z5 (P := DS G (LAO B x bu pa ou) x bu pa bb (nI b9) es bk da nc np nh u hi) (Tr.w (c_X7_present_x l hst G z1 hy0 hc0 z2 z3 z4 z5) (fun _ h9 => ds_dk h9))) yk_L_present E km_L_198 dL_law_1626 hG (hE.S hS hEA) ⟨hDS, _, hDS.1⟩ rfl rfl hl.1 ⟨Nat.le_of_ble_eq_true rfl, Nat.le_of_ble_eq_true rfl⟩ ⟨show c0 + 1 ≤ 601024 by omega, show s0 + 6 ≤ 7293034 by omega⟩ (Nat.le_of_ble_eq_true rfl) hS (fun q9 h9 => h9.elim) (fun v9 H1 locs hq hz8 hfr9 hS => ?_)
    obtain rfl := hq
    have hf9 : ∀ q : Nat, q < H.size → q ≠ ou → H1[q]? = H[q]? := fun q9 h9 _ => hfr9 q9 h9 (fun w9 => w9)
    have f_o := va_at.kept f_o (hfr9 _ (va_at.lt f_o) (fun w9 => w9))
    have hM := ro_M hp hM hf9
    have hDS := ro_D hp hDS hf9
    refine lv_istore (lv' := [(5, .int 1), (4, .int (nI i)), (3, .ref ou), (2, .ref (B 0)), (1, .ref x), (0, .ref b)]) hx hb dL_law_1629 hl (by decide) rfl (fun ls hl => ?_)
    refine lv_aload_n hx hb dL_law_1631 rfl (lv_at hl 3 rfl) ?_
    refine lv_aload_n hx hb dL_law_1632 rfl (lv_at hl 5 rfl) ?_
    refine lv_iload hx hb dL_law_1633 (lv_at hl 1 rfl) ?_
    refine lv_iconst (v := 1) hx hb dL_law_1635 rfl ?_
    refine lv_iadd hx hb dL_law_1636 ?_
    refine l_sld (k := i + 1) hx hb hXs hbl hbA hS (ixq (nI_ad rfl rfl)) (by omega) hL hz_1 dL_law_1637 ?_
    refine lv_aload_n hx hb dL_law_1638 rfl (lv_at hl 5 rfl) ?_
    refine lv_iload hx hb dL_law_1639 (lv_at hl 1 rfl) ?_
    refine lv_iconst (v := 2) hx hb dL_law_1641 rfl ?_
    refine lv_iadd hx hb dL_law_1642 ?_
    refine l_sld (k := i + 2) hx hb hXs hbl hbA hS (ixq (nI_ad rfl rfl)) (by omega) hL hz_2 dL_law_1643 ?_
    refine lv_aload_n hx hb dL_law_1644 rfl (lv_at hl 5 rfl) ?_
    refine lv_iload hx hb dL_law_1645 (lv_at hl 1 rfl) ?_
    refine lv_iconst (v := 3) hx hb dL_law_1647 rfl ?_
    refine lv_iadd hx hb dL_law_1648 ?_
    refine l_sld (k := i + 3) hx hb hXs hbl hbA hS (ixq (nI_ad rfl rfl)) (by omega) hL hz_3 dL_law_1649 ?_
    refine lv_aload_n hx hb dL_law_1650 rfl (lv_at hl 5 rfl) ?_
    refine lv_iload hx hb dL_law_1651 (lv_at hl 1 rfl) ?_
    refine lv_iconst (v := 4) hx hb dL_law_1653 rfl ?_
    refine lv_iadd hx hb dL_law_1654 ?_
    refine l_sld (k := i + 4) hx hb hXs hbl hbA hS (ixq (nI_ad rfl rfl)) (by omega) hL hz_4 dL_law_1655 ?_
    refine lv_aload_n hx hb dL_law_1656 rfl (lv_at hl 5 rfl) ?_
    refine lv_iload hx hb dL_law_1657 (lv_at hl 1 rfl) ?_
    refine lv_iconst (v := 5) hx hb dL_law_1659 rfl ?_
    refine lv_iadd hx hb dL_law_1660 ?_
    refine l_sld (k := i + 5) hx hb hXs hbl hbA hS (ixq (nI_ad rfl rfl)) (by omega) hL hz_5 dL_law_1661 ?_
    refine Wr.callV (rest := []) (c_X8_present_x l G hMD z1 z2 z3 z4 z5 (by rw [h0]; exact hy0)) yk_X8_present E km_L_200 dL_law_1662 hG (hE.S hS hEA) hM (At.recv hG hM.1 rfl) rfl rfl hl.1 ⟨Nat.le_of_ble_eq_true rfl, Nat.le_of_ble_eq_true rfl⟩ ⟨show c0 + 1 + 0 ≤ 601024 by omega, show s0 + 6 + 0 ≤ 7293034 by omega⟩ (Nat.le_of_ble_eq_true rfl) hS hAB (fun v9 H2 locs hq hz8 hfr9 hS => ?_)
    obtain ⟨rfl, hM⟩ := hq
    have hDS := rf_D hp hDS hfr9
    have f_o := rf_o hp f_o hfr9
    refine lv_istore (lv' := [(6, .int 0), (5, .int 1), (4, .int (nI i)), (3, .ref ou), (2, .ref (B 0)), (1, .ref x), (0, .ref b)]) hx hb dL_law_1665 hl (by decide) rfl (fun ls hl => ?_)
    refine lv_aload_n hx hb dL_law_1667 rfl (lv_at hl 4 rfl) ?_
    refine Rd.callV (rest := []) (c_X8_thrown l G) yk_X8_thrown E km_L_113 dL_law_1668 hG (hE.S hS hEA) hM (At.recv hG hM.1 rfl) rfl rfl hl.1 ⟨Nat.le_of_ble_eq_true rfl, Nat.le_of_ble_eq_true rfl⟩ ⟨show c0 + 1 + 0 ≤ 601024 by omega, show s0 + 6 + 0 ≤ 7293034 by omega⟩ (Nat.le_of_ble_eq_true rfl) ?_
    refine lv_ci (y := 1) rfl ?_
    refine lv_iload hx hb dL_law_1671 (lv_at hl 1 rfl) ?_
    refine lv_icmp_eq (tgt := 1678) hx hb dL_law_1673 (by decide) (fun c_1673 => ?_) (fun c_1673 => ?_)
    rotate_left
    · exact absurd c_1673 (by decide)
    refine lv_iload hx hb dL_law_1678 (lv_at hl 1 rfl) ?_
    refine lv_if_ne (tgt := 1695) hx hb dL_law_1680 (by decide) (fun c_1680 => ?_) (fun c_1680 => ?_)
    rotate_left
    · exact absurd c_1680 (by decide)
    refine lv_goto (tgt := 2029) hx hb dL_law_1695 (by decide) ?_
    exact hK H2 locs _ _ (show c0 + 1 + 0 ≤ c0 + 200 by omega) (show s0 + 6 + 0 ≤ s0 + 4000 by omega) (li_mk hb9 hu hBy hbb hO hM hDS f_o) hS ls (lv_sub hl [2, 3, 4, 5, 6] rfl)
  · obtain ⟨k, hk9, ez⟩ := ix_of (by omega) hy1
    rcases wr01 z2 z3 z4 z5 with hw0 | hw1
    · by_cases h24 : np = 24
      · refine lv_aload_n hx hb dL_law_1594 rfl (lv_at hl 3 rfl) ?_
        refine lv_aload_n hx hb dL_law_1595 rfl (lv_at hl 4 rfl) ?_
        refine lv_iload hx hb dL_law_1596 (lv_at hl 0 rfl) ?_
        refine lv_iconst (v := 1) hx hb dL_law_1598 rfl ?_
        refine lv_iadd hx hb dL_law_1599 ?_
        refine l_sld (k := i + 1) hx hb hXs hbl hbA hS (ixq (nI_ad rfl rfl)) (by omega) hL hz_1 dL_law_1600 ?_
        refine lv_aload_n hx hb dL_law_1601 rfl (lv_at hl 4 rfl) ?_
        refine lv_iload hx hb dL_law_1602 (lv_at hl 0 rfl) ?_
        refine lv_iconst (v := 2) hx hb dL_law_1604 rfl ?_
        refine lv_iadd hx hb dL_law_1605 ?_
        refine l_sld (k := i + 2) hx hb hXs hbl hbA hS (ixq (nI_ad rfl rfl)) (by omega) hL hz_2 dL_law_1606 ?_
        refine lv_aload_n hx hb dL_law_1607 rfl (lv_at hl 4 rfl) ?_
        refine lv_iload hx hb dL_law_1608 (lv_at hl 0 rfl) ?_
        refine lv_iconst (v := 3) hx hb dL_law_1610 rfl ?_
        refine lv_iadd hx hb dL_law_1611 ?_
        refine l_sld (k := i + 3) hx hb hXs hbl hbA hS (ixq (nI_ad rfl rfl)) (by omega) hL hz_3 dL_law_1612 ?_
        refine lv_aload_n hx hb dL_law_1613 rfl (lv_at hl 4 rfl) ?_
        refine lv_iload hx hb dL_law_1614 (lv_at hl 0 rfl) ?_
        refine lv_iconst (v := 4) hx hb dL_law_1616 rfl ?_
        refine lv_iadd hx hb dL_law_1617 ?_
        refine l_sld (k := i + 4) hx hb hXs hbl hbA hS (ixq (nI_ad rfl rfl)) (by omega) hL hz_4 dL_law_1618 ?_
        refine lv_aload_n hx hb dL_law_1619 rfl (lv_at hl 4 rfl) ?_
        refine lv_iload hx hb dL_law_1620 (lv_at hl 0 rfl) ?_
        refine lv_iconst (v := 5) hx hb dL_law_1622 rfl ?_
        refine lv_iadd hx hb dL_law_1623 ?_
        refine l_sld (k := i + 5) hx hb hXs hbl hbA hS (ixq (nI_ad rfl rfl)) (by omega) hL hz_5 dL_law_1624 ?_
        refine lv_aload_n hx hb dL_law_1625 rfl (lv_at hl 1 rfl) ?_
        refine WW.callS (rest := []) (w_L_present_t3 l G z1 z2 z3 z4 z5 (P := DS G (LAO B x bu pa ou) x bu pa bb (nI b9) es bk da nc np nh u hi) (Tr.w (c_X7_present_z l hst G z1 k ez hk9 hc0 z2 z3 z4 z5 hw0 h24) (fun _ h9 => ds_dk h9))) yk_L_present E km_L_198 dL_law_1626 hG (hE.S hS hEA) ⟨hDS, _, hDS.1⟩ rfl rfl hl.1 ⟨Nat.le_of_ble_eq_true rfl, Nat.le_of_ble_eq_true rfl⟩ ⟨show c0 + 1 ≤ 601024 by omega, show s0 + 6 ≤ 7293034 by omega⟩ (Nat.le_of_ble_eq_true rfl) hS (fun q9 h9 => h9.elim) (fun v9 H3 locs hq hz8 hfr9 hS => ?_)
        obtain rfl := hq
        have hf9 : ∀ q : Nat, q < H.size → q ≠ ou → H3[q]? = H[q]? := fun q9 h9 _ => hfr9 q9 h9 (fun w9 => w9)
        have f_o := va_at.kept f_o (hfr9 _ (va_at.lt f_o) (fun w9 => w9))
        have hM := ro_M hp hM hf9
        have hDS := ro_D hp hDS hf9
        refine lv_istore (lv' := [(5, .int 3), (4, .int (nI i)), (3, .ref ou), (2, .ref (B 0)), (1, .ref x), (0, .ref b)]) hx hb dL_law_1629 hl (by decide) rfl (fun ls hl => ?_)
        refine lv_aload_n hx hb dL_law_1631 rfl (lv_at hl 3 rfl) ?_
        refine lv_aload_n hx hb dL_law_1632 rfl (lv_at hl 5 rfl) ?_
        refine lv_iload hx hb dL_law_1633 (lv_at hl 1 rfl) ?_
        refine lv_iconst (v := 1) hx hb dL_law_1635 rfl ?_
        refine lv_iadd hx hb dL_law_1636 ?_
        refine l_sld (k := i + 1) hx hb hXs hbl hbA hS (ixq (nI_ad rfl rfl)) (by omega) hL hz_1 dL_law_1637 ?_
        refine lv_aload_n hx hb dL_law_1638 rfl (lv_at hl 5 rfl) ?_
        refine lv_iload hx hb dL_law_1639 (lv_at hl 1 rfl) ?_
        refine lv_iconst (v := 2) hx hb dL_law_1641 rfl ?_
        refine lv_iadd hx hb dL_law_1642 ?_
        refine l_sld (k := i + 2) hx hb hXs hbl hbA hS (ixq (nI_ad rfl rfl)) (by omega) hL hz_2 dL_law_1643 ?_
        refine lv_aload_n hx hb dL_law_1644 rfl (lv_at hl 5 rfl) ?_
        refine lv_iload hx hb dL_law_1645 (lv_at hl 1 rfl) ?_
        refine lv_iconst (v := 3) hx hb dL_law_1647 rfl ?_
        refine lv_iadd hx hb dL_law_1648 ?_
        refine l_sld (k := i + 3) hx hb hXs hbl hbA hS (ixq (nI_ad rfl rfl)) (by omega) hL hz_3 dL_law_1649 ?_
        refine lv_aload_n hx hb dL_law_1650 rfl (lv_at hl 5 rfl) ?_
        refine lv_iload hx hb dL_law_1651 (lv_at hl 1 rfl) ?_
        refine lv_iconst (v := 4) hx hb dL_law_1653 rfl ?_
        refine lv_iadd hx hb dL_law_1654 ?_
        refine l_sld (k := i + 4) hx hb hXs hbl hbA hS (ixq (nI_ad rfl rfl)) (by omega) hL hz_4 dL_law_1655 ?_
        refine lv_aload_n hx hb dL_law_1656 rfl (lv_at hl 5 rfl) ?_
        refine lv_iload hx hb dL_law_1657 (lv_at hl 1 rfl) ?_
        refine lv_iconst (v := 5) hx hb dL_law_1659 rfl ?_
        refine lv_iadd hx hb dL_law_1660 ?_
        refine l_sld (k := i + 5) hx hb hXs hbl hbA hS (ixq (nI_ad rfl rfl)) (by omega) hL hz_5 dL_law_1661 ?_
        refine Wr.callV (rest := []) (c_X8_present_z l G hMD z1 z2 z3 z4 z5 (by rw [h0]; exact hy1) hw0 (by rw [h1, h24]; rfl)) yk_X8_present E km_L_200 dL_law_1662 hG (hE.S hS hEA) hM (At.recv hG hM.1 rfl) rfl rfl hl.1 ⟨Nat.le_of_ble_eq_true rfl, Nat.le_of_ble_eq_true rfl⟩ ⟨show c0 + 1 + 0 ≤ 601024 by omega, show s0 + 6 + 0 ≤ 7293034 by omega⟩ (Nat.le_of_ble_eq_true rfl) hS hAB (fun v9 H4 locs hq hz8 hfr9 hS => ?_)
        obtain ⟨rfl, hM⟩ := hq
        have hDS := rf_D hp hDS hfr9
        have f_o := rf_o hp f_o hfr9
        refine lv_istore (lv' := [(6, .int 0), (5, .int 3), (4, .int (nI i)), (3, .ref ou), (2, .ref (B 0)), (1, .ref x), (0, .ref b)]) hx hb dL_law_1665 hl (by decide) rfl (fun ls hl => ?_)
        refine lv_aload_n hx hb dL_law_1667 rfl (lv_at hl 4 rfl) ?_
        refine Rd.callV (rest := []) (c_X8_thrown l G) yk_X8_thrown E km_L_113 dL_law_1668 hG (hE.S hS hEA) hM (At.recv hG hM.1 rfl) rfl rfl hl.1 ⟨Nat.le_of_ble_eq_true rfl, Nat.le_of_ble_eq_true rfl⟩ ⟨show c0 + 1 + 0 ≤ 601024 by omega, show s0 + 6 + 0 ≤ 7293034 by omega⟩ (Nat.le_of_ble_eq_true rfl) ?_
        refine lv_ci (y := 3) rfl ?_
        refine lv_iload hx hb dL_law_1671 (lv_at hl 1 rfl) ?_
        refine lv_icmp_eq (tgt := 1678) hx hb dL_law_1673 (by decide) (fun c_1673 => ?_) (fun c_1673 => ?_)
        rotate_left
        · exact absurd c_1673 (by decide)
        refine lv_iload hx hb dL_law_1678 (lv_at hl 1 rfl) ?_
        refine lv_if_ne (tgt := 1695) hx hb dL_law_1680 (by decide) (fun c_1680 => ?_) (fun c_1680 => ?_)
        rotate_left
        · exact absurd c_1680 (by decide)
        refine lv_goto (tgt := 2029) hx hb dL_law_1695 (by decide) ?_
        exact hK H4 locs _ _ (show c0 + 1 + 0 ≤ c0 + 200 by omega) (show s0 + 6 + 0 ≤ s0 + 4000 by omega) (li_mk hb9 hu hBy hbb hO hM hDS f_o) hS ls (lv_sub hl [2, 3, 4, 5, 6] rfl)
      · obtain ⟨n, hn9, ey⟩ := in_of (n := 9999) (by decide) (wr_day hw0)
        obtain ⟨ex1, pe1, te, nd, g1, g2, g3, g4, g5, g6, g7, g8, g9, g10⟩ := hCr k hk9
        refine lv_aload_n hx hb dL_law_1594 rfl (lv_at hl 3 rfl) ?_
        refine lv_aload_n hx hb dL_law_1595 rfl (lv_at hl 4 rfl) ?_
        refine lv_iload hx hb dL_law_1596 (lv_at hl 0 rfl) ?_
        refine lv_iconst (v := 1) hx hb dL_law_1598 rfl ?_
        refine lv_iadd hx hb dL_law_1599 ?_
        refine l_sld (k := i + 1) hx hb hXs hbl hbA hS (ixq (nI_ad rfl rfl)) (by omega) hL hz_1 dL_law_1600 ?_
        refine lv_aload_n hx hb dL_law_1601 rfl (lv_at hl 4 rfl) ?_
        refine lv_iload hx hb dL_law_1602 (lv_at hl 0 rfl) ?_
        refine lv_iconst (v := 2) hx hb dL_law_1604 rfl ?_
        refine lv_iadd hx hb dL_law_1605 ?_
        refine l_sld (k := i + 2) hx hb hXs hbl hbA hS (ixq (nI_ad rfl rfl)) (by omega) hL hz_2 dL_law_1606 ?_
        refine lv_aload_n hx hb dL_law_1607 rfl (lv_at hl 4 rfl) ?_
        refine lv_iload hx hb dL_law_1608 (lv_at hl 0 rfl) ?_
        refine lv_iconst (v := 3) hx hb dL_law_1610 rfl ?_
        refine lv_iadd hx hb dL_law_1611 ?_
        refine l_sld (k := i + 3) hx hb hXs hbl hbA hS (ixq (nI_ad rfl rfl)) (by omega) hL hz_3 dL_law_1612 ?_
        refine lv_aload_n hx hb dL_law_1613 rfl (lv_at hl 4 rfl) ?_
        refine lv_iload hx hb dL_law_1614 (lv_at hl 0 rfl) ?_
        refine lv_iconst (v := 4) hx hb dL_law_1616 rfl ?_
        refine lv_iadd hx hb dL_law_1617 ?_
        refine l_sld (k := i + 4) hx hb hXs hbl hbA hS (ixq (nI_ad rfl rfl)) (by omega) hL hz_4 dL_law_1618 ?_
        refine lv_aload_n hx hb dL_law_1619 rfl (lv_at hl 4 rfl) ?_
        refine lv_iload hx hb dL_law_1620 (lv_at hl 0 rfl) ?_
        refine lv_iconst (v := 5) hx hb dL_law_1622 rfl ?_
        refine lv_iadd hx hb dL_law_1623 ?_
        refine l_sld (k := i + 5) hx hb hXs hbl hbA hS (ixq (nI_ad rfl rfl)) (by omega) hL hz_5 dL_law_1624 ?_
        refine lv_aload_n hx hb dL_law_1625 rfl (lv_at hl 1 rfl) ?_
        refine WW.callS (rest := []) (w_L_present l G z1 z2 z3 z4 z5 (Q := (fun r9 H9 => (r9 = nI np ∧ ∃ k9, DS G (LAO B x bu pa ou) x bu pa bb (nI b9) es k9 (presD da np nc nh ex1 pe1 k n z1 z3 z4 z5) nc (np + 1) nh (remU u) (remH hi da u) H9))) (f := f) (Wr.weak (Q' := (fun v9 H9 => ∃ r, v9 = some (.int r) ∧ (r = nI np ∧ ∃ k9, DS G (LAO B x bu pa ou) x bu pa bb (nI b9) es k9 (presD da np nc nh ex1 pe1 k n z1 z3 z4 z5) nc (np + 1) nh (remU u) (remH hi da u) H9))) (c_X7_present l G hDD hu hO hz9 hAO z1 k ez hk9 z2 z3 z4 z5 n ex1 pe1 ey hn9 hw0 (by omega) nd g7 g8 g1 (by omega) g3 (by omega)) (fun _ h9 => h9) (fun _ _ h9 => ⟨_, h9.1, rfl, h9.2⟩) (Nat.le_refl _) (Nat.le_refl _)) (dw_ou hp hou) (fun _ _ _ _ oq h9 => ⟨h9.1, h9.2.elim (fun k9 y9 => ⟨k9, ds_o hp y9 oq⟩)⟩)) yk_L_present E km_L_198 dL_law_1626 hG (hE.S hS hEA) ⟨⟨rfl, hDS⟩, ⟨_, hDS.1⟩, f_o⟩ rfl rfl hl.1 ⟨Nat.le_of_ble_eq_true rfl, Nat.le_of_ble_eq_true rfl⟩ ⟨show c0 + 3 ≤ 601024 by omega, show s0 + 35 ≤ 7293034 by omega⟩ (Nat.le_of_ble_eq_true rfl) hS (fun q9 h9 => h9.elim (fun w9 => dw_new hnew hS.1 w9) (hAo9 q9)) (fun v9 H5 locs hq hz8 hfr9 hS => ?_)
        obtain ⟨rfl, r, hQ9, f_o⟩ := hq
        have hM := ch_M hp hM hfr9
        obtain ⟨hr9, bk9, hDS⟩ := hQ9
        refine lv_istore (lv' := [(5, .int 0), (4, .int (nI i)), (3, .ref ou), (2, .ref (B 0)), (1, .ref x), (0, .ref b)]) hx hb dL_law_1629 hl (by decide) rfl (fun ls hl => ?_)
        refine lv_aload_n hx hb dL_law_1631 rfl (lv_at hl 3 rfl) ?_
        refine lv_aload_n hx hb dL_law_1632 rfl (lv_at hl 5 rfl) ?_
        refine lv_iload hx hb dL_law_1633 (lv_at hl 1 rfl) ?_
        refine lv_iconst (v := 1) hx hb dL_law_1635 rfl ?_
        refine lv_iadd hx hb dL_law_1636 ?_
        refine l_sld (k := i + 1) hx hb hXs hbl hbA hS (ixq (nI_ad rfl rfl)) (by omega) hL hz_1 dL_law_1637 ?_
        refine lv_aload_n hx hb dL_law_1638 rfl (lv_at hl 5 rfl) ?_
        refine lv_iload hx hb dL_law_1639 (lv_at hl 1 rfl) ?_
        refine lv_iconst (v := 2) hx hb dL_law_1641 rfl ?_
        refine lv_iadd hx hb dL_law_1642 ?_
        refine l_sld (k := i + 2) hx hb hXs hbl hbA hS (ixq (nI_ad rfl rfl)) (by omega) hL hz_2 dL_law_1643 ?_
        refine lv_aload_n hx hb dL_law_1644 rfl (lv_at hl 5 rfl) ?_
        refine lv_iload hx hb dL_law_1645 (lv_at hl 1 rfl) ?_
        refine lv_iconst (v := 3) hx hb dL_law_1647 rfl ?_
        refine lv_iadd hx hb dL_law_1648 ?_
        refine l_sld (k := i + 3) hx hb hXs hbl hbA hS (ixq (nI_ad rfl rfl)) (by omega) hL hz_3 dL_law_1649 ?_
        refine lv_aload_n hx hb dL_law_1650 rfl (lv_at hl 5 rfl) ?_
        refine lv_iload hx hb dL_law_1651 (lv_at hl 1 rfl) ?_
        refine lv_iconst (v := 4) hx hb dL_law_1653 rfl ?_
        refine lv_iadd hx hb dL_law_1654 ?_
        refine l_sld (k := i + 4) hx hb hXs hbl hbA hS (ixq (nI_ad rfl rfl)) (by omega) hL hz_4 dL_law_1655 ?_
        refine lv_aload_n hx hb dL_law_1656 rfl (lv_at hl 5 rfl) ?_
        refine lv_iload hx hb dL_law_1657 (lv_at hl 1 rfl) ?_
        refine lv_iconst (v := 5) hx hb dL_law_1659 rfl ?_
        refine lv_iadd hx hb dL_law_1660 ?_
        refine l_sld (k := i + 5) hx hb hXs hbl hbA hS (ixq (nI_ad rfl rfl)) (by omega) hL hz_5 dL_law_1661 ?_
        refine Wr.callV (rest := []) (c_X8_present l G hMD z1 z2 z3 z4 z5 k n np nc nh ex1 pe1 ez ey (by omega) hn9 (by rw [h0]; exact hy1) h1 hp0 h0 hc0 h2 hh g1 (by omega) g3 (by omega) hw0 (by omega) (fun z9 => h24 ((nEQ (x := da 1) (y := 24) (a := np) (b := 24) h1 rfl (by omega) (by omega)).mp z9)) u hu) yk_X8_present E km_L_200 dL_law_1662 hG (hE.S hS hEA) hM (At.recv hG hM.1 rfl) rfl rfl hl.1 ⟨Nat.le_of_ble_eq_true rfl, Nat.le_of_ble_eq_true rfl⟩ ⟨show c0 + 3 + 0 ≤ 601024 by omega, show s0 + 35 + 0 ≤ 7293034 by omega⟩ (Nat.le_of_ble_eq_true rfl) hS hAB (fun v9 H6 locs hq hz8 hfr9 hS => ?_)
        obtain ⟨rfl, hM⟩ := hq
        have hDS := rf_D hp hDS hfr9
        have f_o := rf_o hp f_o hfr9
        refine lv_istore (lv' := [(6, .int (nI np)), (5, .int 0), (4, .int (nI i)), (3, .ref ou), (2, .ref (B 0)), (1, .ref x), (0, .ref b)]) hx hb dL_law_1665 hl (by decide) rfl (fun ls hl => ?_)
        refine lv_aload_n hx hb dL_law_1667 rfl (lv_at hl 4 rfl) ?_
        refine Rd.callV (rest := []) (c_X8_thrown l G) yk_X8_thrown E km_L_113 dL_law_1668 hG (hE.S hS hEA) hM (At.recv hG hM.1 rfl) rfl rfl hl.1 ⟨Nat.le_of_ble_eq_true rfl, Nat.le_of_ble_eq_true rfl⟩ ⟨show c0 + 3 + 0 ≤ 601024 by omega, show s0 + 35 + 0 ≤ 7293034 by omega⟩ (Nat.le_of_ble_eq_true rfl) ?_
        refine lv_ci (y := 0) rfl ?_
        refine lv_iload hx hb dL_law_1671 (lv_at hl 1 rfl) ?_
        refine lv_icmp_eq (tgt := 1678) hx hb dL_law_1673 (by decide) (fun c_1673 => ?_) (fun c_1673 => ?_)
        rotate_left
        · exact absurd c_1673 (by decide)
        refine lv_iload hx hb dL_law_1678 (lv_at hl 1 rfl) ?_
        refine lv_if_ne (tgt := 1695) hx hb dL_law_1680 (by decide) (fun c_1680 => ?_) (fun c_1680 => ?_)
        · exact absurd c_1680 (by decide)
        refine lv_aload_n hx hb dL_law_1683 rfl (lv_at hl 3 rfl) ?_
        refine lv_iconst (v := 0) hx hb dL_law_1684 rfl ?_
        refine g_lld 0 E hG f_o rfl (by omega) (by decide) dL_law_1685 ?_
        refine lv_iload hx hb dL_law_1686 (lv_at hl 0 rfl) ?_
        refine lv_i2l (v := (nI np).toInt64) hx hb dL_law_1688 rfl ?_
        refine W.lcmp hx hb dL_law_1689 ?_
        refine lv_if_eq (tgt := 1695) hx hb dL_law_1690 (by decide) (fun c_1690 => ?_) (fun c_1690 => ?_)
        rotate_left
        · exact absurd ((lg_cmp_eq _ _).mpr (by rw [pk_uLs]; rw [hr9])) c_1690
        refine lv_goto (tgt := 2029) hx hb dL_law_1695 (by decide) ?_
        exact hK H6 locs _ _ (show c0 + 3 + 0 ≤ c0 + 200 by omega) (show s0 + 35 + 0 ≤ s0 + 4000 by omega) (li_mk hb9 (remU_le hu) hBy hbb (pres_ok (y := z2) hO (by omega) ez hk9 hw0) hM hDS f_o) hS ls (lv_sub hl [2, 3, 4, 5, 6] rfl)
    · refine lv_aload_n hx hb dL_law_1594 rfl (lv_at hl 3 rfl) ?_
      refine lv_aload_n hx hb dL_law_1595 rfl (lv_at hl 4 rfl) ?_
      refine lv_iload hx hb dL_law_1596 (lv_at hl 0 rfl) ?_
      refine lv_iconst (v := 1) hx hb dL_law_1598 rfl ?_
      refine lv_iadd hx hb dL_law_1599 ?_
      refine l_sld (k := i + 1) hx hb hXs hbl hbA hS (ixq (nI_ad rfl rfl)) (by omega) hL hz_1 dL_law_1600 ?_
      refine lv_aload_n hx hb dL_law_1601 rfl (lv_at hl 4 rfl) ?_
      refine lv_iload hx hb dL_law_1602 (lv_at hl 0 rfl) ?_
      refine lv_iconst (v := 2) hx hb dL_law_1604 rfl ?_
      refine lv_iadd hx hb dL_law_1605 ?_
      refine l_sld (k := i + 2) hx hb hXs hbl hbA hS (ixq (nI_ad rfl rfl)) (by omega) hL hz_2 dL_law_1606 ?_
      refine lv_aload_n hx hb dL_law_1607 rfl (lv_at hl 4 rfl) ?_
      refine lv_iload hx hb dL_law_1608 (lv_at hl 0 rfl) ?_
      refine lv_iconst (v := 3) hx hb dL_law_1610 rfl ?_
      refine lv_iadd hx hb dL_law_1611 ?_
      refine l_sld (k := i + 3) hx hb hXs hbl hbA hS (ixq (nI_ad rfl rfl)) (by omega) hL hz_3 dL_law_1612 ?_
      refine lv_aload_n hx hb dL_law_1613 rfl (lv_at hl 4 rfl) ?_
      refine lv_iload hx hb dL_law_1614 (lv_at hl 0 rfl) ?_
      refine lv_iconst (v := 4) hx hb dL_law_1616 rfl ?_
      refine lv_iadd hx hb dL_law_1617 ?_
      refine l_sld (k := i + 4) hx hb hXs hbl hbA hS (ixq (nI_ad rfl rfl)) (by omega) hL hz_4 dL_law_1618 ?_
      refine lv_aload_n hx hb dL_law_1619 rfl (lv_at hl 4 rfl) ?_
      refine lv_iload hx hb dL_law_1620 (lv_at hl 0 rfl) ?_
      refine lv_iconst (v := 5) hx hb dL_law_1622 rfl ?_
      refine lv_iadd hx hb dL_law_1623 ?_
      refine l_sld (k := i + 5) hx hb hXs hbl hbA hS (ixq (nI_ad rfl rfl)) (by omega) hL hz_5 dL_law_1624 ?_
      refine lv_aload_n hx hb dL_law_1625 rfl (lv_at hl 1 rfl) ?_
      refine WW.callS (rest := []) (w_L_present_t2 l G z1 z2 z3 z4 z5 (P := DS G (LAO B x bu pa ou) x bu pa bb (nI b9) es bk da nc np nh u hi) (Tr.w (c_X7_present_y l hst G z1 k ez hk9 hc0 z2 z3 z4 z5 hw1) (fun _ h9 => ds_dk h9))) yk_L_present E km_L_198 dL_law_1626 hG (hE.S hS hEA) ⟨hDS, _, hDS.1⟩ rfl rfl hl.1 ⟨Nat.le_of_ble_eq_true rfl, Nat.le_of_ble_eq_true rfl⟩ ⟨show c0 + 1 ≤ 601024 by omega, show s0 + 6 ≤ 7293034 by omega⟩ (Nat.le_of_ble_eq_true rfl) hS (fun q9 h9 => h9.elim) (fun v9 H7 locs hq hz8 hfr9 hS => ?_)
      obtain rfl := hq
      have hf9 : ∀ q : Nat, q < H.size → q ≠ ou → H7[q]? = H[q]? := fun q9 h9 _ => hfr9 q9 h9 (fun w9 => w9)
      have f_o := va_at.kept f_o (hfr9 _ (va_at.lt f_o) (fun w9 => w9))
      have hM := ro_M hp hM hf9
      have hDS := ro_D hp hDS hf9
      refine lv_istore (lv' := [(5, .int 2), (4, .int (nI i)), (3, .ref ou), (2, .ref (B 0)), (1, .ref x), (0, .ref b)]) hx hb dL_law_1629 hl (by decide) rfl (fun ls hl => ?_)
      refine lv_aload_n hx hb dL_law_1631 rfl (lv_at hl 3 rfl) ?_
      refine lv_aload_n hx hb dL_law_1632 rfl (lv_at hl 5 rfl) ?_
      refine lv_iload hx hb dL_law_1633 (lv_at hl 1 rfl) ?_
      refine lv_iconst (v := 1) hx hb dL_law_1635 rfl ?_
      refine lv_iadd hx hb dL_law_1636 ?_
      refine l_sld (k := i + 1) hx hb hXs hbl hbA hS (ixq (nI_ad rfl rfl)) (by omega) hL hz_1 dL_law_1637 ?_
      refine lv_aload_n hx hb dL_law_1638 rfl (lv_at hl 5 rfl) ?_
      refine lv_iload hx hb dL_law_1639 (lv_at hl 1 rfl) ?_
      refine lv_iconst (v := 2) hx hb dL_law_1641 rfl ?_
      refine lv_iadd hx hb dL_law_1642 ?_
      refine l_sld (k := i + 2) hx hb hXs hbl hbA hS (ixq (nI_ad rfl rfl)) (by omega) hL hz_2 dL_law_1643 ?_
      refine lv_aload_n hx hb dL_law_1644 rfl (lv_at hl 5 rfl) ?_
      refine lv_iload hx hb dL_law_1645 (lv_at hl 1 rfl) ?_
      refine lv_iconst (v := 3) hx hb dL_law_1647 rfl ?_
      refine lv_iadd hx hb dL_law_1648 ?_
      refine l_sld (k := i + 3) hx hb hXs hbl hbA hS (ixq (nI_ad rfl rfl)) (by omega) hL hz_3 dL_law_1649 ?_
      refine lv_aload_n hx hb dL_law_1650 rfl (lv_at hl 5 rfl) ?_
      refine lv_iload hx hb dL_law_1651 (lv_at hl 1 rfl) ?_
      refine lv_iconst (v := 4) hx hb dL_law_1653 rfl ?_
      refine lv_iadd hx hb dL_law_1654 ?_
      refine l_sld (k := i + 4) hx hb hXs hbl hbA hS (ixq (nI_ad rfl rfl)) (by omega) hL hz_4 dL_law_1655 ?_
      refine lv_aload_n hx hb dL_law_1656 rfl (lv_at hl 5 rfl) ?_
      refine lv_iload hx hb dL_law_1657 (lv_at hl 1 rfl) ?_
      refine lv_iconst (v := 5) hx hb dL_law_1659 rfl ?_
      refine lv_iadd hx hb dL_law_1660 ?_
      refine l_sld (k := i + 5) hx hb hXs hbl hbA hS (ixq (nI_ad rfl rfl)) (by omega) hL hz_5 dL_law_1661 ?_
      refine Wr.callV (rest := []) (c_X8_present_y l G hMD z1 z2 z3 z4 z5 (by rw [h0]; exact hy1) hw1) yk_X8_present E km_L_200 dL_law_1662 hG (hE.S hS hEA) hM (At.recv hG hM.1 rfl) rfl rfl hl.1 ⟨Nat.le_of_ble_eq_true rfl, Nat.le_of_ble_eq_true rfl⟩ ⟨show c0 + 1 + 0 ≤ 601024 by omega, show s0 + 6 + 0 ≤ 7293034 by omega⟩ (Nat.le_of_ble_eq_true rfl) hS hAB (fun v9 H8 locs hq hz8 hfr9 hS => ?_)
      obtain ⟨rfl, hM⟩ := hq
      have hDS := rf_D hp hDS hfr9
      have f_o := rf_o hp f_o hfr9
      refine lv_istore (lv' := [(6, .int 0), (5, .int 2), (4, .int (nI i)), (3, .ref ou), (2, .ref (B 0)), (1, .ref x), (0, .ref b)]) hx hb dL_law_1665 hl (by decide) rfl (fun ls hl => ?_)
      refine lv_aload_n hx hb dL_law_1667 rfl (lv_at hl 4 rfl) ?_
      refine Rd.callV (rest := []) (c_X8_thrown l G) yk_X8_thrown E km_L_113 dL_law_1668 hG (hE.S hS hEA) hM (At.recv hG hM.1 rfl) rfl rfl hl.1 ⟨Nat.le_of_ble_eq_true rfl, Nat.le_of_ble_eq_true rfl⟩ ⟨show c0 + 1 + 0 ≤ 601024 by omega, show s0 + 6 + 0 ≤ 7293034 by omega⟩ (Nat.le_of_ble_eq_true rfl) ?_
      refine lv_ci (y := 2) rfl ?_
      refine lv_iload hx hb dL_law_1671 (lv_at hl 1 rfl) ?_
      refine lv_icmp_eq (tgt := 1678) hx hb dL_law_1673 (by decide) (fun c_1673 => ?_) (fun c_1673 => ?_)
      rotate_left
      · exact absurd c_1673 (by decide)
      refine lv_iload hx hb dL_law_1678 (lv_at hl 1 rfl) ?_
      refine lv_if_ne (tgt := 1695) hx hb dL_law_1680 (by decide) (fun c_1680 => ?_) (fun c_1680 => ?_)
      rotate_left
      · exact absurd c_1680 (by decide)
      refine lv_goto (tgt := 2029) hx hb dL_law_1695 (by decide) ?_
      exact hK H8 locs _ _ (show c0 + 1 + 0 ≤ c0 + 200 by omega) (show s0 + 6 + 0 ≤ s0 + 4000 by omega) (li_mk hb9 hu hBy hbb hO hM hDS f_o) hS ls (lv_sub hl [2, 3, 4, 5, 6] rfl)

set_option maxHeartbeats 4000000 in
set_option maxRecDepth 100000 in
/-- the law: examine -/
theorem lc_examine {p : Program} {l : Launch} {e : Env} {s : State} {m : MethodId} {below : List Frame} {meth : Method} {c : Code} {Q : State → Prop} {b L : Nat} {xs : Nat → Int32} {G : CG} {B : Nat → Nat} {x bu pa ou i c0 s0 : Nat} {H : Heap} {locs : List Loc} {ls : Array Slot} (hst : l.stackTraces = false) (E : CallFix p m c code 7 s ([.ref b] : List Value).toArray TB RL) (hG : KT G s) (hE : EF G s s.heap) (hXs : va_X b L xs s s.heap) (hbl : b < s.heap.size) (hL : L ≤ 3072) (hZ : EFA G s.heap.size) (hp : LAp G B x bu pa ou) (hnew : ∀ q, LAO B x bu pa ou q → s.heap.size ≤ q) (hi6 : i + 6 ≤ L) (hc9 : c0 + 200 ≤ 601024) (hs9 : s0 + 4000 ≤ 7293034) (hI : LI G B x bu pa ou H) (hS : va_S (fun q9 => s.heap.size ≤ q9) s.heap H locs) (hl : lv_has ls 7 [(4, .int (nI i)), (3, .ref ou), (2, .ref (B 0)), (1, .ref x), (0, .ref b)]) (hK : ∀ (H : Heap) (locs : List Loc) (cs sl : Nat), cs ≤ c0 + 200 → sl ≤ s0 + 4000 → LI G B x bu pa ou H → va_S (fun q9 => s.heap.size ≤ q9) s.heap H locs → ∀ ls : Array Slot, lv_has ls 7 [(4, .int (nI i)), (3, .ref ou), (2, .ref (B 0)), (1, .ref x), (0, .ref b)] → W p l e room_1 s m ([.ref b] : List Value).toArray below meth c H locs cs sl Q (F0 m 2029 ls [])) : W p l e room_1 s m ([.ref b] : List Value).toArray below meth c H locs c0 s0 Q (F0 m 1698 ls []) := by
  obtain ⟨b9, u, nc, np, nh, bk, es, bf, bb, da, hi, f, t, tl, ps, er, ea, ns, ne, se, dr, sk, hb9, hu, hBy, hbb, hO, hM, hDS, f_o⟩ := hI
  have hx := E.1
  have hb := E.2.1
  have hMD := hp.1
  have hDD := hp.2.1
  obtain ⟨⟨h0, hc0⟩, ⟨h1, hp0⟩, ⟨h2, hh⟩, ⟨td, htd, h3⟩, hCr, hPr, hHo, hIj⟩ := id hO
  have hEA : ∀ q9, s.heap.size ≤ q9 → EFA G q9 := fun q9 h9 => Nat.le_trans hZ h9
  have hbA : ¬ s.heap.size ≤ b := Nat.not_le.mpr hbl
  have hAo9 : ∀ q, q = ou → s.heap.size ≤ q := fun q h => hnew q (Or.inr (Or.inr (Or.inr (Or.inl h))))
  have hAB : ∀ q, MA B q → s.heap.size ≤ q := fun q h => hnew q (Or.inr (Or.inr (Or.inr (Or.inr h))))
  have hAO := lao_lt hM hDS f_o
  have hz9 : EFA G H.size := Nat.le_trans hZ hS.1
  have hou : ou < H.size := va_at.lt f_o
  obtain ⟨z1, hz_1⟩ : ∃ z, xs (i + 1) = z := ⟨_, rfl⟩
  rcases inV01 z1 0 (nI np - 1) with hy0 | hy1
  · refine lv_aload_n hx hb dL_law_1698 rfl (lv_at hl 3 rfl) ?_
    refine lv_aload_n hx hb dL_law_1699 rfl (lv_at hl 4 rfl) ?_
    refine lv_iload hx hb dL_law_1700 (lv_at hl 0 rfl) ?_
    refine lv_iconst (v := 1) hx hb dL_law_1702 rfl ?_
    refine lv_iadd hx hb dL_law_1703 ?_
    refine l_sld (k := i + 1) hx hb hXs hbl hbA hS (ixq (nI_ad rfl rfl)) (by omega) hL hz_1 dL_law_1704 ?_
    refine lv_aload_n hx hb dL_law_1705 rfl (lv_at hl 1 rfl) ?_
    refine WW.callS (rest := []) (w_L_examine_t1 l G z1 (P := DS G (LAO B x bu pa ou) x bu pa bb (nI b9) es bk da nc np nh u hi) (Tr.w (c_X7_examine_x l hst G z1 hy0 hp0) (fun _ h9 => ds_dk h9))) yk_L_examine E km_L_201 dL_law_1706 hG (hE.S hS hEA) ⟨hDS, _, hDS.1⟩ rfl rfl hl.1 ⟨Nat.le_of_ble_eq_true rfl, Nat.le_of_ble_eq_true rfl⟩ ⟨show c0 + 1 ≤ 601024 by omega, show s0 + 6 ≤ 7293034 by omega⟩ (Nat.le_of_ble_eq_true rfl) hS (fun q9 h9 => h9.elim) (fun v9 H1 locs hq hz8 hfr9 hS => ?_)
    obtain rfl := hq
    have hf9 : ∀ q : Nat, q < H.size → q ≠ ou → H1[q]? = H[q]? := fun q9 h9 _ => hfr9 q9 h9 (fun w9 => w9)
    have f_o := va_at.kept f_o (hfr9 _ (va_at.lt f_o) (fun w9 => w9))
    have hM := ro_M hp hM hf9
    have hDS := ro_D hp hDS hf9
    refine lv_istore (lv' := [(5, .int 1), (4, .int (nI i)), (3, .ref ou), (2, .ref (B 0)), (1, .ref x), (0, .ref b)]) hx hb dL_law_1709 hl (by decide) rfl (fun ls hl => ?_)
    refine lv_aload_n hx hb dL_law_1711 rfl (lv_at hl 3 rfl) ?_
    refine lv_aload_n hx hb dL_law_1712 rfl (lv_at hl 5 rfl) ?_
    refine lv_iload hx hb dL_law_1713 (lv_at hl 1 rfl) ?_
    refine lv_iconst (v := 1) hx hb dL_law_1715 rfl ?_
    refine lv_iadd hx hb dL_law_1716 ?_
    refine l_sld (k := i + 1) hx hb hXs hbl hbA hS (ixq (nI_ad rfl rfl)) (by omega) hL hz_1 dL_law_1717 ?_
    refine Wr.callV (rest := []) (c_X8_examine_x l G hMD z1 (by rw [h1]; exact hy0)) yk_X8_examine E km_L_203 dL_law_1718 hG (hE.S hS hEA) hM (At.recv hG hM.1 rfl) rfl rfl hl.1 ⟨Nat.le_of_ble_eq_true rfl, Nat.le_of_ble_eq_true rfl⟩ ⟨show c0 + 1 + 0 ≤ 601024 by omega, show s0 + 6 + 0 ≤ 7293034 by omega⟩ (Nat.le_of_ble_eq_true rfl) hS hAB (fun v9 H2 locs hq hz8 hfr9 hS => ?_)
    obtain ⟨rfl, hM⟩ := hq
    have hDS := rf_D hp hDS hfr9
    have f_o := rf_o hp f_o hfr9
    refine lv_istore (lv' := [(6, .int 0), (5, .int 1), (4, .int (nI i)), (3, .ref ou), (2, .ref (B 0)), (1, .ref x), (0, .ref b)]) hx hb dL_law_1721 hl (by decide) rfl (fun ls hl => ?_)
    refine lv_aload_n hx hb dL_law_1723 rfl (lv_at hl 4 rfl) ?_
    refine Rd.callV (rest := []) (c_X8_thrown l G) yk_X8_thrown E km_L_113 dL_law_1724 hG (hE.S hS hEA) hM (At.recv hG hM.1 rfl) rfl rfl hl.1 ⟨Nat.le_of_ble_eq_true rfl, Nat.le_of_ble_eq_true rfl⟩ ⟨show c0 + 1 + 0 ≤ 601024 by omega, show s0 + 6 + 0 ≤ 7293034 by omega⟩ (Nat.le_of_ble_eq_true rfl) ?_
    refine lv_ci (y := 1) rfl ?_
    refine lv_iload hx hb dL_law_1727 (lv_at hl 1 rfl) ?_
    refine lv_icmp_eq (tgt := 1734) hx hb dL_law_1729 (by decide) (fun c_1729 => ?_) (fun c_1729 => ?_)
    rotate_left
    · exact absurd c_1729 (by decide)
    refine lv_iload hx hb dL_law_1734 (lv_at hl 1 rfl) ?_
    refine lv_if_ne (tgt := 1751) hx hb dL_law_1736 (by decide) (fun c_1736 => ?_) (fun c_1736 => ?_)
    rotate_left
    · exact absurd c_1736 (by decide)
    refine lv_goto (tgt := 2029) hx hb dL_law_1751 (by decide) ?_
    exact hK H2 locs _ _ (show c0 + 1 + 0 ≤ c0 + 200 by omega) (show s0 + 6 + 0 ≤ s0 + 4000 by omega) (li_mk hb9 hu hBy hbb hO hM hDS f_o) hS ls (lv_sub hl [2, 3, 4, 5, 6] rfl)
  · obtain ⟨k, hk9, ez⟩ := ix_of (by omega) hy1
    obtain ⟨cr, dy, am, fa, si, e1, e2, e3, e4, e5, e6, e7, e8, e9, e10, e11⟩ := hPr k hk9
    obtain ⟨ex1, pe1, te, nd, g1, g2, g3, g4, g5, g6, g7, g8, g9, g10⟩ := hCr cr e2
    by_cases hs0 : da (pP k + 4) = 0
    · rcases exV01 da nh k dy with hx0 | hx1
      · refine lv_aload_n hx hb dL_law_1698 rfl (lv_at hl 3 rfl) ?_
        refine lv_aload_n hx hb dL_law_1699 rfl (lv_at hl 4 rfl) ?_
        refine lv_iload hx hb dL_law_1700 (lv_at hl 0 rfl) ?_
        refine lv_iconst (v := 1) hx hb dL_law_1702 rfl ?_
        refine lv_iadd hx hb dL_law_1703 ?_
        refine l_sld (k := i + 1) hx hb hXs hbl hbA hS (ixq (nI_ad rfl rfl)) (by omega) hL hz_1 dL_law_1704 ?_
        refine lv_aload_n hx hb dL_law_1705 rfl (lv_at hl 1 rfl) ?_
        refine WW.callS (rest := []) (w_L_examine l G z1 (Q := (fun r9 H9 => (r9 = 1 ∧ ∃ k9, DS G (LAO B x bu pa ou) x bu pa bb (nI b9) es k9 (stD da k 1) nc np nh (remU u) (remH hi da u) H9))) (f := f) (Wr.weak (Q' := (fun v9 H9 => ∃ r, v9 = some (.int r) ∧ (r = 1 ∧ ∃ k9, DS G (LAO B x bu pa ou) x bu pa bb (nI b9) es k9 (stD da k 1) nc np nh (remU u) (remH hi da u) H9))) (c_X7_examine_d l G hDD hu hO hz9 hAO z1 k ez hk9 dy e3 e4 hs0 hx0) (fun _ h9 => h9) (fun _ _ h9 => ⟨_, h9.1, rfl, h9.2⟩) (Nat.le_refl _) (Nat.le_refl _)) (dw_ou hp hou) (fun _ _ _ _ oq h9 => ⟨h9.1, h9.2.elim (fun k9 y9 => ⟨k9, ds_o hp y9 oq⟩)⟩)) yk_L_examine E km_L_201 dL_law_1706 hG (hE.S hS hEA) ⟨⟨rfl, hDS⟩, ⟨_, hDS.1⟩, f_o⟩ rfl rfl hl.1 ⟨Nat.le_of_ble_eq_true rfl, Nat.le_of_ble_eq_true rfl⟩ ⟨show c0 + 3 ≤ 601024 by omega, show s0 + 35 ≤ 7293034 by omega⟩ (Nat.le_of_ble_eq_true rfl) hS (fun q9 h9 => h9.elim (fun w9 => dw_new hnew hS.1 w9) (hAo9 q9)) (fun v9 H3 locs hq hz8 hfr9 hS => ?_)
        obtain ⟨rfl, r, hQ9, f_o⟩ := hq
        have hM := ch_M hp hM hfr9
        obtain ⟨hr9, bk9, hDS⟩ := hQ9
        refine lv_istore (lv' := [(5, .int 0), (4, .int (nI i)), (3, .ref ou), (2, .ref (B 0)), (1, .ref x), (0, .ref b)]) hx hb dL_law_1709 hl (by decide) rfl (fun ls hl => ?_)
        refine lv_aload_n hx hb dL_law_1711 rfl (lv_at hl 3 rfl) ?_
        refine lv_aload_n hx hb dL_law_1712 rfl (lv_at hl 5 rfl) ?_
        refine lv_iload hx hb dL_law_1713 (lv_at hl 1 rfl) ?_
        refine lv_iconst (v := 1) hx hb dL_law_1715 rfl ?_
        refine lv_iadd hx hb dL_law_1716 ?_
        refine l_sld (k := i + 1) hx hb hXs hbl hbA hS (ixq (nI_ad rfl rfl)) (by omega) hL hz_1 dL_law_1717 ?_
        refine Wr.callV (rest := []) (c_X8_examine_d l G hMD z1 k ez (by omega) (by rw [h1]; exact hy1) dy nh e3 (by omega) h2 hh hs0 hx0 u hu) yk_X8_examine E km_L_203 dL_law_1718 hG (hE.S hS hEA) hM (At.recv hG hM.1 rfl) rfl rfl hl.1 ⟨Nat.le_of_ble_eq_true rfl, Nat.le_of_ble_eq_true rfl⟩ ⟨show c0 + 3 + 0 ≤ 601024 by omega, show s0 + 35 + 0 ≤ 7293034 by omega⟩ (Nat.le_of_ble_eq_true rfl) hS hAB (fun v9 H4 locs hq hz8 hfr9 hS => ?_)
        obtain ⟨rfl, hM⟩ := hq
        have hDS := rf_D hp hDS hfr9
        have f_o := rf_o hp f_o hfr9
        refine lv_istore (lv' := [(6, .int (1 : Int32)), (5, .int 0), (4, .int (nI i)), (3, .ref ou), (2, .ref (B 0)), (1, .ref x), (0, .ref b)]) hx hb dL_law_1721 hl (by decide) rfl (fun ls hl => ?_)
        refine lv_aload_n hx hb dL_law_1723 rfl (lv_at hl 4 rfl) ?_
        refine Rd.callV (rest := []) (c_X8_thrown l G) yk_X8_thrown E km_L_113 dL_law_1724 hG (hE.S hS hEA) hM (At.recv hG hM.1 rfl) rfl rfl hl.1 ⟨Nat.le_of_ble_eq_true rfl, Nat.le_of_ble_eq_true rfl⟩ ⟨show c0 + 3 + 0 ≤ 601024 by omega, show s0 + 35 + 0 ≤ 7293034 by omega⟩ (Nat.le_of_ble_eq_true rfl) ?_
        refine lv_ci (y := 0) rfl ?_
        refine lv_iload hx hb dL_law_1727 (lv_at hl 1 rfl) ?_
        refine lv_icmp_eq (tgt := 1734) hx hb dL_law_1729 (by decide) (fun c_1729 => ?_) (fun c_1729 => ?_)
        rotate_left
        · exact absurd c_1729 (by decide)
        refine lv_iload hx hb dL_law_1734 (lv_at hl 1 rfl) ?_
        refine lv_if_ne (tgt := 1751) hx hb dL_law_1736 (by decide) (fun c_1736 => ?_) (fun c_1736 => ?_)
        · exact absurd c_1736 (by decide)
        refine lv_aload_n hx hb dL_law_1739 rfl (lv_at hl 3 rfl) ?_
        refine lv_iconst (v := 0) hx hb dL_law_1740 rfl ?_
        refine g_lld 0 E hG f_o rfl (by omega) (by decide) dL_law_1741 ?_
        refine lv_iload hx hb dL_law_1742 (lv_at hl 0 rfl) ?_
        refine lv_i2l (v := (1 : Int32).toInt64) hx hb dL_law_1744 rfl ?_
        refine W.lcmp hx hb dL_law_1745 ?_
        refine lv_if_eq (tgt := 1751) hx hb dL_law_1746 (by decide) (fun c_1746 => ?_) (fun c_1746 => ?_)
        rotate_left
        · exact absurd ((lg_cmp_eq _ _).mpr (by rw [pk_uLs]; rw [hr9])) c_1746
        refine lv_goto (tgt := 2029) hx hb dL_law_1751 (by decide) ?_
        exact hK H4 locs _ _ (show c0 + 3 + 0 ≤ c0 + 200 by omega) (show s0 + 35 + 0 ≤ s0 + 4000 by omega) (li_mk hb9 (remU_le hu) hBy hbb (st_ok hO) hM hDS f_o) hS ls (lv_sub hl [2, 3, 4, 5, 6] rfl)
      · refine lv_aload_n hx hb dL_law_1698 rfl (lv_at hl 3 rfl) ?_
        refine lv_aload_n hx hb dL_law_1699 rfl (lv_at hl 4 rfl) ?_
        refine lv_iload hx hb dL_law_1700 (lv_at hl 0 rfl) ?_
        refine lv_iconst (v := 1) hx hb dL_law_1702 rfl ?_
        refine lv_iadd hx hb dL_law_1703 ?_
        refine l_sld (k := i + 1) hx hb hXs hbl hbA hS (ixq (nI_ad rfl rfl)) (by omega) hL hz_1 dL_law_1704 ?_
        refine lv_aload_n hx hb dL_law_1705 rfl (lv_at hl 1 rfl) ?_
        refine WW.callS (rest := []) (w_L_examine l G z1 (Q := (fun r9 H9 => (r9 = 2 ∧ ∃ k9, DS G (LAO B x bu pa ou) x bu pa bb (nI b9) es k9 (honD da k) nc np nh (remU u) (remH hi da u) H9))) (f := f) (Wr.weak (Q' := (fun v9 H9 => ∃ r, v9 = some (.int r) ∧ (r = 2 ∧ ∃ k9, DS G (LAO B x bu pa ou) x bu pa bb (nI b9) es k9 (honD da k) nc np nh (remU u) (remH hi da u) H9))) (c_X7_examine_h l G hDD hu hO hz9 hAO z1 k ez hk9 dy e3 e4 hs0 hx1 cr td te e1 e2 h3 htd g5 (by omega)) (fun _ h9 => h9) (fun _ _ h9 => ⟨_, h9.1, rfl, h9.2⟩) (Nat.le_refl _) (Nat.le_refl _)) (dw_ou hp hou) (fun _ _ _ _ oq h9 => ⟨h9.1, h9.2.elim (fun k9 y9 => ⟨k9, ds_o hp y9 oq⟩)⟩)) yk_L_examine E km_L_201 dL_law_1706 hG (hE.S hS hEA) ⟨⟨rfl, hDS⟩, ⟨_, hDS.1⟩, f_o⟩ rfl rfl hl.1 ⟨Nat.le_of_ble_eq_true rfl, Nat.le_of_ble_eq_true rfl⟩ ⟨show c0 + 3 ≤ 601024 by omega, show s0 + 35 ≤ 7293034 by omega⟩ (Nat.le_of_ble_eq_true rfl) hS (fun q9 h9 => h9.elim (fun w9 => dw_new hnew hS.1 w9) (hAo9 q9)) (fun v9 H5 locs hq hz8 hfr9 hS => ?_)
        obtain ⟨rfl, r, hQ9, f_o⟩ := hq
        have hM := ch_M hp hM hfr9
        obtain ⟨hr9, bk9, hDS⟩ := hQ9
        refine lv_istore (lv' := [(5, .int 0), (4, .int (nI i)), (3, .ref ou), (2, .ref (B 0)), (1, .ref x), (0, .ref b)]) hx hb dL_law_1709 hl (by decide) rfl (fun ls hl => ?_)
        refine lv_aload_n hx hb dL_law_1711 rfl (lv_at hl 3 rfl) ?_
        refine lv_aload_n hx hb dL_law_1712 rfl (lv_at hl 5 rfl) ?_
        refine lv_iload hx hb dL_law_1713 (lv_at hl 1 rfl) ?_
        refine lv_iconst (v := 1) hx hb dL_law_1715 rfl ?_
        refine lv_iadd hx hb dL_law_1716 ?_
        refine l_sld (k := i + 1) hx hb hXs hbl hbA hS (ixq (nI_ad rfl rfl)) (by omega) hL hz_1 dL_law_1717 ?_
        refine Wr.callV (rest := []) (c_X8_examine_h l G hMD z1 k ez (by omega) (by rw [h1]; exact hy1) dy nh e3 (by omega) h2 hh hs0 hx1 u hu) yk_X8_examine E km_L_203 dL_law_1718 hG (hE.S hS hEA) hM (At.recv hG hM.1 rfl) rfl rfl hl.1 ⟨Nat.le_of_ble_eq_true rfl, Nat.le_of_ble_eq_true rfl⟩ ⟨show c0 + 3 + 0 ≤ 601024 by omega, show s0 + 35 + 0 ≤ 7293034 by omega⟩ (Nat.le_of_ble_eq_true rfl) hS hAB (fun v9 H6 locs hq hz8 hfr9 hS => ?_)
        obtain ⟨rfl, hM⟩ := hq
        have hDS := rf_D hp hDS hfr9
        have f_o := rf_o hp f_o hfr9
        refine lv_istore (lv' := [(6, .int (2 : Int32)), (5, .int 0), (4, .int (nI i)), (3, .ref ou), (2, .ref (B 0)), (1, .ref x), (0, .ref b)]) hx hb dL_law_1721 hl (by decide) rfl (fun ls hl => ?_)
        refine lv_aload_n hx hb dL_law_1723 rfl (lv_at hl 4 rfl) ?_
        refine Rd.callV (rest := []) (c_X8_thrown l G) yk_X8_thrown E km_L_113 dL_law_1724 hG (hE.S hS hEA) hM (At.recv hG hM.1 rfl) rfl rfl hl.1 ⟨Nat.le_of_ble_eq_true rfl, Nat.le_of_ble_eq_true rfl⟩ ⟨show c0 + 3 + 0 ≤ 601024 by omega, show s0 + 35 + 0 ≤ 7293034 by omega⟩ (Nat.le_of_ble_eq_true rfl) ?_
        refine lv_ci (y := 0) rfl ?_
        refine lv_iload hx hb dL_law_1727 (lv_at hl 1 rfl) ?_
        refine lv_icmp_eq (tgt := 1734) hx hb dL_law_1729 (by decide) (fun c_1729 => ?_) (fun c_1729 => ?_)
        rotate_left
        · exact absurd c_1729 (by decide)
        refine lv_iload hx hb dL_law_1734 (lv_at hl 1 rfl) ?_
        refine lv_if_ne (tgt := 1751) hx hb dL_law_1736 (by decide) (fun c_1736 => ?_) (fun c_1736 => ?_)
        · exact absurd c_1736 (by decide)
        refine lv_aload_n hx hb dL_law_1739 rfl (lv_at hl 3 rfl) ?_
        refine lv_iconst (v := 0) hx hb dL_law_1740 rfl ?_
        refine g_lld 0 E hG f_o rfl (by omega) (by decide) dL_law_1741 ?_
        refine lv_iload hx hb dL_law_1742 (lv_at hl 0 rfl) ?_
        refine lv_i2l (v := (2 : Int32).toInt64) hx hb dL_law_1744 rfl ?_
        refine W.lcmp hx hb dL_law_1745 ?_
        refine lv_if_eq (tgt := 1751) hx hb dL_law_1746 (by decide) (fun c_1746 => ?_) (fun c_1746 => ?_)
        rotate_left
        · exact absurd ((lg_cmp_eq _ _).mpr (by rw [pk_uLs]; rw [hr9])) c_1746
        refine lv_goto (tgt := 2029) hx hb dL_law_1751 (by decide) ?_
        exact hK H6 locs _ _ (show c0 + 3 + 0 ≤ c0 + 200 by omega) (show s0 + 35 + 0 ≤ s0 + 4000 by omega) (li_mk hb9 (remU_le hu) hBy hbb (hon_ok hO hk9) hM hDS f_o) hS ls (lv_sub hl [2, 3, 4, 5, 6] rfl)
    · refine lv_aload_n hx hb dL_law_1698 rfl (lv_at hl 3 rfl) ?_
      refine lv_aload_n hx hb dL_law_1699 rfl (lv_at hl 4 rfl) ?_
      refine lv_iload hx hb dL_law_1700 (lv_at hl 0 rfl) ?_
      refine lv_iconst (v := 1) hx hb dL_law_1702 rfl ?_
      refine lv_iadd hx hb dL_law_1703 ?_
      refine l_sld (k := i + 1) hx hb hXs hbl hbA hS (ixq (nI_ad rfl rfl)) (by omega) hL hz_1 dL_law_1704 ?_
      refine lv_aload_n hx hb dL_law_1705 rfl (lv_at hl 1 rfl) ?_
      refine WW.callS (rest := []) (w_L_examine_t2 l G z1 (P := DS G (LAO B x bu pa ou) x bu pa bb (nI b9) es bk da nc np nh u hi) (Tr.w (c_X7_examine_y l hst G z1 k ez hk9 hp0 hs0) (fun _ h9 => ds_dk h9))) yk_L_examine E km_L_201 dL_law_1706 hG (hE.S hS hEA) ⟨hDS, _, hDS.1⟩ rfl rfl hl.1 ⟨Nat.le_of_ble_eq_true rfl, Nat.le_of_ble_eq_true rfl⟩ ⟨show c0 + 1 ≤ 601024 by omega, show s0 + 6 ≤ 7293034 by omega⟩ (Nat.le_of_ble_eq_true rfl) hS (fun q9 h9 => h9.elim) (fun v9 H7 locs hq hz8 hfr9 hS => ?_)
      obtain rfl := hq
      have hf9 : ∀ q : Nat, q < H.size → q ≠ ou → H7[q]? = H[q]? := fun q9 h9 _ => hfr9 q9 h9 (fun w9 => w9)
      have f_o := va_at.kept f_o (hfr9 _ (va_at.lt f_o) (fun w9 => w9))
      have hM := ro_M hp hM hf9
      have hDS := ro_D hp hDS hf9
      refine lv_istore (lv' := [(5, .int 2), (4, .int (nI i)), (3, .ref ou), (2, .ref (B 0)), (1, .ref x), (0, .ref b)]) hx hb dL_law_1709 hl (by decide) rfl (fun ls hl => ?_)
      refine lv_aload_n hx hb dL_law_1711 rfl (lv_at hl 3 rfl) ?_
      refine lv_aload_n hx hb dL_law_1712 rfl (lv_at hl 5 rfl) ?_
      refine lv_iload hx hb dL_law_1713 (lv_at hl 1 rfl) ?_
      refine lv_iconst (v := 1) hx hb dL_law_1715 rfl ?_
      refine lv_iadd hx hb dL_law_1716 ?_
      refine l_sld (k := i + 1) hx hb hXs hbl hbA hS (ixq (nI_ad rfl rfl)) (by omega) hL hz_1 dL_law_1717 ?_
      refine Wr.callV (rest := []) (c_X8_examine_y l G hMD z1 k ez (by omega) (by rw [h1]; exact hy1) hs0) yk_X8_examine E km_L_203 dL_law_1718 hG (hE.S hS hEA) hM (At.recv hG hM.1 rfl) rfl rfl hl.1 ⟨Nat.le_of_ble_eq_true rfl, Nat.le_of_ble_eq_true rfl⟩ ⟨show c0 + 1 + 0 ≤ 601024 by omega, show s0 + 6 + 0 ≤ 7293034 by omega⟩ (Nat.le_of_ble_eq_true rfl) hS hAB (fun v9 H8 locs hq hz8 hfr9 hS => ?_)
      obtain ⟨rfl, hM⟩ := hq
      have hDS := rf_D hp hDS hfr9
      have f_o := rf_o hp f_o hfr9
      refine lv_istore (lv' := [(6, .int 0), (5, .int 2), (4, .int (nI i)), (3, .ref ou), (2, .ref (B 0)), (1, .ref x), (0, .ref b)]) hx hb dL_law_1721 hl (by decide) rfl (fun ls hl => ?_)
      refine lv_aload_n hx hb dL_law_1723 rfl (lv_at hl 4 rfl) ?_
      refine Rd.callV (rest := []) (c_X8_thrown l G) yk_X8_thrown E km_L_113 dL_law_1724 hG (hE.S hS hEA) hM (At.recv hG hM.1 rfl) rfl rfl hl.1 ⟨Nat.le_of_ble_eq_true rfl, Nat.le_of_ble_eq_true rfl⟩ ⟨show c0 + 1 + 0 ≤ 601024 by omega, show s0 + 6 + 0 ≤ 7293034 by omega⟩ (Nat.le_of_ble_eq_true rfl) ?_
      refine lv_ci (y := 2) rfl ?_
      refine lv_iload hx hb dL_law_1727 (lv_at hl 1 rfl) ?_
      refine lv_icmp_eq (tgt := 1734) hx hb dL_law_1729 (by decide) (fun c_1729 => ?_) (fun c_1729 => ?_)
      rotate_left
      · exact absurd c_1729 (by decide)
      refine lv_iload hx hb dL_law_1734 (lv_at hl 1 rfl) ?_
      refine lv_if_ne (tgt := 1751) hx hb dL_law_1736 (by decide) (fun c_1736 => ?_) (fun c_1736 => ?_)
      rotate_left
      · exact absurd c_1736 (by decide)
      refine lv_goto (tgt := 2029) hx hb dL_law_1751 (by decide) ?_
      exact hK H8 locs _ _ (show c0 + 1 + 0 ≤ c0 + 200 by omega) (show s0 + 6 + 0 ≤ s0 + 4000 by omega) (li_mk hb9 hu hBy hbb hO hM hDS f_o) hS ls (lv_sub hl [2, 3, 4, 5, 6] rfl)

set_option maxHeartbeats 4000000 in
set_option maxRecDepth 100000 in
/-- the law: waive -/
theorem lc_waive {p : Program} {l : Launch} {e : Env} {s : State} {m : MethodId} {below : List Frame} {meth : Method} {c : Code} {Q : State → Prop} {b L : Nat} {xs : Nat → Int32} {G : CG} {B : Nat → Nat} {x bu pa ou i c0 s0 : Nat} {H : Heap} {locs : List Loc} {ls : Array Slot} (hst : l.stackTraces = false) (E : CallFix p m c code 7 s ([.ref b] : List Value).toArray TB RL) (hG : KT G s) (hE : EF G s s.heap) (hXs : va_X b L xs s s.heap) (hbl : b < s.heap.size) (hL : L ≤ 3072) (hZ : EFA G s.heap.size) (hp : LAp G B x bu pa ou) (hnew : ∀ q, LAO B x bu pa ou q → s.heap.size ≤ q) (hi6 : i + 6 ≤ L) (hc9 : c0 + 200 ≤ 601024) (hs9 : s0 + 4000 ≤ 7293034) (hI : LI G B x bu pa ou H) (hS : va_S (fun q9 => s.heap.size ≤ q9) s.heap H locs) (hl : lv_has ls 7 [(4, .int (nI i)), (3, .ref ou), (2, .ref (B 0)), (1, .ref x), (0, .ref b)]) (hK : ∀ (H : Heap) (locs : List Loc) (cs sl : Nat), cs ≤ c0 + 200 → sl ≤ s0 + 4000 → LI G B x bu pa ou H → va_S (fun q9 => s.heap.size ≤ q9) s.heap H locs → ∀ ls : Array Slot, lv_has ls 7 [(4, .int (nI i)), (3, .ref ou), (2, .ref (B 0)), (1, .ref x), (0, .ref b)] → W p l e room_1 s m ([.ref b] : List Value).toArray below meth c H locs cs sl Q (F0 m 2029 ls [])) : W p l e room_1 s m ([.ref b] : List Value).toArray below meth c H locs c0 s0 Q (F0 m 1754 ls []) := by
  obtain ⟨b9, u, nc, np, nh, bk, es, bf, bb, da, hi, f, t, tl, ps, er, ea, ns, ne, se, dr, sk, hb9, hu, hBy, hbb, hO, hM, hDS, f_o⟩ := hI
  have hx := E.1
  have hb := E.2.1
  have hMD := hp.1
  have hDD := hp.2.1
  obtain ⟨⟨h0, hc0⟩, ⟨h1, hp0⟩, ⟨h2, hh⟩, ⟨td, htd, h3⟩, hCr, hPr, hHo, hIj⟩ := id hO
  have hEA : ∀ q9, s.heap.size ≤ q9 → EFA G q9 := fun q9 h9 => Nat.le_trans hZ h9
  have hbA : ¬ s.heap.size ≤ b := Nat.not_le.mpr hbl
  have hAo9 : ∀ q, q = ou → s.heap.size ≤ q := fun q h => hnew q (Or.inr (Or.inr (Or.inr (Or.inl h))))
  have hAB : ∀ q, MA B q → s.heap.size ≤ q := fun q h => hnew q (Or.inr (Or.inr (Or.inr (Or.inr h))))
  have hAO := lao_lt hM hDS f_o
  have hz9 : EFA G H.size := Nat.le_trans hZ hS.1
  have hou : ou < H.size := va_at.lt f_o
  obtain ⟨z1, hz_1⟩ : ∃ z, xs (i + 1) = z := ⟨_, rfl⟩
  rcases inV01 z1 0 (nI np - 1) with hy0 | hy1
  · refine lv_aload_n hx hb dL_law_1754 rfl (lv_at hl 3 rfl) ?_
    refine lv_aload_n hx hb dL_law_1755 rfl (lv_at hl 4 rfl) ?_
    refine lv_iload hx hb dL_law_1756 (lv_at hl 0 rfl) ?_
    refine lv_iconst (v := 1) hx hb dL_law_1758 rfl ?_
    refine lv_iadd hx hb dL_law_1759 ?_
    refine l_sld (k := i + 1) hx hb hXs hbl hbA hS (ixq (nI_ad rfl rfl)) (by omega) hL hz_1 dL_law_1760 ?_
    refine lv_aload_n hx hb dL_law_1761 rfl (lv_at hl 1 rfl) ?_
    refine WW.callS (rest := []) (w_L_waive_t1 l G z1 (P := DS G (LAO B x bu pa ou) x bu pa bb (nI b9) es bk da nc np nh u hi) (Tr.w (c_X7_waive_x l hst G z1 hy0 hp0) (fun _ h9 => ds_dk h9))) yk_L_waive E km_L_204 dL_law_1762 hG (hE.S hS hEA) ⟨hDS, _, hDS.1⟩ rfl rfl hl.1 ⟨Nat.le_of_ble_eq_true rfl, Nat.le_of_ble_eq_true rfl⟩ ⟨show c0 + 1 ≤ 601024 by omega, show s0 + 6 ≤ 7293034 by omega⟩ (Nat.le_of_ble_eq_true rfl) hS (fun q9 h9 => h9.elim) (fun v9 H1 locs hq hz8 hfr9 hS => ?_)
    obtain rfl := hq
    have hf9 : ∀ q : Nat, q < H.size → q ≠ ou → H1[q]? = H[q]? := fun q9 h9 _ => hfr9 q9 h9 (fun w9 => w9)
    have f_o := va_at.kept f_o (hfr9 _ (va_at.lt f_o) (fun w9 => w9))
    have hM := ro_M hp hM hf9
    have hDS := ro_D hp hDS hf9
    refine lv_istore (lv' := [(5, .int 1), (4, .int (nI i)), (3, .ref ou), (2, .ref (B 0)), (1, .ref x), (0, .ref b)]) hx hb dL_law_1765 hl (by decide) rfl (fun ls hl => ?_)
    refine lv_aload_n hx hb dL_law_1767 rfl (lv_at hl 3 rfl) ?_
    refine lv_aload_n hx hb dL_law_1768 rfl (lv_at hl 5 rfl) ?_
    refine lv_iload hx hb dL_law_1769 (lv_at hl 1 rfl) ?_
    refine lv_iconst (v := 1) hx hb dL_law_1771 rfl ?_
    refine lv_iadd hx hb dL_law_1772 ?_
    refine l_sld (k := i + 1) hx hb hXs hbl hbA hS (ixq (nI_ad rfl rfl)) (by omega) hL hz_1 dL_law_1773 ?_
    refine Wr.callV (rest := []) (c_X8_waive_x l G hMD z1 (by rw [h1]; exact hy0)) yk_X8_waive E km_L_206 dL_law_1774 hG (hE.S hS hEA) hM (At.recv hG hM.1 rfl) rfl rfl hl.1 ⟨Nat.le_of_ble_eq_true rfl, Nat.le_of_ble_eq_true rfl⟩ ⟨show c0 + 1 + 0 ≤ 601024 by omega, show s0 + 6 + 0 ≤ 7293034 by omega⟩ (Nat.le_of_ble_eq_true rfl) hS hAB (fun v9 H2 locs hq hz8 hfr9 hS => ?_)
    obtain ⟨rfl, hM⟩ := hq
    have hDS := rf_D hp hDS hfr9
    have f_o := rf_o hp f_o hfr9
    refine lv_istore (lv' := [(6, .int 0), (5, .int 1), (4, .int (nI i)), (3, .ref ou), (2, .ref (B 0)), (1, .ref x), (0, .ref b)]) hx hb dL_law_1777 hl (by decide) rfl (fun ls hl => ?_)
    refine lv_aload_n hx hb dL_law_1779 rfl (lv_at hl 4 rfl) ?_
    refine Rd.callV (rest := []) (c_X8_thrown l G) yk_X8_thrown E km_L_113 dL_law_1780 hG (hE.S hS hEA) hM (At.recv hG hM.1 rfl) rfl rfl hl.1 ⟨Nat.le_of_ble_eq_true rfl, Nat.le_of_ble_eq_true rfl⟩ ⟨show c0 + 1 + 0 ≤ 601024 by omega, show s0 + 6 + 0 ≤ 7293034 by omega⟩ (Nat.le_of_ble_eq_true rfl) ?_
    refine lv_ci (y := 1) rfl ?_
    refine lv_iload hx hb dL_law_1783 (lv_at hl 1 rfl) ?_
    refine lv_icmp_eq (tgt := 1790) hx hb dL_law_1785 (by decide) (fun c_1785 => ?_) (fun c_1785 => ?_)
    rotate_left
    · exact absurd c_1785 (by decide)
    refine lv_iload hx hb dL_law_1790 (lv_at hl 1 rfl) ?_
    refine lv_if_ne (tgt := 1807) hx hb dL_law_1792 (by decide) (fun c_1792 => ?_) (fun c_1792 => ?_)
    rotate_left
    · exact absurd c_1792 (by decide)
    refine lv_goto (tgt := 2029) hx hb dL_law_1807 (by decide) ?_
    exact hK H2 locs _ _ (show c0 + 1 + 0 ≤ c0 + 200 by omega) (show s0 + 6 + 0 ≤ s0 + 4000 by omega) (li_mk hb9 hu hBy hbb hO hM hDS f_o) hS ls (lv_sub hl [2, 3, 4, 5, 6] rfl)
  · obtain ⟨k, hk9, ez⟩ := ix_of (by omega) hy1
    obtain ⟨cr, dy, am, fa, si, e1, e2, e3, e4, e5, e6, e7, e8, e9, e10, e11⟩ := hPr k hk9
    obtain ⟨ex1, pe1, te, nd, g1, g2, g3, g4, g5, g6, g7, g8, g9, g10⟩ := hCr cr e2
    by_cases hs0 : da (pP k + 4) = 1
    · by_cases hov : da (pP k + 3) &&& 4 = 0
      · have hdd : dueV (honD da k) nh k td te = dueD (honD da k) nh k := dueV_D (d := honD da k) (cr := cr) (show honD da k (154 + 6 * k) = nI cr by rw [hon_e (by omega) (by omega)]; exact e1) (by omega) (show honD da k (154 + 6 * k + 5) = nI td from (hon_at da k).2.trans h3) (by omega) (show honD da k (22 + 11 * cr + 6) = nI te by rw [hon_e (by omega) (by omega)]; exact g5) (by omega)
        refine lv_aload_n hx hb dL_law_1754 rfl (lv_at hl 3 rfl) ?_
        refine lv_aload_n hx hb dL_law_1755 rfl (lv_at hl 4 rfl) ?_
        refine lv_iload hx hb dL_law_1756 (lv_at hl 0 rfl) ?_
        refine lv_iconst (v := 1) hx hb dL_law_1758 rfl ?_
        refine lv_iadd hx hb dL_law_1759 ?_
        refine l_sld (k := i + 1) hx hb hXs hbl hbA hS (ixq (nI_ad rfl rfl)) (by omega) hL hz_1 dL_law_1760 ?_
        refine lv_aload_n hx hb dL_law_1761 rfl (lv_at hl 1 rfl) ?_
        refine WW.callS (rest := []) (w_L_waive l G z1 (Q := (fun r9 H9 => (r9 = dueD (honD da k) nh k ∧ ∃ k9, DS G (LAO B x bu pa ou) x bu pa bb (nI b9) es k9 (honD da k) nc np nh (remU u) (remH hi da u) H9))) (f := f) (Wr.weak (Q' := (fun v9 H9 => ∃ r, v9 = some (.int r) ∧ (r = dueD (honD da k) nh k ∧ ∃ k9, DS G (LAO B x bu pa ou) x bu pa bb (nI b9) es k9 (honD da k) nc np nh (remU u) (remH hi da u) H9))) (c_X7_waive l G hDD hu hO hz9 hAO z1 k ez hk9 hs0 hov cr td te e1 e2 h3 htd g5 (by omega)) (fun _ h9 => h9) (fun _ _ h9 => ⟨_, h9.1, rfl, h9.2⟩) (Nat.le_refl _) (Nat.le_refl _)) (dw_ou hp hou) (fun _ _ _ _ oq h9 => ⟨h9.1, h9.2.elim (fun k9 y9 => ⟨k9, ds_o hp y9 oq⟩)⟩)) yk_L_waive E km_L_204 dL_law_1762 hG (hE.S hS hEA) ⟨⟨rfl, hDS⟩, ⟨_, hDS.1⟩, f_o⟩ rfl rfl hl.1 ⟨Nat.le_of_ble_eq_true rfl, Nat.le_of_ble_eq_true rfl⟩ ⟨show c0 + 3 ≤ 601024 by omega, show s0 + 35 ≤ 7293034 by omega⟩ (Nat.le_of_ble_eq_true rfl) hS (fun q9 h9 => h9.elim (fun w9 => dw_new hnew hS.1 w9) (hAo9 q9)) (fun v9 H3 locs hq hz8 hfr9 hS => ?_)
        obtain ⟨rfl, r, hQ9, f_o⟩ := hq
        have hM := ch_M hp hM hfr9
        obtain ⟨hr9, bk9, hDS⟩ := hQ9
        refine lv_istore (lv' := [(5, .int 0), (4, .int (nI i)), (3, .ref ou), (2, .ref (B 0)), (1, .ref x), (0, .ref b)]) hx hb dL_law_1765 hl (by decide) rfl (fun ls hl => ?_)
        refine lv_aload_n hx hb dL_law_1767 rfl (lv_at hl 3 rfl) ?_
        refine lv_aload_n hx hb dL_law_1768 rfl (lv_at hl 5 rfl) ?_
        refine lv_iload hx hb dL_law_1769 (lv_at hl 1 rfl) ?_
        refine lv_iconst (v := 1) hx hb dL_law_1771 rfl ?_
        refine lv_iadd hx hb dL_law_1772 ?_
        refine l_sld (k := i + 1) hx hb hXs hbl hbA hS (ixq (nI_ad rfl rfl)) (by omega) hL hz_1 dL_law_1773 ?_
        refine Wr.callV (rest := []) (c_X8_waive l G hMD z1 k ez (by omega) (by rw [h1]; exact hy1) cr td te nh e1 (by omega) h3 htd g5 (by omega) h2 hh hs0 hov u hu) yk_X8_waive E km_L_206 dL_law_1774 hG (hE.S hS hEA) hM (At.recv hG hM.1 rfl) rfl rfl hl.1 ⟨Nat.le_of_ble_eq_true rfl, Nat.le_of_ble_eq_true rfl⟩ ⟨show c0 + 3 + 0 ≤ 601024 by omega, show s0 + 35 + 0 ≤ 7293034 by omega⟩ (Nat.le_of_ble_eq_true rfl) hS hAB (fun v9 H4 locs hq hz8 hfr9 hS => ?_)
        obtain ⟨rfl, hM⟩ := hq
        have hDS := rf_D hp hDS hfr9
        have f_o := rf_o hp f_o hfr9
        refine lv_istore (lv' := [(6, .int (dueV (honD da k) nh k td te)), (5, .int 0), (4, .int (nI i)), (3, .ref ou), (2, .ref (B 0)), (1, .ref x), (0, .ref b)]) hx hb dL_law_1777 hl (by decide) rfl (fun ls hl => ?_)
        refine lv_aload_n hx hb dL_law_1779 rfl (lv_at hl 4 rfl) ?_
        refine Rd.callV (rest := []) (c_X8_thrown l G) yk_X8_thrown E km_L_113 dL_law_1780 hG (hE.S hS hEA) hM (At.recv hG hM.1 rfl) rfl rfl hl.1 ⟨Nat.le_of_ble_eq_true rfl, Nat.le_of_ble_eq_true rfl⟩ ⟨show c0 + 3 + 0 ≤ 601024 by omega, show s0 + 35 + 0 ≤ 7293034 by omega⟩ (Nat.le_of_ble_eq_true rfl) ?_
        refine lv_ci (y := 0) rfl ?_
        refine lv_iload hx hb dL_law_1783 (lv_at hl 1 rfl) ?_
        refine lv_icmp_eq (tgt := 1790) hx hb dL_law_1785 (by decide) (fun c_1785 => ?_) (fun c_1785 => ?_)
        rotate_left
        · exact absurd c_1785 (by decide)
        refine lv_iload hx hb dL_law_1790 (lv_at hl 1 rfl) ?_
        refine lv_if_ne (tgt := 1807) hx hb dL_law_1792 (by decide) (fun c_1792 => ?_) (fun c_1792 => ?_)
        · exact absurd c_1792 (by decide)
        refine lv_aload_n hx hb dL_law_1795 rfl (lv_at hl 3 rfl) ?_
        refine lv_iconst (v := 0) hx hb dL_law_1796 rfl ?_
        refine g_lld 0 E hG f_o rfl (by omega) (by decide) dL_law_1797 ?_
        refine lv_iload hx hb dL_law_1798 (lv_at hl 0 rfl) ?_
        refine lv_i2l (v := (dueV (honD da k) nh k td te).toInt64) hx hb dL_law_1800 rfl ?_
        refine W.lcmp hx hb dL_law_1801 ?_
        refine lv_if_eq (tgt := 1807) hx hb dL_law_1802 (by decide) (fun c_1802 => ?_) (fun c_1802 => ?_)
        rotate_left
        · exact absurd ((lg_cmp_eq _ _).mpr (by rw [pk_uLs]; rw [hr9, hdd])) c_1802
        refine lv_goto (tgt := 2029) hx hb dL_law_1807 (by decide) ?_
        exact hK H4 locs _ _ (show c0 + 3 + 0 ≤ c0 + 200 by omega) (show s0 + 35 + 0 ≤ s0 + 4000 by omega) (li_mk hb9 (remU_le hu) hBy hbb (hon_ok hO hk9) hM hDS f_o) hS ls (lv_sub hl [2, 3, 4, 5, 6] rfl)
      · refine lv_aload_n hx hb dL_law_1754 rfl (lv_at hl 3 rfl) ?_
        refine lv_aload_n hx hb dL_law_1755 rfl (lv_at hl 4 rfl) ?_
        refine lv_iload hx hb dL_law_1756 (lv_at hl 0 rfl) ?_
        refine lv_iconst (v := 1) hx hb dL_law_1758 rfl ?_
        refine lv_iadd hx hb dL_law_1759 ?_
        refine l_sld (k := i + 1) hx hb hXs hbl hbA hS (ixq (nI_ad rfl rfl)) (by omega) hL hz_1 dL_law_1760 ?_
        refine lv_aload_n hx hb dL_law_1761 rfl (lv_at hl 1 rfl) ?_
        refine WW.callS (rest := []) (w_L_waive_t2 l G z1 (P := DS G (LAO B x bu pa ou) x bu pa bb (nI b9) es bk da nc np nh u hi) (Tr.w (c_X7_waive_z l hst G z1 k ez hk9 hp0 hs0 hov) (fun _ h9 => ds_dk h9))) yk_L_waive E km_L_204 dL_law_1762 hG (hE.S hS hEA) ⟨hDS, _, hDS.1⟩ rfl rfl hl.1 ⟨Nat.le_of_ble_eq_true rfl, Nat.le_of_ble_eq_true rfl⟩ ⟨show c0 + 1 ≤ 601024 by omega, show s0 + 6 ≤ 7293034 by omega⟩ (Nat.le_of_ble_eq_true rfl) hS (fun q9 h9 => h9.elim) (fun v9 H5 locs hq hz8 hfr9 hS => ?_)
        obtain rfl := hq
        have hf9 : ∀ q : Nat, q < H.size → q ≠ ou → H5[q]? = H[q]? := fun q9 h9 _ => hfr9 q9 h9 (fun w9 => w9)
        have f_o := va_at.kept f_o (hfr9 _ (va_at.lt f_o) (fun w9 => w9))
        have hM := ro_M hp hM hf9
        have hDS := ro_D hp hDS hf9
        refine lv_istore (lv' := [(5, .int 2), (4, .int (nI i)), (3, .ref ou), (2, .ref (B 0)), (1, .ref x), (0, .ref b)]) hx hb dL_law_1765 hl (by decide) rfl (fun ls hl => ?_)
        refine lv_aload_n hx hb dL_law_1767 rfl (lv_at hl 3 rfl) ?_
        refine lv_aload_n hx hb dL_law_1768 rfl (lv_at hl 5 rfl) ?_
        refine lv_iload hx hb dL_law_1769 (lv_at hl 1 rfl) ?_
        refine lv_iconst (v := 1) hx hb dL_law_1771 rfl ?_
        refine lv_iadd hx hb dL_law_1772 ?_
        refine l_sld (k := i + 1) hx hb hXs hbl hbA hS (ixq (nI_ad rfl rfl)) (by omega) hL hz_1 dL_law_1773 ?_
        refine Wr.callV (rest := []) (c_X8_waive_z l G hMD z1 k ez (by omega) (by rw [h1]; exact hy1) hs0 hov) yk_X8_waive E km_L_206 dL_law_1774 hG (hE.S hS hEA) hM (At.recv hG hM.1 rfl) rfl rfl hl.1 ⟨Nat.le_of_ble_eq_true rfl, Nat.le_of_ble_eq_true rfl⟩ ⟨show c0 + 1 + 0 ≤ 601024 by omega, show s0 + 6 + 0 ≤ 7293034 by omega⟩ (Nat.le_of_ble_eq_true rfl) hS hAB (fun v9 H6 locs hq hz8 hfr9 hS => ?_)
        obtain ⟨rfl, hM⟩ := hq
        have hDS := rf_D hp hDS hfr9
        have f_o := rf_o hp f_o hfr9
        refine lv_istore (lv' := [(6, .int 0), (5, .int 2), (4, .int (nI i)), (3, .ref ou), (2, .ref (B 0)), (1, .ref x), (0, .ref b)]) hx hb dL_law_1777 hl (by decide) rfl (fun ls hl => ?_)
        refine lv_aload_n hx hb dL_law_1779 rfl (lv_at hl 4 rfl) ?_
        refine Rd.callV (rest := []) (c_X8_thrown l G) yk_X8_thrown E km_L_113 dL_law_1780 hG (hE.S hS hEA) hM (At.recv hG hM.1 rfl) rfl rfl hl.1 ⟨Nat.le_of_ble_eq_true rfl, Nat.le_of_ble_eq_true rfl⟩ ⟨show c0 + 1 + 0 ≤ 601024 by omega, show s0 + 6 + 0 ≤ 7293034 by omega⟩ (Nat.le_of_ble_eq_true rfl) ?_
        refine lv_ci (y := 2) rfl ?_
        refine lv_iload hx hb dL_law_1783 (lv_at hl 1 rfl) ?_
        refine lv_icmp_eq (tgt := 1790) hx hb dL_law_1785 (by decide) (fun c_1785 => ?_) (fun c_1785 => ?_)
        rotate_left
        · exact absurd c_1785 (by decide)
        refine lv_iload hx hb dL_law_1790 (lv_at hl 1 rfl) ?_
        refine lv_if_ne (tgt := 1807) hx hb dL_law_1792 (by decide) (fun c_1792 => ?_) (fun c_1792 => ?_)
        rotate_left
        · exact absurd c_1792 (by decide)
        refine lv_goto (tgt := 2029) hx hb dL_law_1807 (by decide) ?_
        exact hK H6 locs _ _ (show c0 + 1 + 0 ≤ c0 + 200 by omega) (show s0 + 6 + 0 ≤ s0 + 4000 by omega) (li_mk hb9 hu hBy hbb hO hM hDS f_o) hS ls (lv_sub hl [2, 3, 4, 5, 6] rfl)
    · refine lv_aload_n hx hb dL_law_1754 rfl (lv_at hl 3 rfl) ?_
      refine lv_aload_n hx hb dL_law_1755 rfl (lv_at hl 4 rfl) ?_
      refine lv_iload hx hb dL_law_1756 (lv_at hl 0 rfl) ?_
      refine lv_iconst (v := 1) hx hb dL_law_1758 rfl ?_
      refine lv_iadd hx hb dL_law_1759 ?_
      refine l_sld (k := i + 1) hx hb hXs hbl hbA hS (ixq (nI_ad rfl rfl)) (by omega) hL hz_1 dL_law_1760 ?_
      refine lv_aload_n hx hb dL_law_1761 rfl (lv_at hl 1 rfl) ?_
      refine WW.callS (rest := []) (w_L_waive_t2 l G z1 (P := DS G (LAO B x bu pa ou) x bu pa bb (nI b9) es bk da nc np nh u hi) (Tr.w (c_X7_waive_y l hst G z1 k ez hk9 hp0 hs0) (fun _ h9 => ds_dk h9))) yk_L_waive E km_L_204 dL_law_1762 hG (hE.S hS hEA) ⟨hDS, _, hDS.1⟩ rfl rfl hl.1 ⟨Nat.le_of_ble_eq_true rfl, Nat.le_of_ble_eq_true rfl⟩ ⟨show c0 + 1 ≤ 601024 by omega, show s0 + 6 ≤ 7293034 by omega⟩ (Nat.le_of_ble_eq_true rfl) hS (fun q9 h9 => h9.elim) (fun v9 H7 locs hq hz8 hfr9 hS => ?_)
      obtain rfl := hq
      have hf9 : ∀ q : Nat, q < H.size → q ≠ ou → H7[q]? = H[q]? := fun q9 h9 _ => hfr9 q9 h9 (fun w9 => w9)
      have f_o := va_at.kept f_o (hfr9 _ (va_at.lt f_o) (fun w9 => w9))
      have hM := ro_M hp hM hf9
      have hDS := ro_D hp hDS hf9
      refine lv_istore (lv' := [(5, .int 2), (4, .int (nI i)), (3, .ref ou), (2, .ref (B 0)), (1, .ref x), (0, .ref b)]) hx hb dL_law_1765 hl (by decide) rfl (fun ls hl => ?_)
      refine lv_aload_n hx hb dL_law_1767 rfl (lv_at hl 3 rfl) ?_
      refine lv_aload_n hx hb dL_law_1768 rfl (lv_at hl 5 rfl) ?_
      refine lv_iload hx hb dL_law_1769 (lv_at hl 1 rfl) ?_
      refine lv_iconst (v := 1) hx hb dL_law_1771 rfl ?_
      refine lv_iadd hx hb dL_law_1772 ?_
      refine l_sld (k := i + 1) hx hb hXs hbl hbA hS (ixq (nI_ad rfl rfl)) (by omega) hL hz_1 dL_law_1773 ?_
      refine Wr.callV (rest := []) (c_X8_waive_y l G hMD z1 k ez (by omega) (by rw [h1]; exact hy1) hs0) yk_X8_waive E km_L_206 dL_law_1774 hG (hE.S hS hEA) hM (At.recv hG hM.1 rfl) rfl rfl hl.1 ⟨Nat.le_of_ble_eq_true rfl, Nat.le_of_ble_eq_true rfl⟩ ⟨show c0 + 1 + 0 ≤ 601024 by omega, show s0 + 6 + 0 ≤ 7293034 by omega⟩ (Nat.le_of_ble_eq_true rfl) hS hAB (fun v9 H8 locs hq hz8 hfr9 hS => ?_)
      obtain ⟨rfl, hM⟩ := hq
      have hDS := rf_D hp hDS hfr9
      have f_o := rf_o hp f_o hfr9
      refine lv_istore (lv' := [(6, .int 0), (5, .int 2), (4, .int (nI i)), (3, .ref ou), (2, .ref (B 0)), (1, .ref x), (0, .ref b)]) hx hb dL_law_1777 hl (by decide) rfl (fun ls hl => ?_)
      refine lv_aload_n hx hb dL_law_1779 rfl (lv_at hl 4 rfl) ?_
      refine Rd.callV (rest := []) (c_X8_thrown l G) yk_X8_thrown E km_L_113 dL_law_1780 hG (hE.S hS hEA) hM (At.recv hG hM.1 rfl) rfl rfl hl.1 ⟨Nat.le_of_ble_eq_true rfl, Nat.le_of_ble_eq_true rfl⟩ ⟨show c0 + 1 + 0 ≤ 601024 by omega, show s0 + 6 + 0 ≤ 7293034 by omega⟩ (Nat.le_of_ble_eq_true rfl) ?_
      refine lv_ci (y := 2) rfl ?_
      refine lv_iload hx hb dL_law_1783 (lv_at hl 1 rfl) ?_
      refine lv_icmp_eq (tgt := 1790) hx hb dL_law_1785 (by decide) (fun c_1785 => ?_) (fun c_1785 => ?_)
      rotate_left
      · exact absurd c_1785 (by decide)
      refine lv_iload hx hb dL_law_1790 (lv_at hl 1 rfl) ?_
      refine lv_if_ne (tgt := 1807) hx hb dL_law_1792 (by decide) (fun c_1792 => ?_) (fun c_1792 => ?_)
      rotate_left
      · exact absurd c_1792 (by decide)
      refine lv_goto (tgt := 2029) hx hb dL_law_1807 (by decide) ?_
      exact hK H8 locs _ _ (show c0 + 1 + 0 ≤ c0 + 200 by omega) (show s0 + 6 + 0 ≤ s0 + 4000 by omega) (li_mk hb9 hu hBy hbb hO hM hDS f_o) hS ls (lv_sub hl [2, 3, 4, 5, 6] rfl)

set_option maxHeartbeats 4000000 in
set_option maxRecDepth 100000 in
/-- the law: refuse -/
theorem lc_refuse {p : Program} {l : Launch} {e : Env} {s : State} {m : MethodId} {below : List Frame} {meth : Method} {c : Code} {Q : State → Prop} {b L : Nat} {xs : Nat → Int32} {G : CG} {B : Nat → Nat} {x bu pa ou i c0 s0 : Nat} {H : Heap} {locs : List Loc} {ls : Array Slot} (hst : l.stackTraces = false) (E : CallFix p m c code 7 s ([.ref b] : List Value).toArray TB RL) (hG : KT G s) (hE : EF G s s.heap) (hXs : va_X b L xs s s.heap) (hbl : b < s.heap.size) (hL : L ≤ 3072) (hZ : EFA G s.heap.size) (hp : LAp G B x bu pa ou) (hnew : ∀ q, LAO B x bu pa ou q → s.heap.size ≤ q) (hi6 : i + 6 ≤ L) (hc9 : c0 + 200 ≤ 601024) (hs9 : s0 + 4000 ≤ 7293034) (hI : LI G B x bu pa ou H) (hS : va_S (fun q9 => s.heap.size ≤ q9) s.heap H locs) (hl : lv_has ls 7 [(4, .int (nI i)), (3, .ref ou), (2, .ref (B 0)), (1, .ref x), (0, .ref b)]) (hK : ∀ (H : Heap) (locs : List Loc) (cs sl : Nat), cs ≤ c0 + 200 → sl ≤ s0 + 4000 → LI G B x bu pa ou H → va_S (fun q9 => s.heap.size ≤ q9) s.heap H locs → ∀ ls : Array Slot, lv_has ls 7 [(4, .int (nI i)), (3, .ref ou), (2, .ref (B 0)), (1, .ref x), (0, .ref b)] → W p l e room_1 s m ([.ref b] : List Value).toArray below meth c H locs cs sl Q (F0 m 2029 ls [])) : W p l e room_1 s m ([.ref b] : List Value).toArray below meth c H locs c0 s0 Q (F0 m 1810 ls []) := by
  obtain ⟨b9, u, nc, np, nh, bk, es, bf, bb, da, hi, f, t, tl, ps, er, ea, ns, ne, se, dr, sk, hb9, hu, hBy, hbb, hO, hM, hDS, f_o⟩ := hI
  have hx := E.1
  have hb := E.2.1
  have hMD := hp.1
  have hDD := hp.2.1
  obtain ⟨⟨h0, hc0⟩, ⟨h1, hp0⟩, ⟨h2, hh⟩, ⟨td, htd, h3⟩, hCr, hPr, hHo, hIj⟩ := id hO
  have hEA : ∀ q9, s.heap.size ≤ q9 → EFA G q9 := fun q9 h9 => Nat.le_trans hZ h9
  have hbA : ¬ s.heap.size ≤ b := Nat.not_le.mpr hbl
  have hAo9 : ∀ q, q = ou → s.heap.size ≤ q := fun q h => hnew q (Or.inr (Or.inr (Or.inr (Or.inl h))))
  have hAB : ∀ q, MA B q → s.heap.size ≤ q := fun q h => hnew q (Or.inr (Or.inr (Or.inr (Or.inr h))))
  have hAO := lao_lt hM hDS f_o
  have hz9 : EFA G H.size := Nat.le_trans hZ hS.1
  have hou : ou < H.size := va_at.lt f_o
  obtain ⟨z1, hz_1⟩ : ∃ z, xs (i + 1) = z := ⟨_, rfl⟩
  rcases inV01 z1 0 (nI np - 1) with hy0 | hy1
  · refine lv_aload_n hx hb dL_law_1810 rfl (lv_at hl 3 rfl) ?_
    refine lv_aload_n hx hb dL_law_1811 rfl (lv_at hl 4 rfl) ?_
    refine lv_iload hx hb dL_law_1812 (lv_at hl 0 rfl) ?_
    refine lv_iconst (v := 1) hx hb dL_law_1814 rfl ?_
    refine lv_iadd hx hb dL_law_1815 ?_
    refine l_sld (k := i + 1) hx hb hXs hbl hbA hS (ixq (nI_ad rfl rfl)) (by omega) hL hz_1 dL_law_1816 ?_
    refine lv_aload_n hx hb dL_law_1817 rfl (lv_at hl 1 rfl) ?_
    refine WW.callS (rest := []) (w_L_refuse_t1 l G z1 (P := DS G (LAO B x bu pa ou) x bu pa bb (nI b9) es bk da nc np nh u hi) (Tr.w (c_X7_refuse_x l hst G z1 hy0 hp0) (fun _ h9 => ds_dk h9))) yk_L_refuse E km_L_207 dL_law_1818 hG (hE.S hS hEA) ⟨hDS, _, hDS.1⟩ rfl rfl hl.1 ⟨Nat.le_of_ble_eq_true rfl, Nat.le_of_ble_eq_true rfl⟩ ⟨show c0 + 1 ≤ 601024 by omega, show s0 + 6 ≤ 7293034 by omega⟩ (Nat.le_of_ble_eq_true rfl) hS (fun q9 h9 => h9.elim) (fun v9 H1 locs hq hz8 hfr9 hS => ?_)
    obtain rfl := hq
    have hf9 : ∀ q : Nat, q < H.size → q ≠ ou → H1[q]? = H[q]? := fun q9 h9 _ => hfr9 q9 h9 (fun w9 => w9)
    have f_o := va_at.kept f_o (hfr9 _ (va_at.lt f_o) (fun w9 => w9))
    have hM := ro_M hp hM hf9
    have hDS := ro_D hp hDS hf9
    refine lv_istore (lv' := [(5, .int 1), (4, .int (nI i)), (3, .ref ou), (2, .ref (B 0)), (1, .ref x), (0, .ref b)]) hx hb dL_law_1821 hl (by decide) rfl (fun ls hl => ?_)
    refine lv_aload_n hx hb dL_law_1823 rfl (lv_at hl 3 rfl) ?_
    refine lv_aload_n hx hb dL_law_1824 rfl (lv_at hl 5 rfl) ?_
    refine lv_iload hx hb dL_law_1825 (lv_at hl 1 rfl) ?_
    refine lv_iconst (v := 1) hx hb dL_law_1827 rfl ?_
    refine lv_iadd hx hb dL_law_1828 ?_
    refine l_sld (k := i + 1) hx hb hXs hbl hbA hS (ixq (nI_ad rfl rfl)) (by omega) hL hz_1 dL_law_1829 ?_
    refine Wr.callV (rest := []) (c_X8_refuse_x l G hMD z1 (by rw [h1]; exact hy0)) yk_X8_refuse E km_L_209 dL_law_1830 hG (hE.S hS hEA) hM (At.recv hG hM.1 rfl) rfl rfl hl.1 ⟨Nat.le_of_ble_eq_true rfl, Nat.le_of_ble_eq_true rfl⟩ ⟨show c0 + 1 + 0 ≤ 601024 by omega, show s0 + 6 + 0 ≤ 7293034 by omega⟩ (Nat.le_of_ble_eq_true rfl) hS hAB (fun v9 H2 locs hq hz8 hfr9 hS => ?_)
    obtain ⟨rfl, hM⟩ := hq
    have hDS := rf_D hp hDS hfr9
    have f_o := rf_o hp f_o hfr9
    refine lv_istore (lv' := [(6, .int 0), (5, .int 1), (4, .int (nI i)), (3, .ref ou), (2, .ref (B 0)), (1, .ref x), (0, .ref b)]) hx hb dL_law_1833 hl (by decide) rfl (fun ls hl => ?_)
    refine lv_aload_n hx hb dL_law_1835 rfl (lv_at hl 4 rfl) ?_
    refine Rd.callV (rest := []) (c_X8_thrown l G) yk_X8_thrown E km_L_113 dL_law_1836 hG (hE.S hS hEA) hM (At.recv hG hM.1 rfl) rfl rfl hl.1 ⟨Nat.le_of_ble_eq_true rfl, Nat.le_of_ble_eq_true rfl⟩ ⟨show c0 + 1 + 0 ≤ 601024 by omega, show s0 + 6 + 0 ≤ 7293034 by omega⟩ (Nat.le_of_ble_eq_true rfl) ?_
    refine lv_ci (y := 1) rfl ?_
    refine lv_iload hx hb dL_law_1839 (lv_at hl 1 rfl) ?_
    refine lv_icmp_eq (tgt := 1846) hx hb dL_law_1841 (by decide) (fun c_1841 => ?_) (fun c_1841 => ?_)
    rotate_left
    · exact absurd c_1841 (by decide)
    refine lv_iload hx hb dL_law_1846 (lv_at hl 1 rfl) ?_
    refine lv_if_ne (tgt := 1863) hx hb dL_law_1848 (by decide) (fun c_1848 => ?_) (fun c_1848 => ?_)
    rotate_left
    · exact absurd c_1848 (by decide)
    refine lv_goto (tgt := 2029) hx hb dL_law_1863 (by decide) ?_
    exact hK H2 locs _ _ (show c0 + 1 + 0 ≤ c0 + 200 by omega) (show s0 + 6 + 0 ≤ s0 + 4000 by omega) (li_mk hb9 hu hBy hbb hO hM hDS f_o) hS ls (lv_sub hl [2, 3, 4, 5, 6] rfl)
  · obtain ⟨k, hk9, ez⟩ := ix_of (by omega) hy1
    obtain ⟨cr, dy, am, fa, si, e1, e2, e3, e4, e5, e6, e7, e8, e9, e10, e11⟩ := hPr k hk9
    by_cases hs0 : da (pP k + 4) = 1
    · refine lv_aload_n hx hb dL_law_1810 rfl (lv_at hl 3 rfl) ?_
      refine lv_aload_n hx hb dL_law_1811 rfl (lv_at hl 4 rfl) ?_
      refine lv_iload hx hb dL_law_1812 (lv_at hl 0 rfl) ?_
      refine lv_iconst (v := 1) hx hb dL_law_1814 rfl ?_
      refine lv_iadd hx hb dL_law_1815 ?_
      refine l_sld (k := i + 1) hx hb hXs hbl hbA hS (ixq (nI_ad rfl rfl)) (by omega) hL hz_1 dL_law_1816 ?_
      refine lv_aload_n hx hb dL_law_1817 rfl (lv_at hl 1 rfl) ?_
      refine WW.callS (rest := []) (w_L_refuse l G z1 (Q := (fun r9 H9 => (r9 = availV (stD da k 3) np nc cr ∧ ∃ k9, DS G (LAO B x bu pa ou) x bu pa bb (nI b9) es k9 (stD da k 3) nc np nh (remU u) (remH hi da u) H9))) (f := f) (Wr.weak (Q' := (fun v9 H9 => ∃ r, v9 = some (.int r) ∧ (r = availV (stD da k 3) np nc cr ∧ ∃ k9, DS G (LAO B x bu pa ou) x bu pa bb (nI b9) es k9 (stD da k 3) nc np nh (remU u) (remH hi da u) H9))) (c_X7_refuse l G hDD hu hO hz9 hAO z1 k ez hk9 hs0 cr e1 e2) (fun _ h9 => h9) (fun _ _ h9 => ⟨_, h9.1, rfl, h9.2⟩) (Nat.le_refl _) (Nat.le_refl _)) (dw_ou hp hou) (fun _ _ _ _ oq h9 => ⟨h9.1, h9.2.elim (fun k9 y9 => ⟨k9, ds_o hp y9 oq⟩)⟩)) yk_L_refuse E km_L_207 dL_law_1818 hG (hE.S hS hEA) ⟨⟨rfl, hDS⟩, ⟨_, hDS.1⟩, f_o⟩ rfl rfl hl.1 ⟨Nat.le_of_ble_eq_true rfl, Nat.le_of_ble_eq_true rfl⟩ ⟨show c0 + 3 ≤ 601024 by omega, show s0 + 35 ≤ 7293034 by omega⟩ (Nat.le_of_ble_eq_true rfl) hS (fun q9 h9 => h9.elim (fun w9 => dw_new hnew hS.1 w9) (hAo9 q9)) (fun v9 H3 locs hq hz8 hfr9 hS => ?_)
      obtain ⟨rfl, r, hQ9, f_o⟩ := hq
      have hM := ch_M hp hM hfr9
      obtain ⟨hr9, bk9, hDS⟩ := hQ9
      refine lv_istore (lv' := [(5, .int 0), (4, .int (nI i)), (3, .ref ou), (2, .ref (B 0)), (1, .ref x), (0, .ref b)]) hx hb dL_law_1821 hl (by decide) rfl (fun ls hl => ?_)
      refine lv_aload_n hx hb dL_law_1823 rfl (lv_at hl 3 rfl) ?_
      refine lv_aload_n hx hb dL_law_1824 rfl (lv_at hl 5 rfl) ?_
      refine lv_iload hx hb dL_law_1825 (lv_at hl 1 rfl) ?_
      refine lv_iconst (v := 1) hx hb dL_law_1827 rfl ?_
      refine lv_iadd hx hb dL_law_1828 ?_
      refine l_sld (k := i + 1) hx hb hXs hbl hbA hS (ixq (nI_ad rfl rfl)) (by omega) hL hz_1 dL_law_1829 ?_
      refine Wr.callV (rest := []) (c_X8_refuse l G hMD z1 k ez (by omega) (by rw [h1]; exact hy1) cr np nc e1 (by omega) h1 hp0 h0 hc0 hs0 u hu) yk_X8_refuse E km_L_209 dL_law_1830 hG (hE.S hS hEA) hM (At.recv hG hM.1 rfl) rfl rfl hl.1 ⟨Nat.le_of_ble_eq_true rfl, Nat.le_of_ble_eq_true rfl⟩ ⟨show c0 + 3 + 0 ≤ 601024 by omega, show s0 + 35 + 0 ≤ 7293034 by omega⟩ (Nat.le_of_ble_eq_true rfl) hS hAB (fun v9 H4 locs hq hz8 hfr9 hS => ?_)
      obtain ⟨rfl, hM⟩ := hq
      have hDS := rf_D hp hDS hfr9
      have f_o := rf_o hp f_o hfr9
      refine lv_istore (lv' := [(6, .int (availV (upd da (pP k + 4) 3) np nc cr)), (5, .int 0), (4, .int (nI i)), (3, .ref ou), (2, .ref (B 0)), (1, .ref x), (0, .ref b)]) hx hb dL_law_1833 hl (by decide) rfl (fun ls hl => ?_)
      refine lv_aload_n hx hb dL_law_1835 rfl (lv_at hl 4 rfl) ?_
      refine Rd.callV (rest := []) (c_X8_thrown l G) yk_X8_thrown E km_L_113 dL_law_1836 hG (hE.S hS hEA) hM (At.recv hG hM.1 rfl) rfl rfl hl.1 ⟨Nat.le_of_ble_eq_true rfl, Nat.le_of_ble_eq_true rfl⟩ ⟨show c0 + 3 + 0 ≤ 601024 by omega, show s0 + 35 + 0 ≤ 7293034 by omega⟩ (Nat.le_of_ble_eq_true rfl) ?_
      refine lv_ci (y := 0) rfl ?_
      refine lv_iload hx hb dL_law_1839 (lv_at hl 1 rfl) ?_
      refine lv_icmp_eq (tgt := 1846) hx hb dL_law_1841 (by decide) (fun c_1841 => ?_) (fun c_1841 => ?_)
      rotate_left
      · exact absurd c_1841 (by decide)
      refine lv_iload hx hb dL_law_1846 (lv_at hl 1 rfl) ?_
      refine lv_if_ne (tgt := 1863) hx hb dL_law_1848 (by decide) (fun c_1848 => ?_) (fun c_1848 => ?_)
      · exact absurd c_1848 (by decide)
      refine lv_aload_n hx hb dL_law_1851 rfl (lv_at hl 3 rfl) ?_
      refine lv_iconst (v := 0) hx hb dL_law_1852 rfl ?_
      refine g_lld 0 E hG f_o rfl (by omega) (by decide) dL_law_1853 ?_
      refine lv_iload hx hb dL_law_1854 (lv_at hl 0 rfl) ?_
      refine lv_i2l (v := (availV (upd da (pP k + 4) 3) np nc cr).toInt64) hx hb dL_law_1856 rfl ?_
      refine W.lcmp hx hb dL_law_1857 ?_
      refine lv_if_eq (tgt := 1863) hx hb dL_law_1858 (by decide) (fun c_1858 => ?_) (fun c_1858 => ?_)
      rotate_left
      · exact absurd ((lg_cmp_eq _ _).mpr (by rw [pk_uLs]; rw [hr9])) c_1858
      refine lv_goto (tgt := 2029) hx hb dL_law_1863 (by decide) ?_
      exact hK H4 locs _ _ (show c0 + 3 + 0 ≤ c0 + 200 by omega) (show s0 + 35 + 0 ≤ s0 + 4000 by omega) (li_mk hb9 (remU_le hu) hBy hbb (st_ok hO) hM hDS f_o) hS ls (lv_sub hl [2, 3, 4, 5, 6] rfl)
    · refine lv_aload_n hx hb dL_law_1810 rfl (lv_at hl 3 rfl) ?_
      refine lv_aload_n hx hb dL_law_1811 rfl (lv_at hl 4 rfl) ?_
      refine lv_iload hx hb dL_law_1812 (lv_at hl 0 rfl) ?_
      refine lv_iconst (v := 1) hx hb dL_law_1814 rfl ?_
      refine lv_iadd hx hb dL_law_1815 ?_
      refine l_sld (k := i + 1) hx hb hXs hbl hbA hS (ixq (nI_ad rfl rfl)) (by omega) hL hz_1 dL_law_1816 ?_
      refine lv_aload_n hx hb dL_law_1817 rfl (lv_at hl 1 rfl) ?_
      refine WW.callS (rest := []) (w_L_refuse_t2 l G z1 (P := DS G (LAO B x bu pa ou) x bu pa bb (nI b9) es bk da nc np nh u hi) (Tr.w (c_X7_refuse_y l hst G z1 k ez hk9 hp0 hs0) (fun _ h9 => ds_dk h9))) yk_L_refuse E km_L_207 dL_law_1818 hG (hE.S hS hEA) ⟨hDS, _, hDS.1⟩ rfl rfl hl.1 ⟨Nat.le_of_ble_eq_true rfl, Nat.le_of_ble_eq_true rfl⟩ ⟨show c0 + 1 ≤ 601024 by omega, show s0 + 6 ≤ 7293034 by omega⟩ (Nat.le_of_ble_eq_true rfl) hS (fun q9 h9 => h9.elim) (fun v9 H5 locs hq hz8 hfr9 hS => ?_)
      obtain rfl := hq
      have hf9 : ∀ q : Nat, q < H.size → q ≠ ou → H5[q]? = H[q]? := fun q9 h9 _ => hfr9 q9 h9 (fun w9 => w9)
      have f_o := va_at.kept f_o (hfr9 _ (va_at.lt f_o) (fun w9 => w9))
      have hM := ro_M hp hM hf9
      have hDS := ro_D hp hDS hf9
      refine lv_istore (lv' := [(5, .int 2), (4, .int (nI i)), (3, .ref ou), (2, .ref (B 0)), (1, .ref x), (0, .ref b)]) hx hb dL_law_1821 hl (by decide) rfl (fun ls hl => ?_)
      refine lv_aload_n hx hb dL_law_1823 rfl (lv_at hl 3 rfl) ?_
      refine lv_aload_n hx hb dL_law_1824 rfl (lv_at hl 5 rfl) ?_
      refine lv_iload hx hb dL_law_1825 (lv_at hl 1 rfl) ?_
      refine lv_iconst (v := 1) hx hb dL_law_1827 rfl ?_
      refine lv_iadd hx hb dL_law_1828 ?_
      refine l_sld (k := i + 1) hx hb hXs hbl hbA hS (ixq (nI_ad rfl rfl)) (by omega) hL hz_1 dL_law_1829 ?_
      refine Wr.callV (rest := []) (c_X8_refuse_y l G hMD z1 k ez (by omega) (by rw [h1]; exact hy1) hs0) yk_X8_refuse E km_L_209 dL_law_1830 hG (hE.S hS hEA) hM (At.recv hG hM.1 rfl) rfl rfl hl.1 ⟨Nat.le_of_ble_eq_true rfl, Nat.le_of_ble_eq_true rfl⟩ ⟨show c0 + 1 + 0 ≤ 601024 by omega, show s0 + 6 + 0 ≤ 7293034 by omega⟩ (Nat.le_of_ble_eq_true rfl) hS hAB (fun v9 H6 locs hq hz8 hfr9 hS => ?_)
      obtain ⟨rfl, hM⟩ := hq
      have hDS := rf_D hp hDS hfr9
      have f_o := rf_o hp f_o hfr9
      refine lv_istore (lv' := [(6, .int 0), (5, .int 2), (4, .int (nI i)), (3, .ref ou), (2, .ref (B 0)), (1, .ref x), (0, .ref b)]) hx hb dL_law_1833 hl (by decide) rfl (fun ls hl => ?_)
      refine lv_aload_n hx hb dL_law_1835 rfl (lv_at hl 4 rfl) ?_
      refine Rd.callV (rest := []) (c_X8_thrown l G) yk_X8_thrown E km_L_113 dL_law_1836 hG (hE.S hS hEA) hM (At.recv hG hM.1 rfl) rfl rfl hl.1 ⟨Nat.le_of_ble_eq_true rfl, Nat.le_of_ble_eq_true rfl⟩ ⟨show c0 + 1 + 0 ≤ 601024 by omega, show s0 + 6 + 0 ≤ 7293034 by omega⟩ (Nat.le_of_ble_eq_true rfl) ?_
      refine lv_ci (y := 2) rfl ?_
      refine lv_iload hx hb dL_law_1839 (lv_at hl 1 rfl) ?_
      refine lv_icmp_eq (tgt := 1846) hx hb dL_law_1841 (by decide) (fun c_1841 => ?_) (fun c_1841 => ?_)
      rotate_left
      · exact absurd c_1841 (by decide)
      refine lv_iload hx hb dL_law_1846 (lv_at hl 1 rfl) ?_
      refine lv_if_ne (tgt := 1863) hx hb dL_law_1848 (by decide) (fun c_1848 => ?_) (fun c_1848 => ?_)
      rotate_left
      · exact absurd c_1848 (by decide)
      refine lv_goto (tgt := 2029) hx hb dL_law_1863 (by decide) ?_
      exact hK H6 locs _ _ (show c0 + 1 + 0 ≤ c0 + 200 by omega) (show s0 + 6 + 0 ≤ s0 + 4000 by omega) (li_mk hb9 hu hBy hbb hO hM hDS f_o) hS ls (lv_sub hl [2, 3, 4, 5, 6] rfl)

set_option maxHeartbeats 4000000 in
set_option maxRecDepth 100000 in
/-- the law: transfer -/
theorem lc_transfer {p : Program} {l : Launch} {e : Env} {s : State} {m : MethodId} {below : List Frame} {meth : Method} {c : Code} {Q : State → Prop} {b L : Nat} {xs : Nat → Int32} {G : CG} {B : Nat → Nat} {x bu pa ou i c0 s0 : Nat} {H : Heap} {locs : List Loc} {ls : Array Slot} (hst : l.stackTraces = false) (E : CallFix p m c code 7 s ([.ref b] : List Value).toArray TB RL) (hG : KT G s) (hE : EF G s s.heap) (hXs : va_X b L xs s s.heap) (hbl : b < s.heap.size) (hL : L ≤ 3072) (hZ : EFA G s.heap.size) (hp : LAp G B x bu pa ou) (hnew : ∀ q, LAO B x bu pa ou q → s.heap.size ≤ q) (hi6 : i + 6 ≤ L) (hc9 : c0 + 200 ≤ 601024) (hs9 : s0 + 4000 ≤ 7293034) (hI : LI G B x bu pa ou H) (hS : va_S (fun q9 => s.heap.size ≤ q9) s.heap H locs) (hl : lv_has ls 7 [(4, .int (nI i)), (3, .ref ou), (2, .ref (B 0)), (1, .ref x), (0, .ref b)]) (hK : ∀ (H : Heap) (locs : List Loc) (cs sl : Nat), cs ≤ c0 + 200 → sl ≤ s0 + 4000 → LI G B x bu pa ou H → va_S (fun q9 => s.heap.size ≤ q9) s.heap H locs → ∀ ls : Array Slot, lv_has ls 7 [(4, .int (nI i)), (3, .ref ou), (2, .ref (B 0)), (1, .ref x), (0, .ref b)] → W p l e room_1 s m ([.ref b] : List Value).toArray below meth c H locs cs sl Q (F0 m 2029 ls [])) : W p l e room_1 s m ([.ref b] : List Value).toArray below meth c H locs c0 s0 Q (F0 m 1866 ls []) := by
  obtain ⟨b9, u, nc, np, nh, bk, es, bf, bb, da, hi, f, t, tl, ps, er, ea, ns, ne, se, dr, sk, hb9, hu, hBy, hbb, hO, hM, hDS, f_o⟩ := hI
  have hx := E.1
  have hb := E.2.1
  have hMD := hp.1
  have hDD := hp.2.1
  obtain ⟨⟨h0, hc0⟩, ⟨h1, hp0⟩, ⟨h2, hh⟩, ⟨td, htd, h3⟩, hCr, hPr, hHo, hIj⟩ := id hO
  have hEA : ∀ q9, s.heap.size ≤ q9 → EFA G q9 := fun q9 h9 => Nat.le_trans hZ h9
  have hbA : ¬ s.heap.size ≤ b := Nat.not_le.mpr hbl
  have hAo9 : ∀ q, q = ou → s.heap.size ≤ q := fun q h => hnew q (Or.inr (Or.inr (Or.inr (Or.inl h))))
  have hAB : ∀ q, MA B q → s.heap.size ≤ q := fun q h => hnew q (Or.inr (Or.inr (Or.inr (Or.inr h))))
  have hAO := lao_lt hM hDS f_o
  have hz9 : EFA G H.size := Nat.le_trans hZ hS.1
  have hou : ou < H.size := va_at.lt f_o
  obtain ⟨z1, hz_1⟩ : ∃ z, xs (i + 1) = z := ⟨_, rfl⟩
  obtain ⟨z2, hz_2⟩ : ∃ z, xs (i + 2) = z := ⟨_, rfl⟩
  obtain ⟨z3, hz_3⟩ : ∃ z, xs (i + 3) = z := ⟨_, rfl⟩
  rcases inV01 z1 0 (nI nc - 1) with hy0 | hy1
  · refine lv_aload_n hx hb dL_law_1866 rfl (lv_at hl 3 rfl) ?_
    refine lv_aload_n hx hb dL_law_1867 rfl (lv_at hl 4 rfl) ?_
    refine lv_iload hx hb dL_law_1868 (lv_at hl 0 rfl) ?_
    refine lv_iconst (v := 1) hx hb dL_law_1870 rfl ?_
    refine lv_iadd hx hb dL_law_1871 ?_
    refine l_sld (k := i + 1) hx hb hXs hbl hbA hS (ixq (nI_ad rfl rfl)) (by omega) hL hz_1 dL_law_1872 ?_
    refine lv_aload_n hx hb dL_law_1873 rfl (lv_at hl 4 rfl) ?_
    refine lv_iload hx hb dL_law_1874 (lv_at hl 0 rfl) ?_
    refine lv_iconst (v := 2) hx hb dL_law_1876 rfl ?_
    refine lv_iadd hx hb dL_law_1877 ?_
    refine l_sld (k := i + 2) hx hb hXs hbl hbA hS (ixq (nI_ad rfl rfl)) (by omega) hL hz_2 dL_law_1878 ?_
    refine lv_aload_n hx hb dL_law_1879 rfl (lv_at hl 4 rfl) ?_
    refine lv_iload hx hb dL_law_1880 (lv_at hl 0 rfl) ?_
    refine lv_iconst (v := 3) hx hb dL_law_1882 rfl ?_
    refine lv_iadd hx hb dL_law_1883 ?_
    refine l_sld (k := i + 3) hx hb hXs hbl hbA hS (ixq (nI_ad rfl rfl)) (by omega) hL hz_3 dL_law_1884 ?_
    refine lv_aload_n hx hb dL_law_1885 rfl (lv_at hl 1 rfl) ?_
    refine WW.callS (rest := []) (w_L_transfer_t1 l G z1 z2 z3 (P := DS G (LAO B x bu pa ou) x bu pa bb (nI b9) es bk da nc np nh u hi) (Tr.w (c_X7_transfer_x l hst G z1 hy0 hc0 z2 z3) (fun _ h9 => ds_dk h9))) yk_L_transfer E km_L_210 dL_law_1886 hG (hE.S hS hEA) ⟨hDS, _, hDS.1⟩ rfl rfl hl.1 ⟨Nat.le_of_ble_eq_true rfl, Nat.le_of_ble_eq_true rfl⟩ ⟨show c0 + 1 ≤ 601024 by omega, show s0 + 6 ≤ 7293034 by omega⟩ (Nat.le_of_ble_eq_true rfl) hS (fun q9 h9 => h9.elim) (fun v9 H1 locs hq hz8 hfr9 hS => ?_)
    obtain rfl := hq
    have hf9 : ∀ q : Nat, q < H.size → q ≠ ou → H1[q]? = H[q]? := fun q9 h9 _ => hfr9 q9 h9 (fun w9 => w9)
    have f_o := va_at.kept f_o (hfr9 _ (va_at.lt f_o) (fun w9 => w9))
    have hM := ro_M hp hM hf9
    have hDS := ro_D hp hDS hf9
    refine lv_istore (lv' := [(5, .int 1), (4, .int (nI i)), (3, .ref ou), (2, .ref (B 0)), (1, .ref x), (0, .ref b)]) hx hb dL_law_1889 hl (by decide) rfl (fun ls hl => ?_)
    refine lv_aload_n hx hb dL_law_1891 rfl (lv_at hl 3 rfl) ?_
    refine lv_aload_n hx hb dL_law_1892 rfl (lv_at hl 5 rfl) ?_
    refine lv_iload hx hb dL_law_1893 (lv_at hl 1 rfl) ?_
    refine lv_iconst (v := 1) hx hb dL_law_1895 rfl ?_
    refine lv_iadd hx hb dL_law_1896 ?_
    refine l_sld (k := i + 1) hx hb hXs hbl hbA hS (ixq (nI_ad rfl rfl)) (by omega) hL hz_1 dL_law_1897 ?_
    refine lv_aload_n hx hb dL_law_1898 rfl (lv_at hl 5 rfl) ?_
    refine lv_iload hx hb dL_law_1899 (lv_at hl 1 rfl) ?_
    refine lv_iconst (v := 2) hx hb dL_law_1901 rfl ?_
    refine lv_iadd hx hb dL_law_1902 ?_
    refine l_sld (k := i + 2) hx hb hXs hbl hbA hS (ixq (nI_ad rfl rfl)) (by omega) hL hz_2 dL_law_1903 ?_
    refine lv_aload_n hx hb dL_law_1904 rfl (lv_at hl 5 rfl) ?_
    refine lv_iload hx hb dL_law_1905 (lv_at hl 1 rfl) ?_
    refine lv_iconst (v := 3) hx hb dL_law_1907 rfl ?_
    refine lv_iadd hx hb dL_law_1908 ?_
    refine l_sld (k := i + 3) hx hb hXs hbl hbA hS (ixq (nI_ad rfl rfl)) (by omega) hL hz_3 dL_law_1909 ?_
    refine Wr.callV (rest := []) (c_X8_transfer_x l G hMD z1 z2 z3 (by rw [h0]; exact hy0)) yk_X8_transfer E km_L_213 dL_law_1910 hG (hE.S hS hEA) hM (At.recv hG hM.1 rfl) rfl rfl hl.1 ⟨Nat.le_of_ble_eq_true rfl, Nat.le_of_ble_eq_true rfl⟩ ⟨show c0 + 1 + 0 ≤ 601024 by omega, show s0 + 6 + 0 ≤ 7293034 by omega⟩ (Nat.le_of_ble_eq_true rfl) hS hAB (fun v9 H2 locs hq hz8 hfr9 hS => ?_)
    obtain ⟨rfl, hM⟩ := hq
    have hDS := rf_D hp hDS hfr9
    have f_o := rf_o hp f_o hfr9
    refine lv_istore (lv' := [(6, .int 0), (5, .int 1), (4, .int (nI i)), (3, .ref ou), (2, .ref (B 0)), (1, .ref x), (0, .ref b)]) hx hb dL_law_1913 hl (by decide) rfl (fun ls hl => ?_)
    refine lv_aload_n hx hb dL_law_1915 rfl (lv_at hl 4 rfl) ?_
    refine Rd.callV (rest := []) (c_X8_thrown l G) yk_X8_thrown E km_L_113 dL_law_1916 hG (hE.S hS hEA) hM (At.recv hG hM.1 rfl) rfl rfl hl.1 ⟨Nat.le_of_ble_eq_true rfl, Nat.le_of_ble_eq_true rfl⟩ ⟨show c0 + 1 + 0 ≤ 601024 by omega, show s0 + 6 + 0 ≤ 7293034 by omega⟩ (Nat.le_of_ble_eq_true rfl) ?_
    refine lv_ci (y := 1) rfl ?_
    refine lv_iload hx hb dL_law_1919 (lv_at hl 1 rfl) ?_
    refine lv_icmp_eq (tgt := 1926) hx hb dL_law_1921 (by decide) (fun c_1921 => ?_) (fun c_1921 => ?_)
    rotate_left
    · exact absurd c_1921 (by decide)
    refine lv_iload hx hb dL_law_1926 (lv_at hl 1 rfl) ?_
    refine lv_if_ne (tgt := 1943) hx hb dL_law_1928 (by decide) (fun c_1928 => ?_) (fun c_1928 => ?_)
    rotate_left
    · exact absurd c_1928 (by decide)
    refine lv_goto (tgt := 2029) hx hb dL_law_1943 (by decide) ?_
    exact hK H2 locs _ _ (show c0 + 1 + 0 ≤ c0 + 200 by omega) (show s0 + 6 + 0 ≤ s0 + 4000 by omega) (li_mk hb9 hu hBy hbb hO hM hDS f_o) hS ls (lv_sub hl [2, 3, 4, 5, 6] rfl)
  · obtain ⟨k, hk9, rfl⟩ := ix_of (by omega) hy1
    rcases inV01 z2 1 999999 with ha0 | ha1
    · have hw9 : trW da k z2 z3 = 1 := by unfold trW; rw [if_pos ha0]
      refine lv_aload_n hx hb dL_law_1866 rfl (lv_at hl 3 rfl) ?_
      refine lv_aload_n hx hb dL_law_1867 rfl (lv_at hl 4 rfl) ?_
      refine lv_iload hx hb dL_law_1868 (lv_at hl 0 rfl) ?_
      refine lv_iconst (v := 1) hx hb dL_law_1870 rfl ?_
      refine lv_iadd hx hb dL_law_1871 ?_
      refine l_sld (k := i + 1) hx hb hXs hbl hbA hS (ixq (nI_ad rfl rfl)) (by omega) hL hz_1 dL_law_1872 ?_
      refine lv_aload_n hx hb dL_law_1873 rfl (lv_at hl 4 rfl) ?_
      refine lv_iload hx hb dL_law_1874 (lv_at hl 0 rfl) ?_
      refine lv_iconst (v := 2) hx hb dL_law_1876 rfl ?_
      refine lv_iadd hx hb dL_law_1877 ?_
      refine l_sld (k := i + 2) hx hb hXs hbl hbA hS (ixq (nI_ad rfl rfl)) (by omega) hL hz_2 dL_law_1878 ?_
      refine lv_aload_n hx hb dL_law_1879 rfl (lv_at hl 4 rfl) ?_
      refine lv_iload hx hb dL_law_1880 (lv_at hl 0 rfl) ?_
      refine lv_iconst (v := 3) hx hb dL_law_1882 rfl ?_
      refine lv_iadd hx hb dL_law_1883 ?_
      refine l_sld (k := i + 3) hx hb hXs hbl hbA hS (ixq (nI_ad rfl rfl)) (by omega) hL hz_3 dL_law_1884 ?_
      refine lv_aload_n hx hb dL_law_1885 rfl (lv_at hl 1 rfl) ?_
      refine WW.callS (rest := []) (w_L_transfer_t2 l G (nI k) z2 z3 (P := DS G (LAO B x bu pa ou) x bu pa bb (nI b9) es bk da nc np nh u hi) (Tr.w (c_X7_transfer_y1 l hst G (nI k) k rfl hk9 hc0 z2 z3 ha0) (fun _ h9 => ds_dk h9))) yk_L_transfer E km_L_210 dL_law_1886 hG (hE.S hS hEA) ⟨hDS, _, hDS.1⟩ rfl rfl hl.1 ⟨Nat.le_of_ble_eq_true rfl, Nat.le_of_ble_eq_true rfl⟩ ⟨show c0 + 1 ≤ 601024 by omega, show s0 + 6 ≤ 7293034 by omega⟩ (Nat.le_of_ble_eq_true rfl) hS (fun q9 h9 => h9.elim) (fun v9 H3 locs hq hz8 hfr9 hS => ?_)
      obtain rfl := hq
      have hf9 : ∀ q : Nat, q < H.size → q ≠ ou → H3[q]? = H[q]? := fun q9 h9 _ => hfr9 q9 h9 (fun w9 => w9)
      have f_o := va_at.kept f_o (hfr9 _ (va_at.lt f_o) (fun w9 => w9))
      have hM := ro_M hp hM hf9
      have hDS := ro_D hp hDS hf9
      refine lv_istore (lv' := [(5, .int 2), (4, .int (nI i)), (3, .ref ou), (2, .ref (B 0)), (1, .ref x), (0, .ref b)]) hx hb dL_law_1889 hl (by decide) rfl (fun ls hl => ?_)
      refine lv_aload_n hx hb dL_law_1891 rfl (lv_at hl 3 rfl) ?_
      refine lv_aload_n hx hb dL_law_1892 rfl (lv_at hl 5 rfl) ?_
      refine lv_iload hx hb dL_law_1893 (lv_at hl 1 rfl) ?_
      refine lv_iconst (v := 1) hx hb dL_law_1895 rfl ?_
      refine lv_iadd hx hb dL_law_1896 ?_
      refine l_sld (k := i + 1) hx hb hXs hbl hbA hS (ixq (nI_ad rfl rfl)) (by omega) hL hz_1 dL_law_1897 ?_
      refine lv_aload_n hx hb dL_law_1898 rfl (lv_at hl 5 rfl) ?_
      refine lv_iload hx hb dL_law_1899 (lv_at hl 1 rfl) ?_
      refine lv_iconst (v := 2) hx hb dL_law_1901 rfl ?_
      refine lv_iadd hx hb dL_law_1902 ?_
      refine l_sld (k := i + 2) hx hb hXs hbl hbA hS (ixq (nI_ad rfl rfl)) (by omega) hL hz_2 dL_law_1903 ?_
      refine lv_aload_n hx hb dL_law_1904 rfl (lv_at hl 5 rfl) ?_
      refine lv_iload hx hb dL_law_1905 (lv_at hl 1 rfl) ?_
      refine lv_iconst (v := 3) hx hb dL_law_1907 rfl ?_
      refine lv_iadd hx hb dL_law_1908 ?_
      refine l_sld (k := i + 3) hx hb hXs hbl hbA hS (ixq (nI_ad rfl rfl)) (by omega) hL hz_3 dL_law_1909 ?_
      refine Wr.callV (rest := []) (c_X8_transfer_y l G hMD (nI k) z2 z3 k np nc rfl hk9 (by rw [h0]; exact hy1) h1 hp0 h0 hc0 hw9) yk_X8_transfer E km_L_213 dL_law_1910 hG (hE.S hS hEA) hM (At.recv hG hM.1 rfl) rfl rfl hl.1 ⟨Nat.le_of_ble_eq_true rfl, Nat.le_of_ble_eq_true rfl⟩ ⟨show c0 + 1 + 0 ≤ 601024 by omega, show s0 + 6 + 0 ≤ 7293034 by omega⟩ (Nat.le_of_ble_eq_true rfl) hS hAB (fun v9 H4 locs hq hz8 hfr9 hS => ?_)
      obtain ⟨rfl, hM⟩ := hq
      have hDS := rf_D hp hDS hfr9
      have f_o := rf_o hp f_o hfr9
      refine lv_istore (lv' := [(6, .int 0), (5, .int 2), (4, .int (nI i)), (3, .ref ou), (2, .ref (B 0)), (1, .ref x), (0, .ref b)]) hx hb dL_law_1913 hl (by decide) rfl (fun ls hl => ?_)
      refine lv_aload_n hx hb dL_law_1915 rfl (lv_at hl 4 rfl) ?_
      refine Rd.callV (rest := []) (c_X8_thrown l G) yk_X8_thrown E km_L_113 dL_law_1916 hG (hE.S hS hEA) hM (At.recv hG hM.1 rfl) rfl rfl hl.1 ⟨Nat.le_of_ble_eq_true rfl, Nat.le_of_ble_eq_true rfl⟩ ⟨show c0 + 1 + 0 ≤ 601024 by omega, show s0 + 6 + 0 ≤ 7293034 by omega⟩ (Nat.le_of_ble_eq_true rfl) ?_
      refine lv_ci (y := 2) rfl ?_
      refine lv_iload hx hb dL_law_1919 (lv_at hl 1 rfl) ?_
      refine lv_icmp_eq (tgt := 1926) hx hb dL_law_1921 (by decide) (fun c_1921 => ?_) (fun c_1921 => ?_)
      rotate_left
      · exact absurd c_1921 (by decide)
      refine lv_iload hx hb dL_law_1926 (lv_at hl 1 rfl) ?_
      refine lv_if_ne (tgt := 1943) hx hb dL_law_1928 (by decide) (fun c_1928 => ?_) (fun c_1928 => ?_)
      rotate_left
      · exact absurd c_1928 (by decide)
      refine lv_goto (tgt := 2029) hx hb dL_law_1943 (by decide) ?_
      exact hK H4 locs _ _ (show c0 + 1 + 0 ≤ c0 + 200 by omega) (show s0 + 6 + 0 ≤ s0 + 4000 by omega) (li_mk hb9 hu hBy hbb hO hM hDS f_o) hS ls (lv_sub hl [2, 3, 4, 5, 6] rfl)
    · rcases inV01 z3 0 999 with hb0 | hb1
      · have hw9 : trW da k z2 z3 = 1 := by unfold trW; rw [if_neg (by rw [ha1]; decide), if_pos hb0]
        refine lv_aload_n hx hb dL_law_1866 rfl (lv_at hl 3 rfl) ?_
        refine lv_aload_n hx hb dL_law_1867 rfl (lv_at hl 4 rfl) ?_
        refine lv_iload hx hb dL_law_1868 (lv_at hl 0 rfl) ?_
        refine lv_iconst (v := 1) hx hb dL_law_1870 rfl ?_
        refine lv_iadd hx hb dL_law_1871 ?_
        refine l_sld (k := i + 1) hx hb hXs hbl hbA hS (ixq (nI_ad rfl rfl)) (by omega) hL hz_1 dL_law_1872 ?_
        refine lv_aload_n hx hb dL_law_1873 rfl (lv_at hl 4 rfl) ?_
        refine lv_iload hx hb dL_law_1874 (lv_at hl 0 rfl) ?_
        refine lv_iconst (v := 2) hx hb dL_law_1876 rfl ?_
        refine lv_iadd hx hb dL_law_1877 ?_
        refine l_sld (k := i + 2) hx hb hXs hbl hbA hS (ixq (nI_ad rfl rfl)) (by omega) hL hz_2 dL_law_1878 ?_
        refine lv_aload_n hx hb dL_law_1879 rfl (lv_at hl 4 rfl) ?_
        refine lv_iload hx hb dL_law_1880 (lv_at hl 0 rfl) ?_
        refine lv_iconst (v := 3) hx hb dL_law_1882 rfl ?_
        refine lv_iadd hx hb dL_law_1883 ?_
        refine l_sld (k := i + 3) hx hb hXs hbl hbA hS (ixq (nI_ad rfl rfl)) (by omega) hL hz_3 dL_law_1884 ?_
        refine lv_aload_n hx hb dL_law_1885 rfl (lv_at hl 1 rfl) ?_
        refine WW.callS (rest := []) (w_L_transfer_t2 l G (nI k) z2 z3 (P := DS G (LAO B x bu pa ou) x bu pa bb (nI b9) es bk da nc np nh u hi) (Tr.w (c_X7_transfer_y2 l hst G (nI k) k rfl hk9 hc0 z2 z3 ha1 hb0) (fun _ h9 => ds_dk h9))) yk_L_transfer E km_L_210 dL_law_1886 hG (hE.S hS hEA) ⟨hDS, _, hDS.1⟩ rfl rfl hl.1 ⟨Nat.le_of_ble_eq_true rfl, Nat.le_of_ble_eq_true rfl⟩ ⟨show c0 + 1 ≤ 601024 by omega, show s0 + 6 ≤ 7293034 by omega⟩ (Nat.le_of_ble_eq_true rfl) hS (fun q9 h9 => h9.elim) (fun v9 H5 locs hq hz8 hfr9 hS => ?_)
        obtain rfl := hq
        have hf9 : ∀ q : Nat, q < H.size → q ≠ ou → H5[q]? = H[q]? := fun q9 h9 _ => hfr9 q9 h9 (fun w9 => w9)
        have f_o := va_at.kept f_o (hfr9 _ (va_at.lt f_o) (fun w9 => w9))
        have hM := ro_M hp hM hf9
        have hDS := ro_D hp hDS hf9
        refine lv_istore (lv' := [(5, .int 2), (4, .int (nI i)), (3, .ref ou), (2, .ref (B 0)), (1, .ref x), (0, .ref b)]) hx hb dL_law_1889 hl (by decide) rfl (fun ls hl => ?_)
        refine lv_aload_n hx hb dL_law_1891 rfl (lv_at hl 3 rfl) ?_
        refine lv_aload_n hx hb dL_law_1892 rfl (lv_at hl 5 rfl) ?_
        refine lv_iload hx hb dL_law_1893 (lv_at hl 1 rfl) ?_
        refine lv_iconst (v := 1) hx hb dL_law_1895 rfl ?_
        refine lv_iadd hx hb dL_law_1896 ?_
        refine l_sld (k := i + 1) hx hb hXs hbl hbA hS (ixq (nI_ad rfl rfl)) (by omega) hL hz_1 dL_law_1897 ?_
        refine lv_aload_n hx hb dL_law_1898 rfl (lv_at hl 5 rfl) ?_
        refine lv_iload hx hb dL_law_1899 (lv_at hl 1 rfl) ?_
        refine lv_iconst (v := 2) hx hb dL_law_1901 rfl ?_
        refine lv_iadd hx hb dL_law_1902 ?_
        refine l_sld (k := i + 2) hx hb hXs hbl hbA hS (ixq (nI_ad rfl rfl)) (by omega) hL hz_2 dL_law_1903 ?_
        refine lv_aload_n hx hb dL_law_1904 rfl (lv_at hl 5 rfl) ?_
        refine lv_iload hx hb dL_law_1905 (lv_at hl 1 rfl) ?_
        refine lv_iconst (v := 3) hx hb dL_law_1907 rfl ?_
        refine lv_iadd hx hb dL_law_1908 ?_
        refine l_sld (k := i + 3) hx hb hXs hbl hbA hS (ixq (nI_ad rfl rfl)) (by omega) hL hz_3 dL_law_1909 ?_
        refine Wr.callV (rest := []) (c_X8_transfer_y l G hMD (nI k) z2 z3 k np nc rfl hk9 (by rw [h0]; exact hy1) h1 hp0 h0 hc0 hw9) yk_X8_transfer E km_L_213 dL_law_1910 hG (hE.S hS hEA) hM (At.recv hG hM.1 rfl) rfl rfl hl.1 ⟨Nat.le_of_ble_eq_true rfl, Nat.le_of_ble_eq_true rfl⟩ ⟨show c0 + 1 + 0 ≤ 601024 by omega, show s0 + 6 + 0 ≤ 7293034 by omega⟩ (Nat.le_of_ble_eq_true rfl) hS hAB (fun v9 H6 locs hq hz8 hfr9 hS => ?_)
        obtain ⟨rfl, hM⟩ := hq
        have hDS := rf_D hp hDS hfr9
        have f_o := rf_o hp f_o hfr9
        refine lv_istore (lv' := [(6, .int 0), (5, .int 2), (4, .int (nI i)), (3, .ref ou), (2, .ref (B 0)), (1, .ref x), (0, .ref b)]) hx hb dL_law_1913 hl (by decide) rfl (fun ls hl => ?_)
        refine lv_aload_n hx hb dL_law_1915 rfl (lv_at hl 4 rfl) ?_
        refine Rd.callV (rest := []) (c_X8_thrown l G) yk_X8_thrown E km_L_113 dL_law_1916 hG (hE.S hS hEA) hM (At.recv hG hM.1 rfl) rfl rfl hl.1 ⟨Nat.le_of_ble_eq_true rfl, Nat.le_of_ble_eq_true rfl⟩ ⟨show c0 + 1 + 0 ≤ 601024 by omega, show s0 + 6 + 0 ≤ 7293034 by omega⟩ (Nat.le_of_ble_eq_true rfl) ?_
        refine lv_ci (y := 2) rfl ?_
        refine lv_iload hx hb dL_law_1919 (lv_at hl 1 rfl) ?_
        refine lv_icmp_eq (tgt := 1926) hx hb dL_law_1921 (by decide) (fun c_1921 => ?_) (fun c_1921 => ?_)
        rotate_left
        · exact absurd c_1921 (by decide)
        refine lv_iload hx hb dL_law_1926 (lv_at hl 1 rfl) ?_
        refine lv_if_ne (tgt := 1943) hx hb dL_law_1928 (by decide) (fun c_1928 => ?_) (fun c_1928 => ?_)
        rotate_left
        · exact absurd c_1928 (by decide)
        refine lv_goto (tgt := 2029) hx hb dL_law_1943 (by decide) ?_
        exact hK H6 locs _ _ (show c0 + 1 + 0 ≤ c0 + 200 by omega) (show s0 + 6 + 0 ≤ s0 + 4000 by omega) (li_mk hb9 hu hBy hbb hO hM hDS f_o) hS ls (lv_sub hl [2, 3, 4, 5, 6] rfl)
      · by_cases hle : z3 ≤ da (cP k + 3)
        · have hw9 : trW da k z2 z3 = 0 := by unfold trW; rw [if_neg (by rw [ha1]; decide), if_neg (by rw [hb1]; decide), if_pos hle]
          rcases trF01 da np nc k z2 with hf0 | hf1
          · have hn12 := trF_12 h0 hc0 hf0
            refine lv_aload_n hx hb dL_law_1866 rfl (lv_at hl 3 rfl) ?_
            refine lv_aload_n hx hb dL_law_1867 rfl (lv_at hl 4 rfl) ?_
            refine lv_iload hx hb dL_law_1868 (lv_at hl 0 rfl) ?_
            refine lv_iconst (v := 1) hx hb dL_law_1870 rfl ?_
            refine lv_iadd hx hb dL_law_1871 ?_
            refine l_sld (k := i + 1) hx hb hXs hbl hbA hS (ixq (nI_ad rfl rfl)) (by omega) hL hz_1 dL_law_1872 ?_
            refine lv_aload_n hx hb dL_law_1873 rfl (lv_at hl 4 rfl) ?_
            refine lv_iload hx hb dL_law_1874 (lv_at hl 0 rfl) ?_
            refine lv_iconst (v := 2) hx hb dL_law_1876 rfl ?_
            refine lv_iadd hx hb dL_law_1877 ?_
            refine l_sld (k := i + 2) hx hb hXs hbl hbA hS (ixq (nI_ad rfl rfl)) (by omega) hL hz_2 dL_law_1878 ?_
            refine lv_aload_n hx hb dL_law_1879 rfl (lv_at hl 4 rfl) ?_
            refine lv_iload hx hb dL_law_1880 (lv_at hl 0 rfl) ?_
            refine lv_iconst (v := 3) hx hb dL_law_1882 rfl ?_
            refine lv_iadd hx hb dL_law_1883 ?_
            refine l_sld (k := i + 3) hx hb hXs hbl hbA hS (ixq (nI_ad rfl rfl)) (by omega) hL hz_3 dL_law_1884 ?_
            refine lv_aload_n hx hb dL_law_1885 rfl (lv_at hl 1 rfl) ?_
            refine WW.callS (rest := []) (w_L_transfer l G (nI k) z2 z3 (Q := (fun r9 H9 => (r9 = nI nc ∧ ∃ k9, DS G (LAO B x bu pa ou) x bu pa bb (nI b9) es k9 (trD da nc k (nI k) z2 z3) (nc + 1) np nh (remU u) (remH hi da u) H9))) (f := f) (Wr.weak (Q' := (fun v9 H9 => ∃ r, v9 = some (.int r) ∧ (r = nI nc ∧ ∃ k9, DS G (LAO B x bu pa ou) x bu pa bb (nI b9) es k9 (trD da nc k (nI k) z2 z3) (nc + 1) np nh (remU u) (remH hi da u) H9))) (c_X7_transfer l G hDD hu hO hz9 hAO (nI k) k rfl hk9 z2 z3 ha1 hb1 hle hf0 hn12) (fun _ h9 => h9) (fun _ _ h9 => ⟨_, h9.1, rfl, h9.2⟩) (Nat.le_refl _) (Nat.le_refl _)) (dw_ou hp hou) (fun _ _ _ _ oq h9 => ⟨h9.1, h9.2.elim (fun k9 y9 => ⟨k9, ds_o hp y9 oq⟩)⟩)) yk_L_transfer E km_L_210 dL_law_1886 hG (hE.S hS hEA) ⟨⟨rfl, hDS⟩, ⟨_, hDS.1⟩, f_o⟩ rfl rfl hl.1 ⟨Nat.le_of_ble_eq_true rfl, Nat.le_of_ble_eq_true rfl⟩ ⟨show c0 + 3 ≤ 601024 by omega, show s0 + 29 ≤ 7293034 by omega⟩ (Nat.le_of_ble_eq_true rfl) hS (fun q9 h9 => h9.elim (fun w9 => dw_new hnew hS.1 w9) (hAo9 q9)) (fun v9 H7 locs hq hz8 hfr9 hS => ?_)
            obtain ⟨rfl, r, hQ9, f_o⟩ := hq
            have hM := ch_M hp hM hfr9
            obtain ⟨hr9, bk9, hDS⟩ := hQ9
            refine lv_istore (lv' := [(5, .int 0), (4, .int (nI i)), (3, .ref ou), (2, .ref (B 0)), (1, .ref x), (0, .ref b)]) hx hb dL_law_1889 hl (by decide) rfl (fun ls hl => ?_)
            refine lv_aload_n hx hb dL_law_1891 rfl (lv_at hl 3 rfl) ?_
            refine lv_aload_n hx hb dL_law_1892 rfl (lv_at hl 5 rfl) ?_
            refine lv_iload hx hb dL_law_1893 (lv_at hl 1 rfl) ?_
            refine lv_iconst (v := 1) hx hb dL_law_1895 rfl ?_
            refine lv_iadd hx hb dL_law_1896 ?_
            refine l_sld (k := i + 1) hx hb hXs hbl hbA hS (ixq (nI_ad rfl rfl)) (by omega) hL hz_1 dL_law_1897 ?_
            refine lv_aload_n hx hb dL_law_1898 rfl (lv_at hl 5 rfl) ?_
            refine lv_iload hx hb dL_law_1899 (lv_at hl 1 rfl) ?_
            refine lv_iconst (v := 2) hx hb dL_law_1901 rfl ?_
            refine lv_iadd hx hb dL_law_1902 ?_
            refine l_sld (k := i + 2) hx hb hXs hbl hbA hS (ixq (nI_ad rfl rfl)) (by omega) hL hz_2 dL_law_1903 ?_
            refine lv_aload_n hx hb dL_law_1904 rfl (lv_at hl 5 rfl) ?_
            refine lv_iload hx hb dL_law_1905 (lv_at hl 1 rfl) ?_
            refine lv_iconst (v := 3) hx hb dL_law_1907 rfl ?_
            refine lv_iadd hx hb dL_law_1908 ?_
            refine l_sld (k := i + 3) hx hb hXs hbl hbA hS (ixq (nI_ad rfl rfl)) (by omega) hL hz_3 dL_law_1909 ?_
            refine Wr.callV (rest := []) (c_X8_transfer l G hMD (nI k) z2 z3 k np nc rfl hk9 (by rw [h0]; exact hy1) h1 hp0 h0 hc0 hw9 hf0 hn12 u hu) yk_X8_transfer E km_L_213 dL_law_1910 hG (hE.S hS hEA) hM (At.recv hG hM.1 rfl) rfl rfl hl.1 ⟨Nat.le_of_ble_eq_true rfl, Nat.le_of_ble_eq_true rfl⟩ ⟨show c0 + 3 + 0 ≤ 601024 by omega, show s0 + 29 + 0 ≤ 7293034 by omega⟩ (Nat.le_of_ble_eq_true rfl) hS hAB (fun v9 H8 locs hq hz8 hfr9 hS => ?_)
            obtain ⟨rfl, hM⟩ := hq
            have hDS := rf_D hp hDS hfr9
            have f_o := rf_o hp f_o hfr9
            refine lv_istore (lv' := [(6, .int (nI nc)), (5, .int 0), (4, .int (nI i)), (3, .ref ou), (2, .ref (B 0)), (1, .ref x), (0, .ref b)]) hx hb dL_law_1913 hl (by decide) rfl (fun ls hl => ?_)
            refine lv_aload_n hx hb dL_law_1915 rfl (lv_at hl 4 rfl) ?_
            refine Rd.callV (rest := []) (c_X8_thrown l G) yk_X8_thrown E km_L_113 dL_law_1916 hG (hE.S hS hEA) hM (At.recv hG hM.1 rfl) rfl rfl hl.1 ⟨Nat.le_of_ble_eq_true rfl, Nat.le_of_ble_eq_true rfl⟩ ⟨show c0 + 3 + 0 ≤ 601024 by omega, show s0 + 29 + 0 ≤ 7293034 by omega⟩ (Nat.le_of_ble_eq_true rfl) ?_
            refine lv_ci (y := 0) rfl ?_
            refine lv_iload hx hb dL_law_1919 (lv_at hl 1 rfl) ?_
            refine lv_icmp_eq (tgt := 1926) hx hb dL_law_1921 (by decide) (fun c_1921 => ?_) (fun c_1921 => ?_)
            rotate_left
            · exact absurd c_1921 (by decide)
            refine lv_iload hx hb dL_law_1926 (lv_at hl 1 rfl) ?_
            refine lv_if_ne (tgt := 1943) hx hb dL_law_1928 (by decide) (fun c_1928 => ?_) (fun c_1928 => ?_)
            · exact absurd c_1928 (by decide)
            refine lv_aload_n hx hb dL_law_1931 rfl (lv_at hl 3 rfl) ?_
            refine lv_iconst (v := 0) hx hb dL_law_1932 rfl ?_
            refine g_lld 0 E hG f_o rfl (by omega) (by decide) dL_law_1933 ?_
            refine lv_iload hx hb dL_law_1934 (lv_at hl 0 rfl) ?_
            refine lv_i2l (v := (nI nc).toInt64) hx hb dL_law_1936 rfl ?_
            refine W.lcmp hx hb dL_law_1937 ?_
            refine lv_if_eq (tgt := 1943) hx hb dL_law_1938 (by decide) (fun c_1938 => ?_) (fun c_1938 => ?_)
            rotate_left
            · exact absurd ((lg_cmp_eq _ _).mpr (by rw [pk_uLs]; rw [hr9])) c_1938
            refine lv_goto (tgt := 2029) hx hb dL_law_1943 (by decide) ?_
            exact hK H8 locs _ _ (show c0 + 3 + 0 ≤ c0 + 200 by omega) (show s0 + 29 + 0 ≤ s0 + 4000 by omega) (li_mk hb9 (remU_le hu) hBy hbb (tr_ok hO hn12 hk9 hb1) hM hDS f_o) hS ls (lv_sub hl [2, 3, 4, 5, 6] rfl)
          · refine lv_aload_n hx hb dL_law_1866 rfl (lv_at hl 3 rfl) ?_
            refine lv_aload_n hx hb dL_law_1867 rfl (lv_at hl 4 rfl) ?_
            refine lv_iload hx hb dL_law_1868 (lv_at hl 0 rfl) ?_
            refine lv_iconst (v := 1) hx hb dL_law_1870 rfl ?_
            refine lv_iadd hx hb dL_law_1871 ?_
            refine l_sld (k := i + 1) hx hb hXs hbl hbA hS (ixq (nI_ad rfl rfl)) (by omega) hL hz_1 dL_law_1872 ?_
            refine lv_aload_n hx hb dL_law_1873 rfl (lv_at hl 4 rfl) ?_
            refine lv_iload hx hb dL_law_1874 (lv_at hl 0 rfl) ?_
            refine lv_iconst (v := 2) hx hb dL_law_1876 rfl ?_
            refine lv_iadd hx hb dL_law_1877 ?_
            refine l_sld (k := i + 2) hx hb hXs hbl hbA hS (ixq (nI_ad rfl rfl)) (by omega) hL hz_2 dL_law_1878 ?_
            refine lv_aload_n hx hb dL_law_1879 rfl (lv_at hl 4 rfl) ?_
            refine lv_iload hx hb dL_law_1880 (lv_at hl 0 rfl) ?_
            refine lv_iconst (v := 3) hx hb dL_law_1882 rfl ?_
            refine lv_iadd hx hb dL_law_1883 ?_
            refine l_sld (k := i + 3) hx hb hXs hbl hbA hS (ixq (nI_ad rfl rfl)) (by omega) hL hz_3 dL_law_1884 ?_
            refine lv_aload_n hx hb dL_law_1885 rfl (lv_at hl 1 rfl) ?_
            refine WW.callS (rest := []) (w_L_transfer_t3 l G (nI k) z2 z3 (P := DS G (LAO B x bu pa ou) x bu pa bb (nI b9) es bk da nc np nh u hi) (Tr.w (c_X7_transfer_z l hst G (nI k) k rfl hk9 hc0 hp0 h0 z2 z3 ha1 hb1 hle (by rw [hf1]; decide)) (fun _ h9 => ds_dk h9))) yk_L_transfer E km_L_210 dL_law_1886 hG (hE.S hS hEA) ⟨hDS, _, hDS.1⟩ rfl rfl hl.1 ⟨Nat.le_of_ble_eq_true rfl, Nat.le_of_ble_eq_true rfl⟩ ⟨show c0 + 1 ≤ 601024 by omega, show s0 + 6 ≤ 7293034 by omega⟩ (Nat.le_of_ble_eq_true rfl) hS (fun q9 h9 => h9.elim) (fun v9 H9 locs hq hz8 hfr9 hS => ?_)
            obtain rfl := hq
            have hf9 : ∀ q : Nat, q < H.size → q ≠ ou → H9[q]? = H[q]? := fun q9 h9 _ => hfr9 q9 h9 (fun w9 => w9)
            have f_o := va_at.kept f_o (hfr9 _ (va_at.lt f_o) (fun w9 => w9))
            have hM := ro_M hp hM hf9
            have hDS := ro_D hp hDS hf9
            refine lv_istore (lv' := [(5, .int 3), (4, .int (nI i)), (3, .ref ou), (2, .ref (B 0)), (1, .ref x), (0, .ref b)]) hx hb dL_law_1889 hl (by decide) rfl (fun ls hl => ?_)
            refine lv_aload_n hx hb dL_law_1891 rfl (lv_at hl 3 rfl) ?_
            refine lv_aload_n hx hb dL_law_1892 rfl (lv_at hl 5 rfl) ?_
            refine lv_iload hx hb dL_law_1893 (lv_at hl 1 rfl) ?_
            refine lv_iconst (v := 1) hx hb dL_law_1895 rfl ?_
            refine lv_iadd hx hb dL_law_1896 ?_
            refine l_sld (k := i + 1) hx hb hXs hbl hbA hS (ixq (nI_ad rfl rfl)) (by omega) hL hz_1 dL_law_1897 ?_
            refine lv_aload_n hx hb dL_law_1898 rfl (lv_at hl 5 rfl) ?_
            refine lv_iload hx hb dL_law_1899 (lv_at hl 1 rfl) ?_
            refine lv_iconst (v := 2) hx hb dL_law_1901 rfl ?_
            refine lv_iadd hx hb dL_law_1902 ?_
            refine l_sld (k := i + 2) hx hb hXs hbl hbA hS (ixq (nI_ad rfl rfl)) (by omega) hL hz_2 dL_law_1903 ?_
            refine lv_aload_n hx hb dL_law_1904 rfl (lv_at hl 5 rfl) ?_
            refine lv_iload hx hb dL_law_1905 (lv_at hl 1 rfl) ?_
            refine lv_iconst (v := 3) hx hb dL_law_1907 rfl ?_
            refine lv_iadd hx hb dL_law_1908 ?_
            refine l_sld (k := i + 3) hx hb hXs hbl hbA hS (ixq (nI_ad rfl rfl)) (by omega) hL hz_3 dL_law_1909 ?_
            refine Wr.callV (rest := []) (c_X8_transfer_z l G hMD (nI k) z2 z3 k np nc rfl hk9 (by rw [h0]; exact hy1) h1 hp0 h0 hc0 hw9 hf1) yk_X8_transfer E km_L_213 dL_law_1910 hG (hE.S hS hEA) hM (At.recv hG hM.1 rfl) rfl rfl hl.1 ⟨Nat.le_of_ble_eq_true rfl, Nat.le_of_ble_eq_true rfl⟩ ⟨show c0 + 1 + 0 ≤ 601024 by omega, show s0 + 6 + 0 ≤ 7293034 by omega⟩ (Nat.le_of_ble_eq_true rfl) hS hAB (fun v9 H10 locs hq hz8 hfr9 hS => ?_)
            obtain ⟨rfl, hM⟩ := hq
            have hDS := rf_D hp hDS hfr9
            have f_o := rf_o hp f_o hfr9
            refine lv_istore (lv' := [(6, .int 0), (5, .int 3), (4, .int (nI i)), (3, .ref ou), (2, .ref (B 0)), (1, .ref x), (0, .ref b)]) hx hb dL_law_1913 hl (by decide) rfl (fun ls hl => ?_)
            refine lv_aload_n hx hb dL_law_1915 rfl (lv_at hl 4 rfl) ?_
            refine Rd.callV (rest := []) (c_X8_thrown l G) yk_X8_thrown E km_L_113 dL_law_1916 hG (hE.S hS hEA) hM (At.recv hG hM.1 rfl) rfl rfl hl.1 ⟨Nat.le_of_ble_eq_true rfl, Nat.le_of_ble_eq_true rfl⟩ ⟨show c0 + 1 + 0 ≤ 601024 by omega, show s0 + 6 + 0 ≤ 7293034 by omega⟩ (Nat.le_of_ble_eq_true rfl) ?_
            refine lv_ci (y := 3) rfl ?_
            refine lv_iload hx hb dL_law_1919 (lv_at hl 1 rfl) ?_
            refine lv_icmp_eq (tgt := 1926) hx hb dL_law_1921 (by decide) (fun c_1921 => ?_) (fun c_1921 => ?_)
            rotate_left
            · exact absurd c_1921 (by decide)
            refine lv_iload hx hb dL_law_1926 (lv_at hl 1 rfl) ?_
            refine lv_if_ne (tgt := 1943) hx hb dL_law_1928 (by decide) (fun c_1928 => ?_) (fun c_1928 => ?_)
            rotate_left
            · exact absurd c_1928 (by decide)
            refine lv_goto (tgt := 2029) hx hb dL_law_1943 (by decide) ?_
            exact hK H10 locs _ _ (show c0 + 1 + 0 ≤ c0 + 200 by omega) (show s0 + 6 + 0 ≤ s0 + 4000 by omega) (li_mk hb9 hu hBy hbb hO hM hDS f_o) hS ls (lv_sub hl [2, 3, 4, 5, 6] rfl)
        · have hw9 : trW da k z2 z3 = 1 := by unfold trW; rw [if_neg (by rw [ha1]; decide), if_neg (by rw [hb1]; decide), if_neg hle]
          refine lv_aload_n hx hb dL_law_1866 rfl (lv_at hl 3 rfl) ?_
          refine lv_aload_n hx hb dL_law_1867 rfl (lv_at hl 4 rfl) ?_
          refine lv_iload hx hb dL_law_1868 (lv_at hl 0 rfl) ?_
          refine lv_iconst (v := 1) hx hb dL_law_1870 rfl ?_
          refine lv_iadd hx hb dL_law_1871 ?_
          refine l_sld (k := i + 1) hx hb hXs hbl hbA hS (ixq (nI_ad rfl rfl)) (by omega) hL hz_1 dL_law_1872 ?_
          refine lv_aload_n hx hb dL_law_1873 rfl (lv_at hl 4 rfl) ?_
          refine lv_iload hx hb dL_law_1874 (lv_at hl 0 rfl) ?_
          refine lv_iconst (v := 2) hx hb dL_law_1876 rfl ?_
          refine lv_iadd hx hb dL_law_1877 ?_
          refine l_sld (k := i + 2) hx hb hXs hbl hbA hS (ixq (nI_ad rfl rfl)) (by omega) hL hz_2 dL_law_1878 ?_
          refine lv_aload_n hx hb dL_law_1879 rfl (lv_at hl 4 rfl) ?_
          refine lv_iload hx hb dL_law_1880 (lv_at hl 0 rfl) ?_
          refine lv_iconst (v := 3) hx hb dL_law_1882 rfl ?_
          refine lv_iadd hx hb dL_law_1883 ?_
          refine l_sld (k := i + 3) hx hb hXs hbl hbA hS (ixq (nI_ad rfl rfl)) (by omega) hL hz_3 dL_law_1884 ?_
          refine lv_aload_n hx hb dL_law_1885 rfl (lv_at hl 1 rfl) ?_
          refine WW.callS (rest := []) (w_L_transfer_t2 l G (nI k) z2 z3 (P := DS G (LAO B x bu pa ou) x bu pa bb (nI b9) es bk da nc np nh u hi) (Tr.w (c_X7_transfer_y3 l hst G (nI k) k rfl hk9 hc0 z2 z3 ha1 hb1 hle) (fun _ h9 => ds_dk h9))) yk_L_transfer E km_L_210 dL_law_1886 hG (hE.S hS hEA) ⟨hDS, _, hDS.1⟩ rfl rfl hl.1 ⟨Nat.le_of_ble_eq_true rfl, Nat.le_of_ble_eq_true rfl⟩ ⟨show c0 + 1 ≤ 601024 by omega, show s0 + 6 ≤ 7293034 by omega⟩ (Nat.le_of_ble_eq_true rfl) hS (fun q9 h9 => h9.elim) (fun v9 H11 locs hq hz8 hfr9 hS => ?_)
          obtain rfl := hq
          have hf9 : ∀ q : Nat, q < H.size → q ≠ ou → H11[q]? = H[q]? := fun q9 h9 _ => hfr9 q9 h9 (fun w9 => w9)
          have f_o := va_at.kept f_o (hfr9 _ (va_at.lt f_o) (fun w9 => w9))
          have hM := ro_M hp hM hf9
          have hDS := ro_D hp hDS hf9
          refine lv_istore (lv' := [(5, .int 2), (4, .int (nI i)), (3, .ref ou), (2, .ref (B 0)), (1, .ref x), (0, .ref b)]) hx hb dL_law_1889 hl (by decide) rfl (fun ls hl => ?_)
          refine lv_aload_n hx hb dL_law_1891 rfl (lv_at hl 3 rfl) ?_
          refine lv_aload_n hx hb dL_law_1892 rfl (lv_at hl 5 rfl) ?_
          refine lv_iload hx hb dL_law_1893 (lv_at hl 1 rfl) ?_
          refine lv_iconst (v := 1) hx hb dL_law_1895 rfl ?_
          refine lv_iadd hx hb dL_law_1896 ?_
          refine l_sld (k := i + 1) hx hb hXs hbl hbA hS (ixq (nI_ad rfl rfl)) (by omega) hL hz_1 dL_law_1897 ?_
          refine lv_aload_n hx hb dL_law_1898 rfl (lv_at hl 5 rfl) ?_
          refine lv_iload hx hb dL_law_1899 (lv_at hl 1 rfl) ?_
          refine lv_iconst (v := 2) hx hb dL_law_1901 rfl ?_
          refine lv_iadd hx hb dL_law_1902 ?_
          refine l_sld (k := i + 2) hx hb hXs hbl hbA hS (ixq (nI_ad rfl rfl)) (by omega) hL hz_2 dL_law_1903 ?_
          refine lv_aload_n hx hb dL_law_1904 rfl (lv_at hl 5 rfl) ?_
          refine lv_iload hx hb dL_law_1905 (lv_at hl 1 rfl) ?_
          refine lv_iconst (v := 3) hx hb dL_law_1907 rfl ?_
          refine lv_iadd hx hb dL_law_1908 ?_
          refine l_sld (k := i + 3) hx hb hXs hbl hbA hS (ixq (nI_ad rfl rfl)) (by omega) hL hz_3 dL_law_1909 ?_
          refine Wr.callV (rest := []) (c_X8_transfer_y l G hMD (nI k) z2 z3 k np nc rfl hk9 (by rw [h0]; exact hy1) h1 hp0 h0 hc0 hw9) yk_X8_transfer E km_L_213 dL_law_1910 hG (hE.S hS hEA) hM (At.recv hG hM.1 rfl) rfl rfl hl.1 ⟨Nat.le_of_ble_eq_true rfl, Nat.le_of_ble_eq_true rfl⟩ ⟨show c0 + 1 + 0 ≤ 601024 by omega, show s0 + 6 + 0 ≤ 7293034 by omega⟩ (Nat.le_of_ble_eq_true rfl) hS hAB (fun v9 H12 locs hq hz8 hfr9 hS => ?_)
          obtain ⟨rfl, hM⟩ := hq
          have hDS := rf_D hp hDS hfr9
          have f_o := rf_o hp f_o hfr9
          refine lv_istore (lv' := [(6, .int 0), (5, .int 2), (4, .int (nI i)), (3, .ref ou), (2, .ref (B 0)), (1, .ref x), (0, .ref b)]) hx hb dL_law_1913 hl (by decide) rfl (fun ls hl => ?_)
          refine lv_aload_n hx hb dL_law_1915 rfl (lv_at hl 4 rfl) ?_
          refine Rd.callV (rest := []) (c_X8_thrown l G) yk_X8_thrown E km_L_113 dL_law_1916 hG (hE.S hS hEA) hM (At.recv hG hM.1 rfl) rfl rfl hl.1 ⟨Nat.le_of_ble_eq_true rfl, Nat.le_of_ble_eq_true rfl⟩ ⟨show c0 + 1 + 0 ≤ 601024 by omega, show s0 + 6 + 0 ≤ 7293034 by omega⟩ (Nat.le_of_ble_eq_true rfl) ?_
          refine lv_ci (y := 2) rfl ?_
          refine lv_iload hx hb dL_law_1919 (lv_at hl 1 rfl) ?_
          refine lv_icmp_eq (tgt := 1926) hx hb dL_law_1921 (by decide) (fun c_1921 => ?_) (fun c_1921 => ?_)
          rotate_left
          · exact absurd c_1921 (by decide)
          refine lv_iload hx hb dL_law_1926 (lv_at hl 1 rfl) ?_
          refine lv_if_ne (tgt := 1943) hx hb dL_law_1928 (by decide) (fun c_1928 => ?_) (fun c_1928 => ?_)
          rotate_left
          · exact absurd c_1928 (by decide)
          refine lv_goto (tgt := 2029) hx hb dL_law_1943 (by decide) ?_
          exact hK H12 locs _ _ (show c0 + 1 + 0 ≤ c0 + 200 by omega) (show s0 + 6 + 0 ≤ s0 + 4000 by omega) (li_mk hb9 hu hBy hbb hO hM hDS f_o) hS ls (lv_sub hl [2, 3, 4, 5, 6] rfl)

set_option maxHeartbeats 4000000 in
set_option maxRecDepth 100000 in
/-- the law: pass -/
theorem lc_pass {p : Program} {l : Launch} {e : Env} {s : State} {m : MethodId} {below : List Frame} {meth : Method} {c : Code} {Q : State → Prop} {b L : Nat} {xs : Nat → Int32} {G : CG} {B : Nat → Nat} {x bu pa ou i c0 s0 : Nat} {H : Heap} {locs : List Loc} {ls : Array Slot} (hst : l.stackTraces = false) (E : CallFix p m c code 7 s ([.ref b] : List Value).toArray TB RL) (hG : KT G s) (hE : EF G s s.heap) (hXs : va_X b L xs s s.heap) (hbl : b < s.heap.size) (hL : L ≤ 3072) (hZ : EFA G s.heap.size) (hp : LAp G B x bu pa ou) (hnew : ∀ q, LAO B x bu pa ou q → s.heap.size ≤ q) (hi6 : i + 6 ≤ L) (hc9 : c0 + 200 ≤ 601024) (hs9 : s0 + 4000 ≤ 7293034) (hI : LI G B x bu pa ou H) (hS : va_S (fun q9 => s.heap.size ≤ q9) s.heap H locs) (hl : lv_has ls 7 [(4, .int (nI i)), (3, .ref ou), (2, .ref (B 0)), (1, .ref x), (0, .ref b)]) (hK : ∀ (H : Heap) (locs : List Loc) (cs sl : Nat), cs ≤ c0 + 200 → sl ≤ s0 + 4000 → LI G B x bu pa ou H → va_S (fun q9 => s.heap.size ≤ q9) s.heap H locs → ∀ ls : Array Slot, lv_has ls 7 [(4, .int (nI i)), (3, .ref ou), (2, .ref (B 0)), (1, .ref x), (0, .ref b)] → W p l e room_1 s m ([.ref b] : List Value).toArray below meth c H locs cs sl Q (F0 m 2029 ls [])) : W p l e room_1 s m ([.ref b] : List Value).toArray below meth c H locs c0 s0 Q (F0 m 1946 ls []) := by
  obtain ⟨b9, u, nc, np, nh, bk, es, bf, bb, da, hi, f, t, tl, ps, er, ea, ns, ne, se, dr, sk, hb9, hu, hBy, hbb, hO, hM, hDS, f_o⟩ := hI
  have hx := E.1
  have hb := E.2.1
  have hMD := hp.1
  have hDD := hp.2.1
  obtain ⟨⟨h0, hc0⟩, ⟨h1, hp0⟩, ⟨h2, hh⟩, ⟨td, htd, h3⟩, hCr, hPr, hHo, hIj⟩ := id hO
  have hEA : ∀ q9, s.heap.size ≤ q9 → EFA G q9 := fun q9 h9 => Nat.le_trans hZ h9
  have hbA : ¬ s.heap.size ≤ b := Nat.not_le.mpr hbl
  have hAo9 : ∀ q, q = ou → s.heap.size ≤ q := fun q h => hnew q (Or.inr (Or.inr (Or.inr (Or.inl h))))
  have hAB : ∀ q, MA B q → s.heap.size ≤ q := fun q h => hnew q (Or.inr (Or.inr (Or.inr (Or.inr h))))
  have hAO := lao_lt hM hDS f_o
  have hz9 : EFA G H.size := Nat.le_trans hZ hS.1
  have hou : ou < H.size := va_at.lt f_o
  obtain ⟨z1, hz_1⟩ : ∃ z, xs (i + 1) = z := ⟨_, rfl⟩
  rcases inV01 z1 1 365 with hy0 | hy1
  · refine lv_aload_n hx hb dL_law_1946 rfl (lv_at hl 3 rfl) ?_
    refine lv_aload_n hx hb dL_law_1947 rfl (lv_at hl 4 rfl) ?_
    refine lv_iload hx hb dL_law_1948 (lv_at hl 0 rfl) ?_
    refine lv_iconst (v := 1) hx hb dL_law_1950 rfl ?_
    refine lv_iadd hx hb dL_law_1951 ?_
    refine l_sld (k := i + 1) hx hb hXs hbl hbA hS (ixq (nI_ad rfl rfl)) (by omega) hL hz_1 dL_law_1952 ?_
    refine lv_aload_n hx hb dL_law_1953 rfl (lv_at hl 1 rfl) ?_
    refine WW.callS (rest := []) (w_L_pass_t1 l G z1 (P := DS G (LAO B x bu pa ou) x bu pa bb (nI b9) es bk da nc np nh u hi) (Tr.w (c_X7_pass_x l hst G z1 hy0) (fun _ h9 => ds_dk h9))) yk_L_pass E km_L_214 dL_law_1954 hG (hE.S hS hEA) ⟨hDS, _, hDS.1⟩ rfl rfl hl.1 ⟨Nat.le_of_ble_eq_true rfl, Nat.le_of_ble_eq_true rfl⟩ ⟨show c0 + 1 ≤ 601024 by omega, show s0 + 6 ≤ 7293034 by omega⟩ (Nat.le_of_ble_eq_true rfl) hS (fun q9 h9 => h9.elim) (fun v9 H1 locs hq hz8 hfr9 hS => ?_)
    obtain rfl := hq
    have hf9 : ∀ q : Nat, q < H.size → q ≠ ou → H1[q]? = H[q]? := fun q9 h9 _ => hfr9 q9 h9 (fun w9 => w9)
    have f_o := va_at.kept f_o (hfr9 _ (va_at.lt f_o) (fun w9 => w9))
    have hM := ro_M hp hM hf9
    have hDS := ro_D hp hDS hf9
    refine lv_istore (lv' := [(5, .int 1), (4, .int (nI i)), (3, .ref ou), (2, .ref (B 0)), (1, .ref x), (0, .ref b)]) hx hb dL_law_1957 hl (by decide) rfl (fun ls hl => ?_)
    refine lv_aload_n hx hb dL_law_1959 rfl (lv_at hl 3 rfl) ?_
    refine lv_aload_n hx hb dL_law_1960 rfl (lv_at hl 5 rfl) ?_
    refine lv_iload hx hb dL_law_1961 (lv_at hl 1 rfl) ?_
    refine lv_iconst (v := 1) hx hb dL_law_1963 rfl ?_
    refine lv_iadd hx hb dL_law_1964 ?_
    refine l_sld (k := i + 1) hx hb hXs hbl hbA hS (ixq (nI_ad rfl rfl)) (by omega) hL hz_1 dL_law_1965 ?_
    refine Wr.callV (rest := []) (c_X8_pass_x l G hMD z1 hy0) yk_X8_pass E km_L_216 dL_law_1966 hG (hE.S hS hEA) hM (At.recv hG hM.1 rfl) rfl rfl hl.1 ⟨Nat.le_of_ble_eq_true rfl, Nat.le_of_ble_eq_true rfl⟩ ⟨show c0 + 1 + 0 ≤ 601024 by omega, show s0 + 6 + 0 ≤ 7293034 by omega⟩ (Nat.le_of_ble_eq_true rfl) hS hAB (fun v9 H2 locs hq hz8 hfr9 hS => ?_)
    obtain ⟨rfl, hM⟩ := hq
    have hDS := rf_D hp hDS hfr9
    have f_o := rf_o hp f_o hfr9
    refine lv_istore (lv' := [(6, .int 0), (5, .int 1), (4, .int (nI i)), (3, .ref ou), (2, .ref (B 0)), (1, .ref x), (0, .ref b)]) hx hb dL_law_1969 hl (by decide) rfl (fun ls hl => ?_)
    refine lv_aload_n hx hb dL_law_1971 rfl (lv_at hl 4 rfl) ?_
    refine Rd.callV (rest := []) (c_X8_thrown l G) yk_X8_thrown E km_L_113 dL_law_1972 hG (hE.S hS hEA) hM (At.recv hG hM.1 rfl) rfl rfl hl.1 ⟨Nat.le_of_ble_eq_true rfl, Nat.le_of_ble_eq_true rfl⟩ ⟨show c0 + 1 + 0 ≤ 601024 by omega, show s0 + 6 + 0 ≤ 7293034 by omega⟩ (Nat.le_of_ble_eq_true rfl) ?_
    refine lv_ci (y := 1) rfl ?_
    refine lv_iload hx hb dL_law_1975 (lv_at hl 1 rfl) ?_
    refine lv_icmp_eq (tgt := 1982) hx hb dL_law_1977 (by decide) (fun c_1977 => ?_) (fun c_1977 => ?_)
    rotate_left
    · exact absurd c_1977 (by decide)
    refine lv_iload hx hb dL_law_1982 (lv_at hl 1 rfl) ?_
    refine lv_if_ne (tgt := 1999) hx hb dL_law_1984 (by decide) (fun c_1984 => ?_) (fun c_1984 => ?_)
    rotate_left
    · exact absurd c_1984 (by decide)
    refine lv_goto (tgt := 2029) hx hb dL_law_1999 (by decide) ?_
    exact hK H2 locs _ _ (show c0 + 1 + 0 ≤ c0 + 200 by omega) (show s0 + 6 + 0 ≤ s0 + 4000 by omega) (li_mk hb9 hu hBy hbb hO hM hDS f_o) hS ls (lv_sub hl [2, 3, 4, 5, 6] rfl)
  · by_cases hle : da 3 + z1 ≤ 9000
    · refine lv_aload_n hx hb dL_law_1946 rfl (lv_at hl 3 rfl) ?_
      refine lv_aload_n hx hb dL_law_1947 rfl (lv_at hl 4 rfl) ?_
      refine lv_iload hx hb dL_law_1948 (lv_at hl 0 rfl) ?_
      refine lv_iconst (v := 1) hx hb dL_law_1950 rfl ?_
      refine lv_iadd hx hb dL_law_1951 ?_
      refine l_sld (k := i + 1) hx hb hXs hbl hbA hS (ixq (nI_ad rfl rfl)) (by omega) hL hz_1 dL_law_1952 ?_
      refine lv_aload_n hx hb dL_law_1953 rfl (lv_at hl 1 rfl) ?_
      refine WW.callS (rest := []) (w_L_pass l G z1 (Q := (fun r9 H9 => (r9 = passD da z1 3 ∧ ∃ k9, DS G (LAO B x bu pa ou) x bu pa bb (nI b9) es k9 (passD da z1) nc np nh (remU u) (remH hi da u) H9))) (f := f) (Wr.weak (Q' := (fun v9 H9 => ∃ r, v9 = some (.int r) ∧ (r = passD da z1 3 ∧ ∃ k9, DS G (LAO B x bu pa ou) x bu pa bb (nI b9) es k9 (passD da z1) nc np nh (remU u) (remH hi da u) H9))) (c_X7_pass l G hDD hu hO hz9 hAO z1 hy1 hle) (fun _ h9 => h9) (fun _ _ h9 => ⟨_, h9.1, rfl, h9.2⟩) (Nat.le_refl _) (Nat.le_refl _)) (dw_ou hp hou) (fun _ _ _ _ oq h9 => ⟨h9.1, h9.2.elim (fun k9 y9 => ⟨k9, ds_o hp y9 oq⟩)⟩)) yk_L_pass E km_L_214 dL_law_1954 hG (hE.S hS hEA) ⟨⟨rfl, hDS⟩, ⟨_, hDS.1⟩, f_o⟩ rfl rfl hl.1 ⟨Nat.le_of_ble_eq_true rfl, Nat.le_of_ble_eq_true rfl⟩ ⟨show c0 + 1 ≤ 601024 by omega, show s0 + 5 ≤ 7293034 by omega⟩ (Nat.le_of_ble_eq_true rfl) hS (fun q9 h9 => h9.elim (fun w9 => dw_new hnew hS.1 w9) (hAo9 q9)) (fun v9 H3 locs hq hz8 hfr9 hS => ?_)
      obtain ⟨rfl, r, hQ9, f_o⟩ := hq
      have hM := ch_M hp hM hfr9
      obtain ⟨hr9, bk9, hDS⟩ := hQ9
      refine lv_istore (lv' := [(5, .int 0), (4, .int (nI i)), (3, .ref ou), (2, .ref (B 0)), (1, .ref x), (0, .ref b)]) hx hb dL_law_1957 hl (by decide) rfl (fun ls hl => ?_)
      refine lv_aload_n hx hb dL_law_1959 rfl (lv_at hl 3 rfl) ?_
      refine lv_aload_n hx hb dL_law_1960 rfl (lv_at hl 5 rfl) ?_
      refine lv_iload hx hb dL_law_1961 (lv_at hl 1 rfl) ?_
      refine lv_iconst (v := 1) hx hb dL_law_1963 rfl ?_
      refine lv_iadd hx hb dL_law_1964 ?_
      refine l_sld (k := i + 1) hx hb hXs hbl hbA hS (ixq (nI_ad rfl rfl)) (by omega) hL hz_1 dL_law_1965 ?_
      refine Wr.callV (rest := []) (c_X8_pass l G hMD z1 hy1 hle u hu) yk_X8_pass E km_L_216 dL_law_1966 hG (hE.S hS hEA) hM (At.recv hG hM.1 rfl) rfl rfl hl.1 ⟨Nat.le_of_ble_eq_true rfl, Nat.le_of_ble_eq_true rfl⟩ ⟨show c0 + 1 + 0 ≤ 601024 by omega, show s0 + 5 + 0 ≤ 7293034 by omega⟩ (Nat.le_of_ble_eq_true rfl) hS hAB (fun v9 H4 locs hq hz8 hfr9 hS => ?_)
      obtain ⟨rfl, hM⟩ := hq
      have hDS := rf_D hp hDS hfr9
      have f_o := rf_o hp f_o hfr9
      refine lv_istore (lv' := [(6, .int (passD da z1 3)), (5, .int 0), (4, .int (nI i)), (3, .ref ou), (2, .ref (B 0)), (1, .ref x), (0, .ref b)]) hx hb dL_law_1969 hl (by decide) rfl (fun ls hl => ?_)
      refine lv_aload_n hx hb dL_law_1971 rfl (lv_at hl 4 rfl) ?_
      refine Rd.callV (rest := []) (c_X8_thrown l G) yk_X8_thrown E km_L_113 dL_law_1972 hG (hE.S hS hEA) hM (At.recv hG hM.1 rfl) rfl rfl hl.1 ⟨Nat.le_of_ble_eq_true rfl, Nat.le_of_ble_eq_true rfl⟩ ⟨show c0 + 1 + 0 ≤ 601024 by omega, show s0 + 5 + 0 ≤ 7293034 by omega⟩ (Nat.le_of_ble_eq_true rfl) ?_
      refine lv_ci (y := 0) rfl ?_
      refine lv_iload hx hb dL_law_1975 (lv_at hl 1 rfl) ?_
      refine lv_icmp_eq (tgt := 1982) hx hb dL_law_1977 (by decide) (fun c_1977 => ?_) (fun c_1977 => ?_)
      rotate_left
      · exact absurd c_1977 (by decide)
      refine lv_iload hx hb dL_law_1982 (lv_at hl 1 rfl) ?_
      refine lv_if_ne (tgt := 1999) hx hb dL_law_1984 (by decide) (fun c_1984 => ?_) (fun c_1984 => ?_)
      · exact absurd c_1984 (by decide)
      refine lv_aload_n hx hb dL_law_1987 rfl (lv_at hl 3 rfl) ?_
      refine lv_iconst (v := 0) hx hb dL_law_1988 rfl ?_
      refine g_lld 0 E hG f_o rfl (by omega) (by decide) dL_law_1989 ?_
      refine lv_iload hx hb dL_law_1990 (lv_at hl 0 rfl) ?_
      refine lv_i2l (v := (passD da z1 3).toInt64) hx hb dL_law_1992 rfl ?_
      refine W.lcmp hx hb dL_law_1993 ?_
      refine lv_if_eq (tgt := 1999) hx hb dL_law_1994 (by decide) (fun c_1994 => ?_) (fun c_1994 => ?_)
      rotate_left
      · exact absurd ((lg_cmp_eq _ _).mpr (by rw [pk_uLs]; rw [hr9])) c_1994
      refine lv_goto (tgt := 2029) hx hb dL_law_1999 (by decide) ?_
      exact hK H4 locs _ _ (show c0 + 1 + 0 ≤ c0 + 200 by omega) (show s0 + 5 + 0 ≤ s0 + 4000 by omega) (li_mk hb9 (remU_le hu) hBy hbb (pass_ok hO hy1 hle) hM hDS f_o) hS ls (lv_sub hl [2, 3, 4, 5, 6] rfl)
    · refine lv_aload_n hx hb dL_law_1946 rfl (lv_at hl 3 rfl) ?_
      refine lv_aload_n hx hb dL_law_1947 rfl (lv_at hl 4 rfl) ?_
      refine lv_iload hx hb dL_law_1948 (lv_at hl 0 rfl) ?_
      refine lv_iconst (v := 1) hx hb dL_law_1950 rfl ?_
      refine lv_iadd hx hb dL_law_1951 ?_
      refine l_sld (k := i + 1) hx hb hXs hbl hbA hS (ixq (nI_ad rfl rfl)) (by omega) hL hz_1 dL_law_1952 ?_
      refine lv_aload_n hx hb dL_law_1953 rfl (lv_at hl 1 rfl) ?_
      refine WW.callS (rest := []) (w_L_pass_t2 l G z1 (P := DS G (LAO B x bu pa ou) x bu pa bb (nI b9) es bk da nc np nh u hi) (Tr.w (c_X7_pass_y l hst G z1 hy1 hle) (fun _ h9 => ds_dk h9))) yk_L_pass E km_L_214 dL_law_1954 hG (hE.S hS hEA) ⟨hDS, _, hDS.1⟩ rfl rfl hl.1 ⟨Nat.le_of_ble_eq_true rfl, Nat.le_of_ble_eq_true rfl⟩ ⟨show c0 + 1 ≤ 601024 by omega, show s0 + 6 ≤ 7293034 by omega⟩ (Nat.le_of_ble_eq_true rfl) hS (fun q9 h9 => h9.elim) (fun v9 H5 locs hq hz8 hfr9 hS => ?_)
      obtain rfl := hq
      have hf9 : ∀ q : Nat, q < H.size → q ≠ ou → H5[q]? = H[q]? := fun q9 h9 _ => hfr9 q9 h9 (fun w9 => w9)
      have f_o := va_at.kept f_o (hfr9 _ (va_at.lt f_o) (fun w9 => w9))
      have hM := ro_M hp hM hf9
      have hDS := ro_D hp hDS hf9
      refine lv_istore (lv' := [(5, .int 2), (4, .int (nI i)), (3, .ref ou), (2, .ref (B 0)), (1, .ref x), (0, .ref b)]) hx hb dL_law_1957 hl (by decide) rfl (fun ls hl => ?_)
      refine lv_aload_n hx hb dL_law_1959 rfl (lv_at hl 3 rfl) ?_
      refine lv_aload_n hx hb dL_law_1960 rfl (lv_at hl 5 rfl) ?_
      refine lv_iload hx hb dL_law_1961 (lv_at hl 1 rfl) ?_
      refine lv_iconst (v := 1) hx hb dL_law_1963 rfl ?_
      refine lv_iadd hx hb dL_law_1964 ?_
      refine l_sld (k := i + 1) hx hb hXs hbl hbA hS (ixq (nI_ad rfl rfl)) (by omega) hL hz_1 dL_law_1965 ?_
      refine Wr.callV (rest := []) (c_X8_pass_y l G hMD z1 hy1 hle) yk_X8_pass E km_L_216 dL_law_1966 hG (hE.S hS hEA) hM (At.recv hG hM.1 rfl) rfl rfl hl.1 ⟨Nat.le_of_ble_eq_true rfl, Nat.le_of_ble_eq_true rfl⟩ ⟨show c0 + 1 + 0 ≤ 601024 by omega, show s0 + 6 + 0 ≤ 7293034 by omega⟩ (Nat.le_of_ble_eq_true rfl) hS hAB (fun v9 H6 locs hq hz8 hfr9 hS => ?_)
      obtain ⟨rfl, hM⟩ := hq
      have hDS := rf_D hp hDS hfr9
      have f_o := rf_o hp f_o hfr9
      refine lv_istore (lv' := [(6, .int 0), (5, .int 2), (4, .int (nI i)), (3, .ref ou), (2, .ref (B 0)), (1, .ref x), (0, .ref b)]) hx hb dL_law_1969 hl (by decide) rfl (fun ls hl => ?_)
      refine lv_aload_n hx hb dL_law_1971 rfl (lv_at hl 4 rfl) ?_
      refine Rd.callV (rest := []) (c_X8_thrown l G) yk_X8_thrown E km_L_113 dL_law_1972 hG (hE.S hS hEA) hM (At.recv hG hM.1 rfl) rfl rfl hl.1 ⟨Nat.le_of_ble_eq_true rfl, Nat.le_of_ble_eq_true rfl⟩ ⟨show c0 + 1 + 0 ≤ 601024 by omega, show s0 + 6 + 0 ≤ 7293034 by omega⟩ (Nat.le_of_ble_eq_true rfl) ?_
      refine lv_ci (y := 2) rfl ?_
      refine lv_iload hx hb dL_law_1975 (lv_at hl 1 rfl) ?_
      refine lv_icmp_eq (tgt := 1982) hx hb dL_law_1977 (by decide) (fun c_1977 => ?_) (fun c_1977 => ?_)
      rotate_left
      · exact absurd c_1977 (by decide)
      refine lv_iload hx hb dL_law_1982 (lv_at hl 1 rfl) ?_
      refine lv_if_ne (tgt := 1999) hx hb dL_law_1984 (by decide) (fun c_1984 => ?_) (fun c_1984 => ?_)
      rotate_left
      · exact absurd c_1984 (by decide)
      refine lv_goto (tgt := 2029) hx hb dL_law_1999 (by decide) ?_
      exact hK H6 locs _ _ (show c0 + 1 + 0 ≤ c0 + 200 by omega) (show s0 + 6 + 0 ≤ s0 + 4000 by omega) (li_mk hb9 hu hBy hbb hO hM hDS f_o) hS ls (lv_sub hl [2, 3, 4, 5, 6] rfl)

set_option maxHeartbeats 4000000 in
set_option maxRecDepth 100000 in
/-- the law: undo -/
theorem lc_undo {p : Program} {l : Launch} {e : Env} {s : State} {m : MethodId} {below : List Frame} {meth : Method} {c : Code} {Q : State → Prop} {b L : Nat} {xs : Nat → Int32} {G : CG} {B : Nat → Nat} {x bu pa ou i c0 s0 : Nat} {H : Heap} {locs : List Loc} {ls : Array Slot} (hst : l.stackTraces = false) (E : CallFix p m c code 7 s ([.ref b] : List Value).toArray TB RL) (hG : KT G s) (hE : EF G s s.heap) (hXs : va_X b L xs s s.heap) (hbl : b < s.heap.size) (hL : L ≤ 3072) (hZ : EFA G s.heap.size) (hp : LAp G B x bu pa ou) (hnew : ∀ q, LAO B x bu pa ou q → s.heap.size ≤ q) (hi6 : i + 6 ≤ L) (hc9 : c0 + 200 ≤ 601024) (hs9 : s0 + 4000 ≤ 7293034) (hI : LI G B x bu pa ou H) (hS : va_S (fun q9 => s.heap.size ≤ q9) s.heap H locs) (hl : lv_has ls 7 [(4, .int (nI i)), (3, .ref ou), (2, .ref (B 0)), (1, .ref x), (0, .ref b)]) (hK : ∀ (H : Heap) (locs : List Loc) (cs sl : Nat), cs ≤ c0 + 200 → sl ≤ s0 + 4000 → LI G B x bu pa ou H → va_S (fun q9 => s.heap.size ≤ q9) s.heap H locs → ∀ ls : Array Slot, lv_has ls 7 [(4, .int (nI i)), (3, .ref ou), (2, .ref (B 0)), (1, .ref x), (0, .ref b)] → W p l e room_1 s m ([.ref b] : List Value).toArray below meth c H locs cs sl Q (F0 m 2029 ls [])) : W p l e room_1 s m ([.ref b] : List Value).toArray below meth c H locs c0 s0 Q (F0 m 2002 ls []) := by
  obtain ⟨b9, u, nc, np, nh, bk, es, bf, bb, da, hi, f, t, tl, ps, er, ea, ns, ne, se, dr, sk, hb9, hu, hBy, hbb, hO, hM, hDS, f_o⟩ := hI
  have hx := E.1
  have hb := E.2.1
  have hMD := hp.1
  have hDD := hp.2.1
  obtain ⟨⟨h0, hc0⟩, ⟨h1, hp0⟩, ⟨h2, hh⟩, ⟨td, htd, h3⟩, hCr, hPr, hHo, hIj⟩ := id hO
  have hEA : ∀ q9, s.heap.size ≤ q9 → EFA G q9 := fun q9 h9 => Nat.le_trans hZ h9
  have hbA : ¬ s.heap.size ≤ b := Nat.not_le.mpr hbl
  have hAo9 : ∀ q, q = ou → s.heap.size ≤ q := fun q h => hnew q (Or.inr (Or.inr (Or.inr (Or.inl h))))
  have hAB : ∀ q, MA B q → s.heap.size ≤ q := fun q h => hnew q (Or.inr (Or.inr (Or.inr (Or.inr h))))
  have hAO := lao_lt hM hDS f_o
  have hz9 : EFA G H.size := Nat.le_trans hZ hS.1
  have hou : ou < H.size := va_at.lt f_o
  rcases (show u = 0 ∨ ∃ k, u = k + 1 from by cases u with | zero => exact Or.inl rfl | succ k => exact Or.inr ⟨k, rfl⟩) with rfl | ⟨u1, rfl⟩
  · refine lv_aload_n hx hb dL_law_2002 rfl (lv_at hl 3 rfl) ?_
    refine Wr.callV (rest := []) (c_X7_undo_0 (u := 0) l G hDD) yk_X7_undo E km_L_217 dL_law_2003 hG (hE.S hS hEA) hDS (At.recv hG hDS.1 rfl) rfl rfl hl.1 ⟨Nat.le_of_ble_eq_true rfl, Nat.le_of_ble_eq_true rfl⟩ ⟨show c0 + 0 ≤ 601024 by omega, show s0 + 0 ≤ 7293034 by omega⟩ (Nat.le_of_ble_eq_true rfl) hS (fun q9 h9 => dw_new (sz := H.size) hnew hS.1 (h9.elim Or.inl (fun y9 => Or.inr (Or.inr (Or.inl y9))))) (fun v9 H1 locs hq hz8 hfr9 hS => ?_)
    obtain ⟨rfl, hDS⟩ := hq
    have hM := ch_M hp hM (fun q9 h9 h8 => hfr9 q9 h9 (fun z9 => h8 (Or.inl (z9.elim Or.inl (fun y9 => Or.inr (Or.inr (Or.inl y9)))))))
    have f_o := va_at.kept f_o (hfr9 _ (va_at.lt f_o) (fun z9 => z9.elim hp.2.2.1.1 hp.2.2.1.2.2))
    refine lv_aload_n hx hb dL_law_2006 rfl (lv_at hl 2 rfl) ?_
    refine Wr.callV (rest := [.int (-1)]) (c_X8_undo_0 l G hMD) yk_X8_undo E km_L_220 dL_law_2007 hG (hE.S hS hEA) hM (At.recv hG hM.1 rfl) rfl rfl hl.1 ⟨Nat.le_of_ble_eq_true rfl, Nat.le_of_ble_eq_true rfl⟩ ⟨show c0 + 0 + 0 ≤ 601024 by omega, show s0 + 0 + 0 ≤ 7293034 by omega⟩ (Nat.le_of_ble_eq_true rfl) hS hAB (fun v9 H2 locs hq hz8 hfr9 hS => ?_)
    obtain ⟨rfl, hM⟩ := hq
    have hDS := rf_D hp hDS hfr9
    have f_o := rf_o hp f_o hfr9
    refine lv_icmp_eq (tgt := 2029) hx hb dL_law_2010 (by decide) (fun c_2010 => ?_) (fun c_2010 => ?_)
    rotate_left
    · exact absurd rfl c_2010
    exact hK H2 locs _ _ (show c0 + 0 + 0 ≤ c0 + 200 by omega) (show s0 + 0 + 0 ≤ s0 + 4000 by omega) (li_mk hb9 (Nat.zero_le 8) hBy hbb hO hM hDS f_o) hS ls (lv_sub hl [0, 1, 2, 3, 4] rfl)
  · refine lv_aload_n hx hb dL_law_2002 rfl (lv_at hl 3 rfl) ?_
    refine Wr.callV (rest := []) (c_X7_undo l G hDD (by omega)) yk_X7_undo E km_L_217 dL_law_2003 hG (hE.S hS hEA) hDS (At.recv hG hDS.1 rfl) rfl rfl hl.1 ⟨Nat.le_of_ble_eq_true rfl, Nat.le_of_ble_eq_true rfl⟩ ⟨show c0 + 0 ≤ 601024 by omega, show s0 + 0 ≤ 7293034 by omega⟩ (Nat.le_of_ble_eq_true rfl) hS (fun q9 h9 => dw_new (sz := H.size) hnew hS.1 (h9.elim Or.inl (fun y9 => Or.inr (Or.inr (Or.inl y9))))) (fun v9 H3 locs hq hz8 hfr9 hS => ?_)
    obtain ⟨rfl, k9, nc9, np9, nh9, hO9, hDS⟩ := hq
    have hM := ch_M hp hM (fun q9 h9 h8 => hfr9 q9 h9 (fun z9 => h8 (Or.inl (z9.elim Or.inl (fun y9 => Or.inr (Or.inr (Or.inl y9)))))))
    have f_o := va_at.kept f_o (hfr9 _ (va_at.lt f_o) (fun z9 => z9.elim hp.2.2.1.1 hp.2.2.1.2.2))
    refine lv_aload_n hx hb dL_law_2006 rfl (lv_at hl 2 rfl) ?_
    refine Wr.callV (rest := [.int (nI u1)]) (c_X8_undo l G hMD u1 (by omega)) yk_X8_undo E km_L_220 dL_law_2007 hG (hE.S hS hEA) hM (At.recv hG hM.1 rfl) rfl rfl hl.1 ⟨Nat.le_of_ble_eq_true rfl, Nat.le_of_ble_eq_true rfl⟩ ⟨show c0 + 0 + 0 ≤ 601024 by omega, show s0 + 0 + 0 ≤ 7293034 by omega⟩ (Nat.le_of_ble_eq_true rfl) hS hAB (fun v9 H4 locs hq hz8 hfr9 hS => ?_)
    obtain ⟨rfl, hM⟩ := hq
    have hDS := rf_D hp hDS hfr9
    have f_o := rf_o hp f_o hfr9
    refine lv_icmp_eq (tgt := 2029) hx hb dL_law_2010 (by decide) (fun c_2010 => ?_) (fun c_2010 => ?_)
    rotate_left
    · exact absurd rfl c_2010
    exact hK H4 locs _ _ (show c0 + 0 + 0 ≤ c0 + 200 by omega) (show s0 + 0 + 0 ≤ s0 + 4000 by omega) (li_mk hb9 (show u1 ≤ 8 by omega) hBy hbb hO9 hM hDS f_o) hS ls (lv_sub hl [0, 1, 2, 3, 4] rfl)

set_option maxHeartbeats 4000000 in
set_option maxRecDepth 100000 in
/-- the law: load -/
theorem lc_load {p : Program} {l : Launch} {e : Env} {s : State} {m : MethodId} {below : List Frame} {meth : Method} {c : Code} {Q : State → Prop} {b L : Nat} {xs : Nat → Int32} {G : CG} {B : Nat → Nat} {x bu pa ou i c0 s0 : Nat} {H : Heap} {locs : List Loc} {ls : Array Slot} (hst : l.stackTraces = false) (E : CallFix p m c code 7 s ([.ref b] : List Value).toArray TB RL) (hG : KT G s) (hE : EF G s s.heap) (hXs : va_X b L xs s s.heap) (hbl : b < s.heap.size) (hL : L ≤ 3072) (hZ : EFA G s.heap.size) (hp : LAp G B x bu pa ou) (hnew : ∀ q, LAO B x bu pa ou q → s.heap.size ≤ q) (hi6 : i + 6 ≤ L) (hc9 : c0 + 200 ≤ 601024) (hs9 : s0 + 4000 ≤ 7293034) (hI : LI G B x bu pa ou H) (hS : va_S (fun q9 => s.heap.size ≤ q9) s.heap H locs) (hl : lv_has ls 7 [(4, .int (nI i)), (3, .ref ou), (2, .ref (B 0)), (1, .ref x), (0, .ref b)]) (hK : ∀ (H : Heap) (locs : List Loc) (cs sl : Nat), cs ≤ c0 + 200 → sl ≤ s0 + 4000 → LI G B x bu pa ou H → va_S (fun q9 => s.heap.size ≤ q9) s.heap H locs → ∀ ls : Array Slot, lv_has ls 7 [(4, .int (nI i)), (3, .ref ou), (2, .ref (B 0)), (1, .ref x), (0, .ref b)] → W p l e room_1 s m ([.ref b] : List Value).toArray below meth c H locs cs sl Q (F0 m 2029 ls [])) : W p l e room_1 s m ([.ref b] : List Value).toArray below meth c H locs c0 s0 Q (F0 m 265 ls []) := by
  obtain ⟨b9, u, nc, np, nh, bk, es, bf, bb, da, hi, f, t, tl, ps, er, ea, ns, ne, se, dr, sk, hb9, hu, hBy, hbb, hO, hM, hDS, f_o⟩ := hI
  have hx := E.1
  have hb := E.2.1
  have hMD := hp.1
  have hDD := hp.2.1
  obtain ⟨⟨h0, hc0⟩, ⟨h1, hp0⟩, ⟨h2, hh⟩, ⟨td, htd, h3⟩, hCr, hPr, hHo, hIj⟩ := id hO
  have hEA : ∀ q9, s.heap.size ≤ q9 → EFA G q9 := fun q9 h9 => Nat.le_trans hZ h9
  have hbA : ¬ s.heap.size ≤ b := Nat.not_le.mpr hbl
  have hAo9 : ∀ q, q = ou → s.heap.size ≤ q := fun q h => hnew q (Or.inr (Or.inr (Or.inr (Or.inl h))))
  have hAB : ∀ q, MA B q → s.heap.size ≤ q := fun q h => hnew q (Or.inr (Or.inr (Or.inr (Or.inr h))))
  have hAO := lao_lt hM hDS f_o
  have hz9 : EFA G H.size := Nat.le_trans hZ hS.1
  have hou : ou < H.size := va_at.lt f_o
  obtain ⟨z1, hz_1⟩ : ∃ z, xs (i + 1) = z := ⟨_, rfl⟩
  rcases inV01 z1 0 (nI b9) with hy0 | hy1
  · refine lv_aload_n hx hb dL_law_265 rfl (lv_at hl 3 rfl) ?_
    refine lv_aload_n hx hb dL_law_266 rfl (lv_at hl 4 rfl) ?_
    refine lv_iload hx hb dL_law_267 (lv_at hl 0 rfl) ?_
    refine lv_iconst (v := 1) hx hb dL_law_269 rfl ?_
    refine lv_iadd hx hb dL_law_270 ?_
    refine l_sld (k := i + 1) hx hb hXs hbl hbA hS (ixq (nI_ad rfl rfl)) (by omega) hL hz_1 dL_law_271 ?_
    refine lv_aload_n hx hb dL_law_272 rfl (lv_at hl 1 rfl) ?_
    refine WW.callS (rest := []) (w_L_load_t1 l G z1 (P := DS G (LAO B x bu pa ou) x bu pa bb (nI b9) es bk da nc np nh u hi) (Tr.w (c_X7_load_x l hst G z1 hy0) (fun _ h9 => ds_dk h9))) yk_L_load E km_L_107 dL_law_273 hG (hE.S hS hEA) ⟨hDS, _, hDS.1⟩ rfl rfl hl.1 ⟨Nat.le_of_ble_eq_true rfl, Nat.le_of_ble_eq_true rfl⟩ ⟨show c0 + 1 ≤ 601024 by omega, show s0 + 6 ≤ 7293034 by omega⟩ (Nat.le_of_ble_eq_true rfl) hS (fun q9 h9 => h9.elim) (fun v9 H1 locs hq hz8 hfr9 hS => ?_)
    obtain rfl := hq
    have hf9 : ∀ q : Nat, q < H.size → q ≠ ou → H1[q]? = H[q]? := fun q9 h9 _ => hfr9 q9 h9 (fun w9 => w9)
    have f_o := va_at.kept f_o (hfr9 _ (va_at.lt f_o) (fun w9 => w9))
    have hM := ro_M hp hM hf9
    have hDS := ro_D hp hDS hf9
    refine lv_istore (lv' := [(5, .int 1), (4, .int (nI i)), (3, .ref ou), (2, .ref (B 0)), (1, .ref x), (0, .ref b)]) hx hb dL_law_276 hl (by decide) rfl (fun ls hl => ?_)
    refine lv_aload_n hx hb dL_law_278 rfl (lv_at hl 3 rfl) ?_
    refine lv_aload_n hx hb dL_law_279 rfl (lv_at hl 5 rfl) ?_
    refine lv_iload hx hb dL_law_280 (lv_at hl 1 rfl) ?_
    refine lv_iconst (v := 1) hx hb dL_law_282 rfl ?_
    refine lv_iadd hx hb dL_law_283 ?_
    refine l_sld (k := i + 1) hx hb hXs hbl hbA hS (ixq (nI_ad rfl rfl)) (by omega) hL hz_1 dL_law_284 ?_
    refine Wr.callV (rest := []) (c_X8_load_x l G hMD z1 hy0) yk_X8_load E km_L_112 dL_law_285 hG (hE.S hS hEA) hM (At.recv hG hM.1 rfl) rfl rfl hl.1 ⟨Nat.le_of_ble_eq_true rfl, Nat.le_of_ble_eq_true rfl⟩ ⟨show c0 + 1 + 0 ≤ 601024 by omega, show s0 + 6 + 0 ≤ 7293034 by omega⟩ (Nat.le_of_ble_eq_true rfl) hS hAB (fun v9 H2 locs hq hz8 hfr9 hS => ?_)
    obtain ⟨rfl, hM⟩ := hq
    have hDS := rf_D hp hDS hfr9
    have f_o := rf_o hp f_o hfr9
    refine lv_istore (lv' := [(6, .int 0), (5, .int 1), (4, .int (nI i)), (3, .ref ou), (2, .ref (B 0)), (1, .ref x), (0, .ref b)]) hx hb dL_law_288 hl (by decide) rfl (fun ls hl => ?_)
    refine lv_aload_n hx hb dL_law_290 rfl (lv_at hl 4 rfl) ?_
    refine Rd.callV (rest := []) (c_X8_thrown l G) yk_X8_thrown E km_L_113 dL_law_291 hG (hE.S hS hEA) hM (At.recv hG hM.1 rfl) rfl rfl hl.1 ⟨Nat.le_of_ble_eq_true rfl, Nat.le_of_ble_eq_true rfl⟩ ⟨show c0 + 1 + 0 ≤ 601024 by omega, show s0 + 6 + 0 ≤ 7293034 by omega⟩ (Nat.le_of_ble_eq_true rfl) ?_
    refine lv_ci (y := 1) rfl ?_
    refine lv_iload hx hb dL_law_294 (lv_at hl 1 rfl) ?_
    refine lv_icmp_eq (tgt := 301) hx hb dL_law_296 (by decide) (fun c_296 => ?_) (fun c_296 => ?_)
    rotate_left
    · exact absurd c_296 (by decide)
    refine lv_iload hx hb dL_law_301 (lv_at hl 1 rfl) ?_
    refine lv_if_ne (tgt := 318) hx hb dL_law_303 (by decide) (fun c_303 => ?_) (fun c_303 => ?_)
    rotate_left
    · exact absurd c_303 (by decide)
    refine lv_goto (tgt := 2029) hx hb dL_law_318 (by decide) ?_
    exact hK H2 locs _ _ (show c0 + 1 + 0 ≤ c0 + 200 by omega) (show s0 + 6 + 0 ≤ s0 + 4000 by omega) (li_mk hb9 hu hBy hbb hO hM hDS f_o) hS ls (lv_sub hl [2, 3, 4, 5, 6] rfl)
  · obtain ⟨n, hn9, ez⟩ := in_of (n := b9) (by omega) hy1
    refine lv_aload_n hx hb dL_law_265 rfl (lv_at hl 3 rfl) ?_
    refine lv_aload_n hx hb dL_law_266 rfl (lv_at hl 4 rfl) ?_
    refine lv_iload hx hb dL_law_267 (lv_at hl 0 rfl) ?_
    refine lv_iconst (v := 1) hx hb dL_law_269 rfl ?_
    refine lv_iadd hx hb dL_law_270 ?_
    refine l_sld (k := i + 1) hx hb hXs hbl hbA hS (ixq (nI_ad rfl rfl)) (by omega) hL hz_1 dL_law_271 ?_
    refine lv_aload_n hx hb dL_law_272 rfl (lv_at hl 1 rfl) ?_
    refine WW.callS (rest := []) (w_L_load l G z1 (Q := (fun r9 H9 => (∃ o9, ldF bf n = .error (r9, o9) ∧ DS G (LAO B x bu pa ou) x bu pa bb 0 (nI o9) bk da nc np nh u hi H9) ∨ (∃ s9 y9, ldF bf n = .ok (s9, y9) ∧ r9 = nI y9.2.1 ∧ ∃ k9, DS G (LAO B x bu pa ou) x bu pa bb 0 (-1) k9 y9.1 y9.2.1 0 y9.2.2 (remU u) (remH hi da u) H9))) (f := f) (Wr.weak (Q' := (fun v9 H9 => ∃ r, v9 = some (.int r) ∧ ((∃ o9, ldF bf n = .error (r, o9) ∧ DS G (LAO B x bu pa ou) x bu pa bb 0 (nI o9) bk da nc np nh u hi H9) ∨ (∃ s9 y9, ldF bf n = .ok (s9, y9) ∧ r = nI y9.2.1 ∧ ∃ k9, DS G (LAO B x bu pa ou) x bu pa bb 0 (-1) k9 y9.1 y9.2.1 0 y9.2.2 (remU u) (remH hi da u) H9)))) (c_X7_load l G hDD hu hO hz9 hAO hBy n b9 hbb hn9 hb9 z1 ez) (fun _ h9 => h9) (fun _ _ h9 => h9.elim (fun ⟨c9, o9, w1, w2, w3⟩ => ⟨c9, w2, Or.inl ⟨o9, w1, w3⟩⟩) (fun ⟨s9, y9, w1, w2, w3⟩ => ⟨_, w2, Or.inr ⟨s9, y9, w1, rfl, w3⟩⟩)) (Nat.le_refl _) (Nat.le_refl _)) (dw_ou hp hou) (fun _ _ _ _ oq h9 => h9.elim (fun ⟨o9, w1, w2⟩ => Or.inl ⟨o9, w1, ds_o hp w2 oq⟩) (fun ⟨s9, y9, w1, w2, k9, w3⟩ => Or.inr ⟨s9, y9, w1, w2, k9, ds_o hp w3 oq⟩))) yk_L_load E km_L_107 dL_law_273 hG (hE.S hS hEA) ⟨⟨rfl, hDS⟩, ⟨_, hDS.1⟩, f_o⟩ rfl rfl hl.1 ⟨Nat.le_of_ble_eq_true rfl, Nat.le_of_ble_eq_true rfl⟩ ⟨show c0 + 109 ≤ 601024 by omega, show s0 + 3520 ≤ 7293034 by omega⟩ (Nat.le_of_ble_eq_true rfl) hS (fun q9 h9 => h9.elim (fun w9 => dw_new hnew hS.1 w9) (hAo9 q9)) (fun v9 H3 locs hq hz8 hfr9 hS => ?_)
    obtain ⟨rfl, r, hQ9, f_o⟩ := hq
    have hM := ch_M hp hM hfr9
    rcases hQ9 with ⟨o9, hld, hDS⟩ | ⟨s9, y9, hld, hr9, bk9, hDS⟩
    · refine lv_istore (lv' := [(5, .int 0), (4, .int (nI i)), (3, .ref ou), (2, .ref (B 0)), (1, .ref x), (0, .ref b)]) hx hb dL_law_276 hl (by decide) rfl (fun ls hl => ?_)
      refine lv_aload_n hx hb dL_law_278 rfl (lv_at hl 3 rfl) ?_
      refine lv_aload_n hx hb dL_law_279 rfl (lv_at hl 5 rfl) ?_
      refine lv_iload hx hb dL_law_280 (lv_at hl 1 rfl) ?_
      refine lv_iconst (v := 1) hx hb dL_law_282 rfl ?_
      refine lv_iadd hx hb dL_law_283 ?_
      refine l_sld (k := i + 1) hx hb hXs hbl hbA hS (ixq (nI_ad rfl rfl)) (by omega) hL hz_1 dL_law_284 ?_
      refine Wr.callV (rest := []) (c_X8_load l G hMD n b9 hBy hn9 hb9 u hu z1 ez) yk_X8_load E km_L_112 dL_law_285 hG (hE.S hS hEA) hM (At.recv hG hM.1 rfl) rfl rfl hl.1 ⟨Nat.le_of_ble_eq_true rfl, Nat.le_of_ble_eq_true rfl⟩ ⟨show c0 + 109 + 0 ≤ 601024 by omega, show s0 + 3520 + 0 ≤ 7293034 by omega⟩ (Nat.le_of_ble_eq_true rfl) hS hAB (fun v9 H4 locs hq hz8 hfr9 hS => ?_)
      have hq : ∃ ps er ea ns ne se dr1, v9 = some (.int r) ∧ MW G B (fm 0 0 (nI n) ps er ea (nI o9) (nI u) ns ne se) bf da dr1 hi sk H4 := by
        rcases hq with ⟨c8, o8, w1, w2, w3, w4, ps, er, ea, ns, ne, se, dr1, w5⟩ | ⟨s8, y8, w1, w2, w3, w4⟩
        · rw [hld] at w1; cases w1; exact ⟨ps, er, ea, ns, ne, se, dr1, w4, w5⟩
        · rw [hld] at w1; cases w1
      obtain ⟨ps, er, ea, ns, ne, se, dr, rfl, hM⟩ := hq
      have hDS := rf_D hp hDS hfr9
      have f_o := rf_o hp f_o hfr9
      refine lv_istore (lv' := [(6, .int r), (5, .int 0), (4, .int (nI i)), (3, .ref ou), (2, .ref (B 0)), (1, .ref x), (0, .ref b)]) hx hb dL_law_288 hl (by decide) rfl (fun ls hl => ?_)
      refine lv_aload_n hx hb dL_law_290 rfl (lv_at hl 4 rfl) ?_
      refine Rd.callV (rest := []) (c_X8_thrown l G) yk_X8_thrown E km_L_113 dL_law_291 hG (hE.S hS hEA) hM (At.recv hG hM.1 rfl) rfl rfl hl.1 ⟨Nat.le_of_ble_eq_true rfl, Nat.le_of_ble_eq_true rfl⟩ ⟨show c0 + 109 + 0 ≤ 601024 by omega, show s0 + 3520 + 0 ≤ 7293034 by omega⟩ (Nat.le_of_ble_eq_true rfl) ?_
      refine lv_ci (y := 0) rfl ?_
      refine lv_iload hx hb dL_law_294 (lv_at hl 1 rfl) ?_
      refine lv_icmp_eq (tgt := 301) hx hb dL_law_296 (by decide) (fun c_296 => ?_) (fun c_296 => ?_)
      rotate_left
      · exact absurd c_296 (by decide)
      refine lv_iload hx hb dL_law_301 (lv_at hl 1 rfl) ?_
      refine lv_if_ne (tgt := 318) hx hb dL_law_303 (by decide) (fun c_303 => ?_) (fun c_303 => ?_)
      · exact absurd c_303 (by decide)
      refine lv_aload_n hx hb dL_law_306 rfl (lv_at hl 3 rfl) ?_
      refine lv_iconst (v := 0) hx hb dL_law_307 rfl ?_
      refine g_lld 0 E hG f_o rfl (by omega) (by decide) dL_law_308 ?_
      refine lv_iload hx hb dL_law_309 (lv_at hl 0 rfl) ?_
      refine lv_i2l (v := r.toInt64) hx hb dL_law_311 rfl ?_
      refine W.lcmp hx hb dL_law_312 ?_
      refine lv_if_eq (tgt := 318) hx hb dL_law_313 (by decide) (fun c_313 => ?_) (fun c_313 => ?_)
      rotate_left
      · exact absurd ((lg_cmp_eq _ _).mpr (by rw [pk_uLs]; skip)) c_313
      refine lv_goto (tgt := 2029) hx hb dL_law_318 (by decide) ?_
      exact hK H4 locs _ _ (show c0 + 109 + 0 ≤ c0 + 200 by omega) (show s0 + 3520 + 0 ≤ s0 + 4000 by omega) (li_mk (Nat.zero_le 900) hu hBy hbb hO hM hDS f_o) hS ls (lv_sub hl [2, 3, 4, 5, 6] rfl)
    · refine lv_istore (lv' := [(5, .int 0), (4, .int (nI i)), (3, .ref ou), (2, .ref (B 0)), (1, .ref x), (0, .ref b)]) hx hb dL_law_276 hl (by decide) rfl (fun ls hl => ?_)
      refine lv_aload_n hx hb dL_law_278 rfl (lv_at hl 3 rfl) ?_
      refine lv_aload_n hx hb dL_law_279 rfl (lv_at hl 5 rfl) ?_
      refine lv_iload hx hb dL_law_280 (lv_at hl 1 rfl) ?_
      refine lv_iconst (v := 1) hx hb dL_law_282 rfl ?_
      refine lv_iadd hx hb dL_law_283 ?_
      refine l_sld (k := i + 1) hx hb hXs hbl hbA hS (ixq (nI_ad rfl rfl)) (by omega) hL hz_1 dL_law_284 ?_
      refine Wr.callV (rest := []) (c_X8_load l G hMD n b9 hBy hn9 hb9 u hu z1 ez) yk_X8_load E km_L_112 dL_law_285 hG (hE.S hS hEA) hM (At.recv hG hM.1 rfl) rfl rfl hl.1 ⟨Nat.le_of_ble_eq_true rfl, Nat.le_of_ble_eq_true rfl⟩ ⟨show c0 + 109 + 0 ≤ 601024 by omega, show s0 + 3520 + 0 ≤ 7293034 by omega⟩ (Nat.le_of_ble_eq_true rfl) hS hAB (fun v9 H5 locs hq hz8 hfr9 hS => ?_)
      have hq : ∃ ps er ea ns ne se dr1, v9 = some (.int (y9.1 0)) ∧ LD y9 ∧ MW G B (fm 0 0 (nI n) ps er ea (-1) (nI (remU u)) ns ne se) bf y9.1 dr1 (remH hi da u) sk H5 := by
        rcases hq with ⟨c8, o8, w1, w2, w3, w4, w5⟩ | ⟨s8, y8, w1, w2, w3, ps, er, ea, ns, ne, se, dr1, w5⟩
        · rw [hld] at w1; cases w1
        · rw [hld] at w1; cases w1; exact ⟨ps, er, ea, ns, ne, se, dr1, w3, w2, w5⟩
      obtain ⟨ps, er, ea, ns, ne, se, dr, rfl, hLD, hM⟩ := hq
      have hDS := rf_D hp hDS hfr9
      have f_o := rf_o hp f_o hfr9
      refine lv_istore (lv' := [(6, .int (y9.1 0)), (5, .int 0), (4, .int (nI i)), (3, .ref ou), (2, .ref (B 0)), (1, .ref x), (0, .ref b)]) hx hb dL_law_288 hl (by decide) rfl (fun ls hl => ?_)
      refine lv_aload_n hx hb dL_law_290 rfl (lv_at hl 4 rfl) ?_
      refine Rd.callV (rest := []) (c_X8_thrown l G) yk_X8_thrown E km_L_113 dL_law_291 hG (hE.S hS hEA) hM (At.recv hG hM.1 rfl) rfl rfl hl.1 ⟨Nat.le_of_ble_eq_true rfl, Nat.le_of_ble_eq_true rfl⟩ ⟨show c0 + 109 + 0 ≤ 601024 by omega, show s0 + 3520 + 0 ≤ 7293034 by omega⟩ (Nat.le_of_ble_eq_true rfl) ?_
      refine lv_ci (y := 0) rfl ?_
      refine lv_iload hx hb dL_law_294 (lv_at hl 1 rfl) ?_
      refine lv_icmp_eq (tgt := 301) hx hb dL_law_296 (by decide) (fun c_296 => ?_) (fun c_296 => ?_)
      rotate_left
      · exact absurd c_296 (by decide)
      refine lv_iload hx hb dL_law_301 (lv_at hl 1 rfl) ?_
      refine lv_if_ne (tgt := 318) hx hb dL_law_303 (by decide) (fun c_303 => ?_) (fun c_303 => ?_)
      · exact absurd c_303 (by decide)
      refine lv_aload_n hx hb dL_law_306 rfl (lv_at hl 3 rfl) ?_
      refine lv_iconst (v := 0) hx hb dL_law_307 rfl ?_
      refine g_lld 0 E hG f_o rfl (by omega) (by decide) dL_law_308 ?_
      refine lv_iload hx hb dL_law_309 (lv_at hl 0 rfl) ?_
      refine lv_i2l (v := (y9.1 0).toInt64) hx hb dL_law_311 rfl ?_
      refine W.lcmp hx hb dL_law_312 ?_
      refine lv_if_eq (tgt := 318) hx hb dL_law_313 (by decide) (fun c_313 => ?_) (fun c_313 => ?_)
      rotate_left
      · exact absurd ((lg_cmp_eq _ _).mpr (by rw [pk_uLs]; rw [hr9, hLD.c0.1])) c_313
      refine lv_goto (tgt := 2029) hx hb dL_law_318 (by decide) ?_
      exact hK H5 locs _ _ (show c0 + 109 + 0 ≤ c0 + 200 by omega) (show s0 + 3520 + 0 ≤ s0 + 4000 by omega) (li_mk (Nat.zero_le 900) (remU_le hu) hBy hbb hLD.1 hM hDS f_o) hS ls (lv_sub hl [2, 3, 4, 5, 6] rfl)
