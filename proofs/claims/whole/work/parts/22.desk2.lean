/-! THE CLASS: presentations and credits changed -/
set_option maxHeartbeats 4000000 in
set_option maxRecDepth 100000 in
/-- present -/
theorem c_X7_present_z (l : Launch) (hst : l.stackTraces = false) (G : CG) {x bu bk pa : Nat} {bl es pn : Int32} {A : Nat → Prop} {d : Nat → Int32} {nc np nh : Nat} (z : Int32) (k : Nat) (ez : z = nI k) (hk9 : k < nc) (hc0 : nc ≤ 12) (y am dc ins : Int32) (hw9 : isWrongV y am dc ins = 0) (hf9 : np = 24) : Tr l yX7_present cX7_present 9 ((Option.some FieldType.int)) 8 135 G [.ref x, .int z, .int y, .int am, .int dc, .int ins] (DK G A x bu bl es bk pa pn d nc np nh) "java/lang/IllegalStateException" := by
  refine Tr.ofW (by decide) (Nat.le_of_ble_eq_true rfl) (fun p e s m below meth c ls E hG hE hP htab hk hl => ?_)
  have hx := E.1
  have hb := E.2.1
  have hl : lv_has ls 9 [(0, .ref x), (1, .int z), (2, .int y), (3, .int am), (4, .int dc), (5, .int ins)] := hl
  obtain ⟨hX, hB⟩ := hP
  obtain ⟨ca, ho, fe, cr, pr, cA, pA, k1, k2, k3, k4, k5, k6, k7, k8⟩ := id hB
  refine lv_aload_n hx hb dX7_present_0 rfl (lv_at hl 0 rfl) ?_
  refine lv_iload_n hx hb dX7_present_1 rfl (lv_at hl 1 rfl) ?_
  refine Rd.callV (rest := []) (c_X7_creditAt (cA := cA) l G z k ez (by omega) hc0) yk_X7_creditAt E km_X7_107 dX7_present_2 hG hE ⟨hX, k1.1, k4.1⟩ (At.recv hG hX rfl) rfl rfl hl.1 ⟨Nat.le_of_ble_eq_true rfl, Nat.le_of_ble_eq_true rfl⟩ ⟨Nat.zero_le _, Nat.zero_le _⟩ (Nat.le_of_ble_eq_true rfl) ?_
  refine lv_astore (lv' := [(6, .ref (cA k)), (0, .ref x), (1, .int z), (2, .int y), (3, .int am), (4, .int dc), (5, .int ins)]) hx hb dX7_present_5 hl (by decide) rfl (fun ls hl => ?_)
  refine lv_iload_n hx hb dX7_present_7 rfl (lv_at hl 3 rfl) ?_
  refine lv_iload_n hx hb dX7_present_8 rfl (lv_at hl 4 rfl) ?_
  refine lv_iload hx hb dX7_present_9 (lv_at hl 5 rfl) ?_
  refine lv_iload hx hb dX7_present_11 (lv_at hl 6 rfl) ?_
  refine Rd.callS (rest := []) (c_X7_needPresentable l G y am dc ins hw9) yk_X7_needPresentable E km_X7_179 dX7_present_13 hG hE trivial rfl rfl hl.1 ⟨Nat.le_of_ble_eq_true rfl, Nat.le_of_ble_eq_true rfl⟩ ⟨Nat.zero_le _, Nat.zero_le _⟩ (Nat.le_of_ble_eq_true rfl) ?_
  refine lv_aload_n hx hb dX7_present_16 rfl (lv_at hl 1 rfl) ?_
  refine gf_X7_26 E hG hX rfl dX7_present_17 ?_
  refine gf_X7_75 E hG k1.1 rfl dX7_present_20 ?_
  refine g_len (t0 := 5) (v := (nI np)) E hG k5.1 rfl rfl dX7_present_23 ?_
  refine lv_bipush (v := 24) hx hb dX7_present_24 rfl ?_
  refine lv_icmp_lt (tgt := 39) hx hb dX7_present_26 (by decide) (fun c_26 => ?_) (fun c_26 => ?_)
  · exact (by rw [hf9] at c_26; exact absurd c_26 (by decide))
  · exact t_throw (text := "there are too many presentations") (i := 13) hst thk_ISE (by decide +kernel) E hG hE htab hk hl.1 dX7_present_29 dX7_present_32 dX7_present_33 dX7_present_35 dX7_present_38 ⟨by decide, by decide, by decide, by decide⟩

set_option maxHeartbeats 4000000 in
set_option maxRecDepth 100000 in
/-- examine -/
theorem c_X7_examine_x (l : Launch) (hst : l.stackTraces = false) (G : CG) {x bu bk pa : Nat} {bl es pn : Int32} {A : Nat → Prop} {d : Nat → Int32} {nc np nh : Nat} (z : Int32) (hin9 : inV z 0 (nI np - 1) = 0) (hp0 : np ≤ 24) : Tr l yX7_examine cX7_examine 4 ((Option.some FieldType.int)) 7 112 G [.ref x, .int z] (DK G A x bu bl es bk pa pn d nc np nh) "java/lang/IndexOutOfBoundsException" := by
  refine Tr.ofW (by decide) (Nat.le_of_ble_eq_true rfl) (fun p e s m below meth c ls E hG hE hP htab hk hl => ?_)
  have hx := E.1
  have hb := E.2.1
  have hl : lv_has ls 4 [(0, .ref x), (1, .int z)] := hl
  obtain ⟨hX, hB⟩ := hP
  obtain ⟨ca, ho, fe, cr, pr, cA, pA, k1, k2, k3, k4, k5, k6, k7, k8⟩ := id hB
  refine lv_aload_n hx hb dX7_examine_0 rfl (lv_at hl 0 rfl) ?_
  refine lv_iload_n hx hb dX7_examine_1 rfl (lv_at hl 1 rfl) ?_
  exact Tr.callV (rest := []) (c_X7_presentationAt_x (pA := pA) l hst G z hin9 hp0) yk_X7_presentationAt E km_X7_136 dX7_examine_2 hG hE ⟨hX, k1.1, k5.1⟩ (At.recv hG hX rfl) rfl rfl hl.1 ⟨Nat.le_of_ble_eq_true rfl, Nat.le_of_ble_eq_true rfl⟩ ⟨by decide, by decide⟩ (Nat.le_of_ble_eq_true rfl) htab hk

set_option maxHeartbeats 4000000 in
set_option maxRecDepth 100000 in
/-- waive -/
theorem c_X7_waive_x (l : Launch) (hst : l.stackTraces = false) (G : CG) {x bu bk pa : Nat} {bl es pn : Int32} {A : Nat → Prop} {d : Nat → Int32} {nc np nh : Nat} (z : Int32) (hin9 : inV z 0 (nI np - 1) = 0) (hp0 : np ≤ 24) : Tr l yX7_waive cX7_waive 3 ((Option.some FieldType.int)) 7 112 G [.ref x, .int z] (DK G A x bu bl es bk pa pn d nc np nh) "java/lang/IndexOutOfBoundsException" := by
  refine Tr.ofW (by decide) (Nat.le_of_ble_eq_true rfl) (fun p e s m below meth c ls E hG hE hP htab hk hl => ?_)
  have hx := E.1
  have hb := E.2.1
  have hl : lv_has ls 3 [(0, .ref x), (1, .int z)] := hl
  obtain ⟨hX, hB⟩ := hP
  obtain ⟨ca, ho, fe, cr, pr, cA, pA, k1, k2, k3, k4, k5, k6, k7, k8⟩ := id hB
  refine lv_aload_n hx hb dX7_waive_0 rfl (lv_at hl 0 rfl) ?_
  refine lv_iload_n hx hb dX7_waive_1 rfl (lv_at hl 1 rfl) ?_
  exact Tr.callV (rest := []) (c_X7_presentationAt_x (pA := pA) l hst G z hin9 hp0) yk_X7_presentationAt E km_X7_136 dX7_waive_2 hG hE ⟨hX, k1.1, k5.1⟩ (At.recv hG hX rfl) rfl rfl hl.1 ⟨Nat.le_of_ble_eq_true rfl, Nat.le_of_ble_eq_true rfl⟩ ⟨by decide, by decide⟩ (Nat.le_of_ble_eq_true rfl) htab hk

set_option maxHeartbeats 4000000 in
set_option maxRecDepth 100000 in
/-- refuse -/
theorem c_X7_refuse_x (l : Launch) (hst : l.stackTraces = false) (G : CG) {x bu bk pa : Nat} {bl es pn : Int32} {A : Nat → Prop} {d : Nat → Int32} {nc np nh : Nat} (z : Int32) (hin9 : inV z 0 (nI np - 1) = 0) (hp0 : np ≤ 24) : Tr l yX7_refuse cX7_refuse 3 ((Option.some FieldType.int)) 7 112 G [.ref x, .int z] (DK G A x bu bl es bk pa pn d nc np nh) "java/lang/IndexOutOfBoundsException" := by
  refine Tr.ofW (by decide) (Nat.le_of_ble_eq_true rfl) (fun p e s m below meth c ls E hG hE hP htab hk hl => ?_)
  have hx := E.1
  have hb := E.2.1
  have hl : lv_has ls 3 [(0, .ref x), (1, .int z)] := hl
  obtain ⟨hX, hB⟩ := hP
  obtain ⟨ca, ho, fe, cr, pr, cA, pA, k1, k2, k3, k4, k5, k6, k7, k8⟩ := id hB
  refine lv_aload_n hx hb dX7_refuse_0 rfl (lv_at hl 0 rfl) ?_
  refine lv_iload_n hx hb dX7_refuse_1 rfl (lv_at hl 1 rfl) ?_
  exact Tr.callV (rest := []) (c_X7_presentationAt_x (pA := pA) l hst G z hin9 hp0) yk_X7_presentationAt E km_X7_136 dX7_refuse_2 hG hE ⟨hX, k1.1, k5.1⟩ (At.recv hG hX rfl) rfl rfl hl.1 ⟨Nat.le_of_ble_eq_true rfl, Nat.le_of_ble_eq_true rfl⟩ ⟨by decide, by decide⟩ (Nat.le_of_ble_eq_true rfl) htab hk

set_option maxHeartbeats 4000000 in
set_option maxRecDepth 100000 in
/-- examine -/
theorem c_X7_examine_y (l : Launch) (hst : l.stackTraces = false) (G : CG) {x bu bk pa : Nat} {bl es pn : Int32} {A : Nat → Prop} {d : Nat → Int32} {nc np nh : Nat} (z : Int32) (k : Nat) (ez : z = nI k) (hk9 : k < np) (hp0 : np ≤ 24) (hst9 : ¬ d (pP k + 4) = 0) : Tr l yX7_examine cX7_examine 4 ((Option.some FieldType.int)) 7 112 G [.ref x, .int z] (DK G A x bu bl es bk pa pn d nc np nh) "java/lang/IllegalStateException" := by
  refine Tr.ofW (by decide) (Nat.le_of_ble_eq_true rfl) (fun p e s m below meth c ls E hG hE hP htab hk hl => ?_)
  have hx := E.1
  have hb := E.2.1
  have hl : lv_has ls 4 [(0, .ref x), (1, .int z)] := hl
  obtain ⟨hX, hB⟩ := hP
  obtain ⟨ca, ho, fe, cr, pr, cA, pA, k1, k2, k3, k4, k5, k6, k7, k8⟩ := id hB
  refine lv_aload_n hx hb dX7_examine_0 rfl (lv_at hl 0 rfl) ?_
  refine lv_iload_n hx hb dX7_examine_1 rfl (lv_at hl 1 rfl) ?_
  refine Rd.callV (rest := []) (c_X7_presentationAt (pA := pA) l G z k ez (by omega) hp0) yk_X7_presentationAt E km_X7_136 dX7_examine_2 hG hE ⟨hX, k1.1, k5.1⟩ (At.recv hG hX rfl) rfl rfl hl.1 ⟨Nat.le_of_ble_eq_true rfl, Nat.le_of_ble_eq_true rfl⟩ ⟨Nat.zero_le _, Nat.zero_le _⟩ (Nat.le_of_ble_eq_true rfl) ?_
  refine lv_astore_n (lv' := [(2, .ref (pA k)), (0, .ref x), (1, .int z)]) hx hb dX7_examine_5 rfl hl (by decide) rfl (fun ls hl => ?_)
  refine lv_aload_n hx hb dX7_examine_6 rfl (lv_at hl 0 rfl) ?_
  refine gf_X7_145 E hG (k7 k (by omega)).1 rfl dX7_examine_7 ?_
  refine lv_if_eq (tgt := 23) hx hb dX7_examine_10 (by decide) (fun c_10 => ?_) (fun c_10 => ?_)
  · exact absurd c_10 hst9
  · exact t_throw (text := "the presentation is not pending") (i := 14) hst thk_ISE (by decide +kernel) E hG hE htab hk hl.1 dX7_examine_13 dX7_examine_16 dX7_examine_17 dX7_examine_19 dX7_examine_22 ⟨by decide, by decide, by decide, by decide⟩

set_option maxHeartbeats 4000000 in
set_option maxRecDepth 100000 in
/-- waive -/
theorem c_X7_waive_y (l : Launch) (hst : l.stackTraces = false) (G : CG) {x bu bk pa : Nat} {bl es pn : Int32} {A : Nat → Prop} {d : Nat → Int32} {nc np nh : Nat} (z : Int32) (k : Nat) (ez : z = nI k) (hk9 : k < np) (hp0 : np ≤ 24) (hst9 : ¬ d (pP k + 4) = 1) : Tr l yX7_waive cX7_waive 3 ((Option.some FieldType.int)) 7 112 G [.ref x, .int z] (DK G A x bu bl es bk pa pn d nc np nh) "java/lang/IllegalStateException" := by
  refine Tr.ofW (by decide) (Nat.le_of_ble_eq_true rfl) (fun p e s m below meth c ls E hG hE hP htab hk hl => ?_)
  have hx := E.1
  have hb := E.2.1
  have hl : lv_has ls 3 [(0, .ref x), (1, .int z)] := hl
  obtain ⟨hX, hB⟩ := hP
  obtain ⟨ca, ho, fe, cr, pr, cA, pA, k1, k2, k3, k4, k5, k6, k7, k8⟩ := id hB
  refine lv_aload_n hx hb dX7_waive_0 rfl (lv_at hl 0 rfl) ?_
  refine lv_iload_n hx hb dX7_waive_1 rfl (lv_at hl 1 rfl) ?_
  refine Rd.callV (rest := []) (c_X7_presentationAt (pA := pA) l G z k ez (by omega) hp0) yk_X7_presentationAt E km_X7_136 dX7_waive_2 hG hE ⟨hX, k1.1, k5.1⟩ (At.recv hG hX rfl) rfl rfl hl.1 ⟨Nat.le_of_ble_eq_true rfl, Nat.le_of_ble_eq_true rfl⟩ ⟨Nat.zero_le _, Nat.zero_le _⟩ (Nat.le_of_ble_eq_true rfl) ?_
  refine lv_astore_n (lv' := [(2, .ref (pA k)), (0, .ref x), (1, .int z)]) hx hb dX7_waive_5 rfl hl (by decide) rfl (fun ls hl => ?_)
  refine lv_aload_n hx hb dX7_waive_6 rfl (lv_at hl 0 rfl) ?_
  refine gf_X7_145 E hG (k7 k (by omega)).1 rfl dX7_waive_7 ?_
  refine lv_iconst (v := 1) hx hb dX7_waive_10 rfl ?_
  refine lv_icmp_ne (tgt := 22) hx hb dX7_waive_11 (by decide) (fun c_11 => ?_) (fun c_11 => ?_)
  · exact t_throw (text := "the presentation cannot be waived") (i := 15) hst thk_ISE (by decide +kernel) E hG hE htab hk hl.1 dX7_waive_22 dX7_waive_25 dX7_waive_26 dX7_waive_28 dX7_waive_31 ⟨by decide, by decide, by decide, by decide⟩
  · exact absurd c_11 hst9

set_option maxHeartbeats 4000000 in
set_option maxRecDepth 100000 in
/-- waive -/
theorem c_X7_waive_z (l : Launch) (hst : l.stackTraces = false) (G : CG) {x bu bk pa : Nat} {bl es pn : Int32} {A : Nat → Prop} {d : Nat → Int32} {nc np nh : Nat} (z : Int32) (k : Nat) (ez : z = nI k) (hk9 : k < np) (hp0 : np ≤ 24) (hst9 : d (pP k + 4) = 1) (hov : ¬ d (pP k + 3) &&& 4 = 0) : Tr l yX7_waive cX7_waive 3 ((Option.some FieldType.int)) 7 112 G [.ref x, .int z] (DK G A x bu bl es bk pa pn d nc np nh) "java/lang/IllegalStateException" := by
  refine Tr.ofW (by decide) (Nat.le_of_ble_eq_true rfl) (fun p e s m below meth c ls E hG hE hP htab hk hl => ?_)
  have hx := E.1
  have hb := E.2.1
  have hl : lv_has ls 3 [(0, .ref x), (1, .int z)] := hl
  obtain ⟨hX, hB⟩ := hP
  obtain ⟨ca, ho, fe, cr, pr, cA, pA, k1, k2, k3, k4, k5, k6, k7, k8⟩ := id hB
  refine lv_aload_n hx hb dX7_waive_0 rfl (lv_at hl 0 rfl) ?_
  refine lv_iload_n hx hb dX7_waive_1 rfl (lv_at hl 1 rfl) ?_
  refine Rd.callV (rest := []) (c_X7_presentationAt (pA := pA) l G z k ez (by omega) hp0) yk_X7_presentationAt E km_X7_136 dX7_waive_2 hG hE ⟨hX, k1.1, k5.1⟩ (At.recv hG hX rfl) rfl rfl hl.1 ⟨Nat.le_of_ble_eq_true rfl, Nat.le_of_ble_eq_true rfl⟩ ⟨Nat.zero_le _, Nat.zero_le _⟩ (Nat.le_of_ble_eq_true rfl) ?_
  refine lv_astore_n (lv' := [(2, .ref (pA k)), (0, .ref x), (1, .int z)]) hx hb dX7_waive_5 rfl hl (by decide) rfl (fun ls hl => ?_)
  refine lv_aload_n hx hb dX7_waive_6 rfl (lv_at hl 0 rfl) ?_
  refine gf_X7_145 E hG (k7 k (by omega)).1 rfl dX7_waive_7 ?_
  refine lv_iconst (v := 1) hx hb dX7_waive_10 rfl ?_
  refine lv_icmp_ne (tgt := 22) hx hb dX7_waive_11 (by decide) (fun c_11 => ?_) (fun c_11 => ?_)
  · exact absurd hst9 c_11
  · refine lv_aload_n hx hb dX7_waive_14 rfl (lv_at hl 0 rfl) ?_
    refine lv_iconst (v := 4) hx hb dX7_waive_15 rfl ?_
    refine Rd.callV (rest := []) (c_X5_has l G (d (pP k + 3)) 4 rfl) yk_X5_has E km_X7_226 dX7_waive_16 hG hE (k7 k (by omega)).1 (At.recv hG (k7 k (by omega)).1 rfl) rfl rfl hl.1 ⟨Nat.le_of_ble_eq_true rfl, Nat.le_of_ble_eq_true rfl⟩ ⟨Nat.zero_le _, Nat.zero_le _⟩ (Nat.le_of_ble_eq_true rfl) ?_
    refine lv_if_eq (tgt := 32) hx hb dX7_waive_19 (by decide) (fun c_19 => ?_) (fun c_19 => ?_)
    · exact absurd (ite01.mp c_19) hov
    · exact t_throw (text := "the presentation cannot be waived") (i := 15) hst thk_ISE (by decide +kernel) E hG hE htab hk hl.1 dX7_waive_22 dX7_waive_25 dX7_waive_26 dX7_waive_28 dX7_waive_31 ⟨by decide, by decide, by decide, by decide⟩

set_option maxHeartbeats 4000000 in
set_option maxRecDepth 100000 in
/-- refuse -/
theorem c_X7_refuse_y (l : Launch) (hst : l.stackTraces = false) (G : CG) {x bu bk pa : Nat} {bl es pn : Int32} {A : Nat → Prop} {d : Nat → Int32} {nc np nh : Nat} (z : Int32) (k : Nat) (ez : z = nI k) (hk9 : k < np) (hp0 : np ≤ 24) (hst9 : ¬ d (pP k + 4) = 1) : Tr l yX7_refuse cX7_refuse 3 ((Option.some FieldType.int)) 7 112 G [.ref x, .int z] (DK G A x bu bl es bk pa pn d nc np nh) "java/lang/IllegalStateException" := by
  refine Tr.ofW (by decide) (Nat.le_of_ble_eq_true rfl) (fun p e s m below meth c ls E hG hE hP htab hk hl => ?_)
  have hx := E.1
  have hb := E.2.1
  have hl : lv_has ls 3 [(0, .ref x), (1, .int z)] := hl
  obtain ⟨hX, hB⟩ := hP
  obtain ⟨ca, ho, fe, cr, pr, cA, pA, k1, k2, k3, k4, k5, k6, k7, k8⟩ := id hB
  refine lv_aload_n hx hb dX7_refuse_0 rfl (lv_at hl 0 rfl) ?_
  refine lv_iload_n hx hb dX7_refuse_1 rfl (lv_at hl 1 rfl) ?_
  refine Rd.callV (rest := []) (c_X7_presentationAt (pA := pA) l G z k ez (by omega) hp0) yk_X7_presentationAt E km_X7_136 dX7_refuse_2 hG hE ⟨hX, k1.1, k5.1⟩ (At.recv hG hX rfl) rfl rfl hl.1 ⟨Nat.le_of_ble_eq_true rfl, Nat.le_of_ble_eq_true rfl⟩ ⟨Nat.zero_le _, Nat.zero_le _⟩ (Nat.le_of_ble_eq_true rfl) ?_
  refine lv_astore_n (lv' := [(2, .ref (pA k)), (0, .ref x), (1, .int z)]) hx hb dX7_refuse_5 rfl hl (by decide) rfl (fun ls hl => ?_)
  refine lv_aload_n hx hb dX7_refuse_6 rfl (lv_at hl 0 rfl) ?_
  refine gf_X7_145 E hG (k7 k (by omega)).1 rfl dX7_refuse_7 ?_
  refine lv_iconst (v := 1) hx hb dX7_refuse_10 rfl ?_
  refine lv_icmp_eq (tgt := 24) hx hb dX7_refuse_11 (by decide) (fun c_11 => ?_) (fun c_11 => ?_)
  · exact absurd c_11 hst9
  · exact t_throw (text := "the presentation is not discrepant") (i := 16) hst thk_ISE (by decide +kernel) E hG hE htab hk hl.1 dX7_refuse_14 dX7_refuse_17 dX7_refuse_18 dX7_refuse_20 dX7_refuse_23 ⟨by decide, by decide, by decide, by decide⟩

set_option maxHeartbeats 4000000 in
set_option maxRecDepth 100000 in
/-- transfer -/
theorem c_X7_transfer_x (l : Launch) (hst : l.stackTraces = false) (G : CG) {x bu bk pa : Nat} {bl es pn : Int32} {A : Nat → Prop} {d : Nat → Int32} {nc np nh : Nat} (z : Int32) (hin9 : inV z 0 (nI nc - 1) = 0) (hc0 : nc ≤ 12) (y w : Int32) : Tr l yX7_transfer cX7_transfer 6 ((Option.some FieldType.int)) 7 112 G [.ref x, .int z, .int y, .int w] (DK G A x bu bl es bk pa pn d nc np nh) "java/lang/IndexOutOfBoundsException" := by
  refine Tr.ofW (by decide) (Nat.le_of_ble_eq_true rfl) (fun p e s m below meth c ls E hG hE hP htab hk hl => ?_)
  have hx := E.1
  have hb := E.2.1
  have hl : lv_has ls 6 [(0, .ref x), (1, .int z), (2, .int y), (3, .int w)] := hl
  obtain ⟨hX, hB⟩ := hP
  obtain ⟨ca, ho, fe, cr, pr, cA, pA, k1, k2, k3, k4, k5, k6, k7, k8⟩ := id hB
  refine lv_aload_n hx hb dX7_transfer_0 rfl (lv_at hl 0 rfl) ?_
  refine lv_iload_n hx hb dX7_transfer_1 rfl (lv_at hl 1 rfl) ?_
  exact Tr.callV (rest := []) (c_X7_creditAt_x (cA := cA) l hst G z hin9 hc0) yk_X7_creditAt E km_X7_107 dX7_transfer_2 hG hE ⟨hX, k1.1, k4.1⟩ (At.recv hG hX rfl) rfl rfl hl.1 ⟨Nat.le_of_ble_eq_true rfl, Nat.le_of_ble_eq_true rfl⟩ ⟨by decide, by decide⟩ (Nat.le_of_ble_eq_true rfl) htab hk

set_option maxHeartbeats 4000000 in
set_option maxRecDepth 100000 in
/-- transfer -/
theorem c_X7_transfer_y1 (l : Launch) (hst : l.stackTraces = false) (G : CG) {x bu bk pa : Nat} {bl es pn : Int32} {A : Nat → Prop} {d : Nat → Int32} {nc np nh : Nat} (z : Int32) (k : Nat) (ez : z = nI k) (hk9 : k < nc) (hc0 : nc ≤ 12) (y w : Int32) (h_1 : inV y 1 999999 = 0) : Tr l yX7_transfer cX7_transfer 6 ((Option.some FieldType.int)) 7 112 G [.ref x, .int z, .int y, .int w] (DK G A x bu bl es bk pa pn d nc np nh) "java/lang/IllegalArgumentException" := by
  refine Tr.ofW (by decide) (Nat.le_of_ble_eq_true rfl) (fun p e s m below meth c ls E hG hE hP htab hk hl => ?_)
  have hx := E.1
  have hb := E.2.1
  have hl : lv_has ls 6 [(0, .ref x), (1, .int z), (2, .int y), (3, .int w)] := hl
  obtain ⟨hX, hB⟩ := hP
  obtain ⟨ca, ho, fe, cr, pr, cA, pA, k1, k2, k3, k4, k5, k6, k7, k8⟩ := id hB
  refine lv_aload_n hx hb dX7_transfer_0 rfl (lv_at hl 0 rfl) ?_
  refine lv_iload_n hx hb dX7_transfer_1 rfl (lv_at hl 1 rfl) ?_
  refine Rd.callV (rest := []) (c_X7_creditAt (cA := cA) l G z k ez (by omega) hc0) yk_X7_creditAt E km_X7_107 dX7_transfer_2 hG hE ⟨hX, k1.1, k4.1⟩ (At.recv hG hX rfl) rfl rfl hl.1 ⟨Nat.le_of_ble_eq_true rfl, Nat.le_of_ble_eq_true rfl⟩ ⟨Nat.zero_le _, Nat.zero_le _⟩ (Nat.le_of_ble_eq_true rfl) ?_
  refine lv_astore (lv' := [(4, .ref (cA k)), (0, .ref x), (1, .int z), (2, .int y), (3, .int w)]) hx hb dX7_transfer_5 hl (by decide) rfl (fun ls hl => ?_)
  refine lv_iload_n hx hb dX7_transfer_7 rfl (lv_at hl 3 rfl) ?_
  refine lv_iconst (v := 1) hx hb dX7_transfer_8 rfl ?_
  refine lv_ldc (v := 999999) hx hb E.2.2.2.1 (E.2.2.2.2 _ kk_X7_233) dX7_transfer_9 ?_
  exact Tr.callS (rest := []) (c_X7_needRange_x l hst G y 1 999999 h_1) yk_X7_needRange E km_X7_82 dX7_transfer_11 hG hE trivial rfl rfl hl.1 ⟨Nat.le_of_ble_eq_true rfl, Nat.le_of_ble_eq_true rfl⟩ ⟨by decide, by decide⟩ (Nat.le_of_ble_eq_true rfl) htab hk

set_option maxHeartbeats 4000000 in
set_option maxRecDepth 100000 in
/-- transfer -/
theorem c_X7_transfer_y2 (l : Launch) (hst : l.stackTraces = false) (G : CG) {x bu bk pa : Nat} {bl es pn : Int32} {A : Nat → Prop} {d : Nat → Int32} {nc np nh : Nat} (z : Int32) (k : Nat) (ez : z = nI k) (hk9 : k < nc) (hc0 : nc ≤ 12) (y w : Int32) (h_1 : inV y 1 999999 = 1) (h_2 : inV w 0 999 = 0) : Tr l yX7_transfer cX7_transfer 6 ((Option.some FieldType.int)) 7 112 G [.ref x, .int z, .int y, .int w] (DK G A x bu bl es bk pa pn d nc np nh) "java/lang/IllegalArgumentException" := by
  refine Tr.ofW (by decide) (Nat.le_of_ble_eq_true rfl) (fun p e s m below meth c ls E hG hE hP htab hk hl => ?_)
  have hx := E.1
  have hb := E.2.1
  have hl : lv_has ls 6 [(0, .ref x), (1, .int z), (2, .int y), (3, .int w)] := hl
  obtain ⟨hX, hB⟩ := hP
  obtain ⟨ca, ho, fe, cr, pr, cA, pA, k1, k2, k3, k4, k5, k6, k7, k8⟩ := id hB
  refine lv_aload_n hx hb dX7_transfer_0 rfl (lv_at hl 0 rfl) ?_
  refine lv_iload_n hx hb dX7_transfer_1 rfl (lv_at hl 1 rfl) ?_
  refine Rd.callV (rest := []) (c_X7_creditAt (cA := cA) l G z k ez (by omega) hc0) yk_X7_creditAt E km_X7_107 dX7_transfer_2 hG hE ⟨hX, k1.1, k4.1⟩ (At.recv hG hX rfl) rfl rfl hl.1 ⟨Nat.le_of_ble_eq_true rfl, Nat.le_of_ble_eq_true rfl⟩ ⟨Nat.zero_le _, Nat.zero_le _⟩ (Nat.le_of_ble_eq_true rfl) ?_
  refine lv_astore (lv' := [(4, .ref (cA k)), (0, .ref x), (1, .int z), (2, .int y), (3, .int w)]) hx hb dX7_transfer_5 hl (by decide) rfl (fun ls hl => ?_)
  refine lv_iload_n hx hb dX7_transfer_7 rfl (lv_at hl 3 rfl) ?_
  refine lv_iconst (v := 1) hx hb dX7_transfer_8 rfl ?_
  refine lv_ldc (v := 999999) hx hb E.2.2.2.1 (E.2.2.2.2 _ kk_X7_233) dX7_transfer_9 ?_
  refine Rd.callS (rest := []) (c_X7_needRange l G y 1 999999 h_1) yk_X7_needRange E km_X7_82 dX7_transfer_11 hG hE trivial rfl rfl hl.1 ⟨Nat.le_of_ble_eq_true rfl, Nat.le_of_ble_eq_true rfl⟩ ⟨Nat.zero_le _, Nat.zero_le _⟩ (Nat.le_of_ble_eq_true rfl) ?_
  refine lv_iload_n hx hb dX7_transfer_14 rfl (lv_at hl 4 rfl) ?_
  refine lv_iconst (v := 0) hx hb dX7_transfer_15 rfl ?_
  refine lv_sipush (v := 999) hx hb dX7_transfer_16 rfl ?_
  exact Tr.callS (rest := []) (c_X7_needRange_x l hst G w 0 999 h_2) yk_X7_needRange E km_X7_82 dX7_transfer_19 hG hE trivial rfl rfl hl.1 ⟨Nat.le_of_ble_eq_true rfl, Nat.le_of_ble_eq_true rfl⟩ ⟨by decide, by decide⟩ (Nat.le_of_ble_eq_true rfl) htab hk

set_option maxHeartbeats 4000000 in
set_option maxRecDepth 100000 in
/-- transfer -/
theorem c_X7_transfer_y3 (l : Launch) (hst : l.stackTraces = false) (G : CG) {x bu bk pa : Nat} {bl es pn : Int32} {A : Nat → Prop} {d : Nat → Int32} {nc np nh : Nat} (z : Int32) (k : Nat) (ez : z = nI k) (hk9 : k < nc) (hc0 : nc ≤ 12) (y w : Int32) (h_1 : inV y 1 999999 = 1) (h_2 : inV w 0 999 = 1) (h_3 : ¬ w ≤ d (cP k + 3)) : Tr l yX7_transfer cX7_transfer 6 ((Option.some FieldType.int)) 7 112 G [.ref x, .int z, .int y, .int w] (DK G A x bu bl es bk pa pn d nc np nh) "java/lang/IllegalArgumentException" := by
  refine Tr.ofW (by decide) (Nat.le_of_ble_eq_true rfl) (fun p e s m below meth c ls E hG hE hP htab hk hl => ?_)
  have hx := E.1
  have hb := E.2.1
  have hl : lv_has ls 6 [(0, .ref x), (1, .int z), (2, .int y), (3, .int w)] := hl
  obtain ⟨hX, hB⟩ := hP
  obtain ⟨ca, ho, fe, cr, pr, cA, pA, k1, k2, k3, k4, k5, k6, k7, k8⟩ := id hB
  refine lv_aload_n hx hb dX7_transfer_0 rfl (lv_at hl 0 rfl) ?_
  refine lv_iload_n hx hb dX7_transfer_1 rfl (lv_at hl 1 rfl) ?_
  refine Rd.callV (rest := []) (c_X7_creditAt (cA := cA) l G z k ez (by omega) hc0) yk_X7_creditAt E km_X7_107 dX7_transfer_2 hG hE ⟨hX, k1.1, k4.1⟩ (At.recv hG hX rfl) rfl rfl hl.1 ⟨Nat.le_of_ble_eq_true rfl, Nat.le_of_ble_eq_true rfl⟩ ⟨Nat.zero_le _, Nat.zero_le _⟩ (Nat.le_of_ble_eq_true rfl) ?_
  refine lv_astore (lv' := [(4, .ref (cA k)), (0, .ref x), (1, .int z), (2, .int y), (3, .int w)]) hx hb dX7_transfer_5 hl (by decide) rfl (fun ls hl => ?_)
  refine lv_iload_n hx hb dX7_transfer_7 rfl (lv_at hl 3 rfl) ?_
  refine lv_iconst (v := 1) hx hb dX7_transfer_8 rfl ?_
  refine lv_ldc (v := 999999) hx hb E.2.2.2.1 (E.2.2.2.2 _ kk_X7_233) dX7_transfer_9 ?_
  refine Rd.callS (rest := []) (c_X7_needRange l G y 1 999999 h_1) yk_X7_needRange E km_X7_82 dX7_transfer_11 hG hE trivial rfl rfl hl.1 ⟨Nat.le_of_ble_eq_true rfl, Nat.le_of_ble_eq_true rfl⟩ ⟨Nat.zero_le _, Nat.zero_le _⟩ (Nat.le_of_ble_eq_true rfl) ?_
  refine lv_iload_n hx hb dX7_transfer_14 rfl (lv_at hl 4 rfl) ?_
  refine lv_iconst (v := 0) hx hb dX7_transfer_15 rfl ?_
  refine lv_sipush (v := 999) hx hb dX7_transfer_16 rfl ?_
  refine Rd.callS (rest := []) (c_X7_needRange l G w 0 999 h_2) yk_X7_needRange E km_X7_82 dX7_transfer_19 hG hE trivial rfl rfl hl.1 ⟨Nat.le_of_ble_eq_true rfl, Nat.le_of_ble_eq_true rfl⟩ ⟨Nat.zero_le _, Nat.zero_le _⟩ (Nat.le_of_ble_eq_true rfl) ?_
  refine lv_iload_n hx hb dX7_transfer_22 rfl (lv_at hl 4 rfl) ?_
  refine lv_aload hx hb dX7_transfer_23 (lv_at hl 0 rfl) ?_
  refine gf_X7_123 E hG (k6 k (by omega)).1 rfl dX7_transfer_25 ?_
  refine lv_icmp_le (tgt := 41) hx hb dX7_transfer_28 (by decide) (fun c_28 => ?_) (fun c_28 => ?_)
  · exact absurd c_28 h_3
  · exact t_throw (text := "the credit expires earlier") (i := 17) hst thk_IAE (by decide +kernel) E hG hE htab hk hl.1 dX7_transfer_31 dX7_transfer_34 dX7_transfer_35 dX7_transfer_37 dX7_transfer_40 ⟨by decide, by decide, by decide, by decide⟩

set_option maxHeartbeats 4000000 in
set_option maxRecDepth 100000 in
/-- transfer -/
theorem c_X7_transfer_z (l : Launch) (hst : l.stackTraces = false) (G : CG) {x bu bk pa : Nat} {bl es pn : Int32} {A : Nat → Prop} {d : Nat → Int32} {nc np nh : Nat} (z : Int32) (k : Nat) (ez : z = nI k) (hk9 : k < nc) (hc0 : nc ≤ 12) (hp0 : np ≤ 24) (h0 : d 0 = nI nc) (y w : Int32) (h_1 : inV y 1 999999 = 1) (h_2 : inV w 0 999 = 1) (h_3 : w ≤ d (cP k + 3)) (hf9 : ¬ trF d np nc k y = 0) : Tr l yX7_transfer cX7_transfer 6 ((Option.some FieldType.int)) 7 112 G [.ref x, .int z, .int y, .int w] (DK G A x bu bl es bk pa pn d nc np nh) "java/lang/IllegalStateException" := by
  refine Tr.ofW (by decide) (Nat.le_of_ble_eq_true rfl) (fun p e s m below meth c ls E hG hE hP htab hk hl => ?_)
  have hx := E.1
  have hb := E.2.1
  have hl : lv_has ls 6 [(0, .ref x), (1, .int z), (2, .int y), (3, .int w)] := hl
  obtain ⟨hX, hB⟩ := hP
  obtain ⟨ca, ho, fe, cr, pr, cA, pA, k1, k2, k3, k4, k5, k6, k7, k8⟩ := id hB
  refine lv_aload_n hx hb dX7_transfer_0 rfl (lv_at hl 0 rfl) ?_
  refine lv_iload_n hx hb dX7_transfer_1 rfl (lv_at hl 1 rfl) ?_
  refine Rd.callV (rest := []) (c_X7_creditAt (cA := cA) l G z k ez (by omega) hc0) yk_X7_creditAt E km_X7_107 dX7_transfer_2 hG hE ⟨hX, k1.1, k4.1⟩ (At.recv hG hX rfl) rfl rfl hl.1 ⟨Nat.le_of_ble_eq_true rfl, Nat.le_of_ble_eq_true rfl⟩ ⟨Nat.zero_le _, Nat.zero_le _⟩ (Nat.le_of_ble_eq_true rfl) ?_
  refine lv_astore (lv' := [(4, .ref (cA k)), (0, .ref x), (1, .int z), (2, .int y), (3, .int w)]) hx hb dX7_transfer_5 hl (by decide) rfl (fun ls hl => ?_)
  refine lv_iload_n hx hb dX7_transfer_7 rfl (lv_at hl 3 rfl) ?_
  refine lv_iconst (v := 1) hx hb dX7_transfer_8 rfl ?_
  refine lv_ldc (v := 999999) hx hb E.2.2.2.1 (E.2.2.2.2 _ kk_X7_233) dX7_transfer_9 ?_
  refine Rd.callS (rest := []) (c_X7_needRange l G y 1 999999 h_1) yk_X7_needRange E km_X7_82 dX7_transfer_11 hG hE trivial rfl rfl hl.1 ⟨Nat.le_of_ble_eq_true rfl, Nat.le_of_ble_eq_true rfl⟩ ⟨Nat.zero_le _, Nat.zero_le _⟩ (Nat.le_of_ble_eq_true rfl) ?_
  refine lv_iload_n hx hb dX7_transfer_14 rfl (lv_at hl 4 rfl) ?_
  refine lv_iconst (v := 0) hx hb dX7_transfer_15 rfl ?_
  refine lv_sipush (v := 999) hx hb dX7_transfer_16 rfl ?_
  refine Rd.callS (rest := []) (c_X7_needRange l G w 0 999 h_2) yk_X7_needRange E km_X7_82 dX7_transfer_19 hG hE trivial rfl rfl hl.1 ⟨Nat.le_of_ble_eq_true rfl, Nat.le_of_ble_eq_true rfl⟩ ⟨Nat.zero_le _, Nat.zero_le _⟩ (Nat.le_of_ble_eq_true rfl) ?_
  refine lv_iload_n hx hb dX7_transfer_22 rfl (lv_at hl 4 rfl) ?_
  refine lv_aload hx hb dX7_transfer_23 (lv_at hl 0 rfl) ?_
  refine gf_X7_123 E hG (k6 k (by omega)).1 rfl dX7_transfer_25 ?_
  refine lv_icmp_le (tgt := 41) hx hb dX7_transfer_28 (by decide) (fun c_28 => ?_) (fun c_28 => ?_)
  · refine lv_aload_n hx hb dX7_transfer_41 rfl (lv_at hl 1 rfl) ?_
    refine lv_aload hx hb dX7_transfer_42 (lv_at hl 0 rfl) ?_
    refine lv_iload_n hx hb dX7_transfer_44 rfl (lv_at hl 3 rfl) ?_
    refine Rd.callV (rest := []) (c_X7_canTransfer l G y hp0 hc0 h0) yk_X7_canTransfer E km_X7_236 dX7_transfer_45 hG hE ⟨⟨hX, hB⟩, (k6 k (by omega)).1⟩ (At.recv hG hX rfl) rfl rfl hl.1 ⟨Nat.le_of_ble_eq_true rfl, Nat.le_of_ble_eq_true rfl⟩ ⟨Nat.zero_le _, Nat.zero_le _⟩ (Nat.le_of_ble_eq_true rfl) ?_
    refine lv_if_ne (tgt := 61) hx hb dX7_transfer_48 (by decide) (fun c_48 => ?_) (fun c_48 => ?_)
    · exact absurd (if_neg hf9) c_48
    · exact t_throw (text := "the credit cannot be transferred so") (i := 18) hst thk_ISE (by decide +kernel) E hG hE htab hk hl.1 dX7_transfer_51 dX7_transfer_54 dX7_transfer_55 dX7_transfer_57 dX7_transfer_60 ⟨by decide, by decide, by decide, by decide⟩
  · exact absurd h_3 c_28

set_option maxHeartbeats 4000000 in
set_option maxRecDepth 100000 in
/-- pass -/
theorem c_X7_pass_x (l : Launch) (hst : l.stackTraces = false) (G : CG) {x bu bk pa : Nat} {bl es pn : Int32} {A : Nat → Prop} {d : Nat → Int32} {nc np nh : Nat} (z : Int32) (hin8 : inV z 1 365 = 0) : Tr l yX7_pass cX7_pass 2 ((Option.some FieldType.int)) 7 112 G [.ref x, .int z] (DK G A x bu bl es bk pa pn d nc np nh) "java/lang/IllegalArgumentException" := by
  refine Tr.ofW (by decide) (Nat.le_of_ble_eq_true rfl) (fun p e s m below meth c ls E hG hE hP htab hk hl => ?_)
  have hx := E.1
  have hb := E.2.1
  have hl : lv_has ls 2 [(0, .ref x), (1, .int z)] := hl
  obtain ⟨hX, hB⟩ := hP
  obtain ⟨ca, ho, fe, cr, pr, cA, pA, k1, k2, k3, k4, k5, k6, k7, k8⟩ := id hB
  refine lv_iload_n hx hb dX7_pass_0 rfl (lv_at hl 1 rfl) ?_
  refine lv_iconst (v := 1) hx hb dX7_pass_1 rfl ?_
  refine lv_sipush (v := 365) hx hb dX7_pass_2 rfl ?_
  exact Tr.callS (rest := []) (c_X7_needRange_x l hst G z 1 365 hin8) yk_X7_needRange E km_X7_82 dX7_pass_5 hG hE trivial rfl rfl hl.1 ⟨Nat.le_of_ble_eq_true rfl, Nat.le_of_ble_eq_true rfl⟩ ⟨by decide, by decide⟩ (Nat.le_of_ble_eq_true rfl) htab hk

set_option maxHeartbeats 4000000 in
set_option maxRecDepth 100000 in
/-- pass -/
theorem c_X7_pass_y (l : Launch) (hst : l.stackTraces = false) (G : CG) {x bu bk pa : Nat} {bl es pn : Int32} {A : Nat → Prop} {d : Nat → Int32} {nc np nh : Nat} (z : Int32) (hin8 : inV z 1 365 = 1) (hin7 : ¬ d 3 + z ≤ 9000) : Tr l yX7_pass cX7_pass 2 ((Option.some FieldType.int)) 7 112 G [.ref x, .int z] (DK G A x bu bl es bk pa pn d nc np nh) "java/lang/IllegalStateException" := by
  refine Tr.ofW (by decide) (Nat.le_of_ble_eq_true rfl) (fun p e s m below meth c ls E hG hE hP htab hk hl => ?_)
  have hx := E.1
  have hb := E.2.1
  have hl : lv_has ls 2 [(0, .ref x), (1, .int z)] := hl
  obtain ⟨hX, hB⟩ := hP
  obtain ⟨ca, ho, fe, cr, pr, cA, pA, k1, k2, k3, k4, k5, k6, k7, k8⟩ := id hB
  refine lv_iload_n hx hb dX7_pass_0 rfl (lv_at hl 1 rfl) ?_
  refine lv_iconst (v := 1) hx hb dX7_pass_1 rfl ?_
  refine lv_sipush (v := 365) hx hb dX7_pass_2 rfl ?_
  refine Rd.callS (rest := []) (c_X7_needRange l G z 1 365 hin8) yk_X7_needRange E km_X7_82 dX7_pass_5 hG hE trivial rfl rfl hl.1 ⟨Nat.le_of_ble_eq_true rfl, Nat.le_of_ble_eq_true rfl⟩ ⟨Nat.zero_le _, Nat.zero_le _⟩ (Nat.le_of_ble_eq_true rfl) ?_
  refine lv_aload_n hx hb dX7_pass_8 rfl (lv_at hl 0 rfl) ?_
  refine gf_X7_26 E hG hX rfl dX7_pass_9 ?_
  refine gf_X7_79 E hG k1.1 rfl dX7_pass_12 ?_
  refine lv_iload_n hx hb dX7_pass_15 rfl (lv_at hl 1 rfl) ?_
  refine lv_iadd hx hb dX7_pass_16 ?_
  refine lv_sipush (v := 9000) hx hb dX7_pass_17 rfl ?_
  refine lv_icmp_le (tgt := 33) hx hb dX7_pass_20 (by decide) (fun c_20 => ?_) (fun c_20 => ?_)
  · exact absurd c_20 hin7
  · exact t_throw (text := "today would be too late") (i := 19) hst thk_ISE (by decide +kernel) E hG hE htab hk hl.1 dX7_pass_23 dX7_pass_26 dX7_pass_27 dX7_pass_29 dX7_pass_32 ⟨by decide, by decide, by decide, by decide⟩

set_option maxHeartbeats 4000000 in
set_option maxRecDepth 100000 in
/-- settle -/
theorem c_X7_settle_h (l : Launch) (G : CG) {x bu pa bk : Nat} {AO : Nat → Prop} {bb d : Nat → Int32} {bl es : Int32} {nc np nh u : Nat} {hi : Nat → Nat → Int32} (hD : DD G AO x bu pa) (hu : u ≤ 8) (hO : OkD d nc np nh) {sz : Nat} (hz1 : EFA G sz) (hAO : ∀ q, AO q → q < sz) {q : Nat} (z : Int32) (k : Nat) (ez : z = nI k) (hk9 : k < np) (c8 td te : Nat) (hd1 : d (pP k) = nI c8) (hd2 : c8 < nc) (hd3 : d 3 = nI td) (hd4 : td ≤ 9000) (hd5 : d (cP c8 + 6) = nI te) (hd6 : te < 1000) : Wr l yX7_settle cX7_settle 5 ((Option.none : Option FieldType)) 7 112 3 35 G [.ref x, .int z, .ref q, .int 2] (fun H9 => H9.size = sz ∧ DS G AO x bu pa bb bl es bk d nc np nh u hi H9 ∧ At G q (.inr (5, prF d nh k)) H9 ∧ ¬ AO q) (DW x bu pa sz) (fun v9 H9 => v9 = none ∧ ∃ b9, DS G AO x bu pa bb bl es b9 (honD d k) nc np nh (remU u) (remH hi d u) H9) := by
  refine Wr.ofW (by decide) (Nat.le_of_ble_eq_true rfl) (fun p e s m below meth c ls E hG hE hP hr hk hin hl => ?_)
  have hS : va_S (DW x bu pa sz) s.heap s.heap [] := va_S.rf
  have hx := E.1
  have hb := E.2.1
  have hl : lv_has ls 5 [(0, .ref x), (1, .int z), (2, .ref q), (3, .int 2)] := hl
  obtain ⟨hz0, ⟨hX, hU, ⟨fq, hQ, hH⟩, hB⟩, hq5, hqA⟩ := hP
  obtain ⟨ca, ho, fe, cr, pr, cA, pA, k1, k2, k3, k4, k5, k6, k7, k8⟩ := id hB
  obtain ⟨-, ⟨ne_x_bu, ne_x_pa, ne_bu_pa⟩, -⟩ := id hD
  have f_x := hX
  have f_bu := hU
  have f_pa := hQ
  have hEA := hD.efa hz1
  have hN := hD.own hz0
  have hc0 := hO.1.2
  have hp0 := hO.2.1.2
  have hh := hO.2.2.1.2
  refine lv_iconst (v := (-1)) hx hb dX7_settle_0 rfl ?_
  refine lv_istore (lv' := [(4, .int (-1)), (0, .ref x), (1, .int z), (2, .ref q), (3, .int 2)]) hx hb dX7_settle_1 hl (by decide) rfl (fun ls hl => ?_)
  refine lv_iload_n hx hb dX7_settle_3 rfl (lv_at hl 4 rfl) ?_
  refine lv_iconst (v := 2) hx hb dX7_settle_4 rfl ?_
  refine lv_icmp_ne (tgt := 39) hx hb dX7_settle_5 (by decide) (fun c_5 => ?_) (fun c_5 => ?_)
  · exact absurd c_5 (by decide)
  · refine lv_aload_n hx hb dX7_settle_8 rfl (lv_at hl 1 rfl) ?_
    refine gf_X7_26 E hG f_x rfl dX7_settle_9 ?_
    refine gf_X7_86 E hG (kpg hS hN k1) rfl dX7_settle_12 ?_
    refine lv_aload_n hx hb dX7_settle_15 rfl (lv_at hl 1 rfl) ?_
    refine gf_X7_26 E hG f_x rfl dX7_settle_16 ?_
    refine gf_X7_79 E hG (kpg hS hN k1) rfl dX7_settle_19 ?_
    refine lv_aload_n hx hb dX7_settle_22 rfl (lv_at hl 1 rfl) ?_
    refine lv_aload_n hx hb dX7_settle_23 rfl (lv_at hl 3 rfl) ?_
    refine gf_X7_140 E hG (kpg hS hN ⟨hq5, hqA⟩) rfl dX7_settle_24 ?_
    refine Rd.callV (rest := [.int (d 3), .ref ca]) (c_X7_creditAt (cA := cA) l G (d (pP k)) c8 hd1 (by omega) hc0) yk_X7_creditAt E km_X7_107 dX7_settle_27 hG (hE.S hS hEA) ⟨hX, k1.1, k4.1⟩ (At.recv hG f_x rfl) rfl rfl hl.1 ⟨Nat.le_of_ble_eq_true rfl, Nat.le_of_ble_eq_true rfl⟩ ⟨(show 0 ≤ 3 by omega), (show 0 ≤ 35 by omega)⟩ (Nat.le_of_ble_eq_true rfl) ?_
    refine gf_X7_292 E hG (k6 c8 (by omega)).1 rfl dX7_settle_30 ?_
    refine lv_iadd hx hb dX7_settle_33 ?_
    refine Rd.callV (rest := []) (c_X1_firstOpen l G ((d 3) + (d (cP c8 + 6))) (td + te) (nI_ad hd3 hd5) (by omega) hh) yk_X1_firstOpen E km_X7_96 dX7_settle_34 hG (hE.S hS hEA) ⟨k2.1, k3.1⟩ (At.recv hG (kpg hS hN k2) rfl) rfl rfl hl.1 ⟨Nat.le_of_ble_eq_true rfl, Nat.le_of_ble_eq_true rfl⟩ ⟨(show 0 ≤ 3 by omega), (show 0 ≤ 35 by omega)⟩ (Nat.le_of_ble_eq_true rfl) ?_
    refine lv_istore (lv' := [(4, .int (nI (ext d nh (td + te)))), (0, .ref x), (1, .int z), (2, .ref q), (3, .int 2)]) hx hb dX7_settle_37 hl (by decide) rfl (fun ls hl => ?_)
    refine lv_aload_n hx hb dX7_settle_39 rfl (lv_at hl 1 rfl) ?_
    refine lv_aload_n hx hb dX7_settle_40 rfl (lv_at hl 1 rfl) ?_
    refine gf_X7_26 E hG f_x rfl dX7_settle_41 ?_
    refine lv_iload_n hx hb dX7_settle_44 rfl (lv_at hl 2 rfl) ?_
    refine lv_aload_n hx hb dX7_settle_45 rfl (lv_at hl 3 rfl) ?_
    refine lv_iload_n hx hb dX7_settle_46 rfl (lv_at hl 4 rfl) ?_
    refine lv_iload hx hb dX7_settle_47 (lv_at hl 0 rfl) ?_
    have hgz : sz ≤ s.heap.size := Nat.le_trans (Nat.le_of_eq hz0.symm) hS.1
    refine Wr.callV (rest := [.int z, .ref bk, .ref x]) (c_X5_settled (nh := nh) (p9 := k) l G (Nat.le_trans hz1 hgz) 2 (nI (ext d nh (td + te)))) yk_X5_settled E km_X7_295 dX7_settle_49 hG (hE.S hS hEA) ⟨rfl, (kpg hS hN ⟨hq5, hqA⟩)⟩ (At.recv hG (kpg hS hN ⟨hq5, hqA⟩) rfl) rfl rfl hl.1 ⟨Nat.le_of_ble_eq_true rfl, Nat.le_of_ble_eq_true rfl⟩ ⟨(show 0 + 1 ≤ 3 by omega), (show 0 + 6 ≤ 35 by omega)⟩ (Nat.le_of_ble_eq_true rfl) hS (fun q9 h9 => (Or.inr (Or.inr (Or.inr (Nat.le_trans (Nat.le_trans (Nat.le_of_eq hz0.symm) hS.1) h9))))) (fun v9 H locs hq hz9 hfr9 hS => ?_)
    have f_x : At G x (.inr (7, [.ref bu, .int bl, .int es, .ref bk, .ref pa, .int (nI u)])) H := va_at.kept f_x (hfr9 _ (va_at.lt f_x) (Nat.not_le.mpr (va_at.lt f_x)))
    have f_bu : At G bu (.inl (G.2.1 0, 900, .inl bb)) H := va_at.kept f_bu (hfr9 _ (va_at.lt f_bu) (Nat.not_le.mpr (va_at.lt f_bu)))
    have f_pa : At G pa (.inl (G.2.1 3, 8, .inr (.inr (.inr (.inr fq))))) H := va_at.kept f_pa (hfr9 _ (va_at.lt f_pa) (Nat.not_le.mpr (va_at.lt f_pa)))
    obtain ⟨b_1, rfl, hg_1, f_1⟩ := hq
    have hn_1 : ¬ AO b_1 := fun z9 => absurd (hAO _ z9) (Nat.not_lt.mpr (Nat.le_trans hgz hg_1))
    have hgz : sz ≤ H.size := Nat.le_trans (Nat.le_of_eq hz0.symm) hS.1
    refine Wr.callV (rest := [.ref x]) (c_X0_withPresentationAt (d9 := honD d k) l G (Nat.le_trans hz1 hgz) (fun q9 h9 => Nat.lt_of_lt_of_le (hAO q9 h9) hgz) z k ez hk9 (hon_sm hO hk9) (hon_pr hO) (hon_e (by omega) (by omega)).symm hp0) yk_X0_withPresentationAt E km_X7_299 dX7_settle_52 hG (hE.S hS hEA) ⟨rfl, BK.kept hB (kq hS hN), (by rw [← hon_new hh hd1 (by omega) hd3 hd4 hd5 hd6]; exact f_1), hn_1⟩ (At.recv hG (kpg hS hN k1) rfl) rfl rfl hl.1 ⟨Nat.le_of_ble_eq_true rfl, Nat.le_of_ble_eq_true rfl⟩ ⟨(show 0 + 1 + 2 ≤ 3 by omega), (show 0 + 6 + 29 ≤ 35 by omega)⟩ (Nat.le_of_ble_eq_true rfl) hS (fun q9 h9 => (Or.inr (Or.inr (Or.inr (Nat.le_trans (Nat.le_trans (Nat.le_of_eq hz0.symm) hS.1) h9))))) (fun v9 H locs hq hz9 hfr9 hS => ?_)
    have f_x : At G x (.inr (7, [.ref bu, .int bl, .int es, .ref bk, .ref pa, .int (nI u)])) H := va_at.kept f_x (hfr9 _ (va_at.lt f_x) (Nat.not_le.mpr (va_at.lt f_x)))
    have f_bu : At G bu (.inl (G.2.1 0, 900, .inl bb)) H := va_at.kept f_bu (hfr9 _ (va_at.lt f_bu) (Nat.not_le.mpr (va_at.lt f_bu)))
    have f_pa : At G pa (.inl (G.2.1 3, 8, .inr (.inr (.inr (.inr fq))))) H := va_at.kept f_pa (hfr9 _ (va_at.lt f_pa) (Nat.not_le.mpr (va_at.lt f_pa)))
    have f_1 : At G b_1 (.inr (5, [.int (d (pP k)), .int (d (pP k + 1)), .int (d (pP k + 2)), .int (d (pP k + 3)), .int 2, .int (nI (ext d nh (td + te)))])) H := va_at.kept f_1 (hfr9 _ (va_at.lt f_1) (Nat.not_le.mpr (va_at.lt f_1)))
    obtain ⟨b_2, rfl, hB_2⟩ := hq
    refine Wr.callV (rest := []) (c_X7_changeTo l G hD hu hO) yk_X7_changeTo E km_X7_67 dX7_settle_55 hG (hE.S hS hEA) ⟨⟨f_x, f_bu, ⟨_, f_pa, fun j9 h9 => (hH j9 h9).kept (kq hS hN)⟩, BK.kept hB (kq hS hN)⟩, hB_2⟩ (At.recv hG f_x rfl) rfl rfl hl.1 ⟨Nat.le_of_ble_eq_true rfl, Nat.le_of_ble_eq_true rfl⟩ ⟨(show 0 + 1 + 2 + 0 ≤ 3 by omega), (show 0 + 6 + 29 + 0 ≤ 35 by omega)⟩ (Nat.le_of_ble_eq_true rfl) hS (fun q9 h9 => h9.elim Or.inl (fun z9 => Or.inr (Or.inr (Or.inl z9)))) (fun v9 H locs hq hz9 hfr9 hS => ?_)
    obtain ⟨rfl, hDS⟩ := hq
    obtain ⟨f_x, f_bu, ⟨fq2, f_pa, hH2⟩, hB2⟩ := id hDS
    exact wr_void E hr hk hS (show 0 + 1 + 2 + 0 ≤ 3 by omega) (show 0 + 6 + 29 + 0 ≤ 35 by omega) (⟨rfl, _, hDS⟩) dX7_settle_58

set_option maxHeartbeats 4000000 in
set_option maxRecDepth 100000 in
/-- settle -/
theorem c_X7_settle_n (l : Launch) (G : CG) {x bu pa bk : Nat} {AO : Nat → Prop} {bb d : Nat → Int32} {bl es : Int32} {nc np nh u : Nat} {hi : Nat → Nat → Int32} (hD : DD G AO x bu pa) (hu : u ≤ 8) (hO : OkD d nc np nh) {sz : Nat} (hz1 : EFA G sz) (hAO : ∀ q, AO q → q < sz) {q : Nat} (z : Int32) (k : Nat) (ez : z = nI k) (hk9 : k < np) (st : Int32) (hst9 : ¬ st = 2) : Wr l yX7_settle cX7_settle 5 ((Option.none : Option FieldType)) 3 69 3 35 G [.ref x, .int z, .ref q, .int st] (fun H9 => H9.size = sz ∧ DS G AO x bu pa bb bl es bk d nc np nh u hi H9 ∧ At G q (.inr (5, prF d nh k)) H9 ∧ ¬ AO q) (DW x bu pa sz) (fun v9 H9 => v9 = none ∧ ∃ b9, DS G AO x bu pa bb bl es b9 (stD d k st) nc np nh (remU u) (remH hi d u) H9) := by
  refine Wr.ofW (by decide) (Nat.le_of_ble_eq_true rfl) (fun p e s m below meth c ls E hG hE hP hr hk hin hl => ?_)
  have hS : va_S (DW x bu pa sz) s.heap s.heap [] := va_S.rf
  have hx := E.1
  have hb := E.2.1
  have hl : lv_has ls 5 [(0, .ref x), (1, .int z), (2, .ref q), (3, .int st)] := hl
  obtain ⟨hz0, ⟨hX, hU, ⟨fq, hQ, hH⟩, hB⟩, hq5, hqA⟩ := hP
  obtain ⟨ca, ho, fe, cr, pr, cA, pA, k1, k2, k3, k4, k5, k6, k7, k8⟩ := id hB
  obtain ⟨-, ⟨ne_x_bu, ne_x_pa, ne_bu_pa⟩, -⟩ := id hD
  have f_x := hX
  have f_bu := hU
  have f_pa := hQ
  have hEA := hD.efa hz1
  have hN := hD.own hz0
  have hc0 := hO.1.2
  have hp0 := hO.2.1.2
  have hh := hO.2.2.1.2
  refine lv_iconst (v := (-1)) hx hb dX7_settle_0 rfl ?_
  refine lv_istore (lv' := [(4, .int (-1)), (0, .ref x), (1, .int z), (2, .ref q), (3, .int st)]) hx hb dX7_settle_1 hl (by decide) rfl (fun ls hl => ?_)
  refine lv_iload_n hx hb dX7_settle_3 rfl (lv_at hl 4 rfl) ?_
  refine lv_iconst (v := 2) hx hb dX7_settle_4 rfl ?_
  refine lv_icmp_ne (tgt := 39) hx hb dX7_settle_5 (by decide) (fun c_5 => ?_) (fun c_5 => ?_)
  · refine lv_aload_n hx hb dX7_settle_39 rfl (lv_at hl 1 rfl) ?_
    refine lv_aload_n hx hb dX7_settle_40 rfl (lv_at hl 1 rfl) ?_
    refine gf_X7_26 E hG f_x rfl dX7_settle_41 ?_
    refine lv_iload_n hx hb dX7_settle_44 rfl (lv_at hl 2 rfl) ?_
    refine lv_aload_n hx hb dX7_settle_45 rfl (lv_at hl 3 rfl) ?_
    refine lv_iload_n hx hb dX7_settle_46 rfl (lv_at hl 4 rfl) ?_
    refine lv_iload hx hb dX7_settle_47 (lv_at hl 0 rfl) ?_
    have hgz : sz ≤ s.heap.size := Nat.le_trans (Nat.le_of_eq hz0.symm) hS.1
    refine Wr.callV (rest := [.int z, .ref bk, .ref x]) (c_X5_settled (nh := nh) (p9 := k) l G (Nat.le_trans hz1 hgz) st (-1)) yk_X5_settled E km_X7_295 dX7_settle_49 hG (hE.S hS hEA) ⟨rfl, (kpg hS hN ⟨hq5, hqA⟩)⟩ (At.recv hG (kpg hS hN ⟨hq5, hqA⟩) rfl) rfl rfl hl.1 ⟨Nat.le_of_ble_eq_true rfl, Nat.le_of_ble_eq_true rfl⟩ ⟨(show 0 + 1 ≤ 3 by omega), (show 0 + 6 ≤ 35 by omega)⟩ (Nat.le_of_ble_eq_true rfl) hS (fun q9 h9 => (Or.inr (Or.inr (Or.inr (Nat.le_trans (Nat.le_trans (Nat.le_of_eq hz0.symm) hS.1) h9))))) (fun v9 H locs hq hz9 hfr9 hS => ?_)
    have f_x : At G x (.inr (7, [.ref bu, .int bl, .int es, .ref bk, .ref pa, .int (nI u)])) H := va_at.kept f_x (hfr9 _ (va_at.lt f_x) (Nat.not_le.mpr (va_at.lt f_x)))
    have f_bu : At G bu (.inl (G.2.1 0, 900, .inl bb)) H := va_at.kept f_bu (hfr9 _ (va_at.lt f_bu) (Nat.not_le.mpr (va_at.lt f_bu)))
    have f_pa : At G pa (.inl (G.2.1 3, 8, .inr (.inr (.inr (.inr fq))))) H := va_at.kept f_pa (hfr9 _ (va_at.lt f_pa) (Nat.not_le.mpr (va_at.lt f_pa)))
    obtain ⟨b_1, rfl, hg_1, f_1⟩ := hq
    have hn_1 : ¬ AO b_1 := fun z9 => absurd (hAO _ z9) (Nat.not_lt.mpr (Nat.le_trans hgz hg_1))
    have hgz : sz ≤ H.size := Nat.le_trans (Nat.le_of_eq hz0.symm) hS.1
    refine Wr.callV (rest := [.ref x]) (c_X0_withPresentationAt (d9 := stD d k st) l G (Nat.le_trans hz1 hgz) (fun q9 h9 => Nat.lt_of_lt_of_le (hAO q9 h9) hgz) z k ez hk9 (st_sm hO hk9) (st_pr hO) (st_e (by omega)).symm hp0) yk_X0_withPresentationAt E km_X7_299 dX7_settle_52 hG (hE.S hS hEA) ⟨rfl, BK.kept hB (kq hS hN), (by rw [← st_new hst9]; exact f_1), hn_1⟩ (At.recv hG (kpg hS hN k1) rfl) rfl rfl hl.1 ⟨Nat.le_of_ble_eq_true rfl, Nat.le_of_ble_eq_true rfl⟩ ⟨(show 0 + 1 + 2 ≤ 3 by omega), (show 0 + 6 + 29 ≤ 35 by omega)⟩ (Nat.le_of_ble_eq_true rfl) hS (fun q9 h9 => (Or.inr (Or.inr (Or.inr (Nat.le_trans (Nat.le_trans (Nat.le_of_eq hz0.symm) hS.1) h9))))) (fun v9 H locs hq hz9 hfr9 hS => ?_)
    have f_x : At G x (.inr (7, [.ref bu, .int bl, .int es, .ref bk, .ref pa, .int (nI u)])) H := va_at.kept f_x (hfr9 _ (va_at.lt f_x) (Nat.not_le.mpr (va_at.lt f_x)))
    have f_bu : At G bu (.inl (G.2.1 0, 900, .inl bb)) H := va_at.kept f_bu (hfr9 _ (va_at.lt f_bu) (Nat.not_le.mpr (va_at.lt f_bu)))
    have f_pa : At G pa (.inl (G.2.1 3, 8, .inr (.inr (.inr (.inr fq))))) H := va_at.kept f_pa (hfr9 _ (va_at.lt f_pa) (Nat.not_le.mpr (va_at.lt f_pa)))
    have f_1 : At G b_1 (.inr (5, [.int (d (pP k)), .int (d (pP k + 1)), .int (d (pP k + 2)), .int (d (pP k + 3)), .int st, .int (-1)])) H := va_at.kept f_1 (hfr9 _ (va_at.lt f_1) (Nat.not_le.mpr (va_at.lt f_1)))
    obtain ⟨b_2, rfl, hB_2⟩ := hq
    refine Wr.callV (rest := []) (c_X7_changeTo l G hD hu hO) yk_X7_changeTo E km_X7_67 dX7_settle_55 hG (hE.S hS hEA) ⟨⟨f_x, f_bu, ⟨_, f_pa, fun j9 h9 => (hH j9 h9).kept (kq hS hN)⟩, BK.kept hB (kq hS hN)⟩, hB_2⟩ (At.recv hG f_x rfl) rfl rfl hl.1 ⟨Nat.le_of_ble_eq_true rfl, Nat.le_of_ble_eq_true rfl⟩ ⟨(show 0 + 1 + 2 + 0 ≤ 3 by omega), (show 0 + 6 + 29 + 0 ≤ 35 by omega)⟩ (Nat.le_of_ble_eq_true rfl) hS (fun q9 h9 => h9.elim Or.inl (fun z9 => Or.inr (Or.inr (Or.inl z9)))) (fun v9 H locs hq hz9 hfr9 hS => ?_)
    obtain ⟨rfl, hDS⟩ := hq
    obtain ⟨f_x, f_bu, ⟨fq2, f_pa, hH2⟩, hB2⟩ := id hDS
    exact wr_void E hr hk hS (show 0 + 1 + 2 + 0 ≤ 3 by omega) (show 0 + 6 + 29 + 0 ≤ 35 by omega) (⟨rfl, _, hDS⟩) dX7_settle_58
  · exact absurd c_5 hst9

set_option maxHeartbeats 4000000 in
set_option maxRecDepth 100000 in
/-- examine -/
theorem c_X7_examine_h (l : Launch) (G : CG) {x bu pa bk : Nat} {AO : Nat → Prop} {bb d : Nat → Int32} {bl es : Int32} {nc np nh u : Nat} {hi : Nat → Nat → Int32} (hD : DD G AO x bu pa) (hu : u ≤ 8) (hO : OkD d nc np nh) {sz : Nat} (hz1 : EFA G sz) (hAO : ∀ q, AO q → q < sz) (z : Int32) (k : Nat) (ez : z = nI k) (hk9 : k < np) (dy : Nat) (hd7 : d (pP k + 1) = nI dy) (hd8 : dy ≤ 9000) (hst9 : d (pP k + 4) = 0) (hex9 : exV d nh k dy = 1) (c8 td te : Nat) (hd1 : d (pP k) = nI c8) (hd2 : c8 < nc) (hd3 : d 3 = nI td) (hd4 : td ≤ 9000) (hd5 : d (cP c8 + 6) = nI te) (hd6 : te < 1000) : Wr l yX7_examine cX7_examine 4 ((Option.some FieldType.int)) 8 136 3 35 G [.ref x, .int z] (fun H9 => H9.size = sz ∧ DS G AO x bu pa bb bl es bk d nc np nh u hi H9) (DW x bu pa sz) (fun v9 H9 => v9 = some (.int 2) ∧ ∃ b9, DS G AO x bu pa bb bl es b9 (honD d k) nc np nh (remU u) (remH hi d u) H9) := by
  refine Wr.ofW (by decide) (Nat.le_of_ble_eq_true rfl) (fun p e s m below meth c ls E hG hE hP hr hk hin hl => ?_)
  have hS : va_S (DW x bu pa sz) s.heap s.heap [] := va_S.rf
  have hx := E.1
  have hb := E.2.1
  have hl : lv_has ls 4 [(0, .ref x), (1, .int z)] := hl
  obtain ⟨hz0, ⟨hX, hU, ⟨fq, hQ, hH⟩, hB⟩⟩ := hP
  obtain ⟨ca, ho, fe, cr, pr, cA, pA, k1, k2, k3, k4, k5, k6, k7, k8⟩ := id hB
  obtain ⟨-, ⟨ne_x_bu, ne_x_pa, ne_bu_pa⟩, -⟩ := id hD
  have f_x := hX
  have f_bu := hU
  have f_pa := hQ
  have hEA := hD.efa hz1
  have hN := hD.own hz0
  have hc0 := hO.1.2
  have hp0 := hO.2.1.2
  have hh := hO.2.2.1.2
  refine lv_aload_n hx hb dX7_examine_0 rfl (lv_at hl 0 rfl) ?_
  refine lv_iload_n hx hb dX7_examine_1 rfl (lv_at hl 1 rfl) ?_
  refine Rd.callV (rest := []) (c_X7_presentationAt (pA := pA) l G z k ez (by omega) hp0) yk_X7_presentationAt E km_X7_136 dX7_examine_2 hG (hE.S hS hEA) ⟨hX, k1.1, k5.1⟩ (At.recv hG f_x rfl) rfl rfl hl.1 ⟨Nat.le_of_ble_eq_true rfl, Nat.le_of_ble_eq_true rfl⟩ ⟨(show 0 ≤ 3 by omega), (show 0 ≤ 35 by omega)⟩ (Nat.le_of_ble_eq_true rfl) ?_
  refine lv_astore_n (lv' := [(2, .ref (pA k)), (0, .ref x), (1, .int z)]) hx hb dX7_examine_5 rfl hl (by decide) rfl (fun ls hl => ?_)
  refine lv_aload_n hx hb dX7_examine_6 rfl (lv_at hl 0 rfl) ?_
  refine gf_X7_145 E hG (k7 k (by omega)).1 rfl dX7_examine_7 ?_
  refine lv_if_eq (tgt := 23) hx hb dX7_examine_10 (by decide) (fun c_10 => ?_) (fun c_10 => ?_)
  · refine lv_aload_n hx hb dX7_examine_23 rfl (lv_at hl 1 rfl) ?_
    refine lv_aload_n hx hb dX7_examine_24 rfl (lv_at hl 0 rfl) ?_
    refine Rd.callV (rest := []) (c_X7_stateAfterExamination l G dy hd7 hd8 hh) yk_X7_stateAfterExamination E km_X7_219 dX7_examine_25 hG (hE.S hS hEA) ⟨⟨hX, hB⟩, (k7 k hk9).1⟩ (At.recv hG f_x rfl) rfl rfl hl.1 ⟨Nat.le_of_ble_eq_true rfl, Nat.le_of_ble_eq_true rfl⟩ ⟨(show 0 ≤ 3 by omega), (show 0 ≤ 35 by omega)⟩ (Nat.le_of_ble_eq_true rfl) ?_
    refine lv_ci (y := 2) (if_pos hex9) ?_
    refine lv_istore_n (lv' := [(3, .int 2), (2, .ref (pA k)), (0, .ref x), (1, .int z)]) hx hb dX7_examine_28 rfl hl (by decide) rfl (fun ls hl => ?_)
    refine lv_aload_n hx hb dX7_examine_29 rfl (lv_at hl 2 rfl) ?_
    refine lv_iload_n hx hb dX7_examine_30 rfl (lv_at hl 3 rfl) ?_
    refine lv_aload_n hx hb dX7_examine_31 rfl (lv_at hl 1 rfl) ?_
    refine lv_iload_n hx hb dX7_examine_32 rfl (lv_at hl 0 rfl) ?_
    refine Wr.callV (rest := []) (c_X7_settle_h l G hD hu hO hz1 hAO z k ez hk9 c8 td te hd1 hd2 hd3 hd4 hd5 hd6) yk_X7_settle E km_X7_222 dX7_examine_33 hG (hE.S hS hEA) ⟨hz0, ⟨hX, hU, ⟨_, hQ, hH⟩, hB⟩, (k7 k hk9).1, (k7 k hk9).2⟩ (At.recv hG f_x rfl) rfl rfl hl.1 ⟨Nat.le_of_ble_eq_true rfl, Nat.le_of_ble_eq_true rfl⟩ ⟨(show 0 + 3 ≤ 3 by omega), (show 0 + 35 ≤ 35 by omega)⟩ (Nat.le_of_ble_eq_true rfl) hS (fun _ h9 => h9) (fun v9 H locs hq hz9 hfr9 hS => ?_)
    obtain ⟨rfl, b9, hDS⟩ := hq
    obtain ⟨f_x, f_bu, ⟨fq2, f_pa, hH2⟩, hB2⟩ := id hDS
    obtain ⟨ca2, ho2, fe2, cr2, pr2, cA2, pA2, j1, j2, j3, j4, j5, j6, j7, j8⟩ := id hB2
    refine lv_iload_n hx hb dX7_examine_36 rfl (lv_at hl 0 rfl) ?_
    exact wr_int E hr hk hS (show 0 + 3 ≤ 3 by omega) (show 0 + 35 ≤ 35 by omega) (⟨rfl, _, hDS⟩) dX7_examine_37
  · exact absurd hst9 c_10

set_option maxHeartbeats 4000000 in
set_option maxRecDepth 100000 in
/-- examine -/
theorem c_X7_examine_d (l : Launch) (G : CG) {x bu pa bk : Nat} {AO : Nat → Prop} {bb d : Nat → Int32} {bl es : Int32} {nc np nh u : Nat} {hi : Nat → Nat → Int32} (hD : DD G AO x bu pa) (hu : u ≤ 8) (hO : OkD d nc np nh) {sz : Nat} (hz1 : EFA G sz) (hAO : ∀ q, AO q → q < sz) (z : Int32) (k : Nat) (ez : z = nI k) (hk9 : k < np) (dy : Nat) (hd7 : d (pP k + 1) = nI dy) (hd8 : dy ≤ 9000) (hst9 : d (pP k + 4) = 0) (hex9 : exV d nh k dy = 0) : Wr l yX7_examine cX7_examine 4 ((Option.some FieldType.int)) 7 135 3 35 G [.ref x, .int z] (fun H9 => H9.size = sz ∧ DS G AO x bu pa bb bl es bk d nc np nh u hi H9) (DW x bu pa sz) (fun v9 H9 => v9 = some (.int 1) ∧ ∃ b9, DS G AO x bu pa bb bl es b9 (stD d k 1) nc np nh (remU u) (remH hi d u) H9) := by
  refine Wr.ofW (by decide) (Nat.le_of_ble_eq_true rfl) (fun p e s m below meth c ls E hG hE hP hr hk hin hl => ?_)
  have hS : va_S (DW x bu pa sz) s.heap s.heap [] := va_S.rf
  have hx := E.1
  have hb := E.2.1
  have hl : lv_has ls 4 [(0, .ref x), (1, .int z)] := hl
  obtain ⟨hz0, ⟨hX, hU, ⟨fq, hQ, hH⟩, hB⟩⟩ := hP
  obtain ⟨ca, ho, fe, cr, pr, cA, pA, k1, k2, k3, k4, k5, k6, k7, k8⟩ := id hB
  obtain ⟨-, ⟨ne_x_bu, ne_x_pa, ne_bu_pa⟩, -⟩ := id hD
  have f_x := hX
  have f_bu := hU
  have f_pa := hQ
  have hEA := hD.efa hz1
  have hN := hD.own hz0
  have hc0 := hO.1.2
  have hp0 := hO.2.1.2
  have hh := hO.2.2.1.2
  refine lv_aload_n hx hb dX7_examine_0 rfl (lv_at hl 0 rfl) ?_
  refine lv_iload_n hx hb dX7_examine_1 rfl (lv_at hl 1 rfl) ?_
  refine Rd.callV (rest := []) (c_X7_presentationAt (pA := pA) l G z k ez (by omega) hp0) yk_X7_presentationAt E km_X7_136 dX7_examine_2 hG (hE.S hS hEA) ⟨hX, k1.1, k5.1⟩ (At.recv hG f_x rfl) rfl rfl hl.1 ⟨Nat.le_of_ble_eq_true rfl, Nat.le_of_ble_eq_true rfl⟩ ⟨(show 0 ≤ 3 by omega), (show 0 ≤ 35 by omega)⟩ (Nat.le_of_ble_eq_true rfl) ?_
  refine lv_astore_n (lv' := [(2, .ref (pA k)), (0, .ref x), (1, .int z)]) hx hb dX7_examine_5 rfl hl (by decide) rfl (fun ls hl => ?_)
  refine lv_aload_n hx hb dX7_examine_6 rfl (lv_at hl 0 rfl) ?_
  refine gf_X7_145 E hG (k7 k (by omega)).1 rfl dX7_examine_7 ?_
  refine lv_if_eq (tgt := 23) hx hb dX7_examine_10 (by decide) (fun c_10 => ?_) (fun c_10 => ?_)
  · refine lv_aload_n hx hb dX7_examine_23 rfl (lv_at hl 1 rfl) ?_
    refine lv_aload_n hx hb dX7_examine_24 rfl (lv_at hl 0 rfl) ?_
    refine Rd.callV (rest := []) (c_X7_stateAfterExamination l G dy hd7 hd8 hh) yk_X7_stateAfterExamination E km_X7_219 dX7_examine_25 hG (hE.S hS hEA) ⟨⟨hX, hB⟩, (k7 k hk9).1⟩ (At.recv hG f_x rfl) rfl rfl hl.1 ⟨Nat.le_of_ble_eq_true rfl, Nat.le_of_ble_eq_true rfl⟩ ⟨(show 0 ≤ 3 by omega), (show 0 ≤ 35 by omega)⟩ (Nat.le_of_ble_eq_true rfl) ?_
    refine lv_ci (y := 1) (if_neg (by rw [hex9]; decide)) ?_
    refine lv_istore_n (lv' := [(3, .int 1), (2, .ref (pA k)), (0, .ref x), (1, .int z)]) hx hb dX7_examine_28 rfl hl (by decide) rfl (fun ls hl => ?_)
    refine lv_aload_n hx hb dX7_examine_29 rfl (lv_at hl 2 rfl) ?_
    refine lv_iload_n hx hb dX7_examine_30 rfl (lv_at hl 3 rfl) ?_
    refine lv_aload_n hx hb dX7_examine_31 rfl (lv_at hl 1 rfl) ?_
    refine lv_iload_n hx hb dX7_examine_32 rfl (lv_at hl 0 rfl) ?_
    refine Wr.callV (rest := []) (c_X7_settle_n l G hD hu hO hz1 hAO z k ez hk9 1 (by decide)) yk_X7_settle E km_X7_222 dX7_examine_33 hG (hE.S hS hEA) ⟨hz0, ⟨hX, hU, ⟨_, hQ, hH⟩, hB⟩, (k7 k hk9).1, (k7 k hk9).2⟩ (At.recv hG f_x rfl) rfl rfl hl.1 ⟨Nat.le_of_ble_eq_true rfl, Nat.le_of_ble_eq_true rfl⟩ ⟨(show 0 + 3 ≤ 3 by omega), (show 0 + 35 ≤ 35 by omega)⟩ (Nat.le_of_ble_eq_true rfl) hS (fun _ h9 => h9) (fun v9 H locs hq hz9 hfr9 hS => ?_)
    obtain ⟨rfl, b9, hDS⟩ := hq
    obtain ⟨f_x, f_bu, ⟨fq2, f_pa, hH2⟩, hB2⟩ := id hDS
    obtain ⟨ca2, ho2, fe2, cr2, pr2, cA2, pA2, j1, j2, j3, j4, j5, j6, j7, j8⟩ := id hB2
    refine lv_iload_n hx hb dX7_examine_36 rfl (lv_at hl 0 rfl) ?_
    exact wr_int E hr hk hS (show 0 + 3 ≤ 3 by omega) (show 0 + 35 ≤ 35 by omega) (⟨rfl, _, hDS⟩) dX7_examine_37
  · exact absurd hst9 c_10

set_option maxHeartbeats 4000000 in
set_option maxRecDepth 100000 in
/-- waive -/
theorem c_X7_waive (l : Launch) (G : CG) {x bu pa bk : Nat} {AO : Nat → Prop} {bb d : Nat → Int32} {bl es : Int32} {nc np nh u : Nat} {hi : Nat → Nat → Int32} (hD : DD G AO x bu pa) (hu : u ≤ 8) (hO : OkD d nc np nh) {sz : Nat} (hz1 : EFA G sz) (hAO : ∀ q, AO q → q < sz) (z : Int32) (k : Nat) (ez : z = nI k) (hk9 : k < np) (hst9 : d (pP k + 4) = 1) (hov : d (pP k + 3) &&& 4 = 0) (c8 td te : Nat) (hd1 : d (pP k) = nI c8) (hd2 : c8 < nc) (hd3 : d 3 = nI td) (hd4 : td ≤ 9000) (hd5 : d (cP c8 + 6) = nI te) (hd6 : te < 1000) : Wr l yX7_waive cX7_waive 3 ((Option.some FieldType.int)) 8 136 3 35 G [.ref x, .int z] (fun H9 => H9.size = sz ∧ DS G AO x bu pa bb bl es bk d nc np nh u hi H9) (DW x bu pa sz) (fun v9 H9 => v9 = some (.int (dueD (honD d k) nh k)) ∧ ∃ b9, DS G AO x bu pa bb bl es b9 (honD d k) nc np nh (remU u) (remH hi d u) H9) := by
  refine Wr.ofW (by decide) (Nat.le_of_ble_eq_true rfl) (fun p e s m below meth c ls E hG hE hP hr hk hin hl => ?_)
  have hS : va_S (DW x bu pa sz) s.heap s.heap [] := va_S.rf
  have hx := E.1
  have hb := E.2.1
  have hl : lv_has ls 3 [(0, .ref x), (1, .int z)] := hl
  obtain ⟨hz0, ⟨hX, hU, ⟨fq, hQ, hH⟩, hB⟩⟩ := hP
  obtain ⟨ca, ho, fe, cr, pr, cA, pA, k1, k2, k3, k4, k5, k6, k7, k8⟩ := id hB
  obtain ⟨-, ⟨ne_x_bu, ne_x_pa, ne_bu_pa⟩, -⟩ := id hD
  have f_x := hX
  have f_bu := hU
  have f_pa := hQ
  have hEA := hD.efa hz1
  have hN := hD.own hz0
  have hc0 := hO.1.2
  have hp0 := hO.2.1.2
  have hh := hO.2.2.1.2
  refine lv_aload_n hx hb dX7_waive_0 rfl (lv_at hl 0 rfl) ?_
  refine lv_iload_n hx hb dX7_waive_1 rfl (lv_at hl 1 rfl) ?_
  refine Rd.callV (rest := []) (c_X7_presentationAt (pA := pA) l G z k ez (by omega) hp0) yk_X7_presentationAt E km_X7_136 dX7_waive_2 hG (hE.S hS hEA) ⟨hX, k1.1, k5.1⟩ (At.recv hG f_x rfl) rfl rfl hl.1 ⟨Nat.le_of_ble_eq_true rfl, Nat.le_of_ble_eq_true rfl⟩ ⟨(show 0 ≤ 3 by omega), (show 0 ≤ 35 by omega)⟩ (Nat.le_of_ble_eq_true rfl) ?_
  refine lv_astore_n (lv' := [(2, .ref (pA k)), (0, .ref x), (1, .int z)]) hx hb dX7_waive_5 rfl hl (by decide) rfl (fun ls hl => ?_)
  refine lv_aload_n hx hb dX7_waive_6 rfl (lv_at hl 0 rfl) ?_
  refine gf_X7_145 E hG (k7 k (by omega)).1 rfl dX7_waive_7 ?_
  refine lv_iconst (v := 1) hx hb dX7_waive_10 rfl ?_
  refine lv_icmp_ne (tgt := 22) hx hb dX7_waive_11 (by decide) (fun c_11 => ?_) (fun c_11 => ?_)
  · exact absurd hst9 c_11
  · refine lv_aload_n hx hb dX7_waive_14 rfl (lv_at hl 0 rfl) ?_
    refine lv_iconst (v := 4) hx hb dX7_waive_15 rfl ?_
    refine Rd.callV (rest := []) (c_X5_has l G (d (pP k + 3)) 4 rfl) yk_X5_has E km_X7_226 dX7_waive_16 hG (hE.S hS hEA) (k7 k (by omega)).1 (At.recv hG (k7 k (by omega)).1 rfl) rfl rfl hl.1 ⟨Nat.le_of_ble_eq_true rfl, Nat.le_of_ble_eq_true rfl⟩ ⟨(show 0 ≤ 3 by omega), (show 0 ≤ 35 by omega)⟩ (Nat.le_of_ble_eq_true rfl) ?_
    refine lv_if_eq (tgt := 32) hx hb dX7_waive_19 (by decide) (fun c_19 => ?_) (fun c_19 => ?_)
    · refine lv_aload_n hx hb dX7_waive_32 rfl (lv_at hl 1 rfl) ?_
      refine lv_iload_n hx hb dX7_waive_33 rfl (lv_at hl 2 rfl) ?_
      refine lv_aload_n hx hb dX7_waive_34 rfl (lv_at hl 0 rfl) ?_
      refine lv_iconst (v := 2) hx hb dX7_waive_35 rfl ?_
      refine Wr.callV (rest := []) (c_X7_settle_h l G hD hu hO hz1 hAO z k ez hk9 c8 td te hd1 hd2 hd3 hd4 hd5 hd6) yk_X7_settle E km_X7_222 dX7_waive_36 hG (hE.S hS hEA) ⟨hz0, ⟨hX, hU, ⟨_, hQ, hH⟩, hB⟩, (k7 k hk9).1, (k7 k hk9).2⟩ (At.recv hG f_x rfl) rfl rfl hl.1 ⟨Nat.le_of_ble_eq_true rfl, Nat.le_of_ble_eq_true rfl⟩ ⟨(show 0 + 3 ≤ 3 by omega), (show 0 + 35 ≤ 35 by omega)⟩ (Nat.le_of_ble_eq_true rfl) hS (fun _ h9 => h9) (fun v9 H locs hq hz9 hfr9 hS => ?_)
      obtain ⟨rfl, b9, hDS⟩ := hq
      obtain ⟨f_x, f_bu, ⟨fq2, f_pa, hH2⟩, hB2⟩ := id hDS
      obtain ⟨ca2, ho2, fe2, cr2, pr2, cA2, pA2, j1, j2, j3, j4, j5, j6, j7, j8⟩ := id hB2
      refine lv_aload_n hx hb dX7_waive_39 rfl (lv_at hl 1 rfl) ?_
      refine lv_iload_n hx hb dX7_waive_40 rfl (lv_at hl 2 rfl) ?_
      refine Rd.callV (rest := []) (c_X7_presentationAt (pA := pA2) l G z k ez (by omega) hp0) yk_X7_presentationAt E km_X7_136 dX7_waive_41 hG (hE.S hS hEA) ⟨f_x, j1.1, j5.1⟩ (At.recv hG f_x rfl) rfl rfl hl.1 ⟨Nat.le_of_ble_eq_true rfl, Nat.le_of_ble_eq_true rfl⟩ ⟨(show 0 + 3 ≤ 3 by omega), (show 0 + 35 ≤ 35 by omega)⟩ (Nat.le_of_ble_eq_true rfl) ?_
      refine gf_X7_155 E hG (j7 k (by omega)).1 rfl dX7_waive_44 ?_
      exact wr_int E hr hk hS (show 0 + 3 ≤ 3 by omega) (show 0 + 35 ≤ 35 by omega) (⟨rfl, _, hDS⟩) dX7_waive_47
    · exact absurd (ite01.mpr hov) c_19

set_option maxHeartbeats 4000000 in
set_option maxRecDepth 100000 in
/-- refuse -/
theorem c_X7_refuse (l : Launch) (G : CG) {x bu pa bk : Nat} {AO : Nat → Prop} {bb d : Nat → Int32} {bl es : Int32} {nc np nh u : Nat} {hi : Nat → Nat → Int32} (hD : DD G AO x bu pa) (hu : u ≤ 8) (hO : OkD d nc np nh) {sz : Nat} (hz1 : EFA G sz) (hAO : ∀ q, AO q → q < sz) (z : Int32) (k : Nat) (ez : z = nI k) (hk9 : k < np) (hst9 : d (pP k + 4) = 1) (c8 : Nat) (hd1 : d (pP k) = nI c8) (hd2 : c8 < nc) : Wr l yX7_refuse cX7_refuse 3 ((Option.some FieldType.int)) 7 112 3 35 G [.ref x, .int z] (fun H9 => H9.size = sz ∧ DS G AO x bu pa bb bl es bk d nc np nh u hi H9) (DW x bu pa sz) (fun v9 H9 => v9 = some (.int (availV (stD d k 3) np nc c8)) ∧ ∃ b9, DS G AO x bu pa bb bl es b9 (stD d k 3) nc np nh (remU u) (remH hi d u) H9) := by
  refine Wr.ofW (by decide) (Nat.le_of_ble_eq_true rfl) (fun p e s m below meth c ls E hG hE hP hr hk hin hl => ?_)
  have hS : va_S (DW x bu pa sz) s.heap s.heap [] := va_S.rf
  have hx := E.1
  have hb := E.2.1
  have hl : lv_has ls 3 [(0, .ref x), (1, .int z)] := hl
  obtain ⟨hz0, ⟨hX, hU, ⟨fq, hQ, hH⟩, hB⟩⟩ := hP
  obtain ⟨ca, ho, fe, cr, pr, cA, pA, k1, k2, k3, k4, k5, k6, k7, k8⟩ := id hB
  obtain ⟨-, ⟨ne_x_bu, ne_x_pa, ne_bu_pa⟩, -⟩ := id hD
  have f_x := hX
  have f_bu := hU
  have f_pa := hQ
  have hEA := hD.efa hz1
  have hN := hD.own hz0
  have hc0 := hO.1.2
  have hp0 := hO.2.1.2
  have hh := hO.2.2.1.2
  refine lv_aload_n hx hb dX7_refuse_0 rfl (lv_at hl 0 rfl) ?_
  refine lv_iload_n hx hb dX7_refuse_1 rfl (lv_at hl 1 rfl) ?_
  refine Rd.callV (rest := []) (c_X7_presentationAt (pA := pA) l G z k ez (by omega) hp0) yk_X7_presentationAt E km_X7_136 dX7_refuse_2 hG (hE.S hS hEA) ⟨hX, k1.1, k5.1⟩ (At.recv hG f_x rfl) rfl rfl hl.1 ⟨Nat.le_of_ble_eq_true rfl, Nat.le_of_ble_eq_true rfl⟩ ⟨(show 0 ≤ 3 by omega), (show 0 ≤ 35 by omega)⟩ (Nat.le_of_ble_eq_true rfl) ?_
  refine lv_astore_n (lv' := [(2, .ref (pA k)), (0, .ref x), (1, .int z)]) hx hb dX7_refuse_5 rfl hl (by decide) rfl (fun ls hl => ?_)
  refine lv_aload_n hx hb dX7_refuse_6 rfl (lv_at hl 0 rfl) ?_
  refine gf_X7_145 E hG (k7 k (by omega)).1 rfl dX7_refuse_7 ?_
  refine lv_iconst (v := 1) hx hb dX7_refuse_10 rfl ?_
  refine lv_icmp_eq (tgt := 24) hx hb dX7_refuse_11 (by decide) (fun c_11 => ?_) (fun c_11 => ?_)
  · refine lv_aload_n hx hb dX7_refuse_24 rfl (lv_at hl 1 rfl) ?_
    refine lv_iload_n hx hb dX7_refuse_25 rfl (lv_at hl 2 rfl) ?_
    refine lv_aload_n hx hb dX7_refuse_26 rfl (lv_at hl 0 rfl) ?_
    refine lv_iconst (v := 3) hx hb dX7_refuse_27 rfl ?_
    refine Wr.callV (rest := []) (c_X7_settle_n l G hD hu hO hz1 hAO z k ez hk9 3 (by decide)) yk_X7_settle E km_X7_222 dX7_refuse_28 hG (hE.S hS hEA) ⟨hz0, ⟨hX, hU, ⟨_, hQ, hH⟩, hB⟩, (k7 k hk9).1, (k7 k hk9).2⟩ (At.recv hG f_x rfl) rfl rfl hl.1 ⟨Nat.le_of_ble_eq_true rfl, Nat.le_of_ble_eq_true rfl⟩ ⟨(show 0 + 3 ≤ 3 by omega), (show 0 + 35 ≤ 35 by omega)⟩ (Nat.le_of_ble_eq_true rfl) hS (fun _ h9 => h9) (fun v9 H locs hq hz9 hfr9 hS => ?_)
    obtain ⟨rfl, b9, hDS⟩ := hq
    obtain ⟨f_x, f_bu, ⟨fq2, f_pa, hH2⟩, hB2⟩ := id hDS
    obtain ⟨ca2, ho2, fe2, cr2, pr2, cA2, pA2, j1, j2, j3, j4, j5, j6, j7, j8⟩ := id hB2
    refine lv_aload_n hx hb dX7_refuse_31 rfl (lv_at hl 1 rfl) ?_
    refine gf_X7_26 E hG f_x rfl dX7_refuse_32 ?_
    refine lv_aload_n hx hb dX7_refuse_35 rfl (lv_at hl 1 rfl) ?_
    refine lv_aload_n hx hb dX7_refuse_36 rfl (lv_at hl 0 rfl) ?_
    refine gf_X7_140 E hG (kpg hS hN (k7 k hk9)) rfl dX7_refuse_37 ?_
    refine Rd.callV (rest := [.ref b9]) (c_X7_creditAt (cA := cA2) l G (d (pP k)) c8 hd1 (by omega) hc0) yk_X7_creditAt E km_X7_107 dX7_refuse_40 hG (hE.S hS hEA) ⟨f_x, j1.1, j4.1⟩ (At.recv hG f_x rfl) rfl rfl hl.1 ⟨Nat.le_of_ble_eq_true rfl, Nat.le_of_ble_eq_true rfl⟩ ⟨(show 0 + 3 ≤ 3 by omega), (show 0 + 35 ≤ 35 by omega)⟩ (Nat.le_of_ble_eq_true rfl) ?_
    refine Rd.callV (rest := []) (c_X0_availableSum (c9 := c8) l G hp0 hc0) yk_X0_availableSum E km_X7_133 dX7_refuse_43 hG (hE.S hS hEA) ⟨hB2, (j6 c8 (by omega)).1⟩ (At.recv hG j1.1 rfl) rfl rfl hl.1 ⟨Nat.le_of_ble_eq_true rfl, Nat.le_of_ble_eq_true rfl⟩ ⟨(show 0 + 3 ≤ 3 by omega), (show 0 + 35 ≤ 35 by omega)⟩ (Nat.le_of_ble_eq_true rfl) ?_
    exact wr_int E hr hk hS (show 0 + 3 ≤ 3 by omega) (show 0 + 35 ≤ 35 by omega) (⟨rfl, _, hDS⟩) dX7_refuse_46
  · exact absurd hst9 c_11

set_option maxHeartbeats 4000000 in
set_option maxRecDepth 100000 in
/-- pass -/
theorem c_X7_pass (l : Launch) (G : CG) {x bu pa bk : Nat} {AO : Nat → Prop} {bb d : Nat → Int32} {bl es : Int32} {nc np nh u : Nat} {hi : Nat → Nat → Int32} (hD : DD G AO x bu pa) (hu : u ≤ 8) (hO : OkD d nc np nh) {sz : Nat} (hz1 : EFA G sz) (hAO : ∀ q, AO q → q < sz) (z : Int32) (hin8 : inV z 1 365 = 1) (hin7 : d 3 + z ≤ 9000) : Wr l yX7_pass cX7_pass 2 ((Option.some FieldType.int)) 7 112 1 5 G [.ref x, .int z] (fun H9 => H9.size = sz ∧ DS G AO x bu pa bb bl es bk d nc np nh u hi H9) (DW x bu pa sz) (fun v9 H9 => v9 = some (.int (passD d z 3)) ∧ ∃ b9, DS G AO x bu pa bb bl es b9 (passD d z) nc np nh (remU u) (remH hi d u) H9) := by
  refine Wr.ofW (by decide) (Nat.le_of_ble_eq_true rfl) (fun p e s m below meth c ls E hG hE hP hr hk hin hl => ?_)
  have hS : va_S (DW x bu pa sz) s.heap s.heap [] := va_S.rf
  have hx := E.1
  have hb := E.2.1
  have hl : lv_has ls 2 [(0, .ref x), (1, .int z)] := hl
  obtain ⟨hz0, ⟨hX, hU, ⟨fq, hQ, hH⟩, hB⟩⟩ := hP
  obtain ⟨ca, ho, fe, cr, pr, cA, pA, k1, k2, k3, k4, k5, k6, k7, k8⟩ := id hB
  obtain ⟨-, ⟨ne_x_bu, ne_x_pa, ne_bu_pa⟩, -⟩ := id hD
  have f_x := hX
  have f_bu := hU
  have f_pa := hQ
  have hEA := hD.efa hz1
  have hN := hD.own hz0
  have hc0 := hO.1.2
  have hp0 := hO.2.1.2
  have hh := hO.2.2.1.2
  refine lv_iload_n hx hb dX7_pass_0 rfl (lv_at hl 1 rfl) ?_
  refine lv_iconst (v := 1) hx hb dX7_pass_1 rfl ?_
  refine lv_sipush (v := 365) hx hb dX7_pass_2 rfl ?_
  refine Rd.callS (rest := []) (c_X7_needRange l G z 1 365 hin8) yk_X7_needRange E km_X7_82 dX7_pass_5 hG (hE.S hS hEA) trivial rfl rfl hl.1 ⟨Nat.le_of_ble_eq_true rfl, Nat.le_of_ble_eq_true rfl⟩ ⟨(show 0 ≤ 1 by omega), (show 0 ≤ 5 by omega)⟩ (Nat.le_of_ble_eq_true rfl) ?_
  refine lv_aload_n hx hb dX7_pass_8 rfl (lv_at hl 0 rfl) ?_
  refine gf_X7_26 E hG f_x rfl dX7_pass_9 ?_
  refine gf_X7_79 E hG (kpg hS hN k1) rfl dX7_pass_12 ?_
  refine lv_iload_n hx hb dX7_pass_15 rfl (lv_at hl 1 rfl) ?_
  refine lv_iadd hx hb dX7_pass_16 ?_
  refine lv_sipush (v := 9000) hx hb dX7_pass_17 rfl ?_
  refine lv_icmp_le (tgt := 33) hx hb dX7_pass_20 (by decide) (fun c_20 => ?_) (fun c_20 => ?_)
  · refine lv_aload_n hx hb dX7_pass_33 rfl (lv_at hl 0 rfl) ?_
    refine lv_aload_n hx hb dX7_pass_34 rfl (lv_at hl 0 rfl) ?_
    refine gf_X7_26 E hG f_x rfl dX7_pass_35 ?_
    refine lv_aload_n hx hb dX7_pass_38 rfl (lv_at hl 0 rfl) ?_
    refine gf_X7_26 E hG f_x rfl dX7_pass_39 ?_
    refine gf_X7_79 E hG (kpg hS hN k1) rfl dX7_pass_42 ?_
    refine lv_iload_n hx hb dX7_pass_45 rfl (lv_at hl 1 rfl) ?_
    refine lv_iadd hx hb dX7_pass_46 ?_
    have hgz : sz ≤ s.heap.size := Nat.le_trans (Nat.le_of_eq hz0.symm) hS.1
    refine Wr.callV (rest := [.ref x]) (c_X0_withToday (d9 := passD d z) l G (Nat.le_trans hz1 hgz) (fun q9 h9 => Nat.lt_of_lt_of_le (hAO q9 h9) hgz) ((d 3) + z) (pass_sm hO) (by unfold passD upd; rw [if_pos rfl])) yk_X0_withToday E km_X7_252 dX7_pass_47 hG (hE.S hS hEA) ⟨rfl, BK.kept hB (kq hS hN)⟩ (At.recv hG (kpg hS hN k1) rfl) rfl rfl hl.1 ⟨Nat.le_of_ble_eq_true rfl, Nat.le_of_ble_eq_true rfl⟩ ⟨(show 0 + 1 ≤ 1 by omega), (show 0 + 5 ≤ 5 by omega)⟩ (Nat.le_of_ble_eq_true rfl) hS (fun q9 h9 => (Or.inr (Or.inr (Or.inr (Nat.le_trans (Nat.le_trans (Nat.le_of_eq hz0.symm) hS.1) h9))))) (fun v9 H locs hq hz9 hfr9 hS => ?_)
    have f_x : At G x (.inr (7, [.ref bu, .int bl, .int es, .ref bk, .ref pa, .int (nI u)])) H := va_at.kept f_x (hfr9 _ (va_at.lt f_x) (Nat.not_le.mpr (va_at.lt f_x)))
    have f_bu : At G bu (.inl (G.2.1 0, 900, .inl bb)) H := va_at.kept f_bu (hfr9 _ (va_at.lt f_bu) (Nat.not_le.mpr (va_at.lt f_bu)))
    have f_pa : At G pa (.inl (G.2.1 3, 8, .inr (.inr (.inr (.inr fq))))) H := va_at.kept f_pa (hfr9 _ (va_at.lt f_pa) (Nat.not_le.mpr (va_at.lt f_pa)))
    obtain ⟨b_1, rfl, hB_1⟩ := hq
    refine Wr.callV (rest := []) (c_X7_changeTo l G hD hu hO) yk_X7_changeTo E km_X7_67 dX7_pass_50 hG (hE.S hS hEA) ⟨⟨f_x, f_bu, ⟨_, f_pa, fun j9 h9 => (hH j9 h9).kept (kq hS hN)⟩, BK.kept hB (kq hS hN)⟩, hB_1⟩ (At.recv hG f_x rfl) rfl rfl hl.1 ⟨Nat.le_of_ble_eq_true rfl, Nat.le_of_ble_eq_true rfl⟩ ⟨(show 0 + 1 + 0 ≤ 1 by omega), (show 0 + 5 + 0 ≤ 5 by omega)⟩ (Nat.le_of_ble_eq_true rfl) hS (fun q9 h9 => h9.elim Or.inl (fun z9 => Or.inr (Or.inr (Or.inl z9)))) (fun v9 H locs hq hz9 hfr9 hS => ?_)
    obtain ⟨rfl, hDS⟩ := hq
    obtain ⟨f_x, f_bu, ⟨fq2, f_pa, hH2⟩, hB2⟩ := id hDS
    obtain ⟨ca2, ho2, fe2, cr2, pr2, cA2, pA2, j1, j2⟩ := id hB2
    refine lv_aload_n hx hb dX7_pass_53 rfl (lv_at hl 0 rfl) ?_
    refine gf_X7_26 E hG f_x rfl dX7_pass_54 ?_
    refine gf_X7_79 E hG j1.1 rfl dX7_pass_57 ?_
    exact wr_int E hr hk hS (show 0 + 1 + 0 ≤ 1 by omega) (show 0 + 5 + 0 ≤ 5 by omega) (⟨rfl, _, hDS⟩) dX7_pass_60
  · exact absurd hin7 c_20

set_option maxHeartbeats 4000000 in
set_option maxRecDepth 100000 in
/-- present -/
theorem c_X7_present (l : Launch) (G : CG) {x bu pa bk : Nat} {AO : Nat → Prop} {bb d : Nat → Int32} {bl es : Int32} {nc np nh u : Nat} {hi : Nat → Nat → Int32} (hD : DD G AO x bu pa) (hu : u ≤ 8) (hO : OkD d nc np nh) {sz : Nat} (hz1 : EFA G sz) (hAO : ∀ q, AO q → q < sz) (z : Int32) (k : Nat) (ez : z = nI k) (hk9 : k < nc) (y am dc ins : Int32) (n ex1 pe1 : Nat) (ey : y = nI n) (hn : n ≤ 9999) (hw9 : isWrongV y am dc ins = 0) (hp1 : np < 24) (nd : Nat) (hnd : d (cP k + 9) = nI nd) (hnd2 : nd < 256) (hx9 : d (cP k + 3) = nI ex1) (hx8 : ex1 < 1000) (hx7 : d (cP k + 5) = nI pe1) (hx6 : pe1 < 1000) : Wr l yX7_present cX7_present 9 ((Option.some FieldType.int)) 8 135 3 35 G [.ref x, .int z, .int y, .int am, .int dc, .int ins] (fun H9 => H9.size = sz ∧ DS G AO x bu pa bb bl es bk d nc np nh u hi H9) (DW x bu pa sz) (fun v9 H9 => v9 = some (.int (nI np)) ∧ ∃ b9, DS G AO x bu pa bb bl es b9 (presD d np nc nh ex1 pe1 k n z am dc ins) nc (np + 1) nh (remU u) (remH hi d u) H9) := by
  refine Wr.ofW (by decide) (Nat.le_of_ble_eq_true rfl) (fun p e s m below meth c ls E hG hE hP hr hk hin hl => ?_)
  have hS : va_S (DW x bu pa sz) s.heap s.heap [] := va_S.rf
  have hx := E.1
  have hb := E.2.1
  have hl : lv_has ls 9 [(0, .ref x), (1, .int z), (2, .int y), (3, .int am), (4, .int dc), (5, .int ins)] := hl
  obtain ⟨hz0, ⟨hX, hU, ⟨fq, hQ, hH⟩, hB⟩⟩ := hP
  obtain ⟨ca, ho, fe, cr, pr, cA, pA, k1, k2, k3, k4, k5, k6, k7, k8⟩ := id hB
  obtain ⟨-, ⟨ne_x_bu, ne_x_pa, ne_bu_pa⟩, -⟩ := id hD
  have f_x := hX
  have f_bu := hU
  have f_pa := hQ
  have hEA := hD.efa hz1
  have hN := hD.own hz0
  have hc0 := hO.1.2
  have hp0 := hO.2.1.2
  have hh := hO.2.2.1.2
  refine lv_aload_n hx hb dX7_present_0 rfl (lv_at hl 0 rfl) ?_
  refine lv_iload_n hx hb dX7_present_1 rfl (lv_at hl 1 rfl) ?_
  refine Rd.callV (rest := []) (c_X7_creditAt (cA := cA) l G z k ez (by omega) hc0) yk_X7_creditAt E km_X7_107 dX7_present_2 hG (hE.S hS hEA) ⟨hX, k1.1, k4.1⟩ (At.recv hG f_x rfl) rfl rfl hl.1 ⟨Nat.le_of_ble_eq_true rfl, Nat.le_of_ble_eq_true rfl⟩ ⟨(show 0 ≤ 3 by omega), (show 0 ≤ 35 by omega)⟩ (Nat.le_of_ble_eq_true rfl) ?_
  refine lv_astore (lv' := [(6, .ref (cA k)), (0, .ref x), (1, .int z), (2, .int y), (3, .int am), (4, .int dc), (5, .int ins)]) hx hb dX7_present_5 hl (by decide) rfl (fun ls hl => ?_)
  refine lv_iload_n hx hb dX7_present_7 rfl (lv_at hl 3 rfl) ?_
  refine lv_iload_n hx hb dX7_present_8 rfl (lv_at hl 4 rfl) ?_
  refine lv_iload hx hb dX7_present_9 (lv_at hl 5 rfl) ?_
  refine lv_iload hx hb dX7_present_11 (lv_at hl 6 rfl) ?_
  refine Rd.callS (rest := []) (c_X7_needPresentable l G y am dc ins hw9) yk_X7_needPresentable E km_X7_179 dX7_present_13 hG (hE.S hS hEA) trivial rfl rfl hl.1 ⟨Nat.le_of_ble_eq_true rfl, Nat.le_of_ble_eq_true rfl⟩ ⟨(show 0 ≤ 3 by omega), (show 0 ≤ 35 by omega)⟩ (Nat.le_of_ble_eq_true rfl) ?_
  refine lv_aload_n hx hb dX7_present_16 rfl (lv_at hl 1 rfl) ?_
  refine gf_X7_26 E hG f_x rfl dX7_present_17 ?_
  refine gf_X7_75 E hG (kpg hS hN k1) rfl dX7_present_20 ?_
  refine g_len (t0 := 5) (v := (nI np)) E hG (kpg hS hN k5) rfl rfl dX7_present_23 ?_
  refine lv_bipush (v := 24) hx hb dX7_present_24 rfl ?_
  refine lv_icmp_lt (tgt := 39) hx hb dX7_present_26 (by decide) (fun c_26 => ?_) (fun c_26 => ?_)
  · refine lv_aload_n hx hb dX7_present_39 rfl (lv_at hl 1 rfl) ?_
    refine lv_aload hx hb dX7_present_40 (lv_at hl 0 rfl) ?_
    refine lv_iload_n hx hb dX7_present_42 rfl (lv_at hl 3 rfl) ?_
    refine lv_iload_n hx hb dX7_present_43 rfl (lv_at hl 4 rfl) ?_
    refine lv_iload hx hb dX7_present_44 (lv_at hl 5 rfl) ?_
    refine lv_iload hx hb dX7_present_46 (lv_at hl 6 rfl) ?_
    refine Rd.callV (rest := []) (c_X7_discrepanciesToday l G y am dc ins n ex1 pe1 nd ey (by omega) hh hp0 hc0 hnd hnd2 hx9 hx8 hx7 hx6) yk_X7_discrepanciesToday E km_X7_183 dX7_present_48 hG (hE.S hS hEA) ⟨⟨hX, hB⟩, (k6 k (by omega)).1⟩ (At.recv hG f_x rfl) rfl rfl hl.1 ⟨Nat.le_of_ble_eq_true rfl, Nat.le_of_ble_eq_true rfl⟩ ⟨(show 0 ≤ 3 by omega), (show 0 ≤ 35 by omega)⟩ (Nat.le_of_ble_eq_true rfl) ?_
    refine lv_istore (lv' := [(7, .int (faultsV d np nc nh ex1 pe1 k n am dc ins)), (6, .ref (cA k)), (0, .ref x), (1, .int z), (2, .int y), (3, .int am), (4, .int dc), (5, .int ins)]) hx hb dX7_present_51 hl (by decide) rfl (fun ls hl => ?_)
    refine lv_aload_n hx hb dX7_present_53 rfl (lv_at hl 2 rfl) ?_
    refine gf_X7_26 E hG f_x rfl dX7_present_54 ?_
    refine gf_X7_75 E hG (kpg hS hN k1) rfl dX7_present_57 ?_
    refine g_len (t0 := 5) (v := (nI np)) E hG (kpg hS hN k5) rfl rfl dX7_present_60 ?_
    refine lv_istore (lv' := [(8, .int (nI np)), (7, .int (faultsV d np nc nh ex1 pe1 k n am dc ins)), (6, .ref (cA k)), (0, .ref x), (1, .int z), (2, .int y), (3, .int am), (4, .int dc), (5, .int ins)]) hx hb dX7_present_61 hl (by decide) rfl (fun ls hl => ?_)
    refine lv_aload_n hx hb dX7_present_63 rfl (lv_at hl 3 rfl) ?_
    refine lv_aload_n hx hb dX7_present_64 rfl (lv_at hl 3 rfl) ?_
    refine gf_X7_26 E hG f_x rfl dX7_present_65 ?_
    refine n_new (ci := 5) (fs := [.int 0, .int 0, .int 0, .int 0, .int 0, .int 0]) (ty := tyX5) inX5 tyX5_ok rfl kl_X7_141 kn_X5 kin_X5 df_X5 E hG hS (Nat.le_of_eq hz0.symm) (show 0 + 1 ≤ 3 by omega) (show 0 + 6 ≤ 35 by omega) dX7_present_68 (fun b_1 H hb_1 hg_1 f_1 hz oq hS => ?_)
    have ne_x_b_1 : x ≠ b_1 := fun z9 => absurd (va_at.lt f_x) (by rw [z9, hb_1]; exact Nat.lt_irrefl _)
    have ne_bu_b_1 : bu ≠ b_1 := fun z9 => absurd (va_at.lt f_bu) (by rw [z9, hb_1]; exact Nat.lt_irrefl _)
    have ne_pa_b_1 : pa ≠ b_1 := fun z9 => absurd (va_at.lt f_pa) (by rw [z9, hb_1]; exact Nat.lt_irrefl _)
    have f_x : At G x (.inr (7, [.ref bu, .int bl, .int es, .ref bk, .ref pa, .int (nI u)])) H := olt f_x oq
    have f_bu : At G bu (.inl (G.2.1 0, 900, .inl bb)) H := olt f_bu oq
    have f_pa : At G pa (.inl (G.2.1 3, 8, .inr (.inr (.inr (.inr fq))))) H := olt f_pa oq
    refine lv_dup hx hb dX7_present_71 rfl ?_
    refine lv_iload_n hx hb dX7_present_72 rfl (lv_at hl 4 rfl) ?_
    refine lv_aload_n hx hb dX7_present_73 rfl (lv_at hl 3 rfl) ?_
    refine gf_X7_26 E hG f_x rfl dX7_present_74 ?_
    refine gf_X7_79 E hG (kpg hS hN k1) rfl dX7_present_77 ?_
    refine lv_iload_n hx hb dX7_present_80 rfl (lv_at hl 6 rfl) ?_
    refine lv_iload hx hb dX7_present_81 (lv_at hl 1 rfl) ?_
    refine lv_iconst (v := 0) hx hb dX7_present_83 rfl ?_
    refine lv_iconst (v := (-1)) hx hb dX7_present_84 rfl ?_
    refine Wr.callI (rest := [.ref b_1, .ref bk, .ref x]) (c_X5_init l G z (d 3) am (faultsV d np nc nh ex1 pe1 k n am dc ins) 0 (-1)) yk_X5_init E km_X7_210 dX7_present_85 hG (hE.S hS hEA) f_1 rfl rfl hl.1 ⟨Nat.le_of_ble_eq_true rfl, Nat.le_of_ble_eq_true rfl⟩ ⟨(show 0 + 1 + 0 ≤ 3 by omega), (show 0 + 6 + 0 ≤ 35 by omega)⟩ (Nat.le_of_ble_eq_true rfl) hS (fun q9 h9 => by rw [h9]; exact (Or.inr (Or.inr (Or.inr hg_1)))) (fun v9 H locs hq hz9 hfr9 hS => ?_)
    have f_x : At G x (.inr (7, [.ref bu, .int bl, .int es, .ref bk, .ref pa, .int (nI u)])) H := va_at.kept f_x (hfr9 _ (va_at.lt f_x) ne_x_b_1)
    have f_bu : At G bu (.inl (G.2.1 0, 900, .inl bb)) H := va_at.kept f_bu (hfr9 _ (va_at.lt f_bu) ne_bu_b_1)
    have f_pa : At G pa (.inl (G.2.1 3, 8, .inr (.inr (.inr (.inr fq))))) H := va_at.kept f_pa (hfr9 _ (va_at.lt f_pa) ne_pa_b_1)
    obtain ⟨rfl, f_1⟩ := hq
    have hgz : sz ≤ H.size := Nat.le_trans (Nat.le_of_eq hz0.symm) hS.1
    refine Wr.callV (rest := [.ref x]) (c_X0_withPresentation (d9 := presD d np nc nh ex1 pe1 k n z am dc ins) l G (Nat.le_trans hz1 hgz) (fun q9 h9 => Nat.lt_of_lt_of_le (hAO q9 h9) hgz) (pres_sm hO hp1) (pres_e (by omega) (by omega)).symm hp1) yk_X0_withPresentation E km_X7_213 dX7_present_88 hG (hE.S hS hEA) ⟨rfl, BK.kept hB (kq hS hN), (by rw [← pres_new]; exact f_1), fun z9 => absurd (hAO _ z9) (Nat.not_lt.mpr hg_1)⟩ (At.recv hG (kpg hS hN k1) rfl) rfl rfl hl.1 ⟨Nat.le_of_ble_eq_true rfl, Nat.le_of_ble_eq_true rfl⟩ ⟨(show 0 + 1 + 0 + 2 ≤ 3 by omega), (show 0 + 6 + 0 + 29 ≤ 35 by omega)⟩ (Nat.le_of_ble_eq_true rfl) hS (fun q9 h9 => (Or.inr (Or.inr (Or.inr (Nat.le_trans (Nat.le_trans (Nat.le_of_eq hz0.symm) hS.1) h9))))) (fun v9 H locs hq hz9 hfr9 hS => ?_)
    have f_x : At G x (.inr (7, [.ref bu, .int bl, .int es, .ref bk, .ref pa, .int (nI u)])) H := va_at.kept f_x (hfr9 _ (va_at.lt f_x) (Nat.not_le.mpr (va_at.lt f_x)))
    have f_bu : At G bu (.inl (G.2.1 0, 900, .inl bb)) H := va_at.kept f_bu (hfr9 _ (va_at.lt f_bu) (Nat.not_le.mpr (va_at.lt f_bu)))
    have f_pa : At G pa (.inl (G.2.1 3, 8, .inr (.inr (.inr (.inr fq))))) H := va_at.kept f_pa (hfr9 _ (va_at.lt f_pa) (Nat.not_le.mpr (va_at.lt f_pa)))
    have f_1 : At G b_1 (.inr (5, [.int z, .int (d 3), .int am, .int (faultsV d np nc nh ex1 pe1 k n am dc ins), .int 0, .int (-1)])) H := va_at.kept f_1 (hfr9 _ (va_at.lt f_1) (Nat.not_le.mpr (va_at.lt f_1)))
    obtain ⟨b_2, rfl, hB_2⟩ := hq
    refine Wr.callV (rest := []) (c_X7_changeTo l G hD hu hO) yk_X7_changeTo E km_X7_67 dX7_present_91 hG (hE.S hS hEA) ⟨⟨f_x, f_bu, ⟨_, f_pa, fun j9 h9 => (hH j9 h9).kept (kq hS hN)⟩, BK.kept hB (kq hS hN)⟩, hB_2⟩ (At.recv hG f_x rfl) rfl rfl hl.1 ⟨Nat.le_of_ble_eq_true rfl, Nat.le_of_ble_eq_true rfl⟩ ⟨(show 0 + 1 + 0 + 2 + 0 ≤ 3 by omega), (show 0 + 6 + 0 + 29 + 0 ≤ 35 by omega)⟩ (Nat.le_of_ble_eq_true rfl) hS (fun q9 h9 => h9.elim Or.inl (fun z9 => Or.inr (Or.inr (Or.inl z9)))) (fun v9 H locs hq hz9 hfr9 hS => ?_)
    obtain ⟨rfl, hDS⟩ := hq
    obtain ⟨f_x, f_bu, ⟨fq2, f_pa, hH2⟩, hB2⟩ := id hDS
    refine lv_iload hx hb dX7_present_94 (lv_at hl 0 rfl) ?_
    exact wr_int E hr hk hS (show 0 + 1 + 0 + 2 + 0 ≤ 3 by omega) (show 0 + 6 + 0 + 29 + 0 ≤ 35 by omega) (⟨rfl, _, hDS⟩) dX7_present_96
  · exact absurd ((nLT (x := nI np) (y := 24) (a := np) (b := 24) rfl rfl (by omega) (by omega)).mpr hp1) c_26

set_option maxHeartbeats 4000000 in
set_option maxRecDepth 100000 in
/-- transfer -/
theorem c_X7_transfer (l : Launch) (G : CG) {x bu pa bk : Nat} {AO : Nat → Prop} {bb d : Nat → Int32} {bl es : Int32} {nc np nh u : Nat} {hi : Nat → Nat → Int32} (hD : DD G AO x bu pa) (hu : u ≤ 8) (hO : OkD d nc np nh) {sz : Nat} (hz1 : EFA G sz) (hAO : ∀ q, AO q → q < sz) (z : Int32) (k : Nat) (ez : z = nI k) (hk9 : k < nc) (y w : Int32) (h_1 : inV y 1 999999 = 1) (h_2 : inV w 0 999 = 1) (h_3 : w ≤ d (cP k + 3)) (hf9 : trF d np nc k y = 0) (hn12 : nc < 12) : Wr l yX7_transfer cX7_transfer 6 ((Option.some FieldType.int)) 7 112 3 29 G [.ref x, .int z, .int y, .int w] (fun H9 => H9.size = sz ∧ DS G AO x bu pa bb bl es bk d nc np nh u hi H9) (DW x bu pa sz) (fun v9 H9 => v9 = some (.int (nI nc)) ∧ ∃ b9, DS G AO x bu pa bb bl es b9 (trD d nc k (nI k) y w) (nc + 1) np nh (remU u) (remH hi d u) H9) := by
  refine Wr.ofW (by decide) (Nat.le_of_ble_eq_true rfl) (fun p e s m below meth c ls E hG hE hP hr hk hin hl => ?_)
  have hS : va_S (DW x bu pa sz) s.heap s.heap [] := va_S.rf
  have hx := E.1
  have hb := E.2.1
  have hl : lv_has ls 6 [(0, .ref x), (1, .int z), (2, .int y), (3, .int w)] := hl
  obtain ⟨hz0, ⟨hX, hU, ⟨fq, hQ, hH⟩, hB⟩⟩ := hP
  obtain ⟨ca, ho, fe, cr, pr, cA, pA, k1, k2, k3, k4, k5, k6, k7, k8⟩ := id hB
  obtain ⟨-, ⟨ne_x_bu, ne_x_pa, ne_bu_pa⟩, -⟩ := id hD
  have f_x := hX
  have f_bu := hU
  have f_pa := hQ
  have hEA := hD.efa hz1
  have hN := hD.own hz0
  have hc0 := hO.1.2
  have hp0 := hO.2.1.2
  have hh := hO.2.2.1.2
  have h0 := hO.1.1
  have hlx : x < s.heap.size := va_at.lt hX
  have hlp : pa < s.heap.size := va_at.lt hQ
  obtain ⟨ex8, pe8, te8, nd8, -, -, -, -, -, -, -, -, hp1, -⟩ := hO.2.2.2.2.1 k hk9
  refine lv_aload_n hx hb dX7_transfer_0 rfl (lv_at hl 0 rfl) ?_
  refine lv_iload_n hx hb dX7_transfer_1 rfl (lv_at hl 1 rfl) ?_
  refine Rd.callV (rest := []) (c_X7_creditAt (cA := cA) l G z k ez (by omega) hc0) yk_X7_creditAt E km_X7_107 dX7_transfer_2 hG (hE.S hS hEA) ⟨hX, k1.1, k4.1⟩ (At.recv hG f_x rfl) rfl rfl hl.1 ⟨Nat.le_of_ble_eq_true rfl, Nat.le_of_ble_eq_true rfl⟩ ⟨(show 0 ≤ 3 by omega), (show 0 ≤ 29 by omega)⟩ (Nat.le_of_ble_eq_true rfl) ?_
  refine lv_astore (lv' := [(4, .ref (cA k)), (0, .ref x), (1, .int z), (2, .int y), (3, .int w)]) hx hb dX7_transfer_5 hl (by decide) rfl (fun ls hl => ?_)
  refine lv_iload_n hx hb dX7_transfer_7 rfl (lv_at hl 3 rfl) ?_
  refine lv_iconst (v := 1) hx hb dX7_transfer_8 rfl ?_
  refine lv_ldc (v := 999999) hx hb E.2.2.2.1 (E.2.2.2.2 _ kk_X7_233) dX7_transfer_9 ?_
  refine Rd.callS (rest := []) (c_X7_needRange l G y 1 999999 h_1) yk_X7_needRange E km_X7_82 dX7_transfer_11 hG (hE.S hS hEA) trivial rfl rfl hl.1 ⟨Nat.le_of_ble_eq_true rfl, Nat.le_of_ble_eq_true rfl⟩ ⟨(show 0 ≤ 3 by omega), (show 0 ≤ 29 by omega)⟩ (Nat.le_of_ble_eq_true rfl) ?_
  refine lv_iload_n hx hb dX7_transfer_14 rfl (lv_at hl 4 rfl) ?_
  refine lv_iconst (v := 0) hx hb dX7_transfer_15 rfl ?_
  refine lv_sipush (v := 999) hx hb dX7_transfer_16 rfl ?_
  refine Rd.callS (rest := []) (c_X7_needRange l G w 0 999 h_2) yk_X7_needRange E km_X7_82 dX7_transfer_19 hG (hE.S hS hEA) trivial rfl rfl hl.1 ⟨Nat.le_of_ble_eq_true rfl, Nat.le_of_ble_eq_true rfl⟩ ⟨(show 0 ≤ 3 by omega), (show 0 ≤ 29 by omega)⟩ (Nat.le_of_ble_eq_true rfl) ?_
  refine lv_iload_n hx hb dX7_transfer_22 rfl (lv_at hl 4 rfl) ?_
  refine lv_aload hx hb dX7_transfer_23 (lv_at hl 0 rfl) ?_
  refine gf_X7_123 E hG (k6 k (by omega)).1 rfl dX7_transfer_25 ?_
  refine lv_icmp_le (tgt := 41) hx hb dX7_transfer_28 (by decide) (fun c_28 => ?_) (fun c_28 => ?_)
  · refine lv_aload_n hx hb dX7_transfer_41 rfl (lv_at hl 1 rfl) ?_
    refine lv_aload hx hb dX7_transfer_42 (lv_at hl 0 rfl) ?_
    refine lv_iload_n hx hb dX7_transfer_44 rfl (lv_at hl 3 rfl) ?_
    refine Rd.callV (rest := []) (c_X7_canTransfer l G y hp0 hc0 h0) yk_X7_canTransfer E km_X7_236 dX7_transfer_45 hG (hE.S hS hEA) ⟨⟨hX, hB⟩, (k6 k (by omega)).1⟩ (At.recv hG f_x rfl) rfl rfl hl.1 ⟨Nat.le_of_ble_eq_true rfl, Nat.le_of_ble_eq_true rfl⟩ ⟨(show 0 ≤ 3 by omega), (show 0 ≤ 29 by omega)⟩ (Nat.le_of_ble_eq_true rfl) ?_
    refine lv_if_ne (tgt := 61) hx hb dX7_transfer_48 (by decide) (fun c_48 => ?_) (fun c_48 => ?_)
    · refine lv_aload hx hb dX7_transfer_61 (lv_at hl 0 rfl) ?_
      refine lv_aload_n hx hb dX7_transfer_63 rfl (lv_at hl 1 rfl) ?_
      refine gf_X7_26 E hG f_x rfl dX7_transfer_64 ?_
      refine gf_X7_71 E hG (kpg hS hN k1) rfl dX7_transfer_67 ?_
      refine g_len (t0 := 4) (v := (nI nc)) E hG (kpg hS hN k4) rfl rfl dX7_transfer_70 ?_
      refine lv_iload_n hx hb dX7_transfer_71 rfl (lv_at hl 3 rfl) ?_
      refine lv_iload_n hx hb dX7_transfer_72 rfl (lv_at hl 4 rfl) ?_
      have hgz : sz ≤ s.heap.size := Nat.le_trans (Nat.le_of_eq hz0.symm) hS.1
      refine Wr.callV (rest := []) (c_X2_partTransferred (c9 := k) l G (Nat.le_trans hz1 hgz) (nI nc) y w hp1) yk_X2_partTransferred E km_X7_242 dX7_transfer_73 hG (hE.S hS hEA) ⟨rfl, (k6 k (by omega)).1⟩ (At.recv hG (k6 k (by omega)).1 rfl) rfl rfl hl.1 ⟨Nat.le_of_ble_eq_true rfl, Nat.le_of_ble_eq_true rfl⟩ ⟨(show 0 + 1 ≤ 3 by omega), (show 0 + 12 ≤ 29 by omega)⟩ (Nat.le_of_ble_eq_true rfl) hS (fun q9 h9 => (Or.inr (Or.inr (Or.inr (Nat.le_trans (Nat.le_trans (Nat.le_of_eq hz0.symm) hS.1) h9))))) (fun v9 H locs hq hz9 hfr9 hS => ?_)
      have f_x : At G x (.inr (7, [.ref bu, .int bl, .int es, .ref bk, .ref pa, .int (nI u)])) H := va_at.kept f_x (hfr9 _ (va_at.lt f_x) (Nat.not_le.mpr (va_at.lt f_x)))
      have f_bu : At G bu (.inl (G.2.1 0, 900, .inl bb)) H := va_at.kept f_bu (hfr9 _ (va_at.lt f_bu) (Nat.not_le.mpr (va_at.lt f_bu)))
      have f_pa : At G pa (.inl (G.2.1 3, 8, .inr (.inr (.inr (.inr fq))))) H := va_at.kept f_pa (hfr9 _ (va_at.lt f_pa) (Nat.not_le.mpr (va_at.lt f_pa)))
      obtain ⟨b_1, rfl, hg_1, f_1⟩ := hq
      have hn_1 : ¬ AO b_1 := fun z9 => absurd (hAO _ z9) (Nat.not_lt.mpr (Nat.le_trans hgz hg_1))
      refine lv_astore (lv' := [(5, .ref b_1), (4, .ref (cA k)), (0, .ref x), (1, .int z), (2, .int y), (3, .int w)]) hx hb dX7_transfer_76 hl (by decide) rfl (fun ls hl => ?_)
      refine lv_aload_n hx hb dX7_transfer_78 rfl (lv_at hl 2 rfl) ?_
      refine lv_aload_n hx hb dX7_transfer_79 rfl (lv_at hl 2 rfl) ?_
      refine gf_X7_26 E hG f_x rfl dX7_transfer_80 ?_
      refine lv_aload hx hb dX7_transfer_83 (lv_at hl 0 rfl) ?_
      have hgz : sz ≤ H.size := Nat.le_trans (Nat.le_of_eq hz0.symm) hS.1
      refine Wr.callV (rest := [.ref x]) (c_X0_withCredit (d9 := trD d nc k (nI k) y w) l G (Nat.le_trans hz1 hgz) (fun q9 h9 => Nat.lt_of_lt_of_le (hAO q9 h9) hgz) (tr_sm hO hn12) (tr_e (by omega) (by omega)).symm hn12) yk_X0_withCredit E km_X7_246 dX7_transfer_85 hG (hE.S hS hEA) ⟨rfl, BK.kept hB (kq hS hN), (by rw [← tr_new]; exact f_1), hn_1⟩ (At.recv hG (kpg hS hN k1) rfl) rfl rfl hl.1 ⟨Nat.le_of_ble_eq_true rfl, Nat.le_of_ble_eq_true rfl⟩ ⟨(show 0 + 1 + 2 ≤ 3 by omega), (show 0 + 12 + 17 ≤ 29 by omega)⟩ (Nat.le_of_ble_eq_true rfl) hS (fun q9 h9 => (Or.inr (Or.inr (Or.inr (Nat.le_trans (Nat.le_trans (Nat.le_of_eq hz0.symm) hS.1) h9))))) (fun v9 H locs hq hz9 hfr9 hS => ?_)
      have f_x : At G x (.inr (7, [.ref bu, .int bl, .int es, .ref bk, .ref pa, .int (nI u)])) H := va_at.kept f_x (hfr9 _ (va_at.lt f_x) (Nat.not_le.mpr (va_at.lt f_x)))
      have f_bu : At G bu (.inl (G.2.1 0, 900, .inl bb)) H := va_at.kept f_bu (hfr9 _ (va_at.lt f_bu) (Nat.not_le.mpr (va_at.lt f_bu)))
      have f_pa : At G pa (.inl (G.2.1 3, 8, .inr (.inr (.inr (.inr fq))))) H := va_at.kept f_pa (hfr9 _ (va_at.lt f_pa) (Nat.not_le.mpr (va_at.lt f_pa)))
      have f_1 : At G b_1 (.inr (2, [.int (nI nc), .int (nI k), .int y, .int 0, .int 0, .int w, .int (jmin (d (cP k + 4)) w), .int (d (cP k + 5)), .int (d (cP k + 6)), .int (d (cP k + 9)), .int (d (cP k + 7)), .int 0])) H := va_at.kept f_1 (hfr9 _ (va_at.lt f_1) (Nat.not_le.mpr (va_at.lt f_1)))
      obtain ⟨b_2, rfl, hB_2⟩ := hq
      refine Wr.callV (rest := []) (c_X7_changeTo l G hD hu hO) yk_X7_changeTo E km_X7_67 dX7_transfer_88 hG (hE.S hS hEA) ⟨⟨f_x, f_bu, ⟨_, f_pa, fun j9 h9 => (hH j9 h9).kept (kq hS hN)⟩, BK.kept hB (kq hS hN)⟩, hB_2⟩ (At.recv hG f_x rfl) rfl rfl hl.1 ⟨Nat.le_of_ble_eq_true rfl, Nat.le_of_ble_eq_true rfl⟩ ⟨(show 0 + 1 + 2 + 0 ≤ 3 by omega), (show 0 + 12 + 17 + 0 ≤ 29 by omega)⟩ (Nat.le_of_ble_eq_true rfl) hS (fun q9 h9 => h9.elim Or.inl (fun z9 => Or.inr (Or.inr (Or.inl z9)))) (fun v9 H locs hq hz9 hfr9 hS => ?_)
      have f_1 := va_at.kept f_1 (hfr9 _ (va_at.lt f_1) (fun z9 => by rcases z9 with z9 | z9 <;> omega))
      obtain ⟨rfl, hDS⟩ := hq
      obtain ⟨f_x, f_bu, ⟨fq2, f_pa, hH2⟩, hB2⟩ := id hDS
      refine lv_aload hx hb dX7_transfer_91 (lv_at hl 0 rfl) ?_
      refine gf_X7_195 E hG f_1 rfl dX7_transfer_93 ?_
      exact wr_int E hr hk hS (show 0 + 1 + 2 + 0 ≤ 3 by omega) (show 0 + 12 + 17 + 0 ≤ 29 by omega) (⟨rfl, _, hDS⟩) dX7_transfer_96
    · exact absurd c_48 (by rw [if_pos hf9]; decide)
  · exact absurd h_3 c_28
