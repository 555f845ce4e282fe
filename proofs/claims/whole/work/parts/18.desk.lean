/-! THE CLASS: the desk's readers, and where they refuse -/
abbrev dkF (bu : Nat) (bl es : Int32) (bk pa : Nat) (pn : Int32) : List Value := [.ref bu, .int bl, .int es, .ref bk, .ref pa, .int pn]
abbrev DK (G : CG) (A : Nat → Prop) (x bu : Nat) (bl es : Int32) (bk pa : Nat) (pn : Int32) (d : Nat → Int32) (nc np nh : Nat) (H : Heap) : Prop := At G x (.inr (7, dkF bu bl es bk pa pn)) H ∧ BK G A bk d nc np nh H
theorem inV_1 {v lo hi : Int32} (h : inV v lo hi = 1) : ¬ v < lo ∧ v ≤ hi := by
  unfold inV at h
  split at h
  · exact absurd h (by decide)
  · split at h
    · exact absurd h (by decide)
    · exact ⟨by assumption, Int32.not_lt.mp (by assumption)⟩
theorem inV_0 {v lo hi : Int32} (h : inV v lo hi = 0) : v < lo ∨ ¬ v ≤ hi := by
  unfold inV at h
  split at h
  · exact Or.inl (by assumption)
  · split at h
    · exact Or.inr (Int32.not_le.mpr (by assumption))
    · exact absurd h (by decide)
theorem inV_n1 {v lo hi : Int32} (h : ¬ inV v lo hi = 0) : inV v lo hi = 1 := (inV01 v lo hi).resolve_left h
theorem nI_nneg {x : Int32} {k : Nat} (e : x = nI k) (h : k < 2147483648) : ¬ x < 0 := by
  subst e
  exact nI_pos h
theorem nI_m1 {n : Nat} (h : 1 ≤ n) : nI n - 1 = nI (n - 1) := pk_sub (a := n) (b := 1) h
/-- an index is out of a range of n -/
theorem inV_0n {v : Int32} {n : Nat} (hn : n ≤ 900) (h : inV v 0 (nI n - 1) = 0) : v < 0 ∨ nI n ≤ v := by
  rcases pk_ix v (n := n) (by omega) with h1 | h1 | ⟨j, hj, e⟩
  · exact Or.inl h1
  · exact Or.inr h1
  · exfalso
    subst e
    rw [nI_m1 (by omega)] at h
    unfold inV at h
    rw [if_neg (nI_pos (by omega)), if_neg (nI_nlt (by omega) (by omega))] at h
    exact absurd h (by decide)
theorem inV_1n {v : Int32} {n : Nat} (hn : n ≤ 900) (h : inV v 0 (nI n - 1) = 1) : ∃ k, k < n ∧ v = nI k := by
  have h1 := inV_1 h
  obtain ⟨k, hk, e⟩ := nI_of h1.1
  subst e
  refine ⟨k, ?_, rfl⟩
  by_cases e0 : n = 0
  · subst e0
    have h2 : nI k ≤ (-1) := h1.2
    exact absurd (Int32.le_trans (Int32.not_lt.mp h1.1) h2) (by decide)
  · have h2 := h1.2
    rw [nI_m1 (by omega)] at h2
    have := (nLE rfl rfl (by omega) (by omega)).mp h2
    omega
theorem isW_0 {sh am dc ins : Int32} (h : isWrongV sh am dc ins = 0) : inV sh 0 9999 = 1 ∧ inV am 1 1999999 = 1 ∧ inV dc 0 255 = 1 ∧ 0 ≤ ins := by
  unfold isWrongV at h
  by_cases h1 : inV sh 0 9999 = 0
  · rw [if_pos h1] at h; exact absurd h (by decide)
  rw [if_neg h1] at h
  by_cases h2 : inV am 1 1999999 = 0
  · rw [if_pos h2] at h; exact absurd h (by decide)
  rw [if_neg h2] at h
  by_cases h3 : inV dc 0 255 = 0
  · rw [if_pos h3] at h; exact absurd h (by decide)
  rw [if_neg h3] at h
  by_cases h4 : 0 ≤ ins
  · exact ⟨inV_n1 h1, inV_n1 h2, inV_n1 h3, h4⟩
  · rw [if_neg h4] at h; exact absurd h (by decide)
theorem isW_1 {sh am dc ins : Int32} (h : isWrongV sh am dc ins = 1) (h1 : ¬ inV sh 0 9999 = 0) (h2 : ¬ inV am 1 1999999 = 0) (h3 : ¬ inV dc 0 255 = 0) : ¬ 0 ≤ ins := by
  unfold isWrongV at h
  rw [if_neg h1, if_neg h2, if_neg h3] at h
  by_cases h4 : 0 ≤ ins
  · rw [if_pos h4] at h; exact absurd h (by decide)
  · exact h4
theorem nd128 {x : Int32} {nd : Nat} (e : x = nI nd) (h : nd < 256) : (x &&& 128 = 0) = ¬ (x >>> (7 &&& 31) &&& 1 = 1) := by
  subst e
  have h9 : ∀ n : Fin 256, (nI n.1 &&& 128 = 0) ↔ ¬ (nI n.1 >>> (7 &&& 31) &&& 1 = 1) := by decide +kernel
  exact propext (h9 ⟨nd, h⟩)
theorem ct12 {d : Nat → Int32} {nc : Nat} (h0 : d 0 = nI nc) (hc0 : nc ≤ 12) : (d 0 = 12) = (12 ≤ nI nc) := by
  rw [h0]
  apply propext
  rw [nEQ (x := nI nc) (y := 12) (a := nc) (b := 12) rfl rfl (by omega) (by omega), nLE (x := 12) (y := nI nc) (a := 12) (b := nc) rfl rfl (by omega) (by omega)]
  omega
set_option maxHeartbeats 4000000 in
set_option maxRecDepth 100000 in
/-- creditAt -/
theorem c_X7_creditAt (l : Launch) (G : CG) {x bu bk pa cr : Nat} {bl es pn : Int32} {v0 v1 v2 v4 : Value} {nc : Nat} {cA : Nat → Nat} (z : Int32) (k : Nat) (ez : z = nI k) (hk9 : k < nc) (hc0 : nc ≤ 12) : Rd l yX7_creditAt cX7_creditAt 3 ((Option.some (FieldType.object "DocumentaryCreditDesk$Credit"))) 0 0 G [.ref x, .int z] (fun H9 => At G x (.inr (7, dkF bu bl es bk pa pn)) H9 ∧ At G bk (.inr (0, [v0, v1, v2, .ref cr, v4])) H9 ∧ At G cr (refA G 4 nc cA) H9) (some (.ref (cA k))) := by
  refine Rd.ofW (by decide) (Nat.le_of_ble_eq_true rfl) (fun p e s m below meth c ls E hG hE hP hr hk hl => ?_)
  have hx := E.1
  have hb := E.2.1
  have hl : lv_has ls 3 [(0, .ref x), (1, .int z)] := hl
  obtain ⟨hX, k1, k4⟩ := hP
  refine lv_iload_n hx hb dX7_creditAt_0 rfl (lv_at hl 1 rfl) ?_
  refine lv_if_lt (tgt := 28) hx hb dX7_creditAt_1 (by decide) (fun c_1 => ?_) (fun c_1 => ?_)
  · exact absurd c_1 (nI_nneg ez (by omega))
  · refine lv_iload_n hx hb dX7_creditAt_4 rfl (lv_at hl 1 rfl) ?_
    refine lv_aload_n hx hb dX7_creditAt_5 rfl (lv_at hl 0 rfl) ?_
    refine gf_X7_26 E hG hX rfl dX7_creditAt_6 ?_
    refine gf_X7_71 E hG k1 rfl dX7_creditAt_9 ?_
    refine g_len (t0 := 4) (v := (nI nc)) E hG k4 rfl rfl dX7_creditAt_12 ?_
    refine lv_icmp_ge (tgt := 28) hx hb dX7_creditAt_13 (by decide) (fun c_13 => ?_) (fun c_13 => ?_)
    · exact absurd ((nLE (a := nc) (b := k) rfl ez (by omega) (by omega)).mp c_13) (by omega)
    · refine lv_aload_n hx hb dX7_creditAt_16 rfl (lv_at hl 0 rfl) ?_
      refine gf_X7_26 E hG hX rfl dX7_creditAt_17 ?_
      refine gf_X7_71 E hG k1 rfl dX7_creditAt_20 ?_
      refine lv_iload_n hx hb dX7_creditAt_23 rfl (lv_at hl 1 rfl) ?_
      refine g_aldS (t0 := 4) k rfl E hG k4 (ixq ez) (by omega) (by omega) dX7_creditAt_24 ?_
      refine lv_goto (tgt := 29) hx hb dX7_creditAt_25 (by decide) ?_
      refine lv_astore_n (lv' := [(2, .ref (cA k)), (0, .ref x), (1, .int z)]) hx hb dX7_creditAt_29 rfl hl (by decide) rfl (fun ls hl => ?_)
      refine lv_aload_n hx hb dX7_creditAt_30 rfl (lv_at hl 0 rfl) ?_
      refine lv_ifnonnull (tgt := 45) hx hb dX7_creditAt_31 (by decide) ?_
      refine lv_aload_n hx hb dX7_creditAt_45 rfl (lv_at hl 0 rfl) ?_
      exact rd_ref E hr (by first | exact Or.inl ⟨_, rfl⟩ | exact Or.inr ⟨_, rfl⟩) hk (rfl) dX7_creditAt_46

set_option maxHeartbeats 4000000 in
set_option maxRecDepth 100000 in
/-- creditAt -/
theorem c_X7_creditAt_x (l : Launch) (hst : l.stackTraces = false) (G : CG) {x bu bk pa cr : Nat} {bl es pn : Int32} {v0 v1 v2 v4 : Value} {nc : Nat} {cA : Nat → Nat} (z : Int32) (hin9 : inV z 0 (nI nc - 1) = 0) (hc0 : nc ≤ 12) : Tr l yX7_creditAt cX7_creditAt 3 ((Option.some (FieldType.object "DocumentaryCreditDesk$Credit"))) 6 90 G [.ref x, .int z] (fun H9 => At G x (.inr (7, dkF bu bl es bk pa pn)) H9 ∧ At G bk (.inr (0, [v0, v1, v2, .ref cr, v4])) H9 ∧ At G cr (refA G 4 nc cA) H9) "java/lang/IndexOutOfBoundsException" := by
  refine Tr.ofW (by decide) (Nat.le_of_ble_eq_true rfl) (fun p e s m below meth c ls E hG hE hP htab hk hl => ?_)
  have hx := E.1
  have hb := E.2.1
  have hl : lv_has ls 3 [(0, .ref x), (1, .int z)] := hl
  obtain ⟨hX, k1, k4⟩ := hP
  refine lv_iload_n hx hb dX7_creditAt_0 rfl (lv_at hl 1 rfl) ?_
  refine lv_if_lt (tgt := 28) hx hb dX7_creditAt_1 (by decide) (fun c_1 => ?_) (fun c_1 => ?_)
  · refine lv_null hx hb dX7_creditAt_28 ?_
    refine lv_astore_nN (lv' := [(2, .null), (0, .ref x), (1, .int z)]) hx hb dX7_creditAt_29 rfl hl (by decide) rfl (fun ls hl => ?_)
    refine lv_aload_nN hx hb dX7_creditAt_30 rfl (lv_at hl 0 rfl) ?_
    refine lv_ifnonnullN hx hb dX7_creditAt_31 ?_
    exact t_throwW (text := "there is no such credit") (i := 11) hst thk_IOB (by decide +kernel) E hG hE htab hk hl.1 dX7_creditAt_34 dX7_creditAt_37 dX7_creditAt_38 dX7_creditAt_41 dX7_creditAt_44 ⟨by decide, by decide, by decide, by decide⟩
  · refine lv_iload_n hx hb dX7_creditAt_4 rfl (lv_at hl 1 rfl) ?_
    refine lv_aload_n hx hb dX7_creditAt_5 rfl (lv_at hl 0 rfl) ?_
    refine gf_X7_26 E hG hX rfl dX7_creditAt_6 ?_
    refine gf_X7_71 E hG k1 rfl dX7_creditAt_9 ?_
    refine g_len (t0 := 4) (v := (nI nc)) E hG k4 rfl rfl dX7_creditAt_12 ?_
    refine lv_icmp_ge (tgt := 28) hx hb dX7_creditAt_13 (by decide) (fun c_13 => ?_) (fun c_13 => ?_)
    · refine lv_null hx hb dX7_creditAt_28 ?_
      refine lv_astore_nN (lv' := [(2, .null), (0, .ref x), (1, .int z)]) hx hb dX7_creditAt_29 rfl hl (by decide) rfl (fun ls hl => ?_)
      refine lv_aload_nN hx hb dX7_creditAt_30 rfl (lv_at hl 0 rfl) ?_
      refine lv_ifnonnullN hx hb dX7_creditAt_31 ?_
      exact t_throwW (text := "there is no such credit") (i := 11) hst thk_IOB (by decide +kernel) E hG hE htab hk hl.1 dX7_creditAt_34 dX7_creditAt_37 dX7_creditAt_38 dX7_creditAt_41 dX7_creditAt_44 ⟨by decide, by decide, by decide, by decide⟩
    · exact ((inV_0n (by omega) hin9).elim c_1 c_13).elim

set_option maxHeartbeats 4000000 in
set_option maxRecDepth 100000 in
/-- presentationAt -/
theorem c_X7_presentationAt (l : Launch) (G : CG) {x bu bk pa pr : Nat} {bl es pn : Int32} {v0 v1 v2 v3 : Value} {np : Nat} {pA : Nat → Nat} (z : Int32) (k : Nat) (ez : z = nI k) (hk9 : k < np) (hp0 : np ≤ 24) : Rd l yX7_presentationAt cX7_presentationAt 3 ((Option.some (FieldType.object "DocumentaryCreditDesk$Presentation"))) 0 0 G [.ref x, .int z] (fun H9 => At G x (.inr (7, dkF bu bl es bk pa pn)) H9 ∧ At G bk (.inr (0, [v0, v1, v2, v3, .ref pr])) H9 ∧ At G pr (refA G 5 np pA) H9) (some (.ref (pA k))) := by
  refine Rd.ofW (by decide) (Nat.le_of_ble_eq_true rfl) (fun p e s m below meth c ls E hG hE hP hr hk hl => ?_)
  have hx := E.1
  have hb := E.2.1
  have hl : lv_has ls 3 [(0, .ref x), (1, .int z)] := hl
  obtain ⟨hX, k1, k4⟩ := hP
  refine lv_iload_n hx hb dX7_presentationAt_0 rfl (lv_at hl 1 rfl) ?_
  refine lv_if_lt (tgt := 28) hx hb dX7_presentationAt_1 (by decide) (fun c_1 => ?_) (fun c_1 => ?_)
  · exact absurd c_1 (nI_nneg ez (by omega))
  · refine lv_iload_n hx hb dX7_presentationAt_4 rfl (lv_at hl 1 rfl) ?_
    refine lv_aload_n hx hb dX7_presentationAt_5 rfl (lv_at hl 0 rfl) ?_
    refine gf_X7_26 E hG hX rfl dX7_presentationAt_6 ?_
    refine gf_X7_75 E hG k1 rfl dX7_presentationAt_9 ?_
    refine g_len (t0 := 5) (v := (nI np)) E hG k4 rfl rfl dX7_presentationAt_12 ?_
    refine lv_icmp_ge (tgt := 28) hx hb dX7_presentationAt_13 (by decide) (fun c_13 => ?_) (fun c_13 => ?_)
    · exact absurd ((nLE (a := np) (b := k) rfl ez (by omega) (by omega)).mp c_13) (by omega)
    · refine lv_aload_n hx hb dX7_presentationAt_16 rfl (lv_at hl 0 rfl) ?_
      refine gf_X7_26 E hG hX rfl dX7_presentationAt_17 ?_
      refine gf_X7_75 E hG k1 rfl dX7_presentationAt_20 ?_
      refine lv_iload_n hx hb dX7_presentationAt_23 rfl (lv_at hl 1 rfl) ?_
      refine g_aldS (t0 := 5) k rfl E hG k4 (ixq ez) (by omega) (by omega) dX7_presentationAt_24 ?_
      refine lv_goto (tgt := 29) hx hb dX7_presentationAt_25 (by decide) ?_
      refine lv_astore_n (lv' := [(2, .ref (pA k)), (0, .ref x), (1, .int z)]) hx hb dX7_presentationAt_29 rfl hl (by decide) rfl (fun ls hl => ?_)
      refine lv_aload_n hx hb dX7_presentationAt_30 rfl (lv_at hl 0 rfl) ?_
      refine lv_ifnonnull (tgt := 45) hx hb dX7_presentationAt_31 (by decide) ?_
      refine lv_aload_n hx hb dX7_presentationAt_45 rfl (lv_at hl 0 rfl) ?_
      exact rd_ref E hr (by first | exact Or.inl ⟨_, rfl⟩ | exact Or.inr ⟨_, rfl⟩) hk (rfl) dX7_presentationAt_46

set_option maxHeartbeats 4000000 in
set_option maxRecDepth 100000 in
/-- presentationAt -/
theorem c_X7_presentationAt_x (l : Launch) (hst : l.stackTraces = false) (G : CG) {x bu bk pa pr : Nat} {bl es pn : Int32} {v0 v1 v2 v3 : Value} {np : Nat} {pA : Nat → Nat} (z : Int32) (hin9 : inV z 0 (nI np - 1) = 0) (hp0 : np ≤ 24) : Tr l yX7_presentationAt cX7_presentationAt 3 ((Option.some (FieldType.object "DocumentaryCreditDesk$Presentation"))) 6 90 G [.ref x, .int z] (fun H9 => At G x (.inr (7, dkF bu bl es bk pa pn)) H9 ∧ At G bk (.inr (0, [v0, v1, v2, v3, .ref pr])) H9 ∧ At G pr (refA G 5 np pA) H9) "java/lang/IndexOutOfBoundsException" := by
  refine Tr.ofW (by decide) (Nat.le_of_ble_eq_true rfl) (fun p e s m below meth c ls E hG hE hP htab hk hl => ?_)
  have hx := E.1
  have hb := E.2.1
  have hl : lv_has ls 3 [(0, .ref x), (1, .int z)] := hl
  obtain ⟨hX, k1, k4⟩ := hP
  refine lv_iload_n hx hb dX7_presentationAt_0 rfl (lv_at hl 1 rfl) ?_
  refine lv_if_lt (tgt := 28) hx hb dX7_presentationAt_1 (by decide) (fun c_1 => ?_) (fun c_1 => ?_)
  · refine lv_null hx hb dX7_presentationAt_28 ?_
    refine lv_astore_nN (lv' := [(2, .null), (0, .ref x), (1, .int z)]) hx hb dX7_presentationAt_29 rfl hl (by decide) rfl (fun ls hl => ?_)
    refine lv_aload_nN hx hb dX7_presentationAt_30 rfl (lv_at hl 0 rfl) ?_
    refine lv_ifnonnullN hx hb dX7_presentationAt_31 ?_
    exact t_throwW (text := "there is no such presentation") (i := 12) hst thk_IOB (by decide +kernel) E hG hE htab hk hl.1 dX7_presentationAt_34 dX7_presentationAt_37 dX7_presentationAt_38 dX7_presentationAt_41 dX7_presentationAt_44 ⟨by decide, by decide, by decide, by decide⟩
  · refine lv_iload_n hx hb dX7_presentationAt_4 rfl (lv_at hl 1 rfl) ?_
    refine lv_aload_n hx hb dX7_presentationAt_5 rfl (lv_at hl 0 rfl) ?_
    refine gf_X7_26 E hG hX rfl dX7_presentationAt_6 ?_
    refine gf_X7_75 E hG k1 rfl dX7_presentationAt_9 ?_
    refine g_len (t0 := 5) (v := (nI np)) E hG k4 rfl rfl dX7_presentationAt_12 ?_
    refine lv_icmp_ge (tgt := 28) hx hb dX7_presentationAt_13 (by decide) (fun c_13 => ?_) (fun c_13 => ?_)
    · refine lv_null hx hb dX7_presentationAt_28 ?_
      refine lv_astore_nN (lv' := [(2, .null), (0, .ref x), (1, .int z)]) hx hb dX7_presentationAt_29 rfl hl (by decide) rfl (fun ls hl => ?_)
      refine lv_aload_nN hx hb dX7_presentationAt_30 rfl (lv_at hl 0 rfl) ?_
      refine lv_ifnonnullN hx hb dX7_presentationAt_31 ?_
      exact t_throwW (text := "there is no such presentation") (i := 12) hst thk_IOB (by decide +kernel) E hG hE htab hk hl.1 dX7_presentationAt_34 dX7_presentationAt_37 dX7_presentationAt_38 dX7_presentationAt_41 dX7_presentationAt_44 ⟨by decide, by decide, by decide, by decide⟩
    · exact ((inV_0n (by omega) hin9).elim c_1 c_13).elim

set_option maxHeartbeats 4000000 in
set_option maxRecDepth 100000 in
/-- needRange, in range -/
theorem c_X7_needRange (l : Launch) (G : CG) (v lo hi9 : Int32) (hin8 : inV v lo hi9 = 1) : Rd l yX7_needRange cX7_needRange 3 ((Option.none : Option FieldType)) 0 0 G [.int v, .int lo, .int hi9] (fun _ => True) (none) := by
  refine Rd.ofW (by decide) (Nat.le_of_ble_eq_true rfl) (fun p e s m below meth c ls E hG hE hP hr hk hl => ?_)
  have hx := E.1
  have hb := E.2.1
  have hl : lv_has ls 3 [(0, .int v), (1, .int lo), (2, .int hi9)] := hl
  refine lv_iload_n hx hb dX7_needRange_0 rfl (lv_at hl 0 rfl) ?_
  refine lv_iload_n hx hb dX7_needRange_1 rfl (lv_at hl 1 rfl) ?_
  refine lv_icmp_lt (tgt := 10) hx hb dX7_needRange_2 (by decide) (fun c_2 => ?_) (fun c_2 => ?_)
  · exact absurd c_2 (inV_1 hin8).1
  · refine lv_iload_n hx hb dX7_needRange_5 rfl (lv_at hl 0 rfl) ?_
    refine lv_iload_n hx hb dX7_needRange_6 rfl (lv_at hl 2 rfl) ?_
    refine lv_icmp_le (tgt := 21) hx hb dX7_needRange_7 (by decide) (fun c_7 => ?_) (fun c_7 => ?_)
    · exact rd_void E hr hk (rfl) dX7_needRange_21
    · exact absurd (inV_1 hin8).2 c_7

set_option maxHeartbeats 4000000 in
set_option maxRecDepth 100000 in
/-- needRange, out of it -/
theorem c_X7_needRange_x (l : Launch) (hst : l.stackTraces = false) (G : CG) (v lo hi9 : Int32) (hin8 : inV v lo hi9 = 0) : Tr l yX7_needRange cX7_needRange 3 ((Option.none : Option FieldType)) 6 90 G [.int v, .int lo, .int hi9] (fun _ => True) "java/lang/IllegalArgumentException" := by
  refine Tr.ofW (by decide) (Nat.le_of_ble_eq_true rfl) (fun p e s m below meth c ls E hG hE hP htab hk hl => ?_)
  have hx := E.1
  have hb := E.2.1
  have hl : lv_has ls 3 [(0, .int v), (1, .int lo), (2, .int hi9)] := hl
  refine lv_iload_n hx hb dX7_needRange_0 rfl (lv_at hl 0 rfl) ?_
  refine lv_iload_n hx hb dX7_needRange_1 rfl (lv_at hl 1 rfl) ?_
  refine lv_icmp_lt (tgt := 10) hx hb dX7_needRange_2 (by decide) (fun c_2 => ?_) (fun c_2 => ?_)
  · exact t_throwW (text := "a number is out of range") (i := 10) hst thk_IAE (by decide +kernel) E hG hE htab hk hl.1 dX7_needRange_10 dX7_needRange_13 dX7_needRange_14 dX7_needRange_17 dX7_needRange_20 ⟨by decide, by decide, by decide, by decide⟩
  · refine lv_iload_n hx hb dX7_needRange_5 rfl (lv_at hl 0 rfl) ?_
    refine lv_iload_n hx hb dX7_needRange_6 rfl (lv_at hl 2 rfl) ?_
    refine lv_icmp_le (tgt := 21) hx hb dX7_needRange_7 (by decide) (fun c_7 => ?_) (fun c_7 => ?_)
    · exact ((inV_0 hin8).elim c_2 (fun z9 => z9 c_7)).elim
    · exact t_throwW (text := "a number is out of range") (i := 10) hst thk_IAE (by decide +kernel) E hG hE htab hk hl.1 dX7_needRange_10 dX7_needRange_13 dX7_needRange_14 dX7_needRange_17 dX7_needRange_20 ⟨by decide, by decide, by decide, by decide⟩

set_option maxHeartbeats 4000000 in
set_option maxRecDepth 100000 in
/-- needPresentable, all in range -/
theorem c_X7_needPresentable (l : Launch) (G : CG) (sh am dc ins : Int32) (hw9 : isWrongV sh am dc ins = 0) : Rd l yX7_needPresentable cX7_needPresentable 4 ((Option.none : Option FieldType)) 7 112 G [.int sh, .int am, .int dc, .int ins] (fun _ => True) (none) := by
  refine Rd.ofW (by decide) (Nat.le_of_ble_eq_true rfl) (fun p e s m below meth c ls E hG hE hP hr hk hl => ?_)
  have hx := E.1
  have hb := E.2.1
  have hl : lv_has ls 4 [(0, .int sh), (1, .int am), (2, .int dc), (3, .int ins)] := hl
  refine lv_iload_n hx hb dX7_needPresentable_0 rfl (lv_at hl 0 rfl) ?_
  refine lv_iconst (v := 0) hx hb dX7_needPresentable_1 rfl ?_
  refine lv_sipush (v := 9999) hx hb dX7_needPresentable_2 rfl ?_
  refine Rd.callS (rest := []) (c_X7_needRange l G sh 0 9999 ((isW_0 hw9).1)) yk_X7_needRange E km_X7_82 dX7_needPresentable_5 hG hE trivial rfl rfl hl.1 ⟨Nat.le_of_ble_eq_true rfl, Nat.le_of_ble_eq_true rfl⟩ ⟨Nat.zero_le _, Nat.zero_le _⟩ (Nat.le_of_ble_eq_true rfl) ?_
  refine lv_iload_n hx hb dX7_needPresentable_8 rfl (lv_at hl 1 rfl) ?_
  refine lv_iconst (v := 1) hx hb dX7_needPresentable_9 rfl ?_
  refine lv_ldcw (v := 1999999) hx hb E.2.2.2.1 (E.2.2.2.2 _ kk_X7_267) dX7_needPresentable_10 ?_
  refine Rd.callS (rest := []) (c_X7_needRange l G am 1 1999999 ((isW_0 hw9).2.1)) yk_X7_needRange E km_X7_82 dX7_needPresentable_13 hG hE trivial rfl rfl hl.1 ⟨Nat.le_of_ble_eq_true rfl, Nat.le_of_ble_eq_true rfl⟩ ⟨Nat.zero_le _, Nat.zero_le _⟩ (Nat.le_of_ble_eq_true rfl) ?_
  refine lv_iload_n hx hb dX7_needPresentable_16 rfl (lv_at hl 2 rfl) ?_
  refine lv_iconst (v := 0) hx hb dX7_needPresentable_17 rfl ?_
  refine lv_sipush (v := 255) hx hb dX7_needPresentable_18 rfl ?_
  refine Rd.callS (rest := []) (c_X7_needRange l G dc 0 255 ((isW_0 hw9).2.2.1)) yk_X7_needRange E km_X7_82 dX7_needPresentable_21 hG hE trivial rfl rfl hl.1 ⟨Nat.le_of_ble_eq_true rfl, Nat.le_of_ble_eq_true rfl⟩ ⟨Nat.zero_le _, Nat.zero_le _⟩ (Nat.le_of_ble_eq_true rfl) ?_
  refine lv_iload_n hx hb dX7_needPresentable_24 rfl (lv_at hl 3 rfl) ?_
  refine lv_if_ge (tgt := 39) hx hb dX7_needPresentable_25 (by decide) (fun c_25 => ?_) (fun c_25 => ?_)
  · exact rd_void E hr hk (rfl) dX7_needPresentable_39
  · exact absurd (isW_0 hw9).2.2.2 c_25

set_option maxHeartbeats 4000000 in
set_option maxRecDepth 100000 in
/-- needPresentable, one out of range -/
theorem c_X7_needPresentable_x (l : Launch) (hst : l.stackTraces = false) (G : CG) (sh am dc ins : Int32) (hw9 : isWrongV sh am dc ins = 1) : Tr l yX7_needPresentable cX7_needPresentable 4 ((Option.none : Option FieldType)) 7 112 G [.int sh, .int am, .int dc, .int ins] (fun _ => True) "java/lang/IllegalArgumentException" := by
  refine Tr.ofW (by decide) (Nat.le_of_ble_eq_true rfl) (fun p e s m below meth c ls E hG hE hP htab hk hl => ?_)
  have hx := E.1
  have hb := E.2.1
  have hl : lv_has ls 4 [(0, .int sh), (1, .int am), (2, .int dc), (3, .int ins)] := hl
  refine lv_iload_n hx hb dX7_needPresentable_0 rfl (lv_at hl 0 rfl) ?_
  refine lv_iconst (v := 0) hx hb dX7_needPresentable_1 rfl ?_
  refine lv_sipush (v := 9999) hx hb dX7_needPresentable_2 rfl ?_
  by_cases h_5 : inV sh 0 9999 = 0
  · exact Tr.callS (rest := []) (c_X7_needRange_x l hst G sh 0 9999 h_5) yk_X7_needRange E km_X7_82 dX7_needPresentable_5 hG hE trivial rfl rfl hl.1 ⟨Nat.le_of_ble_eq_true rfl, Nat.le_of_ble_eq_true rfl⟩ ⟨by decide, by decide⟩ (Nat.le_of_ble_eq_true rfl) htab hk
  · refine Rd.callS (rest := []) (c_X7_needRange l G sh 0 9999 (inV_n1 h_5)) yk_X7_needRange E km_X7_82 dX7_needPresentable_5 hG hE trivial rfl rfl hl.1 ⟨Nat.le_of_ble_eq_true rfl, Nat.le_of_ble_eq_true rfl⟩ ⟨Nat.zero_le _, Nat.zero_le _⟩ (Nat.le_of_ble_eq_true rfl) ?_
    refine lv_iload_n hx hb dX7_needPresentable_8 rfl (lv_at hl 1 rfl) ?_
    refine lv_iconst (v := 1) hx hb dX7_needPresentable_9 rfl ?_
    refine lv_ldcw (v := 1999999) hx hb E.2.2.2.1 (E.2.2.2.2 _ kk_X7_267) dX7_needPresentable_10 ?_
    by_cases h_13 : inV am 1 1999999 = 0
    · exact Tr.callS (rest := []) (c_X7_needRange_x l hst G am 1 1999999 h_13) yk_X7_needRange E km_X7_82 dX7_needPresentable_13 hG hE trivial rfl rfl hl.1 ⟨Nat.le_of_ble_eq_true rfl, Nat.le_of_ble_eq_true rfl⟩ ⟨by decide, by decide⟩ (Nat.le_of_ble_eq_true rfl) htab hk
    · refine Rd.callS (rest := []) (c_X7_needRange l G am 1 1999999 (inV_n1 h_13)) yk_X7_needRange E km_X7_82 dX7_needPresentable_13 hG hE trivial rfl rfl hl.1 ⟨Nat.le_of_ble_eq_true rfl, Nat.le_of_ble_eq_true rfl⟩ ⟨Nat.zero_le _, Nat.zero_le _⟩ (Nat.le_of_ble_eq_true rfl) ?_
      refine lv_iload_n hx hb dX7_needPresentable_16 rfl (lv_at hl 2 rfl) ?_
      refine lv_iconst (v := 0) hx hb dX7_needPresentable_17 rfl ?_
      refine lv_sipush (v := 255) hx hb dX7_needPresentable_18 rfl ?_
      by_cases h_21 : inV dc 0 255 = 0
      · exact Tr.callS (rest := []) (c_X7_needRange_x l hst G dc 0 255 h_21) yk_X7_needRange E km_X7_82 dX7_needPresentable_21 hG hE trivial rfl rfl hl.1 ⟨Nat.le_of_ble_eq_true rfl, Nat.le_of_ble_eq_true rfl⟩ ⟨by decide, by decide⟩ (Nat.le_of_ble_eq_true rfl) htab hk
      · refine Rd.callS (rest := []) (c_X7_needRange l G dc 0 255 (inV_n1 h_21)) yk_X7_needRange E km_X7_82 dX7_needPresentable_21 hG hE trivial rfl rfl hl.1 ⟨Nat.le_of_ble_eq_true rfl, Nat.le_of_ble_eq_true rfl⟩ ⟨Nat.zero_le _, Nat.zero_le _⟩ (Nat.le_of_ble_eq_true rfl) ?_
        refine lv_iload_n hx hb dX7_needPresentable_24 rfl (lv_at hl 3 rfl) ?_
        refine lv_if_ge (tgt := 39) hx hb dX7_needPresentable_25 (by decide) (fun c_25 => ?_) (fun c_25 => ?_)
        · exact absurd c_25 (isW_1 hw9 h_5 h_13 h_21)
        · exact t_throwW (text := "the insured sum is negative") (i := 29) hst thk_IAE (by decide +kernel) E hG hE htab hk hl.1 dX7_needPresentable_28 dX7_needPresentable_31 dX7_needPresentable_32 dX7_needPresentable_35 dX7_needPresentable_38 ⟨by decide, by decide, by decide, by decide⟩

set_option maxHeartbeats 4000000 in
set_option maxRecDepth 100000 in
/-- lastDayFor -/
theorem c_X7_lastDayFor (l : Launch) (G : CG) {q c9 : Nat} {x bu bk pa : Nat} {bl es pn : Int32} {A : Nat → Prop} {d : Nat → Int32} {nc np nh : Nat} (y : Int32) (n ex1 pe1 : Nat) (ey : y = nI n) (hn : n ≤ 9999) (hh : nh ≤ 16) (hx9 : d (cP c9 + 3) = nI ex1) (hx8 : ex1 < 1000) (hx7 : d (cP c9 + 5) = nI pe1) (hx6 : pe1 < 1000) : Rd l yX7_lastDayFor cX7_lastDayFor 3 ((Option.some FieldType.int)) 3 69 G [.ref x, .ref q, .int y] (fun H9 => DK G A x bu bl es bk pa pn d nc np nh H9 ∧ At G q (.inr (2, crF d c9)) H9) (some (.int (nI (lastV d nh ex1 pe1 n)))) := by
  refine Rd.ofW (by decide) (Nat.le_of_ble_eq_true rfl) (fun p e s m below meth c ls E hG hE hP hr hk hl => ?_)
  have hx := E.1
  have hb := E.2.1
  have hl : lv_has ls 3 [(0, .ref x), (1, .ref q), (2, .int y)] := hl
  obtain ⟨hP, hq⟩ := hP
  obtain ⟨hX, hB⟩ := hP
  obtain ⟨ca, ho, fe, cr, pr, cA, pA, k1, k2, k3, k4, k5, k6, k7, k8⟩ := id hB
  refine lv_aload_n hx hb dX7_lastDayFor_0 rfl (lv_at hl 0 rfl) ?_
  refine gf_X7_26 E hG hX rfl dX7_lastDayFor_1 ?_
  refine gf_X7_86 E hG k1.1 rfl dX7_lastDayFor_4 ?_
  refine lv_aload_n hx hb dX7_lastDayFor_7 rfl (lv_at hl 1 rfl) ?_
  refine gf_X7_123 E hG hq rfl dX7_lastDayFor_8 ?_
  refine Rd.callV (rest := []) (c_X1_firstOpen l G (d (cP c9 + 3)) ex1 hx9 (by omega) hh) yk_X1_firstOpen E km_X7_96 dX7_lastDayFor_11 hG hE ⟨k2.1, k3.1⟩ (At.recv hG k2.1 rfl) rfl rfl hl.1 ⟨Nat.le_of_ble_eq_true rfl, Nat.le_of_ble_eq_true rfl⟩ ⟨Nat.zero_le _, Nat.zero_le _⟩ (Nat.le_of_ble_eq_true rfl) ?_
  refine lv_aload_n hx hb dX7_lastDayFor_14 rfl (lv_at hl 0 rfl) ?_
  refine gf_X7_26 E hG hX rfl dX7_lastDayFor_15 ?_
  refine gf_X7_86 E hG k1.1 rfl dX7_lastDayFor_18 ?_
  refine lv_iload_n hx hb dX7_lastDayFor_21 rfl (lv_at hl 2 rfl) ?_
  refine lv_aload_n hx hb dX7_lastDayFor_22 rfl (lv_at hl 1 rfl) ?_
  refine gf_X7_284 E hG hq rfl dX7_lastDayFor_23 ?_
  refine lv_iadd hx hb dX7_lastDayFor_26 ?_
  refine Rd.callV (rest := [.int (nI (ext d nh ex1))]) (c_X1_firstOpen l G (y + (d (cP c9 + 5))) (n + pe1) (nI_ad ey hx7) (by omega) hh) yk_X1_firstOpen E km_X7_96 dX7_lastDayFor_27 hG hE ⟨k2.1, k3.1⟩ (At.recv hG k2.1 rfl) rfl rfl hl.1 ⟨Nat.le_of_ble_eq_true rfl, Nat.le_of_ble_eq_true rfl⟩ ⟨Nat.zero_le _, Nat.zero_le _⟩ (Nat.le_of_ble_eq_true rfl) ?_
  refine g_mmin (rest := []) E km_X7_287 dX7_lastDayFor_30 (Nat.le_of_ble_eq_true rfl) (Nat.le_of_ble_eq_true rfl) ⟨Nat.le_of_ble_eq_true rfl, Nat.le_of_ble_eq_true rfl⟩ hl.1 ?_
  exact rd_int E hr hk (by rw [jmin_nI (a := ext d nh ex1) (b := ext d nh (n + pe1)) (by have := (ext_bound d (n := ex1) hh (by omega)).2; omega) (by have := (ext_bound d (n := n + pe1) hh (by omega)).2; omega)]; rfl) dX7_lastDayFor_33

set_option maxHeartbeats 4000000 in
set_option maxRecDepth 100000 in
/-- deadlineFor -/
theorem c_X7_deadlineFor (l : Launch) (G : CG) {q p9 : Nat} {x bu bk pa : Nat} {bl es pn : Int32} {A : Nat → Prop} {d : Nat → Int32} {nc np nh : Nat} (dy : Nat) (hd1 : d (pP p9 + 1) = nI dy) (hd2 : dy ≤ 9000) (hh : nh ≤ 16) : Rd l yX7_deadlineFor cX7_deadlineFor 2 ((Option.some FieldType.int)) 4 93 G [.ref x, .ref q] (fun H9 => DK G A x bu bl es bk pa pn d nc np nh H9 ∧ At G q (.inr (5, prF d nh p9)) H9) (some (.int (nI (addB d nh 5 dy)))) := by
  refine Rd.ofW (by decide) (Nat.le_of_ble_eq_true rfl) (fun p e s m below meth c ls E hG hE hP hr hk hl => ?_)
  have hx := E.1
  have hb := E.2.1
  have hl : lv_has ls 2 [(0, .ref x), (1, .ref q)] := hl
  obtain ⟨hP, hq⟩ := hP
  obtain ⟨hX, hB⟩ := hP
  obtain ⟨ca, ho, fe, cr, pr, cA, pA, k1, k2, k3, k4, k5, k6, k7, k8⟩ := id hB
  refine lv_aload_n hx hb dX7_deadlineFor_0 rfl (lv_at hl 0 rfl) ?_
  refine gf_X7_26 E hG hX rfl dX7_deadlineFor_1 ?_
  refine gf_X7_86 E hG k1.1 rfl dX7_deadlineFor_4 ?_
  refine lv_aload_n hx hb dX7_deadlineFor_7 rfl (lv_at hl 1 rfl) ?_
  refine gf_X7_165 E hG hq rfl dX7_deadlineFor_8 ?_
  refine lv_iconst (v := 5) hx hb dX7_deadlineFor_11 rfl ?_
  refine Rd.callV (rest := []) (c_X1_openDayAfter l G (d (pP p9 + 1)) 5 dy 5 hd1 rfl (by omega) hh) yk_X1_openDayAfter E km_X7_100 dX7_deadlineFor_12 hG hE ⟨k2.1, k3.1⟩ (At.recv hG k2.1 rfl) rfl rfl hl.1 ⟨Nat.le_of_ble_eq_true rfl, Nat.le_of_ble_eq_true rfl⟩ ⟨Nat.zero_le _, Nat.zero_le _⟩ (Nat.le_of_ble_eq_true rfl) ?_
  exact rd_int E hr hk (rfl) dX7_deadlineFor_15

set_option maxHeartbeats 4000000 in
set_option maxRecDepth 100000 in
/-- stateAfterExamination -/
theorem c_X7_stateAfterExamination (l : Launch) (G : CG) {q p9 : Nat} {x bu bk pa : Nat} {bl es pn : Int32} {A : Nat → Prop} {d : Nat → Int32} {nc np nh : Nat} (dy : Nat) (hd1 : d (pP p9 + 1) = nI dy) (hd2 : dy ≤ 9000) (hh : nh ≤ 16) : Rd l yX7_stateAfterExamination cX7_stateAfterExamination 2 ((Option.some FieldType.int)) 5 114 G [.ref x, .ref q] (fun H9 => DK G A x bu bl es bk pa pn d nc np nh H9 ∧ At G q (.inr (5, prF d nh p9)) H9) (some (.int (if exV d nh p9 dy = 1 then 2 else 1))) := by
  refine Rd.ofW (by decide) (Nat.le_of_ble_eq_true rfl) (fun p e s m below meth c ls E hG hE hP hr hk hl => ?_)
  have hx := E.1
  have hb := E.2.1
  have hl : lv_has ls 2 [(0, .ref x), (1, .ref q)] := hl
  obtain ⟨hP, hq⟩ := hP
  obtain ⟨hX, hB⟩ := hP
  obtain ⟨ca, ho, fe, cr, pr, cA, pA, k1, k2, k3, k4, k5, k6, k7, k8⟩ := id hB
  refine lv_aload_n hx hb dX7_stateAfterExamination_0 rfl (lv_at hl 1 rfl) ?_
  refine gf_X7_148 E hG hq rfl dX7_stateAfterExamination_1 ?_
  refine lv_if_ne (tgt := 9) hx hb dX7_stateAfterExamination_4 (by decide) (fun c_4 => ?_) (fun c_4 => ?_)
  · refine lv_aload_n hx hb dX7_stateAfterExamination_9 rfl (lv_at hl 1 rfl) ?_
    refine lv_iconst (v := 4) hx hb dX7_stateAfterExamination_10 rfl ?_
    refine Rd.callV (rest := []) (c_X5_has l G (d (pP p9 + 3)) 4 rfl) yk_X5_has E km_X7_226 dX7_stateAfterExamination_11 hG hE hq (At.recv hG hq rfl) rfl rfl hl.1 ⟨Nat.le_of_ble_eq_true rfl, Nat.le_of_ble_eq_true rfl⟩ ⟨Nat.zero_le _, Nat.zero_le _⟩ (Nat.le_of_ble_eq_true rfl) ?_
    refine lv_if_eq (tgt := 19) hx hb dX7_stateAfterExamination_14 (by decide) (fun c_14 => ?_) (fun c_14 => ?_)
    · rw [ite01] at c_14
      refine lv_aload_n hx hb dX7_stateAfterExamination_19 rfl (lv_at hl 0 rfl) ?_
      refine gf_X7_26 E hG hX rfl dX7_stateAfterExamination_20 ?_
      refine gf_X7_79 E hG k1.1 rfl dX7_stateAfterExamination_23 ?_
      refine lv_aload_n hx hb dX7_stateAfterExamination_26 rfl (lv_at hl 0 rfl) ?_
      refine lv_aload_n hx hb dX7_stateAfterExamination_27 rfl (lv_at hl 1 rfl) ?_
      refine Rd.callV (rest := [.int (d 3)]) (c_X7_deadlineFor l G dy hd1 hd2 hh) yk_X7_deadlineFor E km_X7_151 dX7_stateAfterExamination_28 hG hE ⟨⟨hX, hB⟩, hq⟩ (At.recv hG hX rfl) rfl rfl hl.1 ⟨Nat.le_of_ble_eq_true rfl, Nat.le_of_ble_eq_true rfl⟩ ⟨Nat.zero_le _, Nat.zero_le _⟩ (Nat.le_of_ble_eq_true rfl) ?_
      refine lv_icmp_le (tgt := 38) hx hb dX7_stateAfterExamination_31 (by decide) (fun c_31 => ?_) (fun c_31 => ?_)
      · refine lv_iconst (v := 1) hx hb dX7_stateAfterExamination_38 rfl ?_
        exact rd_int E hr hk (by simp [exV, c_4, c_14, c_31]) dX7_stateAfterExamination_39
      · refine lv_iconst (v := 2) hx hb dX7_stateAfterExamination_34 rfl ?_
        refine lv_goto (tgt := 39) hx hb dX7_stateAfterExamination_35 (by decide) ?_
        exact rd_int E hr hk (by simp [exV, c_4, c_14, c_31]) dX7_stateAfterExamination_39
    · rw [ite01] at c_14
      refine lv_iconst (v := 1) hx hb dX7_stateAfterExamination_17 rfl ?_
      exact rd_int E hr hk (by simp [exV, c_4, c_14]) dX7_stateAfterExamination_18
  · refine lv_iconst (v := 2) hx hb dX7_stateAfterExamination_7 rfl ?_
    exact rd_int E hr hk (by simp [exV, c_4]) dX7_stateAfterExamination_8

set_option maxHeartbeats 4000000 in
set_option maxRecDepth 100000 in
/-- discrepanciesToday -/
theorem c_X7_discrepanciesToday (l : Launch) (G : CG) {q c9 : Nat} {x bu bk pa : Nat} {bl es pn : Int32} {A : Nat → Prop} {d : Nat → Int32} {nc np nh : Nat} (y am dc ins : Int32) (n ex1 pe1 nd : Nat) (ey : y = nI n) (hn : n ≤ 9999) (hh : nh ≤ 16) (hp0 : np ≤ 24) (hc0 : nc ≤ 12) (hnd : d (cP c9 + 9) = nI nd) (hnd2 : nd < 256) (hx9 : d (cP c9 + 3) = nI ex1) (hx8 : ex1 < 1000) (hx7 : d (cP c9 + 5) = nI pe1) (hx6 : pe1 < 1000) : Rd l yX7_discrepanciesToday cX7_discrepanciesToday 7 ((Option.some FieldType.int)) 4 91 G [.ref x, .ref q, .int y, .int am, .int dc, .int ins] (fun H9 => DK G A x bu bl es bk pa pn d nc np nh H9 ∧ At G q (.inr (2, crF d c9)) H9) (some (.int (faultsV d np nc nh ex1 pe1 c9 n am dc ins))) := by
  refine Rd.ofW (by decide) (Nat.le_of_ble_eq_true rfl) (fun p e s m below meth c ls E hG hE hP hr hk hl => ?_)
  have hx := E.1
  have hb := E.2.1
  have hl : lv_has ls 7 [(0, .ref x), (1, .ref q), (2, .int y), (3, .int am), (4, .int dc), (5, .int ins)] := hl
  subst ey
  obtain ⟨hP, hq⟩ := hP
  obtain ⟨hX, hB⟩ := hP
  obtain ⟨ca, ho, fe, cr, pr, cA, pA, k1, k2, k3, k4, k5, k6, k7, k8⟩ := id hB
  refine lv_iconst (v := 0) hx hb dX7_discrepanciesToday_0 rfl ?_
  refine lv_istore (lv' := [(6, .int 0), (0, .ref x), (1, .ref q), (2, .int (nI n)), (3, .int am), (4, .int dc), (5, .int ins)]) hx hb dX7_discrepanciesToday_1 hl (by decide) rfl (fun ls hl => ?_)
  refine W.cutL (nL := 7) (pc := 17) (lv := [(6, .int (0 ||| fl1 d c9 (nI n))), (0, .ref x), (1, .ref q), (2, .int (nI n)), (3, .int am), (4, .int dc), (5, .int ins)]) (st := []) (fun K => ?_) (fun ls hl => ?_)
  · refine lv_iload_n hx hb dX7_discrepanciesToday_3 rfl (lv_at hl 3 rfl) ?_
    refine lv_aload_n hx hb dX7_discrepanciesToday_4 rfl (lv_at hl 2 rfl) ?_
    refine gf_X7_270 E hG hq rfl dX7_discrepanciesToday_5 ?_
    refine lv_icmp_le (tgt := 17) hx hb dX7_discrepanciesToday_8 (by decide) (fun c_8 => ?_) (fun c_8 => ?_)
    · exact K ls (by rw [show (0 ||| fl1 d c9 (nI n)) = 0 by first | (simp only [fl1, Int32.or_zero, c_8, ↓reduceIte, not_true_eq_false, not_false_eq_true]; done) | (simp [fl1, Int32.or_zero, c_8]; done)]; exact (lv_sub hl [0, 1, 2, 3, 4, 5, 6] rfl))
    · refine lv_iload hx hb dX7_discrepanciesToday_11 (lv_at hl 0 rfl) ?_
      refine lv_iconst (v := 1) hx hb dX7_discrepanciesToday_13 rfl ?_
      refine lv_ior hx hb dX7_discrepanciesToday_14 ?_
      refine lv_istore (lv' := [(6, .int (0 ||| 1)), (0, .ref x), (1, .ref q), (2, .int (nI n)), (3, .int am), (4, .int dc), (5, .int ins)]) hx hb dX7_discrepanciesToday_15 hl (by decide) rfl (fun ls hl => ?_)
      exact K ls (by rw [show (0 ||| fl1 d c9 (nI n)) = (0 ||| 1) by first | (simp only [fl1, Int32.or_zero, c_8, ↓reduceIte, not_true_eq_false, not_false_eq_true]; done) | (simp [fl1, Int32.or_zero, c_8]; done)]; exact (lv_sub hl [0, 1, 2, 3, 4, 5, 6] rfl))
  refine W.cutL (nL := 7) (pc := 39) (lv := [(6, .int ((0 ||| fl1 d c9 (nI n)) ||| fl2 d nh ex1 pe1 n (d 3))), (0, .ref x), (1, .ref q), (2, .int (nI n)), (3, .int am), (4, .int dc), (5, .int ins)]) (st := []) (fun K => ?_) (fun ls hl => ?_)
  · refine lv_aload_n hx hb dX7_discrepanciesToday_17 rfl (lv_at hl 1 rfl) ?_
    refine gf_X7_26 E hG hX rfl dX7_discrepanciesToday_18 ?_
    refine gf_X7_79 E hG k1.1 rfl dX7_discrepanciesToday_21 ?_
    refine lv_aload_n hx hb dX7_discrepanciesToday_24 rfl (lv_at hl 1 rfl) ?_
    refine lv_aload_n hx hb dX7_discrepanciesToday_25 rfl (lv_at hl 2 rfl) ?_
    refine lv_iload_n hx hb dX7_discrepanciesToday_26 rfl (lv_at hl 3 rfl) ?_
    refine Rd.callV (rest := [.int (d 3)]) (c_X7_lastDayFor l G (nI n) n ex1 pe1 rfl (by omega) hh hx9 hx8 hx7 hx6) yk_X7_lastDayFor E km_X7_187 dX7_discrepanciesToday_27 hG hE ⟨⟨hX, hB⟩, hq⟩ (At.recv hG hX rfl) rfl rfl hl.1 ⟨Nat.le_of_ble_eq_true rfl, Nat.le_of_ble_eq_true rfl⟩ ⟨Nat.zero_le _, Nat.zero_le _⟩ (Nat.le_of_ble_eq_true rfl) ?_
    refine lv_icmp_le (tgt := 39) hx hb dX7_discrepanciesToday_30 (by decide) (fun c_30 => ?_) (fun c_30 => ?_)
    · exact K ls (by rw [show ((0 ||| fl1 d c9 (nI n)) ||| fl2 d nh ex1 pe1 n (d 3)) = (0 ||| fl1 d c9 (nI n)) by first | (simp only [fl2, Int32.or_zero, c_30, ↓reduceIte, not_true_eq_false, not_false_eq_true]; done) | (simp [fl2, Int32.or_zero, c_30]; done)]; exact (lv_sub hl [0, 1, 2, 3, 4, 5, 6] rfl))
    · refine lv_iload hx hb dX7_discrepanciesToday_33 (lv_at hl 0 rfl) ?_
      refine lv_iconst (v := 2) hx hb dX7_discrepanciesToday_35 rfl ?_
      refine lv_ior hx hb dX7_discrepanciesToday_36 ?_
      refine lv_istore (lv' := [(6, .int ((0 ||| fl1 d c9 (nI n)) ||| 2)), (0, .ref x), (1, .ref q), (2, .int (nI n)), (3, .int am), (4, .int dc), (5, .int ins)]) hx hb dX7_discrepanciesToday_37 hl (by decide) rfl (fun ls hl => ?_)
      exact K ls (by rw [show ((0 ||| fl1 d c9 (nI n)) ||| fl2 d nh ex1 pe1 n (d 3)) = ((0 ||| fl1 d c9 (nI n)) ||| 2) by first | (simp only [fl2, Int32.or_zero, c_30, ↓reduceIte, not_true_eq_false, not_false_eq_true]; done) | (simp [fl2, Int32.or_zero, c_30]; done)]; exact (lv_sub hl [0, 1, 2, 3, 4, 5, 6] rfl))
  refine W.cutL (nL := 7) (pc := 57) (lv := [(6, .int (((0 ||| fl1 d c9 (nI n)) ||| fl2 d nh ex1 pe1 n (d 3)) ||| fl3 d np nc c9 am)), (0, .ref x), (1, .ref q), (2, .int (nI n)), (3, .int am), (4, .int dc), (5, .int ins)]) (st := []) (fun K => ?_) (fun ls hl => ?_)
  · refine lv_iload_n hx hb dX7_discrepanciesToday_39 rfl (lv_at hl 4 rfl) ?_
    refine lv_aload_n hx hb dX7_discrepanciesToday_40 rfl (lv_at hl 1 rfl) ?_
    refine gf_X7_26 E hG hX rfl dX7_discrepanciesToday_41 ?_
    refine lv_aload_n hx hb dX7_discrepanciesToday_44 rfl (lv_at hl 2 rfl) ?_
    refine Rd.callV (rest := [.int am]) (c_X0_availableSum l G hp0 hc0) yk_X0_availableSum E km_X7_133 dX7_discrepanciesToday_45 hG hE ⟨hB, hq⟩ (At.recv hG k1.1 rfl) rfl rfl hl.1 ⟨Nat.le_of_ble_eq_true rfl, Nat.le_of_ble_eq_true rfl⟩ ⟨Nat.zero_le _, Nat.zero_le _⟩ (Nat.le_of_ble_eq_true rfl) ?_
    refine lv_icmp_le (tgt := 57) hx hb dX7_discrepanciesToday_48 (by decide) (fun c_48 => ?_) (fun c_48 => ?_)
    · exact K ls (by rw [show (((0 ||| fl1 d c9 (nI n)) ||| fl2 d nh ex1 pe1 n (d 3)) ||| fl3 d np nc c9 am) = ((0 ||| fl1 d c9 (nI n)) ||| fl2 d nh ex1 pe1 n (d 3)) by first | (simp only [fl3, Int32.or_zero, c_48, ↓reduceIte, not_true_eq_false, not_false_eq_true]; done) | (simp [fl3, Int32.or_zero, c_48]; done)]; exact (lv_sub hl [0, 1, 2, 3, 4, 5, 6] rfl))
    · refine lv_iload hx hb dX7_discrepanciesToday_51 (lv_at hl 0 rfl) ?_
      refine lv_iconst (v := 4) hx hb dX7_discrepanciesToday_53 rfl ?_
      refine lv_ior hx hb dX7_discrepanciesToday_54 ?_
      refine lv_istore (lv' := [(6, .int (((0 ||| fl1 d c9 (nI n)) ||| fl2 d nh ex1 pe1 n (d 3)) ||| 4)), (0, .ref x), (1, .ref q), (2, .int (nI n)), (3, .int am), (4, .int dc), (5, .int ins)]) hx hb dX7_discrepanciesToday_55 hl (by decide) rfl (fun ls hl => ?_)
      exact K ls (by rw [show (((0 ||| fl1 d c9 (nI n)) ||| fl2 d nh ex1 pe1 n (d 3)) ||| fl3 d np nc c9 am) = (((0 ||| fl1 d c9 (nI n)) ||| fl2 d nh ex1 pe1 n (d 3)) ||| 4) by first | (simp only [fl3, Int32.or_zero, c_48, ↓reduceIte, not_true_eq_false, not_false_eq_true]; done) | (simp [fl3, Int32.or_zero, c_48]; done)]; exact (lv_sub hl [0, 1, 2, 3, 4, 5, 6] rfl))
  refine W.cutL (nL := 7) (pc := 90) (lv := [(6, .int ((((0 ||| fl1 d c9 (nI n)) ||| fl2 d nh ex1 pe1 n (d 3)) ||| fl3 d np nc c9 am) ||| fl4 d np c9 am)), (0, .ref x), (1, .ref q), (2, .int (nI n)), (3, .int am), (4, .int dc), (5, .int ins)]) (st := []) (fun K => ?_) (fun ls hl => ?_)
  · refine lv_aload_n hx hb dX7_discrepanciesToday_57 rfl (lv_at hl 2 rfl) ?_
    refine gf_X7_273 E hG hq rfl dX7_discrepanciesToday_58 ?_
    refine lv_if_ne (tgt := 90) hx hb dX7_discrepanciesToday_61 (by decide) (fun c_61 => ?_) (fun c_61 => ?_)
    · exact K ls (by rw [show ((((0 ||| fl1 d c9 (nI n)) ||| fl2 d nh ex1 pe1 n (d 3)) ||| fl3 d np nc c9 am) ||| fl4 d np c9 am) = (((0 ||| fl1 d c9 (nI n)) ||| fl2 d nh ex1 pe1 n (d 3)) ||| fl3 d np nc c9 am) by first | (simp only [fl4, Int32.or_zero, c_61, ↓reduceIte, not_true_eq_false, not_false_eq_true]; done) | (simp [fl4, Int32.or_zero, c_61]; done)]; exact (lv_sub hl [0, 1, 2, 3, 4, 5, 6] rfl))
    · refine lv_iload_n hx hb dX7_discrepanciesToday_64 rfl (lv_at hl 4 rfl) ?_
      refine lv_aload_n hx hb dX7_discrepanciesToday_65 rfl (lv_at hl 2 rfl) ?_
      refine Rd.callV (rest := [.int am]) (c_X2_minimum l G) yk_X2_minimum E km_X7_120 dX7_discrepanciesToday_66 hG hE hq (At.recv hG hq rfl) rfl rfl hl.1 ⟨Nat.le_of_ble_eq_true rfl, Nat.le_of_ble_eq_true rfl⟩ ⟨Nat.zero_le _, Nat.zero_le _⟩ (Nat.le_of_ble_eq_true rfl) ?_
      refine lv_icmp_lt (tgt := 83) hx hb dX7_discrepanciesToday_69 (by decide) (fun c_69 => ?_) (fun c_69 => ?_)
      · refine lv_iload hx hb dX7_discrepanciesToday_83 (lv_at hl 0 rfl) ?_
        refine lv_bipush (v := 8) hx hb dX7_discrepanciesToday_85 rfl ?_
        refine lv_ior hx hb dX7_discrepanciesToday_87 ?_
        refine lv_istore (lv' := [(6, .int ((((0 ||| fl1 d c9 (nI n)) ||| fl2 d nh ex1 pe1 n (d 3)) ||| fl3 d np nc c9 am) ||| 8)), (0, .ref x), (1, .ref q), (2, .int (nI n)), (3, .int am), (4, .int dc), (5, .int ins)]) hx hb dX7_discrepanciesToday_88 hl (by decide) rfl (fun ls hl => ?_)
        exact K ls (by rw [show ((((0 ||| fl1 d c9 (nI n)) ||| fl2 d nh ex1 pe1 n (d 3)) ||| fl3 d np nc c9 am) ||| fl4 d np c9 am) = ((((0 ||| fl1 d c9 (nI n)) ||| fl2 d nh ex1 pe1 n (d 3)) ||| fl3 d np nc c9 am) ||| 8) by first | (simp only [fl4, Int32.or_zero, c_61, c_69, ↓reduceIte, not_true_eq_false, not_false_eq_true]; done) | (simp [fl4, Int32.or_zero, c_61, c_69]; done)]; exact (lv_sub hl [0, 1, 2, 3, 4, 5, 6] rfl))
      · refine lv_aload_n hx hb dX7_discrepanciesToday_72 rfl (lv_at hl 1 rfl) ?_
        refine gf_X7_26 E hG hX rfl dX7_discrepanciesToday_73 ?_
        refine lv_aload_n hx hb dX7_discrepanciesToday_76 rfl (lv_at hl 2 rfl) ?_
        refine Rd.callV (rest := []) (c_X0_isPresentedUnder l G hp0) yk_X0_isPresentedUnder E km_X7_277 dX7_discrepanciesToday_77 hG hE ⟨hB, hq⟩ (At.recv hG k1.1 rfl) rfl rfl hl.1 ⟨Nat.le_of_ble_eq_true rfl, Nat.le_of_ble_eq_true rfl⟩ ⟨Nat.zero_le _, Nat.zero_le _⟩ (Nat.le_of_ble_eq_true rfl) ?_
        refine lv_if_eq (tgt := 90) hx hb dX7_discrepanciesToday_80 (by decide) (fun c_80 => ?_) (fun c_80 => ?_)
        · rw [ite01] at c_80
          exact K ls (by rw [show ((((0 ||| fl1 d c9 (nI n)) ||| fl2 d nh ex1 pe1 n (d 3)) ||| fl3 d np nc c9 am) ||| fl4 d np c9 am) = (((0 ||| fl1 d c9 (nI n)) ||| fl2 d nh ex1 pe1 n (d 3)) ||| fl3 d np nc c9 am) by first | (simp only [fl4, Int32.or_zero, c_61, c_69, c_80, ↓reduceIte, not_true_eq_false, not_false_eq_true]; done) | (simp [fl4, Int32.or_zero, c_61, c_69, c_80]; done)]; exact (lv_sub hl [0, 1, 2, 3, 4, 5, 6] rfl))
        · rw [ite01] at c_80
          refine lv_iload hx hb dX7_discrepanciesToday_83 (lv_at hl 0 rfl) ?_
          refine lv_bipush (v := 8) hx hb dX7_discrepanciesToday_85 rfl ?_
          refine lv_ior hx hb dX7_discrepanciesToday_87 ?_
          refine lv_istore (lv' := [(6, .int ((((0 ||| fl1 d c9 (nI n)) ||| fl2 d nh ex1 pe1 n (d 3)) ||| fl3 d np nc c9 am) ||| 8)), (0, .ref x), (1, .ref q), (2, .int (nI n)), (3, .int am), (4, .int dc), (5, .int ins)]) hx hb dX7_discrepanciesToday_88 hl (by decide) rfl (fun ls hl => ?_)
          exact K ls (by rw [show ((((0 ||| fl1 d c9 (nI n)) ||| fl2 d nh ex1 pe1 n (d 3)) ||| fl3 d np nc c9 am) ||| fl4 d np c9 am) = ((((0 ||| fl1 d c9 (nI n)) ||| fl2 d nh ex1 pe1 n (d 3)) ||| fl3 d np nc c9 am) ||| 8) by first | (simp only [fl4, Int32.or_zero, c_61, c_69, c_80, ↓reduceIte, not_true_eq_false, not_false_eq_true]; done) | (simp [fl4, Int32.or_zero, c_61, c_69, c_80]; done)]; exact (lv_sub hl [0, 1, 2, 3, 4, 5, 6] rfl))
  refine W.cutL (nL := 7) (pc := 109) (lv := [(6, .int (((((0 ||| fl1 d c9 (nI n)) ||| fl2 d nh ex1 pe1 n (d 3)) ||| fl3 d np nc c9 am) ||| fl4 d np c9 am) ||| fl5 d c9 dc)), (0, .ref x), (1, .ref q), (2, .int (nI n)), (3, .int am), (4, .int dc), (5, .int ins)]) (st := []) (fun K => ?_) (fun ls hl => ?_)
  · refine lv_aload_n hx hb dX7_discrepanciesToday_90 rfl (lv_at hl 2 rfl) ?_
    refine gf_X7_281 E hG hq rfl dX7_discrepanciesToday_91 ?_
    refine lv_iload hx hb dX7_discrepanciesToday_94 (lv_at hl 5 rfl) ?_
    refine lv_iconst (v := (-1)) hx hb dX7_discrepanciesToday_96 rfl ?_
    refine lv_ixor hx hb dX7_discrepanciesToday_97 ?_
    refine lv_iand hx hb dX7_discrepanciesToday_98 ?_
    refine lv_if_eq (tgt := 109) hx hb dX7_discrepanciesToday_99 (by decide) (fun c_99 => ?_) (fun c_99 => ?_)
    · exact K ls (by rw [show (((((0 ||| fl1 d c9 (nI n)) ||| fl2 d nh ex1 pe1 n (d 3)) ||| fl3 d np nc c9 am) ||| fl4 d np c9 am) ||| fl5 d c9 dc) = ((((0 ||| fl1 d c9 (nI n)) ||| fl2 d nh ex1 pe1 n (d 3)) ||| fl3 d np nc c9 am) ||| fl4 d np c9 am) by first | (simp only [fl5, Int32.or_zero, c_99, ↓reduceIte, not_true_eq_false, not_false_eq_true]; done) | (simp [fl5, Int32.or_zero, c_99]; done)]; exact (lv_sub hl [0, 1, 2, 3, 4, 5, 6] rfl))
    · refine lv_iload hx hb dX7_discrepanciesToday_102 (lv_at hl 0 rfl) ?_
      refine lv_bipush (v := 16) hx hb dX7_discrepanciesToday_104 rfl ?_
      refine lv_ior hx hb dX7_discrepanciesToday_106 ?_
      refine lv_istore (lv' := [(6, .int (((((0 ||| fl1 d c9 (nI n)) ||| fl2 d nh ex1 pe1 n (d 3)) ||| fl3 d np nc c9 am) ||| fl4 d np c9 am) ||| 16)), (0, .ref x), (1, .ref q), (2, .int (nI n)), (3, .int am), (4, .int dc), (5, .int ins)]) hx hb dX7_discrepanciesToday_107 hl (by decide) rfl (fun ls hl => ?_)
      exact K ls (by rw [show (((((0 ||| fl1 d c9 (nI n)) ||| fl2 d nh ex1 pe1 n (d 3)) ||| fl3 d np nc c9 am) ||| fl4 d np c9 am) ||| fl5 d c9 dc) = (((((0 ||| fl1 d c9 (nI n)) ||| fl2 d nh ex1 pe1 n (d 3)) ||| fl3 d np nc c9 am) ||| fl4 d np c9 am) ||| 16) by first | (simp only [fl5, Int32.or_zero, c_99, ↓reduceIte, not_true_eq_false, not_false_eq_true]; done) | (simp [fl5, Int32.or_zero, c_99]; done)]; exact (lv_sub hl [0, 1, 2, 3, 4, 5, 6] rfl))
  refine W.cutL (nL := 7) (pc := 138) (lv := [(6, .int ((((((0 ||| fl1 d c9 (nI n)) ||| fl2 d nh ex1 pe1 n (d 3)) ||| fl3 d np nc c9 am) ||| fl4 d np c9 am) ||| fl5 d c9 dc) ||| fl6 d c9 am ins)), (0, .ref x), (1, .ref q), (2, .int (nI n)), (3, .int am), (4, .int dc), (5, .int ins)]) (st := []) (fun K => ?_) (fun ls hl => ?_)
  · refine lv_aload_n hx hb dX7_discrepanciesToday_109 rfl (lv_at hl 2 rfl) ?_
    refine gf_X7_281 E hG hq rfl dX7_discrepanciesToday_110 ?_
    refine lv_sipush (v := 128) hx hb dX7_discrepanciesToday_113 rfl ?_
    refine lv_iand hx hb dX7_discrepanciesToday_116 ?_
    refine lv_if_eq (tgt := 138) hx hb dX7_discrepanciesToday_117 (by decide) (fun c_117 => ?_) (fun c_117 => ?_)
    · exact K ls (by rw [show ((((((0 ||| fl1 d c9 (nI n)) ||| fl2 d nh ex1 pe1 n (d 3)) ||| fl3 d np nc c9 am) ||| fl4 d np c9 am) ||| fl5 d c9 dc) ||| fl6 d c9 am ins) = (((((0 ||| fl1 d c9 (nI n)) ||| fl2 d nh ex1 pe1 n (d 3)) ||| fl3 d np nc c9 am) ||| fl4 d np c9 am) ||| fl5 d c9 dc) by first | (simp only [fl6, ← nd128 hnd hnd2, Int32.or_zero, c_117, ↓reduceIte, not_true_eq_false, not_false_eq_true]; done) | (simp [fl6, ← nd128 hnd hnd2, Int32.or_zero, c_117]; done)]; exact (lv_sub hl [0, 1, 2, 3, 4, 5, 6] rfl))
    · refine lv_iload hx hb dX7_discrepanciesToday_120 (lv_at hl 6 rfl) ?_
      refine lv_iload_n hx hb dX7_discrepanciesToday_122 rfl (lv_at hl 4 rfl) ?_
      refine lv_iload_n hx hb dX7_discrepanciesToday_123 rfl (lv_at hl 4 rfl) ?_
      refine lv_bipush (v := 10) hx hb dX7_discrepanciesToday_124 rfl ?_
      refine lv_idiv hx hb dX7_discrepanciesToday_126 (by decide) ?_
      refine lv_iadd hx hb dX7_discrepanciesToday_127 ?_
      refine lv_icmp_ge (tgt := 138) hx hb dX7_discrepanciesToday_128 (by decide) (fun c_128 => ?_) (fun c_128 => ?_)
      · exact K ls (by rw [show ((((((0 ||| fl1 d c9 (nI n)) ||| fl2 d nh ex1 pe1 n (d 3)) ||| fl3 d np nc c9 am) ||| fl4 d np c9 am) ||| fl5 d c9 dc) ||| fl6 d c9 am ins) = (((((0 ||| fl1 d c9 (nI n)) ||| fl2 d nh ex1 pe1 n (d 3)) ||| fl3 d np nc c9 am) ||| fl4 d np c9 am) ||| fl5 d c9 dc) by first | (simp only [fl6, ← nd128 hnd hnd2, Int32.or_zero, c_117, c_128, ↓reduceIte, not_true_eq_false, not_false_eq_true]; done) | (simp [fl6, ← nd128 hnd hnd2, Int32.or_zero, c_117, c_128]; done)]; exact (lv_sub hl [0, 1, 2, 3, 4, 5, 6] rfl))
      · refine lv_iload hx hb dX7_discrepanciesToday_131 (lv_at hl 0 rfl) ?_
        refine lv_bipush (v := 32) hx hb dX7_discrepanciesToday_133 rfl ?_
        refine lv_ior hx hb dX7_discrepanciesToday_135 ?_
        refine lv_istore (lv' := [(6, .int ((((((0 ||| fl1 d c9 (nI n)) ||| fl2 d nh ex1 pe1 n (d 3)) ||| fl3 d np nc c9 am) ||| fl4 d np c9 am) ||| fl5 d c9 dc) ||| 32)), (0, .ref x), (1, .ref q), (2, .int (nI n)), (3, .int am), (4, .int dc), (5, .int ins)]) hx hb dX7_discrepanciesToday_136 hl (by decide) rfl (fun ls hl => ?_)
        exact K ls (by rw [show ((((((0 ||| fl1 d c9 (nI n)) ||| fl2 d nh ex1 pe1 n (d 3)) ||| fl3 d np nc c9 am) ||| fl4 d np c9 am) ||| fl5 d c9 dc) ||| fl6 d c9 am ins) = ((((((0 ||| fl1 d c9 (nI n)) ||| fl2 d nh ex1 pe1 n (d 3)) ||| fl3 d np nc c9 am) ||| fl4 d np c9 am) ||| fl5 d c9 dc) ||| 32) by first | (simp only [fl6, ← nd128 hnd hnd2, Int32.or_zero, c_117, c_128, ↓reduceIte, not_true_eq_false, not_false_eq_true]; done) | (simp [fl6, ← nd128 hnd hnd2, Int32.or_zero, c_117, c_128]; done)]; exact (lv_sub hl [0, 1, 2, 3, 4, 5, 6] rfl))
  refine W.cutL (nL := 7) (pc := 156) (lv := [(6, .int (((((((0 ||| fl1 d c9 (nI n)) ||| fl2 d nh ex1 pe1 n (d 3)) ||| fl3 d np nc c9 am) ||| fl4 d np c9 am) ||| fl5 d c9 dc) ||| fl6 d c9 am ins) ||| fl7 (nI n) (d 3))), (0, .ref x), (1, .ref q), (2, .int (nI n)), (3, .int am), (4, .int dc), (5, .int ins)]) (st := []) (fun K => ?_) (fun ls hl => ?_)
  · refine lv_iload_n hx hb dX7_discrepanciesToday_138 rfl (lv_at hl 3 rfl) ?_
    refine lv_aload_n hx hb dX7_discrepanciesToday_139 rfl (lv_at hl 1 rfl) ?_
    refine gf_X7_26 E hG hX rfl dX7_discrepanciesToday_140 ?_
    refine gf_X7_79 E hG k1.1 rfl dX7_discrepanciesToday_143 ?_
    refine lv_icmp_le (tgt := 156) hx hb dX7_discrepanciesToday_146 (by decide) (fun c_146 => ?_) (fun c_146 => ?_)
    · exact K ls (by rw [show (((((((0 ||| fl1 d c9 (nI n)) ||| fl2 d nh ex1 pe1 n (d 3)) ||| fl3 d np nc c9 am) ||| fl4 d np c9 am) ||| fl5 d c9 dc) ||| fl6 d c9 am ins) ||| fl7 (nI n) (d 3)) = ((((((0 ||| fl1 d c9 (nI n)) ||| fl2 d nh ex1 pe1 n (d 3)) ||| fl3 d np nc c9 am) ||| fl4 d np c9 am) ||| fl5 d c9 dc) ||| fl6 d c9 am ins) by first | (simp only [fl7, Int32.or_zero, c_146, ↓reduceIte, not_true_eq_false, not_false_eq_true]; done) | (simp [fl7, Int32.or_zero, c_146]; done)]; exact (lv_sub hl [0, 1, 2, 3, 4, 5, 6] rfl))
    · refine lv_iload hx hb dX7_discrepanciesToday_149 (lv_at hl 0 rfl) ?_
      refine lv_bipush (v := 64) hx hb dX7_discrepanciesToday_151 rfl ?_
      refine lv_ior hx hb dX7_discrepanciesToday_153 ?_
      refine lv_istore (lv' := [(6, .int (((((((0 ||| fl1 d c9 (nI n)) ||| fl2 d nh ex1 pe1 n (d 3)) ||| fl3 d np nc c9 am) ||| fl4 d np c9 am) ||| fl5 d c9 dc) ||| fl6 d c9 am ins) ||| 64)), (0, .ref x), (1, .ref q), (2, .int (nI n)), (3, .int am), (4, .int dc), (5, .int ins)]) hx hb dX7_discrepanciesToday_154 hl (by decide) rfl (fun ls hl => ?_)
      exact K ls (by rw [show (((((((0 ||| fl1 d c9 (nI n)) ||| fl2 d nh ex1 pe1 n (d 3)) ||| fl3 d np nc c9 am) ||| fl4 d np c9 am) ||| fl5 d c9 dc) ||| fl6 d c9 am ins) ||| fl7 (nI n) (d 3)) = (((((((0 ||| fl1 d c9 (nI n)) ||| fl2 d nh ex1 pe1 n (d 3)) ||| fl3 d np nc c9 am) ||| fl4 d np c9 am) ||| fl5 d c9 dc) ||| fl6 d c9 am ins) ||| 64) by first | (simp only [fl7, Int32.or_zero, c_146, ↓reduceIte, not_true_eq_false, not_false_eq_true]; done) | (simp [fl7, Int32.or_zero, c_146]; done)]; exact (lv_sub hl [0, 1, 2, 3, 4, 5, 6] rfl))
  refine lv_iload hx hb dX7_discrepanciesToday_156 (lv_at hl 0 rfl) ?_
  exact rd_int E hr hk (rfl) dX7_discrepanciesToday_158

set_option maxHeartbeats 4000000 in
set_option maxRecDepth 100000 in
/-- canTransfer -/
theorem c_X7_canTransfer (l : Launch) (G : CG) {q c9 : Nat} {x bu bk pa : Nat} {bl es pn : Int32} {A : Nat → Prop} {d : Nat → Int32} {nc np nh : Nat} (y : Int32) (hp0 : np ≤ 24) (hc0 : nc ≤ 12) (h0 : d 0 = nI nc) : Rd l yX7_canTransfer cX7_canTransfer 3 ((Option.some FieldType.boolean)) 3 68 G [.ref x, .ref q, .int y] (fun H9 => DK G A x bu bl es bk pa pn d nc np nh H9 ∧ At G q (.inr (2, crF d c9)) H9) (some (.int (if trF d np nc c9 y = 0 then 1 else 0))) := by
  refine Rd.ofW (by decide) (Nat.le_of_ble_eq_true rfl) (fun p e s m below meth c ls E hG hE hP hr hk hl => ?_)
  have hx := E.1
  have hb := E.2.1
  have hl : lv_has ls 3 [(0, .ref x), (1, .ref q), (2, .int y)] := hl
  obtain ⟨hP, hq⟩ := hP
  obtain ⟨hX, hB⟩ := hP
  obtain ⟨ca, ho, fe, cr, pr, cA, pA, k1, k2, k3, k4, k5, k6, k7, k8⟩ := id hB
  refine lv_aload_n hx hb dX7_canTransfer_0 rfl (lv_at hl 1 rfl) ?_
  refine gf_X7_303 E hG hq rfl dX7_canTransfer_1 ?_
  refine lv_if_eq (tgt := 54) hx hb dX7_canTransfer_4 (by decide) (fun c_4 => ?_) (fun c_4 => ?_)
  · refine lv_iconst (v := 0) hx hb dX7_canTransfer_54 rfl ?_
    exact rd_bool E hr hk (by simp [trF, trR, ct12 h0 hc0, ← Int32.not_le, c_4]) (by first | exact Or.inl rfl | exact Or.inr rfl | (omega)) dX7_canTransfer_55
  · refine lv_iload_n hx hb dX7_canTransfer_7 rfl (lv_at hl 2 rfl) ?_
    refine lv_aload_n hx hb dX7_canTransfer_8 rfl (lv_at hl 0 rfl) ?_
    refine gf_X7_26 E hG hX rfl dX7_canTransfer_9 ?_
    refine lv_aload_n hx hb dX7_canTransfer_12 rfl (lv_at hl 1 rfl) ?_
    refine Rd.callV (rest := [.int y]) (c_X0_availableSum l G hp0 hc0) yk_X0_availableSum E km_X7_133 dX7_canTransfer_13 hG hE ⟨hB, hq⟩ (At.recv hG k1.1 rfl) rfl rfl hl.1 ⟨Nat.le_of_ble_eq_true rfl, Nat.le_of_ble_eq_true rfl⟩ ⟨Nat.zero_le _, Nat.zero_le _⟩ (Nat.le_of_ble_eq_true rfl) ?_
    refine lv_icmp_gt (tgt := 54) hx hb dX7_canTransfer_16 (by decide) (fun c_16 => ?_) (fun c_16 => ?_)
    · refine lv_iconst (v := 0) hx hb dX7_canTransfer_54 rfl ?_
      exact rd_bool E hr hk (by simp [trF, trR, ct12 h0 hc0, ← Int32.not_le, c_4, c_16]) (by first | exact Or.inl rfl | exact Or.inr rfl | (omega)) dX7_canTransfer_55
    · refine lv_aload_n hx hb dX7_canTransfer_19 rfl (lv_at hl 1 rfl) ?_
      refine gf_X7_273 E hG hq rfl dX7_canTransfer_20 ?_
      refine lv_if_ne (tgt := 37) hx hb dX7_canTransfer_23 (by decide) (fun c_23 => ?_) (fun c_23 => ?_)
      · refine lv_aload_n hx hb dX7_canTransfer_37 rfl (lv_at hl 0 rfl) ?_
        refine gf_X7_26 E hG hX rfl dX7_canTransfer_38 ?_
        refine gf_X7_71 E hG k1.1 rfl dX7_canTransfer_41 ?_
        refine g_len (t0 := 4) (v := (nI nc)) E hG k4.1 rfl rfl dX7_canTransfer_44 ?_
        refine lv_bipush (v := 12) hx hb dX7_canTransfer_45 rfl ?_
        refine lv_icmp_ge (tgt := 54) hx hb dX7_canTransfer_47 (by decide) (fun c_47 => ?_) (fun c_47 => ?_)
        · refine lv_iconst (v := 0) hx hb dX7_canTransfer_54 rfl ?_
          exact rd_bool E hr hk (by simp [trF, trR, ct12 h0 hc0, ← Int32.not_le, c_4, c_16, c_23, c_47]) (by first | exact Or.inl rfl | exact Or.inr rfl | (omega)) dX7_canTransfer_55
        · refine lv_iconst (v := 1) hx hb dX7_canTransfer_50 rfl ?_
          refine lv_goto (tgt := 55) hx hb dX7_canTransfer_51 (by decide) ?_
          exact rd_bool E hr hk (by simp [trF, trR, ct12 h0 hc0, ← Int32.not_le, c_4, c_16, c_23, c_47]) (by first | exact Or.inl rfl | exact Or.inr rfl | (omega)) dX7_canTransfer_55
      · refine lv_aload_n hx hb dX7_canTransfer_26 rfl (lv_at hl 0 rfl) ?_
        refine gf_X7_26 E hG hX rfl dX7_canTransfer_27 ?_
        refine lv_aload_n hx hb dX7_canTransfer_30 rfl (lv_at hl 1 rfl) ?_
        refine Rd.callV (rest := []) (c_X0_transferredSum l G hc0) yk_X0_transferredSum E km_X7_130 dX7_canTransfer_31 hG hE ⟨hB, hq⟩ (At.recv hG k1.1 rfl) rfl rfl hl.1 ⟨Nat.le_of_ble_eq_true rfl, Nat.le_of_ble_eq_true rfl⟩ ⟨Nat.zero_le _, Nat.zero_le _⟩ (Nat.le_of_ble_eq_true rfl) ?_
        refine lv_if_ne (tgt := 54) hx hb dX7_canTransfer_34 (by decide) (fun c_34 => ?_) (fun c_34 => ?_)
        · refine lv_iconst (v := 0) hx hb dX7_canTransfer_54 rfl ?_
          exact rd_bool E hr hk (by simp [trF, trR, ct12 h0 hc0, ← Int32.not_le, c_4, c_16, c_23, c_34]) (by first | exact Or.inl rfl | exact Or.inr rfl | (omega)) dX7_canTransfer_55
        · refine lv_aload_n hx hb dX7_canTransfer_37 rfl (lv_at hl 0 rfl) ?_
          refine gf_X7_26 E hG hX rfl dX7_canTransfer_38 ?_
          refine gf_X7_71 E hG k1.1 rfl dX7_canTransfer_41 ?_
          refine g_len (t0 := 4) (v := (nI nc)) E hG k4.1 rfl rfl dX7_canTransfer_44 ?_
          refine lv_bipush (v := 12) hx hb dX7_canTransfer_45 rfl ?_
          refine lv_icmp_ge (tgt := 54) hx hb dX7_canTransfer_47 (by decide) (fun c_47 => ?_) (fun c_47 => ?_)
          · refine lv_iconst (v := 0) hx hb dX7_canTransfer_54 rfl ?_
            exact rd_bool E hr hk (by simp [trF, trR, ct12 h0 hc0, ← Int32.not_le, c_4, c_16, c_23, c_34, c_47]) (by first | exact Or.inl rfl | exact Or.inr rfl | (omega)) dX7_canTransfer_55
          · refine lv_iconst (v := 1) hx hb dX7_canTransfer_50 rfl ?_
            refine lv_goto (tgt := 55) hx hb dX7_canTransfer_51 (by decide) ?_
            exact rd_bool E hr hk (by simp [trF, trR, ct12 h0 hc0, ← Int32.not_le, c_4, c_16, c_23, c_34, c_47]) (by first | exact Or.inl rfl | exact Or.inr rfl | (omega)) dX7_canTransfer_55

set_option maxHeartbeats 4000000 in
set_option maxRecDepth 100000 in
/-- errorOffset -/
theorem c_X7_errorOffset (l : Launch) (G : CG) {x bu bk pa : Nat} {bl es pn : Int32} {A : Nat → Prop} {d : Nat → Int32} {nc np nh : Nat}  : Rd l yX7_errorOffset cX7_errorOffset 1 ((Option.some FieldType.int)) 0 0 G [.ref x] (DK G A x bu bl es bk pa pn d nc np nh) (some (.int es)) := by
  refine Rd.ofW (by decide) (Nat.le_of_ble_eq_true rfl) (fun p e s m below meth c ls E hG hE hP hr hk hl => ?_)
  have hx := E.1
  have hb := E.2.1
  have hl : lv_has ls 1 [(0, .ref x)] := hl
  obtain ⟨hX, hB⟩ := hP
  obtain ⟨ca, ho, fe, cr, pr, cA, pA, k1, k2, k3, k4, k5, k6, k7, k8⟩ := id hB
  refine lv_aload_n hx hb dX7_errorOffset_0 rfl (lv_at hl 0 rfl) ?_
  refine gf_X7_17 E hG hX rfl dX7_errorOffset_1 ?_
  exact rd_int E hr hk (rfl) dX7_errorOffset_4

set_option maxHeartbeats 4000000 in
set_option maxRecDepth 100000 in
/-- creditCount -/
theorem c_X7_creditCount (l : Launch) (G : CG) {x bu bk pa : Nat} {bl es pn : Int32} {A : Nat → Prop} {d : Nat → Int32} {nc np nh : Nat}  : Rd l yX7_creditCount cX7_creditCount 1 ((Option.some FieldType.int)) 0 0 G [.ref x] (DK G A x bu bl es bk pa pn d nc np nh) (some (.int (nI nc))) := by
  refine Rd.ofW (by decide) (Nat.le_of_ble_eq_true rfl) (fun p e s m below meth c ls E hG hE hP hr hk hl => ?_)
  have hx := E.1
  have hb := E.2.1
  have hl : lv_has ls 1 [(0, .ref x)] := hl
  obtain ⟨hX, hB⟩ := hP
  obtain ⟨ca, ho, fe, cr, pr, cA, pA, k1, k2, k3, k4, k5, k6, k7, k8⟩ := id hB
  refine lv_aload_n hx hb dX7_creditCount_0 rfl (lv_at hl 0 rfl) ?_
  refine gf_X7_26 E hG hX rfl dX7_creditCount_1 ?_
  refine gf_X7_71 E hG k1.1 rfl dX7_creditCount_4 ?_
  refine g_len (t0 := 4) (v := (nI nc)) E hG k4.1 rfl rfl dX7_creditCount_7 ?_
  exact rd_int E hr hk (rfl) dX7_creditCount_8

set_option maxHeartbeats 4000000 in
set_option maxRecDepth 100000 in
/-- presentationCount -/
theorem c_X7_presentationCount (l : Launch) (G : CG) {x bu bk pa : Nat} {bl es pn : Int32} {A : Nat → Prop} {d : Nat → Int32} {nc np nh : Nat}  : Rd l yX7_presentationCount cX7_presentationCount 1 ((Option.some FieldType.int)) 0 0 G [.ref x] (DK G A x bu bl es bk pa pn d nc np nh) (some (.int (nI np))) := by
  refine Rd.ofW (by decide) (Nat.le_of_ble_eq_true rfl) (fun p e s m below meth c ls E hG hE hP hr hk hl => ?_)
  have hx := E.1
  have hb := E.2.1
  have hl : lv_has ls 1 [(0, .ref x)] := hl
  obtain ⟨hX, hB⟩ := hP
  obtain ⟨ca, ho, fe, cr, pr, cA, pA, k1, k2, k3, k4, k5, k6, k7, k8⟩ := id hB
  refine lv_aload_n hx hb dX7_presentationCount_0 rfl (lv_at hl 0 rfl) ?_
  refine gf_X7_26 E hG hX rfl dX7_presentationCount_1 ?_
  refine gf_X7_75 E hG k1.1 rfl dX7_presentationCount_4 ?_
  refine g_len (t0 := 5) (v := (nI np)) E hG k5.1 rfl rfl dX7_presentationCount_7 ?_
  exact rd_int E hr hk (rfl) dX7_presentationCount_8

set_option maxHeartbeats 4000000 in
set_option maxRecDepth 100000 in
/-- today -/
theorem c_X7_today (l : Launch) (G : CG) {x bu bk pa : Nat} {bl es pn : Int32} {A : Nat → Prop} {d : Nat → Int32} {nc np nh : Nat}  : Rd l yX7_today cX7_today 1 ((Option.some FieldType.int)) 0 0 G [.ref x] (DK G A x bu bl es bk pa pn d nc np nh) (some (.int (d 3))) := by
  refine Rd.ofW (by decide) (Nat.le_of_ble_eq_true rfl) (fun p e s m below meth c ls E hG hE hP hr hk hl => ?_)
  have hx := E.1
  have hb := E.2.1
  have hl : lv_has ls 1 [(0, .ref x)] := hl
  obtain ⟨hX, hB⟩ := hP
  obtain ⟨ca, ho, fe, cr, pr, cA, pA, k1, k2, k3, k4, k5, k6, k7, k8⟩ := id hB
  refine lv_aload_n hx hb dX7_today_0 rfl (lv_at hl 0 rfl) ?_
  refine gf_X7_26 E hG hX rfl dX7_today_1 ?_
  refine gf_X7_79 E hG k1.1 rfl dX7_today_4 ?_
  exact rd_int E hr hk (rfl) dX7_today_7

set_option maxHeartbeats 4000000 in
set_option maxRecDepth 100000 in
/-- isBusinessDay -/
theorem c_X7_isBusinessDay (l : Launch) (G : CG) {x bu bk pa : Nat} {bl es pn : Int32} {A : Nat → Prop} {d : Nat → Int32} {nc np nh : Nat} (z : Int32) (n : Nat) (ez : z = nI n) (hn : n ≤ 9999) (hin8 : inV z 0 9999 = 1) (hh : nh ≤ 16) : Rd l yX7_isBusinessDay cX7_isBusinessDay 2 ((Option.some FieldType.boolean)) 7 112 G [.ref x, .int z] (DK G A x bu bl es bk pa pn d nc np nh) (some (.int (if biz d nh n = true then 1 else 0))) := by
  refine Rd.ofW (by decide) (Nat.le_of_ble_eq_true rfl) (fun p e s m below meth c ls E hG hE hP hr hk hl => ?_)
  have hx := E.1
  have hb := E.2.1
  have hl : lv_has ls 2 [(0, .ref x), (1, .int z)] := hl
  obtain ⟨hX, hB⟩ := hP
  obtain ⟨ca, ho, fe, cr, pr, cA, pA, k1, k2, k3, k4, k5, k6, k7, k8⟩ := id hB
  refine lv_iload_n hx hb dX7_isBusinessDay_0 rfl (lv_at hl 1 rfl) ?_
  refine lv_iconst (v := 0) hx hb dX7_isBusinessDay_1 rfl ?_
  refine lv_sipush (v := 9999) hx hb dX7_isBusinessDay_2 rfl ?_
  refine Rd.callS (rest := []) (c_X7_needRange l G z 0 9999 hin8) yk_X7_needRange E km_X7_82 dX7_isBusinessDay_5 hG hE trivial rfl rfl hl.1 ⟨Nat.le_of_ble_eq_true rfl, Nat.le_of_ble_eq_true rfl⟩ ⟨Nat.zero_le _, Nat.zero_le _⟩ (Nat.le_of_ble_eq_true rfl) ?_
  refine lv_aload_n hx hb dX7_isBusinessDay_8 rfl (lv_at hl 0 rfl) ?_
  refine gf_X7_26 E hG hX rfl dX7_isBusinessDay_9 ?_
  refine gf_X7_86 E hG k1.1 rfl dX7_isBusinessDay_12 ?_
  refine lv_iload_n hx hb dX7_isBusinessDay_15 rfl (lv_at hl 1 rfl) ?_
  refine Rd.callV (rest := []) (c_X1_isOpen l G z n ez (by omega) hh) yk_X1_isOpen E km_X7_90 dX7_isBusinessDay_16 hG hE ⟨k2.1, k3.1⟩ (At.recv hG k2.1 rfl) rfl rfl hl.1 ⟨Nat.le_of_ble_eq_true rfl, Nat.le_of_ble_eq_true rfl⟩ ⟨Nat.zero_le _, Nat.zero_le _⟩ (Nat.le_of_ble_eq_true rfl) ?_
  exact rd_bool E hr hk (rfl) (by first | exact Or.inl rfl | exact Or.inr rfl | ((split; exact Or.inr rfl; exact Or.inl rfl))) dX7_isBusinessDay_19

set_option maxHeartbeats 4000000 in
set_option maxRecDepth 100000 in
/-- extended -/
theorem c_X7_extended (l : Launch) (G : CG) {x bu bk pa : Nat} {bl es pn : Int32} {A : Nat → Prop} {d : Nat → Int32} {nc np nh : Nat} (z : Int32) (n : Nat) (ez : z = nI n) (hn : n ≤ 9999) (hin8 : inV z 0 9999 = 1) (hh : nh ≤ 16) : Rd l yX7_extended cX7_extended 2 ((Option.some FieldType.int)) 7 112 G [.ref x, .int z] (DK G A x bu bl es bk pa pn d nc np nh) (some (.int (nI (ext d nh n)))) := by
  refine Rd.ofW (by decide) (Nat.le_of_ble_eq_true rfl) (fun p e s m below meth c ls E hG hE hP hr hk hl => ?_)
  have hx := E.1
  have hb := E.2.1
  have hl : lv_has ls 2 [(0, .ref x), (1, .int z)] := hl
  obtain ⟨hX, hB⟩ := hP
  obtain ⟨ca, ho, fe, cr, pr, cA, pA, k1, k2, k3, k4, k5, k6, k7, k8⟩ := id hB
  refine lv_iload_n hx hb dX7_extended_0 rfl (lv_at hl 1 rfl) ?_
  refine lv_iconst (v := 0) hx hb dX7_extended_1 rfl ?_
  refine lv_sipush (v := 9999) hx hb dX7_extended_2 rfl ?_
  refine Rd.callS (rest := []) (c_X7_needRange l G z 0 9999 hin8) yk_X7_needRange E km_X7_82 dX7_extended_5 hG hE trivial rfl rfl hl.1 ⟨Nat.le_of_ble_eq_true rfl, Nat.le_of_ble_eq_true rfl⟩ ⟨Nat.zero_le _, Nat.zero_le _⟩ (Nat.le_of_ble_eq_true rfl) ?_
  refine lv_aload_n hx hb dX7_extended_8 rfl (lv_at hl 0 rfl) ?_
  refine gf_X7_26 E hG hX rfl dX7_extended_9 ?_
  refine gf_X7_86 E hG k1.1 rfl dX7_extended_12 ?_
  refine lv_iload_n hx hb dX7_extended_15 rfl (lv_at hl 1 rfl) ?_
  refine Rd.callV (rest := []) (c_X1_firstOpen l G z n ez (by omega) hh) yk_X1_firstOpen E km_X7_96 dX7_extended_16 hG hE ⟨k2.1, k3.1⟩ (At.recv hG k2.1 rfl) rfl rfl hl.1 ⟨Nat.le_of_ble_eq_true rfl, Nat.le_of_ble_eq_true rfl⟩ ⟨Nat.zero_le _, Nat.zero_le _⟩ (Nat.le_of_ble_eq_true rfl) ?_
  exact rd_int E hr hk (rfl) dX7_extended_19

set_option maxHeartbeats 4000000 in
set_option maxRecDepth 100000 in
/-- addBusinessDays -/
theorem c_X7_addBusinessDays (l : Launch) (G : CG) {x bu bk pa : Nat} {bl es pn : Int32} {A : Nat → Prop} {d : Nat → Int32} {nc np nh : Nat} (z y : Int32) (n : Nat) (ez : z = nI n) (hn : n ≤ 9999) (hin8 : inV z 0 9999 = 1) (k0 : Nat) (ey : y = nI k0) (hn2 : k0 ≤ 100) (hin7 : inV y 0 100 = 1) (hh : nh ≤ 16) : Rd l yX7_addBusinessDays cX7_addBusinessDays 3 ((Option.some FieldType.int)) 7 112 G [.ref x, .int z, .int y] (DK G A x bu bl es bk pa pn d nc np nh) (some (.int (nI (addB d nh k0 n)))) := by
  refine Rd.ofW (by decide) (Nat.le_of_ble_eq_true rfl) (fun p e s m below meth c ls E hG hE hP hr hk hl => ?_)
  have hx := E.1
  have hb := E.2.1
  have hl : lv_has ls 3 [(0, .ref x), (1, .int z), (2, .int y)] := hl
  obtain ⟨hX, hB⟩ := hP
  obtain ⟨ca, ho, fe, cr, pr, cA, pA, k1, k2, k3, k4, k5, k6, k7, k8⟩ := id hB
  refine lv_iload_n hx hb dX7_addBusinessDays_0 rfl (lv_at hl 1 rfl) ?_
  refine lv_iconst (v := 0) hx hb dX7_addBusinessDays_1 rfl ?_
  refine lv_sipush (v := 9999) hx hb dX7_addBusinessDays_2 rfl ?_
  refine Rd.callS (rest := []) (c_X7_needRange l G z 0 9999 hin8) yk_X7_needRange E km_X7_82 dX7_addBusinessDays_5 hG hE trivial rfl rfl hl.1 ⟨Nat.le_of_ble_eq_true rfl, Nat.le_of_ble_eq_true rfl⟩ ⟨Nat.zero_le _, Nat.zero_le _⟩ (Nat.le_of_ble_eq_true rfl) ?_
  refine lv_iload_n hx hb dX7_addBusinessDays_8 rfl (lv_at hl 2 rfl) ?_
  refine lv_iconst (v := 0) hx hb dX7_addBusinessDays_9 rfl ?_
  refine lv_bipush (v := 100) hx hb dX7_addBusinessDays_10 rfl ?_
  refine Rd.callS (rest := []) (c_X7_needRange l G y 0 100 hin7) yk_X7_needRange E km_X7_82 dX7_addBusinessDays_12 hG hE trivial rfl rfl hl.1 ⟨Nat.le_of_ble_eq_true rfl, Nat.le_of_ble_eq_true rfl⟩ ⟨Nat.zero_le _, Nat.zero_le _⟩ (Nat.le_of_ble_eq_true rfl) ?_
  refine lv_aload_n hx hb dX7_addBusinessDays_15 rfl (lv_at hl 0 rfl) ?_
  refine gf_X7_26 E hG hX rfl dX7_addBusinessDays_16 ?_
  refine gf_X7_86 E hG k1.1 rfl dX7_addBusinessDays_19 ?_
  refine lv_iload_n hx hb dX7_addBusinessDays_22 rfl (lv_at hl 1 rfl) ?_
  refine lv_iload_n hx hb dX7_addBusinessDays_23 rfl (lv_at hl 2 rfl) ?_
  refine Rd.callV (rest := []) (c_X1_openDayAfter l G z y n k0 ez ey (by omega) hh) yk_X1_openDayAfter E km_X7_100 dX7_addBusinessDays_24 hG hE ⟨k2.1, k3.1⟩ (At.recv hG k2.1 rfl) rfl rfl hl.1 ⟨Nat.le_of_ble_eq_true rfl, Nat.le_of_ble_eq_true rfl⟩ ⟨Nat.zero_le _, Nat.zero_le _⟩ (Nat.le_of_ble_eq_true rfl) ?_
  exact rd_int E hr hk (rfl) dX7_addBusinessDays_27

set_option maxHeartbeats 4000000 in
set_option maxRecDepth 100000 in
/-- businessDays -/
theorem c_X7_businessDays (l : Launch) (G : CG) {x bu bk pa : Nat} {bl es pn : Int32} {A : Nat → Prop} {d : Nat → Int32} {nc np nh : Nat} (z y : Int32) (n : Nat) (ez : z = nI n) (hn : n ≤ 9999) (hin8 : inV z 0 9999 = 1) (k0 : Nat) (ey : y = nI k0) (hn2 : k0 ≤ 9999) (hin7 : inV y 0 9999 = 1) (hh : nh ≤ 16) (hr1 : ∀ j, j < nh → ∃ h, h ≤ 999 ∧ d (6 + j) = nI h) (hr2 : ∀ i j, i < nh → j < nh → d (6 + i) = d (6 + j) → i = j) : Rd l yX7_businessDays cX7_businessDays 3 ((Option.some FieldType.int)) 7 112 G [.ref x, .int z, .int y] (DK G A x bu bl es bk pa pn d nc np nh) (some (.int (nI (cntB d nh n (k0 - n))))) := by
  refine Rd.ofW (by decide) (Nat.le_of_ble_eq_true rfl) (fun p e s m below meth c ls E hG hE hP hr hk hl => ?_)
  have hx := E.1
  have hb := E.2.1
  have hl : lv_has ls 3 [(0, .ref x), (1, .int z), (2, .int y)] := hl
  obtain ⟨hX, hB⟩ := hP
  obtain ⟨ca, ho, fe, cr, pr, cA, pA, k1, k2, k3, k4, k5, k6, k7, k8⟩ := id hB
  refine lv_iload_n hx hb dX7_businessDays_0 rfl (lv_at hl 1 rfl) ?_
  refine lv_iconst (v := 0) hx hb dX7_businessDays_1 rfl ?_
  refine lv_sipush (v := 9999) hx hb dX7_businessDays_2 rfl ?_
  refine Rd.callS (rest := []) (c_X7_needRange l G z 0 9999 hin8) yk_X7_needRange E km_X7_82 dX7_businessDays_5 hG hE trivial rfl rfl hl.1 ⟨Nat.le_of_ble_eq_true rfl, Nat.le_of_ble_eq_true rfl⟩ ⟨Nat.zero_le _, Nat.zero_le _⟩ (Nat.le_of_ble_eq_true rfl) ?_
  refine lv_iload_n hx hb dX7_businessDays_8 rfl (lv_at hl 2 rfl) ?_
  refine lv_iconst (v := 0) hx hb dX7_businessDays_9 rfl ?_
  refine lv_sipush (v := 9999) hx hb dX7_businessDays_10 rfl ?_
  refine Rd.callS (rest := []) (c_X7_needRange l G y 0 9999 hin7) yk_X7_needRange E km_X7_82 dX7_businessDays_13 hG hE trivial rfl rfl hl.1 ⟨Nat.le_of_ble_eq_true rfl, Nat.le_of_ble_eq_true rfl⟩ ⟨Nat.zero_le _, Nat.zero_le _⟩ (Nat.le_of_ble_eq_true rfl) ?_
  refine lv_aload_n hx hb dX7_businessDays_16 rfl (lv_at hl 0 rfl) ?_
  refine gf_X7_26 E hG hX rfl dX7_businessDays_17 ?_
  refine gf_X7_86 E hG k1.1 rfl dX7_businessDays_20 ?_
  refine lv_iload_n hx hb dX7_businessDays_23 rfl (lv_at hl 1 rfl) ?_
  refine lv_iload_n hx hb dX7_businessDays_24 rfl (lv_at hl 2 rfl) ?_
  refine Rd.callV (rest := []) (c_X1_openDays l G z y n k0 ez ey (by omega) (by omega) hh hr1 hr2) yk_X1_openDays E km_X7_104 dX7_businessDays_25 hG hE ⟨k2.1, k3.1⟩ (At.recv hG k2.1 rfl) rfl rfl hl.1 ⟨Nat.le_of_ble_eq_true rfl, Nat.le_of_ble_eq_true rfl⟩ ⟨Nat.zero_le _, Nat.zero_le _⟩ (Nat.le_of_ble_eq_true rfl) ?_
  exact rd_int E hr hk (rfl) dX7_businessDays_28

set_option maxHeartbeats 4000000 in
set_option maxRecDepth 100000 in
/-- isBusinessDay -/
theorem c_X7_isBusinessDay_x (l : Launch) (hst : l.stackTraces = false) (G : CG) {x bu bk pa : Nat} {bl es pn : Int32} {A : Nat → Prop} {d : Nat → Int32} {nc np nh : Nat} (z : Int32) (hin8 : inV z 0 9999 = 0) : Tr l yX7_isBusinessDay cX7_isBusinessDay 2 ((Option.some FieldType.boolean)) 7 112 G [.ref x, .int z] (DK G A x bu bl es bk pa pn d nc np nh) "java/lang/IllegalArgumentException" := by
  refine Tr.ofW (by decide) (Nat.le_of_ble_eq_true rfl) (fun p e s m below meth c ls E hG hE hP htab hk hl => ?_)
  have hx := E.1
  have hb := E.2.1
  have hl : lv_has ls 2 [(0, .ref x), (1, .int z)] := hl
  obtain ⟨hX, hB⟩ := hP
  obtain ⟨ca, ho, fe, cr, pr, cA, pA, k1, k2, k3, k4, k5, k6, k7, k8⟩ := id hB
  refine lv_iload_n hx hb dX7_isBusinessDay_0 rfl (lv_at hl 1 rfl) ?_
  refine lv_iconst (v := 0) hx hb dX7_isBusinessDay_1 rfl ?_
  refine lv_sipush (v := 9999) hx hb dX7_isBusinessDay_2 rfl ?_
  exact Tr.callS (rest := []) (c_X7_needRange_x l hst G z 0 9999 hin8) yk_X7_needRange E km_X7_82 dX7_isBusinessDay_5 hG hE trivial rfl rfl hl.1 ⟨Nat.le_of_ble_eq_true rfl, Nat.le_of_ble_eq_true rfl⟩ ⟨by decide, by decide⟩ (Nat.le_of_ble_eq_true rfl) htab hk

set_option maxHeartbeats 4000000 in
set_option maxRecDepth 100000 in
/-- extended -/
theorem c_X7_extended_x (l : Launch) (hst : l.stackTraces = false) (G : CG) {x bu bk pa : Nat} {bl es pn : Int32} {A : Nat → Prop} {d : Nat → Int32} {nc np nh : Nat} (z : Int32) (hin8 : inV z 0 9999 = 0) : Tr l yX7_extended cX7_extended 2 ((Option.some FieldType.int)) 7 112 G [.ref x, .int z] (DK G A x bu bl es bk pa pn d nc np nh) "java/lang/IllegalArgumentException" := by
  refine Tr.ofW (by decide) (Nat.le_of_ble_eq_true rfl) (fun p e s m below meth c ls E hG hE hP htab hk hl => ?_)
  have hx := E.1
  have hb := E.2.1
  have hl : lv_has ls 2 [(0, .ref x), (1, .int z)] := hl
  obtain ⟨hX, hB⟩ := hP
  obtain ⟨ca, ho, fe, cr, pr, cA, pA, k1, k2, k3, k4, k5, k6, k7, k8⟩ := id hB
  refine lv_iload_n hx hb dX7_extended_0 rfl (lv_at hl 1 rfl) ?_
  refine lv_iconst (v := 0) hx hb dX7_extended_1 rfl ?_
  refine lv_sipush (v := 9999) hx hb dX7_extended_2 rfl ?_
  exact Tr.callS (rest := []) (c_X7_needRange_x l hst G z 0 9999 hin8) yk_X7_needRange E km_X7_82 dX7_extended_5 hG hE trivial rfl rfl hl.1 ⟨Nat.le_of_ble_eq_true rfl, Nat.le_of_ble_eq_true rfl⟩ ⟨by decide, by decide⟩ (Nat.le_of_ble_eq_true rfl) htab hk

set_option maxHeartbeats 4000000 in
set_option maxRecDepth 100000 in
/-- addBusinessDays -/
theorem c_X7_addBusinessDays_x (l : Launch) (hst : l.stackTraces = false) (G : CG) {x bu bk pa : Nat} {bl es pn : Int32} {A : Nat → Prop} {d : Nat → Int32} {nc np nh : Nat} (z y : Int32) (hin8 : inV z 0 9999 = 0) : Tr l yX7_addBusinessDays cX7_addBusinessDays 3 ((Option.some FieldType.int)) 7 112 G [.ref x, .int z, .int y] (DK G A x bu bl es bk pa pn d nc np nh) "java/lang/IllegalArgumentException" := by
  refine Tr.ofW (by decide) (Nat.le_of_ble_eq_true rfl) (fun p e s m below meth c ls E hG hE hP htab hk hl => ?_)
  have hx := E.1
  have hb := E.2.1
  have hl : lv_has ls 3 [(0, .ref x), (1, .int z), (2, .int y)] := hl
  obtain ⟨hX, hB⟩ := hP
  obtain ⟨ca, ho, fe, cr, pr, cA, pA, k1, k2, k3, k4, k5, k6, k7, k8⟩ := id hB
  refine lv_iload_n hx hb dX7_addBusinessDays_0 rfl (lv_at hl 1 rfl) ?_
  refine lv_iconst (v := 0) hx hb dX7_addBusinessDays_1 rfl ?_
  refine lv_sipush (v := 9999) hx hb dX7_addBusinessDays_2 rfl ?_
  exact Tr.callS (rest := []) (c_X7_needRange_x l hst G z 0 9999 hin8) yk_X7_needRange E km_X7_82 dX7_addBusinessDays_5 hG hE trivial rfl rfl hl.1 ⟨Nat.le_of_ble_eq_true rfl, Nat.le_of_ble_eq_true rfl⟩ ⟨by decide, by decide⟩ (Nat.le_of_ble_eq_true rfl) htab hk

set_option maxHeartbeats 4000000 in
set_option maxRecDepth 100000 in
/-- addBusinessDays -/
theorem c_X7_addBusinessDays_y (l : Launch) (hst : l.stackTraces = false) (G : CG) {x bu bk pa : Nat} {bl es pn : Int32} {A : Nat → Prop} {d : Nat → Int32} {nc np nh : Nat} (z y : Int32) (hin8 : inV z 0 9999 = 1) (hin7 : inV y 0 100 = 0) : Tr l yX7_addBusinessDays cX7_addBusinessDays 3 ((Option.some FieldType.int)) 7 112 G [.ref x, .int z, .int y] (DK G A x bu bl es bk pa pn d nc np nh) "java/lang/IllegalArgumentException" := by
  refine Tr.ofW (by decide) (Nat.le_of_ble_eq_true rfl) (fun p e s m below meth c ls E hG hE hP htab hk hl => ?_)
  have hx := E.1
  have hb := E.2.1
  have hl : lv_has ls 3 [(0, .ref x), (1, .int z), (2, .int y)] := hl
  obtain ⟨hX, hB⟩ := hP
  obtain ⟨ca, ho, fe, cr, pr, cA, pA, k1, k2, k3, k4, k5, k6, k7, k8⟩ := id hB
  refine lv_iload_n hx hb dX7_addBusinessDays_0 rfl (lv_at hl 1 rfl) ?_
  refine lv_iconst (v := 0) hx hb dX7_addBusinessDays_1 rfl ?_
  refine lv_sipush (v := 9999) hx hb dX7_addBusinessDays_2 rfl ?_
  refine Rd.callS (rest := []) (c_X7_needRange l G z 0 9999 hin8) yk_X7_needRange E km_X7_82 dX7_addBusinessDays_5 hG hE trivial rfl rfl hl.1 ⟨Nat.le_of_ble_eq_true rfl, Nat.le_of_ble_eq_true rfl⟩ ⟨Nat.zero_le _, Nat.zero_le _⟩ (Nat.le_of_ble_eq_true rfl) ?_
  refine lv_iload_n hx hb dX7_addBusinessDays_8 rfl (lv_at hl 2 rfl) ?_
  refine lv_iconst (v := 0) hx hb dX7_addBusinessDays_9 rfl ?_
  refine lv_bipush (v := 100) hx hb dX7_addBusinessDays_10 rfl ?_
  exact Tr.callS (rest := []) (c_X7_needRange_x l hst G y 0 100 hin7) yk_X7_needRange E km_X7_82 dX7_addBusinessDays_12 hG hE trivial rfl rfl hl.1 ⟨Nat.le_of_ble_eq_true rfl, Nat.le_of_ble_eq_true rfl⟩ ⟨by decide, by decide⟩ (Nat.le_of_ble_eq_true rfl) htab hk

set_option maxHeartbeats 4000000 in
set_option maxRecDepth 100000 in
/-- businessDays -/
theorem c_X7_businessDays_x (l : Launch) (hst : l.stackTraces = false) (G : CG) {x bu bk pa : Nat} {bl es pn : Int32} {A : Nat → Prop} {d : Nat → Int32} {nc np nh : Nat} (z y : Int32) (hin8 : inV z 0 9999 = 0) : Tr l yX7_businessDays cX7_businessDays 3 ((Option.some FieldType.int)) 7 112 G [.ref x, .int z, .int y] (DK G A x bu bl es bk pa pn d nc np nh) "java/lang/IllegalArgumentException" := by
  refine Tr.ofW (by decide) (Nat.le_of_ble_eq_true rfl) (fun p e s m below meth c ls E hG hE hP htab hk hl => ?_)
  have hx := E.1
  have hb := E.2.1
  have hl : lv_has ls 3 [(0, .ref x), (1, .int z), (2, .int y)] := hl
  obtain ⟨hX, hB⟩ := hP
  obtain ⟨ca, ho, fe, cr, pr, cA, pA, k1, k2, k3, k4, k5, k6, k7, k8⟩ := id hB
  refine lv_iload_n hx hb dX7_businessDays_0 rfl (lv_at hl 1 rfl) ?_
  refine lv_iconst (v := 0) hx hb dX7_businessDays_1 rfl ?_
  refine lv_sipush (v := 9999) hx hb dX7_businessDays_2 rfl ?_
  exact Tr.callS (rest := []) (c_X7_needRange_x l hst G z 0 9999 hin8) yk_X7_needRange E km_X7_82 dX7_businessDays_5 hG hE trivial rfl rfl hl.1 ⟨Nat.le_of_ble_eq_true rfl, Nat.le_of_ble_eq_true rfl⟩ ⟨by decide, by decide⟩ (Nat.le_of_ble_eq_true rfl) htab hk

set_option maxHeartbeats 4000000 in
set_option maxRecDepth 100000 in
/-- businessDays -/
theorem c_X7_businessDays_y (l : Launch) (hst : l.stackTraces = false) (G : CG) {x bu bk pa : Nat} {bl es pn : Int32} {A : Nat → Prop} {d : Nat → Int32} {nc np nh : Nat} (z y : Int32) (hin8 : inV z 0 9999 = 1) (hin7 : inV y 0 9999 = 0) : Tr l yX7_businessDays cX7_businessDays 3 ((Option.some FieldType.int)) 7 112 G [.ref x, .int z, .int y] (DK G A x bu bl es bk pa pn d nc np nh) "java/lang/IllegalArgumentException" := by
  refine Tr.ofW (by decide) (Nat.le_of_ble_eq_true rfl) (fun p e s m below meth c ls E hG hE hP htab hk hl => ?_)
  have hx := E.1
  have hb := E.2.1
  have hl : lv_has ls 3 [(0, .ref x), (1, .int z), (2, .int y)] := hl
  obtain ⟨hX, hB⟩ := hP
  obtain ⟨ca, ho, fe, cr, pr, cA, pA, k1, k2, k3, k4, k5, k6, k7, k8⟩ := id hB
  refine lv_iload_n hx hb dX7_businessDays_0 rfl (lv_at hl 1 rfl) ?_
  refine lv_iconst (v := 0) hx hb dX7_businessDays_1 rfl ?_
  refine lv_sipush (v := 9999) hx hb dX7_businessDays_2 rfl ?_
  refine Rd.callS (rest := []) (c_X7_needRange l G z 0 9999 hin8) yk_X7_needRange E km_X7_82 dX7_businessDays_5 hG hE trivial rfl rfl hl.1 ⟨Nat.le_of_ble_eq_true rfl, Nat.le_of_ble_eq_true rfl⟩ ⟨Nat.zero_le _, Nat.zero_le _⟩ (Nat.le_of_ble_eq_true rfl) ?_
  refine lv_iload_n hx hb dX7_businessDays_8 rfl (lv_at hl 2 rfl) ?_
  refine lv_iconst (v := 0) hx hb dX7_businessDays_9 rfl ?_
  refine lv_sipush (v := 9999) hx hb dX7_businessDays_10 rfl ?_
  exact Tr.callS (rest := []) (c_X7_needRange_x l hst G y 0 9999 hin7) yk_X7_needRange E km_X7_82 dX7_businessDays_13 hG hE trivial rfl rfl hl.1 ⟨Nat.le_of_ble_eq_true rfl, Nat.le_of_ble_eq_true rfl⟩ ⟨by decide, by decide⟩ (Nat.le_of_ble_eq_true rfl) htab hk

set_option maxHeartbeats 4000000 in
set_option maxRecDepth 100000 in
/-- parent -/
theorem c_X7_parent (l : Launch) (G : CG) {x bu bk pa : Nat} {bl es pn : Int32} {A : Nat → Prop} {d : Nat → Int32} {nc np nh : Nat} (z : Int32) (k : Nat) (ez : z = nI k) (hk9 : k < nc) (hc0 : nc ≤ 12) : Rd l yX7_parent cX7_parent 2 ((Option.some FieldType.int)) 7 112 G [.ref x, .int z] (DK G A x bu bl es bk pa pn d nc np nh) (some (.int (d (cP k + 10)))) := by
  refine Rd.ofW (by decide) (Nat.le_of_ble_eq_true rfl) (fun p e s m below meth c ls E hG hE hP hr hk hl => ?_)
  have hx := E.1
  have hb := E.2.1
  have hl : lv_has ls 2 [(0, .ref x), (1, .int z)] := hl
  obtain ⟨hX, hB⟩ := hP
  obtain ⟨ca, ho, fe, cr, pr, cA, pA, k1, k2, k3, k4, k5, k6, k7, k8⟩ := id hB
  refine lv_aload_n hx hb dX7_parent_0 rfl (lv_at hl 0 rfl) ?_
  refine lv_iload_n hx hb dX7_parent_1 rfl (lv_at hl 1 rfl) ?_
  refine Rd.callV (rest := []) (c_X7_creditAt (cA := cA) l G z k ez (by omega) hc0) yk_X7_creditAt E km_X7_107 dX7_parent_2 hG hE ⟨hX, k1.1, k4.1⟩ (At.recv hG hX rfl) rfl rfl hl.1 ⟨Nat.le_of_ble_eq_true rfl, Nat.le_of_ble_eq_true rfl⟩ ⟨Nat.zero_le _, Nat.zero_le _⟩ (Nat.le_of_ble_eq_true rfl) ?_
  refine gf_X7_111 E hG (k6 k (by omega)).1 rfl dX7_parent_5 ?_
  exact rd_int E hr hk (rfl) dX7_parent_8

set_option maxHeartbeats 4000000 in
set_option maxRecDepth 100000 in
/-- expiry -/
theorem c_X7_expiry (l : Launch) (G : CG) {x bu bk pa : Nat} {bl es pn : Int32} {A : Nat → Prop} {d : Nat → Int32} {nc np nh : Nat} (z : Int32) (k : Nat) (ez : z = nI k) (hk9 : k < nc) (hc0 : nc ≤ 12) : Rd l yX7_expiry cX7_expiry 2 ((Option.some FieldType.int)) 7 112 G [.ref x, .int z] (DK G A x bu bl es bk pa pn d nc np nh) (some (.int (d (cP k + 3)))) := by
  refine Rd.ofW (by decide) (Nat.le_of_ble_eq_true rfl) (fun p e s m below meth c ls E hG hE hP hr hk hl => ?_)
  have hx := E.1
  have hb := E.2.1
  have hl : lv_has ls 2 [(0, .ref x), (1, .int z)] := hl
  obtain ⟨hX, hB⟩ := hP
  obtain ⟨ca, ho, fe, cr, pr, cA, pA, k1, k2, k3, k4, k5, k6, k7, k8⟩ := id hB
  refine lv_aload_n hx hb dX7_expiry_0 rfl (lv_at hl 0 rfl) ?_
  refine lv_iload_n hx hb dX7_expiry_1 rfl (lv_at hl 1 rfl) ?_
  refine Rd.callV (rest := []) (c_X7_creditAt (cA := cA) l G z k ez (by omega) hc0) yk_X7_creditAt E km_X7_107 dX7_expiry_2 hG hE ⟨hX, k1.1, k4.1⟩ (At.recv hG hX rfl) rfl rfl hl.1 ⟨Nat.le_of_ble_eq_true rfl, Nat.le_of_ble_eq_true rfl⟩ ⟨Nat.zero_le _, Nat.zero_le _⟩ (Nat.le_of_ble_eq_true rfl) ?_
  refine gf_X7_123 E hG (k6 k (by omega)).1 rfl dX7_expiry_5 ?_
  exact rd_int E hr hk (rfl) dX7_expiry_8

set_option maxHeartbeats 4000000 in
set_option maxRecDepth 100000 in
/-- bound -/
theorem c_X7_bound (l : Launch) (G : CG) {x bu bk pa : Nat} {bl es pn : Int32} {A : Nat → Prop} {d : Nat → Int32} {nc np nh : Nat} (z : Int32) (k : Nat) (ez : z = nI k) (hk9 : k < nc) (hc0 : nc ≤ 12) (y : Int32) : Rd l yX7_bound cX7_bound 4 ((Option.some FieldType.int)) 7 112 G [.ref x, .int z, .int y] (DK G A x bu bl es bk pa pn d nc np nh) (some (.int (if y = 0 then leastV d k else mostV d k))) := by
  refine Rd.ofW (by decide) (Nat.le_of_ble_eq_true rfl) (fun p e s m below meth c ls E hG hE hP hr hk hl => ?_)
  have hx := E.1
  have hb := E.2.1
  have hl : lv_has ls 4 [(0, .ref x), (1, .int z), (2, .int y)] := hl
  obtain ⟨hX, hB⟩ := hP
  obtain ⟨ca, ho, fe, cr, pr, cA, pA, k1, k2, k3, k4, k5, k6, k7, k8⟩ := id hB
  refine lv_aload_n hx hb dX7_bound_0 rfl (lv_at hl 0 rfl) ?_
  refine lv_iload_n hx hb dX7_bound_1 rfl (lv_at hl 1 rfl) ?_
  refine Rd.callV (rest := []) (c_X7_creditAt (cA := cA) l G z k ez (by omega) hc0) yk_X7_creditAt E km_X7_107 dX7_bound_2 hG hE ⟨hX, k1.1, k4.1⟩ (At.recv hG hX rfl) rfl rfl hl.1 ⟨Nat.le_of_ble_eq_true rfl, Nat.le_of_ble_eq_true rfl⟩ ⟨Nat.zero_le _, Nat.zero_le _⟩ (Nat.le_of_ble_eq_true rfl) ?_
  refine lv_astore_n (lv' := [(3, .ref (cA k)), (0, .ref x), (1, .int z), (2, .int y)]) hx hb dX7_bound_5 rfl hl (by decide) rfl (fun ls hl => ?_)
  refine lv_iload_n hx hb dX7_bound_6 rfl (lv_at hl 3 rfl) ?_
  refine lv_if_eq (tgt := 17) hx hb dX7_bound_7 (by decide) (fun c_7 => ?_) (fun c_7 => ?_)
  · refine lv_aload_n hx hb dX7_bound_17 rfl (lv_at hl 0 rfl) ?_
    refine Rd.callV (rest := []) (c_X2_minimum l G) yk_X2_minimum E km_X7_120 dX7_bound_18 hG hE (k6 k (by omega)).1 (At.recv hG (k6 k (by omega)).1 rfl) rfl rfl hl.1 ⟨Nat.le_of_ble_eq_true rfl, Nat.le_of_ble_eq_true rfl⟩ ⟨Nat.zero_le _, Nat.zero_le _⟩ (Nat.le_of_ble_eq_true rfl) ?_
    exact rd_int E hr hk (by first | (simp only [c_7, ↓reduceIte, not_true_eq_false, not_false_eq_true]; done) | (simp [c_7]; done)) dX7_bound_21
  · refine lv_aload_n hx hb dX7_bound_10 rfl (lv_at hl 0 rfl) ?_
    refine Rd.callV (rest := []) (c_X2_maximum l G) yk_X2_maximum E km_X7_116 dX7_bound_11 hG hE (k6 k (by omega)).1 (At.recv hG (k6 k (by omega)).1 rfl) rfl rfl hl.1 ⟨Nat.le_of_ble_eq_true rfl, Nat.le_of_ble_eq_true rfl⟩ ⟨Nat.zero_le _, Nat.zero_le _⟩ (Nat.le_of_ble_eq_true rfl) ?_
    refine lv_goto (tgt := 21) hx hb dX7_bound_14 (by decide) ?_
    exact rd_int E hr hk (by first | (simp only [c_7, ↓reduceIte, not_true_eq_false, not_false_eq_true]; done) | (simp [c_7]; done)) dX7_bound_21

set_option maxHeartbeats 4000000 in
set_option maxRecDepth 100000 in
/-- drawn -/
theorem c_X7_drawn (l : Launch) (G : CG) {x bu bk pa : Nat} {bl es pn : Int32} {A : Nat → Prop} {d : Nat → Int32} {nc np nh : Nat} (z : Int32) (k : Nat) (ez : z = nI k) (hk9 : k < nc) (hc0 : nc ≤ 12) (hp0 : np ≤ 24) : Rd l yX7_drawn cX7_drawn 2 ((Option.some FieldType.int)) 7 112 G [.ref x, .int z] (DK G A x bu bl es bk pa pn d nc np nh) (some (.int (drawnV d (nI k) np))) := by
  refine Rd.ofW (by decide) (Nat.le_of_ble_eq_true rfl) (fun p e s m below meth c ls E hG hE hP hr hk hl => ?_)
  have hx := E.1
  have hb := E.2.1
  have hl : lv_has ls 2 [(0, .ref x), (1, .int z)] := hl
  obtain ⟨hX, hB⟩ := hP
  obtain ⟨ca, ho, fe, cr, pr, cA, pA, k1, k2, k3, k4, k5, k6, k7, k8⟩ := id hB
  refine lv_aload_n hx hb dX7_drawn_0 rfl (lv_at hl 0 rfl) ?_
  refine gf_X7_26 E hG hX rfl dX7_drawn_1 ?_
  refine lv_aload_n hx hb dX7_drawn_4 rfl (lv_at hl 0 rfl) ?_
  refine lv_iload_n hx hb dX7_drawn_5 rfl (lv_at hl 1 rfl) ?_
  refine Rd.callV (rest := [.ref bk]) (c_X7_creditAt (cA := cA) l G z k ez (by omega) hc0) yk_X7_creditAt E km_X7_107 dX7_drawn_6 hG hE ⟨hX, k1.1, k4.1⟩ (At.recv hG hX rfl) rfl rfl hl.1 ⟨Nat.le_of_ble_eq_true rfl, Nat.le_of_ble_eq_true rfl⟩ ⟨Nat.zero_le _, Nat.zero_le _⟩ (Nat.le_of_ble_eq_true rfl) ?_
  refine Rd.callV (rest := []) (c_X0_drawnSum l G hp0) yk_X0_drawnSum E km_X7_126 dX7_drawn_9 hG hE ⟨hB, (k6 k (by omega)).1⟩ (At.recv hG k1.1 rfl) rfl rfl hl.1 ⟨Nat.le_of_ble_eq_true rfl, Nat.le_of_ble_eq_true rfl⟩ ⟨Nat.zero_le _, Nat.zero_le _⟩ (Nat.le_of_ble_eq_true rfl) ?_
  exact rd_int E hr hk (rfl) dX7_drawn_12

set_option maxHeartbeats 4000000 in
set_option maxRecDepth 100000 in
/-- transferred -/
theorem c_X7_transferred (l : Launch) (G : CG) {x bu bk pa : Nat} {bl es pn : Int32} {A : Nat → Prop} {d : Nat → Int32} {nc np nh : Nat} (z : Int32) (k : Nat) (ez : z = nI k) (hk9 : k < nc) (hc0 : nc ≤ 12) : Rd l yX7_transferred cX7_transferred 2 ((Option.some FieldType.int)) 7 112 G [.ref x, .int z] (DK G A x bu bl es bk pa pn d nc np nh) (some (.int (transV d (nI k) nc))) := by
  refine Rd.ofW (by decide) (Nat.le_of_ble_eq_true rfl) (fun p e s m below meth c ls E hG hE hP hr hk hl => ?_)
  have hx := E.1
  have hb := E.2.1
  have hl : lv_has ls 2 [(0, .ref x), (1, .int z)] := hl
  obtain ⟨hX, hB⟩ := hP
  obtain ⟨ca, ho, fe, cr, pr, cA, pA, k1, k2, k3, k4, k5, k6, k7, k8⟩ := id hB
  refine lv_aload_n hx hb dX7_transferred_0 rfl (lv_at hl 0 rfl) ?_
  refine gf_X7_26 E hG hX rfl dX7_transferred_1 ?_
  refine lv_aload_n hx hb dX7_transferred_4 rfl (lv_at hl 0 rfl) ?_
  refine lv_iload_n hx hb dX7_transferred_5 rfl (lv_at hl 1 rfl) ?_
  refine Rd.callV (rest := [.ref bk]) (c_X7_creditAt (cA := cA) l G z k ez (by omega) hc0) yk_X7_creditAt E km_X7_107 dX7_transferred_6 hG hE ⟨hX, k1.1, k4.1⟩ (At.recv hG hX rfl) rfl rfl hl.1 ⟨Nat.le_of_ble_eq_true rfl, Nat.le_of_ble_eq_true rfl⟩ ⟨Nat.zero_le _, Nat.zero_le _⟩ (Nat.le_of_ble_eq_true rfl) ?_
  refine Rd.callV (rest := []) (c_X0_transferredSum l G hc0) yk_X0_transferredSum E km_X7_130 dX7_transferred_9 hG hE ⟨hB, (k6 k (by omega)).1⟩ (At.recv hG k1.1 rfl) rfl rfl hl.1 ⟨Nat.le_of_ble_eq_true rfl, Nat.le_of_ble_eq_true rfl⟩ ⟨Nat.zero_le _, Nat.zero_le _⟩ (Nat.le_of_ble_eq_true rfl) ?_
  exact rd_int E hr hk (rfl) dX7_transferred_12

set_option maxHeartbeats 4000000 in
set_option maxRecDepth 100000 in
/-- available -/
theorem c_X7_available (l : Launch) (G : CG) {x bu bk pa : Nat} {bl es pn : Int32} {A : Nat → Prop} {d : Nat → Int32} {nc np nh : Nat} (z : Int32) (k : Nat) (ez : z = nI k) (hk9 : k < nc) (hc0 : nc ≤ 12) (hp0 : np ≤ 24) : Rd l yX7_available cX7_available 2 ((Option.some FieldType.int)) 7 112 G [.ref x, .int z] (DK G A x bu bl es bk pa pn d nc np nh) (some (.int (availV d np nc k))) := by
  refine Rd.ofW (by decide) (Nat.le_of_ble_eq_true rfl) (fun p e s m below meth c ls E hG hE hP hr hk hl => ?_)
  have hx := E.1
  have hb := E.2.1
  have hl : lv_has ls 2 [(0, .ref x), (1, .int z)] := hl
  obtain ⟨hX, hB⟩ := hP
  obtain ⟨ca, ho, fe, cr, pr, cA, pA, k1, k2, k3, k4, k5, k6, k7, k8⟩ := id hB
  refine lv_aload_n hx hb dX7_available_0 rfl (lv_at hl 0 rfl) ?_
  refine gf_X7_26 E hG hX rfl dX7_available_1 ?_
  refine lv_aload_n hx hb dX7_available_4 rfl (lv_at hl 0 rfl) ?_
  refine lv_iload_n hx hb dX7_available_5 rfl (lv_at hl 1 rfl) ?_
  refine Rd.callV (rest := [.ref bk]) (c_X7_creditAt (cA := cA) l G z k ez (by omega) hc0) yk_X7_creditAt E km_X7_107 dX7_available_6 hG hE ⟨hX, k1.1, k4.1⟩ (At.recv hG hX rfl) rfl rfl hl.1 ⟨Nat.le_of_ble_eq_true rfl, Nat.le_of_ble_eq_true rfl⟩ ⟨Nat.zero_le _, Nat.zero_le _⟩ (Nat.le_of_ble_eq_true rfl) ?_
  refine Rd.callV (rest := []) (c_X0_availableSum l G hp0 hc0) yk_X0_availableSum E km_X7_133 dX7_available_9 hG hE ⟨hB, (k6 k (by omega)).1⟩ (At.recv hG k1.1 rfl) rfl rfl hl.1 ⟨Nat.le_of_ble_eq_true rfl, Nat.le_of_ble_eq_true rfl⟩ ⟨Nat.zero_le _, Nat.zero_le _⟩ (Nat.le_of_ble_eq_true rfl) ?_
  exact rd_int E hr hk (rfl) dX7_available_12

set_option maxHeartbeats 4000000 in
set_option maxRecDepth 100000 in
/-- parent -/
theorem c_X7_parent_x (l : Launch) (hst : l.stackTraces = false) (G : CG) {x bu bk pa : Nat} {bl es pn : Int32} {A : Nat → Prop} {d : Nat → Int32} {nc np nh : Nat} (z : Int32) (hin9 : inV z 0 (nI nc - 1) = 0) (hc0 : nc ≤ 12) : Tr l yX7_parent cX7_parent 2 ((Option.some FieldType.int)) 7 112 G [.ref x, .int z] (DK G A x bu bl es bk pa pn d nc np nh) "java/lang/IndexOutOfBoundsException" := by
  refine Tr.ofW (by decide) (Nat.le_of_ble_eq_true rfl) (fun p e s m below meth c ls E hG hE hP htab hk hl => ?_)
  have hx := E.1
  have hb := E.2.1
  have hl : lv_has ls 2 [(0, .ref x), (1, .int z)] := hl
  obtain ⟨hX, hB⟩ := hP
  obtain ⟨ca, ho, fe, cr, pr, cA, pA, k1, k2, k3, k4, k5, k6, k7, k8⟩ := id hB
  refine lv_aload_n hx hb dX7_parent_0 rfl (lv_at hl 0 rfl) ?_
  refine lv_iload_n hx hb dX7_parent_1 rfl (lv_at hl 1 rfl) ?_
  exact Tr.callV (rest := []) (c_X7_creditAt_x (cA := cA) l hst G z hin9 hc0) yk_X7_creditAt E km_X7_107 dX7_parent_2 hG hE ⟨hX, k1.1, k4.1⟩ (At.recv hG hX rfl) rfl rfl hl.1 ⟨Nat.le_of_ble_eq_true rfl, Nat.le_of_ble_eq_true rfl⟩ ⟨by decide, by decide⟩ (Nat.le_of_ble_eq_true rfl) htab hk

set_option maxHeartbeats 4000000 in
set_option maxRecDepth 100000 in
/-- expiry -/
theorem c_X7_expiry_x (l : Launch) (hst : l.stackTraces = false) (G : CG) {x bu bk pa : Nat} {bl es pn : Int32} {A : Nat → Prop} {d : Nat → Int32} {nc np nh : Nat} (z : Int32) (hin9 : inV z 0 (nI nc - 1) = 0) (hc0 : nc ≤ 12) : Tr l yX7_expiry cX7_expiry 2 ((Option.some FieldType.int)) 7 112 G [.ref x, .int z] (DK G A x bu bl es bk pa pn d nc np nh) "java/lang/IndexOutOfBoundsException" := by
  refine Tr.ofW (by decide) (Nat.le_of_ble_eq_true rfl) (fun p e s m below meth c ls E hG hE hP htab hk hl => ?_)
  have hx := E.1
  have hb := E.2.1
  have hl : lv_has ls 2 [(0, .ref x), (1, .int z)] := hl
  obtain ⟨hX, hB⟩ := hP
  obtain ⟨ca, ho, fe, cr, pr, cA, pA, k1, k2, k3, k4, k5, k6, k7, k8⟩ := id hB
  refine lv_aload_n hx hb dX7_expiry_0 rfl (lv_at hl 0 rfl) ?_
  refine lv_iload_n hx hb dX7_expiry_1 rfl (lv_at hl 1 rfl) ?_
  exact Tr.callV (rest := []) (c_X7_creditAt_x (cA := cA) l hst G z hin9 hc0) yk_X7_creditAt E km_X7_107 dX7_expiry_2 hG hE ⟨hX, k1.1, k4.1⟩ (At.recv hG hX rfl) rfl rfl hl.1 ⟨Nat.le_of_ble_eq_true rfl, Nat.le_of_ble_eq_true rfl⟩ ⟨by decide, by decide⟩ (Nat.le_of_ble_eq_true rfl) htab hk

set_option maxHeartbeats 4000000 in
set_option maxRecDepth 100000 in
/-- drawn -/
theorem c_X7_drawn_x (l : Launch) (hst : l.stackTraces = false) (G : CG) {x bu bk pa : Nat} {bl es pn : Int32} {A : Nat → Prop} {d : Nat → Int32} {nc np nh : Nat} (z : Int32) (hin9 : inV z 0 (nI nc - 1) = 0) (hc0 : nc ≤ 12) : Tr l yX7_drawn cX7_drawn 2 ((Option.some FieldType.int)) 7 112 G [.ref x, .int z] (DK G A x bu bl es bk pa pn d nc np nh) "java/lang/IndexOutOfBoundsException" := by
  refine Tr.ofW (by decide) (Nat.le_of_ble_eq_true rfl) (fun p e s m below meth c ls E hG hE hP htab hk hl => ?_)
  have hx := E.1
  have hb := E.2.1
  have hl : lv_has ls 2 [(0, .ref x), (1, .int z)] := hl
  obtain ⟨hX, hB⟩ := hP
  obtain ⟨ca, ho, fe, cr, pr, cA, pA, k1, k2, k3, k4, k5, k6, k7, k8⟩ := id hB
  refine lv_aload_n hx hb dX7_drawn_0 rfl (lv_at hl 0 rfl) ?_
  refine gf_X7_26 E hG hX rfl dX7_drawn_1 ?_
  refine lv_aload_n hx hb dX7_drawn_4 rfl (lv_at hl 0 rfl) ?_
  refine lv_iload_n hx hb dX7_drawn_5 rfl (lv_at hl 1 rfl) ?_
  exact Tr.callV (rest := [.ref bk]) (c_X7_creditAt_x (cA := cA) l hst G z hin9 hc0) yk_X7_creditAt E km_X7_107 dX7_drawn_6 hG hE ⟨hX, k1.1, k4.1⟩ (At.recv hG hX rfl) rfl rfl hl.1 ⟨Nat.le_of_ble_eq_true rfl, Nat.le_of_ble_eq_true rfl⟩ ⟨by decide, by decide⟩ (Nat.le_of_ble_eq_true rfl) htab hk

set_option maxHeartbeats 4000000 in
set_option maxRecDepth 100000 in
/-- transferred -/
theorem c_X7_transferred_x (l : Launch) (hst : l.stackTraces = false) (G : CG) {x bu bk pa : Nat} {bl es pn : Int32} {A : Nat → Prop} {d : Nat → Int32} {nc np nh : Nat} (z : Int32) (hin9 : inV z 0 (nI nc - 1) = 0) (hc0 : nc ≤ 12) : Tr l yX7_transferred cX7_transferred 2 ((Option.some FieldType.int)) 7 112 G [.ref x, .int z] (DK G A x bu bl es bk pa pn d nc np nh) "java/lang/IndexOutOfBoundsException" := by
  refine Tr.ofW (by decide) (Nat.le_of_ble_eq_true rfl) (fun p e s m below meth c ls E hG hE hP htab hk hl => ?_)
  have hx := E.1
  have hb := E.2.1
  have hl : lv_has ls 2 [(0, .ref x), (1, .int z)] := hl
  obtain ⟨hX, hB⟩ := hP
  obtain ⟨ca, ho, fe, cr, pr, cA, pA, k1, k2, k3, k4, k5, k6, k7, k8⟩ := id hB
  refine lv_aload_n hx hb dX7_transferred_0 rfl (lv_at hl 0 rfl) ?_
  refine gf_X7_26 E hG hX rfl dX7_transferred_1 ?_
  refine lv_aload_n hx hb dX7_transferred_4 rfl (lv_at hl 0 rfl) ?_
  refine lv_iload_n hx hb dX7_transferred_5 rfl (lv_at hl 1 rfl) ?_
  exact Tr.callV (rest := [.ref bk]) (c_X7_creditAt_x (cA := cA) l hst G z hin9 hc0) yk_X7_creditAt E km_X7_107 dX7_transferred_6 hG hE ⟨hX, k1.1, k4.1⟩ (At.recv hG hX rfl) rfl rfl hl.1 ⟨Nat.le_of_ble_eq_true rfl, Nat.le_of_ble_eq_true rfl⟩ ⟨by decide, by decide⟩ (Nat.le_of_ble_eq_true rfl) htab hk

set_option maxHeartbeats 4000000 in
set_option maxRecDepth 100000 in
/-- available -/
theorem c_X7_available_x (l : Launch) (hst : l.stackTraces = false) (G : CG) {x bu bk pa : Nat} {bl es pn : Int32} {A : Nat → Prop} {d : Nat → Int32} {nc np nh : Nat} (z : Int32) (hin9 : inV z 0 (nI nc - 1) = 0) (hc0 : nc ≤ 12) : Tr l yX7_available cX7_available 2 ((Option.some FieldType.int)) 7 112 G [.ref x, .int z] (DK G A x bu bl es bk pa pn d nc np nh) "java/lang/IndexOutOfBoundsException" := by
  refine Tr.ofW (by decide) (Nat.le_of_ble_eq_true rfl) (fun p e s m below meth c ls E hG hE hP htab hk hl => ?_)
  have hx := E.1
  have hb := E.2.1
  have hl : lv_has ls 2 [(0, .ref x), (1, .int z)] := hl
  obtain ⟨hX, hB⟩ := hP
  obtain ⟨ca, ho, fe, cr, pr, cA, pA, k1, k2, k3, k4, k5, k6, k7, k8⟩ := id hB
  refine lv_aload_n hx hb dX7_available_0 rfl (lv_at hl 0 rfl) ?_
  refine gf_X7_26 E hG hX rfl dX7_available_1 ?_
  refine lv_aload_n hx hb dX7_available_4 rfl (lv_at hl 0 rfl) ?_
  refine lv_iload_n hx hb dX7_available_5 rfl (lv_at hl 1 rfl) ?_
  exact Tr.callV (rest := [.ref bk]) (c_X7_creditAt_x (cA := cA) l hst G z hin9 hc0) yk_X7_creditAt E km_X7_107 dX7_available_6 hG hE ⟨hX, k1.1, k4.1⟩ (At.recv hG hX rfl) rfl rfl hl.1 ⟨Nat.le_of_ble_eq_true rfl, Nat.le_of_ble_eq_true rfl⟩ ⟨by decide, by decide⟩ (Nat.le_of_ble_eq_true rfl) htab hk

set_option maxHeartbeats 4000000 in
set_option maxRecDepth 100000 in
/-- bound -/
theorem c_X7_bound_x (l : Launch) (hst : l.stackTraces = false) (G : CG) {x bu bk pa : Nat} {bl es pn : Int32} {A : Nat → Prop} {d : Nat → Int32} {nc np nh : Nat} (z : Int32) (hin9 : inV z 0 (nI nc - 1) = 0) (hc0 : nc ≤ 12) (y : Int32) : Tr l yX7_bound cX7_bound 4 ((Option.some FieldType.int)) 7 112 G [.ref x, .int z, .int y] (DK G A x bu bl es bk pa pn d nc np nh) "java/lang/IndexOutOfBoundsException" := by
  refine Tr.ofW (by decide) (Nat.le_of_ble_eq_true rfl) (fun p e s m below meth c ls E hG hE hP htab hk hl => ?_)
  have hx := E.1
  have hb := E.2.1
  have hl : lv_has ls 4 [(0, .ref x), (1, .int z), (2, .int y)] := hl
  obtain ⟨hX, hB⟩ := hP
  obtain ⟨ca, ho, fe, cr, pr, cA, pA, k1, k2, k3, k4, k5, k6, k7, k8⟩ := id hB
  refine lv_aload_n hx hb dX7_bound_0 rfl (lv_at hl 0 rfl) ?_
  refine lv_iload_n hx hb dX7_bound_1 rfl (lv_at hl 1 rfl) ?_
  exact Tr.callV (rest := []) (c_X7_creditAt_x (cA := cA) l hst G z hin9 hc0) yk_X7_creditAt E km_X7_107 dX7_bound_2 hG hE ⟨hX, k1.1, k4.1⟩ (At.recv hG hX rfl) rfl rfl hl.1 ⟨Nat.le_of_ble_eq_true rfl, Nat.le_of_ble_eq_true rfl⟩ ⟨by decide, by decide⟩ (Nat.le_of_ble_eq_true rfl) htab hk

set_option maxHeartbeats 4000000 in
set_option maxRecDepth 100000 in
/-- creditOf -/
theorem c_X7_creditOf (l : Launch) (G : CG) {x bu bk pa : Nat} {bl es pn : Int32} {A : Nat → Prop} {d : Nat → Int32} {nc np nh : Nat} (z : Int32) (k : Nat) (ez : z = nI k) (hk9 : k < np) (hp0 : np ≤ 24) : Rd l yX7_creditOf cX7_creditOf 2 ((Option.some FieldType.int)) 7 112 G [.ref x, .int z] (DK G A x bu bl es bk pa pn d nc np nh) (some (.int (d (pP k)))) := by
  refine Rd.ofW (by decide) (Nat.le_of_ble_eq_true rfl) (fun p e s m below meth c ls E hG hE hP hr hk hl => ?_)
  have hx := E.1
  have hb := E.2.1
  have hl : lv_has ls 2 [(0, .ref x), (1, .int z)] := hl
  obtain ⟨hX, hB⟩ := hP
  obtain ⟨ca, ho, fe, cr, pr, cA, pA, k1, k2, k3, k4, k5, k6, k7, k8⟩ := id hB
  refine lv_aload_n hx hb dX7_creditOf_0 rfl (lv_at hl 0 rfl) ?_
  refine lv_iload_n hx hb dX7_creditOf_1 rfl (lv_at hl 1 rfl) ?_
  refine Rd.callV (rest := []) (c_X7_presentationAt (pA := pA) l G z k ez (by omega) hp0) yk_X7_presentationAt E km_X7_136 dX7_creditOf_2 hG hE ⟨hX, k1.1, k5.1⟩ (At.recv hG hX rfl) rfl rfl hl.1 ⟨Nat.le_of_ble_eq_true rfl, Nat.le_of_ble_eq_true rfl⟩ ⟨Nat.zero_le _, Nat.zero_le _⟩ (Nat.le_of_ble_eq_true rfl) ?_
  refine gf_X7_140 E hG (k7 k (by omega)).1 rfl dX7_creditOf_5 ?_
  exact rd_int E hr hk (rfl) dX7_creditOf_8

set_option maxHeartbeats 4000000 in
set_option maxRecDepth 100000 in
/-- state -/
theorem c_X7_state (l : Launch) (G : CG) {x bu bk pa : Nat} {bl es pn : Int32} {A : Nat → Prop} {d : Nat → Int32} {nc np nh : Nat} (z : Int32) (k : Nat) (ez : z = nI k) (hk9 : k < np) (hp0 : np ≤ 24) : Rd l yX7_state cX7_state 2 ((Option.some FieldType.int)) 7 112 G [.ref x, .int z] (DK G A x bu bl es bk pa pn d nc np nh) (some (.int (d (pP k + 4)))) := by
  refine Rd.ofW (by decide) (Nat.le_of_ble_eq_true rfl) (fun p e s m below meth c ls E hG hE hP hr hk hl => ?_)
  have hx := E.1
  have hb := E.2.1
  have hl : lv_has ls 2 [(0, .ref x), (1, .int z)] := hl
  obtain ⟨hX, hB⟩ := hP
  obtain ⟨ca, ho, fe, cr, pr, cA, pA, k1, k2, k3, k4, k5, k6, k7, k8⟩ := id hB
  refine lv_aload_n hx hb dX7_state_0 rfl (lv_at hl 0 rfl) ?_
  refine lv_iload_n hx hb dX7_state_1 rfl (lv_at hl 1 rfl) ?_
  refine Rd.callV (rest := []) (c_X7_presentationAt (pA := pA) l G z k ez (by omega) hp0) yk_X7_presentationAt E km_X7_136 dX7_state_2 hG hE ⟨hX, k1.1, k5.1⟩ (At.recv hG hX rfl) rfl rfl hl.1 ⟨Nat.le_of_ble_eq_true rfl, Nat.le_of_ble_eq_true rfl⟩ ⟨Nat.zero_le _, Nat.zero_le _⟩ (Nat.le_of_ble_eq_true rfl) ?_
  refine gf_X7_145 E hG (k7 k (by omega)).1 rfl dX7_state_5 ?_
  exact rd_int E hr hk (rfl) dX7_state_8

set_option maxHeartbeats 4000000 in
set_option maxRecDepth 100000 in
/-- discrepancies -/
theorem c_X7_discrepancies (l : Launch) (G : CG) {x bu bk pa : Nat} {bl es pn : Int32} {A : Nat → Prop} {d : Nat → Int32} {nc np nh : Nat} (z : Int32) (k : Nat) (ez : z = nI k) (hk9 : k < np) (hp0 : np ≤ 24) : Rd l yX7_discrepancies cX7_discrepancies 2 ((Option.some FieldType.int)) 7 112 G [.ref x, .int z] (DK G A x bu bl es bk pa pn d nc np nh) (some (.int (d (pP k + 3)))) := by
  refine Rd.ofW (by decide) (Nat.le_of_ble_eq_true rfl) (fun p e s m below meth c ls E hG hE hP hr hk hl => ?_)
  have hx := E.1
  have hb := E.2.1
  have hl : lv_has ls 2 [(0, .ref x), (1, .int z)] := hl
  obtain ⟨hX, hB⟩ := hP
  obtain ⟨ca, ho, fe, cr, pr, cA, pA, k1, k2, k3, k4, k5, k6, k7, k8⟩ := id hB
  refine lv_aload_n hx hb dX7_discrepancies_0 rfl (lv_at hl 0 rfl) ?_
  refine lv_iload_n hx hb dX7_discrepancies_1 rfl (lv_at hl 1 rfl) ?_
  refine Rd.callV (rest := []) (c_X7_presentationAt (pA := pA) l G z k ez (by omega) hp0) yk_X7_presentationAt E km_X7_136 dX7_discrepancies_2 hG hE ⟨hX, k1.1, k5.1⟩ (At.recv hG hX rfl) rfl rfl hl.1 ⟨Nat.le_of_ble_eq_true rfl, Nat.le_of_ble_eq_true rfl⟩ ⟨Nat.zero_le _, Nat.zero_le _⟩ (Nat.le_of_ble_eq_true rfl) ?_
  refine gf_X7_148 E hG (k7 k (by omega)).1 rfl dX7_discrepancies_5 ?_
  exact rd_int E hr hk (rfl) dX7_discrepancies_8

set_option maxHeartbeats 4000000 in
set_option maxRecDepth 100000 in
/-- dueDay -/
theorem c_X7_dueDay (l : Launch) (G : CG) {x bu bk pa : Nat} {bl es pn : Int32} {A : Nat → Prop} {d : Nat → Int32} {nc np nh : Nat} (z : Int32) (k : Nat) (ez : z = nI k) (hk9 : k < np) (hp0 : np ≤ 24) : Rd l yX7_dueDay cX7_dueDay 2 ((Option.some FieldType.int)) 7 112 G [.ref x, .int z] (DK G A x bu bl es bk pa pn d nc np nh) (some (.int (dueD d nh k))) := by
  refine Rd.ofW (by decide) (Nat.le_of_ble_eq_true rfl) (fun p e s m below meth c ls E hG hE hP hr hk hl => ?_)
  have hx := E.1
  have hb := E.2.1
  have hl : lv_has ls 2 [(0, .ref x), (1, .int z)] := hl
  obtain ⟨hX, hB⟩ := hP
  obtain ⟨ca, ho, fe, cr, pr, cA, pA, k1, k2, k3, k4, k5, k6, k7, k8⟩ := id hB
  refine lv_aload_n hx hb dX7_dueDay_0 rfl (lv_at hl 0 rfl) ?_
  refine lv_iload_n hx hb dX7_dueDay_1 rfl (lv_at hl 1 rfl) ?_
  refine Rd.callV (rest := []) (c_X7_presentationAt (pA := pA) l G z k ez (by omega) hp0) yk_X7_presentationAt E km_X7_136 dX7_dueDay_2 hG hE ⟨hX, k1.1, k5.1⟩ (At.recv hG hX rfl) rfl rfl hl.1 ⟨Nat.le_of_ble_eq_true rfl, Nat.le_of_ble_eq_true rfl⟩ ⟨Nat.zero_le _, Nat.zero_le _⟩ (Nat.le_of_ble_eq_true rfl) ?_
  refine gf_X7_155 E hG (k7 k (by omega)).1 rfl dX7_dueDay_5 ?_
  exact rd_int E hr hk (rfl) dX7_dueDay_8

set_option maxHeartbeats 4000000 in
set_option maxRecDepth 100000 in
/-- deadline -/
theorem c_X7_deadline (l : Launch) (G : CG) {x bu bk pa : Nat} {bl es pn : Int32} {A : Nat → Prop} {d : Nat → Int32} {nc np nh : Nat} (z : Int32) (k : Nat) (ez : z = nI k) (hk9 : k < np) (hp0 : np ≤ 24) (dy : Nat) (hd1 : d (pP k + 1) = nI dy) (hd2 : dy ≤ 9000) (hh : nh ≤ 16) : Rd l yX7_deadline cX7_deadline 2 ((Option.some FieldType.int)) 7 114 G [.ref x, .int z] (DK G A x bu bl es bk pa pn d nc np nh) (some (.int (nI (addB d nh 5 dy)))) := by
  refine Rd.ofW (by decide) (Nat.le_of_ble_eq_true rfl) (fun p e s m below meth c ls E hG hE hP hr hk hl => ?_)
  have hx := E.1
  have hb := E.2.1
  have hl : lv_has ls 2 [(0, .ref x), (1, .int z)] := hl
  obtain ⟨hX, hB⟩ := hP
  obtain ⟨ca, ho, fe, cr, pr, cA, pA, k1, k2, k3, k4, k5, k6, k7, k8⟩ := id hB
  refine lv_aload_n hx hb dX7_deadline_0 rfl (lv_at hl 0 rfl) ?_
  refine lv_aload_n hx hb dX7_deadline_1 rfl (lv_at hl 0 rfl) ?_
  refine lv_iload_n hx hb dX7_deadline_2 rfl (lv_at hl 1 rfl) ?_
  refine Rd.callV (rest := [.ref x]) (c_X7_presentationAt (pA := pA) l G z k ez (by omega) hp0) yk_X7_presentationAt E km_X7_136 dX7_deadline_3 hG hE ⟨hX, k1.1, k5.1⟩ (At.recv hG hX rfl) rfl rfl hl.1 ⟨Nat.le_of_ble_eq_true rfl, Nat.le_of_ble_eq_true rfl⟩ ⟨Nat.zero_le _, Nat.zero_le _⟩ (Nat.le_of_ble_eq_true rfl) ?_
  refine Rd.callV (rest := []) (c_X7_deadlineFor l G dy hd1 hd2 hh) yk_X7_deadlineFor E km_X7_151 dX7_deadline_6 hG hE ⟨⟨hX, hB⟩, (k7 k (by omega)).1⟩ (At.recv hG hX rfl) rfl rfl hl.1 ⟨Nat.le_of_ble_eq_true rfl, Nat.le_of_ble_eq_true rfl⟩ ⟨Nat.zero_le _, Nat.zero_le _⟩ (Nat.le_of_ble_eq_true rfl) ?_
  exact rd_int E hr hk (rfl) dX7_deadline_9

set_option maxHeartbeats 4000000 in
set_option maxRecDepth 100000 in
/-- creditOf -/
theorem c_X7_creditOf_x (l : Launch) (hst : l.stackTraces = false) (G : CG) {x bu bk pa : Nat} {bl es pn : Int32} {A : Nat → Prop} {d : Nat → Int32} {nc np nh : Nat} (z : Int32) (hin9 : inV z 0 (nI np - 1) = 0) (hp0 : np ≤ 24) : Tr l yX7_creditOf cX7_creditOf 2 ((Option.some FieldType.int)) 7 112 G [.ref x, .int z] (DK G A x bu bl es bk pa pn d nc np nh) "java/lang/IndexOutOfBoundsException" := by
  refine Tr.ofW (by decide) (Nat.le_of_ble_eq_true rfl) (fun p e s m below meth c ls E hG hE hP htab hk hl => ?_)
  have hx := E.1
  have hb := E.2.1
  have hl : lv_has ls 2 [(0, .ref x), (1, .int z)] := hl
  obtain ⟨hX, hB⟩ := hP
  obtain ⟨ca, ho, fe, cr, pr, cA, pA, k1, k2, k3, k4, k5, k6, k7, k8⟩ := id hB
  refine lv_aload_n hx hb dX7_creditOf_0 rfl (lv_at hl 0 rfl) ?_
  refine lv_iload_n hx hb dX7_creditOf_1 rfl (lv_at hl 1 rfl) ?_
  exact Tr.callV (rest := []) (c_X7_presentationAt_x (pA := pA) l hst G z hin9 hp0) yk_X7_presentationAt E km_X7_136 dX7_creditOf_2 hG hE ⟨hX, k1.1, k5.1⟩ (At.recv hG hX rfl) rfl rfl hl.1 ⟨Nat.le_of_ble_eq_true rfl, Nat.le_of_ble_eq_true rfl⟩ ⟨by decide, by decide⟩ (Nat.le_of_ble_eq_true rfl) htab hk

set_option maxHeartbeats 4000000 in
set_option maxRecDepth 100000 in
/-- state -/
theorem c_X7_state_x (l : Launch) (hst : l.stackTraces = false) (G : CG) {x bu bk pa : Nat} {bl es pn : Int32} {A : Nat → Prop} {d : Nat → Int32} {nc np nh : Nat} (z : Int32) (hin9 : inV z 0 (nI np - 1) = 0) (hp0 : np ≤ 24) : Tr l yX7_state cX7_state 2 ((Option.some FieldType.int)) 7 112 G [.ref x, .int z] (DK G A x bu bl es bk pa pn d nc np nh) "java/lang/IndexOutOfBoundsException" := by
  refine Tr.ofW (by decide) (Nat.le_of_ble_eq_true rfl) (fun p e s m below meth c ls E hG hE hP htab hk hl => ?_)
  have hx := E.1
  have hb := E.2.1
  have hl : lv_has ls 2 [(0, .ref x), (1, .int z)] := hl
  obtain ⟨hX, hB⟩ := hP
  obtain ⟨ca, ho, fe, cr, pr, cA, pA, k1, k2, k3, k4, k5, k6, k7, k8⟩ := id hB
  refine lv_aload_n hx hb dX7_state_0 rfl (lv_at hl 0 rfl) ?_
  refine lv_iload_n hx hb dX7_state_1 rfl (lv_at hl 1 rfl) ?_
  exact Tr.callV (rest := []) (c_X7_presentationAt_x (pA := pA) l hst G z hin9 hp0) yk_X7_presentationAt E km_X7_136 dX7_state_2 hG hE ⟨hX, k1.1, k5.1⟩ (At.recv hG hX rfl) rfl rfl hl.1 ⟨Nat.le_of_ble_eq_true rfl, Nat.le_of_ble_eq_true rfl⟩ ⟨by decide, by decide⟩ (Nat.le_of_ble_eq_true rfl) htab hk

set_option maxHeartbeats 4000000 in
set_option maxRecDepth 100000 in
/-- discrepancies -/
theorem c_X7_discrepancies_x (l : Launch) (hst : l.stackTraces = false) (G : CG) {x bu bk pa : Nat} {bl es pn : Int32} {A : Nat → Prop} {d : Nat → Int32} {nc np nh : Nat} (z : Int32) (hin9 : inV z 0 (nI np - 1) = 0) (hp0 : np ≤ 24) : Tr l yX7_discrepancies cX7_discrepancies 2 ((Option.some FieldType.int)) 7 112 G [.ref x, .int z] (DK G A x bu bl es bk pa pn d nc np nh) "java/lang/IndexOutOfBoundsException" := by
  refine Tr.ofW (by decide) (Nat.le_of_ble_eq_true rfl) (fun p e s m below meth c ls E hG hE hP htab hk hl => ?_)
  have hx := E.1
  have hb := E.2.1
  have hl : lv_has ls 2 [(0, .ref x), (1, .int z)] := hl
  obtain ⟨hX, hB⟩ := hP
  obtain ⟨ca, ho, fe, cr, pr, cA, pA, k1, k2, k3, k4, k5, k6, k7, k8⟩ := id hB
  refine lv_aload_n hx hb dX7_discrepancies_0 rfl (lv_at hl 0 rfl) ?_
  refine lv_iload_n hx hb dX7_discrepancies_1 rfl (lv_at hl 1 rfl) ?_
  exact Tr.callV (rest := []) (c_X7_presentationAt_x (pA := pA) l hst G z hin9 hp0) yk_X7_presentationAt E km_X7_136 dX7_discrepancies_2 hG hE ⟨hX, k1.1, k5.1⟩ (At.recv hG hX rfl) rfl rfl hl.1 ⟨Nat.le_of_ble_eq_true rfl, Nat.le_of_ble_eq_true rfl⟩ ⟨by decide, by decide⟩ (Nat.le_of_ble_eq_true rfl) htab hk

set_option maxHeartbeats 4000000 in
set_option maxRecDepth 100000 in
/-- dueDay -/
theorem c_X7_dueDay_x (l : Launch) (hst : l.stackTraces = false) (G : CG) {x bu bk pa : Nat} {bl es pn : Int32} {A : Nat → Prop} {d : Nat → Int32} {nc np nh : Nat} (z : Int32) (hin9 : inV z 0 (nI np - 1) = 0) (hp0 : np ≤ 24) : Tr l yX7_dueDay cX7_dueDay 2 ((Option.some FieldType.int)) 7 112 G [.ref x, .int z] (DK G A x bu bl es bk pa pn d nc np nh) "java/lang/IndexOutOfBoundsException" := by
  refine Tr.ofW (by decide) (Nat.le_of_ble_eq_true rfl) (fun p e s m below meth c ls E hG hE hP htab hk hl => ?_)
  have hx := E.1
  have hb := E.2.1
  have hl : lv_has ls 2 [(0, .ref x), (1, .int z)] := hl
  obtain ⟨hX, hB⟩ := hP
  obtain ⟨ca, ho, fe, cr, pr, cA, pA, k1, k2, k3, k4, k5, k6, k7, k8⟩ := id hB
  refine lv_aload_n hx hb dX7_dueDay_0 rfl (lv_at hl 0 rfl) ?_
  refine lv_iload_n hx hb dX7_dueDay_1 rfl (lv_at hl 1 rfl) ?_
  exact Tr.callV (rest := []) (c_X7_presentationAt_x (pA := pA) l hst G z hin9 hp0) yk_X7_presentationAt E km_X7_136 dX7_dueDay_2 hG hE ⟨hX, k1.1, k5.1⟩ (At.recv hG hX rfl) rfl rfl hl.1 ⟨Nat.le_of_ble_eq_true rfl, Nat.le_of_ble_eq_true rfl⟩ ⟨by decide, by decide⟩ (Nat.le_of_ble_eq_true rfl) htab hk

set_option maxHeartbeats 4000000 in
set_option maxRecDepth 100000 in
/-- deadline -/
theorem c_X7_deadline_x (l : Launch) (hst : l.stackTraces = false) (G : CG) {x bu bk pa : Nat} {bl es pn : Int32} {A : Nat → Prop} {d : Nat → Int32} {nc np nh : Nat} (z : Int32) (hin9 : inV z 0 (nI np - 1) = 0) (hp0 : np ≤ 24) : Tr l yX7_deadline cX7_deadline 2 ((Option.some FieldType.int)) 7 112 G [.ref x, .int z] (DK G A x bu bl es bk pa pn d nc np nh) "java/lang/IndexOutOfBoundsException" := by
  refine Tr.ofW (by decide) (Nat.le_of_ble_eq_true rfl) (fun p e s m below meth c ls E hG hE hP htab hk hl => ?_)
  have hx := E.1
  have hb := E.2.1
  have hl : lv_has ls 2 [(0, .ref x), (1, .int z)] := hl
  obtain ⟨hX, hB⟩ := hP
  obtain ⟨ca, ho, fe, cr, pr, cA, pA, k1, k2, k3, k4, k5, k6, k7, k8⟩ := id hB
  refine lv_aload_n hx hb dX7_deadline_0 rfl (lv_at hl 0 rfl) ?_
  refine lv_aload_n hx hb dX7_deadline_1 rfl (lv_at hl 0 rfl) ?_
  refine lv_iload_n hx hb dX7_deadline_2 rfl (lv_at hl 1 rfl) ?_
  exact Tr.callV (rest := [.ref x]) (c_X7_presentationAt_x (pA := pA) l hst G z hin9 hp0) yk_X7_presentationAt E km_X7_136 dX7_deadline_3 hG hE ⟨hX, k1.1, k5.1⟩ (At.recv hG hX rfl) rfl rfl hl.1 ⟨Nat.le_of_ble_eq_true rfl, Nat.le_of_ble_eq_true rfl⟩ ⟨by decide, by decide⟩ (Nat.le_of_ble_eq_true rfl) htab hk

set_option maxHeartbeats 4000000 in
set_option maxRecDepth 100000 in
/-- fee -/
theorem c_X7_fee_x (l : Launch) (hst : l.stackTraces = false) (G : CG) {x bu bk pa : Nat} {bl es pn : Int32} {A : Nat → Prop} {d : Nat → Int32} {nc np nh : Nat} (z : Int32) (hin9 : inV z 0 (nI np - 1) = 0) (hp0 : np ≤ 24) : Tr l yX7_fee cX7_fee 3 ((Option.some FieldType.int)) 7 112 G [.ref x, .int z] (DK G A x bu bl es bk pa pn d nc np nh) "java/lang/IndexOutOfBoundsException" := by
  refine Tr.ofW (by decide) (Nat.le_of_ble_eq_true rfl) (fun p e s m below meth c ls E hG hE hP htab hk hl => ?_)
  have hx := E.1
  have hb := E.2.1
  have hl : lv_has ls 3 [(0, .ref x), (1, .int z)] := hl
  obtain ⟨hX, hB⟩ := hP
  obtain ⟨ca, ho, fe, cr, pr, cA, pA, k1, k2, k3, k4, k5, k6, k7, k8⟩ := id hB
  refine lv_aload_n hx hb dX7_fee_0 rfl (lv_at hl 0 rfl) ?_
  refine lv_iload_n hx hb dX7_fee_1 rfl (lv_at hl 1 rfl) ?_
  exact Tr.callV (rest := []) (c_X7_presentationAt_x (pA := pA) l hst G z hin9 hp0) yk_X7_presentationAt E km_X7_136 dX7_fee_2 hG hE ⟨hX, k1.1, k5.1⟩ (At.recv hG hX rfl) rfl rfl hl.1 ⟨Nat.le_of_ble_eq_true rfl, Nat.le_of_ble_eq_true rfl⟩ ⟨by decide, by decide⟩ (Nat.le_of_ble_eq_true rfl) htab hk

set_option maxHeartbeats 4000000 in
set_option maxRecDepth 100000 in
/-- check -/
theorem c_X7_check (l : Launch) (G : CG) {x bu bk pa : Nat} {bl es pn : Int32} {A : Nat → Prop} {d : Nat → Int32} {nc np nh : Nat} (z : Int32) (k : Nat) (ez : z = nI k) (hk9 : k < nc) (hc0 : nc ≤ 12) (hp0 : np ≤ 24) (hh : nh ≤ 16) (y am dc ins : Int32) (n ex1 pe1 : Nat) (ey : y = nI n) (hn : n ≤ 9999) (hw9 : isWrongV y am dc ins = 0) (nd : Nat) (hnd : d (cP k + 9) = nI nd) (hnd2 : nd < 256) (hx9 : d (cP k + 3) = nI ex1) (hx8 : ex1 < 1000) (hx7 : d (cP k + 5) = nI pe1) (hx6 : pe1 < 1000) : Rd l yX7_check cX7_check 7 ((Option.some FieldType.int)) 8 135 G [.ref x, .int z, .int y, .int am, .int dc, .int ins] (DK G A x bu bl es bk pa pn d nc np nh) (some (.int (faultsV d np nc nh ex1 pe1 k n am dc ins))) := by
  refine Rd.ofW (by decide) (Nat.le_of_ble_eq_true rfl) (fun p e s m below meth c ls E hG hE hP hr hk hl => ?_)
  have hx := E.1
  have hb := E.2.1
  have hl : lv_has ls 7 [(0, .ref x), (1, .int z), (2, .int y), (3, .int am), (4, .int dc), (5, .int ins)] := hl
  obtain ⟨hX, hB⟩ := hP
  obtain ⟨ca, ho, fe, cr, pr, cA, pA, k1, k2, k3, k4, k5, k6, k7, k8⟩ := id hB
  refine lv_aload_n hx hb dX7_check_0 rfl (lv_at hl 0 rfl) ?_
  refine lv_iload_n hx hb dX7_check_1 rfl (lv_at hl 1 rfl) ?_
  refine Rd.callV (rest := []) (c_X7_creditAt (cA := cA) l G z k ez (by omega) hc0) yk_X7_creditAt E km_X7_107 dX7_check_2 hG hE ⟨hX, k1.1, k4.1⟩ (At.recv hG hX rfl) rfl rfl hl.1 ⟨Nat.le_of_ble_eq_true rfl, Nat.le_of_ble_eq_true rfl⟩ ⟨Nat.zero_le _, Nat.zero_le _⟩ (Nat.le_of_ble_eq_true rfl) ?_
  refine lv_astore (lv' := [(6, .ref (cA k)), (0, .ref x), (1, .int z), (2, .int y), (3, .int am), (4, .int dc), (5, .int ins)]) hx hb dX7_check_5 hl (by decide) rfl (fun ls hl => ?_)
  refine lv_iload_n hx hb dX7_check_7 rfl (lv_at hl 3 rfl) ?_
  refine lv_iload_n hx hb dX7_check_8 rfl (lv_at hl 4 rfl) ?_
  refine lv_iload hx hb dX7_check_9 (lv_at hl 5 rfl) ?_
  refine lv_iload hx hb dX7_check_11 (lv_at hl 6 rfl) ?_
  refine Rd.callS (rest := []) (c_X7_needPresentable l G y am dc ins hw9) yk_X7_needPresentable E km_X7_179 dX7_check_13 hG hE trivial rfl rfl hl.1 ⟨Nat.le_of_ble_eq_true rfl, Nat.le_of_ble_eq_true rfl⟩ ⟨Nat.zero_le _, Nat.zero_le _⟩ (Nat.le_of_ble_eq_true rfl) ?_
  refine lv_aload_n hx hb dX7_check_16 rfl (lv_at hl 1 rfl) ?_
  refine lv_aload hx hb dX7_check_17 (lv_at hl 0 rfl) ?_
  refine lv_iload_n hx hb dX7_check_19 rfl (lv_at hl 3 rfl) ?_
  refine lv_iload_n hx hb dX7_check_20 rfl (lv_at hl 4 rfl) ?_
  refine lv_iload hx hb dX7_check_21 (lv_at hl 5 rfl) ?_
  refine lv_iload hx hb dX7_check_23 (lv_at hl 6 rfl) ?_
  refine Rd.callV (rest := []) (c_X7_discrepanciesToday l G y am dc ins n ex1 pe1 nd ey (by omega) hh hp0 hc0 hnd hnd2 hx9 hx8 hx7 hx6) yk_X7_discrepanciesToday E km_X7_183 dX7_check_25 hG hE ⟨⟨hX, hB⟩, (k6 k (by omega)).1⟩ (At.recv hG hX rfl) rfl rfl hl.1 ⟨Nat.le_of_ble_eq_true rfl, Nat.le_of_ble_eq_true rfl⟩ ⟨Nat.zero_le _, Nat.zero_le _⟩ (Nat.le_of_ble_eq_true rfl) ?_
  exact rd_int E hr hk (rfl) dX7_check_28

set_option maxHeartbeats 4000000 in
set_option maxRecDepth 100000 in
/-- check -/
theorem c_X7_check_x (l : Launch) (hst : l.stackTraces = false) (G : CG) {x bu bk pa : Nat} {bl es pn : Int32} {A : Nat → Prop} {d : Nat → Int32} {nc np nh : Nat} (z : Int32) (hin9 : inV z 0 (nI nc - 1) = 0) (hc0 : nc ≤ 12) (y am dc ins : Int32) : Tr l yX7_check cX7_check 7 ((Option.some FieldType.int)) 7 112 G [.ref x, .int z, .int y, .int am, .int dc, .int ins] (DK G A x bu bl es bk pa pn d nc np nh) "java/lang/IndexOutOfBoundsException" := by
  refine Tr.ofW (by decide) (Nat.le_of_ble_eq_true rfl) (fun p e s m below meth c ls E hG hE hP htab hk hl => ?_)
  have hx := E.1
  have hb := E.2.1
  have hl : lv_has ls 7 [(0, .ref x), (1, .int z), (2, .int y), (3, .int am), (4, .int dc), (5, .int ins)] := hl
  obtain ⟨hX, hB⟩ := hP
  obtain ⟨ca, ho, fe, cr, pr, cA, pA, k1, k2, k3, k4, k5, k6, k7, k8⟩ := id hB
  refine lv_aload_n hx hb dX7_check_0 rfl (lv_at hl 0 rfl) ?_
  refine lv_iload_n hx hb dX7_check_1 rfl (lv_at hl 1 rfl) ?_
  exact Tr.callV (rest := []) (c_X7_creditAt_x (cA := cA) l hst G z hin9 hc0) yk_X7_creditAt E km_X7_107 dX7_check_2 hG hE ⟨hX, k1.1, k4.1⟩ (At.recv hG hX rfl) rfl rfl hl.1 ⟨Nat.le_of_ble_eq_true rfl, Nat.le_of_ble_eq_true rfl⟩ ⟨by decide, by decide⟩ (Nat.le_of_ble_eq_true rfl) htab hk

set_option maxHeartbeats 4000000 in
set_option maxRecDepth 100000 in
/-- check -/
theorem c_X7_check_y (l : Launch) (hst : l.stackTraces = false) (G : CG) {x bu bk pa : Nat} {bl es pn : Int32} {A : Nat → Prop} {d : Nat → Int32} {nc np nh : Nat} (z : Int32) (k : Nat) (ez : z = nI k) (hk9 : k < nc) (hc0 : nc ≤ 12) (y am dc ins : Int32) (hw9 : isWrongV y am dc ins = 1) : Tr l yX7_check cX7_check 7 ((Option.some FieldType.int)) 8 135 G [.ref x, .int z, .int y, .int am, .int dc, .int ins] (DK G A x bu bl es bk pa pn d nc np nh) "java/lang/IllegalArgumentException" := by
  refine Tr.ofW (by decide) (Nat.le_of_ble_eq_true rfl) (fun p e s m below meth c ls E hG hE hP htab hk hl => ?_)
  have hx := E.1
  have hb := E.2.1
  have hl : lv_has ls 7 [(0, .ref x), (1, .int z), (2, .int y), (3, .int am), (4, .int dc), (5, .int ins)] := hl
  obtain ⟨hX, hB⟩ := hP
  obtain ⟨ca, ho, fe, cr, pr, cA, pA, k1, k2, k3, k4, k5, k6, k7, k8⟩ := id hB
  refine lv_aload_n hx hb dX7_check_0 rfl (lv_at hl 0 rfl) ?_
  refine lv_iload_n hx hb dX7_check_1 rfl (lv_at hl 1 rfl) ?_
  refine Rd.callV (rest := []) (c_X7_creditAt (cA := cA) l G z k ez (by omega) hc0) yk_X7_creditAt E km_X7_107 dX7_check_2 hG hE ⟨hX, k1.1, k4.1⟩ (At.recv hG hX rfl) rfl rfl hl.1 ⟨Nat.le_of_ble_eq_true rfl, Nat.le_of_ble_eq_true rfl⟩ ⟨Nat.zero_le _, Nat.zero_le _⟩ (Nat.le_of_ble_eq_true rfl) ?_
  refine lv_astore (lv' := [(6, .ref (cA k)), (0, .ref x), (1, .int z), (2, .int y), (3, .int am), (4, .int dc), (5, .int ins)]) hx hb dX7_check_5 hl (by decide) rfl (fun ls hl => ?_)
  refine lv_iload_n hx hb dX7_check_7 rfl (lv_at hl 3 rfl) ?_
  refine lv_iload_n hx hb dX7_check_8 rfl (lv_at hl 4 rfl) ?_
  refine lv_iload hx hb dX7_check_9 (lv_at hl 5 rfl) ?_
  refine lv_iload hx hb dX7_check_11 (lv_at hl 6 rfl) ?_
  exact Tr.callS (rest := []) (c_X7_needPresentable_x l hst G y am dc ins hw9) yk_X7_needPresentable E km_X7_179 dX7_check_13 hG hE trivial rfl rfl hl.1 ⟨Nat.le_of_ble_eq_true rfl, Nat.le_of_ble_eq_true rfl⟩ ⟨by decide, by decide⟩ (Nat.le_of_ble_eq_true rfl) htab hk

set_option maxHeartbeats 4000000 in
set_option maxRecDepth 100000 in
/-- lastDay -/
theorem c_X7_lastDay (l : Launch) (G : CG) {x bu bk pa : Nat} {bl es pn : Int32} {A : Nat → Prop} {d : Nat → Int32} {nc np nh : Nat} (z : Int32) (k : Nat) (ez : z = nI k) (hk9 : k < nc) (hc0 : nc ≤ 12) (hh : nh ≤ 16) (y : Int32) (n ex1 pe1 : Nat) (ey : y = nI n) (hn : n ≤ 9999) (hin8 : inV y 0 9999 = 1) (hx9 : d (cP k + 3) = nI ex1) (hx8 : ex1 < 1000) (hx7 : d (cP k + 5) = nI pe1) (hx6 : pe1 < 1000) : Rd l yX7_lastDay cX7_lastDay 4 ((Option.some FieldType.int)) 7 112 G [.ref x, .int z, .int y] (DK G A x bu bl es bk pa pn d nc np nh) (some (.int (nI (lastV d nh ex1 pe1 n)))) := by
  refine Rd.ofW (by decide) (Nat.le_of_ble_eq_true rfl) (fun p e s m below meth c ls E hG hE hP hr hk hl => ?_)
  have hx := E.1
  have hb := E.2.1
  have hl : lv_has ls 4 [(0, .ref x), (1, .int z), (2, .int y)] := hl
  obtain ⟨hX, hB⟩ := hP
  obtain ⟨ca, ho, fe, cr, pr, cA, pA, k1, k2, k3, k4, k5, k6, k7, k8⟩ := id hB
  refine lv_aload_n hx hb dX7_lastDay_0 rfl (lv_at hl 0 rfl) ?_
  refine lv_iload_n hx hb dX7_lastDay_1 rfl (lv_at hl 1 rfl) ?_
  refine Rd.callV (rest := []) (c_X7_creditAt (cA := cA) l G z k ez (by omega) hc0) yk_X7_creditAt E km_X7_107 dX7_lastDay_2 hG hE ⟨hX, k1.1, k4.1⟩ (At.recv hG hX rfl) rfl rfl hl.1 ⟨Nat.le_of_ble_eq_true rfl, Nat.le_of_ble_eq_true rfl⟩ ⟨Nat.zero_le _, Nat.zero_le _⟩ (Nat.le_of_ble_eq_true rfl) ?_
  refine lv_astore_n (lv' := [(3, .ref (cA k)), (0, .ref x), (1, .int z), (2, .int y)]) hx hb dX7_lastDay_5 rfl hl (by decide) rfl (fun ls hl => ?_)
  refine lv_iload_n hx hb dX7_lastDay_6 rfl (lv_at hl 3 rfl) ?_
  refine lv_iconst (v := 0) hx hb dX7_lastDay_7 rfl ?_
  refine lv_sipush (v := 9999) hx hb dX7_lastDay_8 rfl ?_
  refine Rd.callS (rest := []) (c_X7_needRange l G y 0 9999 hin8) yk_X7_needRange E km_X7_82 dX7_lastDay_11 hG hE trivial rfl rfl hl.1 ⟨Nat.le_of_ble_eq_true rfl, Nat.le_of_ble_eq_true rfl⟩ ⟨Nat.zero_le _, Nat.zero_le _⟩ (Nat.le_of_ble_eq_true rfl) ?_
  refine lv_aload_n hx hb dX7_lastDay_14 rfl (lv_at hl 1 rfl) ?_
  refine lv_aload_n hx hb dX7_lastDay_15 rfl (lv_at hl 0 rfl) ?_
  refine lv_iload_n hx hb dX7_lastDay_16 rfl (lv_at hl 3 rfl) ?_
  refine Rd.callV (rest := []) (c_X7_lastDayFor l G y n ex1 pe1 ey (by omega) hh hx9 hx8 hx7 hx6) yk_X7_lastDayFor E km_X7_187 dX7_lastDay_17 hG hE ⟨⟨hX, hB⟩, (k6 k (by omega)).1⟩ (At.recv hG hX rfl) rfl rfl hl.1 ⟨Nat.le_of_ble_eq_true rfl, Nat.le_of_ble_eq_true rfl⟩ ⟨Nat.zero_le _, Nat.zero_le _⟩ (Nat.le_of_ble_eq_true rfl) ?_
  exact rd_int E hr hk (rfl) dX7_lastDay_20

set_option maxHeartbeats 4000000 in
set_option maxRecDepth 100000 in
/-- lastDay -/
theorem c_X7_lastDay_x (l : Launch) (hst : l.stackTraces = false) (G : CG) {x bu bk pa : Nat} {bl es pn : Int32} {A : Nat → Prop} {d : Nat → Int32} {nc np nh : Nat} (z : Int32) (hin9 : inV z 0 (nI nc - 1) = 0) (hc0 : nc ≤ 12) (y : Int32) : Tr l yX7_lastDay cX7_lastDay 4 ((Option.some FieldType.int)) 7 112 G [.ref x, .int z, .int y] (DK G A x bu bl es bk pa pn d nc np nh) "java/lang/IndexOutOfBoundsException" := by
  refine Tr.ofW (by decide) (Nat.le_of_ble_eq_true rfl) (fun p e s m below meth c ls E hG hE hP htab hk hl => ?_)
  have hx := E.1
  have hb := E.2.1
  have hl : lv_has ls 4 [(0, .ref x), (1, .int z), (2, .int y)] := hl
  obtain ⟨hX, hB⟩ := hP
  obtain ⟨ca, ho, fe, cr, pr, cA, pA, k1, k2, k3, k4, k5, k6, k7, k8⟩ := id hB
  refine lv_aload_n hx hb dX7_lastDay_0 rfl (lv_at hl 0 rfl) ?_
  refine lv_iload_n hx hb dX7_lastDay_1 rfl (lv_at hl 1 rfl) ?_
  exact Tr.callV (rest := []) (c_X7_creditAt_x (cA := cA) l hst G z hin9 hc0) yk_X7_creditAt E km_X7_107 dX7_lastDay_2 hG hE ⟨hX, k1.1, k4.1⟩ (At.recv hG hX rfl) rfl rfl hl.1 ⟨Nat.le_of_ble_eq_true rfl, Nat.le_of_ble_eq_true rfl⟩ ⟨by decide, by decide⟩ (Nat.le_of_ble_eq_true rfl) htab hk

set_option maxHeartbeats 4000000 in
set_option maxRecDepth 100000 in
/-- lastDay -/
theorem c_X7_lastDay_y (l : Launch) (hst : l.stackTraces = false) (G : CG) {x bu bk pa : Nat} {bl es pn : Int32} {A : Nat → Prop} {d : Nat → Int32} {nc np nh : Nat} (z : Int32) (k : Nat) (ez : z = nI k) (hk9 : k < nc) (hc0 : nc ≤ 12) (y : Int32) (hin8 : inV y 0 9999 = 0) : Tr l yX7_lastDay cX7_lastDay 4 ((Option.some FieldType.int)) 7 112 G [.ref x, .int z, .int y] (DK G A x bu bl es bk pa pn d nc np nh) "java/lang/IllegalArgumentException" := by
  refine Tr.ofW (by decide) (Nat.le_of_ble_eq_true rfl) (fun p e s m below meth c ls E hG hE hP htab hk hl => ?_)
  have hx := E.1
  have hb := E.2.1
  have hl : lv_has ls 4 [(0, .ref x), (1, .int z), (2, .int y)] := hl
  obtain ⟨hX, hB⟩ := hP
  obtain ⟨ca, ho, fe, cr, pr, cA, pA, k1, k2, k3, k4, k5, k6, k7, k8⟩ := id hB
  refine lv_aload_n hx hb dX7_lastDay_0 rfl (lv_at hl 0 rfl) ?_
  refine lv_iload_n hx hb dX7_lastDay_1 rfl (lv_at hl 1 rfl) ?_
  refine Rd.callV (rest := []) (c_X7_creditAt (cA := cA) l G z k ez (by omega) hc0) yk_X7_creditAt E km_X7_107 dX7_lastDay_2 hG hE ⟨hX, k1.1, k4.1⟩ (At.recv hG hX rfl) rfl rfl hl.1 ⟨Nat.le_of_ble_eq_true rfl, Nat.le_of_ble_eq_true rfl⟩ ⟨Nat.zero_le _, Nat.zero_le _⟩ (Nat.le_of_ble_eq_true rfl) ?_
  refine lv_astore_n (lv' := [(3, .ref (cA k)), (0, .ref x), (1, .int z), (2, .int y)]) hx hb dX7_lastDay_5 rfl hl (by decide) rfl (fun ls hl => ?_)
  refine lv_iload_n hx hb dX7_lastDay_6 rfl (lv_at hl 3 rfl) ?_
  refine lv_iconst (v := 0) hx hb dX7_lastDay_7 rfl ?_
  refine lv_sipush (v := 9999) hx hb dX7_lastDay_8 rfl ?_
  exact Tr.callS (rest := []) (c_X7_needRange_x l hst G y 0 9999 hin8) yk_X7_needRange E km_X7_82 dX7_lastDay_11 hG hE trivial rfl rfl hl.1 ⟨Nat.le_of_ble_eq_true rfl, Nat.le_of_ble_eq_true rfl⟩ ⟨by decide, by decide⟩ (Nat.le_of_ble_eq_true rfl) htab hk

set_option maxHeartbeats 4000000 in
set_option maxRecDepth 100000 in
/-- bestFit -/
theorem c_X7_bestFit_x (l : Launch) (hst : l.stackTraces = false) (G : CG) {x bu bk pa : Nat} {bl es pn : Int32} {A : Nat → Prop} {d : Nat → Int32} {nc np nh : Nat} (z : Int32) (hin9 : inV z 0 (nI nc - 1) = 0) (hc0 : nc ≤ 12) : Tr l yX7_bestFit cX7_bestFit 6 ((Option.some FieldType.int)) 7 112 G [.ref x, .int z] (DK G A x bu bl es bk pa pn d nc np nh) "java/lang/IndexOutOfBoundsException" := by
  refine Tr.ofW (by decide) (Nat.le_of_ble_eq_true rfl) (fun p e s m below meth c ls E hG hE hP htab hk hl => ?_)
  have hx := E.1
  have hb := E.2.1
  have hl : lv_has ls 6 [(0, .ref x), (1, .int z)] := hl
  obtain ⟨hX, hB⟩ := hP
  obtain ⟨ca, ho, fe, cr, pr, cA, pA, k1, k2, k3, k4, k5, k6, k7, k8⟩ := id hB
  refine lv_aload_n hx hb dX7_bestFit_0 rfl (lv_at hl 0 rfl) ?_
  refine lv_iload_n hx hb dX7_bestFit_1 rfl (lv_at hl 1 rfl) ?_
  exact Tr.callV (rest := []) (c_X7_creditAt_x (cA := cA) l hst G z hin9 hc0) yk_X7_creditAt E km_X7_107 dX7_bestFit_2 hG hE ⟨hX, k1.1, k4.1⟩ (At.recv hG hX rfl) rfl rfl hl.1 ⟨Nat.le_of_ble_eq_true rfl, Nat.le_of_ble_eq_true rfl⟩ ⟨by decide, by decide⟩ (Nat.le_of_ble_eq_true rfl) htab hk

set_option maxHeartbeats 4000000 in
set_option maxRecDepth 100000 in
/-- present -/
theorem c_X7_present_x (l : Launch) (hst : l.stackTraces = false) (G : CG) {x bu bk pa : Nat} {bl es pn : Int32} {A : Nat → Prop} {d : Nat → Int32} {nc np nh : Nat} (z : Int32) (hin9 : inV z 0 (nI nc - 1) = 0) (hc0 : nc ≤ 12) (y am dc ins : Int32) : Tr l yX7_present cX7_present 9 ((Option.some FieldType.int)) 7 112 G [.ref x, .int z, .int y, .int am, .int dc, .int ins] (DK G A x bu bl es bk pa pn d nc np nh) "java/lang/IndexOutOfBoundsException" := by
  refine Tr.ofW (by decide) (Nat.le_of_ble_eq_true rfl) (fun p e s m below meth c ls E hG hE hP htab hk hl => ?_)
  have hx := E.1
  have hb := E.2.1
  have hl : lv_has ls 9 [(0, .ref x), (1, .int z), (2, .int y), (3, .int am), (4, .int dc), (5, .int ins)] := hl
  obtain ⟨hX, hB⟩ := hP
  obtain ⟨ca, ho, fe, cr, pr, cA, pA, k1, k2, k3, k4, k5, k6, k7, k8⟩ := id hB
  refine lv_aload_n hx hb dX7_present_0 rfl (lv_at hl 0 rfl) ?_
  refine lv_iload_n hx hb dX7_present_1 rfl (lv_at hl 1 rfl) ?_
  exact Tr.callV (rest := []) (c_X7_creditAt_x (cA := cA) l hst G z hin9 hc0) yk_X7_creditAt E km_X7_107 dX7_present_2 hG hE ⟨hX, k1.1, k4.1⟩ (At.recv hG hX rfl) rfl rfl hl.1 ⟨Nat.le_of_ble_eq_true rfl, Nat.le_of_ble_eq_true rfl⟩ ⟨by decide, by decide⟩ (Nat.le_of_ble_eq_true rfl) htab hk

set_option maxHeartbeats 4000000 in
set_option maxRecDepth 100000 in
/-- present -/
theorem c_X7_present_y (l : Launch) (hst : l.stackTraces = false) (G : CG) {x bu bk pa : Nat} {bl es pn : Int32} {A : Nat → Prop} {d : Nat → Int32} {nc np nh : Nat} (z : Int32) (k : Nat) (ez : z = nI k) (hk9 : k < nc) (hc0 : nc ≤ 12) (y am dc ins : Int32) (hw9 : isWrongV y am dc ins = 1) : Tr l yX7_present cX7_present 9 ((Option.some FieldType.int)) 8 135 G [.ref x, .int z, .int y, .int am, .int dc, .int ins] (DK G A x bu bl es bk pa pn d nc np nh) "java/lang/IllegalArgumentException" := by
  refine Tr.ofW (by decide) (Nat.le_of_ble_eq_true rfl) (fun p e s m below meth c ls E hG hE hP htab hk hl => ?_)
  have hx := E.1
  have hb := E.2.1
  have hl : lv_has ls 9 [(0, .ref x), (1, .int z), (2, .int y), (3, .int am), (4, .int dc), (5, .int ins)] := hl
  obtain ⟨hX, hB⟩ := hP
  obtain ⟨ca, ho, fe, cr, pr, cA, pA, k1, k2, k3, k4, k5, k6, k7, k8⟩ := id hB
  refine lv_aload_n hx hb dX7_present_0 rfl (lv_at hl 0 rfl) ?_
  refine lv_iload_n hx hb dX7_present_1 rfl (lv_at hl 1 rfl) ?_
  refine Rd.callV (rest := []) (c_X7_creditAt (cA := cA) l G z k ez (by omega) hc0) yk_X7_creditAt E km_X7_107 dX7_present_2 hG hE ⟨hX, k1.1, k4.1⟩ (At.recv hG hX rfl) rfl rfl hl.1 ⟨Nat.le_of_ble_eq_true rfl, Nat.le_of_ble_eq_true rfl⟩ ⟨Nat.zero_le _, Nat.zero_le _⟩ (Nat.le_of_ble_eq_true rfl) ?_
  refine lv_astore (lv' := [(6, .ref (cA k)), (0, .ref x), (1, .int z), (2, .int y), (3, .int am), (4, .int dc), (5, .int ins)]) hx hb dX7_present_5 hl (by decide) rfl (fun ls hl => ?_)
  refine lv_iload_n hx hb dX7_present_7 rfl (lv_at hl 3 rfl) ?_
  refine lv_iload_n hx hb dX7_present_8 rfl (lv_at hl 4 rfl) ?_
  refine lv_iload hx hb dX7_present_9 (lv_at hl 5 rfl) ?_
  refine lv_iload hx hb dX7_present_11 (lv_at hl 6 rfl) ?_
  exact Tr.callS (rest := []) (c_X7_needPresentable_x l hst G y am dc ins hw9) yk_X7_needPresentable E km_X7_179 dX7_present_13 hG hE trivial rfl rfl hl.1 ⟨Nat.le_of_ble_eq_true rfl, Nat.le_of_ble_eq_true rfl⟩ ⟨by decide, by decide⟩ (Nat.le_of_ble_eq_true rfl) htab hk
