/-! BEST FIT: the desk's question -/
def cS (d : Nat → Int32) (c : Int32) : Nat → Nat × (Nat → Int32) × (Nat → Int32)
  | 0 => (0, fun _ => 0, fun _ => 0)
  | k + 1 => if d (pP k) = c ∧ d (pP k + 4) = 3 ∧ (cS d c k).1 < 12 then ((cS d c k).1 + 1, upd (cS d c k).2.1 (cS d c k).1 (nI k), upd (cS d c k).2.2 (cS d c k).1 (d (pP k + 2))) else cS d c k
theorem cS_y {d : Nat → Int32} {c : Int32} {k : Nat} (h1 : d (pP k) = c) (h2 : d (pP k + 4) = 3) (h3 : (cS d c k).1 < 12) : cS d c (k + 1) = ((cS d c k).1 + 1, upd (cS d c k).2.1 (cS d c k).1 (nI k), upd (cS d c k).2.2 (cS d c k).1 (d (pP k + 2))) := if_pos ⟨h1, h2, h3⟩
theorem cS_n {d : Nat → Int32} {c : Int32} {k : Nat} (h : ¬ (d (pP k) = c ∧ d (pP k + 4) = 3 ∧ (cS d c k).1 < 12)) : cS d c (k + 1) = cS d c k := if_neg h
theorem cS_le (d : Nat → Int32) (c : Int32) : ∀ k, (cS d c k).1 ≤ 12
  | 0 => Nat.zero_le _
  | k + 1 => by
    have h := cS_le d c k
    by_cases e : d (pP k) = c ∧ d (pP k + 4) = 3 ∧ (cS d c k).1 < 12
    · rw [cS_y e.1 e.2.1 e.2.2]
      have := e.2.2
      show (cS d c k).1 + 1 ≤ 12
      omega
    · rw [cS_n e]
      exact h
def fitV (d : Nat → Int32) (np nc c : Nat) : Int32 := (bst (availV d np nc c) (cS d (nI c) np).2.1 (cS d (nI c) np).2.2 (cS d (nI c) np).1 0 0 (0, 0)).2
set_option maxHeartbeats 4000000 in
set_option maxRecDepth 100000 in
/-- bestFit -/
theorem c_X7_bestFit (l : Launch) (G : CG) {x bu bk pa : Nat} {bl es pn : Int32} {AO : Nat → Prop} {d : Nat → Int32} {nc np nh : Nat} {sz : Nat} (hz1 : EFA G sz) (z : Int32) (c9 : Nat) (ez : z = nI c9) (hk9 : c9 < nc) (hp0 : np ≤ 24) (hc0 : nc ≤ 12) : Wr l yX7_bestFit cX7_bestFit 6 ((Option.some FieldType.int)) 14 420 3 30 G [.ref x, .int z] (fun H9 => H9.size = sz ∧ DK G AO x bu bl es bk pa pn d nc np nh H9) (fun q9 => sz ≤ q9) (fun v9 H9 => v9 = some (.int (fitV d np nc c9))) := by
  refine Wr.ofW (by decide) (Nat.le_of_ble_eq_true rfl) (fun p e s m below meth c ls E hG hE hP hr hk hin hl => ?_)
  have hS : va_S (fun q9 => sz ≤ q9) s.heap s.heap [] := va_S.rf
  have hx := E.1
  have hb := E.2.1
  have hl : lv_has ls 6 [(0, .ref x), (1, .int z)] := hl
  obtain ⟨hz0, hX, hB⟩ := hP
  obtain ⟨ca, ho, fe, cr, pr, cA, pA, k1, k2, k3, k4, k5, k6, k7, k8⟩ := id hB
  have hEA : ∀ q9, sz ≤ q9 → EFA G q9 := fun q9 h9 => Nat.le_trans hz1 h9
  refine lv_aload_n hx hb dX7_bestFit_0 rfl (lv_at hl 0 rfl) ?_
  refine lv_iload_n hx hb dX7_bestFit_1 rfl (lv_at hl 1 rfl) ?_
  refine Rd.callV (rest := []) (c_X7_creditAt (cA := cA) l G z c9 ez (by omega) hc0) yk_X7_creditAt E km_X7_107 dX7_bestFit_2 hG (hE.S hS hEA) ⟨hX, k1.1, k4.1⟩ (At.recv hG (kn hS hz0 hX) rfl) rfl rfl hl.1 ⟨Nat.le_of_ble_eq_true rfl, Nat.le_of_ble_eq_true rfl⟩ ⟨(show 0 ≤ 3 by omega), (show 0 ≤ 30 by omega)⟩ (Nat.le_of_ble_eq_true rfl) ?_
  refine lv_astore_n (lv' := [(2, .ref (cA c9)), (0, .ref x), (1, .int z)]) hx hb dX7_bestFit_5 rfl hl (by decide) rfl (fun ls hl => ?_)
  refine n_new (ci := 4) (fs := [.int 0, .null, .null, .int 0, .int 0, .int 0]) (ty := tyX4) inX4 tyX4_ok rfl kl_X7_191 kn_X4 kin_X4 df_X4 E hG hS (Nat.le_of_eq hz0.symm) (show 0 + 1 ≤ 3 by omega) (show 0 + 6 ≤ 30 by omega) dX7_bestFit_6 (fun b_1 H hb_1 hg_1 f_1 hz oq hS => ?_)
  refine lv_dup hx hb dX7_bestFit_9 rfl ?_
  refine lv_aload_n hx hb dX7_bestFit_10 rfl (lv_at hl 1 rfl) ?_
  refine gf_X7_26 E hG (kn hS hz0 hX) rfl dX7_bestFit_11 ?_
  refine lv_aload_n hx hb dX7_bestFit_14 rfl (lv_at hl 0 rfl) ?_
  refine Rd.callV (rest := [.ref b_1, .ref b_1]) (c_X0_availableSum (c9 := c9) l G hp0 hc0) yk_X0_availableSum E km_X7_133 dX7_bestFit_15 hG (hE.S hS hEA) ⟨bkn hS hz0 hB, kn hS hz0 (k6 c9 hk9).1⟩ (At.recv hG (kn hS hz0 k1.1) rfl) rfl rfl hl.1 ⟨Nat.le_of_ble_eq_true rfl, Nat.le_of_ble_eq_true rfl⟩ ⟨(show 0 + 1 ≤ 3 by omega), (show 0 + 6 ≤ 30 by omega)⟩ (Nat.le_of_ble_eq_true rfl) ?_
  have hgz : sz ≤ H.size := Nat.le_trans (Nat.le_of_eq hz0.symm) hS.1
  have hlb : b_1 < H.size := va_at.lt f_1
  refine Wr.callI (rest := [.ref b_1]) (c_X4_init l G (Nat.le_trans hz1 hgz) (Nat.le_trans hz1 hg_1) hlb (availV d np nc c9)) yk_X4_init E km_X7_193 dX7_bestFit_18 hG (hE.S hS hEA) ⟨rfl, f_1⟩ rfl rfl hl.1 ⟨Nat.le_of_ble_eq_true rfl, Nat.le_of_ble_eq_true rfl⟩ ⟨(show 0 + 1 + 2 ≤ 3 by omega), (show 0 + 6 + 24 ≤ 30 by omega)⟩ (Nat.le_of_ble_eq_true rfl) hS (fun q9 h9 => h9.elim (fun z9 => by rw [z9]; exact hg_1) (fun z9 => Nat.le_trans hgz z9)) (fun v9 H locs hq hz9 hfr9 hS => ?_)
  obtain ⟨rfl, pp, aa, hgp, hga, ne_pp_aa, f_1, f_pp, f_aa⟩ := hq
  have hgp2 : sz ≤ pp := Nat.le_trans hgz hgp
  have hga2 : sz ≤ aa := Nat.le_trans hgz hga
  have ne_pp_b_1 : pp ≠ b_1 := by omega
  have ne_aa_b_1 : aa ≠ b_1 := by omega
  refine lv_astore_n (lv' := [(3, .ref b_1), (2, .ref (cA c9)), (0, .ref x), (1, .int z)]) hx hb dX7_bestFit_21 rfl hl (by decide) rfl (fun ls hl => ?_)
  refine lv_iconst (v := 0) hx hb dX7_bestFit_22 rfl ?_
  refine lv_ci (y := nI 0) (ixq rfl) ?_
  refine lv_istore (lv' := [(4, .int (nI 0)), (3, .ref b_1), (2, .ref (cA c9)), (0, .ref x), (1, .int z)]) hx hb dX7_bestFit_23 hl (by decide) rfl (fun ls hl => ?_)
  have loop : ∀ (j k : Nat), np < k + j → k ≤ np → ∀ (H : Heap) (locs : List Loc), At G b_1 (.inr (4, [.int (availV d np nc c9), .ref pp, .ref aa, .int (nI ((cS d (nI c9) k).1)), .int 0, .int 0])) H → At G pp (.inl (G.2.1 1, 12, .inl ((cS d (nI c9) k).2.1))) H → At G aa (.inl (G.2.1 1, 12, .inl ((cS d (nI c9) k).2.2))) H → va_S (fun q9 => sz ≤ q9) s.heap H locs → ∀ ls : Array Slot, lv_has ls 6 [(4, .int (nI k)), (3, .ref b_1), (2, .ref (cA c9)), (0, .ref x), (1, .int z)] → W p l e { frames := 14, cells := 3, slots := 30, locals := 420 } s m ([.ref x, .int z] : List Value).toArray below meth c H locs (0 + 1 + 2) (0 + 6 + 24) (WQ below ([.ref x, .int z] : List Value).toArray s 3 30 (fun q9 => sz ≤ q9) (fun v9 H9 => v9 = some (.int (fitV d np nc c9)))) (F0 m 25 ls []) := by
    intro j
    induction j with
    | zero => intro k z1 z2; omega
    | succ j ih =>
      intro k z1 z2 H locs f_1 f_pp f_aa hS ls hl
      have hcn := cS_le d (nI c9) k
      refine lv_iload hx hb dX7_bestFit_25 (lv_at hl 0 rfl) ?_
      refine lv_aload_n hx hb dX7_bestFit_27 rfl (lv_at hl 3 rfl) ?_
      refine gf_X7_26 E hG (kn hS hz0 hX) rfl dX7_bestFit_28 ?_
      refine gf_X7_75 E hG (kn hS hz0 k1.1) rfl dX7_bestFit_31 ?_
      refine g_len (t0 := 5) (v := (nI np)) E hG (kn hS hz0 k5.1) rfl rfl dX7_bestFit_34 ?_
      refine lv_icmp_ge (tgt := 93) hx hb dX7_bestFit_35 (by decide) (fun c_35 => ?_) (fun c_35 => ?_)
      · have c_35 : np ≤ k := (nLE (x := (nI np)) (y := (nI k)) (a := np) (b := k) rfl rfl (by omega) (by omega)).mp c_35
        have e9 : np = k := by omega
        subst e9
        refine lv_aload_n hx hb dX7_bestFit_93 rfl (lv_at hl 1 rfl) ?_
        refine Wr.callV (rest := []) (c_X4_bestSet l G ne_pp_b_1 ne_aa_b_1 (Nat.le_trans hz1 hg_1) (cS d (nI c9) np).1 (cS_le _ _ _) 0 0) yk_X4_bestSet E km_X7_202 dX7_bestFit_94 hG (hE.S hS hEA) ⟨f_1, f_pp, f_aa⟩ (At.recv hG f_1 rfl) rfl rfl hl.1 ⟨Nat.le_of_ble_eq_true rfl, Nat.le_of_ble_eq_true rfl⟩ ⟨(show 0 + 1 + 2 + 0 ≤ 3 by omega), (show 0 + 6 + 24 + 0 ≤ 30 by omega)⟩ (Nat.le_of_ble_eq_true rfl) hS (fun q9 h9 => by rw [h9]; exact hg_1) (fun v9 H locs hq hz9 hfr9 hS => ?_)
        obtain rfl := hq
        exact wr_int E hr hk hS (show 0 + 1 + 2 + 0 ≤ 3 by omega) (show 0 + 6 + 24 + 0 ≤ 30 by omega) (rfl) dX7_bestFit_97
      · have c_35 : ¬ np ≤ k := fun z9 => c_35 ((nLE (x := (nI np)) (y := (nI k)) (a := np) (b := k) rfl rfl (by omega) (by omega)).mpr z9)
        refine lv_aload_n hx hb dX7_bestFit_38 rfl (lv_at hl 3 rfl) ?_
        refine gf_X7_26 E hG (kn hS hz0 hX) rfl dX7_bestFit_39 ?_
        refine gf_X7_75 E hG (kn hS hz0 k1.1) rfl dX7_bestFit_42 ?_
        refine lv_iload hx hb dX7_bestFit_45 (lv_at hl 0 rfl) ?_
        refine g_aldS (t0 := 5) k rfl E hG (kn hS hz0 k5.1) rfl (by omega) (by omega) dX7_bestFit_47 ?_
        refine lv_astore (lv' := [(5, .ref (pA k)), (4, .int (nI k)), (3, .ref b_1), (2, .ref (cA c9)), (0, .ref x), (1, .int z)]) hx hb dX7_bestFit_48 hl (by decide) rfl (fun ls hl => ?_)
        refine lv_aload hx hb dX7_bestFit_50 (lv_at hl 0 rfl) ?_
        refine lv_ifnull hx hb dX7_bestFit_52 ?_
        refine lv_aload hx hb dX7_bestFit_55 (lv_at hl 0 rfl) ?_
        refine gf_X7_140 E hG (kn hS hz0 (k7 k (by omega)).1) rfl dX7_bestFit_57 ?_
        refine lv_aload_n hx hb dX7_bestFit_60 rfl (lv_at hl 3 rfl) ?_
        refine gf_X7_195 E hG (kn hS hz0 (k6 c9 hk9).1) rfl dX7_bestFit_61 ?_
        refine lv_icmp_ne (tgt := 87) hx hb dX7_bestFit_64 (by decide) (fun c_64 => ?_) (fun c_64 => ?_)
        · refine lv_iinc (v := (nI (k + 1))) (lv' := [(4, .int (nI (k + 1))), (5, .ref (pA k)), (3, .ref b_1), (2, .ref (cA c9)), (0, .ref x), (1, .int z)]) hx hb dX7_bestFit_87 hl (k := 1) rfl (nI_ad rfl rfl) (by decide) rfl (fun ls hl => ?_)
          refine lv_goto (tgt := 25) hx hb dX7_bestFit_90 (by decide) ?_
          have e8 := cS_n (d := d) (c := nI c9) (k := k) (fun z9 => c_64 z9.1)
          exact ih (k + 1) (by omega) (by omega) H locs (by rw [e8]; exact f_1) (by rw [e8]; exact f_pp) (by rw [e8]; exact f_aa) hS ls (lv_sub hl [0, 2, 3, 4, 5] rfl)
        · refine lv_aload hx hb dX7_bestFit_67 (lv_at hl 0 rfl) ?_
          refine gf_X7_145 E hG (kn hS hz0 (k7 k (by omega)).1) rfl dX7_bestFit_69 ?_
          refine lv_iconst (v := 3) hx hb dX7_bestFit_72 rfl ?_
          refine lv_icmp_ne (tgt := 87) hx hb dX7_bestFit_73 (by decide) (fun c_73 => ?_) (fun c_73 => ?_)
          · refine lv_iinc (v := (nI (k + 1))) (lv' := [(4, .int (nI (k + 1))), (5, .ref (pA k)), (3, .ref b_1), (2, .ref (cA c9)), (0, .ref x), (1, .int z)]) hx hb dX7_bestFit_87 hl (k := 1) rfl (nI_ad rfl rfl) (by decide) rfl (fun ls hl => ?_)
            refine lv_goto (tgt := 25) hx hb dX7_bestFit_90 (by decide) ?_
            have e8 := cS_n (d := d) (c := nI c9) (k := k) (fun z9 => c_73 z9.2.1)
            exact ih (k + 1) (by omega) (by omega) H locs (by rw [e8]; exact f_1) (by rw [e8]; exact f_pp) (by rw [e8]; exact f_aa) hS ls (lv_sub hl [0, 2, 3, 4, 5] rfl)
          · refine lv_aload_n hx hb dX7_bestFit_76 rfl (lv_at hl 2 rfl) ?_
            refine lv_iload hx hb dX7_bestFit_77 (lv_at hl 1 rfl) ?_
            refine lv_aload hx hb dX7_bestFit_79 (lv_at hl 0 rfl) ?_
            refine gf_X7_162 E hG (kn hS hz0 (k7 k (by omega)).1) rfl dX7_bestFit_81 ?_
            by_cases h_9 : (cS d (nI c9) k).1 < 12
            · refine Wr.callV (rest := []) (c_X4_addCandidate l G ne_pp_b_1 ne_aa_b_1 ne_pp_aa (Nat.le_trans hz1 hg_1) (Nat.le_trans hz1 hgp2) (Nat.le_trans hz1 hga2) (cS d (nI c9) k).1 h_9 (nI k) (d (pP k + 2))) yk_X4_addCandidate E km_X7_198 dX7_bestFit_84 hG (hE.S hS hEA) ⟨f_1, f_pp, f_aa⟩ (At.recv hG f_1 rfl) rfl rfl hl.1 ⟨Nat.le_of_ble_eq_true rfl, Nat.le_of_ble_eq_true rfl⟩ ⟨(show 0 + 1 + 2 + 0 ≤ 3 by omega), (show 0 + 6 + 24 + 0 ≤ 30 by omega)⟩ (Nat.le_of_ble_eq_true rfl) hS (fun q9 h9 => by rcases h9 with h9 | h9 | h9 <;> rw [h9] <;> assumption) (fun v9 H locs hq hz9 hfr9 hS => ?_)
              obtain ⟨rfl, f_1, f_pp, f_aa⟩ := hq
              refine lv_iinc (v := (nI (k + 1))) (lv' := [(4, .int (nI (k + 1))), (5, .ref (pA k)), (3, .ref b_1), (2, .ref (cA c9)), (0, .ref x), (1, .int z)]) hx hb dX7_bestFit_87 hl (k := 1) rfl (nI_ad rfl rfl) (by decide) rfl (fun ls hl => ?_)
              refine lv_goto (tgt := 25) hx hb dX7_bestFit_90 (by decide) ?_
              have e8 := cS_y (d := d) (c := nI c9) (k := k) c_64 c_73 h_9
              exact ih (k + 1) (by omega) (by omega) H locs (by rw [e8]; exact f_1) (by rw [e8]; exact f_pp) (by rw [e8]; exact f_aa) hS ls (lv_sub hl [0, 2, 3, 4, 5] rfl)
            · refine Wr.callV (rest := []) (c_X4_addCandidate_f l G ne_pp_b_1 ne_aa_b_1 ne_pp_aa (Nat.le_trans hz1 hg_1) (Nat.le_trans hz1 hgp2) (Nat.le_trans hz1 hga2) (cS d (nI c9) k).1 (by omega) (nI k) (d (pP k + 2))) yk_X4_addCandidate E km_X7_198 dX7_bestFit_84 hG (hE.S hS hEA) ⟨f_1, f_pp, f_aa⟩ (At.recv hG f_1 rfl) rfl rfl hl.1 ⟨Nat.le_of_ble_eq_true rfl, Nat.le_of_ble_eq_true rfl⟩ ⟨(show 0 + 1 + 2 + 0 ≤ 3 by omega), (show 0 + 6 + 24 + 0 ≤ 30 by omega)⟩ (Nat.le_of_ble_eq_true rfl) hS (fun q9 h9 => by rcases h9 with h9 | h9 | h9 <;> rw [h9] <;> assumption) (fun v9 H locs hq hz9 hfr9 hS => ?_)
              obtain ⟨rfl, f_1, f_pp, f_aa⟩ := hq
              refine lv_iinc (v := (nI (k + 1))) (lv' := [(4, .int (nI (k + 1))), (5, .ref (pA k)), (3, .ref b_1), (2, .ref (cA c9)), (0, .ref x), (1, .int z)]) hx hb dX7_bestFit_87 hl (k := 1) rfl (nI_ad rfl rfl) (by decide) rfl (fun ls hl => ?_)
              refine lv_goto (tgt := 25) hx hb dX7_bestFit_90 (by decide) ?_
              have e8 := cS_n (d := d) (c := nI c9) (k := k) (fun z9 => h_9 z9.2.2)
              exact ih (k + 1) (by omega) (by omega) H locs (by rw [e8]; exact f_1) (by rw [e8]; exact f_pp) (by rw [e8]; exact f_aa) hS ls (lv_sub hl [0, 2, 3, 4, 5] rfl)
  exact loop (np + 1) 0 (by omega) (by omega) H _ f_1 f_pp f_aa hS ls (lv_sub hl [0, 1, 2, 3, 4] rfl)
