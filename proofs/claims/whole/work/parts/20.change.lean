/-! THE CLASS: the desk's changes -/
abbrev bA (G : CG) (n : Nat) (f : Nat → Int32) : va_E := .inl (G.2.1 0, n, .inl f)
abbrev qA (G : CG) (f : Nat → Option Nat) : va_E := .inl (G.2.1 3, 8, .inr (.inr (.inr (.inr f))))
abbrev XP (x pa : Nat) : Nat → Prop := fun q9 => q9 = x ∨ q9 = pa
abbrev DW (x bu pa sz : Nat) : Nat → Prop := fun q9 => q9 = x ∨ q9 = bu ∨ q9 = pa ∨ sz ≤ q9
def DD (G : CG) (AO : Nat → Prop) (x bu pa : Nat) : Prop := (AO x ∧ AO bu ∧ AO pa) ∧ (x ≠ bu ∧ x ≠ pa ∧ bu ≠ pa) ∧ EFA G x ∧ EFA G bu ∧ EFA G pa
theorem DD.efa {G : CG} {AO : Nat → Prop} {x bu pa sz : Nat} (h : DD G AO x bu pa) (hz : EFA G sz) : ∀ q, DW x bu pa sz q → EFA G q := by
  intro q hq
  rcases hq with e | e | e | e
  · rw [e]; exact h.2.2.1
  · rw [e]; exact h.2.2.2.1
  · rw [e]; exact h.2.2.2.2
  · exact Nat.le_trans hz e
theorem DD.efx {G : CG} {AO : Nat → Prop} {x bu pa : Nat} (h : DD G AO x bu pa) : ∀ q, XP x pa q → EFA G q := by
  intro q hq
  rcases hq with e | e
  · rw [e]; exact h.2.2.1
  · rw [e]; exact h.2.2.2.2
theorem DD.own {G : CG} {AO : Nat → Prop} {x bu pa sz n : Nat} (h : DD G AO x bu pa) (hz : n = sz) : ∀ q, q < n → DW x bu pa sz q → AO q := by
  intro q h1 hq
  rcases hq with e | e | e | e
  · rw [e]; exact h.1.1
  · rw [e]; exact h.1.2.1
  · rw [e]; exact h.1.2.2
  · omega
theorem DD.ownx {G : CG} {AO : Nat → Prop} {x bu pa n : Nat} (h : DD G AO x bu pa) : ∀ q, q < n → XP x pa q → AO q := by
  intro q _ hq
  rcases hq with e | e
  · rw [e]; exact h.1.1
  · rw [e]; exact h.1.2.2
theorem kq {A AO : Nat → Prop} {H0 H : Heap} {locs : List Loc} (hS : va_S A H0 H locs) (hN : ∀ q, q < H0.size → A q → AO q) : ∀ q : Nat, q < H0.size → ¬ AO q → H[q]? = H0[q]? := fun q h1 h2 => hS.2.1 q h1 (fun z => h2 (hN q h1 z))
theorem kpg {G : CG} {A AO : Nat → Prop} {a : Nat} {x : va_E} {H0 H : Heap} {locs : List Loc} (hS : va_S A H0 H locs) (hN : ∀ q, q < H0.size → A q → AO q) (h : At G a x H0 ∧ ¬ AO a) : At G a x H := va_at.kept h.1 (kq hS hN a (va_at.lt h.1) h.2)
/-- a book of the past -/
def HX (G : CG) (AO : Nat → Prop) (r : Option Nat) (d : Nat → Int32) (H : Heap) : Prop := ∃ b, r = some b ∧ ∃ nc np nh, OkD d nc np nh ∧ BK G AO b d nc np nh H
theorem HX.kept {G : CG} {AO : Nat → Prop} {r : Option Nat} {d : Nat → Int32} {H H1 : Heap} (h : HX G AO r d H) (hq : ∀ q : Nat, q < H.size → ¬ AO q → H1[q]? = H[q]?) : HX G AO r d H1 := by
  obtain ⟨b, e, nc, np, nh, h1, h2⟩ := h
  exact ⟨b, e, nc, np, nh, h1, h2.kept hq⟩
def DS (G : CG) (AO : Nat → Prop) (x bu pa : Nat) (bb : Nat → Int32) (bl : Int32) (es : Int32) (bk : Nat) (d : Nat → Int32) (nc np nh u : Nat) (hi : Nat → Nat → Int32) (H : Heap) : Prop :=
  At G x (.inr (7, dkF bu bl es bk pa (nI u))) H ∧ At G bu (bA G 900 bb) H ∧ (∃ f : Nat → Option Nat, At G pa (qA G f) H ∧ ∀ j, j < u → HX G AO (f j) (hi j) H) ∧ BK G AO bk d nc np nh H
theorem hx_up {G : CG} {AO : Nat → Prop} {f : Nat → Option Nat} {u bk nc np nh : Nat} {hi : Nat → Nat → Int32} {d : Nat → Int32} {H : Heap} (hu : u < 8) (h : ∀ j, j < u → HX G AO (f j) (hi j) H) (hO : OkD d nc np nh) (hB : BK G AO bk d nc np nh H) : ∀ j, j < remU u → HX G AO (va_up f u (some bk) j) (remH hi d u j) H := by
  unfold remU remH
  rw [if_neg (by omega), if_neg (by omega)]
  intro j hj
  unfold va_up
  by_cases e : j = u
  · rw [if_pos e, if_pos e]
    exact ⟨bk, rfl, nc, np, nh, hO, hB⟩
  · rw [if_neg e, if_neg e]
    exact h j (by omega)
theorem hx_sh {G : CG} {AO : Nat → Prop} {f : Nat → Option Nat} {g : Nat → Nat} {bk nc np nh : Nat} {hi : Nat → Nat → Int32} {d : Nat → Int32} {H : Heap} (hg : ∀ j, j < 8 → f j = some (g j)) (h : ∀ j, j < 8 → HX G AO (f j) (hi j) H) (hO : OkD d nc np nh) (hB : BK G AO bk d nc np nh H) : ∀ j, j < remU 8 → HX G AO (va_up (fun j => some (if j < 7 then g (j + 1) else g j)) 7 (some bk) j) (remH hi d 8 j) H := by
  unfold remU remH
  rw [if_pos rfl, if_pos rfl]
  intro j hj
  unfold va_up
  by_cases e : j = 7
  · subst e
    rw [if_pos rfl]
    exact ⟨bk, rfl, nc, np, nh, hO, hB⟩
  · rw [if_neg e]
    show HX G AO (some (if j < 7 then g (j + 1) else g j)) (if j < 7 then hi (j + 1) else d) H
    rw [if_pos (by omega), if_pos (by omega), ← hg (j + 1) (by omega)]
    exact h (j + 1) (by omega)
theorem fo_s {g : Nat → Nat} {k : Nat} : va_up (fun j => some (if j < k then g (j + 1) else g j)) k (some (g (k + 1))) = fun j => some (if j < k + 1 then g (j + 1) else g j) := by
  funext j
  unfold va_up
  by_cases e : j = k
  · subst e
    rw [if_pos rfl, if_pos (by omega)]
  · rw [if_neg e]
    show some (if j < k then g (j + 1) else g j) = _
    by_cases h : j < k
    · rw [if_pos h, if_pos (by omega)]
    · rw [if_neg h, if_neg (by omega)]
set_option maxHeartbeats 4000000 in
set_option maxRecDepth 100000 in
/-- forgetOldest -/
theorem c_X7_forgetOldest (l : Launch) (G : CG) {x bu pa bk : Nat} {AO : Nat → Prop} {bl es pn : Int32} {g : Nat → Nat} (hD : DD G AO x bu pa) : Wr l yX7_forgetOldest cX7_forgetOldest 2 ((Option.none : Option FieldType)) 0 0 0 0 G [.ref x] (fun H9 => At G x (.inr (7, dkF bu bl es bk pa pn)) H9 ∧ At G pa (qA G (fun j => some (g j))) H9 ∧ ∀ j, j < 8 → (∃ vs, At G (g j) (.inr (0, vs)) H9) ∧ ¬ AO (g j)) (XP x pa) (fun v9 H9 => v9 = none ∧ At G x (.inr (7, dkF bu bl es bk pa 7)) H9 ∧ At G pa (qA G (fun j => some (if j < 7 then g (j + 1) else g j))) H9) := by
  refine Wr.ofW (by decide) (Nat.le_of_ble_eq_true rfl) (fun p e s m below meth c ls E hG hE hP hr hk hin hl => ?_)
  have hS : va_S (XP x pa) s.heap s.heap [] := va_S.rf
  have hx := E.1
  have hb := E.2.1
  have hl : lv_has ls 2 [(0, .ref x)] := hl
  obtain ⟨f_x, f_pa, hg⟩ := hP
  obtain ⟨-, ⟨-, ne_x_pa, -⟩, -⟩ := id hD
  have hEA := hD.efx
  have hN : ∀ q9, q9 < s.heap.size → XP x pa q9 → AO q9 := hD.ownx
  have f_pa : At G pa (qA G (fun j => some (if j < 0 then g (j + 1) else g j))) s.heap := At.congrQ f_pa (fun j _ => by rw [if_neg (Nat.not_lt_zero j)])
  refine lv_iconst (v := 1) hx hb dX7_forgetOldest_0 rfl ?_
  refine lv_ci (y := nI 1) (ixq rfl) ?_
  refine lv_istore_n (lv' := [(1, .int (nI 1)), (0, .ref x)]) hx hb dX7_forgetOldest_1 rfl hl (by decide) rfl (fun ls hl => ?_)
  have loop : ∀ (j k : Nat), 7 < k + j → k ≤ 7 → ∀ (H : Heap) (locs : List Loc), At G x (.inr (7, [.ref bu, .int bl, .int es, .ref bk, .ref pa, .int pn])) H → At G pa (.inl (G.2.1 3, 8, .inr (.inr (.inr (.inr (fun j => some (if j < k then g (j + 1) else g j))))))) H → va_S (XP x pa) s.heap H locs → ∀ ls : Array Slot, lv_has ls 2 [(1, .int (nI (k + 1))), (0, .ref x)] → W p l e { frames := 0, cells := 0, slots := 0, locals := 0 } s m ([.ref x] : List Value).toArray below meth c H locs 0 0 (WQ below ([.ref x] : List Value).toArray s 0 0 (XP x pa) (fun v9 H9 => v9 = none ∧ At G x (.inr (7, dkF bu bl es bk pa 7)) H9 ∧ At G pa (qA G (fun j => some (if j < 7 then g (j + 1) else g j))) H9)) (F0 m 2 ls []) := by
    intro j
    induction j with
    | zero => intro k z1 z2; omega
    | succ j ih =>
      intro k z1 z2 H locs f_x f_pa hS ls hl
      refine lv_iload_n hx hb dX7_forgetOldest_2 rfl (lv_at hl 0 rfl) ?_
      refine lv_aload_n hx hb dX7_forgetOldest_3 rfl (lv_at hl 1 rfl) ?_
      refine gf_X7_30 E hG f_x rfl dX7_forgetOldest_4 ?_
      refine g_len (t0 := 3) (v := 8) E hG f_pa rfl rfl dX7_forgetOldest_7 ?_
      refine lv_icmp_ge (tgt := 31) hx hb dX7_forgetOldest_8 (by decide) (fun c_8 => ?_) (fun c_8 => ?_)
      · have c_8 : 8 ≤ k + 1 := (nLE (x := 8) (y := (nI (k + 1))) (a := 8) (b := k + 1) rfl rfl (by omega) (by omega)).mp c_8
        have e9 : 7 = k := by omega
        subst e9
        refine lv_aload_n hx hb dX7_forgetOldest_31 rfl (lv_at hl 1 rfl) ?_
        refine lv_aload_n hx hb dX7_forgetOldest_32 rfl (lv_at hl 1 rfl) ?_
        refine gf_X7_30 E hG f_x rfl dX7_forgetOldest_33 ?_
        refine g_len (t0 := 3) (v := 8) E hG f_pa rfl rfl dX7_forgetOldest_36 ?_
        refine lv_iconst (v := 1) hx hb dX7_forgetOldest_37 rfl ?_
        refine lv_isub hx hb dX7_forgetOldest_38 ?_
        refine pf_X7_34 E hG f_x (Nat.le_of_ble_eq_true rfl) rfl rfl hS (Or.inl rfl) dX7_forgetOldest_39 (fun H locs f_x hz oq hS => ?_)
        have f_pa : At G pa (.inl (G.2.1 3, 8, .inr (.inr (.inr (.inr (fun j => some (if j < 7 then g (j + 1) else g j))))))) H := oth f_pa (Ne.symm ne_x_pa) oq
        have f_x : At G x (.inr (7, [.ref bu, .int bl, .int es, .ref bk, .ref pa, .int (8 - 1)])) H := f_x
        exact wr_void E hr hk hS (show 0 ≤ 0 by omega) (show 0 ≤ 0 by omega) (⟨rfl, f_x, f_pa⟩) dX7_forgetOldest_42
      · have c_8 : ¬ 8 ≤ k + 1 := fun z9 => c_8 ((nLE (x := 8) (y := (nI (k + 1))) (a := 8) (b := k + 1) rfl rfl (by omega) (by omega)).mpr z9)
        refine lv_aload_n hx hb dX7_forgetOldest_11 rfl (lv_at hl 1 rfl) ?_
        refine gf_X7_30 E hG f_x rfl dX7_forgetOldest_12 ?_
        refine lv_iload_n hx hb dX7_forgetOldest_15 rfl (lv_at hl 0 rfl) ?_
        refine lv_iconst (v := 1) hx hb dX7_forgetOldest_16 rfl ?_
        refine lv_isub hx hb dX7_forgetOldest_17 ?_
        refine lv_aload_n hx hb dX7_forgetOldest_18 rfl (lv_at hl 1 rfl) ?_
        refine gf_X7_30 E hG f_x rfl dX7_forgetOldest_19 ?_
        refine lv_iload_n hx hb dX7_forgetOldest_22 rfl (lv_at hl 0 rfl) ?_
        refine g_aldS (t0 := 3) (k + 1) rfl E hG f_pa rfl (by omega) (by omega) dX7_forgetOldest_23 ?_
        refine W.eq (congrArg (fun z9 => F0 m 24 ls (.ref z9 :: [.int ((nI (k + 1)) - 1), .ref pa])) (show (if k + 1 < k then g (k + 1 + 1) else g (k + 1)) = g (k + 1) from if_neg (by omega))) ?_
        obtain ⟨⟨vs9, hv9⟩, hn9⟩ := hg (k + 1) (by omega)
        refine g_ast (t0 := 3) k rfl rfl E hG f_pa (kpg hS hN ⟨hv9, hn9⟩) (nI_pred k) (by omega) (by omega) hS (Or.inr rfl) dX7_forgetOldest_24 (fun H locs f_pa hz oq hS => ?_)
        have f_x : At G x (.inr (7, [.ref bu, .int bl, .int es, .ref bk, .ref pa, .int pn])) H := oth f_x ne_x_pa oq
        have f_pa : At G pa (.inl (G.2.1 3, 8, .inr (.inr (.inr (.inr (va_up (fun j => some (if j < k then g (j + 1) else g j)) k (some (g (k + 1))))))))) H := f_pa
        rw [fo_s] at f_pa
        refine lv_iinc (v := (nI (k + 1 + 1))) (lv' := [(1, .int (nI (k + 1 + 1))), (0, .ref x)]) hx hb dX7_forgetOldest_25 hl (k := 0) rfl (nI_ad rfl rfl) (by decide) rfl (fun ls hl => ?_)
        refine lv_goto (tgt := 2) hx hb dX7_forgetOldest_28 (by decide) ?_
        exact ih (k + 1) (by omega) (by omega) H locs f_x f_pa hS ls (lv_sub hl [0, 1] rfl)
  exact loop 8 0 (by omega) (by omega) s.heap [] f_x f_pa hS ls (lv_sub hl [0, 1] rfl)

set_option maxHeartbeats 4000000 in
set_option maxRecDepth 100000 in
/-- changeTo -/
theorem c_X7_changeTo (l : Launch) (G : CG) {x bu pa bk : Nat} {AO : Nat → Prop} {bb d : Nat → Int32} {bl es : Int32} {nc np nh u : Nat} {hi : Nat → Nat → Int32} (hD : DD G AO x bu pa) {q : Nat} {d9 : Nat → Int32} {nc9 np9 nh9 : Nat} (hu : u ≤ 8) (hO : OkD d nc np nh) : Wr l yX7_changeTo cX7_changeTo 2 ((Option.none : Option FieldType)) 1 21 0 0 G [.ref x, .ref q] (fun H9 => DS G AO x bu pa bb bl es bk d nc np nh u hi H9 ∧ BK G AO q d9 nc9 np9 nh9 H9) (XP x pa) (fun v9 H9 => v9 = none ∧ DS G AO x bu pa bb bl es q d9 nc9 np9 nh9 (remU u) (remH hi d u) H9) := by
  refine Wr.ofW (by decide) (Nat.le_of_ble_eq_true rfl) (fun p e s m below meth c ls E hG hE hP hr hk hin hl => ?_)
  have hS : va_S (XP x pa) s.heap s.heap [] := va_S.rf
  have hx := E.1
  have hb := E.2.1
  have hl : lv_has ls 2 [(0, .ref x), (1, .ref q)] := hl
  obtain ⟨⟨hX, hU, ⟨fq, hQ, hH⟩, hB⟩, hB9⟩ := hP
  obtain ⟨ca, ho, fe, cr, pr, cA, pA, k1, k2, k3, k4, k5, k6, k7, k8⟩ := id hB
  obtain ⟨-, ⟨ne_x_bu, ne_x_pa, ne_bu_pa⟩, -⟩ := id hD
  have f_x := hX
  have f_bu := hU
  have f_pa := hQ
  have hEA := hD.efx
  have hN : ∀ q9, q9 < s.heap.size → XP x pa q9 → AO q9 := hD.ownx
  obtain ⟨g, hg⟩ : ∃ g : Nat → Nat, ∀ j, j < u → fq j = some (g j) := ⟨fun j => (fq j).getD 0, fun j hj => by obtain ⟨b, e, _⟩ := hH j hj; show fq j = some ((fq j).getD 0); rw [e]; rfl⟩
  refine lv_aload_n hx hb dX7_changeTo_0 rfl (lv_at hl 0 rfl) ?_
  refine gf_X7_34 E hG f_x rfl dX7_changeTo_1 ?_
  refine lv_aload_n hx hb dX7_changeTo_4 rfl (lv_at hl 0 rfl) ?_
  refine gf_X7_30 E hG f_x rfl dX7_changeTo_5 ?_
  refine g_len (t0 := 3) (v := 8) E hG f_pa rfl rfl dX7_changeTo_8 ?_
  refine lv_icmp_lt (tgt := 16) hx hb dX7_changeTo_9 (by decide) (fun c_9 => ?_) (fun c_9 => ?_)
  · have c_9 : u < 8 := (nLT (x := (nI u)) (y := 8) (a := u) (b := 8) rfl rfl (by omega) (by omega)).mp c_9
    refine lv_aload_n hx hb dX7_changeTo_16 rfl (lv_at hl 0 rfl) ?_
    refine gf_X7_34 E hG f_x rfl dX7_changeTo_17 ?_
    refine lv_if_lt (tgt := 58) hx hb dX7_changeTo_20 (by decide) (fun c_20 => ?_) (fun c_20 => ?_)
    · exact absurd c_20 (nI_pos (by first | omega | decide))
    · refine lv_aload_n hx hb dX7_changeTo_23 rfl (lv_at hl 0 rfl) ?_
      refine gf_X7_34 E hG f_x rfl dX7_changeTo_24 ?_
      refine lv_aload_n hx hb dX7_changeTo_27 rfl (lv_at hl 0 rfl) ?_
      refine gf_X7_30 E hG f_x rfl dX7_changeTo_28 ?_
      refine g_len (t0 := 3) (v := 8) E hG f_pa rfl rfl dX7_changeTo_31 ?_
      refine lv_icmp_ge (tgt := 58) hx hb dX7_changeTo_32 (by decide) (fun c_32 => ?_) (fun c_32 => ?_)
      · exact (by first | exact absurd c_32 (by decide) | exact absurd ((nLE (x := 8) (y := nI u) (a := 8) (b := u) rfl rfl (by omega) (by omega)).mp c_32) (by omega))
      · refine lv_aload_n hx hb dX7_changeTo_35 rfl (lv_at hl 0 rfl) ?_
        refine gf_X7_30 E hG f_x rfl dX7_changeTo_36 ?_
        refine lv_aload_n hx hb dX7_changeTo_39 rfl (lv_at hl 0 rfl) ?_
        refine gf_X7_34 E hG f_x rfl dX7_changeTo_40 ?_
        refine lv_aload_n hx hb dX7_changeTo_43 rfl (lv_at hl 0 rfl) ?_
        refine gf_X7_26 E hG f_x rfl dX7_changeTo_44 ?_
        refine g_ast (t0 := 3) u rfl rfl E hG f_pa (kpg hS hN k1) rfl (by omega) (by omega) hS (Or.inr rfl) dX7_changeTo_47 (fun H locs f_pa hz oq hS => ?_)
        have f_x : At G x (.inr (7, [.ref bu, .int bl, .int es, .ref bk, .ref pa, .int (nI u)])) H := oth f_x ne_x_pa oq
        have f_bu : At G bu (.inl (G.2.1 0, 900, .inl bb)) H := oth f_bu ne_bu_pa oq
        have f_pa : At G pa (.inl (G.2.1 3, 8, .inr (.inr (.inr (.inr (va_up fq u (some bk))))))) H := f_pa
        refine lv_aload_n hx hb dX7_changeTo_48 rfl (lv_at hl 0 rfl) ?_
        refine lv_dup hx hb dX7_changeTo_49 rfl ?_
        refine gf_X7_34 E hG f_x rfl dX7_changeTo_50 ?_
        refine lv_iconst (v := 1) hx hb dX7_changeTo_53 rfl ?_
        refine lv_iadd hx hb dX7_changeTo_54 ?_
        refine lv_ci (y := nI (u + 1)) (ixq (nI_ad rfl rfl)) ?_
        refine pf_X7_34 E hG f_x (Nat.le_of_ble_eq_true rfl) rfl rfl hS (Or.inl rfl) dX7_changeTo_55 (fun H locs f_x hz oq hS => ?_)
        have f_bu : At G bu (.inl (G.2.1 0, 900, .inl bb)) H := oth f_bu (Ne.symm ne_x_bu) oq
        have f_pa : At G pa (.inl (G.2.1 3, 8, .inr (.inr (.inr (.inr (va_up fq u (some bk))))))) H := oth f_pa (Ne.symm ne_x_pa) oq
        have f_x : At G x (.inr (7, [.ref bu, .int bl, .int es, .ref bk, .ref pa, .int (nI (u + 1))])) H := f_x
        refine lv_aload_n hx hb dX7_changeTo_58 rfl (lv_at hl 0 rfl) ?_
        refine lv_aload_n hx hb dX7_changeTo_59 rfl (lv_at hl 1 rfl) ?_
        refine pf_X7_26 E hG f_x (Nat.le_of_ble_eq_true rfl) rfl rfl hS (Or.inl rfl) dX7_changeTo_60 (fun H locs f_x hz oq hS => ?_)
        have f_bu : At G bu (.inl (G.2.1 0, 900, .inl bb)) H := oth f_bu (Ne.symm ne_x_bu) oq
        have f_pa : At G pa (.inl (G.2.1 3, 8, .inr (.inr (.inr (.inr (va_up fq u (some bk))))))) H := oth f_pa (Ne.symm ne_x_pa) oq
        have f_x : At G x (.inr (7, [.ref bu, .int bl, .int es, .ref q, .ref pa, .int (nI (u + 1))])) H := f_x
        exact wr_void E hr hk hS (show 0 ≤ 0 by omega) (show 0 ≤ 0 by omega) (⟨rfl, by rw [show remU u = u + 1 from if_neg (by omega)]; exact f_x, f_bu, ⟨_, f_pa, hx_up (by omega) (fun j9 h9 => (hH j9 h9).kept (kq hS hN)) hO (BK.kept hB (kq hS hN))⟩, BK.kept hB9 (kq hS hN)⟩) dX7_changeTo_63
  · have c_9 : ¬ u < 8 := fun z9 => c_9 ((nLT (x := (nI u)) (y := 8) (a := u) (b := 8) rfl rfl (by omega) (by omega)).mpr z9)
    refine lv_aload_n hx hb dX7_changeTo_12 rfl (lv_at hl 0 rfl) ?_
    have e8 : u = 8 := by omega
    subst e8
    refine Wr.callV (rest := []) (c_X7_forgetOldest (g := g) l G hD) yk_X7_forgetOldest E km_X7_306 dX7_changeTo_13 hG (hE.S hS hEA) ⟨f_x, At.congrQ f_pa (fun j hj => hg j hj), fun j hj => by obtain ⟨b9, e9, nc8, np8, nh8, hO8, hB8⟩ := hH j hj; rw [hg j hj] at e9; cases e9; obtain ⟨ca8, ho8, fe8, cr8, pr8, cA8, pA8, z1, -⟩ := hB8; exact ⟨⟨_, z1.1⟩, z1.2⟩⟩ (At.recv hG f_x rfl) rfl rfl hl.1 ⟨Nat.le_of_ble_eq_true rfl, Nat.le_of_ble_eq_true rfl⟩ ⟨Nat.le_of_ble_eq_true rfl, Nat.le_of_ble_eq_true rfl⟩ (Nat.le_of_ble_eq_true rfl) hS (fun _ h9 => h9) (fun v9 H locs hq hz9 hfr9 hS => ?_)
    obtain ⟨rfl, f_x, f_pa⟩ := hq
    have f_bu : At G bu (bA G 900 bb) H := va_at.kept f_bu (hfr9 _ (va_at.lt f_bu) (fun z9 => z9.elim (Ne.symm ne_x_bu) ne_bu_pa))
    refine lv_aload_n hx hb dX7_changeTo_16 rfl (lv_at hl 0 rfl) ?_
    refine gf_X7_34 E hG f_x rfl dX7_changeTo_17 ?_
    refine lv_if_lt (tgt := 58) hx hb dX7_changeTo_20 (by decide) (fun c_20 => ?_) (fun c_20 => ?_)
    · exact absurd c_20 (nI_pos (by first | omega | decide))
    · refine lv_aload_n hx hb dX7_changeTo_23 rfl (lv_at hl 0 rfl) ?_
      refine gf_X7_34 E hG f_x rfl dX7_changeTo_24 ?_
      refine lv_aload_n hx hb dX7_changeTo_27 rfl (lv_at hl 0 rfl) ?_
      refine gf_X7_30 E hG f_x rfl dX7_changeTo_28 ?_
      refine g_len (t0 := 3) (v := 8) E hG f_pa rfl rfl dX7_changeTo_31 ?_
      refine lv_icmp_ge (tgt := 58) hx hb dX7_changeTo_32 (by decide) (fun c_32 => ?_) (fun c_32 => ?_)
      · exact (by first | exact absurd c_32 (by decide) | exact absurd ((nLE (x := 8) (y := nI u) (a := 8) (b := u) rfl rfl (by omega) (by omega)).mp c_32) (by omega))
      · refine lv_aload_n hx hb dX7_changeTo_35 rfl (lv_at hl 0 rfl) ?_
        refine gf_X7_30 E hG f_x rfl dX7_changeTo_36 ?_
        refine lv_aload_n hx hb dX7_changeTo_39 rfl (lv_at hl 0 rfl) ?_
        refine gf_X7_34 E hG f_x rfl dX7_changeTo_40 ?_
        refine lv_aload_n hx hb dX7_changeTo_43 rfl (lv_at hl 0 rfl) ?_
        refine gf_X7_26 E hG f_x rfl dX7_changeTo_44 ?_
        refine g_ast (t0 := 3) 7 rfl rfl E hG f_pa (kpg hS hN k1) rfl (by omega) (by omega) hS (Or.inr rfl) dX7_changeTo_47 (fun H locs f_pa hz oq hS => ?_)
        have f_x : At G x (.inr (7, [.ref bu, .int bl, .int es, .ref bk, .ref pa, .int (nI 7)])) H := oth f_x ne_x_pa oq
        have f_bu : At G bu (.inl (G.2.1 0, 900, .inl bb)) H := oth f_bu ne_bu_pa oq
        have f_pa : At G pa (.inl (G.2.1 3, 8, .inr (.inr (.inr (.inr (va_up (fun j => some (if j < 7 then g (j + 1) else g j)) 7 (some bk))))))) H := f_pa
        refine lv_aload_n hx hb dX7_changeTo_48 rfl (lv_at hl 0 rfl) ?_
        refine lv_dup hx hb dX7_changeTo_49 rfl ?_
        refine gf_X7_34 E hG f_x rfl dX7_changeTo_50 ?_
        refine lv_iconst (v := 1) hx hb dX7_changeTo_53 rfl ?_
        refine lv_iadd hx hb dX7_changeTo_54 ?_
        refine lv_ci (y := nI 8) (ixq (nI_ad rfl rfl)) ?_
        refine pf_X7_34 E hG f_x (Nat.le_of_ble_eq_true rfl) rfl rfl hS (Or.inl rfl) dX7_changeTo_55 (fun H locs f_x hz oq hS => ?_)
        have f_bu : At G bu (.inl (G.2.1 0, 900, .inl bb)) H := oth f_bu (Ne.symm ne_x_bu) oq
        have f_pa : At G pa (.inl (G.2.1 3, 8, .inr (.inr (.inr (.inr (va_up (fun j => some (if j < 7 then g (j + 1) else g j)) 7 (some bk))))))) H := oth f_pa (Ne.symm ne_x_pa) oq
        have f_x : At G x (.inr (7, [.ref bu, .int bl, .int es, .ref bk, .ref pa, .int (nI 8)])) H := f_x
        refine lv_aload_n hx hb dX7_changeTo_58 rfl (lv_at hl 0 rfl) ?_
        refine lv_aload_n hx hb dX7_changeTo_59 rfl (lv_at hl 1 rfl) ?_
        refine pf_X7_26 E hG f_x (Nat.le_of_ble_eq_true rfl) rfl rfl hS (Or.inl rfl) dX7_changeTo_60 (fun H locs f_x hz oq hS => ?_)
        have f_bu : At G bu (.inl (G.2.1 0, 900, .inl bb)) H := oth f_bu (Ne.symm ne_x_bu) oq
        have f_pa : At G pa (.inl (G.2.1 3, 8, .inr (.inr (.inr (.inr (va_up (fun j => some (if j < 7 then g (j + 1) else g j)) 7 (some bk))))))) H := oth f_pa (Ne.symm ne_x_pa) oq
        have f_x : At G x (.inr (7, [.ref bu, .int bl, .int es, .ref q, .ref pa, .int (nI 8)])) H := f_x
        exact wr_void E hr hk hS (show 0 ≤ 0 by omega) (show 0 ≤ 0 by omega) (⟨rfl, f_x, f_bu, ⟨_, f_pa, hx_sh hg (fun j9 h9 => (hH j9 h9).kept (kq hS hN)) hO (BK.kept hB (kq hS hN))⟩, BK.kept hB9 (kq hS hN)⟩) dX7_changeTo_63

set_option maxHeartbeats 4000000 in
set_option maxRecDepth 100000 in
/-- undo -/
theorem c_X7_undo (l : Launch) (G : CG) {x bu pa bk : Nat} {AO : Nat → Prop} {bb d : Nat → Int32} {bl es : Int32} {nc np nh u : Nat} {hi : Nat → Nat → Int32} (hD : DD G AO x bu pa) (hu : u < 8) : Wr l yX7_undo cX7_undo 2 ((Option.some FieldType.int)) 0 0 0 0 G [.ref x] (fun H9 => DS G AO x bu pa bb bl es bk d nc np nh (u + 1) hi H9) (XP x pa) (fun v9 H9 => v9 = some (.int (nI u)) ∧ ∃ b nc9 np9 nh9, OkD (hi u) nc9 np9 nh9 ∧ DS G AO x bu pa bb bl es b (hi u) nc9 np9 nh9 u hi H9) := by
  refine Wr.ofW (by decide) (Nat.le_of_ble_eq_true rfl) (fun p e s m below meth c ls E hG hE hP hr hk hin hl => ?_)
  have hS : va_S (XP x pa) s.heap s.heap [] := va_S.rf
  have hx := E.1
  have hb := E.2.1
  have hl : lv_has ls 2 [(0, .ref x)] := hl
  obtain ⟨hX, hU, ⟨fq, hQ, hH⟩, hB⟩ := hP
  obtain ⟨ca, ho, fe, cr, pr, cA, pA, k1, k2, k3, k4, k5, k6, k7, k8⟩ := id hB
  obtain ⟨-, ⟨ne_x_bu, ne_x_pa, ne_bu_pa⟩, -⟩ := id hD
  have f_x := hX
  have f_bu := hU
  have f_pa := hQ
  have hEA := hD.efx
  have hN : ∀ q9, q9 < s.heap.size → XP x pa q9 → AO q9 := hD.ownx
  obtain ⟨b, eb, nc9, np9, nh9, hO9, hB9⟩ := hH u (by omega)
  refine lv_aload_n hx hb dX7_undo_0 rfl (lv_at hl 0 rfl) ?_
  refine gf_X7_34 E hG f_x rfl dX7_undo_1 ?_
  refine lv_if_le (tgt := 33) hx hb dX7_undo_4 (by decide) (fun c_4 => ?_) (fun c_4 => ?_)
  · exact absurd c_4 (nI_nle (by omega) (by omega))
  · refine lv_aload_n hx hb dX7_undo_7 rfl (lv_at hl 0 rfl) ?_
    refine gf_X7_34 E hG f_x rfl dX7_undo_8 ?_
    refine lv_aload_n hx hb dX7_undo_11 rfl (lv_at hl 0 rfl) ?_
    refine gf_X7_30 E hG f_x rfl dX7_undo_12 ?_
    refine g_len (t0 := 3) (v := 8) E hG f_pa rfl rfl dX7_undo_15 ?_
    refine lv_icmp_gt (tgt := 33) hx hb dX7_undo_16 (by decide) (fun c_16 => ?_) (fun c_16 => ?_)
    · exact absurd ((nLT (x := 8) (y := nI (u + 1)) (a := 8) (b := u + 1) rfl rfl (by omega) (by omega)).mp c_16) (by omega)
    · refine lv_aload_n hx hb dX7_undo_19 rfl (lv_at hl 0 rfl) ?_
      refine gf_X7_30 E hG f_x rfl dX7_undo_20 ?_
      refine lv_aload_n hx hb dX7_undo_23 rfl (lv_at hl 0 rfl) ?_
      refine gf_X7_34 E hG f_x rfl dX7_undo_24 ?_
      refine lv_iconst (v := 1) hx hb dX7_undo_27 rfl ?_
      refine lv_isub hx hb dX7_undo_28 ?_
      refine g_ald (t0 := 3) u rfl E hG f_pa (nI_pred u) (by omega) (by omega) dX7_undo_29 ?_
      rw [eb]
      show W _ _ _ _ _ _ _ _ _ _ _ _ _ _ _ (F0 m 30 ls (.ref b :: []))
      refine lv_goto (tgt := 34) hx hb dX7_undo_30 (by decide) ?_
      refine lv_astore_n (lv' := [(1, .ref b), (0, .ref x)]) hx hb dX7_undo_34 rfl hl (by decide) rfl (fun ls hl => ?_)
      refine lv_aload_n hx hb dX7_undo_35 rfl (lv_at hl 0 rfl) ?_
      refine lv_ifnonnull (tgt := 41) hx hb dX7_undo_36 (by decide) ?_
      refine lv_aload_n hx hb dX7_undo_41 rfl (lv_at hl 1 rfl) ?_
      refine lv_aload_n hx hb dX7_undo_42 rfl (lv_at hl 0 rfl) ?_
      refine pf_X7_26 E hG f_x (Nat.le_of_ble_eq_true rfl) rfl rfl hS (Or.inl rfl) dX7_undo_43 (fun H locs f_x hz oq hS => ?_)
      have f_bu : At G bu (.inl (G.2.1 0, 900, .inl bb)) H := oth f_bu (Ne.symm ne_x_bu) oq
      have f_pa : At G pa (.inl (G.2.1 3, 8, .inr (.inr (.inr (.inr fq))))) H := oth f_pa (Ne.symm ne_x_pa) oq
      have f_x : At G x (.inr (7, [.ref bu, .int bl, .int es, .ref b, .ref pa, .int (nI (u + 1))])) H := f_x
      refine lv_aload_n hx hb dX7_undo_46 rfl (lv_at hl 1 rfl) ?_
      refine lv_dup hx hb dX7_undo_47 rfl ?_
      refine gf_X7_34 E hG f_x rfl dX7_undo_48 ?_
      refine lv_iconst (v := 1) hx hb dX7_undo_51 rfl ?_
      refine lv_isub hx hb dX7_undo_52 ?_
      refine lv_ci (y := nI u) (nI_pred u) ?_
      refine pf_X7_34 E hG f_x (Nat.le_of_ble_eq_true rfl) rfl rfl hS (Or.inl rfl) dX7_undo_53 (fun H locs f_x hz oq hS => ?_)
      have f_bu : At G bu (.inl (G.2.1 0, 900, .inl bb)) H := oth f_bu (Ne.symm ne_x_bu) oq
      have f_pa : At G pa (.inl (G.2.1 3, 8, .inr (.inr (.inr (.inr fq))))) H := oth f_pa (Ne.symm ne_x_pa) oq
      have f_x : At G x (.inr (7, [.ref bu, .int bl, .int es, .ref b, .ref pa, .int (nI u)])) H := f_x
      refine lv_aload_n hx hb dX7_undo_56 rfl (lv_at hl 1 rfl) ?_
      refine gf_X7_34 E hG f_x rfl dX7_undo_57 ?_
      exact wr_int E hr hk hS (show 0 ≤ 0 by omega) (show 0 ≤ 0 by omega) (⟨rfl, b, nc9, np9, nh9, hO9, f_x, f_bu, ⟨_, f_pa, fun j9 h9 => (hH j9 (by omega)).kept (kq hS hN)⟩, BK.kept hB9 (kq hS hN)⟩) dX7_undo_60

set_option maxHeartbeats 4000000 in
set_option maxRecDepth 100000 in
/-- undo, nothing to undo -/
theorem c_X7_undo_0 (l : Launch) (G : CG) {x bu pa bk : Nat} {AO : Nat → Prop} {bb d : Nat → Int32} {bl es : Int32} {nc np nh u : Nat} {hi : Nat → Nat → Int32} (hD : DD G AO x bu pa) : Wr l yX7_undo cX7_undo 2 ((Option.some FieldType.int)) 0 0 0 0 G [.ref x] (fun H9 => DS G AO x bu pa bb bl es bk d nc np nh 0 hi H9) (XP x pa) (fun v9 H9 => v9 = some (.int (-1)) ∧ DS G AO x bu pa bb bl es bk d nc np nh 0 hi H9) := by
  refine Wr.ofW (by decide) (Nat.le_of_ble_eq_true rfl) (fun p e s m below meth c ls E hG hE hP hr hk hin hl => ?_)
  have hS : va_S (XP x pa) s.heap s.heap [] := va_S.rf
  have hx := E.1
  have hb := E.2.1
  have hl : lv_has ls 2 [(0, .ref x)] := hl
  have hP0 := hP
  obtain ⟨hX, hU, ⟨fq, hQ, hH⟩, hB⟩ := hP
  obtain ⟨ca, ho, fe, cr, pr, cA, pA, k1, k2, k3, k4, k5, k6, k7, k8⟩ := id hB
  obtain ⟨-, ⟨ne_x_bu, ne_x_pa, ne_bu_pa⟩, -⟩ := id hD
  have f_x := hX
  have f_bu := hU
  have f_pa := hQ
  have hEA := hD.efx
  have hN : ∀ q9, q9 < s.heap.size → XP x pa q9 → AO q9 := hD.ownx
  refine lv_aload_n hx hb dX7_undo_0 rfl (lv_at hl 0 rfl) ?_
  refine gf_X7_34 E hG f_x rfl dX7_undo_1 ?_
  refine lv_if_le (tgt := 33) hx hb dX7_undo_4 (by decide) (fun c_4 => ?_) (fun c_4 => ?_)
  · refine lv_null hx hb dX7_undo_33 ?_
    refine lv_astore_nN (lv' := [(1, .null), (0, .ref x)]) hx hb dX7_undo_34 rfl hl (by decide) rfl (fun ls hl => ?_)
    refine lv_aload_nN hx hb dX7_undo_35 rfl (lv_at hl 0 rfl) ?_
    refine lv_ifnonnullN hx hb dX7_undo_36 ?_
    refine lv_iconst (v := (-1)) hx hb dX7_undo_39 rfl ?_
    exact wr_int E hr hk hS (show 0 ≤ 0 by omega) (show 0 ≤ 0 by omega) (⟨rfl, hP0⟩) dX7_undo_40
  · exact absurd (show nI 0 ≤ 0 by decide) c_4
