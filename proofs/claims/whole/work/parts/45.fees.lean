/-! READING: fee rules -/
def lpF (bf : Nat → Int32) (n : Nat) (fac : Nat → Rr) (c1 c2 o1 o2 : Int32) : Nat → Nat → List Int32 → Rr
  | 0, s, L => .ok (s, L)
  | j + 1, s, L => if bt bf n s = c1 ∨ bt bf n s = c2 then (match fac (spc bf n (s + 1)) with
    | .error e => .error e
    | .ok (s', L') => lpF bf n fac c1 c2 o1 o2 j s' (L ++ L' ++ [if bt bf n s = c1 then o1 else o2])) else .ok (s, L)
def chF (bf : Nat → Int32) (n : Nat) (fac : Nat → Rr) (c1 c2 o1 o2 : Int32) (s : Nat) : Rr := match fac s with
  | .error e => .error e
  | .ok (s', L) => lpF bf n fac c1 c2 o1 o2 (n + 1) s' L
abbrev tmF (bf : Nat → Int32) (n : Nat) (fac : Nat → Rr) : Nat → Rr := chF bf n fac 42 47 (-6) (-7)
abbrev smF (bf : Nat → Int32) (n : Nat) (fac : Nat → Rr) : Nat → Rr := chF bf n (tmF bf n fac) 43 45 (-4) (-5)
noncomputable def opF (bf : Nat → Int32) (n s : Nat) : Rr := if inV (bt bf n s) 48 57 = 1 then (match numF bf n 0 9999 s with
    | .error e => .error e
    | .ok (s', v) => .ok (s', [v])) else
  @ite _ (isW bf n s (txt 6)) (Classical.propDecidable _) (.ok (spc bf n (s + (txt 6).length), [-1]))
  (@ite _ (isW bf n s (txt 7)) (Classical.propDecidable _) (.ok (spc bf n (s + (txt 7).length), [-2]))
  (@ite _ (isW bf n s (txt 8)) (Classical.propDecidable _) (.ok (spc bf n (s + (txt 8).length), [-3])) (.error (-2, s))))
def paF (bf : Nat → Int32) (n : Nat) (sm : Nat → Rr) (s : Nat) : Rr := match sm (spc bf n (s + 1)) with
  | .error e => .error e
  | .ok (s', L) => match syF bf n 41 s' with
    | .error e => .error e
    | .ok s2 => .ok (s2, L)
noncomputable def fcF (bf : Nat → Int32) (n : Nat) : Nat → Nat → Rr
  | 0, s => if bt bf n s = 40 then .error (-5, s) else opF bf n s
  | k + 1, s => if bt bf n s = 40 then paF bf n (smF bf n (fcF bf n k)) s else opF bf n s
theorem exL_app (L M : List Int32) : exL (L ++ M) = exL L ++ exL M := by unfold exL; rw [List.flatMap_append]
theorem exL_nil : exL [] = [] := rfl
theorem exL_1 (x : Int32) : exL [x] = exS x := by unfold exL; simp
/-- codes put behind each other -/
def emC (d : Nat → Int32) (C : List Int32) : Nat → Int32 := fun j => if j = 5 then nI C.length else if 298 ≤ j ∧ j < 298 + C.length then C.getD (j - 298) 0 else d j
theorem emC_5 (d : Nat → Int32) (C : List Int32) : emC d C 5 = nI C.length := if_pos rfl
theorem emC_nil {d : Nat → Int32} (h : d 5 = 0) : emC d [] = d := by
  funext j
  unfold emC
  by_cases e : j = 5
  · rw [if_pos e, e, h]
    rfl
  · rw [if_neg e, if_neg (by simp only [List.length_nil]; omega)]
theorem emC_snoc (d : Nat → Int32) (C : List Int32) (z : Int32) : upd (upd (emC d C) (298 + C.length) z) 5 (nI (C.length + 1)) = emC d (C ++ [z]) := by
  funext j
  unfold upd
  by_cases e : j = 5
  · rw [if_pos e, e, emC_5]
    simp
  · rw [if_neg e]
    unfold emC
    rw [if_neg e, if_neg e, List.length_append, List.length_singleton]
    by_cases e2 : j = 298 + C.length
    · rw [if_pos e2, if_pos (by omega), e2]
      simp
    · rw [if_neg e2]
      by_cases e3 : 298 ≤ j ∧ j < 298 + C.length
      · rw [if_pos e3, if_pos (by omega)]
        simp only [List.getD_eq_getElem?_getD]
        rw [List.getElem?_append_left (by omega)]
      · rw [if_neg e3, if_neg (by omega)]
/-- what a sub-rule is: where it ends, how many codes and steps it has, what it does to the stack -/
def Ge (n s s' : Nat) (L : List Int32) (w : Nat) : Prop := s < s' ∧ s' ≤ n ∧ 2 * (exL L).length ≤ 3 * (s' - s) + 1 ∧ L.length ≤ s' - s ∧ (∀ h M, h + w ≤ 11 → okR (L ++ M) h = okR M (h + 1)) ∧ ∀ x ∈ L, (-7) ≤ x ∧ x ≤ 9999
def Gd (n : Nat) (fac : Nat → Rr) (w : Nat) : Prop := ∀ s s' L, s ≤ n → fac s = .ok (s', L) → Ge n s s' L w
abbrev ops : List Int32 := [-4, -5, -6, -7]
theorem ops_f : ∀ o ∈ ops, (exS o).length = 1 ∧ ¬ (-4) < o ∧ (-7) ≤ o ∧ o ≤ 9999 := by decide
theorem Ge.op {n s s1 s2 s' w : Nat} {L L' : List Int32} {o : Int32} (h1 : Ge n s s1 L (w + 1)) (h2 : Ge n s2 s' L' w) (h3 : s1 < s2) (ho : o ∈ ops) : Ge n s s' (L ++ L' ++ [o]) (w + 1) := by
  obtain ⟨a1, a2, a3, a4, a5, a6⟩ := h1
  obtain ⟨b1, b2, b3, b4, b5, b6⟩ := h2
  obtain ⟨c1, c2, c3, c4⟩ := ops_f o ho
  refine ⟨by omega, b2, ?_, ?_, ?_, ?_⟩
  · rw [exL_app, exL_app, exL_1, List.length_append, List.length_append, c1]
    omega
  · rw [List.length_append, List.length_append, List.length_singleton]
    omega
  · intro h M hh
    rw [List.append_assoc, List.append_assoc, a5 h _ (by omega), b5 (h + 1) _ (by omega)]
    show (if (-4) < o then _ else if 2 ≤ h + 1 + 1 then okR M (h + 1 + 1 - 1) else none) = _
    rw [if_neg c2, if_pos (by omega)]
    rfl
  · intro x hx
    rcases List.mem_append.mp hx with hx | hx
    · rcases List.mem_append.mp hx with hx | hx
      · exact a6 x hx
      · exact b6 x hx
    · rw [List.mem_singleton.mp hx]
      exact ⟨c3, c4⟩
theorem Ge.up {n s s' w : Nat} {L : List Int32} (h : Ge n s s' L w) : Ge n s s' L (w + 1) := ⟨h.1, h.2.1, h.2.2.1, h.2.2.2.1, fun k M hk => h.2.2.2.2.1 k M (by omega), h.2.2.2.2.2⟩
section LPF
variable {bf : Nat → Int32} {n : Nat} {fac : Nat → Rr} {c1 c2 o1 o2 : Int32} {s s' : Nat} {L L' : List Int32} {e : Er} {j w : Nat}
theorem lpF_n (h : ¬ (bt bf n s = c1 ∨ bt bf n s = c2)) : lpF bf n fac c1 c2 o1 o2 (j + 1) s L = .ok (s, L) := if_neg h
theorem lpF_e (h : bt bf n s = c1 ∨ bt bf n s = c2) (hf : fac (spc bf n (s + 1)) = .error e) : lpF bf n fac c1 c2 o1 o2 (j + 1) s L = .error e := by
  unfold lpF
  rw [if_pos h, hf]
theorem lpF_1 (h : bt bf n s = c1) (hf : fac (spc bf n (s + 1)) = .ok (s', L')) : lpF bf n fac c1 c2 o1 o2 (j + 1) s L = lpF bf n fac c1 c2 o1 o2 j s' (L ++ L' ++ [o1]) := by
  conv => lhs; unfold lpF
  rw [if_pos (Or.inl h), hf]
  simp only [if_pos h]
theorem lpF_2 (h : bt bf n s = c2) (hc : ¬ c2 = c1) (hf : fac (spc bf n (s + 1)) = .ok (s', L')) : lpF bf n fac c1 c2 o1 o2 (j + 1) s L = lpF bf n fac c1 c2 o1 o2 j s' (L ++ L' ++ [o2]) := by
  conv => lhs; unfold lpF
  rw [if_pos (Or.inr h), hf]
  simp only [if_neg (show ¬ bt bf n s = c1 from fun z => hc (h.symm.trans z))]
theorem chF_e (hf : fac s = .error e) : chF bf n fac c1 c2 o1 o2 s = .error e := by simp only [chF, hf]
theorem chF_o (hf : fac s = .ok (s', L)) : chF bf n fac c1 c2 o1 o2 s = lpF bf n fac c1 c2 o1 o2 (n + 1) s' L := by simp only [chF, hf]
end LPF
theorem Gd.lp {bf : Nat → Int32} {n : Nat} {fac : Nat → Rr} {c1 c2 o1 o2 : Int32} {w : Nat} (hF : Gd n fac w) (h1 : o1 ∈ ops) (h2 : o2 ∈ ops) (h3 : ¬ c1 = (-1)) (h4 : ¬ c2 = (-1)) (h5 : ¬ c2 = c1) : ∀ (j s0 s s' : Nat) (L L' : List Int32), Ge n s0 s L (w + 1) → lpF bf n fac c1 c2 o1 o2 j s L = .ok (s', L') → Ge n s0 s' L' (w + 1)
  | 0, s0, s, s', L, L', hG, h => by
    cases h
    exact hG
  | j + 1, s0, s, s', L, L', hG, h => by
    by_cases hb : bt bf n s = c1 ∨ bt bf n s = c2
    · have hs : s < n := by
        rcases hb with z | z
        · exact bt_lt z h3
        · exact bt_lt z h4
      cases hf : fac (spc bf n (s + 1)) with
      | error e => rw [lpF_e hb hf] at h; cases h
      | ok q =>
        obtain ⟨s1, L1⟩ := q
        have hsk := sk_b (bf := bf) (n := n) (q := s + 1) (by omega)
        have g1 := hF _ _ _ hsk.2 hf
        by_cases hc : bt bf n s = c1
        · rw [lpF_1 hc hf] at h
          exact Gd.lp hF h1 h2 h3 h4 h5 j s0 s1 s' _ L' (hG.op g1 (by omega) h1) h
        · rw [lpF_2 (hb.resolve_left hc) h5 hf] at h
          exact Gd.lp hF h1 h2 h3 h4 h5 j s0 s1 s' _ L' (hG.op g1 (by omega) h2) h
    · rw [lpF_n hb] at h
      cases h
      exact hG
theorem Gd.ch {bf : Nat → Int32} {n : Nat} {fac : Nat → Rr} {c1 c2 o1 o2 : Int32} {w : Nat} (hF : Gd n fac w) (h1 : o1 ∈ ops) (h2 : o2 ∈ ops) (h3 : ¬ c1 = (-1)) (h4 : ¬ c2 = (-1)) (h5 : ¬ c2 = c1) : Gd n (chF bf n fac c1 c2 o1 o2) (w + 1) := by
  intro s s' L hs h
  cases hf : fac s with
  | error e => rw [chF_e hf] at h; cases h
  | ok q =>
    obtain ⟨s1, L1⟩ := q
    rw [chF_o hf] at h
    exact Gd.lp hF h1 h2 h3 h4 h5 (n + 1) s s1 s' L1 L (hF _ _ _ hs hf).up h
theorem Gd.tm {bf : Nat → Int32} {n : Nat} {fac : Nat → Rr} {w : Nat} (hF : Gd n fac w) : Gd n (tmF bf n fac) (w + 1) := hF.ch (by decide) (by decide) (by decide) (by decide) (by decide)
theorem Gd.sm {bf : Nat → Int32} {n : Nat} {fac : Nat → Rr} {w : Nat} (hF : Gd n fac w) : Gd n (smF bf n fac) (w + 2) := hF.tm.ch (by decide) (by decide) (by decide) (by decide) (by decide)
theorem ok1 {x : Int32} (hx : (-4) < x) : ∀ h M, h + 1 ≤ 11 → okR ([x] ++ M) h = okR M (h + 1) := fun h M hh => by
  show (if (-4) < x then (if h < 11 then okR M (h + 1) else none) else _) = _
  rw [if_pos hx, if_pos (by omega)]
section OPF
variable {bf : Nat → Int32} {n s s' : Nat} {v : Int32} {L : List Int32} {e : Er}
theorem opF_d (h : inV (bt bf n s) 48 57 = 1) (hn : numF bf n 0 9999 s = .ok (s', v)) : opF bf n s = .ok (s', [v]) := by unfold opF; rw [if_pos h, hn]
theorem opF_de (h : inV (bt bf n s) 48 57 = 1) (hn : numF bf n 0 9999 s = .error e) : opF bf n s = .error e := by unfold opF; rw [if_pos h, hn]
theorem opF_6 (h : ¬ inV (bt bf n s) 48 57 = 1) (h6 : isW bf n s (txt 6)) : opF bf n s = .ok (spc bf n (s + (txt 6).length), [-1]) := by unfold opF; rw [if_neg h, if_pos h6]
theorem opF_7 (h : ¬ inV (bt bf n s) 48 57 = 1) (h6 : ¬ isW bf n s (txt 6)) (h7 : isW bf n s (txt 7)) : opF bf n s = .ok (spc bf n (s + (txt 7).length), [-2]) := by unfold opF; rw [if_neg h, if_neg h6, if_pos h7]
theorem opF_8 (h : ¬ inV (bt bf n s) 48 57 = 1) (h6 : ¬ isW bf n s (txt 6)) (h7 : ¬ isW bf n s (txt 7)) (h8 : isW bf n s (txt 8)) : opF bf n s = .ok (spc bf n (s + (txt 8).length), [-3]) := by unfold opF; rw [if_neg h, if_neg h6, if_neg h7, if_pos h8]
theorem opF_n (h : ¬ inV (bt bf n s) 48 57 = 1) (h6 : ¬ isW bf n s (txt 6)) (h7 : ¬ isW bf n s (txt 7)) (h8 : ¬ isW bf n s (txt 8)) : opF bf n s = .error (-2, s) := by unfold opF; rw [if_neg h, if_neg h6, if_neg h7, if_neg h8]
theorem Ge.wd {i : Nat} (hi : i < 9) (h : isW bf n s (txt i)) (hs : s ≤ n) {x : Int32} (hx : (-4) < x ∧ (exS x).length = 2 ∧ (-7) ≤ x ∧ x ≤ 9999) : Ge n s (spc bf n (s + (txt i).length)) [x] 1 := by
  have h1 := isW_le h (isL_p (txt_L hi)) hs
  have h2 := (txt_L hi).1
  have h3 := sk_b (bf := bf) h1
  exact ⟨by omega, h3.2, by rw [exL_1, hx.2.1]; omega, by rw [List.length_singleton]; omega, ok1 hx.1, fun y hy => by rw [List.mem_singleton.mp hy]; exact hx.2.2⟩
theorem Gd_op (hB : ByO bf) : Gd n (opF bf n) 1 := by
  intro s s' L hs h
  by_cases hd : inV (bt bf n s) 48 57 = 1
  · cases hn : numF bf n 0 9999 s with
    | error e => rw [opF_de hd hn] at h; cases h
    | ok q =>
      obtain ⟨s1, v⟩ := q
      rw [opF_d hd hn] at h
      cases h
      have hb := numF_b hB hs hn
      obtain ⟨a, ea, h0, h9⟩ := numF_v (lo := 0) (hi := 9999) hB hs (by decide) (by decide) hn
      have hv0 : (0 : Int32) ≤ v := by rw [ea]; exact nI_pos' (by omega)
      have hv4 : (-4 : Int32) < v := Int32.lt_of_lt_of_le (by decide) hv0
      refine ⟨hb.1, hb.2.1, ?_, ?_, ok1 hv4, fun y hy => ?_⟩
      · rw [exL_1]
        unfold exS
        rw [if_pos hv0]
        show 2 * 2 ≤ _
        omega
      · rw [List.length_singleton]
        omega
      · rw [List.mem_singleton.mp hy]
        exact ⟨Int32.le_trans (by decide) hv0, by rw [ea]; exact (nLE (x := nI a) (y := 9999) (a := a) (b := 9999) rfl rfl (by omega) (by omega)).mpr h9⟩
  · by_cases h6 : isW bf n s (txt 6)
    · rw [opF_6 hd h6] at h
      cases h
      exact Ge.wd (by decide) h6 hs (by decide)
    · by_cases h7 : isW bf n s (txt 7)
      · rw [opF_7 hd h6 h7] at h
        cases h
        exact Ge.wd (by decide) h7 hs (by decide)
      · by_cases h8 : isW bf n s (txt 8)
        · rw [opF_8 hd h6 h7 h8] at h
          cases h
          exact Ge.wd (by decide) h8 hs (by decide)
        · rw [opF_n hd h6 h7 h8] at h
          cases h
end OPF
section PAF
variable {bf : Nat → Int32} {n s s' s2 k : Nat} {sm : Nat → Rr} {L : List Int32} {e : Er}
theorem paF_e (h : sm (spc bf n (s + 1)) = .error e) : paF bf n sm s = .error e := by simp only [paF, h]
theorem paF_x (h : sm (spc bf n (s + 1)) = .ok (s', L)) (h2 : syF bf n 41 s' = .error e) : paF bf n sm s = .error e := by simp only [paF, h, h2]
theorem paF_o (h : sm (spc bf n (s + 1)) = .ok (s', L)) (h2 : syF bf n 41 s' = .ok s2) : paF bf n sm s = .ok (s2, L) := by simp only [paF, h, h2]
theorem syF_b {c : Int32} (hc : ¬ c = (-1)) (h : syF bf n c s = .ok s') : s < s' ∧ s' ≤ n ∧ bt bf n s = c ∧ s' = spc bf n (s + 1) := by
  unfold syF at h
  by_cases hb : bt bf n s = c
  · rw [if_pos hb] at h
    have h := Except.ok.inj h
    have hl := bt_lt hb hc
    have hk := sk_b (bf := bf) (n := n) (q := s + 1) (by omega)
    exact ⟨by omega, by omega, hb, h.symm⟩
  · rw [if_neg hb] at h
    cases h
theorem Gd.pa {w : Nat} (hS : Gd n sm w) {s s' : Nat} {L : List Int32} (hs : s < n) (h : paF bf n sm s = .ok (s', L)) : Ge n s s' L w := by
  have hk := sk_b (bf := bf) (n := n) (q := s + 1) (by omega)
  cases hm : sm (spc bf n (s + 1)) with
  | error e => rw [paF_e hm] at h; cases h
  | ok q =>
    obtain ⟨s1, L1⟩ := q
    cases hy : syF bf n 41 s1 with
    | error e => rw [paF_x hm hy] at h; cases h
    | ok s2 =>
      rw [paF_o hm hy] at h
      cases h
      obtain ⟨a1, a2, a3, a4, a5, a6⟩ := hS _ _ _ hk.2 hm
      have hb := syF_b (by decide) hy
      exact ⟨by omega, hb.2.1, by omega, by omega, a5, a6⟩
theorem fcF_0 (h : bt bf n s = 40) : fcF bf n 0 s = .error (-5, s) := if_pos h
theorem fcF_s (h : bt bf n s = 40) : fcF bf n (k + 1) s = paF bf n (smF bf n (fcF bf n k)) s := if_pos h
theorem fcF_o (h : ¬ bt bf n s = 40) : fcF bf n k s = opF bf n s := by
  cases k with
  | zero => exact if_neg h
  | succ k => exact if_neg h
theorem Gd_fc (hB : ByO bf) : ∀ k, Gd n (fcF bf n k) (2 * k + 1)
  | 0 => by
    intro s s' L hs h
    by_cases hb : bt bf n s = 40
    · rw [fcF_0 hb] at h; cases h
    · rw [fcF_o hb] at h
      exact Gd_op hB s s' L hs h
  | k + 1 => by
    intro s s' L hs h
    by_cases hb : bt bf n s = 40
    · rw [fcF_s hb] at h
      exact (Gd_fc hB k).sm.pa (bt_lt hb (by decide)) h
    · rw [fcF_o hb] at h
      have q := Gd_op hB s s' L hs h
      exact ⟨q.1, q.2.1, q.2.2.1, q.2.2.2.1, fun h M hh => q.2.2.2.2.1 h M (by omega), q.2.2.2.2.2⟩
end PAF
theorem c_X8_next_i (l : Launch) (G : CG) {B : Nat → Nat} {t bl er ea eo ud ns ne se : Int32} {bf da dr : Nat → Int32} {hi : Nat → Nat → Int32} {sk : Nat → Int64} (hD : MD G B) (n q : Nat) (hn9 : n ≤ 900) (hq9 : q ≤ n) : Wr l yX8_next cX8_next 1 ((Option.some FieldType.int)) 1 21 0 0 G [.ref (B 0)] (MW G B (fm t bl (nI n) (nI (spc bf n q)) er ea eo ud ns ne se) bf da dr hi sk) (MA B) (fun v9 H9 => v9 = some (.int (bt bf n (spc bf n q))) ∧ MW G B (fm t bl (nI n) (nI (spc bf n q)) er ea eo ud ns ne se) bf da dr hi sk H9) :=
  Wr.weak (c_X8_next l G hD n (spc bf n q) hn9 (sk_b hq9).2) (fun _ h => h) (fun v H h => by rw [sk_ii] at h; exact h) (Nat.le_refl _) (Nat.le_refl _)
