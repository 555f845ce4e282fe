/-! FEES: the reference's codes -/
def B8 (x : Int32) : Prop := -100000000 ≤ x.toInt ∧ x.toInt ≤ 100000000
theorem i64_p : (100000000 : Int64).toInt = 100000000 := by decide +kernel
theorem i64_m : (-100000000 : Int64).toInt = -100000000 := by decide +kernel
theorem lim_eq (v : Int64) : limV v = lmax (-100000000) (lmin 100000000 v) := by
  unfold limV lmax lmin
  by_cases h1 : v ≤ 100000000
  · rw [if_pos ((lg_cmp_le v 100000000).mpr h1)]
    by_cases h2 : (-100000000 : Int64) ≤ v
    · rw [if_pos ((lg_cmp_ge v (-100000000)).mpr h2)]
      by_cases h3 : v < 100000000
      · rw [if_pos h3]
        rw [if_neg (Int64.not_lt.mpr h2)]
      · rw [if_neg h3]
        have h4 : v = 100000000 := Int64.le_antisymm h1 (Int64.not_lt.mp h3)
        rw [h4]
        decide
    · rw [if_neg (fun z => h2 ((lg_cmp_ge v (-100000000)).mp z))]
      have h5 : v < (-100000000) := Int64.not_le.mp h2
      have h3 : v < 100000000 := by
        rw [Int64.lt_iff_toInt_lt] at h5 ⊢
        rw [i64_m] at h5
        rw [i64_p]
        omega
      rw [if_pos h3, if_pos h5]
  · rw [if_neg (fun z => h1 ((lg_cmp_le v 100000000).mp z))]
    have h3 : ¬ v < 100000000 := fun z => h1 (Int64.le_of_lt z)
    rw [if_neg h3]
    decide
theorem lim_b (v : Int64) : -100000000 ≤ (lmax (-100000000) (lmin 100000000 v)).toInt ∧ (lmax (-100000000) (lmin 100000000 v)).toInt ≤ 100000000 := by
  have a1 := i64_p
  have a2 := i64_m
  unfold lmax lmin
  by_cases h3 : v < 100000000
  · rw [if_pos h3]
    have h3 := Int64.lt_iff_toInt_lt.mp h3
    by_cases h4 : v < (-100000000)
    · rw [if_pos h4]
      omega
    · rw [if_neg h4]
      have h4 := Int64.le_iff_toInt_le.mp (Int64.not_lt.mp h4)
      omega
  · rw [if_neg h3, if_neg (by decide)]
    omega
theorem t32 {w : Int64} (h1 : -100000000 ≤ w.toInt) (h2 : w.toInt ≤ 100000000) : w.toInt32.toInt = w.toInt := by
  rw [Int64.toInt_toInt32]
  exact Int.bmod_eq_of_le (by omega) (by omega)
theorem t64 {w : Int64} (h1 : -100000000 ≤ w.toInt) (h2 : w.toInt ≤ 100000000) : w.toInt32.toInt64 = w := by
  apply Int64.toInt_inj.mp
  rw [Int32.toInt_toInt64, t32 h1 h2]
theorem rsV_b (o a b : Int32) : B8 (rsV o a b) := by
  have h := lim_b (rsE o a b)
  unfold B8 rsV
  rw [t32 h.1 h.2]
  exact h
theorem rsV_64 (o a b : Int32) : (rsV o a b).toInt64 = lmax (-100000000) (lmin 100000000 (rsE o a b)) := t64 (lim_b _).1 (lim_b _).2
theorem lim_id {w : Int64} (h1 : -100000000 ≤ w.toInt) (h2 : w.toInt ≤ 100000000) : lmax (-100000000) (lmin 100000000 w) = w := by
  have a1 := i64_p
  have a2 := i64_m
  unfold lmax lmin
  by_cases h3 : w < 100000000
  · rw [if_pos h3, if_neg (fun z => by have := Int64.lt_iff_toInt_lt.mp z; omega)]
  · rw [if_neg h3, if_neg (by decide)]
    apply Int64.toInt_inj.mp
    have := Int64.le_iff_toInt_le.mp (Int64.not_lt.mp h3)
    omega
theorem op_p (a b : Int32) : operV 2 a.toInt64 b.toInt64 = (rsV (-4) a b).toInt64 := by
  rw [rsV_64, ← lim_eq]
  unfold operV rsE
  rw [if_pos (by decide), if_neg (by decide), if_pos rfl]
theorem op_m (a b : Int32) : operV 3 a.toInt64 b.toInt64 = (rsV (-5) a b).toInt64 := by
  rw [rsV_64, ← lim_eq]
  unfold operV rsE
  rw [if_pos (by decide), if_pos (by decide), if_neg (by decide), if_neg (by decide), if_pos rfl]
theorem op_t (a b : Int32) : operV 4 a.toInt64 b.toInt64 = (rsV (-6) a b).toInt64 := by
  rw [rsV_64, ← lim_eq]
  unfold operV rsE
  rw [if_pos (by decide), if_pos (by decide), if_pos (by decide), if_neg (by decide), if_neg (by decide), if_pos rfl]
theorem op_o (a b : Int32) (ha : B8 a) : operV 5 a.toInt64 b.toInt64 = (rsV (-7) a b).toInt64 := by
  rw [rsV_64]
  unfold operV rsE
  rw [if_neg (show ¬ ¬ (5 : Int32) = 5 by decide), if_neg (show ¬ (-7 : Int32) = (-4) by decide), if_neg (show ¬ (-7 : Int32) = (-5) by decide), if_neg (show ¬ (-7 : Int32) = (-6) by decide)]
  by_cases h : b = 0
  · subst h
    rw [if_pos rfl, if_neg (by decide)]
    decide
  · have hz : ¬ lg_cmp b.toInt64 0 = 0 := fun z => h (by
      have e := (lg_cmp_eq _ _).mp z
      have e2 : b.toInt64.toInt = (0 : Int64).toInt := by rw [e]
      rw [Int32.toInt_toInt64] at e2
      exact Int32.toInt_inj.mp e2)
    rw [if_neg h, if_pos hz]
    have hm : a ≠ Int32.minValue := fun z => by
      rw [z] at ha
      have h1 := ha.1
      exact absurd h1 (by decide)
    rw [← Int32.toInt64_div_of_ne_left a b hm]
    have hb : -100000000 ≤ (a / b).toInt ∧ (a / b).toInt ≤ 100000000 := by
      rw [Int32.toInt_div_of_ne_left a b hm]
      obtain ⟨h1, h2⟩ := ha
      have h3 : (a.toInt.tdiv b.toInt).natAbs ≤ a.toInt.natAbs := by
        rw [Int.natAbs_tdiv]
        exact Nat.div_le_self _ _
      omega
    exact (lim_id (by rw [Int32.toInt_toInt64]; exact hb.1) (by rw [Int32.toInt_toInt64]; exact hb.2)).symm
theorem rel_g {sk : Nat → Int64} {F : Nat → Int32} {n h : Nat} {v : Int32} {w : Int64} (hr : ∀ j, j < n → ¬ j = h → sk j = (F j).toInt64 ∧ B8 (F j)) (hv : B8 v) (hw : w = v.toInt64) : ∀ j, j < n → vp_updL sk h w j = (upd F h v j).toInt64 ∧ B8 (upd F h v j) := by
  intro j hj
  by_cases e : j = h
  · subst e
    rw [pk_uLs, pk_us]
    exact ⟨hw, hv⟩
  · rw [pk_uLn e, pk_un e]
    exact hr j hj e
theorem cd2 {da : Nat → Int32} {E : List Int32} {i : Nat} {a b : Int32} (h : ∀ j, j < (a :: b :: E).length → da (298 + (i + j)) = (a :: b :: E).getD j 0) : da (298 + i) = a ∧ da (298 + (i + 1)) = b ∧ ∀ j, j < E.length → da (298 + (i + 2 + j)) = E.getD j 0 := by
  refine ⟨h 0 (by simp), h 1 (by simp), fun j hj => ?_⟩
  have h9 := h (j + 2) (by simp; omega)
  rw [show i + (j + 2) = i + 2 + j by omega] at h9
  exact h9
theorem cd1 {da : Nat → Int32} {E : List Int32} {i : Nat} {a : Int32} (h : ∀ j, j < (a :: E).length → da (298 + (i + j)) = (a :: E).getD j 0) : da (298 + i) = a ∧ ∀ j, j < E.length → da (298 + (i + 1 + j)) = E.getD j 0 := by
  refine ⟨h 0 (by simp), fun j hj => ?_⟩
  have h9 := h (j + 1) (by simp; omega)
  rw [show i + (j + 1) = i + 1 + j by omega] at h9
  exact h9
theorem exL_l {s : Int32} {L : List Int32} (h : 0 ≤ s) : exL (s :: L) = 0 :: s :: exL L := by
  unfold exL
  rw [List.flatMap_cons]
  unfold exS
  rw [if_pos h]
  rfl
theorem lit_b {s : Int32} (h : 0 ≤ s) (h2 : s ≤ 9999) : B8 s := by
  have h1 := Int32.le_iff_toInt_le.mp h
  have h3 := Int32.le_iff_toInt_le.mp h2
  rw [show (0 : Int32).toInt = 0 by decide] at h1
  rw [show (9999 : Int32).toInt = 9999 by decide] at h3
  exact ⟨by omega, by omega⟩
theorem step_c {s : Int32} (h : (-7) ≤ s) : 0 ≤ s ∨ s = (-1) ∨ s = (-2) ∨ s = (-3) ∨ s = (-4) ∨ s = (-5) ∨ s = (-6) ∨ s = (-7) := by
  have h1 := Int32.le_iff_toInt_le.mp h
  rw [show (-7 : Int32).toInt = -7 by decide] at h1
  by_cases h0 : 0 ≤ s
  · exact Or.inl h0
  · right
    have h2 : s.toInt < 0 := by
      have h9 : ¬ (0 : Int32).toInt ≤ s.toInt := fun z => h0 (Int32.le_iff_toInt_le.mpr z)
      rw [show (0 : Int32).toInt = 0 by decide] at h9
      omega
    have e : ∀ v : Int32, s.toInt = v.toInt → s = v := fun v z => Int32.toInt_inj.mp z
    rcases (show s.toInt = -1 ∨ s.toInt = -2 ∨ s.toInt = -3 ∨ s.toInt = -4 ∨ s.toInt = -5 ∨ s.toInt = -6 ∨ s.toInt = -7 by omega) with z | z | z | z | z | z | z
    · exact Or.inl (e (-1) z)
    · exact Or.inr (Or.inl (e (-2) z))
    · exact Or.inr (Or.inr (Or.inl (e (-3) z)))
    · exact Or.inr (Or.inr (Or.inr (Or.inl (e (-4) z))))
    · exact Or.inr (Or.inr (Or.inr (Or.inr (Or.inl (e (-5) z)))))
    · exact Or.inr (Or.inr (Or.inr (Or.inr (Or.inr (Or.inl (e (-6) z))))))
    · exact Or.inr (Or.inr (Or.inr (Or.inr (Or.inr (Or.inr (e (-7) z))))))
theorem fee_out (x : Int32) : (if 0 ≤ lg_cmp x.toInt64 0 then (if lg_cmp x.toInt64 999999 ≤ 0 then x.toInt64.toInt32 else 999999) else 0) = jmax 0 (jmin 999999 x) := by
  have e1 : (0 ≤ lg_cmp x.toInt64 0) ↔ 0 ≤ x := by
    rw [lg_cmp_ge, Int64.le_iff_toInt_le, Int32.le_iff_toInt_le, Int32.toInt_toInt64]
    exact Iff.rfl
  have e2 : (lg_cmp x.toInt64 999999 ≤ 0) ↔ x ≤ 999999 := by
    rw [lg_cmp_le, Int64.le_iff_toInt_le, Int32.le_iff_toInt_le, Int32.toInt_toInt64]
    exact Iff.rfl
  unfold jmax jmin
  by_cases h1 : 0 ≤ x
  · rw [if_pos (e1.mpr h1)]
    by_cases h2 : x ≤ 999999
    · rw [if_pos (e2.mpr h2), Int32.toInt32_toInt64]
      by_cases h3 : x < 999999
      · rw [if_pos h3]
        by_cases h4 : 0 < x
        · rw [if_pos h4]
        · rw [if_neg h4]
          exact Int32.le_antisymm (Int32.not_lt.mp h4) h1
      · rw [if_neg h3, if_pos (by decide)]
        exact Int32.le_antisymm h2 (Int32.not_lt.mp h3)
    · rw [if_neg (fun z => h2 (e2.mp z)), if_neg (fun z => h2 (Int32.le_of_lt z)), if_pos (by decide)]
  · rw [if_neg (fun z => h1 (e1.mp z))]
    have h3 : x < 999999 := Int32.lt_of_lt_of_le (Int32.not_le.mp h1) (by decide)
    rw [if_pos h3, if_neg (fun z => h1 (Int32.le_of_lt z))]
theorem bits_b {fa : Nat} (h : fa < 128) : B8 (nI (bits 8 fa)) := by
  have h9 : ∀ n : Fin 128, bits 8 n.1 ≤ 8 := by decide +kernel
  have h8 : bits 8 fa ≤ 8 := h9 ⟨fa, h⟩
  unfold B8
  rw [nI_toInt (by omega)]
  omega
