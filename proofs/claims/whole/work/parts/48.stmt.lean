/-! READING: statements, whole texts -/
/-- what a reading holds: the data, how many credits, how many holidays -/
abbrev Dt : Type := (Nat → Int32) × Nat × Nat
noncomputable def bdF (bf : Nat → Int32) (n s : Nat) (x : Dt) : Except Er (Nat × Dt) :=
  @ite _ (isW bf n s (txt 0)) (Classical.propDecidable _) (match hoF bf n (n + 1) (spc bf n (s + (txt 0).length)) x.1 x.2.2 with
    | .error e => .error e
    | .ok (s', d', k) => .ok (s', d', x.2.1, k))
  (@ite _ (isW bf n s (txt 1)) (Classical.propDecidable _) (if x.2.1 = 12 then .error (-4, s) else match cdF bf n (spc bf n (s + (txt 1).length)) with
    | .error e => .error e
    | .ok (s', L) => .ok (s', crD x.1 x.2.1 L, x.2.1 + 1, x.2.2))
  (@ite _ (isW bf n s (txt 5)) (Classical.propDecidable _) (if x.1 4 = 1 then .error (-2, s) else match smF bf n (fcF bf n 4) (spc bf n (s + (txt 5).length)) with
    | .error e => .error e
    | .ok (s', L) => .ok (s', emC (upd x.1 4 1) (exL L), x.2.1, x.2.2))
  (.error (-2, s))))
noncomputable def stF (bf : Nat → Int32) (n s : Nat) (x : Dt) : Except Er (Nat × Dt) := match bdF bf n s x with
  | .error e => .error e
  | .ok (s', y) => match syF bf n 59 s' with
    | .error e => .error e
    | .ok s2 => .ok (s2, y)
noncomputable def lpS (bf : Nat → Int32) (n : Nat) : Nat → Nat → Dt → Except Er (Nat × Dt)
  | 0, s, x => .ok (s, x)
  | j + 1, s, x => if n ≤ s then .ok (s, x) else match stF bf n s x with
    | .error e => .error e
    | .ok (s', y) => lpS bf n j s' y
/-- a whole text -/
noncomputable def ldF (bf : Nat → Int32) (n : Nat) : Except Er (Nat × Dt) := lpS bf n (n + 1) (spc bf n 0) ((fun _ => 0), 0, 0)
section BDF
variable {bf : Nat → Int32} {n s s' s2 k j : Nat} {x y : Dt} {d' : Nat → Int32} {L : List Int32} {e : Er}
theorem bdF_h (h : isW bf n s (txt 0)) (h2 : hoF bf n (n + 1) (spc bf n (s + (txt 0).length)) x.1 x.2.2 = .ok (s', d', k)) : bdF bf n s x = .ok (s', d', x.2.1, k) := by unfold bdF; rw [if_pos h, h2]
theorem bdF_he (h : isW bf n s (txt 0)) (h2 : hoF bf n (n + 1) (spc bf n (s + (txt 0).length)) x.1 x.2.2 = .error e) : bdF bf n s x = .error e := by unfold bdF; rw [if_pos h, h2]
theorem bdF_cx (h0 : ¬ isW bf n s (txt 0)) (h : isW bf n s (txt 1)) (h2 : x.2.1 = 12) : bdF bf n s x = .error (-4, s) := by unfold bdF; rw [if_neg h0, if_pos h, if_pos h2]
theorem bdF_c (h0 : ¬ isW bf n s (txt 0)) (h : isW bf n s (txt 1)) (h2 : ¬ x.2.1 = 12) (h3 : cdF bf n (spc bf n (s + (txt 1).length)) = .ok (s', L)) : bdF bf n s x = .ok (s', crD x.1 x.2.1 L, x.2.1 + 1, x.2.2) := by unfold bdF; rw [if_neg h0, if_pos h, if_neg h2, h3]
theorem bdF_ce (h0 : ¬ isW bf n s (txt 0)) (h : isW bf n s (txt 1)) (h2 : ¬ x.2.1 = 12) (h3 : cdF bf n (spc bf n (s + (txt 1).length)) = .error e) : bdF bf n s x = .error e := by unfold bdF; rw [if_neg h0, if_pos h, if_neg h2, h3]
theorem bdF_fx (h0 : ¬ isW bf n s (txt 0)) (h1 : ¬ isW bf n s (txt 1)) (h : isW bf n s (txt 5)) (h2 : x.1 4 = 1) : bdF bf n s x = .error (-2, s) := by unfold bdF; rw [if_neg h0, if_neg h1, if_pos h, if_pos h2]
theorem bdF_f (h0 : ¬ isW bf n s (txt 0)) (h1 : ¬ isW bf n s (txt 1)) (h : isW bf n s (txt 5)) (h2 : ¬ x.1 4 = 1) (h3 : smF bf n (fcF bf n 4) (spc bf n (s + (txt 5).length)) = .ok (s', L)) : bdF bf n s x = .ok (s', emC (upd x.1 4 1) (exL L), x.2.1, x.2.2) := by unfold bdF; rw [if_neg h0, if_neg h1, if_pos h, if_neg h2, h3]
theorem bdF_fe (h0 : ¬ isW bf n s (txt 0)) (h1 : ¬ isW bf n s (txt 1)) (h : isW bf n s (txt 5)) (h2 : ¬ x.1 4 = 1) (h3 : smF bf n (fcF bf n 4) (spc bf n (s + (txt 5).length)) = .error e) : bdF bf n s x = .error e := by unfold bdF; rw [if_neg h0, if_neg h1, if_pos h, if_neg h2, h3]
theorem bdF_n (h0 : ¬ isW bf n s (txt 0)) (h1 : ¬ isW bf n s (txt 1)) (h5 : ¬ isW bf n s (txt 5)) : bdF bf n s x = .error (-2, s) := by unfold bdF; rw [if_neg h0, if_neg h1, if_neg h5]
theorem stF_e (h : bdF bf n s x = .error e) : stF bf n s x = .error e := by simp only [stF, h]
theorem stF_x (h : bdF bf n s x = .ok (s', y)) (h2 : syF bf n 59 s' = .error e) : stF bf n s x = .error e := by simp only [stF, h, h2]
theorem stF_o (h : bdF bf n s x = .ok (s', y)) (h2 : syF bf n 59 s' = .ok s2) : stF bf n s x = .ok (s2, y) := by simp only [stF, h, h2]
theorem lpS_n (h : n ≤ s) : lpS bf n (j + 1) s x = .ok (s, x) := if_pos h
theorem lpS_e (h : ¬ n ≤ s) (h2 : stF bf n s x = .error e) : lpS bf n (j + 1) s x = .error e := by
  unfold lpS
  rw [if_neg h, h2]
theorem lpS_o (h : ¬ n ≤ s) (h2 : stF bf n s x = .ok (s', y)) : lpS bf n (j + 1) s x = lpS bf n j s' y := by
  conv => lhs; unfold lpS
  rw [if_neg h, h2]
end BDF
/-! what reading keeps -/
/-- data in the making: counts, marks, each credit, each holiday -/
def LD (x : Dt) : Prop := OkD x.1 x.2.1 0 x.2.2 ∧ x.1 3 = 0 ∧ ((x.1 4 = 0 ∧ x.1 5 = 0) ∨ (x.1 4 = 1 ∧ ∃ L, FeR x.1 L))
theorem LD.c0 {x : Dt} (h : LD x) : x.1 0 = nI x.2.1 ∧ x.2.1 ≤ 12 := h.1.1
theorem LD.h2 {x : Dt} (h : LD x) : x.1 2 = nI x.2.2 ∧ x.2.2 ≤ 16 := h.1.2.2.1
theorem LD.s4 {x : Dt} (h : LD x) : (x.1 4 = 0 ∧ x.1 5 = 0) ∨ x.1 4 = 1 := h.2.2.elim Or.inl (fun z => Or.inr z.1)
theorem LD_0 : LD ((fun _ => 0), 0, 0) := ⟨⟨⟨rfl, by decide⟩, ⟨rfl, by decide⟩, ⟨rfl, by decide⟩, ⟨0, by decide, rfl⟩, fun c h => absurd h (Nat.not_lt_zero c), fun c h => absurd h (Nat.not_lt_zero c), fun c h => absurd h (Nat.not_lt_zero c), fun c _ h => absurd h (Nat.not_lt_zero c)⟩, rfl, Or.inl ⟨rfl, rfl⟩⟩
theorem hoD_o {d : Nat → Int32} {nh j : Nat} {v : Int32} (h1 : j ≠ 2) (h2 : j ≠ 6 + nh) : hoD d nh v j = d j := by
  unfold hoD
  rw [pk_un h1, pk_un h2]
theorem hs1_inv {bf : Nat → Int32} {n s s' nh : Nat} {d : Nat → Int32} {v : Int32} (h : hs1 bf n s d nh = .ok (s', v)) : numF bf n 0 999 s = .ok (s', v) ∧ ¬ hol d v.toNatClampNeg nh = true ∧ ¬ nh = 16 := by
  cases hn : numF bf n 0 999 s with
  | error e => rw [hs1_er hn] at h; cases h
  | ok q =>
    obtain ⟨a, b⟩ := q
    by_cases h2 : hol d b.toNatClampNeg nh = true
    · rw [hs1_tw hn h2] at h; cases h
    · by_cases h3 : nh = 16
      · rw [hs1_fu hn h2 h3] at h; cases h
      · rw [hs1_ok hn h2 h3] at h
        cases h
        exact ⟨rfl, h2, h3⟩
/-- one holiday more -/
theorem LD.ho {bf : Nat → Int32} {n s s' : Nat} {x : Dt} {v : Int32} (hB : ByO bf) (hs : s ≤ n) (hx : LD x) (h : hs1 bf n s x.1 x.2.2 = .ok (s', v)) : LD (hoD x.1 x.2.2 v, x.2.1, x.2.2 + 1) ∧ s < s' ∧ s' ≤ n := by
  obtain ⟨h1, h2, h3⟩ := hs1_inv h
  have hb := numF_b hB hs h1
  obtain ⟨a, ea, -, ha⟩ := numF_v (lo := 0) (hi := 999) hB hs (by decide) (by decide) h1
  obtain ⟨⟨⟨k1, k2⟩, ⟨k3, k4⟩, ⟨k5, k6⟩, k7, k8, k9, k10, k11⟩, k12, k13⟩ := hx
  have hc : x.2.1 ≤ 12 := k2
  have hh : x.2.2 ≤ 16 := k6
  have hnew : hoD x.1 x.2.2 v (6 + x.2.2) = v := by
    unfold hoD
    rw [pk_un (by omega), pk_us]
  refine ⟨⟨⟨⟨?_, k2⟩, ⟨?_, k4⟩, ⟨show upd (upd x.1 (6 + x.2.2) v) 2 (nI (x.2.2 + 1)) 2 = nI (x.2.2 + 1) from pk_us, by show x.2.2 + 1 ≤ 16; omega⟩, ?_, ?_, fun c h => absurd h (Nat.not_lt_zero c), ?_, ?_⟩, ?_, ?_⟩, hb.1, hb.2.1⟩
  · show hoD x.1 x.2.2 v 0 = _
    rw [hoD_o (by omega) (by omega)]; exact k1
  · show hoD x.1 x.2.2 v 1 = _
    rw [hoD_o (by omega) (by omega)]; exact k3
  · show ∃ td, td ≤ 9000 ∧ hoD x.1 x.2.2 v 3 = _
    rw [hoD_o (by omega) (by omega)]; exact k7
  · intro c hcc
    have hcc : c < x.2.1 := hcc
    have e : ∀ i, i < 11 → hoD x.1 x.2.2 v (22 + 11 * c + i) = x.1 (22 + 11 * c + i) := fun i _ => hoD_o (by omega) (by omega)
    obtain ⟨w1, w2, w3, w4, z⟩ := k8 c hcc
    refine ⟨w1, w2, w3, w4, ?_⟩
    show hoD x.1 x.2.2 v (22 + 11 * c + 3) = _ ∧ _ ∧ hoD x.1 x.2.2 v (22 + 11 * c + 5) = _ ∧ _ ∧ hoD x.1 x.2.2 v (22 + 11 * c + 6) = _ ∧ _ ∧ hoD x.1 x.2.2 v (22 + 11 * c + 9) = _ ∧ _ ∧ (hoD x.1 x.2.2 v (22 + 11 * c + 7) = 0 ∨ hoD x.1 x.2.2 v (22 + 11 * c + 7) = 1) ∧ (hoD x.1 x.2.2 v (22 + 11 * c + 8) = 0 ∨ hoD x.1 x.2.2 v (22 + 11 * c + 8) = 1)
    rw [e 3 (by omega), e 5 (by omega), e 6 (by omega), e 9 (by omega), e 7 (by omega), e 8 (by omega)]
    exact z
  · intro k hk
    have hk : k < x.2.2 + 1 := hk
    show ∃ h, h ≤ 999 ∧ hoD x.1 x.2.2 v (6 + k) = nI h
    by_cases e : k = x.2.2
    · rw [e, hnew]; exact ⟨a, ha, ea⟩
    · rw [hoD_o (by omega) (by omega)]
      exact k10 k (by omega)
  · intro i j hi hj
    have hi : i < x.2.2 + 1 := hi
    have hj : j < x.2.2 + 1 := hj
    show hoD x.1 x.2.2 v (6 + i) = hoD x.1 x.2.2 v (6 + j) → i = j
    have nov : ∀ k, k < x.2.2 → ¬ x.1 (6 + k) = v := fun k hk z => h2 (hol_iff.mpr ⟨k, hk, by rw [z, ea, nI_clamp (by omega)]⟩)
    by_cases e1 : i = x.2.2
    · by_cases e2 : j = x.2.2
      · intro _; omega
      · rw [e1, hnew, hoD_o (j := 6 + j) (by omega) (by omega)]
        exact fun z => absurd z.symm (nov j (by omega))
    · rw [hoD_o (j := 6 + i) (by omega) (by omega)]
      by_cases e2 : j = x.2.2
      · rw [e2, hnew]
        exact fun z => absurd z (nov i (by omega))
      · rw [hoD_o (j := 6 + j) (by omega) (by omega)]
        exact k11 i j (by omega) (by omega)
  · show hoD x.1 x.2.2 v 3 = 0
    rw [hoD_o (by omega) (by omega)]; exact k12
  · have e4 : hoD x.1 x.2.2 v 4 = x.1 4 := hoD_o (by omega) (by omega)
    have e5 : hoD x.1 x.2.2 v 5 = x.1 5 := hoD_o (by omega) (by omega)
    show (hoD x.1 x.2.2 v 4 = 0 ∧ hoD x.1 x.2.2 v 5 = 0) ∨ (hoD x.1 x.2.2 v 4 = 1 ∧ ∃ L, FeR (hoD x.1 x.2.2 v) L)
    rw [e4, e5]
    rcases k13 with z | ⟨z, L, zL⟩
    · exact Or.inl z
    · refine Or.inr ⟨z, L, ?_⟩
      unfold FeR at zL ⊢
      rw [e5]
      exact ⟨zL.1, zL.2.1, fun j hj => by rw [hoD_o (by omega) (by omega)]; exact zL.2.2.1 j hj, zL.2.2.2⟩
theorem ld_hoF {bf : Nat → Int32} {n : Nat} (hB : ByO bf) : ∀ (j s : Nat) (x : Dt) (s' : Nat) (d' : Nat → Int32) (k : Nat), s ≤ n → LD x → hoF bf n j s x.1 x.2.2 = .ok (s', d', k) → LD (d', x.2.1, k) ∧ s < s' ∧ s' ≤ n ∧ d' 4 = x.1 4 ∧ x.2.2 < k
  | 0, s, x, s', d', k, hs, hx, h => by
    cases h1 : hs1 bf n s x.1 x.2.2 with
    | error e => simp only [hoF, h1] at h; cases h
    | ok q =>
      obtain ⟨s1, v⟩ := q
      simp only [hoF, h1] at h
      cases h
      have q := LD.ho hB hs hx h1
      have := hx.h2.2
      exact ⟨q.1, q.2.1, q.2.2, hoD_o (by omega) (by omega), by omega⟩
  | j + 1, s, x, s', d', k, hs, hx, h => by
    cases h1 : hs1 bf n s x.1 x.2.2 with
    | error e => rw [hoF_er h1] at h; cases h
    | ok q =>
      obtain ⟨s1, v⟩ := q
      have q := LD.ho hB hs hx h1
      have := hx.h2.2
      by_cases h3 : inV (bt bf n s1) 48 57 = 1
      · rw [hoF_go h1 h3] at h
        have z := ld_hoF hB j s1 (hoD x.1 x.2.2 v, x.2.1, x.2.2 + 1) s' d' k q.2.2 q.1 h
        exact ⟨z.1, by omega, z.2.2.1, z.2.2.2.1.trans (show hoD x.1 x.2.2 v 4 = x.1 4 from hoD_o (by omega) (by omega)), Nat.lt_of_succ_lt z.2.2.2.2⟩
      · rw [hoF_end h1 h3] at h
        cases h
        exact ⟨q.1, q.2.1, q.2.2, hoD_o (by omega) (by omega), by omega⟩
/-- one credit more -/
theorem crD_lo {d : Nat → Int32} {nc j : Nat} {L : List Int32} (h0 : j ≠ 0) (h : j < 22 + 11 * nc) : crD d nc L j = d j := by
  unfold crD
  rw [if_neg h0, if_neg (by omega), if_neg (by omega)]
theorem crD_hi {d : Nat → Int32} {nc j : Nat} {L : List Int32} (h : 22 + 11 * nc + 11 ≤ j) : crD d nc L j = d j := by
  unfold crD
  rw [if_neg (by omega), if_neg (by omega), if_neg (by omega)]
theorem crD_at {d : Nat → Int32} {nc i : Nat} {L : List Int32} (h : i < 10) : crD d nc L (22 + 11 * nc + i) = L.getD i 0 := by
  unfold crD
  rw [if_neg (by omega), if_pos (by omega), show 22 + 11 * nc + i - (22 + 11 * nc) = i by omega]
theorem crD_pa {d : Nat → Int32} {nc : Nat} {L : List Int32} : crD d nc L (22 + 11 * nc + 10) = (-1) := by
  unfold crD
  rw [if_neg (by omega), if_neg (by omega), if_pos rfl]
/-- a credit's fields, as they are read -/
def CL (L : List Int32) : Prop := ∃ ex pe te nd : Nat, L.getD 3 0 = nI ex ∧ ex ≤ 999 ∧ L.getD 5 0 = nI pe ∧ pe ≤ 60 ∧ L.getD 6 0 = nI te ∧ te ≤ 180 ∧ L.getD 9 0 = nI nd ∧ nd < 256 ∧ (L.getD 7 0 = 0 ∨ L.getD 7 0 = 1) ∧ (L.getD 8 0 = 0 ∨ L.getD 8 0 = 1)
theorem LD.cr {x : Dt} {L : List Int32} (hx : LD x) (h12 : ¬ x.2.1 = 12) (hL : CL L) : LD (crD x.1 x.2.1 L, x.2.1 + 1, x.2.2) := by
  obtain ⟨⟨⟨k1, k2⟩, ⟨k3, k4⟩, ⟨k5, k6⟩, k7, k8, k9, k10, k11⟩, k12, k13⟩ := hx
  have hc : x.2.1 ≤ 12 := k2
  have hh : x.2.2 ≤ 16 := k6
  refine ⟨⟨⟨show crD x.1 x.2.1 L 0 = nI (x.2.1 + 1) from if_pos rfl, by show x.2.1 + 1 ≤ 12; omega⟩, ⟨?_, k4⟩, ⟨?_, k6⟩, ?_, ?_, fun c h => absurd h (Nat.not_lt_zero c), ?_, ?_⟩, ?_, ?_⟩
  · show crD x.1 x.2.1 L 1 = _
    rw [crD_lo (by omega) (by omega)]; exact k3
  · show crD x.1 x.2.1 L 2 = _
    rw [crD_lo (by omega) (by omega)]; exact k5
  · show ∃ td, td ≤ 9000 ∧ crD x.1 x.2.1 L 3 = _
    rw [crD_lo (by omega) (by omega)]; exact k7
  · intro c hcc
    have hcc : c < x.2.1 + 1 := hcc
    show ∃ ex pe te nd : Nat, crD x.1 x.2.1 L (22 + 11 * c + 3) = nI ex ∧ ex ≤ 999 ∧ crD x.1 x.2.1 L (22 + 11 * c + 5) = nI pe ∧ pe ≤ 60 ∧ crD x.1 x.2.1 L (22 + 11 * c + 6) = nI te ∧ te ≤ 180 ∧ crD x.1 x.2.1 L (22 + 11 * c + 9) = nI nd ∧ nd < 256 ∧ (crD x.1 x.2.1 L (22 + 11 * c + 7) = 0 ∨ crD x.1 x.2.1 L (22 + 11 * c + 7) = 1) ∧ (crD x.1 x.2.1 L (22 + 11 * c + 8) = 0 ∨ crD x.1 x.2.1 L (22 + 11 * c + 8) = 1)
    by_cases e : c = x.2.1
    · rw [e, crD_at (by omega), crD_at (by omega), crD_at (by omega), crD_at (by omega), crD_at (by omega), crD_at (by omega)]
      exact hL
    · have q : ∀ i, i < 11 → crD x.1 x.2.1 L (22 + 11 * c + i) = x.1 (22 + 11 * c + i) := fun i _ => crD_lo (by omega) (by omega)
      rw [q 3 (by omega), q 5 (by omega), q 6 (by omega), q 9 (by omega), q 7 (by omega), q 8 (by omega)]
      exact k8 c (by omega)
  · intro k hk
    have hk : k < x.2.2 := hk
    show ∃ h, h ≤ 999 ∧ crD x.1 x.2.1 L (6 + k) = nI h
    rw [crD_lo (by omega) (by omega)]
    exact k10 k hk
  · intro i j hi hj
    have hi : i < x.2.2 := hi
    have hj : j < x.2.2 := hj
    show crD x.1 x.2.1 L (6 + i) = crD x.1 x.2.1 L (6 + j) → i = j
    rw [crD_lo (by omega) (by omega), crD_lo (by omega) (by omega)]
    exact k11 i j hi hj
  · show crD x.1 x.2.1 L 3 = 0
    rw [crD_lo (by omega) (by omega)]; exact k12
  · have e4 : crD x.1 x.2.1 L 4 = x.1 4 := crD_lo (by omega) (by omega)
    have e5 : crD x.1 x.2.1 L 5 = x.1 5 := crD_lo (by omega) (by omega)
    show (crD x.1 x.2.1 L 4 = 0 ∧ crD x.1 x.2.1 L 5 = 0) ∨ (crD x.1 x.2.1 L 4 = 1 ∧ ∃ M, FeR (crD x.1 x.2.1 L) M)
    rw [e4, e5]
    rcases k13 with z | ⟨z, M, zL⟩
    · exact Or.inl z
    · refine Or.inr ⟨z, M, ?_⟩
      unfold FeR at zL ⊢
      rw [e5]
      exact ⟨zL.1, zL.2.1, fun j hj => by rw [crD_hi (by omega)]; exact zL.2.2.1 j hj, zL.2.2.2⟩
/-- a fee rule -/
theorem emC_o {d : Nat → Int32} {C : List Int32} {j : Nat} (h5 : j ≠ 5) (h : j < 298) : emC d C j = d j := by
  unfold emC
  rw [if_neg h5, if_neg (by omega)]
theorem emC_c {d : Nat → Int32} {C : List Int32} {j : Nat} (h : j < C.length) : emC d C (298 + j) = C.getD j 0 := by
  unfold emC
  rw [if_neg (by omega), if_pos (by omega), show 298 + j - 298 = j by omega]
theorem FeR_em {d : Nat → Int32} {n s s' : Nat} {L : List Int32} (hn : n ≤ 900) (h : Ge n s s' L 11) : FeR (emC d (exL L)) L := by
  obtain ⟨h1, h2, h3, h4, h5, h6⟩ := h
  refine ⟨emC_5 _ _, by omega, fun j hj => emC_c hj, ?_, by omega, h6⟩
  have := h5 0 [] (by omega)
  rw [List.append_nil] at this
  rw [this]
  rfl
theorem LD.fe {x : Dt} {n s s' : Nat} {L : List Int32} (hx : LD x) (hn : n ≤ 900) (h : Ge n s s' L 11) : LD (emC (upd x.1 4 1) (exL L), x.2.1, x.2.2) := by
  obtain ⟨⟨⟨k1, k2⟩, ⟨k3, k4⟩, ⟨k5, k6⟩, k7, k8, k9, k10, k11⟩, k12, k13⟩ := hx
  have hc : x.2.1 ≤ 12 := k2
  have hh : x.2.2 ≤ 16 := k6
  have q : ∀ j, j ≠ 4 → j ≠ 5 → j < 298 → emC (upd x.1 4 1) (exL L) j = x.1 j := fun j h4 h5 h => by rw [emC_o h5 h, pk_un h4]
  refine ⟨⟨⟨?_, k2⟩, ⟨?_, k4⟩, ⟨?_, k6⟩, ?_, ?_, fun c h => absurd h (Nat.not_lt_zero c), ?_, ?_⟩, ?_, Or.inr ⟨?_, L, FeR_em hn h⟩⟩
  · show emC (upd x.1 4 1) (exL L) 0 = _
    rw [q 0 (by omega) (by omega) (by omega)]; exact k1
  · show emC (upd x.1 4 1) (exL L) 1 = _
    rw [q 1 (by omega) (by omega) (by omega)]; exact k3
  · show emC (upd x.1 4 1) (exL L) 2 = _
    rw [q 2 (by omega) (by omega) (by omega)]; exact k5
  · show ∃ td, td ≤ 9000 ∧ emC (upd x.1 4 1) (exL L) 3 = _
    rw [q 3 (by omega) (by omega) (by omega)]; exact k7
  · intro c hcc
    have hcc : c < x.2.1 := hcc
    have e : ∀ i, i < 11 → emC (upd x.1 4 1) (exL L) (22 + 11 * c + i) = x.1 (22 + 11 * c + i) := fun i _ => q _ (by omega) (by omega) (by omega)
    obtain ⟨w1, w2, w3, w4, z⟩ := k8 c hcc
    refine ⟨w1, w2, w3, w4, ?_⟩
    show emC (upd x.1 4 1) (exL L) (22 + 11 * c + 3) = _ ∧ _ ∧ emC (upd x.1 4 1) (exL L) (22 + 11 * c + 5) = _ ∧ _ ∧ emC (upd x.1 4 1) (exL L) (22 + 11 * c + 6) = _ ∧ _ ∧ emC (upd x.1 4 1) (exL L) (22 + 11 * c + 9) = _ ∧ _ ∧ (emC (upd x.1 4 1) (exL L) (22 + 11 * c + 7) = 0 ∨ emC (upd x.1 4 1) (exL L) (22 + 11 * c + 7) = 1) ∧ (emC (upd x.1 4 1) (exL L) (22 + 11 * c + 8) = 0 ∨ emC (upd x.1 4 1) (exL L) (22 + 11 * c + 8) = 1)
    rw [e 3 (by omega), e 5 (by omega), e 6 (by omega), e 9 (by omega), e 7 (by omega), e 8 (by omega)]
    exact z
  · intro k hk
    have hk : k < x.2.2 := hk
    show ∃ h, h ≤ 999 ∧ emC (upd x.1 4 1) (exL L) (6 + k) = nI h
    rw [q _ (by omega) (by omega) (by omega)]
    exact k10 k hk
  · intro i j hi hj
    have hi : i < x.2.2 := hi
    have hj : j < x.2.2 := hj
    show emC (upd x.1 4 1) (exL L) (6 + i) = emC (upd x.1 4 1) (exL L) (6 + j) → i = j
    rw [q _ (by omega) (by omega) (by omega), q _ (by omega) (by omega) (by omega)]
    exact k11 i j hi hj
  · show emC (upd x.1 4 1) (exL L) 3 = 0
    rw [q 3 (by omega) (by omega) (by omega)]; exact k12
  · show emC (upd x.1 4 1) (exL L) 4 = 1
    rw [emC_o (by omega) (by omega), pk_us]
/-! a credit's fields come out of its reading -/
theorem wdL_inv {bf : Nat → Int32} {n s' : Nat} {w L' : List Int32} {r : Rr} (h : wdL bf n w r = .ok (s', L')) : ∃ s L, r = .ok (s, L) ∧ ((isW bf n s w ∧ s' = spc bf n (s + w.length) ∧ L' = L ++ [1]) ∨ (¬ isW bf n s w ∧ s' = s ∧ L' = L ++ [0])) := by
  match r, h with
  | .ok (s, L), h =>
    by_cases hw : isW bf n s w
    · rw [wdL_ok hw] at h
      cases h
      exact ⟨_, _, rfl, Or.inl ⟨hw, rfl, rfl⟩⟩
    · rw [wdL_no hw] at h
      cases h
      exact ⟨_, _, rfl, Or.inr ⟨hw, rfl, rfl⟩⟩
theorem bit_sh : ∀ b : Fin 8, (1 : Int32) <<< (nI b.1 &&& 31) = nI (2 ^ b.1) := by decide +kernel
theorem bit_or {a b : Nat} (ha : a < 256) (hb : b < 8) : ∃ c, c < 256 ∧ nI a ||| 1 <<< (nI b &&& 31) = nI c := by
  refine ⟨a ||| 2 ^ b, ?_, by rw [bit_sh ⟨b, hb⟩, nI_or]⟩
  have h2 : 2 ^ b < 2 ^ 8 := Nat.pow_lt_pow_right (by decide) hb
  exact Nat.or_lt_two_pow (n := 8) ha h2
theorem ndF_b {bf : Nat → Int32} {n : Nat} (hB : ByO bf) : ∀ (j s : Nat) (a s' : Nat) (v : Int32), s ≤ n → a < 256 → ndF bf n j s (nI a) = .ok (s', v) → s < s' ∧ s' ≤ n ∧ ∃ c, c < 256 ∧ v = nI c
  | j, s, a, s', v, hs, ha, h => by
    cases h1 : numF bf n 0 7 s with
    | error e =>
      cases j with
      | zero => simp only [ndF, nd1, h1] at h; cases h
      | succ j => rw [ndF_er h1] at h; cases h
    | ok q =>
      obtain ⟨s1, w⟩ := q
      have hb := numF_b hB hs h1
      obtain ⟨b, eb, -, hb7⟩ := numF_v (lo := 0) (hi := 7) hB hs (by decide) (by decide) h1
      obtain ⟨c, c2, hc0⟩ := bit_or (a := a) (b := b) ha (by omega)
      have hc : nI a ||| 1 <<< (w &&& 31) = nI c := by rw [eb]; exact hc0
      by_cases h2 : nI a >>> (w &&& 31) &&& 1 = 1
      · cases j with
        | zero => simp only [ndF, nd1, h1, if_pos h2] at h; cases h
        | succ j => rw [ndF_tw h1 h2] at h; cases h
      · cases j with
        | zero =>
          simp only [ndF, nd1, h1, if_neg h2] at h
          cases h
          exact ⟨hb.1, hb.2.1, c, c2, hc⟩
        | succ j =>
          by_cases h3 : inV (bt bf n s1) 48 57 = 1
          · rw [ndF_go h1 h2 h3, hc] at h
            have z := ndF_b hB j s1 c s' v hb.2.1 c2 h
            exact ⟨by omega, z.2⟩
          · rw [ndF_end h1 h2 h3] at h
            cases h
            exact ⟨hb.1, hb.2.1, c, c2, hc⟩
theorem cdF_ok {bf : Nat → Int32} {n s s' : Nat} {L : List Int32} (hB : ByO bf) (hs : s ≤ n) (h : cdF bf n s = .ok (s', L)) : s < s' ∧ s' ≤ n ∧ CL L := by
  have key : ∃ s8 L8 nd, wdL bf n (txt 3) (wdL bf n (txt 2) (nbL bf n 0 180 (nbL bf n 1 60 (nbL bf n 0 999 (nbL bf n 0 999 (nbL bf n 0 10 (nbL bf n 0 10 (nbL bf n 1 999999 (.ok (s, [])))))))))) = .ok (s8, L8) ∧ (s8 ≤ n → s8 ≤ s' ∧ s' ≤ n) ∧ nd < 256 ∧ L = L8 ++ [nI nd] := by
    unfold cdF at h
    generalize hr : wdL bf n (txt 3) (wdL bf n (txt 2) (nbL bf n 0 180 (nbL bf n 1 60 (nbL bf n 0 999 (nbL bf n 0 999 (nbL bf n 0 10 (nbL bf n 0 10 (nbL bf n 1 999999 (.ok (s, [])))))))))) = r at h
    match r, h with
    | .ok (s8, L8), h =>
      by_cases hw : isW bf n s8 (txt 4)
      · cases hd : ndF bf n (n + 1) (spc bf n (s8 + (txt 4).length)) 0 with
        | error e => rw [ndL_er hw hd] at h; cases h
        | ok q =>
          obtain ⟨s9, v9⟩ := q
          rw [ndL_ok hw hd] at h
          cases h
          by_cases h8 : s8 ≤ n
          · have h1 := isW_le hw (isL_p (txt_L (i := 4) (by decide))) h8
            have h2 := sk_b (bf := bf) h1
            obtain ⟨z1, z2, c, z3, z4⟩ := ndF_b hB (n + 1) _ 0 s' v9 h2.2 (by omega) hd
            exact ⟨s8, L8, c, rfl, fun _ => ⟨by omega, z2⟩, z3, by rw [z4]⟩
          · have hlt := bt_lt (hw.1 0 (txt_L (i := 4) (by decide)).1) (isL_p (txt_L (i := 4) (by decide)) 0 (txt_L (i := 4) (by decide)).1)
            omega
      · rw [ndL_no (fun s9 L9 z => by cases z; exact hw), wdL_no hw] at h
        cases h
        exact ⟨_, _, 0, rfl, fun h8 => ⟨Nat.le_refl _, h8⟩, by omega, rfl⟩
  obtain ⟨s8, L8, nd, r8, hle, hnd, q8⟩ := key
  subst q8
  obtain ⟨s7, L7, r7, h7⟩ := wdL_inv r8
  obtain ⟨s6, L6, r6, h6⟩ := wdL_inv r7
  obtain ⟨s5, L5, v5, r5, n5, q5⟩ := nbL_inv r6
  obtain ⟨s4, L4, v4, r4, n4, q4⟩ := nbL_inv r5
  obtain ⟨s3, L3, v3, r3, n3, q3⟩ := nbL_inv r4
  obtain ⟨s2, L2, v2, r2, n2, q2⟩ := nbL_inv r3
  obtain ⟨s1, L1, v1, r1, n1, q1⟩ := nbL_inv r2
  obtain ⟨s0, L0, v0, r0, n0, q0⟩ := nbL_inv r1
  obtain ⟨sz, Lz, vz, rz, nz, qz⟩ := nbL_inv r0
  cases rz
  subst qz q0 q1 q2 q3 q4 q5
  have bz := numF_b hB hs nz
  have b0 := numF_b hB bz.2.1 n0
  have b1 := numF_b hB b0.2.1 n1
  have b2 := numF_b hB b1.2.1 n2
  have b3 := numF_b hB b2.2.1 n3
  have b4 := numF_b hB b3.2.1 n4
  have b5 := numF_b hB b4.2.1 n5
  obtain ⟨ex, e2, -, g2⟩ := numF_v (lo := 0) (hi := 999) hB b1.2.1 (by decide) (by decide) n2
  obtain ⟨pe, e4, -, g4⟩ := numF_v (lo := 1) (hi := 60) hB b3.2.1 (by decide) (by decide) n4
  obtain ⟨te, e5, -, g5⟩ := numF_v (lo := 0) (hi := 180) hB b4.2.1 (by decide) (by decide) n5
  have w6 : s6 ≤ s7 ∧ s7 ≤ n ∧ ∃ u, L7 = [vz, v0, v1, v2, v3, v4, v5] ++ [u] ∧ (u = 0 ∨ u = 1) := by
    rcases h6 with ⟨a, b, c⟩ | ⟨a, b, c⟩
    · have h1 := isW_le a (isL_p (txt_L (i := 2) (by decide))) b5.2.1
      have h2 := sk_b (bf := bf) h1
      exact ⟨by omega, by omega, 1, c, Or.inr rfl⟩
    · exact ⟨by omega, by have := b5.2.1; omega, 0, c, Or.inl rfl⟩
  obtain ⟨w1, w2, u6, rfl, w3⟩ := w6
  have w7 : s7 ≤ s8 ∧ s8 ≤ n ∧ ∃ u, L8 = ([vz, v0, v1, v2, v3, v4, v5] ++ [u6]) ++ [u] ∧ (u = 0 ∨ u = 1) := by
    rcases h7 with ⟨a, b, c⟩ | ⟨a, b, c⟩
    · have h1 := isW_le a (isL_p (txt_L (i := 3) (by decide))) w2
      have h2 := sk_b (bf := bf) h1
      exact ⟨by omega, by omega, 1, c, Or.inr rfl⟩
    · exact ⟨by omega, by omega, 0, c, Or.inl rfl⟩
  obtain ⟨w4, w5, u7, rfl, w8⟩ := w7
  have hle := hle w5
  exact ⟨by omega, hle.2, ex, pe, te, nd, e2, g2, e4, g4, e5, g5, rfl, hnd, w3, w8⟩
theorem ld_bd {bf : Nat → Int32} {n s s' : Nat} {x y : Dt} (hB : ByO bf) (hn : n ≤ 900) (hs : s ≤ n) (hx : LD x) (h : bdF bf n s x = .ok (s', y)) : LD y ∧ s < s' ∧ s' ≤ n := by
  by_cases h0 : isW bf n s (txt 0)
  · have h1 := isW_le h0 (isL_p (txt_L (i := 0) (by decide))) hs
    have h2 := sk_b (bf := bf) h1
    cases hh : hoF bf n (n + 1) (spc bf n (s + (txt 0).length)) x.1 x.2.2 with
    | error e => rw [bdF_he h0 hh] at h; cases h
    | ok q =>
      obtain ⟨s1, d1, k1⟩ := q
      rw [bdF_h h0 hh] at h
      cases h
      have z := ld_hoF hB (n + 1) _ x _ _ _ h2.2 hx hh
      exact ⟨z.1, by omega, z.2.2.1⟩
  · by_cases h1 : isW bf n s (txt 1)
    · have e1 := isW_le h1 (isL_p (txt_L (i := 1) (by decide))) hs
      have e2 := sk_b (bf := bf) e1
      by_cases h12 : x.2.1 = 12
      · rw [bdF_cx h0 h1 h12] at h; cases h
      · cases hc : cdF bf n (spc bf n (s + (txt 1).length)) with
        | error e => rw [bdF_ce h0 h1 h12 hc] at h; cases h
        | ok q =>
          obtain ⟨s1, L1⟩ := q
          rw [bdF_c h0 h1 h12 hc] at h
          cases h
          have z := cdF_ok hB e2.2 hc
          exact ⟨hx.cr h12 z.2.2, by omega, z.2.1⟩
    · by_cases h5 : isW bf n s (txt 5)
      · have e1 := isW_le h5 (isL_p (txt_L (i := 5) (by decide))) hs
        have e2 := sk_b (bf := bf) e1
        by_cases h4 : x.1 4 = 1
        · rw [bdF_fx h0 h1 h5 h4] at h; cases h
        · cases hc : smF bf n (fcF bf n 4) (spc bf n (s + (txt 5).length)) with
          | error e => rw [bdF_fe h0 h1 h5 h4 hc] at h; cases h
          | ok q =>
            obtain ⟨s1, L1⟩ := q
            rw [bdF_f h0 h1 h5 h4 hc] at h
            cases h
            have z := (Gd_fc hB 4).sm _ _ _ e2.2 hc
            exact ⟨hx.fe hn z, by have := z.1; omega, z.2.1⟩
      · rw [bdF_n h0 h1 h5] at h; cases h
theorem ld_st {bf : Nat → Int32} {n s s' : Nat} {x y : Dt} (hB : ByO bf) (hn : n ≤ 900) (hs : s ≤ n) (hx : LD x) (h : stF bf n s x = .ok (s', y)) : LD y ∧ s < s' ∧ s' ≤ n := by
  cases hb : bdF bf n s x with
  | error e => rw [stF_e hb] at h; cases h
  | ok q =>
    obtain ⟨s1, y1⟩ := q
    have z := ld_bd hB hn hs hx hb
    cases hy : syF bf n 59 s1 with
    | error e => rw [stF_x hb hy] at h; cases h
    | ok s2 =>
      rw [stF_o hb hy] at h
      cases h
      have w := syF_b (by decide) hy
      exact ⟨z.1, by omega, w.2.1⟩
