/-! READING: the class's small readers, good or not -/
theorem numF_ok {bf : Nat → Int32} {n s : Nat} {lo hi : Int32} (hB : ByO bf) (hr : Rg lo hi) (h1 : kd bf n s = 1001) (h2 : inV (va bf n s) lo hi = 1) : numF bf n lo hi s = .ok (spc bf n (te bf n s), va bf n s) := by
  obtain ⟨e1, e2⟩ := va_in hB h1 hr
  have h3 := e1.mp h2
  unfold numF
  rw [if_pos ((kd_num hB).mp h1), if_pos h3, (dg_1 hB h1).1, e2 h3]
theorem numF_r {bf : Nat → Int32} {n s : Nat} {lo hi : Int32} (hB : ByO bf) (hr : Rg lo hi) (h1 : kd bf n s = 1001) (h2 : ¬ inV (va bf n s) lo hi = 1) : numF bf n lo hi s = .error (-3, s) := by
  obtain ⟨e1, e2⟩ := va_in hB h1 hr
  unfold numF
  rw [if_pos ((kd_num hB).mp h1), if_neg (fun z => h2 (e1.mpr z))]
theorem numF_k {bf : Nat → Int32} {n s : Nat} {lo hi : Int32} (hB : ByO bf) (h1 : ¬ kd bf n s = 1001) : numF bf n lo hi s = .error (-2, s) := numF_x (fun z => h1 ((kd_num hB).mpr z))
section UC
variable {x bk tx fs : Nat} {er es ki st en vv fg fc : Int32} {bf : Nat → Int32}
theorem c_X6_readNumber_u (l : Launch) (G : CG) (hB : ByO bf) (n : Nat) (hn9 : n ≤ 900) (hEx : EFA G x) (ne_tx_x : tx ≠ x) (r : Rr) (hT : TK bf n (pl r) er es ki st en vv) (lo9 up9 : Int32) (hRg : Rg lo9 up9) : Wr l yX6_readNumber cX6_readNumber 4 ((Option.some FieldType.int)) 3 73 0 0 G [.ref x, .int lo9, .int up9] (fun H9 => At G x (.inr (6, rdF er es bk tx ki st en vv fg fs fc)) H9 ∧ At G tx (bA G n (sB bf)) H9) (fun q9 => q9 = x) (fun v9 H9 => ∃ v er es ki st en vv, v9 = some (.int v) ∧ At G x (.inr (6, rdF er es bk tx ki st en vv fg fs fc)) H9 ∧ TK bf n (pl (nbL bf n lo9 up9 r)) er es ki st en vv ∧ ∀ s' L', nbL bf n lo9 up9 r = .ok (s', L') → ∃ s L, r = .ok (s, L) ∧ L' = L ++ [v] ∧ numF bf n lo9 up9 s = .ok (s', v)) := by
  match r, hT with
  | .error (c, o), hT =>
    obtain ⟨h1, h2, h3, h4, rfl⟩ := hT
    refine Wr.weak (c_X6_readNumber_b l G hB n hn9 hEx ne_tx_x (by rw [h1]; exact h2) lo9 up9) (fun _ h => h) ?_ (by decide) (by decide)
    intro v H ⟨e, h⟩
    exact ⟨lo9, er, es, 1000, st, en, vv, e, h, ⟨h1, h2, h3, h4, rfl⟩, fun s' L' z => by cases z⟩
  | .ok (s, L), hT =>
    obtain ⟨rfl, rfl, hs, rfl, rfl, rfl, rfl⟩ := hT
    by_cases hk : kd bf n s = 1001
    · by_cases hr : inV (va bf n s) lo9 up9 = 1
      · have hN := numF_ok hB hRg hk hr
        refine Wr.weak (c_X6_readNumber l G hB n hn9 hEx ne_tx_x s hs lo9 up9 hk hr) (fun _ h => h) ?_ (by decide) (by decide)
        intro v H ⟨e, a1, a2, a3, a4, a5, a6, h, ht⟩
        refine ⟨_, a1, a2, a3, a4, a5, a6, e, h, ?_, fun s' L' z => ?_⟩
        · rw [nbL_ok hN]
          exact ht
        · rw [nbL_ok hN] at z
          cases z
          exact ⟨_, _, rfl, rfl, hN⟩
      · have hN := numF_r hB hRg hk hr
        refine Wr.weak (c_X6_readNumber_r l G hB n hn9 hEx ne_tx_x s hs lo9 up9 hk hr) (fun _ h => h) ?_ (by decide) (by decide)
        intro v H ⟨e, h⟩
        refine ⟨_, _, _, _, _, _, _, e, h, ?_, fun s' L' z => ?_⟩
        · rw [nbL_er hN]
          exact ⟨rfl, by decide, rfl, hs, rfl⟩
        · rw [nbL_er hN] at z
          cases z
    · have hN := numF_k (lo := lo9) (hi := up9) hB hk
      refine Wr.weak (c_X6_readNumber_x l G hB n hn9 hEx ne_tx_x s hs lo9 up9 hk) (fun _ h => h) ?_ (by decide) (by decide)
      intro v H ⟨e, h⟩
      refine ⟨_, _, _, _, _, _, _, e, h, ?_, fun s' L' z => ?_⟩
      · rw [nbL_er hN]
        exact ⟨rfl, by decide, rfl, hs, rfl⟩
      · rw [nbL_er hN] at z
        cases z
theorem c_X6_tookWord_u (l : Launch) (G : CG) (hB : ByO bf) (n : Nat) (hn9 : n ≤ 900) (hEx : EFA G x) (ne_tx_x : tx ≠ x) {j : Nat} {w : List Int32} (hT : IsT G j w) (hA9 : IsA w) (hw9 : w.length < 1000) (hL9 : IsL w) (r : Rr) (hK : TK bf n (pl r) er es ki st en vv) : Wr l yX6_tookWord cX6_tookWord 2 ((Option.some FieldType.boolean)) 5 108 0 0 G [.ref x, .ref (G.2.2 (10 + j))] (fun H9 => At G x (.inr (6, rdF er es bk tx ki st en vv fg fs fc)) H9 ∧ At G tx (bA G n (sB bf)) H9) (fun q9 => q9 = x) (fun v9 H9 => ∃ v er es ki st en vv, v9 = some (.int v) ∧ At G x (.inr (6, rdF er es bk tx ki st en vv fg fs fc)) H9 ∧ TK bf n (pl (wdL bf n w r)) er es ki st en vv ∧ (∀ s' L', wdL bf n w r = .ok (s', L') → ∃ s L, r = .ok (s, L) ∧ L' = L ++ [v]) ∧ ((v = 0 ∧ ∀ s L, r = .ok (s, L) → ¬ isW bf n s w) ∨ (v = 1 ∧ ∃ s L, r = .ok (s, L) ∧ isW bf n s w))) := by
  match r, hK with
  | .error (c, o), hK =>
    obtain ⟨h1, h2, h3, h4, rfl⟩ := hK
    refine Wr.weak (c_X6_tookWord_b l G hB n hn9 hEx ne_tx_x (by rw [h1]; exact h2) _) (fun _ h => h) ?_ (by decide) (by decide)
    intro v H ⟨e, h⟩
    exact ⟨0, er, es, 1000, st, en, vv, e, h, ⟨h1, h2, h3, h4, rfl⟩, (fun s' L' z => by cases z), Or.inl ⟨rfl, fun s L z => by cases z⟩⟩
  | .ok (s, L), hK =>
    obtain ⟨rfl, rfl, hs, rfl, rfl, rfl, rfl⟩ := hK
    by_cases hW : isW bf n s w
    · refine Wr.weak (c_X6_tookWord_y l G hB n hn9 hEx ne_tx_x s hs hT hA9 hw9 hL9 hW) (fun _ h => h) ?_ (by decide) (by decide)
      intro v H ⟨e, a1, a2, a3, a4, a5, a6, h, ht⟩
      refine ⟨_, a1, a2, a3, a4, a5, a6, e, h, ?_, fun s' L' z => ?_, Or.inr ⟨rfl, _, _, rfl, hW⟩⟩
      · rw [wdL_ok hW]
        exact ht
      · rw [wdL_ok hW] at z
        cases z
        exact ⟨_, _, rfl, rfl⟩
    · refine Wr.weak (c_X6_tookWord_n l G hB n hn9 hEx ne_tx_x s hs hT hA9 hw9 hL9 hW) (fun _ h => h) ?_ (by decide) (by decide)
      intro v H ⟨e, h⟩
      refine ⟨_, _, _, _, _, _, _, e, h, ?_, fun s' L' z => ?_, Or.inl ⟨rfl, fun s L z => by cases z; exact hW⟩⟩
      · rw [wdL_no hW]
        exact ⟨rfl, rfl, hs, rfl, rfl, rfl, rfl⟩
      · rw [wdL_no hW] at z
        cases z
        exact ⟨_, _, rfl, rfl⟩
theorem c_X6_needSymbol_u (l : Launch) (G : CG) (hB : ByO bf) (n : Nat) (hn9 : n ≤ 900) (hEx : EFA G x) (ne_tx_x : tx ≠ x) (r : Except Er Nat) (hK : TK bf n r er es ki st en vv) (z : Int32) (hz9 : z ∈ syms) : Wr l yX6_needSymbol cX6_needSymbol 2 ((Option.none : Option FieldType)) 3 73 0 0 G [.ref x, .int z] (fun H9 => At G x (.inr (6, rdF er es bk tx ki st en vv fg fs fc)) H9 ∧ At G tx (bA G n (sB bf)) H9) (fun q9 => q9 = x) (fun v9 H9 => ∃ er es ki st en vv, v9 = none ∧ At G x (.inr (6, rdF er es bk tx ki st en vv fg fs fc)) H9 ∧ TK bf n (sy (bf := bf) (n := n) z r) er es ki st en vv) := by
  match r, hK with
  | .error (c, o), hK =>
    obtain ⟨h1, h2, h3, h4, rfl⟩ := hK
    refine Wr.weak (c_X6_needSymbol_b l G hB n hn9 hEx ne_tx_x (by rw [h1]; exact h2) z hz9) (fun _ h => h) ?_ (by decide) (by decide)
    intro v H ⟨e, h⟩
    exact ⟨er, es, 1000, st, en, vv, e, h, ⟨h1, h2, h3, h4, rfl⟩⟩
  | .ok s, hK =>
    obtain ⟨rfl, rfl, hs, rfl, rfl, rfl, rfl⟩ := hK
    by_cases hy : bt bf n s = z
    · refine Wr.weak (c_X6_needSymbol l G hB n hn9 hEx ne_tx_x s hs z hz9 hy) (fun _ h => h) ?_ (by decide) (by decide)
      intro v H ⟨e, a1, a2, a3, a4, a5, a6, h, ht⟩
      refine ⟨a1, a2, a3, a4, a5, a6, e, h, ?_⟩
      show TK bf n (syF bf n z s) a1 a2 a3 a4 a5 a6
      unfold syF
      rw [if_pos hy]
      exact ht
    · refine Wr.weak (c_X6_needSymbol_x l G hB n hn9 hEx ne_tx_x s hs z hz9 hy) (fun _ h => h) ?_ (by decide) (by decide)
      intro v H ⟨e, h⟩
      refine ⟨_, _, _, _, _, _, e, h, ?_⟩
      show TK bf n (syF bf n z s) _ _ _ _ _ _
      unfold syF
      rw [if_neg hy]
      exact ⟨rfl, by decide, rfl, hs, rfl⟩
end UC
/-- the class's steps so far -/
def FSt (f : Nat → Int32) (C : List Int32) : Prop := ∀ j, j < C.length → f j = C.getD j 0
theorem FSt.nil (f : Nat → Int32) : FSt f [] := fun j h => absurd h (Nat.not_lt_zero j)
theorem FSt.add {f : Nat → Int32} {C : List Int32} (h : FSt f C) (z : Int32) : FSt (upd f C.length z) (C ++ [z]) := by
  intro j hj
  rw [List.length_append, List.length_singleton] at hj
  simp only [List.getD_eq_getElem?_getD]
  by_cases e : j = C.length
  · rw [e, pk_us, List.getElem?_append_right (Nat.le_refl _), Nat.sub_self]
    rfl
  · rw [pk_un e, List.getElem?_append_left (by omega)]
    have := h j (by omega)
    rw [List.getD_eq_getElem?_getD] at this
    exact this
theorem isW_np {bf : Nat → Int32} {n s : Nat} {w : List Int32} (hB : ByO bf) (hL : IsL w) (h : isW bf n s w) : ¬ bt bf n s = 40 := fun z => by
  have h1 := ((isW_iff hB hL).mp h).1
  rw [(kd_sym hB (c := 40) (by decide)).mpr z] at h1
  exact absurd h1 (by decide)
theorem isW_nd {bf : Nat → Int32} {n s : Nat} {w : List Int32} (hB : ByO bf) (hL : IsL w) (h : isW bf n s w) : ¬ inV (bt bf n s) 48 57 = 1 := fun z => by
  have h1 := ((isW_iff hB hL).mp h).1
  rw [(kd_num hB).mpr z] at h1
  exact absurd h1 (by decide)
