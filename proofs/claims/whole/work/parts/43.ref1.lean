/-! READING: the reference's small readers, good or not -/
theorem nbL_ok {bf : Nat → Int32} {n s s' : Nat} {lo hi v : Int32} {L : List Int32} (h : numF bf n lo hi s = .ok (s', v)) : nbL bf n lo hi (.ok (s, L)) = .ok (s', L ++ [v]) := by simp only [nbL, h]
theorem nbL_er {bf : Nat → Int32} {n s : Nat} {lo hi : Int32} {e : Er} {L : List Int32} (h : numF bf n lo hi s = .error e) : nbL bf n lo hi (.ok (s, L)) = .error e := by simp only [nbL, h]
theorem nbL_inv {bf : Nat → Int32} {n s' : Nat} {lo hi : Int32} {r : Rr} {L' : List Int32} (h : nbL bf n lo hi r = .ok (s', L')) : ∃ s L v, r = .ok (s, L) ∧ numF bf n lo hi s = .ok (s', v) ∧ L' = L ++ [v] := by
  match r, h with
  | .ok (s, L), h =>
    cases hn : numF bf n lo hi s with
    | error e => rw [nbL_er hn] at h; cases h
    | ok q =>
      obtain ⟨a, v⟩ := q
      rw [nbL_ok hn] at h
      cases h
      exact ⟨s, L, v, rfl, hn, rfl⟩
theorem wdL_ok {bf : Nat → Int32} {n s : Nat} {w L : List Int32} (h : isW bf n s w) : wdL bf n w (.ok (s, L)) = .ok (spc bf n (s + w.length), L ++ [1]) := if_pos h
theorem wdL_no {bf : Nat → Int32} {n s : Nat} {w L : List Int32} (h : ¬ isW bf n s w) : wdL bf n w (.ok (s, L)) = .ok (s, L ++ [0]) := if_neg h
def sy {bf : Nat → Int32} {n : Nat} (c : Int32) (r : Except Er Nat) : Except Er Nat := match r with
  | .error e => .error e
  | .ok s => syF bf n c s
section UN
variable {B : Nat → Nat} {t bl ps er ea eo ud ns ne se : Int32} {bf da dr : Nat → Int32} {hi : Nat → Nat → Int32} {sk : Nat → Int64}
theorem c_X8_number_u (l : Launch) (G : CG) (hD : MD G B) (hB : ByO bf) (n : Nat) (hn9 : n ≤ 900) (r : Rr) (hR : RK bf n (pl r) ps er ea) (lo9 up9 : Int32) : Wr l yX8_number cX8_number 4 ((Option.some FieldType.int)) 2 42 0 0 G [.ref (B 0), .int lo9, .int up9] (MW G B (fm t bl (nI n) ps er ea eo ud ns ne se) bf da dr hi sk) (MA B) (fun v9 H9 => ∃ v ps er ea ns', v9 = some (.int v) ∧ MW G B (fm t bl (nI n) ps er ea eo ud ns' ne se) bf da dr hi sk H9 ∧ RK bf n (pl (nbL bf n lo9 up9 r)) ps er ea ∧ ∀ s' L', nbL bf n lo9 up9 r = .ok (s', L') → ∃ s L, r = .ok (s, L) ∧ L' = L ++ [v] ∧ ns' = nI s ∧ numF bf n lo9 up9 s = .ok (s', v)) := by
  match r, hR with
  | .error (c, o), hR =>
    refine Wr.weak (c_X8_number_b l G hD lo9 up9 (by rw [hR.1]; exact hR.2.1)) (fun _ h => h) ?_ (by decide) (by decide)
    intro v H ⟨e, h⟩
    exact ⟨0, ps, er, ea, ns, e, h, hR, fun s' L' z => by cases z⟩
  | .ok (s, L), hR =>
    obtain ⟨rfl, rfl, q, rfl, hq, rfl⟩ := hR
    have hsb := sk_b (bf := bf) hq
    by_cases hd : inV (bt bf n (spc bf n q)) 48 57 = 1
    · by_cases hr : inV (dg bf n (spc bf n q) 0).2 lo9 up9 = 1
      · have hN : numF bf n lo9 up9 (spc bf n q) = .ok (spc bf n (dg bf n (spc bf n q) 0).1, (dg bf n (spc bf n q) 0).2) := by
          unfold numF
          rw [if_pos hd, if_pos hr]
        refine Wr.weak (c_X8_number l G hD n q hn9 hq lo9 up9 hd hr) (fun _ h => h) ?_ (by decide) (by decide)
        intro v H ⟨e, h⟩
        have hk := (kd_num hB).mpr hd
        refine ⟨_, _, _, _, _, e, h, ?_, fun s' L' z => ?_⟩
        · rw [nbL_ok hN]
          exact ⟨rfl, rfl, _, rfl, by rw [(dg_1 hB hk).1]; exact (te_b hB hsb.2).2, rfl⟩
        · rw [nbL_ok hN] at z
          cases z
          exact ⟨_, _, rfl, rfl, rfl, hN⟩
      · have hN : numF bf n lo9 up9 (spc bf n q) = .error (-3, spc bf n q) := by
          unfold numF
          rw [if_pos hd, if_neg hr]
        refine Wr.weak (c_X8_number_r l G hD n q hn9 hq lo9 up9 hd ((inV01 _ _ _).resolve_right hr)) (fun _ h => h) ?_ (by decide) (by decide)
        intro v H ⟨e, h⟩
        refine ⟨_, _, _, _, _, e, h, ?_, fun s' L' z => ?_⟩
        · rw [nbL_er hN]
          exact ⟨rfl, by decide, rfl, hsb.2⟩
        · rw [nbL_er hN] at z
          cases z
    · have hN : numF bf n lo9 up9 (spc bf n q) = .error (-2, spc bf n q) := by
        unfold numF
        rw [if_neg hd]
      refine Wr.weak (c_X8_number_x l G hD n q hn9 hq lo9 up9 ((inV01 _ _ _).resolve_right hd)) (fun _ h => h) ?_ (by decide) (by decide)
      intro v H ⟨e, h⟩
      refine ⟨_, _, _, _, _, e, h, ?_, fun s' L' z => ?_⟩
      · rw [nbL_er hN]
        exact ⟨rfl, by decide, rfl, hsb.2⟩
      · rw [nbL_er hN] at z
        cases z
theorem isL_p {w : List Int32} (h : IsL w) : ∀ i, i < w.length → ¬ w.getD i 0 = (-1) := fun i hi z => by
  obtain ⟨c, c1, c2⟩ := h.2 i hi
  have : ∀ c : Fin 26, ¬ nI (97 + c.1) = (-1) := by decide +kernel
  exact this ⟨c, c1⟩ (c2.symm.trans z)
theorem c_X8_takeWord_u (l : Launch) (G : CG) (hD : MD G B) (n : Nat) (hn9 : n ≤ 900) {j : Nat} {w : List Int32} (hT : IsT G j w) (hA9 : IsA w) (hw9 : w.length < 1000) (hL9 : IsL w) (r : Rr) (hR : RK bf n (pl r) ps er ea) : Wr l yX8_takeWord cX8_takeWord 3 ((Option.some FieldType.boolean)) 4 85 0 0 G [.ref (B 0), .ref (G.2.2 (10 + j))] (MW G B (fm t bl (nI n) ps er ea eo ud ns ne se) bf da dr hi sk) (MA B) (fun v9 H9 => ∃ v ps er ea, v9 = some (.int v) ∧ MW G B (fm t bl (nI n) ps er ea eo ud ns ne se) bf da dr hi sk H9 ∧ RK bf n (pl (wdL bf n w r)) ps er ea ∧ (∀ s' L', wdL bf n w r = .ok (s', L') → ∃ s L, r = .ok (s, L) ∧ L' = L ++ [v]) ∧ ((v = 0 ∧ ∀ s L, r = .ok (s, L) → ¬ isW bf n s w) ∨ (v = 1 ∧ ∃ s L, r = .ok (s, L) ∧ isW bf n s w))) := by
  match r, hR with
  | .error (c, o), hR =>
    refine Wr.weak (c_X8_takeWord_b l G hD _ (by rw [hR.1]; exact hR.2.1)) (fun _ h => h) ?_ (by decide) (by decide)
    intro v H ⟨e, h⟩
    exact ⟨0, ps, er, ea, e, h, hR, (fun s' L' z => by cases z), Or.inl ⟨rfl, fun s L z => by cases z⟩⟩
  | .ok (s, L), hR =>
    obtain ⟨rfl, rfl, q, rfl, hq, rfl⟩ := hR
    have hsb := sk_b (bf := bf) hq
    by_cases hW : isW bf n (spc bf n q) w
    · refine Wr.weak (c_X8_takeWord l G hD n q hn9 hq hT hA9 hw9 hW) (fun _ h => h) ?_ (by decide) (by decide)
      intro v H ⟨e, h⟩
      refine ⟨_, _, _, _, e, h, ?_, fun s' L' z => ?_, Or.inr ⟨rfl, _, _, rfl, hW⟩⟩
      · rw [wdL_ok hW]
        exact ⟨rfl, rfl, _, rfl, isW_le hW (isL_p hL9) hsb.2, rfl⟩
      · rw [wdL_ok hW] at z
        cases z
        exact ⟨_, _, rfl, rfl⟩
    · refine Wr.weak (c_X8_takeWord_n l G hD n q hn9 hq hT hA9 hw9 hW) (fun _ h => h) ?_ (by decide) (by decide)
      intro v H ⟨e, h⟩
      refine ⟨_, _, _, _, e, h, ?_, fun s' L' z => ?_, Or.inl ⟨rfl, fun s L z => by cases z; exact hW⟩⟩
      · rw [wdL_no hW]
        exact ⟨rfl, rfl, _, rfl, hsb.2, sk_ii bf n q⟩
      · rw [wdL_no hW] at z
        cases z
        exact ⟨_, _, rfl, rfl⟩
theorem c_X8_expect_u (l : Launch) (G : CG) (hD : MD G B) (n : Nat) (hn9 : n ≤ 900) (r : Except Er Nat) (hR : RK bf n r ps er ea) (z : Int32) (hz8 : ¬ z = (-1)) : Wr l yX8_expect cX8_expect 2 ((Option.none : Option FieldType)) 2 41 0 0 G [.ref (B 0), .int z] (MW G B (fm t bl (nI n) ps er ea eo ud ns ne se) bf da dr hi sk) (MA B) (fun v9 H9 => ∃ ps er ea, v9 = none ∧ MW G B (fm t bl (nI n) ps er ea eo ud ns ne se) bf da dr hi sk H9 ∧ RK bf n (sy (bf := bf) (n := n) z r) ps er ea) := by
  match r, hR with
  | .error (c, o), hR =>
    refine Wr.weak (c_X8_expect_b l G hD z (by rw [hR.1]; exact hR.2.1)) (fun _ h => h) ?_ (by decide) (by decide)
    intro v H ⟨e, h⟩
    exact ⟨ps, er, ea, e, h, hR⟩
  | .ok s, hR =>
    obtain ⟨rfl, rfl, q, rfl, hq, rfl⟩ := hR
    have hsb := sk_b (bf := bf) hq
    by_cases hy : bt bf n (spc bf n q) = z
    · have hN : sy (bf := bf) (n := n) z (.ok (spc bf n q)) = .ok (spc bf n (spc bf n q + 1)) := by
        show syF bf n z (spc bf n q) = _
        unfold syF
        rw [if_pos hy]
      refine Wr.weak (c_X8_expect l G hD n q hn9 hq z hy hz8) (fun _ h => h) ?_ (by decide) (by decide)
      intro v H ⟨e, h⟩
      have hlt := bt_lt hy hz8
      refine ⟨_, _, _, e, h, ?_⟩
      rw [hN]
      exact ⟨rfl, rfl, _, rfl, by omega, rfl⟩
    · have hN : sy (bf := bf) (n := n) z (.ok (spc bf n q)) = .error (-2, spc bf n q) := by
        show syF bf n z (spc bf n q) = _
        unfold syF
        rw [if_neg hy]
      refine Wr.weak (c_X8_expect_x l G hD n q hn9 hq z hy) (fun _ h => h) ?_ (by decide) (by decide)
      intro v H ⟨e, h⟩
      refine ⟨_, _, _, e, h, ?_⟩
      rw [hN]
      exact ⟨rfl, by decide, rfl, hsb.2⟩
end UN
/-! needs, holidays, a credit -/
def nd1 (bf : Nat → Int32) (n s : Nat) (set : Int32) : Except Er (Nat × Int32) := match numF bf n 0 7 s with
  | .error e => .error e
  | .ok (s', v) => if set >>> (v &&& 31) &&& 1 = 1 then .error (-3, s) else .ok (s', set ||| 1 <<< (v &&& 31))
def ndF (bf : Nat → Int32) (n : Nat) : Nat → Nat → Int32 → Except Er (Nat × Int32)
  | 0, s, set => nd1 bf n s set
  | j + 1, s, set => match nd1 bf n s set with
    | .error e => .error e
    | .ok (s', set') => if inV (bt bf n s') 48 57 = 1 then ndF bf n j s' set' else .ok (s', set')
noncomputable def ndL (bf : Nat → Int32) (n : Nat) (r : Rr) : Rr := match r with
  | .error e => .error e
  | .ok (s, L) => @ite _ (isW bf n s (txt 4)) (Classical.propDecidable _) (match ndF bf n (n + 1) (spc bf n (s + (txt 4).length)) 0 with
    | .error e => .error e
    | .ok (s', v) => .ok (s', L ++ [v])) (.ok (s, L ++ [0]))
noncomputable def cdF (bf : Nat → Int32) (n s : Nat) : Rr := ndL bf n (wdL bf n (txt 3) (wdL bf n (txt 2) (nbL bf n 0 180 (nbL bf n 1 60 (nbL bf n 0 999 (nbL bf n 0 999 (nbL bf n 0 10 (nbL bf n 0 10 (nbL bf n 1 999999 (.ok (s, [])))))))))))
def hoD (d : Nat → Int32) (nh : Nat) (v : Int32) : Nat → Int32 := upd (upd d (6 + nh) v) 2 (nI (nh + 1))
def hs1 (bf : Nat → Int32) (n s : Nat) (d : Nat → Int32) (nh : Nat) : Except Er (Nat × Int32) := match numF bf n 0 999 s with
  | .error e => .error e
  | .ok (s', v) => if hol d v.toNatClampNeg nh = true then .error (-3, s) else if nh = 16 then .error (-4, s) else .ok (s', v)
/-- holidays: the place, the data, how many holidays -/
def hoF (bf : Nat → Int32) (n : Nat) : Nat → Nat → (Nat → Int32) → Nat → Except Er (Nat × (Nat → Int32) × Nat)
  | 0, s, d, nh => match hs1 bf n s d nh with
    | .error e => .error e
    | .ok (s', v) => .ok (s', hoD d nh v, nh + 1)
  | j + 1, s, d, nh => match hs1 bf n s d nh with
    | .error e => .error e
    | .ok (s', v) => if inV (bt bf n s') 48 57 = 1 then hoF bf n j s' (hoD d nh v) (nh + 1) else .ok (s', hoD d nh v, nh + 1)
def crD (d : Nat → Int32) (nc : Nat) (L : List Int32) : Nat → Int32 := fun j => if j = 0 then nI (nc + 1) else if 22 + 11 * nc ≤ j ∧ j < 22 + 11 * nc + 10 then L.getD (j - (22 + 11 * nc)) 0 else if j = 22 + 11 * nc + 10 then (-1) else d j
theorem upd_upd (f : Nat → Int32) (k : Nat) (x y : Int32) : upd (upd f k x) k y = upd f k y := by
  funext j
  unfold upd
  by_cases h : j = k
  · rw [if_pos h, if_pos h]
  · rw [if_neg h, if_neg h, if_neg h]
theorem upd_same (f : Nat → Int32) (k : Nat) : upd f k (f k) = f := by
  funext j
  unfold upd
  by_cases h : j = k
  · rw [if_pos h, h]
  · rw [if_neg h]
theorem numF_b {bf : Nat → Int32} {n s s' : Nat} {lo hi v : Int32} (hB : ByO bf) (hs : s ≤ n) (h : numF bf n lo hi s = .ok (s', v)) : s < s' ∧ s' ≤ n ∧ kd bf n s = 1001 ∧ inV v lo hi = 1 ∧ v = (dg bf n s 0).2 ∧ s' = spc bf n (te bf n s) := by
  unfold numF at h
  by_cases hd : inV (bt bf n s) 48 57 = 1
  · rw [if_pos hd] at h
    by_cases hr : inV (dg bf n s 0).2 lo hi = 1
    · rw [if_pos hr] at h
      have h := Except.ok.inj h
      have e1 : spc bf n (dg bf n s 0).1 = s' := congrArg Prod.fst h
      have e2 : (dg bf n s 0).2 = v := congrArg Prod.snd h
      have hk := (kd_num hB).mpr hd
      have hl := kd_lt hk (by decide)
      have ht : te bf n s = rn bf n 1001 (s + 1) := by
        unfold te
        rw [if_neg (by rw [hk]; decide), if_pos hk]
      have hb := rn_b (bf := bf) (n := n) (c := 1001) (by decide) n (s + 1) (by omega) (by omega)
      rw [(dg_1 hB hk).1] at e1
      have hsk := sk_b (bf := bf) (n := n) (q := te bf n s) (by omega)
      exact ⟨by omega, by omega, hk, by rw [← e2]; exact hr, e2.symm, e1.symm⟩
    · rw [if_neg hr] at h
      cases h
  · rw [if_neg hd] at h
    cases h
theorem numF_v {bf : Nat → Int32} {n s s' lo hi : Nat} {v : Int32} (hB : ByO bf) (hs : s ≤ n) (hh : lo ≤ hi) (h9 : hi ≤ 999999) (h : numF bf n (nI lo) (nI hi) s = .ok (s', v)) : ∃ a, v = nI a ∧ lo ≤ a ∧ a ≤ hi := by
  obtain ⟨-, -, hk, hi1, e, -⟩ := numF_b hB hs h
  obtain ⟨-, a, b, h1, h2, h3, h4⟩ := dg_1 hB hk
  rw [e, h1, inV_nI (by omega) (by omega) (by omega)] at hi1
  exact ⟨a, by rw [e, h1], hi1⟩
theorem numF_e {bf : Nat → Int32} {n s : Nat} {lo hi : Int32} {e : Er} (h : numF bf n lo hi s = .error e) : ¬ e.1 = 0 ∧ e.2 = s := by
  unfold numF at h
  by_cases hd : inV (bt bf n s) 48 57 = 1
  · rw [if_pos hd] at h
    by_cases hr : inV (dg bf n s 0).2 lo hi = 1
    · rw [if_pos hr] at h
      cases h
    · rw [if_neg hr] at h
      cases h
      exact ⟨show ¬ (-3 : Int32) = 0 by decide, rfl⟩
  · rw [if_neg hd] at h
    cases h
    exact ⟨show ¬ (-2 : Int32) = 0 by decide, rfl⟩
section NDF
variable {bf : Nat → Int32} {n j s s' : Nat} {set v : Int32} {e : Er}
theorem ndF_er (h : numF bf n 0 7 s = .error e) : ndF bf n (j + 1) s set = .error e := by simp only [ndF, nd1, h]
theorem ndF_tw (h : numF bf n 0 7 s = .ok (s', v)) (h2 : set >>> (v &&& 31) &&& 1 = 1) : ndF bf n (j + 1) s set = .error (-3, s) := by simp only [ndF, nd1, h, if_pos h2]
theorem ndF_go (h : numF bf n 0 7 s = .ok (s', v)) (h2 : ¬ set >>> (v &&& 31) &&& 1 = 1) (h3 : inV (bt bf n s') 48 57 = 1) : ndF bf n (j + 1) s set = ndF bf n j s' (set ||| 1 <<< (v &&& 31)) := by simp only [ndF, nd1, h, if_neg h2, if_pos h3]
theorem ndF_end (h : numF bf n 0 7 s = .ok (s', v)) (h2 : ¬ set >>> (v &&& 31) &&& 1 = 1) (h3 : ¬ inV (bt bf n s') 48 57 = 1) : ndF bf n (j + 1) s set = .ok (s', set ||| 1 <<< (v &&& 31)) := by simp only [ndF, nd1, h, if_neg h2, if_neg h3]
variable {d : Nat → Int32} {nh : Nat}
theorem hs1_er (h : numF bf n 0 999 s = .error e) : hs1 bf n s d nh = .error e := by simp only [hs1, h]
theorem hs1_tw (h : numF bf n 0 999 s = .ok (s', v)) (h2 : hol d v.toNatClampNeg nh = true) : hs1 bf n s d nh = .error (-3, s) := by simp only [hs1, h, if_pos h2]
theorem hs1_fu (h : numF bf n 0 999 s = .ok (s', v)) (h2 : ¬ hol d v.toNatClampNeg nh = true) (h3 : nh = 16) : hs1 bf n s d nh = .error (-4, s) := by simp only [hs1, h, if_neg h2, if_pos h3]
theorem hs1_ok (h : numF bf n 0 999 s = .ok (s', v)) (h2 : ¬ hol d v.toNatClampNeg nh = true) (h3 : ¬ nh = 16) : hs1 bf n s d nh = .ok (s', v) := by simp only [hs1, h, if_neg h2, if_neg h3]
theorem hoF_er (h : hs1 bf n s d nh = .error e) : hoF bf n (j + 1) s d nh = .error e := by simp only [hoF, h]
theorem hoF_go (h : hs1 bf n s d nh = .ok (s', v)) (h3 : inV (bt bf n s') 48 57 = 1) : hoF bf n (j + 1) s d nh = hoF bf n j s' (hoD d nh v) (nh + 1) := by simp only [hoF, h, if_pos h3]
theorem hoF_end (h : hs1 bf n s d nh = .ok (s', v)) (h3 : ¬ inV (bt bf n s') 48 57 = 1) : hoF bf n (j + 1) s d nh = .ok (s', hoD d nh v, nh + 1) := by simp only [hoF, h, if_neg h3]
end NDF
theorem ndL_no {bf : Nat → Int32} {n : Nat} {r : Rr} (h : ∀ s L, r = .ok (s, L) → ¬ isW bf n s (txt 4)) : ndL bf n r = wdL bf n (txt 4) r := by
  match r, h with
  | .error e, _ => rfl
  | .ok (s, L), h =>
    rw [wdL_no (h s L rfl)]
    exact if_neg (h s L rfl)
theorem ndL_er {bf : Nat → Int32} {n s : Nat} {L : List Int32} {e : Er} (h : isW bf n s (txt 4)) (h2 : ndF bf n (n + 1) (spc bf n (s + (txt 4).length)) 0 = .error e) : ndL bf n (.ok (s, L)) = .error e := by
  unfold ndL
  simp only [h2]
  exact if_pos h
theorem ndL_ok {bf : Nat → Int32} {n s s' : Nat} {L : List Int32} {v : Int32} (h : isW bf n s (txt 4)) (h2 : ndF bf n (n + 1) (spc bf n (s + (txt 4).length)) 0 = .ok (s', v)) : ndL bf n (.ok (s, L)) = .ok (s', L ++ [v]) := by
  unfold ndL
  simp only [h2]
  exact if_pos h
def ch9 (d : Nat → Int32) (a : Nat) (v0 v1 v2 v3 v4 v5 v6 v7 v8 : Int32) : Nat → Int32 := upd (upd (upd (upd (upd (upd (upd (upd (upd (upd (upd d a v0) (a + 1) v1) (a + 2) v2) (a + 3) v3) (a + 4) v4) (a + 5) v5) (a + 6) v6) (a + 7) v7) (a + 8) v8) (a + 9) 0) (a + 10) (-1)
theorem ch9_0 {d : Nat → Int32} {a : Nat} {v0 v1 v2 v3 v4 v5 v6 v7 v8 : Int32} (h : 0 < a) : ch9 d a v0 v1 v2 v3 v4 v5 v6 v7 v8 0 = d 0 := by
  unfold ch9 upd
  rw [if_neg (by omega), if_neg (by omega), if_neg (by omega), if_neg (by omega), if_neg (by omega), if_neg (by omega), if_neg (by omega), if_neg (by omega), if_neg (by omega), if_neg (by omega), if_neg (by omega)]
theorem ch9_9 {d : Nat → Int32} {a : Nat} {v0 v1 v2 v3 v4 v5 v6 v7 v8 : Int32} : ch9 d a v0 v1 v2 v3 v4 v5 v6 v7 v8 (a + 9) = 0 := by
  unfold ch9
  rw [pk_un (by omega), pk_us]
theorem crD_1 {d : Nat → Int32} {nc : Nat} {v0 v1 v2 v3 v4 v5 v6 v7 v8 w : Int32} : upd (upd (ch9 d (22 + 11 * nc) v0 v1 v2 v3 v4 v5 v6 v7 v8) (22 + 11 * nc + 9) w) 0 (nI (nc + 1)) = crD d nc [v0, v1, v2, v3, v4, v5, v6, v7, v8, w] := by
  funext j
  unfold crD ch9 upd
  by_cases h0 : j = 0
  · rw [if_pos h0, if_pos h0]
  · rw [if_neg h0, if_neg h0]
    generalize ha : 22 + 11 * nc = a
    rcases (show j < a ∨ j = a ∨ j = a + 1 ∨ j = a + 2 ∨ j = a + 3 ∨ j = a + 4 ∨ j = a + 5 ∨ j = a + 6 ∨ j = a + 7 ∨ j = a + 8 ∨ j = a + 9 ∨ j = a + 10 ∨ a + 10 < j by omega) with h | h | h | h | h | h | h | h | h | h | h | h | h
    · rw [if_neg (by omega), if_neg (by omega), if_neg (by omega), if_neg (by omega), if_neg (by omega), if_neg (by omega), if_neg (by omega), if_neg (by omega), if_neg (by omega), if_neg (by omega), if_neg (by omega), if_neg (by omega), if_neg (by omega), if_neg (by omega)]
    · rw [if_neg (by omega), if_neg (by omega), if_neg (by omega), if_neg (by omega), if_neg (by omega), if_neg (by omega), if_neg (by omega), if_neg (by omega), if_neg (by omega), if_neg (by omega), if_neg (by omega), if_pos (by omega), if_pos (show a ≤ j ∧ j < a + 10 by omega), show j - a = 0 by omega]
      rfl
    · rw [if_neg (by omega), if_neg (by omega), if_neg (by omega), if_neg (by omega), if_neg (by omega), if_neg (by omega), if_neg (by omega), if_neg (by omega), if_neg (by omega), if_neg (by omega), if_pos (by omega), if_pos (show a ≤ j ∧ j < a + 10 by omega), show j - a = 1 by omega]
      rfl
    · rw [if_neg (by omega), if_neg (by omega), if_neg (by omega), if_neg (by omega), if_neg (by omega), if_neg (by omega), if_neg (by omega), if_neg (by omega), if_neg (by omega), if_pos (by omega), if_pos (show a ≤ j ∧ j < a + 10 by omega), show j - a = 2 by omega]
      rfl
    · rw [if_neg (by omega), if_neg (by omega), if_neg (by omega), if_neg (by omega), if_neg (by omega), if_neg (by omega), if_neg (by omega), if_neg (by omega), if_pos (by omega), if_pos (show a ≤ j ∧ j < a + 10 by omega), show j - a = 3 by omega]
      rfl
    · rw [if_neg (by omega), if_neg (by omega), if_neg (by omega), if_neg (by omega), if_neg (by omega), if_neg (by omega), if_neg (by omega), if_pos (by omega), if_pos (show a ≤ j ∧ j < a + 10 by omega), show j - a = 4 by omega]
      rfl
    · rw [if_neg (by omega), if_neg (by omega), if_neg (by omega), if_neg (by omega), if_neg (by omega), if_neg (by omega), if_pos (by omega), if_pos (show a ≤ j ∧ j < a + 10 by omega), show j - a = 5 by omega]
      rfl
    · rw [if_neg (by omega), if_neg (by omega), if_neg (by omega), if_neg (by omega), if_neg (by omega), if_pos (by omega), if_pos (show a ≤ j ∧ j < a + 10 by omega), show j - a = 6 by omega]
      rfl
    · rw [if_neg (by omega), if_neg (by omega), if_neg (by omega), if_neg (by omega), if_pos (by omega), if_pos (show a ≤ j ∧ j < a + 10 by omega), show j - a = 7 by omega]
      rfl
    · rw [if_neg (by omega), if_neg (by omega), if_neg (by omega), if_pos (by omega), if_pos (show a ≤ j ∧ j < a + 10 by omega), show j - a = 8 by omega]
      rfl
    · rw [if_pos (by omega), if_pos (show a ≤ j ∧ j < a + 10 by omega), show j - a = 9 by omega]
      rfl
    · rw [if_neg (by omega), if_pos (by omega), if_neg (show ¬ (a ≤ j ∧ j < a + 10) by omega), if_pos (by omega)]
    · rw [if_neg (by omega), if_neg (by omega), if_neg (by omega), if_neg (by omega), if_neg (by omega), if_neg (by omega), if_neg (by omega), if_neg (by omega), if_neg (by omega), if_neg (by omega), if_neg (by omega), if_neg (by omega), if_neg (show ¬ (a ≤ j ∧ j < a + 10) by omega), if_neg (by omega)]
theorem crD_0 {d : Nat → Int32} {nc : Nat} {v0 v1 v2 v3 v4 v5 v6 v7 v8 : Int32} : upd (ch9 d (22 + 11 * nc) v0 v1 v2 v3 v4 v5 v6 v7 v8) 0 (nI (nc + 1)) = crD d nc [v0, v1, v2, v3, v4, v5, v6, v7, v8, 0] := by
  rw [← crD_1]
  congr 1
  conv => lhs; rw [← upd_same (ch9 d (22 + 11 * nc) v0 v1 v2 v3 v4 v5 v6 v7 v8) (22 + 11 * nc + 9)]
  rw [ch9_9]
