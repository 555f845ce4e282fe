/-! THE LAW: what holds between two calls -/
/-- the cells that are written again -/
def LAO (B : Nat → Nat) (x bu pa ou : Nat) : Nat → Prop := fun q => q = x ∨ q = bu ∨ q = pa ∨ q = ou ∨ MA B q
def LAp (G : CG) (B : Nat → Nat) (x bu pa ou : Nat) : Prop := MD G B ∧ DD G (LAO B x bu pa ou) x bu pa ∧ (ou ≠ x ∧ ou ≠ bu ∧ ou ≠ pa) ∧ (∀ i, i < 14 → B i ≠ x ∧ B i ≠ bu ∧ B i ≠ pa ∧ B i ≠ ou) ∧ EFA G ou
def LI (G : CG) (B : Nat → Nat) (x bu pa ou : Nat) (H : Heap) : Prop := ∃ (b9 u nc np nh bk : Nat) (es : Int32) (bf bb da : Nat → Int32) (hi : Nat → Nat → Int32) (f : Nat → Int64) (t tl ps er ea ns ne se : Int32) (dr : Nat → Int32) (sk : Nat → Int64), b9 ≤ 900 ∧ u ≤ 8 ∧ ByO bf ∧ (∀ j, bb j = sB bf j) ∧ OkD da nc np nh ∧ MW G B (fm t (nI b9) tl ps er ea es (nI u) ns ne se) bf da dr hi sk H ∧ DS G (LAO B x bu pa ou) x bu pa bb (nI b9) es bk da nc np nh u hi H ∧ At G ou (lA G f) H
section LIS
variable {G : CG} {B : Nat → Nat} {x bu pa ou : Nat} {H H1 : Heap} {b9 u nc np nh bk : Nat} {es bl : Int32} {bf bb d dr : Nat → Int32} {fmv : Nat → Int32} {hi : Nat → Nat → Int32} {f : Nat → Int64} {t tl ps er ea ns ne se : Int32} {sk : Nat → Int64}
theorem li_mk (h1 : b9 ≤ 900) (h2 : u ≤ 8) (h3 : ByO bf) (h4 : ∀ j, bb j = sB bf j) (h5 : OkD d nc np nh) (h6 : MW G B (fm t (nI b9) tl ps er ea es (nI u) ns ne se) bf d dr hi sk H) (h7 : DS G (LAO B x bu pa ou) x bu pa bb (nI b9) es bk d nc np nh u hi H) (h8 : At G ou (lA G f) H) : LI G B x bu pa ou H := ⟨b9, u, nc, np, nh, bk, es, bf, bb, d, hi, f, t, tl, ps, er, ea, ns, ne, se, dr, sk, h1, h2, h3, h4, h5, h6, h7, h8⟩
theorem ds_kept {AO : Nat → Prop} (h : DS G AO x bu pa bb bl es bk d nc np nh u hi H) (hx : H1[x]? = H[x]?) (hb : H1[bu]? = H[bu]?) (hp : H1[pa]? = H[pa]?) (hq : ∀ q : Nat, q < H.size → ¬ AO q → H1[q]? = H[q]?) : DS G AO x bu pa bb bl es bk d nc np nh u hi H1 := by
  obtain ⟨h1, h2, ⟨fq, h3, h4⟩, h5⟩ := h
  exact ⟨va_at.kept h1 hx, va_at.kept h2 hb, ⟨fq, va_at.kept h3 hp, fun j hj => (h4 j hj).kept hq⟩, h5.kept hq⟩
theorem ds_lt {AO : Nat → Prop} (h : DS G AO x bu pa bb bl es bk d nc np nh u hi H) : x < H.size ∧ bu < H.size ∧ pa < H.size := by
  obtain ⟨h1, h2, ⟨fq, h3, h4⟩, h5⟩ := h
  exact ⟨va_at.lt h1, va_at.lt h2, va_at.lt h3⟩
theorem lao_lt (hM : MW G B fmv bf d dr hi sk H) {AO : Nat → Prop} {d2 : Nat → Int32} {hi2 : Nat → Nat → Int32} (hD : DS G AO x bu pa bb bl es bk d2 nc np nh u hi2 H) (ho : At G ou (lA G f) H) : ∀ q, LAO B x bu pa ou q → q < H.size := by
  obtain ⟨h1, h2, h3⟩ := ds_lt hD
  intro q hq
  rcases hq with hq | hq | hq | hq | ⟨i, hi, hq⟩
  · rw [hq]; exact h1
  · rw [hq]; exact h2
  · rw [hq]; exact h3
  · rw [hq]; exact va_at.lt ho
  · rw [hq]; exact hM.lt i hi
/-- behind a call that changes nothing but ou -/
theorem ro_M (hp : LAp G B x bu pa ou) (hM : MW G B fmv bf d dr hi sk H) (hf : ∀ q : Nat, q < H.size → q ≠ ou → H1[q]? = H[q]?) : MW G B fmv bf d dr hi sk H1 := hM.kept (fun i h => hf (B i) (hM.lt i h) (hp.2.2.2.1 i h).2.2.2)
theorem ro_D (hp : LAp G B x bu pa ou) (hD : DS G (LAO B x bu pa ou) x bu pa bb bl es bk d nc np nh u hi H) (hf : ∀ q : Nat, q < H.size → q ≠ ou → H1[q]? = H[q]?) : DS G (LAO B x bu pa ou) x bu pa bb bl es bk d nc np nh u hi H1 := by
  obtain ⟨h1, h2, h3⟩ := ds_lt hD
  exact ds_kept hD (hf x h1 hp.2.2.1.1.symm) (hf bu h2 hp.2.2.1.2.1.symm) (hf pa h3 hp.2.2.1.2.2.symm) (fun q h8 h9 => hf q h8 (fun z => h9 (Or.inr (Or.inr (Or.inr (Or.inl z))))))
theorem ds_o (hp : LAp G B x bu pa ou) (hD : DS G (LAO B x bu pa ou) x bu pa bb bl es bk d nc np nh u hi H) (hf : ∀ q : Nat, q ≠ ou → H1[q]? = H[q]?) : DS G (LAO B x bu pa ou) x bu pa bb bl es bk d nc np nh u hi H1 := ro_D hp hD (fun q _ h => hf q h)
/-- behind a call of the reference -/
theorem rf_D (hp : LAp G B x bu pa ou) (hD : DS G (LAO B x bu pa ou) x bu pa bb bl es bk d nc np nh u hi H) (hf : ∀ q : Nat, q < H.size → ¬ MA B q → H1[q]? = H[q]?) : DS G (LAO B x bu pa ou) x bu pa bb bl es bk d nc np nh u hi H1 := by
  obtain ⟨h1, h2, h3⟩ := ds_lt hD
  exact ds_kept hD (hf x h1 (fun ⟨i, h, e⟩ => (hp.2.2.2.1 i h).1 e.symm)) (hf bu h2 (fun ⟨i, h, e⟩ => (hp.2.2.2.1 i h).2.1 e.symm)) (hf pa h3 (fun ⟨i, h, e⟩ => (hp.2.2.2.1 i h).2.2.1 e.symm)) (fun q h8 h9 => hf q h8 (fun z => h9 (Or.inr (Or.inr (Or.inr (Or.inr z))))))
theorem rf_o (hp : LAp G B x bu pa ou) (ho : At G ou (lA G f) H) (hf : ∀ q : Nat, q < H.size → ¬ MA B q → H1[q]? = H[q]?) : At G ou (lA G f) H1 := va_at.kept ho (hf ou (va_at.lt ho) (fun ⟨i, h, e⟩ => (hp.2.2.2.1 i h).2.2.2 e.symm))
/-- behind a change of the desk -/
theorem ch_M (hp : LAp G B x bu pa ou) (hM : MW G B fmv bf d dr hi sk H) (hf : ∀ q : Nat, q < H.size → ¬ (DW x bu pa H.size q ∨ q = ou) → H1[q]? = H[q]?) : MW G B fmv bf d dr hi sk H1 := hM.kept (fun i h => hf (B i) (hM.lt i h) (fun z => by
  obtain ⟨a1, a2, a3, a4⟩ := hp.2.2.2.1 i h
  rcases z with (z | z | z | z) | z
  · exact a1 z
  · exact a2 z
  · exact a3 z
  · exact absurd z (Nat.not_le.mpr (hM.lt i h))
  · exact a4 z))
theorem dw_ou (hp : LAp G B x bu pa ou) {sz : Nat} (h : ou < sz) : ¬ DW x bu pa sz ou := fun z => by
  rcases z with z | z | z | z
  · exact hp.2.2.1.1 z
  · exact hp.2.2.1.2.1 z
  · exact hp.2.2.1.2.2 z
  · omega
theorem dw_new {n sz q : Nat} (hn : ∀ q, LAO B x bu pa ou q → n ≤ q) (h : n ≤ sz) (z : DW x bu pa sz q) : n ≤ q := by
  rcases z with z | z | z | z
  · exact hn q (Or.inl z)
  · exact hn q (Or.inr (Or.inl z))
  · exact hn q (Or.inr (Or.inr (Or.inl z)))
  · omega
theorem ds_dk {AO : Nat → Prop} (h : DS G AO x bu pa bb bl es bk d nc np nh u hi H) : DK G AO x bu bl es bk pa (nI u) d nc np nh H := ⟨h.1, h.2.2.2⟩
end LIS
theorem Rd.w {l : Launch} {y : MethodName} {cc : ByteArray} {nL : Nat} {ret : Option FieldType} {fr lo : Nat} {G : CG} {av : List Value} {P D : Heap → Prop} {v : Int32} (h : Rd l y cc nL ret fr lo G av P (some (.int v))) (hP : ∀ H, D H → P H) : Wr l y cc nL ret fr lo 0 0 G av D (fun _ => False) (fun v9 H9 => ∃ r, v9 = some (.int r) ∧ r = v) := Wr.weak (Rd.toWr (h.mono hP)) (fun _ h => h) (fun _ _ q => ⟨v, q.1, rfl⟩) (Nat.le_refl _) (Nat.le_refl _)
theorem Tr.w {l : Launch} {y : MethodName} {cc : ByteArray} {nL : Nat} {ret : Option FieldType} {fr lo : Nat} {G : CG} {av : List Value} {P D : Heap → Prop} {X : String} (h : Tr l y cc nL ret fr lo G av P X) (hP : ∀ H, D H → P H) : Tr l y cc nL ret fr lo G av D X := fun p e ha hc hk s m args below hf happ hpre htr => h p e ha hc hk s m args below hf happ ⟨hpre.1, hpre.2.1, hpre.2.2.1, hP _ hpre.2.2.2⟩ htr
section LSL
variable {p : Program} {l : Launch} {e : Env} {R : Room} {s : State} {m : MethodId} {args : Array Value} {below : List Frame} {meth : Method} {c : Code} {H : Heap} {locs : List Loc} {cells slots : Nat} {Q : State → Prop}
variable {cc : ByteArray} {pc : Nat} {ls : Array Slot} {rest : List Value} {A : Nat → Prop} {H0 : Heap}
theorem l_sld (hexec : p.tables.exec = Jvm.exec) (hb : c.code = cc) {b L : Nat} {xs : Nat → Int32} (hX : va_X b L xs s H0) (hbl : b < H0.size) (hbA : ¬ A b) (hS : va_S A H0 H locs) {i v : Int32} {k : Nat} (hi : i = nI k) (hk : k < L) (hL : L ≤ 3072) (hv : xs k = v) (hdg : decode cc pc = .ok (.iaload, 1))
    (kk : W p l e R s m args below meth c H locs cells slots Q (F0 m (pc + 1) ls (.int v :: rest))) : W p l e R s m args below meth c H locs cells slots Q (F0 m pc ls (.int i :: .ref b :: rest)) := by
  refine va_sld hexec hb hX hbl hbA hS (by rw [hi]; exact vp_in_nI hk (by omega)) hdg ?_
  rw [hi, nI_clamp (by omega), hv]
  exact kk
end LSL
/-! ranges -/
theorem in_of {z : Int32} {n : Nat} (hn : n < 2147483648) (h : inV z 0 (nI n) = 1) : ∃ k, k ≤ n ∧ z = nI k := by
  unfold inV at h
  by_cases h1 : z < 0
  · rw [if_pos h1] at h; exact absurd h (by decide)
  · rw [if_neg h1] at h
    by_cases h2 : nI n < z
    · rw [if_pos h2] at h; exact absurd h (by decide)
    · exact nI_of2 (nI_toInt hn) h1 (Int32.not_lt.mp h2)
theorem ix_of {z : Int32} {n : Nat} (hn : n ≤ 24) (h : inV z 0 (nI n - 1) = 1) : ∃ k, k < n ∧ z = nI k := by
  by_cases h0 : n = 0
  · rw [h0] at h
    exfalso
    unfold inV at h
    by_cases h1 : z < 0
    · rw [if_pos h1] at h; exact absurd h (by decide)
    · rw [if_neg h1] at h
      by_cases h2 : nI 0 - 1 < z
      · rw [if_pos h2] at h; exact absurd h (by decide)
      · have h3 : z ≤ -1 := Int32.not_lt.mp h2
        exact h1 (Int32.lt_of_le_of_lt h3 (by decide))
  · rw [nI_m1 (by omega)] at h
    obtain ⟨k, h1, h2⟩ := in_of (by omega) h
    exact ⟨k, by omega, h2⟩
theorem wr01 (y am dc ins : Int32) : isWrongV y am dc ins = 0 ∨ isWrongV y am dc ins = 1 := by
  unfold isWrongV
  by_cases h1 : inV y 0 9999 = 0
  · rw [if_pos h1]; exact Or.inr rfl
  · rw [if_neg h1]
    by_cases h2 : inV am 1 1999999 = 0
    · rw [if_pos h2]; exact Or.inr rfl
    · rw [if_neg h2]
      by_cases h3 : inV dc 0 255 = 0
      · rw [if_pos h3]; exact Or.inr rfl
      · rw [if_neg h3]
        by_cases h4 : 0 ≤ ins
        · rw [if_pos h4]; exact Or.inl rfl
        · rw [if_neg h4]; exact Or.inr rfl
theorem wr_day {y am dc ins : Int32} (h : isWrongV y am dc ins = 0) : inV y 0 9999 = 1 := by
  rcases inV01 y 0 9999 with z | z
  · unfold isWrongV at h
    rw [if_pos z] at h
    exact absurd h (by decide)
  · exact z
theorem trR01 (d : Nat → Int32) (np nc k : Nat) (y : Int32) : trR d np nc k y = 0 ∨ trR d np nc k y = 1 := by
  unfold trR
  by_cases h1 : d (cP k + 8) = 0
  · rw [if_pos h1]; exact Or.inr rfl
  · rw [if_neg h1]
    by_cases h2 : availV d np nc k < y
    · rw [if_pos h2]; exact Or.inr rfl
    · rw [if_neg h2]
      by_cases h3 : ¬ d (cP k + 7) = 0
      · rw [if_pos h3]; exact Or.inl rfl
      · rw [if_neg h3]
        by_cases h4 : transV d (nI k) nc = 0
        · rw [if_pos h4]; exact Or.inl rfl
        · rw [if_neg h4]; exact Or.inr rfl
theorem trF01 (d : Nat → Int32) (np nc k : Nat) (y : Int32) : trF d np nc k y = 0 ∨ trF d np nc k y = 1 := by
  unfold trF
  by_cases h1 : ¬ trR d np nc k y = 0
  · rw [if_pos h1]; exact Or.inr rfl
  · rw [if_neg h1]
    by_cases h2 : ¬ d 0 = 12
    · rw [if_pos h2]; exact Or.inl rfl
    · rw [if_neg h2]; exact Or.inr rfl
theorem trF_12 {d : Nat → Int32} {np nc k : Nat} {y : Int32} (h0 : d 0 = nI nc) (hc : nc ≤ 12) (h : trF d np nc k y = 0) : nc < 12 := by
  by_cases e : nc = 12
  · unfold trF at h
    rcases trR01 d np nc k y with z | z
    · rw [if_neg (fun w => w z), if_neg (fun w => w (by rw [h0, e]; rfl))] at h
      exact absurd h (by decide)
    · rw [if_pos (by rw [z]; decide)] at h
      exact absurd h (by decide)
  · omega
theorem exV01 (d : Nat → Int32) (nh k dy : Nat) : exV d nh k dy = 0 ∨ exV d nh k dy = 1 := by
  unfold exV
  by_cases h1 : d (pP k + 3) = 0
  · rw [if_pos h1]; exact Or.inr rfl
  · rw [if_neg h1]
    by_cases h2 : ¬ d (pP k + 3) &&& 4 = 0
    · rw [if_pos h2]; exact Or.inl rfl
    · rw [if_neg h2]
      by_cases h3 : d 3 ≤ nI (addB d nh 5 dy)
      · rw [if_pos h3]; exact Or.inl rfl
      · rw [if_neg h3]; exact Or.inr rfl
theorem b8_nI {a : Nat} (h : a ≤ 100000000) : B8 (nI a) := by
  unfold B8
  rw [nI_toInt (by omega)]
  omega
theorem b8_sub {a b : Nat} (h : a ≤ 9000) (h2 : b ≤ 9000) : B8 (nI a - nI b) := by
  unfold B8
  rw [pk_sub_toInt (by omega) (by omega)]
  omega
theorem byo_app {bf : Nat → Int32} {b i : Nat} {w0 w1 w2 w3 w4 : Int32} (h : ByO bf) : ByO (appF bf b w0 w1 w2 w3 w4 i) := fun j => by
  unfold appF
  by_cases e : b ≤ j ∧ j < b + i
  · rw [if_pos e]
    unfold apB
    exact pk_andE _ 8 (by decide)
  · rw [if_neg e]; exact h j
