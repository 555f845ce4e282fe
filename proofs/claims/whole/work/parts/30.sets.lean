/-! BEST FIT: sets of presentations as numbers -/
theorem nI_or (a b : Nat) : nI a ||| nI b = nI (a ||| b) := Int32.toBitVec_inj.mp (by show BitVec.ofNat 32 a ||| BitVec.ofNat 32 b = BitVec.ofNat 32 (a ||| b); exact BitVec.ofNat_or.symm)
theorem nI_and (a b : Nat) : nI a &&& nI b = nI (a &&& b) := Int32.toBitVec_inj.mp (by show BitVec.ofNat 32 a &&& BitVec.ofNat 32 b = BitVec.ofNat 32 (a &&& b); exact BitVec.ofNat_and.symm)
theorem shl1 {k : Nat} (h : k < 24) : (1 : Int32) <<< (nI k &&& 31) = nI (2 ^ k) := by
  have h9 : ∀ n : Fin 24, (1 : Int32) <<< (nI n.1 &&& 31) = nI (2 ^ n.1) := by decide +kernel
  exact h9 ⟨k, h⟩
theorem shr_at {k : Nat} (h : k < 24) : ((nI k &&& 31).toBitVec.smod 32).toNat = k := by
  have h9 : ∀ n : Fin 24, ((nI n.1 &&& 31).toBitVec.smod 32).toNat = n.1 := by decide +kernel
  exact h9 ⟨k, h⟩
theorem bit_at {S k : Nat} (hS : S < 2 ^ 24) (hk : k < 24) : (nI S >>> (nI k &&& 31) &&& 1 = 1) = (S.testBit k = true) := by
  rw [pk_shrN (by omega) _ k (shr_at hk), show (1 : Int32) = nI 1 from rfl, nI_and, Nat.and_one_is_mod]
  have h2 := Nat.mod_lt (S / 2 ^ k) (show 0 < 2 by decide)
  rw [Nat.testBit_eq_decide_div_mod_eq]
  apply propext
  rw [nI_eq (by omega) (by omega)]
  simp
def Dj (t r h : Nat) : Prop := h = t + r ∧ ∀ i, h.testBit i = (t.testBit i || r.testBit i) ∧ (t.testBit i && r.testBit i) = false
theorem tb0 (t : Nat) : (2 * t).testBit 0 = false := by simp [Nat.testBit_zero]
theorem tb1 (t : Nat) : (2 * t + 1).testBit 0 = true := by simp [Nat.testBit_zero]
theorem tbs0 (t i : Nat) : (2 * t).testBit (i + 1) = t.testBit i := by rw [Nat.testBit_succ]; congr 1; omega
theorem tbs1 (t i : Nat) : (2 * t + 1).testBit (i + 1) = t.testBit i := by rw [Nat.testBit_succ]; congr 1; omega
theorem Dj.d0 {t r h : Nat} (hd : Dj t r h) : Dj (2 * t) (2 * r) (2 * h) := by
  refine ⟨by have := hd.1; omega, fun i => ?_⟩
  match i with
  | 0 => rw [tb0, tb0, tb0]; exact ⟨rfl, rfl⟩
  | i + 1 => rw [tbs0, tbs0, tbs0]; exact hd.2 i
theorem Dj.d1 {t r h : Nat} (hd : Dj t r h) : Dj (2 * t) (2 * r + 1) (2 * h + 1) := by
  refine ⟨by have := hd.1; omega, fun i => ?_⟩
  match i with
  | 0 => rw [tb0, tb1, tb1]; exact ⟨rfl, rfl⟩
  | i + 1 => rw [tbs0, tbs1, tbs1]; exact hd.2 i
theorem Dj.d2 {t r h : Nat} (hd : Dj t r h) : Dj (2 * t + 1) (2 * r) (2 * h + 1) := by
  refine ⟨by have := hd.1; omega, fun i => ?_⟩
  match i with
  | 0 => rw [tb1, tb0, tb1]; exact ⟨rfl, rfl⟩
  | i + 1 => rw [tbs1, tbs0, tbs1]; exact hd.2 i
theorem nI_wrap (a : Nat) : nI (4294967296 + a) = nI a := by
  rw [← nI_add, show nI 4294967296 = 0 by decide +kernel]
  exact Int32.zero_add _
/-- the next set -/
theorem nxt {k t r h m : Nat} (hk : k < 24) (hm : m < 2 ^ k) (hd : Dj t r h) (hb : 2 ^ k * (2 * h + 1) + m < 2 ^ 24) : (nI (2 ^ k * (2 * t) + m) - nI (2 ^ k * (2 * h + 1) + m)) &&& nI (2 ^ k * (2 * h + 1) + m) = nI (2 ^ k * (2 * t + 1)) := by
  have e1 : 2 ^ k * (2 * h + 1) = 2 ^ k * (2 * t) + 2 ^ k * (2 * r + 1) := by rw [← Nat.mul_add, hd.1]; congr 1; omega
  have e32 : 4294967296 = 2 ^ k * 2 ^ (32 - k) := by rw [← Nat.pow_add, show k + (32 - k) = 32 by omega]
  have hr : 2 ^ k * (2 * r + 1) ≤ 2 ^ k * 2 ^ (32 - k) := by rw [← e32]; omega
  have hr2 : 2 * r + 1 ≤ 2 ^ (32 - k) := Nat.le_of_mul_le_mul_left hr (Nat.pow_pos (by decide))
  rw [← nI_wrap (2 ^ k * (2 * t) + m)]
  rw [show nI (4294967296 + (2 ^ k * (2 * t) + m)) - nI (2 ^ k * (2 * h + 1) + m) = nI (4294967296 + (2 ^ k * (2 * t) + m) - (2 ^ k * (2 * h + 1) + m)) from (Int32.ofNat_sub _ _ (by omega)).symm]
  rw [nI_and]
  congr 1
  rw [show 4294967296 + (2 ^ k * (2 * t) + m) - (2 ^ k * (2 * h + 1) + m) = 2 ^ k * (2 ^ (32 - k) - (2 * r + 1)) by rw [Nat.mul_sub, ← e32]; omega]
  apply Nat.eq_of_testBit_eq
  intro j
  rw [Nat.testBit_and, Nat.testBit_two_pow_mul, Nat.testBit_two_pow_mul_add _ hm, Nat.testBit_two_pow_mul]
  by_cases hj : j < k
  · simp [Nat.not_le.mpr hj]
  · rw [if_neg hj, Nat.testBit_two_pow_sub_succ (by omega)]
    have hj2 : k ≤ j := by omega
    simp only [ge_iff_le, hj2, decide_true, Bool.true_and]
    generalize hi : j - k = i
    match i with
    | 0 =>
      rw [tb0, tb1, tb1]
      have h0 : 0 < 32 - k := by omega
      simp [h0]
    | i + 1 =>
      rw [tbs0, tbs1, tbs1, (hd.2 i).1]
      have hq := (hd.2 i).2
      cases ht : t.testBit i with
      | false => simp
      | true =>
        rw [ht] at hq
        have hr0 : r.testBit i = false := by simpa using hq
        rw [hr0]
        have hlt : i + 1 < 32 - k := by
          have h5 : 2 ^ i ≤ t := Nat.ge_two_pow_of_testBit ht
          have h6 : 2 ^ k * 2 ^ i ≤ 2 ^ k * t := Nat.mul_le_mul_left _ h5
          have h7 : 2 ^ k * (2 * t) = 2 * (2 ^ k * t) := by rw [← Nat.mul_assoc, Nat.mul_comm (2 ^ k) 2, Nat.mul_assoc]
          have h8 : 2 ^ (k + i) < 2 ^ 24 := by rw [Nat.pow_add]; omega
          have h9 := (Nat.pow_lt_pow_iff_right (by decide)).mp h8
          omega
        simp [hlt]
theorem or_at {k t : Nat} (hk : k < 24) : nI (2 ^ k * (2 * t)) ||| (1 : Int32) <<< (nI k &&& 31) = nI (2 ^ k * (2 * t + 1)) := by
  rw [shl1 hk, nI_or]
  congr 1
  have h := Nat.two_pow_add_eq_or_of_lt (i := k + 1) (b := 2 ^ k) (Nat.pow_lt_pow_right (by decide) (by omega)) t
  rw [show 2 ^ k * (2 * t) = 2 ^ (k + 1) * t by rw [Nat.pow_succ, Nat.mul_assoc], ← h, Nat.mul_add, Nat.pow_succ, Nat.mul_assoc]
  omega
theorem or_lo {k m : Nat} (hk : k < 24) (hm : m < 2 ^ k) : nI m ||| (1 : Int32) <<< (nI k &&& 31) = nI (m + 2 ^ k) := by
  rw [shl1 hk, nI_or]
  congr 1
  have h := Nat.two_pow_add_eq_or_of_lt (i := k) (b := m) hm 1
  rw [Nat.or_comm, show 2 ^ k ||| m = 2 ^ k * 1 ||| m by rw [Nat.mul_one], ← h]
  omega
/-- the chosen presentations below k, as a number -/
def mS (d : Nat → Int32) (c : Int32) : Nat → Nat
  | 0 => 0
  | k + 1 => if d (pP k) = c ∧ d (pP k + 4) = 3 ∧ (cS d c k).1 < 12 then mS d c k + 2 ^ k else mS d c k
theorem mS_y {d : Nat → Int32} {c : Int32} {k : Nat} (h : d (pP k) = c ∧ d (pP k + 4) = 3 ∧ (cS d c k).1 < 12) : mS d c (k + 1) = mS d c k + 2 ^ k := if_pos h
theorem mS_n {d : Nat → Int32} {c : Int32} {k : Nat} (h : ¬ (d (pP k) = c ∧ d (pP k + 4) = 3 ∧ (cS d c k).1 < 12)) : mS d c (k + 1) = mS d c k := if_neg h
theorem mS_lt (d : Nat → Int32) (c : Int32) : ∀ k, mS d c k < 2 ^ k
  | 0 => Nat.one_pos
  | k + 1 => by
    have h := mS_lt d c k
    rw [Nat.pow_succ]
    by_cases e : d (pP k) = c ∧ d (pP k + 4) = 3 ∧ (cS d c k).1 < 12
    · rw [mS_y e]; omega
    · rw [mS_n e]; omega
theorem full_s {d : Nat → Int32} {c : Int32} {k : Nat} (h : (cS d c k).1 = 12) : ∀ j, cS d c (k + j) = cS d c k ∧ mS d c (k + j) = mS d c k
  | 0 => ⟨rfl, rfl⟩
  | j + 1 => by
    obtain ⟨h1, h2⟩ := full_s h j
    have hn : ¬ (d (pP (k + j)) = c ∧ d (pP (k + j) + 4) = 3 ∧ (cS d c (k + j)).1 < 12) := fun z => by
      have := z.2.2
      rw [h1] at this
      omega
    exact ⟨(cS_n hn).trans h1, (mS_n hn).trans h2⟩
/-- the sum of a set -/
def smS (d : Nat → Int32) (S : Nat) : Nat → Int32
  | 0 => 0
  | k + 1 => smS d S k + (if S.testBit k = true then d (pP k + 2) else 0)
theorem bst_c {room : Int32} {PF AF PF' AF' : Nat → Int32} : ∀ (n : Nat) (set sum : Int32) (st : Int32 × Int32), (∀ j, j < n → PF' j = PF j ∧ AF' j = AF j) → bst room PF' AF' n set sum st = bst room PF AF n set sum st
  | 0, _, _, _, _ => rfl
  | n + 1, set, sum, st, h => by
    unfold bst
    rw [(h n (by omega)).1, (h n (by omega)).2, bst_c n set sum st (fun j hj => h j (by omega)), bst_c n _ _ _ (fun j hj => h j (by omega))]
/-- the search over the presentations below k -/
def gS (d : Nat → Int32) (c room : Int32) (k : Nat) (set sum : Int32) (st : Int32 × Int32) : Int32 × Int32 := bst room (cS d c k).2.1 (cS d c k).2.2 (cS d c k).1 set sum st
theorem gS_n {d : Nat → Int32} {c room set sum : Int32} {k : Nat} {st : Int32 × Int32} (h : ¬ (d (pP k) = c ∧ d (pP k + 4) = 3 ∧ (cS d c k).1 < 12)) : gS d c room (k + 1) set sum st = gS d c room k set sum st := by
  unfold gS
  rw [cS_n h]
theorem gS_y {d : Nat → Int32} {c room set sum : Int32} {k : Nat} {st : Int32 × Int32} (h : d (pP k) = c ∧ d (pP k + 4) = 3 ∧ (cS d c k).1 < 12) : gS d c room (k + 1) set sum st = if room < sum + d (pP k + 2) then gS d c room k set sum st else gS d c room k (set ||| (1 <<< (nI k &&& 31))) (sum + d (pP k + 2)) (gS d c room k set sum st) := by
  have e : ∀ j, j < (cS d c k).1 → upd (cS d c k).2.1 (cS d c k).1 (nI k) j = (cS d c k).2.1 j ∧ upd (cS d c k).2.2 (cS d c k).1 (d (pP k + 2)) j = (cS d c k).2.2 j := fun j hj => ⟨pk_un (by omega), pk_un (by omega)⟩
  unfold gS
  rw [cS_y h.1 h.2.1 h.2.2]
  show bst room (upd (cS d c k).2.1 (cS d c k).1 (nI k)) (upd (cS d c k).2.2 (cS d c k).1 (d (pP k + 2))) ((cS d c k).1 + 1) set sum st = _
  rw [show bst room (upd (cS d c k).2.1 (cS d c k).1 (nI k)) (upd (cS d c k).2.2 (cS d c k).1 (d (pP k + 2))) ((cS d c k).1 + 1) set sum st = if room < sum + (upd (cS d c k).2.2 (cS d c k).1 (d (pP k + 2))) (cS d c k).1 then bst room (upd (cS d c k).2.1 (cS d c k).1 (nI k)) (upd (cS d c k).2.2 (cS d c k).1 (d (pP k + 2))) (cS d c k).1 set sum st else bst room (upd (cS d c k).2.1 (cS d c k).1 (nI k)) (upd (cS d c k).2.2 (cS d c k).1 (d (pP k + 2))) (cS d c k).1 (set ||| (1 <<< ((upd (cS d c k).2.1 (cS d c k).1 (nI k)) (cS d c k).1 &&& 31))) (sum + (upd (cS d c k).2.2 (cS d c k).1 (d (pP k + 2))) (cS d c k).1) (bst room (upd (cS d c k).2.1 (cS d c k).1 (nI k)) (upd (cS d c k).2.2 (cS d c k).1 (d (pP k + 2))) (cS d c k).1 set sum st) from rfl]
  rw [pk_us, pk_us, bst_c _ set sum st e, bst_c _ _ _ _ e]
/-- the search that looks at every set -/
def uS (d : Nat → Int32) (c room : Int32) : Nat → Nat → Nat → Int32 × Int32 → Int32 × Int32
  | 0, t, sm, st => if room < nI sm then st else if nI sm ≤ st.1 then st else (nI sm, nI t)
  | k + 1, t, sm, st => if d (pP k) = c ∧ d (pP k + 4) = 3 ∧ (cS d c k).1 < 12 then uS d c room k (2 * t + 1) (sm + (d (pP k + 2)).toNatClampNeg) (uS d c room k (2 * t) sm st) else uS d c room k (2 * t) sm st
theorem uS_y {d : Nat → Int32} {c room : Int32} {k t sm : Nat} {st : Int32 × Int32} (h : d (pP k) = c ∧ d (pP k + 4) = 3 ∧ (cS d c k).1 < 12) : uS d c room (k + 1) t sm st = uS d c room k (2 * t + 1) (sm + (d (pP k + 2)).toNatClampNeg) (uS d c room k (2 * t) sm st) := if_pos h
theorem uS_n {d : Nat → Int32} {c room : Int32} {k t sm : Nat} {st : Int32 × Int32} (h : ¬ (d (pP k) = c ∧ d (pP k + 4) = 3 ∧ (cS d c k).1 < 12)) : uS d c room (k + 1) t sm st = uS d c room k (2 * t) sm st := if_neg h
def AmOk (d : Nat → Int32) (n : Nat) : Prop := ∀ j, j < n → ∃ a, a ≤ 1999999 ∧ d (pP j + 2) = nI a
theorem AmOk.clamp {d : Nat → Int32} {n k : Nat} (h : AmOk d n) (hk : k < n) : (d (pP k + 2)).toNatClampNeg ≤ 1999999 ∧ d (pP k + 2) = nI (d (pP k + 2)).toNatClampNeg := by
  obtain ⟨a, h1, h2⟩ := h k hk
  rw [h2, nI_clamp (by omega)]
  exact ⟨h1, rfl⟩
theorem uS_big {d : Nat → Int32} {c room : Int32} : ∀ (k t sm : Nat) (st : Int32 × Int32), AmOk d k → sm + 2000000 * k < 2147483648 → room < nI sm → uS d c room k t sm st = st
  | 0, t, sm, st, _, _, h => if_pos h
  | k + 1, t, sm, st, hA, hs, h => by
    have hA' : AmOk d k := fun j hj => hA j (by omega)
    by_cases e : d (pP k) = c ∧ d (pP k + 4) = 3 ∧ (cS d c k).1 < 12
    · have ha := (hA.clamp (k := k) (by omega)).1
      rw [uS_y e, uS_big k (2 * t) sm st hA' (by omega) h]
      exact uS_big k (2 * t + 1) _ st hA' (by omega) (Int32.lt_of_lt_of_le h (nI_le (by omega) (by omega)))
    · rw [uS_n e]
      exact uS_big k (2 * t) sm st hA' (by omega) h
theorem uS_nn {d : Nat → Int32} {c room : Int32} : ∀ (k t sm : Nat) (st : Int32 × Int32), AmOk d k → sm + 2000000 * k < 2147483648 → 0 ≤ st.1 → 0 ≤ (uS d c room k t sm st).1
  | 0, t, sm, st, _, hs, h => by
    unfold uS
    by_cases h1 : room < nI sm
    · rw [if_pos h1]; exact h
    · rw [if_neg h1]
      by_cases h2 : nI sm ≤ st.1
      · rw [if_pos h2]; exact h
      · rw [if_neg h2]; exact nI_pos' (by omega)
  | k + 1, t, sm, st, hA, hs, h => by
    have hA' : AmOk d k := fun j hj => hA j (by omega)
    by_cases e : d (pP k) = c ∧ d (pP k + 4) = 3 ∧ (cS d c k).1 < 12
    · have ha := (hA.clamp (k := k) (by omega)).1
      rw [uS_y e]
      exact uS_nn k _ _ _ hA' (by omega) (uS_nn k _ _ _ hA' (by omega) h)
    · rw [uS_n e]
      exact uS_nn k _ _ _ hA' (by omega) h
theorem uS_gS {d : Nat → Int32} {c room : Int32} : ∀ (k t sm : Nat) (st : Int32 × Int32), k ≤ 24 → AmOk d k → sm + 2000000 * k < 2147483648 → 0 ≤ st.1 → (nI sm ≤ room ∨ sm = 0) → uS d c room k t sm st = gS d c room k (nI (2 ^ k * t)) (nI sm) st
  | 0, t, sm, st, _, _, hs, h, hr => by
    show (if room < nI sm then st else if nI sm ≤ st.1 then st else (nI sm, nI t)) = if nI sm ≤ st.1 then st else (nI sm, nI (2 ^ 0 * t))
    rw [Nat.pow_zero, Nat.one_mul]
    rcases hr with hr | hr
    · rw [if_neg (Int32.not_lt.mpr hr)]
    · subst hr
      have h0 : nI 0 ≤ st.1 := h
      rw [if_pos h0]
      by_cases h1 : room < nI 0
      · rw [if_pos h1]
      · rw [if_neg h1]
  | k + 1, t, sm, st, hk, hA, hs, h, hr => by
    have hA' : AmOk d k := fun j hj => hA j (by omega)
    have e2 : 2 ^ (k + 1) * t = 2 ^ k * (2 * t) := by rw [Nat.pow_succ, Nat.mul_assoc]
    rw [e2]
    by_cases e : d (pP k) = c ∧ d (pP k + 4) = 3 ∧ (cS d c k).1 < 12
    · obtain ⟨ha, hb⟩ := hA.clamp (k := k) (by omega)
      rw [uS_y e, gS_y e, uS_gS k (2 * t) sm st (by omega) hA' (by omega) h hr]
      generalize hc : (d (pP k + 2)).toNatClampNeg = a at ha hb ⊢
      rw [hb, nI_add]
      have hn : 0 ≤ (gS d c room k (nI (2 ^ k * (2 * t))) (nI sm) st).1 := by
        rw [← uS_gS k (2 * t) sm st (by omega) hA' (by omega) h hr]
        exact uS_nn k _ _ _ hA' (by omega) h
      by_cases h1 : room < nI (sm + a)
      · rw [if_pos h1]
        exact uS_big k _ _ _ hA' (by omega) h1
      · rw [if_neg h1, or_at (by omega)]
        exact uS_gS k (2 * t + 1) (sm + a) _ (by omega) hA' (by omega) hn (Or.inl (Int32.not_lt.mp h1))
    · rw [uS_n e, gS_n e]
      exact uS_gS k (2 * t) sm st (by omega) hA' (by omega) h hr
theorem sm_add (d : Nat → Int32) (k t : Nat) : ∀ n, smS d (2 ^ k * (2 * t + 1)) n = smS d (2 ^ k * (2 * t)) n + (if k < n then d (pP k + 2) else 0)
  | 0 => rfl
  | n + 1 => by
    have h := sm_add d k t n
    show smS d (2 ^ k * (2 * t + 1)) n + (if (2 ^ k * (2 * t + 1)).testBit n = true then d (pP n + 2) else 0) = smS d (2 ^ k * (2 * t)) n + (if (2 ^ k * (2 * t)).testBit n = true then d (pP n + 2) else 0) + (if k < n + 1 then d (pP k + 2) else 0)
    rw [h, Nat.testBit_two_pow_mul, Nat.testBit_two_pow_mul]
    rcases Nat.lt_trichotomy n k with h1 | h1 | h1
    · rw [if_neg (show ¬ k < n by omega), if_neg (show ¬ k < n + 1 by omega)]
      simp [Nat.not_le.mpr h1]
    · subst h1
      rw [if_neg (show ¬ n < n by omega), if_pos (show n < n + 1 by omega), Nat.sub_self, tb0, tb1]
      simp
    · obtain ⟨i, hi⟩ : ∃ i, n - k = i + 1 := ⟨n - k - 1, by omega⟩
      rw [if_pos h1, if_pos (show k < n + 1 by omega), hi, tbs0, tbs1, Int32.add_assoc, Int32.add_assoc, Int32.add_comm (d (pP k + 2))]
theorem sm_zero (d : Nat → Int32) : ∀ n, smS d 0 n = 0
  | 0 => rfl
  | n + 1 => by
    show smS d 0 n + (if (0 : Nat).testBit n = true then d (pP n + 2) else 0) = 0
    rw [sm_zero d n, Nat.zero_testBit]
    rfl
