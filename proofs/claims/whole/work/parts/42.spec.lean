/-! READING: the language, as both sides read it -/
theorem hr_mono {s : State} {pl : Platform} {r r' : Room} (h : s.hasRoom pl r' = true) (h1 : r.frames ≤ r'.frames) (h2 : r.cells ≤ r'.cells) (h3 : r.slots ≤ r'.slots) (h4 : r.locals ≤ r'.locals) : s.hasRoom pl r = true := by
  simp only [State.hasRoom, Bool.and_eq_true, decide_eq_true_eq] at h ⊢
  obtain ⟨⟨⟨⟨a, b1, b2, b3, b4, b5⟩, c⟩, d⟩, e⟩ := h
  exact ⟨⟨⟨⟨by omega, by omega, by omega, by omega, by omega, b5⟩, by omega⟩, by omega⟩, e⟩
/-- a writer's contract, weakened -/
theorem Wr.weak {l : Launch} {y : MethodName} {cc : ByteArray} {nL : Nat} {ret : Option FieldType} {fr lo fr' lo' mc ms : Nat} {G : CG} {av : List Value} {P P' : Heap → Prop} {A : Nat → Prop} {Q Q' : Option Value → Heap → Prop} (h : Wr l y cc nL ret fr lo mc ms G av P A Q) (hP : ∀ H, P' H → P H) (hQ : ∀ v H, Q v H → Q' v H) (h1 : fr ≤ fr') (h2 : lo ≤ lo') : Wr l y cc nL ret fr' lo' mc ms G av P' A Q' :=
  fun p e ha hc hk s m args below hf happ hpre htr => by
    have q := (Spec.appliesLoose_iff hf).mp happ
    obtain ⟨t, o, k1, k2, k3, ⟨v, k5, k6, k7⟩, k8⟩ := h p e ha hc hk s m args below hf ((Spec.appliesLoose_iff hf).mpr ⟨q.1, q.2.1, q.2.2.1, q.2.2.2.1, q.2.2.2.2.1, q.2.2.2.2.2.1, hr_mono q.2.2.2.2.2.2.1 h1 (Nat.le_refl _) (Nat.le_refl _) h2, q.2.2.2.2.2.2.2⟩) ⟨hpre.1, hpre.2.1, hpre.2.2.1, hP _ hpre.2.2.2⟩ htr
    exact ⟨t, o, k1, k2, k3, ⟨v, k5, hQ _ _ k6, k7⟩, k8⟩
/-- a buffer of bytes -/
def ByO (bf : Nat → Int32) : Prop := ∀ j, ∃ b, b < 256 ∧ bf j = nI b
def sB (bf : Nat → Int32) : Nat → Int32 := fun j => (bf j).toInt8.toInt32
def kv (t : Int32) : Int32 := if t < 48 then (if t < 97 then t else if 122 < t then t else 1002) else if 57 < t then (if t < 97 then t else if 122 < t then t else 1002) else 1001
/-- the kind of what stands at k -/
def kd (bf : Nat → Int32) (n k : Nat) : Int32 := kdA (sB bf) n k
theorem kd_in {bf : Nat → Int32} {n k : Nat} (h : k < n) : kd bf n k = kv (sB bf k) := if_pos h
theorem kd_out {bf : Nat → Int32} {n k : Nat} (h : n ≤ k) : kd bf n k = 1000 := if_neg (Nat.not_lt.mpr h)
theorem bt_in {bf : Nat → Int32} {n k : Nat} (h : k < n) : bt bf n k = bf k := if_neg (Nat.not_le.mpr h)
theorem bt_out {bf : Nat → Int32} {n k : Nat} (h : n ≤ k) : bt bf n k = (-1) := if_pos h
abbrev syms : List Int32 := [32, 40, 41, 42, 43, 45, 47, 59]
theorem kv_all : ∀ b : Fin 256, (kv (nI b.1).toInt8.toInt32 = 1001 ↔ inV (nI b.1) 48 57 = 1) ∧ (kv (nI b.1).toInt8.toInt32 = 1002 ↔ inV (nI b.1) 97 122 = 1) ∧ ¬ kv (nI b.1).toInt8.toInt32 = 1000 ∧ (∀ c ∈ syms, (kv (nI b.1).toInt8.toInt32 = c ↔ nI b.1 = c)) ∧ (inV (nI b.1) 48 57 = 1 → (nI b.1).toInt8.toInt32 = nI b.1 ∧ 48 ≤ b.1 ∧ b.1 ≤ 57) := by decide +kernel
theorem kv_ltr : ∀ b : Fin 256, ∀ c : Fin 26, ((nI b.1).toInt8.toInt32 = nI (97 + c.1) ↔ nI b.1 = nI (97 + c.1)) := by decide +kernel
section KD
variable {bf : Nat → Int32} {n k : Nat}
theorem kd_num (hB : ByO bf) : kd bf n k = 1001 ↔ inV (bt bf n k) 48 57 = 1 := by
  by_cases h : k < n
  · obtain ⟨b, h1, h2⟩ := hB k
    rw [kd_in h, bt_in h]
    unfold sB
    rw [h2]
    exact (kv_all ⟨b, h1⟩).1
  · rw [kd_out (by omega), bt_out (by omega)]
    decide
theorem kd_wrd (hB : ByO bf) : kd bf n k = 1002 ↔ inV (bt bf n k) 97 122 = 1 := by
  by_cases h : k < n
  · obtain ⟨b, h1, h2⟩ := hB k
    rw [kd_in h, bt_in h]
    unfold sB
    rw [h2]
    exact (kv_all ⟨b, h1⟩).2.1
  · rw [kd_out (by omega), bt_out (by omega)]
    decide
theorem kd_sym (hB : ByO bf) {c : Int32} (hc : c ∈ syms) : kd bf n k = c ↔ bt bf n k = c := by
  by_cases h : k < n
  · obtain ⟨b, h1, h2⟩ := hB k
    rw [kd_in h, bt_in h]
    unfold sB
    rw [h2]
    exact (kv_all ⟨b, h1⟩).2.2.2.1 c hc
  · rw [kd_out (by omega), bt_out (by omega)]
    have : ∀ c ∈ syms, ((1000 : Int32) = c ↔ (-1 : Int32) = c) := by decide
    exact this c hc
theorem kd_end (hB : ByO bf) : kd bf n k = 1000 ↔ n ≤ k := by
  by_cases h : k < n
  · obtain ⟨b, h1, h2⟩ := hB k
    rw [kd_in h]
    unfold sB
    rw [h2]
    exact ⟨fun z => absurd z (kv_all ⟨b, h1⟩).2.2.1, fun z => by omega⟩
  · exact ⟨fun _ => by omega, fun z => kd_out z⟩
theorem bt_end (hB : ByO bf) : bt bf n k = (-1) ↔ n ≤ k := by
  by_cases h : k < n
  · obtain ⟨b, h1, h2⟩ := hB k
    rw [bt_in h, h2]
    have : ∀ b : Fin 256, ¬ nI b.1 = (-1) := by decide +kernel
    exact ⟨fun z => absurd z (this ⟨b, h1⟩), fun z => by omega⟩
  · exact ⟨fun _ => by omega, fun z => bt_out z⟩
end KD
theorem sk_i {bf : Nat → Int32} {n : Nat} : ∀ (j q : Nat), n ≤ q + j → ¬ bt bf n (spc bf n q) = 32
  | 0, q, h1 => by
    rw [sk_n (by rw [bt_out (by omega)]; decide), bt_out (by omega)]
    decide
  | j + 1, q, h1 => by
    by_cases h : bt bf n q = 32
    · rw [sk_s h]
      exact sk_i j (q + 1) (by omega)
    · rw [sk_n h]
      exact h
theorem sk_ii (bf : Nat → Int32) (n q : Nat) : spc bf n (spc bf n q) = spc bf n q := sk_n (sk_i n q (by omega))
/-- runs of one kind -/
def rnF (bf : Nat → Int32) (n : Nat) (c : Int32) : Nat → Nat → Nat
  | 0, k => k
  | j + 1, k => if kd bf n k = c then rnF bf n c j (k + 1) else k
def rn (bf : Nat → Int32) (n : Nat) (c : Int32) (k : Nat) : Nat := rnF bf n c (n - k) k
theorem rn_n {bf : Nat → Int32} {n k : Nat} {c : Int32} (h : ¬ kd bf n k = c) : rn bf n c k = k := by
  unfold rn
  cases n - k with
  | zero => rfl
  | succ j => exact if_neg h
theorem kd_lt {bf : Nat → Int32} {n k : Nat} {c : Int32} (h : kd bf n k = c) (hc : ¬ c = 1000) : k < n := by
  by_cases e : k < n
  · exact e
  · exact absurd ((kd_out (Nat.not_lt.mp e)).symm.trans h).symm hc
theorem rn_s {bf : Nat → Int32} {n k : Nat} {c : Int32} (h : kd bf n k = c) (hc : ¬ c = 1000) : rn bf n c k = rn bf n c (k + 1) := by
  have hk := kd_lt h hc
  unfold rn
  rw [show n - k = (n - (k + 1)) + 1 by omega]
  exact if_pos h
theorem rn_b {bf : Nat → Int32} {n : Nat} {c : Int32} (hc : ¬ c = 1000) : ∀ (j k : Nat), n ≤ k + j → k ≤ n → k ≤ rn bf n c k ∧ rn bf n c k ≤ n ∧ ¬ kd bf n (rn bf n c k) = c ∧ ∀ i, k ≤ i → i < rn bf n c k → kd bf n i = c
  | 0, k, h1, h2 => by
    have e : ¬ kd bf n k = c := by rw [kd_out (by omega)]; exact fun z => hc z.symm
    rw [rn_n e]
    exact ⟨Nat.le_refl _, h2, e, fun i a b => by omega⟩
  | j + 1, k, h1, h2 => by
    by_cases e : kd bf n k = c
    · have hk := kd_lt e hc
      rw [rn_s e hc]
      have q := rn_b (bf := bf) (n := n) hc j (k + 1) (by omega) (by omega)
      refine ⟨by omega, q.2.1, q.2.2.1, fun i a b => ?_⟩
      by_cases e2 : i = k
      · rw [e2]; exact e
      · exact q.2.2.2 i (by omega) b
    · rw [rn_n e]
      exact ⟨Nat.le_refl _, h2, e, fun i a b => by omega⟩
theorem rn_to {bf : Nat → Int32} {n : Nat} {c : Int32} (hc : ¬ c = 1000) : ∀ (m k : Nat), (∀ i, i < m → kd bf n (k + i) = c) → ¬ kd bf n (k + m) = c → rn bf n c k = k + m
  | 0, k, _, h2 => rn_n h2
  | m + 1, k, h1, h2 => by
    have h10 := h1 0 (by omega)
    rw [Nat.add_zero] at h10
    rw [rn_s h10 hc, rn_to hc m (k + 1) (fun i hi => by rw [show k + 1 + i = k + (i + 1) by omega]; exact h1 (i + 1) (by omega)) (by rw [show k + 1 + m = k + (m + 1) by omega]; exact h2)]
    omega
/-- where the token that begins at k ends -/
def te (bf : Nat → Int32) (n k : Nat) : Nat := if kd bf n k = 1000 then k else if kd bf n k = 1001 then rn bf n 1001 (k + 1) else if kd bf n k = 1002 then rn bf n 1002 (k + 1) else k + 1
theorem te_b {bf : Nat → Int32} {n k : Nat} (hB : ByO bf) (h : k ≤ n) : k ≤ te bf n k ∧ te bf n k ≤ n := by
  unfold te
  by_cases h0 : kd bf n k = 1000
  · rw [if_pos h0]
    omega
  · have hk : k < n := by
      by_cases e : k < n
      · exact e
      · exact absurd (kd_out (by omega)) h0
    rw [if_neg h0]
    have q1 := rn_b (bf := bf) (n := n) (c := 1001) (by decide) n (k + 1) (by omega) (by omega)
    have q2 := rn_b (bf := bf) (n := n) (c := 1002) (by decide) n (k + 1) (by omega) (by omega)
    by_cases h1 : kd bf n k = 1001
    · rw [if_pos h1]; omega
    · rw [if_neg h1]
      by_cases h2 : kd bf n k = 1002
      · rw [if_pos h2]; omega
      · rw [if_neg h2]; omega
/-- the class's value of digits -/
def vc (bf : Nat → Int32) : Nat → Nat → Int32 → Int32
  | 0, _, v => v
  | j + 1, k, v => vc bf j (k + 1) (jmin 10000000 (v * 10 + sB bf k - 48))
def va (bf : Nat → Int32) (n k : Nat) : Int32 := if kd bf n k = 1001 then vc bf (te bf n k - k) k 0 else 0
theorem dg_rn {bf : Nat → Int32} {n : Nat} (hB : ByO bf) : ∀ (j k a b : Nat), n ≤ k + j → a = min 1000000 b → b ≤ 10000000 →
    (dg bf n k (nI a)).1 = rn bf n 1001 k ∧ ∃ a' b', (dg bf n k (nI a)).2 = nI a' ∧ vc bf (rn bf n 1001 k - k) k (nI b) = nI b' ∧ a' = min 1000000 b' ∧ b' ≤ 10000000
  | 0, k, a, b, h1, h2, h3 => by
    have e : ¬ kd bf n k = 1001 := by rw [kd_out (by omega)]; decide
    rw [rn_n e, dg_n (fun z => e ((kd_num hB).mpr z)), Nat.sub_self]
    exact ⟨rfl, a, b, rfl, rfl, h2, h3⟩
  | j + 1, k, a, b, h1, h2, h3 => by
    by_cases e : kd bf n k = 1001
    · have hk := kd_lt e (by decide)
      have hd := (kd_num hB).mp e
      obtain ⟨c, c1, c2⟩ := hB k
      have hd2 := hd
      rw [bt_in hk, c2] at hd2
      obtain ⟨e1, e2, e3⟩ := (kv_all ⟨c, c1⟩).2.2.2.2 hd2
      have e2 : 48 ≤ c := e2
      have e3 : c ≤ 57 := e3
      have hs : sB bf k = nI c := by unfold sB; rw [c2]; exact e1
      have hb := rn_b (bf := bf) (n := n) (c := 1001) (by decide) n (k + 1) (by omega) (by omega)
      rw [dg_s hd, rn_s e (by decide), show rn bf n 1001 (k + 1) - k = (rn bf n 1001 (k + 1) - (k + 1)) + 1 by omega]
      have v1 : minV 1000000 (10 * nI a + bt bf n k - 48) = nI (min 1000000 (10 * a + c - 48)) := by
        rw [bt_in hk, c2, show (10 : Int32) = nI 10 from rfl, pk_mul, nI_add, show (48 : Int32) = nI 48 from rfl, pk_sub (by omega), show (1000000 : Int32) = nI 1000000 from rfl]
        exact minV_nI (by omega) (by omega)
      have v2 : jmin 10000000 (nI b * 10 + sB bf k - 48) = nI (min 10000000 (b * 10 + c - 48)) := by
        rw [hs, show (10 : Int32) = nI 10 from rfl, pk_mul, nI_add, show (48 : Int32) = nI 48 from rfl, pk_sub (by omega), show (10000000 : Int32) = nI 10000000 from rfl]
        exact jmin_nI (by omega) (by omega)
      have q := dg_rn (n := n) hB j (k + 1) (min 1000000 (10 * a + c - 48)) (min 10000000 (b * 10 + c - 48)) (by omega) (by omega) (by omega)
      unfold vc
      rw [v1, v2]
      exact q
    · rw [rn_n e, dg_n (fun z => e ((kd_num hB).mpr z)), Nat.sub_self]
      exact ⟨rfl, a, b, rfl, rfl, h2, h3⟩
theorem dg_1 {bf : Nat → Int32} {n k : Nat} (hB : ByO bf) (h : kd bf n k = 1001) : (dg bf n k 0).1 = te bf n k ∧ ∃ a b, (dg bf n k 0).2 = nI a ∧ va bf n k = nI b ∧ a = min 1000000 b ∧ b ≤ 10000000 := by
  have q := dg_rn (n := n) hB n k 0 0 (by omega) rfl (by omega)
  have e : te bf n k = rn bf n 1001 k := by
    unfold te
    rw [if_neg (by rw [h]; decide), if_pos h, rn_s h (by decide)]
  refine ⟨by rw [e]; exact q.1, ?_⟩
  obtain ⟨a, b, h1, h2, h3, h4⟩ := q.2
  refine ⟨a, b, h1, ?_, h3, h4⟩
  unfold va
  rw [if_pos h, e]
  exact h2
theorem inV_nI {v lo hi : Nat} (hv : v < 2147483648) (h1 : lo < 2147483648) (h2 : hi < 2147483648) : inV (nI v) (nI lo) (nI hi) = 1 ↔ lo ≤ v ∧ v ≤ hi := by
  unfold inV
  by_cases a : v < lo
  · rw [if_pos ((nLT (x := nI v) (y := nI lo) rfl rfl hv h1).mpr a)]
    exact ⟨fun z => absurd z (by decide), fun z => by omega⟩
  · rw [if_neg (fun z => a ((nLT (x := nI v) (y := nI lo) rfl rfl hv h1).mp z))]
    by_cases b : hi < v
    · rw [if_pos ((nLT (x := nI hi) (y := nI v) rfl rfl h2 hv).mpr b)]
      exact ⟨fun z => absurd z (by decide), fun z => by omega⟩
    · rw [if_neg (fun z => b ((nLT (x := nI hi) (y := nI v) rfl rfl h2 hv).mp z))]
      exact ⟨fun _ => by omega, fun _ => rfl⟩
/-- a range that numbers are held to -/
def Rg (lo hi : Int32) : Prop := ∃ a b, lo = nI a ∧ hi = nI b ∧ a ≤ b ∧ b ≤ 999999
theorem va_in {bf : Nat → Int32} {n k : Nat} {lo hi : Int32} (hB : ByO bf) (h : kd bf n k = 1001) (hr : Rg lo hi) : (inV (va bf n k) lo hi = 1 ↔ inV (dg bf n k 0).2 lo hi = 1) ∧ (inV (dg bf n k 0).2 lo hi = 1 → (dg bf n k 0).2 = va bf n k) := by
  obtain ⟨-, a, b, h1, h2, h3, h4⟩ := dg_1 hB h
  obtain ⟨x, y, rfl, rfl, h5, h6⟩ := hr
  rw [h1, h2, inV_nI (by omega) (by omega) (by omega), inV_nI (by omega) (by omega) (by omega)]
  exact ⟨by omega, fun z => by rw [show a = b by omega]⟩
/-- a word of letters -/
def IsL (w : List Int32) : Prop := 0 < w.length ∧ ∀ i, i < w.length → ∃ c, c < 26 ∧ w.getD i 0 = nI (97 + c)
theorem ltr_in : ∀ c : Fin 26, inV (nI (97 + c.1)) 97 122 = 1 := by decide +kernel
theorem isW_iff {bf : Nat → Int32} {n k : Nat} {w : List Int32} (hB : ByO bf) (hw : IsL w) : isW bf n k w ↔ kd bf n k = 1002 ∧ te bf n k = k + w.length ∧ ∀ i, i < w.length → sB bf (k + i) = w.getD i 0 := by
  have sbt : ∀ i, i < w.length → k + i < n → (sB bf (k + i) = w.getD i 0 ↔ bt bf n (k + i) = w.getD i 0) := fun i hi hk => by
    obtain ⟨b, b1, b2⟩ := hB (k + i)
    obtain ⟨c, c1, c2⟩ := hw.2 i hi
    rw [bt_in hk, c2]
    unfold sB
    rw [b2]
    exact kv_ltr ⟨b, b1⟩ ⟨c, c1⟩
  constructor
  · intro h
    have hk : ∀ i, i < w.length → kd bf n (k + i) = 1002 := fun i hi => by
      obtain ⟨c, c1, c2⟩ := hw.2 i hi
      rw [kd_wrd hB, h.1 i hi, c2]
      exact ltr_in ⟨c, c1⟩
    have h0 := hk 0 hw.1
    rw [Nat.add_zero] at h0
    have he : ¬ kd bf n (k + w.length) = 1002 := fun z => by
      rw [kd_wrd hB, h.2] at z
      exact absurd z (by decide)
    refine ⟨h0, ?_, fun i hi => ?_⟩
    · unfold te
      rw [if_neg (by rw [h0]; decide), if_neg (by rw [h0]; decide), if_pos h0, ← rn_s h0 (by decide), rn_to (by decide) w.length k hk he]
    · have hl := kd_lt (hk i hi) (by decide)
      rw [sbt i hi hl]
      exact h.1 i hi
  · intro ⟨h0, h1, h2⟩
    have hkn := kd_lt h0 (by decide)
    have ht : te bf n k = rn bf n 1002 k := by
      unfold te
      rw [if_neg (by rw [h0]; decide), if_neg (by rw [h0]; decide), if_pos h0, ← rn_s h0 (by decide)]
    have q := rn_b (bf := bf) (n := n) (c := 1002) (by decide) n k (by omega) (by omega)
    rw [← ht, h1] at q
    refine ⟨fun i hi => ?_, ?_⟩
    · have hl := kd_lt (q.2.2.2 (k + i) (by omega) (by omega)) (by decide)
      rw [← sbt i hi hl]
      exact h2 i hi
    · rcases inV01 (bt bf n (k + w.length)) 97 122 with z | z
      · exact z
      · exact absurd ((kd_wrd hB).mpr z) q.2.2.1
theorem txt_L {i : Nat} (h : i < 9) : IsL (txt i) := by
  have h9 : ∀ m : Fin 9, 0 < (txt m.1).length ∧ (txt m.1).length ≤ 12 ∧ ∀ k : Fin 12, k.1 < (txt m.1).length → ∃ c : Fin 26, (txt m.1).getD k.1 0 = nI (97 + c.1) := by decide +kernel
  obtain ⟨a, b, c⟩ := h9 ⟨i, h⟩
  have b' : (txt i).length ≤ 12 := b
  refine ⟨a, fun k hk => ?_⟩
  obtain ⟨q, hq⟩ := c ⟨k, by omega⟩ hk
  exact ⟨q.1, q.2, hq⟩
theorem te_sym {bf : Nat → Int32} {n k : Nat} {c : Int32} (h : kd bf n k = c) (hc : c ∈ syms) : te bf n k = k + 1 := by
  have : ∀ c ∈ syms, ¬ c = 1000 ∧ ¬ c = 1001 ∧ ¬ c = 1002 := by decide
  obtain ⟨h1, h2, h3⟩ := this c hc
  unfold te
  rw [h, if_neg h1, if_neg h2, if_neg h3]
/-! the language -/
abbrev Er : Type := Int32 × Nat
abbrev Rr : Type := Except Er (Nat × List Int32)
def numF (bf : Nat → Int32) (n : Nat) (lo hi : Int32) (s : Nat) : Except Er (Nat × Int32) := if inV (bt bf n s) 48 57 = 1 then (if inV (dg bf n s 0).2 lo hi = 1 then .ok (spc bf n (dg bf n s 0).1, (dg bf n s 0).2) else .error (-3, s)) else .error (-2, s)
def nbL (bf : Nat → Int32) (n : Nat) (lo hi : Int32) (r : Rr) : Rr := match r with
  | .error e => .error e
  | .ok (s, L) => match numF bf n lo hi s with
    | .error e => .error e
    | .ok (s', v) => .ok (s', L ++ [v])
noncomputable def wdL (bf : Nat → Int32) (n : Nat) (w : List Int32) (r : Rr) : Rr := match r with
  | .error e => .error e
  | .ok (s, L) => @ite _ (isW bf n s w) (Classical.propDecidable _) (.ok (spc bf n (s + w.length), L ++ [1])) (.ok (s, L ++ [0]))
def syF (bf : Nat → Int32) (n : Nat) (c : Int32) (s : Nat) : Except Er Nat := if bt bf n s = c then .ok (spc bf n (s + 1)) else .error (-2, s)
/-- what the reference's fields say of a reading -/
def RK (bf : Nat → Int32) (n : Nat) (r : Except Er Nat) (ps er ea : Int32) : Prop := match r with
  | .error (c, o) => er = c ∧ ¬ c = 0 ∧ ea = nI o ∧ o ≤ n
  | .ok s => er = 0 ∧ ea = (-1) ∧ ∃ q, ps = nI q ∧ q ≤ n ∧ spc bf n q = s
/-- what the class's fields say of a reading -/
def TK (bf : Nat → Int32) (n : Nat) (r : Except Er Nat) (er es k st en v : Int32) : Prop := match r with
  | .error (c, o) => er = c ∧ ¬ c = 0 ∧ es = nI o ∧ o ≤ n ∧ k = 1000
  | .ok s => er = 0 ∧ es = (-1) ∧ s ≤ n ∧ st = nI s ∧ k = kd bf n s ∧ en = nI (te bf n s) ∧ v = va bf n s
/-- the place alone -/
def pl {α : Type} (r : Except Er (Nat × α)) : Except Er Nat := match r with
  | .error e => .error e
  | .ok (s, _) => .ok s
