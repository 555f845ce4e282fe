/-! numbers of the reference, read off its data d -/
theorem nLE {x y : Int32} {a b : Nat} (hx : x = nI a) (hy : y = nI b) (ha : a < 2147483648) (hb : b < 2147483648) : x ≤ y ↔ a ≤ b := by rw [hx, hy]; exact nI_leI ha hb
theorem nLT {x y : Int32} {a b : Nat} (hx : x = nI a) (hy : y = nI b) (ha : a < 2147483648) (hb : b < 2147483648) : x < y ↔ a < b := by rw [hx, hy]; exact nI_ltI ha hb
theorem nEQ {x y : Int32} {a b : Nat} (hx : x = nI a) (hy : y = nI b) (ha : a < 2147483648) (hb : b < 2147483648) : x = y ↔ a = b := by rw [hx, hy]; exact nI_eq ha hb
theorem nREM {x : Int32} {a d : Nat} (hx : x = nI a) (ha : a < 2147483648) (h0 : 0 < d) (hd : d < 2147483648) : x - x / nI d * nI d = nI (a % d) := by rw [hx]; exact pk_rem ha h0 hd
theorem nR7 {x : Int32} {a : Nat} (hx : x = nI a) (ha : a < 2147483648) : x - x / 7 * 7 = nI (a % 7) := nREM hx ha (by decide) (by decide)
theorem nR4 {x : Int32} {a : Nat} (hx : x = nI a) (ha : a < 2147483648) : x - x / 4 * 4 = nI (a % 4) := nREM hx ha (by decide) (by decide)
theorem nR2 {x : Int32} {a : Nat} (hx : x = nI a) (ha : a < 2147483648) : x - x / 2 * 2 = nI (a % 2) := nREM hx ha (by decide) (by decide)
def inV (v lo hi : Int32) : Int32 := if v < lo then 0 else if hi < v then 0 else 1
theorem inV01 (v lo hi : Int32) : inV v lo hi = 0 ∨ inV v lo hi = 1 := by
  unfold inV
  split
  · exact Or.inl rfl
  · split
    · exact Or.inl rfl
    · exact Or.inr rfl
theorem lv_ci {p : Program} {l : Launch} {e : Env} {R : Room} {s : State} {m : MethodId} {args : Array Value} {below : List Frame} {meth : Method} {c : Code} {H : Heap} {locs : List Loc} {cells slots pc : Nat} {Q : State → Prop} {ls : Array Slot} {rest : List Value} {x y : Int32} (h : x = y) (k : W p l e R s m args below meth c H locs cells slots Q (F0 m pc ls (.int y :: rest))) : W p l e R s m args below meth c H locs cells slots Q (F0 m pc ls (.int x :: rest)) := by rw [h]; exact k
/-- is n one of the first k holidays -/
def hol (d : Nat → Int32) (n : Nat) : Nat → Bool
  | 0 => false
  | k + 1 => hol d n k || d (6 + k) == nI n
/-- a business day -/
def biz (d : Nat → Int32) (nh n : Nat) : Bool := decide (n % 7 < 5) && !hol d n nh
def extF (d : Nat → Int32) (nh : Nat) : Nat → Nat → Nat
  | 0, n => n
  | k + 1, n => if biz d nh n then n else extF d nh k (n + 1)
/-- the first business day that isn't before n -/
def ext (d : Nat → Int32) (nh n : Nat) : Nat := extF d nh 130 n
def addB (d : Nat → Int32) (nh : Nat) : Nat → Nat → Nat
  | 0, n => n
  | k + 1, n => addB d nh k (ext d nh (n + 1))
theorem hol_iff {d : Nat → Int32} {n : Nat} : ∀ {k : Nat}, hol d n k = true ↔ ∃ j, j < k ∧ d (6 + j) = nI n
  | 0 => by simp [hol]
  | k + 1 => by
    simp only [hol, Bool.or_eq_true, beq_iff_eq, hol_iff]
    constructor
    · rintro (⟨j, h1, h2⟩ | h)
      · exact ⟨j, by omega, h2⟩
      · exact ⟨k, by omega, h⟩
    · rintro ⟨j, h1, h2⟩
      by_cases e : j = k
      · subst e
        exact Or.inr h2
      · exact Or.inl ⟨j, by omega, h2⟩
/-- of more days than holidays one is no holiday -/
theorem hol_free {d : Nat → Int32} : ∀ (nh : Nat) (L : List Nat), L.Nodup → nh < L.length → (∀ x ∈ L, x < 2147483648) → ∃ x ∈ L, hol d x nh = false
  | 0, L, _, h, _ => by
    cases L with
    | nil => simp at h
    | cons a L => exact ⟨a, List.mem_cons_self, rfl⟩
  | nh + 1, L, hN, h, hb => by
    by_cases c : ∃ x ∈ L, d (6 + nh) = nI x
    · obtain ⟨x0, hx0, e0⟩ := c
      obtain ⟨x, hx, ex⟩ := hol_free (d := d) nh (L.erase x0) (hN.erase x0) (by rw [List.length_erase_of_mem hx0]; omega) (fun x hx => hb x (List.mem_of_mem_erase hx))
      have hx2 := (hN.mem_erase_iff).mp hx
      refine ⟨x, hx2.2, ?_⟩
      have hne : ¬ d (6 + nh) = nI x := fun z => hx2.1 ((nI_eq (hb x hx2.2) (hb x0 hx0)).mp (by rw [← z, e0]))
      simp [hol, ex, hne]
    · obtain ⟨x, hx, ex⟩ := hol_free (d := d) nh L hN (by omega) hb
      refine ⟨x, hx, ?_⟩
      have hne : ¬ d (6 + nh) = nI x := fun z => c ⟨x, hx, z⟩
      simp [hol, ex, hne]
theorem biz_near (d : Nat → Int32) {nh n : Nat} (hh : nh ≤ 16) (hn : n < 1073741824) : ∃ k, k < 130 ∧ biz d nh (n + k) = true := by
  obtain ⟨m, hm1, hm2, hm3⟩ : ∃ m, n ≤ m ∧ m ≤ n + 2 ∧ m % 7 < 5 := by
    by_cases h : n % 7 < 5
    · exact ⟨n, by omega, by omega, h⟩
    · by_cases h6 : n % 7 = 6
      · exact ⟨n + 1, by omega, by omega, by omega⟩
      · exact ⟨n + 2, by omega, by omega, by omega⟩
  obtain ⟨x, hx, ex⟩ := hol_free (d := d) nh ((List.range 17).map (fun j => m + 7 * j)) (List.pairwise_map.mpr ((List.nodup_range (n := 17)).imp (fun h z => h (by omega)))) (by simp; omega) (fun x hx => by
    obtain ⟨j, hj, e⟩ := List.mem_map.mp hx
    have := List.mem_range.mp hj
    omega)
  obtain ⟨j, hj, e⟩ := List.mem_map.mp hx
  have hj := List.mem_range.mp hj
  refine ⟨x - n, by omega, ?_⟩
  have e2 : n + (x - n) = x := by omega
  rw [e2, biz, ex]
  simp
  omega
theorem extF_spec {d : Nat → Int32} {nh : Nat} : ∀ (k n : Nat), (∃ j, j < k ∧ biz d nh (n + j) = true) → biz d nh (extF d nh k n) = true ∧ n ≤ extF d nh k n ∧ extF d nh k n < n + k
  | 0, n, ⟨j, h, _⟩ => absurd h (by omega)
  | k + 1, n, ⟨j, h, e⟩ => by
    unfold extF
    by_cases c : biz d nh n = true
    · rw [if_pos c]
      exact ⟨c, by omega, by omega⟩
    · rw [if_neg c]
      cases j with
      | zero => exact absurd e c
      | succ j =>
        have := extF_spec k (n + 1) ⟨j, by omega, by rw [show n + 1 + j = n + (j + 1) by omega]; exact e⟩
        exact ⟨this.1, by omega, by omega⟩
/-- one fuel is as good as another -/
theorem extF_more {d : Nat → Int32} {nh : Nat} : ∀ (k k2 n : Nat), (∃ j, j < k ∧ biz d nh (n + j) = true) → k ≤ k2 → extF d nh k2 n = extF d nh k n
  | 0, _, n, ⟨j, h, _⟩, _ => absurd h (by omega)
  | k + 1, k2, n, ⟨j, h, e⟩, hk => by
    cases k2 with
    | zero => omega
    | succ k2 =>
      unfold extF
      by_cases c : biz d nh n = true
      · rw [if_pos c, if_pos c]
      · rw [if_neg c, if_neg c]
        cases j with
        | zero => exact absurd e c
        | succ j => exact extF_more k k2 (n + 1) ⟨j, by omega, by rw [show n + 1 + j = n + (j + 1) by omega]; exact e⟩ (by omega)
theorem ext_bound (d : Nat → Int32) {nh n : Nat} (hh : nh ≤ 16) (hn : n < 1073741824) : n ≤ ext d nh n ∧ ext d nh n < n + 130 := (extF_spec 130 n (biz_near d hh hn)).2
theorem addB_bound (d : Nat → Int32) {nh : Nat} (hh : nh ≤ 16) : ∀ (k n : Nat), n + 131 * k < 1073741824 → n ≤ addB d nh k n ∧ addB d nh k n ≤ n + 131 * k
  | 0, n, _ => ⟨Nat.le_refl _, Nat.le_refl _⟩
  | k + 1, n, h => by
    have h1 := ext_bound d hh (n := n + 1) (by omega)
    have h2 := addB_bound d hh k (ext d nh (n + 1)) (by omega)
    unfold addB
    omega
/-- a credit's and a presentation's first place -/
abbrev cP (c : Nat) : Nat := 22 + 11 * c
abbrev pP (p : Nat) : Nat := 154 + 6 * p
def mostV (d : Nat → Int32) (c : Nat) : Int32 := d (cP c) + d (cP c) * d (cP c + 1) / 100
def leastV (d : Nat → Int32) (c : Nat) : Int32 := d (cP c) - d (cP c) * d (cP c + 2) / 100
/-- presentation p belongs to credit c and isn't refused -/
def standsV (d : Nat → Int32) (p : Nat) (c : Int32) : Int32 := if ¬ d (pP p) = c then 0 else if d (pP p + 4) = 3 then 0 else 1
def drawT (d : Nat → Int32) (c : Int32) (p : Nat) : Int32 := if standsV d p c = 0 then 0 else if ¬ d (pP p + 3) &&& 4 = 0 then 0 else d (pP p + 2)
def drawnV (d : Nat → Int32) (c : Int32) : Nat → Int32
  | 0 => 0
  | p + 1 => drawnV d c p + drawT d c p
def transT (d : Nat → Int32) (c : Int32) (o : Nat) : Int32 := if ¬ d (cP o + 10) = c then 0 else d (cP o)
def transV (d : Nat → Int32) (c : Int32) : Nat → Int32
  | 0 => 0
  | o + 1 => transV d c o + transT d c o
def availV (d : Nat → Int32) (np nc c : Nat) : Int32 := mostV d c - drawnV d (nI c) np - transV d (nI c) nc
def minV (a b : Int32) : Int32 := if b ≤ a then b else a
def othT (d : Nat → Int32) (c : Int32) (p : Nat) : Int32 := if standsV d p c = 0 then 0 else 1
def othersV (d : Nat → Int32) (c : Int32) : Nat → Int32
  | 0 => 0
  | p + 1 => othersV d c p + othT d c p
theorem standsV01 (d : Nat → Int32) (p : Nat) (c : Int32) : standsV d p c = 0 ∨ standsV d p c = 1 := by
  unfold standsV
  split
  · exact Or.inl rfl
  · split
    · exact Or.inl rfl
    · exact Or.inr rfl
theorem minV_nI {a b : Nat} (ha : a < 2147483648) (hb : b < 2147483648) : minV (nI a) (nI b) = nI (min a b) := by
  unfold minV
  by_cases h : b ≤ a
  · rw [if_pos (nI_le h ha), Nat.min_eq_right h]
  · rw [if_neg (fun z => h ((nI_leI hb ha).mp z)), Nat.min_eq_left (by omega)]
def lastV (d : Nat → Int32) (nh ex pe n : Nat) : Nat := min (ext d nh ex) (ext d nh (n + pe))
def fl1 (d : Nat → Int32) (c : Nat) (sh : Int32) : Int32 := if sh ≤ d (cP c + 4) then 0 else 1
def fl2 (d : Nat → Int32) (nh ex pe n : Nat) (td : Int32) : Int32 := if td ≤ nI (lastV d nh ex pe n) then 0 else 2
def fl3 (d : Nat → Int32) (np nc c : Nat) (am : Int32) : Int32 := if am ≤ availV d np nc c then 0 else 4
def fl4 (d : Nat → Int32) (np c : Nat) (am : Int32) : Int32 := if ¬ d (cP c + 7) = 0 then 0 else if am < leastV d c then 8 else if othersV d (nI c) np ≤ 0 then 0 else 8
def fl5 (d : Nat → Int32) (c : Nat) (dc : Int32) : Int32 := if d (cP c + 9) &&& (dc ^^^ (-1)) = 0 then 0 else 16
def fl6 (d : Nat → Int32) (c : Nat) (am ins : Int32) : Int32 := if ¬ d (cP c + 9) >>> (7 &&& 31) &&& 1 = 1 then 0 else if am + am / 10 ≤ ins then 0 else 32
def fl7 (sh td : Int32) : Int32 := if sh ≤ td then 0 else 64
def faultsV (d : Nat → Int32) (np nc nh ex pe c n : Nat) (am dc ins : Int32) : Int32 := ((((((0 ||| fl1 d c (nI n)) ||| fl2 d nh ex pe n (d 3)) ||| fl3 d np nc c am) ||| fl4 d np c am) ||| fl5 d c dc) ||| fl6 d c am ins) ||| fl7 (nI n) (d 3)
/-- a presentation's due day, from its state, the day since and its credit's tenor -/
def dueV (d : Nat → Int32) (nh p si te : Nat) : Int32 := if ¬ d (pP p + 4) = 2 then (-1) else nI (ext d nh (si + te))
def limV (v : Int64) : Int64 := if lg_cmp v 100000000 ≤ 0 then (if 0 ≤ lg_cmp v (-100000000) then v else (-100000000)) else 100000000
def operV (o : Int32) (a b : Int64) : Int64 := if ¬ o = 5 then (if ¬ o = 2 then (if ¬ o = 3 then limV (a * b) else limV (a - b)) else limV (a + b)) else if ¬ lg_cmp b 0 = 0 then a / b else 0
def isWrongV (sh am dc ins : Int32) : Int32 := if inV sh 0 9999 = 0 then 1 else if inV am 1 1999999 = 0 then 1 else if inV dc 0 255 = 0 then 1 else if 0 ≤ ins then 0 else 1
/-- the bits of n -/
def bits : Nat → Nat → Nat
  | 0, _ => 0
  | k + 1, n => if n = 0 then 0 else n % 2 + bits k (n / 2)
/-! THE REFERENCE: its state, and its readers -/
theorem nI_ad {x y : Int32} {a b : Nat} (hx : x = nI a) (hy : y = nI b) : x + y = nI (a + b) := by rw [hx, hy, nI_add]
theorem nI_mu {x y : Int32} {a b : Nat} (hx : x = nI a) (hy : y = nI b) : x * y = nI (a * b) := by rw [hx, hy, pk_mul]
theorem ixq {x : Int32} {a b : Nat} (h : x = nI a) (e : a = b := by first | rfl | omega) : x = nI b := by rw [h, e]
/-- the reference's object: its int fields by their slots, its arrays' addresses B 1 .. B 5 -/
abbrev mO (B : Nat → Nat) (f : Nat → Int32) : va_E := .inr (8, [.int (f 0), .ref (B 1), .int (f 2), .int (f 3), .int (f 4), .int (f 5), .int (f 6), .int (f 7), .ref (B 2), .ref (B 3), .ref (B 4), .int (f 11), .int (f 12), .int (f 13), .int (f 14), .ref (B 5)])
abbrev iA (G : CG) (n : Nat) (f : Nat → Int32) : va_E := .inl (G.2.1 1, n, .inl f)
/-- the reference's cells: object, buffer, data, draft, rows of the history, stack -/
def MW (G : CG) (B : Nat → Nat) (f bf da dr : Nat → Int32) (hi : Nat → Nat → Int32) (sk : Nat → Int64) (H : Heap) : Prop :=
  At G (B 0) (mO B f) H ∧ At G (B 1) (iA G 900 bf) H ∧ At G (B 2) (iA G 1798 da) H ∧ At G (B 3) (iA G 1798 dr) H ∧ At G (B 4) (.inl (G.2.1 6, 8, .inr (.inr (.inr (.inr (fun j => some (B (6 + j)))))))) H ∧ At G (B 5) (.inl (G.2.1 2, 1500, .inr (.inl sk))) H ∧ ∀ k, k < 8 → At G (B (6 + k)) (iA G 1798 (hi k)) H
/-- the addresses are apart, and new -/
def MD (G : CG) (B : Nat → Nat) : Prop := (∀ i j, i < 14 → j < 14 → B i = B j → i = j) ∧ ∀ i, i < 14 → G.2.2 0 ≤ B i
def MA (B : Nat → Nat) : Nat → Prop := fun q => ∃ i, i < 14 ∧ q = B i
theorem MD.ne {G : CG} {B : Nat → Nat} (h : MD G B) {i j : Nat} (hi : i < 14) (hj : j < 14) (n : i ≠ j) : B i ≠ B j := fun z => n (h.1 i j hi hj z)
theorem MD.efa {G : CG} {B : Nat → Nat} (h : MD G B) : ∀ q, MA B q → EFA G q := fun q ⟨i, hi, e⟩ => by rw [e]; exact h.2 i hi
section MWS
variable {G : CG} {B : Nat → Nat} {f bf da dr f' bf' : Nat → Int32} {hi : Nat → Nat → Int32} {sk : Nat → Int64} {H H1 : Heap}
theorem MW.kept (h : MW G B f bf da dr hi sk H) (hq : ∀ i, i < 14 → H1[B i]? = H[B i]?) : MW G B f bf da dr hi sk H1 := ⟨va_at.kept h.1 (hq 0 (by decide)), va_at.kept h.2.1 (hq 1 (by decide)), va_at.kept h.2.2.1 (hq 2 (by decide)), va_at.kept h.2.2.2.1 (hq 3 (by decide)), va_at.kept h.2.2.2.2.1 (hq 4 (by decide)), va_at.kept h.2.2.2.2.2.1 (hq 5 (by decide)), fun k hk => va_at.kept (h.2.2.2.2.2.2 k hk) (hq (6 + k) (by omega))⟩
theorem MW.setO (h : MW G B f bf da dr hi sk H) (hD : MD G B) (ho : At G (B 0) (mO B f') H1) (oq : ∀ q : Nat, q ≠ B 0 → H1[q]? = H[q]?) : MW G B f' bf da dr hi sk H1 := ⟨ho, va_at.kept h.2.1 (oq _ (hD.ne (i := 1) (j := 0) (by decide) (by decide) (by decide))), va_at.kept h.2.2.1 (oq _ (hD.ne (i := 2) (j := 0) (by decide) (by decide) (by decide))), va_at.kept h.2.2.2.1 (oq _ (hD.ne (i := 3) (j := 0) (by decide) (by decide) (by decide))), va_at.kept h.2.2.2.2.1 (oq _ (hD.ne (i := 4) (j := 0) (by decide) (by decide) (by decide))), va_at.kept h.2.2.2.2.2.1 (oq _ (hD.ne (i := 5) (j := 0) (by decide) (by decide) (by decide))), fun k hk => va_at.kept (h.2.2.2.2.2.2 k hk) (oq _ (hD.ne (by omega) (by decide) (by omega)))⟩
theorem MW.setB (h : MW G B f bf da dr hi sk H) (hD : MD G B) (ho : At G (B 1) (iA G 900 bf') H1) (oq : ∀ q : Nat, q ≠ B 1 → H1[q]? = H[q]?) : MW G B f bf' da dr hi sk H1 := ⟨va_at.kept h.1 (oq _ (hD.ne (i := 0) (j := 1) (by decide) (by decide) (by decide))), ho, va_at.kept h.2.2.1 (oq _ (hD.ne (i := 2) (j := 1) (by decide) (by decide) (by decide))), va_at.kept h.2.2.2.1 (oq _ (hD.ne (i := 3) (j := 1) (by decide) (by decide) (by decide))), va_at.kept h.2.2.2.2.1 (oq _ (hD.ne (i := 4) (j := 1) (by decide) (by decide) (by decide))), va_at.kept h.2.2.2.2.2.1 (oq _ (hD.ne (i := 5) (j := 1) (by decide) (by decide) (by decide))), fun k hk => va_at.kept (h.2.2.2.2.2.2 k hk) (oq _ (hD.ne (by omega) (by decide) (by omega)))⟩
theorem MW.setD (h : MW G B f bf da dr hi sk H) (hD : MD G B) (ho : At G (B 2) (iA G 1798 bf') H1) (oq : ∀ q : Nat, q ≠ B 2 → H1[q]? = H[q]?) : MW G B f bf bf' dr hi sk H1 := ⟨va_at.kept h.1 (oq _ (hD.ne (i := 0) (j := 2) (by decide) (by decide) (by decide))), va_at.kept h.2.1 (oq _ (hD.ne (i := 1) (j := 2) (by decide) (by decide) (by decide))), ho, va_at.kept h.2.2.2.1 (oq _ (hD.ne (i := 3) (j := 2) (by decide) (by decide) (by decide))), va_at.kept h.2.2.2.2.1 (oq _ (hD.ne (i := 4) (j := 2) (by decide) (by decide) (by decide))), va_at.kept h.2.2.2.2.2.1 (oq _ (hD.ne (i := 5) (j := 2) (by decide) (by decide) (by decide))), fun k hk => va_at.kept (h.2.2.2.2.2.2 k hk) (oq _ (hD.ne (by omega) (by decide) (by omega)))⟩
theorem MW.setR (h : MW G B f bf da dr hi sk H) (hD : MD G B) (ho : At G (B 3) (iA G 1798 bf') H1) (oq : ∀ q : Nat, q ≠ B 3 → H1[q]? = H[q]?) : MW G B f bf da bf' hi sk H1 := ⟨va_at.kept h.1 (oq _ (hD.ne (i := 0) (j := 3) (by decide) (by decide) (by decide))), va_at.kept h.2.1 (oq _ (hD.ne (i := 1) (j := 3) (by decide) (by decide) (by decide))), va_at.kept h.2.2.1 (oq _ (hD.ne (i := 2) (j := 3) (by decide) (by decide) (by decide))), ho, va_at.kept h.2.2.2.2.1 (oq _ (hD.ne (i := 4) (j := 3) (by decide) (by decide) (by decide))), va_at.kept h.2.2.2.2.2.1 (oq _ (hD.ne (i := 5) (j := 3) (by decide) (by decide) (by decide))), fun k hk => va_at.kept (h.2.2.2.2.2.2 k hk) (oq _ (hD.ne (by omega) (by decide) (by omega)))⟩
theorem MW.setK {sk' : Nat → Int64} (h : MW G B f bf da dr hi sk H) (hD : MD G B) (ho : At G (B 5) (.inl (G.2.1 2, 1500, .inr (.inl sk'))) H1) (oq : ∀ q : Nat, q ≠ B 5 → H1[q]? = H[q]?) : MW G B f bf da dr hi sk' H1 := ⟨va_at.kept h.1 (oq _ (hD.ne (i := 0) (j := 5) (by decide) (by decide) (by decide))), va_at.kept h.2.1 (oq _ (hD.ne (i := 1) (j := 5) (by decide) (by decide) (by decide))), va_at.kept h.2.2.1 (oq _ (hD.ne (i := 2) (j := 5) (by decide) (by decide) (by decide))), va_at.kept h.2.2.2.1 (oq _ (hD.ne (i := 3) (j := 5) (by decide) (by decide) (by decide))), va_at.kept h.2.2.2.2.1 (oq _ (hD.ne (i := 4) (j := 5) (by decide) (by decide) (by decide))), ho, fun k hk => va_at.kept (h.2.2.2.2.2.2 k hk) (oq _ (hD.ne (by omega) (by decide) (by omega)))⟩
theorem MW.setH {r : Nat} {row : Nat → Int32} (h : MW G B f bf da dr hi sk H) (hD : MD G B) (hr : r < 8) (ho : At G (B (6 + r)) (iA G 1798 row) H1) (oq : ∀ q : Nat, q ≠ B (6 + r) → H1[q]? = H[q]?) : MW G B f bf da dr (va_up hi r row) sk H1 := ⟨va_at.kept h.1 (oq _ (hD.ne (i := 0) (by decide) (by omega) (by omega))), va_at.kept h.2.1 (oq _ (hD.ne (i := 1) (by decide) (by omega) (by omega))), va_at.kept h.2.2.1 (oq _ (hD.ne (i := 2) (by decide) (by omega) (by omega))), va_at.kept h.2.2.2.1 (oq _ (hD.ne (i := 3) (by decide) (by omega) (by omega))), va_at.kept h.2.2.2.2.1 (oq _ (hD.ne (i := 4) (by decide) (by omega) (by omega))), va_at.kept h.2.2.2.2.2.1 (oq _ (hD.ne (i := 5) (by decide) (by omega) (by omega))), fun k hk => by
  by_cases e : k = r
  · subst e
    show At G (B (6 + k)) (iA G 1798 (if k = k then row else hi k)) H1
    rw [if_pos rfl]
    exact ho
  · show At G (B (6 + k)) (iA G 1798 (if k = r then row else hi k)) H1
    rw [if_neg e]
    exact va_at.kept (h.2.2.2.2.2.2 k hk) (oq _ (hD.ne (by omega) (by omega) (by omega)))⟩
end MWS
set_option maxHeartbeats 4000000 in
set_option maxRecDepth 100000 in
/-- in(v, lo, hi) -/
theorem c_X8_in (l : Launch) (G : CG) (v lo hi9 : Int32) : Rd l yX8_in cX8_in 3 ((Option.some FieldType.boolean)) 0 0 G [.int v, .int lo, .int hi9] (fun _ => True) (some (.int (inV v lo hi9))) := by
  refine Rd.ofW (by decide) (Nat.le_of_ble_eq_true rfl) (fun p e s m below meth c ls E hG hE hP hr hk hl => ?_)
  have hx := E.1
  have hb := E.2.1
  have hl : lv_has ls 3 [(0, .int v), (1, .int lo), (2, .int hi9)] := hl
  refine lv_iload_n hx hb dX8_in_0 rfl (lv_at hl 0 rfl) ?_
  refine lv_iload_n hx hb dX8_in_1 rfl (lv_at hl 1 rfl) ?_
  refine lv_icmp_lt (tgt := 14) hx hb dX8_in_2 (by decide) (fun c_2 => ?_) (fun c_2 => ?_)
  · refine lv_iconst (v := 0) hx hb dX8_in_14 rfl ?_
    exact rd_bool E hr hk (by first | (simp only [inV, c_2, ↓reduceIte, not_true_eq_false, not_false_eq_true]; done) | (simp [inV, c_2]; done)) (by first | exact Or.inl rfl | exact Or.inr rfl | (omega)) dX8_in_15
  · refine lv_iload_n hx hb dX8_in_5 rfl (lv_at hl 0 rfl) ?_
    refine lv_iload_n hx hb dX8_in_6 rfl (lv_at hl 2 rfl) ?_
    refine lv_icmp_gt (tgt := 14) hx hb dX8_in_7 (by decide) (fun c_7 => ?_) (fun c_7 => ?_)
    · refine lv_iconst (v := 0) hx hb dX8_in_14 rfl ?_
      exact rd_bool E hr hk (by first | (simp only [inV, c_2, c_7, ↓reduceIte, not_true_eq_false, not_false_eq_true]; done) | (simp [inV, c_2, c_7]; done)) (by first | exact Or.inl rfl | exact Or.inr rfl | (omega)) dX8_in_15
    · refine lv_iconst (v := 1) hx hb dX8_in_10 rfl ?_
      refine lv_goto (tgt := 15) hx hb dX8_in_11 (by decide) ?_
      exact rd_bool E hr hk (by first | (simp only [inV, c_2, c_7, ↓reduceIte, not_true_eq_false, not_false_eq_true]; done) | (simp [inV, c_2, c_7]; done)) (by first | exact Or.inl rfl | exact Or.inr rfl | (omega)) dX8_in_15

set_option maxHeartbeats 4000000 in
set_option maxRecDepth 100000 in
/-- min(a, b) -/
theorem c_X8_min (l : Launch) (G : CG) (a b : Int32) : Rd l yX8_min cX8_min 2 ((Option.some FieldType.int)) 0 0 G [.int a, .int b] (fun _ => True) (some (.int (minV a b))) := by
  refine Rd.ofW (by decide) (Nat.le_of_ble_eq_true rfl) (fun p e s m below meth c ls E hG hE hP hr hk hl => ?_)
  have hx := E.1
  have hb := E.2.1
  have hl : lv_has ls 2 [(0, .int a), (1, .int b)] := hl
  refine lv_iload_n hx hb dX8_min_0 rfl (lv_at hl 0 rfl) ?_
  refine lv_iload_n hx hb dX8_min_1 rfl (lv_at hl 1 rfl) ?_
  refine lv_icmp_ge (tgt := 9) hx hb dX8_min_2 (by decide) (fun c_2 => ?_) (fun c_2 => ?_)
  · refine lv_iload_n hx hb dX8_min_9 rfl (lv_at hl 1 rfl) ?_
    exact rd_int E hr hk (by first | (simp only [minV, c_2, ↓reduceIte, not_true_eq_false, not_false_eq_true]; done) | (simp [minV, c_2]; done)) dX8_min_10
  · refine lv_iload_n hx hb dX8_min_5 rfl (lv_at hl 0 rfl) ?_
    refine lv_goto (tgt := 10) hx hb dX8_min_6 (by decide) ?_
    exact rd_int E hr hk (by first | (simp only [minV, c_2, ↓reduceIte, not_true_eq_false, not_false_eq_true]; done) | (simp [minV, c_2]; done)) dX8_min_10

set_option maxHeartbeats 4000000 in
set_option maxRecDepth 100000 in
/-- credit(c) -/
theorem c_X8_credit (l : Launch) (G : CG) (z : Int32) : Rd l yX8_credit cX8_credit 1 ((Option.some FieldType.int)) 0 0 G [.int z] (fun _ => True) (some (.int (22 + 11 * z))) := by
  refine Rd.ofW (by decide) (Nat.le_of_ble_eq_true rfl) (fun p e s m below meth c ls E hG hE hP hr hk hl => ?_)
  have hx := E.1
  have hb := E.2.1
  have hl : lv_has ls 1 [(0, .int z)] := hl
  refine lv_bipush (v := 22) hx hb dX8_credit_0 rfl ?_
  refine lv_bipush (v := 11) hx hb dX8_credit_2 rfl ?_
  refine lv_iload_n hx hb dX8_credit_4 rfl (lv_at hl 0 rfl) ?_
  refine lv_imul hx hb dX8_credit_5 ?_
  refine lv_iadd hx hb dX8_credit_6 ?_
  exact rd_int E hr hk (rfl) dX8_credit_7

set_option maxHeartbeats 4000000 in
set_option maxRecDepth 100000 in
/-- presentation(p) -/
theorem c_X8_presentation (l : Launch) (G : CG) (z : Int32) : Rd l yX8_presentation cX8_presentation 1 ((Option.some FieldType.int)) 0 0 G [.int z] (fun _ => True) (some (.int (154 + 6 * z))) := by
  refine Rd.ofW (by decide) (Nat.le_of_ble_eq_true rfl) (fun p e s m below meth c ls E hG hE hP hr hk hl => ?_)
  have hx := E.1
  have hb := E.2.1
  have hl : lv_has ls 1 [(0, .int z)] := hl
  refine lv_sipush (v := 154) hx hb dX8_presentation_0 rfl ?_
  refine lv_bipush (v := 6) hx hb dX8_presentation_3 rfl ?_
  refine lv_iload_n hx hb dX8_presentation_5 rfl (lv_at hl 0 rfl) ?_
  refine lv_imul hx hb dX8_presentation_6 ?_
  refine lv_iadd hx hb dX8_presentation_7 ?_
  exact rd_int E hr hk (rfl) dX8_presentation_8

set_option maxHeartbeats 4000000 in
set_option maxRecDepth 100000 in
/-- isDigit(c) -/
theorem c_X8_isDigit (l : Launch) (G : CG) (z : Int32) : Rd l yX8_isDigit cX8_isDigit 1 ((Option.some FieldType.boolean)) 1 22 G [.int z] (fun _ => True) (some (.int (inV z 48 57))) := by
  refine Rd.ofW (by decide) (Nat.le_of_ble_eq_true rfl) (fun p e s m below meth c ls E hG hE hP hr hk hl => ?_)
  have hx := E.1
  have hb := E.2.1
  have hl : lv_has ls 1 [(0, .int z)] := hl
  refine lv_iload_n hx hb dX8_isDigit_0 rfl (lv_at hl 0 rfl) ?_
  refine lv_bipush (v := 48) hx hb dX8_isDigit_1 rfl ?_
  refine lv_bipush (v := 57) hx hb dX8_isDigit_3 rfl ?_
  refine Rd.callS (rest := []) (c_X8_in l G z 48 57) yk_X8_in E km_X8_54 dX8_isDigit_5 hG hE trivial rfl rfl hl.1 ⟨Nat.le_of_ble_eq_true rfl, Nat.le_of_ble_eq_true rfl⟩ ⟨Nat.zero_le _, Nat.zero_le _⟩ (Nat.le_of_ble_eq_true rfl) ?_
  exact rd_bool E hr hk (rfl) (by first | exact Or.inl rfl | exact Or.inr rfl | (exact inV01 _ _ _)) dX8_isDigit_8

set_option maxHeartbeats 4000000 in
set_option maxRecDepth 100000 in
/-- isDay(c) -/
theorem c_X8_isDay (l : Launch) (G : CG) (z : Int32) : Rd l yX8_isDay cX8_isDay 1 ((Option.some FieldType.boolean)) 1 22 G [.int z] (fun _ => True) (some (.int (inV z 0 9999))) := by
  refine Rd.ofW (by decide) (Nat.le_of_ble_eq_true rfl) (fun p e s m below meth c ls E hG hE hP hr hk hl => ?_)
  have hx := E.1
  have hb := E.2.1
  have hl : lv_has ls 1 [(0, .int z)] := hl
  refine lv_iload_n hx hb dX8_isDay_0 rfl (lv_at hl 0 rfl) ?_
  refine lv_iconst (v := 0) hx hb dX8_isDay_1 rfl ?_
  refine lv_sipush (v := 9999) hx hb dX8_isDay_2 rfl ?_
  refine Rd.callS (rest := []) (c_X8_in l G z 0 9999) yk_X8_in E km_X8_54 dX8_isDay_5 hG hE trivial rfl rfl hl.1 ⟨Nat.le_of_ble_eq_true rfl, Nat.le_of_ble_eq_true rfl⟩ ⟨Nat.zero_le _, Nat.zero_le _⟩ (Nat.le_of_ble_eq_true rfl) ?_
  exact rd_bool E hr hk (rfl) (by first | exact Or.inl rfl | exact Or.inr rfl | (exact inV01 _ _ _)) dX8_isDay_8

set_option maxHeartbeats 4000000 in
set_option maxRecDepth 100000 in
/-- isBusiness(n) -/
theorem c_X8_isBusiness (l : Launch) (G : CG) {B : Nat → Nat} {f bf da dr : Nat → Int32} {hi : Nat → Nat → Int32} {sk : Nat → Int64} (x : Int32) (n nh : Nat) (ex : x = nI n) (hn : n < 1073741824) (h2 : da 2 = nI nh) (hh : nh ≤ 16) : Rd l yX8_isBusiness cX8_isBusiness 3 ((Option.some FieldType.boolean)) 0 0 G [.ref (B 0), .int x] (MW G B f bf da dr hi sk) (some (.int (if biz da nh n = true then 1 else 0))) := by
  refine Rd.ofW (by decide) (Nat.le_of_ble_eq_true rfl) (fun p e s m below meth c ls E hG hE hP hr hk hl => ?_)
  have hx := E.1
  have hb := E.2.1
  have hl : lv_has ls 3 [(0, .ref (B 0)), (1, .int x)] := hl
  refine lv_iload_n hx hb dX8_isBusiness_0 rfl (lv_at hl 1 rfl) ?_
  refine lv_bipush (v := 7) hx hb dX8_isBusiness_1 rfl ?_
  refine lv_irem hx hb dX8_isBusiness_3 (by decide) ?_
  refine lv_iconst (v := 4) hx hb dX8_isBusiness_4 rfl ?_
  refine lv_icmp_le (tgt := 10) hx hb dX8_isBusiness_5 (by decide) (fun c_5 => ?_) (fun c_5 => ?_)
  · have c_5 : (n % 7) ≤ 4 := (nLE (x := (x - x / 7 * 7)) (y := 4) (a := (n % 7)) (b := 4) (nR7 ex (by omega)) rfl (by omega) (by omega)).mp c_5
    refine lv_iconst (v := 0) hx hb dX8_isBusiness_10 rfl ?_
    refine lv_ci (y := nI 0) (ixq rfl) ?_
    refine lv_istore_n (lv' := [(2, .int (nI 0)), (0, .ref (B 0)), (1, .int x)]) hx hb dX8_isBusiness_11 rfl hl (by decide) rfl (fun ls hl => ?_)
    have loop : ∀ (j k : Nat), (nh < k + j) → (k ≤ nh) → (hol da n k = false) → ∀ ls : Array Slot, lv_has ls 3 [(2, .int (nI k)), (0, .ref (B 0)), (1, .int x)] → W p l e { frames := 0, cells := 0, slots := 0, locals := 0 } s m ([.ref (B 0), .int x] : List Value).toArray below meth c s.heap [] 0 0 (RQ below ([.ref (B 0), .int x] : List Value).toArray s (some (.int (if biz da nh n = true then 1 else 0)))) (F0 m 12 ls []) := by
      intro j
      induction j with
      | zero => intro k h1 h3; omega
      | succ j ih =>
        intro k h1 h3 h4 ls hl
        refine lv_iload_n hx hb dX8_isBusiness_12 rfl (lv_at hl 0 rfl) ?_
        refine lv_aload_n hx hb dX8_isBusiness_13 rfl (lv_at hl 1 rfl) ?_
        refine gf_X8_17 E hG hP.1 rfl dX8_isBusiness_14 ?_
        refine lv_iconst (v := 2) hx hb dX8_isBusiness_17 rfl ?_
        refine g_ild 2 E hG hP.2.2.1 rfl (by omega) (by decide) dX8_isBusiness_18 ?_
        refine lv_icmp_ge (tgt := 43) hx hb dX8_isBusiness_19 (by decide) (fun c_19 => ?_) (fun c_19 => ?_)
        · have c_19 : nh ≤ k := (nLE (x := (da 2)) (y := (nI k)) (a := nh) (b := k) h2 rfl (by omega) (by omega)).mp c_19
          refine lv_iconst (v := 1) hx hb dX8_isBusiness_43 rfl ?_
          exact rd_bool E hr hk (by rw [if_pos (by have e9 : k = nh := (by omega); rw [← e9]; simp [biz, h4]; omega)]) (by first | exact Or.inl rfl | exact Or.inr rfl | (omega)) dX8_isBusiness_44
        · have c_19 : ¬ nh ≤ k := fun z9 => c_19 ((nLE (x := (da 2)) (y := (nI k)) (a := nh) (b := k) h2 rfl (by omega) (by omega)).mpr z9)
          refine lv_aload_n hx hb dX8_isBusiness_22 rfl (lv_at hl 1 rfl) ?_
          refine gf_X8_17 E hG hP.1 rfl dX8_isBusiness_23 ?_
          refine lv_bipush (v := 6) hx hb dX8_isBusiness_26 rfl ?_
          refine lv_iload_n hx hb dX8_isBusiness_28 rfl (lv_at hl 0 rfl) ?_
          refine lv_iadd hx hb dX8_isBusiness_29 ?_
          refine g_ild (6 + k) E hG hP.2.2.1 (ixq (nI_ad rfl rfl)) (by omega) (by decide) dX8_isBusiness_30 ?_
          refine lv_iload_n hx hb dX8_isBusiness_31 rfl (lv_at hl 2 rfl) ?_
          refine lv_icmp_ne (tgt := 37) hx hb dX8_isBusiness_32 (by decide) (fun c9 => ?_) (fun c9 => ?_)
          · refine lv_iinc (v := (nI (k + 1))) (lv' := [(2, .int (nI (k + 1))), (0, .ref (B 0)), (1, .int x)]) hx hb dX8_isBusiness_37 hl (k := 0) rfl (nI_ad rfl rfl) (by decide) rfl (fun ls hl => ?_)
            refine lv_goto (tgt := 12) hx hb dX8_isBusiness_40 (by decide) ?_
            exact ih (k + 1) (by omega) (by omega) (by simp [hol, h4]; intro z; exact c9 (z.trans ex.symm)) ls (lv_sub hl [0, 1, 2] rfl)
          · refine lv_iconst (v := 0) hx hb dX8_isBusiness_35 rfl ?_
            exact rd_bool E hr hk (by rw [if_neg (fun z => by simp only [biz, Bool.and_eq_true, Bool.not_eq_true'] at z; exact absurd ((hol_iff (k := nh)).mpr ⟨k, by omega, c9.trans ex⟩) (by rw [z.2]; decide))]) (by first | exact Or.inl rfl | exact Or.inr rfl | (omega)) dX8_isBusiness_36
    exact loop (nh + 1) 0 (by omega) (by omega) rfl ls (lv_sub hl [0, 1, 2] rfl)
  · have c_5 : ¬ (n % 7) ≤ 4 := fun z9 => c_5 ((nLE (x := (x - x / 7 * 7)) (y := 4) (a := (n % 7)) (b := 4) (nR7 ex (by omega)) rfl (by omega) (by omega)).mpr z9)
    refine lv_iconst (v := 0) hx hb dX8_isBusiness_8 rfl ?_
    exact rd_bool E hr hk (by rw [if_neg (by simp [biz]; omega)]) (by first | exact Or.inl rfl | exact Or.inr rfl | (omega)) dX8_isBusiness_9

set_option maxHeartbeats 4000000 in
set_option maxRecDepth 100000 in
/-- extend(n) -/
theorem c_X8_extend (l : Launch) (G : CG) {B : Nat → Nat} {f bf da dr : Nat → Int32} {hi : Nat → Nat → Int32} {sk : Nat → Int64} (x : Int32) (n nh : Nat) (ex : x = nI n) (hn : n < 1073740000) (h2 : da 2 = nI nh) (hh : nh ≤ 16) : Rd l yX8_extend cX8_extend 3 ((Option.some FieldType.int)) 1 22 G [.ref (B 0), .int x] (MW G B f bf da dr hi sk) (some (.int (nI (ext da nh n)))) := by
  refine Rd.ofW (by decide) (Nat.le_of_ble_eq_true rfl) (fun p e s m below meth c ls E hG hE hP hr hk hl => ?_)
  have hx := E.1
  have hb := E.2.1
  have hl : lv_has ls 3 [(0, .ref (B 0)), (1, .int x)] := hl
  refine lv_iload_n hx hb dX8_extend_0 rfl (lv_at hl 1 rfl) ?_
  refine lv_ci (y := (nI n)) (ex) ?_
  refine lv_istore_n (lv' := [(2, .int (nI n)), (0, .ref (B 0)), (1, .int x)]) hx hb dX8_extend_1 rfl hl (by decide) rfl (fun ls hl => ?_)
  have loop : ∀ (j k : Nat), (k + j < 1073741824) → ((∃ i, i < j ∧ biz da nh (k + i) = true)) → (extF da nh j k = ext da nh n) → ∀ ls : Array Slot, lv_has ls 3 [(2, .int (nI k)), (0, .ref (B 0)), (1, .int x)] → W p l e { frames := 1, cells := 0, slots := 0, locals := 22 } s m ([.ref (B 0), .int x] : List Value).toArray below meth c s.heap [] 0 0 (RQ below ([.ref (B 0), .int x] : List Value).toArray s (some (.int (nI (ext da nh n))))) (F0 m 2 ls []) := by
    intro j
    induction j with
    | zero => rintro k h1 ⟨i, hi, _⟩; omega
    | succ j ih =>
      rintro k h1 ⟨i, hi, hbz⟩ h4 ls hl
      unfold extF at h4
      refine lv_aload_n hx hb dX8_extend_2 rfl (lv_at hl 1 rfl) ?_
      refine lv_iload_n hx hb dX8_extend_3 rfl (lv_at hl 0 rfl) ?_
      refine Rd.callV (rest := []) (c_X8_isBusiness l G (nI k) k nh rfl (by omega) h2 hh) yk_X8_isBusiness E km_X8_167 dX8_extend_4 hG hE hP (At.recv hG hP.1 rfl) rfl rfl hl.1 ⟨Nat.le_of_ble_eq_true rfl, Nat.le_of_ble_eq_true rfl⟩ ⟨Nat.zero_le _, Nat.zero_le _⟩ (Nat.le_of_ble_eq_true rfl) ?_
      refine lv_if_ne (tgt := 16) hx hb dX8_extend_7 (by decide) (fun c_7 => ?_) (fun c_7 => ?_)
      · have c9 : biz da nh k = true := by
          by_cases z : biz da nh k = true
          · exact z
          · rw [if_neg z] at c_7; exact absurd rfl c_7
        rw [if_pos c9] at h4
        refine lv_iload_n hx hb dX8_extend_16 rfl (lv_at hl 0 rfl) ?_
        exact rd_int E hr hk (by rw [h4]) dX8_extend_17
      · have c9 : ¬ biz da nh k = true := fun z => by rw [if_pos z] at c_7; exact absurd c_7 (by decide)
        rw [if_neg c9] at h4
        refine lv_iinc (v := (nI (k + 1))) (lv' := [(2, .int (nI (k + 1))), (0, .ref (B 0)), (1, .int x)]) hx hb dX8_extend_10 hl (k := 0) rfl (nI_ad rfl rfl) (by decide) rfl (fun ls hl => ?_)
        refine lv_goto (tgt := 2) hx hb dX8_extend_13 (by decide) ?_
        cases i with
        | zero => exact absurd hbz c9
        | succ i => exact ih (k + 1) (by omega) ⟨i, by omega, by rw [show k + 1 + i = k + (i + 1) by omega]; exact hbz⟩ h4 ls (lv_sub hl [0, 1, 2] rfl)
  exact loop 130 n (by omega) (biz_near da hh (by omega)) rfl ls (lv_sub hl [0, 1, 2] rfl)

set_option maxHeartbeats 4000000 in
set_option maxRecDepth 100000 in
/-- add(n, k0) -/
theorem c_X8_add (l : Launch) (G : CG) {B : Nat → Nat} {f bf da dr : Nat → Int32} {hi : Nat → Nat → Int32} {sk : Nat → Int64} (x y : Int32) (n k0 nh : Nat) (ex : x = nI n) (ey : y = nI k0) (hn : n + 131 * k0 < 1073740000) (h2 : da 2 = nI nh) (hh : nh ≤ 16) : Rd l yX8_add cX8_add 5 ((Option.some FieldType.int)) 2 44 G [.ref (B 0), .int x, .int y] (MW G B f bf da dr hi sk) (some (.int (nI (addB da nh k0 n)))) := by
  refine Rd.ofW (by decide) (Nat.le_of_ble_eq_true rfl) (fun p e s m below meth c ls E hG hE hP hr hk hl => ?_)
  have hx := E.1
  have hb := E.2.1
  have hl : lv_has ls 5 [(0, .ref (B 0)), (1, .int x), (2, .int y)] := hl
  refine lv_iload_n hx hb dX8_add_0 rfl (lv_at hl 1 rfl) ?_
  refine lv_ci (y := (nI n)) (ex) ?_
  refine lv_istore_n (lv' := [(3, .int (nI n)), (0, .ref (B 0)), (1, .int x), (2, .int y)]) hx hb dX8_add_1 rfl hl (by decide) rfl (fun ls hl => ?_)
  refine lv_iload_n hx hb dX8_add_2 rfl (lv_at hl 3 rfl) ?_
  refine lv_ci (y := (nI k0)) (ey) ?_
  refine lv_istore (lv' := [(4, .int (nI k0)), (3, .int (nI n)), (0, .ref (B 0)), (1, .int x), (2, .int y)]) hx hb dX8_add_3 hl (by decide) rfl (fun ls hl => ?_)
  have loop : ∀ (k d : Nat), (d + 131 * k < 1073740000) → (addB da nh k d = addB da nh k0 n) → ∀ ls : Array Slot, lv_has ls 5 [(4, .int (nI k)), (3, .int (nI d)), (0, .ref (B 0)), (1, .int x), (2, .int y)] → W p l e { frames := 2, cells := 0, slots := 0, locals := 44 } s m ([.ref (B 0), .int x, .int y] : List Value).toArray below meth c s.heap [] 0 0 (RQ below ([.ref (B 0), .int x, .int y] : List Value).toArray s (some (.int (nI (addB da nh k0 n))))) (F0 m 5 ls []) := by
    intro k
    induction k with
    | zero =>
      intro d h1 h3 ls hl
      refine lv_iload hx hb dX8_add_5 (lv_at hl 0 rfl) ?_
      refine lv_if_le (tgt := 24) hx hb dX8_add_7 (by decide) (fun c_7 => ?_) (fun c_7 => ?_)
      · refine lv_iload_n hx hb dX8_add_24 rfl (lv_at hl 1 rfl) ?_
        exact rd_int E hr hk (by rw [← h3]; rfl) dX8_add_25
      · exact absurd (show nI 0 ≤ 0 by decide) c_7
    | succ k ih =>
      intro d h1 h3 ls hl
      refine lv_iload hx hb dX8_add_5 (lv_at hl 0 rfl) ?_
      refine lv_if_le (tgt := 24) hx hb dX8_add_7 (by decide) (fun c_7 => ?_) (fun c_7 => ?_)
      · exact absurd c_7 (nI_nle (by omega) (by omega))
      · have hb9 := ext_bound da hh (n := d + 1) (by omega)
        refine lv_aload_n hx hb dX8_add_10 rfl (lv_at hl 2 rfl) ?_
        refine lv_iload_n hx hb dX8_add_11 rfl (lv_at hl 1 rfl) ?_
        refine lv_iconst (v := 1) hx hb dX8_add_12 rfl ?_
        refine lv_iadd hx hb dX8_add_13 ?_
        refine Rd.callV (rest := []) (c_X8_extend l G ((nI d) + 1) (d + 1) nh (nI_ad rfl rfl) (by omega) h2 hh) yk_X8_extend E km_X8_170 dX8_add_14 hG hE hP (At.recv hG hP.1 rfl) rfl rfl hl.1 ⟨Nat.le_of_ble_eq_true rfl, Nat.le_of_ble_eq_true rfl⟩ ⟨Nat.zero_le _, Nat.zero_le _⟩ (Nat.le_of_ble_eq_true rfl) ?_
        refine lv_istore_n (lv' := [(3, .int (nI (ext da nh (d + 1)))), (4, .int (nI (k + 1))), (0, .ref (B 0)), (1, .int x), (2, .int y)]) hx hb dX8_add_17 rfl hl (by decide) rfl (fun ls hl => ?_)
        refine lv_iinc (v := (nI k)) (lv' := [(4, .int (nI k)), (3, .int (nI (ext da nh (d + 1)))), (0, .ref (B 0)), (1, .int x), (2, .int y)]) hx hb dX8_add_18 hl (k := 1) rfl (pk_m1 k) (by decide) rfl (fun ls hl => ?_)
        refine lv_goto (tgt := 5) hx hb dX8_add_21 (by decide) ?_
        exact ih (ext da nh (d + 1)) (by omega) h3 ls (lv_sub hl [0, 1, 2, 3, 4] rfl)
  exact loop k0 n (by omega) rfl ls (lv_sub hl [0, 1, 2, 3, 4] rfl)

set_option maxHeartbeats 4000000 in
set_option maxRecDepth 100000 in
/-- thrown() -/
theorem c_X8_thrown (l : Launch) (G : CG) {B : Nat → Nat} {f bf da dr : Nat → Int32} {hi : Nat → Nat → Int32} {sk : Nat → Int64}  : Rd l yX8_thrown cX8_thrown 1 ((Option.some FieldType.int)) 0 0 G [.ref (B 0)] (MW G B f bf da dr hi sk) (some (.int (f 0))) := by
  refine Rd.ofW (by decide) (Nat.le_of_ble_eq_true rfl) (fun p e s m below meth c ls E hG hE hP hr hk hl => ?_)
  have hx := E.1
  have hb := E.2.1
  have hl : lv_has ls 1 [(0, .ref (B 0))] := hl
  refine lv_aload_n hx hb dX8_thrown_0 rfl (lv_at hl 0 rfl) ?_
  refine gf_X8_32 E hG hP.1 rfl dX8_thrown_1 ?_
  exact rd_int E hr hk (rfl) dX8_thrown_4

set_option maxHeartbeats 4000000 in
set_option maxRecDepth 100000 in
/-- isGood() -/
theorem c_X8_isGood (l : Launch) (G : CG) {B : Nat → Nat} {f bf da dr : Nat → Int32} {hi : Nat → Nat → Int32} {sk : Nat → Int64}  : Rd l yX8_isGood cX8_isGood 1 ((Option.some FieldType.boolean)) 0 0 G [.ref (B 0)] (MW G B f bf da dr hi sk) (some (.int (if f 5 = 0 then 1 else 0))) := by
  refine Rd.ofW (by decide) (Nat.le_of_ble_eq_true rfl) (fun p e s m below meth c ls E hG hE hP hr hk hl => ?_)
  have hx := E.1
  have hb := E.2.1
  have hl : lv_has ls 1 [(0, .ref (B 0))] := hl
  refine lv_aload_n hx hb dX8_isGood_0 rfl (lv_at hl 0 rfl) ?_
  refine gf_X8_48 E hG hP.1 rfl dX8_isGood_1 ?_
  refine lv_if_ne (tgt := 11) hx hb dX8_isGood_4 (by decide) (fun c_4 => ?_) (fun c_4 => ?_)
  · refine lv_iconst (v := 0) hx hb dX8_isGood_11 rfl ?_
    exact rd_bool E hr hk (by first | (simp only [c_4, ↓reduceIte, not_true_eq_false, not_false_eq_true]; done) | (simp [c_4]; done)) (by first | exact Or.inl rfl | exact Or.inr rfl | (omega)) dX8_isGood_12
  · refine lv_iconst (v := 1) hx hb dX8_isGood_7 rfl ?_
    refine lv_goto (tgt := 12) hx hb dX8_isGood_8 (by decide) ?_
    exact rd_bool E hr hk (by first | (simp only [c_4, ↓reduceIte, not_true_eq_false, not_false_eq_true]; done) | (simp [c_4]; done)) (by first | exact Or.inl rfl | exact Or.inr rfl | (omega)) dX8_isGood_12

set_option maxHeartbeats 4000000 in
set_option maxRecDepth 100000 in
/-- byteAt(k) -/
theorem c_X8_byteAt (l : Launch) (G : CG) {B : Nat → Nat} {f bf da dr : Nat → Int32} {hi : Nat → Nat → Int32} {sk : Nat → Int64} (x : Int32) (k tl : Nat) (ex : x = nI k) (hk9 : k < 1073741824) (ht : f 3 = nI tl) (hl9 : tl ≤ 900) : Rd l yX8_byteAt cX8_byteAt 2 ((Option.some FieldType.int)) 0 0 G [.ref (B 0), .int x] (MW G B f bf da dr hi sk) (some (.int (if tl ≤ k then (-1) else bf k))) := by
  refine Rd.ofW (by decide) (Nat.le_of_ble_eq_true rfl) (fun p e s m below meth c ls E hG hE hP hr hk hl => ?_)
  have hx := E.1
  have hb := E.2.1
  have hl : lv_has ls 2 [(0, .ref (B 0)), (1, .int x)] := hl
  refine lv_iload_n hx hb dX8_byteAt_0 rfl (lv_at hl 1 rfl) ?_
  refine lv_aload_n hx hb dX8_byteAt_1 rfl (lv_at hl 0 rfl) ?_
  refine gf_X8_38 E hG hP.1 rfl dX8_byteAt_2 ?_
  refine lv_icmp_ge (tgt := 17) hx hb dX8_byteAt_5 (by decide) (fun c_5 => ?_) (fun c_5 => ?_)
  · have c_5 : tl ≤ k := (nLE (x := (f 3)) (y := x) (a := tl) (b := k) ht ex (by omega) (by omega)).mp c_5
    refine lv_iconst (v := (-1)) hx hb dX8_byteAt_17 rfl ?_
    exact rd_int E hr hk (by first | (simp only [c_5, ↓reduceIte, not_true_eq_false, not_false_eq_true]; done) | (simp [c_5]; done)) dX8_byteAt_18
  · have c_5 : ¬ tl ≤ k := fun z9 => c_5 ((nLE (x := (f 3)) (y := x) (a := tl) (b := k) ht ex (by omega) (by omega)).mpr z9)
    refine lv_aload_n hx hb dX8_byteAt_8 rfl (lv_at hl 0 rfl) ?_
    refine gf_X8_9 E hG hP.1 rfl dX8_byteAt_9 ?_
    refine lv_iload_n hx hb dX8_byteAt_12 rfl (lv_at hl 1 rfl) ?_
    refine g_ild k E hG hP.2.1 (ixq ex) (by omega) (by decide) dX8_byteAt_13 ?_
    refine lv_goto (tgt := 18) hx hb dX8_byteAt_14 (by decide) ?_
    exact rd_int E hr hk (by first | (simp only [c_5, ↓reduceIte, not_true_eq_false, not_false_eq_true]; done) | (simp [c_5]; done)) dX8_byteAt_18

set_option maxHeartbeats 4000000 in
set_option maxRecDepth 100000 in
/-- most(c) -/
theorem c_X8_most (l : Launch) (G : CG) {B : Nat → Nat} {f bf da dr : Nat → Int32} {hi : Nat → Nat → Int32} {sk : Nat → Int64} (x : Int32) (k : Nat) (ex : x = nI k) (hk9 : k < 12) : Rd l yX8_most cX8_most 2 ((Option.some FieldType.int)) 1 20 G [.ref (B 0), .int x] (MW G B f bf da dr hi sk) (some (.int (mostV da k))) := by
  refine Rd.ofW (by decide) (Nat.le_of_ble_eq_true rfl) (fun p e s m below meth c ls E hG hE hP hr hk hl => ?_)
  have hx := E.1
  have hb := E.2.1
  have hl : lv_has ls 2 [(0, .ref (B 0)), (1, .int x)] := hl
  refine lv_aload_n hx hb dX8_most_0 rfl (lv_at hl 0 rfl) ?_
  refine gf_X8_17 E hG hP.1 rfl dX8_most_1 ?_
  refine lv_iload_n hx hb dX8_most_4 rfl (lv_at hl 1 rfl) ?_
  refine Rd.callS (rest := [.ref (B 2)]) (c_X8_credit l G x) yk_X8_credit E km_X8_126 dX8_most_5 hG hE trivial rfl rfl hl.1 ⟨Nat.le_of_ble_eq_true rfl, Nat.le_of_ble_eq_true rfl⟩ ⟨Nat.zero_le _, Nat.zero_le _⟩ (Nat.le_of_ble_eq_true rfl) ?_
  refine g_ild (22 + 11 * k) E hG hP.2.2.1 (ixq (nI_ad rfl (nI_mu rfl ex))) (by omega) (by decide) dX8_most_8 ?_
  refine lv_aload_n hx hb dX8_most_9 rfl (lv_at hl 0 rfl) ?_
  refine gf_X8_17 E hG hP.1 rfl dX8_most_10 ?_
  refine lv_iload_n hx hb dX8_most_13 rfl (lv_at hl 1 rfl) ?_
  refine Rd.callS (rest := [.ref (B 2), .int (da (22 + 11 * k))]) (c_X8_credit l G x) yk_X8_credit E km_X8_126 dX8_most_14 hG hE trivial rfl rfl hl.1 ⟨Nat.le_of_ble_eq_true rfl, Nat.le_of_ble_eq_true rfl⟩ ⟨Nat.zero_le _, Nat.zero_le _⟩ (Nat.le_of_ble_eq_true rfl) ?_
  refine g_ild (22 + 11 * k) E hG hP.2.2.1 (ixq (nI_ad rfl (nI_mu rfl ex))) (by omega) (by decide) dX8_most_17 ?_
  refine lv_aload_n hx hb dX8_most_18 rfl (lv_at hl 0 rfl) ?_
  refine gf_X8_17 E hG hP.1 rfl dX8_most_19 ?_
  refine lv_iload_n hx hb dX8_most_22 rfl (lv_at hl 1 rfl) ?_
  refine Rd.callS (rest := [.ref (B 2), .int (da (22 + 11 * k)), .int (da (22 + 11 * k))]) (c_X8_credit l G x) yk_X8_credit E km_X8_126 dX8_most_23 hG hE trivial rfl rfl hl.1 ⟨Nat.le_of_ble_eq_true rfl, Nat.le_of_ble_eq_true rfl⟩ ⟨Nat.zero_le _, Nat.zero_le _⟩ (Nat.le_of_ble_eq_true rfl) ?_
  refine lv_iconst (v := 1) hx hb dX8_most_26 rfl ?_
  refine lv_iadd hx hb dX8_most_27 ?_
  refine g_ild ((22 + 11 * k) + 1) E hG hP.2.2.1 (ixq (nI_ad (nI_ad rfl (nI_mu rfl ex)) rfl)) (by omega) (by decide) dX8_most_28 ?_
  refine lv_imul hx hb dX8_most_29 ?_
  refine lv_bipush (v := 100) hx hb dX8_most_30 rfl ?_
  refine lv_idiv hx hb dX8_most_32 (by decide) ?_
  refine lv_iadd hx hb dX8_most_33 ?_
  exact rd_int E hr hk (rfl) dX8_most_34

set_option maxHeartbeats 4000000 in
set_option maxRecDepth 100000 in
/-- least(c) -/
theorem c_X8_least (l : Launch) (G : CG) {B : Nat → Nat} {f bf da dr : Nat → Int32} {hi : Nat → Nat → Int32} {sk : Nat → Int64} (x : Int32) (k : Nat) (ex : x = nI k) (hk9 : k < 12) : Rd l yX8_least cX8_least 2 ((Option.some FieldType.int)) 1 20 G [.ref (B 0), .int x] (MW G B f bf da dr hi sk) (some (.int (leastV da k))) := by
  refine Rd.ofW (by decide) (Nat.le_of_ble_eq_true rfl) (fun p e s m below meth c ls E hG hE hP hr hk hl => ?_)
  have hx := E.1
  have hb := E.2.1
  have hl : lv_has ls 2 [(0, .ref (B 0)), (1, .int x)] := hl
  refine lv_aload_n hx hb dX8_least_0 rfl (lv_at hl 0 rfl) ?_
  refine gf_X8_17 E hG hP.1 rfl dX8_least_1 ?_
  refine lv_iload_n hx hb dX8_least_4 rfl (lv_at hl 1 rfl) ?_
  refine Rd.callS (rest := [.ref (B 2)]) (c_X8_credit l G x) yk_X8_credit E km_X8_126 dX8_least_5 hG hE trivial rfl rfl hl.1 ⟨Nat.le_of_ble_eq_true rfl, Nat.le_of_ble_eq_true rfl⟩ ⟨Nat.zero_le _, Nat.zero_le _⟩ (Nat.le_of_ble_eq_true rfl) ?_
  refine g_ild (22 + 11 * k) E hG hP.2.2.1 (ixq (nI_ad rfl (nI_mu rfl ex))) (by omega) (by decide) dX8_least_8 ?_
  refine lv_aload_n hx hb dX8_least_9 rfl (lv_at hl 0 rfl) ?_
  refine gf_X8_17 E hG hP.1 rfl dX8_least_10 ?_
  refine lv_iload_n hx hb dX8_least_13 rfl (lv_at hl 1 rfl) ?_
  refine Rd.callS (rest := [.ref (B 2), .int (da (22 + 11 * k))]) (c_X8_credit l G x) yk_X8_credit E km_X8_126 dX8_least_14 hG hE trivial rfl rfl hl.1 ⟨Nat.le_of_ble_eq_true rfl, Nat.le_of_ble_eq_true rfl⟩ ⟨Nat.zero_le _, Nat.zero_le _⟩ (Nat.le_of_ble_eq_true rfl) ?_
  refine g_ild (22 + 11 * k) E hG hP.2.2.1 (ixq (nI_ad rfl (nI_mu rfl ex))) (by omega) (by decide) dX8_least_17 ?_
  refine lv_aload_n hx hb dX8_least_18 rfl (lv_at hl 0 rfl) ?_
  refine gf_X8_17 E hG hP.1 rfl dX8_least_19 ?_
  refine lv_iload_n hx hb dX8_least_22 rfl (lv_at hl 1 rfl) ?_
  refine Rd.callS (rest := [.ref (B 2), .int (da (22 + 11 * k)), .int (da (22 + 11 * k))]) (c_X8_credit l G x) yk_X8_credit E km_X8_126 dX8_least_23 hG hE trivial rfl rfl hl.1 ⟨Nat.le_of_ble_eq_true rfl, Nat.le_of_ble_eq_true rfl⟩ ⟨Nat.zero_le _, Nat.zero_le _⟩ (Nat.le_of_ble_eq_true rfl) ?_
  refine lv_iconst (v := 2) hx hb dX8_least_26 rfl ?_
  refine lv_iadd hx hb dX8_least_27 ?_
  refine g_ild ((22 + 11 * k) + 2) E hG hP.2.2.1 (ixq (nI_ad (nI_ad rfl (nI_mu rfl ex)) rfl)) (by omega) (by decide) dX8_least_28 ?_
  refine lv_imul hx hb dX8_least_29 ?_
  refine lv_bipush (v := 100) hx hb dX8_least_30 rfl ?_
  refine lv_idiv hx hb dX8_least_32 (by decide) ?_
  refine lv_isub hx hb dX8_least_33 ?_
  exact rd_int E hr hk (rfl) dX8_least_34

set_option maxHeartbeats 4000000 in
set_option maxRecDepth 100000 in
/-- stands(p, c) -/
theorem c_X8_stands (l : Launch) (G : CG) {B : Nat → Nat} {f bf da dr : Nat → Int32} {hi : Nat → Nat → Int32} {sk : Nat → Int64} (x z : Int32) (k : Nat) (ex : x = nI k) (hk9 : k < 24) : Rd l yX8_stands cX8_stands 3 ((Option.some FieldType.boolean)) 1 20 G [.ref (B 0), .int x, .int z] (MW G B f bf da dr hi sk) (some (.int (standsV da k z))) := by
  refine Rd.ofW (by decide) (Nat.le_of_ble_eq_true rfl) (fun p e s m below meth c ls E hG hE hP hr hk hl => ?_)
  have hx := E.1
  have hb := E.2.1
  have hl : lv_has ls 3 [(0, .ref (B 0)), (1, .int x), (2, .int z)] := hl
  refine lv_aload_n hx hb dX8_stands_0 rfl (lv_at hl 0 rfl) ?_
  refine gf_X8_17 E hG hP.1 rfl dX8_stands_1 ?_
  refine lv_iload_n hx hb dX8_stands_4 rfl (lv_at hl 1 rfl) ?_
  refine Rd.callS (rest := [.ref (B 2)]) (c_X8_presentation l G x) yk_X8_presentation E km_X8_188 dX8_stands_5 hG hE trivial rfl rfl hl.1 ⟨Nat.le_of_ble_eq_true rfl, Nat.le_of_ble_eq_true rfl⟩ ⟨Nat.zero_le _, Nat.zero_le _⟩ (Nat.le_of_ble_eq_true rfl) ?_
  refine g_ild (154 + 6 * k) E hG hP.2.2.1 (ixq (nI_ad rfl (nI_mu rfl ex))) (by omega) (by decide) dX8_stands_8 ?_
  refine lv_iload_n hx hb dX8_stands_9 rfl (lv_at hl 2 rfl) ?_
  refine lv_icmp_ne (tgt := 32) hx hb dX8_stands_10 (by decide) (fun c_10 => ?_) (fun c_10 => ?_)
  · refine lv_iconst (v := 0) hx hb dX8_stands_32 rfl ?_
    exact rd_bool E hr hk (by first | (simp only [standsV, c_10, ↓reduceIte, not_true_eq_false, not_false_eq_true]; done) | (simp [standsV, c_10]; done)) (by first | exact Or.inl rfl | exact Or.inr rfl | (omega)) dX8_stands_33
  · refine lv_aload_n hx hb dX8_stands_13 rfl (lv_at hl 0 rfl) ?_
    refine gf_X8_17 E hG hP.1 rfl dX8_stands_14 ?_
    refine lv_iload_n hx hb dX8_stands_17 rfl (lv_at hl 1 rfl) ?_
    refine Rd.callS (rest := [.ref (B 2)]) (c_X8_presentation l G x) yk_X8_presentation E km_X8_188 dX8_stands_18 hG hE trivial rfl rfl hl.1 ⟨Nat.le_of_ble_eq_true rfl, Nat.le_of_ble_eq_true rfl⟩ ⟨Nat.zero_le _, Nat.zero_le _⟩ (Nat.le_of_ble_eq_true rfl) ?_
    refine lv_iconst (v := 4) hx hb dX8_stands_21 rfl ?_
    refine lv_iadd hx hb dX8_stands_22 ?_
    refine g_ild ((154 + 6 * k) + 4) E hG hP.2.2.1 (ixq (nI_ad (nI_ad rfl (nI_mu rfl ex)) rfl)) (by omega) (by decide) dX8_stands_23 ?_
    refine lv_iconst (v := 3) hx hb dX8_stands_24 rfl ?_
    refine lv_icmp_eq (tgt := 32) hx hb dX8_stands_25 (by decide) (fun c_25 => ?_) (fun c_25 => ?_)
    · refine lv_iconst (v := 0) hx hb dX8_stands_32 rfl ?_
      exact rd_bool E hr hk (by first | (simp only [standsV, c_10, c_25, ↓reduceIte, not_true_eq_false, not_false_eq_true]; done) | (simp [standsV, c_10, c_25]; done)) (by first | exact Or.inl rfl | exact Or.inr rfl | (omega)) dX8_stands_33
    · refine lv_iconst (v := 1) hx hb dX8_stands_28 rfl ?_
      refine lv_goto (tgt := 33) hx hb dX8_stands_29 (by decide) ?_
      exact rd_bool E hr hk (by first | (simp only [standsV, c_10, c_25, ↓reduceIte, not_true_eq_false, not_false_eq_true]; done) | (simp [standsV, c_10, c_25]; done)) (by first | exact Or.inl rfl | exact Or.inr rfl | (omega)) dX8_stands_33

set_option maxHeartbeats 4000000 in
set_option maxRecDepth 100000 in
/-- drawnOf(c) -/
theorem c_X8_drawnOf (l : Launch) (G : CG) {B : Nat → Nat} {f bf da dr : Nat → Int32} {hi : Nat → Nat → Int32} {sk : Nat → Int64} (z : Int32) (np : Nat) (h1 : da 1 = nI np) (hp0 : np ≤ 24) : Rd l yX8_drawnOf cX8_drawnOf 4 ((Option.some FieldType.int)) 2 42 G [.ref (B 0), .int z] (MW G B f bf da dr hi sk) (some (.int (drawnV da z np))) := by
  refine Rd.ofW (by decide) (Nat.le_of_ble_eq_true rfl) (fun p e s m below meth c ls E hG hE hP hr hk hl => ?_)
  have hx := E.1
  have hb := E.2.1
  have hl : lv_has ls 4 [(0, .ref (B 0)), (1, .int z)] := hl
  refine lv_iconst (v := 0) hx hb dX8_drawnOf_0 rfl ?_
  refine lv_istore_n (lv' := [(2, .int 0), (0, .ref (B 0)), (1, .int z)]) hx hb dX8_drawnOf_1 rfl hl (by decide) rfl (fun ls hl => ?_)
  refine lv_iconst (v := 0) hx hb dX8_drawnOf_2 rfl ?_
  refine lv_ci (y := nI 0) (ixq rfl) ?_
  refine lv_istore_n (lv' := [(3, .int (nI 0)), (2, .int 0), (0, .ref (B 0)), (1, .int z)]) hx hb dX8_drawnOf_3 rfl hl (by decide) rfl (fun ls hl => ?_)
  have loop : ∀ (j k : Nat), (np < k + j) → (k ≤ np) → ∀ ls : Array Slot, lv_has ls 4 [(3, .int (nI k)), (2, .int (drawnV da z k)), (0, .ref (B 0)), (1, .int z)] → W p l e { frames := 2, cells := 0, slots := 0, locals := 42 } s m ([.ref (B 0), .int z] : List Value).toArray below meth c s.heap [] 0 0 (RQ below ([.ref (B 0), .int z] : List Value).toArray s (some (.int (drawnV da z np)))) (F0 m 4 ls []) := by
    intro j
    induction j with
    | zero => intro k z1 z2; omega
    | succ j ih =>
      intro k z1 z2 ls hl
      refine lv_iload_n hx hb dX8_drawnOf_4 rfl (lv_at hl 0 rfl) ?_
      refine lv_aload_n hx hb dX8_drawnOf_5 rfl (lv_at hl 2 rfl) ?_
      refine gf_X8_17 E hG hP.1 rfl dX8_drawnOf_6 ?_
      refine lv_iconst (v := 1) hx hb dX8_drawnOf_9 rfl ?_
      refine g_ild 1 E hG hP.2.2.1 rfl (by omega) (by decide) dX8_drawnOf_10 ?_
      refine lv_icmp_ge (tgt := 63) hx hb dX8_drawnOf_11 (by decide) (fun c_11 => ?_) (fun c_11 => ?_)
      · have c_11 : np ≤ k := (nLE (x := (da 1)) (y := (nI k)) (a := np) (b := k) h1 rfl (by omega) (by omega)).mp c_11
        have e9 : np = k := by omega
        subst e9
        refine lv_iload_n hx hb dX8_drawnOf_63 rfl (lv_at hl 1 rfl) ?_
        exact rd_int E hr hk (rfl) dX8_drawnOf_64
      · have c_11 : ¬ np ≤ k := fun z9 => c_11 ((nLE (x := (da 1)) (y := (nI k)) (a := np) (b := k) h1 rfl (by omega) (by omega)).mpr z9)
        refine lv_iload_n hx hb dX8_drawnOf_14 rfl (lv_at hl 1 rfl) ?_
        refine W.cut (g := F0 m 55 ls [.int (drawT da z k), .int (drawnV da z k)]) (fun K => ?_) ?_
        · refine lv_aload_n hx hb dX8_drawnOf_15 rfl (lv_at hl 2 rfl) ?_
          refine lv_iload_n hx hb dX8_drawnOf_16 rfl (lv_at hl 0 rfl) ?_
          refine lv_iload_n hx hb dX8_drawnOf_17 rfl (lv_at hl 3 rfl) ?_
          refine Rd.callV (rest := [.int (drawnV da z k)]) (c_X8_stands l G (nI k) z k rfl (by omega)) yk_X8_stands E km_X8_191 dX8_drawnOf_18 hG hE hP (At.recv hG hP.1 rfl) rfl rfl hl.1 ⟨Nat.le_of_ble_eq_true rfl, Nat.le_of_ble_eq_true rfl⟩ ⟨Nat.zero_le _, Nat.zero_le _⟩ (Nat.le_of_ble_eq_true rfl) ?_
          refine lv_if_eq (tgt := 54) hx hb dX8_drawnOf_21 (by decide) (fun c_21 => ?_) (fun c_21 => ?_)
          · refine lv_iconst (v := 0) hx hb dX8_drawnOf_54 rfl ?_
            exact W.eq (congrArg (fun z9 => F0 m 55 ls (.int z9 :: [.int (drawnV da z k)])) (show (0 : Int32) = (drawT da z k) by first | (simp only [drawT, c_21, ↓reduceIte, not_true_eq_false, not_false_eq_true]; done) | (simp [drawT, c_21]; done))) K
          · refine lv_aload_n hx hb dX8_drawnOf_24 rfl (lv_at hl 2 rfl) ?_
            refine gf_X8_17 E hG hP.1 rfl dX8_drawnOf_25 ?_
            refine lv_iload_n hx hb dX8_drawnOf_28 rfl (lv_at hl 0 rfl) ?_
            refine Rd.callS (rest := [.ref (B 2), .int (drawnV da z k)]) (c_X8_presentation l G (nI k)) yk_X8_presentation E km_X8_188 dX8_drawnOf_29 hG hE trivial rfl rfl hl.1 ⟨Nat.le_of_ble_eq_true rfl, Nat.le_of_ble_eq_true rfl⟩ ⟨Nat.zero_le _, Nat.zero_le _⟩ (Nat.le_of_ble_eq_true rfl) ?_
            refine lv_iconst (v := 3) hx hb dX8_drawnOf_32 rfl ?_
            refine lv_iadd hx hb dX8_drawnOf_33 ?_
            refine g_ild ((154 + 6 * k) + 3) E hG hP.2.2.1 (ixq (nI_ad (nI_ad rfl (nI_mu rfl rfl)) rfl)) (by omega) (by decide) dX8_drawnOf_34 ?_
            refine lv_iconst (v := 4) hx hb dX8_drawnOf_35 rfl ?_
            refine lv_iand hx hb dX8_drawnOf_36 ?_
            refine lv_if_ne (tgt := 54) hx hb dX8_drawnOf_37 (by decide) (fun c_37 => ?_) (fun c_37 => ?_)
            · refine lv_iconst (v := 0) hx hb dX8_drawnOf_54 rfl ?_
              exact W.eq (congrArg (fun z9 => F0 m 55 ls (.int z9 :: [.int (drawnV da z k)])) (show (0 : Int32) = (drawT da z k) by first | (simp only [drawT, c_21, c_37, ↓reduceIte, not_true_eq_false, not_false_eq_true]; done) | (simp [drawT, c_21, c_37]; done))) K
            · refine lv_aload_n hx hb dX8_drawnOf_40 rfl (lv_at hl 2 rfl) ?_
              refine gf_X8_17 E hG hP.1 rfl dX8_drawnOf_41 ?_
              refine lv_iload_n hx hb dX8_drawnOf_44 rfl (lv_at hl 0 rfl) ?_
              refine Rd.callS (rest := [.ref (B 2), .int (drawnV da z k)]) (c_X8_presentation l G (nI k)) yk_X8_presentation E km_X8_188 dX8_drawnOf_45 hG hE trivial rfl rfl hl.1 ⟨Nat.le_of_ble_eq_true rfl, Nat.le_of_ble_eq_true rfl⟩ ⟨Nat.zero_le _, Nat.zero_le _⟩ (Nat.le_of_ble_eq_true rfl) ?_
              refine lv_iconst (v := 2) hx hb dX8_drawnOf_48 rfl ?_
              refine lv_iadd hx hb dX8_drawnOf_49 ?_
              refine g_ild ((154 + 6 * k) + 2) E hG hP.2.2.1 (ixq (nI_ad (nI_ad rfl (nI_mu rfl rfl)) rfl)) (by omega) (by decide) dX8_drawnOf_50 ?_
              refine lv_goto (tgt := 55) hx hb dX8_drawnOf_51 (by decide) ?_
              exact W.eq (congrArg (fun z9 => F0 m 55 ls (.int z9 :: [.int (drawnV da z k)])) (show ((da ((154 + 6 * k) + 2)) : Int32) = (drawT da z k) by first | (simp only [drawT, c_21, c_37, ↓reduceIte, not_true_eq_false, not_false_eq_true]; done) | (simp [drawT, c_21, c_37]; done))) K
        refine lv_iadd hx hb dX8_drawnOf_55 ?_
        refine lv_istore_n (lv' := [(2, .int ((drawnV da z k) + (drawT da z k))), (3, .int (nI k)), (0, .ref (B 0)), (1, .int z)]) hx hb dX8_drawnOf_56 rfl hl (by decide) rfl (fun ls hl => ?_)
        refine lv_iinc (v := (nI (k + 1))) (lv' := [(3, .int (nI (k + 1))), (2, .int ((drawnV da z k) + (drawT da z k))), (0, .ref (B 0)), (1, .int z)]) hx hb dX8_drawnOf_57 hl (k := 1) rfl (nI_ad rfl rfl) (by decide) rfl (fun ls hl => ?_)
        refine lv_goto (tgt := 4) hx hb dX8_drawnOf_60 (by decide) ?_
        exact ih (k + 1) (by omega) (by omega) ls (lv_sub hl [0, 1, 2, 3] rfl)
  exact loop (np + 1) 0 (by omega) (by omega) ls (lv_sub hl [0, 1, 2, 3] rfl)

set_option maxHeartbeats 4000000 in
set_option maxRecDepth 100000 in
/-- transferredOf(c) -/
theorem c_X8_transferredOf (l : Launch) (G : CG) {B : Nat → Nat} {f bf da dr : Nat → Int32} {hi : Nat → Nat → Int32} {sk : Nat → Int64} (z : Int32) (nc : Nat) (h0 : da 0 = nI nc) (hc0 : nc ≤ 12) : Rd l yX8_transferredOf cX8_transferredOf 4 ((Option.some FieldType.int)) 1 20 G [.ref (B 0), .int z] (MW G B f bf da dr hi sk) (some (.int (transV da z nc))) := by
  refine Rd.ofW (by decide) (Nat.le_of_ble_eq_true rfl) (fun p e s m below meth c ls E hG hE hP hr hk hl => ?_)
  have hx := E.1
  have hb := E.2.1
  have hl : lv_has ls 4 [(0, .ref (B 0)), (1, .int z)] := hl
  refine lv_iconst (v := 0) hx hb dX8_transferredOf_0 rfl ?_
  refine lv_istore_n (lv' := [(2, .int 0), (0, .ref (B 0)), (1, .int z)]) hx hb dX8_transferredOf_1 rfl hl (by decide) rfl (fun ls hl => ?_)
  refine lv_iconst (v := 0) hx hb dX8_transferredOf_2 rfl ?_
  refine lv_ci (y := nI 0) (ixq rfl) ?_
  refine lv_istore_n (lv' := [(3, .int (nI 0)), (2, .int 0), (0, .ref (B 0)), (1, .int z)]) hx hb dX8_transferredOf_3 rfl hl (by decide) rfl (fun ls hl => ?_)
  have loop : ∀ (j k : Nat), (nc < k + j) → (k ≤ nc) → ∀ ls : Array Slot, lv_has ls 4 [(3, .int (nI k)), (2, .int (transV da z k)), (0, .ref (B 0)), (1, .int z)] → W p l e { frames := 1, cells := 0, slots := 0, locals := 20 } s m ([.ref (B 0), .int z] : List Value).toArray below meth c s.heap [] 0 0 (RQ below ([.ref (B 0), .int z] : List Value).toArray s (some (.int (transV da z nc)))) (F0 m 4 ls []) := by
    intro j
    induction j with
    | zero => intro k z1 z2; omega
    | succ j ih =>
      intro k z1 z2 ls hl
      refine lv_iload_n hx hb dX8_transferredOf_4 rfl (lv_at hl 0 rfl) ?_
      refine lv_aload_n hx hb dX8_transferredOf_5 rfl (lv_at hl 2 rfl) ?_
      refine gf_X8_17 E hG hP.1 rfl dX8_transferredOf_6 ?_
      refine lv_iconst (v := 0) hx hb dX8_transferredOf_9 rfl ?_
      refine g_ild 0 E hG hP.2.2.1 rfl (by omega) (by decide) dX8_transferredOf_10 ?_
      refine lv_icmp_ge (tgt := 52) hx hb dX8_transferredOf_11 (by decide) (fun c_11 => ?_) (fun c_11 => ?_)
      · have c_11 : nc ≤ k := (nLE (x := (da 0)) (y := (nI k)) (a := nc) (b := k) h0 rfl (by omega) (by omega)).mp c_11
        have e9 : nc = k := by omega
        subst e9
        refine lv_iload_n hx hb dX8_transferredOf_52 rfl (lv_at hl 1 rfl) ?_
        exact rd_int E hr hk (rfl) dX8_transferredOf_53
      · have c_11 : ¬ nc ≤ k := fun z9 => c_11 ((nLE (x := (da 0)) (y := (nI k)) (a := nc) (b := k) h0 rfl (by omega) (by omega)).mpr z9)
        refine lv_iload_n hx hb dX8_transferredOf_14 rfl (lv_at hl 1 rfl) ?_
        refine W.cut (g := F0 m 44 ls [.int (transT da z k), .int (transV da z k)]) (fun K => ?_) ?_
        · refine lv_aload_n hx hb dX8_transferredOf_15 rfl (lv_at hl 2 rfl) ?_
          refine gf_X8_17 E hG hP.1 rfl dX8_transferredOf_16 ?_
          refine lv_iload_n hx hb dX8_transferredOf_19 rfl (lv_at hl 0 rfl) ?_
          refine Rd.callS (rest := [.ref (B 2), .int (transV da z k)]) (c_X8_credit l G (nI k)) yk_X8_credit E km_X8_126 dX8_transferredOf_20 hG hE trivial rfl rfl hl.1 ⟨Nat.le_of_ble_eq_true rfl, Nat.le_of_ble_eq_true rfl⟩ ⟨Nat.zero_le _, Nat.zero_le _⟩ (Nat.le_of_ble_eq_true rfl) ?_
          refine lv_bipush (v := 10) hx hb dX8_transferredOf_23 rfl ?_
          refine lv_iadd hx hb dX8_transferredOf_25 ?_
          refine g_ild ((22 + 11 * k) + 10) E hG hP.2.2.1 (ixq (nI_ad (nI_ad rfl (nI_mu rfl rfl)) rfl)) (by omega) (by decide) dX8_transferredOf_26 ?_
          refine lv_iload_n hx hb dX8_transferredOf_27 rfl (lv_at hl 3 rfl) ?_
          refine lv_icmp_ne (tgt := 43) hx hb dX8_transferredOf_28 (by decide) (fun c_28 => ?_) (fun c_28 => ?_)
          · refine lv_iconst (v := 0) hx hb dX8_transferredOf_43 rfl ?_
            exact W.eq (congrArg (fun z9 => F0 m 44 ls (.int z9 :: [.int (transV da z k)])) (show (0 : Int32) = (transT da z k) by first | (simp only [transT, c_28, ↓reduceIte, not_true_eq_false, not_false_eq_true]; done) | (simp [transT, c_28]; done))) K
          · refine lv_aload_n hx hb dX8_transferredOf_31 rfl (lv_at hl 2 rfl) ?_
            refine gf_X8_17 E hG hP.1 rfl dX8_transferredOf_32 ?_
            refine lv_iload_n hx hb dX8_transferredOf_35 rfl (lv_at hl 0 rfl) ?_
            refine Rd.callS (rest := [.ref (B 2), .int (transV da z k)]) (c_X8_credit l G (nI k)) yk_X8_credit E km_X8_126 dX8_transferredOf_36 hG hE trivial rfl rfl hl.1 ⟨Nat.le_of_ble_eq_true rfl, Nat.le_of_ble_eq_true rfl⟩ ⟨Nat.zero_le _, Nat.zero_le _⟩ (Nat.le_of_ble_eq_true rfl) ?_
            refine g_ild (22 + 11 * k) E hG hP.2.2.1 (ixq (nI_ad rfl (nI_mu rfl rfl))) (by omega) (by decide) dX8_transferredOf_39 ?_
            refine lv_goto (tgt := 44) hx hb dX8_transferredOf_40 (by decide) ?_
            exact W.eq (congrArg (fun z9 => F0 m 44 ls (.int z9 :: [.int (transV da z k)])) (show ((da (22 + 11 * k)) : Int32) = (transT da z k) by first | (simp only [transT, c_28, ↓reduceIte, not_true_eq_false, not_false_eq_true]; done) | (simp [transT, c_28]; done))) K
        refine lv_iadd hx hb dX8_transferredOf_44 ?_
        refine lv_istore_n (lv' := [(2, .int ((transV da z k) + (transT da z k))), (3, .int (nI k)), (0, .ref (B 0)), (1, .int z)]) hx hb dX8_transferredOf_45 rfl hl (by decide) rfl (fun ls hl => ?_)
        refine lv_iinc (v := (nI (k + 1))) (lv' := [(3, .int (nI (k + 1))), (2, .int ((transV da z k) + (transT da z k))), (0, .ref (B 0)), (1, .int z)]) hx hb dX8_transferredOf_46 hl (k := 1) rfl (nI_ad rfl rfl) (by decide) rfl (fun ls hl => ?_)
        refine lv_goto (tgt := 4) hx hb dX8_transferredOf_49 (by decide) ?_
        exact ih (k + 1) (by omega) (by omega) ls (lv_sub hl [0, 1, 2, 3] rfl)
  exact loop (nc + 1) 0 (by omega) (by omega) ls (lv_sub hl [0, 1, 2, 3] rfl)

set_option maxHeartbeats 4000000 in
set_option maxRecDepth 100000 in
/-- availableOf(c) -/
theorem c_X8_availableOf (l : Launch) (G : CG) {B : Nat → Nat} {f bf da dr : Nat → Int32} {hi : Nat → Nat → Int32} {sk : Nat → Int64} (x : Int32) (k np nc : Nat) (ex : x = nI k) (hk9 : k < 12) (h1 : da 1 = nI np) (hp0 : np ≤ 24) (h0 : da 0 = nI nc) (hc0 : nc ≤ 12) : Rd l yX8_availableOf cX8_availableOf 2 ((Option.some FieldType.int)) 3 65 G [.ref (B 0), .int x] (MW G B f bf da dr hi sk) (some (.int (availV da np nc k))) := by
  refine Rd.ofW (by decide) (Nat.le_of_ble_eq_true rfl) (fun p e s m below meth c ls E hG hE hP hr hk hl => ?_)
  have hx := E.1
  have hb := E.2.1
  have hl : lv_has ls 2 [(0, .ref (B 0)), (1, .int x)] := hl
  refine lv_aload_n hx hb dX8_availableOf_0 rfl (lv_at hl 0 rfl) ?_
  refine lv_iload_n hx hb dX8_availableOf_1 rfl (lv_at hl 1 rfl) ?_
  refine Rd.callV (rest := []) (c_X8_most l G x k ex (by omega)) yk_X8_most E km_X8_182 dX8_availableOf_2 hG hE hP (At.recv hG hP.1 rfl) rfl rfl hl.1 ⟨Nat.le_of_ble_eq_true rfl, Nat.le_of_ble_eq_true rfl⟩ ⟨Nat.zero_le _, Nat.zero_le _⟩ (Nat.le_of_ble_eq_true rfl) ?_
  refine lv_aload_n hx hb dX8_availableOf_5 rfl (lv_at hl 0 rfl) ?_
  refine lv_iload_n hx hb dX8_availableOf_6 rfl (lv_at hl 1 rfl) ?_
  refine Rd.callV (rest := [.int (mostV da k)]) (c_X8_drawnOf l G x np h1 hp0) yk_X8_drawnOf E km_X8_195 dX8_availableOf_7 hG hE hP (At.recv hG hP.1 rfl) rfl rfl hl.1 ⟨Nat.le_of_ble_eq_true rfl, Nat.le_of_ble_eq_true rfl⟩ ⟨Nat.zero_le _, Nat.zero_le _⟩ (Nat.le_of_ble_eq_true rfl) ?_
  refine lv_isub hx hb dX8_availableOf_10 ?_
  refine lv_aload_n hx hb dX8_availableOf_11 rfl (lv_at hl 0 rfl) ?_
  refine lv_iload_n hx hb dX8_availableOf_12 rfl (lv_at hl 1 rfl) ?_
  refine Rd.callV (rest := [.int ((mostV da k) - (drawnV da x np))]) (c_X8_transferredOf l G x nc h0 hc0) yk_X8_transferredOf E km_X8_198 dX8_availableOf_13 hG hE hP (At.recv hG hP.1 rfl) rfl rfl hl.1 ⟨Nat.le_of_ble_eq_true rfl, Nat.le_of_ble_eq_true rfl⟩ ⟨Nat.zero_le _, Nat.zero_le _⟩ (Nat.le_of_ble_eq_true rfl) ?_
  refine lv_isub hx hb dX8_availableOf_16 ?_
  exact rd_int E hr hk (by rw [ex]; rfl) dX8_availableOf_17

set_option maxHeartbeats 4000000 in
set_option maxRecDepth 100000 in
/-- lastDayOf(c, n) -/
theorem c_X8_lastDayOf (l : Launch) (G : CG) {B : Nat → Nat} {f bf da dr : Nat → Int32} {hi : Nat → Nat → Int32} {sk : Nat → Int64} (x y : Int32) (k n nh ex1 pe1 : Nat) (ex : x = nI k) (ey : y = nI n) (hk9 : k < 12) (hn : n < 1073700000) (h2 : da 2 = nI nh) (hh : nh ≤ 16) (hx9 : da (cP k + 3) = nI ex1) (hx8 : ex1 < 1000) (hx7 : da (cP k + 5) = nI pe1) (hx6 : pe1 < 1000) : Rd l yX8_lastDayOf cX8_lastDayOf 3 ((Option.some FieldType.int)) 2 44 G [.ref (B 0), .int x, .int y] (MW G B f bf da dr hi sk) (some (.int (nI (lastV da nh ex1 pe1 n)))) := by
  refine Rd.ofW (by decide) (Nat.le_of_ble_eq_true rfl) (fun p e s m below meth c ls E hG hE hP hr hk hl => ?_)
  have hx := E.1
  have hb := E.2.1
  have hl : lv_has ls 3 [(0, .ref (B 0)), (1, .int x), (2, .int y)] := hl
  have b1 := ext_bound da hh (n := ex1) (by omega)
  have b2 := ext_bound da hh (n := n + pe1) (by omega)
  refine lv_aload_n hx hb dX8_lastDayOf_0 rfl (lv_at hl 0 rfl) ?_
  refine lv_aload_n hx hb dX8_lastDayOf_1 rfl (lv_at hl 0 rfl) ?_
  refine gf_X8_17 E hG hP.1 rfl dX8_lastDayOf_2 ?_
  refine lv_iload_n hx hb dX8_lastDayOf_5 rfl (lv_at hl 1 rfl) ?_
  refine Rd.callS (rest := [.ref (B 2), .ref (B 0)]) (c_X8_credit l G x) yk_X8_credit E km_X8_126 dX8_lastDayOf_6 hG hE trivial rfl rfl hl.1 ⟨Nat.le_of_ble_eq_true rfl, Nat.le_of_ble_eq_true rfl⟩ ⟨Nat.zero_le _, Nat.zero_le _⟩ (Nat.le_of_ble_eq_true rfl) ?_
  refine lv_iconst (v := 3) hx hb dX8_lastDayOf_9 rfl ?_
  refine lv_iadd hx hb dX8_lastDayOf_10 ?_
  refine g_ild ((22 + 11 * k) + 3) E hG hP.2.2.1 (ixq (nI_ad (nI_ad rfl (nI_mu rfl ex)) rfl)) (by omega) (by decide) dX8_lastDayOf_11 ?_
  refine Rd.callV (rest := []) (c_X8_extend l G (da ((22 + 11 * k) + 3)) ex1 nh hx9 (by omega) h2 hh) yk_X8_extend E km_X8_170 dX8_lastDayOf_12 hG hE hP (At.recv hG hP.1 rfl) rfl rfl hl.1 ⟨Nat.le_of_ble_eq_true rfl, Nat.le_of_ble_eq_true rfl⟩ ⟨Nat.zero_le _, Nat.zero_le _⟩ (Nat.le_of_ble_eq_true rfl) ?_
  refine lv_aload_n hx hb dX8_lastDayOf_15 rfl (lv_at hl 0 rfl) ?_
  refine lv_iload_n hx hb dX8_lastDayOf_16 rfl (lv_at hl 2 rfl) ?_
  refine lv_aload_n hx hb dX8_lastDayOf_17 rfl (lv_at hl 0 rfl) ?_
  refine gf_X8_17 E hG hP.1 rfl dX8_lastDayOf_18 ?_
  refine lv_iload_n hx hb dX8_lastDayOf_21 rfl (lv_at hl 1 rfl) ?_
  refine Rd.callS (rest := [.ref (B 2), .int y, .ref (B 0), .int (nI (ext da nh ex1))]) (c_X8_credit l G x) yk_X8_credit E km_X8_126 dX8_lastDayOf_22 hG hE trivial rfl rfl hl.1 ⟨Nat.le_of_ble_eq_true rfl, Nat.le_of_ble_eq_true rfl⟩ ⟨Nat.zero_le _, Nat.zero_le _⟩ (Nat.le_of_ble_eq_true rfl) ?_
  refine lv_iconst (v := 5) hx hb dX8_lastDayOf_25 rfl ?_
  refine lv_iadd hx hb dX8_lastDayOf_26 ?_
  refine g_ild ((22 + 11 * k) + 5) E hG hP.2.2.1 (ixq (nI_ad (nI_ad rfl (nI_mu rfl ex)) rfl)) (by omega) (by decide) dX8_lastDayOf_27 ?_
  refine lv_iadd hx hb dX8_lastDayOf_28 ?_
  refine Rd.callV (rest := [.int (nI (ext da nh ex1))]) (c_X8_extend l G (y + (da ((22 + 11 * k) + 5))) (n + pe1) nh (nI_ad ey hx7) (by omega) h2 hh) yk_X8_extend E km_X8_170 dX8_lastDayOf_29 hG hE hP (At.recv hG hP.1 rfl) rfl rfl hl.1 ⟨Nat.le_of_ble_eq_true rfl, Nat.le_of_ble_eq_true rfl⟩ ⟨Nat.zero_le _, Nat.zero_le _⟩ (Nat.le_of_ble_eq_true rfl) ?_
  refine Rd.callS (rest := []) (c_X8_min l G (nI (ext da nh ex1)) (nI (ext da nh (n + pe1)))) yk_X8_min E km_X8_87 dX8_lastDayOf_32 hG hE trivial rfl rfl hl.1 ⟨Nat.le_of_ble_eq_true rfl, Nat.le_of_ble_eq_true rfl⟩ ⟨Nat.zero_le _, Nat.zero_le _⟩ (Nat.le_of_ble_eq_true rfl) ?_
  exact rd_int E hr hk (by rw [minV_nI (by omega) (by omega)]; rfl) dX8_lastDayOf_35

set_option maxHeartbeats 4000000 in
set_option maxRecDepth 100000 in
/-- isWrong(..) -/
theorem c_X8_isWrong (l : Launch) (G : CG) {B : Nat → Nat} {f bf da dr : Nat → Int32} {hi : Nat → Nat → Int32} {sk : Nat → Int64} (sh am dc ins : Int32) : Rd l yX8_isWrong cX8_isWrong 5 ((Option.some FieldType.boolean)) 2 42 G [.ref (B 0), .int sh, .int am, .int dc, .int ins] (MW G B f bf da dr hi sk) (some (.int (isWrongV sh am dc ins))) := by
  refine Rd.ofW (by decide) (Nat.le_of_ble_eq_true rfl) (fun p e s m below meth c ls E hG hE hP hr hk hl => ?_)
  have hx := E.1
  have hb := E.2.1
  have hl : lv_has ls 5 [(0, .ref (B 0)), (1, .int sh), (2, .int am), (3, .int dc), (4, .int ins)] := hl
  refine lv_iload_n hx hb dX8_isWrong_0 rfl (lv_at hl 1 rfl) ?_
  refine Rd.callS (rest := []) (c_X8_isDay l G sh) yk_X8_isDay E km_X8_173 dX8_isWrong_1 hG hE trivial rfl rfl hl.1 ⟨Nat.le_of_ble_eq_true rfl, Nat.le_of_ble_eq_true rfl⟩ ⟨Nat.zero_le _, Nat.zero_le _⟩ (Nat.le_of_ble_eq_true rfl) ?_
  refine lv_if_eq (tgt := 33) hx hb dX8_isWrong_4 (by decide) (fun c_4 => ?_) (fun c_4 => ?_)
  · refine lv_iconst (v := 1) hx hb dX8_isWrong_33 rfl ?_
    refine lv_goto (tgt := 38) hx hb dX8_isWrong_34 (by decide) ?_
    exact rd_bool E hr hk (by first | (simp only [isWrongV, c_4, ↓reduceIte, not_true_eq_false, not_false_eq_true]; done) | (simp [isWrongV, c_4]; done)) (by first | exact Or.inl rfl | exact Or.inr rfl | (omega)) dX8_isWrong_38
  · refine lv_iload_n hx hb dX8_isWrong_7 rfl (lv_at hl 2 rfl) ?_
    refine lv_iconst (v := 1) hx hb dX8_isWrong_8 rfl ?_
    refine lv_ldc (v := 1999999) hx hb E.2.2.2.1 (E.2.2.2.2 _ kk_X8_207) dX8_isWrong_9 ?_
    refine Rd.callS (rest := []) (c_X8_in l G am 1 1999999) yk_X8_in E km_X8_54 dX8_isWrong_11 hG hE trivial rfl rfl hl.1 ⟨Nat.le_of_ble_eq_true rfl, Nat.le_of_ble_eq_true rfl⟩ ⟨Nat.zero_le _, Nat.zero_le _⟩ (Nat.le_of_ble_eq_true rfl) ?_
    refine lv_if_eq (tgt := 33) hx hb dX8_isWrong_14 (by decide) (fun c_14 => ?_) (fun c_14 => ?_)
    · refine lv_iconst (v := 1) hx hb dX8_isWrong_33 rfl ?_
      refine lv_goto (tgt := 38) hx hb dX8_isWrong_34 (by decide) ?_
      exact rd_bool E hr hk (by first | (simp only [isWrongV, c_4, c_14, ↓reduceIte, not_true_eq_false, not_false_eq_true]; done) | (simp [isWrongV, c_4, c_14]; done)) (by first | exact Or.inl rfl | exact Or.inr rfl | (omega)) dX8_isWrong_38
    · refine lv_iload_n hx hb dX8_isWrong_17 rfl (lv_at hl 3 rfl) ?_
      refine lv_iconst (v := 0) hx hb dX8_isWrong_18 rfl ?_
      refine lv_sipush (v := 255) hx hb dX8_isWrong_19 rfl ?_
      refine Rd.callS (rest := []) (c_X8_in l G dc 0 255) yk_X8_in E km_X8_54 dX8_isWrong_22 hG hE trivial rfl rfl hl.1 ⟨Nat.le_of_ble_eq_true rfl, Nat.le_of_ble_eq_true rfl⟩ ⟨Nat.zero_le _, Nat.zero_le _⟩ (Nat.le_of_ble_eq_true rfl) ?_
      refine lv_if_eq (tgt := 33) hx hb dX8_isWrong_25 (by decide) (fun c_25 => ?_) (fun c_25 => ?_)
      · refine lv_iconst (v := 1) hx hb dX8_isWrong_33 rfl ?_
        refine lv_goto (tgt := 38) hx hb dX8_isWrong_34 (by decide) ?_
        exact rd_bool E hr hk (by first | (simp only [isWrongV, c_4, c_14, c_25, ↓reduceIte, not_true_eq_false, not_false_eq_true]; done) | (simp [isWrongV, c_4, c_14, c_25]; done)) (by first | exact Or.inl rfl | exact Or.inr rfl | (omega)) dX8_isWrong_38
      · refine lv_iload hx hb dX8_isWrong_28 (lv_at hl 4 rfl) ?_
        refine lv_if_ge (tgt := 37) hx hb dX8_isWrong_30 (by decide) (fun c_30 => ?_) (fun c_30 => ?_)
        · refine lv_iconst (v := 0) hx hb dX8_isWrong_37 rfl ?_
          exact rd_bool E hr hk (by first | (simp only [isWrongV, c_4, c_14, c_25, c_30, ↓reduceIte, not_true_eq_false, not_false_eq_true]; done) | (simp [isWrongV, c_4, c_14, c_25, c_30]; done)) (by first | exact Or.inl rfl | exact Or.inr rfl | (omega)) dX8_isWrong_38
        · refine lv_iconst (v := 1) hx hb dX8_isWrong_33 rfl ?_
          refine lv_goto (tgt := 38) hx hb dX8_isWrong_34 (by decide) ?_
          exact rd_bool E hr hk (by first | (simp only [isWrongV, c_4, c_14, c_25, c_30, ↓reduceIte, not_true_eq_false, not_false_eq_true]; done) | (simp [isWrongV, c_4, c_14, c_25, c_30]; done)) (by first | exact Or.inl rfl | exact Or.inr rfl | (omega)) dX8_isWrong_38

set_option maxHeartbeats 4000000 in
set_option maxRecDepth 100000 in
/-- faultsOf(..) -/
theorem c_X8_faultsOf (l : Launch) (G : CG) {B : Nat → Nat} {f bf da dr : Nat → Int32} {hi : Nat → Nat → Int32} {sk : Nat → Int64} (x y am dc ins : Int32) (k n np nc nh ex1 pe1 : Nat) (ex : x = nI k) (ey : y = nI n) (hk9 : k < 12) (hn : n < 1073700000) (h1 : da 1 = nI np) (hp0 : np ≤ 24) (h0 : da 0 = nI nc) (hc0 : nc ≤ 12) (h2 : da 2 = nI nh) (hh : nh ≤ 16) (hx9 : da (cP k + 3) = nI ex1) (hx8 : ex1 < 1000) (hx7 : da (cP k + 5) = nI pe1) (hx6 : pe1 < 1000) : Rd l yX8_faultsOf cX8_faultsOf 11 ((Option.some FieldType.int)) 4 86 G [.ref (B 0), .int x, .int y, .int am, .int dc, .int ins] (MW G B f bf da dr hi sk) (some (.int (faultsV da np nc nh ex1 pe1 k n am dc ins))) := by
  refine Rd.ofW (by decide) (Nat.le_of_ble_eq_true rfl) (fun p e s m below meth c ls E hG hE hP hr hk hl => ?_)
  have hx := E.1
  have hb := E.2.1
  have hl : lv_has ls 11 [(0, .ref (B 0)), (1, .int x), (2, .int y), (3, .int am), (4, .int dc), (5, .int ins)] := hl
  subst ex; subst ey
  refine lv_iload_n hx hb dX8_faultsOf_0 rfl (lv_at hl 1 rfl) ?_
  refine Rd.callS (rest := []) (c_X8_credit l G (nI k)) yk_X8_credit E km_X8_126 dX8_faultsOf_1 hG hE trivial rfl rfl hl.1 ⟨Nat.le_of_ble_eq_true rfl, Nat.le_of_ble_eq_true rfl⟩ ⟨Nat.zero_le _, Nat.zero_le _⟩ (Nat.le_of_ble_eq_true rfl) ?_
  refine lv_ci (y := nI (22 + 11 * k)) (ixq (nI_ad rfl (nI_mu rfl rfl))) ?_
  refine lv_istore (lv' := [(6, .int (nI (22 + 11 * k))), (0, .ref (B 0)), (1, .int (nI k)), (2, .int (nI n)), (3, .int am), (4, .int dc), (5, .int ins)]) hx hb dX8_faultsOf_4 hl (by decide) rfl (fun ls hl => ?_)
  refine lv_aload_n hx hb dX8_faultsOf_6 rfl (lv_at hl 1 rfl) ?_
  refine gf_X8_17 E hG hP.1 rfl dX8_faultsOf_7 ?_
  refine lv_iconst (v := 3) hx hb dX8_faultsOf_10 rfl ?_
  refine g_ild 3 E hG hP.2.2.1 rfl (by omega) (by decide) dX8_faultsOf_11 ?_
  refine lv_istore (lv' := [(7, .int (da 3)), (6, .int (nI (22 + 11 * k))), (0, .ref (B 0)), (1, .int (nI k)), (2, .int (nI n)), (3, .int am), (4, .int dc), (5, .int ins)]) hx hb dX8_faultsOf_12 hl (by decide) rfl (fun ls hl => ?_)
  refine lv_iconst (v := 0) hx hb dX8_faultsOf_14 rfl ?_
  refine lv_istore (lv' := [(8, .int 0), (7, .int (da 3)), (6, .int (nI (22 + 11 * k))), (0, .ref (B 0)), (1, .int (nI k)), (2, .int (nI n)), (3, .int am), (4, .int dc), (5, .int ins)]) hx hb dX8_faultsOf_15 hl (by decide) rfl (fun ls hl => ?_)
  refine lv_iconst (v := 0) hx hb dX8_faultsOf_17 rfl ?_
  refine lv_istore (lv' := [(9, .int 0), (8, .int 0), (7, .int (da 3)), (6, .int (nI (22 + 11 * k))), (0, .ref (B 0)), (1, .int (nI k)), (2, .int (nI n)), (3, .int am), (4, .int dc), (5, .int ins)]) hx hb dX8_faultsOf_18 hl (by decide) rfl (fun ls hl => ?_)
  refine lv_iconst (v := 0) hx hb dX8_faultsOf_20 rfl ?_
  refine lv_ci (y := nI 0) (ixq rfl) ?_
  refine lv_istore (lv' := [(10, .int (nI 0)), (9, .int 0), (8, .int 0), (7, .int (da 3)), (6, .int (nI (22 + 11 * k))), (0, .ref (B 0)), (1, .int (nI k)), (2, .int (nI n)), (3, .int am), (4, .int dc), (5, .int ins)]) hx hb dX8_faultsOf_21 hl (by decide) rfl (fun ls hl => ?_)
  have loop : ∀ (j k9 : Nat), (np < k9 + j) → (k9 ≤ np) → ∀ ls : Array Slot, lv_has ls 11 [(10, .int (nI k9)), (8, .int (othersV da (nI k) k9)), (9, .int 0), (7, .int (da 3)), (6, .int (nI (22 + 11 * k))), (0, .ref (B 0)), (1, .int (nI k)), (2, .int (nI n)), (3, .int am), (4, .int dc), (5, .int ins)] → W p l e { frames := 4, cells := 0, slots := 0, locals := 86 } s m ([.ref (B 0), .int (nI k), .int (nI n), .int am, .int dc, .int ins] : List Value).toArray below meth c s.heap [] 0 0 (RQ below ([.ref (B 0), .int (nI k), .int (nI n), .int am, .int dc, .int ins] : List Value).toArray s (some (.int (faultsV da np nc nh ex1 pe1 k n am dc ins)))) (F0 m 23 ls []) := by
    intro j
    induction j with
    | zero => intro k9 z1 z2; omega
    | succ j ih =>
      intro k9 z1 z2 ls hl
      refine lv_iload hx hb dX8_faultsOf_23 (lv_at hl 0 rfl) ?_
      refine lv_aload_n hx hb dX8_faultsOf_25 rfl (lv_at hl 5 rfl) ?_
      refine gf_X8_17 E hG hP.1 rfl dX8_faultsOf_26 ?_
      refine lv_iconst (v := 1) hx hb dX8_faultsOf_29 rfl ?_
      refine g_ild 1 E hG hP.2.2.1 rfl (by omega) (by decide) dX8_faultsOf_30 ?_
      refine lv_icmp_ge (tgt := 60) hx hb dX8_faultsOf_31 (by decide) (fun c_31 => ?_) (fun c_31 => ?_)
      · have c_31 : np ≤ k9 := (nLE (x := (da 1)) (y := (nI k9)) (a := np) (b := k9) h1 rfl (by omega) (by omega)).mp c_31
        have e9 : np = k9 := by omega
        subst e9
        refine lv_iload hx hb dX8_faultsOf_60 (lv_at hl 2 rfl) ?_
        refine W.cut (g := F0 m 80 ls [.int (fl1 da k (nI n)), .int 0]) (fun K => ?_) ?_
        · refine lv_iload_n hx hb dX8_faultsOf_62 rfl (lv_at hl 7 rfl) ?_
          refine lv_aload_n hx hb dX8_faultsOf_63 rfl (lv_at hl 5 rfl) ?_
          refine gf_X8_17 E hG hP.1 rfl dX8_faultsOf_64 ?_
          refine lv_iload hx hb dX8_faultsOf_67 (lv_at hl 4 rfl) ?_
          refine lv_iconst (v := 4) hx hb dX8_faultsOf_69 rfl ?_
          refine lv_iadd hx hb dX8_faultsOf_70 ?_
          refine g_ild ((22 + 11 * k) + 4) E hG hP.2.2.1 (ixq (nI_ad rfl rfl)) (by omega) (by decide) dX8_faultsOf_71 ?_
          refine lv_icmp_le (tgt := 79) hx hb dX8_faultsOf_72 (by decide) (fun c_72 => ?_) (fun c_72 => ?_)
          · refine lv_iconst (v := 0) hx hb dX8_faultsOf_79 rfl ?_
            exact W.eq (congrArg (fun z9 => F0 m 80 ls (.int z9 :: [.int 0])) (show (0 : Int32) = (fl1 da k (nI n)) by first | (simp only [fl1, c_72, ↓reduceIte, not_true_eq_false, not_false_eq_true]; done) | (simp [fl1, c_72]; done))) K
          · refine lv_iconst (v := 1) hx hb dX8_faultsOf_75 rfl ?_
            refine lv_goto (tgt := 80) hx hb dX8_faultsOf_76 (by decide) ?_
            exact W.eq (congrArg (fun z9 => F0 m 80 ls (.int z9 :: [.int 0])) (show (1 : Int32) = (fl1 da k (nI n)) by first | (simp only [fl1, c_72, ↓reduceIte, not_true_eq_false, not_false_eq_true]; done) | (simp [fl1, c_72]; done))) K
        refine lv_ior hx hb dX8_faultsOf_80 ?_
        refine lv_istore (lv' := [(9, .int (0 ||| (fl1 da k (nI n)))), (10, .int (nI np)), (8, .int (othersV da (nI k) np)), (7, .int (da 3)), (6, .int (nI (22 + 11 * k))), (0, .ref (B 0)), (1, .int (nI k)), (2, .int (nI n)), (3, .int am), (4, .int dc), (5, .int ins)]) hx hb dX8_faultsOf_81 hl (by decide) rfl (fun ls hl => ?_)
        refine lv_iload hx hb dX8_faultsOf_83 (lv_at hl 0 rfl) ?_
        refine W.cut (g := F0 m 101 ls [.int (fl2 da nh ex1 pe1 n (da 3)), .int (0 ||| (fl1 da k (nI n)))]) (fun K => ?_) ?_
        · refine lv_iload hx hb dX8_faultsOf_85 (lv_at hl 3 rfl) ?_
          refine lv_aload_n hx hb dX8_faultsOf_87 rfl (lv_at hl 5 rfl) ?_
          refine lv_iload_n hx hb dX8_faultsOf_88 rfl (lv_at hl 6 rfl) ?_
          refine lv_iload_n hx hb dX8_faultsOf_89 rfl (lv_at hl 7 rfl) ?_
          refine Rd.callV (rest := [.int (da 3), .int (0 ||| (fl1 da k (nI n)))]) (c_X8_lastDayOf l G (nI k) (nI n) k n nh ex1 pe1 rfl rfl (by omega) (by omega) h2 hh hx9 hx8 hx7 hx6) yk_X8_lastDayOf E km_X8_204 dX8_faultsOf_90 hG hE hP (At.recv hG hP.1 rfl) rfl rfl hl.1 ⟨Nat.le_of_ble_eq_true rfl, Nat.le_of_ble_eq_true rfl⟩ ⟨Nat.zero_le _, Nat.zero_le _⟩ (Nat.le_of_ble_eq_true rfl) ?_
          refine lv_icmp_le (tgt := 100) hx hb dX8_faultsOf_93 (by decide) (fun c_93 => ?_) (fun c_93 => ?_)
          · refine lv_iconst (v := 0) hx hb dX8_faultsOf_100 rfl ?_
            exact W.eq (congrArg (fun z9 => F0 m 101 ls (.int z9 :: [.int (0 ||| (fl1 da k (nI n)))])) (show (0 : Int32) = (fl2 da nh ex1 pe1 n (da 3)) by first | (simp only [fl2, c_93, ↓reduceIte, not_true_eq_false, not_false_eq_true]; done) | (simp [fl2, c_93]; done))) K
          · refine lv_iconst (v := 2) hx hb dX8_faultsOf_96 rfl ?_
            refine lv_goto (tgt := 101) hx hb dX8_faultsOf_97 (by decide) ?_
            exact W.eq (congrArg (fun z9 => F0 m 101 ls (.int z9 :: [.int (0 ||| (fl1 da k (nI n)))])) (show (2 : Int32) = (fl2 da nh ex1 pe1 n (da 3)) by first | (simp only [fl2, c_93, ↓reduceIte, not_true_eq_false, not_false_eq_true]; done) | (simp [fl2, c_93]; done))) K
        refine lv_ior hx hb dX8_faultsOf_101 ?_
        refine lv_istore (lv' := [(9, .int ((0 ||| (fl1 da k (nI n))) ||| (fl2 da nh ex1 pe1 n (da 3)))), (10, .int (nI np)), (8, .int (othersV da (nI k) np)), (7, .int (da 3)), (6, .int (nI (22 + 11 * k))), (0, .ref (B 0)), (1, .int (nI k)), (2, .int (nI n)), (3, .int am), (4, .int dc), (5, .int ins)]) hx hb dX8_faultsOf_102 hl (by decide) rfl (fun ls hl => ?_)
        refine lv_iload hx hb dX8_faultsOf_104 (lv_at hl 0 rfl) ?_
        refine W.cut (g := F0 m 120 ls [.int (fl3 da np nc k am), .int ((0 ||| (fl1 da k (nI n))) ||| (fl2 da nh ex1 pe1 n (da 3)))]) (fun K => ?_) ?_
        · refine lv_iload_n hx hb dX8_faultsOf_106 rfl (lv_at hl 8 rfl) ?_
          refine lv_aload_n hx hb dX8_faultsOf_107 rfl (lv_at hl 5 rfl) ?_
          refine lv_iload_n hx hb dX8_faultsOf_108 rfl (lv_at hl 6 rfl) ?_
          refine Rd.callV (rest := [.int am, .int ((0 ||| (fl1 da k (nI n))) ||| (fl2 da nh ex1 pe1 n (da 3)))]) (c_X8_availableOf l G (nI k) k np nc rfl (by omega) h1 hp0 h0 hc0) yk_X8_availableOf E km_X8_201 dX8_faultsOf_109 hG hE hP (At.recv hG hP.1 rfl) rfl rfl hl.1 ⟨Nat.le_of_ble_eq_true rfl, Nat.le_of_ble_eq_true rfl⟩ ⟨Nat.zero_le _, Nat.zero_le _⟩ (Nat.le_of_ble_eq_true rfl) ?_
          refine lv_icmp_le (tgt := 119) hx hb dX8_faultsOf_112 (by decide) (fun c_112 => ?_) (fun c_112 => ?_)
          · refine lv_iconst (v := 0) hx hb dX8_faultsOf_119 rfl ?_
            exact W.eq (congrArg (fun z9 => F0 m 120 ls (.int z9 :: [.int ((0 ||| (fl1 da k (nI n))) ||| (fl2 da nh ex1 pe1 n (da 3)))])) (show (0 : Int32) = (fl3 da np nc k am) by first | (simp only [fl3, c_112, ↓reduceIte, not_true_eq_false, not_false_eq_true]; done) | (simp [fl3, c_112]; done))) K
          · refine lv_iconst (v := 4) hx hb dX8_faultsOf_115 rfl ?_
            refine lv_goto (tgt := 120) hx hb dX8_faultsOf_116 (by decide) ?_
            exact W.eq (congrArg (fun z9 => F0 m 120 ls (.int z9 :: [.int ((0 ||| (fl1 da k (nI n))) ||| (fl2 da nh ex1 pe1 n (da 3)))])) (show (4 : Int32) = (fl3 da np nc k am) by first | (simp only [fl3, c_112, ↓reduceIte, not_true_eq_false, not_false_eq_true]; done) | (simp [fl3, c_112]; done))) K
        refine lv_ior hx hb dX8_faultsOf_120 ?_
        refine lv_istore (lv' := [(9, .int (((0 ||| (fl1 da k (nI n))) ||| (fl2 da nh ex1 pe1 n (da 3))) ||| (fl3 da np nc k am))), (10, .int (nI np)), (8, .int (othersV da (nI k) np)), (7, .int (da 3)), (6, .int (nI (22 + 11 * k))), (0, .ref (B 0)), (1, .int (nI k)), (2, .int (nI n)), (3, .int am), (4, .int dc), (5, .int ins)]) hx hb dX8_faultsOf_121 hl (by decide) rfl (fun ls hl => ?_)
        refine lv_iload hx hb dX8_faultsOf_123 (lv_at hl 0 rfl) ?_
        refine W.cut (g := F0 m 158 ls [.int (fl4 da np k am), .int (((0 ||| (fl1 da k (nI n))) ||| (fl2 da nh ex1 pe1 n (da 3))) ||| (fl3 da np nc k am))]) (fun K => ?_) ?_
        · refine lv_aload_n hx hb dX8_faultsOf_125 rfl (lv_at hl 5 rfl) ?_
          refine gf_X8_17 E hG hP.1 rfl dX8_faultsOf_126 ?_
          refine lv_iload hx hb dX8_faultsOf_129 (lv_at hl 4 rfl) ?_
          refine lv_bipush (v := 7) hx hb dX8_faultsOf_131 rfl ?_
          refine lv_iadd hx hb dX8_faultsOf_133 ?_
          refine g_ild ((22 + 11 * k) + 7) E hG hP.2.2.1 (ixq (nI_ad rfl rfl)) (by omega) (by decide) dX8_faultsOf_134 ?_
          refine lv_if_ne (tgt := 157) hx hb dX8_faultsOf_135 (by decide) (fun c_135 => ?_) (fun c_135 => ?_)
          · refine lv_iconst (v := 0) hx hb dX8_faultsOf_157 rfl ?_
            exact W.eq (congrArg (fun z9 => F0 m 158 ls (.int z9 :: [.int (((0 ||| (fl1 da k (nI n))) ||| (fl2 da nh ex1 pe1 n (da 3))) ||| (fl3 da np nc k am))])) (show (0 : Int32) = (fl4 da np k am) by first | (simp only [fl4, c_135, ↓reduceIte, not_true_eq_false, not_false_eq_true]; done) | (simp [fl4, c_135]; done))) K
          · refine lv_iload_n hx hb dX8_faultsOf_138 rfl (lv_at hl 8 rfl) ?_
            refine lv_aload_n hx hb dX8_faultsOf_139 rfl (lv_at hl 5 rfl) ?_
            refine lv_iload_n hx hb dX8_faultsOf_140 rfl (lv_at hl 6 rfl) ?_
            refine Rd.callV (rest := [.int am, .int (((0 ||| (fl1 da k (nI n))) ||| (fl2 da nh ex1 pe1 n (da 3))) ||| (fl3 da np nc k am))]) (c_X8_least l G (nI k) k rfl (by omega)) yk_X8_least E km_X8_185 dX8_faultsOf_141 hG hE hP (At.recv hG hP.1 rfl) rfl rfl hl.1 ⟨Nat.le_of_ble_eq_true rfl, Nat.le_of_ble_eq_true rfl⟩ ⟨Nat.zero_le _, Nat.zero_le _⟩ (Nat.le_of_ble_eq_true rfl) ?_
            refine lv_icmp_lt (tgt := 152) hx hb dX8_faultsOf_144 (by decide) (fun c_144 => ?_) (fun c_144 => ?_)
            · refine lv_bipush (v := 8) hx hb dX8_faultsOf_152 rfl ?_
              refine lv_goto (tgt := 158) hx hb dX8_faultsOf_154 (by decide) ?_
              exact W.eq (congrArg (fun z9 => F0 m 158 ls (.int z9 :: [.int (((0 ||| (fl1 da k (nI n))) ||| (fl2 da nh ex1 pe1 n (da 3))) ||| (fl3 da np nc k am))])) (show (8 : Int32) = (fl4 da np k am) by first | (simp only [fl4, c_135, c_144, ↓reduceIte, not_true_eq_false, not_false_eq_true]; done) | (simp [fl4, c_135, c_144]; done))) K
            · refine lv_iload hx hb dX8_faultsOf_147 (lv_at hl 2 rfl) ?_
              refine lv_if_le (tgt := 157) hx hb dX8_faultsOf_149 (by decide) (fun c_149 => ?_) (fun c_149 => ?_)
              · refine lv_iconst (v := 0) hx hb dX8_faultsOf_157 rfl ?_
                exact W.eq (congrArg (fun z9 => F0 m 158 ls (.int z9 :: [.int (((0 ||| (fl1 da k (nI n))) ||| (fl2 da nh ex1 pe1 n (da 3))) ||| (fl3 da np nc k am))])) (show (0 : Int32) = (fl4 da np k am) by first | (simp only [fl4, c_135, c_144, c_149, ↓reduceIte, not_true_eq_false, not_false_eq_true]; done) | (simp [fl4, c_135, c_144, c_149]; done))) K
              · refine lv_bipush (v := 8) hx hb dX8_faultsOf_152 rfl ?_
                refine lv_goto (tgt := 158) hx hb dX8_faultsOf_154 (by decide) ?_
                exact W.eq (congrArg (fun z9 => F0 m 158 ls (.int z9 :: [.int (((0 ||| (fl1 da k (nI n))) ||| (fl2 da nh ex1 pe1 n (da 3))) ||| (fl3 da np nc k am))])) (show (8 : Int32) = (fl4 da np k am) by first | (simp only [fl4, c_135, c_144, c_149, ↓reduceIte, not_true_eq_false, not_false_eq_true]; done) | (simp [fl4, c_135, c_144, c_149]; done))) K
        refine lv_ior hx hb dX8_faultsOf_158 ?_
        refine lv_istore (lv' := [(9, .int ((((0 ||| (fl1 da k (nI n))) ||| (fl2 da nh ex1 pe1 n (da 3))) ||| (fl3 da np nc k am)) ||| (fl4 da np k am))), (10, .int (nI np)), (8, .int (othersV da (nI k) np)), (7, .int (da 3)), (6, .int (nI (22 + 11 * k))), (0, .ref (B 0)), (1, .int (nI k)), (2, .int (nI n)), (3, .int am), (4, .int dc), (5, .int ins)]) hx hb dX8_faultsOf_159 hl (by decide) rfl (fun ls hl => ?_)
        refine lv_iload hx hb dX8_faultsOf_161 (lv_at hl 0 rfl) ?_
        refine W.cut (g := F0 m 187 ls [.int (fl5 da k dc), .int ((((0 ||| (fl1 da k (nI n))) ||| (fl2 da nh ex1 pe1 n (da 3))) ||| (fl3 da np nc k am)) ||| (fl4 da np k am))]) (fun K => ?_) ?_
        · refine lv_aload_n hx hb dX8_faultsOf_163 rfl (lv_at hl 5 rfl) ?_
          refine gf_X8_17 E hG hP.1 rfl dX8_faultsOf_164 ?_
          refine lv_iload hx hb dX8_faultsOf_167 (lv_at hl 4 rfl) ?_
          refine lv_bipush (v := 9) hx hb dX8_faultsOf_169 rfl ?_
          refine lv_iadd hx hb dX8_faultsOf_171 ?_
          refine g_ild ((22 + 11 * k) + 9) E hG hP.2.2.1 (ixq (nI_ad rfl rfl)) (by omega) (by decide) dX8_faultsOf_172 ?_
          refine lv_iload hx hb dX8_faultsOf_173 (lv_at hl 9 rfl) ?_
          refine lv_iconst (v := (-1)) hx hb dX8_faultsOf_175 rfl ?_
          refine lv_ixor hx hb dX8_faultsOf_176 ?_
          refine lv_iand hx hb dX8_faultsOf_177 ?_
          refine lv_if_eq (tgt := 186) hx hb dX8_faultsOf_178 (by decide) (fun c_178 => ?_) (fun c_178 => ?_)
          · refine lv_iconst (v := 0) hx hb dX8_faultsOf_186 rfl ?_
            exact W.eq (congrArg (fun z9 => F0 m 187 ls (.int z9 :: [.int ((((0 ||| (fl1 da k (nI n))) ||| (fl2 da nh ex1 pe1 n (da 3))) ||| (fl3 da np nc k am)) ||| (fl4 da np k am))])) (show (0 : Int32) = (fl5 da k dc) by first | (simp only [fl5, c_178, ↓reduceIte, not_true_eq_false, not_false_eq_true]; done) | (simp [fl5, c_178]; done))) K
          · refine lv_bipush (v := 16) hx hb dX8_faultsOf_181 rfl ?_
            refine lv_goto (tgt := 187) hx hb dX8_faultsOf_183 (by decide) ?_
            exact W.eq (congrArg (fun z9 => F0 m 187 ls (.int z9 :: [.int ((((0 ||| (fl1 da k (nI n))) ||| (fl2 da nh ex1 pe1 n (da 3))) ||| (fl3 da np nc k am)) ||| (fl4 da np k am))])) (show (16 : Int32) = (fl5 da k dc) by first | (simp only [fl5, c_178, ↓reduceIte, not_true_eq_false, not_false_eq_true]; done) | (simp [fl5, c_178]; done))) K
        refine lv_ior hx hb dX8_faultsOf_187 ?_
        refine lv_istore (lv' := [(9, .int (((((0 ||| (fl1 da k (nI n))) ||| (fl2 da nh ex1 pe1 n (da 3))) ||| (fl3 da np nc k am)) ||| (fl4 da np k am)) ||| (fl5 da k dc))), (10, .int (nI np)), (8, .int (othersV da (nI k) np)), (7, .int (da 3)), (6, .int (nI (22 + 11 * k))), (0, .ref (B 0)), (1, .int (nI k)), (2, .int (nI n)), (3, .int am), (4, .int dc), (5, .int ins)]) hx hb dX8_faultsOf_188 hl (by decide) rfl (fun ls hl => ?_)
        refine lv_iload hx hb dX8_faultsOf_190 (lv_at hl 0 rfl) ?_
        refine W.cut (g := F0 m 228 ls [.int (fl6 da k am ins), .int (((((0 ||| (fl1 da k (nI n))) ||| (fl2 da nh ex1 pe1 n (da 3))) ||| (fl3 da np nc k am)) ||| (fl4 da np k am)) ||| (fl5 da k dc))]) (fun K => ?_) ?_
        · refine lv_aload_n hx hb dX8_faultsOf_192 rfl (lv_at hl 5 rfl) ?_
          refine gf_X8_17 E hG hP.1 rfl dX8_faultsOf_193 ?_
          refine lv_iload hx hb dX8_faultsOf_196 (lv_at hl 4 rfl) ?_
          refine lv_bipush (v := 9) hx hb dX8_faultsOf_198 rfl ?_
          refine lv_iadd hx hb dX8_faultsOf_200 ?_
          refine g_ild ((22 + 11 * k) + 9) E hG hP.2.2.1 (ixq (nI_ad rfl rfl)) (by omega) (by decide) dX8_faultsOf_201 ?_
          refine lv_bipush (v := 7) hx hb dX8_faultsOf_202 rfl ?_
          refine lv_ishr hx hb dX8_faultsOf_204 ?_
          refine lv_iconst (v := 1) hx hb dX8_faultsOf_205 rfl ?_
          refine lv_iand hx hb dX8_faultsOf_206 ?_
          refine lv_iconst (v := 1) hx hb dX8_faultsOf_207 rfl ?_
          refine lv_icmp_ne (tgt := 227) hx hb dX8_faultsOf_208 (by decide) (fun c_208 => ?_) (fun c_208 => ?_)
          · refine lv_iconst (v := 0) hx hb dX8_faultsOf_227 rfl ?_
            exact W.eq (congrArg (fun z9 => F0 m 228 ls (.int z9 :: [.int (((((0 ||| (fl1 da k (nI n))) ||| (fl2 da nh ex1 pe1 n (da 3))) ||| (fl3 da np nc k am)) ||| (fl4 da np k am)) ||| (fl5 da k dc))])) (show (0 : Int32) = (fl6 da k am ins) by first | (simp only [fl6, c_208, ↓reduceIte, not_true_eq_false, not_false_eq_true]; done) | (simp [fl6, c_208]; done))) K
          · refine lv_iload hx hb dX8_faultsOf_211 (lv_at hl 10 rfl) ?_
            refine lv_iload_n hx hb dX8_faultsOf_213 rfl (lv_at hl 8 rfl) ?_
            refine lv_iload_n hx hb dX8_faultsOf_214 rfl (lv_at hl 8 rfl) ?_
            refine lv_bipush (v := 10) hx hb dX8_faultsOf_215 rfl ?_
            refine lv_idiv hx hb dX8_faultsOf_217 (by decide) ?_
            refine lv_iadd hx hb dX8_faultsOf_218 ?_
            refine lv_icmp_ge (tgt := 227) hx hb dX8_faultsOf_219 (by decide) (fun c_219 => ?_) (fun c_219 => ?_)
            · refine lv_iconst (v := 0) hx hb dX8_faultsOf_227 rfl ?_
              exact W.eq (congrArg (fun z9 => F0 m 228 ls (.int z9 :: [.int (((((0 ||| (fl1 da k (nI n))) ||| (fl2 da nh ex1 pe1 n (da 3))) ||| (fl3 da np nc k am)) ||| (fl4 da np k am)) ||| (fl5 da k dc))])) (show (0 : Int32) = (fl6 da k am ins) by first | (simp only [fl6, c_208, c_219, ↓reduceIte, not_true_eq_false, not_false_eq_true]; done) | (simp [fl6, c_208, c_219]; done))) K
            · refine lv_bipush (v := 32) hx hb dX8_faultsOf_222 rfl ?_
              refine lv_goto (tgt := 228) hx hb dX8_faultsOf_224 (by decide) ?_
              exact W.eq (congrArg (fun z9 => F0 m 228 ls (.int z9 :: [.int (((((0 ||| (fl1 da k (nI n))) ||| (fl2 da nh ex1 pe1 n (da 3))) ||| (fl3 da np nc k am)) ||| (fl4 da np k am)) ||| (fl5 da k dc))])) (show (32 : Int32) = (fl6 da k am ins) by first | (simp only [fl6, c_208, c_219, ↓reduceIte, not_true_eq_false, not_false_eq_true]; done) | (simp [fl6, c_208, c_219]; done))) K
        refine lv_ior hx hb dX8_faultsOf_228 ?_
        refine lv_istore (lv' := [(9, .int ((((((0 ||| (fl1 da k (nI n))) ||| (fl2 da nh ex1 pe1 n (da 3))) ||| (fl3 da np nc k am)) ||| (fl4 da np k am)) ||| (fl5 da k dc)) ||| (fl6 da k am ins))), (10, .int (nI np)), (8, .int (othersV da (nI k) np)), (7, .int (da 3)), (6, .int (nI (22 + 11 * k))), (0, .ref (B 0)), (1, .int (nI k)), (2, .int (nI n)), (3, .int am), (4, .int dc), (5, .int ins)]) hx hb dX8_faultsOf_229 hl (by decide) rfl (fun ls hl => ?_)
        refine lv_iload hx hb dX8_faultsOf_231 (lv_at hl 0 rfl) ?_
        refine W.cut (g := F0 m 245 ls [.int (fl7 (nI n) (da 3)), .int ((((((0 ||| (fl1 da k (nI n))) ||| (fl2 da nh ex1 pe1 n (da 3))) ||| (fl3 da np nc k am)) ||| (fl4 da np k am)) ||| (fl5 da k dc)) ||| (fl6 da k am ins))]) (fun K => ?_) ?_
        · refine lv_iload_n hx hb dX8_faultsOf_233 rfl (lv_at hl 7 rfl) ?_
          refine lv_iload hx hb dX8_faultsOf_234 (lv_at hl 3 rfl) ?_
          refine lv_icmp_le (tgt := 244) hx hb dX8_faultsOf_236 (by decide) (fun c_236 => ?_) (fun c_236 => ?_)
          · refine lv_iconst (v := 0) hx hb dX8_faultsOf_244 rfl ?_
            exact W.eq (congrArg (fun z9 => F0 m 245 ls (.int z9 :: [.int ((((((0 ||| (fl1 da k (nI n))) ||| (fl2 da nh ex1 pe1 n (da 3))) ||| (fl3 da np nc k am)) ||| (fl4 da np k am)) ||| (fl5 da k dc)) ||| (fl6 da k am ins))])) (show (0 : Int32) = (fl7 (nI n) (da 3)) by first | (simp only [fl7, c_236, ↓reduceIte, not_true_eq_false, not_false_eq_true]; done) | (simp [fl7, c_236]; done))) K
          · refine lv_bipush (v := 64) hx hb dX8_faultsOf_239 rfl ?_
            refine lv_goto (tgt := 245) hx hb dX8_faultsOf_241 (by decide) ?_
            exact W.eq (congrArg (fun z9 => F0 m 245 ls (.int z9 :: [.int ((((((0 ||| (fl1 da k (nI n))) ||| (fl2 da nh ex1 pe1 n (da 3))) ||| (fl3 da np nc k am)) ||| (fl4 da np k am)) ||| (fl5 da k dc)) ||| (fl6 da k am ins))])) (show (64 : Int32) = (fl7 (nI n) (da 3)) by first | (simp only [fl7, c_236, ↓reduceIte, not_true_eq_false, not_false_eq_true]; done) | (simp [fl7, c_236]; done))) K
        refine lv_ior hx hb dX8_faultsOf_245 ?_
        exact rd_int E hr hk (rfl) dX8_faultsOf_246
      · have c_31 : ¬ np ≤ k9 := fun z9 => c_31 ((nLE (x := (da 1)) (y := (nI k9)) (a := np) (b := k9) h1 rfl (by omega) (by omega)).mpr z9)
        refine lv_iload hx hb dX8_faultsOf_34 (lv_at hl 1 rfl) ?_
        refine W.cut (g := F0 m 51 ls [.int (othT da (nI k) k9), .int (othersV da (nI k) k9)]) (fun K => ?_) ?_
        · refine lv_aload_n hx hb dX8_faultsOf_36 rfl (lv_at hl 5 rfl) ?_
          refine lv_iload hx hb dX8_faultsOf_37 (lv_at hl 0 rfl) ?_
          refine lv_iload_n hx hb dX8_faultsOf_39 rfl (lv_at hl 6 rfl) ?_
          refine Rd.callV (rest := [.int (othersV da (nI k) k9)]) (c_X8_stands l G (nI k9) (nI k) k9 rfl (by omega)) yk_X8_stands E km_X8_191 dX8_faultsOf_40 hG hE hP (At.recv hG hP.1 rfl) rfl rfl hl.1 ⟨Nat.le_of_ble_eq_true rfl, Nat.le_of_ble_eq_true rfl⟩ ⟨Nat.zero_le _, Nat.zero_le _⟩ (Nat.le_of_ble_eq_true rfl) ?_
          refine lv_if_eq (tgt := 50) hx hb dX8_faultsOf_43 (by decide) (fun c_43 => ?_) (fun c_43 => ?_)
          · refine lv_iconst (v := 0) hx hb dX8_faultsOf_50 rfl ?_
            exact W.eq (congrArg (fun z9 => F0 m 51 ls (.int z9 :: [.int (othersV da (nI k) k9)])) (show (0 : Int32) = (othT da (nI k) k9) by first | (simp only [othT, c_43, ↓reduceIte, not_true_eq_false, not_false_eq_true]; done) | (simp [othT, c_43]; done))) K
          · refine lv_iconst (v := 1) hx hb dX8_faultsOf_46 rfl ?_
            refine lv_goto (tgt := 51) hx hb dX8_faultsOf_47 (by decide) ?_
            exact W.eq (congrArg (fun z9 => F0 m 51 ls (.int z9 :: [.int (othersV da (nI k) k9)])) (show (1 : Int32) = (othT da (nI k) k9) by first | (simp only [othT, c_43, ↓reduceIte, not_true_eq_false, not_false_eq_true]; done) | (simp [othT, c_43]; done))) K
        refine lv_iadd hx hb dX8_faultsOf_51 ?_
        refine lv_istore (lv' := [(8, .int ((othersV da (nI k) k9) + (othT da (nI k) k9))), (10, .int (nI k9)), (9, .int 0), (7, .int (da 3)), (6, .int (nI (22 + 11 * k))), (0, .ref (B 0)), (1, .int (nI k)), (2, .int (nI n)), (3, .int am), (4, .int dc), (5, .int ins)]) hx hb dX8_faultsOf_52 hl (by decide) rfl (fun ls hl => ?_)
        refine lv_iinc (v := (nI (k9 + 1))) (lv' := [(10, .int (nI (k9 + 1))), (8, .int ((othersV da (nI k) k9) + (othT da (nI k) k9))), (9, .int 0), (7, .int (da 3)), (6, .int (nI (22 + 11 * k))), (0, .ref (B 0)), (1, .int (nI k)), (2, .int (nI n)), (3, .int am), (4, .int dc), (5, .int ins)]) hx hb dX8_faultsOf_54 hl (k := 1) rfl (nI_ad rfl rfl) (by decide) rfl (fun ls hl => ?_)
        refine lv_goto (tgt := 23) hx hb dX8_faultsOf_57 (by decide) ?_
        exact ih (k9 + 1) (by omega) (by omega) ls (lv_sub hl [0, 1, 2, 3, 4, 5, 6, 7, 8, 9, 10] rfl)
  exact loop (np + 1) 0 (by omega) (by omega) ls (lv_sub hl [0, 2, 1, 3, 4, 5, 6, 7, 8, 9, 10] rfl)

set_option maxHeartbeats 4000000 in
set_option maxRecDepth 100000 in
/-- deadlineOf(p) -/
theorem c_X8_deadlineOf (l : Launch) (G : CG) {B : Nat → Nat} {f bf da dr : Nat → Int32} {hi : Nat → Nat → Int32} {sk : Nat → Int64} (x : Int32) (k dy nh : Nat) (ex : x = nI k) (hk9 : k < 24) (hd1 : da (pP k + 1) = nI dy) (hd2 : dy < 1073000000) (h2 : da 2 = nI nh) (hh : nh ≤ 16) : Rd l yX8_deadlineOf cX8_deadlineOf 2 ((Option.some FieldType.int)) 3 68 G [.ref (B 0), .int x] (MW G B f bf da dr hi sk) (some (.int (nI (addB da nh 5 dy)))) := by
  refine Rd.ofW (by decide) (Nat.le_of_ble_eq_true rfl) (fun p e s m below meth c ls E hG hE hP hr hk hl => ?_)
  have hx := E.1
  have hb := E.2.1
  have hl : lv_has ls 2 [(0, .ref (B 0)), (1, .int x)] := hl
  refine lv_aload_n hx hb dX8_deadlineOf_0 rfl (lv_at hl 0 rfl) ?_
  refine lv_aload_n hx hb dX8_deadlineOf_1 rfl (lv_at hl 0 rfl) ?_
  refine gf_X8_17 E hG hP.1 rfl dX8_deadlineOf_2 ?_
  refine lv_iload_n hx hb dX8_deadlineOf_5 rfl (lv_at hl 1 rfl) ?_
  refine Rd.callS (rest := [.ref (B 2), .ref (B 0)]) (c_X8_presentation l G x) yk_X8_presentation E km_X8_188 dX8_deadlineOf_6 hG hE trivial rfl rfl hl.1 ⟨Nat.le_of_ble_eq_true rfl, Nat.le_of_ble_eq_true rfl⟩ ⟨Nat.zero_le _, Nat.zero_le _⟩ (Nat.le_of_ble_eq_true rfl) ?_
  refine lv_iconst (v := 1) hx hb dX8_deadlineOf_9 rfl ?_
  refine lv_iadd hx hb dX8_deadlineOf_10 ?_
  refine g_ild ((154 + 6 * k) + 1) E hG hP.2.2.1 (ixq (nI_ad (nI_ad rfl (nI_mu rfl ex)) rfl)) (by omega) (by decide) dX8_deadlineOf_11 ?_
  refine lv_iconst (v := 5) hx hb dX8_deadlineOf_12 rfl ?_
  refine Rd.callV (rest := []) (c_X8_add l G (da ((154 + 6 * k) + 1)) 5 dy 5 nh hd1 rfl (by omega) h2 hh) yk_X8_add E km_X8_176 dX8_deadlineOf_13 hG hE hP (At.recv hG hP.1 rfl) rfl rfl hl.1 ⟨Nat.le_of_ble_eq_true rfl, Nat.le_of_ble_eq_true rfl⟩ ⟨Nat.zero_le _, Nat.zero_le _⟩ (Nat.le_of_ble_eq_true rfl) ?_
  exact rd_int E hr hk (rfl) dX8_deadlineOf_16

set_option maxHeartbeats 4000000 in
set_option maxRecDepth 100000 in
/-- dueOf(p) -/
theorem c_X8_dueOf (l : Launch) (G : CG) {B : Nat → Nat} {f bf da dr : Nat → Int32} {hi : Nat → Nat → Int32} {sk : Nat → Int64} (x : Int32) (k nh : Nat) (ex : x = nI k) (hk9 : k < 24) (cr si te : Nat) (hd1 : da (pP k) = nI cr) (hd2 : cr < 12) (hd3 : da (pP k + 5) = nI si) (hd4 : si < 1000000) (hd5 : da (cP cr + 6) = nI te) (hd6 : te < 1000) (h2 : da 2 = nI nh) (hh : nh ≤ 16) : Rd l yX8_dueOf cX8_dueOf 3 ((Option.some FieldType.int)) 2 44 G [.ref (B 0), .int x] (MW G B f bf da dr hi sk) (some (.int (dueV da nh k si te))) := by
  refine Rd.ofW (by decide) (Nat.le_of_ble_eq_true rfl) (fun p e s m below meth c ls E hG hE hP hr hk hl => ?_)
  have hx := E.1
  have hb := E.2.1
  have hl : lv_has ls 3 [(0, .ref (B 0)), (1, .int x)] := hl
  refine lv_iload_n hx hb dX8_dueOf_0 rfl (lv_at hl 1 rfl) ?_
  refine Rd.callS (rest := []) (c_X8_presentation l G x) yk_X8_presentation E km_X8_188 dX8_dueOf_1 hG hE trivial rfl rfl hl.1 ⟨Nat.le_of_ble_eq_true rfl, Nat.le_of_ble_eq_true rfl⟩ ⟨Nat.zero_le _, Nat.zero_le _⟩ (Nat.le_of_ble_eq_true rfl) ?_
  refine lv_ci (y := nI (154 + 6 * k)) (ixq (nI_ad rfl (nI_mu rfl ex))) ?_
  refine lv_istore_n (lv' := [(2, .int (nI (154 + 6 * k))), (0, .ref (B 0)), (1, .int x)]) hx hb dX8_dueOf_4 rfl hl (by decide) rfl (fun ls hl => ?_)
  refine lv_aload_n hx hb dX8_dueOf_5 rfl (lv_at hl 1 rfl) ?_
  refine gf_X8_17 E hG hP.1 rfl dX8_dueOf_6 ?_
  refine lv_iload_n hx hb dX8_dueOf_9 rfl (lv_at hl 0 rfl) ?_
  refine lv_iconst (v := 4) hx hb dX8_dueOf_10 rfl ?_
  refine lv_iadd hx hb dX8_dueOf_11 ?_
  refine g_ild ((154 + 6 * k) + 4) E hG hP.2.2.1 (ixq (nI_ad rfl rfl)) (by omega) (by decide) dX8_dueOf_12 ?_
  refine lv_iconst (v := 2) hx hb dX8_dueOf_13 rfl ?_
  refine lv_icmp_ne (tgt := 50) hx hb dX8_dueOf_14 (by decide) (fun c_14 => ?_) (fun c_14 => ?_)
  · refine lv_iconst (v := (-1)) hx hb dX8_dueOf_50 rfl ?_
    exact rd_int E hr hk (by first | (simp only [dueV, c_14, ↓reduceIte, not_true_eq_false, not_false_eq_true]; done) | (simp [dueV, c_14]; done)) dX8_dueOf_51
  · refine lv_aload_n hx hb dX8_dueOf_17 rfl (lv_at hl 1 rfl) ?_
    refine lv_aload_n hx hb dX8_dueOf_18 rfl (lv_at hl 1 rfl) ?_
    refine gf_X8_17 E hG hP.1 rfl dX8_dueOf_19 ?_
    refine lv_iload_n hx hb dX8_dueOf_22 rfl (lv_at hl 0 rfl) ?_
    refine lv_iconst (v := 5) hx hb dX8_dueOf_23 rfl ?_
    refine lv_iadd hx hb dX8_dueOf_24 ?_
    refine g_ild ((154 + 6 * k) + 5) E hG hP.2.2.1 (ixq (nI_ad rfl rfl)) (by omega) (by decide) dX8_dueOf_25 ?_
    refine lv_aload_n hx hb dX8_dueOf_26 rfl (lv_at hl 1 rfl) ?_
    refine gf_X8_17 E hG hP.1 rfl dX8_dueOf_27 ?_
    refine lv_aload_n hx hb dX8_dueOf_30 rfl (lv_at hl 1 rfl) ?_
    refine gf_X8_17 E hG hP.1 rfl dX8_dueOf_31 ?_
    refine lv_iload_n hx hb dX8_dueOf_34 rfl (lv_at hl 0 rfl) ?_
    refine g_ild (154 + 6 * k) E hG hP.2.2.1 rfl (by omega) (by decide) dX8_dueOf_35 ?_
    refine Rd.callS (rest := [.ref (B 2), .int (da ((154 + 6 * k) + 5)), .ref (B 0)]) (c_X8_credit l G (da (154 + 6 * k))) yk_X8_credit E km_X8_126 dX8_dueOf_36 hG hE trivial rfl rfl hl.1 ⟨Nat.le_of_ble_eq_true rfl, Nat.le_of_ble_eq_true rfl⟩ ⟨Nat.zero_le _, Nat.zero_le _⟩ (Nat.le_of_ble_eq_true rfl) ?_
    refine lv_bipush (v := 6) hx hb dX8_dueOf_39 rfl ?_
    refine lv_iadd hx hb dX8_dueOf_41 ?_
    refine g_ild ((22 + 11 * cr) + 6) E hG hP.2.2.1 (ixq (nI_ad (nI_ad rfl (nI_mu rfl hd1)) rfl)) (by omega) (by decide) dX8_dueOf_42 ?_
    refine lv_iadd hx hb dX8_dueOf_43 ?_
    refine Rd.callV (rest := []) (c_X8_extend l G ((da ((154 + 6 * k) + 5)) + (da ((22 + 11 * cr) + 6))) (si + te) nh (nI_ad hd3 hd5) (by omega) h2 hh) yk_X8_extend E km_X8_170 dX8_dueOf_44 hG hE hP (At.recv hG hP.1 rfl) rfl rfl hl.1 ⟨Nat.le_of_ble_eq_true rfl, Nat.le_of_ble_eq_true rfl⟩ ⟨Nat.zero_le _, Nat.zero_le _⟩ (Nat.le_of_ble_eq_true rfl) ?_
    refine lv_goto (tgt := 51) hx hb dX8_dueOf_47 (by decide) ?_
    exact rd_int E hr hk (by first | (simp only [dueV, c_14, ↓reduceIte, not_true_eq_false, not_false_eq_true]; done) | (simp [dueV, c_14]; done)) dX8_dueOf_51

set_option maxHeartbeats 4000000 in
set_option maxRecDepth 100000 in
/-- limited(z) -/
theorem c_X8_limited (l : Launch) (G : CG) (z : Int64) : Rd l yX8_limited cX8_limited 2 ((Option.some FieldType.long)) 0 0 G [.long z] (fun _ => True) (some (.long (limV z))) := by
  refine Rd.ofW (by decide) (Nat.le_of_ble_eq_true rfl) (fun p e s m below meth c ls E hG hE hP hr hk hl => ?_)
  have hx := E.1
  have hb := E.2.1
  have hl : lv_has ls 2 [(0, .long z)] := hl
  refine lv_lload_n hx hb dX8_limited_0 rfl (lv_at hl 0 rfl) ?_
  refine lv_ldc2 (v := 100000000) hx hb E.2.2.2.1 (E.2.2.2.2 _ kk_X8_225) dX8_limited_1 ?_
  refine W.lcmp hx hb dX8_limited_4 ?_
  refine lv_if_le (tgt := 14) hx hb dX8_limited_5 (by decide) (fun c_5 => ?_) (fun c_5 => ?_)
  · refine lv_lload_n hx hb dX8_limited_14 rfl (lv_at hl 0 rfl) ?_
    refine lv_ldc2 (v := (-100000000)) hx hb E.2.2.2.1 (E.2.2.2.2 _ kk_X8_227) dX8_limited_15 ?_
    refine W.lcmp hx hb dX8_limited_18 ?_
    refine lv_if_ge (tgt := 28) hx hb dX8_limited_19 (by decide) (fun c_19 => ?_) (fun c_19 => ?_)
    · refine lv_lload_n hx hb dX8_limited_28 rfl (lv_at hl 0 rfl) ?_
      exact rd_long E hr hk (by first | (simp only [limV, c_5, c_19, ↓reduceIte, not_true_eq_false, not_false_eq_true]; done) | (simp [limV, c_5, c_19]; done)) dX8_limited_29
    · refine lv_ldc2 (v := (-100000000)) hx hb E.2.2.2.1 (E.2.2.2.2 _ kk_X8_227) dX8_limited_22 ?_
      refine lv_goto (tgt := 29) hx hb dX8_limited_25 (by decide) ?_
      exact rd_long E hr hk (by first | (simp only [limV, c_5, c_19, ↓reduceIte, not_true_eq_false, not_false_eq_true]; done) | (simp [limV, c_5, c_19]; done)) dX8_limited_29
  · refine lv_ldc2 (v := 100000000) hx hb E.2.2.2.1 (E.2.2.2.2 _ kk_X8_225) dX8_limited_8 ?_
    refine lv_goto (tgt := 29) hx hb dX8_limited_11 (by decide) ?_
    exact rd_long E hr hk (by first | (simp only [limV, c_5, ↓reduceIte, not_true_eq_false, not_false_eq_true]; done) | (simp [limV, c_5]; done)) dX8_limited_29

set_option maxHeartbeats 4000000 in
set_option maxRecDepth 100000 in
/-- operate(o, z, y) -/
theorem c_X8_operate (l : Launch) (G : CG) (o : Int32) (z y : Int64) : Rd l yX8_operate cX8_operate 5 ((Option.some FieldType.long)) 1 21 G [.int o, .long z, .long y] (fun _ => True) (some (.long (operV o z y))) := by
  refine Rd.ofW (by decide) (Nat.le_of_ble_eq_true rfl) (fun p e s m below meth c ls E hG hE hP hr hk hl => ?_)
  have hx := E.1
  have hb := E.2.1
  have hl : lv_has ls 5 [(0, .int o), (1, .long z), (3, .long y)] := hl
  refine lv_iload_n hx hb dX8_operate_0 rfl (lv_at hl 0 rfl) ?_
  refine lv_iconst (v := 5) hx hb dX8_operate_1 rfl ?_
  refine lv_icmp_ne (tgt := 19) hx hb dX8_operate_2 (by decide) (fun c_2 => ?_) (fun c_2 => ?_)
  · refine lv_iload_n hx hb dX8_operate_19 rfl (lv_at hl 0 rfl) ?_
    refine lv_iconst (v := 2) hx hb dX8_operate_20 rfl ?_
    refine lv_icmp_ne (tgt := 30) hx hb dX8_operate_21 (by decide) (fun c_21 => ?_) (fun c_21 => ?_)
    · refine lv_iload_n hx hb dX8_operate_30 rfl (lv_at hl 0 rfl) ?_
      refine lv_iconst (v := 3) hx hb dX8_operate_31 rfl ?_
      refine lv_icmp_ne (tgt := 41) hx hb dX8_operate_32 (by decide) (fun c_32 => ?_) (fun c_32 => ?_)
      · refine lv_lload_n hx hb dX8_operate_41 rfl (lv_at hl 1 rfl) ?_
        refine lv_lload_n hx hb dX8_operate_42 rfl (lv_at hl 2 rfl) ?_
        refine lv_lmul hx hb dX8_operate_43 ?_
        refine Rd.callS (rest := []) (c_X8_limited l G (z * y)) yk_X8_limited E km_X8_229 dX8_operate_44 hG hE trivial rfl rfl hl.1 ⟨Nat.le_of_ble_eq_true rfl, Nat.le_of_ble_eq_true rfl⟩ ⟨Nat.zero_le _, Nat.zero_le _⟩ (Nat.le_of_ble_eq_true rfl) ?_
        exact rd_long E hr hk (by first | (simp only [operV, c_2, c_21, c_32, ↓reduceIte, not_true_eq_false, not_false_eq_true]; done) | (simp [operV, c_2, c_21, c_32]; done)) dX8_operate_47
      · refine lv_lload_n hx hb dX8_operate_35 rfl (lv_at hl 1 rfl) ?_
        refine lv_lload_n hx hb dX8_operate_36 rfl (lv_at hl 2 rfl) ?_
        refine lv_lsub hx hb dX8_operate_37 ?_
        refine lv_goto (tgt := 44) hx hb dX8_operate_38 (by decide) ?_
        refine Rd.callS (rest := []) (c_X8_limited l G (z - y)) yk_X8_limited E km_X8_229 dX8_operate_44 hG hE trivial rfl rfl hl.1 ⟨Nat.le_of_ble_eq_true rfl, Nat.le_of_ble_eq_true rfl⟩ ⟨Nat.zero_le _, Nat.zero_le _⟩ (Nat.le_of_ble_eq_true rfl) ?_
        exact rd_long E hr hk (by first | (simp only [operV, c_2, c_21, c_32, ↓reduceIte, not_true_eq_false, not_false_eq_true]; done) | (simp [operV, c_2, c_21, c_32]; done)) dX8_operate_47
    · refine lv_lload_n hx hb dX8_operate_24 rfl (lv_at hl 1 rfl) ?_
      refine lv_lload_n hx hb dX8_operate_25 rfl (lv_at hl 2 rfl) ?_
      refine lv_ladd hx hb dX8_operate_26 ?_
      refine lv_goto (tgt := 44) hx hb dX8_operate_27 (by decide) ?_
      refine Rd.callS (rest := []) (c_X8_limited l G (z + y)) yk_X8_limited E km_X8_229 dX8_operate_44 hG hE trivial rfl rfl hl.1 ⟨Nat.le_of_ble_eq_true rfl, Nat.le_of_ble_eq_true rfl⟩ ⟨Nat.zero_le _, Nat.zero_le _⟩ (Nat.le_of_ble_eq_true rfl) ?_
      exact rd_long E hr hk (by first | (simp only [operV, c_2, c_21, ↓reduceIte, not_true_eq_false, not_false_eq_true]; done) | (simp [operV, c_2, c_21]; done)) dX8_operate_47
  · refine lv_lload_n hx hb dX8_operate_5 rfl (lv_at hl 2 rfl) ?_
    refine lv_lconst (v := 0) hx hb dX8_operate_6 rfl ?_
    refine W.lcmp hx hb dX8_operate_7 ?_
    refine lv_if_ne (tgt := 15) hx hb dX8_operate_8 (by decide) (fun c_8 => ?_) (fun c_8 => ?_)
    · refine lv_lload_n hx hb dX8_operate_15 rfl (lv_at hl 1 rfl) ?_
      refine lv_lload_n hx hb dX8_operate_16 rfl (lv_at hl 2 rfl) ?_
      refine lv_ldiv hx hb dX8_operate_17 (fun z9 => c_8 (by rw [z9]; rfl)) ?_
      exact rd_long E hr hk (by first | (simp only [operV, c_2, c_8, ↓reduceIte, not_true_eq_false, not_false_eq_true]; done) | (simp [operV, c_2, c_8]; done)) dX8_operate_18
    · refine lv_lconst (v := 0) hx hb dX8_operate_11 rfl ?_
      refine lv_goto (tgt := 18) hx hb dX8_operate_12 (by decide) ?_
      exact rd_long E hr hk (by first | (simp only [operV, c_2, c_8, ↓reduceIte, not_true_eq_false, not_false_eq_true]; done) | (simp [operV, c_2, c_8]; done)) dX8_operate_18

set_option maxHeartbeats 4000000 in
set_option maxRecDepth 100000 in
/-- variable(p, z) -/
theorem c_X8_variable (l : Launch) (G : CG) {B : Nat → Nat} {f bf da dr : Nat → Int32} {hi : Nat → Nat → Int32} {sk : Nat → Int64} (x z : Int32) (k fa : Nat) (ex : x = nI k) (hk9 : k < 24) (hf1 : da (pP k + 3) = nI fa) (hf2 : fa < 128) : Rd l yX8_variable cX8_variable 6 ((Option.some FieldType.int)) 1 20 G [.ref (B 0), .int x, .int z] (MW G B f bf da dr hi sk) (some (.int (if ¬ z = 0 then (if ¬ z = 1 then nI (bits 8 fa) else da 3 - da (pP k + 1)) else da (pP k + 2)))) := by
  refine Rd.ofW (by decide) (Nat.le_of_ble_eq_true rfl) (fun p e s m below meth c ls E hG hE hP hr hk hl => ?_)
  have hx := E.1
  have hb := E.2.1
  have hl : lv_has ls 6 [(0, .ref (B 0)), (1, .int x), (2, .int z)] := hl
  refine lv_iload_n hx hb dX8_variable_0 rfl (lv_at hl 1 rfl) ?_
  refine Rd.callS (rest := []) (c_X8_presentation l G x) yk_X8_presentation E km_X8_188 dX8_variable_1 hG hE trivial rfl rfl hl.1 ⟨Nat.le_of_ble_eq_true rfl, Nat.le_of_ble_eq_true rfl⟩ ⟨Nat.zero_le _, Nat.zero_le _⟩ (Nat.le_of_ble_eq_true rfl) ?_
  refine lv_ci (y := nI (154 + 6 * k)) (ixq (nI_ad rfl (nI_mu rfl ex))) ?_
  refine lv_istore_n (lv' := [(3, .int (nI (154 + 6 * k))), (0, .ref (B 0)), (1, .int x), (2, .int z)]) hx hb dX8_variable_4 rfl hl (by decide) rfl (fun ls hl => ?_)
  refine lv_iconst (v := 0) hx hb dX8_variable_5 rfl ?_
  refine lv_ci (y := nI 0) (ixq rfl) ?_
  refine lv_istore (lv' := [(4, .int (nI 0)), (3, .int (nI (154 + 6 * k))), (0, .ref (B 0)), (1, .int x), (2, .int z)]) hx hb dX8_variable_6 hl (by decide) rfl (fun ls hl => ?_)
  refine lv_iload_n hx hb dX8_variable_8 rfl (lv_at hl 4 rfl) ?_
  refine lv_if_ne (tgt := 21) hx hb dX8_variable_9 (by decide) (fun c_9 => ?_) (fun c_9 => ?_)
  · refine lv_iload_n hx hb dX8_variable_21 rfl (lv_at hl 4 rfl) ?_
    refine lv_iconst (v := 1) hx hb dX8_variable_22 rfl ?_
    refine lv_icmp_ne (tgt := 42) hx hb dX8_variable_23 (by decide) (fun c_23 => ?_) (fun c_23 => ?_)
    · refine lv_aload_n hx hb dX8_variable_42 rfl (lv_at hl 2 rfl) ?_
      refine gf_X8_17 E hG hP.1 rfl dX8_variable_43 ?_
      refine lv_iload_n hx hb dX8_variable_46 rfl (lv_at hl 1 rfl) ?_
      refine lv_iconst (v := 3) hx hb dX8_variable_47 rfl ?_
      refine lv_iadd hx hb dX8_variable_48 ?_
      refine g_ild ((154 + 6 * k) + 3) E hG hP.2.2.1 (ixq (nI_ad rfl rfl)) (by omega) (by decide) dX8_variable_49 ?_
      refine lv_ci (y := nI fa) (ixq hf1) ?_
      refine lv_istore (lv' := [(5, .int (nI fa)), (4, .int (nI 0)), (3, .int (nI (154 + 6 * k))), (0, .ref (B 0)), (1, .int x), (2, .int z)]) hx hb dX8_variable_50 hl (by decide) rfl (fun ls hl => ?_)
      have loop : ∀ (j a b : Nat), (a < 2 ^ j) → (j ≤ 8) → (b + bits j a = bits 8 fa) → ∀ ls : Array Slot, lv_has ls 6 [(5, .int (nI a)), (4, .int (nI b)), (3, .int (nI (154 + 6 * k))), (0, .ref (B 0)), (1, .int x), (2, .int z)] → W p l e { frames := 1, cells := 0, slots := 0, locals := 20 } s m ([.ref (B 0), .int x, .int z] : List Value).toArray below meth c s.heap [] 0 0 (RQ below ([.ref (B 0), .int x, .int z] : List Value).toArray s (some (.int (if ¬ z = 0 then (if ¬ z = 1 then nI (bits 8 fa) else da 3 - da (pP k + 1)) else da (pP k + 2))))) (F0 m 52 ls []) := by
        intro j
        induction j with
        | zero =>
          intro a b z1 z2 z3 ls hl
          have e0 : 0 = a := by omega
          subst e0
          refine lv_iload hx hb dX8_variable_52 (lv_at hl 0 rfl) ?_
          refine lv_if_le (tgt := 75) hx hb dX8_variable_54 (by decide) (fun c_54 => ?_) (fun c_54 => ?_)
          · refine lv_iload hx hb dX8_variable_75 (lv_at hl 1 rfl) ?_
            exact rd_int E hr hk (by simp only [c_9, c_23, ↓reduceIte, not_true_eq_false, not_false_eq_true]; rw [← z3]; rfl) dX8_variable_77
          · exact absurd (show nI 0 ≤ 0 by decide) c_54
        | succ j ih =>
          intro a b z1 z2 z3 ls hl
          have z4 : a < 256 := Nat.lt_of_lt_of_le z1 (Nat.le_trans (Nat.pow_le_pow_right (by decide) z2) (by decide))
          have z5 : 2 ^ (j + 1) = 2 * 2 ^ j := by rw [Nat.pow_succ, Nat.mul_comm]
          have z3 : b + (if a = 0 then 0 else a % 2 + bits j (a / 2)) = bits 8 fa := z3
          refine lv_iload hx hb dX8_variable_52 (lv_at hl 0 rfl) ?_
          refine lv_if_le (tgt := 75) hx hb dX8_variable_54 (by decide) (fun c_54 => ?_) (fun c_54 => ?_)
          · have c_54 : a ≤ 0 := (nLE (x := (nI a)) (y := 0) (a := a) (b := 0) rfl rfl (by omega) (by omega)).mp c_54
            have e0 : 0 = a := by omega
            subst e0
            rw [if_pos rfl] at z3
            refine lv_iload hx hb dX8_variable_75 (lv_at hl 1 rfl) ?_
            exact rd_int E hr hk (by simp only [c_9, c_23, ↓reduceIte, not_true_eq_false, not_false_eq_true]; rw [← z3]; rfl) dX8_variable_77
          · have c_54 : ¬ a ≤ 0 := fun z9 => c_54 ((nLE (x := (nI a)) (y := 0) (a := a) (b := 0) rfl rfl (by omega) (by omega)).mpr z9)
            rw [if_neg (by omega)] at z3
            refine lv_iload hx hb dX8_variable_57 (lv_at hl 1 rfl) ?_
            refine lv_iload hx hb dX8_variable_59 (lv_at hl 0 rfl) ?_
            refine lv_iconst (v := 2) hx hb dX8_variable_61 rfl ?_
            refine lv_irem hx hb dX8_variable_62 (by decide) ?_
            refine lv_iadd hx hb dX8_variable_63 ?_
            refine lv_ci (y := nI (b + (a % 2))) (ixq (nI_ad rfl (nR2 rfl (by omega)))) ?_
            refine lv_istore (lv' := [(4, .int (nI (b + (a % 2)))), (5, .int (nI a)), (3, .int (nI (154 + 6 * k))), (0, .ref (B 0)), (1, .int x), (2, .int z)]) hx hb dX8_variable_64 hl (by decide) rfl (fun ls hl => ?_)
            refine lv_iload hx hb dX8_variable_66 (lv_at hl 1 rfl) ?_
            refine lv_iconst (v := 2) hx hb dX8_variable_68 rfl ?_
            refine lv_idiv hx hb dX8_variable_69 (by decide) ?_
            refine lv_ci (y := (nI (a / 2))) (pk_div (a := a) (d := 2) (by omega) (by decide) (by decide)) ?_
            refine lv_istore (lv' := [(5, .int (nI (a / 2))), (4, .int (nI (b + (a % 2)))), (3, .int (nI (154 + 6 * k))), (0, .ref (B 0)), (1, .int x), (2, .int z)]) hx hb dX8_variable_70 hl (by decide) rfl (fun ls hl => ?_)
            refine lv_goto (tgt := 52) hx hb dX8_variable_72 (by decide) ?_
            exact ih (a / 2) (b + a % 2) (by omega) (by omega) (by omega) ls (lv_sub hl [0, 1, 2, 3, 4, 5] rfl)
      exact loop 8 fa 0 (by omega) (by omega) (by omega) ls (lv_sub hl [0, 1, 2, 3, 4, 5] rfl)
    · refine lv_aload_n hx hb dX8_variable_26 rfl (lv_at hl 2 rfl) ?_
      refine gf_X8_17 E hG hP.1 rfl dX8_variable_27 ?_
      refine lv_iconst (v := 3) hx hb dX8_variable_30 rfl ?_
      refine g_ild 3 E hG hP.2.2.1 rfl (by omega) (by decide) dX8_variable_31 ?_
      refine lv_aload_n hx hb dX8_variable_32 rfl (lv_at hl 2 rfl) ?_
      refine gf_X8_17 E hG hP.1 rfl dX8_variable_33 ?_
      refine lv_iload_n hx hb dX8_variable_36 rfl (lv_at hl 1 rfl) ?_
      refine lv_iconst (v := 1) hx hb dX8_variable_37 rfl ?_
      refine lv_iadd hx hb dX8_variable_38 ?_
      refine g_ild ((154 + 6 * k) + 1) E hG hP.2.2.1 (ixq (nI_ad rfl rfl)) (by omega) (by decide) dX8_variable_39 ?_
      refine lv_isub hx hb dX8_variable_40 ?_
      exact rd_int E hr hk (by first | (simp only [c_9, c_23, ↓reduceIte, not_true_eq_false, not_false_eq_true]; done) | (simp [c_9, c_23]; done)) dX8_variable_41
  · refine lv_aload_n hx hb dX8_variable_12 rfl (lv_at hl 2 rfl) ?_
    refine gf_X8_17 E hG hP.1 rfl dX8_variable_13 ?_
    refine lv_iload_n hx hb dX8_variable_16 rfl (lv_at hl 1 rfl) ?_
    refine lv_iconst (v := 2) hx hb dX8_variable_17 rfl ?_
    refine lv_iadd hx hb dX8_variable_18 ?_
    refine g_ild ((154 + 6 * k) + 2) E hG hP.2.2.1 (ixq (nI_ad rfl rfl)) (by omega) (by decide) dX8_variable_19 ?_
    exact rd_int E hr hk (by first | (simp only [c_9, ↓reduceIte, not_true_eq_false, not_false_eq_true]; done) | (simp [c_9]; done)) dX8_variable_20
