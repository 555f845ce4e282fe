/-! THE CLASS: calendar, credits, presentations, books: what reads -/
theorem nD7 {x : Int32} {a : Nat} (hx : x = nI a) (ha : a < 2147483648) : x / 7 = nI (a / 7) := by rw [hx]; exact pk_div ha (by decide) (by decide)
def jmin (a b : Int32) : Int32 := if b < a then b else a
def jmax (a b : Int32) : Int32 := if a < b then b else a
def lmin (a b : Int64) : Int64 := if b < a then b else a
def lmax (a b : Int64) : Int64 := if b < a then a else b
theorem kcm_min : Cond.code Lib.Math.min.name Lib.Math.min.code 2 (some .int) ∈ TB := TB_of (by decide +kernel) rfl
theorem kcm_max : Cond.code Lib.Math.max.name Lib.Math.max.code 2 (some .int) ∈ TB := TB_of (by decide +kernel) rfl
theorem kcm_minL : Cond.code Lib.MathLoose.min_long.x Lib.MathLoose.min_long.code 4 (some .long) ∈ TB := TB_of (by decide +kernel) rfl
theorem kcm_maxL : Cond.code Lib.MathLoose.max_long.x Lib.MathLoose.max_long.code 4 (some .long) ∈ TB := TB_of (by decide +kernel) rfl
section LMM
variable {p : Program} {l : Launch} {e : Env} {R : Room} {s : State} {m : MethodId} {args : Array Value} {below : List Frame} {meth : Method} {c : Code} {H : Heap} {locs : List Loc} {cells slots : Nat} {Q : State → Prop}
variable {cc : ByteArray} {nL : Nat} {own : String} {pc index : Nat} {ls : Array Slot} {rest : List Value}
theorem g_mmin {x y : Int32} (E : CallFix p m c cc nL s args TB own) (hk : Cond.methodLink own index yJ9_min_7cf53 ∈ TB) (hdg : decode cc pc = .ok (.invokestatic index, 3)) (hf : 1 ≤ R.frames) (hlo : 21 ≤ R.locals) (hc : cells ≤ R.cells ∧ slots ≤ R.slots) (hl : ls.size = nL) (kk : W p l e R s m args below meth c H locs cells slots Q (F0 m (pc + 3) ls (.int (jmin x y) :: rest))) (hw : (rest.map fun v => v.category).sum ≤ 8 := by exact Nat.le_of_ble_eq_true rfl) : W p l e R s m args below meth c H locs cells slots Q (F0 m pc ls (.int y :: .int x :: rest)) :=
  va_mmin E.1 E.2.1 (E.2.2.1.trans hl.symm) E.2.2.2.1 (E.2.2.2.2 _ hk) (E.2.2.2.2 _ kt_J9_min_7cf53) (E.2.2.2.2 _ kin_J9) (E.2.2.2.2 _ kcm_min) hf (by omega) hc.1 hc.2 hdg kk
theorem g_mmax {x y : Int32} (E : CallFix p m c cc nL s args TB own) (hk : Cond.methodLink own index yJ9_max_7cf53 ∈ TB) (hdg : decode cc pc = .ok (.invokestatic index, 3)) (hf : 1 ≤ R.frames) (hlo : 21 ≤ R.locals) (hc : cells ≤ R.cells ∧ slots ≤ R.slots) (hl : ls.size = nL) (kk : W p l e R s m args below meth c H locs cells slots Q (F0 m (pc + 3) ls (.int (jmax x y) :: rest))) (hw : (rest.map fun v => v.category).sum ≤ 8 := by exact Nat.le_of_ble_eq_true rfl) : W p l e R s m args below meth c H locs cells slots Q (F0 m pc ls (.int y :: .int x :: rest)) :=
  va_mmax E.1 E.2.1 (E.2.2.1.trans hl.symm) E.2.2.2.1 (E.2.2.2.2 _ hk) (E.2.2.2.2 _ kt_J9_max_7cf53) (E.2.2.2.2 _ kin_J9) (E.2.2.2.2 _ kcm_max) hf (by omega) hc.1 hc.2 hdg kk
theorem g_mminL {x y : Int64} (E : CallFix p m c cc nL s args TB own) (hk : Cond.methodLink own index yJ9_min_f86c9 ∈ TB) (hdg : decode cc pc = .ok (.invokestatic index, 3)) (hf : 1 ≤ R.frames) (hlo : 23 ≤ R.locals) (hc : cells ≤ R.cells ∧ slots ≤ R.slots) (hl : ls.size = nL) (kk : W p l e R s m args below meth c H locs cells slots Q (F0 m (pc + 3) ls (.long (lmin x y) :: rest))) (hw : (rest.map fun v => v.category).sum ≤ 8 := by exact Nat.le_of_ble_eq_true rfl) : W p l e R s m args below meth c H locs cells slots Q (F0 m pc ls (.long y :: .long x :: rest)) :=
  va_mmin_long E.1 E.2.1 (E.2.2.1.trans hl.symm) E.2.2.2.1 (E.2.2.2.2 _ hk) (E.2.2.2.2 _ kt_J9_min_f86c9) (E.2.2.2.2 _ kin_J9) (E.2.2.2.2 _ kcm_minL) hf (by omega) hc.1 hc.2 hdg kk
theorem g_mmaxL {x y : Int64} (E : CallFix p m c cc nL s args TB own) (hk : Cond.methodLink own index yJ9_max_f86c9 ∈ TB) (hdg : decode cc pc = .ok (.invokestatic index, 3)) (hf : 1 ≤ R.frames) (hlo : 23 ≤ R.locals) (hc : cells ≤ R.cells ∧ slots ≤ R.slots) (hl : ls.size = nL) (kk : W p l e R s m args below meth c H locs cells slots Q (F0 m (pc + 3) ls (.long (lmax x y) :: rest))) (hw : (rest.map fun v => v.category).sum ≤ 8 := by exact Nat.le_of_ble_eq_true rfl) : W p l e R s m args below meth c H locs cells slots Q (F0 m pc ls (.long y :: .long x :: rest)) :=
  va_mmax_long E.1 E.2.1 (E.2.2.1.trans hl.symm) E.2.2.2.1 (E.2.2.2.2 _ hk) (E.2.2.2.2 _ kt_J9_max_f86c9) (E.2.2.2.2 _ kin_J9) (E.2.2.2.2 _ kcm_maxL) hf (by omega) hc.1 hc.2 hdg kk
end LMM
theorem jmin_nI {a b : Nat} (ha : a < 2147483648) (hb : b < 2147483648) : jmin (nI a) (nI b) = nI (min a b) := by
  unfold jmin
  by_cases h : b < a
  · rw [if_pos (nI_lt h ha), Nat.min_eq_right (by omega)]
  · rw [if_neg (fun z => h ((nI_ltI hb ha).mp z)), Nat.min_eq_left (by omega)]
/-- working days before a day, without holidays -/
def wd (a : Nat) : Nat := a / 7 * 5 + min (a % 7) 5
theorem wd_s (a : Nat) : wd (a + 1) = wd a + if a % 7 < 5 then 1 else 0 := by
  unfold wd
  split <;> omega
def hcT (d : Nat → Int32) (a b k : Nat) (v : Int32) : Int32 := if d (6 + k) < nI a then v else if nI b ≤ d (6 + k) then v else if ¬ (if (d (6 + k)).toNatClampNeg % 7 < 5 then (0 : Int32) else 1) = 0 then v else v + (-1)
def hcV (d : Nat → Int32) (a b : Nat) : Nat → Int32
  | 0 => nI (wd b) - nI (wd a)
  | k + 1 => hcT d a b k (hcV d a b k)
/-- days of n from a on that are working days and one of k holidays -/
def whC (d : Nat → Int32) (a k : Nat) : Nat → Nat
  | 0 => 0
  | n + 1 => whC d a k n + if (a + n) % 7 < 5 ∧ hol d (a + n) k = true then 1 else 0
theorem cnt_wh (d : Nat → Int32) (nh a : Nat) : ∀ n, cntB d nh a n + whC d a nh n + wd a = wd (a + n)
  | 0 => by simp [cntB, whC]
  | n + 1 => by
    have := cnt_wh d nh a n
    rw [show a + (n + 1) = a + n + 1 by omega, wd_s]
    unfold cntB whC
    by_cases h1 : (a + n) % 7 < 5
    · by_cases h2 : hol d (a + n) nh = true
      · simp [biz, h1, h2]; omega
      · simp [biz, h1, h2]; omega
    · simp [biz, h1]; omega
theorem whC_0 (d : Nat → Int32) (a : Nat) : ∀ n, whC d a 0 n = 0
  | 0 => rfl
  | n + 1 => by unfold whC; rw [whC_0 d a n]; simp [hol]
theorem whC_s {d : Nat → Int32} {a k h : Nat} (hh : d (6 + k) = nI h) (hb : h < 1073741824) (hd : ∀ j, j < k → d (6 + j) ≠ d (6 + k)) : ∀ n, a + n < 1073741824 → whC d a (k + 1) n = whC d a k n + if a ≤ h ∧ h < a + n ∧ h % 7 < 5 then 1 else 0
  | 0, _ => by
    unfold whC
    rw [if_neg (by omega)]
  | n + 1, hn => by
    have ih := whC_s (a := a) hh hb hd n (by omega)
    unfold whC
    rw [ih]
    have hnot : hol d h k = false := by
      cases e : hol d h k with
      | false => rfl
      | true =>
        obtain ⟨j, h1, h2⟩ := hol_iff.mp e
        exact absurd (h2.trans hh.symm) (hd j h1)
    by_cases e : a + n = h
    · subst e
      simp only [hol, hnot, hh, beq_self_eq_true, Bool.false_or, Bool.or_true]
      by_cases w : (a + n) % 7 < 5
      · simp [w]
      · simp [w]
    · have e2 : (d (6 + k) == nI (a + n)) = false := by
        rw [hh]
        exact beq_eq_false_iff_ne.mpr (fun z => e ((nI_eq (by omega) (by omega)).mp z).symm)
      simp only [hol, e2, Bool.or_false]
      have e3 : (a ≤ h ∧ h < a + (n + 1) ∧ h % 7 < 5) = (a ≤ h ∧ h < a + n ∧ h % 7 < 5) := propext ⟨fun z => ⟨z.1, by omega, z.2.2⟩, fun z => ⟨z.1, by omega, z.2.2⟩⟩
      simp only [e3]
      omega
theorem hcV_eq {d : Nat → Int32} {a b : Nat} (hab : a ≤ b) (hb : b ≤ 9999) : ∀ k, (∀ j, j < k → ∃ h, h ≤ 999 ∧ d (6 + j) = nI h) → (∀ i j, i < k → j < k → d (6 + i) = d (6 + j) → i = j) → hcV d a b k = nI (wd b - wd a) - nI (whC d a k (b - a))
  | 0, _, _ => by
    have h1 := cnt_wh d 0 a (b - a)
    rw [show a + (b - a) = b by omega] at h1
    rw [whC_0]
    show nI (wd b) - nI (wd a) = _
    rw [pk_sub (by omega)]
    exact (Int32.sub_zero _).symm
  | k + 1, h1, h2 => by
    have ih := hcV_eq hab hb k (fun j hj => h1 j (by omega)) (fun i j hi hj => h2 i j (by omega) (by omega))
    obtain ⟨h, h3, h4⟩ := h1 k (by omega)
    have hs := whC_s (a := a) h4 (by omega) (fun j hj z => absurd (h2 j k (by omega) (by omega) z) (by omega)) (b - a) (by omega)
    rw [show a + (b - a) = b by omega] at hs
    show hcT d a b k (hcV d a b k) = _
    unfold hcT
    rw [ih, h4, nI_clamp (by omega), hs]
    have l1 : (nI h < nI a) = (h < a) := propext (nI_ltI (by omega) (by omega))
    have l2 : (nI b ≤ nI h) = (b ≤ h) := propext (nI_leI (by omega) (by omega))
    simp only [l1, l2]
    by_cases c1 : h < a
    · rw [if_pos c1, if_neg (by omega)]; rfl
    · rw [if_neg c1]
      by_cases c2 : b ≤ h
      · rw [if_pos c2, if_neg (by omega)]; rfl
      · rw [if_neg c2]
        by_cases c3 : h % 7 < 5
        · rw [if_pos c3, if_neg (by decide), if_pos (by omega)]
          rw [← nI_add]
          show _ + -(1 : Int32) = _ - (_ + nI 1)
          rw [← Int32.sub_eq_add_neg, Int32.sub_sub]
          rfl
        · rw [if_neg c3, if_pos (by decide), if_neg (by omega)]; rfl
theorem hcV_cnt {d : Nat → Int32} {a b nh : Nat} (hab : a ≤ b) (hb : b ≤ 9999) (h1 : ∀ j, j < nh → ∃ h, h ≤ 999 ∧ d (6 + j) = nI h) (h2 : ∀ i j, i < nh → j < nh → d (6 + i) = d (6 + j) → i = j) : hcV d a b nh = nI (cntB d nh a (b - a)) := by
  rw [hcV_eq hab hb nh h1 h2]
  have h3 := cnt_wh d nh a (b - a)
  rw [show a + (b - a) = b by omega] at h3
  rw [pk_sub (by omega)]
  congr 1
  omega
set_option maxHeartbeats 4000000 in
set_option maxRecDepth 100000 in
/-- isWeekend(n) -/
theorem c_X1_isWeekend (l : Launch) (G : CG) (x : Int32) (n : Nat) (ex : x = nI n) (hn : n < 1073741824) : Rd l yX1_isWeekend cX1_isWeekend 1 ((Option.some FieldType.boolean)) 0 0 G [.int x] (fun _ => True) (some (.int (if n % 7 < 5 then 0 else 1))) := by
  refine Rd.ofW (by decide) (Nat.le_of_ble_eq_true rfl) (fun p e s m below meth c ls E hG hE hP hr hk hl => ?_)
  have hx := E.1
  have hb := E.2.1
  have hl : lv_has ls 1 [(0, .int x)] := hl
  refine lv_iload_n hx hb dX1_isWeekend_0 rfl (lv_at hl 0 rfl) ?_
  refine lv_bipush (v := 7) hx hb dX1_isWeekend_1 rfl ?_
  refine lv_irem hx hb dX1_isWeekend_3 (by decide) ?_
  refine lv_iconst (v := 5) hx hb dX1_isWeekend_4 rfl ?_
  refine lv_icmp_lt (tgt := 12) hx hb dX1_isWeekend_5 (by decide) (fun c_5 => ?_) (fun c_5 => ?_)
  · have c_5 : (n % 7) < 5 := (nLT (x := (x - x / 7 * 7)) (y := 5) (a := (n % 7)) (b := 5) (nR7 ex (by omega)) rfl (by omega) (by omega)).mp c_5
    refine lv_iconst (v := 0) hx hb dX1_isWeekend_12 rfl ?_
    exact rd_bool E hr hk (by first | (simp only [c_5, ↓reduceIte, not_true_eq_false, not_false_eq_true]; done) | (simp [c_5]; done)) (by first | exact Or.inl rfl | exact Or.inr rfl | (omega)) dX1_isWeekend_13
  · have c_5 : ¬ (n % 7) < 5 := fun z9 => c_5 ((nLT (x := (x - x / 7 * 7)) (y := 5) (a := (n % 7)) (b := 5) (nR7 ex (by omega)) rfl (by omega) (by omega)).mpr z9)
    refine lv_iconst (v := 1) hx hb dX1_isWeekend_8 rfl ?_
    refine lv_goto (tgt := 13) hx hb dX1_isWeekend_9 (by decide) ?_
    exact rd_bool E hr hk (by first | (simp only [c_5, ↓reduceIte, not_true_eq_false, not_false_eq_true]; done) | (simp [c_5]; done)) (by first | exact Or.inl rfl | exact Or.inr rfl | (omega)) dX1_isWeekend_13

set_option maxHeartbeats 4000000 in
set_option maxRecDepth 100000 in
/-- isHoliday(n) -/
theorem c_X1_isHoliday (l : Launch) (G : CG) {ca ho : Nat} {d : Nat → Int32} {nh : Nat} (x : Int32) (n : Nat) (ex : x = nI n) (hh : nh ≤ 16) : Rd l yX1_isHoliday cX1_isHoliday 6 ((Option.some FieldType.boolean)) 0 0 G [.ref ca, .int x] (fun H9 => At G ca (.inr (1, [.ref ho])) H9 ∧ At G ho (iA G nh (fun k9 => d (6 + k9))) H9) (some (.int (if hol d n nh = true then 1 else 0))) := by
  refine Rd.ofW (by decide) (Nat.le_of_ble_eq_true rfl) (fun p e s m below meth c ls E hG hE hP hr hk hl => ?_)
  have hx := E.1
  have hb := E.2.1
  have hl : lv_has ls 6 [(0, .ref ca), (1, .int x)] := hl
  refine lv_aload_n hx hb dX1_isHoliday_0 rfl (lv_at hl 0 rfl) ?_
  refine gf_X1_7 E hG hP.1 rfl dX1_isHoliday_1 ?_
  refine lv_astore_n (lv' := [(2, .ref ho), (0, .ref ca), (1, .int x)]) hx hb dX1_isHoliday_4 rfl hl (by decide) rfl (fun ls hl => ?_)
  refine lv_aload_n hx hb dX1_isHoliday_5 rfl (lv_at hl 0 rfl) ?_
  refine g_len (t0 := 1) (v := (nI nh)) E hG hP.2 rfl rfl dX1_isHoliday_6 ?_
  refine lv_istore_n (lv' := [(3, .int (nI nh)), (2, .ref ho), (0, .ref ca), (1, .int x)]) hx hb dX1_isHoliday_7 rfl hl (by decide) rfl (fun ls hl => ?_)
  refine lv_iconst (v := 0) hx hb dX1_isHoliday_8 rfl ?_
  refine lv_ci (y := nI 0) (ixq rfl) ?_
  refine lv_istore (lv' := [(4, .int (nI 0)), (3, .int (nI nh)), (2, .ref ho), (0, .ref ca), (1, .int x)]) hx hb dX1_isHoliday_9 hl (by decide) rfl (fun ls hl => ?_)
  have loop : ∀ (j k : Nat), (nh < k + j) → (k ≤ nh) → (hol d n k = false) → ∀ ls : Array Slot, lv_has ls 6 [(4, .int (nI k)), (3, .int (nI nh)), (2, .ref ho), (0, .ref ca), (1, .int x)] → W p l e { frames := 0, cells := 0, slots := 0, locals := 0 } s m ([.ref ca, .int x] : List Value).toArray below meth c s.heap [] 0 0 (RQ below ([.ref ca, .int x] : List Value).toArray s (some (.int (if hol d n nh = true then 1 else 0)))) (F0 m 11 ls []) := by
    intro j
    induction j with
    | zero => intro k z1 z2; omega
    | succ j ih =>
      intro k z1 z2 z3 ls hl
      refine lv_iload hx hb dX1_isHoliday_11 (lv_at hl 0 rfl) ?_
      refine lv_iload_n hx hb dX1_isHoliday_13 rfl (lv_at hl 1 rfl) ?_
      refine lv_icmp_ge (tgt := 37) hx hb dX1_isHoliday_14 (by decide) (fun c_14 => ?_) (fun c_14 => ?_)
      · have c_14 : nh ≤ k := (nLE (x := (nI nh)) (y := (nI k)) (a := nh) (b := k) rfl rfl (by omega) (by omega)).mp c_14
        have e9 : nh = k := by omega
        subst e9
        refine lv_iconst (v := 0) hx hb dX1_isHoliday_37 rfl ?_
        exact rd_bool E hr hk (by rw [z3]; rfl) (by first | exact Or.inl rfl | exact Or.inr rfl | (omega)) dX1_isHoliday_38
      · have c_14 : ¬ nh ≤ k := fun z9 => c_14 ((nLE (x := (nI nh)) (y := (nI k)) (a := nh) (b := k) rfl rfl (by omega) (by omega)).mpr z9)
        refine lv_aload_n hx hb dX1_isHoliday_17 rfl (lv_at hl 2 rfl) ?_
        refine lv_iload hx hb dX1_isHoliday_18 (lv_at hl 0 rfl) ?_
        refine g_ild k E hG hP.2 rfl (by omega) (by omega) dX1_isHoliday_20 ?_
        refine lv_ci (y := (d (6 + k))) (rfl) ?_
        refine lv_istore (lv' := [(5, .int (d (6 + k))), (4, .int (nI k)), (3, .int (nI nh)), (2, .ref ho), (0, .ref ca), (1, .int x)]) hx hb dX1_isHoliday_21 hl (by decide) rfl (fun ls hl => ?_)
        refine lv_iload hx hb dX1_isHoliday_23 (lv_at hl 0 rfl) ?_
        refine lv_iload_n hx hb dX1_isHoliday_25 rfl (lv_at hl 5 rfl) ?_
        refine lv_icmp_ne (tgt := 31) hx hb dX1_isHoliday_26 (by decide) (fun c9 => ?_) (fun c9 => ?_)
        · refine lv_iinc (v := (nI (k + 1))) (lv' := [(4, .int (nI (k + 1))), (5, .int (d (6 + k))), (3, .int (nI nh)), (2, .ref ho), (0, .ref ca), (1, .int x)]) hx hb dX1_isHoliday_31 hl (k := 1) rfl (nI_ad rfl rfl) (by decide) rfl (fun ls hl => ?_)
          refine lv_goto (tgt := 11) hx hb dX1_isHoliday_34 (by decide) ?_
          exact ih (k + 1) (by omega) (by omega) (by simp [hol, z3]; intro z; exact c9 (z.trans ex.symm)) ls (lv_sub hl [0, 2, 3, 4, 5] rfl)
        · refine lv_iconst (v := 1) hx hb dX1_isHoliday_29 rfl ?_
          exact rd_bool E hr hk (by rw [if_pos (hol_iff.mpr ⟨k, by omega, c9.trans ex⟩)]) (by first | exact Or.inl rfl | exact Or.inr rfl | (omega)) dX1_isHoliday_30
  exact loop (nh + 1) 0 (by omega) (by omega) rfl ls (lv_sub hl [0, 1, 2, 3, 4] rfl)

set_option maxHeartbeats 4000000 in
set_option maxRecDepth 100000 in
/-- isOpen(n) -/
theorem c_X1_isOpen (l : Launch) (G : CG) {ca ho : Nat} {d : Nat → Int32} {nh : Nat} (x : Int32) (n : Nat) (ex : x = nI n) (hn : n < 1073741824) (hh : nh ≤ 16) : Rd l yX1_isOpen cX1_isOpen 2 ((Option.some FieldType.boolean)) 1 25 G [.ref ca, .int x] (fun H9 => At G ca (.inr (1, [.ref ho])) H9 ∧ At G ho (iA G nh (fun k9 => d (6 + k9))) H9) (some (.int (if biz d nh n = true then 1 else 0))) := by
  refine Rd.ofW (by decide) (Nat.le_of_ble_eq_true rfl) (fun p e s m below meth c ls E hG hE hP hr hk hl => ?_)
  have hx := E.1
  have hb := E.2.1
  have hl : lv_has ls 2 [(0, .ref ca), (1, .int x)] := hl
  refine lv_iload_n hx hb dX1_isOpen_0 rfl (lv_at hl 1 rfl) ?_
  refine Rd.callS (rest := []) (c_X1_isWeekend l G x n ex (by omega)) yk_X1_isWeekend E km_X1_22 dX1_isOpen_1 hG hE trivial rfl rfl hl.1 ⟨Nat.le_of_ble_eq_true rfl, Nat.le_of_ble_eq_true rfl⟩ ⟨Nat.zero_le _, Nat.zero_le _⟩ (Nat.le_of_ble_eq_true rfl) ?_
  refine lv_if_ne (tgt := 19) hx hb dX1_isOpen_4 (by decide) (fun c_4 => ?_) (fun c_4 => ?_)
  · refine lv_iconst (v := 0) hx hb dX1_isOpen_19 rfl ?_
    exact rd_bool E hr hk (by by_cases z8 : n % 7 < 5 <;> by_cases z9 : hol d n nh = true <;> simp_all [biz]) (by first | exact Or.inl rfl | exact Or.inr rfl | (omega)) dX1_isOpen_20
  · refine lv_aload_n hx hb dX1_isOpen_7 rfl (lv_at hl 0 rfl) ?_
    refine lv_iload_n hx hb dX1_isOpen_8 rfl (lv_at hl 1 rfl) ?_
    refine Rd.callV (rest := []) (c_X1_isHoliday l G x n ex hh) yk_X1_isHoliday E km_X1_26 dX1_isOpen_9 hG hE hP (At.recv hG hP.1 rfl) rfl rfl hl.1 ⟨Nat.le_of_ble_eq_true rfl, Nat.le_of_ble_eq_true rfl⟩ ⟨Nat.zero_le _, Nat.zero_le _⟩ (Nat.le_of_ble_eq_true rfl) ?_
    refine lv_if_ne (tgt := 19) hx hb dX1_isOpen_12 (by decide) (fun c_12 => ?_) (fun c_12 => ?_)
    · refine lv_iconst (v := 0) hx hb dX1_isOpen_19 rfl ?_
      exact rd_bool E hr hk (by by_cases z8 : n % 7 < 5 <;> by_cases z9 : hol d n nh = true <;> simp_all [biz]) (by first | exact Or.inl rfl | exact Or.inr rfl | (omega)) dX1_isOpen_20
    · refine lv_iconst (v := 1) hx hb dX1_isOpen_15 rfl ?_
      refine lv_goto (tgt := 20) hx hb dX1_isOpen_16 (by decide) ?_
      exact rd_bool E hr hk (by by_cases z8 : n % 7 < 5 <;> by_cases z9 : hol d n nh = true <;> simp_all [biz]) (by first | exact Or.inl rfl | exact Or.inr rfl | (omega)) dX1_isOpen_20

set_option maxHeartbeats 4000000 in
set_option maxRecDepth 100000 in
/-- firstOpen(n) -/
theorem c_X1_firstOpen (l : Launch) (G : CG) {ca ho : Nat} {d : Nat → Int32} {nh : Nat} (x : Int32) (n : Nat) (ex : x = nI n) (hn : n < 1073740000) (hh : nh ≤ 16) : Rd l yX1_firstOpen cX1_firstOpen 4 ((Option.some FieldType.int)) 2 46 G [.ref ca, .int x] (fun H9 => At G ca (.inr (1, [.ref ho])) H9 ∧ At G ho (iA G nh (fun k9 => d (6 + k9))) H9) (some (.int (nI (ext d nh n)))) := by
  refine Rd.ofW (by decide) (Nat.le_of_ble_eq_true rfl) (fun p e s m below meth c ls E hG hE hP hr hk hl => ?_)
  have hx := E.1
  have hb := E.2.1
  have hl : lv_has ls 4 [(0, .ref ca), (1, .int x)] := hl
  refine lv_iload_n hx hb dX1_firstOpen_0 rfl (lv_at hl 1 rfl) ?_
  refine lv_ci (y := nI n) (ixq ex) ?_
  refine lv_istore_n (lv' := [(2, .int (nI n)), (0, .ref ca), (1, .int x)]) hx hb dX1_firstOpen_1 rfl hl (by decide) rfl (fun ls hl => ?_)
  refine lv_iconst (v := 0) hx hb dX1_firstOpen_2 rfl ?_
  refine lv_ci (y := nI 0) (ixq rfl) ?_
  refine lv_istore_n (lv' := [(3, .int (nI 0)), (2, .int (nI n)), (0, .ref ca), (1, .int x)]) hx hb dX1_firstOpen_3 rfl hl (by decide) rfl (fun ls hl => ?_)
  have loop : ∀ (j i k : Nat), (i + j ≤ 130) → (k + j < 1073741824) → ((∃ i, i < j ∧ biz d nh (k + i) = true)) → (extF d nh j k = ext d nh n) → ∀ ls : Array Slot, lv_has ls 4 [(3, .int (nI i)), (2, .int (nI k)), (0, .ref ca), (1, .int x)] → W p l e { frames := 2, cells := 0, slots := 0, locals := 46 } s m ([.ref ca, .int x] : List Value).toArray below meth c s.heap [] 0 0 (RQ below ([.ref ca, .int x] : List Value).toArray s (some (.int (nI (ext d nh n))))) (F0 m 4 ls []) := by
    intro j
    induction j with
    | zero => rintro i k z1 z2 ⟨i9, hi9, _⟩; omega
    | succ j ih =>
      rintro i k z1 z2 ⟨i9, hi9, hbz⟩ h4 ls hl
      unfold extF at h4
      refine lv_iload_n hx hb dX1_firstOpen_4 rfl (lv_at hl 0 rfl) ?_
      refine lv_sipush (v := 1000) hx hb dX1_firstOpen_5 rfl ?_
      refine lv_icmp_ge (tgt := 28) hx hb dX1_firstOpen_8 (by decide) (fun c_8 => ?_) (fun c_8 => ?_)
      · exact absurd ((nLE (x := 1000) (y := nI i) (a := 1000) (b := i) rfl rfl (by omega) (by omega)).mp c_8) (by omega)
      · refine lv_aload_n hx hb dX1_firstOpen_11 rfl (lv_at hl 2 rfl) ?_
        refine lv_iload_n hx hb dX1_firstOpen_12 rfl (lv_at hl 1 rfl) ?_
        refine Rd.callV (rest := []) (c_X1_isOpen l G (nI k) k rfl (by omega) hh) yk_X1_isOpen E km_X1_29 dX1_firstOpen_13 hG hE hP (At.recv hG hP.1 rfl) rfl rfl hl.1 ⟨Nat.le_of_ble_eq_true rfl, Nat.le_of_ble_eq_true rfl⟩ ⟨Nat.zero_le _, Nat.zero_le _⟩ (Nat.le_of_ble_eq_true rfl) ?_
        refine lv_if_ne (tgt := 28) hx hb dX1_firstOpen_16 (by decide) (fun c_16 => ?_) (fun c_16 => ?_)
        · have c9 : biz d nh k = true := by
            by_cases z : biz d nh k = true
            · exact z
            · rw [if_neg z] at c_16; exact absurd rfl c_16
          rw [if_pos c9] at h4
          refine lv_iload_n hx hb dX1_firstOpen_28 rfl (lv_at hl 1 rfl) ?_
          exact rd_int E hr hk (by rw [h4]) dX1_firstOpen_29
        · have c9 : ¬ biz d nh k = true := fun z => by rw [if_pos z] at c_16; exact absurd c_16 (by decide)
          rw [if_neg c9] at h4
          refine lv_iinc (v := (nI (k + 1))) (lv' := [(2, .int (nI (k + 1))), (3, .int (nI i)), (0, .ref ca), (1, .int x)]) hx hb dX1_firstOpen_19 hl (k := 1) rfl (nI_ad rfl rfl) (by decide) rfl (fun ls hl => ?_)
          refine lv_iinc (v := (nI (i + 1))) (lv' := [(3, .int (nI (i + 1))), (2, .int (nI (k + 1))), (0, .ref ca), (1, .int x)]) hx hb dX1_firstOpen_22 hl (k := 1) rfl (nI_ad rfl rfl) (by decide) rfl (fun ls hl => ?_)
          refine lv_goto (tgt := 4) hx hb dX1_firstOpen_25 (by decide) ?_
          cases i9 with
          | zero => exact absurd hbz c9
          | succ i9 => exact ih (i + 1) (k + 1) (by omega) (by omega) ⟨i9, by omega, by rw [show k + 1 + i9 = k + (i9 + 1) by omega]; exact hbz⟩ h4 ls (lv_sub hl [0, 1, 2, 3] rfl)
  exact loop 130 0 n (by omega) (by omega) (biz_near d hh (by omega)) rfl ls (lv_sub hl [0, 1, 2, 3] rfl)

set_option maxHeartbeats 4000000 in
set_option maxRecDepth 100000 in
/-- openDayAfter(n, k0) -/
theorem c_X1_openDayAfter (l : Launch) (G : CG) {ca ho : Nat} {d : Nat → Int32} {nh : Nat} (x y : Int32) (n k0 : Nat) (ex : x = nI n) (ey : y = nI k0) (hn : n + 131 * k0 < 1073740000) (hh : nh ≤ 16) : Rd l yX1_openDayAfter cX1_openDayAfter 5 ((Option.some FieldType.int)) 3 69 G [.ref ca, .int x, .int y] (fun H9 => At G ca (.inr (1, [.ref ho])) H9 ∧ At G ho (iA G nh (fun k9 => d (6 + k9))) H9) (some (.int (nI (addB d nh k0 n)))) := by
  refine Rd.ofW (by decide) (Nat.le_of_ble_eq_true rfl) (fun p e s m below meth c ls E hG hE hP hr hk hl => ?_)
  have hx := E.1
  have hb := E.2.1
  have hl : lv_has ls 5 [(0, .ref ca), (1, .int x), (2, .int y)] := hl
  refine lv_iload_n hx hb dX1_openDayAfter_0 rfl (lv_at hl 1 rfl) ?_
  refine lv_ci (y := nI n) (ixq ex) ?_
  refine lv_istore_n (lv' := [(3, .int (nI n)), (0, .ref ca), (1, .int x), (2, .int y)]) hx hb dX1_openDayAfter_1 rfl hl (by decide) rfl (fun ls hl => ?_)
  refine lv_iconst (v := 0) hx hb dX1_openDayAfter_2 rfl ?_
  refine lv_ci (y := nI 0) (ixq rfl) ?_
  refine lv_istore (lv' := [(4, .int (nI 0)), (3, .int (nI n)), (0, .ref ca), (1, .int x), (2, .int y)]) hx hb dX1_openDayAfter_3 hl (by decide) rfl (fun ls hl => ?_)
  have loop : ∀ (j i a : Nat), (i + j = k0) → (a + 131 * j < 1073740000) → (addB d nh j a = addB d nh k0 n) → ∀ ls : Array Slot, lv_has ls 5 [(4, .int (nI i)), (3, .int (nI a)), (0, .ref ca), (1, .int x), (2, .int y)] → W p l e { frames := 3, cells := 0, slots := 0, locals := 69 } s m ([.ref ca, .int x, .int y] : List Value).toArray below meth c s.heap [] 0 0 (RQ below ([.ref ca, .int x, .int y] : List Value).toArray s (some (.int (nI (addB d nh k0 n))))) (F0 m 5 ls []) := by
    intro j
    induction j with
    | zero =>
      intro i a z1 z2 z3 ls hl
      refine lv_iload hx hb dX1_openDayAfter_5 (lv_at hl 0 rfl) ?_
      refine lv_iload_n hx hb dX1_openDayAfter_7 rfl (lv_at hl 4 rfl) ?_
      refine lv_icmp_ge (tgt := 25) hx hb dX1_openDayAfter_8 (by decide) (fun c_8 => ?_) (fun c_8 => ?_)
      · have c_8 : k0 ≤ i := (nLE (x := y) (y := (nI i)) (a := k0) (b := i) ey rfl (by omega) (by omega)).mp c_8
        refine lv_iload_n hx hb dX1_openDayAfter_25 rfl (lv_at hl 1 rfl) ?_
        exact rd_int E hr hk (by rw [← z3]; rfl) dX1_openDayAfter_26
      · have c_8 : ¬ k0 ≤ i := fun z9 => c_8 ((nLE (x := y) (y := (nI i)) (a := k0) (b := i) ey rfl (by omega) (by omega)).mpr z9)
        omega
    | succ j ih =>
      intro i a z1 z2 z3 ls hl
      have hb9 := ext_bound d hh (n := a + 1) (by omega)
      refine lv_iload hx hb dX1_openDayAfter_5 (lv_at hl 0 rfl) ?_
      refine lv_iload_n hx hb dX1_openDayAfter_7 rfl (lv_at hl 4 rfl) ?_
      refine lv_icmp_ge (tgt := 25) hx hb dX1_openDayAfter_8 (by decide) (fun c_8 => ?_) (fun c_8 => ?_)
      · have c_8 : k0 ≤ i := (nLE (x := y) (y := (nI i)) (a := k0) (b := i) ey rfl (by omega) (by omega)).mp c_8
        omega
      · have c_8 : ¬ k0 ≤ i := fun z9 => c_8 ((nLE (x := y) (y := (nI i)) (a := k0) (b := i) ey rfl (by omega) (by omega)).mpr z9)
        refine lv_aload_n hx hb dX1_openDayAfter_11 rfl (lv_at hl 2 rfl) ?_
        refine lv_iload_n hx hb dX1_openDayAfter_12 rfl (lv_at hl 1 rfl) ?_
        refine lv_iconst (v := 1) hx hb dX1_openDayAfter_13 rfl ?_
        refine lv_iadd hx hb dX1_openDayAfter_14 ?_
        refine Rd.callV (rest := []) (c_X1_firstOpen l G ((nI a) + 1) (a + 1) (nI_ad rfl rfl) (by omega) hh) yk_X1_firstOpen E km_X1_32 dX1_openDayAfter_15 hG hE hP (At.recv hG hP.1 rfl) rfl rfl hl.1 ⟨Nat.le_of_ble_eq_true rfl, Nat.le_of_ble_eq_true rfl⟩ ⟨Nat.zero_le _, Nat.zero_le _⟩ (Nat.le_of_ble_eq_true rfl) ?_
        refine lv_istore_n (lv' := [(3, .int (nI (ext d nh (a + 1)))), (4, .int (nI i)), (0, .ref ca), (1, .int x), (2, .int y)]) hx hb dX1_openDayAfter_18 rfl hl (by decide) rfl (fun ls hl => ?_)
        refine lv_iinc (v := (nI (i + 1))) (lv' := [(4, .int (nI (i + 1))), (3, .int (nI (ext d nh (a + 1)))), (0, .ref ca), (1, .int x), (2, .int y)]) hx hb dX1_openDayAfter_19 hl (k := 1) rfl (nI_ad rfl rfl) (by decide) rfl (fun ls hl => ?_)
        refine lv_goto (tgt := 5) hx hb dX1_openDayAfter_22 (by decide) ?_
        exact ih (i + 1) (ext d nh (a + 1)) (by omega) (by omega) z3 ls (lv_sub hl [0, 1, 2, 3, 4] rfl)
  exact loop k0 0 n (by omega) (by omega) rfl ls (lv_sub hl [0, 1, 2, 3, 4] rfl)

set_option maxHeartbeats 4000000 in
set_option maxRecDepth 100000 in
/-- workdaysBefore(n) -/
theorem c_X1_workdaysBefore (l : Launch) (G : CG) (x : Int32) (n : Nat) (ex : x = nI n) (hn : n < 1000000) : Rd l yX1_workdaysBefore cX1_workdaysBefore 1 ((Option.some FieldType.int)) 1 30 G [.int x] (fun _ => True) (some (.int (nI (wd n)))) := by
  refine Rd.ofW (by decide) (Nat.le_of_ble_eq_true rfl) (fun p e s m below meth c ls E hG hE hP hr hk hl => ?_)
  have hx := E.1
  have hb := E.2.1
  have hl : lv_has ls 1 [(0, .int x)] := hl
  refine lv_iload_n hx hb dX1_workdaysBefore_0 rfl (lv_at hl 0 rfl) ?_
  refine lv_bipush (v := 7) hx hb dX1_workdaysBefore_1 rfl ?_
  refine lv_idiv hx hb dX1_workdaysBefore_3 (by decide) ?_
  refine lv_iconst (v := 5) hx hb dX1_workdaysBefore_4 rfl ?_
  refine lv_imul hx hb dX1_workdaysBefore_5 ?_
  refine lv_iload_n hx hb dX1_workdaysBefore_6 rfl (lv_at hl 0 rfl) ?_
  refine lv_bipush (v := 7) hx hb dX1_workdaysBefore_7 rfl ?_
  refine lv_irem hx hb dX1_workdaysBefore_9 (by decide) ?_
  refine lv_iconst (v := 5) hx hb dX1_workdaysBefore_10 rfl ?_
  refine g_mmin (rest := [.int ((x / 7) * 5)]) E km_X1_39 dX1_workdaysBefore_11 (Nat.le_of_ble_eq_true rfl) (Nat.le_of_ble_eq_true rfl) ⟨Nat.le_of_ble_eq_true rfl, Nat.le_of_ble_eq_true rfl⟩ hl.1 ?_
  refine lv_iadd hx hb dX1_workdaysBefore_14 ?_
  exact rd_int E hr hk (by rw [nR7 ex (by omega), nD7 ex (by omega), show jmin (nI (n % 7)) 5 = nI (min (n % 7) 5) from jmin_nI (a := n % 7) (b := 5) (by omega) (by omega)]; unfold wd; rw [← nI_add, ← pk_mul]; rfl) dX1_workdaysBefore_15

set_option maxHeartbeats 4000000 in
set_option maxRecDepth 100000 in
/-- openDays(a, b) -/
theorem c_X1_openDays (l : Launch) (G : CG) {ca ho : Nat} {d : Nat → Int32} {nh : Nat} (x y : Int32) (a b : Nat) (ex : x = nI a) (ey : y = nI b) (ha : a ≤ 9999) (hb8 : b ≤ 9999) (hh : nh ≤ 16) (hr1 : ∀ j, j < nh → ∃ h, h ≤ 999 ∧ d (6 + j) = nI h) (hr2 : ∀ i j, i < nh → j < nh → d (6 + i) = d (6 + j) → i = j) : Rd l yX1_openDays cX1_openDays 8 ((Option.some FieldType.int)) 2 50 G [.ref ca, .int x, .int y] (fun H9 => At G ca (.inr (1, [.ref ho])) H9 ∧ At G ho (iA G nh (fun k9 => d (6 + k9))) H9) (some (.int (nI (cntB d nh a (b - a))))) := by
  refine Rd.ofW (by decide) (Nat.le_of_ble_eq_true rfl) (fun p e s m below meth c ls E hG hE hP hr hk hl => ?_)
  have hx := E.1
  have hb := E.2.1
  have hl : lv_has ls 8 [(0, .ref ca), (1, .int x), (2, .int y)] := hl
  refine lv_iload_n hx hb dX1_openDays_0 rfl (lv_at hl 2 rfl) ?_
  refine lv_iload_n hx hb dX1_openDays_1 rfl (lv_at hl 1 rfl) ?_
  refine lv_icmp_ge (tgt := 7) hx hb dX1_openDays_2 (by decide) (fun c_2 => ?_) (fun c_2 => ?_)
  · have c_2 : a ≤ b := (nLE (x := x) (y := y) (a := a) (b := b) ex ey (by omega) (by omega)).mp c_2
    refine lv_iload_n hx hb dX1_openDays_7 rfl (lv_at hl 2 rfl) ?_
    refine Rd.callS (rest := []) (c_X1_workdaysBefore l G y b ey (by omega)) yk_X1_workdaysBefore E km_X1_36 dX1_openDays_8 hG hE trivial rfl rfl hl.1 ⟨Nat.le_of_ble_eq_true rfl, Nat.le_of_ble_eq_true rfl⟩ ⟨Nat.zero_le _, Nat.zero_le _⟩ (Nat.le_of_ble_eq_true rfl) ?_
    refine lv_iload_n hx hb dX1_openDays_11 rfl (lv_at hl 1 rfl) ?_
    refine Rd.callS (rest := [.int (nI (wd b))]) (c_X1_workdaysBefore l G x a ex (by omega)) yk_X1_workdaysBefore E km_X1_36 dX1_openDays_12 hG hE trivial rfl rfl hl.1 ⟨Nat.le_of_ble_eq_true rfl, Nat.le_of_ble_eq_true rfl⟩ ⟨Nat.zero_le _, Nat.zero_le _⟩ (Nat.le_of_ble_eq_true rfl) ?_
    refine lv_isub hx hb dX1_openDays_15 ?_
    refine lv_istore_n (lv' := [(3, .int ((nI (wd b)) - (nI (wd a)))), (0, .ref ca), (1, .int x), (2, .int y)]) hx hb dX1_openDays_16 rfl hl (by decide) rfl (fun ls hl => ?_)
    refine lv_aload_n hx hb dX1_openDays_17 rfl (lv_at hl 1 rfl) ?_
    refine gf_X1_7 E hG hP.1 rfl dX1_openDays_18 ?_
    refine lv_astore (lv' := [(4, .ref ho), (3, .int ((nI (wd b)) - (nI (wd a)))), (0, .ref ca), (1, .int x), (2, .int y)]) hx hb dX1_openDays_21 hl (by decide) rfl (fun ls hl => ?_)
    refine lv_aload hx hb dX1_openDays_23 (lv_at hl 0 rfl) ?_
    refine g_len (t0 := 1) (v := (nI nh)) E hG hP.2 rfl rfl dX1_openDays_25 ?_
    refine lv_istore (lv' := [(5, .int (nI nh)), (4, .ref ho), (3, .int ((nI (wd b)) - (nI (wd a)))), (0, .ref ca), (1, .int x), (2, .int y)]) hx hb dX1_openDays_26 hl (by decide) rfl (fun ls hl => ?_)
    refine lv_iconst (v := 0) hx hb dX1_openDays_28 rfl ?_
    refine lv_ci (y := nI 0) (ixq rfl) ?_
    refine lv_istore (lv' := [(6, .int (nI 0)), (5, .int (nI nh)), (4, .ref ho), (3, .int ((nI (wd b)) - (nI (wd a)))), (0, .ref ca), (1, .int x), (2, .int y)]) hx hb dX1_openDays_29 hl (by decide) rfl (fun ls hl => ?_)
    have loop : ∀ (j k : Nat), (nh < k + j) → (k ≤ nh) → ∀ ls : Array Slot, lv_has ls 8 [(6, .int (nI k)), (5, .int (nI nh)), (4, .ref ho), (3, .int (hcV d a b k)), (0, .ref ca), (1, .int x), (2, .int y)] → W p l e { frames := 2, cells := 0, slots := 0, locals := 50 } s m ([.ref ca, .int x, .int y] : List Value).toArray below meth c s.heap [] 0 0 (RQ below ([.ref ca, .int x, .int y] : List Value).toArray s (some (.int (nI (cntB d nh a (b - a)))))) (F0 m 31 ls []) := by
      intro j
      induction j with
      | zero => intro k z1 z2; omega
      | succ j ih =>
        intro k z1 z2 ls hl
        refine lv_iload hx hb dX1_openDays_31 (lv_at hl 0 rfl) ?_
        refine lv_iload hx hb dX1_openDays_33 (lv_at hl 1 rfl) ?_
        refine lv_icmp_ge (tgt := 74) hx hb dX1_openDays_35 (by decide) (fun c_35 => ?_) (fun c_35 => ?_)
        · have c_35 : nh ≤ k := (nLE (x := (nI nh)) (y := (nI k)) (a := nh) (b := k) rfl rfl (by omega) (by omega)).mp c_35
          have e9 : nh = k := by omega
          subst e9
          refine lv_iload_n hx hb dX1_openDays_74 rfl (lv_at hl 3 rfl) ?_
          exact rd_int E hr hk (by rw [hcV_cnt (by omega) (by omega) hr1 hr2]) dX1_openDays_75
        · have c_35 : ¬ nh ≤ k := fun z9 => c_35 ((nLE (x := (nI nh)) (y := (nI k)) (a := nh) (b := k) rfl rfl (by omega) (by omega)).mpr z9)
          obtain ⟨h9, hh9, he9⟩ := hr1 k (by omega)
          refine lv_aload hx hb dX1_openDays_38 (lv_at hl 2 rfl) ?_
          refine lv_iload hx hb dX1_openDays_40 (lv_at hl 0 rfl) ?_
          refine g_ild k E hG hP.2 rfl (by omega) (by omega) dX1_openDays_42 ?_
          refine lv_ci (y := (d (6 + k))) (rfl) ?_
          refine lv_istore (lv' := [(7, .int (d (6 + k))), (6, .int (nI k)), (5, .int (nI nh)), (4, .ref ho), (3, .int (hcV d a b k)), (0, .ref ca), (1, .int x), (2, .int y)]) hx hb dX1_openDays_43 hl (by decide) rfl (fun ls hl => ?_)
          refine W.cutL (nL := 8) (pc := 68) (lv := [(7, .int (d (6 + k))), (6, .int (nI k)), (5, .int (nI nh)), (4, .ref ho), (3, .int (hcV d a b (k + 1))), (0, .ref ca), (1, .int x), (2, .int y)]) (st := []) (fun K => ?_) (fun ls hl => ?_)
          · refine lv_iload hx hb dX1_openDays_45 (lv_at hl 0 rfl) ?_
            refine lv_iload_n hx hb dX1_openDays_47 rfl (lv_at hl 6 rfl) ?_
            refine lv_icmp_lt (tgt := 68) hx hb dX1_openDays_48 (by decide) (fun c_48 => ?_) (fun c_48 => ?_)
            · exact K ls (by rw [show hcV d a b (k + 1) = (hcV d a b k) from (show hcT d a b k (hcV d a b k) = (hcV d a b k) by unfold hcT; rw [he9, nI_clamp (by omega)] ; rw [he9, ex] at c_48; first | (simp only [c_48, ↓reduceIte, not_true_eq_false, not_false_eq_true]; done) | (simp [c_48]; done))]; exact (lv_sub hl [0, 1, 2, 3, 4, 5, 6, 7] rfl))
            · refine lv_iload hx hb dX1_openDays_51 (lv_at hl 0 rfl) ?_
              refine lv_iload_n hx hb dX1_openDays_53 rfl (lv_at hl 7 rfl) ?_
              refine lv_icmp_ge (tgt := 68) hx hb dX1_openDays_54 (by decide) (fun c_54 => ?_) (fun c_54 => ?_)
              · exact K ls (by rw [show hcV d a b (k + 1) = (hcV d a b k) from (show hcT d a b k (hcV d a b k) = (hcV d a b k) by unfold hcT; rw [he9, nI_clamp (by omega)] ; rw [he9, ex] at c_48; rw [he9, ey] at c_54; first | (simp only [c_48, c_54, ↓reduceIte, not_true_eq_false, not_false_eq_true]; done) | (simp [c_48, c_54]; done))]; exact (lv_sub hl [0, 1, 2, 3, 4, 5, 6, 7] rfl))
              · refine lv_iload hx hb dX1_openDays_57 (lv_at hl 0 rfl) ?_
                refine Rd.callS (rest := []) (c_X1_isWeekend l G (d (6 + k)) h9 he9 (by omega)) yk_X1_isWeekend E km_X1_22 dX1_openDays_59 hG hE trivial rfl rfl hl.1 ⟨Nat.le_of_ble_eq_true rfl, Nat.le_of_ble_eq_true rfl⟩ ⟨Nat.zero_le _, Nat.zero_le _⟩ (Nat.le_of_ble_eq_true rfl) ?_
                refine lv_if_ne (tgt := 68) hx hb dX1_openDays_62 (by decide) (fun c_62 => ?_) (fun c_62 => ?_)
                · exact K ls (by rw [show hcV d a b (k + 1) = (hcV d a b k) from (show hcT d a b k (hcV d a b k) = (hcV d a b k) by unfold hcT; rw [he9, nI_clamp (by omega)] ; rw [he9, ex] at c_48; rw [he9, ey] at c_54; first | (simp only [c_48, c_54, c_62, ↓reduceIte, not_true_eq_false, not_false_eq_true]; done) | (simp [c_48, c_54, c_62]; done))]; exact (lv_sub hl [0, 1, 2, 3, 4, 5, 6, 7] rfl))
                · refine lv_iinc (v := ((hcV d a b k) + (-1))) (lv' := [(3, .int ((hcV d a b k) + (-1))), (7, .int (d (6 + k))), (6, .int (nI k)), (5, .int (nI nh)), (4, .ref ho), (0, .ref ca), (1, .int x), (2, .int y)]) hx hb dX1_openDays_65 hl (k := 4) rfl rfl (by decide) rfl (fun ls hl => ?_)
                  exact K ls (by rw [show hcV d a b (k + 1) = ((hcV d a b k) + (-1)) from (show hcT d a b k (hcV d a b k) = ((hcV d a b k) + (-1)) by unfold hcT; rw [he9, nI_clamp (by omega)] ; rw [he9, ex] at c_48; rw [he9, ey] at c_54; first | (simp only [c_48, c_54, c_62, ↓reduceIte, not_true_eq_false, not_false_eq_true]; done) | (simp [c_48, c_54, c_62]; done))]; exact (lv_sub hl [1, 2, 3, 4, 0, 5, 6, 7] rfl))
          refine lv_iinc (v := (nI (k + 1))) (lv' := [(6, .int (nI (k + 1))), (7, .int (d (6 + k))), (5, .int (nI nh)), (4, .ref ho), (3, .int (hcV d a b (k + 1))), (0, .ref ca), (1, .int x), (2, .int y)]) hx hb dX1_openDays_68 hl (k := 1) rfl (nI_ad rfl rfl) (by decide) rfl (fun ls hl => ?_)
          refine lv_goto (tgt := 31) hx hb dX1_openDays_71 (by decide) ?_
          exact ih (k + 1) (by omega) (by omega) ls (lv_sub hl [0, 2, 3, 4, 5, 6, 7] rfl)
    exact loop (nh + 1) 0 (by omega) (by omega) ls (lv_sub hl [0, 1, 2, 3, 4, 5, 6] rfl)
  · have c_2 : ¬ a ≤ b := fun z9 => c_2 ((nLE (x := x) (y := y) (a := a) (b := b) ex ey (by omega) (by omega)).mpr z9)
    refine lv_iconst (v := 0) hx hb dX1_openDays_5 rfl ?_
    exact rd_int E hr hk (by rw [show b - a = 0 by omega]; rfl) dX1_openDays_6
