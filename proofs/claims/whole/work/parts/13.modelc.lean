/-! what holds of the data at all times -/
def CrOk (d : Nat → Int32) (c : Nat) : Prop := ∃ ex pe te nd : Nat, d (cP c + 3) = nI ex ∧ ex ≤ 999 ∧ d (cP c + 5) = nI pe ∧ pe ≤ 60 ∧ d (cP c + 6) = nI te ∧ te ≤ 180 ∧ d (cP c + 9) = nI nd ∧ nd < 256 ∧ (d (cP c + 7) = 0 ∨ d (cP c + 7) = 1) ∧ (d (cP c + 8) = 0 ∨ d (cP c + 8) = 1)
def PrOk (d : Nat → Int32) (nc p : Nat) : Prop := ∃ cr dy am fa si : Nat, d (pP p) = nI cr ∧ cr < nc ∧ d (pP p + 1) = nI dy ∧ dy ≤ 9000 ∧ d (pP p + 2) = nI am ∧ 1 ≤ am ∧ am ≤ 1999999 ∧ d (pP p + 3) = nI fa ∧ fa < 128 ∧ d (pP p + 5) = nI si ∧ si ≤ 9000
def OkD (d : Nat → Int32) (nc np nh : Nat) : Prop := (d 0 = nI nc ∧ nc ≤ 12) ∧ (d 1 = nI np ∧ np ≤ 24) ∧ (d 2 = nI nh ∧ nh ≤ 16) ∧ (∃ td, td ≤ 9000 ∧ d 3 = nI td) ∧ (∀ c, c < nc → CrOk d c) ∧ (∀ p, p < np → PrOk d nc p) ∧ (∀ k, k < nh → ∃ h, h ≤ 999 ∧ d (6 + k) = nI h) ∧ ∀ i j, i < nh → j < nh → d (6 + i) = d (6 + j) → i = j
/-- a presentation's due day -/
def dueD (d : Nat → Int32) (nh p : Nat) : Int32 := if ¬ d (pP p + 4) = 2 then (-1) else nI (ext d nh ((d (pP p + 5)).toNatClampNeg + (d (cP (d (pP p)).toNatClampNeg + 6)).toNatClampNeg))
theorem dueV_D {d : Nat → Int32} {nh k cr si te : Nat} (h1 : d (pP k) = nI cr) (h2 : cr < 12) (h3 : d (pP k + 5) = nI si) (h4 : si < 1000000) (h5 : d (cP cr + 6) = nI te) (h6 : te < 1000) : dueV d nh k si te = dueD d nh k := by
  unfold dueV dueD
  rw [h1, h3, nI_clamp (by omega), nI_clamp (by omega), h5, nI_clamp (by omega)]
/-- business days among the n days from a on -/
def cntB (d : Nat → Int32) (nh a : Nat) : Nat → Nat
  | 0 => 0
  | n + 1 => cntB d nh a n + if biz d nh (a + n) = true then 1 else 0
theorem cntB_le (d : Nat → Int32) (nh a : Nat) : ∀ n, cntB d nh a n ≤ n
  | 0 => Nat.le_refl _
  | n + 1 => by
    have := cntB_le d nh a n
    unfold cntB
    split <;> omega
def dueT (d : Nat → Int32) (nh : Nat) (a b : Int32) (p : Nat) (v : Int64) : Int64 := if dueD d nh p = (-1) then v else if dueD d nh p < a then v else if b < dueD d nh p then v else v + (d (pP p + 2)).toInt64
def dueS (d : Nat → Int32) (nh : Nat) (a b : Int32) : Nat → Int64
  | 0 => 0
  | p + 1 => dueT d nh a b p (dueS d nh a b p)
def ckC (d : Nat → Int32) (np nc : Nat) : Nat → Int64
  | 0 => (d 3).toInt64
  | c + 1 => 31 * (31 * (31 * ckC d np nc c + (d (cP c + 10)).toInt64) + (drawnV d (nI c) np).toInt64) + (availV d np nc c).toInt64
def ckP (d : Nat → Int32) (np nc nh : Nat) : Nat → Int64
  | 0 => ckC d np nc nc
  | p + 1 => 31 * (31 * (31 * (31 * ckP d np nc nh p + (d (pP p)).toInt64) + (d (pP p + 4)).toInt64) + (d (pP p + 3)).toInt64) + (dueD d nh p).toInt64
/-- the history behind a change: its rows, its depth -/
def remH (hi : Nat → Nat → Int32) (da : Nat → Int32) (u : Nat) : Nat → Nat → Int32 := if u = 8 then (fun j => if j < 7 then hi (j + 1) else da) else va_up hi u da
def remU (u : Nat) : Nat := if u = 8 then 8 else u + 1
theorem MW.lt {G : CG} {B : Nat → Nat} {f bf da dr : Nat → Int32} {hi : Nat → Nat → Int32} {sk : Nat → Int64} {H : Heap} (h : MW G B f bf da dr hi sk H) : ∀ i, i < 14 → B i < H.size := by
  intro i hi9
  rcases (show i = 0 ∨ i = 1 ∨ i = 2 ∨ i = 3 ∨ i = 4 ∨ i = 5 ∨ ∃ k, k < 8 ∧ i = 6 + k by
    by_cases h6 : 6 ≤ i
    · exact Or.inr (Or.inr (Or.inr (Or.inr (Or.inr (Or.inr ⟨i - 6, by omega, by omega⟩)))))
    · omega) with e | e | e | e | e | e | ⟨k, hk, e⟩ <;> subst e
  · exact va_at.lt h.1
  · exact va_at.lt h.2.1
  · exact va_at.lt h.2.2.1
  · exact va_at.lt h.2.2.2.1
  · exact va_at.lt h.2.2.2.2.1
  · exact va_at.lt h.2.2.2.2.2.1
  · exact va_at.lt (h.2.2.2.2.2.2 k hk)
theorem At.congr {G : CG} {a n : Nat} {f g : Nat → Int32} {H : Heap} (h : At G a (iA G n f) H) (e : ∀ j, j < n → f j = g j) : At G a (iA G n g) H := by
  show H[a]? = some (vp_cell _ _)
  have h : H[a]? = some (vp_cell _ _) := h
  rw [h, vp_cell_i, vp_cell_i]
  congr 1
  unfold arrV
  congr 1
  apply Array.ext
  · simp
  · intro i h1 h2
    simp at h1
    simp [e i h1]
theorem MW.histC {G : CG} {B : Nat → Nat} {f bf da dr : Nat → Int32} {hi hi' : Nat → Nat → Int32} {sk : Nat → Int64} {H : Heap} (h : MW G B f bf da dr hi sk H) (e : ∀ k, k < 8 → hi k = hi' k) : MW G B f bf da dr hi' sk H := ⟨h.1, h.2.1, h.2.2.1, h.2.2.2.1, h.2.2.2.2.1, h.2.2.2.2.2.1, fun k hk => by rw [← e k hk]; exact h.2.2.2.2.2.2 k hk⟩
/-- H1 is H, but one cell of the reference's -/
theorem MW.oqB {G : CG} {B : Nat → Nat} {f bf da dr : Nat → Int32} {hi : Nat → Nat → Int32} {sk : Nat → Int64} {H H1 : Heap} {r : Nat} (h : MW G B f bf da dr hi sk H) (hk : ∀ q : Nat, q < H.size → ¬ q = B r → H1[q]? = H[q]?) : ∀ i, i < 14 → B i ≠ B r → H1[B i]? = H[B i]? := fun i h1 h2 => hk _ (h.lt i h1) h2
theorem MW.setH2 {G : CG} {B : Nat → Nat} {f bf da dr row : Nat → Int32} {hi : Nat → Nat → Int32} {sk : Nat → Int64} {H H1 : Heap} {r : Nat} (h : MW G B f bf da dr hi sk H) (hD : MD G B) (hr : r < 8) (ho : At G (B (6 + r)) (iA G 1798 row) H1) (hk : ∀ q : Nat, q < H.size → ¬ q = B (6 + r) → H1[q]? = H[q]?) : MW G B f bf da dr (va_up hi r row) sk H1 := by
  have oq := h.oqB hk
  refine ⟨va_at.kept h.1 (oq 0 (by decide) (hD.ne (by decide) (by omega) (by omega))), va_at.kept h.2.1 (oq 1 (by decide) (hD.ne (by decide) (by omega) (by omega))), va_at.kept h.2.2.1 (oq 2 (by decide) (hD.ne (by decide) (by omega) (by omega))), va_at.kept h.2.2.2.1 (oq 3 (by decide) (hD.ne (by decide) (by omega) (by omega))), va_at.kept h.2.2.2.2.1 (oq 4 (by decide) (hD.ne (by decide) (by omega) (by omega))), va_at.kept h.2.2.2.2.2.1 (oq 5 (by decide) (hD.ne (by decide) (by omega) (by omega))), fun k hk => ?_⟩
  by_cases e : k = r
  · subst e
    show At G (B (6 + k)) (iA G 1798 (if k = k then row else hi k)) H1
    rw [if_pos rfl]
    exact ho
  · show At G (B (6 + k)) (iA G 1798 (if k = r then row else hi k)) H1
    rw [if_neg e]
    exact va_at.kept (h.2.2.2.2.2.2 k hk) (oq _ (by omega) (hD.ne (by omega) (by omega) (by omega)))
theorem MW.setD2 {G : CG} {B : Nat → Nat} {f bf da dr row : Nat → Int32} {hi : Nat → Nat → Int32} {sk : Nat → Int64} {H H1 : Heap} (h : MW G B f bf da dr hi sk H) (hD : MD G B) (ho : At G (B 2) (iA G 1798 row) H1) (hk : ∀ q : Nat, q < H.size → ¬ q = B 2 → H1[q]? = H[q]?) : MW G B f bf row dr hi sk H1 := by
  have oq := h.oqB hk
  exact ⟨va_at.kept h.1 (oq 0 (by decide) (hD.ne (by decide) (by omega) (by omega))), va_at.kept h.2.1 (oq 1 (by decide) (hD.ne (by decide) (by omega) (by omega))), ho, va_at.kept h.2.2.2.1 (oq 3 (by decide) (hD.ne (by decide) (by omega) (by omega))), va_at.kept h.2.2.2.2.1 (oq 4 (by decide) (hD.ne (by decide) (by omega) (by omega))), va_at.kept h.2.2.2.2.2.1 (oq 5 (by decide) (hD.ne (by decide) (by omega) (by omega))), fun k hk => va_at.kept (h.2.2.2.2.2.2 k hk) (oq _ (by omega) (hD.ne (by omega) (by omega) (by omega)))⟩
theorem rem_step {hh hi : Nat → Nat → Int32} {k : Nat} (hk : k < 7) (z : ∀ i, i < 8 → hh i = if i < k then hi (i + 1) else hi i) : ∀ i, i < 8 → va_up hh k (hh (k + 1)) i = if i < k + 1 then hi (i + 1) else hi i := by
  intro i h
  unfold va_up
  by_cases e : i = k
  · subst e
    rw [if_pos rfl, if_pos (by omega), z _ (by omega), if_neg (by omega)]
  · rw [if_neg e, z i h]
    by_cases e8 : i < k
    · rw [if_pos e8, if_pos (by omega)]
    · rw [if_neg e8, if_neg (by omega)]
def honD (da : Nat → Int32) (k : Nat) : Nat → Int32 := (upd (upd da ((154 + 6 * k) + 4) 2) ((154 + 6 * k) + 5) ((upd da ((154 + 6 * k) + 4) 2) 3))
def passD (da : Nat → Int32) (x : Int32) : Nat → Int32 := (upd da 3 ((da 3) + x))
def presD (da : Nat → Int32) (np nc nh ex1 pe1 k n : Nat) (x am dc ins : Int32) : Nat → Int32 := (upd (upd (upd (upd (upd (upd (upd da 1 ((da 1) + 1)) (154 + 6 * np) x) ((154 + 6 * np) + 1) ((upd (upd da 1 ((da 1) + 1)) (154 + 6 * np) x) 3)) ((154 + 6 * np) + 2) am) ((154 + 6 * np) + 3) (faultsV da np nc nh ex1 pe1 k n am dc ins)) ((154 + 6 * np) + 4) 0) ((154 + 6 * np) + 5) 0)
theorem honD_o {da : Nat → Int32} {k j : Nat} (h1 : j ≠ 154 + 6 * k + 4) (h2 : j ≠ 154 + 6 * k + 5) : honD da k j = da j := by unfold honD; simp [upd, h1, h2]
theorem honD_4 (da : Nat → Int32) (k : Nat) : honD da k (pP k + 4) = 2 := by unfold honD; simp [upd]
theorem honD_5 (da : Nat → Int32) (k : Nat) : honD da k (pP k + 5) = da 3 := by unfold honD; simp [upd]
def exV (da : Nat → Int32) (nh k dy : Nat) : Int32 := if da (pP k + 3) = 0 then 1 else if ¬ da (pP k + 3) &&& 4 = 0 then 0 else if da 3 ≤ nI (addB da nh 5 dy) then 0 else 1
/-- the bytes of five words, the most significant first -/
def apW (w0 w1 w2 w3 w4 : Int32) (k : Nat) : Int32 := if 4 ≤ k then (if 8 ≤ k then (if 12 ≤ k then (if 16 ≤ k then w4 else w3) else w2) else w1) else w0
def apB (w0 w1 w2 w3 w4 : Int32) (k : Nat) : Int32 := apW w0 w1 w2 w3 w4 k >>> ((24 - 8 * nI (k % 4)) &&& 31) &&& 255
def appF (bf : Nat → Int32) (b : Nat) (w0 w1 w2 w3 w4 : Int32) (i : Nat) : Nat → Int32 := fun j => if b ≤ j ∧ j < b + i then apB w0 w1 w2 w3 w4 (j - b) else bf j
theorem appF_s (bf : Nat → Int32) (b : Nat) (w0 w1 w2 w3 w4 : Int32) (i : Nat) : upd (appF bf b w0 w1 w2 w3 w4 i) (b + i) (apB w0 w1 w2 w3 w4 i) = appF bf b w0 w1 w2 w3 w4 (i + 1) := by
  funext j
  unfold upd appF
  by_cases e : j = b + i
  · subst e
    rw [if_pos rfl, if_pos (by omega)]
    congr 1
    omega
  · rw [if_neg e]
    by_cases h : b ≤ j ∧ j < b + i
    · rw [if_pos h, if_pos (by omega)]
    · rw [if_neg h, if_neg (by omega)]
/-- a credit made by a transfer -/
def trD (da : Nat → Int32) (nc k : Nat) (x am ei : Int32) : Nat → Int32 := fun j => if j = 0 then da 0 + 1 else if cP nc ≤ j ∧ j < cP nc + 11 then (if j = cP nc then am else if j = cP nc + 1 then 0 else if j = cP nc + 2 then 0 else if j = cP nc + 3 then ei else if j = cP nc + 4 then minV (da (cP k + 4)) ei else if j = cP nc + 8 then 0 else if j = cP nc + 10 then x else da (cP k + (j - cP nc))) else da j
set_option maxHeartbeats 4000000 in
set_option maxRecDepth 100000 in
/-- copy(from, to) -/
theorem c_X8_copy (l : Launch) (G : CG) (a b : Nat) (g h : Nat → Int32) (hne : a ≠ b) : Wr l yX8_copy cX8_copy 3 ((Option.none : Option FieldType)) 0 0 0 0 G [.ref a, .ref b] (fun H9 => At G a (iA G 1798 g) H9 ∧ At G b (iA G 1798 h) H9) (fun q9 => q9 = b) (fun v9 H9 => v9 = none ∧ At G b (iA G 1798 g) H9) := by
  refine Wr.ofW (by decide) (Nat.le_of_ble_eq_true rfl) (fun p e s m below meth c ls E hG hE hP hr hk hin hl => ?_)
  have hS : va_S (fun q9 => q9 = b) s.heap s.heap [] := va_S.rf
  have hx := E.1
  have hb := E.2.1
  have hl : lv_has ls 3 [(0, .ref a), (1, .ref b)] := hl
  obtain ⟨ha, hb9⟩ := hP
  refine lv_iconst (v := 0) hx hb dX8_copy_0 rfl ?_
  refine lv_ci (y := nI 0) (ixq rfl) ?_
  refine lv_istore_n (lv' := [(2, .int (nI 0)), (0, .ref a), (1, .ref b)]) hx hb dX8_copy_1 rfl hl (by decide) rfl (fun ls hl => ?_)
  have loop : ∀ (j k : Nat) (h : Nat → Int32), 1798 < k + j → k ≤ 1798 → (∀ i, i < k → h i = g i) → ∀ (H : Heap) (locs : List Loc), At G a (iA G 1798 g) H → At G b (iA G 1798 h) H → va_S (fun q9 => q9 = b) s.heap H locs → ∀ ls : Array Slot, lv_has ls 3 [(2, .int (nI k)), (0, .ref a), (1, .ref b)] → W p l e { frames := 0, cells := 0, slots := 0, locals := 0 } s m ([.ref a, .ref b] : List Value).toArray below meth c H locs 0 0 (WQ below ([.ref a, .ref b] : List Value).toArray s 0 0 (fun q9 => q9 = b) (fun v9 H9 => v9 = none ∧ At G b (iA G 1798 g) H9)) (F0 m 2 ls []) := by
    intro j
    induction j with
    | zero => intro k h z1 z2; omega
    | succ j ih =>
      intro k h z1 z2 z3 H locs ha hb9 hS ls hl
      refine lv_iload_n hx hb dX8_copy_2 rfl (lv_at hl 0 rfl) ?_
      refine lv_sipush (v := 1798) hx hb dX8_copy_3 rfl ?_
      refine lv_icmp_ge (tgt := 21) hx hb dX8_copy_6 (by decide) (fun c_6 => ?_) (fun c_6 => ?_)
      · have c_6 : 1798 ≤ k := (nLE (x := 1798) (y := (nI k)) (a := 1798) (b := k) rfl rfl (by omega) (by omega)).mp c_6
        exact wr_void E hr hk hS (by decide) (by decide) (⟨rfl, hb9.congr (fun j9 h9 => z3 j9 (by omega))⟩) dX8_copy_21
      · have c_6 : ¬ 1798 ≤ k := fun z9 => c_6 ((nLE (x := 1798) (y := (nI k)) (a := 1798) (b := k) rfl rfl (by omega) (by omega)).mpr z9)
        refine lv_aload_n hx hb dX8_copy_9 rfl (lv_at hl 2 rfl) ?_
        refine lv_iload_n hx hb dX8_copy_10 rfl (lv_at hl 0 rfl) ?_
        refine lv_aload_n hx hb dX8_copy_11 rfl (lv_at hl 1 rfl) ?_
        refine lv_iload_n hx hb dX8_copy_12 rfl (lv_at hl 0 rfl) ?_
        refine g_ild k E hG ha rfl (by omega) (by decide) dX8_copy_13 ?_
        refine g_ist k E hG hb9 rfl (by omega) (by decide) hS rfl dX8_copy_14 (fun H locs ho hz oq hS => ?_)
        refine lv_iinc (v := (nI (k + 1))) (lv' := [(2, .int (nI (k + 1))), (0, .ref a), (1, .ref b)]) hx hb dX8_copy_15 hl (k := 0) rfl (nI_ad rfl rfl) (by decide) rfl (fun ls hl => ?_)
        refine lv_goto (tgt := 2) hx hb dX8_copy_18 (by decide) ?_
        exact ih (k + 1) (upd h k (g k)) (by omega) (by omega) (fun i h9 => by by_cases e9 : i = k <;> simp [upd, e9]; exact z3 i (by omega)) _ _ (oth ha hne oq) ho hS ls (lv_sub hl [0, 1, 2] rfl)
  exact loop 1799 0 h (by omega) (by omega) (fun i h9 => by omega) _ _ ha hb9 hS ls (lv_sub hl [0, 1, 2] rfl)

set_option maxHeartbeats 4000000 in
set_option maxRecDepth 100000 in
/-- remember() -/
theorem c_X8_remember (l : Launch) (G : CG) {B : Nat → Nat} {t bl tl ps er ea eo ns ne se : Int32} {bf da dr : Nat → Int32} {hi : Nat → Nat → Int32} {sk : Nat → Int64} (hD : MD G B) (u : Nat) (hu : u ≤ 8) : Wr l yX8_remember cX8_remember 2 ((Option.none : Option FieldType)) 1 22 0 0 G [.ref (B 0)] (MW G B (fm t bl tl ps er ea eo (nI u) ns ne se) bf da dr hi sk) (MA B) (fun v9 H9 => v9 = none ∧ MW G B (fm t bl tl ps er ea eo (nI (remU u)) ns ne se) bf da dr (remH hi da u) sk H9) := by
  refine Wr.ofW (by decide) (Nat.le_of_ble_eq_true rfl) (fun p e s m below meth c ls E hG hE hP hr hk hin hl => ?_)
  have hS : va_S (MA B) s.heap s.heap [] := va_S.rf
  have hx := E.1
  have hb := E.2.1
  have hl : lv_has ls 2 [(0, .ref (B 0))] := hl
  refine lv_aload_n hx hb dX8_remember_0 rfl (lv_at hl 0 rfl) ?_
  refine gf_X8_242 (v := .int (nI u)) E hG hP.1 rfl dX8_remember_1 ?_
  refine lv_bipush (v := 8) hx hb dX8_remember_4 rfl ?_
  refine lv_icmp_ne (tgt := 50) hx hb dX8_remember_6 (by decide) (fun c_6 => ?_) (fun c_6 => ?_)
  · have c_6 : ¬ u = 8 := fun z9 => c_6 ((nEQ (x := (nI u)) (y := 8) (a := u) (b := 8) rfl rfl (by omega) (by omega)).mpr z9)
    refine lv_aload_n hx hb dX8_remember_50 rfl (lv_at hl 0 rfl) ?_
    refine gf_X8_17 (v := .ref (B 2)) E hG hP.1 rfl dX8_remember_51 ?_
    refine lv_aload_n hx hb dX8_remember_54 rfl (lv_at hl 0 rfl) ?_
    refine gf_X8_25 (v := .ref (B 4)) E hG hP.1 rfl dX8_remember_55 ?_
    refine lv_aload_n hx hb dX8_remember_58 rfl (lv_at hl 0 rfl) ?_
    refine gf_X8_242 (v := .int (nI u)) E hG hP.1 rfl dX8_remember_59 ?_
    refine g_aldA u E hG hP.2.2.2.2.1 rfl (by omega) dX8_remember_62 ?_
    refine Wr.callS (rest := []) (c_X8_copy l G (B 2) (B (6 + u)) da (hi u) (hD.ne (by omega) (by omega) (by omega))) yk_X8_copy E km_X8_163 dX8_remember_63 hG (hE.S hS hD.efa) ⟨hP.2.2.1, (hP.2.2.2.2.2.2 u (by omega))⟩ rfl rfl hl.1 ⟨Nat.le_of_ble_eq_true rfl, Nat.le_of_ble_eq_true rfl⟩ ⟨Nat.le_of_ble_eq_true rfl, Nat.le_of_ble_eq_true rfl⟩ (Nat.le_of_ble_eq_true rfl) hS (fun q9 h9 => ⟨(6 + u), by omega, h9⟩) (fun v9 H locs hq hz9 hfr9 hS => ?_)
    obtain ⟨rfl, ho⟩ := hq
    have hP : MW G B (fm t bl tl ps er ea eo (nI u) ns ne se) bf da dr (va_up hi u da) sk H := hP.setH2 hD (by omega) ho hfr9
    refine lv_aload_n hx hb dX8_remember_66 rfl (lv_at hl 0 rfl) ?_
    refine lv_dup hx hb dX8_remember_67 rfl ?_
    refine gf_X8_242 (v := .int (nI u)) E hG hP.1 rfl dX8_remember_68 ?_
    refine lv_iconst (v := 1) hx hb dX8_remember_71 rfl ?_
    refine lv_iadd hx hb dX8_remember_72 ?_
    refine lv_ci (y := nI (u + 1)) (nI_ad rfl rfl) ?_
    refine pf_X8_242 E hG hP.1 (Nat.le_of_ble_eq_true rfl) rfl rfl hS ⟨0, by decide, rfl⟩ dX8_remember_73 (fun H locs ho hz oq hS => ?_)
    have hP : MW G B (fm t bl tl ps er ea eo (nI (u + 1)) ns ne se) bf da dr (va_up hi u da) sk H := hP.setO hD ho oq
    exact wr_void E hr hk hS (by decide) (by decide) (by rw [show remU u = u + 1 from if_neg c_6, show remH hi da u = va_up hi u da from if_neg c_6]; exact ⟨rfl, hP⟩) dX8_remember_76
  · have c_6 : u = 8 := (nEQ (x := (nI u)) (y := 8) (a := u) (b := 8) rfl rfl (by omega) (by omega)).mp c_6
    refine lv_iconst (v := 1) hx hb dX8_remember_9 rfl ?_
    refine lv_ci (y := nI 1) (ixq rfl) ?_
    refine lv_istore_n (lv' := [(1, .int (nI 1)), (0, .ref (B 0))]) hx hb dX8_remember_10 rfl hl (by decide) rfl (fun ls hl => ?_)
    have loop : ∀ (j k : Nat) (hh : Nat → Nat → Int32), 8 < k + 1 + j → k ≤ 7 → (∀ i, i < 8 → hh i = if i < k then hi (i + 1) else hi i) → ∀ (H : Heap) (locs : List Loc), MW G B (fm t bl tl ps er ea eo (nI u) ns ne se) bf da dr hh sk H → va_S (MA B) s.heap H locs → ∀ ls : Array Slot, lv_has ls 2 [(1, .int (nI (k + 1))), (0, .ref (B 0))] → W p l e { frames := 1, cells := 0, slots := 0, locals := 22 } s m ([.ref (B 0)] : List Value).toArray below meth c H locs 0 0 (WQ below ([.ref (B 0)] : List Value).toArray s 0 0 (MA B) (fun v9 H9 => v9 = none ∧ MW G B (fm t bl tl ps er ea eo (nI (remU u)) ns ne se) bf da dr (remH hi da u) sk H9)) (F0 m 11 ls []) := by
      intro j
      induction j with
      | zero => intro k hh z1 z2; omega
      | succ j ih =>
        intro k hh z1 z2 z3 H locs hP hS ls hl
        refine lv_iload_n hx hb dX8_remember_11 rfl (lv_at hl 0 rfl) ?_
        refine lv_bipush (v := 8) hx hb dX8_remember_12 rfl ?_
        refine lv_icmp_ge (tgt := 40) hx hb dX8_remember_14 (by decide) (fun c_14 => ?_) (fun c_14 => ?_)
        · have c_14 : 8 ≤ k + 1 := (nLE (x := 8) (y := (nI (k + 1))) (a := 8) (b := k + 1) rfl rfl (by omega) (by omega)).mp c_14
          refine lv_aload_n hx hb dX8_remember_40 rfl (lv_at hl 1 rfl) ?_
          refine lv_dup hx hb dX8_remember_41 rfl ?_
          refine gf_X8_242 (v := .int (nI u)) E hG hP.1 rfl dX8_remember_42 ?_
          refine lv_iconst (v := 1) hx hb dX8_remember_45 rfl ?_
          refine lv_isub hx hb dX8_remember_46 ?_
          refine lv_ci (y := nI 7) (by rw [c_6]; decide) ?_
          refine pf_X8_242 E hG hP.1 (Nat.le_of_ble_eq_true rfl) rfl rfl hS ⟨0, by decide, rfl⟩ dX8_remember_47 (fun H locs ho hz oq hS => ?_)
          have hP : MW G B (fm t bl tl ps er ea eo (nI 7) ns ne se) bf da dr hh sk H := hP.setO hD ho oq
          refine lv_aload_n hx hb dX8_remember_50 rfl (lv_at hl 1 rfl) ?_
          refine gf_X8_17 (v := .ref (B 2)) E hG hP.1 rfl dX8_remember_51 ?_
          refine lv_aload_n hx hb dX8_remember_54 rfl (lv_at hl 1 rfl) ?_
          refine gf_X8_25 (v := .ref (B 4)) E hG hP.1 rfl dX8_remember_55 ?_
          refine lv_aload_n hx hb dX8_remember_58 rfl (lv_at hl 1 rfl) ?_
          refine gf_X8_242 (v := .int (nI 7)) E hG hP.1 rfl dX8_remember_59 ?_
          refine g_aldA 7 E hG hP.2.2.2.2.1 rfl (by omega) dX8_remember_62 ?_
          refine Wr.callS (rest := []) (c_X8_copy l G (B 2) (B (6 + 7)) da (hh 7) (hD.ne (by omega) (by omega) (by omega))) yk_X8_copy E km_X8_163 dX8_remember_63 hG (hE.S hS hD.efa) ⟨hP.2.2.1, (hP.2.2.2.2.2.2 7 (by omega))⟩ rfl rfl hl.1 ⟨Nat.le_of_ble_eq_true rfl, Nat.le_of_ble_eq_true rfl⟩ ⟨Nat.le_of_ble_eq_true rfl, Nat.le_of_ble_eq_true rfl⟩ (Nat.le_of_ble_eq_true rfl) hS (fun q9 h9 => ⟨(6 + 7), by omega, h9⟩) (fun v9 H locs hq hz9 hfr9 hS => ?_)
          obtain ⟨rfl, ho⟩ := hq
          have hP : MW G B (fm t bl tl ps er ea eo (nI 7) ns ne se) bf da dr (va_up hh 7 da) sk H := hP.setH2 hD (by omega) ho hfr9
          refine lv_aload_n hx hb dX8_remember_66 rfl (lv_at hl 1 rfl) ?_
          refine lv_dup hx hb dX8_remember_67 rfl ?_
          refine gf_X8_242 (v := .int (nI 7)) E hG hP.1 rfl dX8_remember_68 ?_
          refine lv_iconst (v := 1) hx hb dX8_remember_71 rfl ?_
          refine lv_iadd hx hb dX8_remember_72 ?_
          refine lv_ci (y := nI 8) (by decide) ?_
          refine pf_X8_242 E hG hP.1 (Nat.le_of_ble_eq_true rfl) rfl rfl hS ⟨0, by decide, rfl⟩ dX8_remember_73 (fun H locs ho hz oq hS => ?_)
          have hP : MW G B (fm t bl tl ps er ea eo (nI 8) ns ne se) bf da dr (va_up hh 7 da) sk H := hP.setO hD ho oq
          exact wr_void E hr hk hS (by decide) (by decide) (by rw [show remU u = 8 from if_pos c_6, show remH hi da u = (fun j => if j < 7 then hi (j + 1) else da) from if_pos c_6]; exact ⟨rfl, hP.histC (fun i h9 => by have e7 : k = 7 := (by omega); subst e7; by_cases e9 : i = 7 <;> simp [va_up, e9]; rw [z3 i h9]; simp [show i < 7 by omega])⟩) dX8_remember_76
        · have c_14 : ¬ 8 ≤ k + 1 := fun z9 => c_14 ((nLE (x := 8) (y := (nI (k + 1))) (a := 8) (b := k + 1) rfl rfl (by omega) (by omega)).mpr z9)
          refine lv_aload_n hx hb dX8_remember_17 rfl (lv_at hl 1 rfl) ?_
          refine gf_X8_25 (v := .ref (B 4)) E hG hP.1 rfl dX8_remember_18 ?_
          refine lv_iload_n hx hb dX8_remember_21 rfl (lv_at hl 0 rfl) ?_
          refine g_aldA (k + 1) E hG hP.2.2.2.2.1 rfl (by omega) dX8_remember_22 ?_
          refine lv_aload_n hx hb dX8_remember_23 rfl (lv_at hl 1 rfl) ?_
          refine gf_X8_25 (v := .ref (B 4)) E hG hP.1 rfl dX8_remember_24 ?_
          refine lv_iload_n hx hb dX8_remember_27 rfl (lv_at hl 0 rfl) ?_
          refine lv_iconst (v := 1) hx hb dX8_remember_28 rfl ?_
          refine lv_isub hx hb dX8_remember_29 ?_
          refine g_aldA k E hG hP.2.2.2.2.1 (nI_pred k) (by omega) dX8_remember_30 ?_
          refine Wr.callS (rest := []) (c_X8_copy l G (B (6 + k + 1)) (B (6 + k)) (hh (k + 1)) (hh k) (hD.ne (by omega) (by omega) (by omega))) yk_X8_copy E km_X8_163 dX8_remember_31 hG (hE.S hS hD.efa) ⟨(hP.2.2.2.2.2.2 (k + 1) (by omega)), (hP.2.2.2.2.2.2 k (by omega))⟩ rfl rfl hl.1 ⟨Nat.le_of_ble_eq_true rfl, Nat.le_of_ble_eq_true rfl⟩ ⟨Nat.le_of_ble_eq_true rfl, Nat.le_of_ble_eq_true rfl⟩ (Nat.le_of_ble_eq_true rfl) hS (fun q9 h9 => ⟨(6 + k), by omega, h9⟩) (fun v9 H locs hq hz9 hfr9 hS => ?_)
          obtain ⟨rfl, ho⟩ := hq
          have hP : MW G B (fm t bl tl ps er ea eo (nI u) ns ne se) bf da dr (va_up hh k (hh (k + 1))) sk H := hP.setH2 hD (by omega) ho hfr9
          refine lv_iinc (v := (nI (k + 1 + 1))) (lv' := [(1, .int (nI (k + 1 + 1))), (0, .ref (B 0))]) hx hb dX8_remember_34 hl (k := 0) rfl (nI_ad rfl rfl) (by decide) rfl (fun ls hl => ?_)
          refine lv_goto (tgt := 11) hx hb dX8_remember_37 (by decide) ?_
          exact ih (k + 1) (va_up hh k (hh (k + 1))) (by omega) (by omega) (rem_step (by omega) z3) _ _ hP hS ls (lv_sub hl [0, 1] rfl)
    exact loop 8 0 hi (by omega) (by omega) (fun i _ => by simp) _ _ hP hS ls (lv_sub hl [0, 1] rfl)

set_option maxHeartbeats 4000000 in
set_option maxRecDepth 100000 in
/-- undo() -/
theorem c_X8_undo (l : Launch) (G : CG) {B : Nat → Nat} {t bl tl ps er ea eo ns ne se : Int32} {bf da dr : Nat → Int32} {hi : Nat → Nat → Int32} {sk : Nat → Int64} (hD : MD G B) (u : Nat) (hu : u ≤ 7) : Wr l yX8_undo cX8_undo 1 ((Option.some FieldType.int)) 1 22 0 0 G [.ref (B 0)] (MW G B (fm t bl tl ps er ea eo (nI (u + 1)) ns ne se) bf da dr hi sk) (MA B) (fun v9 H9 => v9 = some (.int (nI u)) ∧ MW G B (fm 0 bl tl ps er ea eo (nI u) ns ne se) bf (hi u) dr hi sk H9) := by
  refine Wr.ofW (by decide) (Nat.le_of_ble_eq_true rfl) (fun p e s m below meth c ls E hG hE hP hr hk hin hl => ?_)
  have hS : va_S (MA B) s.heap s.heap [] := va_S.rf
  have hx := E.1
  have hb := E.2.1
  have hl : lv_has ls 1 [(0, .ref (B 0))] := hl
  refine lv_aload_n hx hb dX8_undo_0 rfl (lv_at hl 0 rfl) ?_
  refine lv_iconst (v := 0) hx hb dX8_undo_1 rfl ?_
  refine pf_X8_32 E hG hP.1 (Nat.le_of_ble_eq_true rfl) rfl rfl hS ⟨0, by decide, rfl⟩ dX8_undo_2 (fun H locs ho hz oq hS => ?_)
  have hP : MW G B (fm 0 bl tl ps er ea eo (nI (u + 1)) ns ne se) bf da dr hi sk H := hP.setO hD ho oq
  refine lv_aload_n hx hb dX8_undo_5 rfl (lv_at hl 0 rfl) ?_
  refine gf_X8_242 (v := .int (nI (u + 1))) E hG hP.1 rfl dX8_undo_6 ?_
  refine lv_if_ne (tgt := 14) hx hb dX8_undo_9 (by decide) (fun c_9 => ?_) (fun c_9 => ?_)
  · refine lv_aload_n hx hb dX8_undo_14 rfl (lv_at hl 0 rfl) ?_
    refine lv_dup hx hb dX8_undo_15 rfl ?_
    refine gf_X8_242 (v := .int (nI (u + 1))) E hG hP.1 rfl dX8_undo_16 ?_
    refine lv_iconst (v := 1) hx hb dX8_undo_19 rfl ?_
    refine lv_isub hx hb dX8_undo_20 ?_
    refine lv_ci (y := nI u) (nI_pred u) ?_
    refine pf_X8_242 E hG hP.1 (Nat.le_of_ble_eq_true rfl) rfl rfl hS ⟨0, by decide, rfl⟩ dX8_undo_21 (fun H locs ho hz oq hS => ?_)
    have hP : MW G B (fm 0 bl tl ps er ea eo (nI u) ns ne se) bf da dr hi sk H := hP.setO hD ho oq
    refine lv_aload_n hx hb dX8_undo_24 rfl (lv_at hl 0 rfl) ?_
    refine gf_X8_25 (v := .ref (B 4)) E hG hP.1 rfl dX8_undo_25 ?_
    refine lv_aload_n hx hb dX8_undo_28 rfl (lv_at hl 0 rfl) ?_
    refine gf_X8_242 (v := .int (nI u)) E hG hP.1 rfl dX8_undo_29 ?_
    refine g_aldA u E hG hP.2.2.2.2.1 rfl (by omega) dX8_undo_32 ?_
    refine lv_aload_n hx hb dX8_undo_33 rfl (lv_at hl 0 rfl) ?_
    refine gf_X8_17 (v := .ref (B 2)) E hG hP.1 rfl dX8_undo_34 ?_
    refine Wr.callS (rest := []) (c_X8_copy l G (B (6 + u)) (B 2) (hi u) da (hD.ne (by omega) (by omega) (by omega))) yk_X8_copy E km_X8_163 dX8_undo_37 hG (hE.S hS hD.efa) ⟨(hP.2.2.2.2.2.2 u (by omega)), hP.2.2.1⟩ rfl rfl hl.1 ⟨Nat.le_of_ble_eq_true rfl, Nat.le_of_ble_eq_true rfl⟩ ⟨Nat.le_of_ble_eq_true rfl, Nat.le_of_ble_eq_true rfl⟩ (Nat.le_of_ble_eq_true rfl) hS (fun q9 h9 => ⟨2, by omega, h9⟩) (fun v9 H locs hq hz9 hfr9 hS => ?_)
    obtain ⟨rfl, ho⟩ := hq
    have hP : MW G B (fm 0 bl tl ps er ea eo (nI u) ns ne se) bf (hi u) dr hi sk H := hP.setD2 hD ho hfr9
    refine lv_aload_n hx hb dX8_undo_40 rfl (lv_at hl 0 rfl) ?_
    refine gf_X8_242 (v := .int (nI u)) E hG hP.1 rfl dX8_undo_41 ?_
    exact wr_int E hr hk hS (by decide) (by decide) (⟨rfl, hP⟩) dX8_undo_44
  · exact absurd c_9 (nI_ne0 (by omega) (by omega))

set_option maxHeartbeats 4000000 in
set_option maxRecDepth 100000 in
/-- undo() with nothing to undo -/
theorem c_X8_undo_0 (l : Launch) (G : CG) {B : Nat → Nat} {t bl tl ps er ea eo ns ne se : Int32} {bf da dr : Nat → Int32} {hi : Nat → Nat → Int32} {sk : Nat → Int64} (hD : MD G B)  : Wr l yX8_undo cX8_undo 1 ((Option.some FieldType.int)) 0 0 0 0 G [.ref (B 0)] (MW G B (fm t bl tl ps er ea eo 0 ns ne se) bf da dr hi sk) (MA B) (fun v9 H9 => v9 = some (.int (-1)) ∧ MW G B (fm 0 bl tl ps er ea eo 0 ns ne se) bf da dr hi sk H9) := by
  refine Wr.ofW (by decide) (Nat.le_of_ble_eq_true rfl) (fun p e s m below meth c ls E hG hE hP hr hk hin hl => ?_)
  have hS : va_S (MA B) s.heap s.heap [] := va_S.rf
  have hx := E.1
  have hb := E.2.1
  have hl : lv_has ls 1 [(0, .ref (B 0))] := hl
  refine lv_aload_n hx hb dX8_undo_0 rfl (lv_at hl 0 rfl) ?_
  refine lv_iconst (v := 0) hx hb dX8_undo_1 rfl ?_
  refine pf_X8_32 E hG hP.1 (Nat.le_of_ble_eq_true rfl) rfl rfl hS ⟨0, by decide, rfl⟩ dX8_undo_2 (fun H locs ho hz oq hS => ?_)
  have hP : MW G B (fm 0 bl tl ps er ea eo 0 ns ne se) bf da dr hi sk H := hP.setO hD ho oq
  refine lv_aload_n hx hb dX8_undo_5 rfl (lv_at hl 0 rfl) ?_
  refine gf_X8_242 (v := .int 0) E hG hP.1 rfl dX8_undo_6 ?_
  refine lv_if_ne (tgt := 14) hx hb dX8_undo_9 (by decide) (fun c_9 => ?_) (fun c_9 => ?_)
  · exact absurd c_9 (by decide)
  · refine lv_iconst (v := (-1)) hx hb dX8_undo_12 rfl ?_
    exact wr_int E hr hk hS (by decide) (by decide) (⟨rfl, hP⟩) dX8_undo_13

set_option maxHeartbeats 4000000 in
set_option maxRecDepth 100000 in
/-- isBusinessDay -/
theorem c_X8_isBusinessDay (l : Launch) (G : CG) {B : Nat → Nat} {t bl tl ps er ea eo ud ns ne se : Int32} {bf da dr : Nat → Int32} {hi : Nat → Nat → Int32} {sk : Nat → Int64} (hD : MD G B) (x : Int32) (n nh : Nat) (ex : x = nI n) (hn : n ≤ 9999) (hin8 : inV x 0 9999 = 1) (h2 : da 2 = nI nh) (hh : nh ≤ 16) : Wr l yX8_isBusinessDay cX8_isBusinessDay 2 ((Option.some FieldType.boolean)) 2 42 0 0 G [.ref (B 0), .int x] (MW G B (fm t bl tl ps er ea eo ud ns ne se) bf da dr hi sk) (MA B) (fun v9 H9 => v9 = some (.int (if biz da nh n = true then 1 else 0)) ∧ MW G B (fm 0 bl tl ps er ea eo ud ns ne se) bf da dr hi sk H9) := by
  refine Wr.ofW (by decide) (Nat.le_of_ble_eq_true rfl) (fun p e s m below meth c ls E hG hE hP hr hk hin hl => ?_)
  have hS : va_S (MA B) s.heap s.heap [] := va_S.rf
  have hx := E.1
  have hb := E.2.1
  have hl : lv_has ls 2 [(0, .ref (B 0)), (1, .int x)] := hl
  refine lv_aload_n hx hb dX8_isBusinessDay_0 rfl (lv_at hl 0 rfl) ?_
  refine lv_iconst (v := 0) hx hb dX8_isBusinessDay_1 rfl ?_
  refine pf_X8_32 E hG hP.1 (Nat.le_of_ble_eq_true rfl) rfl rfl hS ⟨0, by decide, rfl⟩ dX8_isBusinessDay_2 (fun H locs ho hz oq hS => ?_)
  have hP : MW G B (fm 0 bl tl ps er ea eo ud ns ne se) bf da dr hi sk H := hP.setO hD ho oq
  refine lv_aload_n hx hb dX8_isBusinessDay_5 rfl (lv_at hl 0 rfl) ?_
  refine lv_iload_n hx hb dX8_isBusinessDay_6 rfl (lv_at hl 1 rfl) ?_
  refine Rd.callS (rest := [.ref (B 0)]) (c_X8_isDay l G x) yk_X8_isDay E km_X8_173 dX8_isBusinessDay_7 hG (hE.S hS hD.efa) trivial rfl rfl hl.1 ⟨Nat.le_of_ble_eq_true rfl, Nat.le_of_ble_eq_true rfl⟩ ⟨Nat.zero_le _, Nat.zero_le _⟩ (Nat.le_of_ble_eq_true rfl) ?_
  refine lv_if_ne (tgt := 17) hx hb dX8_isBusinessDay_10 (by decide) (fun c_10 => ?_) (fun c_10 => ?_)
  · refine lv_iconst (v := 0) hx hb dX8_isBusinessDay_17 rfl ?_
    refine lv_iconst (v := 1) hx hb dX8_isBusinessDay_18 rfl ?_
    refine Wr.callV (rest := []) (c_X8_fails0 l G hD 1) yk_X8_fails E km_X8_153 dX8_isBusinessDay_19 hG (hE.S hS hD.efa) hP (At.recv hG hP.1 rfl) rfl rfl hl.1 ⟨Nat.le_of_ble_eq_true rfl, Nat.le_of_ble_eq_true rfl⟩ ⟨Nat.le_of_ble_eq_true rfl, Nat.le_of_ble_eq_true rfl⟩ (Nat.le_of_ble_eq_true rfl) hS (fun _ h9 => h9) (fun v9 H locs hq hz9 hfr9 hS => ?_)
    obtain ⟨rfl, hP⟩ := hq
    refine lv_if_ne (tgt := 37) hx hb dX8_isBusinessDay_22 (by decide) (fun c_22 => ?_) (fun c_22 => ?_)
    · exact absurd c_22 (by decide)
    · refine lv_aload_n hx hb dX8_isBusinessDay_25 rfl (lv_at hl 0 rfl) ?_
      refine lv_iload_n hx hb dX8_isBusinessDay_26 rfl (lv_at hl 1 rfl) ?_
      refine Rd.callV (rest := []) (c_X8_isBusiness l G x n nh ex (by omega) h2 hh) yk_X8_isBusiness E km_X8_167 dX8_isBusinessDay_27 hG (hE.S hS hD.efa) hP (At.recv hG hP.1 rfl) rfl rfl hl.1 ⟨Nat.le_of_ble_eq_true rfl, Nat.le_of_ble_eq_true rfl⟩ ⟨Nat.zero_le _, Nat.zero_le _⟩ (Nat.le_of_ble_eq_true rfl) ?_
      refine lv_if_eq (tgt := 37) hx hb dX8_isBusinessDay_30 (by decide) (fun c_30 => ?_) (fun c_30 => ?_)
      · refine lv_iconst (v := 0) hx hb dX8_isBusinessDay_37 rfl ?_
        exact wr_bool E hr hk hS (by decide) (by decide) (by first | exact Or.inl rfl | exact Or.inr rfl | (omega)) (⟨by by_cases z9 : biz da nh n = true <;> simp_all, hP⟩) dX8_isBusinessDay_38
      · refine lv_iconst (v := 1) hx hb dX8_isBusinessDay_33 rfl ?_
        refine lv_goto (tgt := 38) hx hb dX8_isBusinessDay_34 (by decide) ?_
        exact wr_bool E hr hk hS (by decide) (by decide) (by first | exact Or.inl rfl | exact Or.inr rfl | (omega)) (⟨by by_cases z9 : biz da nh n = true <;> simp_all, hP⟩) dX8_isBusinessDay_38
  · exact (by rw [hin8] at c_10; exact absurd c_10 (by decide))

set_option maxHeartbeats 4000000 in
set_option maxRecDepth 100000 in
/-- isBusinessDay -/
theorem c_X8_isBusinessDay_x (l : Launch) (G : CG) {B : Nat → Nat} {t bl tl ps er ea eo ud ns ne se : Int32} {bf da dr : Nat → Int32} {hi : Nat → Nat → Int32} {sk : Nat → Int64} (hD : MD G B) (x : Int32) (hin8 : inV x 0 9999 = 0) : Wr l yX8_isBusinessDay cX8_isBusinessDay 2 ((Option.some FieldType.boolean)) 2 42 0 0 G [.ref (B 0), .int x] (MW G B (fm t bl tl ps er ea eo ud ns ne se) bf da dr hi sk) (MA B) (fun v9 H9 => v9 = some (.int 0) ∧ MW G B (fm 1 bl tl ps er ea eo ud ns ne se) bf da dr hi sk H9) := by
  refine Wr.ofW (by decide) (Nat.le_of_ble_eq_true rfl) (fun p e s m below meth c ls E hG hE hP hr hk hin hl => ?_)
  have hS : va_S (MA B) s.heap s.heap [] := va_S.rf
  have hx := E.1
  have hb := E.2.1
  have hl : lv_has ls 2 [(0, .ref (B 0)), (1, .int x)] := hl
  refine lv_aload_n hx hb dX8_isBusinessDay_0 rfl (lv_at hl 0 rfl) ?_
  refine lv_iconst (v := 0) hx hb dX8_isBusinessDay_1 rfl ?_
  refine pf_X8_32 E hG hP.1 (Nat.le_of_ble_eq_true rfl) rfl rfl hS ⟨0, by decide, rfl⟩ dX8_isBusinessDay_2 (fun H locs ho hz oq hS => ?_)
  have hP : MW G B (fm 0 bl tl ps er ea eo ud ns ne se) bf da dr hi sk H := hP.setO hD ho oq
  refine lv_aload_n hx hb dX8_isBusinessDay_5 rfl (lv_at hl 0 rfl) ?_
  refine lv_iload_n hx hb dX8_isBusinessDay_6 rfl (lv_at hl 1 rfl) ?_
  refine Rd.callS (rest := [.ref (B 0)]) (c_X8_isDay l G x) yk_X8_isDay E km_X8_173 dX8_isBusinessDay_7 hG (hE.S hS hD.efa) trivial rfl rfl hl.1 ⟨Nat.le_of_ble_eq_true rfl, Nat.le_of_ble_eq_true rfl⟩ ⟨Nat.zero_le _, Nat.zero_le _⟩ (Nat.le_of_ble_eq_true rfl) ?_
  refine lv_if_ne (tgt := 17) hx hb dX8_isBusinessDay_10 (by decide) (fun c_10 => ?_) (fun c_10 => ?_)
  · exact (by rw [hin8] at c_10; exact absurd c_10 (by decide))
  · refine lv_iconst (v := 1) hx hb dX8_isBusinessDay_13 rfl ?_
    refine lv_goto (tgt := 18) hx hb dX8_isBusinessDay_14 (by decide) ?_
    refine lv_iconst (v := 1) hx hb dX8_isBusinessDay_18 rfl ?_
    refine Wr.callV (rest := []) (c_X8_fails1 l G hD 1 (by decide)) yk_X8_fails E km_X8_153 dX8_isBusinessDay_19 hG (hE.S hS hD.efa) hP (At.recv hG hP.1 rfl) rfl rfl hl.1 ⟨Nat.le_of_ble_eq_true rfl, Nat.le_of_ble_eq_true rfl⟩ ⟨Nat.le_of_ble_eq_true rfl, Nat.le_of_ble_eq_true rfl⟩ (Nat.le_of_ble_eq_true rfl) hS (fun _ h9 => h9) (fun v9 H locs hq hz9 hfr9 hS => ?_)
    obtain ⟨rfl, hP⟩ := hq
    refine lv_if_ne (tgt := 37) hx hb dX8_isBusinessDay_22 (by decide) (fun c_22 => ?_) (fun c_22 => ?_)
    · refine lv_iconst (v := 0) hx hb dX8_isBusinessDay_37 rfl ?_
      exact wr_bool E hr hk hS (by decide) (by decide) (by first | exact Or.inl rfl | exact Or.inr rfl | (omega)) (⟨rfl, hP⟩) dX8_isBusinessDay_38
    · exact absurd c_22 (by decide)

set_option maxHeartbeats 4000000 in
set_option maxRecDepth 100000 in
/-- extended -/
theorem c_X8_extended (l : Launch) (G : CG) {B : Nat → Nat} {t bl tl ps er ea eo ud ns ne se : Int32} {bf da dr : Nat → Int32} {hi : Nat → Nat → Int32} {sk : Nat → Int64} (hD : MD G B) (x : Int32) (n nh : Nat) (ex : x = nI n) (hn : n ≤ 9999) (hin8 : inV x 0 9999 = 1) (h2 : da 2 = nI nh) (hh : nh ≤ 16) : Wr l yX8_extended cX8_extended 2 ((Option.some FieldType.int)) 2 44 0 0 G [.ref (B 0), .int x] (MW G B (fm t bl tl ps er ea eo ud ns ne se) bf da dr hi sk) (MA B) (fun v9 H9 => v9 = some (.int (nI (ext da nh n))) ∧ MW G B (fm 0 bl tl ps er ea eo ud ns ne se) bf da dr hi sk H9) := by
  refine Wr.ofW (by decide) (Nat.le_of_ble_eq_true rfl) (fun p e s m below meth c ls E hG hE hP hr hk hin hl => ?_)
  have hS : va_S (MA B) s.heap s.heap [] := va_S.rf
  have hx := E.1
  have hb := E.2.1
  have hl : lv_has ls 2 [(0, .ref (B 0)), (1, .int x)] := hl
  refine lv_aload_n hx hb dX8_extended_0 rfl (lv_at hl 0 rfl) ?_
  refine lv_iconst (v := 0) hx hb dX8_extended_1 rfl ?_
  refine pf_X8_32 E hG hP.1 (Nat.le_of_ble_eq_true rfl) rfl rfl hS ⟨0, by decide, rfl⟩ dX8_extended_2 (fun H locs ho hz oq hS => ?_)
  have hP : MW G B (fm 0 bl tl ps er ea eo ud ns ne se) bf da dr hi sk H := hP.setO hD ho oq
  refine lv_aload_n hx hb dX8_extended_5 rfl (lv_at hl 0 rfl) ?_
  refine lv_iload_n hx hb dX8_extended_6 rfl (lv_at hl 1 rfl) ?_
  refine Rd.callS (rest := [.ref (B 0)]) (c_X8_isDay l G x) yk_X8_isDay E km_X8_173 dX8_extended_7 hG (hE.S hS hD.efa) trivial rfl rfl hl.1 ⟨Nat.le_of_ble_eq_true rfl, Nat.le_of_ble_eq_true rfl⟩ ⟨Nat.zero_le _, Nat.zero_le _⟩ (Nat.le_of_ble_eq_true rfl) ?_
  refine lv_if_ne (tgt := 17) hx hb dX8_extended_10 (by decide) (fun c_10 => ?_) (fun c_10 => ?_)
  · refine lv_iconst (v := 0) hx hb dX8_extended_17 rfl ?_
    refine lv_iconst (v := 1) hx hb dX8_extended_18 rfl ?_
    refine Wr.callV (rest := []) (c_X8_fails0 l G hD 1) yk_X8_fails E km_X8_153 dX8_extended_19 hG (hE.S hS hD.efa) hP (At.recv hG hP.1 rfl) rfl rfl hl.1 ⟨Nat.le_of_ble_eq_true rfl, Nat.le_of_ble_eq_true rfl⟩ ⟨Nat.le_of_ble_eq_true rfl, Nat.le_of_ble_eq_true rfl⟩ (Nat.le_of_ble_eq_true rfl) hS (fun _ h9 => h9) (fun v9 H locs hq hz9 hfr9 hS => ?_)
    obtain ⟨rfl, hP⟩ := hq
    refine lv_if_eq (tgt := 29) hx hb dX8_extended_22 (by decide) (fun c_22 => ?_) (fun c_22 => ?_)
    · refine lv_aload_n hx hb dX8_extended_29 rfl (lv_at hl 0 rfl) ?_
      refine lv_iload_n hx hb dX8_extended_30 rfl (lv_at hl 1 rfl) ?_
      refine Rd.callV (rest := []) (c_X8_extend l G x n nh ex (by omega) h2 hh) yk_X8_extend E km_X8_170 dX8_extended_31 hG (hE.S hS hD.efa) hP (At.recv hG hP.1 rfl) rfl rfl hl.1 ⟨Nat.le_of_ble_eq_true rfl, Nat.le_of_ble_eq_true rfl⟩ ⟨Nat.zero_le _, Nat.zero_le _⟩ (Nat.le_of_ble_eq_true rfl) ?_
      exact wr_int E hr hk hS (by decide) (by decide) (⟨rfl, hP⟩) dX8_extended_34
    · exact absurd c_22 (by decide)
  · exact (by rw [hin8] at c_10; exact absurd c_10 (by decide))

set_option maxHeartbeats 4000000 in
set_option maxRecDepth 100000 in
/-- extended -/
theorem c_X8_extended_x (l : Launch) (G : CG) {B : Nat → Nat} {t bl tl ps er ea eo ud ns ne se : Int32} {bf da dr : Nat → Int32} {hi : Nat → Nat → Int32} {sk : Nat → Int64} (hD : MD G B) (x : Int32) (hin8 : inV x 0 9999 = 0) : Wr l yX8_extended cX8_extended 2 ((Option.some FieldType.int)) 2 42 0 0 G [.ref (B 0), .int x] (MW G B (fm t bl tl ps er ea eo ud ns ne se) bf da dr hi sk) (MA B) (fun v9 H9 => v9 = some (.int 0) ∧ MW G B (fm 1 bl tl ps er ea eo ud ns ne se) bf da dr hi sk H9) := by
  refine Wr.ofW (by decide) (Nat.le_of_ble_eq_true rfl) (fun p e s m below meth c ls E hG hE hP hr hk hin hl => ?_)
  have hS : va_S (MA B) s.heap s.heap [] := va_S.rf
  have hx := E.1
  have hb := E.2.1
  have hl : lv_has ls 2 [(0, .ref (B 0)), (1, .int x)] := hl
  refine lv_aload_n hx hb dX8_extended_0 rfl (lv_at hl 0 rfl) ?_
  refine lv_iconst (v := 0) hx hb dX8_extended_1 rfl ?_
  refine pf_X8_32 E hG hP.1 (Nat.le_of_ble_eq_true rfl) rfl rfl hS ⟨0, by decide, rfl⟩ dX8_extended_2 (fun H locs ho hz oq hS => ?_)
  have hP : MW G B (fm 0 bl tl ps er ea eo ud ns ne se) bf da dr hi sk H := hP.setO hD ho oq
  refine lv_aload_n hx hb dX8_extended_5 rfl (lv_at hl 0 rfl) ?_
  refine lv_iload_n hx hb dX8_extended_6 rfl (lv_at hl 1 rfl) ?_
  refine Rd.callS (rest := [.ref (B 0)]) (c_X8_isDay l G x) yk_X8_isDay E km_X8_173 dX8_extended_7 hG (hE.S hS hD.efa) trivial rfl rfl hl.1 ⟨Nat.le_of_ble_eq_true rfl, Nat.le_of_ble_eq_true rfl⟩ ⟨Nat.zero_le _, Nat.zero_le _⟩ (Nat.le_of_ble_eq_true rfl) ?_
  refine lv_if_ne (tgt := 17) hx hb dX8_extended_10 (by decide) (fun c_10 => ?_) (fun c_10 => ?_)
  · exact (by rw [hin8] at c_10; exact absurd c_10 (by decide))
  · refine lv_iconst (v := 1) hx hb dX8_extended_13 rfl ?_
    refine lv_goto (tgt := 18) hx hb dX8_extended_14 (by decide) ?_
    refine lv_iconst (v := 1) hx hb dX8_extended_18 rfl ?_
    refine Wr.callV (rest := []) (c_X8_fails1 l G hD 1 (by decide)) yk_X8_fails E km_X8_153 dX8_extended_19 hG (hE.S hS hD.efa) hP (At.recv hG hP.1 rfl) rfl rfl hl.1 ⟨Nat.le_of_ble_eq_true rfl, Nat.le_of_ble_eq_true rfl⟩ ⟨Nat.le_of_ble_eq_true rfl, Nat.le_of_ble_eq_true rfl⟩ (Nat.le_of_ble_eq_true rfl) hS (fun _ h9 => h9) (fun v9 H locs hq hz9 hfr9 hS => ?_)
    obtain ⟨rfl, hP⟩ := hq
    refine lv_if_eq (tgt := 29) hx hb dX8_extended_22 (by decide) (fun c_22 => ?_) (fun c_22 => ?_)
    · exact absurd c_22 (by decide)
    · refine lv_iconst (v := 0) hx hb dX8_extended_25 rfl ?_
      refine lv_goto (tgt := 34) hx hb dX8_extended_26 (by decide) ?_
      exact wr_int E hr hk hS (by decide) (by decide) (⟨rfl, hP⟩) dX8_extended_34

set_option maxHeartbeats 4000000 in
set_option maxRecDepth 100000 in
/-- addBusinessDays -/
theorem c_X8_addBusinessDays (l : Launch) (G : CG) {B : Nat → Nat} {t bl tl ps er ea eo ud ns ne se : Int32} {bf da dr : Nat → Int32} {hi : Nat → Nat → Int32} {sk : Nat → Int64} (hD : MD G B) (x y : Int32) (n k0 nh : Nat) (ex : x = nI n) (ey : y = nI k0) (hn : n ≤ 9999) (hn2 : k0 ≤ 100) (hin8 : inV x 0 9999 = 1) (hin7 : inV y 0 100 = 1) (h2 : da 2 = nI nh) (hh : nh ≤ 16) : Wr l yX8_addBusinessDays cX8_addBusinessDays 3 ((Option.some FieldType.int)) 3 68 0 0 G [.ref (B 0), .int x, .int y] (MW G B (fm t bl tl ps er ea eo ud ns ne se) bf da dr hi sk) (MA B) (fun v9 H9 => v9 = some (.int (nI (addB da nh k0 n))) ∧ MW G B (fm 0 bl tl ps er ea eo ud ns ne se) bf da dr hi sk H9) := by
  refine Wr.ofW (by decide) (Nat.le_of_ble_eq_true rfl) (fun p e s m below meth c ls E hG hE hP hr hk hin hl => ?_)
  have hS : va_S (MA B) s.heap s.heap [] := va_S.rf
  have hx := E.1
  have hb := E.2.1
  have hl : lv_has ls 3 [(0, .ref (B 0)), (1, .int x), (2, .int y)] := hl
  refine lv_aload_n hx hb dX8_addBusinessDays_0 rfl (lv_at hl 0 rfl) ?_
  refine lv_iconst (v := 0) hx hb dX8_addBusinessDays_1 rfl ?_
  refine pf_X8_32 E hG hP.1 (Nat.le_of_ble_eq_true rfl) rfl rfl hS ⟨0, by decide, rfl⟩ dX8_addBusinessDays_2 (fun H locs ho hz oq hS => ?_)
  have hP : MW G B (fm 0 bl tl ps er ea eo ud ns ne se) bf da dr hi sk H := hP.setO hD ho oq
  refine lv_aload_n hx hb dX8_addBusinessDays_5 rfl (lv_at hl 0 rfl) ?_
  refine lv_iload_n hx hb dX8_addBusinessDays_6 rfl (lv_at hl 1 rfl) ?_
  refine Rd.callS (rest := [.ref (B 0)]) (c_X8_isDay l G x) yk_X8_isDay E km_X8_173 dX8_addBusinessDays_7 hG (hE.S hS hD.efa) trivial rfl rfl hl.1 ⟨Nat.le_of_ble_eq_true rfl, Nat.le_of_ble_eq_true rfl⟩ ⟨Nat.zero_le _, Nat.zero_le _⟩ (Nat.le_of_ble_eq_true rfl) ?_
  refine lv_if_eq (tgt := 23) hx hb dX8_addBusinessDays_10 (by decide) (fun c_10 => ?_) (fun c_10 => ?_)
  · exact (by rw [hin8] at c_10; exact absurd c_10 (by decide))
  · refine lv_iload_n hx hb dX8_addBusinessDays_13 rfl (lv_at hl 2 rfl) ?_
    refine lv_iconst (v := 0) hx hb dX8_addBusinessDays_14 rfl ?_
    refine lv_bipush (v := 100) hx hb dX8_addBusinessDays_15 rfl ?_
    refine Rd.callS (rest := [.ref (B 0)]) (c_X8_in l G y 0 100) yk_X8_in E km_X8_54 dX8_addBusinessDays_17 hG (hE.S hS hD.efa) trivial rfl rfl hl.1 ⟨Nat.le_of_ble_eq_true rfl, Nat.le_of_ble_eq_true rfl⟩ ⟨Nat.zero_le _, Nat.zero_le _⟩ (Nat.le_of_ble_eq_true rfl) ?_
    refine lv_if_ne (tgt := 27) hx hb dX8_addBusinessDays_20 (by decide) (fun c_20 => ?_) (fun c_20 => ?_)
    · refine lv_iconst (v := 0) hx hb dX8_addBusinessDays_27 rfl ?_
      refine lv_iconst (v := 1) hx hb dX8_addBusinessDays_28 rfl ?_
      refine Wr.callV (rest := []) (c_X8_fails0 l G hD 1) yk_X8_fails E km_X8_153 dX8_addBusinessDays_29 hG (hE.S hS hD.efa) hP (At.recv hG hP.1 rfl) rfl rfl hl.1 ⟨Nat.le_of_ble_eq_true rfl, Nat.le_of_ble_eq_true rfl⟩ ⟨Nat.le_of_ble_eq_true rfl, Nat.le_of_ble_eq_true rfl⟩ (Nat.le_of_ble_eq_true rfl) hS (fun _ h9 => h9) (fun v9 H locs hq hz9 hfr9 hS => ?_)
      obtain ⟨rfl, hP⟩ := hq
      refine lv_if_eq (tgt := 39) hx hb dX8_addBusinessDays_32 (by decide) (fun c_32 => ?_) (fun c_32 => ?_)
      · refine lv_aload_n hx hb dX8_addBusinessDays_39 rfl (lv_at hl 0 rfl) ?_
        refine lv_iload_n hx hb dX8_addBusinessDays_40 rfl (lv_at hl 1 rfl) ?_
        refine lv_iload_n hx hb dX8_addBusinessDays_41 rfl (lv_at hl 2 rfl) ?_
        refine Rd.callV (rest := []) (c_X8_add l G x y n k0 nh ex ey (by omega) h2 hh) yk_X8_add E km_X8_176 dX8_addBusinessDays_42 hG (hE.S hS hD.efa) hP (At.recv hG hP.1 rfl) rfl rfl hl.1 ⟨Nat.le_of_ble_eq_true rfl, Nat.le_of_ble_eq_true rfl⟩ ⟨Nat.zero_le _, Nat.zero_le _⟩ (Nat.le_of_ble_eq_true rfl) ?_
        exact wr_int E hr hk hS (by decide) (by decide) (⟨rfl, hP⟩) dX8_addBusinessDays_45
      · exact absurd c_32 (by decide)
    · exact (by rw [hin7] at c_20; exact absurd c_20 (by decide))

set_option maxHeartbeats 4000000 in
set_option maxRecDepth 100000 in
/-- addBusinessDays -/
theorem c_X8_addBusinessDays_x (l : Launch) (G : CG) {B : Nat → Nat} {t bl tl ps er ea eo ud ns ne se : Int32} {bf da dr : Nat → Int32} {hi : Nat → Nat → Int32} {sk : Nat → Int64} (hD : MD G B) (x y : Int32) (hin8 : inV x 0 9999 = 0) : Wr l yX8_addBusinessDays cX8_addBusinessDays 3 ((Option.some FieldType.int)) 2 42 0 0 G [.ref (B 0), .int x, .int y] (MW G B (fm t bl tl ps er ea eo ud ns ne se) bf da dr hi sk) (MA B) (fun v9 H9 => v9 = some (.int 0) ∧ MW G B (fm 1 bl tl ps er ea eo ud ns ne se) bf da dr hi sk H9) := by
  refine Wr.ofW (by decide) (Nat.le_of_ble_eq_true rfl) (fun p e s m below meth c ls E hG hE hP hr hk hin hl => ?_)
  have hS : va_S (MA B) s.heap s.heap [] := va_S.rf
  have hx := E.1
  have hb := E.2.1
  have hl : lv_has ls 3 [(0, .ref (B 0)), (1, .int x), (2, .int y)] := hl
  refine lv_aload_n hx hb dX8_addBusinessDays_0 rfl (lv_at hl 0 rfl) ?_
  refine lv_iconst (v := 0) hx hb dX8_addBusinessDays_1 rfl ?_
  refine pf_X8_32 E hG hP.1 (Nat.le_of_ble_eq_true rfl) rfl rfl hS ⟨0, by decide, rfl⟩ dX8_addBusinessDays_2 (fun H locs ho hz oq hS => ?_)
  have hP : MW G B (fm 0 bl tl ps er ea eo ud ns ne se) bf da dr hi sk H := hP.setO hD ho oq
  refine lv_aload_n hx hb dX8_addBusinessDays_5 rfl (lv_at hl 0 rfl) ?_
  refine lv_iload_n hx hb dX8_addBusinessDays_6 rfl (lv_at hl 1 rfl) ?_
  refine Rd.callS (rest := [.ref (B 0)]) (c_X8_isDay l G x) yk_X8_isDay E km_X8_173 dX8_addBusinessDays_7 hG (hE.S hS hD.efa) trivial rfl rfl hl.1 ⟨Nat.le_of_ble_eq_true rfl, Nat.le_of_ble_eq_true rfl⟩ ⟨Nat.zero_le _, Nat.zero_le _⟩ (Nat.le_of_ble_eq_true rfl) ?_
  refine lv_if_eq (tgt := 23) hx hb dX8_addBusinessDays_10 (by decide) (fun c_10 => ?_) (fun c_10 => ?_)
  · refine lv_iconst (v := 1) hx hb dX8_addBusinessDays_23 rfl ?_
    refine lv_goto (tgt := 28) hx hb dX8_addBusinessDays_24 (by decide) ?_
    refine lv_iconst (v := 1) hx hb dX8_addBusinessDays_28 rfl ?_
    refine Wr.callV (rest := []) (c_X8_fails1 l G hD 1 (by decide)) yk_X8_fails E km_X8_153 dX8_addBusinessDays_29 hG (hE.S hS hD.efa) hP (At.recv hG hP.1 rfl) rfl rfl hl.1 ⟨Nat.le_of_ble_eq_true rfl, Nat.le_of_ble_eq_true rfl⟩ ⟨Nat.le_of_ble_eq_true rfl, Nat.le_of_ble_eq_true rfl⟩ (Nat.le_of_ble_eq_true rfl) hS (fun _ h9 => h9) (fun v9 H locs hq hz9 hfr9 hS => ?_)
    obtain ⟨rfl, hP⟩ := hq
    refine lv_if_eq (tgt := 39) hx hb dX8_addBusinessDays_32 (by decide) (fun c_32 => ?_) (fun c_32 => ?_)
    · exact absurd c_32 (by decide)
    · refine lv_iconst (v := 0) hx hb dX8_addBusinessDays_35 rfl ?_
      refine lv_goto (tgt := 45) hx hb dX8_addBusinessDays_36 (by decide) ?_
      exact wr_int E hr hk hS (by decide) (by decide) (⟨rfl, hP⟩) dX8_addBusinessDays_45
  · exact (by rw [hin8] at c_10; exact absurd c_10 (by decide))

set_option maxHeartbeats 4000000 in
set_option maxRecDepth 100000 in
/-- addBusinessDays -/
theorem c_X8_addBusinessDays_y (l : Launch) (G : CG) {B : Nat → Nat} {t bl tl ps er ea eo ud ns ne se : Int32} {bf da dr : Nat → Int32} {hi : Nat → Nat → Int32} {sk : Nat → Int64} (hD : MD G B) (x y : Int32) (hin8 : inV x 0 9999 = 1) (hin7 : inV y 0 100 = 0) : Wr l yX8_addBusinessDays cX8_addBusinessDays 3 ((Option.some FieldType.int)) 2 42 0 0 G [.ref (B 0), .int x, .int y] (MW G B (fm t bl tl ps er ea eo ud ns ne se) bf da dr hi sk) (MA B) (fun v9 H9 => v9 = some (.int 0) ∧ MW G B (fm 1 bl tl ps er ea eo ud ns ne se) bf da dr hi sk H9) := by
  refine Wr.ofW (by decide) (Nat.le_of_ble_eq_true rfl) (fun p e s m below meth c ls E hG hE hP hr hk hin hl => ?_)
  have hS : va_S (MA B) s.heap s.heap [] := va_S.rf
  have hx := E.1
  have hb := E.2.1
  have hl : lv_has ls 3 [(0, .ref (B 0)), (1, .int x), (2, .int y)] := hl
  refine lv_aload_n hx hb dX8_addBusinessDays_0 rfl (lv_at hl 0 rfl) ?_
  refine lv_iconst (v := 0) hx hb dX8_addBusinessDays_1 rfl ?_
  refine pf_X8_32 E hG hP.1 (Nat.le_of_ble_eq_true rfl) rfl rfl hS ⟨0, by decide, rfl⟩ dX8_addBusinessDays_2 (fun H locs ho hz oq hS => ?_)
  have hP : MW G B (fm 0 bl tl ps er ea eo ud ns ne se) bf da dr hi sk H := hP.setO hD ho oq
  refine lv_aload_n hx hb dX8_addBusinessDays_5 rfl (lv_at hl 0 rfl) ?_
  refine lv_iload_n hx hb dX8_addBusinessDays_6 rfl (lv_at hl 1 rfl) ?_
  refine Rd.callS (rest := [.ref (B 0)]) (c_X8_isDay l G x) yk_X8_isDay E km_X8_173 dX8_addBusinessDays_7 hG (hE.S hS hD.efa) trivial rfl rfl hl.1 ⟨Nat.le_of_ble_eq_true rfl, Nat.le_of_ble_eq_true rfl⟩ ⟨Nat.zero_le _, Nat.zero_le _⟩ (Nat.le_of_ble_eq_true rfl) ?_
  refine lv_if_eq (tgt := 23) hx hb dX8_addBusinessDays_10 (by decide) (fun c_10 => ?_) (fun c_10 => ?_)
  · exact (by rw [hin8] at c_10; exact absurd c_10 (by decide))
  · refine lv_iload_n hx hb dX8_addBusinessDays_13 rfl (lv_at hl 2 rfl) ?_
    refine lv_iconst (v := 0) hx hb dX8_addBusinessDays_14 rfl ?_
    refine lv_bipush (v := 100) hx hb dX8_addBusinessDays_15 rfl ?_
    refine Rd.callS (rest := [.ref (B 0)]) (c_X8_in l G y 0 100) yk_X8_in E km_X8_54 dX8_addBusinessDays_17 hG (hE.S hS hD.efa) trivial rfl rfl hl.1 ⟨Nat.le_of_ble_eq_true rfl, Nat.le_of_ble_eq_true rfl⟩ ⟨Nat.zero_le _, Nat.zero_le _⟩ (Nat.le_of_ble_eq_true rfl) ?_
    refine lv_if_ne (tgt := 27) hx hb dX8_addBusinessDays_20 (by decide) (fun c_20 => ?_) (fun c_20 => ?_)
    · exact (by rw [hin7] at c_20; exact absurd c_20 (by decide))
    · refine lv_iconst (v := 1) hx hb dX8_addBusinessDays_23 rfl ?_
      refine lv_goto (tgt := 28) hx hb dX8_addBusinessDays_24 (by decide) ?_
      refine lv_iconst (v := 1) hx hb dX8_addBusinessDays_28 rfl ?_
      refine Wr.callV (rest := []) (c_X8_fails1 l G hD 1 (by decide)) yk_X8_fails E km_X8_153 dX8_addBusinessDays_29 hG (hE.S hS hD.efa) hP (At.recv hG hP.1 rfl) rfl rfl hl.1 ⟨Nat.le_of_ble_eq_true rfl, Nat.le_of_ble_eq_true rfl⟩ ⟨Nat.le_of_ble_eq_true rfl, Nat.le_of_ble_eq_true rfl⟩ (Nat.le_of_ble_eq_true rfl) hS (fun _ h9 => h9) (fun v9 H locs hq hz9 hfr9 hS => ?_)
      obtain ⟨rfl, hP⟩ := hq
      refine lv_if_eq (tgt := 39) hx hb dX8_addBusinessDays_32 (by decide) (fun c_32 => ?_) (fun c_32 => ?_)
      · exact absurd c_32 (by decide)
      · refine lv_iconst (v := 0) hx hb dX8_addBusinessDays_35 rfl ?_
        refine lv_goto (tgt := 45) hx hb dX8_addBusinessDays_36 (by decide) ?_
        exact wr_int E hr hk hS (by decide) (by decide) (⟨rfl, hP⟩) dX8_addBusinessDays_45

set_option maxHeartbeats 4000000 in
set_option maxRecDepth 100000 in
/-- businessDays -/
theorem c_X8_businessDays_x (l : Launch) (G : CG) {B : Nat → Nat} {t bl tl ps er ea eo ud ns ne se : Int32} {bf da dr : Nat → Int32} {hi : Nat → Nat → Int32} {sk : Nat → Int64} (hD : MD G B) (x y : Int32) (hin8 : inV x 0 9999 = 0) : Wr l yX8_businessDays cX8_businessDays 5 ((Option.some FieldType.int)) 2 42 0 0 G [.ref (B 0), .int x, .int y] (MW G B (fm t bl tl ps er ea eo ud ns ne se) bf da dr hi sk) (MA B) (fun v9 H9 => v9 = some (.int 0) ∧ MW G B (fm 1 bl tl ps er ea eo ud ns ne se) bf da dr hi sk H9) := by
  refine Wr.ofW (by decide) (Nat.le_of_ble_eq_true rfl) (fun p e s m below meth c ls E hG hE hP hr hk hin hl => ?_)
  have hS : va_S (MA B) s.heap s.heap [] := va_S.rf
  have hx := E.1
  have hb := E.2.1
  have hl : lv_has ls 5 [(0, .ref (B 0)), (1, .int x), (2, .int y)] := hl
  refine lv_aload_n hx hb dX8_businessDays_0 rfl (lv_at hl 0 rfl) ?_
  refine lv_iconst (v := 0) hx hb dX8_businessDays_1 rfl ?_
  refine pf_X8_32 E hG hP.1 (Nat.le_of_ble_eq_true rfl) rfl rfl hS ⟨0, by decide, rfl⟩ dX8_businessDays_2 (fun H locs ho hz oq hS => ?_)
  have hP : MW G B (fm 0 bl tl ps er ea eo ud ns ne se) bf da dr hi sk H := hP.setO hD ho oq
  refine lv_aload_n hx hb dX8_businessDays_5 rfl (lv_at hl 0 rfl) ?_
  refine lv_iload_n hx hb dX8_businessDays_6 rfl (lv_at hl 1 rfl) ?_
  refine Rd.callS (rest := [.ref (B 0)]) (c_X8_isDay l G x) yk_X8_isDay E km_X8_173 dX8_businessDays_7 hG (hE.S hS hD.efa) trivial rfl rfl hl.1 ⟨Nat.le_of_ble_eq_true rfl, Nat.le_of_ble_eq_true rfl⟩ ⟨Nat.zero_le _, Nat.zero_le _⟩ (Nat.le_of_ble_eq_true rfl) ?_
  refine lv_if_eq (tgt := 20) hx hb dX8_businessDays_10 (by decide) (fun c_10 => ?_) (fun c_10 => ?_)
  · refine lv_iconst (v := 1) hx hb dX8_businessDays_20 rfl ?_
    refine lv_goto (tgt := 25) hx hb dX8_businessDays_21 (by decide) ?_
    refine lv_iconst (v := 1) hx hb dX8_businessDays_25 rfl ?_
    refine Wr.callV (rest := []) (c_X8_fails1 l G hD 1 (by decide)) yk_X8_fails E km_X8_153 dX8_businessDays_26 hG (hE.S hS hD.efa) hP (At.recv hG hP.1 rfl) rfl rfl hl.1 ⟨Nat.le_of_ble_eq_true rfl, Nat.le_of_ble_eq_true rfl⟩ ⟨Nat.le_of_ble_eq_true rfl, Nat.le_of_ble_eq_true rfl⟩ (Nat.le_of_ble_eq_true rfl) hS (fun _ h9 => h9) (fun v9 H locs hq hz9 hfr9 hS => ?_)
    obtain ⟨rfl, hP⟩ := hq
    refine lv_if_eq (tgt := 34) hx hb dX8_businessDays_29 (by decide) (fun c_29 => ?_) (fun c_29 => ?_)
    · exact absurd c_29 (by decide)
    · refine lv_iconst (v := 0) hx hb dX8_businessDays_32 rfl ?_
      exact wr_int E hr hk hS (by decide) (by decide) (⟨rfl, hP⟩) dX8_businessDays_33
  · exact (by rw [hin8] at c_10; exact absurd c_10 (by decide))

set_option maxHeartbeats 4000000 in
set_option maxRecDepth 100000 in
/-- businessDays -/
theorem c_X8_businessDays_y (l : Launch) (G : CG) {B : Nat → Nat} {t bl tl ps er ea eo ud ns ne se : Int32} {bf da dr : Nat → Int32} {hi : Nat → Nat → Int32} {sk : Nat → Int64} (hD : MD G B) (x y : Int32) (hin8 : inV x 0 9999 = 1) (hin7 : inV y 0 9999 = 0) : Wr l yX8_businessDays cX8_businessDays 5 ((Option.some FieldType.int)) 2 42 0 0 G [.ref (B 0), .int x, .int y] (MW G B (fm t bl tl ps er ea eo ud ns ne se) bf da dr hi sk) (MA B) (fun v9 H9 => v9 = some (.int 0) ∧ MW G B (fm 1 bl tl ps er ea eo ud ns ne se) bf da dr hi sk H9) := by
  refine Wr.ofW (by decide) (Nat.le_of_ble_eq_true rfl) (fun p e s m below meth c ls E hG hE hP hr hk hin hl => ?_)
  have hS : va_S (MA B) s.heap s.heap [] := va_S.rf
  have hx := E.1
  have hb := E.2.1
  have hl : lv_has ls 5 [(0, .ref (B 0)), (1, .int x), (2, .int y)] := hl
  refine lv_aload_n hx hb dX8_businessDays_0 rfl (lv_at hl 0 rfl) ?_
  refine lv_iconst (v := 0) hx hb dX8_businessDays_1 rfl ?_
  refine pf_X8_32 E hG hP.1 (Nat.le_of_ble_eq_true rfl) rfl rfl hS ⟨0, by decide, rfl⟩ dX8_businessDays_2 (fun H locs ho hz oq hS => ?_)
  have hP : MW G B (fm 0 bl tl ps er ea eo ud ns ne se) bf da dr hi sk H := hP.setO hD ho oq
  refine lv_aload_n hx hb dX8_businessDays_5 rfl (lv_at hl 0 rfl) ?_
  refine lv_iload_n hx hb dX8_businessDays_6 rfl (lv_at hl 1 rfl) ?_
  refine Rd.callS (rest := [.ref (B 0)]) (c_X8_isDay l G x) yk_X8_isDay E km_X8_173 dX8_businessDays_7 hG (hE.S hS hD.efa) trivial rfl rfl hl.1 ⟨Nat.le_of_ble_eq_true rfl, Nat.le_of_ble_eq_true rfl⟩ ⟨Nat.zero_le _, Nat.zero_le _⟩ (Nat.le_of_ble_eq_true rfl) ?_
  refine lv_if_eq (tgt := 20) hx hb dX8_businessDays_10 (by decide) (fun c_10 => ?_) (fun c_10 => ?_)
  · exact (by rw [hin8] at c_10; exact absurd c_10 (by decide))
  · refine lv_iload_n hx hb dX8_businessDays_13 rfl (lv_at hl 2 rfl) ?_
    refine Rd.callS (rest := [.ref (B 0)]) (c_X8_isDay l G y) yk_X8_isDay E km_X8_173 dX8_businessDays_14 hG (hE.S hS hD.efa) trivial rfl rfl hl.1 ⟨Nat.le_of_ble_eq_true rfl, Nat.le_of_ble_eq_true rfl⟩ ⟨Nat.zero_le _, Nat.zero_le _⟩ (Nat.le_of_ble_eq_true rfl) ?_
    refine lv_if_ne (tgt := 24) hx hb dX8_businessDays_17 (by decide) (fun c_17 => ?_) (fun c_17 => ?_)
    · exact (by rw [hin7] at c_17; exact absurd c_17 (by decide))
    · refine lv_iconst (v := 1) hx hb dX8_businessDays_20 rfl ?_
      refine lv_goto (tgt := 25) hx hb dX8_businessDays_21 (by decide) ?_
      refine lv_iconst (v := 1) hx hb dX8_businessDays_25 rfl ?_
      refine Wr.callV (rest := []) (c_X8_fails1 l G hD 1 (by decide)) yk_X8_fails E km_X8_153 dX8_businessDays_26 hG (hE.S hS hD.efa) hP (At.recv hG hP.1 rfl) rfl rfl hl.1 ⟨Nat.le_of_ble_eq_true rfl, Nat.le_of_ble_eq_true rfl⟩ ⟨Nat.le_of_ble_eq_true rfl, Nat.le_of_ble_eq_true rfl⟩ (Nat.le_of_ble_eq_true rfl) hS (fun _ h9 => h9) (fun v9 H locs hq hz9 hfr9 hS => ?_)
      obtain ⟨rfl, hP⟩ := hq
      refine lv_if_eq (tgt := 34) hx hb dX8_businessDays_29 (by decide) (fun c_29 => ?_) (fun c_29 => ?_)
      · exact absurd c_29 (by decide)
      · refine lv_iconst (v := 0) hx hb dX8_businessDays_32 rfl ?_
        exact wr_int E hr hk hS (by decide) (by decide) (⟨rfl, hP⟩) dX8_businessDays_33

set_option maxHeartbeats 4000000 in
set_option maxRecDepth 100000 in
/-- businessDays -/
theorem c_X8_businessDays (l : Launch) (G : CG) {B : Nat → Nat} {t bl tl ps er ea eo ud ns ne se : Int32} {bf da dr : Nat → Int32} {hi : Nat → Nat → Int32} {sk : Nat → Int64} (hD : MD G B) (x y : Int32) (n k0 nh : Nat) (ex : x = nI n) (ey : y = nI k0) (hn : n ≤ 9999) (hn2 : k0 ≤ 9999) (hin8 : inV x 0 9999 = 1) (hin7 : inV y 0 9999 = 1) (h2 : da 2 = nI nh) (hh : nh ≤ 16) : Wr l yX8_businessDays cX8_businessDays 5 ((Option.some FieldType.int)) 2 42 0 0 G [.ref (B 0), .int x, .int y] (MW G B (fm t bl tl ps er ea eo ud ns ne se) bf da dr hi sk) (MA B) (fun v9 H9 => v9 = some (.int (nI (cntB da nh n (k0 - n)))) ∧ MW G B (fm 0 bl tl ps er ea eo ud ns ne se) bf da dr hi sk H9) := by
  refine Wr.ofW (by decide) (Nat.le_of_ble_eq_true rfl) (fun p e s m below meth c ls E hG hE hP hr hk hin hl => ?_)
  have hS : va_S (MA B) s.heap s.heap [] := va_S.rf
  have hx := E.1
  have hb := E.2.1
  have hl : lv_has ls 5 [(0, .ref (B 0)), (1, .int x), (2, .int y)] := hl
  refine lv_aload_n hx hb dX8_businessDays_0 rfl (lv_at hl 0 rfl) ?_
  refine lv_iconst (v := 0) hx hb dX8_businessDays_1 rfl ?_
  refine pf_X8_32 E hG hP.1 (Nat.le_of_ble_eq_true rfl) rfl rfl hS ⟨0, by decide, rfl⟩ dX8_businessDays_2 (fun H locs ho hz oq hS => ?_)
  have hP : MW G B (fm 0 bl tl ps er ea eo ud ns ne se) bf da dr hi sk H := hP.setO hD ho oq
  refine lv_aload_n hx hb dX8_businessDays_5 rfl (lv_at hl 0 rfl) ?_
  refine lv_iload_n hx hb dX8_businessDays_6 rfl (lv_at hl 1 rfl) ?_
  refine Rd.callS (rest := [.ref (B 0)]) (c_X8_isDay l G x) yk_X8_isDay E km_X8_173 dX8_businessDays_7 hG (hE.S hS hD.efa) trivial rfl rfl hl.1 ⟨Nat.le_of_ble_eq_true rfl, Nat.le_of_ble_eq_true rfl⟩ ⟨Nat.zero_le _, Nat.zero_le _⟩ (Nat.le_of_ble_eq_true rfl) ?_
  refine lv_if_eq (tgt := 20) hx hb dX8_businessDays_10 (by decide) (fun c_10 => ?_) (fun c_10 => ?_)
  · exact (by rw [hin8] at c_10; exact absurd c_10 (by decide))
  · refine lv_iload_n hx hb dX8_businessDays_13 rfl (lv_at hl 2 rfl) ?_
    refine Rd.callS (rest := [.ref (B 0)]) (c_X8_isDay l G y) yk_X8_isDay E km_X8_173 dX8_businessDays_14 hG (hE.S hS hD.efa) trivial rfl rfl hl.1 ⟨Nat.le_of_ble_eq_true rfl, Nat.le_of_ble_eq_true rfl⟩ ⟨Nat.zero_le _, Nat.zero_le _⟩ (Nat.le_of_ble_eq_true rfl) ?_
    refine lv_if_ne (tgt := 24) hx hb dX8_businessDays_17 (by decide) (fun c_17 => ?_) (fun c_17 => ?_)
    · refine lv_iconst (v := 0) hx hb dX8_businessDays_24 rfl ?_
      refine lv_iconst (v := 1) hx hb dX8_businessDays_25 rfl ?_
      refine Wr.callV (rest := []) (c_X8_fails0 l G hD 1) yk_X8_fails E km_X8_153 dX8_businessDays_26 hG (hE.S hS hD.efa) hP (At.recv hG hP.1 rfl) rfl rfl hl.1 ⟨Nat.le_of_ble_eq_true rfl, Nat.le_of_ble_eq_true rfl⟩ ⟨Nat.le_of_ble_eq_true rfl, Nat.le_of_ble_eq_true rfl⟩ (Nat.le_of_ble_eq_true rfl) hS (fun _ h9 => h9) (fun v9 H locs hq hz9 hfr9 hS => ?_)
      obtain ⟨rfl, hP⟩ := hq
      refine lv_if_eq (tgt := 34) hx hb dX8_businessDays_29 (by decide) (fun c_29 => ?_) (fun c_29 => ?_)
      · refine lv_iconst (v := 0) hx hb dX8_businessDays_34 rfl ?_
        refine lv_ci (y := nI 0) (ixq rfl) ?_
        refine lv_istore_n (lv' := [(3, .int (nI 0)), (0, .ref (B 0)), (1, .int x), (2, .int y)]) hx hb dX8_businessDays_35 rfl hl (by decide) rfl (fun ls hl => ?_)
        refine lv_iload_n hx hb dX8_businessDays_36 rfl (lv_at hl 2 rfl) ?_
        refine lv_ci (y := nI n) (ixq ex) ?_
        refine lv_istore (lv' := [(4, .int (nI n)), (3, .int (nI 0)), (0, .ref (B 0)), (1, .int x), (2, .int y)]) hx hb dX8_businessDays_37 hl (by decide) rfl (fun ls hl => ?_)
        have loop : ∀ (j i : Nat), (k0 - n < i + j) → (i ≤ k0 - n ∨ i = 0) → ∀ ls : Array Slot, lv_has ls 5 [(4, .int (nI (n + i))), (3, .int (nI (cntB da nh n i))), (0, .ref (B 0)), (1, .int x), (2, .int y)] → W p l e { frames := 2, cells := 0, slots := 0, locals := 42 } s m ([.ref (B 0), .int x, .int y] : List Value).toArray below meth c H locs 0 0 (WQ below ([.ref (B 0), .int x, .int y] : List Value).toArray s 0 0 (MA B) (fun v9 H9 => v9 = some (.int (nI (cntB da nh n (k0 - n)))) ∧ MW G B (fm 0 bl tl ps er ea eo ud ns ne se) bf da dr hi sk H9)) (F0 m 39 ls []) := by
          intro j
          induction j with
          | zero => intro i z1 z2; omega
          | succ j ih =>
            intro i z1 z2 ls hl
            have z4 := cntB_le da nh n i
            refine lv_iload hx hb dX8_businessDays_39 (lv_at hl 0 rfl) ?_
            refine lv_iload_n hx hb dX8_businessDays_41 rfl (lv_at hl 4 rfl) ?_
            refine lv_icmp_ge (tgt := 68) hx hb dX8_businessDays_42 (by decide) (fun c_42 => ?_) (fun c_42 => ?_)
            · have c_42 : k0 ≤ n + i := (nLE (x := y) (y := (nI (n + i))) (a := k0) (b := n + i) ey rfl (by omega) (by omega)).mp c_42
              have e9 : i = k0 - n := by omega
              refine lv_iload_n hx hb dX8_businessDays_68 rfl (lv_at hl 1 rfl) ?_
              exact wr_int E hr hk hS (by decide) (by decide) (⟨by rw [e9], hP⟩) dX8_businessDays_69
            · have c_42 : ¬ k0 ≤ n + i := fun z9 => c_42 ((nLE (x := y) (y := (nI (n + i))) (a := k0) (b := n + i) ey rfl (by omega) (by omega)).mpr z9)
              refine lv_iload_n hx hb dX8_businessDays_45 rfl (lv_at hl 1 rfl) ?_
              refine W.cut (g := F0 m 60 ls [.int (nI (if biz da nh (n + i) = true then 1 else 0)), .int (nI (cntB da nh n i))]) (fun K => ?_) ?_
              · refine lv_aload_n hx hb dX8_businessDays_46 rfl (lv_at hl 2 rfl) ?_
                refine lv_iload hx hb dX8_businessDays_47 (lv_at hl 0 rfl) ?_
                refine Rd.callV (rest := [.int (nI (cntB da nh n i))]) (c_X8_isBusiness l G (nI (n + i)) (n + i) nh rfl (by omega) h2 hh) yk_X8_isBusiness E km_X8_167 dX8_businessDays_49 hG (hE.S hS hD.efa) hP (At.recv hG hP.1 rfl) rfl rfl hl.1 ⟨Nat.le_of_ble_eq_true rfl, Nat.le_of_ble_eq_true rfl⟩ ⟨Nat.zero_le _, Nat.zero_le _⟩ (Nat.le_of_ble_eq_true rfl) ?_
                refine lv_if_eq (tgt := 59) hx hb dX8_businessDays_52 (by decide) (fun c_52 => ?_) (fun c_52 => ?_)
                · refine lv_iconst (v := 0) hx hb dX8_businessDays_59 rfl ?_
                  exact W.eq (congrArg (fun z9 => F0 m 60 ls (.int z9 :: [.int (nI (cntB da nh n i))])) (show (0 : Int32) = nI (if biz da nh (n + i) = true then 1 else 0) by by_cases z8 : biz da nh (n + i) = true <;> simp_all <;> rfl)) K
                · refine lv_iconst (v := 1) hx hb dX8_businessDays_55 rfl ?_
                  refine lv_goto (tgt := 60) hx hb dX8_businessDays_56 (by decide) ?_
                  exact W.eq (congrArg (fun z9 => F0 m 60 ls (.int z9 :: [.int (nI (cntB da nh n i))])) (show (1 : Int32) = nI (if biz da nh (n + i) = true then 1 else 0) by by_cases z8 : biz da nh (n + i) = true <;> simp_all <;> rfl)) K
              refine lv_iadd hx hb dX8_businessDays_60 ?_
              refine lv_ci (y := nI (cntB da nh n i + (if biz da nh (n + i) = true then 1 else 0))) (ixq (nI_ad rfl rfl)) ?_
              refine lv_istore_n (lv' := [(3, .int (nI (cntB da nh n i + (if biz da nh (n + i) = true then 1 else 0)))), (4, .int (nI (n + i))), (0, .ref (B 0)), (1, .int x), (2, .int y)]) hx hb dX8_businessDays_61 rfl hl (by decide) rfl (fun ls hl => ?_)
              refine lv_iinc (v := (nI (n + i + 1))) (lv' := [(4, .int (nI (n + i + 1))), (3, .int (nI (cntB da nh n i + (if biz da nh (n + i) = true then 1 else 0)))), (0, .ref (B 0)), (1, .int x), (2, .int y)]) hx hb dX8_businessDays_62 hl (k := 1) rfl (nI_ad rfl rfl) (by decide) rfl (fun ls hl => ?_)
              refine lv_goto (tgt := 39) hx hb dX8_businessDays_65 (by decide) ?_
              exact ih (i + 1) (by omega) (by omega) ls (lv_sub hl [0, 1, 2, 3, 4] rfl)
        exact loop (k0 - n + 1) 0 (by omega) (by omega) ls (lv_sub hl [0, 1, 2, 3, 4] rfl)
      · exact absurd c_29 (by decide)
    · exact (by rw [hin7] at c_17; exact absurd c_17 (by decide))

set_option maxHeartbeats 4000000 in
set_option maxRecDepth 100000 in
/-- check -/
theorem c_X8_check (l : Launch) (G : CG) {B : Nat → Nat} {t bl tl ps er ea eo ud ns ne se : Int32} {bf da dr : Nat → Int32} {hi : Nat → Nat → Int32} {sk : Nat → Int64} (hD : MD G B) (x y am dc ins : Int32) (k n np nc nh ex1 pe1 : Nat) (ex : x = nI k) (ey : y = nI n) (hk9 : k < 12) (hn : n ≤ 9999) (hin9 : inV x 0 (da 0 - 1) = 1) (h1 : da 1 = nI np) (hp0 : np ≤ 24) (h0 : da 0 = nI nc) (hc0 : nc ≤ 12) (h2 : da 2 = nI nh) (hh : nh ≤ 16) (hx9 : da (cP k + 3) = nI ex1) (hx8 : ex1 < 1000) (hx7 : da (cP k + 5) = nI pe1) (hx6 : pe1 < 1000) (hw9 : isWrongV y am dc ins = 0) : Wr l yX8_check cX8_check 6 ((Option.some FieldType.int)) 5 116 0 0 G [.ref (B 0), .int x, .int y, .int am, .int dc, .int ins] (MW G B (fm t bl tl ps er ea eo ud ns ne se) bf da dr hi sk) (MA B) (fun v9 H9 => v9 = some (.int (faultsV da np nc nh ex1 pe1 k n am dc ins)) ∧ MW G B (fm 0 bl tl ps er ea eo ud ns ne se) bf da dr hi sk H9) := by
  refine Wr.ofW (by decide) (Nat.le_of_ble_eq_true rfl) (fun p e s m below meth c ls E hG hE hP hr hk hin hl => ?_)
  have hS : va_S (MA B) s.heap s.heap [] := va_S.rf
  have hx := E.1
  have hb := E.2.1
  have hl : lv_has ls 6 [(0, .ref (B 0)), (1, .int x), (2, .int y), (3, .int am), (4, .int dc), (5, .int ins)] := hl
  refine lv_aload_n hx hb dX8_check_0 rfl (lv_at hl 0 rfl) ?_
  refine lv_iconst (v := 0) hx hb dX8_check_1 rfl ?_
  refine pf_X8_32 E hG hP.1 (Nat.le_of_ble_eq_true rfl) rfl rfl hS ⟨0, by decide, rfl⟩ dX8_check_2 (fun H locs ho hz oq hS => ?_)
  have hP : MW G B (fm 0 bl tl ps er ea eo ud ns ne se) bf da dr hi sk H := hP.setO hD ho oq
  refine lv_aload_n hx hb dX8_check_5 rfl (lv_at hl 0 rfl) ?_
  refine lv_iload_n hx hb dX8_check_6 rfl (lv_at hl 1 rfl) ?_
  refine Wr.callV (rest := []) (c_X8_noCredit l G hD x hin9) yk_X8_noCredit E km_X8_179 dX8_check_7 hG (hE.S hS hD.efa) hP (At.recv hG hP.1 rfl) rfl rfl hl.1 ⟨Nat.le_of_ble_eq_true rfl, Nat.le_of_ble_eq_true rfl⟩ ⟨Nat.le_of_ble_eq_true rfl, Nat.le_of_ble_eq_true rfl⟩ (Nat.le_of_ble_eq_true rfl) hS (fun _ h9 => h9) (fun v9 H locs hq hz9 hfr9 hS => ?_)
  obtain ⟨rfl, hP⟩ := hq
  refine lv_if_ne (tgt := 31) hx hb dX8_check_10 (by decide) (fun c_10 => ?_) (fun c_10 => ?_)
  · exact absurd c_10 (by decide)
  · refine lv_aload_n hx hb dX8_check_13 rfl (lv_at hl 0 rfl) ?_
    refine lv_aload_n hx hb dX8_check_14 rfl (lv_at hl 0 rfl) ?_
    refine lv_iload_n hx hb dX8_check_15 rfl (lv_at hl 2 rfl) ?_
    refine lv_iload_n hx hb dX8_check_16 rfl (lv_at hl 3 rfl) ?_
    refine lv_iload hx hb dX8_check_17 (lv_at hl 4 rfl) ?_
    refine lv_iload hx hb dX8_check_19 (lv_at hl 5 rfl) ?_
    refine Rd.callV (rest := [.ref (B 0)]) (c_X8_isWrong l G y am dc ins) yk_X8_isWrong E km_X8_208 dX8_check_21 hG (hE.S hS hD.efa) hP (At.recv hG hP.1 rfl) rfl rfl hl.1 ⟨Nat.le_of_ble_eq_true rfl, Nat.le_of_ble_eq_true rfl⟩ ⟨Nat.zero_le _, Nat.zero_le _⟩ (Nat.le_of_ble_eq_true rfl) ?_
    refine lv_iconst (v := 2) hx hb dX8_check_24 rfl ?_
    rw [hw9]
    refine Wr.callV (rest := []) (c_X8_fails0 l G hD 2) yk_X8_fails E km_X8_153 dX8_check_25 hG (hE.S hS hD.efa) hP (At.recv hG hP.1 rfl) rfl rfl hl.1 ⟨Nat.le_of_ble_eq_true rfl, Nat.le_of_ble_eq_true rfl⟩ ⟨Nat.le_of_ble_eq_true rfl, Nat.le_of_ble_eq_true rfl⟩ (Nat.le_of_ble_eq_true rfl) hS (fun _ h9 => h9) (fun v9 H locs hq hz9 hfr9 hS => ?_)
    obtain ⟨rfl, hP⟩ := hq
    refine lv_if_eq (tgt := 35) hx hb dX8_check_28 (by decide) (fun c_28 => ?_) (fun c_28 => ?_)
    · refine lv_aload_n hx hb dX8_check_35 rfl (lv_at hl 0 rfl) ?_
      refine lv_iload_n hx hb dX8_check_36 rfl (lv_at hl 1 rfl) ?_
      refine lv_iload_n hx hb dX8_check_37 rfl (lv_at hl 2 rfl) ?_
      refine lv_iload_n hx hb dX8_check_38 rfl (lv_at hl 3 rfl) ?_
      refine lv_iload hx hb dX8_check_39 (lv_at hl 4 rfl) ?_
      refine lv_iload hx hb dX8_check_41 (lv_at hl 5 rfl) ?_
      refine Rd.callV (rest := []) (c_X8_faultsOf l G x y am dc ins k n np nc nh ex1 pe1 ex ey (by omega) (by omega) h1 hp0 h0 hc0 h2 hh hx9 hx8 hx7 hx6) yk_X8_faultsOf E km_X8_212 dX8_check_43 hG (hE.S hS hD.efa) hP (At.recv hG hP.1 rfl) rfl rfl hl.1 ⟨Nat.le_of_ble_eq_true rfl, Nat.le_of_ble_eq_true rfl⟩ ⟨Nat.zero_le _, Nat.zero_le _⟩ (Nat.le_of_ble_eq_true rfl) ?_
      exact wr_int E hr hk hS (by decide) (by decide) (⟨rfl, hP⟩) dX8_check_46
    · exact absurd c_28 (by decide)

set_option maxHeartbeats 4000000 in
set_option maxRecDepth 100000 in
/-- check -/
theorem c_X8_check_x (l : Launch) (G : CG) {B : Nat → Nat} {t bl tl ps er ea eo ud ns ne se : Int32} {bf da dr : Nat → Int32} {hi : Nat → Nat → Int32} {sk : Nat → Int64} (hD : MD G B) (x y am dc ins : Int32) (hin9 : inV x 0 (da 0 - 1) = 0) : Wr l yX8_check cX8_check 6 ((Option.some FieldType.int)) 2 43 0 0 G [.ref (B 0), .int x, .int y, .int am, .int dc, .int ins] (MW G B (fm t bl tl ps er ea eo ud ns ne se) bf da dr hi sk) (MA B) (fun v9 H9 => v9 = some (.int 0) ∧ MW G B (fm 1 bl tl ps er ea eo ud ns ne se) bf da dr hi sk H9) := by
  refine Wr.ofW (by decide) (Nat.le_of_ble_eq_true rfl) (fun p e s m below meth c ls E hG hE hP hr hk hin hl => ?_)
  have hS : va_S (MA B) s.heap s.heap [] := va_S.rf
  have hx := E.1
  have hb := E.2.1
  have hl : lv_has ls 6 [(0, .ref (B 0)), (1, .int x), (2, .int y), (3, .int am), (4, .int dc), (5, .int ins)] := hl
  refine lv_aload_n hx hb dX8_check_0 rfl (lv_at hl 0 rfl) ?_
  refine lv_iconst (v := 0) hx hb dX8_check_1 rfl ?_
  refine pf_X8_32 E hG hP.1 (Nat.le_of_ble_eq_true rfl) rfl rfl hS ⟨0, by decide, rfl⟩ dX8_check_2 (fun H locs ho hz oq hS => ?_)
  have hP : MW G B (fm 0 bl tl ps er ea eo ud ns ne se) bf da dr hi sk H := hP.setO hD ho oq
  refine lv_aload_n hx hb dX8_check_5 rfl (lv_at hl 0 rfl) ?_
  refine lv_iload_n hx hb dX8_check_6 rfl (lv_at hl 1 rfl) ?_
  refine Wr.callV (rest := []) (c_X8_noCredit_x l G hD x hin9) yk_X8_noCredit E km_X8_179 dX8_check_7 hG (hE.S hS hD.efa) hP (At.recv hG hP.1 rfl) rfl rfl hl.1 ⟨Nat.le_of_ble_eq_true rfl, Nat.le_of_ble_eq_true rfl⟩ ⟨Nat.le_of_ble_eq_true rfl, Nat.le_of_ble_eq_true rfl⟩ (Nat.le_of_ble_eq_true rfl) hS (fun _ h9 => h9) (fun v9 H locs hq hz9 hfr9 hS => ?_)
  obtain ⟨rfl, hP⟩ := hq
  refine lv_if_ne (tgt := 31) hx hb dX8_check_10 (by decide) (fun c_10 => ?_) (fun c_10 => ?_)
  · refine lv_iconst (v := 0) hx hb dX8_check_31 rfl ?_
    refine lv_goto (tgt := 46) hx hb dX8_check_32 (by decide) ?_
    exact wr_int E hr hk hS (by decide) (by decide) (⟨rfl, hP⟩) dX8_check_46
  · exact absurd c_10 (by decide)

set_option maxHeartbeats 4000000 in
set_option maxRecDepth 100000 in
/-- check -/
theorem c_X8_check_y (l : Launch) (G : CG) {B : Nat → Nat} {t bl tl ps er ea eo ud ns ne se : Int32} {bf da dr : Nat → Int32} {hi : Nat → Nat → Int32} {sk : Nat → Int64} (hD : MD G B) (x y am dc ins : Int32) (hin9 : inV x 0 (da 0 - 1) = 1) (hw9 : isWrongV y am dc ins = 1) : Wr l yX8_check cX8_check 6 ((Option.some FieldType.int)) 3 66 0 0 G [.ref (B 0), .int x, .int y, .int am, .int dc, .int ins] (MW G B (fm t bl tl ps er ea eo ud ns ne se) bf da dr hi sk) (MA B) (fun v9 H9 => v9 = some (.int 0) ∧ MW G B (fm 2 bl tl ps er ea eo ud ns ne se) bf da dr hi sk H9) := by
  refine Wr.ofW (by decide) (Nat.le_of_ble_eq_true rfl) (fun p e s m below meth c ls E hG hE hP hr hk hin hl => ?_)
  have hS : va_S (MA B) s.heap s.heap [] := va_S.rf
  have hx := E.1
  have hb := E.2.1
  have hl : lv_has ls 6 [(0, .ref (B 0)), (1, .int x), (2, .int y), (3, .int am), (4, .int dc), (5, .int ins)] := hl
  refine lv_aload_n hx hb dX8_check_0 rfl (lv_at hl 0 rfl) ?_
  refine lv_iconst (v := 0) hx hb dX8_check_1 rfl ?_
  refine pf_X8_32 E hG hP.1 (Nat.le_of_ble_eq_true rfl) rfl rfl hS ⟨0, by decide, rfl⟩ dX8_check_2 (fun H locs ho hz oq hS => ?_)
  have hP : MW G B (fm 0 bl tl ps er ea eo ud ns ne se) bf da dr hi sk H := hP.setO hD ho oq
  refine lv_aload_n hx hb dX8_check_5 rfl (lv_at hl 0 rfl) ?_
  refine lv_iload_n hx hb dX8_check_6 rfl (lv_at hl 1 rfl) ?_
  refine Wr.callV (rest := []) (c_X8_noCredit l G hD x hin9) yk_X8_noCredit E km_X8_179 dX8_check_7 hG (hE.S hS hD.efa) hP (At.recv hG hP.1 rfl) rfl rfl hl.1 ⟨Nat.le_of_ble_eq_true rfl, Nat.le_of_ble_eq_true rfl⟩ ⟨Nat.le_of_ble_eq_true rfl, Nat.le_of_ble_eq_true rfl⟩ (Nat.le_of_ble_eq_true rfl) hS (fun _ h9 => h9) (fun v9 H locs hq hz9 hfr9 hS => ?_)
  obtain ⟨rfl, hP⟩ := hq
  refine lv_if_ne (tgt := 31) hx hb dX8_check_10 (by decide) (fun c_10 => ?_) (fun c_10 => ?_)
  · exact absurd c_10 (by decide)
  · refine lv_aload_n hx hb dX8_check_13 rfl (lv_at hl 0 rfl) ?_
    refine lv_aload_n hx hb dX8_check_14 rfl (lv_at hl 0 rfl) ?_
    refine lv_iload_n hx hb dX8_check_15 rfl (lv_at hl 2 rfl) ?_
    refine lv_iload_n hx hb dX8_check_16 rfl (lv_at hl 3 rfl) ?_
    refine lv_iload hx hb dX8_check_17 (lv_at hl 4 rfl) ?_
    refine lv_iload hx hb dX8_check_19 (lv_at hl 5 rfl) ?_
    refine Rd.callV (rest := [.ref (B 0)]) (c_X8_isWrong l G y am dc ins) yk_X8_isWrong E km_X8_208 dX8_check_21 hG (hE.S hS hD.efa) hP (At.recv hG hP.1 rfl) rfl rfl hl.1 ⟨Nat.le_of_ble_eq_true rfl, Nat.le_of_ble_eq_true rfl⟩ ⟨Nat.zero_le _, Nat.zero_le _⟩ (Nat.le_of_ble_eq_true rfl) ?_
    refine lv_iconst (v := 2) hx hb dX8_check_24 rfl ?_
    rw [hw9]
    refine Wr.callV (rest := []) (c_X8_fails1 l G hD 2 (by decide)) yk_X8_fails E km_X8_153 dX8_check_25 hG (hE.S hS hD.efa) hP (At.recv hG hP.1 rfl) rfl rfl hl.1 ⟨Nat.le_of_ble_eq_true rfl, Nat.le_of_ble_eq_true rfl⟩ ⟨Nat.le_of_ble_eq_true rfl, Nat.le_of_ble_eq_true rfl⟩ (Nat.le_of_ble_eq_true rfl) hS (fun _ h9 => h9) (fun v9 H locs hq hz9 hfr9 hS => ?_)
    obtain ⟨rfl, hP⟩ := hq
    refine lv_if_eq (tgt := 35) hx hb dX8_check_28 (by decide) (fun c_28 => ?_) (fun c_28 => ?_)
    · exact absurd c_28 (by decide)
    · refine lv_iconst (v := 0) hx hb dX8_check_31 rfl ?_
      refine lv_goto (tgt := 46) hx hb dX8_check_32 (by decide) ?_
      exact wr_int E hr hk hS (by decide) (by decide) (⟨rfl, hP⟩) dX8_check_46

set_option maxHeartbeats 4000000 in
set_option maxRecDepth 100000 in
/-- lastDay -/
theorem c_X8_lastDay (l : Launch) (G : CG) {B : Nat → Nat} {t bl tl ps er ea eo ud ns ne se : Int32} {bf da dr : Nat → Int32} {hi : Nat → Nat → Int32} {sk : Nat → Int64} (hD : MD G B) (x y : Int32) (k n nh ex1 pe1 : Nat) (ex : x = nI k) (ey : y = nI n) (hk9 : k < 12) (hn : n ≤ 9999) (hin9 : inV x 0 (da 0 - 1) = 1) (hin8 : inV y 0 9999 = 1) (h2 : da 2 = nI nh) (hh : nh ≤ 16) (hx9 : da (cP k + 3) = nI ex1) (hx8 : ex1 < 1000) (hx7 : da (cP k + 5) = nI pe1) (hx6 : pe1 < 1000) : Wr l yX8_lastDay cX8_lastDay 3 ((Option.some FieldType.int)) 3 66 0 0 G [.ref (B 0), .int x, .int y] (MW G B (fm t bl tl ps er ea eo ud ns ne se) bf da dr hi sk) (MA B) (fun v9 H9 => v9 = some (.int (nI (lastV da nh ex1 pe1 n))) ∧ MW G B (fm 0 bl tl ps er ea eo ud ns ne se) bf da dr hi sk H9) := by
  refine Wr.ofW (by decide) (Nat.le_of_ble_eq_true rfl) (fun p e s m below meth c ls E hG hE hP hr hk hin hl => ?_)
  have hS : va_S (MA B) s.heap s.heap [] := va_S.rf
  have hx := E.1
  have hb := E.2.1
  have hl : lv_has ls 3 [(0, .ref (B 0)), (1, .int x), (2, .int y)] := hl
  refine lv_aload_n hx hb dX8_lastDay_0 rfl (lv_at hl 0 rfl) ?_
  refine lv_iconst (v := 0) hx hb dX8_lastDay_1 rfl ?_
  refine pf_X8_32 E hG hP.1 (Nat.le_of_ble_eq_true rfl) rfl rfl hS ⟨0, by decide, rfl⟩ dX8_lastDay_2 (fun H locs ho hz oq hS => ?_)
  have hP : MW G B (fm 0 bl tl ps er ea eo ud ns ne se) bf da dr hi sk H := hP.setO hD ho oq
  refine lv_aload_n hx hb dX8_lastDay_5 rfl (lv_at hl 0 rfl) ?_
  refine lv_iload_n hx hb dX8_lastDay_6 rfl (lv_at hl 1 rfl) ?_
  refine Wr.callV (rest := []) (c_X8_noCredit l G hD x hin9) yk_X8_noCredit E km_X8_179 dX8_lastDay_7 hG (hE.S hS hD.efa) hP (At.recv hG hP.1 rfl) rfl rfl hl.1 ⟨Nat.le_of_ble_eq_true rfl, Nat.le_of_ble_eq_true rfl⟩ ⟨Nat.le_of_ble_eq_true rfl, Nat.le_of_ble_eq_true rfl⟩ (Nat.le_of_ble_eq_true rfl) hS (fun _ h9 => h9) (fun v9 H locs hq hz9 hfr9 hS => ?_)
  obtain ⟨rfl, hP⟩ := hq
  refine lv_if_ne (tgt := 33) hx hb dX8_lastDay_10 (by decide) (fun c_10 => ?_) (fun c_10 => ?_)
  · exact absurd c_10 (by decide)
  · refine lv_aload_n hx hb dX8_lastDay_13 rfl (lv_at hl 0 rfl) ?_
    refine lv_iload_n hx hb dX8_lastDay_14 rfl (lv_at hl 2 rfl) ?_
    refine Rd.callS (rest := [.ref (B 0)]) (c_X8_isDay l G y) yk_X8_isDay E km_X8_173 dX8_lastDay_15 hG (hE.S hS hD.efa) trivial rfl rfl hl.1 ⟨Nat.le_of_ble_eq_true rfl, Nat.le_of_ble_eq_true rfl⟩ ⟨Nat.zero_le _, Nat.zero_le _⟩ (Nat.le_of_ble_eq_true rfl) ?_
    refine lv_if_ne (tgt := 25) hx hb dX8_lastDay_18 (by decide) (fun c_18 => ?_) (fun c_18 => ?_)
    · refine lv_iconst (v := 0) hx hb dX8_lastDay_25 rfl ?_
      refine lv_iconst (v := 2) hx hb dX8_lastDay_26 rfl ?_
      refine Wr.callV (rest := []) (c_X8_fails0 l G hD 2) yk_X8_fails E km_X8_153 dX8_lastDay_27 hG (hE.S hS hD.efa) hP (At.recv hG hP.1 rfl) rfl rfl hl.1 ⟨Nat.le_of_ble_eq_true rfl, Nat.le_of_ble_eq_true rfl⟩ ⟨Nat.le_of_ble_eq_true rfl, Nat.le_of_ble_eq_true rfl⟩ (Nat.le_of_ble_eq_true rfl) hS (fun _ h9 => h9) (fun v9 H locs hq hz9 hfr9 hS => ?_)
      obtain ⟨rfl, hP⟩ := hq
      refine lv_if_eq (tgt := 37) hx hb dX8_lastDay_30 (by decide) (fun c_30 => ?_) (fun c_30 => ?_)
      · refine lv_aload_n hx hb dX8_lastDay_37 rfl (lv_at hl 0 rfl) ?_
        refine lv_iload_n hx hb dX8_lastDay_38 rfl (lv_at hl 1 rfl) ?_
        refine lv_iload_n hx hb dX8_lastDay_39 rfl (lv_at hl 2 rfl) ?_
        refine Rd.callV (rest := []) (c_X8_lastDayOf l G x y k n nh ex1 pe1 ex ey (by omega) (by omega) h2 hh hx9 hx8 hx7 hx6) yk_X8_lastDayOf E km_X8_204 dX8_lastDay_40 hG (hE.S hS hD.efa) hP (At.recv hG hP.1 rfl) rfl rfl hl.1 ⟨Nat.le_of_ble_eq_true rfl, Nat.le_of_ble_eq_true rfl⟩ ⟨Nat.zero_le _, Nat.zero_le _⟩ (Nat.le_of_ble_eq_true rfl) ?_
        exact wr_int E hr hk hS (by decide) (by decide) (⟨rfl, hP⟩) dX8_lastDay_43
      · exact absurd c_30 (by decide)
    · exact (by rw [hin8] at c_18; exact absurd c_18 (by decide))

set_option maxHeartbeats 4000000 in
set_option maxRecDepth 100000 in
/-- lastDay -/
theorem c_X8_lastDay_x (l : Launch) (G : CG) {B : Nat → Nat} {t bl tl ps er ea eo ud ns ne se : Int32} {bf da dr : Nat → Int32} {hi : Nat → Nat → Int32} {sk : Nat → Int64} (hD : MD G B) (x y : Int32) (hin9 : inV x 0 (da 0 - 1) = 0) : Wr l yX8_lastDay cX8_lastDay 3 ((Option.some FieldType.int)) 2 43 0 0 G [.ref (B 0), .int x, .int y] (MW G B (fm t bl tl ps er ea eo ud ns ne se) bf da dr hi sk) (MA B) (fun v9 H9 => v9 = some (.int 0) ∧ MW G B (fm 1 bl tl ps er ea eo ud ns ne se) bf da dr hi sk H9) := by
  refine Wr.ofW (by decide) (Nat.le_of_ble_eq_true rfl) (fun p e s m below meth c ls E hG hE hP hr hk hin hl => ?_)
  have hS : va_S (MA B) s.heap s.heap [] := va_S.rf
  have hx := E.1
  have hb := E.2.1
  have hl : lv_has ls 3 [(0, .ref (B 0)), (1, .int x), (2, .int y)] := hl
  refine lv_aload_n hx hb dX8_lastDay_0 rfl (lv_at hl 0 rfl) ?_
  refine lv_iconst (v := 0) hx hb dX8_lastDay_1 rfl ?_
  refine pf_X8_32 E hG hP.1 (Nat.le_of_ble_eq_true rfl) rfl rfl hS ⟨0, by decide, rfl⟩ dX8_lastDay_2 (fun H locs ho hz oq hS => ?_)
  have hP : MW G B (fm 0 bl tl ps er ea eo ud ns ne se) bf da dr hi sk H := hP.setO hD ho oq
  refine lv_aload_n hx hb dX8_lastDay_5 rfl (lv_at hl 0 rfl) ?_
  refine lv_iload_n hx hb dX8_lastDay_6 rfl (lv_at hl 1 rfl) ?_
  refine Wr.callV (rest := []) (c_X8_noCredit_x l G hD x hin9) yk_X8_noCredit E km_X8_179 dX8_lastDay_7 hG (hE.S hS hD.efa) hP (At.recv hG hP.1 rfl) rfl rfl hl.1 ⟨Nat.le_of_ble_eq_true rfl, Nat.le_of_ble_eq_true rfl⟩ ⟨Nat.le_of_ble_eq_true rfl, Nat.le_of_ble_eq_true rfl⟩ (Nat.le_of_ble_eq_true rfl) hS (fun _ h9 => h9) (fun v9 H locs hq hz9 hfr9 hS => ?_)
  obtain ⟨rfl, hP⟩ := hq
  refine lv_if_ne (tgt := 33) hx hb dX8_lastDay_10 (by decide) (fun c_10 => ?_) (fun c_10 => ?_)
  · refine lv_iconst (v := 0) hx hb dX8_lastDay_33 rfl ?_
    refine lv_goto (tgt := 43) hx hb dX8_lastDay_34 (by decide) ?_
    exact wr_int E hr hk hS (by decide) (by decide) (⟨rfl, hP⟩) dX8_lastDay_43
  · exact absurd c_10 (by decide)

set_option maxHeartbeats 4000000 in
set_option maxRecDepth 100000 in
/-- lastDay -/
theorem c_X8_lastDay_y (l : Launch) (G : CG) {B : Nat → Nat} {t bl tl ps er ea eo ud ns ne se : Int32} {bf da dr : Nat → Int32} {hi : Nat → Nat → Int32} {sk : Nat → Int64} (hD : MD G B) (x y : Int32) (hin9 : inV x 0 (da 0 - 1) = 1) (hin8 : inV y 0 9999 = 0) : Wr l yX8_lastDay cX8_lastDay 3 ((Option.some FieldType.int)) 2 43 0 0 G [.ref (B 0), .int x, .int y] (MW G B (fm t bl tl ps er ea eo ud ns ne se) bf da dr hi sk) (MA B) (fun v9 H9 => v9 = some (.int 0) ∧ MW G B (fm 2 bl tl ps er ea eo ud ns ne se) bf da dr hi sk H9) := by
  refine Wr.ofW (by decide) (Nat.le_of_ble_eq_true rfl) (fun p e s m below meth c ls E hG hE hP hr hk hin hl => ?_)
  have hS : va_S (MA B) s.heap s.heap [] := va_S.rf
  have hx := E.1
  have hb := E.2.1
  have hl : lv_has ls 3 [(0, .ref (B 0)), (1, .int x), (2, .int y)] := hl
  refine lv_aload_n hx hb dX8_lastDay_0 rfl (lv_at hl 0 rfl) ?_
  refine lv_iconst (v := 0) hx hb dX8_lastDay_1 rfl ?_
  refine pf_X8_32 E hG hP.1 (Nat.le_of_ble_eq_true rfl) rfl rfl hS ⟨0, by decide, rfl⟩ dX8_lastDay_2 (fun H locs ho hz oq hS => ?_)
  have hP : MW G B (fm 0 bl tl ps er ea eo ud ns ne se) bf da dr hi sk H := hP.setO hD ho oq
  refine lv_aload_n hx hb dX8_lastDay_5 rfl (lv_at hl 0 rfl) ?_
  refine lv_iload_n hx hb dX8_lastDay_6 rfl (lv_at hl 1 rfl) ?_
  refine Wr.callV (rest := []) (c_X8_noCredit l G hD x hin9) yk_X8_noCredit E km_X8_179 dX8_lastDay_7 hG (hE.S hS hD.efa) hP (At.recv hG hP.1 rfl) rfl rfl hl.1 ⟨Nat.le_of_ble_eq_true rfl, Nat.le_of_ble_eq_true rfl⟩ ⟨Nat.le_of_ble_eq_true rfl, Nat.le_of_ble_eq_true rfl⟩ (Nat.le_of_ble_eq_true rfl) hS (fun _ h9 => h9) (fun v9 H locs hq hz9 hfr9 hS => ?_)
  obtain ⟨rfl, hP⟩ := hq
  refine lv_if_ne (tgt := 33) hx hb dX8_lastDay_10 (by decide) (fun c_10 => ?_) (fun c_10 => ?_)
  · exact absurd c_10 (by decide)
  · refine lv_aload_n hx hb dX8_lastDay_13 rfl (lv_at hl 0 rfl) ?_
    refine lv_iload_n hx hb dX8_lastDay_14 rfl (lv_at hl 2 rfl) ?_
    refine Rd.callS (rest := [.ref (B 0)]) (c_X8_isDay l G y) yk_X8_isDay E km_X8_173 dX8_lastDay_15 hG (hE.S hS hD.efa) trivial rfl rfl hl.1 ⟨Nat.le_of_ble_eq_true rfl, Nat.le_of_ble_eq_true rfl⟩ ⟨Nat.zero_le _, Nat.zero_le _⟩ (Nat.le_of_ble_eq_true rfl) ?_
    refine lv_if_ne (tgt := 25) hx hb dX8_lastDay_18 (by decide) (fun c_18 => ?_) (fun c_18 => ?_)
    · exact (by rw [hin8] at c_18; exact absurd c_18 (by decide))
    · refine lv_iconst (v := 1) hx hb dX8_lastDay_21 rfl ?_
      refine lv_goto (tgt := 26) hx hb dX8_lastDay_22 (by decide) ?_
      refine lv_iconst (v := 2) hx hb dX8_lastDay_26 rfl ?_
      refine Wr.callV (rest := []) (c_X8_fails1 l G hD 2 (by decide)) yk_X8_fails E km_X8_153 dX8_lastDay_27 hG (hE.S hS hD.efa) hP (At.recv hG hP.1 rfl) rfl rfl hl.1 ⟨Nat.le_of_ble_eq_true rfl, Nat.le_of_ble_eq_true rfl⟩ ⟨Nat.le_of_ble_eq_true rfl, Nat.le_of_ble_eq_true rfl⟩ (Nat.le_of_ble_eq_true rfl) hS (fun _ h9 => h9) (fun v9 H locs hq hz9 hfr9 hS => ?_)
      obtain ⟨rfl, hP⟩ := hq
      refine lv_if_eq (tgt := 37) hx hb dX8_lastDay_30 (by decide) (fun c_30 => ?_) (fun c_30 => ?_)
      · exact absurd c_30 (by decide)
      · refine lv_iconst (v := 0) hx hb dX8_lastDay_33 rfl ?_
        refine lv_goto (tgt := 43) hx hb dX8_lastDay_34 (by decide) ?_
        exact wr_int E hr hk hS (by decide) (by decide) (⟨rfl, hP⟩) dX8_lastDay_43

set_option maxHeartbeats 4000000 in
set_option maxRecDepth 100000 in
/-- dueBetween -/
theorem c_X8_dueBetween (l : Launch) (G : CG) {B : Nat → Nat} {t bl tl ps er ea eo ud ns ne se : Int32} {bf da dr : Nat → Int32} {hi : Nat → Nat → Int32} {sk : Nat → Int64} (hD : MD G B) (a b : Int32) (nc np nh : Nat) (hO : OkD da nc np nh) : Wr l yX8_dueBetween cX8_dueBetween 7 ((Option.some FieldType.long)) 3 66 0 0 G [.ref (B 0), .int a, .int b] (MW G B (fm t bl tl ps er ea eo ud ns ne se) bf da dr hi sk) (MA B) (fun v9 H9 => v9 = some (.long (dueS da nh a b np)) ∧ MW G B (fm 0 bl tl ps er ea eo ud ns ne se) bf da dr hi sk H9) := by
  refine Wr.ofW (by decide) (Nat.le_of_ble_eq_true rfl) (fun p e s m below meth c ls E hG hE hP hr hk hin hl => ?_)
  have hS : va_S (MA B) s.heap s.heap [] := va_S.rf
  have hx := E.1
  have hb := E.2.1
  have hl : lv_has ls 7 [(0, .ref (B 0)), (1, .int a), (2, .int b)] := hl
  obtain ⟨⟨h0, hc0⟩, ⟨h1, hp0⟩, ⟨h2, hh⟩, -, hCr, hPr, -, -⟩ := id hO
  refine lv_aload_n hx hb dX8_dueBetween_0 rfl (lv_at hl 0 rfl) ?_
  refine lv_iconst (v := 0) hx hb dX8_dueBetween_1 rfl ?_
  refine pf_X8_32 E hG hP.1 (Nat.le_of_ble_eq_true rfl) rfl rfl hS ⟨0, by decide, rfl⟩ dX8_dueBetween_2 (fun H locs ho hz oq hS => ?_)
  have hP : MW G B (fm 0 bl tl ps er ea eo ud ns ne se) bf da dr hi sk H := hP.setO hD ho oq
  refine lv_lconst (v := 0) hx hb dX8_dueBetween_5 rfl ?_
  refine lv_lstore_n (lv' := [(3, .long 0), (0, .ref (B 0)), (1, .int a), (2, .int b)]) hx hb dX8_dueBetween_6 rfl hl (by decide) rfl (fun ls hl => ?_)
  refine lv_iconst (v := 0) hx hb dX8_dueBetween_7 rfl ?_
  refine lv_ci (y := nI 0) (ixq rfl) ?_
  refine lv_istore (lv' := [(5, .int (nI 0)), (3, .long 0), (0, .ref (B 0)), (1, .int a), (2, .int b)]) hx hb dX8_dueBetween_8 hl (by decide) rfl (fun ls hl => ?_)
  have loop : ∀ (j k : Nat), (np < k + j) → (k ≤ np) → ∀ ls : Array Slot, lv_has ls 7 [(5, .int (nI k)), (3, .long (dueS da nh a b k)), (0, .ref (B 0)), (1, .int a), (2, .int b)] → W p l e { frames := 3, cells := 0, slots := 0, locals := 66 } s m ([.ref (B 0), .int a, .int b] : List Value).toArray below meth c H locs 0 0 (WQ below ([.ref (B 0), .int a, .int b] : List Value).toArray s 0 0 (MA B) (fun v9 H9 => v9 = some (.long (dueS da nh a b np)) ∧ MW G B (fm 0 bl tl ps er ea eo ud ns ne se) bf da dr hi sk H9)) (F0 m 10 ls []) := by
    intro j
    induction j with
    | zero => intro k z1 z2; omega
    | succ j ih =>
      intro k z1 z2 ls hl
      refine lv_iload hx hb dX8_dueBetween_10 (lv_at hl 0 rfl) ?_
      refine lv_aload_n hx hb dX8_dueBetween_12 rfl (lv_at hl 2 rfl) ?_
      refine gf_X8_17 (v := .ref (B 2)) E hG hP.1 rfl dX8_dueBetween_13 ?_
      refine lv_iconst (v := 1) hx hb dX8_dueBetween_16 rfl ?_
      refine g_ild 1 E hG hP.2.2.1 rfl (by omega) (by decide) dX8_dueBetween_17 ?_
      refine lv_icmp_ge (tgt := 69) hx hb dX8_dueBetween_18 (by decide) (fun c_18 => ?_) (fun c_18 => ?_)
      · have c_18 : np ≤ k := (nLE (x := (da 1)) (y := (nI k)) (a := np) (b := k) h1 rfl (by omega) (by omega)).mp c_18
        have e9 : np = k := by omega
        subst e9
        refine lv_lload_n hx hb dX8_dueBetween_69 rfl (lv_at hl 1 rfl) ?_
        exact wr_long E hr hk hS (by decide) (by decide) (⟨rfl, hP⟩) dX8_dueBetween_70
      · have c_18 : ¬ np ≤ k := fun z9 => c_18 ((nLE (x := (da 1)) (y := (nI k)) (a := np) (b := k) h1 rfl (by omega) (by omega)).mpr z9)
        refine lv_aload_n hx hb dX8_dueBetween_21 rfl (lv_at hl 2 rfl) ?_
        refine lv_iload hx hb dX8_dueBetween_22 (lv_at hl 0 rfl) ?_
        obtain ⟨cr, dy, am9, fa9, si, hd1, hd2, -, -, -, -, -, -, -, hd3, hd4⟩ := hPr k (by omega)
        obtain ⟨-, -, te, -, -, -, -, -, hd5, hd6, -⟩ := hCr cr hd2
        refine Rd.callV (rest := []) (c_X8_dueOf l G (nI k) k nh rfl (by omega) cr si te hd1 (by omega) hd3 (by omega) hd5 (by omega) h2 hh) yk_X8_dueOf E km_X8_222 dX8_dueBetween_24 hG (hE.S hS hD.efa) hP (At.recv hG hP.1 rfl) rfl rfl hl.1 ⟨Nat.le_of_ble_eq_true rfl, Nat.le_of_ble_eq_true rfl⟩ ⟨Nat.zero_le _, Nat.zero_le _⟩ (Nat.le_of_ble_eq_true rfl) ?_
        refine lv_ci (y := dueD da nh k) (dueV_D hd1 (by omega) hd3 (by omega) hd5 (by omega)) ?_
        refine lv_istore (lv' := [(6, .int (dueD da nh k)), (5, .int (nI k)), (3, .long (dueS da nh a b k)), (0, .ref (B 0)), (1, .int a), (2, .int b)]) hx hb dX8_dueBetween_27 hl (by decide) rfl (fun ls hl => ?_)
        refine lv_iload hx hb dX8_dueBetween_29 (lv_at hl 0 rfl) ?_
        refine lv_iconst (v := (-1)) hx hb dX8_dueBetween_31 rfl ?_
        refine W.cutL (nL := 7) (pc := 63) (lv := [(6, .int (dueD da nh k)), (5, .int (nI k)), (3, .long (dueS da nh a b (k + 1))), (0, .ref (B 0)), (1, .int a), (2, .int b)]) (st := []) (fun K => ?_) (fun ls hl => ?_)
        · refine lv_icmp_eq (tgt := 63) hx hb dX8_dueBetween_32 (by decide) (fun c_32 => ?_) (fun c_32 => ?_)
          · exact K ls (by rw [show dueS da nh a b (k + 1) = (dueS da nh a b k) from (show dueT da nh a b k (dueS da nh a b k) = (dueS da nh a b k) by unfold dueT; first | (simp only [c_32, ↓reduceIte, not_true_eq_false, not_false_eq_true]; done) | (simp [c_32]; done))]; exact (lv_sub hl [0, 1, 2, 3, 4, 5] rfl))
          · refine lv_iload hx hb dX8_dueBetween_35 (lv_at hl 0 rfl) ?_
            refine lv_iload_n hx hb dX8_dueBetween_37 rfl (lv_at hl 4 rfl) ?_
            refine lv_icmp_lt (tgt := 63) hx hb dX8_dueBetween_38 (by decide) (fun c_38 => ?_) (fun c_38 => ?_)
            · exact K ls (by rw [show dueS da nh a b (k + 1) = (dueS da nh a b k) from (show dueT da nh a b k (dueS da nh a b k) = (dueS da nh a b k) by unfold dueT; first | (simp only [c_32, c_38, ↓reduceIte, not_true_eq_false, not_false_eq_true]; done) | (simp [c_32, c_38]; done))]; exact (lv_sub hl [0, 1, 2, 3, 4, 5] rfl))
            · refine lv_iload hx hb dX8_dueBetween_41 (lv_at hl 0 rfl) ?_
              refine lv_iload_n hx hb dX8_dueBetween_43 rfl (lv_at hl 5 rfl) ?_
              refine lv_icmp_gt (tgt := 63) hx hb dX8_dueBetween_44 (by decide) (fun c_44 => ?_) (fun c_44 => ?_)
              · exact K ls (by rw [show dueS da nh a b (k + 1) = (dueS da nh a b k) from (show dueT da nh a b k (dueS da nh a b k) = (dueS da nh a b k) by unfold dueT; first | (simp only [c_32, c_38, c_44, ↓reduceIte, not_true_eq_false, not_false_eq_true]; done) | (simp [c_32, c_38, c_44]; done))]; exact (lv_sub hl [0, 1, 2, 3, 4, 5] rfl))
              · refine lv_lload_n hx hb dX8_dueBetween_47 rfl (lv_at hl 2 rfl) ?_
                refine lv_aload_n hx hb dX8_dueBetween_48 rfl (lv_at hl 3 rfl) ?_
                refine gf_X8_17 (v := .ref (B 2)) E hG hP.1 rfl dX8_dueBetween_49 ?_
                refine lv_iload hx hb dX8_dueBetween_52 (lv_at hl 1 rfl) ?_
                refine Rd.callS (rest := [.ref (B 2), .long (dueS da nh a b k)]) (c_X8_presentation l G (nI k)) yk_X8_presentation E km_X8_188 dX8_dueBetween_54 hG (hE.S hS hD.efa) trivial rfl rfl hl.1 ⟨Nat.le_of_ble_eq_true rfl, Nat.le_of_ble_eq_true rfl⟩ ⟨Nat.zero_le _, Nat.zero_le _⟩ (Nat.le_of_ble_eq_true rfl) ?_
                refine lv_iconst (v := 2) hx hb dX8_dueBetween_57 rfl ?_
                refine lv_iadd hx hb dX8_dueBetween_58 ?_
                refine g_ild ((154 + 6 * k) + 2) E hG hP.2.2.1 (ixq (nI_ad (nI_ad rfl (nI_mu rfl rfl)) rfl)) (by omega) (by decide) dX8_dueBetween_59 ?_
                refine lv_i2l (v := (da ((154 + 6 * k) + 2)).toInt64) hx hb dX8_dueBetween_60 rfl ?_
                refine lv_ladd hx hb dX8_dueBetween_61 ?_
                refine lv_lstore_n (lv' := [(3, .long ((dueS da nh a b k) + (da ((154 + 6 * k) + 2)).toInt64)), (6, .int (dueD da nh k)), (5, .int (nI k)), (0, .ref (B 0)), (1, .int a), (2, .int b)]) hx hb dX8_dueBetween_62 rfl hl (by decide) rfl (fun ls hl => ?_)
                exact K ls (by rw [show dueS da nh a b (k + 1) = ((dueS da nh a b k) + (da ((154 + 6 * k) + 2)).toInt64) from (show dueT da nh a b k (dueS da nh a b k) = ((dueS da nh a b k) + (da ((154 + 6 * k) + 2)).toInt64) by unfold dueT; first | (simp only [c_32, c_38, c_44, ↓reduceIte, not_true_eq_false, not_false_eq_true]; done) | (simp [c_32, c_38, c_44]; done))]; exact (lv_sub hl [1, 2, 0, 3, 4, 5] rfl))
        refine lv_iinc (v := (nI (k + 1))) (lv' := [(5, .int (nI (k + 1))), (6, .int (dueD da nh k)), (3, .long (dueS da nh a b (k + 1))), (0, .ref (B 0)), (1, .int a), (2, .int b)]) hx hb dX8_dueBetween_63 hl (k := 1) rfl (nI_ad rfl rfl) (by decide) rfl (fun ls hl => ?_)
        refine lv_goto (tgt := 10) hx hb dX8_dueBetween_66 (by decide) ?_
        exact ih (k + 1) (by omega) (by omega) ls (lv_sub hl [0, 2, 3, 4, 5] rfl)
  exact loop (np + 1) 0 (by omega) (by omega) ls (lv_sub hl [0, 1, 2, 3, 4] rfl)

set_option maxHeartbeats 4000000 in
set_option maxRecDepth 100000 in
/-- checksum -/
theorem c_X8_checksum (l : Launch) (G : CG) {B : Nat → Nat} {t bl tl ps er ea eo ud ns ne se : Int32} {bf da dr : Nat → Int32} {hi : Nat → Nat → Int32} {sk : Nat → Int64} (hD : MD G B) (nc np nh : Nat) (hO : OkD da nc np nh) : Wr l yX8_checksum cX8_checksum 4 ((Option.some FieldType.long)) 4 86 0 0 G [.ref (B 0)] (MW G B (fm t bl tl ps er ea eo ud ns ne se) bf da dr hi sk) (MA B) (fun v9 H9 => v9 = some (.long (ckP da np nc nh np)) ∧ MW G B (fm 0 bl tl ps er ea eo ud ns ne se) bf da dr hi sk H9) := by
  refine Wr.ofW (by decide) (Nat.le_of_ble_eq_true rfl) (fun p e s m below meth c ls E hG hE hP hr hk hin hl => ?_)
  have hS : va_S (MA B) s.heap s.heap [] := va_S.rf
  have hx := E.1
  have hb := E.2.1
  have hl : lv_has ls 4 [(0, .ref (B 0))] := hl
  obtain ⟨⟨h0, hc0⟩, ⟨h1, hp0⟩, ⟨h2, hh⟩, -, hCr, hPr, -, -⟩ := id hO
  refine lv_aload_n hx hb dX8_checksum_0 rfl (lv_at hl 0 rfl) ?_
  refine lv_iconst (v := 0) hx hb dX8_checksum_1 rfl ?_
  refine pf_X8_32 E hG hP.1 (Nat.le_of_ble_eq_true rfl) rfl rfl hS ⟨0, by decide, rfl⟩ dX8_checksum_2 (fun H locs ho hz oq hS => ?_)
  have hP : MW G B (fm 0 bl tl ps er ea eo ud ns ne se) bf da dr hi sk H := hP.setO hD ho oq
  refine lv_aload_n hx hb dX8_checksum_5 rfl (lv_at hl 0 rfl) ?_
  refine gf_X8_17 (v := .ref (B 2)) E hG hP.1 rfl dX8_checksum_6 ?_
  refine lv_iconst (v := 3) hx hb dX8_checksum_9 rfl ?_
  refine g_ild 3 E hG hP.2.2.1 rfl (by omega) (by decide) dX8_checksum_10 ?_
  refine lv_i2l (v := (da 3).toInt64) hx hb dX8_checksum_11 rfl ?_
  refine lv_lstore_n (lv' := [(1, .long ((da 3).toInt64)), (0, .ref (B 0))]) hx hb dX8_checksum_12 rfl hl (by decide) rfl (fun ls hl => ?_)
  refine lv_iconst (v := 0) hx hb dX8_checksum_13 rfl ?_
  refine lv_ci (y := nI 0) (ixq rfl) ?_
  refine lv_istore_n (lv' := [(3, .int (nI 0)), (1, .long ((da 3).toInt64)), (0, .ref (B 0))]) hx hb dX8_checksum_14 rfl hl (by decide) rfl (fun ls hl => ?_)
  have loop : ∀ (j k : Nat), (nc < k + j) → (k ≤ nc) → ∀ ls : Array Slot, lv_has ls 4 [(3, .int (nI k)), (1, .long (ckC da np nc k)), (0, .ref (B 0))] → W p l e { frames := 4, cells := 0, slots := 0, locals := 86 } s m ([.ref (B 0)] : List Value).toArray below meth c H locs 0 0 (WQ below ([.ref (B 0)] : List Value).toArray s 0 0 (MA B) (fun v9 H9 => v9 = some (.long (ckP da np nc nh np)) ∧ MW G B (fm 0 bl tl ps er ea eo ud ns ne se) bf da dr hi sk H9)) (F0 m 15 ls []) := by
    intro j
    induction j with
    | zero => intro k z1 z2; omega
    | succ j ih =>
      intro k z1 z2 ls hl
      refine lv_iload_n hx hb dX8_checksum_15 rfl (lv_at hl 0 rfl) ?_
      refine lv_aload_n hx hb dX8_checksum_16 rfl (lv_at hl 2 rfl) ?_
      refine gf_X8_17 (v := .ref (B 2)) E hG hP.1 rfl dX8_checksum_17 ?_
      refine lv_iconst (v := 0) hx hb dX8_checksum_20 rfl ?_
      refine g_ild 0 E hG hP.2.2.1 rfl (by omega) (by decide) dX8_checksum_21 ?_
      refine lv_icmp_ge (tgt := 77) hx hb dX8_checksum_22 (by decide) (fun c_22 => ?_) (fun c_22 => ?_)
      · have c_22 : nc ≤ k := (nLE (x := (da 0)) (y := (nI k)) (a := nc) (b := k) h0 rfl (by omega) (by omega)).mp c_22
        have e9 : nc = k := by omega
        subst e9
        refine lv_iconst (v := 0) hx hb dX8_checksum_77 rfl ?_
        refine lv_ci (y := nI 0) (ixq rfl) ?_
        refine lv_istore_n (lv' := [(3, .int (nI 0)), (1, .long (ckC da np nc nc)), (0, .ref (B 0))]) hx hb dX8_checksum_78 rfl hl (by decide) rfl (fun ls hl => ?_)
        have loop2 : ∀ (j k : Nat), (np < k + j) → (k ≤ np) → ∀ ls : Array Slot, lv_has ls 4 [(3, .int (nI k)), (1, .long (ckP da np nc nh k)), (0, .ref (B 0))] → W p l e { frames := 4, cells := 0, slots := 0, locals := 86 } s m ([.ref (B 0)] : List Value).toArray below meth c H locs 0 0 (WQ below ([.ref (B 0)] : List Value).toArray s 0 0 (MA B) (fun v9 H9 => v9 = some (.long (ckP da np nc nh np)) ∧ MW G B (fm 0 bl tl ps er ea eo ud ns ne se) bf da dr hi sk H9)) (F0 m 79 ls []) := by
          intro j
          induction j with
          | zero => intro k z1 z2; omega
          | succ j ih =>
            intro k z1 z2 ls hl
            refine lv_iload_n hx hb dX8_checksum_79 rfl (lv_at hl 0 rfl) ?_
            refine lv_aload_n hx hb dX8_checksum_80 rfl (lv_at hl 2 rfl) ?_
            refine gf_X8_17 (v := .ref (B 2)) E hG hP.1 rfl dX8_checksum_81 ?_
            refine lv_iconst (v := 1) hx hb dX8_checksum_84 rfl ?_
            refine g_ild 1 E hG hP.2.2.1 rfl (by omega) (by decide) dX8_checksum_85 ?_
            refine lv_icmp_ge (tgt := 163) hx hb dX8_checksum_86 (by decide) (fun c_86 => ?_) (fun c_86 => ?_)
            · have c_86 : np ≤ k := (nLE (x := (da 1)) (y := (nI k)) (a := np) (b := k) h1 rfl (by omega) (by omega)).mp c_86
              have e9 : np = k := by omega
              subst e9
              refine lv_lload_n hx hb dX8_checksum_163 rfl (lv_at hl 1 rfl) ?_
              exact wr_long E hr hk hS (by decide) (by decide) (⟨rfl, hP⟩) dX8_checksum_164
            · have c_86 : ¬ np ≤ k := fun z9 => c_86 ((nLE (x := (da 1)) (y := (nI k)) (a := np) (b := k) h1 rfl (by omega) (by omega)).mpr z9)
              refine lv_ldc2 (v := 31) hx hb E.2.2.2.1 (E.2.2.2.2 _ kk_X8_248) dX8_checksum_89 ?_
              refine lv_lload_n hx hb dX8_checksum_92 rfl (lv_at hl 1 rfl) ?_
              refine lv_lmul hx hb dX8_checksum_93 ?_
              refine lv_aload_n hx hb dX8_checksum_94 rfl (lv_at hl 2 rfl) ?_
              refine gf_X8_17 (v := .ref (B 2)) E hG hP.1 rfl dX8_checksum_95 ?_
              refine lv_iload_n hx hb dX8_checksum_98 rfl (lv_at hl 0 rfl) ?_
              refine Rd.callS (rest := [.ref (B 2), .long (31 * (ckP da np nc nh k))]) (c_X8_presentation l G (nI k)) yk_X8_presentation E km_X8_188 dX8_checksum_99 hG (hE.S hS hD.efa) trivial rfl rfl hl.1 ⟨Nat.le_of_ble_eq_true rfl, Nat.le_of_ble_eq_true rfl⟩ ⟨Nat.zero_le _, Nat.zero_le _⟩ (Nat.le_of_ble_eq_true rfl) ?_
              refine g_ild (154 + 6 * k) E hG hP.2.2.1 (ixq (nI_ad rfl (nI_mu rfl rfl))) (by omega) (by decide) dX8_checksum_102 ?_
              refine lv_i2l (v := (da (154 + 6 * k)).toInt64) hx hb dX8_checksum_103 rfl ?_
              refine lv_ladd hx hb dX8_checksum_104 ?_
              refine lv_lstore_n (lv' := [(1, .long ((31 * (ckP da np nc nh k)) + (da (154 + 6 * k)).toInt64)), (3, .int (nI k)), (0, .ref (B 0))]) hx hb dX8_checksum_105 rfl hl (by decide) rfl (fun ls hl => ?_)
              refine lv_ldc2 (v := 31) hx hb E.2.2.2.1 (E.2.2.2.2 _ kk_X8_248) dX8_checksum_106 ?_
              refine lv_lload_n hx hb dX8_checksum_109 rfl (lv_at hl 0 rfl) ?_
              refine lv_lmul hx hb dX8_checksum_110 ?_
              refine lv_aload_n hx hb dX8_checksum_111 rfl (lv_at hl 2 rfl) ?_
              refine gf_X8_17 (v := .ref (B 2)) E hG hP.1 rfl dX8_checksum_112 ?_
              refine lv_iload_n hx hb dX8_checksum_115 rfl (lv_at hl 1 rfl) ?_
              refine Rd.callS (rest := [.ref (B 2), .long (31 * ((31 * (ckP da np nc nh k)) + (da (154 + 6 * k)).toInt64))]) (c_X8_presentation l G (nI k)) yk_X8_presentation E km_X8_188 dX8_checksum_116 hG (hE.S hS hD.efa) trivial rfl rfl hl.1 ⟨Nat.le_of_ble_eq_true rfl, Nat.le_of_ble_eq_true rfl⟩ ⟨Nat.zero_le _, Nat.zero_le _⟩ (Nat.le_of_ble_eq_true rfl) ?_
              refine lv_iconst (v := 4) hx hb dX8_checksum_119 rfl ?_
              refine lv_iadd hx hb dX8_checksum_120 ?_
              refine g_ild ((154 + 6 * k) + 4) E hG hP.2.2.1 (ixq (nI_ad (nI_ad rfl (nI_mu rfl rfl)) rfl)) (by omega) (by decide) dX8_checksum_121 ?_
              refine lv_i2l (v := (da ((154 + 6 * k) + 4)).toInt64) hx hb dX8_checksum_122 rfl ?_
              refine lv_ladd hx hb dX8_checksum_123 ?_
              refine lv_lstore_n (lv' := [(1, .long ((31 * ((31 * (ckP da np nc nh k)) + (da (154 + 6 * k)).toInt64)) + (da ((154 + 6 * k) + 4)).toInt64)), (3, .int (nI k)), (0, .ref (B 0))]) hx hb dX8_checksum_124 rfl hl (by decide) rfl (fun ls hl => ?_)
              refine lv_ldc2 (v := 31) hx hb E.2.2.2.1 (E.2.2.2.2 _ kk_X8_248) dX8_checksum_125 ?_
              refine lv_lload_n hx hb dX8_checksum_128 rfl (lv_at hl 0 rfl) ?_
              refine lv_lmul hx hb dX8_checksum_129 ?_
              refine lv_aload_n hx hb dX8_checksum_130 rfl (lv_at hl 2 rfl) ?_
              refine gf_X8_17 (v := .ref (B 2)) E hG hP.1 rfl dX8_checksum_131 ?_
              refine lv_iload_n hx hb dX8_checksum_134 rfl (lv_at hl 1 rfl) ?_
              refine Rd.callS (rest := [.ref (B 2), .long (31 * ((31 * ((31 * (ckP da np nc nh k)) + (da (154 + 6 * k)).toInt64)) + (da ((154 + 6 * k) + 4)).toInt64))]) (c_X8_presentation l G (nI k)) yk_X8_presentation E km_X8_188 dX8_checksum_135 hG (hE.S hS hD.efa) trivial rfl rfl hl.1 ⟨Nat.le_of_ble_eq_true rfl, Nat.le_of_ble_eq_true rfl⟩ ⟨Nat.zero_le _, Nat.zero_le _⟩ (Nat.le_of_ble_eq_true rfl) ?_
              refine lv_iconst (v := 3) hx hb dX8_checksum_138 rfl ?_
              refine lv_iadd hx hb dX8_checksum_139 ?_
              refine g_ild ((154 + 6 * k) + 3) E hG hP.2.2.1 (ixq (nI_ad (nI_ad rfl (nI_mu rfl rfl)) rfl)) (by omega) (by decide) dX8_checksum_140 ?_
              refine lv_i2l (v := (da ((154 + 6 * k) + 3)).toInt64) hx hb dX8_checksum_141 rfl ?_
              refine lv_ladd hx hb dX8_checksum_142 ?_
              refine lv_lstore_n (lv' := [(1, .long ((31 * ((31 * ((31 * (ckP da np nc nh k)) + (da (154 + 6 * k)).toInt64)) + (da ((154 + 6 * k) + 4)).toInt64)) + (da ((154 + 6 * k) + 3)).toInt64)), (3, .int (nI k)), (0, .ref (B 0))]) hx hb dX8_checksum_143 rfl hl (by decide) rfl (fun ls hl => ?_)
              refine lv_ldc2 (v := 31) hx hb E.2.2.2.1 (E.2.2.2.2 _ kk_X8_248) dX8_checksum_144 ?_
              refine lv_lload_n hx hb dX8_checksum_147 rfl (lv_at hl 0 rfl) ?_
              refine lv_lmul hx hb dX8_checksum_148 ?_
              refine lv_aload_n hx hb dX8_checksum_149 rfl (lv_at hl 2 rfl) ?_
              refine lv_iload_n hx hb dX8_checksum_150 rfl (lv_at hl 1 rfl) ?_
              obtain ⟨cr, dy, am9, fa9, si, hd1, hd2, -, -, -, -, -, -, -, hd3, hd4⟩ := hPr k (by omega)
              obtain ⟨-, -, te, -, -, -, -, -, hd5, hd6, -⟩ := hCr cr hd2
              refine Rd.callV (rest := [.long (31 * ((31 * ((31 * ((31 * (ckP da np nc nh k)) + (da (154 + 6 * k)).toInt64)) + (da ((154 + 6 * k) + 4)).toInt64)) + (da ((154 + 6 * k) + 3)).toInt64))]) (c_X8_dueOf l G (nI k) k nh rfl (by omega) cr si te hd1 (by omega) hd3 (by omega) hd5 (by omega) h2 hh) yk_X8_dueOf E km_X8_222 dX8_checksum_151 hG (hE.S hS hD.efa) hP (At.recv hG hP.1 rfl) rfl rfl hl.1 ⟨Nat.le_of_ble_eq_true rfl, Nat.le_of_ble_eq_true rfl⟩ ⟨Nat.zero_le _, Nat.zero_le _⟩ (Nat.le_of_ble_eq_true rfl) ?_
              refine lv_ci (y := dueD da nh k) (dueV_D hd1 (by omega) hd3 (by omega) hd5 (by omega)) ?_
              refine lv_i2l (v := (dueD da nh k).toInt64) hx hb dX8_checksum_154 rfl ?_
              refine lv_ladd hx hb dX8_checksum_155 ?_
              refine lv_lstore_n (lv' := [(1, .long ((31 * ((31 * ((31 * ((31 * (ckP da np nc nh k)) + (da (154 + 6 * k)).toInt64)) + (da ((154 + 6 * k) + 4)).toInt64)) + (da ((154 + 6 * k) + 3)).toInt64)) + (dueD da nh k).toInt64)), (3, .int (nI k)), (0, .ref (B 0))]) hx hb dX8_checksum_156 rfl hl (by decide) rfl (fun ls hl => ?_)
              refine lv_iinc (v := (nI (k + 1))) (lv' := [(3, .int (nI (k + 1))), (1, .long ((31 * ((31 * ((31 * ((31 * (ckP da np nc nh k)) + (da (154 + 6 * k)).toInt64)) + (da ((154 + 6 * k) + 4)).toInt64)) + (da ((154 + 6 * k) + 3)).toInt64)) + (dueD da nh k).toInt64)), (0, .ref (B 0))]) hx hb dX8_checksum_157 hl (k := 1) rfl (nI_ad rfl rfl) (by decide) rfl (fun ls hl => ?_)
              refine lv_goto (tgt := 79) hx hb dX8_checksum_160 (by decide) ?_
              exact ih (k + 1) (by omega) (by omega) ls (lv_sub hl [0, 1, 2] rfl)
        exact loop2 (np + 1) 0 (by omega) (by omega) ls (lv_sub hl [0, 1, 2] rfl)
      · have c_22 : ¬ nc ≤ k := fun z9 => c_22 ((nLE (x := (da 0)) (y := (nI k)) (a := nc) (b := k) h0 rfl (by omega) (by omega)).mpr z9)
        refine lv_ldc2 (v := 31) hx hb E.2.2.2.1 (E.2.2.2.2 _ kk_X8_248) dX8_checksum_25 ?_
        refine lv_lload_n hx hb dX8_checksum_28 rfl (lv_at hl 1 rfl) ?_
        refine lv_lmul hx hb dX8_checksum_29 ?_
        refine lv_aload_n hx hb dX8_checksum_30 rfl (lv_at hl 2 rfl) ?_
        refine gf_X8_17 (v := .ref (B 2)) E hG hP.1 rfl dX8_checksum_31 ?_
        refine lv_iload_n hx hb dX8_checksum_34 rfl (lv_at hl 0 rfl) ?_
        refine Rd.callS (rest := [.ref (B 2), .long (31 * (ckC da np nc k))]) (c_X8_credit l G (nI k)) yk_X8_credit E km_X8_126 dX8_checksum_35 hG (hE.S hS hD.efa) trivial rfl rfl hl.1 ⟨Nat.le_of_ble_eq_true rfl, Nat.le_of_ble_eq_true rfl⟩ ⟨Nat.zero_le _, Nat.zero_le _⟩ (Nat.le_of_ble_eq_true rfl) ?_
        refine lv_bipush (v := 10) hx hb dX8_checksum_38 rfl ?_
        refine lv_iadd hx hb dX8_checksum_40 ?_
        refine g_ild ((22 + 11 * k) + 10) E hG hP.2.2.1 (ixq (nI_ad (nI_ad rfl (nI_mu rfl rfl)) rfl)) (by omega) (by decide) dX8_checksum_41 ?_
        refine lv_i2l (v := (da ((22 + 11 * k) + 10)).toInt64) hx hb dX8_checksum_42 rfl ?_
        refine lv_ladd hx hb dX8_checksum_43 ?_
        refine lv_lstore_n (lv' := [(1, .long ((31 * (ckC da np nc k)) + (da ((22 + 11 * k) + 10)).toInt64)), (3, .int (nI k)), (0, .ref (B 0))]) hx hb dX8_checksum_44 rfl hl (by decide) rfl (fun ls hl => ?_)
        refine lv_ldc2 (v := 31) hx hb E.2.2.2.1 (E.2.2.2.2 _ kk_X8_248) dX8_checksum_45 ?_
        refine lv_lload_n hx hb dX8_checksum_48 rfl (lv_at hl 0 rfl) ?_
        refine lv_lmul hx hb dX8_checksum_49 ?_
        refine lv_aload_n hx hb dX8_checksum_50 rfl (lv_at hl 2 rfl) ?_
        refine lv_iload_n hx hb dX8_checksum_51 rfl (lv_at hl 1 rfl) ?_
        refine Rd.callV (rest := [.long (31 * ((31 * (ckC da np nc k)) + (da ((22 + 11 * k) + 10)).toInt64))]) (c_X8_drawnOf l G (nI k) np h1 hp0) yk_X8_drawnOf E km_X8_195 dX8_checksum_52 hG (hE.S hS hD.efa) hP (At.recv hG hP.1 rfl) rfl rfl hl.1 ⟨Nat.le_of_ble_eq_true rfl, Nat.le_of_ble_eq_true rfl⟩ ⟨Nat.zero_le _, Nat.zero_le _⟩ (Nat.le_of_ble_eq_true rfl) ?_
        refine lv_i2l (v := (drawnV da (nI k) np).toInt64) hx hb dX8_checksum_55 rfl ?_
        refine lv_ladd hx hb dX8_checksum_56 ?_
        refine lv_lstore_n (lv' := [(1, .long ((31 * ((31 * (ckC da np nc k)) + (da ((22 + 11 * k) + 10)).toInt64)) + (drawnV da (nI k) np).toInt64)), (3, .int (nI k)), (0, .ref (B 0))]) hx hb dX8_checksum_57 rfl hl (by decide) rfl (fun ls hl => ?_)
        refine lv_ldc2 (v := 31) hx hb E.2.2.2.1 (E.2.2.2.2 _ kk_X8_248) dX8_checksum_58 ?_
        refine lv_lload_n hx hb dX8_checksum_61 rfl (lv_at hl 0 rfl) ?_
        refine lv_lmul hx hb dX8_checksum_62 ?_
        refine lv_aload_n hx hb dX8_checksum_63 rfl (lv_at hl 2 rfl) ?_
        refine lv_iload_n hx hb dX8_checksum_64 rfl (lv_at hl 1 rfl) ?_
        refine Rd.callV (rest := [.long (31 * ((31 * ((31 * (ckC da np nc k)) + (da ((22 + 11 * k) + 10)).toInt64)) + (drawnV da (nI k) np).toInt64))]) (c_X8_availableOf l G (nI k) k np nc rfl (by omega) h1 hp0 h0 hc0) yk_X8_availableOf E km_X8_201 dX8_checksum_65 hG (hE.S hS hD.efa) hP (At.recv hG hP.1 rfl) rfl rfl hl.1 ⟨Nat.le_of_ble_eq_true rfl, Nat.le_of_ble_eq_true rfl⟩ ⟨Nat.zero_le _, Nat.zero_le _⟩ (Nat.le_of_ble_eq_true rfl) ?_
        refine lv_i2l (v := (availV da np nc k).toInt64) hx hb dX8_checksum_68 rfl ?_
        refine lv_ladd hx hb dX8_checksum_69 ?_
        refine lv_lstore_n (lv' := [(1, .long ((31 * ((31 * ((31 * (ckC da np nc k)) + (da ((22 + 11 * k) + 10)).toInt64)) + (drawnV da (nI k) np).toInt64)) + (availV da np nc k).toInt64)), (3, .int (nI k)), (0, .ref (B 0))]) hx hb dX8_checksum_70 rfl hl (by decide) rfl (fun ls hl => ?_)
        refine lv_iinc (v := (nI (k + 1))) (lv' := [(3, .int (nI (k + 1))), (1, .long ((31 * ((31 * ((31 * (ckC da np nc k)) + (da ((22 + 11 * k) + 10)).toInt64)) + (drawnV da (nI k) np).toInt64)) + (availV da np nc k).toInt64)), (0, .ref (B 0))]) hx hb dX8_checksum_71 hl (k := 1) rfl (nI_ad rfl rfl) (by decide) rfl (fun ls hl => ?_)
        refine lv_goto (tgt := 15) hx hb dX8_checksum_74 (by decide) ?_
        exact ih (k + 1) (by omega) (by omega) ls (lv_sub hl [0, 1, 2] rfl)
  exact loop (nc + 1) 0 (by omega) (by omega) ls (lv_sub hl [0, 1, 2] rfl)

set_option maxHeartbeats 4000000 in
set_option maxRecDepth 100000 in
/-- honour(p) -/
theorem c_X8_honour (l : Launch) (G : CG) {B : Nat → Nat} {t bl tl ps er ea eo ud ns ne se : Int32} {bf da dr : Nat → Int32} {hi : Nat → Nat → Int32} {sk : Nat → Int64} (hD : MD G B) (x : Int32) (k : Nat) (ex : x = nI k) (hk9 : k < 24) : Wr l yX8_honour cX8_honour 2 ((Option.none : Option FieldType)) 1 20 0 0 G [.ref (B 0), .int x] (MW G B (fm t bl tl ps er ea eo ud ns ne se) bf da dr hi sk) (MA B) (fun v9 H9 => v9 = none ∧ MW G B (fm t bl tl ps er ea eo ud ns ne se) bf (honD da k) dr hi sk H9) := by
  refine Wr.ofW (by decide) (Nat.le_of_ble_eq_true rfl) (fun p e s m below meth c ls E hG hE hP hr hk hin hl => ?_)
  have hS : va_S (MA B) s.heap s.heap [] := va_S.rf
  have hx := E.1
  have hb := E.2.1
  have hl : lv_has ls 2 [(0, .ref (B 0)), (1, .int x)] := hl
  refine lv_aload_n hx hb dX8_honour_0 rfl (lv_at hl 0 rfl) ?_
  refine gf_X8_17 (v := .ref (B 2)) E hG hP.1 rfl dX8_honour_1 ?_
  refine lv_iload_n hx hb dX8_honour_4 rfl (lv_at hl 1 rfl) ?_
  refine Rd.callS (rest := [.ref (B 2)]) (c_X8_presentation l G x) yk_X8_presentation E km_X8_188 dX8_honour_5 hG (hE.S hS hD.efa) trivial rfl rfl hl.1 ⟨Nat.le_of_ble_eq_true rfl, Nat.le_of_ble_eq_true rfl⟩ ⟨Nat.zero_le _, Nat.zero_le _⟩ (Nat.le_of_ble_eq_true rfl) ?_
  refine lv_iconst (v := 4) hx hb dX8_honour_8 rfl ?_
  refine lv_iadd hx hb dX8_honour_9 ?_
  refine lv_iconst (v := 2) hx hb dX8_honour_10 rfl ?_
  refine g_ist ((154 + 6 * k) + 4) E hG hP.2.2.1 (ixq (nI_ad (nI_ad rfl (nI_mu rfl ex)) rfl)) (by omega) (by decide) hS ⟨2, by decide, rfl⟩ dX8_honour_11 (fun H locs ho hz oq hS => ?_)
  have hP : MW G B (fm t bl tl ps er ea eo ud ns ne se) bf (upd da ((154 + 6 * k) + 4) 2) dr hi sk H := hP.setD hD ho oq
  refine lv_aload_n hx hb dX8_honour_12 rfl (lv_at hl 0 rfl) ?_
  refine gf_X8_17 (v := .ref (B 2)) E hG hP.1 rfl dX8_honour_13 ?_
  refine lv_iload_n hx hb dX8_honour_16 rfl (lv_at hl 1 rfl) ?_
  refine Rd.callS (rest := [.ref (B 2)]) (c_X8_presentation l G x) yk_X8_presentation E km_X8_188 dX8_honour_17 hG (hE.S hS hD.efa) trivial rfl rfl hl.1 ⟨Nat.le_of_ble_eq_true rfl, Nat.le_of_ble_eq_true rfl⟩ ⟨Nat.zero_le _, Nat.zero_le _⟩ (Nat.le_of_ble_eq_true rfl) ?_
  refine lv_iconst (v := 5) hx hb dX8_honour_20 rfl ?_
  refine lv_iadd hx hb dX8_honour_21 ?_
  refine lv_aload_n hx hb dX8_honour_22 rfl (lv_at hl 0 rfl) ?_
  refine gf_X8_17 (v := .ref (B 2)) E hG hP.1 rfl dX8_honour_23 ?_
  refine lv_iconst (v := 3) hx hb dX8_honour_26 rfl ?_
  refine g_ild 3 E hG hP.2.2.1 rfl (by omega) (by decide) dX8_honour_27 ?_
  refine g_ist ((154 + 6 * k) + 5) E hG hP.2.2.1 (ixq (nI_ad (nI_ad rfl (nI_mu rfl ex)) rfl)) (by omega) (by decide) hS ⟨2, by decide, rfl⟩ dX8_honour_28 (fun H locs ho hz oq hS => ?_)
  have hP : MW G B (fm t bl tl ps er ea eo ud ns ne se) bf (upd (upd da ((154 + 6 * k) + 4) 2) ((154 + 6 * k) + 5) ((upd da ((154 + 6 * k) + 4) 2) 3)) dr hi sk H := hP.setD hD ho oq
  exact wr_void E hr hk hS (by decide) (by decide) (⟨rfl, hP⟩) dX8_honour_29

set_option maxHeartbeats 4000000 in
set_option maxRecDepth 100000 in
/-- pass -/
theorem c_X8_pass (l : Launch) (G : CG) {B : Nat → Nat} {t bl tl ps er ea eo ns ne se : Int32} {bf da dr : Nat → Int32} {hi : Nat → Nat → Int32} {sk : Nat → Int64} (hD : MD G B) (x : Int32) (hin8 : inV x 1 365 = 1) (hin7 : da 3 + x ≤ 9000) (u : Nat) (hu : u ≤ 8) : Wr l yX8_pass cX8_pass 2 ((Option.some FieldType.int)) 2 43 0 0 G [.ref (B 0), .int x] (MW G B (fm t bl tl ps er ea eo (nI u) ns ne se) bf da dr hi sk) (MA B) (fun v9 H9 => v9 = some (.int (passD da x 3)) ∧ MW G B (fm 0 bl tl ps er ea eo (nI (remU u)) ns ne se) bf (passD da x) dr (remH hi da u) sk H9) := by
  refine Wr.ofW (by decide) (Nat.le_of_ble_eq_true rfl) (fun p e s m below meth c ls E hG hE hP hr hk hin hl => ?_)
  have hS : va_S (MA B) s.heap s.heap [] := va_S.rf
  have hx := E.1
  have hb := E.2.1
  have hl : lv_has ls 2 [(0, .ref (B 0)), (1, .int x)] := hl
  refine lv_aload_n hx hb dX8_pass_0 rfl (lv_at hl 0 rfl) ?_
  refine lv_iconst (v := 0) hx hb dX8_pass_1 rfl ?_
  refine pf_X8_32 E hG hP.1 (Nat.le_of_ble_eq_true rfl) rfl rfl hS ⟨0, by decide, rfl⟩ dX8_pass_2 (fun H locs ho hz oq hS => ?_)
  have hP : MW G B (fm 0 bl tl ps er ea eo (nI u) ns ne se) bf da dr hi sk H := hP.setO hD ho oq
  refine lv_aload_n hx hb dX8_pass_5 rfl (lv_at hl 0 rfl) ?_
  refine lv_iload_n hx hb dX8_pass_6 rfl (lv_at hl 1 rfl) ?_
  refine lv_iconst (v := 1) hx hb dX8_pass_7 rfl ?_
  refine lv_sipush (v := 365) hx hb dX8_pass_8 rfl ?_
  refine Rd.callS (rest := [.ref (B 0)]) (c_X8_in l G x 1 365) yk_X8_in E km_X8_54 dX8_pass_11 hG (hE.S hS hD.efa) trivial rfl rfl hl.1 ⟨Nat.le_of_ble_eq_true rfl, Nat.le_of_ble_eq_true rfl⟩ ⟨Nat.zero_le _, Nat.zero_le _⟩ (Nat.le_of_ble_eq_true rfl) ?_
  refine lv_if_ne (tgt := 21) hx hb dX8_pass_14 (by decide) (fun c_14 => ?_) (fun c_14 => ?_)
  · refine lv_iconst (v := 0) hx hb dX8_pass_21 rfl ?_
    refine lv_iconst (v := 1) hx hb dX8_pass_22 rfl ?_
    refine Wr.callV (rest := []) (c_X8_fails0 l G hD 1) yk_X8_fails E km_X8_153 dX8_pass_23 hG (hE.S hS hD.efa) hP (At.recv hG hP.1 rfl) rfl rfl hl.1 ⟨Nat.le_of_ble_eq_true rfl, Nat.le_of_ble_eq_true rfl⟩ ⟨Nat.le_of_ble_eq_true rfl, Nat.le_of_ble_eq_true rfl⟩ (Nat.le_of_ble_eq_true rfl) hS (fun _ h9 => h9) (fun v9 H locs hq hz9 hfr9 hS => ?_)
    obtain ⟨rfl, hP⟩ := hq
    refine lv_if_ne (tgt := 56) hx hb dX8_pass_26 (by decide) (fun c_26 => ?_) (fun c_26 => ?_)
    · exact absurd c_26 (by decide)
    · refine lv_aload_n hx hb dX8_pass_29 rfl (lv_at hl 0 rfl) ?_
      refine lv_aload_n hx hb dX8_pass_30 rfl (lv_at hl 0 rfl) ?_
      refine gf_X8_17 (v := .ref (B 2)) E hG hP.1 rfl dX8_pass_31 ?_
      refine lv_iconst (v := 3) hx hb dX8_pass_34 rfl ?_
      refine g_ild 3 E hG hP.2.2.1 rfl (by omega) (by decide) dX8_pass_35 ?_
      refine lv_iload_n hx hb dX8_pass_36 rfl (lv_at hl 1 rfl) ?_
      refine lv_iadd hx hb dX8_pass_37 ?_
      refine lv_sipush (v := 9000) hx hb dX8_pass_38 rfl ?_
      refine lv_icmp_le (tgt := 48) hx hb dX8_pass_41 (by decide) (fun c_41 => ?_) (fun c_41 => ?_)
      · refine lv_iconst (v := 0) hx hb dX8_pass_48 rfl ?_
        refine lv_iconst (v := 2) hx hb dX8_pass_49 rfl ?_
        refine Wr.callV (rest := []) (c_X8_fails0 l G hD 2) yk_X8_fails E km_X8_153 dX8_pass_50 hG (hE.S hS hD.efa) hP (At.recv hG hP.1 rfl) rfl rfl hl.1 ⟨Nat.le_of_ble_eq_true rfl, Nat.le_of_ble_eq_true rfl⟩ ⟨Nat.le_of_ble_eq_true rfl, Nat.le_of_ble_eq_true rfl⟩ (Nat.le_of_ble_eq_true rfl) hS (fun _ h9 => h9) (fun v9 H locs hq hz9 hfr9 hS => ?_)
        obtain ⟨rfl, hP⟩ := hq
        refine lv_if_eq (tgt := 58) hx hb dX8_pass_53 (by decide) (fun c_53 => ?_) (fun c_53 => ?_)
        · refine lv_aload_n hx hb dX8_pass_58 rfl (lv_at hl 0 rfl) ?_
          refine Wr.callV (rest := []) (c_X8_remember l G hD u hu) yk_X8_remember E km_X8_160 dX8_pass_59 hG (hE.S hS hD.efa) hP (At.recv hG hP.1 rfl) rfl rfl hl.1 ⟨Nat.le_of_ble_eq_true rfl, Nat.le_of_ble_eq_true rfl⟩ ⟨Nat.le_of_ble_eq_true rfl, Nat.le_of_ble_eq_true rfl⟩ (Nat.le_of_ble_eq_true rfl) hS (fun _ h9 => h9) (fun v9 H locs hq hz9 hfr9 hS => ?_)
          obtain ⟨rfl, hP⟩ := hq
          refine lv_aload_n hx hb dX8_pass_62 rfl (lv_at hl 0 rfl) ?_
          refine gf_X8_17 (v := .ref (B 2)) E hG hP.1 rfl dX8_pass_63 ?_
          refine lv_iconst (v := 3) hx hb dX8_pass_66 rfl ?_
          refine lv_dup2_11 hx hb dX8_pass_67 rfl rfl ?_
          refine g_ild 3 E hG hP.2.2.1 rfl (by omega) (by decide) dX8_pass_68 ?_
          refine lv_iload_n hx hb dX8_pass_69 rfl (lv_at hl 1 rfl) ?_
          refine lv_iadd hx hb dX8_pass_70 ?_
          refine g_ist 3 E hG hP.2.2.1 rfl (by omega) (by decide) hS ⟨2, by decide, rfl⟩ dX8_pass_71 (fun H locs ho hz oq hS => ?_)
          have hP : MW G B (fm 0 bl tl ps er ea eo (nI (remU u)) ns ne se) bf (upd da 3 ((da 3) + x)) dr (remH hi da u) sk H := hP.setD hD ho oq
          refine lv_aload_n hx hb dX8_pass_72 rfl (lv_at hl 0 rfl) ?_
          refine gf_X8_17 (v := .ref (B 2)) E hG hP.1 rfl dX8_pass_73 ?_
          refine lv_iconst (v := 3) hx hb dX8_pass_76 rfl ?_
          refine g_ild 3 E hG hP.2.2.1 rfl (by omega) (by decide) dX8_pass_77 ?_
          exact wr_int E hr hk hS (by decide) (by decide) (⟨rfl, hP⟩) dX8_pass_78
        · exact absurd c_53 (by decide)
      · exact absurd hin7 c_41
  · exact (by rw [hin8] at c_14; exact absurd c_14 (by decide))

set_option maxHeartbeats 4000000 in
set_option maxRecDepth 100000 in
/-- pass -/
theorem c_X8_pass_x (l : Launch) (G : CG) {B : Nat → Nat} {t bl tl ps er ea eo ud ns ne se : Int32} {bf da dr : Nat → Int32} {hi : Nat → Nat → Int32} {sk : Nat → Int64} (hD : MD G B) (x : Int32) (hin8 : inV x 1 365 = 0) : Wr l yX8_pass cX8_pass 2 ((Option.some FieldType.int)) 1 22 0 0 G [.ref (B 0), .int x] (MW G B (fm t bl tl ps er ea eo ud ns ne se) bf da dr hi sk) (MA B) (fun v9 H9 => v9 = some (.int 0) ∧ MW G B (fm 1 bl tl ps er ea eo ud ns ne se) bf da dr hi sk H9) := by
  refine Wr.ofW (by decide) (Nat.le_of_ble_eq_true rfl) (fun p e s m below meth c ls E hG hE hP hr hk hin hl => ?_)
  have hS : va_S (MA B) s.heap s.heap [] := va_S.rf
  have hx := E.1
  have hb := E.2.1
  have hl : lv_has ls 2 [(0, .ref (B 0)), (1, .int x)] := hl
  refine lv_aload_n hx hb dX8_pass_0 rfl (lv_at hl 0 rfl) ?_
  refine lv_iconst (v := 0) hx hb dX8_pass_1 rfl ?_
  refine pf_X8_32 E hG hP.1 (Nat.le_of_ble_eq_true rfl) rfl rfl hS ⟨0, by decide, rfl⟩ dX8_pass_2 (fun H locs ho hz oq hS => ?_)
  have hP : MW G B (fm 0 bl tl ps er ea eo ud ns ne se) bf da dr hi sk H := hP.setO hD ho oq
  refine lv_aload_n hx hb dX8_pass_5 rfl (lv_at hl 0 rfl) ?_
  refine lv_iload_n hx hb dX8_pass_6 rfl (lv_at hl 1 rfl) ?_
  refine lv_iconst (v := 1) hx hb dX8_pass_7 rfl ?_
  refine lv_sipush (v := 365) hx hb dX8_pass_8 rfl ?_
  refine Rd.callS (rest := [.ref (B 0)]) (c_X8_in l G x 1 365) yk_X8_in E km_X8_54 dX8_pass_11 hG (hE.S hS hD.efa) trivial rfl rfl hl.1 ⟨Nat.le_of_ble_eq_true rfl, Nat.le_of_ble_eq_true rfl⟩ ⟨Nat.zero_le _, Nat.zero_le _⟩ (Nat.le_of_ble_eq_true rfl) ?_
  refine lv_if_ne (tgt := 21) hx hb dX8_pass_14 (by decide) (fun c_14 => ?_) (fun c_14 => ?_)
  · exact (by rw [hin8] at c_14; exact absurd c_14 (by decide))
  · refine lv_iconst (v := 1) hx hb dX8_pass_17 rfl ?_
    refine lv_goto (tgt := 22) hx hb dX8_pass_18 (by decide) ?_
    refine lv_iconst (v := 1) hx hb dX8_pass_22 rfl ?_
    refine Wr.callV (rest := []) (c_X8_fails1 l G hD 1 (by decide)) yk_X8_fails E km_X8_153 dX8_pass_23 hG (hE.S hS hD.efa) hP (At.recv hG hP.1 rfl) rfl rfl hl.1 ⟨Nat.le_of_ble_eq_true rfl, Nat.le_of_ble_eq_true rfl⟩ ⟨Nat.le_of_ble_eq_true rfl, Nat.le_of_ble_eq_true rfl⟩ (Nat.le_of_ble_eq_true rfl) hS (fun _ h9 => h9) (fun v9 H locs hq hz9 hfr9 hS => ?_)
    obtain ⟨rfl, hP⟩ := hq
    refine lv_if_ne (tgt := 56) hx hb dX8_pass_26 (by decide) (fun c_26 => ?_) (fun c_26 => ?_)
    · refine lv_iconst (v := 0) hx hb dX8_pass_56 rfl ?_
      exact wr_int E hr hk hS (by decide) (by decide) (⟨rfl, hP⟩) dX8_pass_57
    · exact absurd c_26 (by decide)

set_option maxHeartbeats 4000000 in
set_option maxRecDepth 100000 in
/-- pass -/
theorem c_X8_pass_y (l : Launch) (G : CG) {B : Nat → Nat} {t bl tl ps er ea eo ud ns ne se : Int32} {bf da dr : Nat → Int32} {hi : Nat → Nat → Int32} {sk : Nat → Int64} (hD : MD G B) (x : Int32) (hin8 : inV x 1 365 = 1) (hin7 : ¬ da 3 + x ≤ 9000) : Wr l yX8_pass cX8_pass 2 ((Option.some FieldType.int)) 1 22 0 0 G [.ref (B 0), .int x] (MW G B (fm t bl tl ps er ea eo ud ns ne se) bf da dr hi sk) (MA B) (fun v9 H9 => v9 = some (.int 0) ∧ MW G B (fm 2 bl tl ps er ea eo ud ns ne se) bf da dr hi sk H9) := by
  refine Wr.ofW (by decide) (Nat.le_of_ble_eq_true rfl) (fun p e s m below meth c ls E hG hE hP hr hk hin hl => ?_)
  have hS : va_S (MA B) s.heap s.heap [] := va_S.rf
  have hx := E.1
  have hb := E.2.1
  have hl : lv_has ls 2 [(0, .ref (B 0)), (1, .int x)] := hl
  refine lv_aload_n hx hb dX8_pass_0 rfl (lv_at hl 0 rfl) ?_
  refine lv_iconst (v := 0) hx hb dX8_pass_1 rfl ?_
  refine pf_X8_32 E hG hP.1 (Nat.le_of_ble_eq_true rfl) rfl rfl hS ⟨0, by decide, rfl⟩ dX8_pass_2 (fun H locs ho hz oq hS => ?_)
  have hP : MW G B (fm 0 bl tl ps er ea eo ud ns ne se) bf da dr hi sk H := hP.setO hD ho oq
  refine lv_aload_n hx hb dX8_pass_5 rfl (lv_at hl 0 rfl) ?_
  refine lv_iload_n hx hb dX8_pass_6 rfl (lv_at hl 1 rfl) ?_
  refine lv_iconst (v := 1) hx hb dX8_pass_7 rfl ?_
  refine lv_sipush (v := 365) hx hb dX8_pass_8 rfl ?_
  refine Rd.callS (rest := [.ref (B 0)]) (c_X8_in l G x 1 365) yk_X8_in E km_X8_54 dX8_pass_11 hG (hE.S hS hD.efa) trivial rfl rfl hl.1 ⟨Nat.le_of_ble_eq_true rfl, Nat.le_of_ble_eq_true rfl⟩ ⟨Nat.zero_le _, Nat.zero_le _⟩ (Nat.le_of_ble_eq_true rfl) ?_
  refine lv_if_ne (tgt := 21) hx hb dX8_pass_14 (by decide) (fun c_14 => ?_) (fun c_14 => ?_)
  · refine lv_iconst (v := 0) hx hb dX8_pass_21 rfl ?_
    refine lv_iconst (v := 1) hx hb dX8_pass_22 rfl ?_
    refine Wr.callV (rest := []) (c_X8_fails0 l G hD 1) yk_X8_fails E km_X8_153 dX8_pass_23 hG (hE.S hS hD.efa) hP (At.recv hG hP.1 rfl) rfl rfl hl.1 ⟨Nat.le_of_ble_eq_true rfl, Nat.le_of_ble_eq_true rfl⟩ ⟨Nat.le_of_ble_eq_true rfl, Nat.le_of_ble_eq_true rfl⟩ (Nat.le_of_ble_eq_true rfl) hS (fun _ h9 => h9) (fun v9 H locs hq hz9 hfr9 hS => ?_)
    obtain ⟨rfl, hP⟩ := hq
    refine lv_if_ne (tgt := 56) hx hb dX8_pass_26 (by decide) (fun c_26 => ?_) (fun c_26 => ?_)
    · exact absurd c_26 (by decide)
    · refine lv_aload_n hx hb dX8_pass_29 rfl (lv_at hl 0 rfl) ?_
      refine lv_aload_n hx hb dX8_pass_30 rfl (lv_at hl 0 rfl) ?_
      refine gf_X8_17 (v := .ref (B 2)) E hG hP.1 rfl dX8_pass_31 ?_
      refine lv_iconst (v := 3) hx hb dX8_pass_34 rfl ?_
      refine g_ild 3 E hG hP.2.2.1 rfl (by omega) (by decide) dX8_pass_35 ?_
      refine lv_iload_n hx hb dX8_pass_36 rfl (lv_at hl 1 rfl) ?_
      refine lv_iadd hx hb dX8_pass_37 ?_
      refine lv_sipush (v := 9000) hx hb dX8_pass_38 rfl ?_
      refine lv_icmp_le (tgt := 48) hx hb dX8_pass_41 (by decide) (fun c_41 => ?_) (fun c_41 => ?_)
      · exact absurd c_41 hin7
      · refine lv_iconst (v := 1) hx hb dX8_pass_44 rfl ?_
        refine lv_goto (tgt := 49) hx hb dX8_pass_45 (by decide) ?_
        refine lv_iconst (v := 2) hx hb dX8_pass_49 rfl ?_
        refine Wr.callV (rest := []) (c_X8_fails1 l G hD 2 (by decide)) yk_X8_fails E km_X8_153 dX8_pass_50 hG (hE.S hS hD.efa) hP (At.recv hG hP.1 rfl) rfl rfl hl.1 ⟨Nat.le_of_ble_eq_true rfl, Nat.le_of_ble_eq_true rfl⟩ ⟨Nat.le_of_ble_eq_true rfl, Nat.le_of_ble_eq_true rfl⟩ (Nat.le_of_ble_eq_true rfl) hS (fun _ h9 => h9) (fun v9 H locs hq hz9 hfr9 hS => ?_)
        obtain ⟨rfl, hP⟩ := hq
        refine lv_if_eq (tgt := 58) hx hb dX8_pass_53 (by decide) (fun c_53 => ?_) (fun c_53 => ?_)
        · exact absurd c_53 (by decide)
        · refine lv_iconst (v := 0) hx hb dX8_pass_56 rfl ?_
          exact wr_int E hr hk hS (by decide) (by decide) (⟨rfl, hP⟩) dX8_pass_57
  · exact (by rw [hin8] at c_14; exact absurd c_14 (by decide))

set_option maxHeartbeats 4000000 in
set_option maxRecDepth 100000 in
/-- present -/
theorem c_X8_present (l : Launch) (G : CG) {B : Nat → Nat} {t bl tl ps er ea eo ns ne se : Int32} {bf da dr : Nat → Int32} {hi : Nat → Nat → Int32} {sk : Nat → Int64} (hD : MD G B) (x y am dc ins : Int32) (k n np nc nh ex1 pe1 : Nat) (ex : x = nI k) (ey : y = nI n) (hk9 : k < 12) (hn : n ≤ 9999) (hin9 : inV x 0 (da 0 - 1) = 1) (h1 : da 1 = nI np) (hp0 : np ≤ 24) (h0 : da 0 = nI nc) (hc0 : nc ≤ 12) (h2 : da 2 = nI nh) (hh : nh ≤ 16) (hx9 : da (cP k + 3) = nI ex1) (hx8 : ex1 < 1000) (hx7 : da (cP k + 5) = nI pe1) (hx6 : pe1 < 1000) (hw9 : isWrongV y am dc ins = 0) (hp1 : np < 24) (hf9 : ¬ da 1 = 24) (u : Nat) (hu : u ≤ 8) : Wr l yX8_present cX8_present 9 ((Option.some FieldType.int)) 5 116 0 0 G [.ref (B 0), .int x, .int y, .int am, .int dc, .int ins] (MW G B (fm t bl tl ps er ea eo (nI u) ns ne se) bf da dr hi sk) (MA B) (fun v9 H9 => v9 = some (.int (nI np)) ∧ MW G B (fm 0 bl tl ps er ea eo (nI (remU u)) ns ne se) bf (presD da np nc nh ex1 pe1 k n x am dc ins) dr (remH hi da u) sk H9) := by
  refine Wr.ofW (by decide) (Nat.le_of_ble_eq_true rfl) (fun p e s m below meth c ls E hG hE hP hr hk hin hl => ?_)
  have hS : va_S (MA B) s.heap s.heap [] := va_S.rf
  have hx := E.1
  have hb := E.2.1
  have hl : lv_has ls 9 [(0, .ref (B 0)), (1, .int x), (2, .int y), (3, .int am), (4, .int dc), (5, .int ins)] := hl
  refine lv_aload_n hx hb dX8_present_0 rfl (lv_at hl 0 rfl) ?_
  refine lv_iconst (v := 0) hx hb dX8_present_1 rfl ?_
  refine pf_X8_32 E hG hP.1 (Nat.le_of_ble_eq_true rfl) rfl rfl hS ⟨0, by decide, rfl⟩ dX8_present_2 (fun H locs ho hz oq hS => ?_)
  have hP : MW G B (fm 0 bl tl ps er ea eo (nI u) ns ne se) bf da dr hi sk H := hP.setO hD ho oq
  refine lv_aload_n hx hb dX8_present_5 rfl (lv_at hl 0 rfl) ?_
  refine lv_iload_n hx hb dX8_present_6 rfl (lv_at hl 1 rfl) ?_
  refine Wr.callV (rest := []) (c_X8_noCredit l G hD x hin9) yk_X8_noCredit E km_X8_179 dX8_present_7 hG (hE.S hS hD.efa) hP (At.recv hG hP.1 rfl) rfl rfl hl.1 ⟨Nat.le_of_ble_eq_true rfl, Nat.le_of_ble_eq_true rfl⟩ ⟨Nat.le_of_ble_eq_true rfl, Nat.le_of_ble_eq_true rfl⟩ (Nat.le_of_ble_eq_true rfl) hS (fun _ h9 => h9) (fun v9 H locs hq hz9 hfr9 hS => ?_)
  obtain ⟨rfl, hP⟩ := hq
  refine lv_if_ne (tgt := 55) hx hb dX8_present_10 (by decide) (fun c_10 => ?_) (fun c_10 => ?_)
  · exact absurd c_10 (by decide)
  · refine lv_aload_n hx hb dX8_present_13 rfl (lv_at hl 0 rfl) ?_
    refine lv_aload_n hx hb dX8_present_14 rfl (lv_at hl 0 rfl) ?_
    refine lv_iload_n hx hb dX8_present_15 rfl (lv_at hl 2 rfl) ?_
    refine lv_iload_n hx hb dX8_present_16 rfl (lv_at hl 3 rfl) ?_
    refine lv_iload hx hb dX8_present_17 (lv_at hl 4 rfl) ?_
    refine lv_iload hx hb dX8_present_19 (lv_at hl 5 rfl) ?_
    refine Rd.callV (rest := [.ref (B 0)]) (c_X8_isWrong l G y am dc ins) yk_X8_isWrong E km_X8_208 dX8_present_21 hG (hE.S hS hD.efa) hP (At.recv hG hP.1 rfl) rfl rfl hl.1 ⟨Nat.le_of_ble_eq_true rfl, Nat.le_of_ble_eq_true rfl⟩ ⟨Nat.zero_le _, Nat.zero_le _⟩ (Nat.le_of_ble_eq_true rfl) ?_
    refine lv_iconst (v := 2) hx hb dX8_present_24 rfl ?_
    rw [hw9]
    refine Wr.callV (rest := []) (c_X8_fails0 l G hD 2) yk_X8_fails E km_X8_153 dX8_present_25 hG (hE.S hS hD.efa) hP (At.recv hG hP.1 rfl) rfl rfl hl.1 ⟨Nat.le_of_ble_eq_true rfl, Nat.le_of_ble_eq_true rfl⟩ ⟨Nat.le_of_ble_eq_true rfl, Nat.le_of_ble_eq_true rfl⟩ (Nat.le_of_ble_eq_true rfl) hS (fun _ h9 => h9) (fun v9 H locs hq hz9 hfr9 hS => ?_)
    obtain ⟨rfl, hP⟩ := hq
    refine lv_if_ne (tgt := 55) hx hb dX8_present_28 (by decide) (fun c_28 => ?_) (fun c_28 => ?_)
    · exact absurd c_28 (by decide)
    · refine lv_aload_n hx hb dX8_present_31 rfl (lv_at hl 0 rfl) ?_
      refine lv_aload_n hx hb dX8_present_32 rfl (lv_at hl 0 rfl) ?_
      refine gf_X8_17 (v := .ref (B 2)) E hG hP.1 rfl dX8_present_33 ?_
      refine lv_iconst (v := 1) hx hb dX8_present_36 rfl ?_
      refine g_ild 1 E hG hP.2.2.1 rfl (by omega) (by decide) dX8_present_37 ?_
      refine lv_bipush (v := 24) hx hb dX8_present_38 rfl ?_
      refine lv_icmp_ne (tgt := 47) hx hb dX8_present_40 (by decide) (fun c_40 => ?_) (fun c_40 => ?_)
      · refine lv_iconst (v := 0) hx hb dX8_present_47 rfl ?_
        refine lv_iconst (v := 3) hx hb dX8_present_48 rfl ?_
        refine Wr.callV (rest := []) (c_X8_fails0 l G hD 3) yk_X8_fails E km_X8_153 dX8_present_49 hG (hE.S hS hD.efa) hP (At.recv hG hP.1 rfl) rfl rfl hl.1 ⟨Nat.le_of_ble_eq_true rfl, Nat.le_of_ble_eq_true rfl⟩ ⟨Nat.le_of_ble_eq_true rfl, Nat.le_of_ble_eq_true rfl⟩ (Nat.le_of_ble_eq_true rfl) hS (fun _ h9 => h9) (fun v9 H locs hq hz9 hfr9 hS => ?_)
        obtain ⟨rfl, hP⟩ := hq
        refine lv_if_eq (tgt := 57) hx hb dX8_present_52 (by decide) (fun c_52 => ?_) (fun c_52 => ?_)
        · refine lv_aload_n hx hb dX8_present_57 rfl (lv_at hl 0 rfl) ?_
          refine Wr.callV (rest := []) (c_X8_remember l G hD u hu) yk_X8_remember E km_X8_160 dX8_present_58 hG (hE.S hS hD.efa) hP (At.recv hG hP.1 rfl) rfl rfl hl.1 ⟨Nat.le_of_ble_eq_true rfl, Nat.le_of_ble_eq_true rfl⟩ ⟨Nat.le_of_ble_eq_true rfl, Nat.le_of_ble_eq_true rfl⟩ (Nat.le_of_ble_eq_true rfl) hS (fun _ h9 => h9) (fun v9 H locs hq hz9 hfr9 hS => ?_)
          obtain ⟨rfl, hP⟩ := hq
          refine lv_aload_n hx hb dX8_present_61 rfl (lv_at hl 0 rfl) ?_
          refine gf_X8_17 (v := .ref (B 2)) E hG hP.1 rfl dX8_present_62 ?_
          refine lv_iconst (v := 1) hx hb dX8_present_65 rfl ?_
          refine g_ild 1 E hG hP.2.2.1 rfl (by omega) (by decide) dX8_present_66 ?_
          refine lv_ci (y := nI np) (ixq h1) ?_
          refine lv_istore (lv' := [(6, .int (nI np)), (0, .ref (B 0)), (1, .int x), (2, .int y), (3, .int am), (4, .int dc), (5, .int ins)]) hx hb dX8_present_67 hl (by decide) rfl (fun ls hl => ?_)
          refine lv_iload hx hb dX8_present_69 (lv_at hl 0 rfl) ?_
          refine Rd.callS (rest := []) (c_X8_presentation l G (nI np)) yk_X8_presentation E km_X8_188 dX8_present_71 hG (hE.S hS hD.efa) trivial rfl rfl hl.1 ⟨Nat.le_of_ble_eq_true rfl, Nat.le_of_ble_eq_true rfl⟩ ⟨Nat.zero_le _, Nat.zero_le _⟩ (Nat.le_of_ble_eq_true rfl) ?_
          refine lv_ci (y := nI (154 + 6 * np)) (ixq (nI_ad rfl (nI_mu rfl rfl))) ?_
          refine lv_istore (lv' := [(7, .int (nI (154 + 6 * np))), (6, .int (nI np)), (0, .ref (B 0)), (1, .int x), (2, .int y), (3, .int am), (4, .int dc), (5, .int ins)]) hx hb dX8_present_74 hl (by decide) rfl (fun ls hl => ?_)
          refine lv_aload_n hx hb dX8_present_76 rfl (lv_at hl 2 rfl) ?_
          refine lv_iload_n hx hb dX8_present_77 rfl (lv_at hl 3 rfl) ?_
          refine lv_iload_n hx hb dX8_present_78 rfl (lv_at hl 4 rfl) ?_
          refine lv_iload_n hx hb dX8_present_79 rfl (lv_at hl 5 rfl) ?_
          refine lv_iload hx hb dX8_present_80 (lv_at hl 6 rfl) ?_
          refine lv_iload hx hb dX8_present_82 (lv_at hl 7 rfl) ?_
          refine Rd.callV (rest := []) (c_X8_faultsOf l G x y am dc ins k n np nc nh ex1 pe1 ex ey (by omega) (by omega) h1 hp0 h0 hc0 h2 hh hx9 hx8 hx7 hx6) yk_X8_faultsOf E km_X8_212 dX8_present_84 hG (hE.S hS hD.efa) hP (At.recv hG hP.1 rfl) rfl rfl hl.1 ⟨Nat.le_of_ble_eq_true rfl, Nat.le_of_ble_eq_true rfl⟩ ⟨Nat.zero_le _, Nat.zero_le _⟩ (Nat.le_of_ble_eq_true rfl) ?_
          refine lv_istore (lv' := [(8, .int (faultsV da np nc nh ex1 pe1 k n am dc ins)), (7, .int (nI (154 + 6 * np))), (6, .int (nI np)), (0, .ref (B 0)), (1, .int x), (2, .int y), (3, .int am), (4, .int dc), (5, .int ins)]) hx hb dX8_present_87 hl (by decide) rfl (fun ls hl => ?_)
          refine lv_aload_n hx hb dX8_present_89 rfl (lv_at hl 3 rfl) ?_
          refine gf_X8_17 (v := .ref (B 2)) E hG hP.1 rfl dX8_present_90 ?_
          refine lv_iconst (v := 1) hx hb dX8_present_93 rfl ?_
          refine lv_dup2_11 hx hb dX8_present_94 rfl rfl ?_
          refine g_ild 1 E hG hP.2.2.1 rfl (by omega) (by decide) dX8_present_95 ?_
          refine lv_iconst (v := 1) hx hb dX8_present_96 rfl ?_
          refine lv_iadd hx hb dX8_present_97 ?_
          refine g_ist 1 E hG hP.2.2.1 rfl (by omega) (by decide) hS ⟨2, by decide, rfl⟩ dX8_present_98 (fun H locs ho hz oq hS => ?_)
          have hP : MW G B (fm 0 bl tl ps er ea eo (nI (remU u)) ns ne se) bf (upd da 1 ((da 1) + 1)) dr (remH hi da u) sk H := hP.setD hD ho oq
          refine lv_aload_n hx hb dX8_present_99 rfl (lv_at hl 3 rfl) ?_
          refine gf_X8_17 (v := .ref (B 2)) E hG hP.1 rfl dX8_present_100 ?_
          refine lv_iload hx hb dX8_present_103 (lv_at hl 1 rfl) ?_
          refine lv_iload_n hx hb dX8_present_105 rfl (lv_at hl 4 rfl) ?_
          refine g_ist (154 + 6 * np) E hG hP.2.2.1 rfl (by omega) (by decide) hS ⟨2, by decide, rfl⟩ dX8_present_106 (fun H locs ho hz oq hS => ?_)
          have hP : MW G B (fm 0 bl tl ps er ea eo (nI (remU u)) ns ne se) bf (upd (upd da 1 ((da 1) + 1)) (154 + 6 * np) x) dr (remH hi da u) sk H := hP.setD hD ho oq
          refine lv_aload_n hx hb dX8_present_107 rfl (lv_at hl 3 rfl) ?_
          refine gf_X8_17 (v := .ref (B 2)) E hG hP.1 rfl dX8_present_108 ?_
          refine lv_iload hx hb dX8_present_111 (lv_at hl 1 rfl) ?_
          refine lv_iconst (v := 1) hx hb dX8_present_113 rfl ?_
          refine lv_iadd hx hb dX8_present_114 ?_
          refine lv_aload_n hx hb dX8_present_115 rfl (lv_at hl 3 rfl) ?_
          refine gf_X8_17 (v := .ref (B 2)) E hG hP.1 rfl dX8_present_116 ?_
          refine lv_iconst (v := 3) hx hb dX8_present_119 rfl ?_
          refine g_ild 3 E hG hP.2.2.1 rfl (by omega) (by decide) dX8_present_120 ?_
          refine g_ist ((154 + 6 * np) + 1) E hG hP.2.2.1 (ixq (nI_ad rfl rfl)) (by omega) (by decide) hS ⟨2, by decide, rfl⟩ dX8_present_121 (fun H locs ho hz oq hS => ?_)
          have hP : MW G B (fm 0 bl tl ps er ea eo (nI (remU u)) ns ne se) bf (upd (upd (upd da 1 ((da 1) + 1)) (154 + 6 * np) x) ((154 + 6 * np) + 1) ((upd (upd da 1 ((da 1) + 1)) (154 + 6 * np) x) 3)) dr (remH hi da u) sk H := hP.setD hD ho oq
          refine lv_aload_n hx hb dX8_present_122 rfl (lv_at hl 3 rfl) ?_
          refine gf_X8_17 (v := .ref (B 2)) E hG hP.1 rfl dX8_present_123 ?_
          refine lv_iload hx hb dX8_present_126 (lv_at hl 1 rfl) ?_
          refine lv_iconst (v := 2) hx hb dX8_present_128 rfl ?_
          refine lv_iadd hx hb dX8_present_129 ?_
          refine lv_iload_n hx hb dX8_present_130 rfl (lv_at hl 6 rfl) ?_
          refine g_ist ((154 + 6 * np) + 2) E hG hP.2.2.1 (ixq (nI_ad rfl rfl)) (by omega) (by decide) hS ⟨2, by decide, rfl⟩ dX8_present_131 (fun H locs ho hz oq hS => ?_)
          have hP : MW G B (fm 0 bl tl ps er ea eo (nI (remU u)) ns ne se) bf (upd (upd (upd (upd da 1 ((da 1) + 1)) (154 + 6 * np) x) ((154 + 6 * np) + 1) ((upd (upd da 1 ((da 1) + 1)) (154 + 6 * np) x) 3)) ((154 + 6 * np) + 2) am) dr (remH hi da u) sk H := hP.setD hD ho oq
          refine lv_aload_n hx hb dX8_present_132 rfl (lv_at hl 3 rfl) ?_
          refine gf_X8_17 (v := .ref (B 2)) E hG hP.1 rfl dX8_present_133 ?_
          refine lv_iload hx hb dX8_present_136 (lv_at hl 1 rfl) ?_
          refine lv_iconst (v := 3) hx hb dX8_present_138 rfl ?_
          refine lv_iadd hx hb dX8_present_139 ?_
          refine lv_iload hx hb dX8_present_140 (lv_at hl 0 rfl) ?_
          refine g_ist ((154 + 6 * np) + 3) E hG hP.2.2.1 (ixq (nI_ad rfl rfl)) (by omega) (by decide) hS ⟨2, by decide, rfl⟩ dX8_present_142 (fun H locs ho hz oq hS => ?_)
          have hP : MW G B (fm 0 bl tl ps er ea eo (nI (remU u)) ns ne se) bf (upd (upd (upd (upd (upd da 1 ((da 1) + 1)) (154 + 6 * np) x) ((154 + 6 * np) + 1) ((upd (upd da 1 ((da 1) + 1)) (154 + 6 * np) x) 3)) ((154 + 6 * np) + 2) am) ((154 + 6 * np) + 3) (faultsV da np nc nh ex1 pe1 k n am dc ins)) dr (remH hi da u) sk H := hP.setD hD ho oq
          refine lv_aload_n hx hb dX8_present_143 rfl (lv_at hl 3 rfl) ?_
          refine gf_X8_17 (v := .ref (B 2)) E hG hP.1 rfl dX8_present_144 ?_
          refine lv_iload hx hb dX8_present_147 (lv_at hl 1 rfl) ?_
          refine lv_iconst (v := 4) hx hb dX8_present_149 rfl ?_
          refine lv_iadd hx hb dX8_present_150 ?_
          refine lv_iconst (v := 0) hx hb dX8_present_151 rfl ?_
          refine g_ist ((154 + 6 * np) + 4) E hG hP.2.2.1 (ixq (nI_ad rfl rfl)) (by omega) (by decide) hS ⟨2, by decide, rfl⟩ dX8_present_152 (fun H locs ho hz oq hS => ?_)
          have hP : MW G B (fm 0 bl tl ps er ea eo (nI (remU u)) ns ne se) bf (upd (upd (upd (upd (upd (upd da 1 ((da 1) + 1)) (154 + 6 * np) x) ((154 + 6 * np) + 1) ((upd (upd da 1 ((da 1) + 1)) (154 + 6 * np) x) 3)) ((154 + 6 * np) + 2) am) ((154 + 6 * np) + 3) (faultsV da np nc nh ex1 pe1 k n am dc ins)) ((154 + 6 * np) + 4) 0) dr (remH hi da u) sk H := hP.setD hD ho oq
          refine lv_aload_n hx hb dX8_present_153 rfl (lv_at hl 3 rfl) ?_
          refine gf_X8_17 (v := .ref (B 2)) E hG hP.1 rfl dX8_present_154 ?_
          refine lv_iload hx hb dX8_present_157 (lv_at hl 1 rfl) ?_
          refine lv_iconst (v := 5) hx hb dX8_present_159 rfl ?_
          refine lv_iadd hx hb dX8_present_160 ?_
          refine lv_iconst (v := 0) hx hb dX8_present_161 rfl ?_
          refine g_ist ((154 + 6 * np) + 5) E hG hP.2.2.1 (ixq (nI_ad rfl rfl)) (by omega) (by decide) hS ⟨2, by decide, rfl⟩ dX8_present_162 (fun H locs ho hz oq hS => ?_)
          have hP : MW G B (fm 0 bl tl ps er ea eo (nI (remU u)) ns ne se) bf (upd (upd (upd (upd (upd (upd (upd da 1 ((da 1) + 1)) (154 + 6 * np) x) ((154 + 6 * np) + 1) ((upd (upd da 1 ((da 1) + 1)) (154 + 6 * np) x) 3)) ((154 + 6 * np) + 2) am) ((154 + 6 * np) + 3) (faultsV da np nc nh ex1 pe1 k n am dc ins)) ((154 + 6 * np) + 4) 0) ((154 + 6 * np) + 5) 0) dr (remH hi da u) sk H := hP.setD hD ho oq
          refine lv_iload hx hb dX8_present_163 (lv_at hl 2 rfl) ?_
          exact wr_int E hr hk hS (by decide) (by decide) (⟨rfl, hP⟩) dX8_present_165
        · exact absurd c_52 (by decide)
      · exact absurd c_40 hf9

set_option maxHeartbeats 4000000 in
set_option maxRecDepth 100000 in
/-- present -/
theorem c_X8_present_x (l : Launch) (G : CG) {B : Nat → Nat} {t bl tl ps er ea eo ud ns ne se : Int32} {bf da dr : Nat → Int32} {hi : Nat → Nat → Int32} {sk : Nat → Int64} (hD : MD G B) (x y am dc ins : Int32) (hin9 : inV x 0 (da 0 - 1) = 0) : Wr l yX8_present cX8_present 9 ((Option.some FieldType.int)) 2 43 0 0 G [.ref (B 0), .int x, .int y, .int am, .int dc, .int ins] (MW G B (fm t bl tl ps er ea eo ud ns ne se) bf da dr hi sk) (MA B) (fun v9 H9 => v9 = some (.int 0) ∧ MW G B (fm 1 bl tl ps er ea eo ud ns ne se) bf da dr hi sk H9) := by
  refine Wr.ofW (by decide) (Nat.le_of_ble_eq_true rfl) (fun p e s m below meth c ls E hG hE hP hr hk hin hl => ?_)
  have hS : va_S (MA B) s.heap s.heap [] := va_S.rf
  have hx := E.1
  have hb := E.2.1
  have hl : lv_has ls 9 [(0, .ref (B 0)), (1, .int x), (2, .int y), (3, .int am), (4, .int dc), (5, .int ins)] := hl
  refine lv_aload_n hx hb dX8_present_0 rfl (lv_at hl 0 rfl) ?_
  refine lv_iconst (v := 0) hx hb dX8_present_1 rfl ?_
  refine pf_X8_32 E hG hP.1 (Nat.le_of_ble_eq_true rfl) rfl rfl hS ⟨0, by decide, rfl⟩ dX8_present_2 (fun H locs ho hz oq hS => ?_)
  have hP : MW G B (fm 0 bl tl ps er ea eo ud ns ne se) bf da dr hi sk H := hP.setO hD ho oq
  refine lv_aload_n hx hb dX8_present_5 rfl (lv_at hl 0 rfl) ?_
  refine lv_iload_n hx hb dX8_present_6 rfl (lv_at hl 1 rfl) ?_
  refine Wr.callV (rest := []) (c_X8_noCredit_x l G hD x hin9) yk_X8_noCredit E km_X8_179 dX8_present_7 hG (hE.S hS hD.efa) hP (At.recv hG hP.1 rfl) rfl rfl hl.1 ⟨Nat.le_of_ble_eq_true rfl, Nat.le_of_ble_eq_true rfl⟩ ⟨Nat.le_of_ble_eq_true rfl, Nat.le_of_ble_eq_true rfl⟩ (Nat.le_of_ble_eq_true rfl) hS (fun _ h9 => h9) (fun v9 H locs hq hz9 hfr9 hS => ?_)
  obtain ⟨rfl, hP⟩ := hq
  refine lv_if_ne (tgt := 55) hx hb dX8_present_10 (by decide) (fun c_10 => ?_) (fun c_10 => ?_)
  · refine lv_iconst (v := 0) hx hb dX8_present_55 rfl ?_
    exact wr_int E hr hk hS (by decide) (by decide) (⟨rfl, hP⟩) dX8_present_56
  · exact absurd c_10 (by decide)

set_option maxHeartbeats 4000000 in
set_option maxRecDepth 100000 in
/-- present -/
theorem c_X8_present_y (l : Launch) (G : CG) {B : Nat → Nat} {t bl tl ps er ea eo ud ns ne se : Int32} {bf da dr : Nat → Int32} {hi : Nat → Nat → Int32} {sk : Nat → Int64} (hD : MD G B) (x y am dc ins : Int32) (hin9 : inV x 0 (da 0 - 1) = 1) (hw9 : isWrongV y am dc ins = 1) : Wr l yX8_present cX8_present 9 ((Option.some FieldType.int)) 3 66 0 0 G [.ref (B 0), .int x, .int y, .int am, .int dc, .int ins] (MW G B (fm t bl tl ps er ea eo ud ns ne se) bf da dr hi sk) (MA B) (fun v9 H9 => v9 = some (.int 0) ∧ MW G B (fm 2 bl tl ps er ea eo ud ns ne se) bf da dr hi sk H9) := by
  refine Wr.ofW (by decide) (Nat.le_of_ble_eq_true rfl) (fun p e s m below meth c ls E hG hE hP hr hk hin hl => ?_)
  have hS : va_S (MA B) s.heap s.heap [] := va_S.rf
  have hx := E.1
  have hb := E.2.1
  have hl : lv_has ls 9 [(0, .ref (B 0)), (1, .int x), (2, .int y), (3, .int am), (4, .int dc), (5, .int ins)] := hl
  refine lv_aload_n hx hb dX8_present_0 rfl (lv_at hl 0 rfl) ?_
  refine lv_iconst (v := 0) hx hb dX8_present_1 rfl ?_
  refine pf_X8_32 E hG hP.1 (Nat.le_of_ble_eq_true rfl) rfl rfl hS ⟨0, by decide, rfl⟩ dX8_present_2 (fun H locs ho hz oq hS => ?_)
  have hP : MW G B (fm 0 bl tl ps er ea eo ud ns ne se) bf da dr hi sk H := hP.setO hD ho oq
  refine lv_aload_n hx hb dX8_present_5 rfl (lv_at hl 0 rfl) ?_
  refine lv_iload_n hx hb dX8_present_6 rfl (lv_at hl 1 rfl) ?_
  refine Wr.callV (rest := []) (c_X8_noCredit l G hD x hin9) yk_X8_noCredit E km_X8_179 dX8_present_7 hG (hE.S hS hD.efa) hP (At.recv hG hP.1 rfl) rfl rfl hl.1 ⟨Nat.le_of_ble_eq_true rfl, Nat.le_of_ble_eq_true rfl⟩ ⟨Nat.le_of_ble_eq_true rfl, Nat.le_of_ble_eq_true rfl⟩ (Nat.le_of_ble_eq_true rfl) hS (fun _ h9 => h9) (fun v9 H locs hq hz9 hfr9 hS => ?_)
  obtain ⟨rfl, hP⟩ := hq
  refine lv_if_ne (tgt := 55) hx hb dX8_present_10 (by decide) (fun c_10 => ?_) (fun c_10 => ?_)
  · exact absurd c_10 (by decide)
  · refine lv_aload_n hx hb dX8_present_13 rfl (lv_at hl 0 rfl) ?_
    refine lv_aload_n hx hb dX8_present_14 rfl (lv_at hl 0 rfl) ?_
    refine lv_iload_n hx hb dX8_present_15 rfl (lv_at hl 2 rfl) ?_
    refine lv_iload_n hx hb dX8_present_16 rfl (lv_at hl 3 rfl) ?_
    refine lv_iload hx hb dX8_present_17 (lv_at hl 4 rfl) ?_
    refine lv_iload hx hb dX8_present_19 (lv_at hl 5 rfl) ?_
    refine Rd.callV (rest := [.ref (B 0)]) (c_X8_isWrong l G y am dc ins) yk_X8_isWrong E km_X8_208 dX8_present_21 hG (hE.S hS hD.efa) hP (At.recv hG hP.1 rfl) rfl rfl hl.1 ⟨Nat.le_of_ble_eq_true rfl, Nat.le_of_ble_eq_true rfl⟩ ⟨Nat.zero_le _, Nat.zero_le _⟩ (Nat.le_of_ble_eq_true rfl) ?_
    refine lv_iconst (v := 2) hx hb dX8_present_24 rfl ?_
    rw [hw9]
    refine Wr.callV (rest := []) (c_X8_fails1 l G hD 2 (by decide)) yk_X8_fails E km_X8_153 dX8_present_25 hG (hE.S hS hD.efa) hP (At.recv hG hP.1 rfl) rfl rfl hl.1 ⟨Nat.le_of_ble_eq_true rfl, Nat.le_of_ble_eq_true rfl⟩ ⟨Nat.le_of_ble_eq_true rfl, Nat.le_of_ble_eq_true rfl⟩ (Nat.le_of_ble_eq_true rfl) hS (fun _ h9 => h9) (fun v9 H locs hq hz9 hfr9 hS => ?_)
    obtain ⟨rfl, hP⟩ := hq
    refine lv_if_ne (tgt := 55) hx hb dX8_present_28 (by decide) (fun c_28 => ?_) (fun c_28 => ?_)
    · refine lv_iconst (v := 0) hx hb dX8_present_55 rfl ?_
      exact wr_int E hr hk hS (by decide) (by decide) (⟨rfl, hP⟩) dX8_present_56
    · exact absurd c_28 (by decide)

set_option maxHeartbeats 4000000 in
set_option maxRecDepth 100000 in
/-- present -/
theorem c_X8_present_z (l : Launch) (G : CG) {B : Nat → Nat} {t bl tl ps er ea eo ud ns ne se : Int32} {bf da dr : Nat → Int32} {hi : Nat → Nat → Int32} {sk : Nat → Int64} (hD : MD G B) (x y am dc ins : Int32) (hin9 : inV x 0 (da 0 - 1) = 1) (hw9 : isWrongV y am dc ins = 0) (hf9 : da 1 = 24) : Wr l yX8_present cX8_present 9 ((Option.some FieldType.int)) 3 66 0 0 G [.ref (B 0), .int x, .int y, .int am, .int dc, .int ins] (MW G B (fm t bl tl ps er ea eo ud ns ne se) bf da dr hi sk) (MA B) (fun v9 H9 => v9 = some (.int 0) ∧ MW G B (fm 3 bl tl ps er ea eo ud ns ne se) bf da dr hi sk H9) := by
  refine Wr.ofW (by decide) (Nat.le_of_ble_eq_true rfl) (fun p e s m below meth c ls E hG hE hP hr hk hin hl => ?_)
  have hS : va_S (MA B) s.heap s.heap [] := va_S.rf
  have hx := E.1
  have hb := E.2.1
  have hl : lv_has ls 9 [(0, .ref (B 0)), (1, .int x), (2, .int y), (3, .int am), (4, .int dc), (5, .int ins)] := hl
  refine lv_aload_n hx hb dX8_present_0 rfl (lv_at hl 0 rfl) ?_
  refine lv_iconst (v := 0) hx hb dX8_present_1 rfl ?_
  refine pf_X8_32 E hG hP.1 (Nat.le_of_ble_eq_true rfl) rfl rfl hS ⟨0, by decide, rfl⟩ dX8_present_2 (fun H locs ho hz oq hS => ?_)
  have hP : MW G B (fm 0 bl tl ps er ea eo ud ns ne se) bf da dr hi sk H := hP.setO hD ho oq
  refine lv_aload_n hx hb dX8_present_5 rfl (lv_at hl 0 rfl) ?_
  refine lv_iload_n hx hb dX8_present_6 rfl (lv_at hl 1 rfl) ?_
  refine Wr.callV (rest := []) (c_X8_noCredit l G hD x hin9) yk_X8_noCredit E km_X8_179 dX8_present_7 hG (hE.S hS hD.efa) hP (At.recv hG hP.1 rfl) rfl rfl hl.1 ⟨Nat.le_of_ble_eq_true rfl, Nat.le_of_ble_eq_true rfl⟩ ⟨Nat.le_of_ble_eq_true rfl, Nat.le_of_ble_eq_true rfl⟩ (Nat.le_of_ble_eq_true rfl) hS (fun _ h9 => h9) (fun v9 H locs hq hz9 hfr9 hS => ?_)
  obtain ⟨rfl, hP⟩ := hq
  refine lv_if_ne (tgt := 55) hx hb dX8_present_10 (by decide) (fun c_10 => ?_) (fun c_10 => ?_)
  · exact absurd c_10 (by decide)
  · refine lv_aload_n hx hb dX8_present_13 rfl (lv_at hl 0 rfl) ?_
    refine lv_aload_n hx hb dX8_present_14 rfl (lv_at hl 0 rfl) ?_
    refine lv_iload_n hx hb dX8_present_15 rfl (lv_at hl 2 rfl) ?_
    refine lv_iload_n hx hb dX8_present_16 rfl (lv_at hl 3 rfl) ?_
    refine lv_iload hx hb dX8_present_17 (lv_at hl 4 rfl) ?_
    refine lv_iload hx hb dX8_present_19 (lv_at hl 5 rfl) ?_
    refine Rd.callV (rest := [.ref (B 0)]) (c_X8_isWrong l G y am dc ins) yk_X8_isWrong E km_X8_208 dX8_present_21 hG (hE.S hS hD.efa) hP (At.recv hG hP.1 rfl) rfl rfl hl.1 ⟨Nat.le_of_ble_eq_true rfl, Nat.le_of_ble_eq_true rfl⟩ ⟨Nat.zero_le _, Nat.zero_le _⟩ (Nat.le_of_ble_eq_true rfl) ?_
    refine lv_iconst (v := 2) hx hb dX8_present_24 rfl ?_
    rw [hw9]
    refine Wr.callV (rest := []) (c_X8_fails0 l G hD 2) yk_X8_fails E km_X8_153 dX8_present_25 hG (hE.S hS hD.efa) hP (At.recv hG hP.1 rfl) rfl rfl hl.1 ⟨Nat.le_of_ble_eq_true rfl, Nat.le_of_ble_eq_true rfl⟩ ⟨Nat.le_of_ble_eq_true rfl, Nat.le_of_ble_eq_true rfl⟩ (Nat.le_of_ble_eq_true rfl) hS (fun _ h9 => h9) (fun v9 H locs hq hz9 hfr9 hS => ?_)
    obtain ⟨rfl, hP⟩ := hq
    refine lv_if_ne (tgt := 55) hx hb dX8_present_28 (by decide) (fun c_28 => ?_) (fun c_28 => ?_)
    · exact absurd c_28 (by decide)
    · refine lv_aload_n hx hb dX8_present_31 rfl (lv_at hl 0 rfl) ?_
      refine lv_aload_n hx hb dX8_present_32 rfl (lv_at hl 0 rfl) ?_
      refine gf_X8_17 (v := .ref (B 2)) E hG hP.1 rfl dX8_present_33 ?_
      refine lv_iconst (v := 1) hx hb dX8_present_36 rfl ?_
      refine g_ild 1 E hG hP.2.2.1 rfl (by omega) (by decide) dX8_present_37 ?_
      refine lv_bipush (v := 24) hx hb dX8_present_38 rfl ?_
      refine lv_icmp_ne (tgt := 47) hx hb dX8_present_40 (by decide) (fun c_40 => ?_) (fun c_40 => ?_)
      · exact absurd hf9 c_40
      · refine lv_iconst (v := 1) hx hb dX8_present_43 rfl ?_
        refine lv_goto (tgt := 48) hx hb dX8_present_44 (by decide) ?_
        refine lv_iconst (v := 3) hx hb dX8_present_48 rfl ?_
        refine Wr.callV (rest := []) (c_X8_fails1 l G hD 3 (by decide)) yk_X8_fails E km_X8_153 dX8_present_49 hG (hE.S hS hD.efa) hP (At.recv hG hP.1 rfl) rfl rfl hl.1 ⟨Nat.le_of_ble_eq_true rfl, Nat.le_of_ble_eq_true rfl⟩ ⟨Nat.le_of_ble_eq_true rfl, Nat.le_of_ble_eq_true rfl⟩ (Nat.le_of_ble_eq_true rfl) hS (fun _ h9 => h9) (fun v9 H locs hq hz9 hfr9 hS => ?_)
        obtain ⟨rfl, hP⟩ := hq
        refine lv_if_eq (tgt := 57) hx hb dX8_present_52 (by decide) (fun c_52 => ?_) (fun c_52 => ?_)
        · exact absurd c_52 (by decide)
        · refine lv_iconst (v := 0) hx hb dX8_present_55 rfl ?_
          exact wr_int E hr hk hS (by decide) (by decide) (⟨rfl, hP⟩) dX8_present_56

set_option maxHeartbeats 4000000 in
set_option maxRecDepth 100000 in
/-- examine -/
theorem c_X8_examine_h (l : Launch) (G : CG) {B : Nat → Nat} {t bl tl ps er ea eo ns ne se : Int32} {bf da dr : Nat → Int32} {hi : Nat → Nat → Int32} {sk : Nat → Int64} (hD : MD G B) (x : Int32) (k : Nat) (ex : x = nI k) (hk9 : k < 24) (hin9 : inV x 0 (da 1 - 1) = 1) (dy nh : Nat) (hd1 : da (pP k + 1) = nI dy) (hd2 : dy < 1073000000) (h2 : da 2 = nI nh) (hh : nh ≤ 16) (hst : da (pP k + 4) = 0) (hex : exV da nh k dy = 1) (u : Nat) (hu : u ≤ 8) : Wr l yX8_examine cX8_examine 4 ((Option.some FieldType.int)) 4 89 0 0 G [.ref (B 0), .int x] (MW G B (fm t bl tl ps er ea eo (nI u) ns ne se) bf da dr hi sk) (MA B) (fun v9 H9 => v9 = some (.int 2) ∧ MW G B (fm 0 bl tl ps er ea eo (nI (remU u)) ns ne se) bf (honD da k) dr (remH hi da u) sk H9) := by
  refine Wr.ofW (by decide) (Nat.le_of_ble_eq_true rfl) (fun p e s m below meth c ls E hG hE hP hr hk hin hl => ?_)
  have hS : va_S (MA B) s.heap s.heap [] := va_S.rf
  have hx := E.1
  have hb := E.2.1
  have hl : lv_has ls 4 [(0, .ref (B 0)), (1, .int x)] := hl
  refine lv_aload_n hx hb dX8_examine_0 rfl (lv_at hl 0 rfl) ?_
  refine lv_iconst (v := 0) hx hb dX8_examine_1 rfl ?_
  refine pf_X8_32 E hG hP.1 (Nat.le_of_ble_eq_true rfl) rfl rfl hS ⟨0, by decide, rfl⟩ dX8_examine_2 (fun H locs ho hz oq hS => ?_)
  have hP : MW G B (fm 0 bl tl ps er ea eo (nI u) ns ne se) bf da dr hi sk H := hP.setO hD ho oq
  refine lv_aload_n hx hb dX8_examine_5 rfl (lv_at hl 0 rfl) ?_
  refine lv_iload_n hx hb dX8_examine_6 rfl (lv_at hl 1 rfl) ?_
  refine Wr.callV (rest := []) (c_X8_noPresentation l G hD x hin9) yk_X8_noPresentation E km_X8_216 dX8_examine_7 hG (hE.S hS hD.efa) hP (At.recv hG hP.1 rfl) rfl rfl hl.1 ⟨Nat.le_of_ble_eq_true rfl, Nat.le_of_ble_eq_true rfl⟩ ⟨Nat.le_of_ble_eq_true rfl, Nat.le_of_ble_eq_true rfl⟩ (Nat.le_of_ble_eq_true rfl) hS (fun _ h9 => h9) (fun v9 H locs hq hz9 hfr9 hS => ?_)
  obtain ⟨rfl, hP⟩ := hq
  refine lv_if_eq (tgt := 15) hx hb dX8_examine_10 (by decide) (fun c_10 => ?_) (fun c_10 => ?_)
  · refine lv_iload_n hx hb dX8_examine_15 rfl (lv_at hl 1 rfl) ?_
    refine Rd.callS (rest := []) (c_X8_presentation l G x) yk_X8_presentation E km_X8_188 dX8_examine_16 hG (hE.S hS hD.efa) trivial rfl rfl hl.1 ⟨Nat.le_of_ble_eq_true rfl, Nat.le_of_ble_eq_true rfl⟩ ⟨Nat.zero_le _, Nat.zero_le _⟩ (Nat.le_of_ble_eq_true rfl) ?_
    refine lv_ci (y := nI (154 + 6 * k)) (ixq (nI_ad rfl (nI_mu rfl ex))) ?_
    refine lv_istore_n (lv' := [(2, .int (nI (154 + 6 * k))), (0, .ref (B 0)), (1, .int x)]) hx hb dX8_examine_19 rfl hl (by decide) rfl (fun ls hl => ?_)
    refine lv_aload_n hx hb dX8_examine_20 rfl (lv_at hl 1 rfl) ?_
    refine gf_X8_17 (v := .ref (B 2)) E hG hP.1 rfl dX8_examine_21 ?_
    refine lv_iload_n hx hb dX8_examine_24 rfl (lv_at hl 0 rfl) ?_
    refine lv_iconst (v := 3) hx hb dX8_examine_25 rfl ?_
    refine lv_iadd hx hb dX8_examine_26 ?_
    refine g_ild ((154 + 6 * k) + 3) E hG hP.2.2.1 (ixq (nI_ad rfl rfl)) (by omega) (by decide) dX8_examine_27 ?_
    refine lv_istore_n (lv' := [(3, .int (da ((154 + 6 * k) + 3))), (2, .int (nI (154 + 6 * k))), (0, .ref (B 0)), (1, .int x)]) hx hb dX8_examine_28 rfl hl (by decide) rfl (fun ls hl => ?_)
    refine lv_aload_n hx hb dX8_examine_29 rfl (lv_at hl 2 rfl) ?_
    refine lv_aload_n hx hb dX8_examine_30 rfl (lv_at hl 2 rfl) ?_
    refine gf_X8_17 (v := .ref (B 2)) E hG hP.1 rfl dX8_examine_31 ?_
    refine lv_iload_n hx hb dX8_examine_34 rfl (lv_at hl 1 rfl) ?_
    refine lv_iconst (v := 4) hx hb dX8_examine_35 rfl ?_
    refine lv_iadd hx hb dX8_examine_36 ?_
    refine g_ild ((154 + 6 * k) + 4) E hG hP.2.2.1 (ixq (nI_ad rfl rfl)) (by omega) (by decide) dX8_examine_37 ?_
    refine lv_if_eq (tgt := 45) hx hb dX8_examine_38 (by decide) (fun c_38 => ?_) (fun c_38 => ?_)
    · refine lv_iconst (v := 0) hx hb dX8_examine_45 rfl ?_
      refine lv_iconst (v := 2) hx hb dX8_examine_46 rfl ?_
      refine Wr.callV (rest := []) (c_X8_fails0 l G hD 2) yk_X8_fails E km_X8_153 dX8_examine_47 hG (hE.S hS hD.efa) hP (At.recv hG hP.1 rfl) rfl rfl hl.1 ⟨Nat.le_of_ble_eq_true rfl, Nat.le_of_ble_eq_true rfl⟩ ⟨Nat.le_of_ble_eq_true rfl, Nat.le_of_ble_eq_true rfl⟩ (Nat.le_of_ble_eq_true rfl) hS (fun _ h9 => h9) (fun v9 H locs hq hz9 hfr9 hS => ?_)
      obtain ⟨rfl, hP⟩ := hq
      refine lv_if_eq (tgt := 55) hx hb dX8_examine_50 (by decide) (fun c_50 => ?_) (fun c_50 => ?_)
      · refine lv_aload_n hx hb dX8_examine_55 rfl (lv_at hl 2 rfl) ?_
        refine Wr.callV (rest := []) (c_X8_remember l G hD u hu) yk_X8_remember E km_X8_160 dX8_examine_56 hG (hE.S hS hD.efa) hP (At.recv hG hP.1 rfl) rfl rfl hl.1 ⟨Nat.le_of_ble_eq_true rfl, Nat.le_of_ble_eq_true rfl⟩ ⟨Nat.le_of_ble_eq_true rfl, Nat.le_of_ble_eq_true rfl⟩ (Nat.le_of_ble_eq_true rfl) hS (fun _ h9 => h9) (fun v9 H locs hq hz9 hfr9 hS => ?_)
        obtain ⟨rfl, hP⟩ := hq
        refine lv_iload_n hx hb dX8_examine_59 rfl (lv_at hl 0 rfl) ?_
        refine lv_if_eq (tgt := 83) hx hb dX8_examine_60 (by decide) (fun c_60 => ?_) (fun c_60 => ?_)
        · refine lv_aload_n hx hb dX8_examine_83 rfl (lv_at hl 2 rfl) ?_
          refine lv_iload_n hx hb dX8_examine_84 rfl (lv_at hl 3 rfl) ?_
          refine Wr.callV (rest := []) (c_X8_honour l G hD x k ex (by omega)) yk_X8_honour E km_X8_245 dX8_examine_85 hG (hE.S hS hD.efa) hP (At.recv hG hP.1 rfl) rfl rfl hl.1 ⟨Nat.le_of_ble_eq_true rfl, Nat.le_of_ble_eq_true rfl⟩ ⟨Nat.le_of_ble_eq_true rfl, Nat.le_of_ble_eq_true rfl⟩ (Nat.le_of_ble_eq_true rfl) hS (fun _ h9 => h9) (fun v9 H locs hq hz9 hfr9 hS => ?_)
          obtain ⟨rfl, hP⟩ := hq
          refine lv_goto (tgt := 100) hx hb dX8_examine_88 (by decide) ?_
          refine lv_aload_n hx hb dX8_examine_100 rfl (lv_at hl 2 rfl) ?_
          refine gf_X8_17 (v := .ref (B 2)) E hG hP.1 rfl dX8_examine_101 ?_
          refine lv_iload_n hx hb dX8_examine_104 rfl (lv_at hl 1 rfl) ?_
          refine lv_iconst (v := 4) hx hb dX8_examine_105 rfl ?_
          refine lv_iadd hx hb dX8_examine_106 ?_
          refine g_ild ((154 + 6 * k) + 4) E hG hP.2.2.1 (ixq (nI_ad rfl rfl)) (by omega) (by decide) dX8_examine_107 ?_
          exact wr_int E hr hk hS (by decide) (by decide) (⟨by rw [honD_4], hP⟩) dX8_examine_108
        · refine lv_iload_n hx hb dX8_examine_63 rfl (lv_at hl 0 rfl) ?_
          refine lv_iconst (v := 4) hx hb dX8_examine_64 rfl ?_
          refine lv_iand hx hb dX8_examine_65 ?_
          refine lv_if_ne (tgt := 91) hx hb dX8_examine_66 (by decide) (fun c_66 => ?_) (fun c_66 => ?_)
          · exact absurd hex (by unfold exV; first | (simp only [c_60, c_66, ↓reduceIte, not_true_eq_false, not_false_eq_true]; done) | (simp [c_60, c_66]; done))
          · refine lv_aload_n hx hb dX8_examine_69 rfl (lv_at hl 2 rfl) ?_
            refine gf_X8_17 (v := .ref (B 2)) E hG hP.1 rfl dX8_examine_70 ?_
            refine lv_iconst (v := 3) hx hb dX8_examine_73 rfl ?_
            refine g_ild 3 E hG hP.2.2.1 rfl (by omega) (by decide) dX8_examine_74 ?_
            refine lv_aload_n hx hb dX8_examine_75 rfl (lv_at hl 2 rfl) ?_
            refine lv_iload_n hx hb dX8_examine_76 rfl (lv_at hl 3 rfl) ?_
            refine Rd.callV (rest := [.int (da 3)]) (c_X8_deadlineOf l G x k dy nh ex (by omega) hd1 hd2 h2 hh) yk_X8_deadlineOf E km_X8_219 dX8_examine_77 hG (hE.S hS hD.efa) hP (At.recv hG hP.1 rfl) rfl rfl hl.1 ⟨Nat.le_of_ble_eq_true rfl, Nat.le_of_ble_eq_true rfl⟩ ⟨Nat.zero_le _, Nat.zero_le _⟩ (Nat.le_of_ble_eq_true rfl) ?_
            refine lv_icmp_le (tgt := 91) hx hb dX8_examine_80 (by decide) (fun c_80 => ?_) (fun c_80 => ?_)
            · exact absurd hex (by unfold exV; first | (simp only [c_60, c_66, c_80, ↓reduceIte, not_true_eq_false, not_false_eq_true]; done) | (simp [c_60, c_66, c_80]; done))
            · refine lv_aload_n hx hb dX8_examine_83 rfl (lv_at hl 2 rfl) ?_
              refine lv_iload_n hx hb dX8_examine_84 rfl (lv_at hl 3 rfl) ?_
              refine Wr.callV (rest := []) (c_X8_honour l G hD x k ex (by omega)) yk_X8_honour E km_X8_245 dX8_examine_85 hG (hE.S hS hD.efa) hP (At.recv hG hP.1 rfl) rfl rfl hl.1 ⟨Nat.le_of_ble_eq_true rfl, Nat.le_of_ble_eq_true rfl⟩ ⟨Nat.le_of_ble_eq_true rfl, Nat.le_of_ble_eq_true rfl⟩ (Nat.le_of_ble_eq_true rfl) hS (fun _ h9 => h9) (fun v9 H locs hq hz9 hfr9 hS => ?_)
              obtain ⟨rfl, hP⟩ := hq
              refine lv_goto (tgt := 100) hx hb dX8_examine_88 (by decide) ?_
              refine lv_aload_n hx hb dX8_examine_100 rfl (lv_at hl 2 rfl) ?_
              refine gf_X8_17 (v := .ref (B 2)) E hG hP.1 rfl dX8_examine_101 ?_
              refine lv_iload_n hx hb dX8_examine_104 rfl (lv_at hl 1 rfl) ?_
              refine lv_iconst (v := 4) hx hb dX8_examine_105 rfl ?_
              refine lv_iadd hx hb dX8_examine_106 ?_
              refine g_ild ((154 + 6 * k) + 4) E hG hP.2.2.1 (ixq (nI_ad rfl rfl)) (by omega) (by decide) dX8_examine_107 ?_
              exact wr_int E hr hk hS (by decide) (by decide) (⟨by rw [honD_4], hP⟩) dX8_examine_108
      · exact absurd c_50 (by decide)
    · exact absurd hst c_38
  · exact absurd c_10 (by decide)

set_option maxHeartbeats 4000000 in
set_option maxRecDepth 100000 in
/-- examine -/
theorem c_X8_examine_d (l : Launch) (G : CG) {B : Nat → Nat} {t bl tl ps er ea eo ns ne se : Int32} {bf da dr : Nat → Int32} {hi : Nat → Nat → Int32} {sk : Nat → Int64} (hD : MD G B) (x : Int32) (k : Nat) (ex : x = nI k) (hk9 : k < 24) (hin9 : inV x 0 (da 1 - 1) = 1) (dy nh : Nat) (hd1 : da (pP k + 1) = nI dy) (hd2 : dy < 1073000000) (h2 : da 2 = nI nh) (hh : nh ≤ 16) (hst : da (pP k + 4) = 0) (hex : exV da nh k dy = 0) (u : Nat) (hu : u ≤ 8) : Wr l yX8_examine cX8_examine 4 ((Option.some FieldType.int)) 4 89 0 0 G [.ref (B 0), .int x] (MW G B (fm t bl tl ps er ea eo (nI u) ns ne se) bf da dr hi sk) (MA B) (fun v9 H9 => v9 = some (.int 1) ∧ MW G B (fm 0 bl tl ps er ea eo (nI (remU u)) ns ne se) bf (upd da (pP k + 4) 1) dr (remH hi da u) sk H9) := by
  refine Wr.ofW (by decide) (Nat.le_of_ble_eq_true rfl) (fun p e s m below meth c ls E hG hE hP hr hk hin hl => ?_)
  have hS : va_S (MA B) s.heap s.heap [] := va_S.rf
  have hx := E.1
  have hb := E.2.1
  have hl : lv_has ls 4 [(0, .ref (B 0)), (1, .int x)] := hl
  refine lv_aload_n hx hb dX8_examine_0 rfl (lv_at hl 0 rfl) ?_
  refine lv_iconst (v := 0) hx hb dX8_examine_1 rfl ?_
  refine pf_X8_32 E hG hP.1 (Nat.le_of_ble_eq_true rfl) rfl rfl hS ⟨0, by decide, rfl⟩ dX8_examine_2 (fun H locs ho hz oq hS => ?_)
  have hP : MW G B (fm 0 bl tl ps er ea eo (nI u) ns ne se) bf da dr hi sk H := hP.setO hD ho oq
  refine lv_aload_n hx hb dX8_examine_5 rfl (lv_at hl 0 rfl) ?_
  refine lv_iload_n hx hb dX8_examine_6 rfl (lv_at hl 1 rfl) ?_
  refine Wr.callV (rest := []) (c_X8_noPresentation l G hD x hin9) yk_X8_noPresentation E km_X8_216 dX8_examine_7 hG (hE.S hS hD.efa) hP (At.recv hG hP.1 rfl) rfl rfl hl.1 ⟨Nat.le_of_ble_eq_true rfl, Nat.le_of_ble_eq_true rfl⟩ ⟨Nat.le_of_ble_eq_true rfl, Nat.le_of_ble_eq_true rfl⟩ (Nat.le_of_ble_eq_true rfl) hS (fun _ h9 => h9) (fun v9 H locs hq hz9 hfr9 hS => ?_)
  obtain ⟨rfl, hP⟩ := hq
  refine lv_if_eq (tgt := 15) hx hb dX8_examine_10 (by decide) (fun c_10 => ?_) (fun c_10 => ?_)
  · refine lv_iload_n hx hb dX8_examine_15 rfl (lv_at hl 1 rfl) ?_
    refine Rd.callS (rest := []) (c_X8_presentation l G x) yk_X8_presentation E km_X8_188 dX8_examine_16 hG (hE.S hS hD.efa) trivial rfl rfl hl.1 ⟨Nat.le_of_ble_eq_true rfl, Nat.le_of_ble_eq_true rfl⟩ ⟨Nat.zero_le _, Nat.zero_le _⟩ (Nat.le_of_ble_eq_true rfl) ?_
    refine lv_ci (y := nI (154 + 6 * k)) (ixq (nI_ad rfl (nI_mu rfl ex))) ?_
    refine lv_istore_n (lv' := [(2, .int (nI (154 + 6 * k))), (0, .ref (B 0)), (1, .int x)]) hx hb dX8_examine_19 rfl hl (by decide) rfl (fun ls hl => ?_)
    refine lv_aload_n hx hb dX8_examine_20 rfl (lv_at hl 1 rfl) ?_
    refine gf_X8_17 (v := .ref (B 2)) E hG hP.1 rfl dX8_examine_21 ?_
    refine lv_iload_n hx hb dX8_examine_24 rfl (lv_at hl 0 rfl) ?_
    refine lv_iconst (v := 3) hx hb dX8_examine_25 rfl ?_
    refine lv_iadd hx hb dX8_examine_26 ?_
    refine g_ild ((154 + 6 * k) + 3) E hG hP.2.2.1 (ixq (nI_ad rfl rfl)) (by omega) (by decide) dX8_examine_27 ?_
    refine lv_istore_n (lv' := [(3, .int (da ((154 + 6 * k) + 3))), (2, .int (nI (154 + 6 * k))), (0, .ref (B 0)), (1, .int x)]) hx hb dX8_examine_28 rfl hl (by decide) rfl (fun ls hl => ?_)
    refine lv_aload_n hx hb dX8_examine_29 rfl (lv_at hl 2 rfl) ?_
    refine lv_aload_n hx hb dX8_examine_30 rfl (lv_at hl 2 rfl) ?_
    refine gf_X8_17 (v := .ref (B 2)) E hG hP.1 rfl dX8_examine_31 ?_
    refine lv_iload_n hx hb dX8_examine_34 rfl (lv_at hl 1 rfl) ?_
    refine lv_iconst (v := 4) hx hb dX8_examine_35 rfl ?_
    refine lv_iadd hx hb dX8_examine_36 ?_
    refine g_ild ((154 + 6 * k) + 4) E hG hP.2.2.1 (ixq (nI_ad rfl rfl)) (by omega) (by decide) dX8_examine_37 ?_
    refine lv_if_eq (tgt := 45) hx hb dX8_examine_38 (by decide) (fun c_38 => ?_) (fun c_38 => ?_)
    · refine lv_iconst (v := 0) hx hb dX8_examine_45 rfl ?_
      refine lv_iconst (v := 2) hx hb dX8_examine_46 rfl ?_
      refine Wr.callV (rest := []) (c_X8_fails0 l G hD 2) yk_X8_fails E km_X8_153 dX8_examine_47 hG (hE.S hS hD.efa) hP (At.recv hG hP.1 rfl) rfl rfl hl.1 ⟨Nat.le_of_ble_eq_true rfl, Nat.le_of_ble_eq_true rfl⟩ ⟨Nat.le_of_ble_eq_true rfl, Nat.le_of_ble_eq_true rfl⟩ (Nat.le_of_ble_eq_true rfl) hS (fun _ h9 => h9) (fun v9 H locs hq hz9 hfr9 hS => ?_)
      obtain ⟨rfl, hP⟩ := hq
      refine lv_if_eq (tgt := 55) hx hb dX8_examine_50 (by decide) (fun c_50 => ?_) (fun c_50 => ?_)
      · refine lv_aload_n hx hb dX8_examine_55 rfl (lv_at hl 2 rfl) ?_
        refine Wr.callV (rest := []) (c_X8_remember l G hD u hu) yk_X8_remember E km_X8_160 dX8_examine_56 hG (hE.S hS hD.efa) hP (At.recv hG hP.1 rfl) rfl rfl hl.1 ⟨Nat.le_of_ble_eq_true rfl, Nat.le_of_ble_eq_true rfl⟩ ⟨Nat.le_of_ble_eq_true rfl, Nat.le_of_ble_eq_true rfl⟩ (Nat.le_of_ble_eq_true rfl) hS (fun _ h9 => h9) (fun v9 H locs hq hz9 hfr9 hS => ?_)
        obtain ⟨rfl, hP⟩ := hq
        refine lv_iload_n hx hb dX8_examine_59 rfl (lv_at hl 0 rfl) ?_
        refine lv_if_eq (tgt := 83) hx hb dX8_examine_60 (by decide) (fun c_60 => ?_) (fun c_60 => ?_)
        · exact absurd hex (by unfold exV; first | (simp only [c_60, ↓reduceIte, not_true_eq_false, not_false_eq_true]; done) | (simp [c_60]; done))
        · refine lv_iload_n hx hb dX8_examine_63 rfl (lv_at hl 0 rfl) ?_
          refine lv_iconst (v := 4) hx hb dX8_examine_64 rfl ?_
          refine lv_iand hx hb dX8_examine_65 ?_
          refine lv_if_ne (tgt := 91) hx hb dX8_examine_66 (by decide) (fun c_66 => ?_) (fun c_66 => ?_)
          · refine lv_aload_n hx hb dX8_examine_91 rfl (lv_at hl 2 rfl) ?_
            refine gf_X8_17 (v := .ref (B 2)) E hG hP.1 rfl dX8_examine_92 ?_
            refine lv_iload_n hx hb dX8_examine_95 rfl (lv_at hl 1 rfl) ?_
            refine lv_iconst (v := 4) hx hb dX8_examine_96 rfl ?_
            refine lv_iadd hx hb dX8_examine_97 ?_
            refine lv_iconst (v := 1) hx hb dX8_examine_98 rfl ?_
            refine g_ist ((154 + 6 * k) + 4) E hG hP.2.2.1 (ixq (nI_ad rfl rfl)) (by omega) (by decide) hS ⟨2, by decide, rfl⟩ dX8_examine_99 (fun H locs ho hz oq hS => ?_)
            have hP : MW G B (fm 0 bl tl ps er ea eo (nI (remU u)) ns ne se) bf (upd da ((154 + 6 * k) + 4) 1) dr (remH hi da u) sk H := hP.setD hD ho oq
            refine lv_aload_n hx hb dX8_examine_100 rfl (lv_at hl 2 rfl) ?_
            refine gf_X8_17 (v := .ref (B 2)) E hG hP.1 rfl dX8_examine_101 ?_
            refine lv_iload_n hx hb dX8_examine_104 rfl (lv_at hl 1 rfl) ?_
            refine lv_iconst (v := 4) hx hb dX8_examine_105 rfl ?_
            refine lv_iadd hx hb dX8_examine_106 ?_
            refine g_ild ((154 + 6 * k) + 4) E hG hP.2.2.1 (ixq (nI_ad rfl rfl)) (by omega) (by decide) dX8_examine_107 ?_
            exact wr_int E hr hk hS (by decide) (by decide) (⟨by simp [upd], hP⟩) dX8_examine_108
          · refine lv_aload_n hx hb dX8_examine_69 rfl (lv_at hl 2 rfl) ?_
            refine gf_X8_17 (v := .ref (B 2)) E hG hP.1 rfl dX8_examine_70 ?_
            refine lv_iconst (v := 3) hx hb dX8_examine_73 rfl ?_
            refine g_ild 3 E hG hP.2.2.1 rfl (by omega) (by decide) dX8_examine_74 ?_
            refine lv_aload_n hx hb dX8_examine_75 rfl (lv_at hl 2 rfl) ?_
            refine lv_iload_n hx hb dX8_examine_76 rfl (lv_at hl 3 rfl) ?_
            refine Rd.callV (rest := [.int (da 3)]) (c_X8_deadlineOf l G x k dy nh ex (by omega) hd1 hd2 h2 hh) yk_X8_deadlineOf E km_X8_219 dX8_examine_77 hG (hE.S hS hD.efa) hP (At.recv hG hP.1 rfl) rfl rfl hl.1 ⟨Nat.le_of_ble_eq_true rfl, Nat.le_of_ble_eq_true rfl⟩ ⟨Nat.zero_le _, Nat.zero_le _⟩ (Nat.le_of_ble_eq_true rfl) ?_
            refine lv_icmp_le (tgt := 91) hx hb dX8_examine_80 (by decide) (fun c_80 => ?_) (fun c_80 => ?_)
            · refine lv_aload_n hx hb dX8_examine_91 rfl (lv_at hl 2 rfl) ?_
              refine gf_X8_17 (v := .ref (B 2)) E hG hP.1 rfl dX8_examine_92 ?_
              refine lv_iload_n hx hb dX8_examine_95 rfl (lv_at hl 1 rfl) ?_
              refine lv_iconst (v := 4) hx hb dX8_examine_96 rfl ?_
              refine lv_iadd hx hb dX8_examine_97 ?_
              refine lv_iconst (v := 1) hx hb dX8_examine_98 rfl ?_
              refine g_ist ((154 + 6 * k) + 4) E hG hP.2.2.1 (ixq (nI_ad rfl rfl)) (by omega) (by decide) hS ⟨2, by decide, rfl⟩ dX8_examine_99 (fun H locs ho hz oq hS => ?_)
              have hP : MW G B (fm 0 bl tl ps er ea eo (nI (remU u)) ns ne se) bf (upd da ((154 + 6 * k) + 4) 1) dr (remH hi da u) sk H := hP.setD hD ho oq
              refine lv_aload_n hx hb dX8_examine_100 rfl (lv_at hl 2 rfl) ?_
              refine gf_X8_17 (v := .ref (B 2)) E hG hP.1 rfl dX8_examine_101 ?_
              refine lv_iload_n hx hb dX8_examine_104 rfl (lv_at hl 1 rfl) ?_
              refine lv_iconst (v := 4) hx hb dX8_examine_105 rfl ?_
              refine lv_iadd hx hb dX8_examine_106 ?_
              refine g_ild ((154 + 6 * k) + 4) E hG hP.2.2.1 (ixq (nI_ad rfl rfl)) (by omega) (by decide) dX8_examine_107 ?_
              exact wr_int E hr hk hS (by decide) (by decide) (⟨by simp [upd], hP⟩) dX8_examine_108
            · exact absurd hex (by unfold exV; first | (simp only [c_60, c_66, c_80, ↓reduceIte, not_true_eq_false, not_false_eq_true]; done) | (simp [c_60, c_66, c_80]; done))
      · exact absurd c_50 (by decide)
    · exact absurd hst c_38
  · exact absurd c_10 (by decide)

set_option maxHeartbeats 4000000 in
set_option maxRecDepth 100000 in
/-- examine -/
theorem c_X8_examine_x (l : Launch) (G : CG) {B : Nat → Nat} {t bl tl ps er ea eo ud ns ne se : Int32} {bf da dr : Nat → Int32} {hi : Nat → Nat → Int32} {sk : Nat → Int64} (hD : MD G B) (x : Int32) (hin9 : inV x 0 (da 1 - 1) = 0) : Wr l yX8_examine cX8_examine 4 ((Option.some FieldType.int)) 2 43 0 0 G [.ref (B 0), .int x] (MW G B (fm t bl tl ps er ea eo ud ns ne se) bf da dr hi sk) (MA B) (fun v9 H9 => v9 = some (.int 0) ∧ MW G B (fm 1 bl tl ps er ea eo ud ns ne se) bf da dr hi sk H9) := by
  refine Wr.ofW (by decide) (Nat.le_of_ble_eq_true rfl) (fun p e s m below meth c ls E hG hE hP hr hk hin hl => ?_)
  have hS : va_S (MA B) s.heap s.heap [] := va_S.rf
  have hx := E.1
  have hb := E.2.1
  have hl : lv_has ls 4 [(0, .ref (B 0)), (1, .int x)] := hl
  refine lv_aload_n hx hb dX8_examine_0 rfl (lv_at hl 0 rfl) ?_
  refine lv_iconst (v := 0) hx hb dX8_examine_1 rfl ?_
  refine pf_X8_32 E hG hP.1 (Nat.le_of_ble_eq_true rfl) rfl rfl hS ⟨0, by decide, rfl⟩ dX8_examine_2 (fun H locs ho hz oq hS => ?_)
  have hP : MW G B (fm 0 bl tl ps er ea eo ud ns ne se) bf da dr hi sk H := hP.setO hD ho oq
  refine lv_aload_n hx hb dX8_examine_5 rfl (lv_at hl 0 rfl) ?_
  refine lv_iload_n hx hb dX8_examine_6 rfl (lv_at hl 1 rfl) ?_
  refine Wr.callV (rest := []) (c_X8_noPresentation_x l G hD x hin9) yk_X8_noPresentation E km_X8_216 dX8_examine_7 hG (hE.S hS hD.efa) hP (At.recv hG hP.1 rfl) rfl rfl hl.1 ⟨Nat.le_of_ble_eq_true rfl, Nat.le_of_ble_eq_true rfl⟩ ⟨Nat.le_of_ble_eq_true rfl, Nat.le_of_ble_eq_true rfl⟩ (Nat.le_of_ble_eq_true rfl) hS (fun _ h9 => h9) (fun v9 H locs hq hz9 hfr9 hS => ?_)
  obtain ⟨rfl, hP⟩ := hq
  refine lv_if_eq (tgt := 15) hx hb dX8_examine_10 (by decide) (fun c_10 => ?_) (fun c_10 => ?_)
  · exact absurd c_10 (by decide)
  · refine lv_iconst (v := 0) hx hb dX8_examine_13 rfl ?_
    exact wr_int E hr hk hS (by decide) (by decide) (⟨rfl, hP⟩) dX8_examine_14

set_option maxHeartbeats 4000000 in
set_option maxRecDepth 100000 in
/-- examine -/
theorem c_X8_examine_y (l : Launch) (G : CG) {B : Nat → Nat} {t bl tl ps er ea eo ud ns ne se : Int32} {bf da dr : Nat → Int32} {hi : Nat → Nat → Int32} {sk : Nat → Int64} (hD : MD G B) (x : Int32) (k : Nat) (ex : x = nI k) (hk9 : k < 24) (hin9 : inV x 0 (da 1 - 1) = 1) (hst : ¬ da (pP k + 4) = 0) : Wr l yX8_examine cX8_examine 4 ((Option.some FieldType.int)) 2 43 0 0 G [.ref (B 0), .int x] (MW G B (fm t bl tl ps er ea eo ud ns ne se) bf da dr hi sk) (MA B) (fun v9 H9 => v9 = some (.int 0) ∧ MW G B (fm 2 bl tl ps er ea eo ud ns ne se) bf da dr hi sk H9) := by
  refine Wr.ofW (by decide) (Nat.le_of_ble_eq_true rfl) (fun p e s m below meth c ls E hG hE hP hr hk hin hl => ?_)
  have hS : va_S (MA B) s.heap s.heap [] := va_S.rf
  have hx := E.1
  have hb := E.2.1
  have hl : lv_has ls 4 [(0, .ref (B 0)), (1, .int x)] := hl
  refine lv_aload_n hx hb dX8_examine_0 rfl (lv_at hl 0 rfl) ?_
  refine lv_iconst (v := 0) hx hb dX8_examine_1 rfl ?_
  refine pf_X8_32 E hG hP.1 (Nat.le_of_ble_eq_true rfl) rfl rfl hS ⟨0, by decide, rfl⟩ dX8_examine_2 (fun H locs ho hz oq hS => ?_)
  have hP : MW G B (fm 0 bl tl ps er ea eo ud ns ne se) bf da dr hi sk H := hP.setO hD ho oq
  refine lv_aload_n hx hb dX8_examine_5 rfl (lv_at hl 0 rfl) ?_
  refine lv_iload_n hx hb dX8_examine_6 rfl (lv_at hl 1 rfl) ?_
  refine Wr.callV (rest := []) (c_X8_noPresentation l G hD x hin9) yk_X8_noPresentation E km_X8_216 dX8_examine_7 hG (hE.S hS hD.efa) hP (At.recv hG hP.1 rfl) rfl rfl hl.1 ⟨Nat.le_of_ble_eq_true rfl, Nat.le_of_ble_eq_true rfl⟩ ⟨Nat.le_of_ble_eq_true rfl, Nat.le_of_ble_eq_true rfl⟩ (Nat.le_of_ble_eq_true rfl) hS (fun _ h9 => h9) (fun v9 H locs hq hz9 hfr9 hS => ?_)
  obtain ⟨rfl, hP⟩ := hq
  refine lv_if_eq (tgt := 15) hx hb dX8_examine_10 (by decide) (fun c_10 => ?_) (fun c_10 => ?_)
  · refine lv_iload_n hx hb dX8_examine_15 rfl (lv_at hl 1 rfl) ?_
    refine Rd.callS (rest := []) (c_X8_presentation l G x) yk_X8_presentation E km_X8_188 dX8_examine_16 hG (hE.S hS hD.efa) trivial rfl rfl hl.1 ⟨Nat.le_of_ble_eq_true rfl, Nat.le_of_ble_eq_true rfl⟩ ⟨Nat.zero_le _, Nat.zero_le _⟩ (Nat.le_of_ble_eq_true rfl) ?_
    refine lv_ci (y := nI (154 + 6 * k)) (ixq (nI_ad rfl (nI_mu rfl ex))) ?_
    refine lv_istore_n (lv' := [(2, .int (nI (154 + 6 * k))), (0, .ref (B 0)), (1, .int x)]) hx hb dX8_examine_19 rfl hl (by decide) rfl (fun ls hl => ?_)
    refine lv_aload_n hx hb dX8_examine_20 rfl (lv_at hl 1 rfl) ?_
    refine gf_X8_17 (v := .ref (B 2)) E hG hP.1 rfl dX8_examine_21 ?_
    refine lv_iload_n hx hb dX8_examine_24 rfl (lv_at hl 0 rfl) ?_
    refine lv_iconst (v := 3) hx hb dX8_examine_25 rfl ?_
    refine lv_iadd hx hb dX8_examine_26 ?_
    refine g_ild ((154 + 6 * k) + 3) E hG hP.2.2.1 (ixq (nI_ad rfl rfl)) (by omega) (by decide) dX8_examine_27 ?_
    refine lv_istore_n (lv' := [(3, .int (da ((154 + 6 * k) + 3))), (2, .int (nI (154 + 6 * k))), (0, .ref (B 0)), (1, .int x)]) hx hb dX8_examine_28 rfl hl (by decide) rfl (fun ls hl => ?_)
    refine lv_aload_n hx hb dX8_examine_29 rfl (lv_at hl 2 rfl) ?_
    refine lv_aload_n hx hb dX8_examine_30 rfl (lv_at hl 2 rfl) ?_
    refine gf_X8_17 (v := .ref (B 2)) E hG hP.1 rfl dX8_examine_31 ?_
    refine lv_iload_n hx hb dX8_examine_34 rfl (lv_at hl 1 rfl) ?_
    refine lv_iconst (v := 4) hx hb dX8_examine_35 rfl ?_
    refine lv_iadd hx hb dX8_examine_36 ?_
    refine g_ild ((154 + 6 * k) + 4) E hG hP.2.2.1 (ixq (nI_ad rfl rfl)) (by omega) (by decide) dX8_examine_37 ?_
    refine lv_if_eq (tgt := 45) hx hb dX8_examine_38 (by decide) (fun c_38 => ?_) (fun c_38 => ?_)
    · exact absurd c_38 hst
    · refine lv_iconst (v := 1) hx hb dX8_examine_41 rfl ?_
      refine lv_goto (tgt := 46) hx hb dX8_examine_42 (by decide) ?_
      refine lv_iconst (v := 2) hx hb dX8_examine_46 rfl ?_
      refine Wr.callV (rest := []) (c_X8_fails1 l G hD 2 (by decide)) yk_X8_fails E km_X8_153 dX8_examine_47 hG (hE.S hS hD.efa) hP (At.recv hG hP.1 rfl) rfl rfl hl.1 ⟨Nat.le_of_ble_eq_true rfl, Nat.le_of_ble_eq_true rfl⟩ ⟨Nat.le_of_ble_eq_true rfl, Nat.le_of_ble_eq_true rfl⟩ (Nat.le_of_ble_eq_true rfl) hS (fun _ h9 => h9) (fun v9 H locs hq hz9 hfr9 hS => ?_)
      obtain ⟨rfl, hP⟩ := hq
      refine lv_if_eq (tgt := 55) hx hb dX8_examine_50 (by decide) (fun c_50 => ?_) (fun c_50 => ?_)
      · exact absurd c_50 (by decide)
      · refine lv_iconst (v := 0) hx hb dX8_examine_53 rfl ?_
        exact wr_int E hr hk hS (by decide) (by decide) (⟨rfl, hP⟩) dX8_examine_54
  · exact absurd c_10 (by decide)

set_option maxHeartbeats 4000000 in
set_option maxRecDepth 100000 in
/-- waive -/
theorem c_X8_waive (l : Launch) (G : CG) {B : Nat → Nat} {t bl tl ps er ea eo ns ne se : Int32} {bf da dr : Nat → Int32} {hi : Nat → Nat → Int32} {sk : Nat → Int64} (hD : MD G B) (x : Int32) (k : Nat) (ex : x = nI k) (hk9 : k < 24) (hin9 : inV x 0 (da 1 - 1) = 1) (cr td te nh : Nat) (hd1 : da (pP k) = nI cr) (hd2 : cr < 12) (hd3 : da 3 = nI td) (hd4 : td ≤ 9000) (hd5 : da (cP cr + 6) = nI te) (hd6 : te < 1000) (h2 : da 2 = nI nh) (hh : nh ≤ 16) (hst : da (pP k + 4) = 1) (hov : da (pP k + 3) &&& 4 = 0) (u : Nat) (hu : u ≤ 8) : Wr l yX8_waive cX8_waive 3 ((Option.some FieldType.int)) 3 66 0 0 G [.ref (B 0), .int x] (MW G B (fm t bl tl ps er ea eo (nI u) ns ne se) bf da dr hi sk) (MA B) (fun v9 H9 => v9 = some (.int (dueV (honD da k) nh k td te)) ∧ MW G B (fm 0 bl tl ps er ea eo (nI (remU u)) ns ne se) bf (honD da k) dr (remH hi da u) sk H9) := by
  refine Wr.ofW (by decide) (Nat.le_of_ble_eq_true rfl) (fun p e s m below meth c ls E hG hE hP hr hk hin hl => ?_)
  have hS : va_S (MA B) s.heap s.heap [] := va_S.rf
  have hx := E.1
  have hb := E.2.1
  have hl : lv_has ls 3 [(0, .ref (B 0)), (1, .int x)] := hl
  refine lv_aload_n hx hb dX8_waive_0 rfl (lv_at hl 0 rfl) ?_
  refine lv_iconst (v := 0) hx hb dX8_waive_1 rfl ?_
  refine pf_X8_32 E hG hP.1 (Nat.le_of_ble_eq_true rfl) rfl rfl hS ⟨0, by decide, rfl⟩ dX8_waive_2 (fun H locs ho hz oq hS => ?_)
  have hP : MW G B (fm 0 bl tl ps er ea eo (nI u) ns ne se) bf da dr hi sk H := hP.setO hD ho oq
  refine lv_aload_n hx hb dX8_waive_5 rfl (lv_at hl 0 rfl) ?_
  refine lv_iload_n hx hb dX8_waive_6 rfl (lv_at hl 1 rfl) ?_
  refine Wr.callV (rest := []) (c_X8_noPresentation l G hD x hin9) yk_X8_noPresentation E km_X8_216 dX8_waive_7 hG (hE.S hS hD.efa) hP (At.recv hG hP.1 rfl) rfl rfl hl.1 ⟨Nat.le_of_ble_eq_true rfl, Nat.le_of_ble_eq_true rfl⟩ ⟨Nat.le_of_ble_eq_true rfl, Nat.le_of_ble_eq_true rfl⟩ (Nat.le_of_ble_eq_true rfl) hS (fun _ h9 => h9) (fun v9 H locs hq hz9 hfr9 hS => ?_)
  obtain ⟨rfl, hP⟩ := hq
  refine lv_if_eq (tgt := 15) hx hb dX8_waive_10 (by decide) (fun c_10 => ?_) (fun c_10 => ?_)
  · refine lv_iload_n hx hb dX8_waive_15 rfl (lv_at hl 1 rfl) ?_
    refine Rd.callS (rest := []) (c_X8_presentation l G x) yk_X8_presentation E km_X8_188 dX8_waive_16 hG (hE.S hS hD.efa) trivial rfl rfl hl.1 ⟨Nat.le_of_ble_eq_true rfl, Nat.le_of_ble_eq_true rfl⟩ ⟨Nat.zero_le _, Nat.zero_le _⟩ (Nat.le_of_ble_eq_true rfl) ?_
    refine lv_ci (y := nI (154 + 6 * k)) (ixq (nI_ad rfl (nI_mu rfl ex))) ?_
    refine lv_istore_n (lv' := [(2, .int (nI (154 + 6 * k))), (0, .ref (B 0)), (1, .int x)]) hx hb dX8_waive_19 rfl hl (by decide) rfl (fun ls hl => ?_)
    refine lv_aload_n hx hb dX8_waive_20 rfl (lv_at hl 1 rfl) ?_
    refine lv_aload_n hx hb dX8_waive_21 rfl (lv_at hl 1 rfl) ?_
    refine gf_X8_17 (v := .ref (B 2)) E hG hP.1 rfl dX8_waive_22 ?_
    refine lv_iload_n hx hb dX8_waive_25 rfl (lv_at hl 0 rfl) ?_
    refine lv_iconst (v := 4) hx hb dX8_waive_26 rfl ?_
    refine lv_iadd hx hb dX8_waive_27 ?_
    refine g_ild ((154 + 6 * k) + 4) E hG hP.2.2.1 (ixq (nI_ad rfl rfl)) (by omega) (by decide) dX8_waive_28 ?_
    refine lv_iconst (v := 1) hx hb dX8_waive_29 rfl ?_
    refine lv_icmp_ne (tgt := 46) hx hb dX8_waive_30 (by decide) (fun c_30 => ?_) (fun c_30 => ?_)
    · exact absurd hst c_30
    · refine lv_aload_n hx hb dX8_waive_33 rfl (lv_at hl 1 rfl) ?_
      refine gf_X8_17 (v := .ref (B 2)) E hG hP.1 rfl dX8_waive_34 ?_
      refine lv_iload_n hx hb dX8_waive_37 rfl (lv_at hl 0 rfl) ?_
      refine lv_iconst (v := 3) hx hb dX8_waive_38 rfl ?_
      refine lv_iadd hx hb dX8_waive_39 ?_
      refine g_ild ((154 + 6 * k) + 3) E hG hP.2.2.1 (ixq (nI_ad rfl rfl)) (by omega) (by decide) dX8_waive_40 ?_
      refine lv_iconst (v := 4) hx hb dX8_waive_41 rfl ?_
      refine lv_iand hx hb dX8_waive_42 ?_
      refine lv_if_eq (tgt := 50) hx hb dX8_waive_43 (by decide) (fun c_43 => ?_) (fun c_43 => ?_)
      · refine lv_iconst (v := 0) hx hb dX8_waive_50 rfl ?_
        refine lv_iconst (v := 2) hx hb dX8_waive_51 rfl ?_
        refine Wr.callV (rest := []) (c_X8_fails0 l G hD 2) yk_X8_fails E km_X8_153 dX8_waive_52 hG (hE.S hS hD.efa) hP (At.recv hG hP.1 rfl) rfl rfl hl.1 ⟨Nat.le_of_ble_eq_true rfl, Nat.le_of_ble_eq_true rfl⟩ ⟨Nat.le_of_ble_eq_true rfl, Nat.le_of_ble_eq_true rfl⟩ (Nat.le_of_ble_eq_true rfl) hS (fun _ h9 => h9) (fun v9 H locs hq hz9 hfr9 hS => ?_)
        obtain ⟨rfl, hP⟩ := hq
        refine lv_if_eq (tgt := 60) hx hb dX8_waive_55 (by decide) (fun c_55 => ?_) (fun c_55 => ?_)
        · refine lv_aload_n hx hb dX8_waive_60 rfl (lv_at hl 1 rfl) ?_
          refine Wr.callV (rest := []) (c_X8_remember l G hD u hu) yk_X8_remember E km_X8_160 dX8_waive_61 hG (hE.S hS hD.efa) hP (At.recv hG hP.1 rfl) rfl rfl hl.1 ⟨Nat.le_of_ble_eq_true rfl, Nat.le_of_ble_eq_true rfl⟩ ⟨Nat.le_of_ble_eq_true rfl, Nat.le_of_ble_eq_true rfl⟩ (Nat.le_of_ble_eq_true rfl) hS (fun _ h9 => h9) (fun v9 H locs hq hz9 hfr9 hS => ?_)
          obtain ⟨rfl, hP⟩ := hq
          refine lv_aload_n hx hb dX8_waive_64 rfl (lv_at hl 1 rfl) ?_
          refine lv_iload_n hx hb dX8_waive_65 rfl (lv_at hl 2 rfl) ?_
          refine Wr.callV (rest := []) (c_X8_honour l G hD x k ex (by omega)) yk_X8_honour E km_X8_245 dX8_waive_66 hG (hE.S hS hD.efa) hP (At.recv hG hP.1 rfl) rfl rfl hl.1 ⟨Nat.le_of_ble_eq_true rfl, Nat.le_of_ble_eq_true rfl⟩ ⟨Nat.le_of_ble_eq_true rfl, Nat.le_of_ble_eq_true rfl⟩ (Nat.le_of_ble_eq_true rfl) hS (fun _ h9 => h9) (fun v9 H locs hq hz9 hfr9 hS => ?_)
          obtain ⟨rfl, hP⟩ := hq
          refine lv_aload_n hx hb dX8_waive_69 rfl (lv_at hl 1 rfl) ?_
          refine lv_iload_n hx hb dX8_waive_70 rfl (lv_at hl 2 rfl) ?_
          refine Rd.callV (rest := []) (c_X8_dueOf l G (da := honD da k) x k nh ex (by omega) cr td te ((honD_o (j := 154 + 6 * k) (by omega) (by omega)).trans hd1) hd2 ((honD_5 da k).trans hd3) (by omega) ((honD_o (j := 22 + 11 * cr + 6) (by omega) (by omega)).trans hd5) hd6 ((honD_o (by omega) (by omega)).trans h2) hh) yk_X8_dueOf E km_X8_222 dX8_waive_71 hG (hE.S hS hD.efa) hP (At.recv hG hP.1 rfl) rfl rfl hl.1 ⟨Nat.le_of_ble_eq_true rfl, Nat.le_of_ble_eq_true rfl⟩ ⟨Nat.zero_le _, Nat.zero_le _⟩ (Nat.le_of_ble_eq_true rfl) ?_
          exact wr_int E hr hk hS (by decide) (by decide) (⟨rfl, hP⟩) dX8_waive_74
        · exact absurd c_55 (by decide)
      · exact absurd hov c_43
  · exact absurd c_10 (by decide)

set_option maxHeartbeats 4000000 in
set_option maxRecDepth 100000 in
/-- waive -/
theorem c_X8_waive_x (l : Launch) (G : CG) {B : Nat → Nat} {t bl tl ps er ea eo ud ns ne se : Int32} {bf da dr : Nat → Int32} {hi : Nat → Nat → Int32} {sk : Nat → Int64} (hD : MD G B) (x : Int32) (hin9 : inV x 0 (da 1 - 1) = 0) : Wr l yX8_waive cX8_waive 3 ((Option.some FieldType.int)) 2 43 0 0 G [.ref (B 0), .int x] (MW G B (fm t bl tl ps er ea eo ud ns ne se) bf da dr hi sk) (MA B) (fun v9 H9 => v9 = some (.int 0) ∧ MW G B (fm 1 bl tl ps er ea eo ud ns ne se) bf da dr hi sk H9) := by
  refine Wr.ofW (by decide) (Nat.le_of_ble_eq_true rfl) (fun p e s m below meth c ls E hG hE hP hr hk hin hl => ?_)
  have hS : va_S (MA B) s.heap s.heap [] := va_S.rf
  have hx := E.1
  have hb := E.2.1
  have hl : lv_has ls 3 [(0, .ref (B 0)), (1, .int x)] := hl
  refine lv_aload_n hx hb dX8_waive_0 rfl (lv_at hl 0 rfl) ?_
  refine lv_iconst (v := 0) hx hb dX8_waive_1 rfl ?_
  refine pf_X8_32 E hG hP.1 (Nat.le_of_ble_eq_true rfl) rfl rfl hS ⟨0, by decide, rfl⟩ dX8_waive_2 (fun H locs ho hz oq hS => ?_)
  have hP : MW G B (fm 0 bl tl ps er ea eo ud ns ne se) bf da dr hi sk H := hP.setO hD ho oq
  refine lv_aload_n hx hb dX8_waive_5 rfl (lv_at hl 0 rfl) ?_
  refine lv_iload_n hx hb dX8_waive_6 rfl (lv_at hl 1 rfl) ?_
  refine Wr.callV (rest := []) (c_X8_noPresentation_x l G hD x hin9) yk_X8_noPresentation E km_X8_216 dX8_waive_7 hG (hE.S hS hD.efa) hP (At.recv hG hP.1 rfl) rfl rfl hl.1 ⟨Nat.le_of_ble_eq_true rfl, Nat.le_of_ble_eq_true rfl⟩ ⟨Nat.le_of_ble_eq_true rfl, Nat.le_of_ble_eq_true rfl⟩ (Nat.le_of_ble_eq_true rfl) hS (fun _ h9 => h9) (fun v9 H locs hq hz9 hfr9 hS => ?_)
  obtain ⟨rfl, hP⟩ := hq
  refine lv_if_eq (tgt := 15) hx hb dX8_waive_10 (by decide) (fun c_10 => ?_) (fun c_10 => ?_)
  · exact absurd c_10 (by decide)
  · refine lv_iconst (v := 0) hx hb dX8_waive_13 rfl ?_
    exact wr_int E hr hk hS (by decide) (by decide) (⟨rfl, hP⟩) dX8_waive_14

set_option maxHeartbeats 4000000 in
set_option maxRecDepth 100000 in
/-- waive -/
theorem c_X8_waive_y (l : Launch) (G : CG) {B : Nat → Nat} {t bl tl ps er ea eo ud ns ne se : Int32} {bf da dr : Nat → Int32} {hi : Nat → Nat → Int32} {sk : Nat → Int64} (hD : MD G B) (x : Int32) (k : Nat) (ex : x = nI k) (hk9 : k < 24) (hin9 : inV x 0 (da 1 - 1) = 1) (hst : ¬ da (pP k + 4) = 1) : Wr l yX8_waive cX8_waive 3 ((Option.some FieldType.int)) 2 43 0 0 G [.ref (B 0), .int x] (MW G B (fm t bl tl ps er ea eo ud ns ne se) bf da dr hi sk) (MA B) (fun v9 H9 => v9 = some (.int 0) ∧ MW G B (fm 2 bl tl ps er ea eo ud ns ne se) bf da dr hi sk H9) := by
  refine Wr.ofW (by decide) (Nat.le_of_ble_eq_true rfl) (fun p e s m below meth c ls E hG hE hP hr hk hin hl => ?_)
  have hS : va_S (MA B) s.heap s.heap [] := va_S.rf
  have hx := E.1
  have hb := E.2.1
  have hl : lv_has ls 3 [(0, .ref (B 0)), (1, .int x)] := hl
  refine lv_aload_n hx hb dX8_waive_0 rfl (lv_at hl 0 rfl) ?_
  refine lv_iconst (v := 0) hx hb dX8_waive_1 rfl ?_
  refine pf_X8_32 E hG hP.1 (Nat.le_of_ble_eq_true rfl) rfl rfl hS ⟨0, by decide, rfl⟩ dX8_waive_2 (fun H locs ho hz oq hS => ?_)
  have hP : MW G B (fm 0 bl tl ps er ea eo ud ns ne se) bf da dr hi sk H := hP.setO hD ho oq
  refine lv_aload_n hx hb dX8_waive_5 rfl (lv_at hl 0 rfl) ?_
  refine lv_iload_n hx hb dX8_waive_6 rfl (lv_at hl 1 rfl) ?_
  refine Wr.callV (rest := []) (c_X8_noPresentation l G hD x hin9) yk_X8_noPresentation E km_X8_216 dX8_waive_7 hG (hE.S hS hD.efa) hP (At.recv hG hP.1 rfl) rfl rfl hl.1 ⟨Nat.le_of_ble_eq_true rfl, Nat.le_of_ble_eq_true rfl⟩ ⟨Nat.le_of_ble_eq_true rfl, Nat.le_of_ble_eq_true rfl⟩ (Nat.le_of_ble_eq_true rfl) hS (fun _ h9 => h9) (fun v9 H locs hq hz9 hfr9 hS => ?_)
  obtain ⟨rfl, hP⟩ := hq
  refine lv_if_eq (tgt := 15) hx hb dX8_waive_10 (by decide) (fun c_10 => ?_) (fun c_10 => ?_)
  · refine lv_iload_n hx hb dX8_waive_15 rfl (lv_at hl 1 rfl) ?_
    refine Rd.callS (rest := []) (c_X8_presentation l G x) yk_X8_presentation E km_X8_188 dX8_waive_16 hG (hE.S hS hD.efa) trivial rfl rfl hl.1 ⟨Nat.le_of_ble_eq_true rfl, Nat.le_of_ble_eq_true rfl⟩ ⟨Nat.zero_le _, Nat.zero_le _⟩ (Nat.le_of_ble_eq_true rfl) ?_
    refine lv_ci (y := nI (154 + 6 * k)) (ixq (nI_ad rfl (nI_mu rfl ex))) ?_
    refine lv_istore_n (lv' := [(2, .int (nI (154 + 6 * k))), (0, .ref (B 0)), (1, .int x)]) hx hb dX8_waive_19 rfl hl (by decide) rfl (fun ls hl => ?_)
    refine lv_aload_n hx hb dX8_waive_20 rfl (lv_at hl 1 rfl) ?_
    refine lv_aload_n hx hb dX8_waive_21 rfl (lv_at hl 1 rfl) ?_
    refine gf_X8_17 (v := .ref (B 2)) E hG hP.1 rfl dX8_waive_22 ?_
    refine lv_iload_n hx hb dX8_waive_25 rfl (lv_at hl 0 rfl) ?_
    refine lv_iconst (v := 4) hx hb dX8_waive_26 rfl ?_
    refine lv_iadd hx hb dX8_waive_27 ?_
    refine g_ild ((154 + 6 * k) + 4) E hG hP.2.2.1 (ixq (nI_ad rfl rfl)) (by omega) (by decide) dX8_waive_28 ?_
    refine lv_iconst (v := 1) hx hb dX8_waive_29 rfl ?_
    refine lv_icmp_ne (tgt := 46) hx hb dX8_waive_30 (by decide) (fun c_30 => ?_) (fun c_30 => ?_)
    · refine lv_iconst (v := 1) hx hb dX8_waive_46 rfl ?_
      refine lv_goto (tgt := 51) hx hb dX8_waive_47 (by decide) ?_
      refine lv_iconst (v := 2) hx hb dX8_waive_51 rfl ?_
      refine Wr.callV (rest := []) (c_X8_fails1 l G hD 2 (by decide)) yk_X8_fails E km_X8_153 dX8_waive_52 hG (hE.S hS hD.efa) hP (At.recv hG hP.1 rfl) rfl rfl hl.1 ⟨Nat.le_of_ble_eq_true rfl, Nat.le_of_ble_eq_true rfl⟩ ⟨Nat.le_of_ble_eq_true rfl, Nat.le_of_ble_eq_true rfl⟩ (Nat.le_of_ble_eq_true rfl) hS (fun _ h9 => h9) (fun v9 H locs hq hz9 hfr9 hS => ?_)
      obtain ⟨rfl, hP⟩ := hq
      refine lv_if_eq (tgt := 60) hx hb dX8_waive_55 (by decide) (fun c_55 => ?_) (fun c_55 => ?_)
      · exact absurd c_55 (by decide)
      · refine lv_iconst (v := 0) hx hb dX8_waive_58 rfl ?_
        exact wr_int E hr hk hS (by decide) (by decide) (⟨rfl, hP⟩) dX8_waive_59
    · exact absurd c_30 hst
  · exact absurd c_10 (by decide)

set_option maxHeartbeats 4000000 in
set_option maxRecDepth 100000 in
/-- waive -/
theorem c_X8_waive_z (l : Launch) (G : CG) {B : Nat → Nat} {t bl tl ps er ea eo ud ns ne se : Int32} {bf da dr : Nat → Int32} {hi : Nat → Nat → Int32} {sk : Nat → Int64} (hD : MD G B) (x : Int32) (k : Nat) (ex : x = nI k) (hk9 : k < 24) (hin9 : inV x 0 (da 1 - 1) = 1) (hst : da (pP k + 4) = 1) (hov : ¬ da (pP k + 3) &&& 4 = 0) : Wr l yX8_waive cX8_waive 3 ((Option.some FieldType.int)) 2 43 0 0 G [.ref (B 0), .int x] (MW G B (fm t bl tl ps er ea eo ud ns ne se) bf da dr hi sk) (MA B) (fun v9 H9 => v9 = some (.int 0) ∧ MW G B (fm 2 bl tl ps er ea eo ud ns ne se) bf da dr hi sk H9) := by
  refine Wr.ofW (by decide) (Nat.le_of_ble_eq_true rfl) (fun p e s m below meth c ls E hG hE hP hr hk hin hl => ?_)
  have hS : va_S (MA B) s.heap s.heap [] := va_S.rf
  have hx := E.1
  have hb := E.2.1
  have hl : lv_has ls 3 [(0, .ref (B 0)), (1, .int x)] := hl
  refine lv_aload_n hx hb dX8_waive_0 rfl (lv_at hl 0 rfl) ?_
  refine lv_iconst (v := 0) hx hb dX8_waive_1 rfl ?_
  refine pf_X8_32 E hG hP.1 (Nat.le_of_ble_eq_true rfl) rfl rfl hS ⟨0, by decide, rfl⟩ dX8_waive_2 (fun H locs ho hz oq hS => ?_)
  have hP : MW G B (fm 0 bl tl ps er ea eo ud ns ne se) bf da dr hi sk H := hP.setO hD ho oq
  refine lv_aload_n hx hb dX8_waive_5 rfl (lv_at hl 0 rfl) ?_
  refine lv_iload_n hx hb dX8_waive_6 rfl (lv_at hl 1 rfl) ?_
  refine Wr.callV (rest := []) (c_X8_noPresentation l G hD x hin9) yk_X8_noPresentation E km_X8_216 dX8_waive_7 hG (hE.S hS hD.efa) hP (At.recv hG hP.1 rfl) rfl rfl hl.1 ⟨Nat.le_of_ble_eq_true rfl, Nat.le_of_ble_eq_true rfl⟩ ⟨Nat.le_of_ble_eq_true rfl, Nat.le_of_ble_eq_true rfl⟩ (Nat.le_of_ble_eq_true rfl) hS (fun _ h9 => h9) (fun v9 H locs hq hz9 hfr9 hS => ?_)
  obtain ⟨rfl, hP⟩ := hq
  refine lv_if_eq (tgt := 15) hx hb dX8_waive_10 (by decide) (fun c_10 => ?_) (fun c_10 => ?_)
  · refine lv_iload_n hx hb dX8_waive_15 rfl (lv_at hl 1 rfl) ?_
    refine Rd.callS (rest := []) (c_X8_presentation l G x) yk_X8_presentation E km_X8_188 dX8_waive_16 hG (hE.S hS hD.efa) trivial rfl rfl hl.1 ⟨Nat.le_of_ble_eq_true rfl, Nat.le_of_ble_eq_true rfl⟩ ⟨Nat.zero_le _, Nat.zero_le _⟩ (Nat.le_of_ble_eq_true rfl) ?_
    refine lv_ci (y := nI (154 + 6 * k)) (ixq (nI_ad rfl (nI_mu rfl ex))) ?_
    refine lv_istore_n (lv' := [(2, .int (nI (154 + 6 * k))), (0, .ref (B 0)), (1, .int x)]) hx hb dX8_waive_19 rfl hl (by decide) rfl (fun ls hl => ?_)
    refine lv_aload_n hx hb dX8_waive_20 rfl (lv_at hl 1 rfl) ?_
    refine lv_aload_n hx hb dX8_waive_21 rfl (lv_at hl 1 rfl) ?_
    refine gf_X8_17 (v := .ref (B 2)) E hG hP.1 rfl dX8_waive_22 ?_
    refine lv_iload_n hx hb dX8_waive_25 rfl (lv_at hl 0 rfl) ?_
    refine lv_iconst (v := 4) hx hb dX8_waive_26 rfl ?_
    refine lv_iadd hx hb dX8_waive_27 ?_
    refine g_ild ((154 + 6 * k) + 4) E hG hP.2.2.1 (ixq (nI_ad rfl rfl)) (by omega) (by decide) dX8_waive_28 ?_
    refine lv_iconst (v := 1) hx hb dX8_waive_29 rfl ?_
    refine lv_icmp_ne (tgt := 46) hx hb dX8_waive_30 (by decide) (fun c_30 => ?_) (fun c_30 => ?_)
    · exact absurd hst c_30
    · refine lv_aload_n hx hb dX8_waive_33 rfl (lv_at hl 1 rfl) ?_
      refine gf_X8_17 (v := .ref (B 2)) E hG hP.1 rfl dX8_waive_34 ?_
      refine lv_iload_n hx hb dX8_waive_37 rfl (lv_at hl 0 rfl) ?_
      refine lv_iconst (v := 3) hx hb dX8_waive_38 rfl ?_
      refine lv_iadd hx hb dX8_waive_39 ?_
      refine g_ild ((154 + 6 * k) + 3) E hG hP.2.2.1 (ixq (nI_ad rfl rfl)) (by omega) (by decide) dX8_waive_40 ?_
      refine lv_iconst (v := 4) hx hb dX8_waive_41 rfl ?_
      refine lv_iand hx hb dX8_waive_42 ?_
      refine lv_if_eq (tgt := 50) hx hb dX8_waive_43 (by decide) (fun c_43 => ?_) (fun c_43 => ?_)
      · exact absurd c_43 hov
      · refine lv_iconst (v := 1) hx hb dX8_waive_46 rfl ?_
        refine lv_goto (tgt := 51) hx hb dX8_waive_47 (by decide) ?_
        refine lv_iconst (v := 2) hx hb dX8_waive_51 rfl ?_
        refine Wr.callV (rest := []) (c_X8_fails1 l G hD 2 (by decide)) yk_X8_fails E km_X8_153 dX8_waive_52 hG (hE.S hS hD.efa) hP (At.recv hG hP.1 rfl) rfl rfl hl.1 ⟨Nat.le_of_ble_eq_true rfl, Nat.le_of_ble_eq_true rfl⟩ ⟨Nat.le_of_ble_eq_true rfl, Nat.le_of_ble_eq_true rfl⟩ (Nat.le_of_ble_eq_true rfl) hS (fun _ h9 => h9) (fun v9 H locs hq hz9 hfr9 hS => ?_)
        obtain ⟨rfl, hP⟩ := hq
        refine lv_if_eq (tgt := 60) hx hb dX8_waive_55 (by decide) (fun c_55 => ?_) (fun c_55 => ?_)
        · exact absurd c_55 (by decide)
        · refine lv_iconst (v := 0) hx hb dX8_waive_58 rfl ?_
          exact wr_int E hr hk hS (by decide) (by decide) (⟨rfl, hP⟩) dX8_waive_59
  · exact absurd c_10 (by decide)

set_option maxHeartbeats 4000000 in
set_option maxRecDepth 100000 in
/-- refuse -/
theorem c_X8_refuse (l : Launch) (G : CG) {B : Nat → Nat} {t bl tl ps er ea eo ns ne se : Int32} {bf da dr : Nat → Int32} {hi : Nat → Nat → Int32} {sk : Nat → Int64} (hD : MD G B) (x : Int32) (k : Nat) (ex : x = nI k) (hk9 : k < 24) (hin9 : inV x 0 (da 1 - 1) = 1) (cr np nc : Nat) (hd1 : da (pP k) = nI cr) (hd2 : cr < 12) (h1 : da 1 = nI np) (hp0 : np ≤ 24) (h0 : da 0 = nI nc) (hc0 : nc ≤ 12) (hst : da (pP k + 4) = 1) (u : Nat) (hu : u ≤ 8) : Wr l yX8_refuse cX8_refuse 3 ((Option.some FieldType.int)) 4 86 0 0 G [.ref (B 0), .int x] (MW G B (fm t bl tl ps er ea eo (nI u) ns ne se) bf da dr hi sk) (MA B) (fun v9 H9 => v9 = some (.int (availV (upd da (pP k + 4) 3) np nc cr)) ∧ MW G B (fm 0 bl tl ps er ea eo (nI (remU u)) ns ne se) bf (upd da (pP k + 4) 3) dr (remH hi da u) sk H9) := by
  refine Wr.ofW (by decide) (Nat.le_of_ble_eq_true rfl) (fun p e s m below meth c ls E hG hE hP hr hk hin hl => ?_)
  have hS : va_S (MA B) s.heap s.heap [] := va_S.rf
  have hx := E.1
  have hb := E.2.1
  have hl : lv_has ls 3 [(0, .ref (B 0)), (1, .int x)] := hl
  refine lv_aload_n hx hb dX8_refuse_0 rfl (lv_at hl 0 rfl) ?_
  refine lv_iconst (v := 0) hx hb dX8_refuse_1 rfl ?_
  refine pf_X8_32 E hG hP.1 (Nat.le_of_ble_eq_true rfl) rfl rfl hS ⟨0, by decide, rfl⟩ dX8_refuse_2 (fun H locs ho hz oq hS => ?_)
  have hP : MW G B (fm 0 bl tl ps er ea eo (nI u) ns ne se) bf da dr hi sk H := hP.setO hD ho oq
  refine lv_aload_n hx hb dX8_refuse_5 rfl (lv_at hl 0 rfl) ?_
  refine lv_iload_n hx hb dX8_refuse_6 rfl (lv_at hl 1 rfl) ?_
  refine Wr.callV (rest := []) (c_X8_noPresentation l G hD x hin9) yk_X8_noPresentation E km_X8_216 dX8_refuse_7 hG (hE.S hS hD.efa) hP (At.recv hG hP.1 rfl) rfl rfl hl.1 ⟨Nat.le_of_ble_eq_true rfl, Nat.le_of_ble_eq_true rfl⟩ ⟨Nat.le_of_ble_eq_true rfl, Nat.le_of_ble_eq_true rfl⟩ (Nat.le_of_ble_eq_true rfl) hS (fun _ h9 => h9) (fun v9 H locs hq hz9 hfr9 hS => ?_)
  obtain ⟨rfl, hP⟩ := hq
  refine lv_if_eq (tgt := 15) hx hb dX8_refuse_10 (by decide) (fun c_10 => ?_) (fun c_10 => ?_)
  · refine lv_iload_n hx hb dX8_refuse_15 rfl (lv_at hl 1 rfl) ?_
    refine Rd.callS (rest := []) (c_X8_presentation l G x) yk_X8_presentation E km_X8_188 dX8_refuse_16 hG (hE.S hS hD.efa) trivial rfl rfl hl.1 ⟨Nat.le_of_ble_eq_true rfl, Nat.le_of_ble_eq_true rfl⟩ ⟨Nat.zero_le _, Nat.zero_le _⟩ (Nat.le_of_ble_eq_true rfl) ?_
    refine lv_ci (y := nI (154 + 6 * k)) (ixq (nI_ad rfl (nI_mu rfl ex))) ?_
    refine lv_istore_n (lv' := [(2, .int (nI (154 + 6 * k))), (0, .ref (B 0)), (1, .int x)]) hx hb dX8_refuse_19 rfl hl (by decide) rfl (fun ls hl => ?_)
    refine lv_aload_n hx hb dX8_refuse_20 rfl (lv_at hl 1 rfl) ?_
    refine lv_aload_n hx hb dX8_refuse_21 rfl (lv_at hl 1 rfl) ?_
    refine gf_X8_17 (v := .ref (B 2)) E hG hP.1 rfl dX8_refuse_22 ?_
    refine lv_iload_n hx hb dX8_refuse_25 rfl (lv_at hl 0 rfl) ?_
    refine lv_iconst (v := 4) hx hb dX8_refuse_26 rfl ?_
    refine lv_iadd hx hb dX8_refuse_27 ?_
    refine g_ild ((154 + 6 * k) + 4) E hG hP.2.2.1 (ixq (nI_ad rfl rfl)) (by omega) (by decide) dX8_refuse_28 ?_
    refine lv_iconst (v := 1) hx hb dX8_refuse_29 rfl ?_
    refine lv_icmp_eq (tgt := 37) hx hb dX8_refuse_30 (by decide) (fun c_30 => ?_) (fun c_30 => ?_)
    · refine lv_iconst (v := 0) hx hb dX8_refuse_37 rfl ?_
      refine lv_iconst (v := 2) hx hb dX8_refuse_38 rfl ?_
      refine Wr.callV (rest := []) (c_X8_fails0 l G hD 2) yk_X8_fails E km_X8_153 dX8_refuse_39 hG (hE.S hS hD.efa) hP (At.recv hG hP.1 rfl) rfl rfl hl.1 ⟨Nat.le_of_ble_eq_true rfl, Nat.le_of_ble_eq_true rfl⟩ ⟨Nat.le_of_ble_eq_true rfl, Nat.le_of_ble_eq_true rfl⟩ (Nat.le_of_ble_eq_true rfl) hS (fun _ h9 => h9) (fun v9 H locs hq hz9 hfr9 hS => ?_)
      obtain ⟨rfl, hP⟩ := hq
      refine lv_if_eq (tgt := 47) hx hb dX8_refuse_42 (by decide) (fun c_42 => ?_) (fun c_42 => ?_)
      · refine lv_aload_n hx hb dX8_refuse_47 rfl (lv_at hl 1 rfl) ?_
        refine Wr.callV (rest := []) (c_X8_remember l G hD u hu) yk_X8_remember E km_X8_160 dX8_refuse_48 hG (hE.S hS hD.efa) hP (At.recv hG hP.1 rfl) rfl rfl hl.1 ⟨Nat.le_of_ble_eq_true rfl, Nat.le_of_ble_eq_true rfl⟩ ⟨Nat.le_of_ble_eq_true rfl, Nat.le_of_ble_eq_true rfl⟩ (Nat.le_of_ble_eq_true rfl) hS (fun _ h9 => h9) (fun v9 H locs hq hz9 hfr9 hS => ?_)
        obtain ⟨rfl, hP⟩ := hq
        refine lv_aload_n hx hb dX8_refuse_51 rfl (lv_at hl 1 rfl) ?_
        refine gf_X8_17 (v := .ref (B 2)) E hG hP.1 rfl dX8_refuse_52 ?_
        refine lv_iload_n hx hb dX8_refuse_55 rfl (lv_at hl 0 rfl) ?_
        refine lv_iconst (v := 4) hx hb dX8_refuse_56 rfl ?_
        refine lv_iadd hx hb dX8_refuse_57 ?_
        refine lv_iconst (v := 3) hx hb dX8_refuse_58 rfl ?_
        refine g_ist ((154 + 6 * k) + 4) E hG hP.2.2.1 (ixq (nI_ad rfl rfl)) (by omega) (by decide) hS ⟨2, by decide, rfl⟩ dX8_refuse_59 (fun H locs ho hz oq hS => ?_)
        have hP : MW G B (fm 0 bl tl ps er ea eo (nI (remU u)) ns ne se) bf (upd da ((154 + 6 * k) + 4) 3) dr (remH hi da u) sk H := hP.setD hD ho oq
        refine lv_aload_n hx hb dX8_refuse_60 rfl (lv_at hl 1 rfl) ?_
        refine lv_aload_n hx hb dX8_refuse_61 rfl (lv_at hl 1 rfl) ?_
        refine gf_X8_17 (v := .ref (B 2)) E hG hP.1 rfl dX8_refuse_62 ?_
        refine lv_iload_n hx hb dX8_refuse_65 rfl (lv_at hl 0 rfl) ?_
        refine g_ild (154 + 6 * k) E hG hP.2.2.1 rfl (by omega) (by decide) dX8_refuse_66 ?_
        refine Rd.callV (rest := []) (c_X8_availableOf l G (da := upd da (pP k + 4) 3) ((upd da ((154 + 6 * k) + 4) 3) (154 + 6 * k)) cr np nc ((by simp [upd] : upd da (pP k + 4) 3 (pP k) = da (pP k)).trans hd1) (by omega) ((by simp [upd] : upd da (pP k + 4) 3 1 = da 1).trans h1) hp0 ((by simp [upd] : upd da (pP k + 4) 3 0 = da 0).trans h0) hc0) yk_X8_availableOf E km_X8_201 dX8_refuse_67 hG (hE.S hS hD.efa) hP (At.recv hG hP.1 rfl) rfl rfl hl.1 ⟨Nat.le_of_ble_eq_true rfl, Nat.le_of_ble_eq_true rfl⟩ ⟨Nat.zero_le _, Nat.zero_le _⟩ (Nat.le_of_ble_eq_true rfl) ?_
        exact wr_int E hr hk hS (by decide) (by decide) (⟨rfl, hP⟩) dX8_refuse_70
      · exact absurd c_42 (by decide)
    · exact absurd hst c_30
  · exact absurd c_10 (by decide)

set_option maxHeartbeats 4000000 in
set_option maxRecDepth 100000 in
/-- refuse -/
theorem c_X8_refuse_x (l : Launch) (G : CG) {B : Nat → Nat} {t bl tl ps er ea eo ud ns ne se : Int32} {bf da dr : Nat → Int32} {hi : Nat → Nat → Int32} {sk : Nat → Int64} (hD : MD G B) (x : Int32) (hin9 : inV x 0 (da 1 - 1) = 0) : Wr l yX8_refuse cX8_refuse 3 ((Option.some FieldType.int)) 2 43 0 0 G [.ref (B 0), .int x] (MW G B (fm t bl tl ps er ea eo ud ns ne se) bf da dr hi sk) (MA B) (fun v9 H9 => v9 = some (.int 0) ∧ MW G B (fm 1 bl tl ps er ea eo ud ns ne se) bf da dr hi sk H9) := by
  refine Wr.ofW (by decide) (Nat.le_of_ble_eq_true rfl) (fun p e s m below meth c ls E hG hE hP hr hk hin hl => ?_)
  have hS : va_S (MA B) s.heap s.heap [] := va_S.rf
  have hx := E.1
  have hb := E.2.1
  have hl : lv_has ls 3 [(0, .ref (B 0)), (1, .int x)] := hl
  refine lv_aload_n hx hb dX8_refuse_0 rfl (lv_at hl 0 rfl) ?_
  refine lv_iconst (v := 0) hx hb dX8_refuse_1 rfl ?_
  refine pf_X8_32 E hG hP.1 (Nat.le_of_ble_eq_true rfl) rfl rfl hS ⟨0, by decide, rfl⟩ dX8_refuse_2 (fun H locs ho hz oq hS => ?_)
  have hP : MW G B (fm 0 bl tl ps er ea eo ud ns ne se) bf da dr hi sk H := hP.setO hD ho oq
  refine lv_aload_n hx hb dX8_refuse_5 rfl (lv_at hl 0 rfl) ?_
  refine lv_iload_n hx hb dX8_refuse_6 rfl (lv_at hl 1 rfl) ?_
  refine Wr.callV (rest := []) (c_X8_noPresentation_x l G hD x hin9) yk_X8_noPresentation E km_X8_216 dX8_refuse_7 hG (hE.S hS hD.efa) hP (At.recv hG hP.1 rfl) rfl rfl hl.1 ⟨Nat.le_of_ble_eq_true rfl, Nat.le_of_ble_eq_true rfl⟩ ⟨Nat.le_of_ble_eq_true rfl, Nat.le_of_ble_eq_true rfl⟩ (Nat.le_of_ble_eq_true rfl) hS (fun _ h9 => h9) (fun v9 H locs hq hz9 hfr9 hS => ?_)
  obtain ⟨rfl, hP⟩ := hq
  refine lv_if_eq (tgt := 15) hx hb dX8_refuse_10 (by decide) (fun c_10 => ?_) (fun c_10 => ?_)
  · exact absurd c_10 (by decide)
  · refine lv_iconst (v := 0) hx hb dX8_refuse_13 rfl ?_
    exact wr_int E hr hk hS (by decide) (by decide) (⟨rfl, hP⟩) dX8_refuse_14

set_option maxHeartbeats 4000000 in
set_option maxRecDepth 100000 in
/-- refuse -/
theorem c_X8_refuse_y (l : Launch) (G : CG) {B : Nat → Nat} {t bl tl ps er ea eo ud ns ne se : Int32} {bf da dr : Nat → Int32} {hi : Nat → Nat → Int32} {sk : Nat → Int64} (hD : MD G B) (x : Int32) (k : Nat) (ex : x = nI k) (hk9 : k < 24) (hin9 : inV x 0 (da 1 - 1) = 1) (hst : ¬ da (pP k + 4) = 1) : Wr l yX8_refuse cX8_refuse 3 ((Option.some FieldType.int)) 2 43 0 0 G [.ref (B 0), .int x] (MW G B (fm t bl tl ps er ea eo ud ns ne se) bf da dr hi sk) (MA B) (fun v9 H9 => v9 = some (.int 0) ∧ MW G B (fm 2 bl tl ps er ea eo ud ns ne se) bf da dr hi sk H9) := by
  refine Wr.ofW (by decide) (Nat.le_of_ble_eq_true rfl) (fun p e s m below meth c ls E hG hE hP hr hk hin hl => ?_)
  have hS : va_S (MA B) s.heap s.heap [] := va_S.rf
  have hx := E.1
  have hb := E.2.1
  have hl : lv_has ls 3 [(0, .ref (B 0)), (1, .int x)] := hl
  refine lv_aload_n hx hb dX8_refuse_0 rfl (lv_at hl 0 rfl) ?_
  refine lv_iconst (v := 0) hx hb dX8_refuse_1 rfl ?_
  refine pf_X8_32 E hG hP.1 (Nat.le_of_ble_eq_true rfl) rfl rfl hS ⟨0, by decide, rfl⟩ dX8_refuse_2 (fun H locs ho hz oq hS => ?_)
  have hP : MW G B (fm 0 bl tl ps er ea eo ud ns ne se) bf da dr hi sk H := hP.setO hD ho oq
  refine lv_aload_n hx hb dX8_refuse_5 rfl (lv_at hl 0 rfl) ?_
  refine lv_iload_n hx hb dX8_refuse_6 rfl (lv_at hl 1 rfl) ?_
  refine Wr.callV (rest := []) (c_X8_noPresentation l G hD x hin9) yk_X8_noPresentation E km_X8_216 dX8_refuse_7 hG (hE.S hS hD.efa) hP (At.recv hG hP.1 rfl) rfl rfl hl.1 ⟨Nat.le_of_ble_eq_true rfl, Nat.le_of_ble_eq_true rfl⟩ ⟨Nat.le_of_ble_eq_true rfl, Nat.le_of_ble_eq_true rfl⟩ (Nat.le_of_ble_eq_true rfl) hS (fun _ h9 => h9) (fun v9 H locs hq hz9 hfr9 hS => ?_)
  obtain ⟨rfl, hP⟩ := hq
  refine lv_if_eq (tgt := 15) hx hb dX8_refuse_10 (by decide) (fun c_10 => ?_) (fun c_10 => ?_)
  · refine lv_iload_n hx hb dX8_refuse_15 rfl (lv_at hl 1 rfl) ?_
    refine Rd.callS (rest := []) (c_X8_presentation l G x) yk_X8_presentation E km_X8_188 dX8_refuse_16 hG (hE.S hS hD.efa) trivial rfl rfl hl.1 ⟨Nat.le_of_ble_eq_true rfl, Nat.le_of_ble_eq_true rfl⟩ ⟨Nat.zero_le _, Nat.zero_le _⟩ (Nat.le_of_ble_eq_true rfl) ?_
    refine lv_ci (y := nI (154 + 6 * k)) (ixq (nI_ad rfl (nI_mu rfl ex))) ?_
    refine lv_istore_n (lv' := [(2, .int (nI (154 + 6 * k))), (0, .ref (B 0)), (1, .int x)]) hx hb dX8_refuse_19 rfl hl (by decide) rfl (fun ls hl => ?_)
    refine lv_aload_n hx hb dX8_refuse_20 rfl (lv_at hl 1 rfl) ?_
    refine lv_aload_n hx hb dX8_refuse_21 rfl (lv_at hl 1 rfl) ?_
    refine gf_X8_17 (v := .ref (B 2)) E hG hP.1 rfl dX8_refuse_22 ?_
    refine lv_iload_n hx hb dX8_refuse_25 rfl (lv_at hl 0 rfl) ?_
    refine lv_iconst (v := 4) hx hb dX8_refuse_26 rfl ?_
    refine lv_iadd hx hb dX8_refuse_27 ?_
    refine g_ild ((154 + 6 * k) + 4) E hG hP.2.2.1 (ixq (nI_ad rfl rfl)) (by omega) (by decide) dX8_refuse_28 ?_
    refine lv_iconst (v := 1) hx hb dX8_refuse_29 rfl ?_
    refine lv_icmp_eq (tgt := 37) hx hb dX8_refuse_30 (by decide) (fun c_30 => ?_) (fun c_30 => ?_)
    · exact absurd c_30 hst
    · refine lv_iconst (v := 1) hx hb dX8_refuse_33 rfl ?_
      refine lv_goto (tgt := 38) hx hb dX8_refuse_34 (by decide) ?_
      refine lv_iconst (v := 2) hx hb dX8_refuse_38 rfl ?_
      refine Wr.callV (rest := []) (c_X8_fails1 l G hD 2 (by decide)) yk_X8_fails E km_X8_153 dX8_refuse_39 hG (hE.S hS hD.efa) hP (At.recv hG hP.1 rfl) rfl rfl hl.1 ⟨Nat.le_of_ble_eq_true rfl, Nat.le_of_ble_eq_true rfl⟩ ⟨Nat.le_of_ble_eq_true rfl, Nat.le_of_ble_eq_true rfl⟩ (Nat.le_of_ble_eq_true rfl) hS (fun _ h9 => h9) (fun v9 H locs hq hz9 hfr9 hS => ?_)
      obtain ⟨rfl, hP⟩ := hq
      refine lv_if_eq (tgt := 47) hx hb dX8_refuse_42 (by decide) (fun c_42 => ?_) (fun c_42 => ?_)
      · exact absurd c_42 (by decide)
      · refine lv_iconst (v := 0) hx hb dX8_refuse_45 rfl ?_
        exact wr_int E hr hk hS (by decide) (by decide) (⟨rfl, hP⟩) dX8_refuse_46
  · exact absurd c_10 (by decide)

set_option maxHeartbeats 4000000 in
set_option maxRecDepth 100000 in
/-- append -/
theorem c_X8_append (l : Launch) (G : CG) {B : Nat → Nat} {t tl ps er ea eo ud ns ne se : Int32} {bf da dr : Nat → Int32} {hi : Nat → Nat → Int32} {sk : Nat → Int64} (hD : MD G B) (w0 w1 w2 w3 w4 : Int32) (b : Nat) (hb8 : b + 20 ≤ 900) : Wr l yX8_append cX8_append 8 ((Option.some FieldType.int)) 0 0 0 0 G [.ref (B 0), .int w0, .int w1, .int w2, .int w3, .int w4] (MW G B (fm t (nI b) tl ps er ea eo ud ns ne se) bf da dr hi sk) (MA B) (fun v9 H9 => v9 = some (.int (nI (b + 20))) ∧ MW G B (fm 0 (nI (b + 20)) tl ps er ea eo ud ns ne se) (appF bf b w0 w1 w2 w3 w4 20) da dr hi sk H9) := by
  refine Wr.ofW (by decide) (Nat.le_of_ble_eq_true rfl) (fun p e s m below meth c ls E hG hE hP hr hk hin hl => ?_)
  have hS : va_S (MA B) s.heap s.heap [] := va_S.rf
  have hx := E.1
  have hb := E.2.1
  have hl : lv_has ls 8 [(0, .ref (B 0)), (1, .int w0), (2, .int w1), (3, .int w2), (4, .int w3), (5, .int w4)] := hl
  refine lv_aload_n hx hb dX8_append_0 rfl (lv_at hl 0 rfl) ?_
  refine lv_iconst (v := 0) hx hb dX8_append_1 rfl ?_
  refine pf_X8_32 E hG hP.1 (Nat.le_of_ble_eq_true rfl) rfl rfl hS ⟨0, by decide, rfl⟩ dX8_append_2 (fun H locs ho hz oq hS => ?_)
  have hP : MW G B (fm 0 (nI b) tl ps er ea eo ud ns ne se) bf da dr hi sk H := hP.setO hD ho oq
  refine lv_aload_n hx hb dX8_append_5 rfl (lv_at hl 0 rfl) ?_
  refine gf_X8_35 (v := .int (nI b)) E hG hP.1 rfl dX8_append_6 ?_
  refine lv_bipush (v := 20) hx hb dX8_append_9 rfl ?_
  refine lv_iadd hx hb dX8_append_11 ?_
  refine lv_sipush (v := 900) hx hb dX8_append_12 rfl ?_
  refine lv_icmp_le (tgt := 20) hx hb dX8_append_15 (by decide) (fun c_15 => ?_) (fun c_15 => ?_)
  · refine lv_iconst (v := 0) hx hb dX8_append_20 rfl ?_
    refine lv_ci (y := nI 0) (ixq rfl) ?_
    refine lv_istore (lv' := [(6, .int (nI 0)), (0, .ref (B 0)), (1, .int w0), (2, .int w1), (3, .int w2), (4, .int w3), (5, .int w4)]) hx hb dX8_append_21 hl (by decide) rfl (fun ls hl => ?_)
    have loop : ∀ (j i : Nat), 20 < i + j → i ≤ 20 → ∀ (H : Heap) (locs : List Loc), MW G B (fm 0 (nI (b + i)) tl ps er ea eo ud ns ne se) (appF bf b w0 w1 w2 w3 w4 i) da dr hi sk H → va_S (MA B) s.heap H locs → ∀ ls : Array Slot, lv_has ls 8 [(6, .int (nI i)), (0, .ref (B 0)), (1, .int w0), (2, .int w1), (3, .int w2), (4, .int w3), (5, .int w4)] → W p l e { frames := 0, cells := 0, slots := 0, locals := 0 } s m ([.ref (B 0), .int w0, .int w1, .int w2, .int w3, .int w4] : List Value).toArray below meth c H locs 0 0 (WQ below ([.ref (B 0), .int w0, .int w1, .int w2, .int w3, .int w4] : List Value).toArray s 0 0 (MA B) (fun v9 H9 => v9 = some (.int (nI (b + 20))) ∧ MW G B (fm 0 (nI (b + 20)) tl ps er ea eo ud ns ne se) (appF bf b w0 w1 w2 w3 w4 20) da dr hi sk H9)) (F0 m 23 ls []) := by
      intro j
      induction j with
      | zero => intro i z1 z2; omega
      | succ j ih =>
        intro i z1 z2 H locs hP hS ls hl
        refine lv_iload hx hb dX8_append_23 (lv_at hl 0 rfl) ?_
        refine lv_bipush (v := 20) hx hb dX8_append_25 rfl ?_
        refine lv_icmp_ge (tgt := 120) hx hb dX8_append_27 (by decide) (fun c_27 => ?_) (fun c_27 => ?_)
        · have c_27 : 20 ≤ i := (nLE (x := 20) (y := (nI i)) (a := 20) (b := i) rfl rfl (by omega) (by omega)).mp c_27
          have e9 : i = 20 := by omega
          subst e9
          refine lv_aload_n hx hb dX8_append_120 rfl (lv_at hl 1 rfl) ?_
          refine gf_X8_35 (v := .int (nI (b + 20))) E hG hP.1 rfl dX8_append_121 ?_
          exact wr_int E hr hk hS (by decide) (by decide) (⟨rfl, hP⟩) dX8_append_124
        · have c_27 : ¬ 20 ≤ i := fun z9 => c_27 ((nLE (x := 20) (y := (nI i)) (a := 20) (b := i) rfl rfl (by omega) (by omega)).mpr z9)
          refine W.cut (g := F0 m 76 ls [.int (apW w0 w1 w2 w3 w4 i)]) (fun K => ?_) ?_
          · refine lv_iload hx hb dX8_append_30 (lv_at hl 0 rfl) ?_
            refine lv_iconst (v := 4) hx hb dX8_append_32 rfl ?_
            refine lv_icmp_ge (tgt := 40) hx hb dX8_append_33 (by decide) (fun c_33 => ?_) (fun c_33 => ?_)
            · have c_33 : 4 ≤ i := (nLE (x := 4) (y := (nI i)) (a := 4) (b := i) rfl rfl (by omega) (by omega)).mp c_33
              refine lv_iload hx hb dX8_append_40 (lv_at hl 0 rfl) ?_
              refine lv_bipush (v := 8) hx hb dX8_append_42 rfl ?_
              refine lv_icmp_ge (tgt := 51) hx hb dX8_append_44 (by decide) (fun c_44 => ?_) (fun c_44 => ?_)
              · have c_44 : 8 ≤ i := (nLE (x := 8) (y := (nI i)) (a := 8) (b := i) rfl rfl (by omega) (by omega)).mp c_44
                refine lv_iload hx hb dX8_append_51 (lv_at hl 0 rfl) ?_
                refine lv_bipush (v := 12) hx hb dX8_append_53 rfl ?_
                refine lv_icmp_ge (tgt := 62) hx hb dX8_append_55 (by decide) (fun c_55 => ?_) (fun c_55 => ?_)
                · have c_55 : 12 ≤ i := (nLE (x := 12) (y := (nI i)) (a := 12) (b := i) rfl rfl (by omega) (by omega)).mp c_55
                  refine lv_iload hx hb dX8_append_62 (lv_at hl 0 rfl) ?_
                  refine lv_bipush (v := 16) hx hb dX8_append_64 rfl ?_
                  refine lv_icmp_ge (tgt := 74) hx hb dX8_append_66 (by decide) (fun c_66 => ?_) (fun c_66 => ?_)
                  · have c_66 : 16 ≤ i := (nLE (x := 16) (y := (nI i)) (a := 16) (b := i) rfl rfl (by omega) (by omega)).mp c_66
                    refine lv_iload hx hb dX8_append_74 (lv_at hl 6 rfl) ?_
                    exact W.eq (congrArg (fun z9 => F0 m 76 ls (.int z9 :: [])) (show (w4 : Int32) = (apW w0 w1 w2 w3 w4 i) by first | (simp only [apW, c_33, c_44, c_55, c_66, ↓reduceIte, not_true_eq_false, not_false_eq_true]; done) | (simp [apW, c_33, c_44, c_55, c_66]; done))) K
                  · have c_66 : ¬ 16 ≤ i := fun z9 => c_66 ((nLE (x := 16) (y := (nI i)) (a := 16) (b := i) rfl rfl (by omega) (by omega)).mpr z9)
                    refine lv_iload hx hb dX8_append_69 (lv_at hl 5 rfl) ?_
                    refine lv_goto (tgt := 76) hx hb dX8_append_71 (by decide) ?_
                    exact W.eq (congrArg (fun z9 => F0 m 76 ls (.int z9 :: [])) (show (w3 : Int32) = (apW w0 w1 w2 w3 w4 i) by first | (simp only [apW, c_33, c_44, c_55, c_66, ↓reduceIte, not_true_eq_false, not_false_eq_true]; done) | (simp [apW, c_33, c_44, c_55, c_66]; done))) K
                · have c_55 : ¬ 12 ≤ i := fun z9 => c_55 ((nLE (x := 12) (y := (nI i)) (a := 12) (b := i) rfl rfl (by omega) (by omega)).mpr z9)
                  refine lv_iload_n hx hb dX8_append_58 rfl (lv_at hl 4 rfl) ?_
                  refine lv_goto (tgt := 76) hx hb dX8_append_59 (by decide) ?_
                  exact W.eq (congrArg (fun z9 => F0 m 76 ls (.int z9 :: [])) (show (w2 : Int32) = (apW w0 w1 w2 w3 w4 i) by first | (simp only [apW, c_33, c_44, c_55, ↓reduceIte, not_true_eq_false, not_false_eq_true]; done) | (simp [apW, c_33, c_44, c_55]; done))) K
              · have c_44 : ¬ 8 ≤ i := fun z9 => c_44 ((nLE (x := 8) (y := (nI i)) (a := 8) (b := i) rfl rfl (by omega) (by omega)).mpr z9)
                refine lv_iload_n hx hb dX8_append_47 rfl (lv_at hl 3 rfl) ?_
                refine lv_goto (tgt := 76) hx hb dX8_append_48 (by decide) ?_
                exact W.eq (congrArg (fun z9 => F0 m 76 ls (.int z9 :: [])) (show (w1 : Int32) = (apW w0 w1 w2 w3 w4 i) by first | (simp only [apW, c_33, c_44, ↓reduceIte, not_true_eq_false, not_false_eq_true]; done) | (simp [apW, c_33, c_44]; done))) K
            · have c_33 : ¬ 4 ≤ i := fun z9 => c_33 ((nLE (x := 4) (y := (nI i)) (a := 4) (b := i) rfl rfl (by omega) (by omega)).mpr z9)
              refine lv_iload_n hx hb dX8_append_36 rfl (lv_at hl 2 rfl) ?_
              refine lv_goto (tgt := 76) hx hb dX8_append_37 (by decide) ?_
              exact W.eq (congrArg (fun z9 => F0 m 76 ls (.int z9 :: [])) (show (w0 : Int32) = (apW w0 w1 w2 w3 w4 i) by first | (simp only [apW, c_33, ↓reduceIte, not_true_eq_false, not_false_eq_true]; done) | (simp [apW, c_33]; done))) K
          refine lv_istore (lv' := [(7, .int (apW w0 w1 w2 w3 w4 i)), (6, .int (nI i)), (0, .ref (B 0)), (1, .int w0), (2, .int w1), (3, .int w2), (4, .int w3), (5, .int w4)]) hx hb dX8_append_76 hl (by decide) rfl (fun ls hl => ?_)
          refine lv_aload_n hx hb dX8_append_78 rfl (lv_at hl 2 rfl) ?_
          refine gf_X8_9 (v := .ref (B 1)) E hG hP.1 rfl dX8_append_79 ?_
          refine lv_aload_n hx hb dX8_append_82 rfl (lv_at hl 2 rfl) ?_
          refine gf_X8_35 (v := .int (nI (b + i))) E hG hP.1 rfl dX8_append_83 ?_
          refine lv_iload hx hb dX8_append_86 (lv_at hl 0 rfl) ?_
          refine lv_bipush (v := 24) hx hb dX8_append_88 rfl ?_
          refine lv_bipush (v := 8) hx hb dX8_append_90 rfl ?_
          refine lv_iload hx hb dX8_append_92 (lv_at hl 1 rfl) ?_
          refine lv_iconst (v := 4) hx hb dX8_append_94 rfl ?_
          refine lv_irem hx hb dX8_append_95 (by decide) ?_
          refine lv_imul hx hb dX8_append_96 ?_
          refine lv_isub hx hb dX8_append_97 ?_
          refine lv_ishr hx hb dX8_append_98 ?_
          refine lv_sipush (v := 255) hx hb dX8_append_99 rfl ?_
          refine lv_iand hx hb dX8_append_102 ?_
          refine lv_ci (y := apB w0 w1 w2 w3 w4 i) (by rw [nR4 (x := nI i) (a := i) rfl (by omega)]; rfl) ?_
          refine g_ist (b + i) E hG hP.2.1 (rfl) (by omega) (by decide) hS ⟨1, by decide, rfl⟩ dX8_append_103 (fun H locs ho hz oq hS => ?_)
          have hP : MW G B (fm 0 (nI (b + i)) tl ps er ea eo ud ns ne se) (upd (appF bf b w0 w1 w2 w3 w4 i) (b + i) (apB w0 w1 w2 w3 w4 i)) da dr hi sk H := hP.setB hD ho oq
          rw [appF_s] at hP
          refine lv_aload_n hx hb dX8_append_104 rfl (lv_at hl 2 rfl) ?_
          refine lv_dup hx hb dX8_append_105 rfl ?_
          refine gf_X8_35 (v := .int (nI (b + i))) E hG hP.1 rfl dX8_append_106 ?_
          refine lv_iconst (v := 1) hx hb dX8_append_109 rfl ?_
          refine lv_iadd hx hb dX8_append_110 ?_
          refine lv_ci (y := nI (b + (i + 1))) (ixq (nI_ad rfl rfl)) ?_
          refine pf_X8_35 E hG hP.1 (Nat.le_of_ble_eq_true rfl) rfl rfl hS ⟨0, by decide, rfl⟩ dX8_append_111 (fun H locs ho hz oq hS => ?_)
          have hP : MW G B (fm 0 (nI (b + (i + 1))) tl ps er ea eo ud ns ne se) (appF bf b w0 w1 w2 w3 w4 (i + 1)) da dr hi sk H := hP.setO hD ho oq
          refine lv_iinc (v := (nI (i + 1))) (lv' := [(6, .int (nI (i + 1))), (7, .int (apW w0 w1 w2 w3 w4 i)), (0, .ref (B 0)), (1, .int w0), (2, .int w1), (3, .int w2), (4, .int w3), (5, .int w4)]) hx hb dX8_append_114 hl (k := 1) rfl (nI_ad rfl rfl) (by decide) rfl (fun ls hl => ?_)
          refine lv_goto (tgt := 23) hx hb dX8_append_117 (by decide) ?_
          exact ih (i + 1) (by omega) (by omega) _ _ hP hS ls (lv_sub hl [0, 2, 3, 4, 5, 6, 7] rfl)
    have hP0 : MW G B (fm 0 (nI (b + 0)) tl ps er ea eo ud ns ne se) (appF bf b w0 w1 w2 w3 w4 0) da dr hi sk H := by rw [show appF bf b w0 w1 w2 w3 w4 0 = bf from funext (fun j => if_neg (by omega))]; exact hP
    exact loop 21 0 (by omega) (by omega) _ _ hP0 hS ls (lv_sub hl [0, 1, 2, 3, 4, 5, 6] rfl)
  · exact absurd (show ((nI b) + 20 : Int32) ≤ 900 from (nLE (a := b + 20) (b := 900) (nI_ad rfl rfl) rfl (by omega) (by omega)).mpr hb8) c_15

set_option maxHeartbeats 4000000 in
set_option maxRecDepth 100000 in
/-- append -/
theorem c_X8_append_x (l : Launch) (G : CG) {B : Nat → Nat} {t tl ps er ea eo ud ns ne se : Int32} {bf da dr : Nat → Int32} {hi : Nat → Nat → Int32} {sk : Nat → Int64} (hD : MD G B) (w0 w1 w2 w3 w4 : Int32) (b : Nat) (hb8 : ¬ b + 20 ≤ 900) (hb9 : b ≤ 900) : Wr l yX8_append cX8_append 8 ((Option.some FieldType.int)) 0 0 0 0 G [.ref (B 0), .int w0, .int w1, .int w2, .int w3, .int w4] (MW G B (fm t (nI b) tl ps er ea eo ud ns ne se) bf da dr hi sk) (MA B) (fun v9 H9 => v9 = some (.int (-1)) ∧ MW G B (fm 0 (nI b) tl ps er ea eo ud ns ne se) bf da dr hi sk H9) := by
  refine Wr.ofW (by decide) (Nat.le_of_ble_eq_true rfl) (fun p e s m below meth c ls E hG hE hP hr hk hin hl => ?_)
  have hS : va_S (MA B) s.heap s.heap [] := va_S.rf
  have hx := E.1
  have hb := E.2.1
  have hl : lv_has ls 8 [(0, .ref (B 0)), (1, .int w0), (2, .int w1), (3, .int w2), (4, .int w3), (5, .int w4)] := hl
  refine lv_aload_n hx hb dX8_append_0 rfl (lv_at hl 0 rfl) ?_
  refine lv_iconst (v := 0) hx hb dX8_append_1 rfl ?_
  refine pf_X8_32 E hG hP.1 (Nat.le_of_ble_eq_true rfl) rfl rfl hS ⟨0, by decide, rfl⟩ dX8_append_2 (fun H locs ho hz oq hS => ?_)
  have hP : MW G B (fm 0 (nI b) tl ps er ea eo ud ns ne se) bf da dr hi sk H := hP.setO hD ho oq
  refine lv_aload_n hx hb dX8_append_5 rfl (lv_at hl 0 rfl) ?_
  refine gf_X8_35 (v := .int (nI b)) E hG hP.1 rfl dX8_append_6 ?_
  refine lv_bipush (v := 20) hx hb dX8_append_9 rfl ?_
  refine lv_iadd hx hb dX8_append_11 ?_
  refine lv_sipush (v := 900) hx hb dX8_append_12 rfl ?_
  refine lv_icmp_le (tgt := 20) hx hb dX8_append_15 (by decide) (fun c_15 => ?_) (fun c_15 => ?_)
  · exact absurd ((nLE (x := (nI b) + 20) (y := 900) (a := b + 20) (b := 900) (nI_ad rfl rfl) rfl (by omega) (by omega)).mp c_15) hb8
  · refine lv_iconst (v := (-1)) hx hb dX8_append_18 rfl ?_
    exact wr_int E hr hk hS (by decide) (by decide) (⟨rfl, hP⟩) dX8_append_19
