/-! THE REFERENCE, what writes: public questions and changes (not the reading of texts) -/
def fm (t bl tl ps er ea eo ud ns ne se : Int32) : Nat → Int32 := fun k => match k with
  | 0 => t
  | 2 => bl
  | 3 => tl
  | 4 => ps
  | 5 => er
  | 6 => ea
  | 7 => eo
  | 11 => ud
  | 12 => ns
  | 13 => ne
  | _ => se
section LW
variable {p : Program} {l : Launch} {e : Env} {R : Room} {s : State} {m : MethodId} {args : Array Value} {below : List Frame} {meth : Method} {c : Code} {H : Heap} {locs : List Loc} {cells slots : Nat} {Q : State → Prop}
variable {cc : ByteArray} {nL : Nat} {own : String} {pc : Nat} {ls : Array Slot} {rest : List Value} {G : CG} {a : Nat} {H0 : Heap} {A : Nat → Prop}
theorem g_aldA {f : Nat → Nat} {i : Int32} (k : Nat) (E : CallFix p m c cc nL s args TB own) (hG : KT G s) (ha : At G a (.inl (G.2.1 6, 8, .inr (.inr (.inr (.inr (fun j => some (f j))))))) H) (hi : i = nI k) (hk : k < 8) (hdg : decode cc pc = .ok (.aaload, 1))
    (kk : W p l e R s m args below meth c H locs cells slots Q (F0 m (pc + 1) ls (.ref (f k) :: rest))) : W p l e R s m args below meth c H locs cells slots Q (F0 m pc ls (.int i :: .ref a :: rest)) := by
  obtain ⟨h1, h2⟩ := ix hi hk (by decide)
  exact W.aald (v := .ref (f k)) E.1 E.2.1 ha ((hG.1.2 6 _ rfl).1 8 (fun j => va_rf (some (f j)))) rfl (fun q => by cases q) (by show ¬ (i < 0 ∨ (arrV _ _ _).slots.size ≤ _); rw [arrV_size]; exact h1) (by show (arrV _ _ _).slots[_]? = _; rw [h2, arrV_read _ _ hk]; rfl) rfl rfl hdg kk
end LW
set_option maxHeartbeats 4000000 in
set_option maxRecDepth 100000 in
/-- fails(false, z) -/
theorem c_X8_fails0 (l : Launch) (G : CG) {B : Nat → Nat} {bl tl ps er ea eo ud ns ne se : Int32} {bf da dr : Nat → Int32} {hi : Nat → Nat → Int32} {sk : Nat → Int64} (hD : MD G B) (z : Int32) : Wr l yX8_fails cX8_fails 3 ((Option.some FieldType.boolean)) 0 0 0 0 G [.ref (B 0), .int 0, .int z] (MW G B (fm 0 bl tl ps er ea eo ud ns ne se) bf da dr hi sk) (MA B) (fun v9 H9 => v9 = some (.int 0) ∧ MW G B (fm 0 bl tl ps er ea eo ud ns ne se) bf da dr hi sk H9) := by
  refine Wr.ofW (by decide) (Nat.le_of_ble_eq_true rfl) (fun p e s m below meth c ls E hG hE hP hr hk hin hl => ?_)
  have hS : va_S (MA B) s.heap s.heap [] := va_S.rf
  have hx := E.1
  have hb := E.2.1
  have hl : lv_has ls 3 [(0, .ref (B 0)), (1, .int 0), (2, .int z)] := hl
  refine lv_iload_n hx hb dX8_fails_0 rfl (lv_at hl 1 rfl) ?_
  refine lv_if_eq (tgt := 16) hx hb dX8_fails_1 (by decide) (fun c_1 => ?_) (fun c_1 => ?_)
  · refine lv_aload_n hx hb dX8_fails_16 rfl (lv_at hl 0 rfl) ?_
    refine gf_X8_32 (v := .int 0) E hG hP.1 rfl dX8_fails_17 ?_
    refine lv_if_eq (tgt := 27) hx hb dX8_fails_20 (by decide) (fun c_20 => ?_) (fun c_20 => ?_)
    · refine lv_iconst (v := 0) hx hb dX8_fails_27 rfl ?_
      exact wr_bool E hr hk hS (by decide) (by decide) (by first | exact Or.inl rfl | exact Or.inr rfl | (omega)) (⟨rfl, hP⟩) dX8_fails_28
    · exact absurd c_20 (by decide)
  · exact absurd c_1 (by decide)

set_option maxHeartbeats 4000000 in
set_option maxRecDepth 100000 in
/-- fails(true, z) -/
theorem c_X8_fails1 (l : Launch) (G : CG) {B : Nat → Nat} {bl tl ps er ea eo ud ns ne se : Int32} {bf da dr : Nat → Int32} {hi : Nat → Nat → Int32} {sk : Nat → Int64} (hD : MD G B) (z : Int32) (hz0 : ¬ z = 0) : Wr l yX8_fails cX8_fails 3 ((Option.some FieldType.boolean)) 0 0 0 0 G [.ref (B 0), .int 1, .int z] (MW G B (fm 0 bl tl ps er ea eo ud ns ne se) bf da dr hi sk) (MA B) (fun v9 H9 => v9 = some (.int 1) ∧ MW G B (fm z bl tl ps er ea eo ud ns ne se) bf da dr hi sk H9) := by
  refine Wr.ofW (by decide) (Nat.le_of_ble_eq_true rfl) (fun p e s m below meth c ls E hG hE hP hr hk hin hl => ?_)
  have hS : va_S (MA B) s.heap s.heap [] := va_S.rf
  have hx := E.1
  have hb := E.2.1
  have hl : lv_has ls 3 [(0, .ref (B 0)), (1, .int 1), (2, .int z)] := hl
  refine lv_iload_n hx hb dX8_fails_0 rfl (lv_at hl 1 rfl) ?_
  refine lv_if_eq (tgt := 16) hx hb dX8_fails_1 (by decide) (fun c_1 => ?_) (fun c_1 => ?_)
  · exact absurd c_1 (by decide)
  · refine lv_aload_n hx hb dX8_fails_4 rfl (lv_at hl 0 rfl) ?_
    refine gf_X8_32 (v := .int 0) E hG hP.1 rfl dX8_fails_5 ?_
    refine lv_if_ne (tgt := 16) hx hb dX8_fails_8 (by decide) (fun c_8 => ?_) (fun c_8 => ?_)
    · exact absurd c_8 (by decide)
    · refine lv_aload_n hx hb dX8_fails_11 rfl (lv_at hl 0 rfl) ?_
      refine lv_iload_n hx hb dX8_fails_12 rfl (lv_at hl 2 rfl) ?_
      refine pf_X8_32 E hG hP.1 (Nat.le_of_ble_eq_true rfl) rfl rfl hS ⟨0, by decide, rfl⟩ dX8_fails_13 (fun H locs ho hz oq hS => ?_)
      have hP : MW G B (fm z bl tl ps er ea eo ud ns ne se) bf da dr hi sk H := hP.setO hD ho oq
      refine lv_aload_n hx hb dX8_fails_16 rfl (lv_at hl 0 rfl) ?_
      refine gf_X8_32 (v := .int z) E hG hP.1 rfl dX8_fails_17 ?_
      refine lv_if_eq (tgt := 27) hx hb dX8_fails_20 (by decide) (fun c_20 => ?_) (fun c_20 => ?_)
      · exact absurd c_20 hz0
      · refine lv_iconst (v := 1) hx hb dX8_fails_23 rfl ?_
        refine lv_goto (tgt := 28) hx hb dX8_fails_24 (by decide) ?_
        exact wr_bool E hr hk hS (by decide) (by decide) (by first | exact Or.inl rfl | exact Or.inr rfl | (omega)) (⟨rfl, hP⟩) dX8_fails_28

set_option maxHeartbeats 4000000 in
set_option maxRecDepth 100000 in
/-- noCredit -/
theorem c_X8_noCredit (l : Launch) (G : CG) {B : Nat → Nat} {bl tl ps er ea eo ud ns ne se : Int32} {bf da dr : Nat → Int32} {hi : Nat → Nat → Int32} {sk : Nat → Int64} (hD : MD G B) (x : Int32) (hin9 : inV x 0 (da 0 - 1) = 1) : Wr l yX8_noCredit cX8_noCredit 2 ((Option.some FieldType.boolean)) 1 22 0 0 G [.ref (B 0), .int x] (MW G B (fm 0 bl tl ps er ea eo ud ns ne se) bf da dr hi sk) (MA B) (fun v9 H9 => v9 = some (.int 0) ∧ MW G B (fm 0 bl tl ps er ea eo ud ns ne se) bf da dr hi sk H9) := by
  refine Wr.ofW (by decide) (Nat.le_of_ble_eq_true rfl) (fun p e s m below meth c ls E hG hE hP hr hk hin hl => ?_)
  have hS : va_S (MA B) s.heap s.heap [] := va_S.rf
  have hx := E.1
  have hb := E.2.1
  have hl : lv_has ls 2 [(0, .ref (B 0)), (1, .int x)] := hl
  refine lv_aload_n hx hb dX8_noCredit_0 rfl (lv_at hl 0 rfl) ?_
  refine lv_iload_n hx hb dX8_noCredit_1 rfl (lv_at hl 1 rfl) ?_
  refine lv_iconst (v := 0) hx hb dX8_noCredit_2 rfl ?_
  refine lv_aload_n hx hb dX8_noCredit_3 rfl (lv_at hl 0 rfl) ?_
  refine gf_X8_17 (v := .ref (B 2)) E hG hP.1 rfl dX8_noCredit_4 ?_
  refine lv_iconst (v := 0) hx hb dX8_noCredit_7 rfl ?_
  refine g_ild 0 E hG hP.2.2.1 rfl (by omega) (by decide) dX8_noCredit_8 ?_
  refine lv_iconst (v := 1) hx hb dX8_noCredit_9 rfl ?_
  refine lv_isub hx hb dX8_noCredit_10 ?_
  refine Rd.callS (rest := [.ref (B 0)]) (c_X8_in l G x 0 ((da 0) - 1)) yk_X8_in E km_X8_54 dX8_noCredit_11 hG (hE.S hS hD.efa) trivial rfl rfl hl.1 ⟨Nat.le_of_ble_eq_true rfl, Nat.le_of_ble_eq_true rfl⟩ ⟨Nat.zero_le _, Nat.zero_le _⟩ (Nat.le_of_ble_eq_true rfl) ?_
  refine lv_if_ne (tgt := 21) hx hb dX8_noCredit_14 (by decide) (fun c_14 => ?_) (fun c_14 => ?_)
  · refine lv_iconst (v := 0) hx hb dX8_noCredit_21 rfl ?_
    refine lv_iconst (v := 1) hx hb dX8_noCredit_22 rfl ?_
    refine Wr.callV (rest := []) (c_X8_fails0 l G hD 1) yk_X8_fails E km_X8_153 dX8_noCredit_23 hG (hE.S hS hD.efa) hP (At.recv hG hP.1 rfl) rfl rfl hl.1 ⟨Nat.le_of_ble_eq_true rfl, Nat.le_of_ble_eq_true rfl⟩ ⟨Nat.le_of_ble_eq_true rfl, Nat.le_of_ble_eq_true rfl⟩ (Nat.le_of_ble_eq_true rfl) hS (fun _ h9 => h9) (fun v9 H locs hq hz9 hfr9 hS => ?_)
    obtain ⟨rfl, hP⟩ := hq
    exact wr_bool E hr hk hS (by decide) (by decide) (by first | exact Or.inl rfl | exact Or.inr rfl | (omega)) (⟨rfl, hP⟩) dX8_noCredit_26
  · exact (by rw [hin9] at c_14; exact absurd c_14 (by decide))

set_option maxHeartbeats 4000000 in
set_option maxRecDepth 100000 in
/-- noCredit -/
theorem c_X8_noCredit_x (l : Launch) (G : CG) {B : Nat → Nat} {bl tl ps er ea eo ud ns ne se : Int32} {bf da dr : Nat → Int32} {hi : Nat → Nat → Int32} {sk : Nat → Int64} (hD : MD G B) (x : Int32) (hin9 : inV x 0 (da 0 - 1) = 0) : Wr l yX8_noCredit cX8_noCredit 2 ((Option.some FieldType.boolean)) 1 22 0 0 G [.ref (B 0), .int x] (MW G B (fm 0 bl tl ps er ea eo ud ns ne se) bf da dr hi sk) (MA B) (fun v9 H9 => v9 = some (.int 1) ∧ MW G B (fm 1 bl tl ps er ea eo ud ns ne se) bf da dr hi sk H9) := by
  refine Wr.ofW (by decide) (Nat.le_of_ble_eq_true rfl) (fun p e s m below meth c ls E hG hE hP hr hk hin hl => ?_)
  have hS : va_S (MA B) s.heap s.heap [] := va_S.rf
  have hx := E.1
  have hb := E.2.1
  have hl : lv_has ls 2 [(0, .ref (B 0)), (1, .int x)] := hl
  refine lv_aload_n hx hb dX8_noCredit_0 rfl (lv_at hl 0 rfl) ?_
  refine lv_iload_n hx hb dX8_noCredit_1 rfl (lv_at hl 1 rfl) ?_
  refine lv_iconst (v := 0) hx hb dX8_noCredit_2 rfl ?_
  refine lv_aload_n hx hb dX8_noCredit_3 rfl (lv_at hl 0 rfl) ?_
  refine gf_X8_17 (v := .ref (B 2)) E hG hP.1 rfl dX8_noCredit_4 ?_
  refine lv_iconst (v := 0) hx hb dX8_noCredit_7 rfl ?_
  refine g_ild 0 E hG hP.2.2.1 rfl (by omega) (by decide) dX8_noCredit_8 ?_
  refine lv_iconst (v := 1) hx hb dX8_noCredit_9 rfl ?_
  refine lv_isub hx hb dX8_noCredit_10 ?_
  refine Rd.callS (rest := [.ref (B 0)]) (c_X8_in l G x 0 ((da 0) - 1)) yk_X8_in E km_X8_54 dX8_noCredit_11 hG (hE.S hS hD.efa) trivial rfl rfl hl.1 ⟨Nat.le_of_ble_eq_true rfl, Nat.le_of_ble_eq_true rfl⟩ ⟨Nat.zero_le _, Nat.zero_le _⟩ (Nat.le_of_ble_eq_true rfl) ?_
  refine lv_if_ne (tgt := 21) hx hb dX8_noCredit_14 (by decide) (fun c_14 => ?_) (fun c_14 => ?_)
  · exact (by rw [hin9] at c_14; exact absurd c_14 (by decide))
  · refine lv_iconst (v := 1) hx hb dX8_noCredit_17 rfl ?_
    refine lv_goto (tgt := 22) hx hb dX8_noCredit_18 (by decide) ?_
    refine lv_iconst (v := 1) hx hb dX8_noCredit_22 rfl ?_
    refine Wr.callV (rest := []) (c_X8_fails1 l G hD 1 (by decide)) yk_X8_fails E km_X8_153 dX8_noCredit_23 hG (hE.S hS hD.efa) hP (At.recv hG hP.1 rfl) rfl rfl hl.1 ⟨Nat.le_of_ble_eq_true rfl, Nat.le_of_ble_eq_true rfl⟩ ⟨Nat.le_of_ble_eq_true rfl, Nat.le_of_ble_eq_true rfl⟩ (Nat.le_of_ble_eq_true rfl) hS (fun _ h9 => h9) (fun v9 H locs hq hz9 hfr9 hS => ?_)
    obtain ⟨rfl, hP⟩ := hq
    exact wr_bool E hr hk hS (by decide) (by decide) (by first | exact Or.inl rfl | exact Or.inr rfl | (omega)) (⟨rfl, hP⟩) dX8_noCredit_26

set_option maxHeartbeats 4000000 in
set_option maxRecDepth 100000 in
/-- noPresentation -/
theorem c_X8_noPresentation (l : Launch) (G : CG) {B : Nat → Nat} {bl tl ps er ea eo ud ns ne se : Int32} {bf da dr : Nat → Int32} {hi : Nat → Nat → Int32} {sk : Nat → Int64} (hD : MD G B) (x : Int32) (hin9 : inV x 0 (da 1 - 1) = 1) : Wr l yX8_noPresentation cX8_noPresentation 2 ((Option.some FieldType.boolean)) 1 22 0 0 G [.ref (B 0), .int x] (MW G B (fm 0 bl tl ps er ea eo ud ns ne se) bf da dr hi sk) (MA B) (fun v9 H9 => v9 = some (.int 0) ∧ MW G B (fm 0 bl tl ps er ea eo ud ns ne se) bf da dr hi sk H9) := by
  refine Wr.ofW (by decide) (Nat.le_of_ble_eq_true rfl) (fun p e s m below meth c ls E hG hE hP hr hk hin hl => ?_)
  have hS : va_S (MA B) s.heap s.heap [] := va_S.rf
  have hx := E.1
  have hb := E.2.1
  have hl : lv_has ls 2 [(0, .ref (B 0)), (1, .int x)] := hl
  refine lv_aload_n hx hb dX8_noPresentation_0 rfl (lv_at hl 0 rfl) ?_
  refine lv_iload_n hx hb dX8_noPresentation_1 rfl (lv_at hl 1 rfl) ?_
  refine lv_iconst (v := 0) hx hb dX8_noPresentation_2 rfl ?_
  refine lv_aload_n hx hb dX8_noPresentation_3 rfl (lv_at hl 0 rfl) ?_
  refine gf_X8_17 (v := .ref (B 2)) E hG hP.1 rfl dX8_noPresentation_4 ?_
  refine lv_iconst (v := 1) hx hb dX8_noPresentation_7 rfl ?_
  refine g_ild 1 E hG hP.2.2.1 rfl (by omega) (by decide) dX8_noPresentation_8 ?_
  refine lv_iconst (v := 1) hx hb dX8_noPresentation_9 rfl ?_
  refine lv_isub hx hb dX8_noPresentation_10 ?_
  refine Rd.callS (rest := [.ref (B 0)]) (c_X8_in l G x 0 ((da 1) - 1)) yk_X8_in E km_X8_54 dX8_noPresentation_11 hG (hE.S hS hD.efa) trivial rfl rfl hl.1 ⟨Nat.le_of_ble_eq_true rfl, Nat.le_of_ble_eq_true rfl⟩ ⟨Nat.zero_le _, Nat.zero_le _⟩ (Nat.le_of_ble_eq_true rfl) ?_
  refine lv_if_ne (tgt := 21) hx hb dX8_noPresentation_14 (by decide) (fun c_14 => ?_) (fun c_14 => ?_)
  · refine lv_iconst (v := 0) hx hb dX8_noPresentation_21 rfl ?_
    refine lv_iconst (v := 1) hx hb dX8_noPresentation_22 rfl ?_
    refine Wr.callV (rest := []) (c_X8_fails0 l G hD 1) yk_X8_fails E km_X8_153 dX8_noPresentation_23 hG (hE.S hS hD.efa) hP (At.recv hG hP.1 rfl) rfl rfl hl.1 ⟨Nat.le_of_ble_eq_true rfl, Nat.le_of_ble_eq_true rfl⟩ ⟨Nat.le_of_ble_eq_true rfl, Nat.le_of_ble_eq_true rfl⟩ (Nat.le_of_ble_eq_true rfl) hS (fun _ h9 => h9) (fun v9 H locs hq hz9 hfr9 hS => ?_)
    obtain ⟨rfl, hP⟩ := hq
    exact wr_bool E hr hk hS (by decide) (by decide) (by first | exact Or.inl rfl | exact Or.inr rfl | (omega)) (⟨rfl, hP⟩) dX8_noPresentation_26
  · exact (by rw [hin9] at c_14; exact absurd c_14 (by decide))

set_option maxHeartbeats 4000000 in
set_option maxRecDepth 100000 in
/-- noPresentation -/
theorem c_X8_noPresentation_x (l : Launch) (G : CG) {B : Nat → Nat} {bl tl ps er ea eo ud ns ne se : Int32} {bf da dr : Nat → Int32} {hi : Nat → Nat → Int32} {sk : Nat → Int64} (hD : MD G B) (x : Int32) (hin9 : inV x 0 (da 1 - 1) = 0) : Wr l yX8_noPresentation cX8_noPresentation 2 ((Option.some FieldType.boolean)) 1 22 0 0 G [.ref (B 0), .int x] (MW G B (fm 0 bl tl ps er ea eo ud ns ne se) bf da dr hi sk) (MA B) (fun v9 H9 => v9 = some (.int 1) ∧ MW G B (fm 1 bl tl ps er ea eo ud ns ne se) bf da dr hi sk H9) := by
  refine Wr.ofW (by decide) (Nat.le_of_ble_eq_true rfl) (fun p e s m below meth c ls E hG hE hP hr hk hin hl => ?_)
  have hS : va_S (MA B) s.heap s.heap [] := va_S.rf
  have hx := E.1
  have hb := E.2.1
  have hl : lv_has ls 2 [(0, .ref (B 0)), (1, .int x)] := hl
  refine lv_aload_n hx hb dX8_noPresentation_0 rfl (lv_at hl 0 rfl) ?_
  refine lv_iload_n hx hb dX8_noPresentation_1 rfl (lv_at hl 1 rfl) ?_
  refine lv_iconst (v := 0) hx hb dX8_noPresentation_2 rfl ?_
  refine lv_aload_n hx hb dX8_noPresentation_3 rfl (lv_at hl 0 rfl) ?_
  refine gf_X8_17 (v := .ref (B 2)) E hG hP.1 rfl dX8_noPresentation_4 ?_
  refine lv_iconst (v := 1) hx hb dX8_noPresentation_7 rfl ?_
  refine g_ild 1 E hG hP.2.2.1 rfl (by omega) (by decide) dX8_noPresentation_8 ?_
  refine lv_iconst (v := 1) hx hb dX8_noPresentation_9 rfl ?_
  refine lv_isub hx hb dX8_noPresentation_10 ?_
  refine Rd.callS (rest := [.ref (B 0)]) (c_X8_in l G x 0 ((da 1) - 1)) yk_X8_in E km_X8_54 dX8_noPresentation_11 hG (hE.S hS hD.efa) trivial rfl rfl hl.1 ⟨Nat.le_of_ble_eq_true rfl, Nat.le_of_ble_eq_true rfl⟩ ⟨Nat.zero_le _, Nat.zero_le _⟩ (Nat.le_of_ble_eq_true rfl) ?_
  refine lv_if_ne (tgt := 21) hx hb dX8_noPresentation_14 (by decide) (fun c_14 => ?_) (fun c_14 => ?_)
  · exact (by rw [hin9] at c_14; exact absurd c_14 (by decide))
  · refine lv_iconst (v := 1) hx hb dX8_noPresentation_17 rfl ?_
    refine lv_goto (tgt := 22) hx hb dX8_noPresentation_18 (by decide) ?_
    refine lv_iconst (v := 1) hx hb dX8_noPresentation_22 rfl ?_
    refine Wr.callV (rest := []) (c_X8_fails1 l G hD 1 (by decide)) yk_X8_fails E km_X8_153 dX8_noPresentation_23 hG (hE.S hS hD.efa) hP (At.recv hG hP.1 rfl) rfl rfl hl.1 ⟨Nat.le_of_ble_eq_true rfl, Nat.le_of_ble_eq_true rfl⟩ ⟨Nat.le_of_ble_eq_true rfl, Nat.le_of_ble_eq_true rfl⟩ (Nat.le_of_ble_eq_true rfl) hS (fun _ h9 => h9) (fun v9 H locs hq hz9 hfr9 hS => ?_)
    obtain ⟨rfl, hP⟩ := hq
    exact wr_bool E hr hk hS (by decide) (by decide) (by first | exact Or.inl rfl | exact Or.inr rfl | (omega)) (⟨rfl, hP⟩) dX8_noPresentation_26

set_option maxHeartbeats 4000000 in
set_option maxRecDepth 100000 in
/-- errorOffset -/
theorem c_X8_errorOffset (l : Launch) (G : CG) {B : Nat → Nat} {t bl tl ps er ea eo ud ns ne se : Int32} {bf da dr : Nat → Int32} {hi : Nat → Nat → Int32} {sk : Nat → Int64} (hD : MD G B)  : Wr l yX8_errorOffset cX8_errorOffset 1 ((Option.some FieldType.int)) 0 0 0 0 G [.ref (B 0)] (MW G B (fm t bl tl ps er ea eo ud ns ne se) bf da dr hi sk) (MA B) (fun v9 H9 => v9 = some (.int eo) ∧ MW G B (fm 0 bl tl ps er ea eo ud ns ne se) bf da dr hi sk H9) := by
  refine Wr.ofW (by decide) (Nat.le_of_ble_eq_true rfl) (fun p e s m below meth c ls E hG hE hP hr hk hin hl => ?_)
  have hS : va_S (MA B) s.heap s.heap [] := va_S.rf
  have hx := E.1
  have hb := E.2.1
  have hl : lv_has ls 1 [(0, .ref (B 0))] := hl
  refine lv_aload_n hx hb dX8_errorOffset_0 rfl (lv_at hl 0 rfl) ?_
  refine lv_iconst (v := 0) hx hb dX8_errorOffset_1 rfl ?_
  refine pf_X8_32 E hG hP.1 (Nat.le_of_ble_eq_true rfl) rfl rfl hS ⟨0, by decide, rfl⟩ dX8_errorOffset_2 (fun H locs ho hz oq hS => ?_)
  have hP : MW G B (fm 0 bl tl ps er ea eo ud ns ne se) bf da dr hi sk H := hP.setO hD ho oq
  refine lv_aload_n hx hb dX8_errorOffset_5 rfl (lv_at hl 0 rfl) ?_
  refine gf_X8_13 (v := .int eo) E hG hP.1 rfl dX8_errorOffset_6 ?_
  exact wr_int E hr hk hS (by decide) (by decide) (⟨rfl, hP⟩) dX8_errorOffset_9

set_option maxHeartbeats 4000000 in
set_option maxRecDepth 100000 in
/-- today -/
theorem c_X8_today (l : Launch) (G : CG) {B : Nat → Nat} {t bl tl ps er ea eo ud ns ne se : Int32} {bf da dr : Nat → Int32} {hi : Nat → Nat → Int32} {sk : Nat → Int64} (hD : MD G B)  : Wr l yX8_today cX8_today 1 ((Option.some FieldType.int)) 0 0 0 0 G [.ref (B 0)] (MW G B (fm t bl tl ps er ea eo ud ns ne se) bf da dr hi sk) (MA B) (fun v9 H9 => v9 = some (.int (da 3)) ∧ MW G B (fm 0 bl tl ps er ea eo ud ns ne se) bf da dr hi sk H9) := by
  refine Wr.ofW (by decide) (Nat.le_of_ble_eq_true rfl) (fun p e s m below meth c ls E hG hE hP hr hk hin hl => ?_)
  have hS : va_S (MA B) s.heap s.heap [] := va_S.rf
  have hx := E.1
  have hb := E.2.1
  have hl : lv_has ls 1 [(0, .ref (B 0))] := hl
  refine lv_aload_n hx hb dX8_today_0 rfl (lv_at hl 0 rfl) ?_
  refine lv_iconst (v := 0) hx hb dX8_today_1 rfl ?_
  refine pf_X8_32 E hG hP.1 (Nat.le_of_ble_eq_true rfl) rfl rfl hS ⟨0, by decide, rfl⟩ dX8_today_2 (fun H locs ho hz oq hS => ?_)
  have hP : MW G B (fm 0 bl tl ps er ea eo ud ns ne se) bf da dr hi sk H := hP.setO hD ho oq
  refine lv_aload_n hx hb dX8_today_5 rfl (lv_at hl 0 rfl) ?_
  refine gf_X8_17 (v := .ref (B 2)) E hG hP.1 rfl dX8_today_6 ?_
  refine lv_iconst (v := 3) hx hb dX8_today_9 rfl ?_
  refine g_ild 3 E hG hP.2.2.1 rfl (by omega) (by decide) dX8_today_10 ?_
  exact wr_int E hr hk hS (by decide) (by decide) (⟨rfl, hP⟩) dX8_today_11

set_option maxHeartbeats 4000000 in
set_option maxRecDepth 100000 in
/-- creditCount -/
theorem c_X8_creditCount (l : Launch) (G : CG) {B : Nat → Nat} {t bl tl ps er ea eo ud ns ne se : Int32} {bf da dr : Nat → Int32} {hi : Nat → Nat → Int32} {sk : Nat → Int64} (hD : MD G B)  : Wr l yX8_creditCount cX8_creditCount 1 ((Option.some FieldType.int)) 0 0 0 0 G [.ref (B 0)] (MW G B (fm t bl tl ps er ea eo ud ns ne se) bf da dr hi sk) (MA B) (fun v9 H9 => v9 = some (.int (da 0)) ∧ MW G B (fm 0 bl tl ps er ea eo ud ns ne se) bf da dr hi sk H9) := by
  refine Wr.ofW (by decide) (Nat.le_of_ble_eq_true rfl) (fun p e s m below meth c ls E hG hE hP hr hk hin hl => ?_)
  have hS : va_S (MA B) s.heap s.heap [] := va_S.rf
  have hx := E.1
  have hb := E.2.1
  have hl : lv_has ls 1 [(0, .ref (B 0))] := hl
  refine lv_aload_n hx hb dX8_creditCount_0 rfl (lv_at hl 0 rfl) ?_
  refine lv_iconst (v := 0) hx hb dX8_creditCount_1 rfl ?_
  refine pf_X8_32 E hG hP.1 (Nat.le_of_ble_eq_true rfl) rfl rfl hS ⟨0, by decide, rfl⟩ dX8_creditCount_2 (fun H locs ho hz oq hS => ?_)
  have hP : MW G B (fm 0 bl tl ps er ea eo ud ns ne se) bf da dr hi sk H := hP.setO hD ho oq
  refine lv_aload_n hx hb dX8_creditCount_5 rfl (lv_at hl 0 rfl) ?_
  refine gf_X8_17 (v := .ref (B 2)) E hG hP.1 rfl dX8_creditCount_6 ?_
  refine lv_iconst (v := 0) hx hb dX8_creditCount_9 rfl ?_
  refine g_ild 0 E hG hP.2.2.1 rfl (by omega) (by decide) dX8_creditCount_10 ?_
  exact wr_int E hr hk hS (by decide) (by decide) (⟨rfl, hP⟩) dX8_creditCount_11

set_option maxHeartbeats 4000000 in
set_option maxRecDepth 100000 in
/-- presentationCount -/
theorem c_X8_presentationCount (l : Launch) (G : CG) {B : Nat → Nat} {t bl tl ps er ea eo ud ns ne se : Int32} {bf da dr : Nat → Int32} {hi : Nat → Nat → Int32} {sk : Nat → Int64} (hD : MD G B)  : Wr l yX8_presentationCount cX8_presentationCount 1 ((Option.some FieldType.int)) 0 0 0 0 G [.ref (B 0)] (MW G B (fm t bl tl ps er ea eo ud ns ne se) bf da dr hi sk) (MA B) (fun v9 H9 => v9 = some (.int (da 1)) ∧ MW G B (fm 0 bl tl ps er ea eo ud ns ne se) bf da dr hi sk H9) := by
  refine Wr.ofW (by decide) (Nat.le_of_ble_eq_true rfl) (fun p e s m below meth c ls E hG hE hP hr hk hin hl => ?_)
  have hS : va_S (MA B) s.heap s.heap [] := va_S.rf
  have hx := E.1
  have hb := E.2.1
  have hl : lv_has ls 1 [(0, .ref (B 0))] := hl
  refine lv_aload_n hx hb dX8_presentationCount_0 rfl (lv_at hl 0 rfl) ?_
  refine lv_iconst (v := 0) hx hb dX8_presentationCount_1 rfl ?_
  refine pf_X8_32 E hG hP.1 (Nat.le_of_ble_eq_true rfl) rfl rfl hS ⟨0, by decide, rfl⟩ dX8_presentationCount_2 (fun H locs ho hz oq hS => ?_)
  have hP : MW G B (fm 0 bl tl ps er ea eo ud ns ne se) bf da dr hi sk H := hP.setO hD ho oq
  refine lv_aload_n hx hb dX8_presentationCount_5 rfl (lv_at hl 0 rfl) ?_
  refine gf_X8_17 (v := .ref (B 2)) E hG hP.1 rfl dX8_presentationCount_6 ?_
  refine lv_iconst (v := 1) hx hb dX8_presentationCount_9 rfl ?_
  refine g_ild 1 E hG hP.2.2.1 rfl (by omega) (by decide) dX8_presentationCount_10 ?_
  exact wr_int E hr hk hS (by decide) (by decide) (⟨rfl, hP⟩) dX8_presentationCount_11

set_option maxHeartbeats 4000000 in
set_option maxRecDepth 100000 in
/-- parent -/
theorem c_X8_parent (l : Launch) (G : CG) {B : Nat → Nat} {t bl tl ps er ea eo ud ns ne se : Int32} {bf da dr : Nat → Int32} {hi : Nat → Nat → Int32} {sk : Nat → Int64} (hD : MD G B) (x : Int32) (k : Nat) (ex : x = nI k) (hk9 : k < 12) (hin9 : inV x 0 (da 0 - 1) = 1) : Wr l yX8_parent cX8_parent 2 ((Option.some FieldType.int)) 2 43 0 0 G [.ref (B 0), .int x] (MW G B (fm t bl tl ps er ea eo ud ns ne se) bf da dr hi sk) (MA B) (fun v9 H9 => v9 = some (.int (da (cP k + 10))) ∧ MW G B (fm 0 bl tl ps er ea eo ud ns ne se) bf da dr hi sk H9) := by
  refine Wr.ofW (by decide) (Nat.le_of_ble_eq_true rfl) (fun p e s m below meth c ls E hG hE hP hr hk hin hl => ?_)
  have hS : va_S (MA B) s.heap s.heap [] := va_S.rf
  have hx := E.1
  have hb := E.2.1
  have hl : lv_has ls 2 [(0, .ref (B 0)), (1, .int x)] := hl
  refine lv_aload_n hx hb dX8_parent_0 rfl (lv_at hl 0 rfl) ?_
  refine lv_iconst (v := 0) hx hb dX8_parent_1 rfl ?_
  refine pf_X8_32 E hG hP.1 (Nat.le_of_ble_eq_true rfl) rfl rfl hS ⟨0, by decide, rfl⟩ dX8_parent_2 (fun H locs ho hz oq hS => ?_)
  have hP : MW G B (fm 0 bl tl ps er ea eo ud ns ne se) bf da dr hi sk H := hP.setO hD ho oq
  refine lv_aload_n hx hb dX8_parent_5 rfl (lv_at hl 0 rfl) ?_
  refine lv_iload_n hx hb dX8_parent_6 rfl (lv_at hl 1 rfl) ?_
  refine Wr.callV (rest := []) (c_X8_noCredit l G hD x hin9) yk_X8_noCredit E km_X8_179 dX8_parent_7 hG (hE.S hS hD.efa) hP (At.recv hG hP.1 rfl) rfl rfl hl.1 ⟨Nat.le_of_ble_eq_true rfl, Nat.le_of_ble_eq_true rfl⟩ ⟨Nat.le_of_ble_eq_true rfl, Nat.le_of_ble_eq_true rfl⟩ (Nat.le_of_ble_eq_true rfl) hS (fun _ h9 => h9) (fun v9 H locs hq hz9 hfr9 hS => ?_)
  obtain ⟨rfl, hP⟩ := hq
  refine lv_if_eq (tgt := 17) hx hb dX8_parent_10 (by decide) (fun c_10 => ?_) (fun c_10 => ?_)
  · refine lv_aload_n hx hb dX8_parent_17 rfl (lv_at hl 0 rfl) ?_
    refine gf_X8_17 (v := .ref (B 2)) E hG hP.1 rfl dX8_parent_18 ?_
    refine lv_iload_n hx hb dX8_parent_21 rfl (lv_at hl 1 rfl) ?_
    refine Rd.callS (rest := [.ref (B 2)]) (c_X8_credit l G x) yk_X8_credit E km_X8_126 dX8_parent_22 hG (hE.S hS hD.efa) trivial rfl rfl hl.1 ⟨Nat.le_of_ble_eq_true rfl, Nat.le_of_ble_eq_true rfl⟩ ⟨Nat.zero_le _, Nat.zero_le _⟩ (Nat.le_of_ble_eq_true rfl) ?_
    refine lv_bipush (v := 10) hx hb dX8_parent_25 rfl ?_
    refine lv_iadd hx hb dX8_parent_27 ?_
    refine g_ild ((22 + 11 * k) + 10) E hG hP.2.2.1 (ixq (nI_ad (nI_ad rfl (nI_mu rfl ex)) rfl)) (by omega) (by decide) dX8_parent_28 ?_
    exact wr_int E hr hk hS (by decide) (by decide) (⟨rfl, hP⟩) dX8_parent_29
  · exact absurd c_10 (by decide)

set_option maxHeartbeats 4000000 in
set_option maxRecDepth 100000 in
/-- parent -/
theorem c_X8_parent_x (l : Launch) (G : CG) {B : Nat → Nat} {t bl tl ps er ea eo ud ns ne se : Int32} {bf da dr : Nat → Int32} {hi : Nat → Nat → Int32} {sk : Nat → Int64} (hD : MD G B) (x : Int32) (hin9 : inV x 0 (da 0 - 1) = 0) : Wr l yX8_parent cX8_parent 2 ((Option.some FieldType.int)) 2 43 0 0 G [.ref (B 0), .int x] (MW G B (fm t bl tl ps er ea eo ud ns ne se) bf da dr hi sk) (MA B) (fun v9 H9 => v9 = some (.int 0) ∧ MW G B (fm 1 bl tl ps er ea eo ud ns ne se) bf da dr hi sk H9) := by
  refine Wr.ofW (by decide) (Nat.le_of_ble_eq_true rfl) (fun p e s m below meth c ls E hG hE hP hr hk hin hl => ?_)
  have hS : va_S (MA B) s.heap s.heap [] := va_S.rf
  have hx := E.1
  have hb := E.2.1
  have hl : lv_has ls 2 [(0, .ref (B 0)), (1, .int x)] := hl
  refine lv_aload_n hx hb dX8_parent_0 rfl (lv_at hl 0 rfl) ?_
  refine lv_iconst (v := 0) hx hb dX8_parent_1 rfl ?_
  refine pf_X8_32 E hG hP.1 (Nat.le_of_ble_eq_true rfl) rfl rfl hS ⟨0, by decide, rfl⟩ dX8_parent_2 (fun H locs ho hz oq hS => ?_)
  have hP : MW G B (fm 0 bl tl ps er ea eo ud ns ne se) bf da dr hi sk H := hP.setO hD ho oq
  refine lv_aload_n hx hb dX8_parent_5 rfl (lv_at hl 0 rfl) ?_
  refine lv_iload_n hx hb dX8_parent_6 rfl (lv_at hl 1 rfl) ?_
  refine Wr.callV (rest := []) (c_X8_noCredit_x l G hD x hin9) yk_X8_noCredit E km_X8_179 dX8_parent_7 hG (hE.S hS hD.efa) hP (At.recv hG hP.1 rfl) rfl rfl hl.1 ⟨Nat.le_of_ble_eq_true rfl, Nat.le_of_ble_eq_true rfl⟩ ⟨Nat.le_of_ble_eq_true rfl, Nat.le_of_ble_eq_true rfl⟩ (Nat.le_of_ble_eq_true rfl) hS (fun _ h9 => h9) (fun v9 H locs hq hz9 hfr9 hS => ?_)
  obtain ⟨rfl, hP⟩ := hq
  refine lv_if_eq (tgt := 17) hx hb dX8_parent_10 (by decide) (fun c_10 => ?_) (fun c_10 => ?_)
  · exact absurd c_10 (by decide)
  · refine lv_iconst (v := 0) hx hb dX8_parent_13 rfl ?_
    refine lv_goto (tgt := 29) hx hb dX8_parent_14 (by decide) ?_
    exact wr_int E hr hk hS (by decide) (by decide) (⟨rfl, hP⟩) dX8_parent_29

set_option maxHeartbeats 4000000 in
set_option maxRecDepth 100000 in
/-- expiry -/
theorem c_X8_expiry (l : Launch) (G : CG) {B : Nat → Nat} {t bl tl ps er ea eo ud ns ne se : Int32} {bf da dr : Nat → Int32} {hi : Nat → Nat → Int32} {sk : Nat → Int64} (hD : MD G B) (x : Int32) (k : Nat) (ex : x = nI k) (hk9 : k < 12) (hin9 : inV x 0 (da 0 - 1) = 1) : Wr l yX8_expiry cX8_expiry 2 ((Option.some FieldType.int)) 2 43 0 0 G [.ref (B 0), .int x] (MW G B (fm t bl tl ps er ea eo ud ns ne se) bf da dr hi sk) (MA B) (fun v9 H9 => v9 = some (.int (da (cP k + 3))) ∧ MW G B (fm 0 bl tl ps er ea eo ud ns ne se) bf da dr hi sk H9) := by
  refine Wr.ofW (by decide) (Nat.le_of_ble_eq_true rfl) (fun p e s m below meth c ls E hG hE hP hr hk hin hl => ?_)
  have hS : va_S (MA B) s.heap s.heap [] := va_S.rf
  have hx := E.1
  have hb := E.2.1
  have hl : lv_has ls 2 [(0, .ref (B 0)), (1, .int x)] := hl
  refine lv_aload_n hx hb dX8_expiry_0 rfl (lv_at hl 0 rfl) ?_
  refine lv_iconst (v := 0) hx hb dX8_expiry_1 rfl ?_
  refine pf_X8_32 E hG hP.1 (Nat.le_of_ble_eq_true rfl) rfl rfl hS ⟨0, by decide, rfl⟩ dX8_expiry_2 (fun H locs ho hz oq hS => ?_)
  have hP : MW G B (fm 0 bl tl ps er ea eo ud ns ne se) bf da dr hi sk H := hP.setO hD ho oq
  refine lv_aload_n hx hb dX8_expiry_5 rfl (lv_at hl 0 rfl) ?_
  refine lv_iload_n hx hb dX8_expiry_6 rfl (lv_at hl 1 rfl) ?_
  refine Wr.callV (rest := []) (c_X8_noCredit l G hD x hin9) yk_X8_noCredit E km_X8_179 dX8_expiry_7 hG (hE.S hS hD.efa) hP (At.recv hG hP.1 rfl) rfl rfl hl.1 ⟨Nat.le_of_ble_eq_true rfl, Nat.le_of_ble_eq_true rfl⟩ ⟨Nat.le_of_ble_eq_true rfl, Nat.le_of_ble_eq_true rfl⟩ (Nat.le_of_ble_eq_true rfl) hS (fun _ h9 => h9) (fun v9 H locs hq hz9 hfr9 hS => ?_)
  obtain ⟨rfl, hP⟩ := hq
  refine lv_if_eq (tgt := 17) hx hb dX8_expiry_10 (by decide) (fun c_10 => ?_) (fun c_10 => ?_)
  · refine lv_aload_n hx hb dX8_expiry_17 rfl (lv_at hl 0 rfl) ?_
    refine gf_X8_17 (v := .ref (B 2)) E hG hP.1 rfl dX8_expiry_18 ?_
    refine lv_iload_n hx hb dX8_expiry_21 rfl (lv_at hl 1 rfl) ?_
    refine Rd.callS (rest := [.ref (B 2)]) (c_X8_credit l G x) yk_X8_credit E km_X8_126 dX8_expiry_22 hG (hE.S hS hD.efa) trivial rfl rfl hl.1 ⟨Nat.le_of_ble_eq_true rfl, Nat.le_of_ble_eq_true rfl⟩ ⟨Nat.zero_le _, Nat.zero_le _⟩ (Nat.le_of_ble_eq_true rfl) ?_
    refine lv_iconst (v := 3) hx hb dX8_expiry_25 rfl ?_
    refine lv_iadd hx hb dX8_expiry_26 ?_
    refine g_ild ((22 + 11 * k) + 3) E hG hP.2.2.1 (ixq (nI_ad (nI_ad rfl (nI_mu rfl ex)) rfl)) (by omega) (by decide) dX8_expiry_27 ?_
    exact wr_int E hr hk hS (by decide) (by decide) (⟨rfl, hP⟩) dX8_expiry_28
  · exact absurd c_10 (by decide)

set_option maxHeartbeats 4000000 in
set_option maxRecDepth 100000 in
/-- expiry -/
theorem c_X8_expiry_x (l : Launch) (G : CG) {B : Nat → Nat} {t bl tl ps er ea eo ud ns ne se : Int32} {bf da dr : Nat → Int32} {hi : Nat → Nat → Int32} {sk : Nat → Int64} (hD : MD G B) (x : Int32) (hin9 : inV x 0 (da 0 - 1) = 0) : Wr l yX8_expiry cX8_expiry 2 ((Option.some FieldType.int)) 2 43 0 0 G [.ref (B 0), .int x] (MW G B (fm t bl tl ps er ea eo ud ns ne se) bf da dr hi sk) (MA B) (fun v9 H9 => v9 = some (.int 0) ∧ MW G B (fm 1 bl tl ps er ea eo ud ns ne se) bf da dr hi sk H9) := by
  refine Wr.ofW (by decide) (Nat.le_of_ble_eq_true rfl) (fun p e s m below meth c ls E hG hE hP hr hk hin hl => ?_)
  have hS : va_S (MA B) s.heap s.heap [] := va_S.rf
  have hx := E.1
  have hb := E.2.1
  have hl : lv_has ls 2 [(0, .ref (B 0)), (1, .int x)] := hl
  refine lv_aload_n hx hb dX8_expiry_0 rfl (lv_at hl 0 rfl) ?_
  refine lv_iconst (v := 0) hx hb dX8_expiry_1 rfl ?_
  refine pf_X8_32 E hG hP.1 (Nat.le_of_ble_eq_true rfl) rfl rfl hS ⟨0, by decide, rfl⟩ dX8_expiry_2 (fun H locs ho hz oq hS => ?_)
  have hP : MW G B (fm 0 bl tl ps er ea eo ud ns ne se) bf da dr hi sk H := hP.setO hD ho oq
  refine lv_aload_n hx hb dX8_expiry_5 rfl (lv_at hl 0 rfl) ?_
  refine lv_iload_n hx hb dX8_expiry_6 rfl (lv_at hl 1 rfl) ?_
  refine Wr.callV (rest := []) (c_X8_noCredit_x l G hD x hin9) yk_X8_noCredit E km_X8_179 dX8_expiry_7 hG (hE.S hS hD.efa) hP (At.recv hG hP.1 rfl) rfl rfl hl.1 ⟨Nat.le_of_ble_eq_true rfl, Nat.le_of_ble_eq_true rfl⟩ ⟨Nat.le_of_ble_eq_true rfl, Nat.le_of_ble_eq_true rfl⟩ (Nat.le_of_ble_eq_true rfl) hS (fun _ h9 => h9) (fun v9 H locs hq hz9 hfr9 hS => ?_)
  obtain ⟨rfl, hP⟩ := hq
  refine lv_if_eq (tgt := 17) hx hb dX8_expiry_10 (by decide) (fun c_10 => ?_) (fun c_10 => ?_)
  · exact absurd c_10 (by decide)
  · refine lv_iconst (v := 0) hx hb dX8_expiry_13 rfl ?_
    refine lv_goto (tgt := 28) hx hb dX8_expiry_14 (by decide) ?_
    exact wr_int E hr hk hS (by decide) (by decide) (⟨rfl, hP⟩) dX8_expiry_28

set_option maxHeartbeats 4000000 in
set_option maxRecDepth 100000 in
/-- bound -/
theorem c_X8_bound (l : Launch) (G : CG) {B : Nat → Nat} {t bl tl ps er ea eo ud ns ne se : Int32} {bf da dr : Nat → Int32} {hi : Nat → Nat → Int32} {sk : Nat → Int64} (hD : MD G B) (x : Int32) (k : Nat) (ex : x = nI k) (hk9 : k < 12) (hin9 : inV x 0 (da 0 - 1) = 1) (z : Int32) : Wr l yX8_bound cX8_bound 3 ((Option.some FieldType.int)) 2 43 0 0 G [.ref (B 0), .int x, .int z] (MW G B (fm t bl tl ps er ea eo ud ns ne se) bf da dr hi sk) (MA B) (fun v9 H9 => v9 = some (.int (if z = 0 then leastV da k else mostV da k)) ∧ MW G B (fm 0 bl tl ps er ea eo ud ns ne se) bf da dr hi sk H9) := by
  refine Wr.ofW (by decide) (Nat.le_of_ble_eq_true rfl) (fun p e s m below meth c ls E hG hE hP hr hk hin hl => ?_)
  have hS : va_S (MA B) s.heap s.heap [] := va_S.rf
  have hx := E.1
  have hb := E.2.1
  have hl : lv_has ls 3 [(0, .ref (B 0)), (1, .int x), (2, .int z)] := hl
  refine lv_aload_n hx hb dX8_bound_0 rfl (lv_at hl 0 rfl) ?_
  refine lv_iconst (v := 0) hx hb dX8_bound_1 rfl ?_
  refine pf_X8_32 E hG hP.1 (Nat.le_of_ble_eq_true rfl) rfl rfl hS ⟨0, by decide, rfl⟩ dX8_bound_2 (fun H locs ho hz oq hS => ?_)
  have hP : MW G B (fm 0 bl tl ps er ea eo ud ns ne se) bf da dr hi sk H := hP.setO hD ho oq
  refine lv_aload_n hx hb dX8_bound_5 rfl (lv_at hl 0 rfl) ?_
  refine lv_iload_n hx hb dX8_bound_6 rfl (lv_at hl 1 rfl) ?_
  refine Wr.callV (rest := []) (c_X8_noCredit l G hD x hin9) yk_X8_noCredit E km_X8_179 dX8_bound_7 hG (hE.S hS hD.efa) hP (At.recv hG hP.1 rfl) rfl rfl hl.1 ⟨Nat.le_of_ble_eq_true rfl, Nat.le_of_ble_eq_true rfl⟩ ⟨Nat.le_of_ble_eq_true rfl, Nat.le_of_ble_eq_true rfl⟩ (Nat.le_of_ble_eq_true rfl) hS (fun _ h9 => h9) (fun v9 H locs hq hz9 hfr9 hS => ?_)
  obtain ⟨rfl, hP⟩ := hq
  refine lv_if_eq (tgt := 17) hx hb dX8_bound_10 (by decide) (fun c_10 => ?_) (fun c_10 => ?_)
  · refine lv_iload_n hx hb dX8_bound_17 rfl (lv_at hl 2 rfl) ?_
    refine lv_if_eq (tgt := 29) hx hb dX8_bound_18 (by decide) (fun c_18 => ?_) (fun c_18 => ?_)
    · refine lv_aload_n hx hb dX8_bound_29 rfl (lv_at hl 0 rfl) ?_
      refine lv_iload_n hx hb dX8_bound_30 rfl (lv_at hl 1 rfl) ?_
      refine Rd.callV (rest := []) (c_X8_least l G x k ex (by omega)) yk_X8_least E km_X8_185 dX8_bound_31 hG (hE.S hS hD.efa) hP (At.recv hG hP.1 rfl) rfl rfl hl.1 ⟨Nat.le_of_ble_eq_true rfl, Nat.le_of_ble_eq_true rfl⟩ ⟨Nat.zero_le _, Nat.zero_le _⟩ (Nat.le_of_ble_eq_true rfl) ?_
      exact wr_int E hr hk hS (by decide) (by decide) (⟨by first | (simp only [c_18, ↓reduceIte, not_true_eq_false, not_false_eq_true]; done) | (simp [c_18]; done), hP⟩) dX8_bound_34
    · refine lv_aload_n hx hb dX8_bound_21 rfl (lv_at hl 0 rfl) ?_
      refine lv_iload_n hx hb dX8_bound_22 rfl (lv_at hl 1 rfl) ?_
      refine Rd.callV (rest := []) (c_X8_most l G x k ex (by omega)) yk_X8_most E km_X8_182 dX8_bound_23 hG (hE.S hS hD.efa) hP (At.recv hG hP.1 rfl) rfl rfl hl.1 ⟨Nat.le_of_ble_eq_true rfl, Nat.le_of_ble_eq_true rfl⟩ ⟨Nat.zero_le _, Nat.zero_le _⟩ (Nat.le_of_ble_eq_true rfl) ?_
      refine lv_goto (tgt := 34) hx hb dX8_bound_26 (by decide) ?_
      exact wr_int E hr hk hS (by decide) (by decide) (⟨by first | (simp only [c_18, ↓reduceIte, not_true_eq_false, not_false_eq_true]; done) | (simp [c_18]; done), hP⟩) dX8_bound_34
  · exact absurd c_10 (by decide)

set_option maxHeartbeats 4000000 in
set_option maxRecDepth 100000 in
/-- bound -/
theorem c_X8_bound_x (l : Launch) (G : CG) {B : Nat → Nat} {t bl tl ps er ea eo ud ns ne se : Int32} {bf da dr : Nat → Int32} {hi : Nat → Nat → Int32} {sk : Nat → Int64} (hD : MD G B) (x : Int32) (hin9 : inV x 0 (da 0 - 1) = 0) (z : Int32) : Wr l yX8_bound cX8_bound 3 ((Option.some FieldType.int)) 2 43 0 0 G [.ref (B 0), .int x, .int z] (MW G B (fm t bl tl ps er ea eo ud ns ne se) bf da dr hi sk) (MA B) (fun v9 H9 => v9 = some (.int 0) ∧ MW G B (fm 1 bl tl ps er ea eo ud ns ne se) bf da dr hi sk H9) := by
  refine Wr.ofW (by decide) (Nat.le_of_ble_eq_true rfl) (fun p e s m below meth c ls E hG hE hP hr hk hin hl => ?_)
  have hS : va_S (MA B) s.heap s.heap [] := va_S.rf
  have hx := E.1
  have hb := E.2.1
  have hl : lv_has ls 3 [(0, .ref (B 0)), (1, .int x), (2, .int z)] := hl
  refine lv_aload_n hx hb dX8_bound_0 rfl (lv_at hl 0 rfl) ?_
  refine lv_iconst (v := 0) hx hb dX8_bound_1 rfl ?_
  refine pf_X8_32 E hG hP.1 (Nat.le_of_ble_eq_true rfl) rfl rfl hS ⟨0, by decide, rfl⟩ dX8_bound_2 (fun H locs ho hz oq hS => ?_)
  have hP : MW G B (fm 0 bl tl ps er ea eo ud ns ne se) bf da dr hi sk H := hP.setO hD ho oq
  refine lv_aload_n hx hb dX8_bound_5 rfl (lv_at hl 0 rfl) ?_
  refine lv_iload_n hx hb dX8_bound_6 rfl (lv_at hl 1 rfl) ?_
  refine Wr.callV (rest := []) (c_X8_noCredit_x l G hD x hin9) yk_X8_noCredit E km_X8_179 dX8_bound_7 hG (hE.S hS hD.efa) hP (At.recv hG hP.1 rfl) rfl rfl hl.1 ⟨Nat.le_of_ble_eq_true rfl, Nat.le_of_ble_eq_true rfl⟩ ⟨Nat.le_of_ble_eq_true rfl, Nat.le_of_ble_eq_true rfl⟩ (Nat.le_of_ble_eq_true rfl) hS (fun _ h9 => h9) (fun v9 H locs hq hz9 hfr9 hS => ?_)
  obtain ⟨rfl, hP⟩ := hq
  refine lv_if_eq (tgt := 17) hx hb dX8_bound_10 (by decide) (fun c_10 => ?_) (fun c_10 => ?_)
  · exact absurd c_10 (by decide)
  · refine lv_iconst (v := 0) hx hb dX8_bound_13 rfl ?_
    refine lv_goto (tgt := 34) hx hb dX8_bound_14 (by decide) ?_
    exact wr_int E hr hk hS (by decide) (by decide) (⟨rfl, hP⟩) dX8_bound_34

set_option maxHeartbeats 4000000 in
set_option maxRecDepth 100000 in
/-- drawn -/
theorem c_X8_drawn (l : Launch) (G : CG) {B : Nat → Nat} {t bl tl ps er ea eo ud ns ne se : Int32} {bf da dr : Nat → Int32} {hi : Nat → Nat → Int32} {sk : Nat → Int64} (hD : MD G B) (x : Int32) (k : Nat) (ex : x = nI k) (hk9 : k < 12) (hin9 : inV x 0 (da 0 - 1) = 1) (np : Nat) (h1 : da 1 = nI np) (hp0 : np ≤ 24) : Wr l yX8_drawn cX8_drawn 2 ((Option.some FieldType.int)) 3 65 0 0 G [.ref (B 0), .int x] (MW G B (fm t bl tl ps er ea eo ud ns ne se) bf da dr hi sk) (MA B) (fun v9 H9 => v9 = some (.int (drawnV da x np)) ∧ MW G B (fm 0 bl tl ps er ea eo ud ns ne se) bf da dr hi sk H9) := by
  refine Wr.ofW (by decide) (Nat.le_of_ble_eq_true rfl) (fun p e s m below meth c ls E hG hE hP hr hk hin hl => ?_)
  have hS : va_S (MA B) s.heap s.heap [] := va_S.rf
  have hx := E.1
  have hb := E.2.1
  have hl : lv_has ls 2 [(0, .ref (B 0)), (1, .int x)] := hl
  refine lv_aload_n hx hb dX8_drawn_0 rfl (lv_at hl 0 rfl) ?_
  refine lv_iconst (v := 0) hx hb dX8_drawn_1 rfl ?_
  refine pf_X8_32 E hG hP.1 (Nat.le_of_ble_eq_true rfl) rfl rfl hS ⟨0, by decide, rfl⟩ dX8_drawn_2 (fun H locs ho hz oq hS => ?_)
  have hP : MW G B (fm 0 bl tl ps er ea eo ud ns ne se) bf da dr hi sk H := hP.setO hD ho oq
  refine lv_aload_n hx hb dX8_drawn_5 rfl (lv_at hl 0 rfl) ?_
  refine lv_iload_n hx hb dX8_drawn_6 rfl (lv_at hl 1 rfl) ?_
  refine Wr.callV (rest := []) (c_X8_noCredit l G hD x hin9) yk_X8_noCredit E km_X8_179 dX8_drawn_7 hG (hE.S hS hD.efa) hP (At.recv hG hP.1 rfl) rfl rfl hl.1 ⟨Nat.le_of_ble_eq_true rfl, Nat.le_of_ble_eq_true rfl⟩ ⟨Nat.le_of_ble_eq_true rfl, Nat.le_of_ble_eq_true rfl⟩ (Nat.le_of_ble_eq_true rfl) hS (fun _ h9 => h9) (fun v9 H locs hq hz9 hfr9 hS => ?_)
  obtain ⟨rfl, hP⟩ := hq
  refine lv_if_eq (tgt := 17) hx hb dX8_drawn_10 (by decide) (fun c_10 => ?_) (fun c_10 => ?_)
  · refine lv_aload_n hx hb dX8_drawn_17 rfl (lv_at hl 0 rfl) ?_
    refine lv_iload_n hx hb dX8_drawn_18 rfl (lv_at hl 1 rfl) ?_
    refine Rd.callV (rest := []) (c_X8_drawnOf l G x np h1 hp0) yk_X8_drawnOf E km_X8_195 dX8_drawn_19 hG (hE.S hS hD.efa) hP (At.recv hG hP.1 rfl) rfl rfl hl.1 ⟨Nat.le_of_ble_eq_true rfl, Nat.le_of_ble_eq_true rfl⟩ ⟨Nat.zero_le _, Nat.zero_le _⟩ (Nat.le_of_ble_eq_true rfl) ?_
    exact wr_int E hr hk hS (by decide) (by decide) (⟨rfl, hP⟩) dX8_drawn_22
  · exact absurd c_10 (by decide)

set_option maxHeartbeats 4000000 in
set_option maxRecDepth 100000 in
/-- drawn -/
theorem c_X8_drawn_x (l : Launch) (G : CG) {B : Nat → Nat} {t bl tl ps er ea eo ud ns ne se : Int32} {bf da dr : Nat → Int32} {hi : Nat → Nat → Int32} {sk : Nat → Int64} (hD : MD G B) (x : Int32) (hin9 : inV x 0 (da 0 - 1) = 0) : Wr l yX8_drawn cX8_drawn 2 ((Option.some FieldType.int)) 2 43 0 0 G [.ref (B 0), .int x] (MW G B (fm t bl tl ps er ea eo ud ns ne se) bf da dr hi sk) (MA B) (fun v9 H9 => v9 = some (.int 0) ∧ MW G B (fm 1 bl tl ps er ea eo ud ns ne se) bf da dr hi sk H9) := by
  refine Wr.ofW (by decide) (Nat.le_of_ble_eq_true rfl) (fun p e s m below meth c ls E hG hE hP hr hk hin hl => ?_)
  have hS : va_S (MA B) s.heap s.heap [] := va_S.rf
  have hx := E.1
  have hb := E.2.1
  have hl : lv_has ls 2 [(0, .ref (B 0)), (1, .int x)] := hl
  refine lv_aload_n hx hb dX8_drawn_0 rfl (lv_at hl 0 rfl) ?_
  refine lv_iconst (v := 0) hx hb dX8_drawn_1 rfl ?_
  refine pf_X8_32 E hG hP.1 (Nat.le_of_ble_eq_true rfl) rfl rfl hS ⟨0, by decide, rfl⟩ dX8_drawn_2 (fun H locs ho hz oq hS => ?_)
  have hP : MW G B (fm 0 bl tl ps er ea eo ud ns ne se) bf da dr hi sk H := hP.setO hD ho oq
  refine lv_aload_n hx hb dX8_drawn_5 rfl (lv_at hl 0 rfl) ?_
  refine lv_iload_n hx hb dX8_drawn_6 rfl (lv_at hl 1 rfl) ?_
  refine Wr.callV (rest := []) (c_X8_noCredit_x l G hD x hin9) yk_X8_noCredit E km_X8_179 dX8_drawn_7 hG (hE.S hS hD.efa) hP (At.recv hG hP.1 rfl) rfl rfl hl.1 ⟨Nat.le_of_ble_eq_true rfl, Nat.le_of_ble_eq_true rfl⟩ ⟨Nat.le_of_ble_eq_true rfl, Nat.le_of_ble_eq_true rfl⟩ (Nat.le_of_ble_eq_true rfl) hS (fun _ h9 => h9) (fun v9 H locs hq hz9 hfr9 hS => ?_)
  obtain ⟨rfl, hP⟩ := hq
  refine lv_if_eq (tgt := 17) hx hb dX8_drawn_10 (by decide) (fun c_10 => ?_) (fun c_10 => ?_)
  · exact absurd c_10 (by decide)
  · refine lv_iconst (v := 0) hx hb dX8_drawn_13 rfl ?_
    refine lv_goto (tgt := 22) hx hb dX8_drawn_14 (by decide) ?_
    exact wr_int E hr hk hS (by decide) (by decide) (⟨rfl, hP⟩) dX8_drawn_22

set_option maxHeartbeats 4000000 in
set_option maxRecDepth 100000 in
/-- transferred -/
theorem c_X8_transferred (l : Launch) (G : CG) {B : Nat → Nat} {t bl tl ps er ea eo ud ns ne se : Int32} {bf da dr : Nat → Int32} {hi : Nat → Nat → Int32} {sk : Nat → Int64} (hD : MD G B) (x : Int32) (k : Nat) (ex : x = nI k) (hk9 : k < 12) (hin9 : inV x 0 (da 0 - 1) = 1) (nc : Nat) (h0 : da 0 = nI nc) (hc0 : nc ≤ 12) : Wr l yX8_transferred cX8_transferred 2 ((Option.some FieldType.int)) 2 43 0 0 G [.ref (B 0), .int x] (MW G B (fm t bl tl ps er ea eo ud ns ne se) bf da dr hi sk) (MA B) (fun v9 H9 => v9 = some (.int (transV da x nc)) ∧ MW G B (fm 0 bl tl ps er ea eo ud ns ne se) bf da dr hi sk H9) := by
  refine Wr.ofW (by decide) (Nat.le_of_ble_eq_true rfl) (fun p e s m below meth c ls E hG hE hP hr hk hin hl => ?_)
  have hS : va_S (MA B) s.heap s.heap [] := va_S.rf
  have hx := E.1
  have hb := E.2.1
  have hl : lv_has ls 2 [(0, .ref (B 0)), (1, .int x)] := hl
  refine lv_aload_n hx hb dX8_transferred_0 rfl (lv_at hl 0 rfl) ?_
  refine lv_iconst (v := 0) hx hb dX8_transferred_1 rfl ?_
  refine pf_X8_32 E hG hP.1 (Nat.le_of_ble_eq_true rfl) rfl rfl hS ⟨0, by decide, rfl⟩ dX8_transferred_2 (fun H locs ho hz oq hS => ?_)
  have hP : MW G B (fm 0 bl tl ps er ea eo ud ns ne se) bf da dr hi sk H := hP.setO hD ho oq
  refine lv_aload_n hx hb dX8_transferred_5 rfl (lv_at hl 0 rfl) ?_
  refine lv_iload_n hx hb dX8_transferred_6 rfl (lv_at hl 1 rfl) ?_
  refine Wr.callV (rest := []) (c_X8_noCredit l G hD x hin9) yk_X8_noCredit E km_X8_179 dX8_transferred_7 hG (hE.S hS hD.efa) hP (At.recv hG hP.1 rfl) rfl rfl hl.1 ⟨Nat.le_of_ble_eq_true rfl, Nat.le_of_ble_eq_true rfl⟩ ⟨Nat.le_of_ble_eq_true rfl, Nat.le_of_ble_eq_true rfl⟩ (Nat.le_of_ble_eq_true rfl) hS (fun _ h9 => h9) (fun v9 H locs hq hz9 hfr9 hS => ?_)
  obtain ⟨rfl, hP⟩ := hq
  refine lv_if_eq (tgt := 17) hx hb dX8_transferred_10 (by decide) (fun c_10 => ?_) (fun c_10 => ?_)
  · refine lv_aload_n hx hb dX8_transferred_17 rfl (lv_at hl 0 rfl) ?_
    refine lv_iload_n hx hb dX8_transferred_18 rfl (lv_at hl 1 rfl) ?_
    refine Rd.callV (rest := []) (c_X8_transferredOf l G x nc h0 hc0) yk_X8_transferredOf E km_X8_198 dX8_transferred_19 hG (hE.S hS hD.efa) hP (At.recv hG hP.1 rfl) rfl rfl hl.1 ⟨Nat.le_of_ble_eq_true rfl, Nat.le_of_ble_eq_true rfl⟩ ⟨Nat.zero_le _, Nat.zero_le _⟩ (Nat.le_of_ble_eq_true rfl) ?_
    exact wr_int E hr hk hS (by decide) (by decide) (⟨rfl, hP⟩) dX8_transferred_22
  · exact absurd c_10 (by decide)

set_option maxHeartbeats 4000000 in
set_option maxRecDepth 100000 in
/-- transferred -/
theorem c_X8_transferred_x (l : Launch) (G : CG) {B : Nat → Nat} {t bl tl ps er ea eo ud ns ne se : Int32} {bf da dr : Nat → Int32} {hi : Nat → Nat → Int32} {sk : Nat → Int64} (hD : MD G B) (x : Int32) (hin9 : inV x 0 (da 0 - 1) = 0) : Wr l yX8_transferred cX8_transferred 2 ((Option.some FieldType.int)) 2 43 0 0 G [.ref (B 0), .int x] (MW G B (fm t bl tl ps er ea eo ud ns ne se) bf da dr hi sk) (MA B) (fun v9 H9 => v9 = some (.int 0) ∧ MW G B (fm 1 bl tl ps er ea eo ud ns ne se) bf da dr hi sk H9) := by
  refine Wr.ofW (by decide) (Nat.le_of_ble_eq_true rfl) (fun p e s m below meth c ls E hG hE hP hr hk hin hl => ?_)
  have hS : va_S (MA B) s.heap s.heap [] := va_S.rf
  have hx := E.1
  have hb := E.2.1
  have hl : lv_has ls 2 [(0, .ref (B 0)), (1, .int x)] := hl
  refine lv_aload_n hx hb dX8_transferred_0 rfl (lv_at hl 0 rfl) ?_
  refine lv_iconst (v := 0) hx hb dX8_transferred_1 rfl ?_
  refine pf_X8_32 E hG hP.1 (Nat.le_of_ble_eq_true rfl) rfl rfl hS ⟨0, by decide, rfl⟩ dX8_transferred_2 (fun H locs ho hz oq hS => ?_)
  have hP : MW G B (fm 0 bl tl ps er ea eo ud ns ne se) bf da dr hi sk H := hP.setO hD ho oq
  refine lv_aload_n hx hb dX8_transferred_5 rfl (lv_at hl 0 rfl) ?_
  refine lv_iload_n hx hb dX8_transferred_6 rfl (lv_at hl 1 rfl) ?_
  refine Wr.callV (rest := []) (c_X8_noCredit_x l G hD x hin9) yk_X8_noCredit E km_X8_179 dX8_transferred_7 hG (hE.S hS hD.efa) hP (At.recv hG hP.1 rfl) rfl rfl hl.1 ⟨Nat.le_of_ble_eq_true rfl, Nat.le_of_ble_eq_true rfl⟩ ⟨Nat.le_of_ble_eq_true rfl, Nat.le_of_ble_eq_true rfl⟩ (Nat.le_of_ble_eq_true rfl) hS (fun _ h9 => h9) (fun v9 H locs hq hz9 hfr9 hS => ?_)
  obtain ⟨rfl, hP⟩ := hq
  refine lv_if_eq (tgt := 17) hx hb dX8_transferred_10 (by decide) (fun c_10 => ?_) (fun c_10 => ?_)
  · exact absurd c_10 (by decide)
  · refine lv_iconst (v := 0) hx hb dX8_transferred_13 rfl ?_
    refine lv_goto (tgt := 22) hx hb dX8_transferred_14 (by decide) ?_
    exact wr_int E hr hk hS (by decide) (by decide) (⟨rfl, hP⟩) dX8_transferred_22

set_option maxHeartbeats 4000000 in
set_option maxRecDepth 100000 in
/-- available -/
theorem c_X8_available (l : Launch) (G : CG) {B : Nat → Nat} {t bl tl ps er ea eo ud ns ne se : Int32} {bf da dr : Nat → Int32} {hi : Nat → Nat → Int32} {sk : Nat → Int64} (hD : MD G B) (x : Int32) (k : Nat) (ex : x = nI k) (hk9 : k < 12) (hin9 : inV x 0 (da 0 - 1) = 1) (np nc : Nat) (h1 : da 1 = nI np) (hp0 : np ≤ 24) (h0 : da 0 = nI nc) (hc0 : nc ≤ 12) : Wr l yX8_available cX8_available 2 ((Option.some FieldType.int)) 4 86 0 0 G [.ref (B 0), .int x] (MW G B (fm t bl tl ps er ea eo ud ns ne se) bf da dr hi sk) (MA B) (fun v9 H9 => v9 = some (.int (availV da np nc k)) ∧ MW G B (fm 0 bl tl ps er ea eo ud ns ne se) bf da dr hi sk H9) := by
  refine Wr.ofW (by decide) (Nat.le_of_ble_eq_true rfl) (fun p e s m below meth c ls E hG hE hP hr hk hin hl => ?_)
  have hS : va_S (MA B) s.heap s.heap [] := va_S.rf
  have hx := E.1
  have hb := E.2.1
  have hl : lv_has ls 2 [(0, .ref (B 0)), (1, .int x)] := hl
  refine lv_aload_n hx hb dX8_available_0 rfl (lv_at hl 0 rfl) ?_
  refine lv_iconst (v := 0) hx hb dX8_available_1 rfl ?_
  refine pf_X8_32 E hG hP.1 (Nat.le_of_ble_eq_true rfl) rfl rfl hS ⟨0, by decide, rfl⟩ dX8_available_2 (fun H locs ho hz oq hS => ?_)
  have hP : MW G B (fm 0 bl tl ps er ea eo ud ns ne se) bf da dr hi sk H := hP.setO hD ho oq
  refine lv_aload_n hx hb dX8_available_5 rfl (lv_at hl 0 rfl) ?_
  refine lv_iload_n hx hb dX8_available_6 rfl (lv_at hl 1 rfl) ?_
  refine Wr.callV (rest := []) (c_X8_noCredit l G hD x hin9) yk_X8_noCredit E km_X8_179 dX8_available_7 hG (hE.S hS hD.efa) hP (At.recv hG hP.1 rfl) rfl rfl hl.1 ⟨Nat.le_of_ble_eq_true rfl, Nat.le_of_ble_eq_true rfl⟩ ⟨Nat.le_of_ble_eq_true rfl, Nat.le_of_ble_eq_true rfl⟩ (Nat.le_of_ble_eq_true rfl) hS (fun _ h9 => h9) (fun v9 H locs hq hz9 hfr9 hS => ?_)
  obtain ⟨rfl, hP⟩ := hq
  refine lv_if_eq (tgt := 17) hx hb dX8_available_10 (by decide) (fun c_10 => ?_) (fun c_10 => ?_)
  · refine lv_aload_n hx hb dX8_available_17 rfl (lv_at hl 0 rfl) ?_
    refine lv_iload_n hx hb dX8_available_18 rfl (lv_at hl 1 rfl) ?_
    refine Rd.callV (rest := []) (c_X8_availableOf l G x k np nc ex (by omega) h1 hp0 h0 hc0) yk_X8_availableOf E km_X8_201 dX8_available_19 hG (hE.S hS hD.efa) hP (At.recv hG hP.1 rfl) rfl rfl hl.1 ⟨Nat.le_of_ble_eq_true rfl, Nat.le_of_ble_eq_true rfl⟩ ⟨Nat.zero_le _, Nat.zero_le _⟩ (Nat.le_of_ble_eq_true rfl) ?_
    exact wr_int E hr hk hS (by decide) (by decide) (⟨rfl, hP⟩) dX8_available_22
  · exact absurd c_10 (by decide)

set_option maxHeartbeats 4000000 in
set_option maxRecDepth 100000 in
/-- available -/
theorem c_X8_available_x (l : Launch) (G : CG) {B : Nat → Nat} {t bl tl ps er ea eo ud ns ne se : Int32} {bf da dr : Nat → Int32} {hi : Nat → Nat → Int32} {sk : Nat → Int64} (hD : MD G B) (x : Int32) (hin9 : inV x 0 (da 0 - 1) = 0) : Wr l yX8_available cX8_available 2 ((Option.some FieldType.int)) 2 43 0 0 G [.ref (B 0), .int x] (MW G B (fm t bl tl ps er ea eo ud ns ne se) bf da dr hi sk) (MA B) (fun v9 H9 => v9 = some (.int 0) ∧ MW G B (fm 1 bl tl ps er ea eo ud ns ne se) bf da dr hi sk H9) := by
  refine Wr.ofW (by decide) (Nat.le_of_ble_eq_true rfl) (fun p e s m below meth c ls E hG hE hP hr hk hin hl => ?_)
  have hS : va_S (MA B) s.heap s.heap [] := va_S.rf
  have hx := E.1
  have hb := E.2.1
  have hl : lv_has ls 2 [(0, .ref (B 0)), (1, .int x)] := hl
  refine lv_aload_n hx hb dX8_available_0 rfl (lv_at hl 0 rfl) ?_
  refine lv_iconst (v := 0) hx hb dX8_available_1 rfl ?_
  refine pf_X8_32 E hG hP.1 (Nat.le_of_ble_eq_true rfl) rfl rfl hS ⟨0, by decide, rfl⟩ dX8_available_2 (fun H locs ho hz oq hS => ?_)
  have hP : MW G B (fm 0 bl tl ps er ea eo ud ns ne se) bf da dr hi sk H := hP.setO hD ho oq
  refine lv_aload_n hx hb dX8_available_5 rfl (lv_at hl 0 rfl) ?_
  refine lv_iload_n hx hb dX8_available_6 rfl (lv_at hl 1 rfl) ?_
  refine Wr.callV (rest := []) (c_X8_noCredit_x l G hD x hin9) yk_X8_noCredit E km_X8_179 dX8_available_7 hG (hE.S hS hD.efa) hP (At.recv hG hP.1 rfl) rfl rfl hl.1 ⟨Nat.le_of_ble_eq_true rfl, Nat.le_of_ble_eq_true rfl⟩ ⟨Nat.le_of_ble_eq_true rfl, Nat.le_of_ble_eq_true rfl⟩ (Nat.le_of_ble_eq_true rfl) hS (fun _ h9 => h9) (fun v9 H locs hq hz9 hfr9 hS => ?_)
  obtain ⟨rfl, hP⟩ := hq
  refine lv_if_eq (tgt := 17) hx hb dX8_available_10 (by decide) (fun c_10 => ?_) (fun c_10 => ?_)
  · exact absurd c_10 (by decide)
  · refine lv_iconst (v := 0) hx hb dX8_available_13 rfl ?_
    refine lv_goto (tgt := 22) hx hb dX8_available_14 (by decide) ?_
    exact wr_int E hr hk hS (by decide) (by decide) (⟨rfl, hP⟩) dX8_available_22

set_option maxHeartbeats 4000000 in
set_option maxRecDepth 100000 in
/-- creditOf -/
theorem c_X8_creditOf (l : Launch) (G : CG) {B : Nat → Nat} {t bl tl ps er ea eo ud ns ne se : Int32} {bf da dr : Nat → Int32} {hi : Nat → Nat → Int32} {sk : Nat → Int64} (hD : MD G B) (x : Int32) (k : Nat) (ex : x = nI k) (hk9 : k < 24) (hin9 : inV x 0 (da 1 - 1) = 1) : Wr l yX8_creditOf cX8_creditOf 2 ((Option.some FieldType.int)) 2 43 0 0 G [.ref (B 0), .int x] (MW G B (fm t bl tl ps er ea eo ud ns ne se) bf da dr hi sk) (MA B) (fun v9 H9 => v9 = some (.int (da (pP k))) ∧ MW G B (fm 0 bl tl ps er ea eo ud ns ne se) bf da dr hi sk H9) := by
  refine Wr.ofW (by decide) (Nat.le_of_ble_eq_true rfl) (fun p e s m below meth c ls E hG hE hP hr hk hin hl => ?_)
  have hS : va_S (MA B) s.heap s.heap [] := va_S.rf
  have hx := E.1
  have hb := E.2.1
  have hl : lv_has ls 2 [(0, .ref (B 0)), (1, .int x)] := hl
  refine lv_aload_n hx hb dX8_creditOf_0 rfl (lv_at hl 0 rfl) ?_
  refine lv_iconst (v := 0) hx hb dX8_creditOf_1 rfl ?_
  refine pf_X8_32 E hG hP.1 (Nat.le_of_ble_eq_true rfl) rfl rfl hS ⟨0, by decide, rfl⟩ dX8_creditOf_2 (fun H locs ho hz oq hS => ?_)
  have hP : MW G B (fm 0 bl tl ps er ea eo ud ns ne se) bf da dr hi sk H := hP.setO hD ho oq
  refine lv_aload_n hx hb dX8_creditOf_5 rfl (lv_at hl 0 rfl) ?_
  refine lv_iload_n hx hb dX8_creditOf_6 rfl (lv_at hl 1 rfl) ?_
  refine Wr.callV (rest := []) (c_X8_noPresentation l G hD x hin9) yk_X8_noPresentation E km_X8_216 dX8_creditOf_7 hG (hE.S hS hD.efa) hP (At.recv hG hP.1 rfl) rfl rfl hl.1 ⟨Nat.le_of_ble_eq_true rfl, Nat.le_of_ble_eq_true rfl⟩ ⟨Nat.le_of_ble_eq_true rfl, Nat.le_of_ble_eq_true rfl⟩ (Nat.le_of_ble_eq_true rfl) hS (fun _ h9 => h9) (fun v9 H locs hq hz9 hfr9 hS => ?_)
  obtain ⟨rfl, hP⟩ := hq
  refine lv_if_eq (tgt := 17) hx hb dX8_creditOf_10 (by decide) (fun c_10 => ?_) (fun c_10 => ?_)
  · refine lv_aload_n hx hb dX8_creditOf_17 rfl (lv_at hl 0 rfl) ?_
    refine gf_X8_17 (v := .ref (B 2)) E hG hP.1 rfl dX8_creditOf_18 ?_
    refine lv_iload_n hx hb dX8_creditOf_21 rfl (lv_at hl 1 rfl) ?_
    refine Rd.callS (rest := [.ref (B 2)]) (c_X8_presentation l G x) yk_X8_presentation E km_X8_188 dX8_creditOf_22 hG (hE.S hS hD.efa) trivial rfl rfl hl.1 ⟨Nat.le_of_ble_eq_true rfl, Nat.le_of_ble_eq_true rfl⟩ ⟨Nat.zero_le _, Nat.zero_le _⟩ (Nat.le_of_ble_eq_true rfl) ?_
    refine g_ild (154 + 6 * k) E hG hP.2.2.1 (ixq (nI_ad rfl (nI_mu rfl ex))) (by omega) (by decide) dX8_creditOf_25 ?_
    exact wr_int E hr hk hS (by decide) (by decide) (⟨rfl, hP⟩) dX8_creditOf_26
  · exact absurd c_10 (by decide)

set_option maxHeartbeats 4000000 in
set_option maxRecDepth 100000 in
/-- creditOf -/
theorem c_X8_creditOf_x (l : Launch) (G : CG) {B : Nat → Nat} {t bl tl ps er ea eo ud ns ne se : Int32} {bf da dr : Nat → Int32} {hi : Nat → Nat → Int32} {sk : Nat → Int64} (hD : MD G B) (x : Int32) (hin9 : inV x 0 (da 1 - 1) = 0) : Wr l yX8_creditOf cX8_creditOf 2 ((Option.some FieldType.int)) 2 43 0 0 G [.ref (B 0), .int x] (MW G B (fm t bl tl ps er ea eo ud ns ne se) bf da dr hi sk) (MA B) (fun v9 H9 => v9 = some (.int 0) ∧ MW G B (fm 1 bl tl ps er ea eo ud ns ne se) bf da dr hi sk H9) := by
  refine Wr.ofW (by decide) (Nat.le_of_ble_eq_true rfl) (fun p e s m below meth c ls E hG hE hP hr hk hin hl => ?_)
  have hS : va_S (MA B) s.heap s.heap [] := va_S.rf
  have hx := E.1
  have hb := E.2.1
  have hl : lv_has ls 2 [(0, .ref (B 0)), (1, .int x)] := hl
  refine lv_aload_n hx hb dX8_creditOf_0 rfl (lv_at hl 0 rfl) ?_
  refine lv_iconst (v := 0) hx hb dX8_creditOf_1 rfl ?_
  refine pf_X8_32 E hG hP.1 (Nat.le_of_ble_eq_true rfl) rfl rfl hS ⟨0, by decide, rfl⟩ dX8_creditOf_2 (fun H locs ho hz oq hS => ?_)
  have hP : MW G B (fm 0 bl tl ps er ea eo ud ns ne se) bf da dr hi sk H := hP.setO hD ho oq
  refine lv_aload_n hx hb dX8_creditOf_5 rfl (lv_at hl 0 rfl) ?_
  refine lv_iload_n hx hb dX8_creditOf_6 rfl (lv_at hl 1 rfl) ?_
  refine Wr.callV (rest := []) (c_X8_noPresentation_x l G hD x hin9) yk_X8_noPresentation E km_X8_216 dX8_creditOf_7 hG (hE.S hS hD.efa) hP (At.recv hG hP.1 rfl) rfl rfl hl.1 ⟨Nat.le_of_ble_eq_true rfl, Nat.le_of_ble_eq_true rfl⟩ ⟨Nat.le_of_ble_eq_true rfl, Nat.le_of_ble_eq_true rfl⟩ (Nat.le_of_ble_eq_true rfl) hS (fun _ h9 => h9) (fun v9 H locs hq hz9 hfr9 hS => ?_)
  obtain ⟨rfl, hP⟩ := hq
  refine lv_if_eq (tgt := 17) hx hb dX8_creditOf_10 (by decide) (fun c_10 => ?_) (fun c_10 => ?_)
  · exact absurd c_10 (by decide)
  · refine lv_iconst (v := 0) hx hb dX8_creditOf_13 rfl ?_
    refine lv_goto (tgt := 26) hx hb dX8_creditOf_14 (by decide) ?_
    exact wr_int E hr hk hS (by decide) (by decide) (⟨rfl, hP⟩) dX8_creditOf_26

set_option maxHeartbeats 4000000 in
set_option maxRecDepth 100000 in
/-- state -/
theorem c_X8_state (l : Launch) (G : CG) {B : Nat → Nat} {t bl tl ps er ea eo ud ns ne se : Int32} {bf da dr : Nat → Int32} {hi : Nat → Nat → Int32} {sk : Nat → Int64} (hD : MD G B) (x : Int32) (k : Nat) (ex : x = nI k) (hk9 : k < 24) (hin9 : inV x 0 (da 1 - 1) = 1) : Wr l yX8_state cX8_state 2 ((Option.some FieldType.int)) 2 43 0 0 G [.ref (B 0), .int x] (MW G B (fm t bl tl ps er ea eo ud ns ne se) bf da dr hi sk) (MA B) (fun v9 H9 => v9 = some (.int (da (pP k + 4))) ∧ MW G B (fm 0 bl tl ps er ea eo ud ns ne se) bf da dr hi sk H9) := by
  refine Wr.ofW (by decide) (Nat.le_of_ble_eq_true rfl) (fun p e s m below meth c ls E hG hE hP hr hk hin hl => ?_)
  have hS : va_S (MA B) s.heap s.heap [] := va_S.rf
  have hx := E.1
  have hb := E.2.1
  have hl : lv_has ls 2 [(0, .ref (B 0)), (1, .int x)] := hl
  refine lv_aload_n hx hb dX8_state_0 rfl (lv_at hl 0 rfl) ?_
  refine lv_iconst (v := 0) hx hb dX8_state_1 rfl ?_
  refine pf_X8_32 E hG hP.1 (Nat.le_of_ble_eq_true rfl) rfl rfl hS ⟨0, by decide, rfl⟩ dX8_state_2 (fun H locs ho hz oq hS => ?_)
  have hP : MW G B (fm 0 bl tl ps er ea eo ud ns ne se) bf da dr hi sk H := hP.setO hD ho oq
  refine lv_aload_n hx hb dX8_state_5 rfl (lv_at hl 0 rfl) ?_
  refine lv_iload_n hx hb dX8_state_6 rfl (lv_at hl 1 rfl) ?_
  refine Wr.callV (rest := []) (c_X8_noPresentation l G hD x hin9) yk_X8_noPresentation E km_X8_216 dX8_state_7 hG (hE.S hS hD.efa) hP (At.recv hG hP.1 rfl) rfl rfl hl.1 ⟨Nat.le_of_ble_eq_true rfl, Nat.le_of_ble_eq_true rfl⟩ ⟨Nat.le_of_ble_eq_true rfl, Nat.le_of_ble_eq_true rfl⟩ (Nat.le_of_ble_eq_true rfl) hS (fun _ h9 => h9) (fun v9 H locs hq hz9 hfr9 hS => ?_)
  obtain ⟨rfl, hP⟩ := hq
  refine lv_if_eq (tgt := 17) hx hb dX8_state_10 (by decide) (fun c_10 => ?_) (fun c_10 => ?_)
  · refine lv_aload_n hx hb dX8_state_17 rfl (lv_at hl 0 rfl) ?_
    refine gf_X8_17 (v := .ref (B 2)) E hG hP.1 rfl dX8_state_18 ?_
    refine lv_iload_n hx hb dX8_state_21 rfl (lv_at hl 1 rfl) ?_
    refine Rd.callS (rest := [.ref (B 2)]) (c_X8_presentation l G x) yk_X8_presentation E km_X8_188 dX8_state_22 hG (hE.S hS hD.efa) trivial rfl rfl hl.1 ⟨Nat.le_of_ble_eq_true rfl, Nat.le_of_ble_eq_true rfl⟩ ⟨Nat.zero_le _, Nat.zero_le _⟩ (Nat.le_of_ble_eq_true rfl) ?_
    refine lv_iconst (v := 4) hx hb dX8_state_25 rfl ?_
    refine lv_iadd hx hb dX8_state_26 ?_
    refine g_ild ((154 + 6 * k) + 4) E hG hP.2.2.1 (ixq (nI_ad (nI_ad rfl (nI_mu rfl ex)) rfl)) (by omega) (by decide) dX8_state_27 ?_
    exact wr_int E hr hk hS (by decide) (by decide) (⟨rfl, hP⟩) dX8_state_28
  · exact absurd c_10 (by decide)

set_option maxHeartbeats 4000000 in
set_option maxRecDepth 100000 in
/-- state -/
theorem c_X8_state_x (l : Launch) (G : CG) {B : Nat → Nat} {t bl tl ps er ea eo ud ns ne se : Int32} {bf da dr : Nat → Int32} {hi : Nat → Nat → Int32} {sk : Nat → Int64} (hD : MD G B) (x : Int32) (hin9 : inV x 0 (da 1 - 1) = 0) : Wr l yX8_state cX8_state 2 ((Option.some FieldType.int)) 2 43 0 0 G [.ref (B 0), .int x] (MW G B (fm t bl tl ps er ea eo ud ns ne se) bf da dr hi sk) (MA B) (fun v9 H9 => v9 = some (.int 0) ∧ MW G B (fm 1 bl tl ps er ea eo ud ns ne se) bf da dr hi sk H9) := by
  refine Wr.ofW (by decide) (Nat.le_of_ble_eq_true rfl) (fun p e s m below meth c ls E hG hE hP hr hk hin hl => ?_)
  have hS : va_S (MA B) s.heap s.heap [] := va_S.rf
  have hx := E.1
  have hb := E.2.1
  have hl : lv_has ls 2 [(0, .ref (B 0)), (1, .int x)] := hl
  refine lv_aload_n hx hb dX8_state_0 rfl (lv_at hl 0 rfl) ?_
  refine lv_iconst (v := 0) hx hb dX8_state_1 rfl ?_
  refine pf_X8_32 E hG hP.1 (Nat.le_of_ble_eq_true rfl) rfl rfl hS ⟨0, by decide, rfl⟩ dX8_state_2 (fun H locs ho hz oq hS => ?_)
  have hP : MW G B (fm 0 bl tl ps er ea eo ud ns ne se) bf da dr hi sk H := hP.setO hD ho oq
  refine lv_aload_n hx hb dX8_state_5 rfl (lv_at hl 0 rfl) ?_
  refine lv_iload_n hx hb dX8_state_6 rfl (lv_at hl 1 rfl) ?_
  refine Wr.callV (rest := []) (c_X8_noPresentation_x l G hD x hin9) yk_X8_noPresentation E km_X8_216 dX8_state_7 hG (hE.S hS hD.efa) hP (At.recv hG hP.1 rfl) rfl rfl hl.1 ⟨Nat.le_of_ble_eq_true rfl, Nat.le_of_ble_eq_true rfl⟩ ⟨Nat.le_of_ble_eq_true rfl, Nat.le_of_ble_eq_true rfl⟩ (Nat.le_of_ble_eq_true rfl) hS (fun _ h9 => h9) (fun v9 H locs hq hz9 hfr9 hS => ?_)
  obtain ⟨rfl, hP⟩ := hq
  refine lv_if_eq (tgt := 17) hx hb dX8_state_10 (by decide) (fun c_10 => ?_) (fun c_10 => ?_)
  · exact absurd c_10 (by decide)
  · refine lv_iconst (v := 0) hx hb dX8_state_13 rfl ?_
    refine lv_goto (tgt := 28) hx hb dX8_state_14 (by decide) ?_
    exact wr_int E hr hk hS (by decide) (by decide) (⟨rfl, hP⟩) dX8_state_28

set_option maxHeartbeats 4000000 in
set_option maxRecDepth 100000 in
/-- discrepancies -/
theorem c_X8_discrepancies (l : Launch) (G : CG) {B : Nat → Nat} {t bl tl ps er ea eo ud ns ne se : Int32} {bf da dr : Nat → Int32} {hi : Nat → Nat → Int32} {sk : Nat → Int64} (hD : MD G B) (x : Int32) (k : Nat) (ex : x = nI k) (hk9 : k < 24) (hin9 : inV x 0 (da 1 - 1) = 1) : Wr l yX8_discrepancies cX8_discrepancies 2 ((Option.some FieldType.int)) 2 43 0 0 G [.ref (B 0), .int x] (MW G B (fm t bl tl ps er ea eo ud ns ne se) bf da dr hi sk) (MA B) (fun v9 H9 => v9 = some (.int (da (pP k + 3))) ∧ MW G B (fm 0 bl tl ps er ea eo ud ns ne se) bf da dr hi sk H9) := by
  refine Wr.ofW (by decide) (Nat.le_of_ble_eq_true rfl) (fun p e s m below meth c ls E hG hE hP hr hk hin hl => ?_)
  have hS : va_S (MA B) s.heap s.heap [] := va_S.rf
  have hx := E.1
  have hb := E.2.1
  have hl : lv_has ls 2 [(0, .ref (B 0)), (1, .int x)] := hl
  refine lv_aload_n hx hb dX8_discrepancies_0 rfl (lv_at hl 0 rfl) ?_
  refine lv_iconst (v := 0) hx hb dX8_discrepancies_1 rfl ?_
  refine pf_X8_32 E hG hP.1 (Nat.le_of_ble_eq_true rfl) rfl rfl hS ⟨0, by decide, rfl⟩ dX8_discrepancies_2 (fun H locs ho hz oq hS => ?_)
  have hP : MW G B (fm 0 bl tl ps er ea eo ud ns ne se) bf da dr hi sk H := hP.setO hD ho oq
  refine lv_aload_n hx hb dX8_discrepancies_5 rfl (lv_at hl 0 rfl) ?_
  refine lv_iload_n hx hb dX8_discrepancies_6 rfl (lv_at hl 1 rfl) ?_
  refine Wr.callV (rest := []) (c_X8_noPresentation l G hD x hin9) yk_X8_noPresentation E km_X8_216 dX8_discrepancies_7 hG (hE.S hS hD.efa) hP (At.recv hG hP.1 rfl) rfl rfl hl.1 ⟨Nat.le_of_ble_eq_true rfl, Nat.le_of_ble_eq_true rfl⟩ ⟨Nat.le_of_ble_eq_true rfl, Nat.le_of_ble_eq_true rfl⟩ (Nat.le_of_ble_eq_true rfl) hS (fun _ h9 => h9) (fun v9 H locs hq hz9 hfr9 hS => ?_)
  obtain ⟨rfl, hP⟩ := hq
  refine lv_if_eq (tgt := 17) hx hb dX8_discrepancies_10 (by decide) (fun c_10 => ?_) (fun c_10 => ?_)
  · refine lv_aload_n hx hb dX8_discrepancies_17 rfl (lv_at hl 0 rfl) ?_
    refine gf_X8_17 (v := .ref (B 2)) E hG hP.1 rfl dX8_discrepancies_18 ?_
    refine lv_iload_n hx hb dX8_discrepancies_21 rfl (lv_at hl 1 rfl) ?_
    refine Rd.callS (rest := [.ref (B 2)]) (c_X8_presentation l G x) yk_X8_presentation E km_X8_188 dX8_discrepancies_22 hG (hE.S hS hD.efa) trivial rfl rfl hl.1 ⟨Nat.le_of_ble_eq_true rfl, Nat.le_of_ble_eq_true rfl⟩ ⟨Nat.zero_le _, Nat.zero_le _⟩ (Nat.le_of_ble_eq_true rfl) ?_
    refine lv_iconst (v := 3) hx hb dX8_discrepancies_25 rfl ?_
    refine lv_iadd hx hb dX8_discrepancies_26 ?_
    refine g_ild ((154 + 6 * k) + 3) E hG hP.2.2.1 (ixq (nI_ad (nI_ad rfl (nI_mu rfl ex)) rfl)) (by omega) (by decide) dX8_discrepancies_27 ?_
    exact wr_int E hr hk hS (by decide) (by decide) (⟨rfl, hP⟩) dX8_discrepancies_28
  · exact absurd c_10 (by decide)

set_option maxHeartbeats 4000000 in
set_option maxRecDepth 100000 in
/-- discrepancies -/
theorem c_X8_discrepancies_x (l : Launch) (G : CG) {B : Nat → Nat} {t bl tl ps er ea eo ud ns ne se : Int32} {bf da dr : Nat → Int32} {hi : Nat → Nat → Int32} {sk : Nat → Int64} (hD : MD G B) (x : Int32) (hin9 : inV x 0 (da 1 - 1) = 0) : Wr l yX8_discrepancies cX8_discrepancies 2 ((Option.some FieldType.int)) 2 43 0 0 G [.ref (B 0), .int x] (MW G B (fm t bl tl ps er ea eo ud ns ne se) bf da dr hi sk) (MA B) (fun v9 H9 => v9 = some (.int 0) ∧ MW G B (fm 1 bl tl ps er ea eo ud ns ne se) bf da dr hi sk H9) := by
  refine Wr.ofW (by decide) (Nat.le_of_ble_eq_true rfl) (fun p e s m below meth c ls E hG hE hP hr hk hin hl => ?_)
  have hS : va_S (MA B) s.heap s.heap [] := va_S.rf
  have hx := E.1
  have hb := E.2.1
  have hl : lv_has ls 2 [(0, .ref (B 0)), (1, .int x)] := hl
  refine lv_aload_n hx hb dX8_discrepancies_0 rfl (lv_at hl 0 rfl) ?_
  refine lv_iconst (v := 0) hx hb dX8_discrepancies_1 rfl ?_
  refine pf_X8_32 E hG hP.1 (Nat.le_of_ble_eq_true rfl) rfl rfl hS ⟨0, by decide, rfl⟩ dX8_discrepancies_2 (fun H locs ho hz oq hS => ?_)
  have hP : MW G B (fm 0 bl tl ps er ea eo ud ns ne se) bf da dr hi sk H := hP.setO hD ho oq
  refine lv_aload_n hx hb dX8_discrepancies_5 rfl (lv_at hl 0 rfl) ?_
  refine lv_iload_n hx hb dX8_discrepancies_6 rfl (lv_at hl 1 rfl) ?_
  refine Wr.callV (rest := []) (c_X8_noPresentation_x l G hD x hin9) yk_X8_noPresentation E km_X8_216 dX8_discrepancies_7 hG (hE.S hS hD.efa) hP (At.recv hG hP.1 rfl) rfl rfl hl.1 ⟨Nat.le_of_ble_eq_true rfl, Nat.le_of_ble_eq_true rfl⟩ ⟨Nat.le_of_ble_eq_true rfl, Nat.le_of_ble_eq_true rfl⟩ (Nat.le_of_ble_eq_true rfl) hS (fun _ h9 => h9) (fun v9 H locs hq hz9 hfr9 hS => ?_)
  obtain ⟨rfl, hP⟩ := hq
  refine lv_if_eq (tgt := 17) hx hb dX8_discrepancies_10 (by decide) (fun c_10 => ?_) (fun c_10 => ?_)
  · exact absurd c_10 (by decide)
  · refine lv_iconst (v := 0) hx hb dX8_discrepancies_13 rfl ?_
    refine lv_goto (tgt := 28) hx hb dX8_discrepancies_14 (by decide) ?_
    exact wr_int E hr hk hS (by decide) (by decide) (⟨rfl, hP⟩) dX8_discrepancies_28

set_option maxHeartbeats 4000000 in
set_option maxRecDepth 100000 in
/-- deadline -/
theorem c_X8_deadline (l : Launch) (G : CG) {B : Nat → Nat} {t bl tl ps er ea eo ud ns ne se : Int32} {bf da dr : Nat → Int32} {hi : Nat → Nat → Int32} {sk : Nat → Int64} (hD : MD G B) (x : Int32) (k : Nat) (ex : x = nI k) (hk9 : k < 24) (hin9 : inV x 0 (da 1 - 1) = 1) (dy nh : Nat) (hd1 : da (pP k + 1) = nI dy) (hd2 : dy < 1073000000) (h2 : da 2 = nI nh) (hh : nh ≤ 16) : Wr l yX8_deadline cX8_deadline 2 ((Option.some FieldType.int)) 4 89 0 0 G [.ref (B 0), .int x] (MW G B (fm t bl tl ps er ea eo ud ns ne se) bf da dr hi sk) (MA B) (fun v9 H9 => v9 = some (.int (nI (addB da nh 5 dy))) ∧ MW G B (fm 0 bl tl ps er ea eo ud ns ne se) bf da dr hi sk H9) := by
  refine Wr.ofW (by decide) (Nat.le_of_ble_eq_true rfl) (fun p e s m below meth c ls E hG hE hP hr hk hin hl => ?_)
  have hS : va_S (MA B) s.heap s.heap [] := va_S.rf
  have hx := E.1
  have hb := E.2.1
  have hl : lv_has ls 2 [(0, .ref (B 0)), (1, .int x)] := hl
  refine lv_aload_n hx hb dX8_deadline_0 rfl (lv_at hl 0 rfl) ?_
  refine lv_iconst (v := 0) hx hb dX8_deadline_1 rfl ?_
  refine pf_X8_32 E hG hP.1 (Nat.le_of_ble_eq_true rfl) rfl rfl hS ⟨0, by decide, rfl⟩ dX8_deadline_2 (fun H locs ho hz oq hS => ?_)
  have hP : MW G B (fm 0 bl tl ps er ea eo ud ns ne se) bf da dr hi sk H := hP.setO hD ho oq
  refine lv_aload_n hx hb dX8_deadline_5 rfl (lv_at hl 0 rfl) ?_
  refine lv_iload_n hx hb dX8_deadline_6 rfl (lv_at hl 1 rfl) ?_
  refine Wr.callV (rest := []) (c_X8_noPresentation l G hD x hin9) yk_X8_noPresentation E km_X8_216 dX8_deadline_7 hG (hE.S hS hD.efa) hP (At.recv hG hP.1 rfl) rfl rfl hl.1 ⟨Nat.le_of_ble_eq_true rfl, Nat.le_of_ble_eq_true rfl⟩ ⟨Nat.le_of_ble_eq_true rfl, Nat.le_of_ble_eq_true rfl⟩ (Nat.le_of_ble_eq_true rfl) hS (fun _ h9 => h9) (fun v9 H locs hq hz9 hfr9 hS => ?_)
  obtain ⟨rfl, hP⟩ := hq
  refine lv_if_eq (tgt := 17) hx hb dX8_deadline_10 (by decide) (fun c_10 => ?_) (fun c_10 => ?_)
  · refine lv_aload_n hx hb dX8_deadline_17 rfl (lv_at hl 0 rfl) ?_
    refine lv_iload_n hx hb dX8_deadline_18 rfl (lv_at hl 1 rfl) ?_
    refine Rd.callV (rest := []) (c_X8_deadlineOf l G x k dy nh ex (by omega) hd1 hd2 h2 hh) yk_X8_deadlineOf E km_X8_219 dX8_deadline_19 hG (hE.S hS hD.efa) hP (At.recv hG hP.1 rfl) rfl rfl hl.1 ⟨Nat.le_of_ble_eq_true rfl, Nat.le_of_ble_eq_true rfl⟩ ⟨Nat.zero_le _, Nat.zero_le _⟩ (Nat.le_of_ble_eq_true rfl) ?_
    exact wr_int E hr hk hS (by decide) (by decide) (⟨rfl, hP⟩) dX8_deadline_22
  · exact absurd c_10 (by decide)

set_option maxHeartbeats 4000000 in
set_option maxRecDepth 100000 in
/-- deadline -/
theorem c_X8_deadline_x (l : Launch) (G : CG) {B : Nat → Nat} {t bl tl ps er ea eo ud ns ne se : Int32} {bf da dr : Nat → Int32} {hi : Nat → Nat → Int32} {sk : Nat → Int64} (hD : MD G B) (x : Int32) (hin9 : inV x 0 (da 1 - 1) = 0) : Wr l yX8_deadline cX8_deadline 2 ((Option.some FieldType.int)) 2 43 0 0 G [.ref (B 0), .int x] (MW G B (fm t bl tl ps er ea eo ud ns ne se) bf da dr hi sk) (MA B) (fun v9 H9 => v9 = some (.int 0) ∧ MW G B (fm 1 bl tl ps er ea eo ud ns ne se) bf da dr hi sk H9) := by
  refine Wr.ofW (by decide) (Nat.le_of_ble_eq_true rfl) (fun p e s m below meth c ls E hG hE hP hr hk hin hl => ?_)
  have hS : va_S (MA B) s.heap s.heap [] := va_S.rf
  have hx := E.1
  have hb := E.2.1
  have hl : lv_has ls 2 [(0, .ref (B 0)), (1, .int x)] := hl
  refine lv_aload_n hx hb dX8_deadline_0 rfl (lv_at hl 0 rfl) ?_
  refine lv_iconst (v := 0) hx hb dX8_deadline_1 rfl ?_
  refine pf_X8_32 E hG hP.1 (Nat.le_of_ble_eq_true rfl) rfl rfl hS ⟨0, by decide, rfl⟩ dX8_deadline_2 (fun H locs ho hz oq hS => ?_)
  have hP : MW G B (fm 0 bl tl ps er ea eo ud ns ne se) bf da dr hi sk H := hP.setO hD ho oq
  refine lv_aload_n hx hb dX8_deadline_5 rfl (lv_at hl 0 rfl) ?_
  refine lv_iload_n hx hb dX8_deadline_6 rfl (lv_at hl 1 rfl) ?_
  refine Wr.callV (rest := []) (c_X8_noPresentation_x l G hD x hin9) yk_X8_noPresentation E km_X8_216 dX8_deadline_7 hG (hE.S hS hD.efa) hP (At.recv hG hP.1 rfl) rfl rfl hl.1 ⟨Nat.le_of_ble_eq_true rfl, Nat.le_of_ble_eq_true rfl⟩ ⟨Nat.le_of_ble_eq_true rfl, Nat.le_of_ble_eq_true rfl⟩ (Nat.le_of_ble_eq_true rfl) hS (fun _ h9 => h9) (fun v9 H locs hq hz9 hfr9 hS => ?_)
  obtain ⟨rfl, hP⟩ := hq
  refine lv_if_eq (tgt := 17) hx hb dX8_deadline_10 (by decide) (fun c_10 => ?_) (fun c_10 => ?_)
  · exact absurd c_10 (by decide)
  · refine lv_iconst (v := 0) hx hb dX8_deadline_13 rfl ?_
    refine lv_goto (tgt := 22) hx hb dX8_deadline_14 (by decide) ?_
    exact wr_int E hr hk hS (by decide) (by decide) (⟨rfl, hP⟩) dX8_deadline_22

set_option maxHeartbeats 4000000 in
set_option maxRecDepth 100000 in
/-- dueDay -/
theorem c_X8_dueDay (l : Launch) (G : CG) {B : Nat → Nat} {t bl tl ps er ea eo ud ns ne se : Int32} {bf da dr : Nat → Int32} {hi : Nat → Nat → Int32} {sk : Nat → Int64} (hD : MD G B) (x : Int32) (k : Nat) (ex : x = nI k) (hk9 : k < 24) (hin9 : inV x 0 (da 1 - 1) = 1) (nh : Nat) (cr si te : Nat) (hd1 : da (pP k) = nI cr) (hd2 : cr < 12) (hd3 : da (pP k + 5) = nI si) (hd4 : si < 1000000) (hd5 : da (cP cr + 6) = nI te) (hd6 : te < 1000) (h2 : da 2 = nI nh) (hh : nh ≤ 16) : Wr l yX8_dueDay cX8_dueDay 2 ((Option.some FieldType.int)) 3 66 0 0 G [.ref (B 0), .int x] (MW G B (fm t bl tl ps er ea eo ud ns ne se) bf da dr hi sk) (MA B) (fun v9 H9 => v9 = some (.int (dueV da nh k si te)) ∧ MW G B (fm 0 bl tl ps er ea eo ud ns ne se) bf da dr hi sk H9) := by
  refine Wr.ofW (by decide) (Nat.le_of_ble_eq_true rfl) (fun p e s m below meth c ls E hG hE hP hr hk hin hl => ?_)
  have hS : va_S (MA B) s.heap s.heap [] := va_S.rf
  have hx := E.1
  have hb := E.2.1
  have hl : lv_has ls 2 [(0, .ref (B 0)), (1, .int x)] := hl
  refine lv_aload_n hx hb dX8_dueDay_0 rfl (lv_at hl 0 rfl) ?_
  refine lv_iconst (v := 0) hx hb dX8_dueDay_1 rfl ?_
  refine pf_X8_32 E hG hP.1 (Nat.le_of_ble_eq_true rfl) rfl rfl hS ⟨0, by decide, rfl⟩ dX8_dueDay_2 (fun H locs ho hz oq hS => ?_)
  have hP : MW G B (fm 0 bl tl ps er ea eo ud ns ne se) bf da dr hi sk H := hP.setO hD ho oq
  refine lv_aload_n hx hb dX8_dueDay_5 rfl (lv_at hl 0 rfl) ?_
  refine lv_iload_n hx hb dX8_dueDay_6 rfl (lv_at hl 1 rfl) ?_
  refine Wr.callV (rest := []) (c_X8_noPresentation l G hD x hin9) yk_X8_noPresentation E km_X8_216 dX8_dueDay_7 hG (hE.S hS hD.efa) hP (At.recv hG hP.1 rfl) rfl rfl hl.1 ⟨Nat.le_of_ble_eq_true rfl, Nat.le_of_ble_eq_true rfl⟩ ⟨Nat.le_of_ble_eq_true rfl, Nat.le_of_ble_eq_true rfl⟩ (Nat.le_of_ble_eq_true rfl) hS (fun _ h9 => h9) (fun v9 H locs hq hz9 hfr9 hS => ?_)
  obtain ⟨rfl, hP⟩ := hq
  refine lv_if_eq (tgt := 17) hx hb dX8_dueDay_10 (by decide) (fun c_10 => ?_) (fun c_10 => ?_)
  · refine lv_aload_n hx hb dX8_dueDay_17 rfl (lv_at hl 0 rfl) ?_
    refine lv_iload_n hx hb dX8_dueDay_18 rfl (lv_at hl 1 rfl) ?_
    refine Rd.callV (rest := []) (c_X8_dueOf l G x k nh ex (by omega) cr si te hd1 hd2 hd3 hd4 hd5 hd6 h2 hh) yk_X8_dueOf E km_X8_222 dX8_dueDay_19 hG (hE.S hS hD.efa) hP (At.recv hG hP.1 rfl) rfl rfl hl.1 ⟨Nat.le_of_ble_eq_true rfl, Nat.le_of_ble_eq_true rfl⟩ ⟨Nat.zero_le _, Nat.zero_le _⟩ (Nat.le_of_ble_eq_true rfl) ?_
    exact wr_int E hr hk hS (by decide) (by decide) (⟨rfl, hP⟩) dX8_dueDay_22
  · exact absurd c_10 (by decide)

set_option maxHeartbeats 4000000 in
set_option maxRecDepth 100000 in
/-- dueDay -/
theorem c_X8_dueDay_x (l : Launch) (G : CG) {B : Nat → Nat} {t bl tl ps er ea eo ud ns ne se : Int32} {bf da dr : Nat → Int32} {hi : Nat → Nat → Int32} {sk : Nat → Int64} (hD : MD G B) (x : Int32) (hin9 : inV x 0 (da 1 - 1) = 0) : Wr l yX8_dueDay cX8_dueDay 2 ((Option.some FieldType.int)) 2 43 0 0 G [.ref (B 0), .int x] (MW G B (fm t bl tl ps er ea eo ud ns ne se) bf da dr hi sk) (MA B) (fun v9 H9 => v9 = some (.int 0) ∧ MW G B (fm 1 bl tl ps er ea eo ud ns ne se) bf da dr hi sk H9) := by
  refine Wr.ofW (by decide) (Nat.le_of_ble_eq_true rfl) (fun p e s m below meth c ls E hG hE hP hr hk hin hl => ?_)
  have hS : va_S (MA B) s.heap s.heap [] := va_S.rf
  have hx := E.1
  have hb := E.2.1
  have hl : lv_has ls 2 [(0, .ref (B 0)), (1, .int x)] := hl
  refine lv_aload_n hx hb dX8_dueDay_0 rfl (lv_at hl 0 rfl) ?_
  refine lv_iconst (v := 0) hx hb dX8_dueDay_1 rfl ?_
  refine pf_X8_32 E hG hP.1 (Nat.le_of_ble_eq_true rfl) rfl rfl hS ⟨0, by decide, rfl⟩ dX8_dueDay_2 (fun H locs ho hz oq hS => ?_)
  have hP : MW G B (fm 0 bl tl ps er ea eo ud ns ne se) bf da dr hi sk H := hP.setO hD ho oq
  refine lv_aload_n hx hb dX8_dueDay_5 rfl (lv_at hl 0 rfl) ?_
  refine lv_iload_n hx hb dX8_dueDay_6 rfl (lv_at hl 1 rfl) ?_
  refine Wr.callV (rest := []) (c_X8_noPresentation_x l G hD x hin9) yk_X8_noPresentation E km_X8_216 dX8_dueDay_7 hG (hE.S hS hD.efa) hP (At.recv hG hP.1 rfl) rfl rfl hl.1 ⟨Nat.le_of_ble_eq_true rfl, Nat.le_of_ble_eq_true rfl⟩ ⟨Nat.le_of_ble_eq_true rfl, Nat.le_of_ble_eq_true rfl⟩ (Nat.le_of_ble_eq_true rfl) hS (fun _ h9 => h9) (fun v9 H locs hq hz9 hfr9 hS => ?_)
  obtain ⟨rfl, hP⟩ := hq
  refine lv_if_eq (tgt := 17) hx hb dX8_dueDay_10 (by decide) (fun c_10 => ?_) (fun c_10 => ?_)
  · exact absurd c_10 (by decide)
  · refine lv_iconst (v := 0) hx hb dX8_dueDay_13 rfl ?_
    refine lv_goto (tgt := 22) hx hb dX8_dueDay_14 (by decide) ?_
    exact wr_int E hr hk hS (by decide) (by decide) (⟨rfl, hP⟩) dX8_dueDay_22
