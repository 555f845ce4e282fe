/-! FEES: the class's rule -/
def ushr (x y : Int32) : Int32 := (x.toUInt32 >>> (y.toUInt32 &&& Int32.toUInt32 31)).toInt32
def bc1 (x : Int32) : Int32 := x - (ushr x 1 &&& 1431655765)
def bc2 (x : Int32) : Int32 := (x &&& 858993459) + (ushr x 2 &&& 858993459)
def bc3 (x : Int32) : Int32 := (x + ushr x 4) &&& 252645135
def bc4 (x : Int32) : Int32 := x + ushr x 8
def bc5 (x : Int32) : Int32 := x + ushr x 16
def bcV (x : Int32) : Int32 := bc5 (bc4 (bc3 (bc2 (bc1 x)))) &&& 63
theorem bc_bits {fa : Nat} (h : fa < 128) : bcV (nI fa) = nI (bits 8 fa) := by
  have h9 : ∀ n : Fin 128, bcV (nI n.1) = nI (bits 8 n.1) := by decide +kernel
  exact h9 ⟨fa, h⟩
def opV (v0 v1 v2 s : Int32) : Int32 := if s = (-1) then v0 else if s = (-2) then v1 else if s = (-3) then v2 else s
def rsE (o a b : Int32) : Int64 := if o = (-4) then a.toInt64 + b.toInt64 else if o = (-5) then a.toInt64 - b.toInt64 else if o = (-6) then a.toInt64 * b.toInt64 else if b = 0 then 0 else (a / b).toInt64
def rsV (o a b : Int32) : Int32 := (lmax (-100000000) (lmin 100000000 (rsE o a b))).toInt32
/-- a rule's steps on a stack of numbers -/
def fR (v0 v1 v2 : Int32) : List Int32 → (Nat → Int32) → Nat → (Nat → Int32)
  | [], F, _ => F
  | s :: L, F, h => if (-4) < s then fR v0 v1 v2 L (upd F h (opV v0 v1 v2 s)) (h + 1) else fR v0 v1 v2 L (upd F (h - 2) (rsV s (F (h - 2)) (F (h - 1)))) (h - 1)
def feeV (v0 v1 v2 : Int32) (L : List Int32) : Int32 := jmax 0 (jmin 999999 (fR v0 v1 v2 L (fun _ => 0) 0 0))
theorem drop_c {L : List Int32} {k : Nat} (h : k < L.length) : L.drop k = L.getD k 0 :: L.drop (k + 1) := by
  rw [List.drop_eq_getElem_cons h]
  congr 1
  simp [List.getD, h]
theorem i32ne {x v : Int32} {n : Int} (hv : v.toInt = n) (h : ¬ x = v) : ¬ x.toInt = n := fun z => h (Int32.toInt_inj.mp (z.trans hv.symm))
theorem sw_out {x : Int32} {a b c : Int32} {n : Int} (ha : a.toInt = n) (hb : b.toInt = n + 1) (hc : c.toInt = n + 2) (h1 : ¬ x = a) (h2 : ¬ x = b) (h3 : ¬ x = c) : x.toInt < n ∨ n + 2 < x.toInt := by
  have e1 := i32ne ha h1
  have e2 := i32ne hb h2
  have e3 := i32ne hc h3
  omega
theorem okR_o {s : Int32} {L : List Int32} {h : Nat} (hs : ¬ s ≤ (-4)) (e : okR (s :: L) h = some 1) : h < 11 ∧ okR L (h + 1) = some 1 := by
  unfold okR at e
  rw [if_pos (Int32.not_le.mp hs)] at e
  by_cases h1 : h < 11
  · rw [if_pos h1] at e
    exact ⟨h1, e⟩
  · rw [if_neg h1] at e
    cases e
theorem okR_p {s : Int32} {L : List Int32} {h : Nat} (hs : s ≤ (-4)) (e : okR (s :: L) h = some 1) : 2 ≤ h ∧ okR L (h - 1) = some 1 := by
  unfold okR at e
  rw [if_neg (Int32.not_lt.mpr hs)] at e
  by_cases h1 : 2 ≤ h
  · rw [if_pos h1] at e
    exact ⟨h1, e⟩
  · rw [if_neg h1] at e
    cases e
theorem fR_o {v0 v1 v2 s : Int32} {L : List Int32} {F : Nat → Int32} {h : Nat} (hs : ¬ s ≤ (-4)) : fR v0 v1 v2 (s :: L) F h = fR v0 v1 v2 L (upd F h (opV v0 v1 v2 s)) (h + 1) := if_pos (Int32.not_le.mp hs)
theorem fR_p {v0 v1 v2 s : Int32} {L : List Int32} {F : Nat → Int32} {h : Nat} (hs : s ≤ (-4)) : fR v0 v1 v2 (s :: L) F (h + 2) = fR v0 v1 v2 L (upd F h (rsV s (F h) (F (h + 1)))) (h + 1) := if_neg (Int32.not_lt.mpr hs)
/-- what the fee of a presentation is -/
def FeeR (d : Nat → Int32) (k : Nat) (r : Int32) : Prop := (d 4 = 0 ∧ r = feeV (d (pP k + 2)) (d 3 - d (pP k + 1)) (bcV (d (pP k + 3))) [-1, 1000, -7]) ∨ (d 4 = 1 ∧ ∃ L, FeR d L ∧ r = feeV (d (pP k + 2)) (d 3 - d (pP k + 1)) (bcV (d (pP k + 3))) L)
set_option maxHeartbeats 4000000 in
set_option maxRecDepth 100000 in
/-- Integer.bitCount -/
theorem c_J6_bitCount_0f7a4 (l : Launch) (G : CG) (z : Int32) : Rd l yJ6_bitCount_0f7a4 cJ6_bitCount_0f7a4 1 ((Option.some FieldType.int)) 0 0 G [.int z] (fun _ => True) (some (.int (bcV z))) := by
  refine Rd.ofW (by decide) (Nat.le_of_ble_eq_true rfl) (fun p e s m below meth c ls E hG hE hP hr hk hl => ?_)
  have hx := E.1
  have hb := E.2.1
  have hl : lv_has ls 1 [(0, .int z)] := hl
  refine lv_iload_n hx hb dJ6_bitCount_0f7a4_0 rfl (lv_at hl 0 rfl) ?_
  refine lv_iload_n hx hb dJ6_bitCount_0f7a4_1 rfl (lv_at hl 0 rfl) ?_
  refine lv_iconst (v := 1) hx hb dJ6_bitCount_0f7a4_2 rfl ?_
  refine lv_iushr (v := (ushr z 1)) hx hb dJ6_bitCount_0f7a4_3 rfl ?_
  refine lv_ldcw (v := 1431655765) hx hb E.2.2.2.1 (E.2.2.2.2 _ kk_J6_265) dJ6_bitCount_0f7a4_4 ?_
  refine lv_iand hx hb dJ6_bitCount_0f7a4_7 ?_
  refine lv_isub hx hb dJ6_bitCount_0f7a4_8 ?_
  refine lv_ci (y := (bc1 z)) (rfl) ?_
  refine lv_istore_n (lv' := [(0, .int (bc1 z))]) hx hb dJ6_bitCount_0f7a4_9 rfl hl (by decide) rfl (fun ls hl => ?_)
  refine lv_iload_n hx hb dJ6_bitCount_0f7a4_10 rfl (lv_at hl 0 rfl) ?_
  refine lv_ldcw (v := 858993459) hx hb E.2.2.2.1 (E.2.2.2.2 _ kk_J6_266) dJ6_bitCount_0f7a4_11 ?_
  refine lv_iand hx hb dJ6_bitCount_0f7a4_14 ?_
  refine lv_iload_n hx hb dJ6_bitCount_0f7a4_15 rfl (lv_at hl 0 rfl) ?_
  refine lv_iconst (v := 2) hx hb dJ6_bitCount_0f7a4_16 rfl ?_
  refine lv_iushr (v := (ushr (bc1 z) 2)) hx hb dJ6_bitCount_0f7a4_17 rfl ?_
  refine lv_ldcw (v := 858993459) hx hb E.2.2.2.1 (E.2.2.2.2 _ kk_J6_266) dJ6_bitCount_0f7a4_18 ?_
  refine lv_iand hx hb dJ6_bitCount_0f7a4_21 ?_
  refine lv_iadd hx hb dJ6_bitCount_0f7a4_22 ?_
  refine lv_ci (y := (bc2 (bc1 z))) (rfl) ?_
  refine lv_istore_n (lv' := [(0, .int (bc2 (bc1 z)))]) hx hb dJ6_bitCount_0f7a4_23 rfl hl (by decide) rfl (fun ls hl => ?_)
  refine lv_iload_n hx hb dJ6_bitCount_0f7a4_24 rfl (lv_at hl 0 rfl) ?_
  refine lv_iload_n hx hb dJ6_bitCount_0f7a4_25 rfl (lv_at hl 0 rfl) ?_
  refine lv_iconst (v := 4) hx hb dJ6_bitCount_0f7a4_26 rfl ?_
  refine lv_iushr (v := (ushr (bc2 (bc1 z)) 4)) hx hb dJ6_bitCount_0f7a4_27 rfl ?_
  refine lv_iadd hx hb dJ6_bitCount_0f7a4_28 ?_
  refine lv_ldcw (v := 252645135) hx hb E.2.2.2.1 (E.2.2.2.2 _ kk_J6_267) dJ6_bitCount_0f7a4_29 ?_
  refine lv_iand hx hb dJ6_bitCount_0f7a4_32 ?_
  refine lv_ci (y := (bc3 (bc2 (bc1 z)))) (rfl) ?_
  refine lv_istore_n (lv' := [(0, .int (bc3 (bc2 (bc1 z))))]) hx hb dJ6_bitCount_0f7a4_33 rfl hl (by decide) rfl (fun ls hl => ?_)
  refine lv_iload_n hx hb dJ6_bitCount_0f7a4_34 rfl (lv_at hl 0 rfl) ?_
  refine lv_iload_n hx hb dJ6_bitCount_0f7a4_35 rfl (lv_at hl 0 rfl) ?_
  refine lv_bipush (v := 8) hx hb dJ6_bitCount_0f7a4_36 rfl ?_
  refine lv_iushr (v := (ushr (bc3 (bc2 (bc1 z))) 8)) hx hb dJ6_bitCount_0f7a4_38 rfl ?_
  refine lv_iadd hx hb dJ6_bitCount_0f7a4_39 ?_
  refine lv_ci (y := (bc4 (bc3 (bc2 (bc1 z))))) (rfl) ?_
  refine lv_istore_n (lv' := [(0, .int (bc4 (bc3 (bc2 (bc1 z)))))]) hx hb dJ6_bitCount_0f7a4_40 rfl hl (by decide) rfl (fun ls hl => ?_)
  refine lv_iload_n hx hb dJ6_bitCount_0f7a4_41 rfl (lv_at hl 0 rfl) ?_
  refine lv_iload_n hx hb dJ6_bitCount_0f7a4_42 rfl (lv_at hl 0 rfl) ?_
  refine lv_bipush (v := 16) hx hb dJ6_bitCount_0f7a4_43 rfl ?_
  refine lv_iushr (v := (ushr (bc4 (bc3 (bc2 (bc1 z)))) 16)) hx hb dJ6_bitCount_0f7a4_45 rfl ?_
  refine lv_iadd hx hb dJ6_bitCount_0f7a4_46 ?_
  refine lv_ci (y := (bc5 (bc4 (bc3 (bc2 (bc1 z)))))) (rfl) ?_
  refine lv_istore_n (lv' := [(0, .int (bc5 (bc4 (bc3 (bc2 (bc1 z))))))]) hx hb dJ6_bitCount_0f7a4_47 rfl hl (by decide) rfl (fun ls hl => ?_)
  refine lv_iload_n hx hb dJ6_bitCount_0f7a4_48 rfl (lv_at hl 0 rfl) ?_
  refine lv_bipush (v := 63) hx hb dJ6_bitCount_0f7a4_49 rfl ?_
  refine lv_iand hx hb dJ6_bitCount_0f7a4_51 ?_
  exact rd_int E hr hk (rfl) dJ6_bitCount_0f7a4_52

set_option maxHeartbeats 4000000 in
set_option maxRecDepth 100000 in
/-- operand -/
theorem c_X3_operand (l : Launch) (G : CG) (z v0 v1 v2 : Int32) : Rd l yX3_operand cX3_operand 4 ((Option.some FieldType.int)) 0 0 G [.int z, .int v0, .int v1, .int v2] (fun _ => True) (some (.int (opV v0 v1 v2 z))) := by
  refine Rd.ofW (by decide) (Nat.le_of_ble_eq_true rfl) (fun p e s m below meth c ls E hG hE hP hr hk hl => ?_)
  have hx := E.1
  have hb := E.2.1
  have hl : lv_has ls 4 [(0, .int z), (1, .int v0), (2, .int v1), (3, .int v2)] := hl
  refine lv_iload_n hx hb dX3_operand_0 rfl (lv_at hl 0 rfl) ?_
  by_cases h_0 : z = (-3)
  · refine lv_tableIn (tgt := 32) hx hb dX3_operand_1 (by rw [h_0]; decide) (by rw [h_0]; decide) (by rw [h_0]; rfl) (by decide) ?_
    refine lv_iload_n hx hb dX3_operand_32 rfl (lv_at hl 3 rfl) ?_
    exact rd_int E hr hk (by simp [opV, h_0]) dX3_operand_33
  · by_cases h_1 : z = (-2)
    · refine lv_tableIn (tgt := 30) hx hb dX3_operand_1 (by rw [h_1]; decide) (by rw [h_1]; decide) (by rw [h_1]; rfl) (by decide) ?_
      refine lv_iload_n hx hb dX3_operand_30 rfl (lv_at hl 2 rfl) ?_
      exact rd_int E hr hk (by simp [opV, h_0, h_1]) dX3_operand_31
    · by_cases h_2 : z = (-1)
      · refine lv_tableIn (tgt := 28) hx hb dX3_operand_1 (by rw [h_2]; decide) (by rw [h_2]; decide) (by rw [h_2]; rfl) (by decide) ?_
        refine lv_iload_n hx hb dX3_operand_28 rfl (lv_at hl 1 rfl) ?_
        exact rd_int E hr hk (by simp [opV, h_0, h_1, h_2]) dX3_operand_29
      · refine lv_tableOut (tgt := 34) hx hb dX3_operand_1 (sw_out (n := -3) (by decide) (by decide) (by decide) h_0 h_1 h_2) (by decide) ?_
        refine lv_iload_n hx hb dX3_operand_34 rfl (lv_at hl 0 rfl) ?_
        exact rd_int E hr hk (by simp [opV, h_0, h_1, h_2]) dX3_operand_35

set_option maxHeartbeats 4000000 in
set_option maxRecDepth 100000 in
/-- result -/
theorem c_X3_result (l : Launch) (G : CG) (z y w : Int32) : Rd l yX3_result cX3_result 5 ((Option.some FieldType.int)) 1 30 G [.int z, .int y, .int w] (fun _ => True) (some (.int (rsV z y w))) := by
  refine Rd.ofW (by decide) (Nat.le_of_ble_eq_true rfl) (fun p e s m below meth c ls E hG hE hP hr hk hl => ?_)
  have hx := E.1
  have hb := E.2.1
  have hl : lv_has ls 5 [(0, .int z), (1, .int y), (2, .int w)] := hl
  refine lv_iload_n hx hb dX3_result_0 rfl (lv_at hl 0 rfl) ?_
  by_cases h_0 : z = (-6)
  · refine lv_tableIn (tgt := 46) hx hb dX3_result_1 (by rw [h_0]; decide) (by rw [h_0]; decide) (by rw [h_0]; rfl) (by decide) ?_
    refine lv_iload_n hx hb dX3_result_46 rfl (lv_at hl 1 rfl) ?_
    refine lv_i2l (v := y.toInt64) hx hb dX3_result_47 rfl ?_
    refine lv_iload_n hx hb dX3_result_48 rfl (lv_at hl 2 rfl) ?_
    refine lv_i2l (v := w.toInt64) hx hb dX3_result_49 rfl ?_
    refine lv_lmul hx hb dX3_result_50 ?_
    refine lv_lstore_n (lv' := [(3, .long (y.toInt64 * w.toInt64)), (0, .int z), (1, .int y), (2, .int w)]) hx hb dX3_result_51 rfl hl (by decide) rfl (fun ls hl => ?_)
    refine lv_goto (tgt := 68) hx hb dX3_result_52 (by decide) ?_
    refine lv_ldc2 (v := (-100000000)) hx hb E.2.2.2.1 (E.2.2.2.2 _ kk_X3_31) dX3_result_68 ?_
    refine lv_ldc2 (v := 100000000) hx hb E.2.2.2.1 (E.2.2.2.2 _ kk_X3_33) dX3_result_71 ?_
    refine lv_lload_n hx hb dX3_result_74 rfl (lv_at hl 0 rfl) ?_
    refine g_mminL (rest := [.long (-100000000)]) E km_X3_35 dX3_result_75 (Nat.le_of_ble_eq_true rfl) (Nat.le_of_ble_eq_true rfl) ⟨Nat.le_of_ble_eq_true rfl, Nat.le_of_ble_eq_true rfl⟩ hl.1 ?_
    refine g_mmaxL (rest := []) E km_X3_38 dX3_result_78 (Nat.le_of_ble_eq_true rfl) (Nat.le_of_ble_eq_true rfl) ⟨Nat.le_of_ble_eq_true rfl, Nat.le_of_ble_eq_true rfl⟩ hl.1 ?_
    refine lv_l2i (v := (lmax (-100000000) (lmin 100000000 (y.toInt64 * w.toInt64))).toInt32) hx hb dX3_result_81 rfl ?_
    exact rd_int E hr hk (by unfold rsV; rw [show rsE z y w = (y.toInt64 * w.toInt64) by simp [rsE, h_0]]) dX3_result_82
  · by_cases h_1 : z = (-5)
    · refine lv_tableIn (tgt := 37) hx hb dX3_result_1 (by rw [h_1]; decide) (by rw [h_1]; decide) (by rw [h_1]; rfl) (by decide) ?_
      refine lv_iload_n hx hb dX3_result_37 rfl (lv_at hl 1 rfl) ?_
      refine lv_i2l (v := y.toInt64) hx hb dX3_result_38 rfl ?_
      refine lv_iload_n hx hb dX3_result_39 rfl (lv_at hl 2 rfl) ?_
      refine lv_i2l (v := w.toInt64) hx hb dX3_result_40 rfl ?_
      refine lv_lsub hx hb dX3_result_41 ?_
      refine lv_lstore_n (lv' := [(3, .long (y.toInt64 - w.toInt64)), (0, .int z), (1, .int y), (2, .int w)]) hx hb dX3_result_42 rfl hl (by decide) rfl (fun ls hl => ?_)
      refine lv_goto (tgt := 68) hx hb dX3_result_43 (by decide) ?_
      refine lv_ldc2 (v := (-100000000)) hx hb E.2.2.2.1 (E.2.2.2.2 _ kk_X3_31) dX3_result_68 ?_
      refine lv_ldc2 (v := 100000000) hx hb E.2.2.2.1 (E.2.2.2.2 _ kk_X3_33) dX3_result_71 ?_
      refine lv_lload_n hx hb dX3_result_74 rfl (lv_at hl 0 rfl) ?_
      refine g_mminL (rest := [.long (-100000000)]) E km_X3_35 dX3_result_75 (Nat.le_of_ble_eq_true rfl) (Nat.le_of_ble_eq_true rfl) ⟨Nat.le_of_ble_eq_true rfl, Nat.le_of_ble_eq_true rfl⟩ hl.1 ?_
      refine g_mmaxL (rest := []) E km_X3_38 dX3_result_78 (Nat.le_of_ble_eq_true rfl) (Nat.le_of_ble_eq_true rfl) ⟨Nat.le_of_ble_eq_true rfl, Nat.le_of_ble_eq_true rfl⟩ hl.1 ?_
      refine lv_l2i (v := (lmax (-100000000) (lmin 100000000 (y.toInt64 - w.toInt64))).toInt32) hx hb dX3_result_81 rfl ?_
      exact rd_int E hr hk (by unfold rsV; rw [show rsE z y w = (y.toInt64 - w.toInt64) by simp [rsE, h_0, h_1]]) dX3_result_82
    · by_cases h_2 : z = (-4)
      · refine lv_tableIn (tgt := 28) hx hb dX3_result_1 (by rw [h_2]; decide) (by rw [h_2]; decide) (by rw [h_2]; rfl) (by decide) ?_
        refine lv_iload_n hx hb dX3_result_28 rfl (lv_at hl 1 rfl) ?_
        refine lv_i2l (v := y.toInt64) hx hb dX3_result_29 rfl ?_
        refine lv_iload_n hx hb dX3_result_30 rfl (lv_at hl 2 rfl) ?_
        refine lv_i2l (v := w.toInt64) hx hb dX3_result_31 rfl ?_
        refine lv_ladd hx hb dX3_result_32 ?_
        refine lv_lstore_n (lv' := [(3, .long (y.toInt64 + w.toInt64)), (0, .int z), (1, .int y), (2, .int w)]) hx hb dX3_result_33 rfl hl (by decide) rfl (fun ls hl => ?_)
        refine lv_goto (tgt := 68) hx hb dX3_result_34 (by decide) ?_
        refine lv_ldc2 (v := (-100000000)) hx hb E.2.2.2.1 (E.2.2.2.2 _ kk_X3_31) dX3_result_68 ?_
        refine lv_ldc2 (v := 100000000) hx hb E.2.2.2.1 (E.2.2.2.2 _ kk_X3_33) dX3_result_71 ?_
        refine lv_lload_n hx hb dX3_result_74 rfl (lv_at hl 0 rfl) ?_
        refine g_mminL (rest := [.long (-100000000)]) E km_X3_35 dX3_result_75 (Nat.le_of_ble_eq_true rfl) (Nat.le_of_ble_eq_true rfl) ⟨Nat.le_of_ble_eq_true rfl, Nat.le_of_ble_eq_true rfl⟩ hl.1 ?_
        refine g_mmaxL (rest := []) E km_X3_38 dX3_result_78 (Nat.le_of_ble_eq_true rfl) (Nat.le_of_ble_eq_true rfl) ⟨Nat.le_of_ble_eq_true rfl, Nat.le_of_ble_eq_true rfl⟩ hl.1 ?_
        refine lv_l2i (v := (lmax (-100000000) (lmin 100000000 (y.toInt64 + w.toInt64))).toInt32) hx hb dX3_result_81 rfl ?_
        exact rd_int E hr hk (by unfold rsV; rw [show rsE z y w = (y.toInt64 + w.toInt64) by simp [rsE, h_0, h_1, h_2]]) dX3_result_82
      · refine lv_tableOut (tgt := 55) hx hb dX3_result_1 (sw_out (n := -6) (by decide) (by decide) (by decide) h_0 h_1 h_2) (by decide) ?_
        refine lv_iload_n hx hb dX3_result_55 rfl (lv_at hl 2 rfl) ?_
        refine lv_if_ne (tgt := 63) hx hb dX3_result_56 (by decide) (fun c_56 => ?_) (fun c_56 => ?_)
        · refine lv_iload_n hx hb dX3_result_63 rfl (lv_at hl 1 rfl) ?_
          refine lv_iload_n hx hb dX3_result_64 rfl (lv_at hl 2 rfl) ?_
          refine lv_idiv hx hb dX3_result_65 c_56 ?_
          refine lv_i2l (v := (y / w).toInt64) hx hb dX3_result_66 rfl ?_
          refine lv_lstore_n (lv' := [(3, .long ((y / w).toInt64)), (0, .int z), (1, .int y), (2, .int w)]) hx hb dX3_result_67 rfl hl (by decide) rfl (fun ls hl => ?_)
          refine lv_ldc2 (v := (-100000000)) hx hb E.2.2.2.1 (E.2.2.2.2 _ kk_X3_31) dX3_result_68 ?_
          refine lv_ldc2 (v := 100000000) hx hb E.2.2.2.1 (E.2.2.2.2 _ kk_X3_33) dX3_result_71 ?_
          refine lv_lload_n hx hb dX3_result_74 rfl (lv_at hl 0 rfl) ?_
          refine g_mminL (rest := [.long (-100000000)]) E km_X3_35 dX3_result_75 (Nat.le_of_ble_eq_true rfl) (Nat.le_of_ble_eq_true rfl) ⟨Nat.le_of_ble_eq_true rfl, Nat.le_of_ble_eq_true rfl⟩ hl.1 ?_
          refine g_mmaxL (rest := []) E km_X3_38 dX3_result_78 (Nat.le_of_ble_eq_true rfl) (Nat.le_of_ble_eq_true rfl) ⟨Nat.le_of_ble_eq_true rfl, Nat.le_of_ble_eq_true rfl⟩ hl.1 ?_
          refine lv_l2i (v := (lmax (-100000000) (lmin 100000000 (y / w).toInt64)).toInt32) hx hb dX3_result_81 rfl ?_
          exact rd_int E hr hk (by unfold rsV; rw [show rsE z y w = (y / w).toInt64 by simp [rsE, h_0, h_1, h_2, c_56]]) dX3_result_82
        · refine lv_lconst (v := 0) hx hb dX3_result_59 rfl ?_
          refine lv_goto (tgt := 67) hx hb dX3_result_60 (by decide) ?_
          refine lv_lstore_n (lv' := [(3, .long 0), (0, .int z), (1, .int y), (2, .int w)]) hx hb dX3_result_67 rfl hl (by decide) rfl (fun ls hl => ?_)
          refine lv_ldc2 (v := (-100000000)) hx hb E.2.2.2.1 (E.2.2.2.2 _ kk_X3_31) dX3_result_68 ?_
          refine lv_ldc2 (v := 100000000) hx hb E.2.2.2.1 (E.2.2.2.2 _ kk_X3_33) dX3_result_71 ?_
          refine lv_lload_n hx hb dX3_result_74 rfl (lv_at hl 0 rfl) ?_
          refine g_mminL (rest := [.long (-100000000)]) E km_X3_35 dX3_result_75 (Nat.le_of_ble_eq_true rfl) (Nat.le_of_ble_eq_true rfl) ⟨Nat.le_of_ble_eq_true rfl, Nat.le_of_ble_eq_true rfl⟩ hl.1 ?_
          refine g_mmaxL (rest := []) E km_X3_38 dX3_result_78 (Nat.le_of_ble_eq_true rfl) (Nat.le_of_ble_eq_true rfl) ⟨Nat.le_of_ble_eq_true rfl, Nat.le_of_ble_eq_true rfl⟩ hl.1 ?_
          refine lv_l2i (v := (lmax (-100000000) (lmin 100000000 0)).toInt32) hx hb dX3_result_81 rfl ?_
          exact rd_int E hr hk (by unfold rsV; rw [show rsE z y w = 0 by simp [rsE, h_0, h_1, h_2, c_56]]) dX3_result_82

set_option maxHeartbeats 4000000 in
set_option maxRecDepth 100000 in
/-- feeFor -/
theorem c_X3_feeFor (l : Launch) (G : CG) {q st sz : Nat} {L : List Int32} (hz1 : EFA G sz) (v0 v1 v2 : Int32) (hL : L.length ≤ 900) (hok : okR L 0 = some 1) : Wr l yX3_feeFor cX3_feeFor 10 ((Option.some FieldType.int)) 2 54 1 11 G [.ref q, .int v0, .int v1, .int v2] (fun H9 => H9.size = sz ∧ At G q (.inr (3, [.ref st])) H9 ∧ At G st (iA G L.length (fun j => L.getD j 0)) H9) (fun q9 => sz ≤ q9) (fun v9 H9 => v9 = some (.int (feeV v0 v1 v2 L))) := by
  refine Wr.ofW (by decide) (Nat.le_of_ble_eq_true rfl) (fun p e s m below meth c ls E hG hE hP hr hk hin hl => ?_)
  have hS : va_S (fun q9 => sz ≤ q9) s.heap s.heap [] := va_S.rf
  have hx := E.1
  have hb := E.2.1
  have hl : lv_has ls 10 [(0, .ref q), (1, .int v0), (2, .int v1), (3, .int v2)] := hl
  obtain ⟨hz0, hq, hst⟩ := hP
  have hEA : ∀ q9, sz ≤ q9 → EFA G q9 := fun q9 h9 => Nat.le_trans hz1 h9
  refine lv_bipush (v := 11) hx hb dX3_feeFor_0 rfl ?_
  refine n_newa (atype := .int) (N := 11) (x := (11, .inl (fun _ => 0))) (t0 := 1) rfl ka_int (by exact Or.inl rfl) rfl E hG hS (Nat.le_of_eq hz0.symm) rfl (by omega) (show 0 + 1 ≤ 1 by omega) (show 0 + 11 ≤ 11 by omega) dX3_feeFor_2 (fun b_1 H hb_1 hg_1 f_1 hz oq hS => ?_)
  refine lv_astore (lv' := [(4, .ref b_1), (0, .ref q), (1, .int v0), (2, .int v1), (3, .int v2)]) hx hb dX3_feeFor_4 hl (by decide) rfl (fun ls hl => ?_)
  refine lv_iconst (v := 0) hx hb dX3_feeFor_6 rfl ?_
  refine lv_ci (y := nI 0) (ixq rfl) ?_
  refine lv_istore (lv' := [(5, .int (nI 0)), (4, .ref b_1), (0, .ref q), (1, .int v0), (2, .int v1), (3, .int v2)]) hx hb dX3_feeFor_7 hl (by decide) rfl (fun ls hl => ?_)
  refine lv_aload_n hx hb dX3_feeFor_9 rfl (lv_at hl 2 rfl) ?_
  refine gf_X3_9 E hG (kn hS hz0 hq) rfl dX3_feeFor_10 ?_
  refine lv_astore (lv' := [(6, .ref st), (5, .int (nI 0)), (4, .ref b_1), (0, .ref q), (1, .int v0), (2, .int v1), (3, .int v2)]) hx hb dX3_feeFor_13 hl (by decide) rfl (fun ls hl => ?_)
  refine lv_aload hx hb dX3_feeFor_15 (lv_at hl 0 rfl) ?_
  refine g_len (t0 := 1) (v := (nI L.length)) E hG (kn hS hz0 hst) rfl rfl dX3_feeFor_17 ?_
  refine lv_istore (lv' := [(7, .int (nI L.length)), (6, .ref st), (5, .int (nI 0)), (4, .ref b_1), (0, .ref q), (1, .int v0), (2, .int v1), (3, .int v2)]) hx hb dX3_feeFor_18 hl (by decide) rfl (fun ls hl => ?_)
  refine lv_iconst (v := 0) hx hb dX3_feeFor_20 rfl ?_
  refine lv_ci (y := nI 0) (ixq rfl) ?_
  refine lv_istore (lv' := [(8, .int (nI 0)), (7, .int (nI L.length)), (6, .ref st), (5, .int (nI 0)), (4, .ref b_1), (0, .ref q), (1, .int v0), (2, .int v1), (3, .int v2)]) hx hb dX3_feeFor_21 hl (by decide) rfl (fun ls hl => ?_)
  have loop : ∀ (j k h : Nat) (F : Nat → Int32), L.length < k + j → k ≤ L.length → okR (L.drop k) h = some 1 → h ≤ 11 → fR v0 v1 v2 (L.drop k) F h 0 = fR v0 v1 v2 L (fun _ => 0) 0 0 → ∀ (H : Heap) (locs : List Loc), At G b_1 (.inl (G.2.1 1, 11, .inl F)) H → va_S (fun q9 => sz ≤ q9) s.heap H locs → ∀ ls : Array Slot, lv_has ls 10 [(8, .int (nI k)), (5, .int (nI h)), (7, .int (nI L.length)), (6, .ref st), (4, .ref b_1), (0, .ref q), (1, .int v0), (2, .int v1), (3, .int v2)] → W p l e { frames := 2, cells := 1, slots := 11, locals := 54 } s m ([.ref q, .int v0, .int v1, .int v2] : List Value).toArray below meth c H locs (0 + 1) (0 + 11) (WQ below ([.ref q, .int v0, .int v1, .int v2] : List Value).toArray s 1 11 (fun q9 => sz ≤ q9) (fun v9 H9 => v9 = some (.int (feeV v0 v1 v2 L)))) (F0 m 23 ls []) := by
    intro j
    induction j with
    | zero => intro k h F z1 z2; omega
    | succ j ih =>
      intro k h F z1 z2 z3 z4 z5 H locs f_1 hS ls hl
      refine lv_iload hx hb dX3_feeFor_23 (lv_at hl 0 rfl) ?_
      refine lv_iload hx hb dX3_feeFor_25 (lv_at hl 2 rfl) ?_
      refine lv_icmp_ge (tgt := 110) hx hb dX3_feeFor_27 (by decide) (fun c_27 => ?_) (fun c_27 => ?_)
      · have c_27 : L.length ≤ k := (nLE (x := (nI L.length)) (y := (nI k)) (a := L.length) (b := k) rfl rfl (by omega) (by omega)).mp c_27
        have e9 : k = L.length := by omega
        rw [e9, List.drop_length] at z3 z5
        have z6 : F 0 = fR v0 v1 v2 L (fun _ => 0) 0 0 := z5
        refine lv_iconst (v := 0) hx hb dX3_feeFor_110 rfl ?_
        refine lv_ldc (v := 999999) hx hb E.2.2.2.1 (E.2.2.2.2 _ kk_X3_21) dX3_feeFor_111 ?_
        refine lv_aload hx hb dX3_feeFor_113 (lv_at hl 4 rfl) ?_
        refine lv_iconst (v := 0) hx hb dX3_feeFor_115 rfl ?_
        refine g_ild 0 E hG f_1 rfl (by omega) (by omega) dX3_feeFor_116 ?_
        refine g_mmin (rest := [.int 0]) E km_X3_22 dX3_feeFor_117 (Nat.le_of_ble_eq_true rfl) (Nat.le_of_ble_eq_true rfl) ⟨(show 0 + 1 ≤ 1 by omega), (show 0 + 11 ≤ 11 by omega)⟩ hl.1 ?_
        refine g_mmax (rest := []) E km_X3_28 dX3_feeFor_120 (Nat.le_of_ble_eq_true rfl) (Nat.le_of_ble_eq_true rfl) ⟨(show 0 + 1 ≤ 1 by omega), (show 0 + 11 ≤ 11 by omega)⟩ hl.1 ?_
        exact wr_int E hr hk hS (show 0 + 1 ≤ 1 by omega) (show 0 + 11 ≤ 11 by omega) (by show some (Value.int _) = some (Value.int (jmax 0 (jmin 999999 _))); rw [← z6]) dX3_feeFor_123
      · have c_27 : ¬ L.length ≤ k := fun z9 => c_27 ((nLE (x := (nI L.length)) (y := (nI k)) (a := L.length) (b := k) rfl rfl (by omega) (by omega)).mpr z9)
        rw [drop_c (by omega)] at z3 z5
        refine lv_aload hx hb dX3_feeFor_30 (lv_at hl 3 rfl) ?_
        refine lv_iload hx hb dX3_feeFor_32 (lv_at hl 0 rfl) ?_
        refine g_ild k E hG (kn hS hz0 hst) rfl (by omega) (by omega) dX3_feeFor_34 ?_
        refine lv_ci (y := (L.getD k 0)) (rfl) ?_
        refine lv_istore (lv' := [(9, .int (L.getD k 0)), (8, .int (nI k)), (5, .int (nI h)), (7, .int (nI L.length)), (6, .ref st), (4, .ref b_1), (0, .ref q), (1, .int v0), (2, .int v1), (3, .int v2)]) hx hb dX3_feeFor_35 hl (by decide) rfl (fun ls hl => ?_)
        refine lv_iload hx hb dX3_feeFor_37 (lv_at hl 0 rfl) ?_
        refine lv_bipush (v := (-4)) hx hb dX3_feeFor_39 rfl ?_
        refine lv_icmp_le (tgt := 71) hx hb dX3_feeFor_41 (by decide) (fun c9 => ?_) (fun c9 => ?_)
        · obtain ⟨z6, z7⟩ := okR_p c9 z3
          obtain ⟨h1, rfl⟩ : ∃ h1, h = h1 + 2 := ⟨h - 2, by omega⟩
          rw [fR_p c9] at z5
          refine lv_iload hx hb dX3_feeFor_71 (lv_at hl 2 rfl) ?_
          refine lv_iconst (v := 2) hx hb dX3_feeFor_73 rfl ?_
          refine lv_icmp_lt (tgt := 104) hx hb dX3_feeFor_74 (by decide) (fun c_74 => ?_) (fun c_74 => ?_)
          · exact absurd ((nLT (x := nI (h1 + 2)) (y := 2) (a := h1 + 2) (b := 2) rfl rfl (by omega) (by omega)).mp c_74) (by omega)
          refine lv_iinc (v := (nI (h1 + 1))) (lv' := [(5, .int (nI (h1 + 1))), (9, .int (L.getD k 0)), (8, .int (nI k)), (7, .int (nI L.length)), (6, .ref st), (4, .ref b_1), (0, .ref q), (1, .int v0), (2, .int v1), (3, .int v2)]) hx hb dX3_feeFor_77 hl (k := 2) rfl (pk_m1 (h1 + 1)) (by decide) rfl (fun ls hl => ?_)
          refine lv_aload hx hb dX3_feeFor_80 (lv_at hl 5 rfl) ?_
          refine lv_iload hx hb dX3_feeFor_82 (lv_at hl 0 rfl) ?_
          refine lv_iconst (v := 1) hx hb dX3_feeFor_84 rfl ?_
          refine lv_isub hx hb dX3_feeFor_85 ?_
          refine lv_iload hx hb dX3_feeFor_86 (lv_at hl 1 rfl) ?_
          refine lv_aload hx hb dX3_feeFor_88 (lv_at hl 5 rfl) ?_
          refine lv_iload hx hb dX3_feeFor_90 (lv_at hl 0 rfl) ?_
          refine lv_iconst (v := 1) hx hb dX3_feeFor_92 rfl ?_
          refine lv_isub hx hb dX3_feeFor_93 ?_
          refine g_ild h1 E hG f_1 (nI_pred h1) (by omega) (by omega) dX3_feeFor_94 ?_
          refine lv_aload hx hb dX3_feeFor_95 (lv_at hl 5 rfl) ?_
          refine lv_iload hx hb dX3_feeFor_97 (lv_at hl 0 rfl) ?_
          refine g_ild (h1 + 1) E hG f_1 rfl (by omega) (by omega) dX3_feeFor_99 ?_
          refine Rd.callS (rest := [.int ((nI (h1 + 1)) - 1), .ref b_1]) (c_X3_result l G (L.getD k 0) (F h1) (F (h1 + 1))) yk_X3_result E km_X3_17 dX3_feeFor_100 hG (hE.S hS hEA) trivial rfl rfl hl.1 ⟨Nat.le_of_ble_eq_true rfl, Nat.le_of_ble_eq_true rfl⟩ ⟨(show 0 + 1 ≤ 1 by omega), (show 0 + 11 ≤ 11 by omega)⟩ (Nat.le_of_ble_eq_true rfl) ?_
          refine g_ist h1 E hG f_1 (nI_pred h1) (by omega) (by omega) hS hg_1 dX3_feeFor_103 (fun H locs f_1 hz oq hS => ?_)
          have f_1 : At G b_1 (.inl (G.2.1 1, 11, .inl (upd F h1 (rsV (L.getD k 0) (F h1) (F (h1 + 1)))))) H := f_1
          refine lv_iinc (v := (nI (k + 1))) (lv' := [(8, .int (nI (k + 1))), (5, .int (nI (h1 + 1))), (9, .int (L.getD k 0)), (7, .int (nI L.length)), (6, .ref st), (4, .ref b_1), (0, .ref q), (1, .int v0), (2, .int v1), (3, .int v2)]) hx hb dX3_feeFor_104 hl (k := 2) rfl (nI_ad rfl rfl) (by decide) rfl (fun ls hl => ?_)
          refine lv_goto (tgt := 23) hx hb dX3_feeFor_107 (by decide) ?_
          exact ih (k + 1) (h1 + 1) _ (by omega) (by omega) z7 (by omega) z5 H locs f_1 hS ls (lv_sub hl [0, 1, 3, 4, 5, 6, 7, 8, 9] rfl)
        · obtain ⟨z6, z7⟩ := okR_o c9 z3
          rw [fR_o c9] at z5
          refine lv_iload hx hb dX3_feeFor_44 (lv_at hl 2 rfl) ?_
          refine lv_aload hx hb dX3_feeFor_46 (lv_at hl 5 rfl) ?_
          refine g_len (t0 := 1) (v := 11) E hG f_1 rfl rfl dX3_feeFor_48 ?_
          refine lv_icmp_ge (tgt := 104) hx hb dX3_feeFor_49 (by decide) (fun c_49 => ?_) (fun c_49 => ?_)
          · exact absurd ((nLE (x := 11) (y := nI h) (a := 11) (b := h) rfl rfl (by omega) (by omega)).mp c_49) (by omega)
          refine lv_aload hx hb dX3_feeFor_52 (lv_at hl 5 rfl) ?_
          refine lv_iload hx hb dX3_feeFor_54 (lv_at hl 2 rfl) ?_
          refine lv_iload hx hb dX3_feeFor_56 (lv_at hl 0 rfl) ?_
          refine lv_iload_n hx hb dX3_feeFor_58 rfl (lv_at hl 7 rfl) ?_
          refine lv_iload_n hx hb dX3_feeFor_59 rfl (lv_at hl 8 rfl) ?_
          refine lv_iload_n hx hb dX3_feeFor_60 rfl (lv_at hl 9 rfl) ?_
          refine Rd.callS (rest := [.int (nI h), .ref b_1]) (c_X3_operand l G (L.getD k 0) v0 v1 v2) yk_X3_operand E km_X3_13 dX3_feeFor_61 hG (hE.S hS hEA) trivial rfl rfl hl.1 ⟨Nat.le_of_ble_eq_true rfl, Nat.le_of_ble_eq_true rfl⟩ ⟨(show 0 + 1 ≤ 1 by omega), (show 0 + 11 ≤ 11 by omega)⟩ (Nat.le_of_ble_eq_true rfl) ?_
          refine g_ist h E hG f_1 rfl (by omega) (by omega) hS hg_1 dX3_feeFor_64 (fun H locs f_1 hz oq hS => ?_)
          have f_1 : At G b_1 (.inl (G.2.1 1, 11, .inl (upd F h (opV v0 v1 v2 (L.getD k 0))))) H := f_1
          refine lv_iinc (v := (nI (h + 1))) (lv' := [(5, .int (nI (h + 1))), (9, .int (L.getD k 0)), (8, .int (nI k)), (7, .int (nI L.length)), (6, .ref st), (4, .ref b_1), (0, .ref q), (1, .int v0), (2, .int v1), (3, .int v2)]) hx hb dX3_feeFor_65 hl (k := 2) rfl (nI_ad rfl rfl) (by decide) rfl (fun ls hl => ?_)
          refine lv_goto (tgt := 104) hx hb dX3_feeFor_68 (by decide) ?_
          refine lv_iinc (v := (nI (k + 1))) (lv' := [(8, .int (nI (k + 1))), (5, .int (nI (h + 1))), (9, .int (L.getD k 0)), (7, .int (nI L.length)), (6, .ref st), (4, .ref b_1), (0, .ref q), (1, .int v0), (2, .int v1), (3, .int v2)]) hx hb dX3_feeFor_104 hl (k := 2) rfl (nI_ad rfl rfl) (by decide) rfl (fun ls hl => ?_)
          refine lv_goto (tgt := 23) hx hb dX3_feeFor_107 (by decide) ?_
          exact ih (k + 1) (h + 1) _ (by omega) (by omega) z7 (by omega) z5 H locs f_1 hS ls (lv_sub hl [0, 1, 3, 4, 5, 6, 7, 8, 9] rfl)
  exact loop (L.length + 1) 0 0 (fun _ => 0) (by omega) (by omega) hok (by omega) rfl H _ f_1 hS ls (lv_sub hl [0, 3, 1, 2, 4, 5, 6, 7, 8] rfl)

set_option maxHeartbeats 4000000 in
set_option maxRecDepth 100000 in
/-- feeFor, the usual rule -/
theorem c_X3_feeFor_u (l : Launch) (G : CG) {q sz : Nat} (hz1 : EFA G sz) (v0 v1 v2 : Int32) : Wr l yX3_feeFor cX3_feeFor 10 ((Option.some FieldType.int)) 2 54 1 11 G [.ref q, .int v0, .int v1, .int v2] (fun H9 => H9.size = sz ∧ At G q (.inr (3, [.ref (G.2.2 1)])) H9) (fun q9 => sz ≤ q9) (fun v9 H9 => v9 = some (.int (feeV v0 v1 v2 [-1, 1000, -7]))) := by
  refine Wr.ofW (by decide) (Nat.le_of_ble_eq_true rfl) (fun p e s m below meth c ls E hG hE hP hr hk hin hl => ?_)
  have hS : va_S (fun q9 => sz ≤ q9) s.heap s.heap [] := va_S.rf
  have hx := E.1
  have hb := E.2.1
  have hl : lv_has ls 10 [(0, .ref q), (1, .int v0), (2, .int v1), (3, .int v2)] := hl
  obtain ⟨hz0, hq⟩ := hP
  have hEA : ∀ q9, sz ≤ q9 → EFA G q9 := fun q9 h9 => Nat.le_trans hz1 h9
  refine lv_bipush (v := 11) hx hb dX3_feeFor_0 rfl ?_
  refine n_newa (atype := .int) (N := 11) (x := (11, .inl (fun _ => 0))) (t0 := 1) rfl ka_int (by exact Or.inl rfl) rfl E hG hS (Nat.le_of_eq hz0.symm) rfl (by omega) (show 0 + 1 ≤ 1 by omega) (show 0 + 11 ≤ 11 by omega) dX3_feeFor_2 (fun b_1 H hb_1 hg_1 f_1 hz oq hS => ?_)
  refine lv_astore (lv' := [(4, .ref b_1), (0, .ref q), (1, .int v0), (2, .int v1), (3, .int v2)]) hx hb dX3_feeFor_4 hl (by decide) rfl (fun ls hl => ?_)
  refine lv_iconst (v := 0) hx hb dX3_feeFor_6 rfl ?_
  refine lv_istore (lv' := [(5, .int 0), (4, .ref b_1), (0, .ref q), (1, .int v0), (2, .int v1), (3, .int v2)]) hx hb dX3_feeFor_7 hl (by decide) rfl (fun ls hl => ?_)
  refine lv_aload_n hx hb dX3_feeFor_9 rfl (lv_at hl 2 rfl) ?_
  refine gf_X3_9 E hG (kn hS hz0 hq) rfl dX3_feeFor_10 ?_
  refine lv_astore (lv' := [(6, .ref (G.2.2 1)), (5, .int 0), (4, .ref b_1), (0, .ref q), (1, .int v0), (2, .int v1), (3, .int v2)]) hx hb dX3_feeFor_13 hl (by decide) rfl (fun ls hl => ?_)
  refine lv_aload hx hb dX3_feeFor_15 (lv_at hl 0 rfl) ?_
  refine va_tlen (v := 3) hx hb hE.2.1 (va_S.wid hS hEA) rfl dX3_feeFor_17 ?_
  refine lv_istore (lv' := [(7, .int 3), (6, .ref (G.2.2 1)), (5, .int 0), (4, .ref b_1), (0, .ref q), (1, .int v0), (2, .int v1), (3, .int v2)]) hx hb dX3_feeFor_18 hl (by decide) rfl (fun ls hl => ?_)
  refine lv_iconst (v := 0) hx hb dX3_feeFor_20 rfl ?_
  refine lv_istore (lv' := [(8, .int 0), (7, .int 3), (6, .ref (G.2.2 1)), (5, .int 0), (4, .ref b_1), (0, .ref q), (1, .int v0), (2, .int v1), (3, .int v2)]) hx hb dX3_feeFor_21 hl (by decide) rfl (fun ls hl => ?_)
  refine lv_iload hx hb dX3_feeFor_23 (lv_at hl 0 rfl) ?_
  refine lv_iload hx hb dX3_feeFor_25 (lv_at hl 1 rfl) ?_
  refine lv_icmp_ge (tgt := 110) hx hb dX3_feeFor_27 (by decide) (fun c_27 => ?_) (fun c_27 => ?_)
  · exact absurd c_27 (by decide)
  · refine lv_aload hx hb dX3_feeFor_30 (lv_at hl 2 rfl) ?_
    refine lv_iload hx hb dX3_feeFor_32 (lv_at hl 0 rfl) ?_
    refine va_ti (v := .int (-1)) hx hb hE.2.1 (va_S.wid hS hEA) (by unfold vp_in; decide) rfl dX3_feeFor_34 ?_
    refine lv_istore (lv' := [(9, .int (-1)), (8, .int 0), (7, .int 3), (6, .ref (G.2.2 1)), (5, .int 0), (4, .ref b_1), (0, .ref q), (1, .int v0), (2, .int v1), (3, .int v2)]) hx hb dX3_feeFor_35 hl (by decide) rfl (fun ls hl => ?_)
    refine lv_iload hx hb dX3_feeFor_37 (lv_at hl 0 rfl) ?_
    refine lv_bipush (v := (-4)) hx hb dX3_feeFor_39 rfl ?_
    refine lv_icmp_le (tgt := 71) hx hb dX3_feeFor_41 (by decide) (fun c_41 => ?_) (fun c_41 => ?_)
    · exact absurd c_41 (by decide)
    · refine lv_iload hx hb dX3_feeFor_44 (lv_at hl 4 rfl) ?_
      refine lv_aload hx hb dX3_feeFor_46 (lv_at hl 5 rfl) ?_
      refine g_len (t0 := 1) (v := 11) E hG f_1 rfl rfl dX3_feeFor_48 ?_
      refine lv_icmp_ge (tgt := 104) hx hb dX3_feeFor_49 (by decide) (fun c_49 => ?_) (fun c_49 => ?_)
      · exact absurd c_49 (by decide)
      · refine lv_aload hx hb dX3_feeFor_52 (lv_at hl 5 rfl) ?_
        refine lv_iload hx hb dX3_feeFor_54 (lv_at hl 4 rfl) ?_
        refine lv_iload hx hb dX3_feeFor_56 (lv_at hl 0 rfl) ?_
        refine lv_iload_n hx hb dX3_feeFor_58 rfl (lv_at hl 7 rfl) ?_
        refine lv_iload_n hx hb dX3_feeFor_59 rfl (lv_at hl 8 rfl) ?_
        refine lv_iload_n hx hb dX3_feeFor_60 rfl (lv_at hl 9 rfl) ?_
        refine Rd.callS (rest := [.int 0, .ref b_1]) (c_X3_operand l G (-1) v0 v1 v2) yk_X3_operand E km_X3_13 dX3_feeFor_61 hG (hE.S hS hEA) trivial rfl rfl hl.1 ⟨Nat.le_of_ble_eq_true rfl, Nat.le_of_ble_eq_true rfl⟩ ⟨(show 0 + 1 ≤ 1 by omega), (show 0 + 11 ≤ 11 by omega)⟩ (Nat.le_of_ble_eq_true rfl) ?_
        refine g_ist 0 E hG f_1 rfl (by omega) (by omega) hS hg_1 dX3_feeFor_64 (fun H locs f_1 hz oq hS => ?_)
        have f_1 : At G b_1 (.inl (G.2.1 1, 11, .inl (upd (fun _ => 0) 0 (opV v0 v1 v2 (-1))))) H := f_1
        refine lv_iinc (v := 1) (lv' := [(5, .int 1), (9, .int (-1)), (8, .int 0), (7, .int 3), (6, .ref (G.2.2 1)), (4, .ref b_1), (0, .ref q), (1, .int v0), (2, .int v1), (3, .int v2)]) hx hb dX3_feeFor_65 hl (k := 4) rfl rfl (by decide) rfl (fun ls hl => ?_)
        refine lv_goto (tgt := 104) hx hb dX3_feeFor_68 (by decide) ?_
        refine lv_iinc (v := 1) (lv' := [(8, .int 1), (5, .int 1), (9, .int (-1)), (7, .int 3), (6, .ref (G.2.2 1)), (4, .ref b_1), (0, .ref q), (1, .int v0), (2, .int v1), (3, .int v2)]) hx hb dX3_feeFor_104 hl (k := 2) rfl rfl (by decide) rfl (fun ls hl => ?_)
        refine lv_goto (tgt := 23) hx hb dX3_feeFor_107 (by decide) ?_
        refine lv_iload hx hb dX3_feeFor_23 (lv_at hl 0 rfl) ?_
        refine lv_iload hx hb dX3_feeFor_25 (lv_at hl 3 rfl) ?_
        refine lv_icmp_ge (tgt := 110) hx hb dX3_feeFor_27 (by decide) (fun c_27 => ?_) (fun c_27 => ?_)
        · exact absurd c_27 (by decide)
        · refine lv_aload hx hb dX3_feeFor_30 (lv_at hl 4 rfl) ?_
          refine lv_iload hx hb dX3_feeFor_32 (lv_at hl 0 rfl) ?_
          refine va_ti (v := .int 1000) hx hb hE.2.1 (va_S.wid hS hEA) (by unfold vp_in; decide) rfl dX3_feeFor_34 ?_
          refine lv_istore (lv' := [(9, .int 1000), (8, .int 1), (5, .int 1), (7, .int 3), (6, .ref (G.2.2 1)), (4, .ref b_1), (0, .ref q), (1, .int v0), (2, .int v1), (3, .int v2)]) hx hb dX3_feeFor_35 hl (by decide) rfl (fun ls hl => ?_)
          refine lv_iload hx hb dX3_feeFor_37 (lv_at hl 0 rfl) ?_
          refine lv_bipush (v := (-4)) hx hb dX3_feeFor_39 rfl ?_
          refine lv_icmp_le (tgt := 71) hx hb dX3_feeFor_41 (by decide) (fun c_41 => ?_) (fun c_41 => ?_)
          · exact absurd c_41 (by decide)
          · refine lv_iload hx hb dX3_feeFor_44 (lv_at hl 2 rfl) ?_
            refine lv_aload hx hb dX3_feeFor_46 (lv_at hl 5 rfl) ?_
            refine g_len (t0 := 1) (v := 11) E hG f_1 rfl rfl dX3_feeFor_48 ?_
            refine lv_icmp_ge (tgt := 104) hx hb dX3_feeFor_49 (by decide) (fun c_49 => ?_) (fun c_49 => ?_)
            · exact absurd c_49 (by decide)
            · refine lv_aload hx hb dX3_feeFor_52 (lv_at hl 5 rfl) ?_
              refine lv_iload hx hb dX3_feeFor_54 (lv_at hl 2 rfl) ?_
              refine lv_iload hx hb dX3_feeFor_56 (lv_at hl 0 rfl) ?_
              refine lv_iload_n hx hb dX3_feeFor_58 rfl (lv_at hl 7 rfl) ?_
              refine lv_iload_n hx hb dX3_feeFor_59 rfl (lv_at hl 8 rfl) ?_
              refine lv_iload_n hx hb dX3_feeFor_60 rfl (lv_at hl 9 rfl) ?_
              refine Rd.callS (rest := [.int 1, .ref b_1]) (c_X3_operand l G 1000 v0 v1 v2) yk_X3_operand E km_X3_13 dX3_feeFor_61 hG (hE.S hS hEA) trivial rfl rfl hl.1 ⟨Nat.le_of_ble_eq_true rfl, Nat.le_of_ble_eq_true rfl⟩ ⟨(show 0 + 1 ≤ 1 by omega), (show 0 + 11 ≤ 11 by omega)⟩ (Nat.le_of_ble_eq_true rfl) ?_
              refine g_ist 1 E hG f_1 rfl (by omega) (by omega) hS hg_1 dX3_feeFor_64 (fun H locs f_1 hz oq hS => ?_)
              have f_1 : At G b_1 (.inl (G.2.1 1, 11, .inl (upd (upd (fun _ => 0) 0 (opV v0 v1 v2 (-1))) 1 (opV v0 v1 v2 1000)))) H := f_1
              refine lv_iinc (v := 2) (lv' := [(5, .int 2), (9, .int 1000), (8, .int 1), (7, .int 3), (6, .ref (G.2.2 1)), (4, .ref b_1), (0, .ref q), (1, .int v0), (2, .int v1), (3, .int v2)]) hx hb dX3_feeFor_65 hl (k := 2) rfl rfl (by decide) rfl (fun ls hl => ?_)
              refine lv_goto (tgt := 104) hx hb dX3_feeFor_68 (by decide) ?_
              refine lv_iinc (v := 2) (lv' := [(8, .int 2), (5, .int 2), (9, .int 1000), (7, .int 3), (6, .ref (G.2.2 1)), (4, .ref b_1), (0, .ref q), (1, .int v0), (2, .int v1), (3, .int v2)]) hx hb dX3_feeFor_104 hl (k := 2) rfl rfl (by decide) rfl (fun ls hl => ?_)
              refine lv_goto (tgt := 23) hx hb dX3_feeFor_107 (by decide) ?_
              refine lv_iload hx hb dX3_feeFor_23 (lv_at hl 0 rfl) ?_
              refine lv_iload hx hb dX3_feeFor_25 (lv_at hl 3 rfl) ?_
              refine lv_icmp_ge (tgt := 110) hx hb dX3_feeFor_27 (by decide) (fun c_27 => ?_) (fun c_27 => ?_)
              · exact absurd c_27 (by decide)
              · refine lv_aload hx hb dX3_feeFor_30 (lv_at hl 4 rfl) ?_
                refine lv_iload hx hb dX3_feeFor_32 (lv_at hl 0 rfl) ?_
                refine va_ti (v := .int (-7)) hx hb hE.2.1 (va_S.wid hS hEA) (by unfold vp_in; decide) rfl dX3_feeFor_34 ?_
                refine lv_istore (lv' := [(9, .int (-7)), (8, .int 2), (5, .int 2), (7, .int 3), (6, .ref (G.2.2 1)), (4, .ref b_1), (0, .ref q), (1, .int v0), (2, .int v1), (3, .int v2)]) hx hb dX3_feeFor_35 hl (by decide) rfl (fun ls hl => ?_)
                refine lv_iload hx hb dX3_feeFor_37 (lv_at hl 0 rfl) ?_
                refine lv_bipush (v := (-4)) hx hb dX3_feeFor_39 rfl ?_
                refine lv_icmp_le (tgt := 71) hx hb dX3_feeFor_41 (by decide) (fun c_41 => ?_) (fun c_41 => ?_)
                · refine lv_iload hx hb dX3_feeFor_71 (lv_at hl 2 rfl) ?_
                  refine lv_iconst (v := 2) hx hb dX3_feeFor_73 rfl ?_
                  refine lv_icmp_lt (tgt := 104) hx hb dX3_feeFor_74 (by decide) (fun c_74 => ?_) (fun c_74 => ?_)
                  · exact absurd c_74 (by decide)
                  · refine lv_iinc (v := 1) (lv' := [(5, .int 1), (9, .int (-7)), (8, .int 2), (7, .int 3), (6, .ref (G.2.2 1)), (4, .ref b_1), (0, .ref q), (1, .int v0), (2, .int v1), (3, .int v2)]) hx hb dX3_feeFor_77 hl (k := 2) rfl rfl (by decide) rfl (fun ls hl => ?_)
                    refine lv_aload hx hb dX3_feeFor_80 (lv_at hl 5 rfl) ?_
                    refine lv_iload hx hb dX3_feeFor_82 (lv_at hl 0 rfl) ?_
                    refine lv_iconst (v := 1) hx hb dX3_feeFor_84 rfl ?_
                    refine lv_isub hx hb dX3_feeFor_85 ?_
                    refine lv_ci (y := 0) (by decide) ?_
                    refine lv_iload hx hb dX3_feeFor_86 (lv_at hl 1 rfl) ?_
                    refine lv_aload hx hb dX3_feeFor_88 (lv_at hl 5 rfl) ?_
                    refine lv_iload hx hb dX3_feeFor_90 (lv_at hl 0 rfl) ?_
                    refine lv_iconst (v := 1) hx hb dX3_feeFor_92 rfl ?_
                    refine lv_isub hx hb dX3_feeFor_93 ?_
                    refine lv_ci (y := 0) (by decide) ?_
                    refine g_ild 0 E hG f_1 rfl (by omega) (by omega) dX3_feeFor_94 ?_
                    refine lv_aload hx hb dX3_feeFor_95 (lv_at hl 5 rfl) ?_
                    refine lv_iload hx hb dX3_feeFor_97 (lv_at hl 0 rfl) ?_
                    refine g_ild 1 E hG f_1 rfl (by omega) (by omega) dX3_feeFor_99 ?_
                    refine Rd.callS (rest := [.int 0, .ref b_1]) (c_X3_result l G (-7) ((upd (upd (fun _ => 0) 0 (opV v0 v1 v2 (-1))) 1 (opV v0 v1 v2 1000)) 0) ((upd (upd (fun _ => 0) 0 (opV v0 v1 v2 (-1))) 1 (opV v0 v1 v2 1000)) 1)) yk_X3_result E km_X3_17 dX3_feeFor_100 hG (hE.S hS hEA) trivial rfl rfl hl.1 ⟨Nat.le_of_ble_eq_true rfl, Nat.le_of_ble_eq_true rfl⟩ ⟨(show 0 + 1 ≤ 1 by omega), (show 0 + 11 ≤ 11 by omega)⟩ (Nat.le_of_ble_eq_true rfl) ?_
                    refine g_ist 0 E hG f_1 rfl (by omega) (by omega) hS hg_1 dX3_feeFor_103 (fun H locs f_1 hz oq hS => ?_)
                    have f_1 : At G b_1 (.inl (G.2.1 1, 11, .inl (upd (upd (upd (fun _ => 0) 0 (opV v0 v1 v2 (-1))) 1 (opV v0 v1 v2 1000)) 0 (rsV (-7) ((upd (upd (fun _ => 0) 0 (opV v0 v1 v2 (-1))) 1 (opV v0 v1 v2 1000)) 0) ((upd (upd (fun _ => 0) 0 (opV v0 v1 v2 (-1))) 1 (opV v0 v1 v2 1000)) 1))))) H := f_1
                    refine lv_iinc (v := 3) (lv' := [(8, .int 3), (5, .int 1), (9, .int (-7)), (7, .int 3), (6, .ref (G.2.2 1)), (4, .ref b_1), (0, .ref q), (1, .int v0), (2, .int v1), (3, .int v2)]) hx hb dX3_feeFor_104 hl (k := 2) rfl rfl (by decide) rfl (fun ls hl => ?_)
                    refine lv_goto (tgt := 23) hx hb dX3_feeFor_107 (by decide) ?_
                    refine lv_iload hx hb dX3_feeFor_23 (lv_at hl 0 rfl) ?_
                    refine lv_iload hx hb dX3_feeFor_25 (lv_at hl 3 rfl) ?_
                    refine lv_icmp_ge (tgt := 110) hx hb dX3_feeFor_27 (by decide) (fun c_27 => ?_) (fun c_27 => ?_)
                    · refine lv_iconst (v := 0) hx hb dX3_feeFor_110 rfl ?_
                      refine lv_ldc (v := 999999) hx hb E.2.2.2.1 (E.2.2.2.2 _ kk_X3_21) dX3_feeFor_111 ?_
                      refine lv_aload hx hb dX3_feeFor_113 (lv_at hl 5 rfl) ?_
                      refine lv_iconst (v := 0) hx hb dX3_feeFor_115 rfl ?_
                      refine g_ild 0 E hG f_1 rfl (by omega) (by omega) dX3_feeFor_116 ?_
                      refine g_mmin (rest := [.int 0]) E km_X3_22 dX3_feeFor_117 (Nat.le_of_ble_eq_true rfl) (Nat.le_of_ble_eq_true rfl) ⟨(show 0 + 1 ≤ 1 by omega), (show 0 + 11 ≤ 11 by omega)⟩ hl.1 ?_
                      refine g_mmax (rest := []) E km_X3_28 dX3_feeFor_120 (Nat.le_of_ble_eq_true rfl) (Nat.le_of_ble_eq_true rfl) ⟨(show 0 + 1 ≤ 1 by omega), (show 0 + 11 ≤ 11 by omega)⟩ hl.1 ?_
                      exact wr_int E hr hk hS (show 0 + 1 ≤ 1 by omega) (show 0 + 11 ≤ 11 by omega) (by unfold feeV; rw [fR_o (by decide), fR_o (by decide), fR_p (by decide)]; rfl) dX3_feeFor_123
                    · exact absurd c_27 (by decide)
                · exact absurd c_41 (by decide)

set_option maxHeartbeats 4000000 in
set_option maxRecDepth 100000 in
/-- fee -/
theorem c_X7_fee (l : Launch) (G : CG) {x bu bk pa : Nat} {bl es pn : Int32} {AO : Nat → Prop} {d : Nat → Int32} {nc np nh : Nat} {sz : Nat} (hz1 : EFA G sz) (z : Int32) (k : Nat) (ez : z = nI k) (hk9 : k < np) (hp0 : np ≤ 24) : Wr l yX7_fee cX7_fee 3 ((Option.some FieldType.int)) 7 112 1 11 G [.ref x, .int z] (fun H9 => H9.size = sz ∧ DK G AO x bu bl es bk pa pn d nc np nh H9) (fun q9 => sz ≤ q9) (fun v9 H9 => ∃ r, v9 = some (.int r) ∧ FeeR d k r) := by
  refine Wr.ofW (by decide) (Nat.le_of_ble_eq_true rfl) (fun p e s m below meth c ls E hG hE hP hr hk hin hl => ?_)
  have hS : va_S (fun q9 => sz ≤ q9) s.heap s.heap [] := va_S.rf
  have hx := E.1
  have hb := E.2.1
  have hl : lv_has ls 3 [(0, .ref x), (1, .int z)] := hl
  obtain ⟨hz0, hX, hB⟩ := hP
  obtain ⟨ca, ho, fe, cr, pr, cA, pA, k1, k2, k3, k4, k5, k6, k7, k8⟩ := id hB
  have hEA : ∀ q9, sz ≤ q9 → EFA G q9 := fun q9 h9 => Nat.le_trans hz1 h9
  obtain ⟨st, kf, kc⟩ := id k8
  rcases kc with ⟨e4, est⟩ | ⟨e4, L, ks, hF⟩
  · refine lv_aload_n hx hb dX7_fee_0 rfl (lv_at hl 0 rfl) ?_
    refine lv_iload_n hx hb dX7_fee_1 rfl (lv_at hl 1 rfl) ?_
    refine Rd.callV (rest := []) (c_X7_presentationAt (pA := pA) l G z k ez (by omega) hp0) yk_X7_presentationAt E km_X7_136 dX7_fee_2 hG (hE.S hS hEA) ⟨hX, k1.1, k5.1⟩ (At.recv hG (kn hS hz0 hX) rfl) rfl rfl hl.1 ⟨Nat.le_of_ble_eq_true rfl, Nat.le_of_ble_eq_true rfl⟩ ⟨(show 0 ≤ 1 by omega), (show 0 ≤ 11 by omega)⟩ (Nat.le_of_ble_eq_true rfl) ?_
    refine lv_astore_n (lv' := [(2, .ref (pA k)), (0, .ref x), (1, .int z)]) hx hb dX7_fee_5 rfl hl (by decide) rfl (fun ls hl => ?_)
    refine lv_aload_n hx hb dX7_fee_6 rfl (lv_at hl 1 rfl) ?_
    refine gf_X7_26 E hG (kn hS hz0 hX) rfl dX7_fee_7 ?_
    refine gf_X7_158 E hG (kn hS hz0 k1.1) rfl dX7_fee_10 ?_
    refine lv_aload_n hx hb dX7_fee_13 rfl (lv_at hl 0 rfl) ?_
    refine gf_X7_162 E hG (k7 k (by omega)).1 rfl dX7_fee_14 ?_
    refine lv_aload_n hx hb dX7_fee_17 rfl (lv_at hl 1 rfl) ?_
    refine gf_X7_26 E hG (kn hS hz0 hX) rfl dX7_fee_18 ?_
    refine gf_X7_79 E hG (kn hS hz0 k1.1) rfl dX7_fee_21 ?_
    refine lv_aload_n hx hb dX7_fee_24 rfl (lv_at hl 0 rfl) ?_
    refine gf_X7_165 E hG (k7 k (by omega)).1 rfl dX7_fee_25 ?_
    refine lv_isub hx hb dX7_fee_28 ?_
    refine lv_aload_n hx hb dX7_fee_29 rfl (lv_at hl 0 rfl) ?_
    refine gf_X7_148 E hG (k7 k (by omega)).1 rfl dX7_fee_30 ?_
    refine Rd.callS (rest := [.int ((d 3) - (d (pP k + 1))), .int (d (pP k + 2)), .ref fe]) (c_J6_bitCount_0f7a4 l G (d (pP k + 3))) yk_J6_bitCount_0f7a4 E km_X7_168 dX7_fee_33 hG (hE.S hS hEA) trivial rfl rfl hl.1 ⟨Nat.le_of_ble_eq_true rfl, Nat.le_of_ble_eq_true rfl⟩ ⟨(show 0 ≤ 1 by omega), (show 0 ≤ 11 by omega)⟩ (Nat.le_of_ble_eq_true rfl) ?_
    have hgz : sz ≤ s.heap.size := Nat.le_trans (Nat.le_of_eq hz0.symm) hS.1
    refine Wr.callV (rest := []) (c_X3_feeFor_u l G (Nat.le_trans hz1 hgz) (d (pP k + 2)) ((d 3) - (d (pP k + 1))) (bcV (d (pP k + 3)))) yk_X3_feeFor E km_X7_173 dX7_fee_36 hG (hE.S hS hEA) ⟨rfl, (by rw [← est]; exact kf.1)⟩ (At.recv hG kf.1 rfl) rfl rfl hl.1 ⟨Nat.le_of_ble_eq_true rfl, Nat.le_of_ble_eq_true rfl⟩ ⟨(show 0 + 1 ≤ 1 by omega), (show 0 + 11 ≤ 11 by omega)⟩ (Nat.le_of_ble_eq_true rfl) hS (fun q9 h9 => (Nat.le_trans (Nat.le_trans (Nat.le_of_eq hz0.symm) hS.1) h9)) (fun v9 H locs hq hz9 hfr9 hS => ?_)
    obtain rfl := hq
    exact wr_int E hr hk hS (show 0 + 1 ≤ 1 by omega) (show 0 + 11 ≤ 11 by omega) (⟨_, rfl, Or.inl ⟨e4, rfl⟩⟩) dX7_fee_39
  · refine lv_aload_n hx hb dX7_fee_0 rfl (lv_at hl 0 rfl) ?_
    refine lv_iload_n hx hb dX7_fee_1 rfl (lv_at hl 1 rfl) ?_
    refine Rd.callV (rest := []) (c_X7_presentationAt (pA := pA) l G z k ez (by omega) hp0) yk_X7_presentationAt E km_X7_136 dX7_fee_2 hG (hE.S hS hEA) ⟨hX, k1.1, k5.1⟩ (At.recv hG (kn hS hz0 hX) rfl) rfl rfl hl.1 ⟨Nat.le_of_ble_eq_true rfl, Nat.le_of_ble_eq_true rfl⟩ ⟨(show 0 ≤ 1 by omega), (show 0 ≤ 11 by omega)⟩ (Nat.le_of_ble_eq_true rfl) ?_
    refine lv_astore_n (lv' := [(2, .ref (pA k)), (0, .ref x), (1, .int z)]) hx hb dX7_fee_5 rfl hl (by decide) rfl (fun ls hl => ?_)
    refine lv_aload_n hx hb dX7_fee_6 rfl (lv_at hl 1 rfl) ?_
    refine gf_X7_26 E hG (kn hS hz0 hX) rfl dX7_fee_7 ?_
    refine gf_X7_158 E hG (kn hS hz0 k1.1) rfl dX7_fee_10 ?_
    refine lv_aload_n hx hb dX7_fee_13 rfl (lv_at hl 0 rfl) ?_
    refine gf_X7_162 E hG (k7 k (by omega)).1 rfl dX7_fee_14 ?_
    refine lv_aload_n hx hb dX7_fee_17 rfl (lv_at hl 1 rfl) ?_
    refine gf_X7_26 E hG (kn hS hz0 hX) rfl dX7_fee_18 ?_
    refine gf_X7_79 E hG (kn hS hz0 k1.1) rfl dX7_fee_21 ?_
    refine lv_aload_n hx hb dX7_fee_24 rfl (lv_at hl 0 rfl) ?_
    refine gf_X7_165 E hG (k7 k (by omega)).1 rfl dX7_fee_25 ?_
    refine lv_isub hx hb dX7_fee_28 ?_
    refine lv_aload_n hx hb dX7_fee_29 rfl (lv_at hl 0 rfl) ?_
    refine gf_X7_148 E hG (k7 k (by omega)).1 rfl dX7_fee_30 ?_
    refine Rd.callS (rest := [.int ((d 3) - (d (pP k + 1))), .int (d (pP k + 2)), .ref fe]) (c_J6_bitCount_0f7a4 l G (d (pP k + 3))) yk_J6_bitCount_0f7a4 E km_X7_168 dX7_fee_33 hG (hE.S hS hEA) trivial rfl rfl hl.1 ⟨Nat.le_of_ble_eq_true rfl, Nat.le_of_ble_eq_true rfl⟩ ⟨(show 0 ≤ 1 by omega), (show 0 ≤ 11 by omega)⟩ (Nat.le_of_ble_eq_true rfl) ?_
    have hgz : sz ≤ s.heap.size := Nat.le_trans (Nat.le_of_eq hz0.symm) hS.1
    refine Wr.callV (rest := []) (c_X3_feeFor (L := L) l G (Nat.le_trans hz1 hgz) (d (pP k + 2)) ((d 3) - (d (pP k + 1))) (bcV (d (pP k + 3))) hF.2.2.2.2.1 hF.2.2.2.1) yk_X3_feeFor E km_X7_173 dX7_fee_36 hG (hE.S hS hEA) ⟨rfl, kf.1, ks.1⟩ (At.recv hG kf.1 rfl) rfl rfl hl.1 ⟨Nat.le_of_ble_eq_true rfl, Nat.le_of_ble_eq_true rfl⟩ ⟨(show 0 + 1 ≤ 1 by omega), (show 0 + 11 ≤ 11 by omega)⟩ (Nat.le_of_ble_eq_true rfl) hS (fun q9 h9 => (Nat.le_trans (Nat.le_trans (Nat.le_of_eq hz0.symm) hS.1) h9)) (fun v9 H locs hq hz9 hfr9 hS => ?_)
    obtain rfl := hq
    exact wr_int E hr hk hS (show 0 + 1 ≤ 1 by omega) (show 0 + 11 ≤ 11 by omega) (⟨_, rfl, Or.inr ⟨e4, L, hF, rfl⟩⟩) dX7_fee_39
