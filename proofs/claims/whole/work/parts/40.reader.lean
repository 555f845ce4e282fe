/-! READING: the class's reader, its small methods -/
/-- a reader's fields -/
abbrev rdF (er es : Int32) (bk tx : Nat) (kd st en va fg : Int32) (fs : Nat) (fc : Int32) : List Value := [.int er, .int es, .ref bk, .ref tx, .int kd, .int st, .int en, .int va, .int fg, .ref fs, .int fc]
/-- the kind of what stands at k -/
def kdA (tb : Nat → Int32) (n k : Nat) : Int32 := if k < n then (if tb k < 48 then (if tb k < 97 then tb k else if 122 < tb k then tb k else 1002) else if 57 < tb k then (if tb k < 97 then tb k else if 122 < tb k then tb k else 1002) else 1001) else 1000
set_option maxHeartbeats 4000000 in
set_option maxRecDepth 100000 in
/-- kindAt -/
theorem c_X6_kindAt (l : Launch) (G : CG) {x bk tx fs : Nat} {er es kd st en va fg fc : Int32} {tb : Nat → Int32} {n : Nat} (hn9 : n ≤ 900) (z : Int32) (k : Nat) (ez : z = nI k) (hk9 : k < 100000) : Rd l yX6_kindAt cX6_kindAt 3 ((Option.some FieldType.int)) 0 0 G [.ref x, .int z] (fun H9 => At G x (.inr (6, rdF er es bk tx kd st en va fg fs fc)) H9 ∧ At G tx (bA G n tb) H9) (some (.int (kdA tb n k))) := by
  refine Rd.ofW (by decide) (Nat.le_of_ble_eq_true rfl) (fun p e s m below meth c ls E hG hE hP hr hk hl => ?_)
  have hx := E.1
  have hb := E.2.1
  have hl : lv_has ls 3 [(0, .ref x), (1, .int z)] := hl
  refine lv_iload_n hx hb dX6_kindAt_0 rfl (lv_at hl 1 rfl) ?_
  refine lv_if_lt (tgt := 13) hx hb dX6_kindAt_1 (by decide) (fun c_1 => ?_) (fun c_1 => ?_)
  · exact absurd c_1 (nI_nneg ez (by omega))
  · refine lv_iload_n hx hb dX6_kindAt_4 rfl (lv_at hl 1 rfl) ?_
    refine lv_aload_n hx hb dX6_kindAt_5 rfl (lv_at hl 0 rfl) ?_
    refine gf_X6_9 E hG hP.1 rfl dX6_kindAt_6 ?_
    refine g_len (t0 := 0) (v := (nI n)) E hG hP.2 rfl rfl dX6_kindAt_9 ?_
    refine lv_icmp_lt (tgt := 17) hx hb dX6_kindAt_10 (by decide) (fun c_10 => ?_) (fun c_10 => ?_)
    · have c_10 : k < n := (nLT (x := z) (y := (nI n)) (a := k) (b := n) ez rfl (by omega) (by omega)).mp c_10
      refine lv_aload_n hx hb dX6_kindAt_17 rfl (lv_at hl 0 rfl) ?_
      refine gf_X6_9 E hG hP.1 rfl dX6_kindAt_18 ?_
      refine lv_iload_n hx hb dX6_kindAt_21 rfl (lv_at hl 1 rfl) ?_
      refine g_bld k E hG hP.2 (ixq ez) (by omega) (by omega) dX6_kindAt_22 ?_
      refine lv_istore_n (lv' := [(2, .int (tb k)), (0, .ref x), (1, .int z)]) hx hb dX6_kindAt_23 rfl hl (by decide) rfl (fun ls hl => ?_)
      refine lv_iload_n hx hb dX6_kindAt_24 rfl (lv_at hl 0 rfl) ?_
      refine lv_bipush (v := 48) hx hb dX6_kindAt_25 rfl ?_
      refine lv_icmp_lt (tgt := 40) hx hb dX6_kindAt_27 (by decide) (fun c_27 => ?_) (fun c_27 => ?_)
      · refine lv_iload_n hx hb dX6_kindAt_40 rfl (lv_at hl 0 rfl) ?_
        refine lv_bipush (v := 97) hx hb dX6_kindAt_41 rfl ?_
        refine lv_icmp_lt (tgt := 58) hx hb dX6_kindAt_43 (by decide) (fun c_43 => ?_) (fun c_43 => ?_)
        · refine lv_iload_n hx hb dX6_kindAt_58 rfl (lv_at hl 0 rfl) ?_
          exact rd_int E hr hk (by simp [kdA, c_10, c_27, c_43]) dX6_kindAt_59
        · refine lv_iload_n hx hb dX6_kindAt_46 rfl (lv_at hl 0 rfl) ?_
          refine lv_bipush (v := 122) hx hb dX6_kindAt_47 rfl ?_
          refine lv_icmp_gt (tgt := 58) hx hb dX6_kindAt_49 (by decide) (fun c_49 => ?_) (fun c_49 => ?_)
          · refine lv_iload_n hx hb dX6_kindAt_58 rfl (lv_at hl 0 rfl) ?_
            exact rd_int E hr hk (by simp [kdA, c_10, c_27, c_43, c_49]) dX6_kindAt_59
          · refine lv_sipush (v := 1002) hx hb dX6_kindAt_52 rfl ?_
            refine lv_goto (tgt := 59) hx hb dX6_kindAt_55 (by decide) ?_
            exact rd_int E hr hk (by simp [kdA, c_10, c_27, c_43, c_49]) dX6_kindAt_59
      · refine lv_iload_n hx hb dX6_kindAt_30 rfl (lv_at hl 0 rfl) ?_
        refine lv_bipush (v := 57) hx hb dX6_kindAt_31 rfl ?_
        refine lv_icmp_gt (tgt := 40) hx hb dX6_kindAt_33 (by decide) (fun c_33 => ?_) (fun c_33 => ?_)
        · refine lv_iload_n hx hb dX6_kindAt_40 rfl (lv_at hl 0 rfl) ?_
          refine lv_bipush (v := 97) hx hb dX6_kindAt_41 rfl ?_
          refine lv_icmp_lt (tgt := 58) hx hb dX6_kindAt_43 (by decide) (fun c_43 => ?_) (fun c_43 => ?_)
          · refine lv_iload_n hx hb dX6_kindAt_58 rfl (lv_at hl 0 rfl) ?_
            exact rd_int E hr hk (by simp [kdA, c_10, c_27, c_33, c_43]) dX6_kindAt_59
          · refine lv_iload_n hx hb dX6_kindAt_46 rfl (lv_at hl 0 rfl) ?_
            refine lv_bipush (v := 122) hx hb dX6_kindAt_47 rfl ?_
            refine lv_icmp_gt (tgt := 58) hx hb dX6_kindAt_49 (by decide) (fun c_49 => ?_) (fun c_49 => ?_)
            · refine lv_iload_n hx hb dX6_kindAt_58 rfl (lv_at hl 0 rfl) ?_
              exact rd_int E hr hk (by simp [kdA, c_10, c_27, c_33, c_43, c_49]) dX6_kindAt_59
            · refine lv_sipush (v := 1002) hx hb dX6_kindAt_52 rfl ?_
              refine lv_goto (tgt := 59) hx hb dX6_kindAt_55 (by decide) ?_
              exact rd_int E hr hk (by simp [kdA, c_10, c_27, c_33, c_43, c_49]) dX6_kindAt_59
        · refine lv_sipush (v := 1001) hx hb dX6_kindAt_36 rfl ?_
          exact rd_int E hr hk (by simp [kdA, c_10, c_27, c_33]) dX6_kindAt_39
    · have c_10 : ¬ k < n := fun z9 => c_10 ((nLT (x := z) (y := (nI n)) (a := k) (b := n) ez rfl (by omega) (by omega)).mpr z9)
      refine lv_sipush (v := 1000) hx hb dX6_kindAt_13 rfl ?_
      exact rd_int E hr hk (by simp [kdA, c_10]) dX6_kindAt_16

set_option maxHeartbeats 4000000 in
set_option maxRecDepth 100000 in
/-- fail -/
theorem c_X6_fail (l : Launch) (G : CG) {x bk tx fs : Nat} {er es kd st en va fg fc : Int32} (hEx : EFA G x) (z : Int32) (he9 : er = 0) : Wr l yX6_fail cX6_fail 2 ((Option.none : Option FieldType)) 0 0 0 0 G [.ref x, .int z] (At G x (.inr (6, rdF er es bk tx kd st en va fg fs fc))) (fun q9 => q9 = x) (fun v9 H9 => v9 = none ∧ At G x (.inr (6, rdF z st bk tx 1000 st en va fg fs fc)) H9) := by
  refine Wr.ofW (by decide) (Nat.le_of_ble_eq_true rfl) (fun p e s m below meth c ls E hG hE hP hr hk hin hl => ?_)
  have hS : va_S (fun q9 => q9 = x) s.heap s.heap [] := va_S.rf
  have hx := E.1
  have hb := E.2.1
  have hl : lv_has ls 2 [(0, .ref x), (1, .int z)] := hl
  have f_x := hP
  refine lv_aload_n hx hb dX6_fail_0 rfl (lv_at hl 0 rfl) ?_
  refine gf_X6_15 E hG f_x rfl dX6_fail_1 ?_
  refine lv_if_ne (tgt := 20) hx hb dX6_fail_4 (by decide) (fun c_4 => ?_) (fun c_4 => ?_)
  · exact absurd he9 c_4
  · refine lv_aload_n hx hb dX6_fail_7 rfl (lv_at hl 0 rfl) ?_
    refine lv_iload_n hx hb dX6_fail_8 rfl (lv_at hl 1 rfl) ?_
    refine pf_X6_15 E hG f_x (Nat.le_of_ble_eq_true rfl) rfl rfl hS rfl dX6_fail_9 (fun H locs f_x hz oq hS => ?_)
    have f_x : At G x (.inr (6, [.int z, .int es, .ref bk, .ref tx, .int kd, .int st, .int en, .int va, .int fg, .ref fs, .int fc])) H := f_x
    refine lv_aload_n hx hb dX6_fail_12 rfl (lv_at hl 0 rfl) ?_
    refine lv_aload_n hx hb dX6_fail_13 rfl (lv_at hl 0 rfl) ?_
    refine gf_X6_209 E hG f_x rfl dX6_fail_14 ?_
    refine pf_X6_19 E hG f_x (Nat.le_of_ble_eq_true rfl) rfl rfl hS rfl dX6_fail_17 (fun H locs f_x hz oq hS => ?_)
    have f_x : At G x (.inr (6, [.int z, .int st, .ref bk, .ref tx, .int kd, .int st, .int en, .int va, .int fg, .ref fs, .int fc])) H := f_x
    refine lv_aload_n hx hb dX6_fail_20 rfl (lv_at hl 0 rfl) ?_
    refine lv_sipush (v := 1000) hx hb dX6_fail_21 rfl ?_
    refine pf_X6_39 E hG f_x (Nat.le_of_ble_eq_true rfl) rfl rfl hS rfl dX6_fail_24 (fun H locs f_x hz oq hS => ?_)
    have f_x : At G x (.inr (6, [.int z, .int st, .ref bk, .ref tx, .int 1000, .int st, .int en, .int va, .int fg, .ref fs, .int fc])) H := f_x
    exact wr_void E hr hk hS (show 0 ≤ 0 by omega) (show 0 ≤ 0 by omega) (⟨rfl, f_x⟩) dX6_fail_27

set_option maxHeartbeats 4000000 in
set_option maxRecDepth 100000 in
/-- fail -/
theorem c_X6_fail_b (l : Launch) (G : CG) {x bk tx fs : Nat} {er es kd st en va fg fc : Int32} (hEx : EFA G x) (z : Int32) (he9 : ¬ er = 0) : Wr l yX6_fail cX6_fail 2 ((Option.none : Option FieldType)) 0 0 0 0 G [.ref x, .int z] (At G x (.inr (6, rdF er es bk tx kd st en va fg fs fc))) (fun q9 => q9 = x) (fun v9 H9 => v9 = none ∧ At G x (.inr (6, rdF er es bk tx 1000 st en va fg fs fc)) H9) := by
  refine Wr.ofW (by decide) (Nat.le_of_ble_eq_true rfl) (fun p e s m below meth c ls E hG hE hP hr hk hin hl => ?_)
  have hS : va_S (fun q9 => q9 = x) s.heap s.heap [] := va_S.rf
  have hx := E.1
  have hb := E.2.1
  have hl : lv_has ls 2 [(0, .ref x), (1, .int z)] := hl
  have f_x := hP
  refine lv_aload_n hx hb dX6_fail_0 rfl (lv_at hl 0 rfl) ?_
  refine gf_X6_15 E hG f_x rfl dX6_fail_1 ?_
  refine lv_if_ne (tgt := 20) hx hb dX6_fail_4 (by decide) (fun c_4 => ?_) (fun c_4 => ?_)
  · refine lv_aload_n hx hb dX6_fail_20 rfl (lv_at hl 0 rfl) ?_
    refine lv_sipush (v := 1000) hx hb dX6_fail_21 rfl ?_
    refine pf_X6_39 E hG f_x (Nat.le_of_ble_eq_true rfl) rfl rfl hS rfl dX6_fail_24 (fun H locs f_x hz oq hS => ?_)
    have f_x : At G x (.inr (6, [.int er, .int es, .ref bk, .ref tx, .int 1000, .int st, .int en, .int va, .int fg, .ref fs, .int fc])) H := f_x
    exact wr_void E hr hk hS (show 0 ≤ 0 by omega) (show 0 ≤ 0 by omega) (⟨rfl, f_x⟩) dX6_fail_27
  · exact absurd c_4 he9
