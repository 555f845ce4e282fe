/-! READING: once, and the class's small readers of bytes -/
set_option maxHeartbeats 4000000 in
set_option maxRecDepth 100000 in
/-- once, the first time -/
theorem c_X8_once (l : Launch) (G : CG) {B : Nat → Nat} {t bl tl ps ea eo ud ns ne : Int32} {bf da dr : Nat → Int32} {hi : Nat → Nat → Int32} {sk : Nat → Int64} (hD : MD G B) (z : Int32) : Wr l yX8_once cX8_once 3 ((Option.none : Option FieldType)) 0 0 0 0 G [.ref (B 0), .int 0, .int z] (MW G B (fm t bl tl ps 0 ea eo ud ns ne 0) bf da dr hi sk) (MA B) (fun v9 H9 => v9 = none ∧ MW G B (fm t bl tl ps 0 ea eo ud ns ne 1) bf da dr hi sk H9) := by
  refine Wr.ofW (by decide) (Nat.le_of_ble_eq_true rfl) (fun p e s m below meth c ls E hG hE hP hr hk hin hl => ?_)
  have hS : va_S (MA B) s.heap s.heap [] := va_S.rf
  have hx := E.1
  have hb := E.2.1
  have hl : lv_has ls 3 [(0, .ref (B 0)), (1, .int 0), (2, .int z)] := hl
  refine lv_aload_n hx hb dX8_once_0 rfl (lv_at hl 0 rfl) ?_
  refine gf_X8_123 (v := .int 0) E hG hP.1 rfl dX8_once_1 ?_
  refine lv_iload_n hx hb dX8_once_4 rfl (lv_at hl 1 rfl) ?_
  refine lv_ishr hx hb dX8_once_5 ?_
  refine lv_iconst (v := 1) hx hb dX8_once_6 rfl ?_
  refine lv_iand hx hb dX8_once_7 ?_
  refine lv_iconst (v := 1) hx hb dX8_once_8 rfl ?_
  refine lv_icmp_ne (tgt := 19) hx hb dX8_once_9 (by decide) (fun c_9 => ?_) (fun c_9 => ?_)
  · refine lv_aload_n hx hb dX8_once_19 rfl (lv_at hl 0 rfl) ?_
    refine lv_dup hx hb dX8_once_20 rfl ?_
    refine gf_X8_123 (v := .int 0) E hG hP.1 rfl dX8_once_21 ?_
    refine lv_iconst (v := 1) hx hb dX8_once_24 rfl ?_
    refine lv_iload_n hx hb dX8_once_25 rfl (lv_at hl 1 rfl) ?_
    refine lv_ishl hx hb dX8_once_26 ?_
    refine lv_ior hx hb dX8_once_27 ?_
    refine lv_ci (y := 1) (by decide) ?_
    refine pf_X8_123 E hG hP.1 (Nat.le_of_ble_eq_true rfl) rfl rfl hS ⟨0, by decide, rfl⟩ dX8_once_28 (fun H locs ho hz oq hS => ?_)
    have hP : MW G B (fm t bl tl ps 0 ea eo ud ns ne 1) bf da dr hi sk H := hP.setO hD ho oq
    exact wr_void E hr hk hS (by decide) (by decide) (⟨rfl, hP⟩) dX8_once_31
  · exact absurd c_9 (by decide)

set_option maxHeartbeats 4000000 in
set_option maxRecDepth 100000 in
/-- once, again -/
theorem c_X8_once_x (l : Launch) (G : CG) {B : Nat → Nat} {t bl tl ps ea eo ud ns ne : Int32} {bf da dr : Nat → Int32} {hi : Nat → Nat → Int32} {sk : Nat → Int64} (hD : MD G B) (z : Int32) : Wr l yX8_once cX8_once 3 ((Option.none : Option FieldType)) 1 22 0 0 G [.ref (B 0), .int 0, .int z] (MW G B (fm t bl tl ps 0 ea eo ud ns ne 1) bf da dr hi sk) (MA B) (fun v9 H9 => v9 = none ∧ MW G B (fm t bl tl ps (-2) z eo ud ns ne 1) bf da dr hi sk H9) := by
  refine Wr.ofW (by decide) (Nat.le_of_ble_eq_true rfl) (fun p e s m below meth c ls E hG hE hP hr hk hin hl => ?_)
  have hS : va_S (MA B) s.heap s.heap [] := va_S.rf
  have hx := E.1
  have hb := E.2.1
  have hl : lv_has ls 3 [(0, .ref (B 0)), (1, .int 0), (2, .int z)] := hl
  refine lv_aload_n hx hb dX8_once_0 rfl (lv_at hl 0 rfl) ?_
  refine gf_X8_123 (v := .int 1) E hG hP.1 rfl dX8_once_1 ?_
  refine lv_iload_n hx hb dX8_once_4 rfl (lv_at hl 1 rfl) ?_
  refine lv_ishr hx hb dX8_once_5 ?_
  refine lv_iconst (v := 1) hx hb dX8_once_6 rfl ?_
  refine lv_iand hx hb dX8_once_7 ?_
  refine lv_iconst (v := 1) hx hb dX8_once_8 rfl ?_
  refine lv_icmp_ne (tgt := 19) hx hb dX8_once_9 (by decide) (fun c_9 => ?_) (fun c_9 => ?_)
  · exact absurd (show (1 : Int32) >>> (0 &&& 31) &&& 1 = 1 by decide) c_9
  · refine lv_aload_n hx hb dX8_once_12 rfl (lv_at hl 0 rfl) ?_
    refine lv_bipush (v := (-2)) hx hb dX8_once_13 rfl ?_
    refine lv_iload_n hx hb dX8_once_15 rfl (lv_at hl 2 rfl) ?_
    refine Wr.callV (rest := []) (c_X8_report l G hD (-2) z) yk_X8_report E km_X8_75 dX8_once_16 hG (hE.S hS hD.efa) hP (At.recv hG hP.1 rfl) rfl rfl hl.1 ⟨Nat.le_of_ble_eq_true rfl, Nat.le_of_ble_eq_true rfl⟩ ⟨Nat.le_of_ble_eq_true rfl, Nat.le_of_ble_eq_true rfl⟩ (Nat.le_of_ble_eq_true rfl) hS (fun _ h9 => h9) (fun v9 H locs hq hz9 hfr9 hS => ?_)
    obtain ⟨rfl, hP⟩ := hq
    refine lv_aload_n hx hb dX8_once_19 rfl (lv_at hl 0 rfl) ?_
    refine lv_dup hx hb dX8_once_20 rfl ?_
    refine gf_X8_123 (v := .int 1) E hG hP.1 rfl dX8_once_21 ?_
    refine lv_iconst (v := 1) hx hb dX8_once_24 rfl ?_
    refine lv_iload_n hx hb dX8_once_25 rfl (lv_at hl 1 rfl) ?_
    refine lv_ishl hx hb dX8_once_26 ?_
    refine lv_ior hx hb dX8_once_27 ?_
    refine lv_ci (y := 1) (by decide) ?_
    refine pf_X8_123 E hG hP.1 (Nat.le_of_ble_eq_true rfl) rfl rfl hS ⟨0, by decide, rfl⟩ dX8_once_28 (fun H locs ho hz oq hS => ?_)
    have hP : MW G B (fm t bl tl ps (-2) z eo ud ns ne 1) bf da dr hi sk H := hP.setO hD ho oq
    exact wr_void E hr hk hS (by decide) (by decide) (⟨rfl, hP⟩) dX8_once_31
