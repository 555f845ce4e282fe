/-! READING: texts of the program -/
/-- text j of the launch has the bytes w -/
def IsT (G : CG) (j : Nat) (w : List Int32) : Prop := ∀ U H, EF G U H → SC G j w U H
theorem isT_c {G : CG} {i : Nat} (h : i < 9) : IsT G i (txt i) := fun _ _ hE => (hE.2.2.2.1 i h).1
theorem isT_r {G : CG} {i : Nat} (h : i < 9) : IsT G (20 + i) (txt i) := fun _ _ hE => (hE.2.2.2.1 i h).2
theorem va_O.rcv {C : String} {t : Nat} {A : Nat → Prop} {U : State} {H : Heap} (h : va_O C t A U H) : ∃ cell : Cell, H[t]? = some cell ∧ cell.vm.isStatics = false ∧ U.vm.findClass C = some cell.cls := by
  obtain ⟨c, h1, h2, h3, -⟩ := h
  exact ⟨c, h1, h2, h3⟩
/-- every byte is a plain letter -/
def IsA (w : List Int32) : Prop := ∀ k, k < w.length → ((w.getD k 0 &&& 255).toUInt32 % 65536).toInt32 = w.getD k 0 ∧ narrow .char (.int (w.getD k 0)) = .int (w.getD k 0)
section RTY
variable {p : Program} {l : Launch} {e : Env} {R : Room} {s : State} {m : MethodId} {args : Array Value} {below : List Frame} {meth : Method} {c : Code} {H : Heap} {locs : List Loc} {cells slots : Nat} {Q : State → Prop}
variable {cc : ByteArray} {nL : Nat} {own : String} {pc : Nat} {ls : Array Slot} {rest : List Value} {G : CG} {a : Nat} {H0 : Heap} {A : Nat → Prop} {sz : Nat}
theorem rd_ty {ty : FieldType} {x : Int32} {v : Option Value} (E : CallFix p m c cc nL s args TB own) (hr : meth.sig.returnType = some ty) (hn : narrow ty (.int x) = .int x) (hk : meth.locks = false) (hv : v = some (.int x)) (hdg : decode cc pc = .ok (.ireturn, 1)) : W p l e R s m args below meth c s.heap [] 0 0 (RQ below args s v) (F0 m pc ls [.int x]) := by
  subst hv
  exact W.zret E.1 E.2.1 hr hn (fun t ht _ => ⟨rfl, ht⟩) (fun _ h => by cases h) hdg hk
end RTY
theorem txt_A {i : Nat} (h : i < 9) : IsA (txt i) ∧ (txt i).length < 1000 := by
  have h9 : ∀ n : Fin 9, (∀ k : Fin 12, k.1 < (txt n.1).length → (((txt n.1).getD k.1 0 &&& 255).toUInt32 % 65536).toInt32 = (txt n.1).getD k.1 0) ∧ (txt n.1).length ≤ 12 := by decide +kernel
  have hn : ∀ n : Fin 9, ∀ k : Fin 12, (txt n.1).getD k.1 0 = (((txt n.1).getD k.1 0).toUInt32 % 65536).toInt32 := by decide +kernel
  have h8 := h9 ⟨i, h⟩
  have h7 : (txt i).length ≤ 12 := h8.2
  refine ⟨fun k hk => ⟨h8.1 ⟨k, by omega⟩ hk, ?_⟩, by omega⟩
  rw [show (txt i).getD k 0 = (((txt i).getD k 0).toUInt32 % 65536).toInt32 from hn ⟨i, h⟩ ⟨k, by omega⟩]
  exact pk_nc _
set_option maxHeartbeats 4000000 in
set_option maxRecDepth 100000 in
/-- coder() -/
theorem c_J0_coder_7d493 (l : Launch) (G : CG) {j : Nat} {w : List Int32} (hT : IsT G j w) : Rd l yJ0_coder_7d493 cJ0_coder_7d493 1 ((Option.some FieldType.byte)) 0 0 G [.ref (G.2.2 (10 + j))] (fun _ => True) (some (.int 0)) := by
  refine Rd.ofW (by decide) (Nat.le_of_ble_eq_true rfl) (fun p e s m below meth c ls E hG hE hP hr hk hl => ?_)
  have hx := E.1
  have hb := E.2.1
  have hl : lv_has ls 1 [(0, .ref (G.2.2 (10 + j)))] := hl
  refine va_gets hx hb hE.2.2.1 (va_S.rf (A := EFA G)) E.2.2.2.1 (E.2.2.2.2 _ kf_J0_38) (fun _ h9 => h9) dJ0_coder_7d493_0 ?_
  refine lv_if_eq (tgt := 13) hx hb dJ0_coder_7d493_3 (by decide) (fun c_3 => ?_) (fun c_3 => ?_)
  · exact absurd c_3 (by decide)
  · refine lv_aload_n hx hb dJ0_coder_7d493_6 rfl (lv_at hl 0 rfl) ?_
    refine vk_getf hx hb (hT _ _ hE).2.1 (va_S.rf (A := EFA G)) E.2.2.2.1 (E.2.2.2.2 _ kf_J0_15) (fun _ h9 => h9) dJ0_coder_7d493_7 ?_
    refine lv_goto (tgt := 14) hx hb dJ0_coder_7d493_10 (by decide) ?_
    exact rd_ty E hr rfl hk rfl dJ0_coder_7d493_14

set_option maxHeartbeats 4000000 in
set_option maxRecDepth 100000 in
/-- isLatin1() -/
theorem c_J0_isLatin1_aae02 (l : Launch) (G : CG) {j : Nat} {w : List Int32} (hT : IsT G j w) : Rd l yJ0_isLatin1_aae02 cJ0_isLatin1_aae02 1 ((Option.some FieldType.boolean)) 0 0 G [.ref (G.2.2 (10 + j))] (fun _ => True) (some (.int 1)) := by
  refine Rd.ofW (by decide) (Nat.le_of_ble_eq_true rfl) (fun p e s m below meth c ls E hG hE hP hr hk hl => ?_)
  have hx := E.1
  have hb := E.2.1
  have hl : lv_has ls 1 [(0, .ref (G.2.2 (10 + j)))] := hl
  refine va_gets hx hb hE.2.2.1 (va_S.rf (A := EFA G)) E.2.2.2.1 (E.2.2.2.2 _ kf_J0_38) (fun _ h9 => h9) dJ0_isLatin1_aae02_0 ?_
  refine lv_if_eq (tgt := 17) hx hb dJ0_isLatin1_aae02_3 (by decide) (fun c_3 => ?_) (fun c_3 => ?_)
  · exact absurd c_3 (by decide)
  · refine lv_aload_n hx hb dJ0_isLatin1_aae02_6 rfl (lv_at hl 0 rfl) ?_
    refine vk_getf hx hb (hT _ _ hE).2.1 (va_S.rf (A := EFA G)) E.2.2.2.1 (E.2.2.2.2 _ kf_J0_15) (fun _ h9 => h9) dJ0_isLatin1_aae02_7 ?_
    refine lv_if_ne (tgt := 17) hx hb dJ0_isLatin1_aae02_10 (by decide) (fun c_10 => ?_) (fun c_10 => ?_)
    · exact absurd c_10 (by decide)
    · refine lv_iconst (v := 1) hx hb dJ0_isLatin1_aae02_13 rfl ?_
      refine lv_goto (tgt := 18) hx hb dJ0_isLatin1_aae02_14 (by decide) ?_
      exact rd_bool E hr hk (rfl) (by first | exact Or.inl rfl | exact Or.inr rfl | (omega)) dJ0_isLatin1_aae02_18

set_option maxHeartbeats 4000000 in
set_option maxRecDepth 100000 in
/-- length() -/
theorem c_J0_length_8abf5 (l : Launch) (G : CG) {j : Nat} {w : List Int32} (hT : IsT G j w) (hw : w.length < 1000) : Rd l yJ0_length_8abf5 cJ0_length_8abf5 1 ((Option.some FieldType.int)) 1 20 G [.ref (G.2.2 (10 + j))] (fun _ => True) (some (.int (nI w.length))) := by
  refine Rd.ofW (by decide) (Nat.le_of_ble_eq_true rfl) (fun p e s m below meth c ls E hG hE hP hr hk hl => ?_)
  have hx := E.1
  have hb := E.2.1
  have hl : lv_has ls 1 [(0, .ref (G.2.2 (10 + j)))] := hl
  refine lv_aload_n hx hb dJ0_length_8abf5_0 rfl (lv_at hl 0 rfl) ?_
  refine vk_getf hx hb (hT _ _ hE).2.2.1 (va_S.rf (A := EFA G)) E.2.2.2.1 (E.2.2.2.2 _ kf_J0_9) (fun _ h9 => h9) dJ0_length_8abf5_1 ?_
  refine va_tlen (v := nI w.length) hx hb (hT _ _ hE).2.2.2 (va_S.rf (A := EFA G)) rfl dJ0_length_8abf5_4 ?_
  refine lv_aload_n hx hb dJ0_length_8abf5_5 rfl (lv_at hl 0 rfl) ?_
  refine Rd.callV (rest := [.int (nI w.length)]) (c_J0_coder_7d493 l G hT) yk_J0_coder_7d493 E km_J0_335 dJ0_length_8abf5_6 hG hE trivial (va_O.rcv (hT _ _ hE).1) rfl rfl hl.1 ⟨Nat.le_of_ble_eq_true rfl, Nat.le_of_ble_eq_true rfl⟩ ⟨Nat.zero_le _, Nat.zero_le _⟩ (Nat.le_of_ble_eq_true rfl) ?_
  refine lv_ishr hx hb dJ0_length_8abf5_9 ?_
  exact rd_int E hr hk (by rw [sc_shr0 (by omega)]) dJ0_length_8abf5_10

set_option maxHeartbeats 4000000 in
set_option maxRecDepth 100000 in
/-- checkIndex -/
theorem c_J3_checkIndex_n (l : Launch) (G : CG) (z : Int32) (k n : Nat) (ez : z = nI k) (hk9 : k < n) (hn : n < 1000) : Rd l yJ3_checkIndex_8e157 cJ3_checkIndex_8e157 3 ((Option.some FieldType.int)) 0 0 G [.int z, .int (nI n), .null] (fun _ => True) (some (.int z)) := by
  refine Rd.ofW (by decide) (Nat.le_of_ble_eq_true rfl) (fun p e s m below meth c ls E hG hE hP hr hk hl => ?_)
  have hx := E.1
  have hb := E.2.1
  have hl : lv_has ls 3 [(0, .int z), (1, .int (nI n)), (2, .null)] := hl
  refine lv_iload_n hx hb dJ3_checkIndex_8e157_0 rfl (lv_at hl 0 rfl) ?_
  refine lv_if_lt (tgt := 9) hx hb dJ3_checkIndex_8e157_1 (by decide) (fun c_1 => ?_) (fun c_1 => ?_)
  · exact absurd c_1 (nI_nneg ez (by omega))
  · refine lv_iload_n hx hb dJ3_checkIndex_8e157_4 rfl (lv_at hl 0 rfl) ?_
    refine lv_iload_n hx hb dJ3_checkIndex_8e157_5 rfl (lv_at hl 1 rfl) ?_
    refine lv_icmp_lt (tgt := 16) hx hb dJ3_checkIndex_8e157_6 (by decide) (fun c_6 => ?_) (fun c_6 => ?_)
    · refine lv_iload_n hx hb dJ3_checkIndex_8e157_16 rfl (lv_at hl 0 rfl) ?_
      exact rd_int E hr hk (rfl) dJ3_checkIndex_8e157_17
    · exact absurd ((nLT (x := z) (y := nI n) (a := k) (b := n) ez rfl (by omega) (by omega)).mpr hk9) c_6

set_option maxHeartbeats 4000000 in
set_option maxRecDepth 100000 in
/-- checkIndex -/
theorem c_J3_checkIndex_r (l : Launch) (G : CG) {t9 : Nat} (z : Int32) (k n : Nat) (ez : z = nI k) (hk9 : k < n) (hn : n < 1000) : Rd l yJ3_checkIndex_8e157 cJ3_checkIndex_8e157 3 ((Option.some FieldType.int)) 0 0 G [.int z, .int (nI n), .ref t9] (fun _ => True) (some (.int z)) := by
  refine Rd.ofW (by decide) (Nat.le_of_ble_eq_true rfl) (fun p e s m below meth c ls E hG hE hP hr hk hl => ?_)
  have hx := E.1
  have hb := E.2.1
  have hl : lv_has ls 3 [(0, .int z), (1, .int (nI n)), (2, .ref t9)] := hl
  refine lv_iload_n hx hb dJ3_checkIndex_8e157_0 rfl (lv_at hl 0 rfl) ?_
  refine lv_if_lt (tgt := 9) hx hb dJ3_checkIndex_8e157_1 (by decide) (fun c_1 => ?_) (fun c_1 => ?_)
  · exact absurd c_1 (nI_nneg ez (by omega))
  · refine lv_iload_n hx hb dJ3_checkIndex_8e157_4 rfl (lv_at hl 0 rfl) ?_
    refine lv_iload_n hx hb dJ3_checkIndex_8e157_5 rfl (lv_at hl 1 rfl) ?_
    refine lv_icmp_lt (tgt := 16) hx hb dJ3_checkIndex_8e157_6 (by decide) (fun c_6 => ?_) (fun c_6 => ?_)
    · refine lv_iload_n hx hb dJ3_checkIndex_8e157_16 rfl (lv_at hl 0 rfl) ?_
      exact rd_int E hr hk (rfl) dJ3_checkIndex_8e157_17
    · exact absurd ((nLT (x := z) (y := nI n) (a := k) (b := n) ez rfl (by omega) (by omega)).mpr hk9) c_6

set_option maxHeartbeats 4000000 in
set_option maxRecDepth 100000 in
/-- checkIndex -/
theorem c_J0_checkIndex_df160 (l : Launch) (G : CG) (z : Int32) (k n : Nat) (ez : z = nI k) (hk9 : k < n) (hn : n < 1000) : Rd l yJ0_checkIndex_df160 cJ0_checkIndex_df160 2 ((Option.none : Option FieldType)) 1 22 G [.int z, .int (nI n)] (fun _ => True) (none) := by
  refine Rd.ofW (by decide) (Nat.le_of_ble_eq_true rfl) (fun p e s m below meth c ls E hG hE hP hr hk hl => ?_)
  have hx := E.1
  have hb := E.2.1
  have hl : lv_has ls 2 [(0, .int z), (1, .int (nI n))] := hl
  refine lv_iload_n hx hb dJ0_checkIndex_df160_0 rfl (lv_at hl 0 rfl) ?_
  refine lv_iload_n hx hb dJ0_checkIndex_df160_1 rfl (lv_at hl 1 rfl) ?_
  rcases hE.2.2.2.2.2.2 with hZ | ⟨t9, hZ⟩
  · refine va_gets hx hb hZ (va_S.rf (A := EFA G)) E.2.2.2.1 (E.2.2.2.2 _ kf_J0_1053) (fun _ h9 => h9) dJ0_checkIndex_df160_2 ?_
    refine Rd.callS (rest := []) (c_J3_checkIndex_n l G z k n ez hk9 hn) yk_J3_checkIndex_8e157 E km_J0_1059 dJ0_checkIndex_df160_5 hG hE trivial rfl rfl hl.1 ⟨Nat.le_of_ble_eq_true rfl, Nat.le_of_ble_eq_true rfl⟩ ⟨Nat.zero_le _, Nat.zero_le _⟩ (Nat.le_of_ble_eq_true rfl) ?_
    refine lv_pop hx hb dJ0_checkIndex_df160_8 rfl ?_
    exact rd_void E hr hk (rfl) dJ0_checkIndex_df160_9
  · refine va_gets hx hb hZ (va_S.rf (A := EFA G)) E.2.2.2.1 (E.2.2.2.2 _ kf_J0_1053) (fun _ h9 => h9) dJ0_checkIndex_df160_2 ?_
    refine Rd.callS (rest := []) (c_J3_checkIndex_r l G z k n ez hk9 hn) yk_J3_checkIndex_8e157 E km_J0_1059 dJ0_checkIndex_df160_5 hG hE trivial rfl rfl hl.1 ⟨Nat.le_of_ble_eq_true rfl, Nat.le_of_ble_eq_true rfl⟩ ⟨Nat.zero_le _, Nat.zero_le _⟩ (Nat.le_of_ble_eq_true rfl) ?_
    refine lv_pop hx hb dJ0_checkIndex_df160_8 rfl ?_
    exact rd_void E hr hk (rfl) dJ0_checkIndex_df160_9

set_option maxHeartbeats 4000000 in
set_option maxRecDepth 100000 in
/-- charAt -/
theorem c_J1_charAt_3b067 (l : Launch) (G : CG) {j : Nat} {w : List Int32} (hT : IsT G j w) (hA : IsA w) (hw : w.length < 1000) (z : Int32) (k : Nat) (ez : z = nI k) (hk9 : k < w.length) : Rd l yJ1_charAt_3b067 cJ1_charAt_3b067 2 ((Option.some FieldType.char)) 2 43 G [.ref (G.2.2 (60 + j)), .int z] (fun _ => True) (some (.int (w.getD k 0))) := by
  refine Rd.ofW (by decide) (Nat.le_of_ble_eq_true rfl) (fun p e s m below meth c ls E hG hE hP hr hk hl => ?_)
  have hx := E.1
  have hb := E.2.1
  have hl : lv_has ls 2 [(0, .ref (G.2.2 (60 + j))), (1, .int z)] := hl
  have hch := fun k9 h9 => (hA k9 h9).1
  refine lv_iload_n hx hb dJ1_charAt_3b067_0 rfl (lv_at hl 1 rfl) ?_
  refine lv_aload_n hx hb dJ1_charAt_3b067_1 rfl (lv_at hl 0 rfl) ?_
  refine va_tlen (v := nI w.length) hx hb (hT _ _ hE).2.2.2 (va_S.rf (A := EFA G)) rfl dJ1_charAt_3b067_2 ?_
  refine Rd.callS (rest := []) (c_J0_checkIndex_df160 l G z k w.length ez hk9 hw) yk_J0_checkIndex_df160 E km_J1_9 dJ1_charAt_3b067_3 hG hE trivial rfl rfl hl.1 ⟨Nat.le_of_ble_eq_true rfl, Nat.le_of_ble_eq_true rfl⟩ ⟨Nat.zero_le _, Nat.zero_le _⟩ (Nat.le_of_ble_eq_true rfl) ?_
  refine lv_aload_n hx hb dJ1_charAt_3b067_6 rfl (lv_at hl 0 rfl) ?_
  refine lv_iload_n hx hb dJ1_charAt_3b067_7 rfl (lv_at hl 1 rfl) ?_
  refine va_tb (v := .int (w.getD k 0)) hx hb (hT _ _ hE).2.2.2 (va_S.rf (A := EFA G)) (by rw [ez]; exact vp_in_nI hk9 (by omega)) (by rw [ez, nI_clamp (by omega)]) dJ1_charAt_3b067_8 ?_
  refine lv_sipush (v := 255) hx hb dJ1_charAt_3b067_9 rfl ?_
  refine lv_iand hx hb dJ1_charAt_3b067_12 ?_
  refine lv_i2c (v := (w.getD k 0)) hx hb dJ1_charAt_3b067_13 (hch k hk9) ?_
  exact rd_ty E hr (hA k hk9).2 hk rfl dJ1_charAt_3b067_14

set_option maxHeartbeats 4000000 in
set_option maxRecDepth 100000 in
/-- charAt -/
theorem c_J0_charAt_5068e (l : Launch) (G : CG) {j : Nat} {w : List Int32} (hT : IsT G j w) (hA : IsA w) (hw : w.length < 1000) (z : Int32) (k : Nat) (ez : z = nI k) (hk9 : k < w.length) : Rd l yJ0_charAt_5068e cJ0_charAt_5068e 2 ((Option.some FieldType.char)) 3 64 G [.ref (G.2.2 (10 + j)), .int z] (fun _ => True) (some (.int (w.getD k 0))) := by
  refine Rd.ofW (by decide) (Nat.le_of_ble_eq_true rfl) (fun p e s m below meth c ls E hG hE hP hr hk hl => ?_)
  have hx := E.1
  have hb := E.2.1
  have hl : lv_has ls 2 [(0, .ref (G.2.2 (10 + j))), (1, .int z)] := hl
  refine lv_aload_n hx hb dJ0_charAt_5068e_0 rfl (lv_at hl 0 rfl) ?_
  refine Rd.callV (rest := []) (c_J0_isLatin1_aae02 l G hT) yk_J0_isLatin1_aae02 E km_J0_492 dJ0_charAt_5068e_1 hG hE trivial (va_O.rcv (hT _ _ hE).1) rfl rfl hl.1 ⟨Nat.le_of_ble_eq_true rfl, Nat.le_of_ble_eq_true rfl⟩ ⟨Nat.zero_le _, Nat.zero_le _⟩ (Nat.le_of_ble_eq_true rfl) ?_
  refine lv_if_eq (tgt := 16) hx hb dJ0_charAt_5068e_4 (by decide) (fun c_4 => ?_) (fun c_4 => ?_)
  · exact absurd c_4 (by decide)
  · refine lv_aload_n hx hb dJ0_charAt_5068e_7 rfl (lv_at hl 0 rfl) ?_
    refine vk_getf hx hb (hT _ _ hE).2.2.1 (va_S.rf (A := EFA G)) E.2.2.2.1 (E.2.2.2.2 _ kf_J0_9) (fun _ h9 => h9) dJ0_charAt_5068e_8 ?_
    refine lv_iload_n hx hb dJ0_charAt_5068e_11 rfl (lv_at hl 1 rfl) ?_
    refine Rd.callS (rest := []) (c_J1_charAt_3b067 l G hT hA hw z k ez hk9) yk_J1_charAt_3b067 E km_J0_495 dJ0_charAt_5068e_12 hG hE trivial rfl rfl hl.1 ⟨Nat.le_of_ble_eq_true rfl, Nat.le_of_ble_eq_true rfl⟩ ⟨Nat.zero_le _, Nat.zero_le _⟩ (Nat.le_of_ble_eq_true rfl) ?_
    exact rd_ty E hr (hA k hk9).2 hk rfl dJ0_charAt_5068e_15
