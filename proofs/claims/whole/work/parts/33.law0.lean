/-! THE LAW'S WRAPPERS, over any contract of what they call -/
abbrev lA (G : CG) (f : Nat → Int64) : va_E := .inl (G.2.1 2, 1, .inr (.inl f))
theorem Rd.toWr {l : Launch} {y : MethodName} {cc : ByteArray} {nL : Nat} {ret : Option FieldType} {fr lo : Nat} {G : CG} {av : List Value} {P : Heap → Prop} {v : Option Value} (h : Rd l y cc nL ret fr lo G av P v) : Wr l y cc nL ret fr lo 0 0 G av P (fun _ => False) (fun v9 H9 => v9 = v ∧ P H9) :=
  fun p e ha hc hk s m args below hf happ hpre htr => by
    obtain ⟨t, o, h1, h2, h3, h4⟩ := h p e ha hc hk s m args below hf happ hpre htr
    obtain ⟨⟨h5, h6⟩, h7⟩ := h4
    exact ⟨t, o, h1, h2, h3, ⟨⟨v, h5, ⟨rfl, by rw [h6]; exact hpre.2.2.2⟩, by rw [h6]; exact Nat.le_refl _, fun q _ _ => by rw [h6]⟩, h7⟩⟩
section CAT
variable {p : Program} {l : Launch} {e : Env} {R : Room} {s : State} {m : MethodId} {args : Array Value} {below : List Frame} {meth : Method} {c : Code} {Q : State → Prop}
variable {cc : ByteArray} {nL : Nat} {own : String} {pc : Nat} {ls : Array Slot} {rest st : List Value} {G : CG}
variable {y : MethodName} {cy : ByteArray} {nLy : Nat} {rety : Option FieldType} {fr lo n index : Nat} {b : Nat} {As : List Value} {P : Heap → Prop} {X name : String}
theorem Tr.catchV (hM : Tr l y cy nLy rety fr lo G (.ref b :: As) P X) (Y : YI y cy nLy rety n) (E : CallFix p m c cc nL s args TB own) (hk : Cond.methodLink own index y ∈ TB) (hdg : decode cc pc = .ok (.invokevirtual index, 3)) (hG : KT G s) (hE : EF G s s.heap) (hP : P s.heap) (hb : ∃ cell : Cell, s.heap[b]? = some cell ∧ cell.vm.isStatics = false ∧ s.vm.findClass y.cls = some cell.cls)
    (hst : st = As.reverse ++ .ref b :: rest) (hn : As.length = n) (hl : ls.size = nL) (hR : fr + 1 ≤ R.frames ∧ 8 + (nLy + 11) + lo ≤ R.locals) (hc : 1 ≤ R.cells ∧ 6 ≤ R.slots) (hW : (rest.map fun v => v.category).sum ≤ 8) (pre : List ExceptionTableEntry) (x : ExceptionTableEntry) (suf : List ExceptionTableEntry) (hsplit : c.exceptionTable.toList = pre ++ x :: suf)
    (hpass : ∀ z ∈ pre, covers z pc = false ∨ (z.catchType ≠ 0 ∧ ∃ nm : String, (Cond.classLink own z.catchType nm).before args s = true ∧ va_Nc X nm s)) (hx : covers x pc = true) (h0 : x.catchType ≠ 0) (hlink : Cond.classLink own x.catchType name ∈ TB) (hcast : (Cond.castable X name).before args s = true)
    (kk : ∀ (H : Heap) (q : Nat), s.heap.size ≤ H.size → (∀ q : Nat, q < s.heap.size → H[q]? = s.heap[q]?) → W p l e R s m args below meth c H [] (0 + 1) (0 + 6) Q (F0 m x.handlerPc ls [.ref q])) : W p l e R s m args below meth c s.heap [] 0 0 Q (F0 m pc ls st) := by
  subst hst
  exact t_catch (vx_runV (C := y.cls) E hM ⟨Y.1.cb E hk rfl rfl hR, E.2.2.2.2 _ Y.2.1, E.2.2.2.2 _ Y.2.2⟩ ⟨Pre.blind, hb, Pre.of hG hE hP⟩ rfl hn hl rfl (lv_room hW) hdg (by rw [Nat.zero_add, Nat.zero_add]; exact hc)) E.2.2.2.1 pre x suf hsplit hpass hx h0 (E.2.2.2.2 _ hlink) hcast kk
end CAT
theorem kw_L_isBusinessDay : Cond.codeWith yL_isBusinessDay cL_isBusinessDay 4 (Option.some FieldType.int) [(0, 16, 19, 13)] ∈ TB := TB_of (List.mem_of_getElem? (i := 633) (by decide +kernel)) rfl
theorem yk_L_isBusinessDay : YW yL_isBusinessDay cL_isBusinessDay 4 (Option.some FieldType.int) [(0, 16, 19, 13)] 3 := ⟨kw_L_isBusinessDay, kin_L, by decide +kernel, kt_L_isBusinessDay⟩
theorem kw_L_extended : Cond.codeWith yL_extended cL_extended 4 (Option.some FieldType.int) [(0, 9, 12, 13)] ∈ TB := TB_of (List.mem_of_getElem? (i := 652) (by decide +kernel)) rfl
theorem yk_L_extended : YW yL_extended cL_extended 4 (Option.some FieldType.int) [(0, 9, 12, 13)] 3 := ⟨kw_L_extended, kin_L, by decide +kernel, kt_L_extended⟩
theorem kw_L_addBusinessDays : Cond.codeWith yL_addBusinessDays cL_addBusinessDays 5 (Option.some FieldType.int) [(0, 10, 13, 13)] ∈ TB := TB_of (List.mem_of_getElem? (i := 664) (by decide +kernel)) rfl
theorem yk_L_addBusinessDays : YW yL_addBusinessDays cL_addBusinessDays 5 (Option.some FieldType.int) [(0, 10, 13, 13)] 4 := ⟨kw_L_addBusinessDays, kin_L, by decide +kernel, kt_L_addBusinessDays⟩
theorem kw_L_businessDays : Cond.codeWith yL_businessDays cL_businessDays 5 (Option.some FieldType.int) [(0, 10, 13, 13)] ∈ TB := TB_of (List.mem_of_getElem? (i := 676) (by decide +kernel)) rfl
theorem yk_L_businessDays : YW yL_businessDays cL_businessDays 5 (Option.some FieldType.int) [(0, 10, 13, 13)] 4 := ⟨kw_L_businessDays, kin_L, by decide +kernel, kt_L_businessDays⟩
theorem kw_L_parent : Cond.codeWith yL_parent cL_parent 4 (Option.some FieldType.int) [(0, 9, 12, 32)] ∈ TB := TB_of (List.mem_of_getElem? (i := 691) (by decide +kernel)) rfl
theorem yk_L_parent : YW yL_parent cL_parent 4 (Option.some FieldType.int) [(0, 9, 12, 32)] 3 := ⟨kw_L_parent, kin_L, by decide +kernel, kt_L_parent⟩
theorem kw_L_bound : Cond.codeWith yL_bound cL_bound 5 (Option.some FieldType.int) [(0, 10, 13, 32)] ∈ TB := TB_of (List.mem_of_getElem? (i := 719) (by decide +kernel)) rfl
theorem yk_L_bound : YW yL_bound cL_bound 5 (Option.some FieldType.int) [(0, 10, 13, 32)] 4 := ⟨kw_L_bound, kin_L, by decide +kernel, kt_L_bound⟩
theorem kw_L_expiry : Cond.codeWith yL_expiry cL_expiry 4 (Option.some FieldType.int) [(0, 9, 12, 32)] ∈ TB := TB_of (List.mem_of_getElem? (i := 731) (by decide +kernel)) rfl
theorem yk_L_expiry : YW yL_expiry cL_expiry 4 (Option.some FieldType.int) [(0, 9, 12, 32)] 3 := ⟨kw_L_expiry, kin_L, by decide +kernel, kt_L_expiry⟩
theorem kw_L_drawn : Cond.codeWith yL_drawn cL_drawn 4 (Option.some FieldType.int) [(0, 9, 12, 32)] ∈ TB := TB_of (List.mem_of_getElem? (i := 738) (by decide +kernel)) rfl
theorem yk_L_drawn : YW yL_drawn cL_drawn 4 (Option.some FieldType.int) [(0, 9, 12, 32)] 3 := ⟨kw_L_drawn, kin_L, by decide +kernel, kt_L_drawn⟩
theorem kw_L_transferred : Cond.codeWith yL_transferred cL_transferred 4 (Option.some FieldType.int) [(0, 9, 12, 32)] ∈ TB := TB_of (List.mem_of_getElem? (i := 745) (by decide +kernel)) rfl
theorem yk_L_transferred : YW yL_transferred cL_transferred 4 (Option.some FieldType.int) [(0, 9, 12, 32)] 3 := ⟨kw_L_transferred, kin_L, by decide +kernel, kt_L_transferred⟩
theorem kw_L_available : Cond.codeWith yL_available cL_available 4 (Option.some FieldType.int) [(0, 9, 12, 32)] ∈ TB := TB_of (List.mem_of_getElem? (i := 753) (by decide +kernel)) rfl
theorem yk_L_available : YW yL_available cL_available 4 (Option.some FieldType.int) [(0, 9, 12, 32)] 3 := ⟨kw_L_available, kin_L, by decide +kernel, kt_L_available⟩
theorem kw_L_creditOf : Cond.codeWith yL_creditOf cL_creditOf 4 (Option.some FieldType.int) [(0, 9, 12, 32)] ∈ TB := TB_of (List.mem_of_getElem? (i := 760) (by decide +kernel)) rfl
theorem yk_L_creditOf : YW yL_creditOf cL_creditOf 4 (Option.some FieldType.int) [(0, 9, 12, 32)] 3 := ⟨kw_L_creditOf, kin_L, by decide +kernel, kt_L_creditOf⟩
theorem kw_L_state : Cond.codeWith yL_state cL_state 4 (Option.some FieldType.int) [(0, 9, 12, 32)] ∈ TB := TB_of (List.mem_of_getElem? (i := 772) (by decide +kernel)) rfl
theorem yk_L_state : YW yL_state cL_state 4 (Option.some FieldType.int) [(0, 9, 12, 32)] 3 := ⟨kw_L_state, kin_L, by decide +kernel, kt_L_state⟩
theorem kw_L_discrepancies : Cond.codeWith yL_discrepancies cL_discrepancies 4 (Option.some FieldType.int) [(0, 9, 12, 32)] ∈ TB := TB_of (List.mem_of_getElem? (i := 779) (by decide +kernel)) rfl
theorem yk_L_discrepancies : YW yL_discrepancies cL_discrepancies 4 (Option.some FieldType.int) [(0, 9, 12, 32)] 3 := ⟨kw_L_discrepancies, kin_L, by decide +kernel, kt_L_discrepancies⟩
theorem kw_L_deadline : Cond.codeWith yL_deadline cL_deadline 4 (Option.some FieldType.int) [(0, 9, 12, 32)] ∈ TB := TB_of (List.mem_of_getElem? (i := 786) (by decide +kernel)) rfl
theorem yk_L_deadline : YW yL_deadline cL_deadline 4 (Option.some FieldType.int) [(0, 9, 12, 32)] 3 := ⟨kw_L_deadline, kin_L, by decide +kernel, kt_L_deadline⟩
theorem kw_L_dueDay : Cond.codeWith yL_dueDay cL_dueDay 4 (Option.some FieldType.int) [(0, 9, 12, 32)] ∈ TB := TB_of (List.mem_of_getElem? (i := 797) (by decide +kernel)) rfl
theorem yk_L_dueDay : YW yL_dueDay cL_dueDay 4 (Option.some FieldType.int) [(0, 9, 12, 32)] 3 := ⟨kw_L_dueDay, kin_L, by decide +kernel, kt_L_dueDay⟩
theorem kw_L_fee : Cond.codeWith yL_fee cL_fee 4 (Option.some FieldType.int) [(0, 9, 12, 32)] ∈ TB := TB_of (List.mem_of_getElem? (i := 804) (by decide +kernel)) rfl
theorem yk_L_fee : YW yL_fee cL_fee 4 (Option.some FieldType.int) [(0, 9, 12, 32)] 3 := ⟨kw_L_fee, kin_L, by decide +kernel, kt_L_fee⟩
theorem kw_L_check : Cond.codeWith yL_check cL_check 8 (Option.some FieldType.int) [(0, 16, 19, 32), (0, 16, 23, 13)] ∈ TB := TB_of (List.mem_of_getElem? (i := 838) (by decide +kernel)) rfl
theorem yk_L_check : YW yL_check cL_check 8 (Option.some FieldType.int) [(0, 16, 19, 32), (0, 16, 23, 13)] 7 := ⟨kw_L_check, kin_L, by decide +kernel, kt_L_check⟩
theorem kw_L_lastDay : Cond.codeWith yL_lastDay cL_lastDay 5 (Option.some FieldType.int) [(0, 10, 13, 32), (0, 10, 17, 13)] ∈ TB := TB_of (List.mem_of_getElem? (i := 863) (by decide +kernel)) rfl
theorem yk_L_lastDay : YW yL_lastDay cL_lastDay 5 (Option.some FieldType.int) [(0, 10, 13, 32), (0, 10, 17, 13)] 4 := ⟨kw_L_lastDay, kin_L, by decide +kernel, kt_L_lastDay⟩
theorem kw_L_bestFit : Cond.codeWith yL_bestFit cL_bestFit 4 (Option.some FieldType.int) [(0, 9, 12, 32)] ∈ TB := TB_of (List.mem_of_getElem? (i := 870) (by decide +kernel)) rfl
theorem yk_L_bestFit : YW yL_bestFit cL_bestFit 4 (Option.some FieldType.int) [(0, 9, 12, 32)] 3 := ⟨kw_L_bestFit, kin_L, by decide +kernel, kt_L_bestFit⟩
theorem kw_L_present : Cond.codeWith yL_present cL_present 8 (Option.some FieldType.int) [(0, 16, 19, 32), (0, 16, 23, 13), (0, 16, 27, 81)] ∈ TB := TB_of (List.mem_of_getElem? (i := 914) (by decide +kernel)) rfl
theorem yk_L_present : YW yL_present cL_present 8 (Option.some FieldType.int) [(0, 16, 19, 32), (0, 16, 23, 13), (0, 16, 27, 81)] 7 := ⟨kw_L_present, kin_L, by decide +kernel, kt_L_present⟩
theorem kw_L_examine : Cond.codeWith yL_examine cL_examine 4 (Option.some FieldType.int) [(0, 9, 12, 32), (0, 9, 15, 81)] ∈ TB := TB_of (List.mem_of_getElem? (i := 976) (by decide +kernel)) rfl
theorem yk_L_examine : YW yL_examine cL_examine 4 (Option.some FieldType.int) [(0, 9, 12, 32), (0, 9, 15, 81)] 3 := ⟨kw_L_examine, kin_L, by decide +kernel, kt_L_examine⟩
theorem kw_L_waive : Cond.codeWith yL_waive cL_waive 4 (Option.some FieldType.int) [(0, 9, 12, 32), (0, 9, 15, 81)] ∈ TB := TB_of (List.mem_of_getElem? (i := 1003) (by decide +kernel)) rfl
theorem yk_L_waive : YW yL_waive cL_waive 4 (Option.some FieldType.int) [(0, 9, 12, 32), (0, 9, 15, 81)] 3 := ⟨kw_L_waive, kin_L, by decide +kernel, kt_L_waive⟩
theorem kw_L_refuse : Cond.codeWith yL_refuse cL_refuse 4 (Option.some FieldType.int) [(0, 9, 12, 32), (0, 9, 15, 81)] ∈ TB := TB_of (List.mem_of_getElem? (i := 1011) (by decide +kernel)) rfl
theorem yk_L_refuse : YW yL_refuse cL_refuse 4 (Option.some FieldType.int) [(0, 9, 12, 32), (0, 9, 15, 81)] 3 := ⟨kw_L_refuse, kin_L, by decide +kernel, kt_L_refuse⟩
theorem kw_L_transfer : Cond.codeWith yL_transfer cL_transfer 6 (Option.some FieldType.int) [(0, 12, 15, 32), (0, 12, 19, 13), (0, 12, 23, 81)] ∈ TB := TB_of (List.mem_of_getElem? (i := 1019) (by decide +kernel)) rfl
theorem yk_L_transfer : YW yL_transfer cL_transfer 6 (Option.some FieldType.int) [(0, 12, 15, 32), (0, 12, 19, 13), (0, 12, 23, 81)] 5 := ⟨kw_L_transfer, kin_L, by decide +kernel, kt_L_transfer⟩
theorem kw_L_pass : Cond.codeWith yL_pass cL_pass 4 (Option.some FieldType.int) [(0, 9, 12, 13), (0, 9, 15, 81)] ∈ TB := TB_of (List.mem_of_getElem? (i := 1041) (by decide +kernel)) rfl
theorem yk_L_pass : YW yL_pass cL_pass 4 (Option.some FieldType.int) [(0, 9, 12, 13), (0, 9, 15, 81)] 3 := ⟨kw_L_pass, kin_L, by decide +kernel, kt_L_pass⟩
theorem kw_L_load : Cond.codeWith yL_load cL_load 4 (Option.some FieldType.int) [(0, 9, 12, 13)] ∈ TB := TB_of (List.mem_of_getElem? (i := 242) (by decide +kernel)) rfl
theorem yk_L_load : YW yL_load cL_load 4 (Option.some FieldType.int) [(0, 9, 12, 13)] 3 := ⟨kw_L_load, kin_L, by decide +kernel, kt_L_load⟩
set_option maxHeartbeats 4000000 in
set_option maxRecDepth 100000 in
/-- isBusinessDay: it answers -/
theorem w_L_isBusinessDay (l : Launch) (G : CG) {x ou fr lo mc ms : Nat} (z0 : Int32) {P : Heap → Prop} {A : Nat → Prop} {Q : Int32 → Heap → Prop} {f : Nat → Int64} (hM : Wr l yX7_isBusinessDay cX7_isBusinessDay 2 (Option.some FieldType.boolean) fr lo mc ms G [.ref x, .int z0] P A (fun v9 H9 => ∃ r, v9 = some (.int r) ∧ Q r H9)) (hAo : ¬ A ou) (hst : ∀ r H H1, H1.size = H.size → (∀ q : Nat, q ≠ ou → H1[q]? = H[q]?) → Q r H → Q r H1) : WW l yL_isBusinessDay cL_isBusinessDay 4 (Option.some FieldType.int) [(0, 16, 19, 13)] (fr + 1) (8 + (2 + 11) + lo) mc ms G [.ref x, .int z0, .ref ou] (fun H9 => P H9 ∧ (∃ vs, At G x (.inr (7, vs)) H9) ∧ At G ou (lA G f) H9) (fun q9 => A q9 ∨ q9 = ou) (fun v9 H9 => v9 = some (.int 0) ∧ ∃ r, Q r H9 ∧ At G ou (lA G (vp_updL f 0 (if r = 0 then 0 else 1))) H9) := by
  refine WW.ofW (by decide) (Nat.le_of_ble_eq_true rfl) (fun p e s m below meth c ls E hG hE hP hr hk htab hl => ?_)
  have hS : va_S (fun q9 => A q9 ∨ q9 = ou) s.heap s.heap [] := va_S.rf
  have hx := E.1
  have hb := E.2.1
  have hl : lv_has ls 4 [(0, .ref x), (1, .int z0), (2, .ref ou)] := hl
  obtain ⟨hP1, ⟨vs, hX⟩, hO⟩ := hP
  refine lv_aload_n hx hb dL_isBusinessDay_0 rfl (lv_at hl 2 rfl) ?_
  refine lv_iconst (v := 0) hx hb dL_isBusinessDay_1 rfl ?_
  refine lv_aload_n hx hb dL_isBusinessDay_2 rfl (lv_at hl 0 rfl) ?_
  refine lv_iload_n hx hb dL_isBusinessDay_3 rfl (lv_at hl 1 rfl) ?_
  refine Wr.callV (rest := [.int 0, .ref ou]) hM yk_X7_isBusinessDay E km_L_15 dL_isBusinessDay_4 hG hE hP1 (At.recv hG hX rfl) rfl rfl hl.1 ⟨Nat.le_refl _, Nat.le_refl _⟩ ⟨show 0 + mc ≤ mc by omega, show 0 + ms ≤ ms by omega⟩ (Nat.le_of_ble_eq_true rfl) hS (fun _ h9 => Or.inl h9) (fun v9 H locs hq hz9 hfr9 hS => ?_)
  obtain ⟨r, rfl, hQ⟩ := hq
  have f_o : At G ou (lA G f) H := va_at.kept hO (hfr9 _ (va_at.lt hO) hAo)
  refine lv_if_eq (tgt := 14) hx hb dL_isBusinessDay_7 (by decide) (fun c_7 => ?_) (fun c_7 => ?_)
  · refine lv_lconst (v := 0) hx hb dL_isBusinessDay_14 rfl ?_
    refine g_lst 0 E hG f_o rfl (by decide) (by decide) hS (Or.inr rfl) dL_isBusinessDay_15 (fun H locs f_o hz oq hS => ?_)
    refine lv_goto (tgt := 22) hx hb dL_isBusinessDay_16 (by decide) ?_
    refine lv_iconst (v := 0) hx hb dL_isBusinessDay_22 rfl ?_
    exact wr_int E hr hk hS (show 0 + mc ≤ mc by omega) (show 0 + ms ≤ ms by omega) (⟨rfl, r, hst r _ _ hz oq hQ, by rw [show (if r = 0 then (0 : Int64) else 1) = 0 from if_pos c_7]; exact f_o⟩) dL_isBusinessDay_23
  · refine lv_lconst (v := 1) hx hb dL_isBusinessDay_10 rfl ?_
    refine lv_goto (tgt := 15) hx hb dL_isBusinessDay_11 (by decide) ?_
    refine g_lst 0 E hG f_o rfl (by decide) (by decide) hS (Or.inr rfl) dL_isBusinessDay_15 (fun H locs f_o hz oq hS => ?_)
    refine lv_goto (tgt := 22) hx hb dL_isBusinessDay_16 (by decide) ?_
    refine lv_iconst (v := 0) hx hb dL_isBusinessDay_22 rfl ?_
    exact wr_int E hr hk hS (show 0 + mc ≤ mc by omega) (show 0 + ms ≤ ms by omega) (⟨rfl, r, hst r _ _ hz oq hQ, by rw [show (if r = 0 then (0 : Int64) else 1) = 1 from if_neg c_7]; exact f_o⟩) dL_isBusinessDay_23

set_option maxHeartbeats 4000000 in
set_option maxRecDepth 100000 in
/-- isBusinessDay: it throws -/
theorem w_L_isBusinessDay_t1 (l : Launch) (G : CG) {x ou fr lo : Nat} (z0 : Int32) {P : Heap → Prop} (hM : Tr l yX7_isBusinessDay cX7_isBusinessDay 2 (Option.some FieldType.boolean) fr lo G [.ref x, .int z0] P "java/lang/IllegalArgumentException") : WW l yL_isBusinessDay cL_isBusinessDay 4 (Option.some FieldType.int) [(0, 16, 19, 13)] (fr + 1) (8 + (2 + 11) + lo) 1 6 G [.ref x, .int z0, .ref ou] (fun H9 => P H9 ∧ ∃ vs, At G x (.inr (7, vs)) H9) (fun _ => False) (fun v9 H9 => v9 = some (.int 1)) := by
  refine WW.ofW (by decide) (Nat.le_of_ble_eq_true rfl) (fun p e s m below meth c ls E hG hE hP hr hk htab hl => ?_)
  have hS : va_S (fun _ => False) s.heap s.heap [] := va_S.rf
  have hx := E.1
  have hb := E.2.1
  have hl : lv_has ls 4 [(0, .ref x), (1, .int z0), (2, .ref ou)] := hl
  obtain ⟨hP1, vs, hX⟩ := hP
  refine lv_aload_n hx hb dL_isBusinessDay_0 rfl (lv_at hl 2 rfl) ?_
  refine lv_iconst (v := 0) hx hb dL_isBusinessDay_1 rfl ?_
  refine lv_aload_n hx hb dL_isBusinessDay_2 rfl (lv_at hl 0 rfl) ?_
  refine lv_iload_n hx hb dL_isBusinessDay_3 rfl (lv_at hl 1 rfl) ?_
  refine Tr.catchV (rest := [.int 0, .ref ou]) (name := "java/lang/IllegalArgumentException") hM yk_X7_isBusinessDay E km_L_15 dL_isBusinessDay_4 hG hE hP1 (At.recv hG hX rfl) rfl rfl hl.1 ⟨Nat.le_refl _, Nat.le_refl _⟩ ⟨Nat.le_refl 1, Nat.le_refl 6⟩ (Nat.le_of_ble_eq_true rfl) [] (⟨0, 16, 19, 13⟩ : ExceptionTableEntry) [] htab (fun z hz => by cases hz) (by decide) (by decide) kl_L_13 (va_Nw.use rfl hG.2.2.2.2.2.2.1.2.1) (fun H q hz hq => ?_)
  have hS : va_S (fun _ => False) s.heap H [] := ⟨hz, fun q9 h9 _ => hq q9 h9, fun _ h9 => by cases h9⟩
  refine lv_astore_n (lv' := [(3, .ref q), (0, .ref x), (1, .int z0), (2, .ref ou)]) hx hb dL_isBusinessDay_19 rfl hl (by decide) rfl (fun ls hl => ?_)
  refine lv_iconst (v := 1) hx hb dL_isBusinessDay_20 rfl ?_
  exact wr_int E hr hk hS (show 0 + 1 ≤ 1 by omega) (show 0 + 6 ≤ 6 by omega) (rfl) dL_isBusinessDay_21

set_option maxHeartbeats 4000000 in
set_option maxRecDepth 100000 in
/-- extended: it answers -/
theorem w_L_extended (l : Launch) (G : CG) {x ou fr lo mc ms : Nat} (z0 : Int32) {P : Heap → Prop} {A : Nat → Prop} {Q : Int32 → Heap → Prop} {f : Nat → Int64} (hM : Wr l yX7_extended cX7_extended 2 (Option.some FieldType.int) fr lo mc ms G [.ref x, .int z0] P A (fun v9 H9 => ∃ r, v9 = some (.int r) ∧ Q r H9)) (hAo : ¬ A ou) (hst : ∀ r H H1, H1.size = H.size → (∀ q : Nat, q ≠ ou → H1[q]? = H[q]?) → Q r H → Q r H1) : WW l yL_extended cL_extended 4 (Option.some FieldType.int) [(0, 9, 12, 13)] (fr + 1) (8 + (2 + 11) + lo) mc ms G [.ref x, .int z0, .ref ou] (fun H9 => P H9 ∧ (∃ vs, At G x (.inr (7, vs)) H9) ∧ At G ou (lA G f) H9) (fun q9 => A q9 ∨ q9 = ou) (fun v9 H9 => v9 = some (.int 0) ∧ ∃ r, Q r H9 ∧ At G ou (lA G (vp_updL f 0 r.toInt64)) H9) := by
  refine WW.ofW (by decide) (Nat.le_of_ble_eq_true rfl) (fun p e s m below meth c ls E hG hE hP hr hk htab hl => ?_)
  have hS : va_S (fun q9 => A q9 ∨ q9 = ou) s.heap s.heap [] := va_S.rf
  have hx := E.1
  have hb := E.2.1
  have hl : lv_has ls 4 [(0, .ref x), (1, .int z0), (2, .ref ou)] := hl
  obtain ⟨hP1, ⟨vs, hX⟩, hO⟩ := hP
  refine lv_aload_n hx hb dL_extended_0 rfl (lv_at hl 2 rfl) ?_
  refine lv_iconst (v := 0) hx hb dL_extended_1 rfl ?_
  refine lv_aload_n hx hb dL_extended_2 rfl (lv_at hl 0 rfl) ?_
  refine lv_iload_n hx hb dL_extended_3 rfl (lv_at hl 1 rfl) ?_
  refine Wr.callV (rest := [.int 0, .ref ou]) hM yk_X7_extended E km_L_19 dL_extended_4 hG hE hP1 (At.recv hG hX rfl) rfl rfl hl.1 ⟨Nat.le_refl _, Nat.le_refl _⟩ ⟨show 0 + mc ≤ mc by omega, show 0 + ms ≤ ms by omega⟩ (Nat.le_of_ble_eq_true rfl) hS (fun _ h9 => Or.inl h9) (fun v9 H locs hq hz9 hfr9 hS => ?_)
  obtain ⟨r, rfl, hQ⟩ := hq
  have f_o : At G ou (lA G f) H := va_at.kept hO (hfr9 _ (va_at.lt hO) hAo)
  refine lv_i2l (v := r.toInt64) hx hb dL_extended_7 rfl ?_
  refine g_lst 0 E hG f_o rfl (by decide) (by decide) hS (Or.inr rfl) dL_extended_8 (fun H locs f_o hz oq hS => ?_)
  refine lv_goto (tgt := 15) hx hb dL_extended_9 (by decide) ?_
  refine lv_iconst (v := 0) hx hb dL_extended_15 rfl ?_
  exact wr_int E hr hk hS (show 0 + mc ≤ mc by omega) (show 0 + ms ≤ ms by omega) (⟨rfl, r, hst r _ _ hz oq hQ, f_o⟩) dL_extended_16

set_option maxHeartbeats 4000000 in
set_option maxRecDepth 100000 in
/-- extended: it throws -/
theorem w_L_extended_t1 (l : Launch) (G : CG) {x ou fr lo : Nat} (z0 : Int32) {P : Heap → Prop} (hM : Tr l yX7_extended cX7_extended 2 (Option.some FieldType.int) fr lo G [.ref x, .int z0] P "java/lang/IllegalArgumentException") : WW l yL_extended cL_extended 4 (Option.some FieldType.int) [(0, 9, 12, 13)] (fr + 1) (8 + (2 + 11) + lo) 1 6 G [.ref x, .int z0, .ref ou] (fun H9 => P H9 ∧ ∃ vs, At G x (.inr (7, vs)) H9) (fun _ => False) (fun v9 H9 => v9 = some (.int 1)) := by
  refine WW.ofW (by decide) (Nat.le_of_ble_eq_true rfl) (fun p e s m below meth c ls E hG hE hP hr hk htab hl => ?_)
  have hS : va_S (fun _ => False) s.heap s.heap [] := va_S.rf
  have hx := E.1
  have hb := E.2.1
  have hl : lv_has ls 4 [(0, .ref x), (1, .int z0), (2, .ref ou)] := hl
  obtain ⟨hP1, vs, hX⟩ := hP
  refine lv_aload_n hx hb dL_extended_0 rfl (lv_at hl 2 rfl) ?_
  refine lv_iconst (v := 0) hx hb dL_extended_1 rfl ?_
  refine lv_aload_n hx hb dL_extended_2 rfl (lv_at hl 0 rfl) ?_
  refine lv_iload_n hx hb dL_extended_3 rfl (lv_at hl 1 rfl) ?_
  refine Tr.catchV (rest := [.int 0, .ref ou]) (name := "java/lang/IllegalArgumentException") hM yk_X7_extended E km_L_19 dL_extended_4 hG hE hP1 (At.recv hG hX rfl) rfl rfl hl.1 ⟨Nat.le_refl _, Nat.le_refl _⟩ ⟨Nat.le_refl 1, Nat.le_refl 6⟩ (Nat.le_of_ble_eq_true rfl) [] (⟨0, 9, 12, 13⟩ : ExceptionTableEntry) [] htab (fun z hz => by cases hz) (by decide) (by decide) kl_L_13 (va_Nw.use rfl hG.2.2.2.2.2.2.1.2.1) (fun H q hz hq => ?_)
  have hS : va_S (fun _ => False) s.heap H [] := ⟨hz, fun q9 h9 _ => hq q9 h9, fun _ h9 => by cases h9⟩
  refine lv_astore_n (lv' := [(3, .ref q), (0, .ref x), (1, .int z0), (2, .ref ou)]) hx hb dL_extended_12 rfl hl (by decide) rfl (fun ls hl => ?_)
  refine lv_iconst (v := 1) hx hb dL_extended_13 rfl ?_
  exact wr_int E hr hk hS (show 0 + 1 ≤ 1 by omega) (show 0 + 6 ≤ 6 by omega) (rfl) dL_extended_14

set_option maxHeartbeats 4000000 in
set_option maxRecDepth 100000 in
/-- addBusinessDays: it answers -/
theorem w_L_addBusinessDays (l : Launch) (G : CG) {x ou fr lo mc ms : Nat} (z0 : Int32) (z1 : Int32) {P : Heap → Prop} {A : Nat → Prop} {Q : Int32 → Heap → Prop} {f : Nat → Int64} (hM : Wr l yX7_addBusinessDays cX7_addBusinessDays 3 (Option.some FieldType.int) fr lo mc ms G [.ref x, .int z0, .int z1] P A (fun v9 H9 => ∃ r, v9 = some (.int r) ∧ Q r H9)) (hAo : ¬ A ou) (hst : ∀ r H H1, H1.size = H.size → (∀ q : Nat, q ≠ ou → H1[q]? = H[q]?) → Q r H → Q r H1) : WW l yL_addBusinessDays cL_addBusinessDays 5 (Option.some FieldType.int) [(0, 10, 13, 13)] (fr + 1) (8 + (3 + 11) + lo) mc ms G [.ref x, .int z0, .int z1, .ref ou] (fun H9 => P H9 ∧ (∃ vs, At G x (.inr (7, vs)) H9) ∧ At G ou (lA G f) H9) (fun q9 => A q9 ∨ q9 = ou) (fun v9 H9 => v9 = some (.int 0) ∧ ∃ r, Q r H9 ∧ At G ou (lA G (vp_updL f 0 r.toInt64)) H9) := by
  refine WW.ofW (by decide) (Nat.le_of_ble_eq_true rfl) (fun p e s m below meth c ls E hG hE hP hr hk htab hl => ?_)
  have hS : va_S (fun q9 => A q9 ∨ q9 = ou) s.heap s.heap [] := va_S.rf
  have hx := E.1
  have hb := E.2.1
  have hl : lv_has ls 5 [(0, .ref x), (1, .int z0), (2, .int z1), (3, .ref ou)] := hl
  obtain ⟨hP1, ⟨vs, hX⟩, hO⟩ := hP
  refine lv_aload_n hx hb dL_addBusinessDays_0 rfl (lv_at hl 3 rfl) ?_
  refine lv_iconst (v := 0) hx hb dL_addBusinessDays_1 rfl ?_
  refine lv_aload_n hx hb dL_addBusinessDays_2 rfl (lv_at hl 0 rfl) ?_
  refine lv_iload_n hx hb dL_addBusinessDays_3 rfl (lv_at hl 1 rfl) ?_
  refine lv_iload_n hx hb dL_addBusinessDays_4 rfl (lv_at hl 2 rfl) ?_
  refine Wr.callV (rest := [.int 0, .ref ou]) hM yk_X7_addBusinessDays E km_L_22 dL_addBusinessDays_5 hG hE hP1 (At.recv hG hX rfl) rfl rfl hl.1 ⟨Nat.le_refl _, Nat.le_refl _⟩ ⟨show 0 + mc ≤ mc by omega, show 0 + ms ≤ ms by omega⟩ (Nat.le_of_ble_eq_true rfl) hS (fun _ h9 => Or.inl h9) (fun v9 H locs hq hz9 hfr9 hS => ?_)
  obtain ⟨r, rfl, hQ⟩ := hq
  have f_o : At G ou (lA G f) H := va_at.kept hO (hfr9 _ (va_at.lt hO) hAo)
  refine lv_i2l (v := r.toInt64) hx hb dL_addBusinessDays_8 rfl ?_
  refine g_lst 0 E hG f_o rfl (by decide) (by decide) hS (Or.inr rfl) dL_addBusinessDays_9 (fun H locs f_o hz oq hS => ?_)
  refine lv_goto (tgt := 17) hx hb dL_addBusinessDays_10 (by decide) ?_
  refine lv_iconst (v := 0) hx hb dL_addBusinessDays_17 rfl ?_
  exact wr_int E hr hk hS (show 0 + mc ≤ mc by omega) (show 0 + ms ≤ ms by omega) (⟨rfl, r, hst r _ _ hz oq hQ, f_o⟩) dL_addBusinessDays_18

set_option maxHeartbeats 4000000 in
set_option maxRecDepth 100000 in
/-- addBusinessDays: it throws -/
theorem w_L_addBusinessDays_t1 (l : Launch) (G : CG) {x ou fr lo : Nat} (z0 : Int32) (z1 : Int32) {P : Heap → Prop} (hM : Tr l yX7_addBusinessDays cX7_addBusinessDays 3 (Option.some FieldType.int) fr lo G [.ref x, .int z0, .int z1] P "java/lang/IllegalArgumentException") : WW l yL_addBusinessDays cL_addBusinessDays 5 (Option.some FieldType.int) [(0, 10, 13, 13)] (fr + 1) (8 + (3 + 11) + lo) 1 6 G [.ref x, .int z0, .int z1, .ref ou] (fun H9 => P H9 ∧ ∃ vs, At G x (.inr (7, vs)) H9) (fun _ => False) (fun v9 H9 => v9 = some (.int 1)) := by
  refine WW.ofW (by decide) (Nat.le_of_ble_eq_true rfl) (fun p e s m below meth c ls E hG hE hP hr hk htab hl => ?_)
  have hS : va_S (fun _ => False) s.heap s.heap [] := va_S.rf
  have hx := E.1
  have hb := E.2.1
  have hl : lv_has ls 5 [(0, .ref x), (1, .int z0), (2, .int z1), (3, .ref ou)] := hl
  obtain ⟨hP1, vs, hX⟩ := hP
  refine lv_aload_n hx hb dL_addBusinessDays_0 rfl (lv_at hl 3 rfl) ?_
  refine lv_iconst (v := 0) hx hb dL_addBusinessDays_1 rfl ?_
  refine lv_aload_n hx hb dL_addBusinessDays_2 rfl (lv_at hl 0 rfl) ?_
  refine lv_iload_n hx hb dL_addBusinessDays_3 rfl (lv_at hl 1 rfl) ?_
  refine lv_iload_n hx hb dL_addBusinessDays_4 rfl (lv_at hl 2 rfl) ?_
  refine Tr.catchV (rest := [.int 0, .ref ou]) (name := "java/lang/IllegalArgumentException") hM yk_X7_addBusinessDays E km_L_22 dL_addBusinessDays_5 hG hE hP1 (At.recv hG hX rfl) rfl rfl hl.1 ⟨Nat.le_refl _, Nat.le_refl _⟩ ⟨Nat.le_refl 1, Nat.le_refl 6⟩ (Nat.le_of_ble_eq_true rfl) [] (⟨0, 10, 13, 13⟩ : ExceptionTableEntry) [] htab (fun z hz => by cases hz) (by decide) (by decide) kl_L_13 (va_Nw.use rfl hG.2.2.2.2.2.2.1.2.1) (fun H q hz hq => ?_)
  have hS : va_S (fun _ => False) s.heap H [] := ⟨hz, fun q9 h9 _ => hq q9 h9, fun _ h9 => by cases h9⟩
  refine lv_astore (lv' := [(4, .ref q), (0, .ref x), (1, .int z0), (2, .int z1), (3, .ref ou)]) hx hb dL_addBusinessDays_13 hl (by decide) rfl (fun ls hl => ?_)
  refine lv_iconst (v := 1) hx hb dL_addBusinessDays_15 rfl ?_
  exact wr_int E hr hk hS (show 0 + 1 ≤ 1 by omega) (show 0 + 6 ≤ 6 by omega) (rfl) dL_addBusinessDays_16

set_option maxHeartbeats 4000000 in
set_option maxRecDepth 100000 in
/-- businessDays: it answers -/
theorem w_L_businessDays (l : Launch) (G : CG) {x ou fr lo mc ms : Nat} (z0 : Int32) (z1 : Int32) {P : Heap → Prop} {A : Nat → Prop} {Q : Int32 → Heap → Prop} {f : Nat → Int64} (hM : Wr l yX7_businessDays cX7_businessDays 3 (Option.some FieldType.int) fr lo mc ms G [.ref x, .int z0, .int z1] P A (fun v9 H9 => ∃ r, v9 = some (.int r) ∧ Q r H9)) (hAo : ¬ A ou) (hst : ∀ r H H1, H1.size = H.size → (∀ q : Nat, q ≠ ou → H1[q]? = H[q]?) → Q r H → Q r H1) : WW l yL_businessDays cL_businessDays 5 (Option.some FieldType.int) [(0, 10, 13, 13)] (fr + 1) (8 + (3 + 11) + lo) mc ms G [.ref x, .int z0, .int z1, .ref ou] (fun H9 => P H9 ∧ (∃ vs, At G x (.inr (7, vs)) H9) ∧ At G ou (lA G f) H9) (fun q9 => A q9 ∨ q9 = ou) (fun v9 H9 => v9 = some (.int 0) ∧ ∃ r, Q r H9 ∧ At G ou (lA G (vp_updL f 0 r.toInt64)) H9) := by
  refine WW.ofW (by decide) (Nat.le_of_ble_eq_true rfl) (fun p e s m below meth c ls E hG hE hP hr hk htab hl => ?_)
  have hS : va_S (fun q9 => A q9 ∨ q9 = ou) s.heap s.heap [] := va_S.rf
  have hx := E.1
  have hb := E.2.1
  have hl : lv_has ls 5 [(0, .ref x), (1, .int z0), (2, .int z1), (3, .ref ou)] := hl
  obtain ⟨hP1, ⟨vs, hX⟩, hO⟩ := hP
  refine lv_aload_n hx hb dL_businessDays_0 rfl (lv_at hl 3 rfl) ?_
  refine lv_iconst (v := 0) hx hb dL_businessDays_1 rfl ?_
  refine lv_aload_n hx hb dL_businessDays_2 rfl (lv_at hl 0 rfl) ?_
  refine lv_iload_n hx hb dL_businessDays_3 rfl (lv_at hl 1 rfl) ?_
  refine lv_iload_n hx hb dL_businessDays_4 rfl (lv_at hl 2 rfl) ?_
  refine Wr.callV (rest := [.int 0, .ref ou]) hM yk_X7_businessDays E km_L_26 dL_businessDays_5 hG hE hP1 (At.recv hG hX rfl) rfl rfl hl.1 ⟨Nat.le_refl _, Nat.le_refl _⟩ ⟨show 0 + mc ≤ mc by omega, show 0 + ms ≤ ms by omega⟩ (Nat.le_of_ble_eq_true rfl) hS (fun _ h9 => Or.inl h9) (fun v9 H locs hq hz9 hfr9 hS => ?_)
  obtain ⟨r, rfl, hQ⟩ := hq
  have f_o : At G ou (lA G f) H := va_at.kept hO (hfr9 _ (va_at.lt hO) hAo)
  refine lv_i2l (v := r.toInt64) hx hb dL_businessDays_8 rfl ?_
  refine g_lst 0 E hG f_o rfl (by decide) (by decide) hS (Or.inr rfl) dL_businessDays_9 (fun H locs f_o hz oq hS => ?_)
  refine lv_goto (tgt := 17) hx hb dL_businessDays_10 (by decide) ?_
  refine lv_iconst (v := 0) hx hb dL_businessDays_17 rfl ?_
  exact wr_int E hr hk hS (show 0 + mc ≤ mc by omega) (show 0 + ms ≤ ms by omega) (⟨rfl, r, hst r _ _ hz oq hQ, f_o⟩) dL_businessDays_18

set_option maxHeartbeats 4000000 in
set_option maxRecDepth 100000 in
/-- businessDays: it throws -/
theorem w_L_businessDays_t1 (l : Launch) (G : CG) {x ou fr lo : Nat} (z0 : Int32) (z1 : Int32) {P : Heap → Prop} (hM : Tr l yX7_businessDays cX7_businessDays 3 (Option.some FieldType.int) fr lo G [.ref x, .int z0, .int z1] P "java/lang/IllegalArgumentException") : WW l yL_businessDays cL_businessDays 5 (Option.some FieldType.int) [(0, 10, 13, 13)] (fr + 1) (8 + (3 + 11) + lo) 1 6 G [.ref x, .int z0, .int z1, .ref ou] (fun H9 => P H9 ∧ ∃ vs, At G x (.inr (7, vs)) H9) (fun _ => False) (fun v9 H9 => v9 = some (.int 1)) := by
  refine WW.ofW (by decide) (Nat.le_of_ble_eq_true rfl) (fun p e s m below meth c ls E hG hE hP hr hk htab hl => ?_)
  have hS : va_S (fun _ => False) s.heap s.heap [] := va_S.rf
  have hx := E.1
  have hb := E.2.1
  have hl : lv_has ls 5 [(0, .ref x), (1, .int z0), (2, .int z1), (3, .ref ou)] := hl
  obtain ⟨hP1, vs, hX⟩ := hP
  refine lv_aload_n hx hb dL_businessDays_0 rfl (lv_at hl 3 rfl) ?_
  refine lv_iconst (v := 0) hx hb dL_businessDays_1 rfl ?_
  refine lv_aload_n hx hb dL_businessDays_2 rfl (lv_at hl 0 rfl) ?_
  refine lv_iload_n hx hb dL_businessDays_3 rfl (lv_at hl 1 rfl) ?_
  refine lv_iload_n hx hb dL_businessDays_4 rfl (lv_at hl 2 rfl) ?_
  refine Tr.catchV (rest := [.int 0, .ref ou]) (name := "java/lang/IllegalArgumentException") hM yk_X7_businessDays E km_L_26 dL_businessDays_5 hG hE hP1 (At.recv hG hX rfl) rfl rfl hl.1 ⟨Nat.le_refl _, Nat.le_refl _⟩ ⟨Nat.le_refl 1, Nat.le_refl 6⟩ (Nat.le_of_ble_eq_true rfl) [] (⟨0, 10, 13, 13⟩ : ExceptionTableEntry) [] htab (fun z hz => by cases hz) (by decide) (by decide) kl_L_13 (va_Nw.use rfl hG.2.2.2.2.2.2.1.2.1) (fun H q hz hq => ?_)
  have hS : va_S (fun _ => False) s.heap H [] := ⟨hz, fun q9 h9 _ => hq q9 h9, fun _ h9 => by cases h9⟩
  refine lv_astore (lv' := [(4, .ref q), (0, .ref x), (1, .int z0), (2, .int z1), (3, .ref ou)]) hx hb dL_businessDays_13 hl (by decide) rfl (fun ls hl => ?_)
  refine lv_iconst (v := 1) hx hb dL_businessDays_15 rfl ?_
  exact wr_int E hr hk hS (show 0 + 1 ≤ 1 by omega) (show 0 + 6 ≤ 6 by omega) (rfl) dL_businessDays_16

set_option maxHeartbeats 4000000 in
set_option maxRecDepth 100000 in
/-- parent: it answers -/
theorem w_L_parent (l : Launch) (G : CG) {x ou fr lo mc ms : Nat} (z0 : Int32) {P : Heap → Prop} {A : Nat → Prop} {Q : Int32 → Heap → Prop} {f : Nat → Int64} (hM : Wr l yX7_parent cX7_parent 2 (Option.some FieldType.int) fr lo mc ms G [.ref x, .int z0] P A (fun v9 H9 => ∃ r, v9 = some (.int r) ∧ Q r H9)) (hAo : ¬ A ou) (hst : ∀ r H H1, H1.size = H.size → (∀ q : Nat, q ≠ ou → H1[q]? = H[q]?) → Q r H → Q r H1) : WW l yL_parent cL_parent 4 (Option.some FieldType.int) [(0, 9, 12, 32)] (fr + 1) (8 + (2 + 11) + lo) mc ms G [.ref x, .int z0, .ref ou] (fun H9 => P H9 ∧ (∃ vs, At G x (.inr (7, vs)) H9) ∧ At G ou (lA G f) H9) (fun q9 => A q9 ∨ q9 = ou) (fun v9 H9 => v9 = some (.int 0) ∧ ∃ r, Q r H9 ∧ At G ou (lA G (vp_updL f 0 r.toInt64)) H9) := by
  refine WW.ofW (by decide) (Nat.le_of_ble_eq_true rfl) (fun p e s m below meth c ls E hG hE hP hr hk htab hl => ?_)
  have hS : va_S (fun q9 => A q9 ∨ q9 = ou) s.heap s.heap [] := va_S.rf
  have hx := E.1
  have hb := E.2.1
  have hl : lv_has ls 4 [(0, .ref x), (1, .int z0), (2, .ref ou)] := hl
  obtain ⟨hP1, ⟨vs, hX⟩, hO⟩ := hP
  refine lv_aload_n hx hb dL_parent_0 rfl (lv_at hl 2 rfl) ?_
  refine lv_iconst (v := 0) hx hb dL_parent_1 rfl ?_
  refine lv_aload_n hx hb dL_parent_2 rfl (lv_at hl 0 rfl) ?_
  refine lv_iload_n hx hb dL_parent_3 rfl (lv_at hl 1 rfl) ?_
  refine Wr.callV (rest := [.int 0, .ref ou]) hM yk_X7_parent E km_L_29 dL_parent_4 hG hE hP1 (At.recv hG hX rfl) rfl rfl hl.1 ⟨Nat.le_refl _, Nat.le_refl _⟩ ⟨show 0 + mc ≤ mc by omega, show 0 + ms ≤ ms by omega⟩ (Nat.le_of_ble_eq_true rfl) hS (fun _ h9 => Or.inl h9) (fun v9 H locs hq hz9 hfr9 hS => ?_)
  obtain ⟨r, rfl, hQ⟩ := hq
  have f_o : At G ou (lA G f) H := va_at.kept hO (hfr9 _ (va_at.lt hO) hAo)
  refine lv_i2l (v := r.toInt64) hx hb dL_parent_7 rfl ?_
  refine g_lst 0 E hG f_o rfl (by decide) (by decide) hS (Or.inr rfl) dL_parent_8 (fun H locs f_o hz oq hS => ?_)
  refine lv_goto (tgt := 15) hx hb dL_parent_9 (by decide) ?_
  refine lv_iconst (v := 0) hx hb dL_parent_15 rfl ?_
  exact wr_int E hr hk hS (show 0 + mc ≤ mc by omega) (show 0 + ms ≤ ms by omega) (⟨rfl, r, hst r _ _ hz oq hQ, f_o⟩) dL_parent_16

set_option maxHeartbeats 4000000 in
set_option maxRecDepth 100000 in
/-- parent: it throws -/
theorem w_L_parent_t1 (l : Launch) (G : CG) {x ou fr lo : Nat} (z0 : Int32) {P : Heap → Prop} (hM : Tr l yX7_parent cX7_parent 2 (Option.some FieldType.int) fr lo G [.ref x, .int z0] P "java/lang/IndexOutOfBoundsException") : WW l yL_parent cL_parent 4 (Option.some FieldType.int) [(0, 9, 12, 32)] (fr + 1) (8 + (2 + 11) + lo) 1 6 G [.ref x, .int z0, .ref ou] (fun H9 => P H9 ∧ ∃ vs, At G x (.inr (7, vs)) H9) (fun _ => False) (fun v9 H9 => v9 = some (.int 1)) := by
  refine WW.ofW (by decide) (Nat.le_of_ble_eq_true rfl) (fun p e s m below meth c ls E hG hE hP hr hk htab hl => ?_)
  have hS : va_S (fun _ => False) s.heap s.heap [] := va_S.rf
  have hx := E.1
  have hb := E.2.1
  have hl : lv_has ls 4 [(0, .ref x), (1, .int z0), (2, .ref ou)] := hl
  obtain ⟨hP1, vs, hX⟩ := hP
  refine lv_aload_n hx hb dL_parent_0 rfl (lv_at hl 2 rfl) ?_
  refine lv_iconst (v := 0) hx hb dL_parent_1 rfl ?_
  refine lv_aload_n hx hb dL_parent_2 rfl (lv_at hl 0 rfl) ?_
  refine lv_iload_n hx hb dL_parent_3 rfl (lv_at hl 1 rfl) ?_
  refine Tr.catchV (rest := [.int 0, .ref ou]) (name := "java/lang/IndexOutOfBoundsException") hM yk_X7_parent E km_L_29 dL_parent_4 hG hE hP1 (At.recv hG hX rfl) rfl rfl hl.1 ⟨Nat.le_refl _, Nat.le_refl _⟩ ⟨Nat.le_refl 1, Nat.le_refl 6⟩ (Nat.le_of_ble_eq_true rfl) [] (⟨0, 9, 12, 32⟩ : ExceptionTableEntry) [] htab (fun z hz => by cases hz) (by decide) (by decide) kl_L_32 (va_Nw.use rfl hG.2.2.2.2.2.2.1.2.2.1) (fun H q hz hq => ?_)
  have hS : va_S (fun _ => False) s.heap H [] := ⟨hz, fun q9 h9 _ => hq q9 h9, fun _ h9 => by cases h9⟩
  refine lv_astore_n (lv' := [(3, .ref q), (0, .ref x), (1, .int z0), (2, .ref ou)]) hx hb dL_parent_12 rfl hl (by decide) rfl (fun ls hl => ?_)
  refine lv_iconst (v := 1) hx hb dL_parent_13 rfl ?_
  exact wr_int E hr hk hS (show 0 + 1 ≤ 1 by omega) (show 0 + 6 ≤ 6 by omega) (rfl) dL_parent_14

set_option maxHeartbeats 4000000 in
set_option maxRecDepth 100000 in
/-- bound: it answers -/
theorem w_L_bound (l : Launch) (G : CG) {x ou fr lo mc ms : Nat} (z0 : Int32) (z1 : Int32) {P : Heap → Prop} {A : Nat → Prop} {Q : Int32 → Heap → Prop} {f : Nat → Int64} (hM : Wr l yX7_bound cX7_bound 4 (Option.some FieldType.int) fr lo mc ms G [.ref x, .int z0, .int z1] P A (fun v9 H9 => ∃ r, v9 = some (.int r) ∧ Q r H9)) (hAo : ¬ A ou) (hst : ∀ r H H1, H1.size = H.size → (∀ q : Nat, q ≠ ou → H1[q]? = H[q]?) → Q r H → Q r H1) : WW l yL_bound cL_bound 5 (Option.some FieldType.int) [(0, 10, 13, 32)] (fr + 1) (8 + (4 + 11) + lo) mc ms G [.ref x, .int z0, .int z1, .ref ou] (fun H9 => P H9 ∧ (∃ vs, At G x (.inr (7, vs)) H9) ∧ At G ou (lA G f) H9) (fun q9 => A q9 ∨ q9 = ou) (fun v9 H9 => v9 = some (.int 0) ∧ ∃ r, Q r H9 ∧ At G ou (lA G (vp_updL f 0 r.toInt64)) H9) := by
  refine WW.ofW (by decide) (Nat.le_of_ble_eq_true rfl) (fun p e s m below meth c ls E hG hE hP hr hk htab hl => ?_)
  have hS : va_S (fun q9 => A q9 ∨ q9 = ou) s.heap s.heap [] := va_S.rf
  have hx := E.1
  have hb := E.2.1
  have hl : lv_has ls 5 [(0, .ref x), (1, .int z0), (2, .int z1), (3, .ref ou)] := hl
  obtain ⟨hP1, ⟨vs, hX⟩, hO⟩ := hP
  refine lv_aload_n hx hb dL_bound_0 rfl (lv_at hl 3 rfl) ?_
  refine lv_iconst (v := 0) hx hb dL_bound_1 rfl ?_
  refine lv_aload_n hx hb dL_bound_2 rfl (lv_at hl 0 rfl) ?_
  refine lv_iload_n hx hb dL_bound_3 rfl (lv_at hl 1 rfl) ?_
  refine lv_iload_n hx hb dL_bound_4 rfl (lv_at hl 2 rfl) ?_
  refine Wr.callV (rest := [.int 0, .ref ou]) hM yk_X7_bound E km_L_34 dL_bound_5 hG hE hP1 (At.recv hG hX rfl) rfl rfl hl.1 ⟨Nat.le_refl _, Nat.le_refl _⟩ ⟨show 0 + mc ≤ mc by omega, show 0 + ms ≤ ms by omega⟩ (Nat.le_of_ble_eq_true rfl) hS (fun _ h9 => Or.inl h9) (fun v9 H locs hq hz9 hfr9 hS => ?_)
  obtain ⟨r, rfl, hQ⟩ := hq
  have f_o : At G ou (lA G f) H := va_at.kept hO (hfr9 _ (va_at.lt hO) hAo)
  refine lv_i2l (v := r.toInt64) hx hb dL_bound_8 rfl ?_
  refine g_lst 0 E hG f_o rfl (by decide) (by decide) hS (Or.inr rfl) dL_bound_9 (fun H locs f_o hz oq hS => ?_)
  refine lv_goto (tgt := 17) hx hb dL_bound_10 (by decide) ?_
  refine lv_iconst (v := 0) hx hb dL_bound_17 rfl ?_
  exact wr_int E hr hk hS (show 0 + mc ≤ mc by omega) (show 0 + ms ≤ ms by omega) (⟨rfl, r, hst r _ _ hz oq hQ, f_o⟩) dL_bound_18

set_option maxHeartbeats 4000000 in
set_option maxRecDepth 100000 in
/-- bound: it throws -/
theorem w_L_bound_t1 (l : Launch) (G : CG) {x ou fr lo : Nat} (z0 : Int32) (z1 : Int32) {P : Heap → Prop} (hM : Tr l yX7_bound cX7_bound 4 (Option.some FieldType.int) fr lo G [.ref x, .int z0, .int z1] P "java/lang/IndexOutOfBoundsException") : WW l yL_bound cL_bound 5 (Option.some FieldType.int) [(0, 10, 13, 32)] (fr + 1) (8 + (4 + 11) + lo) 1 6 G [.ref x, .int z0, .int z1, .ref ou] (fun H9 => P H9 ∧ ∃ vs, At G x (.inr (7, vs)) H9) (fun _ => False) (fun v9 H9 => v9 = some (.int 1)) := by
  refine WW.ofW (by decide) (Nat.le_of_ble_eq_true rfl) (fun p e s m below meth c ls E hG hE hP hr hk htab hl => ?_)
  have hS : va_S (fun _ => False) s.heap s.heap [] := va_S.rf
  have hx := E.1
  have hb := E.2.1
  have hl : lv_has ls 5 [(0, .ref x), (1, .int z0), (2, .int z1), (3, .ref ou)] := hl
  obtain ⟨hP1, vs, hX⟩ := hP
  refine lv_aload_n hx hb dL_bound_0 rfl (lv_at hl 3 rfl) ?_
  refine lv_iconst (v := 0) hx hb dL_bound_1 rfl ?_
  refine lv_aload_n hx hb dL_bound_2 rfl (lv_at hl 0 rfl) ?_
  refine lv_iload_n hx hb dL_bound_3 rfl (lv_at hl 1 rfl) ?_
  refine lv_iload_n hx hb dL_bound_4 rfl (lv_at hl 2 rfl) ?_
  refine Tr.catchV (rest := [.int 0, .ref ou]) (name := "java/lang/IndexOutOfBoundsException") hM yk_X7_bound E km_L_34 dL_bound_5 hG hE hP1 (At.recv hG hX rfl) rfl rfl hl.1 ⟨Nat.le_refl _, Nat.le_refl _⟩ ⟨Nat.le_refl 1, Nat.le_refl 6⟩ (Nat.le_of_ble_eq_true rfl) [] (⟨0, 10, 13, 32⟩ : ExceptionTableEntry) [] htab (fun z hz => by cases hz) (by decide) (by decide) kl_L_32 (va_Nw.use rfl hG.2.2.2.2.2.2.1.2.2.1) (fun H q hz hq => ?_)
  have hS : va_S (fun _ => False) s.heap H [] := ⟨hz, fun q9 h9 _ => hq q9 h9, fun _ h9 => by cases h9⟩
  refine lv_astore (lv' := [(4, .ref q), (0, .ref x), (1, .int z0), (2, .int z1), (3, .ref ou)]) hx hb dL_bound_13 hl (by decide) rfl (fun ls hl => ?_)
  refine lv_iconst (v := 1) hx hb dL_bound_15 rfl ?_
  exact wr_int E hr hk hS (show 0 + 1 ≤ 1 by omega) (show 0 + 6 ≤ 6 by omega) (rfl) dL_bound_16

set_option maxHeartbeats 4000000 in
set_option maxRecDepth 100000 in
/-- expiry: it answers -/
theorem w_L_expiry (l : Launch) (G : CG) {x ou fr lo mc ms : Nat} (z0 : Int32) {P : Heap → Prop} {A : Nat → Prop} {Q : Int32 → Heap → Prop} {f : Nat → Int64} (hM : Wr l yX7_expiry cX7_expiry 2 (Option.some FieldType.int) fr lo mc ms G [.ref x, .int z0] P A (fun v9 H9 => ∃ r, v9 = some (.int r) ∧ Q r H9)) (hAo : ¬ A ou) (hst : ∀ r H H1, H1.size = H.size → (∀ q : Nat, q ≠ ou → H1[q]? = H[q]?) → Q r H → Q r H1) : WW l yL_expiry cL_expiry 4 (Option.some FieldType.int) [(0, 9, 12, 32)] (fr + 1) (8 + (2 + 11) + lo) mc ms G [.ref x, .int z0, .ref ou] (fun H9 => P H9 ∧ (∃ vs, At G x (.inr (7, vs)) H9) ∧ At G ou (lA G f) H9) (fun q9 => A q9 ∨ q9 = ou) (fun v9 H9 => v9 = some (.int 0) ∧ ∃ r, Q r H9 ∧ At G ou (lA G (vp_updL f 0 r.toInt64)) H9) := by
  refine WW.ofW (by decide) (Nat.le_of_ble_eq_true rfl) (fun p e s m below meth c ls E hG hE hP hr hk htab hl => ?_)
  have hS : va_S (fun q9 => A q9 ∨ q9 = ou) s.heap s.heap [] := va_S.rf
  have hx := E.1
  have hb := E.2.1
  have hl : lv_has ls 4 [(0, .ref x), (1, .int z0), (2, .ref ou)] := hl
  obtain ⟨hP1, ⟨vs, hX⟩, hO⟩ := hP
  refine lv_aload_n hx hb dL_expiry_0 rfl (lv_at hl 2 rfl) ?_
  refine lv_iconst (v := 0) hx hb dL_expiry_1 rfl ?_
  refine lv_aload_n hx hb dL_expiry_2 rfl (lv_at hl 0 rfl) ?_
  refine lv_iload_n hx hb dL_expiry_3 rfl (lv_at hl 1 rfl) ?_
  refine Wr.callV (rest := [.int 0, .ref ou]) hM yk_X7_expiry E km_L_38 dL_expiry_4 hG hE hP1 (At.recv hG hX rfl) rfl rfl hl.1 ⟨Nat.le_refl _, Nat.le_refl _⟩ ⟨show 0 + mc ≤ mc by omega, show 0 + ms ≤ ms by omega⟩ (Nat.le_of_ble_eq_true rfl) hS (fun _ h9 => Or.inl h9) (fun v9 H locs hq hz9 hfr9 hS => ?_)
  obtain ⟨r, rfl, hQ⟩ := hq
  have f_o : At G ou (lA G f) H := va_at.kept hO (hfr9 _ (va_at.lt hO) hAo)
  refine lv_i2l (v := r.toInt64) hx hb dL_expiry_7 rfl ?_
  refine g_lst 0 E hG f_o rfl (by decide) (by decide) hS (Or.inr rfl) dL_expiry_8 (fun H locs f_o hz oq hS => ?_)
  refine lv_goto (tgt := 15) hx hb dL_expiry_9 (by decide) ?_
  refine lv_iconst (v := 0) hx hb dL_expiry_15 rfl ?_
  exact wr_int E hr hk hS (show 0 + mc ≤ mc by omega) (show 0 + ms ≤ ms by omega) (⟨rfl, r, hst r _ _ hz oq hQ, f_o⟩) dL_expiry_16

set_option maxHeartbeats 4000000 in
set_option maxRecDepth 100000 in
/-- expiry: it throws -/
theorem w_L_expiry_t1 (l : Launch) (G : CG) {x ou fr lo : Nat} (z0 : Int32) {P : Heap → Prop} (hM : Tr l yX7_expiry cX7_expiry 2 (Option.some FieldType.int) fr lo G [.ref x, .int z0] P "java/lang/IndexOutOfBoundsException") : WW l yL_expiry cL_expiry 4 (Option.some FieldType.int) [(0, 9, 12, 32)] (fr + 1) (8 + (2 + 11) + lo) 1 6 G [.ref x, .int z0, .ref ou] (fun H9 => P H9 ∧ ∃ vs, At G x (.inr (7, vs)) H9) (fun _ => False) (fun v9 H9 => v9 = some (.int 1)) := by
  refine WW.ofW (by decide) (Nat.le_of_ble_eq_true rfl) (fun p e s m below meth c ls E hG hE hP hr hk htab hl => ?_)
  have hS : va_S (fun _ => False) s.heap s.heap [] := va_S.rf
  have hx := E.1
  have hb := E.2.1
  have hl : lv_has ls 4 [(0, .ref x), (1, .int z0), (2, .ref ou)] := hl
  obtain ⟨hP1, vs, hX⟩ := hP
  refine lv_aload_n hx hb dL_expiry_0 rfl (lv_at hl 2 rfl) ?_
  refine lv_iconst (v := 0) hx hb dL_expiry_1 rfl ?_
  refine lv_aload_n hx hb dL_expiry_2 rfl (lv_at hl 0 rfl) ?_
  refine lv_iload_n hx hb dL_expiry_3 rfl (lv_at hl 1 rfl) ?_
  refine Tr.catchV (rest := [.int 0, .ref ou]) (name := "java/lang/IndexOutOfBoundsException") hM yk_X7_expiry E km_L_38 dL_expiry_4 hG hE hP1 (At.recv hG hX rfl) rfl rfl hl.1 ⟨Nat.le_refl _, Nat.le_refl _⟩ ⟨Nat.le_refl 1, Nat.le_refl 6⟩ (Nat.le_of_ble_eq_true rfl) [] (⟨0, 9, 12, 32⟩ : ExceptionTableEntry) [] htab (fun z hz => by cases hz) (by decide) (by decide) kl_L_32 (va_Nw.use rfl hG.2.2.2.2.2.2.1.2.2.1) (fun H q hz hq => ?_)
  have hS : va_S (fun _ => False) s.heap H [] := ⟨hz, fun q9 h9 _ => hq q9 h9, fun _ h9 => by cases h9⟩
  refine lv_astore_n (lv' := [(3, .ref q), (0, .ref x), (1, .int z0), (2, .ref ou)]) hx hb dL_expiry_12 rfl hl (by decide) rfl (fun ls hl => ?_)
  refine lv_iconst (v := 1) hx hb dL_expiry_13 rfl ?_
  exact wr_int E hr hk hS (show 0 + 1 ≤ 1 by omega) (show 0 + 6 ≤ 6 by omega) (rfl) dL_expiry_14

set_option maxHeartbeats 4000000 in
set_option maxRecDepth 100000 in
/-- drawn: it answers -/
theorem w_L_drawn (l : Launch) (G : CG) {x ou fr lo mc ms : Nat} (z0 : Int32) {P : Heap → Prop} {A : Nat → Prop} {Q : Int32 → Heap → Prop} {f : Nat → Int64} (hM : Wr l yX7_drawn cX7_drawn 2 (Option.some FieldType.int) fr lo mc ms G [.ref x, .int z0] P A (fun v9 H9 => ∃ r, v9 = some (.int r) ∧ Q r H9)) (hAo : ¬ A ou) (hst : ∀ r H H1, H1.size = H.size → (∀ q : Nat, q ≠ ou → H1[q]? = H[q]?) → Q r H → Q r H1) : WW l yL_drawn cL_drawn 4 (Option.some FieldType.int) [(0, 9, 12, 32)] (fr + 1) (8 + (2 + 11) + lo) mc ms G [.ref x, .int z0, .ref ou] (fun H9 => P H9 ∧ (∃ vs, At G x (.inr (7, vs)) H9) ∧ At G ou (lA G f) H9) (fun q9 => A q9 ∨ q9 = ou) (fun v9 H9 => v9 = some (.int 0) ∧ ∃ r, Q r H9 ∧ At G ou (lA G (vp_updL f 0 r.toInt64)) H9) := by
  refine WW.ofW (by decide) (Nat.le_of_ble_eq_true rfl) (fun p e s m below meth c ls E hG hE hP hr hk htab hl => ?_)
  have hS : va_S (fun q9 => A q9 ∨ q9 = ou) s.heap s.heap [] := va_S.rf
  have hx := E.1
  have hb := E.2.1
  have hl : lv_has ls 4 [(0, .ref x), (1, .int z0), (2, .ref ou)] := hl
  obtain ⟨hP1, ⟨vs, hX⟩, hO⟩ := hP
  refine lv_aload_n hx hb dL_drawn_0 rfl (lv_at hl 2 rfl) ?_
  refine lv_iconst (v := 0) hx hb dL_drawn_1 rfl ?_
  refine lv_aload_n hx hb dL_drawn_2 rfl (lv_at hl 0 rfl) ?_
  refine lv_iload_n hx hb dL_drawn_3 rfl (lv_at hl 1 rfl) ?_
  refine Wr.callV (rest := [.int 0, .ref ou]) hM yk_X7_drawn E km_L_41 dL_drawn_4 hG hE hP1 (At.recv hG hX rfl) rfl rfl hl.1 ⟨Nat.le_refl _, Nat.le_refl _⟩ ⟨show 0 + mc ≤ mc by omega, show 0 + ms ≤ ms by omega⟩ (Nat.le_of_ble_eq_true rfl) hS (fun _ h9 => Or.inl h9) (fun v9 H locs hq hz9 hfr9 hS => ?_)
  obtain ⟨r, rfl, hQ⟩ := hq
  have f_o : At G ou (lA G f) H := va_at.kept hO (hfr9 _ (va_at.lt hO) hAo)
  refine lv_i2l (v := r.toInt64) hx hb dL_drawn_7 rfl ?_
  refine g_lst 0 E hG f_o rfl (by decide) (by decide) hS (Or.inr rfl) dL_drawn_8 (fun H locs f_o hz oq hS => ?_)
  refine lv_goto (tgt := 15) hx hb dL_drawn_9 (by decide) ?_
  refine lv_iconst (v := 0) hx hb dL_drawn_15 rfl ?_
  exact wr_int E hr hk hS (show 0 + mc ≤ mc by omega) (show 0 + ms ≤ ms by omega) (⟨rfl, r, hst r _ _ hz oq hQ, f_o⟩) dL_drawn_16

set_option maxHeartbeats 4000000 in
set_option maxRecDepth 100000 in
/-- drawn: it throws -/
theorem w_L_drawn_t1 (l : Launch) (G : CG) {x ou fr lo : Nat} (z0 : Int32) {P : Heap → Prop} (hM : Tr l yX7_drawn cX7_drawn 2 (Option.some FieldType.int) fr lo G [.ref x, .int z0] P "java/lang/IndexOutOfBoundsException") : WW l yL_drawn cL_drawn 4 (Option.some FieldType.int) [(0, 9, 12, 32)] (fr + 1) (8 + (2 + 11) + lo) 1 6 G [.ref x, .int z0, .ref ou] (fun H9 => P H9 ∧ ∃ vs, At G x (.inr (7, vs)) H9) (fun _ => False) (fun v9 H9 => v9 = some (.int 1)) := by
  refine WW.ofW (by decide) (Nat.le_of_ble_eq_true rfl) (fun p e s m below meth c ls E hG hE hP hr hk htab hl => ?_)
  have hS : va_S (fun _ => False) s.heap s.heap [] := va_S.rf
  have hx := E.1
  have hb := E.2.1
  have hl : lv_has ls 4 [(0, .ref x), (1, .int z0), (2, .ref ou)] := hl
  obtain ⟨hP1, vs, hX⟩ := hP
  refine lv_aload_n hx hb dL_drawn_0 rfl (lv_at hl 2 rfl) ?_
  refine lv_iconst (v := 0) hx hb dL_drawn_1 rfl ?_
  refine lv_aload_n hx hb dL_drawn_2 rfl (lv_at hl 0 rfl) ?_
  refine lv_iload_n hx hb dL_drawn_3 rfl (lv_at hl 1 rfl) ?_
  refine Tr.catchV (rest := [.int 0, .ref ou]) (name := "java/lang/IndexOutOfBoundsException") hM yk_X7_drawn E km_L_41 dL_drawn_4 hG hE hP1 (At.recv hG hX rfl) rfl rfl hl.1 ⟨Nat.le_refl _, Nat.le_refl _⟩ ⟨Nat.le_refl 1, Nat.le_refl 6⟩ (Nat.le_of_ble_eq_true rfl) [] (⟨0, 9, 12, 32⟩ : ExceptionTableEntry) [] htab (fun z hz => by cases hz) (by decide) (by decide) kl_L_32 (va_Nw.use rfl hG.2.2.2.2.2.2.1.2.2.1) (fun H q hz hq => ?_)
  have hS : va_S (fun _ => False) s.heap H [] := ⟨hz, fun q9 h9 _ => hq q9 h9, fun _ h9 => by cases h9⟩
  refine lv_astore_n (lv' := [(3, .ref q), (0, .ref x), (1, .int z0), (2, .ref ou)]) hx hb dL_drawn_12 rfl hl (by decide) rfl (fun ls hl => ?_)
  refine lv_iconst (v := 1) hx hb dL_drawn_13 rfl ?_
  exact wr_int E hr hk hS (show 0 + 1 ≤ 1 by omega) (show 0 + 6 ≤ 6 by omega) (rfl) dL_drawn_14

set_option maxHeartbeats 4000000 in
set_option maxRecDepth 100000 in
/-- transferred: it answers -/
theorem w_L_transferred (l : Launch) (G : CG) {x ou fr lo mc ms : Nat} (z0 : Int32) {P : Heap → Prop} {A : Nat → Prop} {Q : Int32 → Heap → Prop} {f : Nat → Int64} (hM : Wr l yX7_transferred cX7_transferred 2 (Option.some FieldType.int) fr lo mc ms G [.ref x, .int z0] P A (fun v9 H9 => ∃ r, v9 = some (.int r) ∧ Q r H9)) (hAo : ¬ A ou) (hst : ∀ r H H1, H1.size = H.size → (∀ q : Nat, q ≠ ou → H1[q]? = H[q]?) → Q r H → Q r H1) : WW l yL_transferred cL_transferred 4 (Option.some FieldType.int) [(0, 9, 12, 32)] (fr + 1) (8 + (2 + 11) + lo) mc ms G [.ref x, .int z0, .ref ou] (fun H9 => P H9 ∧ (∃ vs, At G x (.inr (7, vs)) H9) ∧ At G ou (lA G f) H9) (fun q9 => A q9 ∨ q9 = ou) (fun v9 H9 => v9 = some (.int 0) ∧ ∃ r, Q r H9 ∧ At G ou (lA G (vp_updL f 0 r.toInt64)) H9) := by
  refine WW.ofW (by decide) (Nat.le_of_ble_eq_true rfl) (fun p e s m below meth c ls E hG hE hP hr hk htab hl => ?_)
  have hS : va_S (fun q9 => A q9 ∨ q9 = ou) s.heap s.heap [] := va_S.rf
  have hx := E.1
  have hb := E.2.1
  have hl : lv_has ls 4 [(0, .ref x), (1, .int z0), (2, .ref ou)] := hl
  obtain ⟨hP1, ⟨vs, hX⟩, hO⟩ := hP
  refine lv_aload_n hx hb dL_transferred_0 rfl (lv_at hl 2 rfl) ?_
  refine lv_iconst (v := 0) hx hb dL_transferred_1 rfl ?_
  refine lv_aload_n hx hb dL_transferred_2 rfl (lv_at hl 0 rfl) ?_
  refine lv_iload_n hx hb dL_transferred_3 rfl (lv_at hl 1 rfl) ?_
  refine Wr.callV (rest := [.int 0, .ref ou]) hM yk_X7_transferred E km_L_44 dL_transferred_4 hG hE hP1 (At.recv hG hX rfl) rfl rfl hl.1 ⟨Nat.le_refl _, Nat.le_refl _⟩ ⟨show 0 + mc ≤ mc by omega, show 0 + ms ≤ ms by omega⟩ (Nat.le_of_ble_eq_true rfl) hS (fun _ h9 => Or.inl h9) (fun v9 H locs hq hz9 hfr9 hS => ?_)
  obtain ⟨r, rfl, hQ⟩ := hq
  have f_o : At G ou (lA G f) H := va_at.kept hO (hfr9 _ (va_at.lt hO) hAo)
  refine lv_i2l (v := r.toInt64) hx hb dL_transferred_7 rfl ?_
  refine g_lst 0 E hG f_o rfl (by decide) (by decide) hS (Or.inr rfl) dL_transferred_8 (fun H locs f_o hz oq hS => ?_)
  refine lv_goto (tgt := 15) hx hb dL_transferred_9 (by decide) ?_
  refine lv_iconst (v := 0) hx hb dL_transferred_15 rfl ?_
  exact wr_int E hr hk hS (show 0 + mc ≤ mc by omega) (show 0 + ms ≤ ms by omega) (⟨rfl, r, hst r _ _ hz oq hQ, f_o⟩) dL_transferred_16

set_option maxHeartbeats 4000000 in
set_option maxRecDepth 100000 in
/-- transferred: it throws -/
theorem w_L_transferred_t1 (l : Launch) (G : CG) {x ou fr lo : Nat} (z0 : Int32) {P : Heap → Prop} (hM : Tr l yX7_transferred cX7_transferred 2 (Option.some FieldType.int) fr lo G [.ref x, .int z0] P "java/lang/IndexOutOfBoundsException") : WW l yL_transferred cL_transferred 4 (Option.some FieldType.int) [(0, 9, 12, 32)] (fr + 1) (8 + (2 + 11) + lo) 1 6 G [.ref x, .int z0, .ref ou] (fun H9 => P H9 ∧ ∃ vs, At G x (.inr (7, vs)) H9) (fun _ => False) (fun v9 H9 => v9 = some (.int 1)) := by
  refine WW.ofW (by decide) (Nat.le_of_ble_eq_true rfl) (fun p e s m below meth c ls E hG hE hP hr hk htab hl => ?_)
  have hS : va_S (fun _ => False) s.heap s.heap [] := va_S.rf
  have hx := E.1
  have hb := E.2.1
  have hl : lv_has ls 4 [(0, .ref x), (1, .int z0), (2, .ref ou)] := hl
  obtain ⟨hP1, vs, hX⟩ := hP
  refine lv_aload_n hx hb dL_transferred_0 rfl (lv_at hl 2 rfl) ?_
  refine lv_iconst (v := 0) hx hb dL_transferred_1 rfl ?_
  refine lv_aload_n hx hb dL_transferred_2 rfl (lv_at hl 0 rfl) ?_
  refine lv_iload_n hx hb dL_transferred_3 rfl (lv_at hl 1 rfl) ?_
  refine Tr.catchV (rest := [.int 0, .ref ou]) (name := "java/lang/IndexOutOfBoundsException") hM yk_X7_transferred E km_L_44 dL_transferred_4 hG hE hP1 (At.recv hG hX rfl) rfl rfl hl.1 ⟨Nat.le_refl _, Nat.le_refl _⟩ ⟨Nat.le_refl 1, Nat.le_refl 6⟩ (Nat.le_of_ble_eq_true rfl) [] (⟨0, 9, 12, 32⟩ : ExceptionTableEntry) [] htab (fun z hz => by cases hz) (by decide) (by decide) kl_L_32 (va_Nw.use rfl hG.2.2.2.2.2.2.1.2.2.1) (fun H q hz hq => ?_)
  have hS : va_S (fun _ => False) s.heap H [] := ⟨hz, fun q9 h9 _ => hq q9 h9, fun _ h9 => by cases h9⟩
  refine lv_astore_n (lv' := [(3, .ref q), (0, .ref x), (1, .int z0), (2, .ref ou)]) hx hb dL_transferred_12 rfl hl (by decide) rfl (fun ls hl => ?_)
  refine lv_iconst (v := 1) hx hb dL_transferred_13 rfl ?_
  exact wr_int E hr hk hS (show 0 + 1 ≤ 1 by omega) (show 0 + 6 ≤ 6 by omega) (rfl) dL_transferred_14

set_option maxHeartbeats 4000000 in
set_option maxRecDepth 100000 in
/-- available: it answers -/
theorem w_L_available (l : Launch) (G : CG) {x ou fr lo mc ms : Nat} (z0 : Int32) {P : Heap → Prop} {A : Nat → Prop} {Q : Int32 → Heap → Prop} {f : Nat → Int64} (hM : Wr l yX7_available cX7_available 2 (Option.some FieldType.int) fr lo mc ms G [.ref x, .int z0] P A (fun v9 H9 => ∃ r, v9 = some (.int r) ∧ Q r H9)) (hAo : ¬ A ou) (hst : ∀ r H H1, H1.size = H.size → (∀ q : Nat, q ≠ ou → H1[q]? = H[q]?) → Q r H → Q r H1) : WW l yL_available cL_available 4 (Option.some FieldType.int) [(0, 9, 12, 32)] (fr + 1) (8 + (2 + 11) + lo) mc ms G [.ref x, .int z0, .ref ou] (fun H9 => P H9 ∧ (∃ vs, At G x (.inr (7, vs)) H9) ∧ At G ou (lA G f) H9) (fun q9 => A q9 ∨ q9 = ou) (fun v9 H9 => v9 = some (.int 0) ∧ ∃ r, Q r H9 ∧ At G ou (lA G (vp_updL f 0 r.toInt64)) H9) := by
  refine WW.ofW (by decide) (Nat.le_of_ble_eq_true rfl) (fun p e s m below meth c ls E hG hE hP hr hk htab hl => ?_)
  have hS : va_S (fun q9 => A q9 ∨ q9 = ou) s.heap s.heap [] := va_S.rf
  have hx := E.1
  have hb := E.2.1
  have hl : lv_has ls 4 [(0, .ref x), (1, .int z0), (2, .ref ou)] := hl
  obtain ⟨hP1, ⟨vs, hX⟩, hO⟩ := hP
  refine lv_aload_n hx hb dL_available_0 rfl (lv_at hl 2 rfl) ?_
  refine lv_iconst (v := 0) hx hb dL_available_1 rfl ?_
  refine lv_aload_n hx hb dL_available_2 rfl (lv_at hl 0 rfl) ?_
  refine lv_iload_n hx hb dL_available_3 rfl (lv_at hl 1 rfl) ?_
  refine Wr.callV (rest := [.int 0, .ref ou]) hM yk_X7_available E km_L_47 dL_available_4 hG hE hP1 (At.recv hG hX rfl) rfl rfl hl.1 ⟨Nat.le_refl _, Nat.le_refl _⟩ ⟨show 0 + mc ≤ mc by omega, show 0 + ms ≤ ms by omega⟩ (Nat.le_of_ble_eq_true rfl) hS (fun _ h9 => Or.inl h9) (fun v9 H locs hq hz9 hfr9 hS => ?_)
  obtain ⟨r, rfl, hQ⟩ := hq
  have f_o : At G ou (lA G f) H := va_at.kept hO (hfr9 _ (va_at.lt hO) hAo)
  refine lv_i2l (v := r.toInt64) hx hb dL_available_7 rfl ?_
  refine g_lst 0 E hG f_o rfl (by decide) (by decide) hS (Or.inr rfl) dL_available_8 (fun H locs f_o hz oq hS => ?_)
  refine lv_goto (tgt := 15) hx hb dL_available_9 (by decide) ?_
  refine lv_iconst (v := 0) hx hb dL_available_15 rfl ?_
  exact wr_int E hr hk hS (show 0 + mc ≤ mc by omega) (show 0 + ms ≤ ms by omega) (⟨rfl, r, hst r _ _ hz oq hQ, f_o⟩) dL_available_16

set_option maxHeartbeats 4000000 in
set_option maxRecDepth 100000 in
/-- available: it throws -/
theorem w_L_available_t1 (l : Launch) (G : CG) {x ou fr lo : Nat} (z0 : Int32) {P : Heap → Prop} (hM : Tr l yX7_available cX7_available 2 (Option.some FieldType.int) fr lo G [.ref x, .int z0] P "java/lang/IndexOutOfBoundsException") : WW l yL_available cL_available 4 (Option.some FieldType.int) [(0, 9, 12, 32)] (fr + 1) (8 + (2 + 11) + lo) 1 6 G [.ref x, .int z0, .ref ou] (fun H9 => P H9 ∧ ∃ vs, At G x (.inr (7, vs)) H9) (fun _ => False) (fun v9 H9 => v9 = some (.int 1)) := by
  refine WW.ofW (by decide) (Nat.le_of_ble_eq_true rfl) (fun p e s m below meth c ls E hG hE hP hr hk htab hl => ?_)
  have hS : va_S (fun _ => False) s.heap s.heap [] := va_S.rf
  have hx := E.1
  have hb := E.2.1
  have hl : lv_has ls 4 [(0, .ref x), (1, .int z0), (2, .ref ou)] := hl
  obtain ⟨hP1, vs, hX⟩ := hP
  refine lv_aload_n hx hb dL_available_0 rfl (lv_at hl 2 rfl) ?_
  refine lv_iconst (v := 0) hx hb dL_available_1 rfl ?_
  refine lv_aload_n hx hb dL_available_2 rfl (lv_at hl 0 rfl) ?_
  refine lv_iload_n hx hb dL_available_3 rfl (lv_at hl 1 rfl) ?_
  refine Tr.catchV (rest := [.int 0, .ref ou]) (name := "java/lang/IndexOutOfBoundsException") hM yk_X7_available E km_L_47 dL_available_4 hG hE hP1 (At.recv hG hX rfl) rfl rfl hl.1 ⟨Nat.le_refl _, Nat.le_refl _⟩ ⟨Nat.le_refl 1, Nat.le_refl 6⟩ (Nat.le_of_ble_eq_true rfl) [] (⟨0, 9, 12, 32⟩ : ExceptionTableEntry) [] htab (fun z hz => by cases hz) (by decide) (by decide) kl_L_32 (va_Nw.use rfl hG.2.2.2.2.2.2.1.2.2.1) (fun H q hz hq => ?_)
  have hS : va_S (fun _ => False) s.heap H [] := ⟨hz, fun q9 h9 _ => hq q9 h9, fun _ h9 => by cases h9⟩
  refine lv_astore_n (lv' := [(3, .ref q), (0, .ref x), (1, .int z0), (2, .ref ou)]) hx hb dL_available_12 rfl hl (by decide) rfl (fun ls hl => ?_)
  refine lv_iconst (v := 1) hx hb dL_available_13 rfl ?_
  exact wr_int E hr hk hS (show 0 + 1 ≤ 1 by omega) (show 0 + 6 ≤ 6 by omega) (rfl) dL_available_14

set_option maxHeartbeats 4000000 in
set_option maxRecDepth 100000 in
/-- creditOf: it answers -/
theorem w_L_creditOf (l : Launch) (G : CG) {x ou fr lo mc ms : Nat} (z0 : Int32) {P : Heap → Prop} {A : Nat → Prop} {Q : Int32 → Heap → Prop} {f : Nat → Int64} (hM : Wr l yX7_creditOf cX7_creditOf 2 (Option.some FieldType.int) fr lo mc ms G [.ref x, .int z0] P A (fun v9 H9 => ∃ r, v9 = some (.int r) ∧ Q r H9)) (hAo : ¬ A ou) (hst : ∀ r H H1, H1.size = H.size → (∀ q : Nat, q ≠ ou → H1[q]? = H[q]?) → Q r H → Q r H1) : WW l yL_creditOf cL_creditOf 4 (Option.some FieldType.int) [(0, 9, 12, 32)] (fr + 1) (8 + (2 + 11) + lo) mc ms G [.ref x, .int z0, .ref ou] (fun H9 => P H9 ∧ (∃ vs, At G x (.inr (7, vs)) H9) ∧ At G ou (lA G f) H9) (fun q9 => A q9 ∨ q9 = ou) (fun v9 H9 => v9 = some (.int 0) ∧ ∃ r, Q r H9 ∧ At G ou (lA G (vp_updL f 0 r.toInt64)) H9) := by
  refine WW.ofW (by decide) (Nat.le_of_ble_eq_true rfl) (fun p e s m below meth c ls E hG hE hP hr hk htab hl => ?_)
  have hS : va_S (fun q9 => A q9 ∨ q9 = ou) s.heap s.heap [] := va_S.rf
  have hx := E.1
  have hb := E.2.1
  have hl : lv_has ls 4 [(0, .ref x), (1, .int z0), (2, .ref ou)] := hl
  obtain ⟨hP1, ⟨vs, hX⟩, hO⟩ := hP
  refine lv_aload_n hx hb dL_creditOf_0 rfl (lv_at hl 2 rfl) ?_
  refine lv_iconst (v := 0) hx hb dL_creditOf_1 rfl ?_
  refine lv_aload_n hx hb dL_creditOf_2 rfl (lv_at hl 0 rfl) ?_
  refine lv_iload_n hx hb dL_creditOf_3 rfl (lv_at hl 1 rfl) ?_
  refine Wr.callV (rest := [.int 0, .ref ou]) hM yk_X7_creditOf E km_L_50 dL_creditOf_4 hG hE hP1 (At.recv hG hX rfl) rfl rfl hl.1 ⟨Nat.le_refl _, Nat.le_refl _⟩ ⟨show 0 + mc ≤ mc by omega, show 0 + ms ≤ ms by omega⟩ (Nat.le_of_ble_eq_true rfl) hS (fun _ h9 => Or.inl h9) (fun v9 H locs hq hz9 hfr9 hS => ?_)
  obtain ⟨r, rfl, hQ⟩ := hq
  have f_o : At G ou (lA G f) H := va_at.kept hO (hfr9 _ (va_at.lt hO) hAo)
  refine lv_i2l (v := r.toInt64) hx hb dL_creditOf_7 rfl ?_
  refine g_lst 0 E hG f_o rfl (by decide) (by decide) hS (Or.inr rfl) dL_creditOf_8 (fun H locs f_o hz oq hS => ?_)
  refine lv_goto (tgt := 15) hx hb dL_creditOf_9 (by decide) ?_
  refine lv_iconst (v := 0) hx hb dL_creditOf_15 rfl ?_
  exact wr_int E hr hk hS (show 0 + mc ≤ mc by omega) (show 0 + ms ≤ ms by omega) (⟨rfl, r, hst r _ _ hz oq hQ, f_o⟩) dL_creditOf_16

set_option maxHeartbeats 4000000 in
set_option maxRecDepth 100000 in
/-- creditOf: it throws -/
theorem w_L_creditOf_t1 (l : Launch) (G : CG) {x ou fr lo : Nat} (z0 : Int32) {P : Heap → Prop} (hM : Tr l yX7_creditOf cX7_creditOf 2 (Option.some FieldType.int) fr lo G [.ref x, .int z0] P "java/lang/IndexOutOfBoundsException") : WW l yL_creditOf cL_creditOf 4 (Option.some FieldType.int) [(0, 9, 12, 32)] (fr + 1) (8 + (2 + 11) + lo) 1 6 G [.ref x, .int z0, .ref ou] (fun H9 => P H9 ∧ ∃ vs, At G x (.inr (7, vs)) H9) (fun _ => False) (fun v9 H9 => v9 = some (.int 1)) := by
  refine WW.ofW (by decide) (Nat.le_of_ble_eq_true rfl) (fun p e s m below meth c ls E hG hE hP hr hk htab hl => ?_)
  have hS : va_S (fun _ => False) s.heap s.heap [] := va_S.rf
  have hx := E.1
  have hb := E.2.1
  have hl : lv_has ls 4 [(0, .ref x), (1, .int z0), (2, .ref ou)] := hl
  obtain ⟨hP1, vs, hX⟩ := hP
  refine lv_aload_n hx hb dL_creditOf_0 rfl (lv_at hl 2 rfl) ?_
  refine lv_iconst (v := 0) hx hb dL_creditOf_1 rfl ?_
  refine lv_aload_n hx hb dL_creditOf_2 rfl (lv_at hl 0 rfl) ?_
  refine lv_iload_n hx hb dL_creditOf_3 rfl (lv_at hl 1 rfl) ?_
  refine Tr.catchV (rest := [.int 0, .ref ou]) (name := "java/lang/IndexOutOfBoundsException") hM yk_X7_creditOf E km_L_50 dL_creditOf_4 hG hE hP1 (At.recv hG hX rfl) rfl rfl hl.1 ⟨Nat.le_refl _, Nat.le_refl _⟩ ⟨Nat.le_refl 1, Nat.le_refl 6⟩ (Nat.le_of_ble_eq_true rfl) [] (⟨0, 9, 12, 32⟩ : ExceptionTableEntry) [] htab (fun z hz => by cases hz) (by decide) (by decide) kl_L_32 (va_Nw.use rfl hG.2.2.2.2.2.2.1.2.2.1) (fun H q hz hq => ?_)
  have hS : va_S (fun _ => False) s.heap H [] := ⟨hz, fun q9 h9 _ => hq q9 h9, fun _ h9 => by cases h9⟩
  refine lv_astore_n (lv' := [(3, .ref q), (0, .ref x), (1, .int z0), (2, .ref ou)]) hx hb dL_creditOf_12 rfl hl (by decide) rfl (fun ls hl => ?_)
  refine lv_iconst (v := 1) hx hb dL_creditOf_13 rfl ?_
  exact wr_int E hr hk hS (show 0 + 1 ≤ 1 by omega) (show 0 + 6 ≤ 6 by omega) (rfl) dL_creditOf_14

set_option maxHeartbeats 4000000 in
set_option maxRecDepth 100000 in
/-- state: it answers -/
theorem w_L_state (l : Launch) (G : CG) {x ou fr lo mc ms : Nat} (z0 : Int32) {P : Heap → Prop} {A : Nat → Prop} {Q : Int32 → Heap → Prop} {f : Nat → Int64} (hM : Wr l yX7_state cX7_state 2 (Option.some FieldType.int) fr lo mc ms G [.ref x, .int z0] P A (fun v9 H9 => ∃ r, v9 = some (.int r) ∧ Q r H9)) (hAo : ¬ A ou) (hst : ∀ r H H1, H1.size = H.size → (∀ q : Nat, q ≠ ou → H1[q]? = H[q]?) → Q r H → Q r H1) : WW l yL_state cL_state 4 (Option.some FieldType.int) [(0, 9, 12, 32)] (fr + 1) (8 + (2 + 11) + lo) mc ms G [.ref x, .int z0, .ref ou] (fun H9 => P H9 ∧ (∃ vs, At G x (.inr (7, vs)) H9) ∧ At G ou (lA G f) H9) (fun q9 => A q9 ∨ q9 = ou) (fun v9 H9 => v9 = some (.int 0) ∧ ∃ r, Q r H9 ∧ At G ou (lA G (vp_updL f 0 r.toInt64)) H9) := by
  refine WW.ofW (by decide) (Nat.le_of_ble_eq_true rfl) (fun p e s m below meth c ls E hG hE hP hr hk htab hl => ?_)
  have hS : va_S (fun q9 => A q9 ∨ q9 = ou) s.heap s.heap [] := va_S.rf
  have hx := E.1
  have hb := E.2.1
  have hl : lv_has ls 4 [(0, .ref x), (1, .int z0), (2, .ref ou)] := hl
  obtain ⟨hP1, ⟨vs, hX⟩, hO⟩ := hP
  refine lv_aload_n hx hb dL_state_0 rfl (lv_at hl 2 rfl) ?_
  refine lv_iconst (v := 0) hx hb dL_state_1 rfl ?_
  refine lv_aload_n hx hb dL_state_2 rfl (lv_at hl 0 rfl) ?_
  refine lv_iload_n hx hb dL_state_3 rfl (lv_at hl 1 rfl) ?_
  refine Wr.callV (rest := [.int 0, .ref ou]) hM yk_X7_state E km_L_53 dL_state_4 hG hE hP1 (At.recv hG hX rfl) rfl rfl hl.1 ⟨Nat.le_refl _, Nat.le_refl _⟩ ⟨show 0 + mc ≤ mc by omega, show 0 + ms ≤ ms by omega⟩ (Nat.le_of_ble_eq_true rfl) hS (fun _ h9 => Or.inl h9) (fun v9 H locs hq hz9 hfr9 hS => ?_)
  obtain ⟨r, rfl, hQ⟩ := hq
  have f_o : At G ou (lA G f) H := va_at.kept hO (hfr9 _ (va_at.lt hO) hAo)
  refine lv_i2l (v := r.toInt64) hx hb dL_state_7 rfl ?_
  refine g_lst 0 E hG f_o rfl (by decide) (by decide) hS (Or.inr rfl) dL_state_8 (fun H locs f_o hz oq hS => ?_)
  refine lv_goto (tgt := 15) hx hb dL_state_9 (by decide) ?_
  refine lv_iconst (v := 0) hx hb dL_state_15 rfl ?_
  exact wr_int E hr hk hS (show 0 + mc ≤ mc by omega) (show 0 + ms ≤ ms by omega) (⟨rfl, r, hst r _ _ hz oq hQ, f_o⟩) dL_state_16

set_option maxHeartbeats 4000000 in
set_option maxRecDepth 100000 in
/-- state: it throws -/
theorem w_L_state_t1 (l : Launch) (G : CG) {x ou fr lo : Nat} (z0 : Int32) {P : Heap → Prop} (hM : Tr l yX7_state cX7_state 2 (Option.some FieldType.int) fr lo G [.ref x, .int z0] P "java/lang/IndexOutOfBoundsException") : WW l yL_state cL_state 4 (Option.some FieldType.int) [(0, 9, 12, 32)] (fr + 1) (8 + (2 + 11) + lo) 1 6 G [.ref x, .int z0, .ref ou] (fun H9 => P H9 ∧ ∃ vs, At G x (.inr (7, vs)) H9) (fun _ => False) (fun v9 H9 => v9 = some (.int 1)) := by
  refine WW.ofW (by decide) (Nat.le_of_ble_eq_true rfl) (fun p e s m below meth c ls E hG hE hP hr hk htab hl => ?_)
  have hS : va_S (fun _ => False) s.heap s.heap [] := va_S.rf
  have hx := E.1
  have hb := E.2.1
  have hl : lv_has ls 4 [(0, .ref x), (1, .int z0), (2, .ref ou)] := hl
  obtain ⟨hP1, vs, hX⟩ := hP
  refine lv_aload_n hx hb dL_state_0 rfl (lv_at hl 2 rfl) ?_
  refine lv_iconst (v := 0) hx hb dL_state_1 rfl ?_
  refine lv_aload_n hx hb dL_state_2 rfl (lv_at hl 0 rfl) ?_
  refine lv_iload_n hx hb dL_state_3 rfl (lv_at hl 1 rfl) ?_
  refine Tr.catchV (rest := [.int 0, .ref ou]) (name := "java/lang/IndexOutOfBoundsException") hM yk_X7_state E km_L_53 dL_state_4 hG hE hP1 (At.recv hG hX rfl) rfl rfl hl.1 ⟨Nat.le_refl _, Nat.le_refl _⟩ ⟨Nat.le_refl 1, Nat.le_refl 6⟩ (Nat.le_of_ble_eq_true rfl) [] (⟨0, 9, 12, 32⟩ : ExceptionTableEntry) [] htab (fun z hz => by cases hz) (by decide) (by decide) kl_L_32 (va_Nw.use rfl hG.2.2.2.2.2.2.1.2.2.1) (fun H q hz hq => ?_)
  have hS : va_S (fun _ => False) s.heap H [] := ⟨hz, fun q9 h9 _ => hq q9 h9, fun _ h9 => by cases h9⟩
  refine lv_astore_n (lv' := [(3, .ref q), (0, .ref x), (1, .int z0), (2, .ref ou)]) hx hb dL_state_12 rfl hl (by decide) rfl (fun ls hl => ?_)
  refine lv_iconst (v := 1) hx hb dL_state_13 rfl ?_
  exact wr_int E hr hk hS (show 0 + 1 ≤ 1 by omega) (show 0 + 6 ≤ 6 by omega) (rfl) dL_state_14

set_option maxHeartbeats 4000000 in
set_option maxRecDepth 100000 in
/-- discrepancies: it answers -/
theorem w_L_discrepancies (l : Launch) (G : CG) {x ou fr lo mc ms : Nat} (z0 : Int32) {P : Heap → Prop} {A : Nat → Prop} {Q : Int32 → Heap → Prop} {f : Nat → Int64} (hM : Wr l yX7_discrepancies cX7_discrepancies 2 (Option.some FieldType.int) fr lo mc ms G [.ref x, .int z0] P A (fun v9 H9 => ∃ r, v9 = some (.int r) ∧ Q r H9)) (hAo : ¬ A ou) (hst : ∀ r H H1, H1.size = H.size → (∀ q : Nat, q ≠ ou → H1[q]? = H[q]?) → Q r H → Q r H1) : WW l yL_discrepancies cL_discrepancies 4 (Option.some FieldType.int) [(0, 9, 12, 32)] (fr + 1) (8 + (2 + 11) + lo) mc ms G [.ref x, .int z0, .ref ou] (fun H9 => P H9 ∧ (∃ vs, At G x (.inr (7, vs)) H9) ∧ At G ou (lA G f) H9) (fun q9 => A q9 ∨ q9 = ou) (fun v9 H9 => v9 = some (.int 0) ∧ ∃ r, Q r H9 ∧ At G ou (lA G (vp_updL f 0 r.toInt64)) H9) := by
  refine WW.ofW (by decide) (Nat.le_of_ble_eq_true rfl) (fun p e s m below meth c ls E hG hE hP hr hk htab hl => ?_)
  have hS : va_S (fun q9 => A q9 ∨ q9 = ou) s.heap s.heap [] := va_S.rf
  have hx := E.1
  have hb := E.2.1
  have hl : lv_has ls 4 [(0, .ref x), (1, .int z0), (2, .ref ou)] := hl
  obtain ⟨hP1, ⟨vs, hX⟩, hO⟩ := hP
  refine lv_aload_n hx hb dL_discrepancies_0 rfl (lv_at hl 2 rfl) ?_
  refine lv_iconst (v := 0) hx hb dL_discrepancies_1 rfl ?_
  refine lv_aload_n hx hb dL_discrepancies_2 rfl (lv_at hl 0 rfl) ?_
  refine lv_iload_n hx hb dL_discrepancies_3 rfl (lv_at hl 1 rfl) ?_
  refine Wr.callV (rest := [.int 0, .ref ou]) hM yk_X7_discrepancies E km_L_56 dL_discrepancies_4 hG hE hP1 (At.recv hG hX rfl) rfl rfl hl.1 ⟨Nat.le_refl _, Nat.le_refl _⟩ ⟨show 0 + mc ≤ mc by omega, show 0 + ms ≤ ms by omega⟩ (Nat.le_of_ble_eq_true rfl) hS (fun _ h9 => Or.inl h9) (fun v9 H locs hq hz9 hfr9 hS => ?_)
  obtain ⟨r, rfl, hQ⟩ := hq
  have f_o : At G ou (lA G f) H := va_at.kept hO (hfr9 _ (va_at.lt hO) hAo)
  refine lv_i2l (v := r.toInt64) hx hb dL_discrepancies_7 rfl ?_
  refine g_lst 0 E hG f_o rfl (by decide) (by decide) hS (Or.inr rfl) dL_discrepancies_8 (fun H locs f_o hz oq hS => ?_)
  refine lv_goto (tgt := 15) hx hb dL_discrepancies_9 (by decide) ?_
  refine lv_iconst (v := 0) hx hb dL_discrepancies_15 rfl ?_
  exact wr_int E hr hk hS (show 0 + mc ≤ mc by omega) (show 0 + ms ≤ ms by omega) (⟨rfl, r, hst r _ _ hz oq hQ, f_o⟩) dL_discrepancies_16

set_option maxHeartbeats 4000000 in
set_option maxRecDepth 100000 in
/-- discrepancies: it throws -/
theorem w_L_discrepancies_t1 (l : Launch) (G : CG) {x ou fr lo : Nat} (z0 : Int32) {P : Heap → Prop} (hM : Tr l yX7_discrepancies cX7_discrepancies 2 (Option.some FieldType.int) fr lo G [.ref x, .int z0] P "java/lang/IndexOutOfBoundsException") : WW l yL_discrepancies cL_discrepancies 4 (Option.some FieldType.int) [(0, 9, 12, 32)] (fr + 1) (8 + (2 + 11) + lo) 1 6 G [.ref x, .int z0, .ref ou] (fun H9 => P H9 ∧ ∃ vs, At G x (.inr (7, vs)) H9) (fun _ => False) (fun v9 H9 => v9 = some (.int 1)) := by
  refine WW.ofW (by decide) (Nat.le_of_ble_eq_true rfl) (fun p e s m below meth c ls E hG hE hP hr hk htab hl => ?_)
  have hS : va_S (fun _ => False) s.heap s.heap [] := va_S.rf
  have hx := E.1
  have hb := E.2.1
  have hl : lv_has ls 4 [(0, .ref x), (1, .int z0), (2, .ref ou)] := hl
  obtain ⟨hP1, vs, hX⟩ := hP
  refine lv_aload_n hx hb dL_discrepancies_0 rfl (lv_at hl 2 rfl) ?_
  refine lv_iconst (v := 0) hx hb dL_discrepancies_1 rfl ?_
  refine lv_aload_n hx hb dL_discrepancies_2 rfl (lv_at hl 0 rfl) ?_
  refine lv_iload_n hx hb dL_discrepancies_3 rfl (lv_at hl 1 rfl) ?_
  refine Tr.catchV (rest := [.int 0, .ref ou]) (name := "java/lang/IndexOutOfBoundsException") hM yk_X7_discrepancies E km_L_56 dL_discrepancies_4 hG hE hP1 (At.recv hG hX rfl) rfl rfl hl.1 ⟨Nat.le_refl _, Nat.le_refl _⟩ ⟨Nat.le_refl 1, Nat.le_refl 6⟩ (Nat.le_of_ble_eq_true rfl) [] (⟨0, 9, 12, 32⟩ : ExceptionTableEntry) [] htab (fun z hz => by cases hz) (by decide) (by decide) kl_L_32 (va_Nw.use rfl hG.2.2.2.2.2.2.1.2.2.1) (fun H q hz hq => ?_)
  have hS : va_S (fun _ => False) s.heap H [] := ⟨hz, fun q9 h9 _ => hq q9 h9, fun _ h9 => by cases h9⟩
  refine lv_astore_n (lv' := [(3, .ref q), (0, .ref x), (1, .int z0), (2, .ref ou)]) hx hb dL_discrepancies_12 rfl hl (by decide) rfl (fun ls hl => ?_)
  refine lv_iconst (v := 1) hx hb dL_discrepancies_13 rfl ?_
  exact wr_int E hr hk hS (show 0 + 1 ≤ 1 by omega) (show 0 + 6 ≤ 6 by omega) (rfl) dL_discrepancies_14

set_option maxHeartbeats 4000000 in
set_option maxRecDepth 100000 in
/-- deadline: it answers -/
theorem w_L_deadline (l : Launch) (G : CG) {x ou fr lo mc ms : Nat} (z0 : Int32) {P : Heap → Prop} {A : Nat → Prop} {Q : Int32 → Heap → Prop} {f : Nat → Int64} (hM : Wr l yX7_deadline cX7_deadline 2 (Option.some FieldType.int) fr lo mc ms G [.ref x, .int z0] P A (fun v9 H9 => ∃ r, v9 = some (.int r) ∧ Q r H9)) (hAo : ¬ A ou) (hst : ∀ r H H1, H1.size = H.size → (∀ q : Nat, q ≠ ou → H1[q]? = H[q]?) → Q r H → Q r H1) : WW l yL_deadline cL_deadline 4 (Option.some FieldType.int) [(0, 9, 12, 32)] (fr + 1) (8 + (2 + 11) + lo) mc ms G [.ref x, .int z0, .ref ou] (fun H9 => P H9 ∧ (∃ vs, At G x (.inr (7, vs)) H9) ∧ At G ou (lA G f) H9) (fun q9 => A q9 ∨ q9 = ou) (fun v9 H9 => v9 = some (.int 0) ∧ ∃ r, Q r H9 ∧ At G ou (lA G (vp_updL f 0 r.toInt64)) H9) := by
  refine WW.ofW (by decide) (Nat.le_of_ble_eq_true rfl) (fun p e s m below meth c ls E hG hE hP hr hk htab hl => ?_)
  have hS : va_S (fun q9 => A q9 ∨ q9 = ou) s.heap s.heap [] := va_S.rf
  have hx := E.1
  have hb := E.2.1
  have hl : lv_has ls 4 [(0, .ref x), (1, .int z0), (2, .ref ou)] := hl
  obtain ⟨hP1, ⟨vs, hX⟩, hO⟩ := hP
  refine lv_aload_n hx hb dL_deadline_0 rfl (lv_at hl 2 rfl) ?_
  refine lv_iconst (v := 0) hx hb dL_deadline_1 rfl ?_
  refine lv_aload_n hx hb dL_deadline_2 rfl (lv_at hl 0 rfl) ?_
  refine lv_iload_n hx hb dL_deadline_3 rfl (lv_at hl 1 rfl) ?_
  refine Wr.callV (rest := [.int 0, .ref ou]) hM yk_X7_deadline E km_L_59 dL_deadline_4 hG hE hP1 (At.recv hG hX rfl) rfl rfl hl.1 ⟨Nat.le_refl _, Nat.le_refl _⟩ ⟨show 0 + mc ≤ mc by omega, show 0 + ms ≤ ms by omega⟩ (Nat.le_of_ble_eq_true rfl) hS (fun _ h9 => Or.inl h9) (fun v9 H locs hq hz9 hfr9 hS => ?_)
  obtain ⟨r, rfl, hQ⟩ := hq
  have f_o : At G ou (lA G f) H := va_at.kept hO (hfr9 _ (va_at.lt hO) hAo)
  refine lv_i2l (v := r.toInt64) hx hb dL_deadline_7 rfl ?_
  refine g_lst 0 E hG f_o rfl (by decide) (by decide) hS (Or.inr rfl) dL_deadline_8 (fun H locs f_o hz oq hS => ?_)
  refine lv_goto (tgt := 15) hx hb dL_deadline_9 (by decide) ?_
  refine lv_iconst (v := 0) hx hb dL_deadline_15 rfl ?_
  exact wr_int E hr hk hS (show 0 + mc ≤ mc by omega) (show 0 + ms ≤ ms by omega) (⟨rfl, r, hst r _ _ hz oq hQ, f_o⟩) dL_deadline_16

set_option maxHeartbeats 4000000 in
set_option maxRecDepth 100000 in
/-- deadline: it throws -/
theorem w_L_deadline_t1 (l : Launch) (G : CG) {x ou fr lo : Nat} (z0 : Int32) {P : Heap → Prop} (hM : Tr l yX7_deadline cX7_deadline 2 (Option.some FieldType.int) fr lo G [.ref x, .int z0] P "java/lang/IndexOutOfBoundsException") : WW l yL_deadline cL_deadline 4 (Option.some FieldType.int) [(0, 9, 12, 32)] (fr + 1) (8 + (2 + 11) + lo) 1 6 G [.ref x, .int z0, .ref ou] (fun H9 => P H9 ∧ ∃ vs, At G x (.inr (7, vs)) H9) (fun _ => False) (fun v9 H9 => v9 = some (.int 1)) := by
  refine WW.ofW (by decide) (Nat.le_of_ble_eq_true rfl) (fun p e s m below meth c ls E hG hE hP hr hk htab hl => ?_)
  have hS : va_S (fun _ => False) s.heap s.heap [] := va_S.rf
  have hx := E.1
  have hb := E.2.1
  have hl : lv_has ls 4 [(0, .ref x), (1, .int z0), (2, .ref ou)] := hl
  obtain ⟨hP1, vs, hX⟩ := hP
  refine lv_aload_n hx hb dL_deadline_0 rfl (lv_at hl 2 rfl) ?_
  refine lv_iconst (v := 0) hx hb dL_deadline_1 rfl ?_
  refine lv_aload_n hx hb dL_deadline_2 rfl (lv_at hl 0 rfl) ?_
  refine lv_iload_n hx hb dL_deadline_3 rfl (lv_at hl 1 rfl) ?_
  refine Tr.catchV (rest := [.int 0, .ref ou]) (name := "java/lang/IndexOutOfBoundsException") hM yk_X7_deadline E km_L_59 dL_deadline_4 hG hE hP1 (At.recv hG hX rfl) rfl rfl hl.1 ⟨Nat.le_refl _, Nat.le_refl _⟩ ⟨Nat.le_refl 1, Nat.le_refl 6⟩ (Nat.le_of_ble_eq_true rfl) [] (⟨0, 9, 12, 32⟩ : ExceptionTableEntry) [] htab (fun z hz => by cases hz) (by decide) (by decide) kl_L_32 (va_Nw.use rfl hG.2.2.2.2.2.2.1.2.2.1) (fun H q hz hq => ?_)
  have hS : va_S (fun _ => False) s.heap H [] := ⟨hz, fun q9 h9 _ => hq q9 h9, fun _ h9 => by cases h9⟩
  refine lv_astore_n (lv' := [(3, .ref q), (0, .ref x), (1, .int z0), (2, .ref ou)]) hx hb dL_deadline_12 rfl hl (by decide) rfl (fun ls hl => ?_)
  refine lv_iconst (v := 1) hx hb dL_deadline_13 rfl ?_
  exact wr_int E hr hk hS (show 0 + 1 ≤ 1 by omega) (show 0 + 6 ≤ 6 by omega) (rfl) dL_deadline_14

set_option maxHeartbeats 4000000 in
set_option maxRecDepth 100000 in
/-- dueDay: it answers -/
theorem w_L_dueDay (l : Launch) (G : CG) {x ou fr lo mc ms : Nat} (z0 : Int32) {P : Heap → Prop} {A : Nat → Prop} {Q : Int32 → Heap → Prop} {f : Nat → Int64} (hM : Wr l yX7_dueDay cX7_dueDay 2 (Option.some FieldType.int) fr lo mc ms G [.ref x, .int z0] P A (fun v9 H9 => ∃ r, v9 = some (.int r) ∧ Q r H9)) (hAo : ¬ A ou) (hst : ∀ r H H1, H1.size = H.size → (∀ q : Nat, q ≠ ou → H1[q]? = H[q]?) → Q r H → Q r H1) : WW l yL_dueDay cL_dueDay 4 (Option.some FieldType.int) [(0, 9, 12, 32)] (fr + 1) (8 + (2 + 11) + lo) mc ms G [.ref x, .int z0, .ref ou] (fun H9 => P H9 ∧ (∃ vs, At G x (.inr (7, vs)) H9) ∧ At G ou (lA G f) H9) (fun q9 => A q9 ∨ q9 = ou) (fun v9 H9 => v9 = some (.int 0) ∧ ∃ r, Q r H9 ∧ At G ou (lA G (vp_updL f 0 r.toInt64)) H9) := by
  refine WW.ofW (by decide) (Nat.le_of_ble_eq_true rfl) (fun p e s m below meth c ls E hG hE hP hr hk htab hl => ?_)
  have hS : va_S (fun q9 => A q9 ∨ q9 = ou) s.heap s.heap [] := va_S.rf
  have hx := E.1
  have hb := E.2.1
  have hl : lv_has ls 4 [(0, .ref x), (1, .int z0), (2, .ref ou)] := hl
  obtain ⟨hP1, ⟨vs, hX⟩, hO⟩ := hP
  refine lv_aload_n hx hb dL_dueDay_0 rfl (lv_at hl 2 rfl) ?_
  refine lv_iconst (v := 0) hx hb dL_dueDay_1 rfl ?_
  refine lv_aload_n hx hb dL_dueDay_2 rfl (lv_at hl 0 rfl) ?_
  refine lv_iload_n hx hb dL_dueDay_3 rfl (lv_at hl 1 rfl) ?_
  refine Wr.callV (rest := [.int 0, .ref ou]) hM yk_X7_dueDay E km_L_62 dL_dueDay_4 hG hE hP1 (At.recv hG hX rfl) rfl rfl hl.1 ⟨Nat.le_refl _, Nat.le_refl _⟩ ⟨show 0 + mc ≤ mc by omega, show 0 + ms ≤ ms by omega⟩ (Nat.le_of_ble_eq_true rfl) hS (fun _ h9 => Or.inl h9) (fun v9 H locs hq hz9 hfr9 hS => ?_)
  obtain ⟨r, rfl, hQ⟩ := hq
  have f_o : At G ou (lA G f) H := va_at.kept hO (hfr9 _ (va_at.lt hO) hAo)
  refine lv_i2l (v := r.toInt64) hx hb dL_dueDay_7 rfl ?_
  refine g_lst 0 E hG f_o rfl (by decide) (by decide) hS (Or.inr rfl) dL_dueDay_8 (fun H locs f_o hz oq hS => ?_)
  refine lv_goto (tgt := 15) hx hb dL_dueDay_9 (by decide) ?_
  refine lv_iconst (v := 0) hx hb dL_dueDay_15 rfl ?_
  exact wr_int E hr hk hS (show 0 + mc ≤ mc by omega) (show 0 + ms ≤ ms by omega) (⟨rfl, r, hst r _ _ hz oq hQ, f_o⟩) dL_dueDay_16

set_option maxHeartbeats 4000000 in
set_option maxRecDepth 100000 in
/-- dueDay: it throws -/
theorem w_L_dueDay_t1 (l : Launch) (G : CG) {x ou fr lo : Nat} (z0 : Int32) {P : Heap → Prop} (hM : Tr l yX7_dueDay cX7_dueDay 2 (Option.some FieldType.int) fr lo G [.ref x, .int z0] P "java/lang/IndexOutOfBoundsException") : WW l yL_dueDay cL_dueDay 4 (Option.some FieldType.int) [(0, 9, 12, 32)] (fr + 1) (8 + (2 + 11) + lo) 1 6 G [.ref x, .int z0, .ref ou] (fun H9 => P H9 ∧ ∃ vs, At G x (.inr (7, vs)) H9) (fun _ => False) (fun v9 H9 => v9 = some (.int 1)) := by
  refine WW.ofW (by decide) (Nat.le_of_ble_eq_true rfl) (fun p e s m below meth c ls E hG hE hP hr hk htab hl => ?_)
  have hS : va_S (fun _ => False) s.heap s.heap [] := va_S.rf
  have hx := E.1
  have hb := E.2.1
  have hl : lv_has ls 4 [(0, .ref x), (1, .int z0), (2, .ref ou)] := hl
  obtain ⟨hP1, vs, hX⟩ := hP
  refine lv_aload_n hx hb dL_dueDay_0 rfl (lv_at hl 2 rfl) ?_
  refine lv_iconst (v := 0) hx hb dL_dueDay_1 rfl ?_
  refine lv_aload_n hx hb dL_dueDay_2 rfl (lv_at hl 0 rfl) ?_
  refine lv_iload_n hx hb dL_dueDay_3 rfl (lv_at hl 1 rfl) ?_
  refine Tr.catchV (rest := [.int 0, .ref ou]) (name := "java/lang/IndexOutOfBoundsException") hM yk_X7_dueDay E km_L_62 dL_dueDay_4 hG hE hP1 (At.recv hG hX rfl) rfl rfl hl.1 ⟨Nat.le_refl _, Nat.le_refl _⟩ ⟨Nat.le_refl 1, Nat.le_refl 6⟩ (Nat.le_of_ble_eq_true rfl) [] (⟨0, 9, 12, 32⟩ : ExceptionTableEntry) [] htab (fun z hz => by cases hz) (by decide) (by decide) kl_L_32 (va_Nw.use rfl hG.2.2.2.2.2.2.1.2.2.1) (fun H q hz hq => ?_)
  have hS : va_S (fun _ => False) s.heap H [] := ⟨hz, fun q9 h9 _ => hq q9 h9, fun _ h9 => by cases h9⟩
  refine lv_astore_n (lv' := [(3, .ref q), (0, .ref x), (1, .int z0), (2, .ref ou)]) hx hb dL_dueDay_12 rfl hl (by decide) rfl (fun ls hl => ?_)
  refine lv_iconst (v := 1) hx hb dL_dueDay_13 rfl ?_
  exact wr_int E hr hk hS (show 0 + 1 ≤ 1 by omega) (show 0 + 6 ≤ 6 by omega) (rfl) dL_dueDay_14

set_option maxHeartbeats 4000000 in
set_option maxRecDepth 100000 in
/-- fee: it answers -/
theorem w_L_fee (l : Launch) (G : CG) {x ou fr lo mc ms : Nat} (z0 : Int32) {P : Heap → Prop} {A : Nat → Prop} {Q : Int32 → Heap → Prop} {f : Nat → Int64} (hM : Wr l yX7_fee cX7_fee 3 (Option.some FieldType.int) fr lo mc ms G [.ref x, .int z0] P A (fun v9 H9 => ∃ r, v9 = some (.int r) ∧ Q r H9)) (hAo : ¬ A ou) (hst : ∀ r H H1, H1.size = H.size → (∀ q : Nat, q ≠ ou → H1[q]? = H[q]?) → Q r H → Q r H1) : WW l yL_fee cL_fee 4 (Option.some FieldType.int) [(0, 9, 12, 32)] (fr + 1) (8 + (3 + 11) + lo) mc ms G [.ref x, .int z0, .ref ou] (fun H9 => P H9 ∧ (∃ vs, At G x (.inr (7, vs)) H9) ∧ At G ou (lA G f) H9) (fun q9 => A q9 ∨ q9 = ou) (fun v9 H9 => v9 = some (.int 0) ∧ ∃ r, Q r H9 ∧ At G ou (lA G (vp_updL f 0 r.toInt64)) H9) := by
  refine WW.ofW (by decide) (Nat.le_of_ble_eq_true rfl) (fun p e s m below meth c ls E hG hE hP hr hk htab hl => ?_)
  have hS : va_S (fun q9 => A q9 ∨ q9 = ou) s.heap s.heap [] := va_S.rf
  have hx := E.1
  have hb := E.2.1
  have hl : lv_has ls 4 [(0, .ref x), (1, .int z0), (2, .ref ou)] := hl
  obtain ⟨hP1, ⟨vs, hX⟩, hO⟩ := hP
  refine lv_aload_n hx hb dL_fee_0 rfl (lv_at hl 2 rfl) ?_
  refine lv_iconst (v := 0) hx hb dL_fee_1 rfl ?_
  refine lv_aload_n hx hb dL_fee_2 rfl (lv_at hl 0 rfl) ?_
  refine lv_iload_n hx hb dL_fee_3 rfl (lv_at hl 1 rfl) ?_
  refine Wr.callV (rest := [.int 0, .ref ou]) hM yk_X7_fee E km_L_65 dL_fee_4 hG hE hP1 (At.recv hG hX rfl) rfl rfl hl.1 ⟨Nat.le_refl _, Nat.le_refl _⟩ ⟨show 0 + mc ≤ mc by omega, show 0 + ms ≤ ms by omega⟩ (Nat.le_of_ble_eq_true rfl) hS (fun _ h9 => Or.inl h9) (fun v9 H locs hq hz9 hfr9 hS => ?_)
  obtain ⟨r, rfl, hQ⟩ := hq
  have f_o : At G ou (lA G f) H := va_at.kept hO (hfr9 _ (va_at.lt hO) hAo)
  refine lv_i2l (v := r.toInt64) hx hb dL_fee_7 rfl ?_
  refine g_lst 0 E hG f_o rfl (by decide) (by decide) hS (Or.inr rfl) dL_fee_8 (fun H locs f_o hz oq hS => ?_)
  refine lv_goto (tgt := 15) hx hb dL_fee_9 (by decide) ?_
  refine lv_iconst (v := 0) hx hb dL_fee_15 rfl ?_
  exact wr_int E hr hk hS (show 0 + mc ≤ mc by omega) (show 0 + ms ≤ ms by omega) (⟨rfl, r, hst r _ _ hz oq hQ, f_o⟩) dL_fee_16

set_option maxHeartbeats 4000000 in
set_option maxRecDepth 100000 in
/-- fee: it throws -/
theorem w_L_fee_t1 (l : Launch) (G : CG) {x ou fr lo : Nat} (z0 : Int32) {P : Heap → Prop} (hM : Tr l yX7_fee cX7_fee 3 (Option.some FieldType.int) fr lo G [.ref x, .int z0] P "java/lang/IndexOutOfBoundsException") : WW l yL_fee cL_fee 4 (Option.some FieldType.int) [(0, 9, 12, 32)] (fr + 1) (8 + (3 + 11) + lo) 1 6 G [.ref x, .int z0, .ref ou] (fun H9 => P H9 ∧ ∃ vs, At G x (.inr (7, vs)) H9) (fun _ => False) (fun v9 H9 => v9 = some (.int 1)) := by
  refine WW.ofW (by decide) (Nat.le_of_ble_eq_true rfl) (fun p e s m below meth c ls E hG hE hP hr hk htab hl => ?_)
  have hS : va_S (fun _ => False) s.heap s.heap [] := va_S.rf
  have hx := E.1
  have hb := E.2.1
  have hl : lv_has ls 4 [(0, .ref x), (1, .int z0), (2, .ref ou)] := hl
  obtain ⟨hP1, vs, hX⟩ := hP
  refine lv_aload_n hx hb dL_fee_0 rfl (lv_at hl 2 rfl) ?_
  refine lv_iconst (v := 0) hx hb dL_fee_1 rfl ?_
  refine lv_aload_n hx hb dL_fee_2 rfl (lv_at hl 0 rfl) ?_
  refine lv_iload_n hx hb dL_fee_3 rfl (lv_at hl 1 rfl) ?_
  refine Tr.catchV (rest := [.int 0, .ref ou]) (name := "java/lang/IndexOutOfBoundsException") hM yk_X7_fee E km_L_65 dL_fee_4 hG hE hP1 (At.recv hG hX rfl) rfl rfl hl.1 ⟨Nat.le_refl _, Nat.le_refl _⟩ ⟨Nat.le_refl 1, Nat.le_refl 6⟩ (Nat.le_of_ble_eq_true rfl) [] (⟨0, 9, 12, 32⟩ : ExceptionTableEntry) [] htab (fun z hz => by cases hz) (by decide) (by decide) kl_L_32 (va_Nw.use rfl hG.2.2.2.2.2.2.1.2.2.1) (fun H q hz hq => ?_)
  have hS : va_S (fun _ => False) s.heap H [] := ⟨hz, fun q9 h9 _ => hq q9 h9, fun _ h9 => by cases h9⟩
  refine lv_astore_n (lv' := [(3, .ref q), (0, .ref x), (1, .int z0), (2, .ref ou)]) hx hb dL_fee_12 rfl hl (by decide) rfl (fun ls hl => ?_)
  refine lv_iconst (v := 1) hx hb dL_fee_13 rfl ?_
  exact wr_int E hr hk hS (show 0 + 1 ≤ 1 by omega) (show 0 + 6 ≤ 6 by omega) (rfl) dL_fee_14

set_option maxHeartbeats 4000000 in
set_option maxRecDepth 100000 in
/-- check: it answers -/
theorem w_L_check (l : Launch) (G : CG) {x ou fr lo mc ms : Nat} (z0 : Int32) (z1 : Int32) (z2 : Int32) (z3 : Int32) (z4 : Int32) {P : Heap → Prop} {A : Nat → Prop} {Q : Int32 → Heap → Prop} {f : Nat → Int64} (hM : Wr l yX7_check cX7_check 7 (Option.some FieldType.int) fr lo mc ms G [.ref x, .int z0, .int z1, .int z2, .int z3, .int z4] P A (fun v9 H9 => ∃ r, v9 = some (.int r) ∧ Q r H9)) (hAo : ¬ A ou) (hst : ∀ r H H1, H1.size = H.size → (∀ q : Nat, q ≠ ou → H1[q]? = H[q]?) → Q r H → Q r H1) : WW l yL_check cL_check 8 (Option.some FieldType.int) [(0, 16, 19, 32), (0, 16, 23, 13)] (fr + 1) (8 + (7 + 11) + lo) mc ms G [.ref x, .int z0, .int z1, .int z2, .int z3, .int z4, .ref ou] (fun H9 => P H9 ∧ (∃ vs, At G x (.inr (7, vs)) H9) ∧ At G ou (lA G f) H9) (fun q9 => A q9 ∨ q9 = ou) (fun v9 H9 => v9 = some (.int 0) ∧ ∃ r, Q r H9 ∧ At G ou (lA G (vp_updL f 0 r.toInt64)) H9) := by
  refine WW.ofW (by decide) (Nat.le_of_ble_eq_true rfl) (fun p e s m below meth c ls E hG hE hP hr hk htab hl => ?_)
  have hS : va_S (fun q9 => A q9 ∨ q9 = ou) s.heap s.heap [] := va_S.rf
  have hx := E.1
  have hb := E.2.1
  have hl : lv_has ls 8 [(0, .ref x), (1, .int z0), (2, .int z1), (3, .int z2), (4, .int z3), (5, .int z4), (6, .ref ou)] := hl
  obtain ⟨hP1, ⟨vs, hX⟩, hO⟩ := hP
  refine lv_aload hx hb dL_check_0 (lv_at hl 6 rfl) ?_
  refine lv_iconst (v := 0) hx hb dL_check_2 rfl ?_
  refine lv_aload_n hx hb dL_check_3 rfl (lv_at hl 0 rfl) ?_
  refine lv_iload_n hx hb dL_check_4 rfl (lv_at hl 1 rfl) ?_
  refine lv_iload_n hx hb dL_check_5 rfl (lv_at hl 2 rfl) ?_
  refine lv_iload_n hx hb dL_check_6 rfl (lv_at hl 3 rfl) ?_
  refine lv_iload hx hb dL_check_7 (lv_at hl 4 rfl) ?_
  refine lv_iload hx hb dL_check_9 (lv_at hl 5 rfl) ?_
  refine Wr.callV (rest := [.int 0, .ref ou]) hM yk_X7_check E km_L_68 dL_check_11 hG hE hP1 (At.recv hG hX rfl) rfl rfl hl.1 ⟨Nat.le_refl _, Nat.le_refl _⟩ ⟨show 0 + mc ≤ mc by omega, show 0 + ms ≤ ms by omega⟩ (Nat.le_of_ble_eq_true rfl) hS (fun _ h9 => Or.inl h9) (fun v9 H locs hq hz9 hfr9 hS => ?_)
  obtain ⟨r, rfl, hQ⟩ := hq
  have f_o : At G ou (lA G f) H := va_at.kept hO (hfr9 _ (va_at.lt hO) hAo)
  refine lv_i2l (v := r.toInt64) hx hb dL_check_14 rfl ?_
  refine g_lst 0 E hG f_o rfl (by decide) (by decide) hS (Or.inr rfl) dL_check_15 (fun H locs f_o hz oq hS => ?_)
  refine lv_goto (tgt := 27) hx hb dL_check_16 (by decide) ?_
  refine lv_iconst (v := 0) hx hb dL_check_27 rfl ?_
  exact wr_int E hr hk hS (show 0 + mc ≤ mc by omega) (show 0 + ms ≤ ms by omega) (⟨rfl, r, hst r _ _ hz oq hQ, f_o⟩) dL_check_28

set_option maxHeartbeats 4000000 in
set_option maxRecDepth 100000 in
/-- check: it throws -/
theorem w_L_check_t1 (l : Launch) (G : CG) {x ou fr lo : Nat} (z0 : Int32) (z1 : Int32) (z2 : Int32) (z3 : Int32) (z4 : Int32) {P : Heap → Prop} (hM : Tr l yX7_check cX7_check 7 (Option.some FieldType.int) fr lo G [.ref x, .int z0, .int z1, .int z2, .int z3, .int z4] P "java/lang/IndexOutOfBoundsException") : WW l yL_check cL_check 8 (Option.some FieldType.int) [(0, 16, 19, 32), (0, 16, 23, 13)] (fr + 1) (8 + (7 + 11) + lo) 1 6 G [.ref x, .int z0, .int z1, .int z2, .int z3, .int z4, .ref ou] (fun H9 => P H9 ∧ ∃ vs, At G x (.inr (7, vs)) H9) (fun _ => False) (fun v9 H9 => v9 = some (.int 1)) := by
  refine WW.ofW (by decide) (Nat.le_of_ble_eq_true rfl) (fun p e s m below meth c ls E hG hE hP hr hk htab hl => ?_)
  have hS : va_S (fun _ => False) s.heap s.heap [] := va_S.rf
  have hx := E.1
  have hb := E.2.1
  have hl : lv_has ls 8 [(0, .ref x), (1, .int z0), (2, .int z1), (3, .int z2), (4, .int z3), (5, .int z4), (6, .ref ou)] := hl
  obtain ⟨hP1, vs, hX⟩ := hP
  refine lv_aload hx hb dL_check_0 (lv_at hl 6 rfl) ?_
  refine lv_iconst (v := 0) hx hb dL_check_2 rfl ?_
  refine lv_aload_n hx hb dL_check_3 rfl (lv_at hl 0 rfl) ?_
  refine lv_iload_n hx hb dL_check_4 rfl (lv_at hl 1 rfl) ?_
  refine lv_iload_n hx hb dL_check_5 rfl (lv_at hl 2 rfl) ?_
  refine lv_iload_n hx hb dL_check_6 rfl (lv_at hl 3 rfl) ?_
  refine lv_iload hx hb dL_check_7 (lv_at hl 4 rfl) ?_
  refine lv_iload hx hb dL_check_9 (lv_at hl 5 rfl) ?_
  refine Tr.catchV (rest := [.int 0, .ref ou]) (name := "java/lang/IndexOutOfBoundsException") hM yk_X7_check E km_L_68 dL_check_11 hG hE hP1 (At.recv hG hX rfl) rfl rfl hl.1 ⟨Nat.le_refl _, Nat.le_refl _⟩ ⟨Nat.le_refl 1, Nat.le_refl 6⟩ (Nat.le_of_ble_eq_true rfl) [] (⟨0, 16, 19, 32⟩ : ExceptionTableEntry) [(⟨0, 16, 23, 13⟩ : ExceptionTableEntry)] htab (fun z hz => by cases hz) (by decide) (by decide) kl_L_32 (va_Nw.use rfl hG.2.2.2.2.2.2.1.2.2.1) (fun H q hz hq => ?_)
  have hS : va_S (fun _ => False) s.heap H [] := ⟨hz, fun q9 h9 _ => hq q9 h9, fun _ h9 => by cases h9⟩
  refine lv_astore (lv' := [(7, .ref q), (0, .ref x), (1, .int z0), (2, .int z1), (3, .int z2), (4, .int z3), (5, .int z4), (6, .ref ou)]) hx hb dL_check_19 hl (by decide) rfl (fun ls hl => ?_)
  refine lv_iconst (v := 1) hx hb dL_check_21 rfl ?_
  exact wr_int E hr hk hS (show 0 + 1 ≤ 1 by omega) (show 0 + 6 ≤ 6 by omega) (rfl) dL_check_22

set_option maxHeartbeats 4000000 in
set_option maxRecDepth 100000 in
/-- check: it throws -/
theorem w_L_check_t2 (l : Launch) (G : CG) {x ou fr lo : Nat} (z0 : Int32) (z1 : Int32) (z2 : Int32) (z3 : Int32) (z4 : Int32) {P : Heap → Prop} (hM : Tr l yX7_check cX7_check 7 (Option.some FieldType.int) fr lo G [.ref x, .int z0, .int z1, .int z2, .int z3, .int z4] P "java/lang/IllegalArgumentException") : WW l yL_check cL_check 8 (Option.some FieldType.int) [(0, 16, 19, 32), (0, 16, 23, 13)] (fr + 1) (8 + (7 + 11) + lo) 1 6 G [.ref x, .int z0, .int z1, .int z2, .int z3, .int z4, .ref ou] (fun H9 => P H9 ∧ ∃ vs, At G x (.inr (7, vs)) H9) (fun _ => False) (fun v9 H9 => v9 = some (.int 2)) := by
  refine WW.ofW (by decide) (Nat.le_of_ble_eq_true rfl) (fun p e s m below meth c ls E hG hE hP hr hk htab hl => ?_)
  have hS : va_S (fun _ => False) s.heap s.heap [] := va_S.rf
  have hx := E.1
  have hb := E.2.1
  have hl : lv_has ls 8 [(0, .ref x), (1, .int z0), (2, .int z1), (3, .int z2), (4, .int z3), (5, .int z4), (6, .ref ou)] := hl
  obtain ⟨hP1, vs, hX⟩ := hP
  refine lv_aload hx hb dL_check_0 (lv_at hl 6 rfl) ?_
  refine lv_iconst (v := 0) hx hb dL_check_2 rfl ?_
  refine lv_aload_n hx hb dL_check_3 rfl (lv_at hl 0 rfl) ?_
  refine lv_iload_n hx hb dL_check_4 rfl (lv_at hl 1 rfl) ?_
  refine lv_iload_n hx hb dL_check_5 rfl (lv_at hl 2 rfl) ?_
  refine lv_iload_n hx hb dL_check_6 rfl (lv_at hl 3 rfl) ?_
  refine lv_iload hx hb dL_check_7 (lv_at hl 4 rfl) ?_
  refine lv_iload hx hb dL_check_9 (lv_at hl 5 rfl) ?_
  refine Tr.catchV (rest := [.int 0, .ref ou]) (name := "java/lang/IllegalArgumentException") hM yk_X7_check E km_L_68 dL_check_11 hG hE hP1 (At.recv hG hX rfl) rfl rfl hl.1 ⟨Nat.le_refl _, Nat.le_refl _⟩ ⟨Nat.le_refl 1, Nat.le_refl 6⟩ (Nat.le_of_ble_eq_true rfl) [(⟨0, 16, 19, 32⟩ : ExceptionTableEntry)] (⟨0, 16, 23, 13⟩ : ExceptionTableEntry) [] htab (fun z hz => by have hz := List.mem_singleton.mp hz; (subst hz; exact Or.inr ⟨by decide, "java/lang/IndexOutOfBoundsException", E.2.2.2.2 _ kl_L_32, hG.2.2.2.2.2.2.2.1⟩)) (by decide) (by decide) kl_L_13 (va_Nw.use rfl hG.2.2.2.2.2.2.1.2.1) (fun H q hz hq => ?_)
  have hS : va_S (fun _ => False) s.heap H [] := ⟨hz, fun q9 h9 _ => hq q9 h9, fun _ h9 => by cases h9⟩
  refine lv_astore (lv' := [(7, .ref q), (0, .ref x), (1, .int z0), (2, .int z1), (3, .int z2), (4, .int z3), (5, .int z4), (6, .ref ou)]) hx hb dL_check_23 hl (by decide) rfl (fun ls hl => ?_)
  refine lv_iconst (v := 2) hx hb dL_check_25 rfl ?_
  exact wr_int E hr hk hS (show 0 + 1 ≤ 1 by omega) (show 0 + 6 ≤ 6 by omega) (rfl) dL_check_26

set_option maxHeartbeats 4000000 in
set_option maxRecDepth 100000 in
/-- lastDay: it answers -/
theorem w_L_lastDay (l : Launch) (G : CG) {x ou fr lo mc ms : Nat} (z0 : Int32) (z1 : Int32) {P : Heap → Prop} {A : Nat → Prop} {Q : Int32 → Heap → Prop} {f : Nat → Int64} (hM : Wr l yX7_lastDay cX7_lastDay 4 (Option.some FieldType.int) fr lo mc ms G [.ref x, .int z0, .int z1] P A (fun v9 H9 => ∃ r, v9 = some (.int r) ∧ Q r H9)) (hAo : ¬ A ou) (hst : ∀ r H H1, H1.size = H.size → (∀ q : Nat, q ≠ ou → H1[q]? = H[q]?) → Q r H → Q r H1) : WW l yL_lastDay cL_lastDay 5 (Option.some FieldType.int) [(0, 10, 13, 32), (0, 10, 17, 13)] (fr + 1) (8 + (4 + 11) + lo) mc ms G [.ref x, .int z0, .int z1, .ref ou] (fun H9 => P H9 ∧ (∃ vs, At G x (.inr (7, vs)) H9) ∧ At G ou (lA G f) H9) (fun q9 => A q9 ∨ q9 = ou) (fun v9 H9 => v9 = some (.int 0) ∧ ∃ r, Q r H9 ∧ At G ou (lA G (vp_updL f 0 r.toInt64)) H9) := by
  refine WW.ofW (by decide) (Nat.le_of_ble_eq_true rfl) (fun p e s m below meth c ls E hG hE hP hr hk htab hl => ?_)
  have hS : va_S (fun q9 => A q9 ∨ q9 = ou) s.heap s.heap [] := va_S.rf
  have hx := E.1
  have hb := E.2.1
  have hl : lv_has ls 5 [(0, .ref x), (1, .int z0), (2, .int z1), (3, .ref ou)] := hl
  obtain ⟨hP1, ⟨vs, hX⟩, hO⟩ := hP
  refine lv_aload_n hx hb dL_lastDay_0 rfl (lv_at hl 3 rfl) ?_
  refine lv_iconst (v := 0) hx hb dL_lastDay_1 rfl ?_
  refine lv_aload_n hx hb dL_lastDay_2 rfl (lv_at hl 0 rfl) ?_
  refine lv_iload_n hx hb dL_lastDay_3 rfl (lv_at hl 1 rfl) ?_
  refine lv_iload_n hx hb dL_lastDay_4 rfl (lv_at hl 2 rfl) ?_
  refine Wr.callV (rest := [.int 0, .ref ou]) hM yk_X7_lastDay E km_L_72 dL_lastDay_5 hG hE hP1 (At.recv hG hX rfl) rfl rfl hl.1 ⟨Nat.le_refl _, Nat.le_refl _⟩ ⟨show 0 + mc ≤ mc by omega, show 0 + ms ≤ ms by omega⟩ (Nat.le_of_ble_eq_true rfl) hS (fun _ h9 => Or.inl h9) (fun v9 H locs hq hz9 hfr9 hS => ?_)
  obtain ⟨r, rfl, hQ⟩ := hq
  have f_o : At G ou (lA G f) H := va_at.kept hO (hfr9 _ (va_at.lt hO) hAo)
  refine lv_i2l (v := r.toInt64) hx hb dL_lastDay_8 rfl ?_
  refine g_lst 0 E hG f_o rfl (by decide) (by decide) hS (Or.inr rfl) dL_lastDay_9 (fun H locs f_o hz oq hS => ?_)
  refine lv_goto (tgt := 21) hx hb dL_lastDay_10 (by decide) ?_
  refine lv_iconst (v := 0) hx hb dL_lastDay_21 rfl ?_
  exact wr_int E hr hk hS (show 0 + mc ≤ mc by omega) (show 0 + ms ≤ ms by omega) (⟨rfl, r, hst r _ _ hz oq hQ, f_o⟩) dL_lastDay_22

set_option maxHeartbeats 4000000 in
set_option maxRecDepth 100000 in
/-- lastDay: it throws -/
theorem w_L_lastDay_t1 (l : Launch) (G : CG) {x ou fr lo : Nat} (z0 : Int32) (z1 : Int32) {P : Heap → Prop} (hM : Tr l yX7_lastDay cX7_lastDay 4 (Option.some FieldType.int) fr lo G [.ref x, .int z0, .int z1] P "java/lang/IndexOutOfBoundsException") : WW l yL_lastDay cL_lastDay 5 (Option.some FieldType.int) [(0, 10, 13, 32), (0, 10, 17, 13)] (fr + 1) (8 + (4 + 11) + lo) 1 6 G [.ref x, .int z0, .int z1, .ref ou] (fun H9 => P H9 ∧ ∃ vs, At G x (.inr (7, vs)) H9) (fun _ => False) (fun v9 H9 => v9 = some (.int 1)) := by
  refine WW.ofW (by decide) (Nat.le_of_ble_eq_true rfl) (fun p e s m below meth c ls E hG hE hP hr hk htab hl => ?_)
  have hS : va_S (fun _ => False) s.heap s.heap [] := va_S.rf
  have hx := E.1
  have hb := E.2.1
  have hl : lv_has ls 5 [(0, .ref x), (1, .int z0), (2, .int z1), (3, .ref ou)] := hl
  obtain ⟨hP1, vs, hX⟩ := hP
  refine lv_aload_n hx hb dL_lastDay_0 rfl (lv_at hl 3 rfl) ?_
  refine lv_iconst (v := 0) hx hb dL_lastDay_1 rfl ?_
  refine lv_aload_n hx hb dL_lastDay_2 rfl (lv_at hl 0 rfl) ?_
  refine lv_iload_n hx hb dL_lastDay_3 rfl (lv_at hl 1 rfl) ?_
  refine lv_iload_n hx hb dL_lastDay_4 rfl (lv_at hl 2 rfl) ?_
  refine Tr.catchV (rest := [.int 0, .ref ou]) (name := "java/lang/IndexOutOfBoundsException") hM yk_X7_lastDay E km_L_72 dL_lastDay_5 hG hE hP1 (At.recv hG hX rfl) rfl rfl hl.1 ⟨Nat.le_refl _, Nat.le_refl _⟩ ⟨Nat.le_refl 1, Nat.le_refl 6⟩ (Nat.le_of_ble_eq_true rfl) [] (⟨0, 10, 13, 32⟩ : ExceptionTableEntry) [(⟨0, 10, 17, 13⟩ : ExceptionTableEntry)] htab (fun z hz => by cases hz) (by decide) (by decide) kl_L_32 (va_Nw.use rfl hG.2.2.2.2.2.2.1.2.2.1) (fun H q hz hq => ?_)
  have hS : va_S (fun _ => False) s.heap H [] := ⟨hz, fun q9 h9 _ => hq q9 h9, fun _ h9 => by cases h9⟩
  refine lv_astore (lv' := [(4, .ref q), (0, .ref x), (1, .int z0), (2, .int z1), (3, .ref ou)]) hx hb dL_lastDay_13 hl (by decide) rfl (fun ls hl => ?_)
  refine lv_iconst (v := 1) hx hb dL_lastDay_15 rfl ?_
  exact wr_int E hr hk hS (show 0 + 1 ≤ 1 by omega) (show 0 + 6 ≤ 6 by omega) (rfl) dL_lastDay_16

set_option maxHeartbeats 4000000 in
set_option maxRecDepth 100000 in
/-- lastDay: it throws -/
theorem w_L_lastDay_t2 (l : Launch) (G : CG) {x ou fr lo : Nat} (z0 : Int32) (z1 : Int32) {P : Heap → Prop} (hM : Tr l yX7_lastDay cX7_lastDay 4 (Option.some FieldType.int) fr lo G [.ref x, .int z0, .int z1] P "java/lang/IllegalArgumentException") : WW l yL_lastDay cL_lastDay 5 (Option.some FieldType.int) [(0, 10, 13, 32), (0, 10, 17, 13)] (fr + 1) (8 + (4 + 11) + lo) 1 6 G [.ref x, .int z0, .int z1, .ref ou] (fun H9 => P H9 ∧ ∃ vs, At G x (.inr (7, vs)) H9) (fun _ => False) (fun v9 H9 => v9 = some (.int 2)) := by
  refine WW.ofW (by decide) (Nat.le_of_ble_eq_true rfl) (fun p e s m below meth c ls E hG hE hP hr hk htab hl => ?_)
  have hS : va_S (fun _ => False) s.heap s.heap [] := va_S.rf
  have hx := E.1
  have hb := E.2.1
  have hl : lv_has ls 5 [(0, .ref x), (1, .int z0), (2, .int z1), (3, .ref ou)] := hl
  obtain ⟨hP1, vs, hX⟩ := hP
  refine lv_aload_n hx hb dL_lastDay_0 rfl (lv_at hl 3 rfl) ?_
  refine lv_iconst (v := 0) hx hb dL_lastDay_1 rfl ?_
  refine lv_aload_n hx hb dL_lastDay_2 rfl (lv_at hl 0 rfl) ?_
  refine lv_iload_n hx hb dL_lastDay_3 rfl (lv_at hl 1 rfl) ?_
  refine lv_iload_n hx hb dL_lastDay_4 rfl (lv_at hl 2 rfl) ?_
  refine Tr.catchV (rest := [.int 0, .ref ou]) (name := "java/lang/IllegalArgumentException") hM yk_X7_lastDay E km_L_72 dL_lastDay_5 hG hE hP1 (At.recv hG hX rfl) rfl rfl hl.1 ⟨Nat.le_refl _, Nat.le_refl _⟩ ⟨Nat.le_refl 1, Nat.le_refl 6⟩ (Nat.le_of_ble_eq_true rfl) [(⟨0, 10, 13, 32⟩ : ExceptionTableEntry)] (⟨0, 10, 17, 13⟩ : ExceptionTableEntry) [] htab (fun z hz => by have hz := List.mem_singleton.mp hz; (subst hz; exact Or.inr ⟨by decide, "java/lang/IndexOutOfBoundsException", E.2.2.2.2 _ kl_L_32, hG.2.2.2.2.2.2.2.1⟩)) (by decide) (by decide) kl_L_13 (va_Nw.use rfl hG.2.2.2.2.2.2.1.2.1) (fun H q hz hq => ?_)
  have hS : va_S (fun _ => False) s.heap H [] := ⟨hz, fun q9 h9 _ => hq q9 h9, fun _ h9 => by cases h9⟩
  refine lv_astore (lv' := [(4, .ref q), (0, .ref x), (1, .int z0), (2, .int z1), (3, .ref ou)]) hx hb dL_lastDay_17 hl (by decide) rfl (fun ls hl => ?_)
  refine lv_iconst (v := 2) hx hb dL_lastDay_19 rfl ?_
  exact wr_int E hr hk hS (show 0 + 1 ≤ 1 by omega) (show 0 + 6 ≤ 6 by omega) (rfl) dL_lastDay_20

set_option maxHeartbeats 4000000 in
set_option maxRecDepth 100000 in
/-- bestFit: it answers -/
theorem w_L_bestFit (l : Launch) (G : CG) {x ou fr lo mc ms : Nat} (z0 : Int32) {P : Heap → Prop} {A : Nat → Prop} {Q : Int32 → Heap → Prop} {f : Nat → Int64} (hM : Wr l yX7_bestFit cX7_bestFit 6 (Option.some FieldType.int) fr lo mc ms G [.ref x, .int z0] P A (fun v9 H9 => ∃ r, v9 = some (.int r) ∧ Q r H9)) (hAo : ¬ A ou) (hst : ∀ r H H1, H1.size = H.size → (∀ q : Nat, q ≠ ou → H1[q]? = H[q]?) → Q r H → Q r H1) : WW l yL_bestFit cL_bestFit 4 (Option.some FieldType.int) [(0, 9, 12, 32)] (fr + 1) (8 + (6 + 11) + lo) mc ms G [.ref x, .int z0, .ref ou] (fun H9 => P H9 ∧ (∃ vs, At G x (.inr (7, vs)) H9) ∧ At G ou (lA G f) H9) (fun q9 => A q9 ∨ q9 = ou) (fun v9 H9 => v9 = some (.int 0) ∧ ∃ r, Q r H9 ∧ At G ou (lA G (vp_updL f 0 r.toInt64)) H9) := by
  refine WW.ofW (by decide) (Nat.le_of_ble_eq_true rfl) (fun p e s m below meth c ls E hG hE hP hr hk htab hl => ?_)
  have hS : va_S (fun q9 => A q9 ∨ q9 = ou) s.heap s.heap [] := va_S.rf
  have hx := E.1
  have hb := E.2.1
  have hl : lv_has ls 4 [(0, .ref x), (1, .int z0), (2, .ref ou)] := hl
  obtain ⟨hP1, ⟨vs, hX⟩, hO⟩ := hP
  refine lv_aload_n hx hb dL_bestFit_0 rfl (lv_at hl 2 rfl) ?_
  refine lv_iconst (v := 0) hx hb dL_bestFit_1 rfl ?_
  refine lv_aload_n hx hb dL_bestFit_2 rfl (lv_at hl 0 rfl) ?_
  refine lv_iload_n hx hb dL_bestFit_3 rfl (lv_at hl 1 rfl) ?_
  refine Wr.callV (rest := [.int 0, .ref ou]) hM yk_X7_bestFit E km_L_75 dL_bestFit_4 hG hE hP1 (At.recv hG hX rfl) rfl rfl hl.1 ⟨Nat.le_refl _, Nat.le_refl _⟩ ⟨show 0 + mc ≤ mc by omega, show 0 + ms ≤ ms by omega⟩ (Nat.le_of_ble_eq_true rfl) hS (fun _ h9 => Or.inl h9) (fun v9 H locs hq hz9 hfr9 hS => ?_)
  obtain ⟨r, rfl, hQ⟩ := hq
  have f_o : At G ou (lA G f) H := va_at.kept hO (hfr9 _ (va_at.lt hO) hAo)
  refine lv_i2l (v := r.toInt64) hx hb dL_bestFit_7 rfl ?_
  refine g_lst 0 E hG f_o rfl (by decide) (by decide) hS (Or.inr rfl) dL_bestFit_8 (fun H locs f_o hz oq hS => ?_)
  refine lv_goto (tgt := 15) hx hb dL_bestFit_9 (by decide) ?_
  refine lv_iconst (v := 0) hx hb dL_bestFit_15 rfl ?_
  exact wr_int E hr hk hS (show 0 + mc ≤ mc by omega) (show 0 + ms ≤ ms by omega) (⟨rfl, r, hst r _ _ hz oq hQ, f_o⟩) dL_bestFit_16

set_option maxHeartbeats 4000000 in
set_option maxRecDepth 100000 in
/-- bestFit: it throws -/
theorem w_L_bestFit_t1 (l : Launch) (G : CG) {x ou fr lo : Nat} (z0 : Int32) {P : Heap → Prop} (hM : Tr l yX7_bestFit cX7_bestFit 6 (Option.some FieldType.int) fr lo G [.ref x, .int z0] P "java/lang/IndexOutOfBoundsException") : WW l yL_bestFit cL_bestFit 4 (Option.some FieldType.int) [(0, 9, 12, 32)] (fr + 1) (8 + (6 + 11) + lo) 1 6 G [.ref x, .int z0, .ref ou] (fun H9 => P H9 ∧ ∃ vs, At G x (.inr (7, vs)) H9) (fun _ => False) (fun v9 H9 => v9 = some (.int 1)) := by
  refine WW.ofW (by decide) (Nat.le_of_ble_eq_true rfl) (fun p e s m below meth c ls E hG hE hP hr hk htab hl => ?_)
  have hS : va_S (fun _ => False) s.heap s.heap [] := va_S.rf
  have hx := E.1
  have hb := E.2.1
  have hl : lv_has ls 4 [(0, .ref x), (1, .int z0), (2, .ref ou)] := hl
  obtain ⟨hP1, vs, hX⟩ := hP
  refine lv_aload_n hx hb dL_bestFit_0 rfl (lv_at hl 2 rfl) ?_
  refine lv_iconst (v := 0) hx hb dL_bestFit_1 rfl ?_
  refine lv_aload_n hx hb dL_bestFit_2 rfl (lv_at hl 0 rfl) ?_
  refine lv_iload_n hx hb dL_bestFit_3 rfl (lv_at hl 1 rfl) ?_
  refine Tr.catchV (rest := [.int 0, .ref ou]) (name := "java/lang/IndexOutOfBoundsException") hM yk_X7_bestFit E km_L_75 dL_bestFit_4 hG hE hP1 (At.recv hG hX rfl) rfl rfl hl.1 ⟨Nat.le_refl _, Nat.le_refl _⟩ ⟨Nat.le_refl 1, Nat.le_refl 6⟩ (Nat.le_of_ble_eq_true rfl) [] (⟨0, 9, 12, 32⟩ : ExceptionTableEntry) [] htab (fun z hz => by cases hz) (by decide) (by decide) kl_L_32 (va_Nw.use rfl hG.2.2.2.2.2.2.1.2.2.1) (fun H q hz hq => ?_)
  have hS : va_S (fun _ => False) s.heap H [] := ⟨hz, fun q9 h9 _ => hq q9 h9, fun _ h9 => by cases h9⟩
  refine lv_astore_n (lv' := [(3, .ref q), (0, .ref x), (1, .int z0), (2, .ref ou)]) hx hb dL_bestFit_12 rfl hl (by decide) rfl (fun ls hl => ?_)
  refine lv_iconst (v := 1) hx hb dL_bestFit_13 rfl ?_
  exact wr_int E hr hk hS (show 0 + 1 ≤ 1 by omega) (show 0 + 6 ≤ 6 by omega) (rfl) dL_bestFit_14

set_option maxHeartbeats 4000000 in
set_option maxRecDepth 100000 in
/-- present: it answers -/
theorem w_L_present (l : Launch) (G : CG) {x ou fr lo mc ms : Nat} (z0 : Int32) (z1 : Int32) (z2 : Int32) (z3 : Int32) (z4 : Int32) {P : Heap → Prop} {A : Nat → Prop} {Q : Int32 → Heap → Prop} {f : Nat → Int64} (hM : Wr l yX7_present cX7_present 9 (Option.some FieldType.int) fr lo mc ms G [.ref x, .int z0, .int z1, .int z2, .int z3, .int z4] P A (fun v9 H9 => ∃ r, v9 = some (.int r) ∧ Q r H9)) (hAo : ¬ A ou) (hst : ∀ r H H1, H1.size = H.size → (∀ q : Nat, q ≠ ou → H1[q]? = H[q]?) → Q r H → Q r H1) : WW l yL_present cL_present 8 (Option.some FieldType.int) [(0, 16, 19, 32), (0, 16, 23, 13), (0, 16, 27, 81)] (fr + 1) (8 + (9 + 11) + lo) mc ms G [.ref x, .int z0, .int z1, .int z2, .int z3, .int z4, .ref ou] (fun H9 => P H9 ∧ (∃ vs, At G x (.inr (7, vs)) H9) ∧ At G ou (lA G f) H9) (fun q9 => A q9 ∨ q9 = ou) (fun v9 H9 => v9 = some (.int 0) ∧ ∃ r, Q r H9 ∧ At G ou (lA G (vp_updL f 0 r.toInt64)) H9) := by
  refine WW.ofW (by decide) (Nat.le_of_ble_eq_true rfl) (fun p e s m below meth c ls E hG hE hP hr hk htab hl => ?_)
  have hS : va_S (fun q9 => A q9 ∨ q9 = ou) s.heap s.heap [] := va_S.rf
  have hx := E.1
  have hb := E.2.1
  have hl : lv_has ls 8 [(0, .ref x), (1, .int z0), (2, .int z1), (3, .int z2), (4, .int z3), (5, .int z4), (6, .ref ou)] := hl
  obtain ⟨hP1, ⟨vs, hX⟩, hO⟩ := hP
  refine lv_aload hx hb dL_present_0 (lv_at hl 6 rfl) ?_
  refine lv_iconst (v := 0) hx hb dL_present_2 rfl ?_
  refine lv_aload_n hx hb dL_present_3 rfl (lv_at hl 0 rfl) ?_
  refine lv_iload_n hx hb dL_present_4 rfl (lv_at hl 1 rfl) ?_
  refine lv_iload_n hx hb dL_present_5 rfl (lv_at hl 2 rfl) ?_
  refine lv_iload_n hx hb dL_present_6 rfl (lv_at hl 3 rfl) ?_
  refine lv_iload hx hb dL_present_7 (lv_at hl 4 rfl) ?_
  refine lv_iload hx hb dL_present_9 (lv_at hl 5 rfl) ?_
  refine Wr.callV (rest := [.int 0, .ref ou]) hM yk_X7_present E km_L_78 dL_present_11 hG hE hP1 (At.recv hG hX rfl) rfl rfl hl.1 ⟨Nat.le_refl _, Nat.le_refl _⟩ ⟨show 0 + mc ≤ mc by omega, show 0 + ms ≤ ms by omega⟩ (Nat.le_of_ble_eq_true rfl) hS (fun _ h9 => Or.inl h9) (fun v9 H locs hq hz9 hfr9 hS => ?_)
  obtain ⟨r, rfl, hQ⟩ := hq
  have f_o : At G ou (lA G f) H := va_at.kept hO (hfr9 _ (va_at.lt hO) hAo)
  refine lv_i2l (v := r.toInt64) hx hb dL_present_14 rfl ?_
  refine g_lst 0 E hG f_o rfl (by decide) (by decide) hS (Or.inr rfl) dL_present_15 (fun H locs f_o hz oq hS => ?_)
  refine lv_goto (tgt := 31) hx hb dL_present_16 (by decide) ?_
  refine lv_iconst (v := 0) hx hb dL_present_31 rfl ?_
  exact wr_int E hr hk hS (show 0 + mc ≤ mc by omega) (show 0 + ms ≤ ms by omega) (⟨rfl, r, hst r _ _ hz oq hQ, f_o⟩) dL_present_32

set_option maxHeartbeats 4000000 in
set_option maxRecDepth 100000 in
/-- present: it throws -/
theorem w_L_present_t1 (l : Launch) (G : CG) {x ou fr lo : Nat} (z0 : Int32) (z1 : Int32) (z2 : Int32) (z3 : Int32) (z4 : Int32) {P : Heap → Prop} (hM : Tr l yX7_present cX7_present 9 (Option.some FieldType.int) fr lo G [.ref x, .int z0, .int z1, .int z2, .int z3, .int z4] P "java/lang/IndexOutOfBoundsException") : WW l yL_present cL_present 8 (Option.some FieldType.int) [(0, 16, 19, 32), (0, 16, 23, 13), (0, 16, 27, 81)] (fr + 1) (8 + (9 + 11) + lo) 1 6 G [.ref x, .int z0, .int z1, .int z2, .int z3, .int z4, .ref ou] (fun H9 => P H9 ∧ ∃ vs, At G x (.inr (7, vs)) H9) (fun _ => False) (fun v9 H9 => v9 = some (.int 1)) := by
  refine WW.ofW (by decide) (Nat.le_of_ble_eq_true rfl) (fun p e s m below meth c ls E hG hE hP hr hk htab hl => ?_)
  have hS : va_S (fun _ => False) s.heap s.heap [] := va_S.rf
  have hx := E.1
  have hb := E.2.1
  have hl : lv_has ls 8 [(0, .ref x), (1, .int z0), (2, .int z1), (3, .int z2), (4, .int z3), (5, .int z4), (6, .ref ou)] := hl
  obtain ⟨hP1, vs, hX⟩ := hP
  refine lv_aload hx hb dL_present_0 (lv_at hl 6 rfl) ?_
  refine lv_iconst (v := 0) hx hb dL_present_2 rfl ?_
  refine lv_aload_n hx hb dL_present_3 rfl (lv_at hl 0 rfl) ?_
  refine lv_iload_n hx hb dL_present_4 rfl (lv_at hl 1 rfl) ?_
  refine lv_iload_n hx hb dL_present_5 rfl (lv_at hl 2 rfl) ?_
  refine lv_iload_n hx hb dL_present_6 rfl (lv_at hl 3 rfl) ?_
  refine lv_iload hx hb dL_present_7 (lv_at hl 4 rfl) ?_
  refine lv_iload hx hb dL_present_9 (lv_at hl 5 rfl) ?_
  refine Tr.catchV (rest := [.int 0, .ref ou]) (name := "java/lang/IndexOutOfBoundsException") hM yk_X7_present E km_L_78 dL_present_11 hG hE hP1 (At.recv hG hX rfl) rfl rfl hl.1 ⟨Nat.le_refl _, Nat.le_refl _⟩ ⟨Nat.le_refl 1, Nat.le_refl 6⟩ (Nat.le_of_ble_eq_true rfl) [] (⟨0, 16, 19, 32⟩ : ExceptionTableEntry) [(⟨0, 16, 23, 13⟩ : ExceptionTableEntry), (⟨0, 16, 27, 81⟩ : ExceptionTableEntry)] htab (fun z hz => by cases hz) (by decide) (by decide) kl_L_32 (va_Nw.use rfl hG.2.2.2.2.2.2.1.2.2.1) (fun H q hz hq => ?_)
  have hS : va_S (fun _ => False) s.heap H [] := ⟨hz, fun q9 h9 _ => hq q9 h9, fun _ h9 => by cases h9⟩
  refine lv_astore (lv' := [(7, .ref q), (0, .ref x), (1, .int z0), (2, .int z1), (3, .int z2), (4, .int z3), (5, .int z4), (6, .ref ou)]) hx hb dL_present_19 hl (by decide) rfl (fun ls hl => ?_)
  refine lv_iconst (v := 1) hx hb dL_present_21 rfl ?_
  exact wr_int E hr hk hS (show 0 + 1 ≤ 1 by omega) (show 0 + 6 ≤ 6 by omega) (rfl) dL_present_22

set_option maxHeartbeats 4000000 in
set_option maxRecDepth 100000 in
/-- present: it throws -/
theorem w_L_present_t2 (l : Launch) (G : CG) {x ou fr lo : Nat} (z0 : Int32) (z1 : Int32) (z2 : Int32) (z3 : Int32) (z4 : Int32) {P : Heap → Prop} (hM : Tr l yX7_present cX7_present 9 (Option.some FieldType.int) fr lo G [.ref x, .int z0, .int z1, .int z2, .int z3, .int z4] P "java/lang/IllegalArgumentException") : WW l yL_present cL_present 8 (Option.some FieldType.int) [(0, 16, 19, 32), (0, 16, 23, 13), (0, 16, 27, 81)] (fr + 1) (8 + (9 + 11) + lo) 1 6 G [.ref x, .int z0, .int z1, .int z2, .int z3, .int z4, .ref ou] (fun H9 => P H9 ∧ ∃ vs, At G x (.inr (7, vs)) H9) (fun _ => False) (fun v9 H9 => v9 = some (.int 2)) := by
  refine WW.ofW (by decide) (Nat.le_of_ble_eq_true rfl) (fun p e s m below meth c ls E hG hE hP hr hk htab hl => ?_)
  have hS : va_S (fun _ => False) s.heap s.heap [] := va_S.rf
  have hx := E.1
  have hb := E.2.1
  have hl : lv_has ls 8 [(0, .ref x), (1, .int z0), (2, .int z1), (3, .int z2), (4, .int z3), (5, .int z4), (6, .ref ou)] := hl
  obtain ⟨hP1, vs, hX⟩ := hP
  refine lv_aload hx hb dL_present_0 (lv_at hl 6 rfl) ?_
  refine lv_iconst (v := 0) hx hb dL_present_2 rfl ?_
  refine lv_aload_n hx hb dL_present_3 rfl (lv_at hl 0 rfl) ?_
  refine lv_iload_n hx hb dL_present_4 rfl (lv_at hl 1 rfl) ?_
  refine lv_iload_n hx hb dL_present_5 rfl (lv_at hl 2 rfl) ?_
  refine lv_iload_n hx hb dL_present_6 rfl (lv_at hl 3 rfl) ?_
  refine lv_iload hx hb dL_present_7 (lv_at hl 4 rfl) ?_
  refine lv_iload hx hb dL_present_9 (lv_at hl 5 rfl) ?_
  refine Tr.catchV (rest := [.int 0, .ref ou]) (name := "java/lang/IllegalArgumentException") hM yk_X7_present E km_L_78 dL_present_11 hG hE hP1 (At.recv hG hX rfl) rfl rfl hl.1 ⟨Nat.le_refl _, Nat.le_refl _⟩ ⟨Nat.le_refl 1, Nat.le_refl 6⟩ (Nat.le_of_ble_eq_true rfl) [(⟨0, 16, 19, 32⟩ : ExceptionTableEntry)] (⟨0, 16, 23, 13⟩ : ExceptionTableEntry) [(⟨0, 16, 27, 81⟩ : ExceptionTableEntry)] htab (fun z hz => by have hz := List.mem_singleton.mp hz; (subst hz; exact Or.inr ⟨by decide, "java/lang/IndexOutOfBoundsException", E.2.2.2.2 _ kl_L_32, hG.2.2.2.2.2.2.2.1⟩)) (by decide) (by decide) kl_L_13 (va_Nw.use rfl hG.2.2.2.2.2.2.1.2.1) (fun H q hz hq => ?_)
  have hS : va_S (fun _ => False) s.heap H [] := ⟨hz, fun q9 h9 _ => hq q9 h9, fun _ h9 => by cases h9⟩
  refine lv_astore (lv' := [(7, .ref q), (0, .ref x), (1, .int z0), (2, .int z1), (3, .int z2), (4, .int z3), (5, .int z4), (6, .ref ou)]) hx hb dL_present_23 hl (by decide) rfl (fun ls hl => ?_)
  refine lv_iconst (v := 2) hx hb dL_present_25 rfl ?_
  exact wr_int E hr hk hS (show 0 + 1 ≤ 1 by omega) (show 0 + 6 ≤ 6 by omega) (rfl) dL_present_26

set_option maxHeartbeats 4000000 in
set_option maxRecDepth 100000 in
/-- present: it throws -/
theorem w_L_present_t3 (l : Launch) (G : CG) {x ou fr lo : Nat} (z0 : Int32) (z1 : Int32) (z2 : Int32) (z3 : Int32) (z4 : Int32) {P : Heap → Prop} (hM : Tr l yX7_present cX7_present 9 (Option.some FieldType.int) fr lo G [.ref x, .int z0, .int z1, .int z2, .int z3, .int z4] P "java/lang/IllegalStateException") : WW l yL_present cL_present 8 (Option.some FieldType.int) [(0, 16, 19, 32), (0, 16, 23, 13), (0, 16, 27, 81)] (fr + 1) (8 + (9 + 11) + lo) 1 6 G [.ref x, .int z0, .int z1, .int z2, .int z3, .int z4, .ref ou] (fun H9 => P H9 ∧ ∃ vs, At G x (.inr (7, vs)) H9) (fun _ => False) (fun v9 H9 => v9 = some (.int 3)) := by
  refine WW.ofW (by decide) (Nat.le_of_ble_eq_true rfl) (fun p e s m below meth c ls E hG hE hP hr hk htab hl => ?_)
  have hS : va_S (fun _ => False) s.heap s.heap [] := va_S.rf
  have hx := E.1
  have hb := E.2.1
  have hl : lv_has ls 8 [(0, .ref x), (1, .int z0), (2, .int z1), (3, .int z2), (4, .int z3), (5, .int z4), (6, .ref ou)] := hl
  obtain ⟨hP1, vs, hX⟩ := hP
  refine lv_aload hx hb dL_present_0 (lv_at hl 6 rfl) ?_
  refine lv_iconst (v := 0) hx hb dL_present_2 rfl ?_
  refine lv_aload_n hx hb dL_present_3 rfl (lv_at hl 0 rfl) ?_
  refine lv_iload_n hx hb dL_present_4 rfl (lv_at hl 1 rfl) ?_
  refine lv_iload_n hx hb dL_present_5 rfl (lv_at hl 2 rfl) ?_
  refine lv_iload_n hx hb dL_present_6 rfl (lv_at hl 3 rfl) ?_
  refine lv_iload hx hb dL_present_7 (lv_at hl 4 rfl) ?_
  refine lv_iload hx hb dL_present_9 (lv_at hl 5 rfl) ?_
  refine Tr.catchV (rest := [.int 0, .ref ou]) (name := "java/lang/IllegalStateException") hM yk_X7_present E km_L_78 dL_present_11 hG hE hP1 (At.recv hG hX rfl) rfl rfl hl.1 ⟨Nat.le_refl _, Nat.le_refl _⟩ ⟨Nat.le_refl 1, Nat.le_refl 6⟩ (Nat.le_of_ble_eq_true rfl) [(⟨0, 16, 19, 32⟩ : ExceptionTableEntry), (⟨0, 16, 23, 13⟩ : ExceptionTableEntry)] (⟨0, 16, 27, 81⟩ : ExceptionTableEntry) [] htab (fun z hz => by rcases List.mem_cons.mp hz with hz | hz; (subst hz; exact Or.inr ⟨by decide, "java/lang/IndexOutOfBoundsException", E.2.2.2.2 _ kl_L_32, hG.2.2.2.2.2.2.2.2.1⟩); (have hz := List.mem_singleton.mp hz; (subst hz; exact Or.inr ⟨by decide, "java/lang/IllegalArgumentException", E.2.2.2.2 _ kl_L_13, hG.2.2.2.2.2.2.2.2.2⟩))) (by decide) (by decide) kl_L_81 (va_Nw.use rfl hG.2.2.2.2.2.2.1.2.2.2) (fun H q hz hq => ?_)
  have hS : va_S (fun _ => False) s.heap H [] := ⟨hz, fun q9 h9 _ => hq q9 h9, fun _ h9 => by cases h9⟩
  refine lv_astore (lv' := [(7, .ref q), (0, .ref x), (1, .int z0), (2, .int z1), (3, .int z2), (4, .int z3), (5, .int z4), (6, .ref ou)]) hx hb dL_present_27 hl (by decide) rfl (fun ls hl => ?_)
  refine lv_iconst (v := 3) hx hb dL_present_29 rfl ?_
  exact wr_int E hr hk hS (show 0 + 1 ≤ 1 by omega) (show 0 + 6 ≤ 6 by omega) (rfl) dL_present_30

set_option maxHeartbeats 4000000 in
set_option maxRecDepth 100000 in
/-- examine: it answers -/
theorem w_L_examine (l : Launch) (G : CG) {x ou fr lo mc ms : Nat} (z0 : Int32) {P : Heap → Prop} {A : Nat → Prop} {Q : Int32 → Heap → Prop} {f : Nat → Int64} (hM : Wr l yX7_examine cX7_examine 4 (Option.some FieldType.int) fr lo mc ms G [.ref x, .int z0] P A (fun v9 H9 => ∃ r, v9 = some (.int r) ∧ Q r H9)) (hAo : ¬ A ou) (hst : ∀ r H H1, H1.size = H.size → (∀ q : Nat, q ≠ ou → H1[q]? = H[q]?) → Q r H → Q r H1) : WW l yL_examine cL_examine 4 (Option.some FieldType.int) [(0, 9, 12, 32), (0, 9, 15, 81)] (fr + 1) (8 + (4 + 11) + lo) mc ms G [.ref x, .int z0, .ref ou] (fun H9 => P H9 ∧ (∃ vs, At G x (.inr (7, vs)) H9) ∧ At G ou (lA G f) H9) (fun q9 => A q9 ∨ q9 = ou) (fun v9 H9 => v9 = some (.int 0) ∧ ∃ r, Q r H9 ∧ At G ou (lA G (vp_updL f 0 r.toInt64)) H9) := by
  refine WW.ofW (by decide) (Nat.le_of_ble_eq_true rfl) (fun p e s m below meth c ls E hG hE hP hr hk htab hl => ?_)
  have hS : va_S (fun q9 => A q9 ∨ q9 = ou) s.heap s.heap [] := va_S.rf
  have hx := E.1
  have hb := E.2.1
  have hl : lv_has ls 4 [(0, .ref x), (1, .int z0), (2, .ref ou)] := hl
  obtain ⟨hP1, ⟨vs, hX⟩, hO⟩ := hP
  refine lv_aload_n hx hb dL_examine_0 rfl (lv_at hl 2 rfl) ?_
  refine lv_iconst (v := 0) hx hb dL_examine_1 rfl ?_
  refine lv_aload_n hx hb dL_examine_2 rfl (lv_at hl 0 rfl) ?_
  refine lv_iload_n hx hb dL_examine_3 rfl (lv_at hl 1 rfl) ?_
  refine Wr.callV (rest := [.int 0, .ref ou]) hM yk_X7_examine E km_L_83 dL_examine_4 hG hE hP1 (At.recv hG hX rfl) rfl rfl hl.1 ⟨Nat.le_refl _, Nat.le_refl _⟩ ⟨show 0 + mc ≤ mc by omega, show 0 + ms ≤ ms by omega⟩ (Nat.le_of_ble_eq_true rfl) hS (fun _ h9 => Or.inl h9) (fun v9 H locs hq hz9 hfr9 hS => ?_)
  obtain ⟨r, rfl, hQ⟩ := hq
  have f_o : At G ou (lA G f) H := va_at.kept hO (hfr9 _ (va_at.lt hO) hAo)
  refine lv_i2l (v := r.toInt64) hx hb dL_examine_7 rfl ?_
  refine g_lst 0 E hG f_o rfl (by decide) (by decide) hS (Or.inr rfl) dL_examine_8 (fun H locs f_o hz oq hS => ?_)
  refine lv_goto (tgt := 18) hx hb dL_examine_9 (by decide) ?_
  refine lv_iconst (v := 0) hx hb dL_examine_18 rfl ?_
  exact wr_int E hr hk hS (show 0 + mc ≤ mc by omega) (show 0 + ms ≤ ms by omega) (⟨rfl, r, hst r _ _ hz oq hQ, f_o⟩) dL_examine_19

set_option maxHeartbeats 4000000 in
set_option maxRecDepth 100000 in
/-- examine: it throws -/
theorem w_L_examine_t1 (l : Launch) (G : CG) {x ou fr lo : Nat} (z0 : Int32) {P : Heap → Prop} (hM : Tr l yX7_examine cX7_examine 4 (Option.some FieldType.int) fr lo G [.ref x, .int z0] P "java/lang/IndexOutOfBoundsException") : WW l yL_examine cL_examine 4 (Option.some FieldType.int) [(0, 9, 12, 32), (0, 9, 15, 81)] (fr + 1) (8 + (4 + 11) + lo) 1 6 G [.ref x, .int z0, .ref ou] (fun H9 => P H9 ∧ ∃ vs, At G x (.inr (7, vs)) H9) (fun _ => False) (fun v9 H9 => v9 = some (.int 1)) := by
  refine WW.ofW (by decide) (Nat.le_of_ble_eq_true rfl) (fun p e s m below meth c ls E hG hE hP hr hk htab hl => ?_)
  have hS : va_S (fun _ => False) s.heap s.heap [] := va_S.rf
  have hx := E.1
  have hb := E.2.1
  have hl : lv_has ls 4 [(0, .ref x), (1, .int z0), (2, .ref ou)] := hl
  obtain ⟨hP1, vs, hX⟩ := hP
  refine lv_aload_n hx hb dL_examine_0 rfl (lv_at hl 2 rfl) ?_
  refine lv_iconst (v := 0) hx hb dL_examine_1 rfl ?_
  refine lv_aload_n hx hb dL_examine_2 rfl (lv_at hl 0 rfl) ?_
  refine lv_iload_n hx hb dL_examine_3 rfl (lv_at hl 1 rfl) ?_
  refine Tr.catchV (rest := [.int 0, .ref ou]) (name := "java/lang/IndexOutOfBoundsException") hM yk_X7_examine E km_L_83 dL_examine_4 hG hE hP1 (At.recv hG hX rfl) rfl rfl hl.1 ⟨Nat.le_refl _, Nat.le_refl _⟩ ⟨Nat.le_refl 1, Nat.le_refl 6⟩ (Nat.le_of_ble_eq_true rfl) [] (⟨0, 9, 12, 32⟩ : ExceptionTableEntry) [(⟨0, 9, 15, 81⟩ : ExceptionTableEntry)] htab (fun z hz => by cases hz) (by decide) (by decide) kl_L_32 (va_Nw.use rfl hG.2.2.2.2.2.2.1.2.2.1) (fun H q hz hq => ?_)
  have hS : va_S (fun _ => False) s.heap H [] := ⟨hz, fun q9 h9 _ => hq q9 h9, fun _ h9 => by cases h9⟩
  refine lv_astore_n (lv' := [(3, .ref q), (0, .ref x), (1, .int z0), (2, .ref ou)]) hx hb dL_examine_12 rfl hl (by decide) rfl (fun ls hl => ?_)
  refine lv_iconst (v := 1) hx hb dL_examine_13 rfl ?_
  exact wr_int E hr hk hS (show 0 + 1 ≤ 1 by omega) (show 0 + 6 ≤ 6 by omega) (rfl) dL_examine_14

set_option maxHeartbeats 4000000 in
set_option maxRecDepth 100000 in
/-- examine: it throws -/
theorem w_L_examine_t2 (l : Launch) (G : CG) {x ou fr lo : Nat} (z0 : Int32) {P : Heap → Prop} (hM : Tr l yX7_examine cX7_examine 4 (Option.some FieldType.int) fr lo G [.ref x, .int z0] P "java/lang/IllegalStateException") : WW l yL_examine cL_examine 4 (Option.some FieldType.int) [(0, 9, 12, 32), (0, 9, 15, 81)] (fr + 1) (8 + (4 + 11) + lo) 1 6 G [.ref x, .int z0, .ref ou] (fun H9 => P H9 ∧ ∃ vs, At G x (.inr (7, vs)) H9) (fun _ => False) (fun v9 H9 => v9 = some (.int 2)) := by
  refine WW.ofW (by decide) (Nat.le_of_ble_eq_true rfl) (fun p e s m below meth c ls E hG hE hP hr hk htab hl => ?_)
  have hS : va_S (fun _ => False) s.heap s.heap [] := va_S.rf
  have hx := E.1
  have hb := E.2.1
  have hl : lv_has ls 4 [(0, .ref x), (1, .int z0), (2, .ref ou)] := hl
  obtain ⟨hP1, vs, hX⟩ := hP
  refine lv_aload_n hx hb dL_examine_0 rfl (lv_at hl 2 rfl) ?_
  refine lv_iconst (v := 0) hx hb dL_examine_1 rfl ?_
  refine lv_aload_n hx hb dL_examine_2 rfl (lv_at hl 0 rfl) ?_
  refine lv_iload_n hx hb dL_examine_3 rfl (lv_at hl 1 rfl) ?_
  refine Tr.catchV (rest := [.int 0, .ref ou]) (name := "java/lang/IllegalStateException") hM yk_X7_examine E km_L_83 dL_examine_4 hG hE hP1 (At.recv hG hX rfl) rfl rfl hl.1 ⟨Nat.le_refl _, Nat.le_refl _⟩ ⟨Nat.le_refl 1, Nat.le_refl 6⟩ (Nat.le_of_ble_eq_true rfl) [(⟨0, 9, 12, 32⟩ : ExceptionTableEntry)] (⟨0, 9, 15, 81⟩ : ExceptionTableEntry) [] htab (fun z hz => by have hz := List.mem_singleton.mp hz; (subst hz; exact Or.inr ⟨by decide, "java/lang/IndexOutOfBoundsException", E.2.2.2.2 _ kl_L_32, hG.2.2.2.2.2.2.2.2.1⟩)) (by decide) (by decide) kl_L_81 (va_Nw.use rfl hG.2.2.2.2.2.2.1.2.2.2) (fun H q hz hq => ?_)
  have hS : va_S (fun _ => False) s.heap H [] := ⟨hz, fun q9 h9 _ => hq q9 h9, fun _ h9 => by cases h9⟩
  refine lv_astore_n (lv' := [(3, .ref q), (0, .ref x), (1, .int z0), (2, .ref ou)]) hx hb dL_examine_15 rfl hl (by decide) rfl (fun ls hl => ?_)
  refine lv_iconst (v := 2) hx hb dL_examine_16 rfl ?_
  exact wr_int E hr hk hS (show 0 + 1 ≤ 1 by omega) (show 0 + 6 ≤ 6 by omega) (rfl) dL_examine_17

set_option maxHeartbeats 4000000 in
set_option maxRecDepth 100000 in
/-- waive: it answers -/
theorem w_L_waive (l : Launch) (G : CG) {x ou fr lo mc ms : Nat} (z0 : Int32) {P : Heap → Prop} {A : Nat → Prop} {Q : Int32 → Heap → Prop} {f : Nat → Int64} (hM : Wr l yX7_waive cX7_waive 3 (Option.some FieldType.int) fr lo mc ms G [.ref x, .int z0] P A (fun v9 H9 => ∃ r, v9 = some (.int r) ∧ Q r H9)) (hAo : ¬ A ou) (hst : ∀ r H H1, H1.size = H.size → (∀ q : Nat, q ≠ ou → H1[q]? = H[q]?) → Q r H → Q r H1) : WW l yL_waive cL_waive 4 (Option.some FieldType.int) [(0, 9, 12, 32), (0, 9, 15, 81)] (fr + 1) (8 + (3 + 11) + lo) mc ms G [.ref x, .int z0, .ref ou] (fun H9 => P H9 ∧ (∃ vs, At G x (.inr (7, vs)) H9) ∧ At G ou (lA G f) H9) (fun q9 => A q9 ∨ q9 = ou) (fun v9 H9 => v9 = some (.int 0) ∧ ∃ r, Q r H9 ∧ At G ou (lA G (vp_updL f 0 r.toInt64)) H9) := by
  refine WW.ofW (by decide) (Nat.le_of_ble_eq_true rfl) (fun p e s m below meth c ls E hG hE hP hr hk htab hl => ?_)
  have hS : va_S (fun q9 => A q9 ∨ q9 = ou) s.heap s.heap [] := va_S.rf
  have hx := E.1
  have hb := E.2.1
  have hl : lv_has ls 4 [(0, .ref x), (1, .int z0), (2, .ref ou)] := hl
  obtain ⟨hP1, ⟨vs, hX⟩, hO⟩ := hP
  refine lv_aload_n hx hb dL_waive_0 rfl (lv_at hl 2 rfl) ?_
  refine lv_iconst (v := 0) hx hb dL_waive_1 rfl ?_
  refine lv_aload_n hx hb dL_waive_2 rfl (lv_at hl 0 rfl) ?_
  refine lv_iload_n hx hb dL_waive_3 rfl (lv_at hl 1 rfl) ?_
  refine Wr.callV (rest := [.int 0, .ref ou]) hM yk_X7_waive E km_L_86 dL_waive_4 hG hE hP1 (At.recv hG hX rfl) rfl rfl hl.1 ⟨Nat.le_refl _, Nat.le_refl _⟩ ⟨show 0 + mc ≤ mc by omega, show 0 + ms ≤ ms by omega⟩ (Nat.le_of_ble_eq_true rfl) hS (fun _ h9 => Or.inl h9) (fun v9 H locs hq hz9 hfr9 hS => ?_)
  obtain ⟨r, rfl, hQ⟩ := hq
  have f_o : At G ou (lA G f) H := va_at.kept hO (hfr9 _ (va_at.lt hO) hAo)
  refine lv_i2l (v := r.toInt64) hx hb dL_waive_7 rfl ?_
  refine g_lst 0 E hG f_o rfl (by decide) (by decide) hS (Or.inr rfl) dL_waive_8 (fun H locs f_o hz oq hS => ?_)
  refine lv_goto (tgt := 18) hx hb dL_waive_9 (by decide) ?_
  refine lv_iconst (v := 0) hx hb dL_waive_18 rfl ?_
  exact wr_int E hr hk hS (show 0 + mc ≤ mc by omega) (show 0 + ms ≤ ms by omega) (⟨rfl, r, hst r _ _ hz oq hQ, f_o⟩) dL_waive_19

set_option maxHeartbeats 4000000 in
set_option maxRecDepth 100000 in
/-- waive: it throws -/
theorem w_L_waive_t1 (l : Launch) (G : CG) {x ou fr lo : Nat} (z0 : Int32) {P : Heap → Prop} (hM : Tr l yX7_waive cX7_waive 3 (Option.some FieldType.int) fr lo G [.ref x, .int z0] P "java/lang/IndexOutOfBoundsException") : WW l yL_waive cL_waive 4 (Option.some FieldType.int) [(0, 9, 12, 32), (0, 9, 15, 81)] (fr + 1) (8 + (3 + 11) + lo) 1 6 G [.ref x, .int z0, .ref ou] (fun H9 => P H9 ∧ ∃ vs, At G x (.inr (7, vs)) H9) (fun _ => False) (fun v9 H9 => v9 = some (.int 1)) := by
  refine WW.ofW (by decide) (Nat.le_of_ble_eq_true rfl) (fun p e s m below meth c ls E hG hE hP hr hk htab hl => ?_)
  have hS : va_S (fun _ => False) s.heap s.heap [] := va_S.rf
  have hx := E.1
  have hb := E.2.1
  have hl : lv_has ls 4 [(0, .ref x), (1, .int z0), (2, .ref ou)] := hl
  obtain ⟨hP1, vs, hX⟩ := hP
  refine lv_aload_n hx hb dL_waive_0 rfl (lv_at hl 2 rfl) ?_
  refine lv_iconst (v := 0) hx hb dL_waive_1 rfl ?_
  refine lv_aload_n hx hb dL_waive_2 rfl (lv_at hl 0 rfl) ?_
  refine lv_iload_n hx hb dL_waive_3 rfl (lv_at hl 1 rfl) ?_
  refine Tr.catchV (rest := [.int 0, .ref ou]) (name := "java/lang/IndexOutOfBoundsException") hM yk_X7_waive E km_L_86 dL_waive_4 hG hE hP1 (At.recv hG hX rfl) rfl rfl hl.1 ⟨Nat.le_refl _, Nat.le_refl _⟩ ⟨Nat.le_refl 1, Nat.le_refl 6⟩ (Nat.le_of_ble_eq_true rfl) [] (⟨0, 9, 12, 32⟩ : ExceptionTableEntry) [(⟨0, 9, 15, 81⟩ : ExceptionTableEntry)] htab (fun z hz => by cases hz) (by decide) (by decide) kl_L_32 (va_Nw.use rfl hG.2.2.2.2.2.2.1.2.2.1) (fun H q hz hq => ?_)
  have hS : va_S (fun _ => False) s.heap H [] := ⟨hz, fun q9 h9 _ => hq q9 h9, fun _ h9 => by cases h9⟩
  refine lv_astore_n (lv' := [(3, .ref q), (0, .ref x), (1, .int z0), (2, .ref ou)]) hx hb dL_waive_12 rfl hl (by decide) rfl (fun ls hl => ?_)
  refine lv_iconst (v := 1) hx hb dL_waive_13 rfl ?_
  exact wr_int E hr hk hS (show 0 + 1 ≤ 1 by omega) (show 0 + 6 ≤ 6 by omega) (rfl) dL_waive_14

set_option maxHeartbeats 4000000 in
set_option maxRecDepth 100000 in
/-- waive: it throws -/
theorem w_L_waive_t2 (l : Launch) (G : CG) {x ou fr lo : Nat} (z0 : Int32) {P : Heap → Prop} (hM : Tr l yX7_waive cX7_waive 3 (Option.some FieldType.int) fr lo G [.ref x, .int z0] P "java/lang/IllegalStateException") : WW l yL_waive cL_waive 4 (Option.some FieldType.int) [(0, 9, 12, 32), (0, 9, 15, 81)] (fr + 1) (8 + (3 + 11) + lo) 1 6 G [.ref x, .int z0, .ref ou] (fun H9 => P H9 ∧ ∃ vs, At G x (.inr (7, vs)) H9) (fun _ => False) (fun v9 H9 => v9 = some (.int 2)) := by
  refine WW.ofW (by decide) (Nat.le_of_ble_eq_true rfl) (fun p e s m below meth c ls E hG hE hP hr hk htab hl => ?_)
  have hS : va_S (fun _ => False) s.heap s.heap [] := va_S.rf
  have hx := E.1
  have hb := E.2.1
  have hl : lv_has ls 4 [(0, .ref x), (1, .int z0), (2, .ref ou)] := hl
  obtain ⟨hP1, vs, hX⟩ := hP
  refine lv_aload_n hx hb dL_waive_0 rfl (lv_at hl 2 rfl) ?_
  refine lv_iconst (v := 0) hx hb dL_waive_1 rfl ?_
  refine lv_aload_n hx hb dL_waive_2 rfl (lv_at hl 0 rfl) ?_
  refine lv_iload_n hx hb dL_waive_3 rfl (lv_at hl 1 rfl) ?_
  refine Tr.catchV (rest := [.int 0, .ref ou]) (name := "java/lang/IllegalStateException") hM yk_X7_waive E km_L_86 dL_waive_4 hG hE hP1 (At.recv hG hX rfl) rfl rfl hl.1 ⟨Nat.le_refl _, Nat.le_refl _⟩ ⟨Nat.le_refl 1, Nat.le_refl 6⟩ (Nat.le_of_ble_eq_true rfl) [(⟨0, 9, 12, 32⟩ : ExceptionTableEntry)] (⟨0, 9, 15, 81⟩ : ExceptionTableEntry) [] htab (fun z hz => by have hz := List.mem_singleton.mp hz; (subst hz; exact Or.inr ⟨by decide, "java/lang/IndexOutOfBoundsException", E.2.2.2.2 _ kl_L_32, hG.2.2.2.2.2.2.2.2.1⟩)) (by decide) (by decide) kl_L_81 (va_Nw.use rfl hG.2.2.2.2.2.2.1.2.2.2) (fun H q hz hq => ?_)
  have hS : va_S (fun _ => False) s.heap H [] := ⟨hz, fun q9 h9 _ => hq q9 h9, fun _ h9 => by cases h9⟩
  refine lv_astore_n (lv' := [(3, .ref q), (0, .ref x), (1, .int z0), (2, .ref ou)]) hx hb dL_waive_15 rfl hl (by decide) rfl (fun ls hl => ?_)
  refine lv_iconst (v := 2) hx hb dL_waive_16 rfl ?_
  exact wr_int E hr hk hS (show 0 + 1 ≤ 1 by omega) (show 0 + 6 ≤ 6 by omega) (rfl) dL_waive_17

set_option maxHeartbeats 4000000 in
set_option maxRecDepth 100000 in
/-- refuse: it answers -/
theorem w_L_refuse (l : Launch) (G : CG) {x ou fr lo mc ms : Nat} (z0 : Int32) {P : Heap → Prop} {A : Nat → Prop} {Q : Int32 → Heap → Prop} {f : Nat → Int64} (hM : Wr l yX7_refuse cX7_refuse 3 (Option.some FieldType.int) fr lo mc ms G [.ref x, .int z0] P A (fun v9 H9 => ∃ r, v9 = some (.int r) ∧ Q r H9)) (hAo : ¬ A ou) (hst : ∀ r H H1, H1.size = H.size → (∀ q : Nat, q ≠ ou → H1[q]? = H[q]?) → Q r H → Q r H1) : WW l yL_refuse cL_refuse 4 (Option.some FieldType.int) [(0, 9, 12, 32), (0, 9, 15, 81)] (fr + 1) (8 + (3 + 11) + lo) mc ms G [.ref x, .int z0, .ref ou] (fun H9 => P H9 ∧ (∃ vs, At G x (.inr (7, vs)) H9) ∧ At G ou (lA G f) H9) (fun q9 => A q9 ∨ q9 = ou) (fun v9 H9 => v9 = some (.int 0) ∧ ∃ r, Q r H9 ∧ At G ou (lA G (vp_updL f 0 r.toInt64)) H9) := by
  refine WW.ofW (by decide) (Nat.le_of_ble_eq_true rfl) (fun p e s m below meth c ls E hG hE hP hr hk htab hl => ?_)
  have hS : va_S (fun q9 => A q9 ∨ q9 = ou) s.heap s.heap [] := va_S.rf
  have hx := E.1
  have hb := E.2.1
  have hl : lv_has ls 4 [(0, .ref x), (1, .int z0), (2, .ref ou)] := hl
  obtain ⟨hP1, ⟨vs, hX⟩, hO⟩ := hP
  refine lv_aload_n hx hb dL_refuse_0 rfl (lv_at hl 2 rfl) ?_
  refine lv_iconst (v := 0) hx hb dL_refuse_1 rfl ?_
  refine lv_aload_n hx hb dL_refuse_2 rfl (lv_at hl 0 rfl) ?_
  refine lv_iload_n hx hb dL_refuse_3 rfl (lv_at hl 1 rfl) ?_
  refine Wr.callV (rest := [.int 0, .ref ou]) hM yk_X7_refuse E km_L_89 dL_refuse_4 hG hE hP1 (At.recv hG hX rfl) rfl rfl hl.1 ⟨Nat.le_refl _, Nat.le_refl _⟩ ⟨show 0 + mc ≤ mc by omega, show 0 + ms ≤ ms by omega⟩ (Nat.le_of_ble_eq_true rfl) hS (fun _ h9 => Or.inl h9) (fun v9 H locs hq hz9 hfr9 hS => ?_)
  obtain ⟨r, rfl, hQ⟩ := hq
  have f_o : At G ou (lA G f) H := va_at.kept hO (hfr9 _ (va_at.lt hO) hAo)
  refine lv_i2l (v := r.toInt64) hx hb dL_refuse_7 rfl ?_
  refine g_lst 0 E hG f_o rfl (by decide) (by decide) hS (Or.inr rfl) dL_refuse_8 (fun H locs f_o hz oq hS => ?_)
  refine lv_goto (tgt := 18) hx hb dL_refuse_9 (by decide) ?_
  refine lv_iconst (v := 0) hx hb dL_refuse_18 rfl ?_
  exact wr_int E hr hk hS (show 0 + mc ≤ mc by omega) (show 0 + ms ≤ ms by omega) (⟨rfl, r, hst r _ _ hz oq hQ, f_o⟩) dL_refuse_19

set_option maxHeartbeats 4000000 in
set_option maxRecDepth 100000 in
/-- refuse: it throws -/
theorem w_L_refuse_t1 (l : Launch) (G : CG) {x ou fr lo : Nat} (z0 : Int32) {P : Heap → Prop} (hM : Tr l yX7_refuse cX7_refuse 3 (Option.some FieldType.int) fr lo G [.ref x, .int z0] P "java/lang/IndexOutOfBoundsException") : WW l yL_refuse cL_refuse 4 (Option.some FieldType.int) [(0, 9, 12, 32), (0, 9, 15, 81)] (fr + 1) (8 + (3 + 11) + lo) 1 6 G [.ref x, .int z0, .ref ou] (fun H9 => P H9 ∧ ∃ vs, At G x (.inr (7, vs)) H9) (fun _ => False) (fun v9 H9 => v9 = some (.int 1)) := by
  refine WW.ofW (by decide) (Nat.le_of_ble_eq_true rfl) (fun p e s m below meth c ls E hG hE hP hr hk htab hl => ?_)
  have hS : va_S (fun _ => False) s.heap s.heap [] := va_S.rf
  have hx := E.1
  have hb := E.2.1
  have hl : lv_has ls 4 [(0, .ref x), (1, .int z0), (2, .ref ou)] := hl
  obtain ⟨hP1, vs, hX⟩ := hP
  refine lv_aload_n hx hb dL_refuse_0 rfl (lv_at hl 2 rfl) ?_
  refine lv_iconst (v := 0) hx hb dL_refuse_1 rfl ?_
  refine lv_aload_n hx hb dL_refuse_2 rfl (lv_at hl 0 rfl) ?_
  refine lv_iload_n hx hb dL_refuse_3 rfl (lv_at hl 1 rfl) ?_
  refine Tr.catchV (rest := [.int 0, .ref ou]) (name := "java/lang/IndexOutOfBoundsException") hM yk_X7_refuse E km_L_89 dL_refuse_4 hG hE hP1 (At.recv hG hX rfl) rfl rfl hl.1 ⟨Nat.le_refl _, Nat.le_refl _⟩ ⟨Nat.le_refl 1, Nat.le_refl 6⟩ (Nat.le_of_ble_eq_true rfl) [] (⟨0, 9, 12, 32⟩ : ExceptionTableEntry) [(⟨0, 9, 15, 81⟩ : ExceptionTableEntry)] htab (fun z hz => by cases hz) (by decide) (by decide) kl_L_32 (va_Nw.use rfl hG.2.2.2.2.2.2.1.2.2.1) (fun H q hz hq => ?_)
  have hS : va_S (fun _ => False) s.heap H [] := ⟨hz, fun q9 h9 _ => hq q9 h9, fun _ h9 => by cases h9⟩
  refine lv_astore_n (lv' := [(3, .ref q), (0, .ref x), (1, .int z0), (2, .ref ou)]) hx hb dL_refuse_12 rfl hl (by decide) rfl (fun ls hl => ?_)
  refine lv_iconst (v := 1) hx hb dL_refuse_13 rfl ?_
  exact wr_int E hr hk hS (show 0 + 1 ≤ 1 by omega) (show 0 + 6 ≤ 6 by omega) (rfl) dL_refuse_14

set_option maxHeartbeats 4000000 in
set_option maxRecDepth 100000 in
/-- refuse: it throws -/
theorem w_L_refuse_t2 (l : Launch) (G : CG) {x ou fr lo : Nat} (z0 : Int32) {P : Heap → Prop} (hM : Tr l yX7_refuse cX7_refuse 3 (Option.some FieldType.int) fr lo G [.ref x, .int z0] P "java/lang/IllegalStateException") : WW l yL_refuse cL_refuse 4 (Option.some FieldType.int) [(0, 9, 12, 32), (0, 9, 15, 81)] (fr + 1) (8 + (3 + 11) + lo) 1 6 G [.ref x, .int z0, .ref ou] (fun H9 => P H9 ∧ ∃ vs, At G x (.inr (7, vs)) H9) (fun _ => False) (fun v9 H9 => v9 = some (.int 2)) := by
  refine WW.ofW (by decide) (Nat.le_of_ble_eq_true rfl) (fun p e s m below meth c ls E hG hE hP hr hk htab hl => ?_)
  have hS : va_S (fun _ => False) s.heap s.heap [] := va_S.rf
  have hx := E.1
  have hb := E.2.1
  have hl : lv_has ls 4 [(0, .ref x), (1, .int z0), (2, .ref ou)] := hl
  obtain ⟨hP1, vs, hX⟩ := hP
  refine lv_aload_n hx hb dL_refuse_0 rfl (lv_at hl 2 rfl) ?_
  refine lv_iconst (v := 0) hx hb dL_refuse_1 rfl ?_
  refine lv_aload_n hx hb dL_refuse_2 rfl (lv_at hl 0 rfl) ?_
  refine lv_iload_n hx hb dL_refuse_3 rfl (lv_at hl 1 rfl) ?_
  refine Tr.catchV (rest := [.int 0, .ref ou]) (name := "java/lang/IllegalStateException") hM yk_X7_refuse E km_L_89 dL_refuse_4 hG hE hP1 (At.recv hG hX rfl) rfl rfl hl.1 ⟨Nat.le_refl _, Nat.le_refl _⟩ ⟨Nat.le_refl 1, Nat.le_refl 6⟩ (Nat.le_of_ble_eq_true rfl) [(⟨0, 9, 12, 32⟩ : ExceptionTableEntry)] (⟨0, 9, 15, 81⟩ : ExceptionTableEntry) [] htab (fun z hz => by have hz := List.mem_singleton.mp hz; (subst hz; exact Or.inr ⟨by decide, "java/lang/IndexOutOfBoundsException", E.2.2.2.2 _ kl_L_32, hG.2.2.2.2.2.2.2.2.1⟩)) (by decide) (by decide) kl_L_81 (va_Nw.use rfl hG.2.2.2.2.2.2.1.2.2.2) (fun H q hz hq => ?_)
  have hS : va_S (fun _ => False) s.heap H [] := ⟨hz, fun q9 h9 _ => hq q9 h9, fun _ h9 => by cases h9⟩
  refine lv_astore_n (lv' := [(3, .ref q), (0, .ref x), (1, .int z0), (2, .ref ou)]) hx hb dL_refuse_15 rfl hl (by decide) rfl (fun ls hl => ?_)
  refine lv_iconst (v := 2) hx hb dL_refuse_16 rfl ?_
  exact wr_int E hr hk hS (show 0 + 1 ≤ 1 by omega) (show 0 + 6 ≤ 6 by omega) (rfl) dL_refuse_17

set_option maxHeartbeats 4000000 in
set_option maxRecDepth 100000 in
/-- transfer: it answers -/
theorem w_L_transfer (l : Launch) (G : CG) {x ou fr lo mc ms : Nat} (z0 : Int32) (z1 : Int32) (z2 : Int32) {P : Heap → Prop} {A : Nat → Prop} {Q : Int32 → Heap → Prop} {f : Nat → Int64} (hM : Wr l yX7_transfer cX7_transfer 6 (Option.some FieldType.int) fr lo mc ms G [.ref x, .int z0, .int z1, .int z2] P A (fun v9 H9 => ∃ r, v9 = some (.int r) ∧ Q r H9)) (hAo : ¬ A ou) (hst : ∀ r H H1, H1.size = H.size → (∀ q : Nat, q ≠ ou → H1[q]? = H[q]?) → Q r H → Q r H1) : WW l yL_transfer cL_transfer 6 (Option.some FieldType.int) [(0, 12, 15, 32), (0, 12, 19, 13), (0, 12, 23, 81)] (fr + 1) (8 + (6 + 11) + lo) mc ms G [.ref x, .int z0, .int z1, .int z2, .ref ou] (fun H9 => P H9 ∧ (∃ vs, At G x (.inr (7, vs)) H9) ∧ At G ou (lA G f) H9) (fun q9 => A q9 ∨ q9 = ou) (fun v9 H9 => v9 = some (.int 0) ∧ ∃ r, Q r H9 ∧ At G ou (lA G (vp_updL f 0 r.toInt64)) H9) := by
  refine WW.ofW (by decide) (Nat.le_of_ble_eq_true rfl) (fun p e s m below meth c ls E hG hE hP hr hk htab hl => ?_)
  have hS : va_S (fun q9 => A q9 ∨ q9 = ou) s.heap s.heap [] := va_S.rf
  have hx := E.1
  have hb := E.2.1
  have hl : lv_has ls 6 [(0, .ref x), (1, .int z0), (2, .int z1), (3, .int z2), (4, .ref ou)] := hl
  obtain ⟨hP1, ⟨vs, hX⟩, hO⟩ := hP
  refine lv_aload hx hb dL_transfer_0 (lv_at hl 4 rfl) ?_
  refine lv_iconst (v := 0) hx hb dL_transfer_2 rfl ?_
  refine lv_aload_n hx hb dL_transfer_3 rfl (lv_at hl 0 rfl) ?_
  refine lv_iload_n hx hb dL_transfer_4 rfl (lv_at hl 1 rfl) ?_
  refine lv_iload_n hx hb dL_transfer_5 rfl (lv_at hl 2 rfl) ?_
  refine lv_iload_n hx hb dL_transfer_6 rfl (lv_at hl 3 rfl) ?_
  refine Wr.callV (rest := [.int 0, .ref ou]) hM yk_X7_transfer E km_L_92 dL_transfer_7 hG hE hP1 (At.recv hG hX rfl) rfl rfl hl.1 ⟨Nat.le_refl _, Nat.le_refl _⟩ ⟨show 0 + mc ≤ mc by omega, show 0 + ms ≤ ms by omega⟩ (Nat.le_of_ble_eq_true rfl) hS (fun _ h9 => Or.inl h9) (fun v9 H locs hq hz9 hfr9 hS => ?_)
  obtain ⟨r, rfl, hQ⟩ := hq
  have f_o : At G ou (lA G f) H := va_at.kept hO (hfr9 _ (va_at.lt hO) hAo)
  refine lv_i2l (v := r.toInt64) hx hb dL_transfer_10 rfl ?_
  refine g_lst 0 E hG f_o rfl (by decide) (by decide) hS (Or.inr rfl) dL_transfer_11 (fun H locs f_o hz oq hS => ?_)
  refine lv_goto (tgt := 27) hx hb dL_transfer_12 (by decide) ?_
  refine lv_iconst (v := 0) hx hb dL_transfer_27 rfl ?_
  exact wr_int E hr hk hS (show 0 + mc ≤ mc by omega) (show 0 + ms ≤ ms by omega) (⟨rfl, r, hst r _ _ hz oq hQ, f_o⟩) dL_transfer_28

set_option maxHeartbeats 4000000 in
set_option maxRecDepth 100000 in
/-- transfer: it throws -/
theorem w_L_transfer_t1 (l : Launch) (G : CG) {x ou fr lo : Nat} (z0 : Int32) (z1 : Int32) (z2 : Int32) {P : Heap → Prop} (hM : Tr l yX7_transfer cX7_transfer 6 (Option.some FieldType.int) fr lo G [.ref x, .int z0, .int z1, .int z2] P "java/lang/IndexOutOfBoundsException") : WW l yL_transfer cL_transfer 6 (Option.some FieldType.int) [(0, 12, 15, 32), (0, 12, 19, 13), (0, 12, 23, 81)] (fr + 1) (8 + (6 + 11) + lo) 1 6 G [.ref x, .int z0, .int z1, .int z2, .ref ou] (fun H9 => P H9 ∧ ∃ vs, At G x (.inr (7, vs)) H9) (fun _ => False) (fun v9 H9 => v9 = some (.int 1)) := by
  refine WW.ofW (by decide) (Nat.le_of_ble_eq_true rfl) (fun p e s m below meth c ls E hG hE hP hr hk htab hl => ?_)
  have hS : va_S (fun _ => False) s.heap s.heap [] := va_S.rf
  have hx := E.1
  have hb := E.2.1
  have hl : lv_has ls 6 [(0, .ref x), (1, .int z0), (2, .int z1), (3, .int z2), (4, .ref ou)] := hl
  obtain ⟨hP1, vs, hX⟩ := hP
  refine lv_aload hx hb dL_transfer_0 (lv_at hl 4 rfl) ?_
  refine lv_iconst (v := 0) hx hb dL_transfer_2 rfl ?_
  refine lv_aload_n hx hb dL_transfer_3 rfl (lv_at hl 0 rfl) ?_
  refine lv_iload_n hx hb dL_transfer_4 rfl (lv_at hl 1 rfl) ?_
  refine lv_iload_n hx hb dL_transfer_5 rfl (lv_at hl 2 rfl) ?_
  refine lv_iload_n hx hb dL_transfer_6 rfl (lv_at hl 3 rfl) ?_
  refine Tr.catchV (rest := [.int 0, .ref ou]) (name := "java/lang/IndexOutOfBoundsException") hM yk_X7_transfer E km_L_92 dL_transfer_7 hG hE hP1 (At.recv hG hX rfl) rfl rfl hl.1 ⟨Nat.le_refl _, Nat.le_refl _⟩ ⟨Nat.le_refl 1, Nat.le_refl 6⟩ (Nat.le_of_ble_eq_true rfl) [] (⟨0, 12, 15, 32⟩ : ExceptionTableEntry) [(⟨0, 12, 19, 13⟩ : ExceptionTableEntry), (⟨0, 12, 23, 81⟩ : ExceptionTableEntry)] htab (fun z hz => by cases hz) (by decide) (by decide) kl_L_32 (va_Nw.use rfl hG.2.2.2.2.2.2.1.2.2.1) (fun H q hz hq => ?_)
  have hS : va_S (fun _ => False) s.heap H [] := ⟨hz, fun q9 h9 _ => hq q9 h9, fun _ h9 => by cases h9⟩
  refine lv_astore (lv' := [(5, .ref q), (0, .ref x), (1, .int z0), (2, .int z1), (3, .int z2), (4, .ref ou)]) hx hb dL_transfer_15 hl (by decide) rfl (fun ls hl => ?_)
  refine lv_iconst (v := 1) hx hb dL_transfer_17 rfl ?_
  exact wr_int E hr hk hS (show 0 + 1 ≤ 1 by omega) (show 0 + 6 ≤ 6 by omega) (rfl) dL_transfer_18

set_option maxHeartbeats 4000000 in
set_option maxRecDepth 100000 in
/-- transfer: it throws -/
theorem w_L_transfer_t2 (l : Launch) (G : CG) {x ou fr lo : Nat} (z0 : Int32) (z1 : Int32) (z2 : Int32) {P : Heap → Prop} (hM : Tr l yX7_transfer cX7_transfer 6 (Option.some FieldType.int) fr lo G [.ref x, .int z0, .int z1, .int z2] P "java/lang/IllegalArgumentException") : WW l yL_transfer cL_transfer 6 (Option.some FieldType.int) [(0, 12, 15, 32), (0, 12, 19, 13), (0, 12, 23, 81)] (fr + 1) (8 + (6 + 11) + lo) 1 6 G [.ref x, .int z0, .int z1, .int z2, .ref ou] (fun H9 => P H9 ∧ ∃ vs, At G x (.inr (7, vs)) H9) (fun _ => False) (fun v9 H9 => v9 = some (.int 2)) := by
  refine WW.ofW (by decide) (Nat.le_of_ble_eq_true rfl) (fun p e s m below meth c ls E hG hE hP hr hk htab hl => ?_)
  have hS : va_S (fun _ => False) s.heap s.heap [] := va_S.rf
  have hx := E.1
  have hb := E.2.1
  have hl : lv_has ls 6 [(0, .ref x), (1, .int z0), (2, .int z1), (3, .int z2), (4, .ref ou)] := hl
  obtain ⟨hP1, vs, hX⟩ := hP
  refine lv_aload hx hb dL_transfer_0 (lv_at hl 4 rfl) ?_
  refine lv_iconst (v := 0) hx hb dL_transfer_2 rfl ?_
  refine lv_aload_n hx hb dL_transfer_3 rfl (lv_at hl 0 rfl) ?_
  refine lv_iload_n hx hb dL_transfer_4 rfl (lv_at hl 1 rfl) ?_
  refine lv_iload_n hx hb dL_transfer_5 rfl (lv_at hl 2 rfl) ?_
  refine lv_iload_n hx hb dL_transfer_6 rfl (lv_at hl 3 rfl) ?_
  refine Tr.catchV (rest := [.int 0, .ref ou]) (name := "java/lang/IllegalArgumentException") hM yk_X7_transfer E km_L_92 dL_transfer_7 hG hE hP1 (At.recv hG hX rfl) rfl rfl hl.1 ⟨Nat.le_refl _, Nat.le_refl _⟩ ⟨Nat.le_refl 1, Nat.le_refl 6⟩ (Nat.le_of_ble_eq_true rfl) [(⟨0, 12, 15, 32⟩ : ExceptionTableEntry)] (⟨0, 12, 19, 13⟩ : ExceptionTableEntry) [(⟨0, 12, 23, 81⟩ : ExceptionTableEntry)] htab (fun z hz => by have hz := List.mem_singleton.mp hz; (subst hz; exact Or.inr ⟨by decide, "java/lang/IndexOutOfBoundsException", E.2.2.2.2 _ kl_L_32, hG.2.2.2.2.2.2.2.1⟩)) (by decide) (by decide) kl_L_13 (va_Nw.use rfl hG.2.2.2.2.2.2.1.2.1) (fun H q hz hq => ?_)
  have hS : va_S (fun _ => False) s.heap H [] := ⟨hz, fun q9 h9 _ => hq q9 h9, fun _ h9 => by cases h9⟩
  refine lv_astore (lv' := [(5, .ref q), (0, .ref x), (1, .int z0), (2, .int z1), (3, .int z2), (4, .ref ou)]) hx hb dL_transfer_19 hl (by decide) rfl (fun ls hl => ?_)
  refine lv_iconst (v := 2) hx hb dL_transfer_21 rfl ?_
  exact wr_int E hr hk hS (show 0 + 1 ≤ 1 by omega) (show 0 + 6 ≤ 6 by omega) (rfl) dL_transfer_22

set_option maxHeartbeats 4000000 in
set_option maxRecDepth 100000 in
/-- transfer: it throws -/
theorem w_L_transfer_t3 (l : Launch) (G : CG) {x ou fr lo : Nat} (z0 : Int32) (z1 : Int32) (z2 : Int32) {P : Heap → Prop} (hM : Tr l yX7_transfer cX7_transfer 6 (Option.some FieldType.int) fr lo G [.ref x, .int z0, .int z1, .int z2] P "java/lang/IllegalStateException") : WW l yL_transfer cL_transfer 6 (Option.some FieldType.int) [(0, 12, 15, 32), (0, 12, 19, 13), (0, 12, 23, 81)] (fr + 1) (8 + (6 + 11) + lo) 1 6 G [.ref x, .int z0, .int z1, .int z2, .ref ou] (fun H9 => P H9 ∧ ∃ vs, At G x (.inr (7, vs)) H9) (fun _ => False) (fun v9 H9 => v9 = some (.int 3)) := by
  refine WW.ofW (by decide) (Nat.le_of_ble_eq_true rfl) (fun p e s m below meth c ls E hG hE hP hr hk htab hl => ?_)
  have hS : va_S (fun _ => False) s.heap s.heap [] := va_S.rf
  have hx := E.1
  have hb := E.2.1
  have hl : lv_has ls 6 [(0, .ref x), (1, .int z0), (2, .int z1), (3, .int z2), (4, .ref ou)] := hl
  obtain ⟨hP1, vs, hX⟩ := hP
  refine lv_aload hx hb dL_transfer_0 (lv_at hl 4 rfl) ?_
  refine lv_iconst (v := 0) hx hb dL_transfer_2 rfl ?_
  refine lv_aload_n hx hb dL_transfer_3 rfl (lv_at hl 0 rfl) ?_
  refine lv_iload_n hx hb dL_transfer_4 rfl (lv_at hl 1 rfl) ?_
  refine lv_iload_n hx hb dL_transfer_5 rfl (lv_at hl 2 rfl) ?_
  refine lv_iload_n hx hb dL_transfer_6 rfl (lv_at hl 3 rfl) ?_
  refine Tr.catchV (rest := [.int 0, .ref ou]) (name := "java/lang/IllegalStateException") hM yk_X7_transfer E km_L_92 dL_transfer_7 hG hE hP1 (At.recv hG hX rfl) rfl rfl hl.1 ⟨Nat.le_refl _, Nat.le_refl _⟩ ⟨Nat.le_refl 1, Nat.le_refl 6⟩ (Nat.le_of_ble_eq_true rfl) [(⟨0, 12, 15, 32⟩ : ExceptionTableEntry), (⟨0, 12, 19, 13⟩ : ExceptionTableEntry)] (⟨0, 12, 23, 81⟩ : ExceptionTableEntry) [] htab (fun z hz => by rcases List.mem_cons.mp hz with hz | hz; (subst hz; exact Or.inr ⟨by decide, "java/lang/IndexOutOfBoundsException", E.2.2.2.2 _ kl_L_32, hG.2.2.2.2.2.2.2.2.1⟩); (have hz := List.mem_singleton.mp hz; (subst hz; exact Or.inr ⟨by decide, "java/lang/IllegalArgumentException", E.2.2.2.2 _ kl_L_13, hG.2.2.2.2.2.2.2.2.2⟩))) (by decide) (by decide) kl_L_81 (va_Nw.use rfl hG.2.2.2.2.2.2.1.2.2.2) (fun H q hz hq => ?_)
  have hS : va_S (fun _ => False) s.heap H [] := ⟨hz, fun q9 h9 _ => hq q9 h9, fun _ h9 => by cases h9⟩
  refine lv_astore (lv' := [(5, .ref q), (0, .ref x), (1, .int z0), (2, .int z1), (3, .int z2), (4, .ref ou)]) hx hb dL_transfer_23 hl (by decide) rfl (fun ls hl => ?_)
  refine lv_iconst (v := 3) hx hb dL_transfer_25 rfl ?_
  exact wr_int E hr hk hS (show 0 + 1 ≤ 1 by omega) (show 0 + 6 ≤ 6 by omega) (rfl) dL_transfer_26

set_option maxHeartbeats 4000000 in
set_option maxRecDepth 100000 in
/-- pass: it answers -/
theorem w_L_pass (l : Launch) (G : CG) {x ou fr lo mc ms : Nat} (z0 : Int32) {P : Heap → Prop} {A : Nat → Prop} {Q : Int32 → Heap → Prop} {f : Nat → Int64} (hM : Wr l yX7_pass cX7_pass 2 (Option.some FieldType.int) fr lo mc ms G [.ref x, .int z0] P A (fun v9 H9 => ∃ r, v9 = some (.int r) ∧ Q r H9)) (hAo : ¬ A ou) (hst : ∀ r H H1, H1.size = H.size → (∀ q : Nat, q ≠ ou → H1[q]? = H[q]?) → Q r H → Q r H1) : WW l yL_pass cL_pass 4 (Option.some FieldType.int) [(0, 9, 12, 13), (0, 9, 15, 81)] (fr + 1) (8 + (2 + 11) + lo) mc ms G [.ref x, .int z0, .ref ou] (fun H9 => P H9 ∧ (∃ vs, At G x (.inr (7, vs)) H9) ∧ At G ou (lA G f) H9) (fun q9 => A q9 ∨ q9 = ou) (fun v9 H9 => v9 = some (.int 0) ∧ ∃ r, Q r H9 ∧ At G ou (lA G (vp_updL f 0 r.toInt64)) H9) := by
  refine WW.ofW (by decide) (Nat.le_of_ble_eq_true rfl) (fun p e s m below meth c ls E hG hE hP hr hk htab hl => ?_)
  have hS : va_S (fun q9 => A q9 ∨ q9 = ou) s.heap s.heap [] := va_S.rf
  have hx := E.1
  have hb := E.2.1
  have hl : lv_has ls 4 [(0, .ref x), (1, .int z0), (2, .ref ou)] := hl
  obtain ⟨hP1, ⟨vs, hX⟩, hO⟩ := hP
  refine lv_aload_n hx hb dL_pass_0 rfl (lv_at hl 2 rfl) ?_
  refine lv_iconst (v := 0) hx hb dL_pass_1 rfl ?_
  refine lv_aload_n hx hb dL_pass_2 rfl (lv_at hl 0 rfl) ?_
  refine lv_iload_n hx hb dL_pass_3 rfl (lv_at hl 1 rfl) ?_
  refine Wr.callV (rest := [.int 0, .ref ou]) hM yk_X7_pass E km_L_96 dL_pass_4 hG hE hP1 (At.recv hG hX rfl) rfl rfl hl.1 ⟨Nat.le_refl _, Nat.le_refl _⟩ ⟨show 0 + mc ≤ mc by omega, show 0 + ms ≤ ms by omega⟩ (Nat.le_of_ble_eq_true rfl) hS (fun _ h9 => Or.inl h9) (fun v9 H locs hq hz9 hfr9 hS => ?_)
  obtain ⟨r, rfl, hQ⟩ := hq
  have f_o : At G ou (lA G f) H := va_at.kept hO (hfr9 _ (va_at.lt hO) hAo)
  refine lv_i2l (v := r.toInt64) hx hb dL_pass_7 rfl ?_
  refine g_lst 0 E hG f_o rfl (by decide) (by decide) hS (Or.inr rfl) dL_pass_8 (fun H locs f_o hz oq hS => ?_)
  refine lv_goto (tgt := 18) hx hb dL_pass_9 (by decide) ?_
  refine lv_iconst (v := 0) hx hb dL_pass_18 rfl ?_
  exact wr_int E hr hk hS (show 0 + mc ≤ mc by omega) (show 0 + ms ≤ ms by omega) (⟨rfl, r, hst r _ _ hz oq hQ, f_o⟩) dL_pass_19

set_option maxHeartbeats 4000000 in
set_option maxRecDepth 100000 in
/-- pass: it throws -/
theorem w_L_pass_t1 (l : Launch) (G : CG) {x ou fr lo : Nat} (z0 : Int32) {P : Heap → Prop} (hM : Tr l yX7_pass cX7_pass 2 (Option.some FieldType.int) fr lo G [.ref x, .int z0] P "java/lang/IllegalArgumentException") : WW l yL_pass cL_pass 4 (Option.some FieldType.int) [(0, 9, 12, 13), (0, 9, 15, 81)] (fr + 1) (8 + (2 + 11) + lo) 1 6 G [.ref x, .int z0, .ref ou] (fun H9 => P H9 ∧ ∃ vs, At G x (.inr (7, vs)) H9) (fun _ => False) (fun v9 H9 => v9 = some (.int 1)) := by
  refine WW.ofW (by decide) (Nat.le_of_ble_eq_true rfl) (fun p e s m below meth c ls E hG hE hP hr hk htab hl => ?_)
  have hS : va_S (fun _ => False) s.heap s.heap [] := va_S.rf
  have hx := E.1
  have hb := E.2.1
  have hl : lv_has ls 4 [(0, .ref x), (1, .int z0), (2, .ref ou)] := hl
  obtain ⟨hP1, vs, hX⟩ := hP
  refine lv_aload_n hx hb dL_pass_0 rfl (lv_at hl 2 rfl) ?_
  refine lv_iconst (v := 0) hx hb dL_pass_1 rfl ?_
  refine lv_aload_n hx hb dL_pass_2 rfl (lv_at hl 0 rfl) ?_
  refine lv_iload_n hx hb dL_pass_3 rfl (lv_at hl 1 rfl) ?_
  refine Tr.catchV (rest := [.int 0, .ref ou]) (name := "java/lang/IllegalArgumentException") hM yk_X7_pass E km_L_96 dL_pass_4 hG hE hP1 (At.recv hG hX rfl) rfl rfl hl.1 ⟨Nat.le_refl _, Nat.le_refl _⟩ ⟨Nat.le_refl 1, Nat.le_refl 6⟩ (Nat.le_of_ble_eq_true rfl) [] (⟨0, 9, 12, 13⟩ : ExceptionTableEntry) [(⟨0, 9, 15, 81⟩ : ExceptionTableEntry)] htab (fun z hz => by cases hz) (by decide) (by decide) kl_L_13 (va_Nw.use rfl hG.2.2.2.2.2.2.1.2.1) (fun H q hz hq => ?_)
  have hS : va_S (fun _ => False) s.heap H [] := ⟨hz, fun q9 h9 _ => hq q9 h9, fun _ h9 => by cases h9⟩
  refine lv_astore_n (lv' := [(3, .ref q), (0, .ref x), (1, .int z0), (2, .ref ou)]) hx hb dL_pass_12 rfl hl (by decide) rfl (fun ls hl => ?_)
  refine lv_iconst (v := 1) hx hb dL_pass_13 rfl ?_
  exact wr_int E hr hk hS (show 0 + 1 ≤ 1 by omega) (show 0 + 6 ≤ 6 by omega) (rfl) dL_pass_14

set_option maxHeartbeats 4000000 in
set_option maxRecDepth 100000 in
/-- pass: it throws -/
theorem w_L_pass_t2 (l : Launch) (G : CG) {x ou fr lo : Nat} (z0 : Int32) {P : Heap → Prop} (hM : Tr l yX7_pass cX7_pass 2 (Option.some FieldType.int) fr lo G [.ref x, .int z0] P "java/lang/IllegalStateException") : WW l yL_pass cL_pass 4 (Option.some FieldType.int) [(0, 9, 12, 13), (0, 9, 15, 81)] (fr + 1) (8 + (2 + 11) + lo) 1 6 G [.ref x, .int z0, .ref ou] (fun H9 => P H9 ∧ ∃ vs, At G x (.inr (7, vs)) H9) (fun _ => False) (fun v9 H9 => v9 = some (.int 2)) := by
  refine WW.ofW (by decide) (Nat.le_of_ble_eq_true rfl) (fun p e s m below meth c ls E hG hE hP hr hk htab hl => ?_)
  have hS : va_S (fun _ => False) s.heap s.heap [] := va_S.rf
  have hx := E.1
  have hb := E.2.1
  have hl : lv_has ls 4 [(0, .ref x), (1, .int z0), (2, .ref ou)] := hl
  obtain ⟨hP1, vs, hX⟩ := hP
  refine lv_aload_n hx hb dL_pass_0 rfl (lv_at hl 2 rfl) ?_
  refine lv_iconst (v := 0) hx hb dL_pass_1 rfl ?_
  refine lv_aload_n hx hb dL_pass_2 rfl (lv_at hl 0 rfl) ?_
  refine lv_iload_n hx hb dL_pass_3 rfl (lv_at hl 1 rfl) ?_
  refine Tr.catchV (rest := [.int 0, .ref ou]) (name := "java/lang/IllegalStateException") hM yk_X7_pass E km_L_96 dL_pass_4 hG hE hP1 (At.recv hG hX rfl) rfl rfl hl.1 ⟨Nat.le_refl _, Nat.le_refl _⟩ ⟨Nat.le_refl 1, Nat.le_refl 6⟩ (Nat.le_of_ble_eq_true rfl) [(⟨0, 9, 12, 13⟩ : ExceptionTableEntry)] (⟨0, 9, 15, 81⟩ : ExceptionTableEntry) [] htab (fun z hz => by have hz := List.mem_singleton.mp hz; (subst hz; exact Or.inr ⟨by decide, "java/lang/IllegalArgumentException", E.2.2.2.2 _ kl_L_13, hG.2.2.2.2.2.2.2.2.2⟩)) (by decide) (by decide) kl_L_81 (va_Nw.use rfl hG.2.2.2.2.2.2.1.2.2.2) (fun H q hz hq => ?_)
  have hS : va_S (fun _ => False) s.heap H [] := ⟨hz, fun q9 h9 _ => hq q9 h9, fun _ h9 => by cases h9⟩
  refine lv_astore_n (lv' := [(3, .ref q), (0, .ref x), (1, .int z0), (2, .ref ou)]) hx hb dL_pass_15 rfl hl (by decide) rfl (fun ls hl => ?_)
  refine lv_iconst (v := 2) hx hb dL_pass_16 rfl ?_
  exact wr_int E hr hk hS (show 0 + 1 ≤ 1 by omega) (show 0 + 6 ≤ 6 by omega) (rfl) dL_pass_17

set_option maxHeartbeats 4000000 in
set_option maxRecDepth 100000 in
/-- load: it answers -/
theorem w_L_load (l : Launch) (G : CG) {x ou fr lo mc ms : Nat} (z0 : Int32) {P : Heap → Prop} {A : Nat → Prop} {Q : Int32 → Heap → Prop} {f : Nat → Int64} (hM : Wr l yX7_load cX7_load 3 (Option.some FieldType.int) fr lo mc ms G [.ref x, .int z0] P A (fun v9 H9 => ∃ r, v9 = some (.int r) ∧ Q r H9)) (hAo : ¬ A ou) (hst : ∀ r H H1, H1.size = H.size → (∀ q : Nat, q ≠ ou → H1[q]? = H[q]?) → Q r H → Q r H1) : WW l yL_load cL_load 4 (Option.some FieldType.int) [(0, 9, 12, 13)] (fr + 1) (8 + (3 + 11) + lo) mc ms G [.ref x, .int z0, .ref ou] (fun H9 => P H9 ∧ (∃ vs, At G x (.inr (7, vs)) H9) ∧ At G ou (lA G f) H9) (fun q9 => A q9 ∨ q9 = ou) (fun v9 H9 => v9 = some (.int 0) ∧ ∃ r, Q r H9 ∧ At G ou (lA G (vp_updL f 0 r.toInt64)) H9) := by
  refine WW.ofW (by decide) (Nat.le_of_ble_eq_true rfl) (fun p e s m below meth c ls E hG hE hP hr hk htab hl => ?_)
  have hS : va_S (fun q9 => A q9 ∨ q9 = ou) s.heap s.heap [] := va_S.rf
  have hx := E.1
  have hb := E.2.1
  have hl : lv_has ls 4 [(0, .ref x), (1, .int z0), (2, .ref ou)] := hl
  obtain ⟨hP1, ⟨vs, hX⟩, hO⟩ := hP
  refine lv_aload_n hx hb dL_load_0 rfl (lv_at hl 2 rfl) ?_
  refine lv_iconst (v := 0) hx hb dL_load_1 rfl ?_
  refine lv_aload_n hx hb dL_load_2 rfl (lv_at hl 0 rfl) ?_
  refine lv_iload_n hx hb dL_load_3 rfl (lv_at hl 1 rfl) ?_
  refine Wr.callV (rest := [.int 0, .ref ou]) hM yk_X7_load E km_L_7 dL_load_4 hG hE hP1 (At.recv hG hX rfl) rfl rfl hl.1 ⟨Nat.le_refl _, Nat.le_refl _⟩ ⟨show 0 + mc ≤ mc by omega, show 0 + ms ≤ ms by omega⟩ (Nat.le_of_ble_eq_true rfl) hS (fun _ h9 => Or.inl h9) (fun v9 H locs hq hz9 hfr9 hS => ?_)
  obtain ⟨r, rfl, hQ⟩ := hq
  have f_o : At G ou (lA G f) H := va_at.kept hO (hfr9 _ (va_at.lt hO) hAo)
  refine lv_i2l (v := r.toInt64) hx hb dL_load_7 rfl ?_
  refine g_lst 0 E hG f_o rfl (by decide) (by decide) hS (Or.inr rfl) dL_load_8 (fun H locs f_o hz oq hS => ?_)
  refine lv_goto (tgt := 15) hx hb dL_load_9 (by decide) ?_
  refine lv_iconst (v := 0) hx hb dL_load_15 rfl ?_
  exact wr_int E hr hk hS (show 0 + mc ≤ mc by omega) (show 0 + ms ≤ ms by omega) (⟨rfl, r, hst r _ _ hz oq hQ, f_o⟩) dL_load_16

set_option maxHeartbeats 4000000 in
set_option maxRecDepth 100000 in
/-- load: it throws -/
theorem w_L_load_t1 (l : Launch) (G : CG) {x ou fr lo : Nat} (z0 : Int32) {P : Heap → Prop} (hM : Tr l yX7_load cX7_load 3 (Option.some FieldType.int) fr lo G [.ref x, .int z0] P "java/lang/IllegalArgumentException") : WW l yL_load cL_load 4 (Option.some FieldType.int) [(0, 9, 12, 13)] (fr + 1) (8 + (3 + 11) + lo) 1 6 G [.ref x, .int z0, .ref ou] (fun H9 => P H9 ∧ ∃ vs, At G x (.inr (7, vs)) H9) (fun _ => False) (fun v9 H9 => v9 = some (.int 1)) := by
  refine WW.ofW (by decide) (Nat.le_of_ble_eq_true rfl) (fun p e s m below meth c ls E hG hE hP hr hk htab hl => ?_)
  have hS : va_S (fun _ => False) s.heap s.heap [] := va_S.rf
  have hx := E.1
  have hb := E.2.1
  have hl : lv_has ls 4 [(0, .ref x), (1, .int z0), (2, .ref ou)] := hl
  obtain ⟨hP1, vs, hX⟩ := hP
  refine lv_aload_n hx hb dL_load_0 rfl (lv_at hl 2 rfl) ?_
  refine lv_iconst (v := 0) hx hb dL_load_1 rfl ?_
  refine lv_aload_n hx hb dL_load_2 rfl (lv_at hl 0 rfl) ?_
  refine lv_iload_n hx hb dL_load_3 rfl (lv_at hl 1 rfl) ?_
  refine Tr.catchV (rest := [.int 0, .ref ou]) (name := "java/lang/IllegalArgumentException") hM yk_X7_load E km_L_7 dL_load_4 hG hE hP1 (At.recv hG hX rfl) rfl rfl hl.1 ⟨Nat.le_refl _, Nat.le_refl _⟩ ⟨Nat.le_refl 1, Nat.le_refl 6⟩ (Nat.le_of_ble_eq_true rfl) [] (⟨0, 9, 12, 13⟩ : ExceptionTableEntry) [] htab (fun z hz => by cases hz) (by decide) (by decide) kl_L_13 (va_Nw.use rfl hG.2.2.2.2.2.2.1.2.1) (fun H q hz hq => ?_)
  have hS : va_S (fun _ => False) s.heap H [] := ⟨hz, fun q9 h9 _ => hq q9 h9, fun _ h9 => by cases h9⟩
  refine lv_astore_n (lv' := [(3, .ref q), (0, .ref x), (1, .int z0), (2, .ref ou)]) hx hb dL_load_12 rfl hl (by decide) rfl (fun ls hl => ?_)
  refine lv_iconst (v := 1) hx hb dL_load_13 rfl ?_
  exact wr_int E hr hk hS (show 0 + 1 ≤ 1 by omega) (show 0 + 6 ≤ 6 by omega) (rfl) dL_load_14
