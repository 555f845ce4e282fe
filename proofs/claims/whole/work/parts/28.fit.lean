/-! BEST FIT: the class's search -/
def bst (room : Int32) (PF AF : Nat → Int32) : Nat → Int32 → Int32 → Int32 × Int32 → Int32 × Int32
  | 0, set, sum, st => if sum ≤ st.1 then st else (sum, set)
  | n + 1, set, sum, st => if room < sum + AF n then bst room PF AF n set sum st else bst room PF AF n (set ||| (1 <<< (PF n &&& 31))) (sum + AF n) (bst room PF AF n set sum st)
theorem bst_n {room set sum : Int32} {PF AF : Nat → Int32} {n : Nat} {st : Int32 × Int32} (h : room < sum + AF n) : bst room PF AF (n + 1) set sum st = bst room PF AF n set sum st := if_pos h
theorem bst_y {room set sum : Int32} {PF AF : Nat → Int32} {n : Nat} {st : Int32 × Int32} (h : ¬ room < sum + AF n) : bst room PF AF (n + 1) set sum st = bst room PF AF n (set ||| (1 <<< (PF n &&& 31))) (sum + AF n) (bst room PF AF n set sum st) := if_neg h
abbrev TP (G : CG) (f pp aa : Nat) (room cn : Int32) (PF AF : Nat → Int32) (bs bt : Int32) : Heap → Prop := fun H => At G f (.inr (4, [.int room, .ref pp, .ref aa, .int cn, .int bs, .int bt])) H ∧ At G pp (iA G 12 PF) H ∧ At G aa (iA G 12 AF) H
set_option maxHeartbeats 4000000 in
set_option maxRecDepth 100000 in
/-- tryAll(0, ..) -/
theorem c_X4_tryAll_0 (l : Launch) (G : CG) {f pp aa : Nat} {room cn : Int32} {PF AF : Nat → Int32} (hne1 : pp ≠ f) (hne2 : aa ≠ f) (hEf : EFA G f) (set sum bs bt : Int32) : Wr l yX4_tryAll cX4_tryAll 5 ((Option.none : Option FieldType)) 0 (24 * 0) 0 0 G [.ref f, .int (nI 0), .int set, .int sum] (TP G f pp aa room cn PF AF bs bt) (fun q9 => q9 = f) (fun v9 H9 => v9 = none ∧ TP G f pp aa room cn PF AF ((bst room PF AF 0 set sum (bs, bt)).1) ((bst room PF AF 0 set sum (bs, bt)).2) H9) := by
  refine Wr.ofW (by decide) (Nat.le_of_ble_eq_true rfl) (fun p e s m below meth c ls E hG hE hP hr hk hin hl => ?_)
  have hS : va_S (fun q9 => q9 = f) s.heap s.heap [] := va_S.rf
  have hx := E.1
  have hb := E.2.1
  have hl : lv_has ls 5 [(0, .ref f), (1, .int (nI 0)), (2, .int set), (3, .int sum)] := hl
  obtain ⟨f_f, f_pp, f_aa⟩ := hP
  have ne_pp_f := hne1
  have ne_aa_f := hne2
  have hEA : ∀ q9, q9 = f → EFA G q9 := fun q9 h9 => by rw [h9]; exact hEf
  refine lv_iload_n hx hb dX4_tryAll_0 rfl (lv_at hl 1 rfl) ?_
  refine lv_if_le (tgt := 22) hx hb dX4_tryAll_1 (by decide) (fun c_1 => ?_) (fun c_1 => ?_)
  · refine lv_iload_n hx hb dX4_tryAll_22 rfl (lv_at hl 3 rfl) ?_
    refine lv_aload_n hx hb dX4_tryAll_23 rfl (lv_at hl 0 rfl) ?_
    refine gf_X4_25 E hG f_f rfl dX4_tryAll_24 ?_
    refine lv_icmp_le (tgt := 40) hx hb dX4_tryAll_27 (by decide) (fun c_27 => ?_) (fun c_27 => ?_)
    · exact wr_void E hr hk hS (show 0 ≤ 0 by omega) (show 0 ≤ 0 by omega) (⟨rfl, by rw [show bst room PF AF 0 set sum (bs, bt) = (bs, bt) from if_pos c_27]; exact ⟨f_f, f_pp, f_aa⟩⟩) dX4_tryAll_40
    · refine lv_aload_n hx hb dX4_tryAll_30 rfl (lv_at hl 0 rfl) ?_
      refine lv_iload_n hx hb dX4_tryAll_31 rfl (lv_at hl 3 rfl) ?_
      refine pf_X4_25 E hG f_f (Nat.le_of_ble_eq_true rfl) rfl rfl hS rfl dX4_tryAll_32 (fun H locs f_f hz oq hS => ?_)
      have f_pp : At G pp (.inl (G.2.1 1, 12, .inl PF)) H := oth f_pp ne_pp_f oq
      have f_aa : At G aa (.inl (G.2.1 1, 12, .inl AF)) H := oth f_aa ne_aa_f oq
      have f_f : At G f (.inr (4, [.int room, .ref pp, .ref aa, .int cn, .int sum, .int bt])) H := f_f
      refine lv_aload_n hx hb dX4_tryAll_35 rfl (lv_at hl 0 rfl) ?_
      refine lv_iload_n hx hb dX4_tryAll_36 rfl (lv_at hl 2 rfl) ?_
      refine pf_X4_28 E hG f_f (Nat.le_of_ble_eq_true rfl) rfl rfl hS rfl dX4_tryAll_37 (fun H locs f_f hz oq hS => ?_)
      have f_pp : At G pp (.inl (G.2.1 1, 12, .inl PF)) H := oth f_pp ne_pp_f oq
      have f_aa : At G aa (.inl (G.2.1 1, 12, .inl AF)) H := oth f_aa ne_aa_f oq
      have f_f : At G f (.inr (4, [.int room, .ref pp, .ref aa, .int cn, .int sum, .int set])) H := f_f
      exact wr_void E hr hk hS (show 0 ≤ 0 by omega) (show 0 ≤ 0 by omega) (⟨rfl, by rw [show bst room PF AF 0 set sum (bs, bt) = (sum, set) from if_neg c_27]; exact ⟨f_f, f_pp, f_aa⟩⟩) dX4_tryAll_40
  · exact absurd (show nI 0 ≤ 0 by decide) c_1

set_option maxHeartbeats 4000000 in
set_option maxRecDepth 100000 in
/-- tryAll(n + 1, ..) -/
theorem c_X4_tryAll_s (l : Launch) (G : CG) {f pp aa : Nat} {room cn : Int32} {PF AF : Nat → Int32} (hne1 : pp ≠ f) (hne2 : aa ≠ f) (hEf : EFA G f) (n : Nat) (hn : n + 1 ≤ 12) (ih : ∀ (set sum bs bt : Int32), Wr l yX4_tryAll cX4_tryAll 5 (Option.none : Option FieldType) n (24 * n) 0 0 G [.ref f, .int (nI n), .int set, .int sum] (TP G f pp aa room cn PF AF bs bt) (fun q9 => q9 = f) (fun v9 H9 => v9 = none ∧ TP G f pp aa room cn PF AF ((bst room PF AF n set sum (bs, bt)).1) ((bst room PF AF n set sum (bs, bt)).2) H9)) (set sum bs bt : Int32) : Wr l yX4_tryAll cX4_tryAll 5 ((Option.none : Option FieldType)) (n + 1) (24 * (n + 1)) 0 0 G [.ref f, .int (nI (n + 1)), .int set, .int sum] (TP G f pp aa room cn PF AF bs bt) (fun q9 => q9 = f) (fun v9 H9 => v9 = none ∧ TP G f pp aa room cn PF AF ((bst room PF AF (n + 1) set sum (bs, bt)).1) ((bst room PF AF (n + 1) set sum (bs, bt)).2) H9) := by
  refine Wr.ofW (by decide) (Nat.le_of_ble_eq_true rfl) (fun p e s m below meth c ls E hG hE hP hr hk hin hl => ?_)
  have hS : va_S (fun q9 => q9 = f) s.heap s.heap [] := va_S.rf
  have hx := E.1
  have hb := E.2.1
  have hl : lv_has ls 5 [(0, .ref f), (1, .int (nI (n + 1))), (2, .int set), (3, .int sum)] := hl
  obtain ⟨f_f, f_pp, f_aa⟩ := hP
  have ne_pp_f := hne1
  have ne_aa_f := hne2
  have hEA : ∀ q9, q9 = f → EFA G q9 := fun q9 h9 => by rw [h9]; exact hEf
  refine lv_iload_n hx hb dX4_tryAll_0 rfl (lv_at hl 1 rfl) ?_
  refine lv_if_le (tgt := 22) hx hb dX4_tryAll_1 (by decide) (fun c_1 => ?_) (fun c_1 => ?_)
  · exact absurd c_1 (nI_nle (by omega) (by omega))
  · refine lv_iload_n hx hb dX4_tryAll_4 rfl (lv_at hl 1 rfl) ?_
    refine lv_aload_n hx hb dX4_tryAll_5 rfl (lv_at hl 0 rfl) ?_
    refine gf_X4_19 E hG f_f rfl dX4_tryAll_6 ?_
    refine g_len (t0 := 1) (v := 12) E hG f_aa rfl rfl dX4_tryAll_9 ?_
    refine lv_icmp_gt (tgt := 22) hx hb dX4_tryAll_10 (by decide) (fun c_10 => ?_) (fun c_10 => ?_)
    · exact absurd ((nLT (x := 12) (y := nI (n + 1)) (a := 12) (b := n + 1) rfl rfl (by omega) (by omega)).mp c_10) (by omega)
    · refine lv_iload_n hx hb dX4_tryAll_13 rfl (lv_at hl 1 rfl) ?_
      refine lv_aload_n hx hb dX4_tryAll_14 rfl (lv_at hl 0 rfl) ?_
      refine gf_X4_15 E hG f_f rfl dX4_tryAll_15 ?_
      refine g_len (t0 := 1) (v := 12) E hG f_pp rfl rfl dX4_tryAll_18 ?_
      refine lv_icmp_le (tgt := 41) hx hb dX4_tryAll_19 (by decide) (fun c_19 => ?_) (fun c_19 => ?_)
      · refine lv_iload_n hx hb dX4_tryAll_41 rfl (lv_at hl 1 rfl) ?_
        refine lv_iconst (v := 1) hx hb dX4_tryAll_42 rfl ?_
        refine lv_isub hx hb dX4_tryAll_43 ?_
        refine lv_ci (y := (nI n)) (nI_pred n) ?_
        refine lv_istore (lv' := [(4, .int (nI n)), (0, .ref f), (1, .int (nI (n + 1))), (2, .int set), (3, .int sum)]) hx hb dX4_tryAll_44 hl (by decide) rfl (fun ls hl => ?_)
        refine lv_aload_n hx hb dX4_tryAll_46 rfl (lv_at hl 1 rfl) ?_
        refine lv_iload hx hb dX4_tryAll_47 (lv_at hl 0 rfl) ?_
        refine lv_iload_n hx hb dX4_tryAll_49 rfl (lv_at hl 3 rfl) ?_
        refine lv_iload_n hx hb dX4_tryAll_50 rfl (lv_at hl 4 rfl) ?_
        refine Wr.callV (rest := []) (ih set sum bs bt) yk_X4_tryAll E km_X4_31 dX4_tryAll_51 hG (hE.S hS hEA) ⟨f_f, f_pp, f_aa⟩ (At.recv hG f_f rfl) rfl rfl hl.1 ⟨show n + 1 ≤ n + 1 by omega, show 8 + (5 + 11) + 24 * n ≤ 24 * (n + 1) by omega⟩ ⟨Nat.le_of_ble_eq_true rfl, Nat.le_of_ble_eq_true rfl⟩ (Nat.le_of_ble_eq_true rfl) hS (fun _ h9 => h9) (fun v9 H locs hq hz9 hfr9 hS => ?_)
        obtain ⟨rfl, f_f, f_pp, f_aa⟩ := hq
        refine lv_iload_n hx hb dX4_tryAll_54 rfl (lv_at hl 4 rfl) ?_
        refine lv_aload_n hx hb dX4_tryAll_55 rfl (lv_at hl 1 rfl) ?_
        refine gf_X4_19 E hG f_f rfl dX4_tryAll_56 ?_
        refine lv_iload hx hb dX4_tryAll_59 (lv_at hl 0 rfl) ?_
        refine g_ild n E hG f_aa rfl (by omega) (by omega) dX4_tryAll_61 ?_
        refine lv_iadd hx hb dX4_tryAll_62 ?_
        refine lv_aload_n hx hb dX4_tryAll_63 rfl (lv_at hl 1 rfl) ?_
        refine gf_X4_9 E hG f_f rfl dX4_tryAll_64 ?_
        refine lv_icmp_gt (tgt := 96) hx hb dX4_tryAll_67 (by decide) (fun c_67 => ?_) (fun c_67 => ?_)
        · exact wr_void E hr hk hS (show 0 ≤ 0 by omega) (show 0 ≤ 0 by omega) (⟨rfl, by first | (rw [bst_n c_67]; exact ⟨f_f, f_pp, f_aa⟩) | (rw [bst_y c_67]; exact ⟨f_f, f_pp, f_aa⟩)⟩) dX4_tryAll_96
        · refine lv_aload_n hx hb dX4_tryAll_70 rfl (lv_at hl 1 rfl) ?_
          refine lv_iload hx hb dX4_tryAll_71 (lv_at hl 0 rfl) ?_
          refine lv_iload_n hx hb dX4_tryAll_73 rfl (lv_at hl 3 rfl) ?_
          refine lv_iconst (v := 1) hx hb dX4_tryAll_74 rfl ?_
          refine lv_aload_n hx hb dX4_tryAll_75 rfl (lv_at hl 1 rfl) ?_
          refine gf_X4_15 E hG f_f rfl dX4_tryAll_76 ?_
          refine lv_iload hx hb dX4_tryAll_79 (lv_at hl 0 rfl) ?_
          refine g_ild n E hG f_pp rfl (by omega) (by omega) dX4_tryAll_81 ?_
          refine lv_ishl hx hb dX4_tryAll_82 ?_
          refine lv_ior hx hb dX4_tryAll_83 ?_
          refine lv_iload_n hx hb dX4_tryAll_84 rfl (lv_at hl 4 rfl) ?_
          refine lv_aload_n hx hb dX4_tryAll_85 rfl (lv_at hl 1 rfl) ?_
          refine gf_X4_19 E hG f_f rfl dX4_tryAll_86 ?_
          refine lv_iload hx hb dX4_tryAll_89 (lv_at hl 0 rfl) ?_
          refine g_ild n E hG f_aa rfl (by omega) (by omega) dX4_tryAll_91 ?_
          refine lv_iadd hx hb dX4_tryAll_92 ?_
          refine Wr.callV (rest := []) (ih (set ||| (1 <<< ((PF n) &&& 31))) (sum + (AF n)) ((bst room PF AF n set sum (bs, bt)).1) ((bst room PF AF n set sum (bs, bt)).2)) yk_X4_tryAll E km_X4_31 dX4_tryAll_93 hG (hE.S hS hEA) ⟨f_f, f_pp, f_aa⟩ (At.recv hG f_f rfl) rfl rfl hl.1 ⟨show n + 1 ≤ n + 1 by omega, show 8 + (5 + 11) + 24 * n ≤ 24 * (n + 1) by omega⟩ ⟨Nat.le_of_ble_eq_true rfl, Nat.le_of_ble_eq_true rfl⟩ (Nat.le_of_ble_eq_true rfl) hS (fun _ h9 => h9) (fun v9 H locs hq hz9 hfr9 hS => ?_)
          obtain ⟨rfl, f_f, f_pp, f_aa⟩ := hq
          exact wr_void E hr hk hS (show 0 ≤ 0 by omega) (show 0 ≤ 0 by omega) (⟨rfl, by first | (rw [bst_n c_67]; exact ⟨f_f, f_pp, f_aa⟩) | (rw [bst_y c_67]; exact ⟨f_f, f_pp, f_aa⟩)⟩) dX4_tryAll_96
      · exact absurd ((nLE (x := nI (n + 1)) (y := 12) (a := n + 1) (b := 12) rfl rfl (by omega) (by omega)).mpr (by omega)) c_19

theorem c_X4_tryAll (l : Launch) (G : CG) {f pp aa : Nat} {room cn : Int32} {PF AF : Nat → Int32} (hne1 : pp ≠ f) (hne2 : aa ≠ f) (hEf : EFA G f) : ∀ (n : Nat) (_ : n ≤ 12) (set sum bs bt : Int32), Wr l yX4_tryAll cX4_tryAll 5 (Option.none : Option FieldType) n (24 * n) 0 0 G [.ref f, .int (nI n), .int set, .int sum] (TP G f pp aa room cn PF AF bs bt) (fun q9 => q9 = f) (fun v9 H9 => v9 = none ∧ TP G f pp aa room cn PF AF ((bst room PF AF n set sum (bs, bt)).1) ((bst room PF AF n set sum (bs, bt)).2) H9)
  | 0, _, set, sum, bs, bt => c_X4_tryAll_0 l G hne1 hne2 hEf set sum bs bt
  | n + 1, hn, set, sum, bs, bt => c_X4_tryAll_s l G hne1 hne2 hEf n hn (fun set sum bs bt => c_X4_tryAll l G hne1 hne2 hEf n (by omega) set sum bs bt) set sum bs bt

set_option maxHeartbeats 4000000 in
set_option maxRecDepth 100000 in
/-- bestSet -/
theorem c_X4_bestSet (l : Launch) (G : CG) {f pp aa : Nat} {room : Int32} {PF AF : Nat → Int32} (hne1 : pp ≠ f) (hne2 : aa ≠ f) (hEf : EFA G f) (n : Nat) (hn : n ≤ 12) (bs bt : Int32) : Wr l yX4_bestSet cX4_bestSet 1 ((Option.some FieldType.int)) 13 400 0 0 G [.ref f] (TP G f pp aa room (nI n) PF AF bs bt) (fun q9 => q9 = f) (fun v9 H9 => v9 = some (.int (bst room PF AF n 0 0 (bs, bt)).2)) := by
  refine Wr.ofW (by decide) (Nat.le_of_ble_eq_true rfl) (fun p e s m below meth c ls E hG hE hP hr hk hin hl => ?_)
  have hS : va_S (fun q9 => q9 = f) s.heap s.heap [] := va_S.rf
  have hx := E.1
  have hb := E.2.1
  have hl : lv_has ls 1 [(0, .ref f)] := hl
  obtain ⟨f_f, f_pp, f_aa⟩ := hP
  have ne_pp_f := hne1
  have ne_aa_f := hne2
  have hEA : ∀ q9, q9 = f → EFA G q9 := fun q9 h9 => by rw [h9]; exact hEf
  refine lv_aload_n hx hb dX4_bestSet_0 rfl (lv_at hl 0 rfl) ?_
  refine lv_aload_n hx hb dX4_bestSet_1 rfl (lv_at hl 0 rfl) ?_
  refine gf_X4_22 E hG f_f rfl dX4_bestSet_2 ?_
  refine lv_iconst (v := 0) hx hb dX4_bestSet_5 rfl ?_
  refine lv_iconst (v := 0) hx hb dX4_bestSet_6 rfl ?_
  refine Wr.callV (rest := []) (c_X4_tryAll l G hne1 hne2 hEf n hn 0 0 bs bt) yk_X4_tryAll E km_X4_31 dX4_bestSet_7 hG (hE.S hS hEA) ⟨f_f, f_pp, f_aa⟩ (At.recv hG f_f rfl) rfl rfl hl.1 ⟨show n + 1 ≤ 13 by omega, show 8 + (5 + 11) + 24 * n ≤ 400 by omega⟩ ⟨Nat.le_of_ble_eq_true rfl, Nat.le_of_ble_eq_true rfl⟩ (Nat.le_of_ble_eq_true rfl) hS (fun _ h9 => h9) (fun v9 H locs hq hz9 hfr9 hS => ?_)
  obtain ⟨rfl, f_f, f_pp, f_aa⟩ := hq
  refine lv_aload_n hx hb dX4_bestSet_10 rfl (lv_at hl 0 rfl) ?_
  refine gf_X4_28 E hG f_f rfl dX4_bestSet_11 ?_
  exact wr_int E hr hk hS (show 0 ≤ 0 by omega) (show 0 ≤ 0 by omega) (rfl) dX4_bestSet_14

set_option maxHeartbeats 4000000 in
set_option maxRecDepth 100000 in
/-- addCandidate -/
theorem c_X4_addCandidate (l : Launch) (G : CG) {f pp aa : Nat} {room bs bt : Int32} {PF AF : Nat → Int32} (hne1 : pp ≠ f) (hne2 : aa ≠ f) (hne3 : pp ≠ aa) (hEf : EFA G f) (hEp : EFA G pp) (hEa : EFA G aa) (n : Nat) (hn : n < 12) (y w : Int32) : Wr l yX4_addCandidate cX4_addCandidate 3 ((Option.none : Option FieldType)) 0 0 0 0 G [.ref f, .int y, .int w] (TP G f pp aa room (nI n) PF AF bs bt) (fun q9 => q9 = f ∨ q9 = pp ∨ q9 = aa) (fun v9 H9 => v9 = none ∧ TP G f pp aa room (nI (n + 1)) (upd PF n y) (upd AF n w) bs bt H9) := by
  refine Wr.ofW (by decide) (Nat.le_of_ble_eq_true rfl) (fun p e s m below meth c ls E hG hE hP hr hk hin hl => ?_)
  have hS : va_S (fun q9 => q9 = f ∨ q9 = pp ∨ q9 = aa) s.heap s.heap [] := va_S.rf
  have hx := E.1
  have hb := E.2.1
  have hl : lv_has ls 3 [(0, .ref f), (1, .int y), (2, .int w)] := hl
  obtain ⟨f_f, f_pp, f_aa⟩ := hP
  have ne_pp_f := hne1
  have ne_aa_f := hne2
  have ne_pp_aa := hne3
  have hEA : ∀ q9, (fun q9 => q9 = f ∨ q9 = pp ∨ q9 = aa) q9 → EFA G q9 := fun q9 h9 => by rcases h9 with h9 | h9 | h9 <;> rw [h9] <;> assumption
  refine lv_aload_n hx hb dX4_addCandidate_0 rfl (lv_at hl 0 rfl) ?_
  refine gf_X4_22 E hG f_f rfl dX4_addCandidate_1 ?_
  refine lv_if_lt (tgt := 61) hx hb dX4_addCandidate_4 (by decide) (fun c_4 => ?_) (fun c_4 => ?_)
  · exact absurd c_4 (nI_pos (by omega))
  · refine lv_aload_n hx hb dX4_addCandidate_7 rfl (lv_at hl 0 rfl) ?_
    refine gf_X4_22 E hG f_f rfl dX4_addCandidate_8 ?_
    refine lv_aload_n hx hb dX4_addCandidate_11 rfl (lv_at hl 0 rfl) ?_
    refine gf_X4_19 E hG f_f rfl dX4_addCandidate_12 ?_
    refine g_len (t0 := 1) (v := 12) E hG f_aa rfl rfl dX4_addCandidate_15 ?_
    refine lv_icmp_ge (tgt := 61) hx hb dX4_addCandidate_16 (by decide) (fun c_16 => ?_) (fun c_16 => ?_)
    · exact absurd ((nLE (x := 12) (y := nI n) (a := 12) (b := n) rfl rfl (by omega) (by omega)).mp c_16) (by omega)
    · refine lv_aload_n hx hb dX4_addCandidate_19 rfl (lv_at hl 0 rfl) ?_
      refine gf_X4_22 E hG f_f rfl dX4_addCandidate_20 ?_
      refine lv_aload_n hx hb dX4_addCandidate_23 rfl (lv_at hl 0 rfl) ?_
      refine gf_X4_15 E hG f_f rfl dX4_addCandidate_24 ?_
      refine g_len (t0 := 1) (v := 12) E hG f_pp rfl rfl dX4_addCandidate_27 ?_
      refine lv_icmp_ge (tgt := 61) hx hb dX4_addCandidate_28 (by decide) (fun c_28 => ?_) (fun c_28 => ?_)
      · exact absurd ((nLE (x := 12) (y := nI n) (a := 12) (b := n) rfl rfl (by omega) (by omega)).mp c_28) (by omega)
      · refine lv_aload_n hx hb dX4_addCandidate_31 rfl (lv_at hl 0 rfl) ?_
        refine gf_X4_15 E hG f_f rfl dX4_addCandidate_32 ?_
        refine lv_aload_n hx hb dX4_addCandidate_35 rfl (lv_at hl 0 rfl) ?_
        refine gf_X4_22 E hG f_f rfl dX4_addCandidate_36 ?_
        refine lv_iload_n hx hb dX4_addCandidate_39 rfl (lv_at hl 1 rfl) ?_
        refine g_ist n E hG f_pp rfl (by omega) (by omega) hS (Or.inr (Or.inl rfl)) dX4_addCandidate_40 (fun H locs f_pp hz oq hS => ?_)
        have f_f : At G f (.inr (4, [.int room, .ref pp, .ref aa, .int (nI n), .int bs, .int bt])) H := oth f_f (Ne.symm ne_pp_f) oq
        have f_aa : At G aa (.inl (G.2.1 1, 12, .inl AF)) H := oth f_aa (Ne.symm ne_pp_aa) oq
        have f_pp : At G pp (.inl (G.2.1 1, 12, .inl (upd PF n y))) H := f_pp
        refine lv_aload_n hx hb dX4_addCandidate_41 rfl (lv_at hl 0 rfl) ?_
        refine gf_X4_19 E hG f_f rfl dX4_addCandidate_42 ?_
        refine lv_aload_n hx hb dX4_addCandidate_45 rfl (lv_at hl 0 rfl) ?_
        refine gf_X4_22 E hG f_f rfl dX4_addCandidate_46 ?_
        refine lv_iload_n hx hb dX4_addCandidate_49 rfl (lv_at hl 2 rfl) ?_
        refine g_ist n E hG f_aa rfl (by omega) (by omega) hS (Or.inr (Or.inr rfl)) dX4_addCandidate_50 (fun H locs f_aa hz oq hS => ?_)
        have f_f : At G f (.inr (4, [.int room, .ref pp, .ref aa, .int (nI n), .int bs, .int bt])) H := oth f_f (Ne.symm ne_aa_f) oq
        have f_pp : At G pp (.inl (G.2.1 1, 12, .inl (upd PF n y))) H := oth f_pp ne_pp_aa oq
        have f_aa : At G aa (.inl (G.2.1 1, 12, .inl (upd AF n w))) H := f_aa
        refine lv_aload_n hx hb dX4_addCandidate_51 rfl (lv_at hl 0 rfl) ?_
        refine lv_dup hx hb dX4_addCandidate_52 rfl ?_
        refine gf_X4_22 E hG f_f rfl dX4_addCandidate_53 ?_
        refine lv_iconst (v := 1) hx hb dX4_addCandidate_56 rfl ?_
        refine lv_iadd hx hb dX4_addCandidate_57 ?_
        refine lv_ci (y := nI (n + 1)) (ixq (nI_ad rfl rfl)) ?_
        refine pf_X4_22 E hG f_f (Nat.le_of_ble_eq_true rfl) rfl rfl hS (Or.inl rfl) dX4_addCandidate_58 (fun H locs f_f hz oq hS => ?_)
        have f_pp : At G pp (.inl (G.2.1 1, 12, .inl (upd PF n y))) H := oth f_pp ne_pp_f oq
        have f_aa : At G aa (.inl (G.2.1 1, 12, .inl (upd AF n w))) H := oth f_aa ne_aa_f oq
        have f_f : At G f (.inr (4, [.int room, .ref pp, .ref aa, .int (nI (n + 1)), .int bs, .int bt])) H := f_f
        exact wr_void E hr hk hS (show 0 ≤ 0 by omega) (show 0 ≤ 0 by omega) (⟨rfl, f_f, f_pp, f_aa⟩) dX4_addCandidate_61

set_option maxHeartbeats 4000000 in
set_option maxRecDepth 100000 in
/-- addCandidate -/
theorem c_X4_addCandidate_f (l : Launch) (G : CG) {f pp aa : Nat} {room bs bt : Int32} {PF AF : Nat → Int32} (hne1 : pp ≠ f) (hne2 : aa ≠ f) (hne3 : pp ≠ aa) (hEf : EFA G f) (hEp : EFA G pp) (hEa : EFA G aa) (n : Nat) (hn : n = 12) (y w : Int32) : Wr l yX4_addCandidate cX4_addCandidate 3 ((Option.none : Option FieldType)) 0 0 0 0 G [.ref f, .int y, .int w] (TP G f pp aa room (nI n) PF AF bs bt) (fun q9 => q9 = f ∨ q9 = pp ∨ q9 = aa) (fun v9 H9 => v9 = none ∧ TP G f pp aa room (nI n) PF AF bs bt H9) := by
  refine Wr.ofW (by decide) (Nat.le_of_ble_eq_true rfl) (fun p e s m below meth c ls E hG hE hP hr hk hin hl => ?_)
  have hS : va_S (fun q9 => q9 = f ∨ q9 = pp ∨ q9 = aa) s.heap s.heap [] := va_S.rf
  have hx := E.1
  have hb := E.2.1
  have hl : lv_has ls 3 [(0, .ref f), (1, .int y), (2, .int w)] := hl
  obtain ⟨f_f, f_pp, f_aa⟩ := hP
  have ne_pp_f := hne1
  have ne_aa_f := hne2
  have ne_pp_aa := hne3
  have hEA : ∀ q9, (fun q9 => q9 = f ∨ q9 = pp ∨ q9 = aa) q9 → EFA G q9 := fun q9 h9 => by rcases h9 with h9 | h9 | h9 <;> rw [h9] <;> assumption
  refine lv_aload_n hx hb dX4_addCandidate_0 rfl (lv_at hl 0 rfl) ?_
  refine gf_X4_22 E hG f_f rfl dX4_addCandidate_1 ?_
  refine lv_if_lt (tgt := 61) hx hb dX4_addCandidate_4 (by decide) (fun c_4 => ?_) (fun c_4 => ?_)
  · exact absurd c_4 (nI_pos (by omega))
  · refine lv_aload_n hx hb dX4_addCandidate_7 rfl (lv_at hl 0 rfl) ?_
    refine gf_X4_22 E hG f_f rfl dX4_addCandidate_8 ?_
    refine lv_aload_n hx hb dX4_addCandidate_11 rfl (lv_at hl 0 rfl) ?_
    refine gf_X4_19 E hG f_f rfl dX4_addCandidate_12 ?_
    refine g_len (t0 := 1) (v := 12) E hG f_aa rfl rfl dX4_addCandidate_15 ?_
    refine lv_icmp_ge (tgt := 61) hx hb dX4_addCandidate_16 (by decide) (fun c_16 => ?_) (fun c_16 => ?_)
    · exact wr_void E hr hk hS (show 0 ≤ 0 by omega) (show 0 ≤ 0 by omega) (⟨rfl, f_f, f_pp, f_aa⟩) dX4_addCandidate_61
    · exact absurd ((nLE (x := 12) (y := nI n) (a := 12) (b := n) rfl rfl (by omega) (by omega)).mpr (by omega)) c_16

set_option maxHeartbeats 4000000 in
set_option maxRecDepth 100000 in
/-- constructor -/
theorem c_X4_init (l : Launch) (G : CG) {f sz : Nat} (hz1 : EFA G sz) (hEf : EFA G f) (hxz : f < sz) (y : Int32) : Wr l yX4_init cX4_init 2 ((Option.none : Option FieldType)) 1 20 2 24 G [.ref f, .int y] (fun H9 => H9.size = sz ∧ At G f (.inr (4, [.int 0, .null, .null, .int 0, .int 0, .int 0])) H9) (fun q9 => q9 = f ∨ sz ≤ q9) (fun v9 H9 => v9 = none ∧ ∃ pp aa, sz ≤ pp ∧ sz ≤ aa ∧ pp ≠ aa ∧ TP G f pp aa y 0 (fun _ => 0) (fun _ => 0) 0 0 H9) := by
  refine Wr.ofW (by decide) (Nat.le_of_ble_eq_true rfl) (fun p e s m below meth c ls E hG hE hP hr hk hin hl => ?_)
  have hS : va_S (fun q9 => q9 = f ∨ sz ≤ q9) s.heap s.heap [] := va_S.rf
  have hx := E.1
  have hb := E.2.1
  have hl : lv_has ls 2 [(0, .ref f), (1, .int y)] := hl
  obtain ⟨hz0, f_f⟩ := hP
  have hEA : ∀ q9, q9 = f ∨ sz ≤ q9 → EFA G q9 := fun q9 h9 => h9.elim (fun z9 => by rw [z9]; exact hEf) (fun z9 => Nat.le_trans hz1 z9)
  refine lv_aload_n hx hb dX4_init_0 rfl (lv_at hl 0 rfl) ?_
  refine W.objInit hx hb E.2.2.2.1 (E.2.2.2.2 _ km_X4_3) (E.2.2.2.2 _ ki_objInit) (E.2.2.2.2 _ kc_objInit) rfl (by rw [E.2.2.1]; exact hl.1) rfl dX4_init_1 (Nat.le_of_ble_eq_true rfl) (Nat.le_of_ble_eq_true rfl) ?_
  refine lv_aload_n hx hb dX4_init_4 rfl (lv_at hl 0 rfl) ?_
  refine lv_iload_n hx hb dX4_init_5 rfl (lv_at hl 1 rfl) ?_
  refine pf_X4_9 E hG (hin rfl) f_f (Nat.le_of_ble_eq_true rfl) rfl rfl hS (Or.inl rfl) dX4_init_6 (fun H locs f_f hz oq hS => ?_)
  have f_f : At G f (.inr (4, [.int y, .null, .null, .int 0, .int 0, .int 0])) H := f_f
  refine lv_aload_n hx hb dX4_init_9 rfl (lv_at hl 0 rfl) ?_
  refine lv_bipush (v := 12) hx hb dX4_init_10 rfl ?_
  refine n_newa (atype := .int) (N := 12) (x := (12, .inl (fun _ => 0))) (t0 := 1) rfl ka_int (by exact Or.inl rfl) rfl E hG hS (Nat.le_of_eq hz0.symm) rfl (by omega) (show 0 + 1 ≤ 2 by omega) (show 0 + 12 ≤ 24 by omega) dX4_init_12 (fun b_1 H hb_1 hg_1 f_1 hz oq hS => ?_)
  have ne_f_b_1 : f ≠ b_1 := fun z9 => absurd (va_at.lt f_f) (by rw [z9, hb_1]; exact Nat.lt_irrefl _)
  have f_f : At G f (.inr (4, [.int y, .null, .null, .int 0, .int 0, .int 0])) H := olt f_f oq
  refine pf_X4_15 E hG (hin rfl) f_f (Nat.le_of_ble_eq_true rfl) rfl rfl hS (Or.inl rfl) dX4_init_14 (fun H locs f_f hz oq hS => ?_)
  have f_1 : At G b_1 (.inl (G.2.1 1, 12, .inl (fun _ => 0))) H := oth f_1 (Ne.symm ne_f_b_1) oq
  have f_f : At G f (.inr (4, [.int y, .ref b_1, .null, .int 0, .int 0, .int 0])) H := f_f
  refine lv_aload_n hx hb dX4_init_17 rfl (lv_at hl 0 rfl) ?_
  refine lv_bipush (v := 12) hx hb dX4_init_18 rfl ?_
  refine n_newa (atype := .int) (N := 12) (x := (12, .inl (fun _ => 0))) (t0 := 1) rfl ka_int (by exact Or.inl rfl) rfl E hG hS (Nat.le_of_eq hz0.symm) rfl (by omega) (show 0 + 1 + 1 ≤ 2 by omega) (show 0 + 12 + 12 ≤ 24 by omega) dX4_init_20 (fun b_2 H hb_2 hg_2 f_2 hz oq hS => ?_)
  have ne_f_b_2 : f ≠ b_2 := fun z9 => absurd (va_at.lt f_f) (by rw [z9, hb_2]; exact Nat.lt_irrefl _)
  have ne_b_1_b_2 : b_1 ≠ b_2 := fun z9 => absurd (va_at.lt f_1) (by rw [z9, hb_2]; exact Nat.lt_irrefl _)
  have f_f : At G f (.inr (4, [.int y, .ref b_1, .null, .int 0, .int 0, .int 0])) H := olt f_f oq
  have f_1 : At G b_1 (.inl (G.2.1 1, 12, .inl (fun _ => 0))) H := olt f_1 oq
  refine pf_X4_19 E hG (hin rfl) f_f (Nat.le_of_ble_eq_true rfl) rfl rfl hS (Or.inl rfl) dX4_init_22 (fun H locs f_f hz oq hS => ?_)
  have f_1 : At G b_1 (.inl (G.2.1 1, 12, .inl (fun _ => 0))) H := oth f_1 (Ne.symm ne_f_b_1) oq
  have f_2 : At G b_2 (.inl (G.2.1 1, 12, .inl (fun _ => 0))) H := oth f_2 (Ne.symm ne_f_b_2) oq
  have f_f : At G f (.inr (4, [.int y, .ref b_1, .ref b_2, .int 0, .int 0, .int 0])) H := f_f
  refine lv_aload_n hx hb dX4_init_25 rfl (lv_at hl 0 rfl) ?_
  refine lv_iconst (v := 0) hx hb dX4_init_26 rfl ?_
  refine pf_X4_22 E hG f_f (Nat.le_of_ble_eq_true rfl) rfl rfl hS (Or.inl rfl) dX4_init_27 (fun H locs f_f hz oq hS => ?_)
  have f_1 : At G b_1 (.inl (G.2.1 1, 12, .inl (fun _ => 0))) H := oth f_1 (Ne.symm ne_f_b_1) oq
  have f_2 : At G b_2 (.inl (G.2.1 1, 12, .inl (fun _ => 0))) H := oth f_2 (Ne.symm ne_f_b_2) oq
  have f_f : At G f (.inr (4, [.int y, .ref b_1, .ref b_2, .int 0, .int 0, .int 0])) H := f_f
  refine lv_aload_n hx hb dX4_init_30 rfl (lv_at hl 0 rfl) ?_
  refine lv_iconst (v := 0) hx hb dX4_init_31 rfl ?_
  refine pf_X4_25 E hG f_f (Nat.le_of_ble_eq_true rfl) rfl rfl hS (Or.inl rfl) dX4_init_32 (fun H locs f_f hz oq hS => ?_)
  have f_1 : At G b_1 (.inl (G.2.1 1, 12, .inl (fun _ => 0))) H := oth f_1 (Ne.symm ne_f_b_1) oq
  have f_2 : At G b_2 (.inl (G.2.1 1, 12, .inl (fun _ => 0))) H := oth f_2 (Ne.symm ne_f_b_2) oq
  have f_f : At G f (.inr (4, [.int y, .ref b_1, .ref b_2, .int 0, .int 0, .int 0])) H := f_f
  refine lv_aload_n hx hb dX4_init_35 rfl (lv_at hl 0 rfl) ?_
  refine lv_iconst (v := 0) hx hb dX4_init_36 rfl ?_
  refine pf_X4_28 E hG f_f (Nat.le_of_ble_eq_true rfl) rfl rfl hS (Or.inl rfl) dX4_init_37 (fun H locs f_f hz oq hS => ?_)
  have f_1 : At G b_1 (.inl (G.2.1 1, 12, .inl (fun _ => 0))) H := oth f_1 (Ne.symm ne_f_b_1) oq
  have f_2 : At G b_2 (.inl (G.2.1 1, 12, .inl (fun _ => 0))) H := oth f_2 (Ne.symm ne_f_b_2) oq
  have f_f : At G f (.inr (4, [.int y, .ref b_1, .ref b_2, .int 0, .int 0, .int 0])) H := f_f
  exact wr_void E hr hk hS (show 0 + 1 + 1 ≤ 2 by omega) (show 0 + 12 + 12 ≤ 24 by omega) (⟨rfl, b_1, b_2, hg_1, hg_2, ne_b_1_b_2, f_f, f_1, f_2⟩) dX4_init_40
