/-! Both: the text's buffer, the sums, the constructors -/
theorem due_ne {d : Nat → Int32} {nc np nh k : Nat} (hO : OkD d nc np nh) (hk : k < np) (h : d (pP k + 4) = 2) : ¬ dueD d nh k = (-1) := by
  have hc := hO.1.2
  have hh := hO.2.2.1.2
  obtain ⟨c8, dy, am, fa, si, h1, h2, -, -, -, -, -, -, -, h10, h11⟩ := hO.2.2.2.2.2.1 k hk
  obtain ⟨ex, pe, te, nd, -, -, -, -, h5, h6, -⟩ := hO.2.2.2.2.1 c8 h2
  rw [← dueV_D (si := si) (te := te) h1 (by omega) h10 (by omega) h5 (by omega)]
  unfold dueV
  rw [if_neg (fun z => z h)]
  have hb := (ext_bound d (n := si + te) hh (by omega)).2
  intro z
  have h9 : nI (ext d nh (si + te)) < 0 := by rw [z]; decide
  exact nI_pos (by omega) h9
theorem due_m1 {d : Nat → Int32} {nh k : Nat} (h : ¬ d (pP k + 4) = 2) : dueD d nh k = (-1) := if_pos h
def pwD (bb : Nat → Int32) (b : Nat) (w : Int32) : Nat → Int32 := upd (upd (upd (upd bb b (w >>> (24 &&& 31)).toInt8.toInt32.toInt8.toInt32) (b + 1) (w >>> (16 &&& 31)).toInt8.toInt32.toInt8.toInt32) (b + 2) (w >>> (8 &&& 31)).toInt8.toInt32.toInt8.toInt32) (b + 3) (w >>> (0 &&& 31)).toInt8.toInt32.toInt8.toInt32
def apC (bb : Nat → Int32) (b : Nat) (w0 w1 w2 w3 w4 : Int32) : Nat → Int32 := pwD (pwD (pwD (pwD (pwD bb b w0) (b + 4) w1) (b + 4 + 4) w2) (b + 4 + 4 + 4) w3) (b + 4 + 4 + 4 + 4) w4
section MNA
variable {p : Program} {l : Launch} {e : Env} {R : Room} {s : State} {m : MethodId} {args : Array Value} {below : List Frame} {meth : Method} {c : Code} {H : Heap} {locs : List Loc} {cells slots : Nat} {Q : State → Prop}
variable {cc : ByteArray} {nL : Nat} {own : String} {pc : Nat} {ls : Array Slot} {rest : List Value} {G : CG} {a : Nat} {H0 : Heap} {A : Nat → Prop} {sz : Nat}
theorem g_mna {index : Nat} (hcl : Cond.classLink own index "[[I" ∈ TB) (E : CallFix p m c cc nL s args TB own) (hG : KT G s) (hS : va_S A H0 H locs) (hz : sz ≤ H0.size) (hcells : cells + 9 ≤ R.cells) (hslots : slots + 14392 ≤ R.slots) (hdg : decode cc pc = .ok (.multianewarray index 2, 4))
    (kk : ∀ (b : Nat) (H1 : Heap), b = H.size → sz ≤ b → At G b (.inl (G.2.1 6, 8, .inr (.inr (.inr (.inr (fun i => some (b + 1 + i))))))) H1 → (∀ j, j < 8 → At G (b + 1 + j) (iA G 1798 (fun _ => 0)) H1) → H1.size = H.size + 9 → (∀ q : Nat, q < H.size → H1[q]? = H[q]?) → va_S A H0 H1 locs → W p l e R s m args below meth c H1 locs (cells + 9) (slots + 14392) Q (F0 m (pc + 4) ls (.ref b :: rest))) : W p l e R s m args below meth c H locs cells slots Q (F0 m pc ls (.int 1798 :: .int 8 :: rest)) := by
  intro T hT Xs
  have e8 : (8 : Int32).toNatClampNeg = 8 := by decide +kernel
  have eM : (1798 : Int32).toNatClampNeg = 1798 := by decide +kernel
  obtain ⟨vm₁, cA, comp, -, fA, fC, hO, -, X', step⟩ := Xs.multianewarray2F (ty := .int) (n := 8) (k := 1798) E.1 E.2.2.2.1 (E.2.2.2.2 _ hcl) (va_AOA.use hG.2.2.2.2.1.1) (E.2.2.2.2 _ ka_int) (g := F0 m pc ls (.int 1798 :: .int 8 :: rest)) rfl (by rw [E.2.1]; exact hdg) rfl (by decide) (by decide) (by rw [e8]; decide) (by rw [eM]; decide) (by rw [eM]; decide) rfl rfl (by rw [e8]; exact hcells) (by rw [e8, eM]; exact hslots)
  have ec : cA = G.2.1 6 := Option.some.inj (fA.symm.trans (hG.1.2 6 _ rfl).2)
  have ed : comp = G.2.1 1 := Option.some.inj (fC.symm.trans (hG.1.2 1 _ rfl).2)
  subst ec
  subst ed
  rw [e8, eM] at X' step
  rw [show cells + 1 + 8 = cells + 9 by omega, show slots + 8 + 8 * 1798 = slots + 14392 by omega] at X'
  generalize hF : Jvm.Free.Multi.fill (T.setVm vm₁) (G.2.1 6) (G.2.1 1) 8 1798 (defaultValue .int) 8 = F at X' step
  have hTh : (T.setVm vm₁).heap = H := hT
  obtain ⟨f1, f2, -, -⟩ := Jvm.Free.Multi.fill_facts (T.setVm vm₁) (G.2.1 6) (G.2.1 1) 8 1798 (defaultValue .int) 8
  rw [hF, hTh] at f1 f2
  have hold : ∀ x : Nat, x < H.size → F.heap[x]? = H[x]? := fun x hx => by
    have := Jvm.Free.Multi.fill_old (T.setVm vm₁) (G.2.1 6) (G.2.1 1) 8 1798 (defaultValue .int) (a := x) (by rw [hTh]; exact hx) 8
    rw [hF, hTh] at this
    exact this
  have hrow : ∀ j : Nat, j < 8 → F.heap[H.size + 1 + j]? = some (vp_cell (G.2.1 1) (1798, .inl (fun _ => 0))) := fun j hj => by
    have := Jvm.Free.Multi.fill_inner (T.setVm vm₁) (G.2.1 6) (G.2.1 1) 8 1798 (defaultValue .int) 8 j hj
    rw [hF, hTh] at this
    rw [this, vp_cell_i, ← arrV_new]
    rfl
  have hout : Jvm.Free.Multi.outerC (G.2.1 6) 8 H.size 8 = vp_cell (G.2.1 6) (8, .inr (.inr (.inr (.inr (fun i => if i < 8 then some (H.size + 1 + i) else none))))) := by
    rw [vp_cell_q]
    exact vr_outer (G.2.1 6) 8 H.size 8
  rw [hout] at f2
  have f3 : At G H.size (.inl (G.2.1 6, 8, .inr (.inr (.inr (.inr (fun i => if i < 8 then some (H.size + 1 + i) else none)))))) F.heap := f2
  obtain ⟨t, a1, b1⟩ := kk H.size F.heap rfl (Nat.le_trans hz hS.1) (At.congrQ f3 (fun j hj => if_pos hj)) (fun j hj => hrow j hj) (by rw [f1]) hold ⟨by rw [f1]; have := hS.1; omega, fun x h1 h2 => (hold x (Nat.lt_of_lt_of_le h1 hS.1)).trans (hS.2.1 x h1 h2), hS.2.2⟩ F rfl X'
  refine ⟨t, step t ?_, b1⟩
  have e : T.heap.size = H.size := by rw [hT]
  rw [e]
  exact a1
end MNA
def mkB (x b1 b2 b3 b4 b5 : Nat) : Nat → Nat := fun k => match k with
  | 0 => x
  | 1 => b1
  | 2 => b2
  | 3 => b3
  | 4 => b4
  | 5 => b5
  | n + 6 => b4 + 1 + n
theorem mkB_6 (x b1 b2 b3 b4 b5 n : Nat) : mkB x b1 b2 b3 b4 b5 (6 + n) = b4 + 1 + n := by
  rw [Nat.add_comm 6 n]
  rfl
theorem mkB_c (x b1 b2 b3 b4 b5 i : Nat) : (i = 0 ∧ mkB x b1 b2 b3 b4 b5 i = x) ∨ (i = 1 ∧ mkB x b1 b2 b3 b4 b5 i = b1) ∨ (i = 2 ∧ mkB x b1 b2 b3 b4 b5 i = b2) ∨ (i = 3 ∧ mkB x b1 b2 b3 b4 b5 i = b3) ∨ (i = 4 ∧ mkB x b1 b2 b3 b4 b5 i = b4) ∨ (i = 5 ∧ mkB x b1 b2 b3 b4 b5 i = b5) ∨ (6 ≤ i ∧ mkB x b1 b2 b3 b4 b5 i = b4 + 1 + (i - 6)) := by
  match i with
  | 0 => exact Or.inl ⟨rfl, rfl⟩
  | 1 => exact Or.inr (Or.inl ⟨rfl, rfl⟩)
  | 2 => exact Or.inr (Or.inr (Or.inl ⟨rfl, rfl⟩))
  | 3 => exact Or.inr (Or.inr (Or.inr (Or.inl ⟨rfl, rfl⟩)))
  | 4 => exact Or.inr (Or.inr (Or.inr (Or.inr (Or.inl ⟨rfl, rfl⟩))))
  | 5 => exact Or.inr (Or.inr (Or.inr (Or.inr (Or.inr (Or.inl ⟨rfl, rfl⟩)))))
  | n + 6 => exact Or.inr (Or.inr (Or.inr (Or.inr (Or.inr (Or.inr ⟨by omega, rfl⟩)))))
theorem mkB_ge {x b1 b2 b3 b4 b5 sz : Nat} (h1 : sz ≤ b1) (h2 : sz ≤ b2) (h3 : sz ≤ b3) (h4 : sz ≤ b4) (h5 : sz ≤ b5) : ∀ i, 1 ≤ i → i < 14 → sz ≤ mkB x b1 b2 b3 b4 b5 i := by
  intro i hi _
  rcases mkB_c x b1 b2 b3 b4 b5 i with h | h | h | h | h | h | h <;> omega
theorem mkB_md {G : CG} {x b1 b2 b3 b4 b5 sz : Nat} (hz : EFA G sz) (hx : EFA G x) (h0 : x < b1) (h1 : b1 < b2) (h2 : b2 < b3) (h3 : b3 < b4) (h4 : b4 + 9 ≤ b5) (hg : sz ≤ b1) : MD G (mkB x b1 b2 b3 b4 b5) := by
  have hz : G.2.2 0 ≤ sz := hz
  have hx : G.2.2 0 ≤ x := hx
  refine ⟨fun i j hi hj e => ?_, fun i hi => ?_⟩
  · rcases mkB_c x b1 b2 b3 b4 b5 i with h | h | h | h | h | h | h <;> rcases mkB_c x b1 b2 b3 b4 b5 j with k | k | k | k | k | k | k <;> omega
  · rcases mkB_c x b1 b2 b3 b4 b5 i with h | h | h | h | h | h | h <;> omega
theorem mkB_mw {G : CG} {x b1 b2 b3 b4 b5 : Nat} {H : Heap} (h0 : At G x (.inr (8, [.int 0, .ref b1, .int 0, .int 0, .int 0, .int 0, .int 0, .int (-1), .ref b2, .ref b3, .ref b4, .int 0, .int 0, .int 0, .int 0, .ref b5])) H) (h1 : At G b1 (iA G 900 (fun _ => 0)) H) (h2 : At G b2 (iA G 1798 (fun _ => 0)) H) (h3 : At G b3 (iA G 1798 (fun _ => 0)) H) (h4 : At G b4 (.inl (G.2.1 6, 8, .inr (.inr (.inr (.inr (fun i => some (b4 + 1 + i))))))) H) (h5 : At G b5 (.inl (G.2.1 2, 1500, .inr (.inl (fun _ => 0)))) H) (hr : ∀ j, j < 8 → At G (b4 + 1 + j) (iA G 1798 (fun _ => 0)) H) : MW G (mkB x b1 b2 b3 b4 b5) (fm 0 0 0 0 0 0 (-1) 0 0 0 0) (fun _ => 0) (fun _ => 0) (fun _ => 0) (fun _ _ => 0) (fun _ => 0) H :=
  ⟨h0, h1, h2, h3, At.congrQ (t := 6) (f := fun i => some (b4 + 1 + i)) (g := fun j => some (mkB x b1 b2 b3 b4 b5 (6 + j))) h4 (fun j _ => by rw [mkB_6]), h5, fun k hk => by rw [mkB_6]; exact hr k hk⟩
set_option maxHeartbeats 4000000 in
set_option maxRecDepth 100000 in
/-- dueBetween -/
theorem c_X7_dueBetween (l : Launch) (G : CG) {x bu bk pa : Nat} {bl es pn : Int32} {A : Nat → Prop} {d : Nat → Int32} {nc np nh : Nat} (y w : Int32) (hO : OkD d nc np nh) : Rd l yX7_dueBetween cX7_dueBetween 9 ((Option.some FieldType.long)) 0 0 G [.ref x, .int y, .int w] (DK G A x bu bl es bk pa pn d nc np nh) (some (.long (dueS d nh y w np))) := by
  refine Rd.ofW (by decide) (Nat.le_of_ble_eq_true rfl) (fun p e s m below meth c ls E hG hE hP hr hk hl => ?_)
  have hx := E.1
  have hb := E.2.1
  have hl : lv_has ls 9 [(0, .ref x), (1, .int y), (2, .int w)] := hl
  obtain ⟨hX, hB⟩ := hP
  obtain ⟨ca, ho, fe, cr, pr, cA, pA, k1, k2, k3, k4, k5, k6, k7, k8⟩ := id hB
  have hp0 := hO.2.1.2
  refine lv_lconst (v := 0) hx hb dX7_dueBetween_0 rfl ?_
  refine lv_lstore_n (lv' := [(3, .long 0), (0, .ref x), (1, .int y), (2, .int w)]) hx hb dX7_dueBetween_1 rfl hl (by decide) rfl (fun ls hl => ?_)
  refine lv_aload_n hx hb dX7_dueBetween_2 rfl (lv_at hl 1 rfl) ?_
  refine gf_X7_26 E hG hX rfl dX7_dueBetween_3 ?_
  refine gf_X7_75 E hG k1.1 rfl dX7_dueBetween_6 ?_
  refine lv_astore (lv' := [(5, .ref pr), (3, .long 0), (0, .ref x), (1, .int y), (2, .int w)]) hx hb dX7_dueBetween_9 hl (by decide) rfl (fun ls hl => ?_)
  refine lv_aload hx hb dX7_dueBetween_11 (lv_at hl 0 rfl) ?_
  refine g_len (t0 := 5) (v := (nI np)) E hG k5.1 rfl rfl dX7_dueBetween_13 ?_
  refine lv_istore (lv' := [(6, .int (nI np)), (5, .ref pr), (3, .long 0), (0, .ref x), (1, .int y), (2, .int w)]) hx hb dX7_dueBetween_14 hl (by decide) rfl (fun ls hl => ?_)
  refine lv_iconst (v := 0) hx hb dX7_dueBetween_16 rfl ?_
  refine lv_ci (y := nI 0) (ixq rfl) ?_
  refine lv_istore (lv' := [(7, .int (nI 0)), (6, .int (nI np)), (5, .ref pr), (3, .long 0), (0, .ref x), (1, .int y), (2, .int w)]) hx hb dX7_dueBetween_17 hl (by decide) rfl (fun ls hl => ?_)
  have loop : ∀ (j k : Nat), (np < k + j) → (k ≤ np) → ∀ ls : Array Slot, lv_has ls 9 [(7, .int (nI k)), (3, .long (dueS d nh y w k)), (6, .int (nI np)), (5, .ref pr), (0, .ref x), (1, .int y), (2, .int w)] → W p l e { frames := 0, cells := 0, slots := 0, locals := 0 } s m ([.ref x, .int y, .int w] : List Value).toArray below meth c s.heap [] 0 0 (RQ below ([.ref x, .int y, .int w] : List Value).toArray s (some (.long (dueS d nh y w np)))) (F0 m 19 ls []) := by
    intro j
    induction j with
    | zero => intro k z1 z2; omega
    | succ j ih =>
      intro k z1 z2 ls hl
      refine lv_iload hx hb dX7_dueBetween_19 (lv_at hl 0 rfl) ?_
      refine lv_iload hx hb dX7_dueBetween_21 (lv_at hl 2 rfl) ?_
      refine lv_icmp_ge (tgt := 80) hx hb dX7_dueBetween_23 (by decide) (fun c_23 => ?_) (fun c_23 => ?_)
      · have c_23 : np ≤ k := (nLE (x := (nI np)) (y := (nI k)) (a := np) (b := k) rfl rfl (by omega) (by omega)).mp c_23
        have e9 : np = k := by omega
        subst e9
        refine lv_lload_n hx hb dX7_dueBetween_80 rfl (lv_at hl 1 rfl) ?_
        exact rd_long E hr hk (rfl) dX7_dueBetween_81
      · have c_23 : ¬ np ≤ k := fun z9 => c_23 ((nLE (x := (nI np)) (y := (nI k)) (a := np) (b := k) rfl rfl (by omega) (by omega)).mpr z9)
        refine W.cutL (nL := 9) (pc := 74) (lv := [(7, .int (nI k)), (3, .long (dueS d nh y w (k + 1))), (6, .int (nI np)), (5, .ref pr), (0, .ref x), (1, .int y), (2, .int w)]) (st := []) (fun K => ?_) (fun ls hl => ?_)
        · refine lv_aload hx hb dX7_dueBetween_26 (lv_at hl 3 rfl) ?_
          refine lv_iload hx hb dX7_dueBetween_28 (lv_at hl 0 rfl) ?_
          refine g_aldS (t0 := 5) k rfl E hG k5.1 rfl (by omega) (by omega) dX7_dueBetween_30 ?_
          refine lv_astore (lv' := [(8, .ref (pA k)), (7, .int (nI k)), (3, .long (dueS d nh y w k)), (6, .int (nI np)), (5, .ref pr), (0, .ref x), (1, .int y), (2, .int w)]) hx hb dX7_dueBetween_31 hl (by decide) rfl (fun ls hl => ?_)
          refine lv_aload hx hb dX7_dueBetween_33 (lv_at hl 0 rfl) ?_
          refine lv_ifnull hx hb dX7_dueBetween_35 ?_
          refine lv_aload hx hb dX7_dueBetween_38 (lv_at hl 0 rfl) ?_
          refine gf_X7_145 E hG (k7 k (by omega)).1 rfl dX7_dueBetween_40 ?_
          refine lv_iconst (v := 2) hx hb dX7_dueBetween_43 rfl ?_
          refine lv_icmp_ne (tgt := 74) hx hb dX7_dueBetween_44 (by decide) (fun c_44 => ?_) (fun c_44 => ?_)
          · exact K ls (by rw [show dueS d nh y w (k + 1) = (dueS d nh y w k) from (show dueT d nh y w k (dueS d nh y w k) = (dueS d nh y w k) by simp [dueT, due_m1 c_44])]; exact (lv_sub hl [1, 2, 3, 4, 5, 6, 7] rfl))
          · refine lv_aload hx hb dX7_dueBetween_47 (lv_at hl 0 rfl) ?_
            refine gf_X7_155 E hG (k7 k (by omega)).1 rfl dX7_dueBetween_49 ?_
            refine lv_iload_n hx hb dX7_dueBetween_52 rfl (lv_at hl 6 rfl) ?_
            refine lv_icmp_lt (tgt := 74) hx hb dX7_dueBetween_53 (by decide) (fun c_53 => ?_) (fun c_53 => ?_)
            · exact K ls (by rw [show dueS d nh y w (k + 1) = (dueS d nh y w k) from (show dueT d nh y w k (dueS d nh y w k) = (dueS d nh y w k) by simp [dueT, due_ne hO (show k < np by omega) c_44, c_53])]; exact (lv_sub hl [1, 2, 3, 4, 5, 6, 7] rfl))
            · refine lv_aload hx hb dX7_dueBetween_56 (lv_at hl 0 rfl) ?_
              refine gf_X7_155 E hG (k7 k (by omega)).1 rfl dX7_dueBetween_58 ?_
              refine lv_iload_n hx hb dX7_dueBetween_61 rfl (lv_at hl 7 rfl) ?_
              refine lv_icmp_gt (tgt := 74) hx hb dX7_dueBetween_62 (by decide) (fun c_62 => ?_) (fun c_62 => ?_)
              · exact K ls (by rw [show dueS d nh y w (k + 1) = (dueS d nh y w k) from (show dueT d nh y w k (dueS d nh y w k) = (dueS d nh y w k) by simp [dueT, due_ne hO (show k < np by omega) c_44, c_53, c_62])]; exact (lv_sub hl [1, 2, 3, 4, 5, 6, 7] rfl))
              · refine lv_lload_n hx hb dX7_dueBetween_65 rfl (lv_at hl 2 rfl) ?_
                refine lv_aload hx hb dX7_dueBetween_66 (lv_at hl 0 rfl) ?_
                refine gf_X7_162 E hG (k7 k (by omega)).1 rfl dX7_dueBetween_68 ?_
                refine lv_i2l (v := (d (pP k + 2)).toInt64) hx hb dX7_dueBetween_71 rfl ?_
                refine lv_ladd hx hb dX7_dueBetween_72 ?_
                refine lv_lstore_n (lv' := [(3, .long ((dueS d nh y w k) + (d (pP k + 2)).toInt64)), (8, .ref (pA k)), (7, .int (nI k)), (6, .int (nI np)), (5, .ref pr), (0, .ref x), (1, .int y), (2, .int w)]) hx hb dX7_dueBetween_73 rfl hl (by decide) rfl (fun ls hl => ?_)
                exact K ls (by rw [show dueS d nh y w (k + 1) = ((dueS d nh y w k) + (d (pP k + 2)).toInt64) from (show dueT d nh y w k (dueS d nh y w k) = ((dueS d nh y w k) + (d (pP k + 2)).toInt64) by simp [dueT, due_ne hO (show k < np by omega) c_44, c_53, c_62])]; exact (lv_sub hl [2, 0, 3, 4, 5, 6, 7] rfl))
        refine lv_iinc (v := (nI (k + 1))) (lv' := [(7, .int (nI (k + 1))), (3, .long (dueS d nh y w (k + 1))), (6, .int (nI np)), (5, .ref pr), (0, .ref x), (1, .int y), (2, .int w)]) hx hb dX7_dueBetween_74 hl (k := 0) rfl (nI_ad rfl rfl) (by decide) rfl (fun ls hl => ?_)
        refine lv_goto (tgt := 19) hx hb dX7_dueBetween_77 (by decide) ?_
        exact ih (k + 1) (by omega) (by omega) ls (lv_sub hl [0, 1, 2, 3, 4, 5, 6] rfl)
  exact loop (np + 1) 0 (by omega) (by omega) ls (lv_sub hl [0, 3, 1, 2, 4, 5, 6] rfl)

set_option maxHeartbeats 4000000 in
set_option maxRecDepth 100000 in
/-- checksum -/
theorem c_X7_checksum (l : Launch) (G : CG) {x bu bk pa : Nat} {bl es pn : Int32} {A : Nat → Prop} {d : Nat → Int32} {nc np nh : Nat} (hp0 : np ≤ 24) (hc0 : nc ≤ 12) : Rd l yX7_checksum cX7_checksum 7 ((Option.some FieldType.long)) 3 68 G [.ref x] (DK G A x bu bl es bk pa pn d nc np nh) (some (.long (ckP d np nc nh np))) := by
  refine Rd.ofW (by decide) (Nat.le_of_ble_eq_true rfl) (fun p e s m below meth c ls E hG hE hP hr hk hl => ?_)
  have hx := E.1
  have hb := E.2.1
  have hl : lv_has ls 7 [(0, .ref x)] := hl
  obtain ⟨hX, hB⟩ := hP
  obtain ⟨ca, ho, fe, cr, pr, cA, pA, k1, k2, k3, k4, k5, k6, k7, k8⟩ := id hB
  refine lv_aload_n hx hb dX7_checksum_0 rfl (lv_at hl 0 rfl) ?_
  refine gf_X7_26 E hG hX rfl dX7_checksum_1 ?_
  refine gf_X7_79 E hG k1.1 rfl dX7_checksum_4 ?_
  refine lv_i2l (v := (d 3).toInt64) hx hb dX7_checksum_7 rfl ?_
  refine lv_lstore_n (lv' := [(1, .long ((d 3).toInt64)), (0, .ref x)]) hx hb dX7_checksum_8 rfl hl (by decide) rfl (fun ls hl => ?_)
  refine lv_aload_n hx hb dX7_checksum_9 rfl (lv_at hl 1 rfl) ?_
  refine gf_X7_26 E hG hX rfl dX7_checksum_10 ?_
  refine gf_X7_71 E hG k1.1 rfl dX7_checksum_13 ?_
  refine lv_astore_n (lv' := [(3, .ref cr), (1, .long ((d 3).toInt64)), (0, .ref x)]) hx hb dX7_checksum_16 rfl hl (by decide) rfl (fun ls hl => ?_)
  refine lv_aload_n hx hb dX7_checksum_17 rfl (lv_at hl 0 rfl) ?_
  refine g_len (t0 := 4) (v := (nI nc)) E hG k4.1 rfl rfl dX7_checksum_18 ?_
  refine lv_istore (lv' := [(4, .int (nI nc)), (3, .ref cr), (1, .long ((d 3).toInt64)), (0, .ref x)]) hx hb dX7_checksum_19 hl (by decide) rfl (fun ls hl => ?_)
  refine lv_iconst (v := 0) hx hb dX7_checksum_21 rfl ?_
  refine lv_ci (y := nI 0) (ixq rfl) ?_
  refine lv_istore (lv' := [(5, .int (nI 0)), (4, .int (nI nc)), (3, .ref cr), (1, .long ((d 3).toInt64)), (0, .ref x)]) hx hb dX7_checksum_22 hl (by decide) rfl (fun ls hl => ?_)
  have loop24 : ∀ (j k : Nat), (nc < k + j) → (k ≤ nc) → ∀ ls : Array Slot, lv_has ls 7 [(5, .int (nI k)), (1, .long (ckC d np nc k)), (4, .int (nI nc)), (3, .ref cr), (0, .ref x)] → W p l e { frames := 3, cells := 0, slots := 0, locals := 68 } s m ([.ref x] : List Value).toArray below meth c s.heap [] 0 0 (RQ below ([.ref x] : List Value).toArray s (some (.long (ckP d np nc nh np)))) (F0 m 24 ls []) := by
    intro j
    induction j with
    | zero => intro k z1 z2; omega
    | succ j ih =>
      intro k z1 z2 ls hl
      refine lv_iload hx hb dX7_checksum_24 (lv_at hl 0 rfl) ?_
      refine lv_iload hx hb dX7_checksum_26 (lv_at hl 2 rfl) ?_
      refine lv_icmp_ge (tgt := 95) hx hb dX7_checksum_28 (by decide) (fun c_28 => ?_) (fun c_28 => ?_)
      · have c_28 : nc ≤ k := (nLE (x := (nI nc)) (y := (nI k)) (a := nc) (b := k) rfl rfl (by omega) (by omega)).mp c_28
        have e9 : nc = k := by omega
        subst e9
        refine lv_aload_n hx hb dX7_checksum_95 rfl (lv_at hl 4 rfl) ?_
        refine gf_X7_26 E hG hX rfl dX7_checksum_96 ?_
        refine gf_X7_75 E hG k1.1 rfl dX7_checksum_99 ?_
        refine lv_astore_n (lv' := [(3, .ref pr), (5, .int (nI nc)), (1, .long (ckC d np nc nc)), (4, .int (nI nc)), (0, .ref x)]) hx hb dX7_checksum_102 rfl hl (by decide) rfl (fun ls hl => ?_)
        refine lv_aload_n hx hb dX7_checksum_103 rfl (lv_at hl 0 rfl) ?_
        refine g_len (t0 := 5) (v := (nI np)) E hG k5.1 rfl rfl dX7_checksum_104 ?_
        refine lv_istore (lv' := [(4, .int (nI np)), (3, .ref pr), (5, .int (nI nc)), (1, .long (ckC d np nc nc)), (0, .ref x)]) hx hb dX7_checksum_105 hl (by decide) rfl (fun ls hl => ?_)
        refine lv_iconst (v := 0) hx hb dX7_checksum_107 rfl ?_
        refine lv_ci (y := nI 0) (ixq rfl) ?_
        refine lv_istore (lv' := [(5, .int (nI 0)), (4, .int (nI np)), (3, .ref pr), (1, .long (ckC d np nc nc)), (0, .ref x)]) hx hb dX7_checksum_108 hl (by decide) rfl (fun ls hl => ?_)
        have loop110 : ∀ (j k : Nat), (np < k + j) → (k ≤ np) → ∀ ls : Array Slot, lv_has ls 7 [(5, .int (nI k)), (1, .long (ckP d np nc nh k)), (4, .int (nI np)), (3, .ref pr), (0, .ref x)] → W p l e { frames := 3, cells := 0, slots := 0, locals := 68 } s m ([.ref x] : List Value).toArray below meth c s.heap [] 0 0 (RQ below ([.ref x] : List Value).toArray s (some (.long (ckP d np nc nh np)))) (F0 m 110 ls []) := by
          intro j
          induction j with
          | zero => intro k z1 z2; omega
          | succ j ih =>
            intro k z1 z2 ls hl
            refine lv_iload hx hb dX7_checksum_110 (lv_at hl 0 rfl) ?_
            refine lv_iload hx hb dX7_checksum_112 (lv_at hl 2 rfl) ?_
            refine lv_icmp_ge (tgt := 186) hx hb dX7_checksum_114 (by decide) (fun c_114 => ?_) (fun c_114 => ?_)
            · have c_114 : np ≤ k := (nLE (x := (nI np)) (y := (nI k)) (a := np) (b := k) rfl rfl (by omega) (by omega)).mp c_114
              have e9 : np = k := by omega
              subst e9
              refine lv_lload_n hx hb dX7_checksum_186 rfl (lv_at hl 1 rfl) ?_
              exact rd_long E hr hk (rfl) dX7_checksum_187
            · have c_114 : ¬ np ≤ k := fun z9 => c_114 ((nLE (x := (nI np)) (y := (nI k)) (a := np) (b := k) rfl rfl (by omega) (by omega)).mpr z9)
              refine lv_aload_n hx hb dX7_checksum_117 rfl (lv_at hl 3 rfl) ?_
              refine lv_iload hx hb dX7_checksum_118 (lv_at hl 0 rfl) ?_
              refine g_aldS (t0 := 5) k rfl E hG k5.1 rfl (by omega) (by omega) dX7_checksum_120 ?_
              refine lv_astore (lv' := [(6, .ref (pA k)), (5, .int (nI k)), (1, .long (ckP d np nc nh k)), (4, .int (nI np)), (3, .ref pr), (0, .ref x)]) hx hb dX7_checksum_121 hl (by decide) rfl (fun ls hl => ?_)
              refine lv_aload hx hb dX7_checksum_123 (lv_at hl 0 rfl) ?_
              refine lv_ifnull hx hb dX7_checksum_125 ?_
              refine lv_ldc2 (v := 31) hx hb E.2.2.2.1 (E.2.2.2.2 _ kk_X7_256) dX7_checksum_128 ?_
              refine lv_lload_n hx hb dX7_checksum_131 rfl (lv_at hl 2 rfl) ?_
              refine lv_lmul hx hb dX7_checksum_132 ?_
              refine lv_aload hx hb dX7_checksum_133 (lv_at hl 0 rfl) ?_
              refine gf_X7_140 E hG (k7 k (by omega)).1 rfl dX7_checksum_135 ?_
              refine lv_i2l (v := (d (pP k)).toInt64) hx hb dX7_checksum_138 rfl ?_
              refine lv_ladd hx hb dX7_checksum_139 ?_
              refine lv_lstore_n (lv' := [(1, .long ((31 * (ckP d np nc nh k)) + (d (pP k)).toInt64)), (6, .ref (pA k)), (5, .int (nI k)), (4, .int (nI np)), (3, .ref pr), (0, .ref x)]) hx hb dX7_checksum_140 rfl hl (by decide) rfl (fun ls hl => ?_)
              refine lv_ldc2 (v := 31) hx hb E.2.2.2.1 (E.2.2.2.2 _ kk_X7_256) dX7_checksum_141 ?_
              refine lv_lload_n hx hb dX7_checksum_144 rfl (lv_at hl 0 rfl) ?_
              refine lv_lmul hx hb dX7_checksum_145 ?_
              refine lv_aload hx hb dX7_checksum_146 (lv_at hl 1 rfl) ?_
              refine gf_X7_145 E hG (k7 k (by omega)).1 rfl dX7_checksum_148 ?_
              refine lv_i2l (v := (d (pP k + 4)).toInt64) hx hb dX7_checksum_151 rfl ?_
              refine lv_ladd hx hb dX7_checksum_152 ?_
              refine lv_lstore_n (lv' := [(1, .long ((31 * ((31 * (ckP d np nc nh k)) + (d (pP k)).toInt64)) + (d (pP k + 4)).toInt64)), (6, .ref (pA k)), (5, .int (nI k)), (4, .int (nI np)), (3, .ref pr), (0, .ref x)]) hx hb dX7_checksum_153 rfl hl (by decide) rfl (fun ls hl => ?_)
              refine lv_ldc2 (v := 31) hx hb E.2.2.2.1 (E.2.2.2.2 _ kk_X7_256) dX7_checksum_154 ?_
              refine lv_lload_n hx hb dX7_checksum_157 rfl (lv_at hl 0 rfl) ?_
              refine lv_lmul hx hb dX7_checksum_158 ?_
              refine lv_aload hx hb dX7_checksum_159 (lv_at hl 1 rfl) ?_
              refine gf_X7_148 E hG (k7 k (by omega)).1 rfl dX7_checksum_161 ?_
              refine lv_i2l (v := (d (pP k + 3)).toInt64) hx hb dX7_checksum_164 rfl ?_
              refine lv_ladd hx hb dX7_checksum_165 ?_
              refine lv_lstore_n (lv' := [(1, .long ((31 * ((31 * ((31 * (ckP d np nc nh k)) + (d (pP k)).toInt64)) + (d (pP k + 4)).toInt64)) + (d (pP k + 3)).toInt64)), (6, .ref (pA k)), (5, .int (nI k)), (4, .int (nI np)), (3, .ref pr), (0, .ref x)]) hx hb dX7_checksum_166 rfl hl (by decide) rfl (fun ls hl => ?_)
              refine lv_ldc2 (v := 31) hx hb E.2.2.2.1 (E.2.2.2.2 _ kk_X7_256) dX7_checksum_167 ?_
              refine lv_lload_n hx hb dX7_checksum_170 rfl (lv_at hl 0 rfl) ?_
              refine lv_lmul hx hb dX7_checksum_171 ?_
              refine lv_aload hx hb dX7_checksum_172 (lv_at hl 1 rfl) ?_
              refine gf_X7_155 E hG (k7 k (by omega)).1 rfl dX7_checksum_174 ?_
              refine lv_i2l (v := (dueD d nh k).toInt64) hx hb dX7_checksum_177 rfl ?_
              refine lv_ladd hx hb dX7_checksum_178 ?_
              refine lv_lstore_n (lv' := [(1, .long ((31 * ((31 * ((31 * ((31 * (ckP d np nc nh k)) + (d (pP k)).toInt64)) + (d (pP k + 4)).toInt64)) + (d (pP k + 3)).toInt64)) + (dueD d nh k).toInt64)), (6, .ref (pA k)), (5, .int (nI k)), (4, .int (nI np)), (3, .ref pr), (0, .ref x)]) hx hb dX7_checksum_179 rfl hl (by decide) rfl (fun ls hl => ?_)
              refine lv_iinc (v := (nI (k + 1))) (lv' := [(5, .int (nI (k + 1))), (1, .long ((31 * ((31 * ((31 * ((31 * (ckP d np nc nh k)) + (d (pP k)).toInt64)) + (d (pP k + 4)).toInt64)) + (d (pP k + 3)).toInt64)) + (dueD d nh k).toInt64)), (6, .ref (pA k)), (4, .int (nI np)), (3, .ref pr), (0, .ref x)]) hx hb dX7_checksum_180 hl (k := 2) rfl (nI_ad rfl rfl) (by decide) rfl (fun ls hl => ?_)
              refine lv_goto (tgt := 110) hx hb dX7_checksum_183 (by decide) ?_
              exact ih (k + 1) (by omega) (by omega) ls (lv_sub hl [0, 1, 3, 4, 5] rfl)
        exact loop110 (np + 1) 0 (by omega) (by omega) ls (lv_sub hl [0, 3, 1, 2, 4] rfl)
      · have c_28 : ¬ nc ≤ k := fun z9 => c_28 ((nLE (x := (nI nc)) (y := (nI k)) (a := nc) (b := k) rfl rfl (by omega) (by omega)).mpr z9)
        refine lv_aload_n hx hb dX7_checksum_31 rfl (lv_at hl 3 rfl) ?_
        refine lv_iload hx hb dX7_checksum_32 (lv_at hl 0 rfl) ?_
        refine g_aldS (t0 := 4) k rfl E hG k4.1 rfl (by omega) (by omega) dX7_checksum_34 ?_
        refine lv_astore (lv' := [(6, .ref (cA k)), (5, .int (nI k)), (1, .long (ckC d np nc k)), (4, .int (nI nc)), (3, .ref cr), (0, .ref x)]) hx hb dX7_checksum_35 hl (by decide) rfl (fun ls hl => ?_)
        refine lv_aload hx hb dX7_checksum_37 (lv_at hl 0 rfl) ?_
        refine lv_ifnull hx hb dX7_checksum_39 ?_
        refine lv_ldc2 (v := 31) hx hb E.2.2.2.1 (E.2.2.2.2 _ kk_X7_256) dX7_checksum_42 ?_
        refine lv_lload_n hx hb dX7_checksum_45 rfl (lv_at hl 2 rfl) ?_
        refine lv_lmul hx hb dX7_checksum_46 ?_
        refine lv_aload hx hb dX7_checksum_47 (lv_at hl 0 rfl) ?_
        refine gf_X7_111 E hG (k6 k (by omega)).1 rfl dX7_checksum_49 ?_
        refine lv_i2l (v := (d (cP k + 10)).toInt64) hx hb dX7_checksum_52 rfl ?_
        refine lv_ladd hx hb dX7_checksum_53 ?_
        refine lv_lstore_n (lv' := [(1, .long ((31 * (ckC d np nc k)) + (d (cP k + 10)).toInt64)), (6, .ref (cA k)), (5, .int (nI k)), (4, .int (nI nc)), (3, .ref cr), (0, .ref x)]) hx hb dX7_checksum_54 rfl hl (by decide) rfl (fun ls hl => ?_)
        refine lv_ldc2 (v := 31) hx hb E.2.2.2.1 (E.2.2.2.2 _ kk_X7_256) dX7_checksum_55 ?_
        refine lv_lload_n hx hb dX7_checksum_58 rfl (lv_at hl 0 rfl) ?_
        refine lv_lmul hx hb dX7_checksum_59 ?_
        refine lv_aload_n hx hb dX7_checksum_60 rfl (lv_at hl 5 rfl) ?_
        refine gf_X7_26 E hG hX rfl dX7_checksum_61 ?_
        refine lv_aload hx hb dX7_checksum_64 (lv_at hl 1 rfl) ?_
        refine Rd.callV (rest := [.long (31 * ((31 * (ckC d np nc k)) + (d (cP k + 10)).toInt64))]) (c_X0_drawnSum l G hp0) yk_X0_drawnSum E km_X7_126 dX7_checksum_66 hG hE ⟨hB, (k6 k (by omega)).1⟩ (At.recv hG k1.1 rfl) rfl rfl hl.1 ⟨Nat.le_of_ble_eq_true rfl, Nat.le_of_ble_eq_true rfl⟩ ⟨Nat.zero_le _, Nat.zero_le _⟩ (Nat.le_of_ble_eq_true rfl) ?_
        refine lv_i2l (v := (drawnV d (nI k) np).toInt64) hx hb dX7_checksum_69 rfl ?_
        refine lv_ladd hx hb dX7_checksum_70 ?_
        refine lv_lstore_n (lv' := [(1, .long ((31 * ((31 * (ckC d np nc k)) + (d (cP k + 10)).toInt64)) + (drawnV d (nI k) np).toInt64)), (6, .ref (cA k)), (5, .int (nI k)), (4, .int (nI nc)), (3, .ref cr), (0, .ref x)]) hx hb dX7_checksum_71 rfl hl (by decide) rfl (fun ls hl => ?_)
        refine lv_ldc2 (v := 31) hx hb E.2.2.2.1 (E.2.2.2.2 _ kk_X7_256) dX7_checksum_72 ?_
        refine lv_lload_n hx hb dX7_checksum_75 rfl (lv_at hl 0 rfl) ?_
        refine lv_lmul hx hb dX7_checksum_76 ?_
        refine lv_aload_n hx hb dX7_checksum_77 rfl (lv_at hl 5 rfl) ?_
        refine gf_X7_26 E hG hX rfl dX7_checksum_78 ?_
        refine lv_aload hx hb dX7_checksum_81 (lv_at hl 1 rfl) ?_
        refine Rd.callV (rest := [.long (31 * ((31 * ((31 * (ckC d np nc k)) + (d (cP k + 10)).toInt64)) + (drawnV d (nI k) np).toInt64))]) (c_X0_availableSum l G hp0 hc0) yk_X0_availableSum E km_X7_133 dX7_checksum_83 hG hE ⟨hB, (k6 k (by omega)).1⟩ (At.recv hG k1.1 rfl) rfl rfl hl.1 ⟨Nat.le_of_ble_eq_true rfl, Nat.le_of_ble_eq_true rfl⟩ ⟨Nat.zero_le _, Nat.zero_le _⟩ (Nat.le_of_ble_eq_true rfl) ?_
        refine lv_i2l (v := (availV d np nc k).toInt64) hx hb dX7_checksum_86 rfl ?_
        refine lv_ladd hx hb dX7_checksum_87 ?_
        refine lv_lstore_n (lv' := [(1, .long ((31 * ((31 * ((31 * (ckC d np nc k)) + (d (cP k + 10)).toInt64)) + (drawnV d (nI k) np).toInt64)) + (availV d np nc k).toInt64)), (6, .ref (cA k)), (5, .int (nI k)), (4, .int (nI nc)), (3, .ref cr), (0, .ref x)]) hx hb dX7_checksum_88 rfl hl (by decide) rfl (fun ls hl => ?_)
        refine lv_iinc (v := (nI (k + 1))) (lv' := [(5, .int (nI (k + 1))), (1, .long ((31 * ((31 * ((31 * (ckC d np nc k)) + (d (cP k + 10)).toInt64)) + (drawnV d (nI k) np).toInt64)) + (availV d np nc k).toInt64)), (6, .ref (cA k)), (4, .int (nI nc)), (3, .ref cr), (0, .ref x)]) hx hb dX7_checksum_89 hl (k := 2) rfl (nI_ad rfl rfl) (by decide) rfl (fun ls hl => ?_)
        refine lv_goto (tgt := 24) hx hb dX7_checksum_92 (by decide) ?_
        exact ih (k + 1) (by omega) (by omega) ls (lv_sub hl [0, 1, 3, 4, 5] rfl)
  exact loop24 (nc + 1) 0 (by omega) (by omega) ls (lv_sub hl [0, 3, 1, 2, 4] rfl)

set_option maxHeartbeats 4000000 in
set_option maxRecDepth 100000 in
/-- putWord -/
theorem c_X7_putWord (l : Launch) (G : CG) {x bu pa bk : Nat} {bb : Nat → Int32} {es pn : Int32} (hne : x ≠ bu) (hEx : EFA G x) (hEb : EFA G bu) (w : Int32) (b : Nat) (hb8 : b + 4 ≤ 900) : Wr l yX7_putWord cX7_putWord 3 ((Option.none : Option FieldType)) 0 0 0 0 G [.ref x, .int w] (fun H9 => At G x (.inr (7, dkF bu (nI b) es bk pa pn)) H9 ∧ At G bu (bA G 900 bb) H9) (fun q9 => q9 = x ∨ q9 = bu) (fun v9 H9 => v9 = none ∧ At G x (.inr (7, dkF bu (nI (b + 4)) es bk pa pn)) H9 ∧ At G bu (bA G 900 (pwD bb b w)) H9) := by
  refine Wr.ofW (by decide) (Nat.le_of_ble_eq_true rfl) (fun p e s m below meth c ls E hG hE hP hr hk hin hl => ?_)
  have hS : va_S (fun q9 => q9 = x ∨ q9 = bu) s.heap s.heap [] := va_S.rf
  have hx := E.1
  have hb := E.2.1
  have hl : lv_has ls 3 [(0, .ref x), (1, .int w)] := hl
  obtain ⟨f_x, f_bu⟩ := hP
  have ne_x_bu := hne
  have hEA : ∀ q9, (fun q9 => q9 = x ∨ q9 = bu) q9 → EFA G q9 := fun q9 h9 => by rcases h9 with h9 | h9 <;> rw [h9] <;> assumption
  refine lv_bipush (v := 24) hx hb dX7_putWord_0 rfl ?_
  refine lv_istore_n (lv' := [(2, .int 24), (0, .ref x), (1, .int w)]) hx hb dX7_putWord_2 rfl hl (by decide) rfl (fun ls hl => ?_)
  refine lv_iload_n hx hb dX7_putWord_3 rfl (lv_at hl 0 rfl) ?_
  refine lv_if_lt (tgt := 55) hx hb dX7_putWord_4 (by decide) (fun c_4 => ?_) (fun c_4 => ?_)
  · exact absurd c_4 (by decide)
  · refine lv_aload_n hx hb dX7_putWord_7 rfl (lv_at hl 1 rfl) ?_
    refine gf_X7_13 E hG f_x rfl dX7_putWord_8 ?_
    refine lv_if_lt (tgt := 49) hx hb dX7_putWord_11 (by decide) (fun c_11 => ?_) (fun c_11 => ?_)
    · exact absurd c_11 (nI_pos (by omega))
    · refine lv_aload_n hx hb dX7_putWord_14 rfl (lv_at hl 1 rfl) ?_
      refine gf_X7_13 E hG f_x rfl dX7_putWord_15 ?_
      refine lv_aload_n hx hb dX7_putWord_18 rfl (lv_at hl 1 rfl) ?_
      refine gf_X7_9 E hG f_x rfl dX7_putWord_19 ?_
      refine g_len (t0 := 0) (v := 900) E hG f_bu rfl rfl dX7_putWord_22 ?_
      refine lv_icmp_ge (tgt := 49) hx hb dX7_putWord_23 (by decide) (fun c_23 => ?_) (fun c_23 => ?_)
      · exact absurd ((nLE (x := 900) (a := 900) rfl rfl (by omega) (by omega)).mp c_23) (by omega)
      · refine lv_aload_n hx hb dX7_putWord_26 rfl (lv_at hl 1 rfl) ?_
        refine gf_X7_9 E hG f_x rfl dX7_putWord_27 ?_
        refine lv_aload_n hx hb dX7_putWord_30 rfl (lv_at hl 1 rfl) ?_
        refine gf_X7_13 E hG f_x rfl dX7_putWord_31 ?_
        refine lv_iload_n hx hb dX7_putWord_34 rfl (lv_at hl 2 rfl) ?_
        refine lv_iload_n hx hb dX7_putWord_35 rfl (lv_at hl 0 rfl) ?_
        refine lv_ishr hx hb dX7_putWord_36 ?_
        refine lv_i2b (v := (w >>> (24 &&& 31)).toInt8.toInt32) hx hb dX7_putWord_37 rfl ?_
        refine g_bst b E hG f_bu rfl (by omega) (by omega) hS (Or.inr rfl) dX7_putWord_38 (fun H locs f_bu hz oq hS => ?_)
        have f_x : At G x (.inr (7, [.ref bu, .int (nI b), .int es, .ref bk, .ref pa, .int pn])) H := oth f_x ne_x_bu oq
        have f_bu : At G bu (.inl (G.2.1 0, 900, .inl (upd bb b ((w >>> (24 &&& 31)).toInt8.toInt32).toInt8.toInt32))) H := f_bu
        refine lv_aload_n hx hb dX7_putWord_39 rfl (lv_at hl 1 rfl) ?_
        refine lv_dup hx hb dX7_putWord_40 rfl ?_
        refine gf_X7_13 E hG f_x rfl dX7_putWord_41 ?_
        refine lv_iconst (v := 1) hx hb dX7_putWord_44 rfl ?_
        refine lv_iadd hx hb dX7_putWord_45 ?_
        refine lv_ci (y := nI (b + 1)) (ixq (nI_ad rfl rfl)) ?_
        refine pf_X7_13 E hG f_x (Nat.le_of_ble_eq_true rfl) rfl rfl hS (Or.inl rfl) dX7_putWord_46 (fun H locs f_x hz oq hS => ?_)
        have f_bu : At G bu (.inl (G.2.1 0, 900, .inl (upd bb b ((w >>> (24 &&& 31)).toInt8.toInt32).toInt8.toInt32))) H := oth f_bu (Ne.symm ne_x_bu) oq
        have f_x : At G x (.inr (7, [.ref bu, .int (nI (b + 1)), .int es, .ref bk, .ref pa, .int pn])) H := f_x
        refine lv_iinc (v := 16) (lv' := [(2, .int 16), (0, .ref x), (1, .int w)]) hx hb dX7_putWord_49 hl (k := 0) rfl rfl (by decide) rfl (fun ls hl => ?_)
        refine lv_goto (tgt := 3) hx hb dX7_putWord_52 (by decide) ?_
        refine lv_iload_n hx hb dX7_putWord_3 rfl (lv_at hl 0 rfl) ?_
        refine lv_if_lt (tgt := 55) hx hb dX7_putWord_4 (by decide) (fun c_4 => ?_) (fun c_4 => ?_)
        · exact absurd c_4 (by decide)
        · refine lv_aload_n hx hb dX7_putWord_7 rfl (lv_at hl 1 rfl) ?_
          refine gf_X7_13 E hG f_x rfl dX7_putWord_8 ?_
          refine lv_if_lt (tgt := 49) hx hb dX7_putWord_11 (by decide) (fun c_11 => ?_) (fun c_11 => ?_)
          · exact absurd c_11 (nI_pos (by omega))
          · refine lv_aload_n hx hb dX7_putWord_14 rfl (lv_at hl 1 rfl) ?_
            refine gf_X7_13 E hG f_x rfl dX7_putWord_15 ?_
            refine lv_aload_n hx hb dX7_putWord_18 rfl (lv_at hl 1 rfl) ?_
            refine gf_X7_9 E hG f_x rfl dX7_putWord_19 ?_
            refine g_len (t0 := 0) (v := 900) E hG f_bu rfl rfl dX7_putWord_22 ?_
            refine lv_icmp_ge (tgt := 49) hx hb dX7_putWord_23 (by decide) (fun c_23 => ?_) (fun c_23 => ?_)
            · exact absurd ((nLE (x := 900) (a := 900) rfl rfl (by omega) (by omega)).mp c_23) (by omega)
            · refine lv_aload_n hx hb dX7_putWord_26 rfl (lv_at hl 1 rfl) ?_
              refine gf_X7_9 E hG f_x rfl dX7_putWord_27 ?_
              refine lv_aload_n hx hb dX7_putWord_30 rfl (lv_at hl 1 rfl) ?_
              refine gf_X7_13 E hG f_x rfl dX7_putWord_31 ?_
              refine lv_iload_n hx hb dX7_putWord_34 rfl (lv_at hl 2 rfl) ?_
              refine lv_iload_n hx hb dX7_putWord_35 rfl (lv_at hl 0 rfl) ?_
              refine lv_ishr hx hb dX7_putWord_36 ?_
              refine lv_i2b (v := (w >>> (16 &&& 31)).toInt8.toInt32) hx hb dX7_putWord_37 rfl ?_
              refine g_bst (b + 1) E hG f_bu rfl (by omega) (by omega) hS (Or.inr rfl) dX7_putWord_38 (fun H locs f_bu hz oq hS => ?_)
              have f_x : At G x (.inr (7, [.ref bu, .int (nI (b + 1)), .int es, .ref bk, .ref pa, .int pn])) H := oth f_x ne_x_bu oq
              have f_bu : At G bu (.inl (G.2.1 0, 900, .inl (upd (upd bb b ((w >>> (24 &&& 31)).toInt8.toInt32).toInt8.toInt32) (b + 1) ((w >>> (16 &&& 31)).toInt8.toInt32).toInt8.toInt32))) H := f_bu
              refine lv_aload_n hx hb dX7_putWord_39 rfl (lv_at hl 1 rfl) ?_
              refine lv_dup hx hb dX7_putWord_40 rfl ?_
              refine gf_X7_13 E hG f_x rfl dX7_putWord_41 ?_
              refine lv_iconst (v := 1) hx hb dX7_putWord_44 rfl ?_
              refine lv_iadd hx hb dX7_putWord_45 ?_
              refine lv_ci (y := nI (b + 2)) (ixq (nI_ad rfl rfl)) ?_
              refine pf_X7_13 E hG f_x (Nat.le_of_ble_eq_true rfl) rfl rfl hS (Or.inl rfl) dX7_putWord_46 (fun H locs f_x hz oq hS => ?_)
              have f_bu : At G bu (.inl (G.2.1 0, 900, .inl (upd (upd bb b ((w >>> (24 &&& 31)).toInt8.toInt32).toInt8.toInt32) (b + 1) ((w >>> (16 &&& 31)).toInt8.toInt32).toInt8.toInt32))) H := oth f_bu (Ne.symm ne_x_bu) oq
              have f_x : At G x (.inr (7, [.ref bu, .int (nI (b + 2)), .int es, .ref bk, .ref pa, .int pn])) H := f_x
              refine lv_iinc (v := 8) (lv' := [(2, .int 8), (0, .ref x), (1, .int w)]) hx hb dX7_putWord_49 hl (k := 0) rfl rfl (by decide) rfl (fun ls hl => ?_)
              refine lv_goto (tgt := 3) hx hb dX7_putWord_52 (by decide) ?_
              refine lv_iload_n hx hb dX7_putWord_3 rfl (lv_at hl 0 rfl) ?_
              refine lv_if_lt (tgt := 55) hx hb dX7_putWord_4 (by decide) (fun c_4 => ?_) (fun c_4 => ?_)
              · exact absurd c_4 (by decide)
              · refine lv_aload_n hx hb dX7_putWord_7 rfl (lv_at hl 1 rfl) ?_
                refine gf_X7_13 E hG f_x rfl dX7_putWord_8 ?_
                refine lv_if_lt (tgt := 49) hx hb dX7_putWord_11 (by decide) (fun c_11 => ?_) (fun c_11 => ?_)
                · exact absurd c_11 (nI_pos (by omega))
                · refine lv_aload_n hx hb dX7_putWord_14 rfl (lv_at hl 1 rfl) ?_
                  refine gf_X7_13 E hG f_x rfl dX7_putWord_15 ?_
                  refine lv_aload_n hx hb dX7_putWord_18 rfl (lv_at hl 1 rfl) ?_
                  refine gf_X7_9 E hG f_x rfl dX7_putWord_19 ?_
                  refine g_len (t0 := 0) (v := 900) E hG f_bu rfl rfl dX7_putWord_22 ?_
                  refine lv_icmp_ge (tgt := 49) hx hb dX7_putWord_23 (by decide) (fun c_23 => ?_) (fun c_23 => ?_)
                  · exact absurd ((nLE (x := 900) (a := 900) rfl rfl (by omega) (by omega)).mp c_23) (by omega)
                  · refine lv_aload_n hx hb dX7_putWord_26 rfl (lv_at hl 1 rfl) ?_
                    refine gf_X7_9 E hG f_x rfl dX7_putWord_27 ?_
                    refine lv_aload_n hx hb dX7_putWord_30 rfl (lv_at hl 1 rfl) ?_
                    refine gf_X7_13 E hG f_x rfl dX7_putWord_31 ?_
                    refine lv_iload_n hx hb dX7_putWord_34 rfl (lv_at hl 2 rfl) ?_
                    refine lv_iload_n hx hb dX7_putWord_35 rfl (lv_at hl 0 rfl) ?_
                    refine lv_ishr hx hb dX7_putWord_36 ?_
                    refine lv_i2b (v := (w >>> (8 &&& 31)).toInt8.toInt32) hx hb dX7_putWord_37 rfl ?_
                    refine g_bst (b + 2) E hG f_bu rfl (by omega) (by omega) hS (Or.inr rfl) dX7_putWord_38 (fun H locs f_bu hz oq hS => ?_)
                    have f_x : At G x (.inr (7, [.ref bu, .int (nI (b + 2)), .int es, .ref bk, .ref pa, .int pn])) H := oth f_x ne_x_bu oq
                    have f_bu : At G bu (.inl (G.2.1 0, 900, .inl (upd (upd (upd bb b ((w >>> (24 &&& 31)).toInt8.toInt32).toInt8.toInt32) (b + 1) ((w >>> (16 &&& 31)).toInt8.toInt32).toInt8.toInt32) (b + 2) ((w >>> (8 &&& 31)).toInt8.toInt32).toInt8.toInt32))) H := f_bu
                    refine lv_aload_n hx hb dX7_putWord_39 rfl (lv_at hl 1 rfl) ?_
                    refine lv_dup hx hb dX7_putWord_40 rfl ?_
                    refine gf_X7_13 E hG f_x rfl dX7_putWord_41 ?_
                    refine lv_iconst (v := 1) hx hb dX7_putWord_44 rfl ?_
                    refine lv_iadd hx hb dX7_putWord_45 ?_
                    refine lv_ci (y := nI (b + 3)) (ixq (nI_ad rfl rfl)) ?_
                    refine pf_X7_13 E hG f_x (Nat.le_of_ble_eq_true rfl) rfl rfl hS (Or.inl rfl) dX7_putWord_46 (fun H locs f_x hz oq hS => ?_)
                    have f_bu : At G bu (.inl (G.2.1 0, 900, .inl (upd (upd (upd bb b ((w >>> (24 &&& 31)).toInt8.toInt32).toInt8.toInt32) (b + 1) ((w >>> (16 &&& 31)).toInt8.toInt32).toInt8.toInt32) (b + 2) ((w >>> (8 &&& 31)).toInt8.toInt32).toInt8.toInt32))) H := oth f_bu (Ne.symm ne_x_bu) oq
                    have f_x : At G x (.inr (7, [.ref bu, .int (nI (b + 3)), .int es, .ref bk, .ref pa, .int pn])) H := f_x
                    refine lv_iinc (v := 0) (lv' := [(2, .int 0), (0, .ref x), (1, .int w)]) hx hb dX7_putWord_49 hl (k := 0) rfl rfl (by decide) rfl (fun ls hl => ?_)
                    refine lv_goto (tgt := 3) hx hb dX7_putWord_52 (by decide) ?_
                    refine lv_iload_n hx hb dX7_putWord_3 rfl (lv_at hl 0 rfl) ?_
                    refine lv_if_lt (tgt := 55) hx hb dX7_putWord_4 (by decide) (fun c_4 => ?_) (fun c_4 => ?_)
                    · exact absurd c_4 (by decide)
                    · refine lv_aload_n hx hb dX7_putWord_7 rfl (lv_at hl 1 rfl) ?_
                      refine gf_X7_13 E hG f_x rfl dX7_putWord_8 ?_
                      refine lv_if_lt (tgt := 49) hx hb dX7_putWord_11 (by decide) (fun c_11 => ?_) (fun c_11 => ?_)
                      · exact absurd c_11 (nI_pos (by omega))
                      · refine lv_aload_n hx hb dX7_putWord_14 rfl (lv_at hl 1 rfl) ?_
                        refine gf_X7_13 E hG f_x rfl dX7_putWord_15 ?_
                        refine lv_aload_n hx hb dX7_putWord_18 rfl (lv_at hl 1 rfl) ?_
                        refine gf_X7_9 E hG f_x rfl dX7_putWord_19 ?_
                        refine g_len (t0 := 0) (v := 900) E hG f_bu rfl rfl dX7_putWord_22 ?_
                        refine lv_icmp_ge (tgt := 49) hx hb dX7_putWord_23 (by decide) (fun c_23 => ?_) (fun c_23 => ?_)
                        · exact absurd ((nLE (x := 900) (a := 900) rfl rfl (by omega) (by omega)).mp c_23) (by omega)
                        · refine lv_aload_n hx hb dX7_putWord_26 rfl (lv_at hl 1 rfl) ?_
                          refine gf_X7_9 E hG f_x rfl dX7_putWord_27 ?_
                          refine lv_aload_n hx hb dX7_putWord_30 rfl (lv_at hl 1 rfl) ?_
                          refine gf_X7_13 E hG f_x rfl dX7_putWord_31 ?_
                          refine lv_iload_n hx hb dX7_putWord_34 rfl (lv_at hl 2 rfl) ?_
                          refine lv_iload_n hx hb dX7_putWord_35 rfl (lv_at hl 0 rfl) ?_
                          refine lv_ishr hx hb dX7_putWord_36 ?_
                          refine lv_i2b (v := (w >>> (0 &&& 31)).toInt8.toInt32) hx hb dX7_putWord_37 rfl ?_
                          refine g_bst (b + 3) E hG f_bu rfl (by omega) (by omega) hS (Or.inr rfl) dX7_putWord_38 (fun H locs f_bu hz oq hS => ?_)
                          have f_x : At G x (.inr (7, [.ref bu, .int (nI (b + 3)), .int es, .ref bk, .ref pa, .int pn])) H := oth f_x ne_x_bu oq
                          have f_bu : At G bu (.inl (G.2.1 0, 900, .inl (upd (upd (upd (upd bb b ((w >>> (24 &&& 31)).toInt8.toInt32).toInt8.toInt32) (b + 1) ((w >>> (16 &&& 31)).toInt8.toInt32).toInt8.toInt32) (b + 2) ((w >>> (8 &&& 31)).toInt8.toInt32).toInt8.toInt32) (b + 3) ((w >>> (0 &&& 31)).toInt8.toInt32).toInt8.toInt32))) H := f_bu
                          refine lv_aload_n hx hb dX7_putWord_39 rfl (lv_at hl 1 rfl) ?_
                          refine lv_dup hx hb dX7_putWord_40 rfl ?_
                          refine gf_X7_13 E hG f_x rfl dX7_putWord_41 ?_
                          refine lv_iconst (v := 1) hx hb dX7_putWord_44 rfl ?_
                          refine lv_iadd hx hb dX7_putWord_45 ?_
                          refine lv_ci (y := nI (b + 4)) (ixq (nI_ad rfl rfl)) ?_
                          refine pf_X7_13 E hG f_x (Nat.le_of_ble_eq_true rfl) rfl rfl hS (Or.inl rfl) dX7_putWord_46 (fun H locs f_x hz oq hS => ?_)
                          have f_bu : At G bu (.inl (G.2.1 0, 900, .inl (upd (upd (upd (upd bb b ((w >>> (24 &&& 31)).toInt8.toInt32).toInt8.toInt32) (b + 1) ((w >>> (16 &&& 31)).toInt8.toInt32).toInt8.toInt32) (b + 2) ((w >>> (8 &&& 31)).toInt8.toInt32).toInt8.toInt32) (b + 3) ((w >>> (0 &&& 31)).toInt8.toInt32).toInt8.toInt32))) H := oth f_bu (Ne.symm ne_x_bu) oq
                          have f_x : At G x (.inr (7, [.ref bu, .int (nI (b + 4)), .int es, .ref bk, .ref pa, .int pn])) H := f_x
                          refine lv_iinc (v := (-8)) (lv' := [(2, .int (-8)), (0, .ref x), (1, .int w)]) hx hb dX7_putWord_49 hl (k := 0) rfl rfl (by decide) rfl (fun ls hl => ?_)
                          refine lv_goto (tgt := 3) hx hb dX7_putWord_52 (by decide) ?_
                          refine lv_iload_n hx hb dX7_putWord_3 rfl (lv_at hl 0 rfl) ?_
                          refine lv_if_lt (tgt := 55) hx hb dX7_putWord_4 (by decide) (fun c_4 => ?_) (fun c_4 => ?_)
                          · exact wr_void E hr hk hS (show 0 ≤ 0 by omega) (show 0 ≤ 0 by omega) (⟨rfl, f_x, f_bu⟩) dX7_putWord_55
                          · exact absurd c_4 (by decide)

set_option maxHeartbeats 4000000 in
set_option maxRecDepth 100000 in
/-- append -/
theorem c_X7_append (l : Launch) (G : CG) {x bu pa bk : Nat} {bb : Nat → Int32} {es pn : Int32} (hne : x ≠ bu) (hEx : EFA G x) (hEb : EFA G bu) (w0 w1 w2 w3 w4 : Int32) (b : Nat) (hb8 : b + 20 ≤ 900) : Wr l yX7_append cX7_append 6 ((Option.some FieldType.int)) 1 22 0 0 G [.ref x, .int w0, .int w1, .int w2, .int w3, .int w4] (fun H9 => At G x (.inr (7, dkF bu (nI b) es bk pa pn)) H9 ∧ At G bu (bA G 900 bb) H9) (fun q9 => q9 = x ∨ q9 = bu) (fun v9 H9 => v9 = some (.int (nI (b + 20))) ∧ At G x (.inr (7, dkF bu (nI (b + 20)) es bk pa pn)) H9 ∧ At G bu (bA G 900 (apC bb b w0 w1 w2 w3 w4)) H9) := by
  refine Wr.ofW (by decide) (Nat.le_of_ble_eq_true rfl) (fun p e s m below meth c ls E hG hE hP hr hk hin hl => ?_)
  have hS : va_S (fun q9 => q9 = x ∨ q9 = bu) s.heap s.heap [] := va_S.rf
  have hx := E.1
  have hb := E.2.1
  have hl : lv_has ls 6 [(0, .ref x), (1, .int w0), (2, .int w1), (3, .int w2), (4, .int w3), (5, .int w4)] := hl
  obtain ⟨f_x, f_bu⟩ := hP
  have ne_x_bu := hne
  have hEA : ∀ q9, (fun q9 => q9 = x ∨ q9 = bu) q9 → EFA G q9 := fun q9 h9 => by rcases h9 with h9 | h9 <;> rw [h9] <;> assumption
  refine lv_aload_n hx hb dX7_append_0 rfl (lv_at hl 0 rfl) ?_
  refine gf_X7_13 E hG f_x rfl dX7_append_1 ?_
  refine lv_bipush (v := 20) hx hb dX7_append_4 rfl ?_
  refine lv_iadd hx hb dX7_append_6 ?_
  refine lv_sipush (v := 900) hx hb dX7_append_7 rfl ?_
  refine lv_icmp_le (tgt := 15) hx hb dX7_append_10 (by decide) (fun c_10 => ?_) (fun c_10 => ?_)
  · refine lv_aload_n hx hb dX7_append_15 rfl (lv_at hl 0 rfl) ?_
    refine lv_iload_n hx hb dX7_append_16 rfl (lv_at hl 1 rfl) ?_
    refine Wr.callV (rest := []) (c_X7_putWord l G hne hEx hEb w0 b (by omega)) yk_X7_putWord E km_X7_37 dX7_append_17 hG (hE.S hS hEA) ⟨f_x, f_bu⟩ (At.recv hG f_x rfl) rfl rfl hl.1 ⟨Nat.le_of_ble_eq_true rfl, Nat.le_of_ble_eq_true rfl⟩ ⟨Nat.le_of_ble_eq_true rfl, Nat.le_of_ble_eq_true rfl⟩ (Nat.le_of_ble_eq_true rfl) hS (fun _ h9 => h9) (fun v9 H locs hq hz9 hfr9 hS => ?_)
    obtain ⟨rfl, f_x, f_bu⟩ := hq
    refine lv_aload_n hx hb dX7_append_20 rfl (lv_at hl 0 rfl) ?_
    refine lv_iload_n hx hb dX7_append_21 rfl (lv_at hl 2 rfl) ?_
    refine Wr.callV (rest := []) (c_X7_putWord l G hne hEx hEb w1 (b + 4) (by omega)) yk_X7_putWord E km_X7_37 dX7_append_22 hG (hE.S hS hEA) ⟨f_x, f_bu⟩ (At.recv hG f_x rfl) rfl rfl hl.1 ⟨Nat.le_of_ble_eq_true rfl, Nat.le_of_ble_eq_true rfl⟩ ⟨Nat.le_of_ble_eq_true rfl, Nat.le_of_ble_eq_true rfl⟩ (Nat.le_of_ble_eq_true rfl) hS (fun _ h9 => h9) (fun v9 H locs hq hz9 hfr9 hS => ?_)
    obtain ⟨rfl, f_x, f_bu⟩ := hq
    refine lv_aload_n hx hb dX7_append_25 rfl (lv_at hl 0 rfl) ?_
    refine lv_iload_n hx hb dX7_append_26 rfl (lv_at hl 3 rfl) ?_
    refine Wr.callV (rest := []) (c_X7_putWord l G hne hEx hEb w2 (b + 4 + 4) (by omega)) yk_X7_putWord E km_X7_37 dX7_append_27 hG (hE.S hS hEA) ⟨f_x, f_bu⟩ (At.recv hG f_x rfl) rfl rfl hl.1 ⟨Nat.le_of_ble_eq_true rfl, Nat.le_of_ble_eq_true rfl⟩ ⟨Nat.le_of_ble_eq_true rfl, Nat.le_of_ble_eq_true rfl⟩ (Nat.le_of_ble_eq_true rfl) hS (fun _ h9 => h9) (fun v9 H locs hq hz9 hfr9 hS => ?_)
    obtain ⟨rfl, f_x, f_bu⟩ := hq
    refine lv_aload_n hx hb dX7_append_30 rfl (lv_at hl 0 rfl) ?_
    refine lv_iload hx hb dX7_append_31 (lv_at hl 4 rfl) ?_
    refine Wr.callV (rest := []) (c_X7_putWord l G hne hEx hEb w3 (b + 4 + 4 + 4) (by omega)) yk_X7_putWord E km_X7_37 dX7_append_33 hG (hE.S hS hEA) ⟨f_x, f_bu⟩ (At.recv hG f_x rfl) rfl rfl hl.1 ⟨Nat.le_of_ble_eq_true rfl, Nat.le_of_ble_eq_true rfl⟩ ⟨Nat.le_of_ble_eq_true rfl, Nat.le_of_ble_eq_true rfl⟩ (Nat.le_of_ble_eq_true rfl) hS (fun _ h9 => h9) (fun v9 H locs hq hz9 hfr9 hS => ?_)
    obtain ⟨rfl, f_x, f_bu⟩ := hq
    refine lv_aload_n hx hb dX7_append_36 rfl (lv_at hl 0 rfl) ?_
    refine lv_iload hx hb dX7_append_37 (lv_at hl 5 rfl) ?_
    refine Wr.callV (rest := []) (c_X7_putWord l G hne hEx hEb w4 (b + 4 + 4 + 4 + 4) (by omega)) yk_X7_putWord E km_X7_37 dX7_append_39 hG (hE.S hS hEA) ⟨f_x, f_bu⟩ (At.recv hG f_x rfl) rfl rfl hl.1 ⟨Nat.le_of_ble_eq_true rfl, Nat.le_of_ble_eq_true rfl⟩ ⟨Nat.le_of_ble_eq_true rfl, Nat.le_of_ble_eq_true rfl⟩ (Nat.le_of_ble_eq_true rfl) hS (fun _ h9 => h9) (fun v9 H locs hq hz9 hfr9 hS => ?_)
    obtain ⟨rfl, f_x, f_bu⟩ := hq
    refine lv_aload_n hx hb dX7_append_42 rfl (lv_at hl 0 rfl) ?_
    refine gf_X7_13 E hG f_x rfl dX7_append_43 ?_
    exact wr_int E hr hk hS (show 0 ≤ 0 by omega) (show 0 ≤ 0 by omega) (⟨congrArg (fun z9 => some (Value.int (nI z9))) (by omega), f_x, f_bu⟩) dX7_append_46
  · exact absurd ((nLE (x := nI b + 20) (y := 900) (a := b + 20) (b := 900) (nI_ad rfl rfl) rfl (by omega) (by omega)).mpr hb8) c_10

set_option maxHeartbeats 4000000 in
set_option maxRecDepth 100000 in
/-- append, no room -/
theorem c_X7_append_x (l : Launch) (G : CG) {x bu pa bk : Nat} {es pn : Int32} (w0 w1 w2 w3 w4 : Int32) (b : Nat) (hb8 : ¬ b + 20 ≤ 900) (hb9 : b ≤ 900) : Rd l yX7_append cX7_append 6 ((Option.some FieldType.int)) 0 0 G [.ref x, .int w0, .int w1, .int w2, .int w3, .int w4] (At G x (.inr (7, dkF bu (nI b) es bk pa pn))) (some (.int (-1))) := by
  refine Rd.ofW (by decide) (Nat.le_of_ble_eq_true rfl) (fun p e s m below meth c ls E hG hE hP hr hk hl => ?_)
  have hx := E.1
  have hb := E.2.1
  have hl : lv_has ls 6 [(0, .ref x), (1, .int w0), (2, .int w1), (3, .int w2), (4, .int w3), (5, .int w4)] := hl
  refine lv_aload_n hx hb dX7_append_0 rfl (lv_at hl 0 rfl) ?_
  refine gf_X7_13 E hG hP rfl dX7_append_1 ?_
  refine lv_bipush (v := 20) hx hb dX7_append_4 rfl ?_
  refine lv_iadd hx hb dX7_append_6 ?_
  refine lv_sipush (v := 900) hx hb dX7_append_7 rfl ?_
  refine lv_icmp_le (tgt := 15) hx hb dX7_append_10 (by decide) (fun c_10 => ?_) (fun c_10 => ?_)
  · exact absurd ((nLE (x := nI b + 20) (y := 900) (a := b + 20) (b := 900) (nI_ad rfl rfl) rfl (by omega) (by omega)).mp c_10) hb8
  · refine lv_iconst (v := (-1)) hx hb dX7_append_13 rfl ?_
    exact rd_int E hr hk (rfl) dX7_append_14

set_option maxHeartbeats 4000000 in
set_option maxRecDepth 100000 in
/-- constructor -/
theorem c_X7_init (l : Launch) (G : CG) {x sz : Nat} {d : Nat → Int32} (hz1 : EFA G sz) (hEx : EFA G x) (hxz : x < sz) (h3 : d 3 = 0) (h4 : d 4 = 0) : Wr l yX7_init cX7_init 1 ((Option.none : Option FieldType)) 3 64 8 915 G [.ref x] (fun H9 => H9.size = sz ∧ At G x (.inr (7, [.null, .int 0, .int 0, .null, .null, .int 0])) H9) (fun q9 => q9 = x ∨ sz ≤ q9) (fun v9 H9 => v9 = none ∧ ∃ bu pa bk, sz ≤ bu ∧ bu < pa ∧ pa < H9.size ∧ At G x (.inr (7, dkF bu 0 (-1) bk pa 0)) H9 ∧ At G bu (bA G 900 (fun _ => 0)) H9 ∧ At G pa (qA G (fun _ => none)) H9 ∧ BK G (fun q => q = x ∨ q = bu ∨ q = pa) bk d 0 0 0 H9) := by
  refine Wr.ofW (by decide) (Nat.le_of_ble_eq_true rfl) (fun p e s m below meth c ls E hG hE hP hr hk hin hl => ?_)
  have hS : va_S (fun q9 => q9 = x ∨ sz ≤ q9) s.heap s.heap [] := va_S.rf
  have hx := E.1
  have hb := E.2.1
  have hl : lv_has ls 1 [(0, .ref x)] := hl
  obtain ⟨hz0, f_x⟩ := hP
  have hEA : ∀ q9, q9 = x ∨ sz ≤ q9 → EFA G q9 := fun q9 h9 => h9.elim (fun z9 => by rw [z9]; exact hEx) (fun z9 => Nat.le_trans hz1 z9)
  refine lv_aload_n hx hb dX7_init_0 rfl (lv_at hl 0 rfl) ?_
  refine W.objInit hx hb E.2.2.2.1 (E.2.2.2.2 _ km_X7_1) (E.2.2.2.2 _ ki_objInit) (E.2.2.2.2 _ kc_objInit) rfl (by rw [E.2.2.1]; exact hl.1) rfl dX7_init_1 (Nat.le_of_ble_eq_true rfl) (Nat.le_of_ble_eq_true rfl) ?_
  refine lv_aload_n hx hb dX7_init_4 rfl (lv_at hl 0 rfl) ?_
  refine lv_sipush (v := 900) hx hb dX7_init_5 rfl ?_
  refine n_newa (atype := .byte) (N := 900) (x := (900, .inl (fun _ => 0))) (t0 := 0) rfl ka_byte (by exact Or.inr (Or.inr rfl)) rfl E hG hS (Nat.le_of_eq hz0.symm) rfl (by omega) (show 0 + 1 ≤ 8 by omega) (show 0 + 900 ≤ 915 by omega) dX7_init_8 (fun b_1 H hb_1 hg_1 f_1 hz oq hS => ?_)
  have ne_x_b_1 : x ≠ b_1 := fun z9 => absurd (va_at.lt f_x) (by rw [z9, hb_1]; exact Nat.lt_irrefl _)
  have f_x : At G x (.inr (7, [.null, .int 0, .int 0, .null, .null, .int 0])) H := olt f_x oq
  refine pf_X7_9 E hG (hin rfl) f_x (Nat.le_of_ble_eq_true rfl) rfl rfl hS (Or.inl rfl) dX7_init_10 (fun H locs f_x hz oq hS => ?_)
  have f_1 : At G b_1 (.inl (G.2.1 0, 900, .inl (fun _ => 0))) H := oth f_1 (Ne.symm ne_x_b_1) oq
  have f_x : At G x (.inr (7, [.ref b_1, .int 0, .int 0, .null, .null, .int 0])) H := f_x
  refine lv_aload_n hx hb dX7_init_13 rfl (lv_at hl 0 rfl) ?_
  refine lv_iconst (v := 0) hx hb dX7_init_14 rfl ?_
  refine pf_X7_13 E hG f_x (Nat.le_of_ble_eq_true rfl) rfl rfl hS (Or.inl rfl) dX7_init_15 (fun H locs f_x hz oq hS => ?_)
  have f_1 : At G b_1 (.inl (G.2.1 0, 900, .inl (fun _ => 0))) H := oth f_1 (Ne.symm ne_x_b_1) oq
  have f_x : At G x (.inr (7, [.ref b_1, .int 0, .int 0, .null, .null, .int 0])) H := f_x
  refine lv_aload_n hx hb dX7_init_18 rfl (lv_at hl 0 rfl) ?_
  refine lv_iconst (v := (-1)) hx hb dX7_init_19 rfl ?_
  refine pf_X7_17 E hG f_x (Nat.le_of_ble_eq_true rfl) rfl rfl hS (Or.inl rfl) dX7_init_20 (fun H locs f_x hz oq hS => ?_)
  have f_1 : At G b_1 (.inl (G.2.1 0, 900, .inl (fun _ => 0))) H := oth f_1 (Ne.symm ne_x_b_1) oq
  have f_x : At G x (.inr (7, [.ref b_1, .int 0, .int (-1), .null, .null, .int 0])) H := f_x
  refine lv_aload_n hx hb dX7_init_23 rfl (lv_at hl 0 rfl) ?_
  have hgz : sz ≤ H.size := Nat.le_trans (Nat.le_of_eq hz0.symm) hS.1
  have hlb : b_1 < H.size := va_at.lt f_1
  refine Wr.callS (rest := [.ref x]) (c_X0_ofEmptySetup (AO := fun q => q = x ∨ q = b_1) (sz := H.size) (d := d) l G (Nat.le_trans hz1 hgz) (fun q9 h9 => by rcases h9 with h9 | h9 <;> omega) h3 h4) yk_X0_ofEmptySetup E km_X7_20 dX7_init_24 hG (hE.S hS hEA) rfl rfl rfl hl.1 ⟨Nat.le_of_ble_eq_true rfl, Nat.le_of_ble_eq_true rfl⟩ ⟨(show 0 + 1 + 6 ≤ 8 by omega), (show 0 + 900 + 7 ≤ 915 by omega)⟩ (Nat.le_of_ble_eq_true rfl) hS (fun q9 h9 => (Or.inr (Nat.le_trans (Nat.le_trans (Nat.le_of_eq hz0.symm) hS.1) h9))) (fun v9 H locs hq hz9 hfr9 hS => ?_)
  have f_x : At G x (.inr (7, [.ref b_1, .int 0, .int (-1), .null, .null, .int 0])) H := va_at.kept f_x (hfr9 _ (va_at.lt f_x) (Nat.not_le.mpr (va_at.lt f_x)))
  have f_1 : At G b_1 (.inl (G.2.1 0, 900, .inl (fun _ => 0))) H := va_at.kept f_1 (hfr9 _ (va_at.lt f_1) (Nat.not_le.mpr (va_at.lt f_1)))
  obtain ⟨b9, rfl, hg9, hB9⟩ := hq
  have hz8 : _ ≤ H.size := hz9
  refine pf_X7_26 E hG f_x (Nat.le_of_ble_eq_true rfl) rfl rfl hS (Or.inl rfl) dX7_init_27 (fun H locs f_x hz oq hS => ?_)
  have f_1 : At G b_1 (.inl (G.2.1 0, 900, .inl (fun _ => 0))) H := oth f_1 (Ne.symm ne_x_b_1) oq
  have f_x : At G x (.inr (7, [.ref b_1, .int 0, .int (-1), .ref b9, .null, .int 0])) H := f_x
  have hB9 : BK G (fun q => q = x ∨ q = b_1) b9 d 0 0 0 H := hB9.kept (fun q9 h9 h8 => oq q9 (fun z9 => h8 (Or.inl z9)))
  have hlb2 : b_1 < H.size := va_at.lt f_1
  refine lv_aload_n hx hb dX7_init_30 rfl (lv_at hl 0 rfl) ?_
  refine lv_bipush (v := 8) hx hb dX7_init_31 rfl ?_
  refine n_newq (N := 8) (t0 := 3) rfl kl_X7_21 hG.2.1 E hG hS (Nat.le_of_eq hz0.symm) rfl (by omega) (show 0 + 1 + 6 + 1 ≤ 8 by omega) (show 0 + 900 + 7 + 8 ≤ 915 by omega) dX7_init_33 (fun b_2 H hb_2 hg_2 f_2 hz oq hS => ?_)
  have ne_x_b_2 : x ≠ b_2 := fun z9 => absurd (va_at.lt f_x) (by rw [z9, hb_2]; exact Nat.lt_irrefl _)
  have ne_b_1_b_2 : b_1 ≠ b_2 := fun z9 => absurd (va_at.lt f_1) (by rw [z9, hb_2]; exact Nat.lt_irrefl _)
  have f_x : At G x (.inr (7, [.ref b_1, .int 0, .int (-1), .ref b9, .null, .int 0])) H := olt f_x oq
  have f_1 : At G b_1 (.inl (G.2.1 0, 900, .inl (fun _ => 0))) H := olt f_1 oq
  have hB9 : BK G (fun q => q = x ∨ q = b_1 ∨ q = b_2) b9 d 0 0 0 H := (hB9.nar (A' := fun q => q = x ∨ q = b_1 ∨ q = b_2) (fun q9 h9 h8 => by rcases h8 with h8 | h8 | h8; (exact Or.inl h8); (exact Or.inr h8); (omega))).kept (fun q9 h9 _ => oq q9 h9)
  refine pf_X7_30 E hG (hin rfl) f_x (Nat.le_of_ble_eq_true rfl) rfl rfl hS (Or.inl rfl) dX7_init_36 (fun H locs f_x hz oq hS => ?_)
  have f_1 : At G b_1 (.inl (G.2.1 0, 900, .inl (fun _ => 0))) H := oth f_1 (Ne.symm ne_x_b_1) oq
  have f_2 : At G b_2 (.inl (G.2.1 3, 8, .inr (.inr (.inr (.inr (fun _ => none)))))) H := oth f_2 (Ne.symm ne_x_b_2) oq
  have f_x : At G x (.inr (7, [.ref b_1, .int 0, .int (-1), .ref b9, .ref b_2, .int 0])) H := f_x
  have hB9 : BK G (fun q => q = x ∨ q = b_1 ∨ q = b_2) b9 d 0 0 0 H := hB9.kept (fun q9 h9 h8 => oq q9 (fun z9 => h8 (Or.inl z9)))
  refine lv_aload_n hx hb dX7_init_39 rfl (lv_at hl 0 rfl) ?_
  refine lv_iconst (v := 0) hx hb dX7_init_40 rfl ?_
  refine pf_X7_34 E hG f_x (Nat.le_of_ble_eq_true rfl) rfl rfl hS (Or.inl rfl) dX7_init_41 (fun H locs f_x hz oq hS => ?_)
  have f_1 : At G b_1 (.inl (G.2.1 0, 900, .inl (fun _ => 0))) H := oth f_1 (Ne.symm ne_x_b_1) oq
  have f_2 : At G b_2 (.inl (G.2.1 3, 8, .inr (.inr (.inr (.inr (fun _ => none)))))) H := oth f_2 (Ne.symm ne_x_b_2) oq
  have f_x : At G x (.inr (7, [.ref b_1, .int 0, .int (-1), .ref b9, .ref b_2, .int 0])) H := f_x
  have hB9 : BK G (fun q => q = x ∨ q = b_1 ∨ q = b_2) b9 d 0 0 0 H := hB9.kept (fun q9 h9 h8 => oq q9 (fun z9 => h8 (Or.inl z9)))
  exact wr_void E hr hk hS (show 0 + 1 + 6 + 1 ≤ 8 by omega) (show 0 + 900 + 7 + 8 ≤ 915 by omega) (⟨rfl, b_1, b_2, b9, hg_1, by omega, va_at.lt f_2, f_x, f_1, f_2, hB9⟩) dX7_init_44
