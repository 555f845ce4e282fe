/-! THE CLASS: new cells; constructors; books made of books -/
section NWS
variable {p : Program} {l : Launch} {e : Env} {R : Room} {s : State} {m : MethodId} {args : Array Value} {below : List Frame} {meth : Method} {c : Code} {H : Heap} {locs : List Loc} {cells slots : Nat} {Q : State → Prop}
variable {cc : ByteArray} {nL : Nat} {own : String} {pc : Nat} {ls : Array Slot} {rest : List Value} {G : CG} {a : Nat} {H0 : Heap} {A : Nat → Prop} {sz : Nat}
theorem n_new {C : String} {T : u_T} {N ci index : Nat} {fs : List Value} {ty : Nat → FieldType} (hin : ∀ w ∈ u_ws C T N, w ∈ TB) (hty : ∀ k, k < N → parseFieldDescriptor (T k).2.2.1 = some (ty k)) (hc : vwCl[ci]? = some (C, T, N)) (hcl : Cond.classLink own index C ∈ TB) (hinst : Cond.instantiable C N ∈ TB) (hini : Cond.initialized C ∈ TB) (hfs : ∀ j, j < N → defaultValue (ty j) = vp_V fs j)
    (E : CallFix p m c cc nL s args TB own) (hG : KT G s) (hS : va_S A H0 H locs) (hz : sz ≤ H0.size) (hcells : cells + 1 ≤ R.cells) (hslots : slots + N ≤ R.slots) (hdg : decode cc pc = .ok (.new index, 3))
    (kk : ∀ (b : Nat) (H1 : Heap), b = H.size → sz ≤ b → At G b (.inr (ci, fs)) H1 → H1.size = H.size + 1 → (∀ q : Nat, q < H.size → H1[q]? = H[q]?) → va_S A H0 H1 locs → W p l e R s m args below meth c H1 locs (cells + 1) (slots + N) Q (F0 m (pc + 3) ls (.ref b :: rest))) : W p l e R s m args below meth c H locs cells slots Q (F0 m pc ls rest) :=
  g_new hin hty hc hcl hinst hini hfs E hG hS hcells hslots hdg (fun H1 h1 h2 h3 h4 => kk H.size H1 rfl (Nat.le_trans hz hS.1) h1 h2 h3 h4)
theorem n_newa {atype : ArrayType} {t0 : Nat} {cA : ClassId} {n : Int32} {N : Nat} {x : vp_A} (ht : (tysG G)[t0]? = some (cA, newarray.typeOf atype)) (harr : Cond.arrayClass (newarray.typeOf atype) ∈ TB) (hra : newarray.typeOf atype = .int ∨ newarray.typeOf atype = .long ∨ newarray.typeOf atype = .byte) (hx : vp_cell cA x = arrV cA N (fun _ => defaultValue (newarray.typeOf atype)))
    (E : CallFix p m c cc nL s args TB own) (hG : KT G s) (hS : va_S A H0 H locs) (hz : sz ≤ H0.size) (hn : n = nI N) (hN : N ≤ 65536) (hcells : cells + 1 ≤ R.cells) (hslots : slots + N ≤ R.slots) (hdg : decode cc pc = .ok (.newarray atype, 2))
    (kk : ∀ (b : Nat) (H1 : Heap), b = H.size → sz ≤ b → At G b (.inl (cA, x)) H1 → H1.size = H.size + 1 → (∀ q : Nat, q < H.size → H1[q]? = H[q]?) → va_S A H0 H1 locs → W p l e R s m args below meth c H1 locs (cells + 1) (slots + N) Q (F0 m (pc + 2) ls (.ref b :: rest))) : W p l e R s m args below meth c H locs cells slots Q (F0 m pc ls (.int n :: rest)) :=
  g_newa ht harr hra hx E hG hS hn hN hcells hslots hdg (fun H1 h1 h2 h3 h4 => kk H.size H1 rfl (Nat.le_trans hz hS.1) h1 h2 h3 h4)
theorem n_newq {C : String} {t0 index : Nat} {cA : ClassId} {n : Int32} {N : Nat} (ht : (tysG G)[t0]? = some (cA, .object C)) (hcl : Cond.classLink own index C ∈ TB) (hov : va_AO C s) (E : CallFix p m c cc nL s args TB own) (hG : KT G s) (hS : va_S A H0 H locs) (hz : sz ≤ H0.size) (hn : n = nI N) (hN : N ≤ 65536) (hcells : cells + 1 ≤ R.cells) (hslots : slots + N ≤ R.slots) (hdg : decode cc pc = .ok (.anewarray index, 3))
    (kk : ∀ (b : Nat) (H1 : Heap), b = H.size → sz ≤ b → At G b (.inl (cA, N, .inr (.inr (.inr (.inr (fun _ => none)))))) H1 → H1.size = H.size + 1 → (∀ q : Nat, q < H.size → H1[q]? = H[q]?) → va_S A H0 H1 locs → W p l e R s m args below meth c H1 locs (cells + 1) (slots + N) Q (F0 m (pc + 3) ls (.ref b :: rest))) : W p l e R s m args below meth c H locs cells slots Q (F0 m pc ls (.int n :: rest)) :=
  g_newq ht hcl hov E hG hS hn hN hcells hslots hdg (fun H1 h1 h2 h3 h4 => kk H.size H1 rfl (Nat.le_trans hz hS.1) h1 h2 h3 h4)
/-- an old cell, where only new ones have changed -/
theorem kn {x : va_E} (hS : va_S (fun q9 => sz ≤ q9) H0 H locs) (hz : H0.size = sz) (h : At G a x H0) : At G a x H := va_at.kept h (hS.2.1 a (va_at.lt h) (by rw [← hz]; exact Nat.not_le.mpr (va_at.lt h)))
theorem knp {x : va_E} {AO : Nat → Prop} (hS : va_S (fun q9 => sz ≤ q9) H0 H locs) (hz : H0.size = sz) (h : At G a x H0 ∧ ¬ AO a) : At G a x H ∧ ¬ AO a := ⟨kn hS hz h.1, h.2⟩
end NWS
theorem va_S.wid {A A' : Nat → Prop} {H0 H : Heap} {locs : List Loc} (h : va_S A H0 H locs) (hA : ∀ q, A q → A' q) : va_S A' H0 H locs := ⟨h.1, fun q h1 h2 => h.2.1 q h1 (fun z => h2 (hA q z)), fun l hl => hA _ (h.2.2 l hl)⟩
theorem df_X0 : ∀ j, j < 5 → defaultValue (tyX0 j) = vp_V [.int 0, .null, .null, .null, .null] j := by
  intro j hj
  match j, hj with
  | 0, _ => rfl
  | 1, _ => rfl
  | 2, _ => rfl
  | 3, _ => rfl
  | 4, _ => rfl
  | n + 5, h => exact absurd h (by omega)
theorem df_X1 : ∀ j, j < 1 → defaultValue (tyX1 j) = vp_V [.null] j := by
  intro j hj
  match j, hj with
  | 0, _ => rfl
  | n + 1, h => exact absurd h (by omega)
theorem df_X2 : ∀ j, j < 12 → defaultValue (tyX2 j) = vp_V [.int 0, .int 0, .int 0, .int 0, .int 0, .int 0, .int 0, .int 0, .int 0, .int 0, .int 0, .int 0] j := by
  intro j hj
  match j, hj with
  | 0, _ => rfl
  | 1, _ => rfl
  | 2, _ => rfl
  | 3, _ => rfl
  | 4, _ => rfl
  | 5, _ => rfl
  | 6, _ => rfl
  | 7, _ => rfl
  | 8, _ => rfl
  | 9, _ => rfl
  | 10, _ => rfl
  | 11, _ => rfl
  | n + 12, h => exact absurd h (by omega)
theorem df_X3 : ∀ j, j < 1 → defaultValue (tyX3 j) = vp_V [.null] j := by
  intro j hj
  match j, hj with
  | 0, _ => rfl
  | n + 1, h => exact absurd h (by omega)
theorem df_X4 : ∀ j, j < 6 → defaultValue (tyX4 j) = vp_V [.int 0, .null, .null, .int 0, .int 0, .int 0] j := by
  intro j hj
  match j, hj with
  | 0, _ => rfl
  | 1, _ => rfl
  | 2, _ => rfl
  | 3, _ => rfl
  | 4, _ => rfl
  | 5, _ => rfl
  | n + 6, h => exact absurd h (by omega)
theorem df_X5 : ∀ j, j < 6 → defaultValue (tyX5 j) = vp_V [.int 0, .int 0, .int 0, .int 0, .int 0, .int 0] j := by
  intro j hj
  match j, hj with
  | 0, _ => rfl
  | 1, _ => rfl
  | 2, _ => rfl
  | 3, _ => rfl
  | 4, _ => rfl
  | 5, _ => rfl
  | n + 6, h => exact absurd h (by omega)
theorem df_X6 : ∀ j, j < 11 → defaultValue (tyX6 j) = vp_V [.int 0, .int 0, .null, .null, .int 0, .int 0, .int 0, .int 0, .int 0, .null, .int 0] j := by
  intro j hj
  match j, hj with
  | 0, _ => rfl
  | 1, _ => rfl
  | 2, _ => rfl
  | 3, _ => rfl
  | 4, _ => rfl
  | 5, _ => rfl
  | 6, _ => rfl
  | 7, _ => rfl
  | 8, _ => rfl
  | 9, _ => rfl
  | 10, _ => rfl
  | n + 11, h => exact absurd h (by omega)
theorem df_X7 : ∀ j, j < 6 → defaultValue (tyX7 j) = vp_V [.null, .int 0, .int 0, .null, .null, .int 0] j := by
  intro j hj
  match j, hj with
  | 0, _ => rfl
  | 1, _ => rfl
  | 2, _ => rfl
  | 3, _ => rfl
  | 4, _ => rfl
  | 5, _ => rfl
  | n + 6, h => exact absurd h (by omega)
theorem df_X8 : ∀ j, j < 16 → defaultValue (tyX8 j) = vp_V [.int 0, .null, .int 0, .int 0, .int 0, .int 0, .int 0, .int 0, .null, .null, .null, .int 0, .int 0, .int 0, .int 0, .null] j := by
  intro j hj
  match j, hj with
  | 0, _ => rfl
  | 1, _ => rfl
  | 2, _ => rfl
  | 3, _ => rfl
  | 4, _ => rfl
  | 5, _ => rfl
  | 6, _ => rfl
  | 7, _ => rfl
  | 8, _ => rfl
  | 9, _ => rfl
  | 10, _ => rfl
  | 11, _ => rfl
  | 12, _ => rfl
  | 13, _ => rfl
  | 14, _ => rfl
  | 15, _ => rfl
  | n + 16, h => exact absurd h (by omega)
theorem At.congrQ {G : CG} {a n t : Nat} {f g : Nat → Option Nat} {H : Heap} (h : At G a (.inl (G.2.1 t, n, .inr (.inr (.inr (.inr f))))) H) (e : ∀ j, j < n → f j = g j) : At G a (.inl (G.2.1 t, n, .inr (.inr (.inr (.inr g))))) H := by
  show H[a]? = some (vp_cell _ _)
  have h : H[a]? = some (vp_cell _ _) := h
  rw [h, vp_cell_q, vp_cell_q]
  congr 1
  unfold arrV
  congr 1
  apply Array.ext
  · simp
  · intro i h1 h2
    simp at h1
    simp [e i h1]
theorem upq {g : Nat → Nat} {k v : Nat} (hv : v = g k) : va_up (fun j => if j < k then some (g j) else none) k (some v) = fun j => if j < k + 1 then some (g j) else none := by
  funext j
  unfold va_up
  by_cases h : j = k
  · subst h
    rw [if_pos rfl, if_pos (by omega), hv]
  · rw [if_neg h]
    show (if j < k then some (g j) else none) = _
    by_cases h2 : j < k
    · rw [if_pos h2, if_pos (by omega)]
    · rw [if_neg h2, if_neg (by omega)]
/-- the fee rule of two data is the same -/
def FS (d d9 : Nat → Int32) : Prop := d9 4 = d 4 ∧ d9 5 = d 5 ∧ ∀ j, d9 (298 + j) = d (298 + j)
/-- two data are the same up to counts and today -/
def Sm (d d9 : Nat → Int32) (nc np nh : Nat) : Prop := (∀ k, k < nh → d9 (6 + k) = d (6 + k)) ∧ (∀ c, c < nc → crF d9 c = crF d c) ∧ (∀ p, p < np → prF d9 nh p = prF d nh p) ∧ FS d d9
theorem FeeAt.to {G : CG} {A : Nat → Prop} {fe : Nat} {d d9 : Nat → Int32} {H : Heap} (h : FeeAt G A fe d H) (e : FS d d9) : FeeAt G A fe d9 H := by
  obtain ⟨st, h1, h2⟩ := h
  refine ⟨st, h1, ?_⟩
  rw [e.1]
  rcases h2 with h2 | ⟨h2, L, h3, h4⟩
  · exact Or.inl h2
  · refine Or.inr ⟨h2, L, h3, ?_⟩
    unfold FeR at h4 ⊢
    rw [e.2.1]
    exact ⟨h4.1, h4.2.1, fun j hj => by rw [e.2.2]; exact h4.2.2.1 j hj, h4.2.2.2⟩
theorem fen {G : CG} {AO : Nat → Prop} {fe sz : Nat} {d d9 : Nat → Int32} {H0 H : Heap} {locs : List Loc} (hS : va_S (fun q9 => sz ≤ q9) H0 H locs) (hz : H0.size = sz) (h : FeeAt G AO fe d H0) (e : FS d d9) : FeeAt G AO fe d9 H := (h.kept (fun q h1 _ => hS.2.1 q h1 (by rw [← hz]; exact Nat.not_le.mpr h1))).to e
theorem bkn {G : CG} {AO : Nat → Prop} {a sz nc np nh : Nat} {d : Nat → Int32} {H0 H : Heap} {locs : List Loc} (hS : va_S (fun q9 => sz ≤ q9) H0 H locs) (hz : H0.size = sz) (h : BK G AO a d nc np nh H0) : BK G AO a d nc np nh H := h.kept (fun q h1 _ => hS.2.1 q h1 (by rw [← hz]; exact Nat.not_le.mpr h1))
theorem BK.next {G : CG} {AO : Nat → Prop} {b ca ho fe cr pr nc np nh : Nat} {cA pA : Nat → Nat} {d d9 : Nat → Int32} {t : Int32} {H : Heap} (h1 : At G b (.inr (0, [.int t, .ref ca, .ref fe, .ref cr, .ref pr])) H ∧ ¬ AO b) (et : t = d9 3) (h2 : At G ca (.inr (1, [.ref ho])) H ∧ ¬ AO ca) (h3 : At G ho (iA G nh (fun k9 => d (6 + k9))) H ∧ ¬ AO ho) (e3 : ∀ k, k < nh → d9 (6 + k) = d (6 + k)) (h4 : At G cr (refA G 4 nc cA) H ∧ ¬ AO cr) (h5 : At G pr (refA G 5 np pA) H ∧ ¬ AO pr)
    (h6 : ∀ c, c < nc → At G (cA c) (.inr (2, crF d9 c)) H ∧ ¬ AO (cA c)) (h7 : ∀ p, p < np → At G (pA p) (.inr (5, prF d9 nh p)) H ∧ ¬ AO (pA p)) (h8 : FeeAt G AO fe d9 H) : BK G AO b d9 nc np nh H :=
  ⟨ca, ho, fe, cr, pr, cA, pA, by rw [← et]; exact h1, h2, ⟨At.congr h3.1 (fun j hj => (e3 j hj).symm), h3.2⟩, h4, h5, h6, h7, h8⟩
set_option maxHeartbeats 4000000 in
set_option maxRecDepth 100000 in
/-- constructor -/
theorem c_X0_init (l : Launch) (G : CG) {a : Nat} (t : Int32) (ca fe cr pr : Nat) : Wr l yX0_init cX0_init 6 ((Option.none : Option FieldType)) 1 20 0 0 G [.ref a, .int t, .ref ca, .ref fe, .ref cr, .ref pr] (At G a (.inr (0, [.int 0, .null, .null, .null, .null]))) (fun q9 => q9 = a) (fun v9 H9 => v9 = none ∧ At G a (.inr (0, [.int t, .ref ca, .ref fe, .ref cr, .ref pr])) H9) := by
  refine Wr.ofW (by decide) (Nat.le_of_ble_eq_true rfl) (fun p e s m below meth c ls E hG hE hP hr hk hin hl => ?_)
  have hS : va_S (fun q9 => q9 = a) s.heap s.heap [] := va_S.rf
  have hx := E.1
  have hb := E.2.1
  have hl : lv_has ls 6 [(0, .ref a), (1, .int t), (2, .ref ca), (3, .ref fe), (4, .ref cr), (5, .ref pr)] := hl
  have f_0 := hP
  refine lv_aload_n hx hb dX0_init_0 rfl (lv_at hl 0 rfl) ?_
  refine W.objInit hx hb E.2.2.2.1 (E.2.2.2.2 _ km_X0_3) (E.2.2.2.2 _ ki_objInit) (E.2.2.2.2 _ kc_objInit) rfl (by rw [E.2.2.1]; exact hl.1) rfl dX0_init_1 (Nat.le_of_ble_eq_true rfl) (Nat.le_of_ble_eq_true rfl) ?_
  refine lv_aload_n hx hb dX0_init_4 rfl (lv_at hl 0 rfl) ?_
  refine lv_iload_n hx hb dX0_init_5 rfl (lv_at hl 1 rfl) ?_
  refine pf_X0_9 E hG (hin rfl) f_0 (Nat.le_of_ble_eq_true rfl) rfl rfl hS rfl dX0_init_6 (fun H locs f_0 hz oq hS => ?_)
  have f_0 : At G a (.inr (0, [.int t, .null, .null, .null, .null])) H := f_0
  refine lv_aload_n hx hb dX0_init_9 rfl (lv_at hl 0 rfl) ?_
  refine lv_aload_n hx hb dX0_init_10 rfl (lv_at hl 2 rfl) ?_
  refine pf_X0_15 E hG (hin rfl) f_0 (Nat.le_of_ble_eq_true rfl) rfl rfl hS rfl dX0_init_11 (fun H locs f_0 hz oq hS => ?_)
  have f_0 : At G a (.inr (0, [.int t, .ref ca, .null, .null, .null])) H := f_0
  refine lv_aload_n hx hb dX0_init_14 rfl (lv_at hl 0 rfl) ?_
  refine lv_aload_n hx hb dX0_init_15 rfl (lv_at hl 3 rfl) ?_
  refine pf_X0_19 E hG (hin rfl) f_0 (Nat.le_of_ble_eq_true rfl) rfl rfl hS rfl dX0_init_16 (fun H locs f_0 hz oq hS => ?_)
  have f_0 : At G a (.inr (0, [.int t, .ref ca, .ref fe, .null, .null])) H := f_0
  refine lv_aload_n hx hb dX0_init_19 rfl (lv_at hl 0 rfl) ?_
  refine lv_aload hx hb dX0_init_20 (lv_at hl 4 rfl) ?_
  refine pf_X0_23 E hG (hin rfl) f_0 (Nat.le_of_ble_eq_true rfl) rfl rfl hS rfl dX0_init_22 (fun H locs f_0 hz oq hS => ?_)
  have f_0 : At G a (.inr (0, [.int t, .ref ca, .ref fe, .ref cr, .null])) H := f_0
  refine lv_aload_n hx hb dX0_init_25 rfl (lv_at hl 0 rfl) ?_
  refine lv_aload hx hb dX0_init_26 (lv_at hl 5 rfl) ?_
  refine pf_X0_27 E hG (hin rfl) f_0 (Nat.le_of_ble_eq_true rfl) rfl rfl hS rfl dX0_init_28 (fun H locs f_0 hz oq hS => ?_)
  have f_0 : At G a (.inr (0, [.int t, .ref ca, .ref fe, .ref cr, .ref pr])) H := f_0
  exact wr_void E hr hk hS (show 0 ≤ 0 by omega) (show 0 ≤ 0 by omega) (⟨rfl, f_0⟩) dX0_init_31

set_option maxHeartbeats 4000000 in
set_option maxRecDepth 100000 in
/-- constructor -/
theorem c_X1_init (l : Launch) (G : CG) {a : Nat} (ho : Nat) : Wr l yX1_init cX1_init 2 ((Option.none : Option FieldType)) 1 20 0 0 G [.ref a, .ref ho] (At G a (.inr (1, [.null]))) (fun q9 => q9 = a) (fun v9 H9 => v9 = none ∧ At G a (.inr (1, [.ref ho])) H9) := by
  refine Wr.ofW (by decide) (Nat.le_of_ble_eq_true rfl) (fun p e s m below meth c ls E hG hE hP hr hk hin hl => ?_)
  have hS : va_S (fun q9 => q9 = a) s.heap s.heap [] := va_S.rf
  have hx := E.1
  have hb := E.2.1
  have hl : lv_has ls 2 [(0, .ref a), (1, .ref ho)] := hl
  have f_0 := hP
  refine lv_aload_n hx hb dX1_init_0 rfl (lv_at hl 0 rfl) ?_
  refine W.objInit hx hb E.2.2.2.1 (E.2.2.2.2 _ km_X1_1) (E.2.2.2.2 _ ki_objInit) (E.2.2.2.2 _ kc_objInit) rfl (by rw [E.2.2.1]; exact hl.1) rfl dX1_init_1 (Nat.le_of_ble_eq_true rfl) (Nat.le_of_ble_eq_true rfl) ?_
  refine lv_aload_n hx hb dX1_init_4 rfl (lv_at hl 0 rfl) ?_
  refine lv_aload_n hx hb dX1_init_5 rfl (lv_at hl 1 rfl) ?_
  refine pf_X1_7 E hG (hin rfl) f_0 (Nat.le_of_ble_eq_true rfl) rfl rfl hS rfl dX1_init_6 (fun H locs f_0 hz oq hS => ?_)
  have f_0 : At G a (.inr (1, [.ref ho])) H := f_0
  exact wr_void E hr hk hS (show 0 ≤ 0 by omega) (show 0 ≤ 0 by omega) (⟨rfl, f_0⟩) dX1_init_9

set_option maxHeartbeats 4000000 in
set_option maxRecDepth 100000 in
/-- constructor -/
theorem c_X2_init (l : Launch) (G : CG) {a : Nat} (i pa : Int32) : Wr l yX2_init cX2_init 3 ((Option.none : Option FieldType)) 1 20 0 0 G [.ref a, .int i, .int pa] (At G a (.inr (2, [.int 0, .int 0, .int 0, .int 0, .int 0, .int 0, .int 0, .int 0, .int 0, .int 0, .int 0, .int 0]))) (fun q9 => q9 = a) (fun v9 H9 => v9 = none ∧ At G a (.inr (2, [.int i, .int pa, .int 0, .int 0, .int 0, .int 0, .int 0, .int 0, .int 0, .int 0, .int 0, .int 0])) H9) := by
  refine Wr.ofW (by decide) (Nat.le_of_ble_eq_true rfl) (fun p e s m below meth c ls E hG hE hP hr hk hin hl => ?_)
  have hS : va_S (fun q9 => q9 = a) s.heap s.heap [] := va_S.rf
  have hx := E.1
  have hb := E.2.1
  have hl : lv_has ls 3 [(0, .ref a), (1, .int i), (2, .int pa)] := hl
  have f_0 := hP
  refine lv_aload_n hx hb dX2_init_0 rfl (lv_at hl 0 rfl) ?_
  refine W.objInit hx hb E.2.2.2.1 (E.2.2.2.2 _ km_X2_1) (E.2.2.2.2 _ ki_objInit) (E.2.2.2.2 _ kc_objInit) rfl (by rw [E.2.2.1]; exact hl.1) rfl dX2_init_1 (Nat.le_of_ble_eq_true rfl) (Nat.le_of_ble_eq_true rfl) ?_
  refine lv_aload_n hx hb dX2_init_4 rfl (lv_at hl 0 rfl) ?_
  refine lv_iload_n hx hb dX2_init_5 rfl (lv_at hl 1 rfl) ?_
  refine pf_X2_7 E hG (hin rfl) f_0 (Nat.le_of_ble_eq_true rfl) rfl rfl hS rfl dX2_init_6 (fun H locs f_0 hz oq hS => ?_)
  have f_0 : At G a (.inr (2, [.int i, .int 0, .int 0, .int 0, .int 0, .int 0, .int 0, .int 0, .int 0, .int 0, .int 0, .int 0])) H := f_0
  refine lv_aload_n hx hb dX2_init_9 rfl (lv_at hl 0 rfl) ?_
  refine lv_iload_n hx hb dX2_init_10 rfl (lv_at hl 2 rfl) ?_
  refine pf_X2_13 E hG (hin rfl) f_0 (Nat.le_of_ble_eq_true rfl) rfl rfl hS rfl dX2_init_11 (fun H locs f_0 hz oq hS => ?_)
  have f_0 : At G a (.inr (2, [.int i, .int pa, .int 0, .int 0, .int 0, .int 0, .int 0, .int 0, .int 0, .int 0, .int 0, .int 0])) H := f_0
  exact wr_void E hr hk hS (show 0 ≤ 0 by omega) (show 0 ≤ 0 by omega) (⟨rfl, f_0⟩) dX2_init_14

set_option maxHeartbeats 4000000 in
set_option maxRecDepth 100000 in
/-- constructor -/
theorem c_X3_init (l : Launch) (G : CG) {a : Nat} (st : Nat) : Wr l yX3_init cX3_init 2 ((Option.none : Option FieldType)) 1 20 0 0 G [.ref a, .ref st] (At G a (.inr (3, [.null]))) (fun q9 => q9 = a) (fun v9 H9 => v9 = none ∧ At G a (.inr (3, [.ref st])) H9) := by
  refine Wr.ofW (by decide) (Nat.le_of_ble_eq_true rfl) (fun p e s m below meth c ls E hG hE hP hr hk hin hl => ?_)
  have hS : va_S (fun q9 => q9 = a) s.heap s.heap [] := va_S.rf
  have hx := E.1
  have hb := E.2.1
  have hl : lv_has ls 2 [(0, .ref a), (1, .ref st)] := hl
  have f_0 := hP
  refine lv_aload_n hx hb dX3_init_0 rfl (lv_at hl 0 rfl) ?_
  refine W.objInit hx hb E.2.2.2.1 (E.2.2.2.2 _ km_X3_3) (E.2.2.2.2 _ ki_objInit) (E.2.2.2.2 _ kc_objInit) rfl (by rw [E.2.2.1]; exact hl.1) rfl dX3_init_1 (Nat.le_of_ble_eq_true rfl) (Nat.le_of_ble_eq_true rfl) ?_
  refine lv_aload_n hx hb dX3_init_4 rfl (lv_at hl 0 rfl) ?_
  refine lv_aload_n hx hb dX3_init_5 rfl (lv_at hl 1 rfl) ?_
  refine pf_X3_9 E hG (hin rfl) f_0 (Nat.le_of_ble_eq_true rfl) rfl rfl hS rfl dX3_init_6 (fun H locs f_0 hz oq hS => ?_)
  have f_0 : At G a (.inr (3, [.ref st])) H := f_0
  exact wr_void E hr hk hS (show 0 ≤ 0 by omega) (show 0 ≤ 0 by omega) (⟨rfl, f_0⟩) dX3_init_9

set_option maxHeartbeats 4000000 in
set_option maxRecDepth 100000 in
/-- constructor -/
theorem c_X5_init (l : Launch) (G : CG) {a : Nat} (v0 v1 v2 v3 v4 v5 : Int32) : Wr l yX5_init cX5_init 7 ((Option.none : Option FieldType)) 1 20 0 0 G [.ref a, .int v0, .int v1, .int v2, .int v3, .int v4, .int v5] (At G a (.inr (5, [.int 0, .int 0, .int 0, .int 0, .int 0, .int 0]))) (fun q9 => q9 = a) (fun v9 H9 => v9 = none ∧ At G a (.inr (5, [.int v0, .int v1, .int v2, .int v3, .int v4, .int v5])) H9) := by
  refine Wr.ofW (by decide) (Nat.le_of_ble_eq_true rfl) (fun p e s m below meth c ls E hG hE hP hr hk hin hl => ?_)
  have hS : va_S (fun q9 => q9 = a) s.heap s.heap [] := va_S.rf
  have hx := E.1
  have hb := E.2.1
  have hl : lv_has ls 7 [(0, .ref a), (1, .int v0), (2, .int v1), (3, .int v2), (4, .int v3), (5, .int v4), (6, .int v5)] := hl
  have f_0 := hP
  refine lv_aload_n hx hb dX5_init_0 rfl (lv_at hl 0 rfl) ?_
  refine W.objInit hx hb E.2.2.2.1 (E.2.2.2.2 _ km_X5_1) (E.2.2.2.2 _ ki_objInit) (E.2.2.2.2 _ kc_objInit) rfl (by rw [E.2.2.1]; exact hl.1) rfl dX5_init_1 (Nat.le_of_ble_eq_true rfl) (Nat.le_of_ble_eq_true rfl) ?_
  refine lv_aload_n hx hb dX5_init_4 rfl (lv_at hl 0 rfl) ?_
  refine lv_iload_n hx hb dX5_init_5 rfl (lv_at hl 1 rfl) ?_
  refine pf_X5_7 E hG (hin rfl) f_0 (Nat.le_of_ble_eq_true rfl) rfl rfl hS rfl dX5_init_6 (fun H locs f_0 hz oq hS => ?_)
  have f_0 : At G a (.inr (5, [.int v0, .int 0, .int 0, .int 0, .int 0, .int 0])) H := f_0
  refine lv_aload_n hx hb dX5_init_9 rfl (lv_at hl 0 rfl) ?_
  refine lv_iload_n hx hb dX5_init_10 rfl (lv_at hl 2 rfl) ?_
  refine pf_X5_13 E hG (hin rfl) f_0 (Nat.le_of_ble_eq_true rfl) rfl rfl hS rfl dX5_init_11 (fun H locs f_0 hz oq hS => ?_)
  have f_0 : At G a (.inr (5, [.int v0, .int v1, .int 0, .int 0, .int 0, .int 0])) H := f_0
  refine lv_aload_n hx hb dX5_init_14 rfl (lv_at hl 0 rfl) ?_
  refine lv_iload_n hx hb dX5_init_15 rfl (lv_at hl 3 rfl) ?_
  refine pf_X5_16 E hG (hin rfl) f_0 (Nat.le_of_ble_eq_true rfl) rfl rfl hS rfl dX5_init_16 (fun H locs f_0 hz oq hS => ?_)
  have f_0 : At G a (.inr (5, [.int v0, .int v1, .int v2, .int 0, .int 0, .int 0])) H := f_0
  refine lv_aload_n hx hb dX5_init_19 rfl (lv_at hl 0 rfl) ?_
  refine lv_iload hx hb dX5_init_20 (lv_at hl 4 rfl) ?_
  refine pf_X5_19 E hG (hin rfl) f_0 (Nat.le_of_ble_eq_true rfl) rfl rfl hS rfl dX5_init_22 (fun H locs f_0 hz oq hS => ?_)
  have f_0 : At G a (.inr (5, [.int v0, .int v1, .int v2, .int v3, .int 0, .int 0])) H := f_0
  refine lv_aload_n hx hb dX5_init_25 rfl (lv_at hl 0 rfl) ?_
  refine lv_iload hx hb dX5_init_26 (lv_at hl 5 rfl) ?_
  refine pf_X5_22 E hG (hin rfl) f_0 (Nat.le_of_ble_eq_true rfl) rfl rfl hS rfl dX5_init_28 (fun H locs f_0 hz oq hS => ?_)
  have f_0 : At G a (.inr (5, [.int v0, .int v1, .int v2, .int v3, .int v4, .int 0])) H := f_0
  refine lv_aload_n hx hb dX5_init_31 rfl (lv_at hl 0 rfl) ?_
  refine lv_iload hx hb dX5_init_32 (lv_at hl 6 rfl) ?_
  refine pf_X5_25 E hG (hin rfl) f_0 (Nat.le_of_ble_eq_true rfl) rfl rfl hS rfl dX5_init_34 (fun H locs f_0 hz oq hS => ?_)
  have f_0 : At G a (.inr (5, [.int v0, .int v1, .int v2, .int v3, .int v4, .int v5])) H := f_0
  exact wr_void E hr hk hS (show 0 ≤ 0 by omega) (show 0 ≤ 0 by omega) (⟨rfl, f_0⟩) dX5_init_37

set_option maxHeartbeats 4000000 in
set_option maxRecDepth 100000 in
/-- withToday -/
theorem c_X0_withToday (l : Launch) (G : CG) {a sz : Nat} {AO : Nat → Prop} {d d9 : Nat → Int32} {nc np nh : Nat} (hz1 : EFA G sz) (hAO : ∀ q, AO q → q < sz) (z : Int32) (hSm : Sm d d9 nc np nh) (ht : z = d9 3) : Wr l yX0_withToday cX0_withToday 2 ((Option.some (FieldType.object "DocumentaryCreditDesk$Book"))) 2 45 1 5 G [.ref a, .int z] (fun H9 => H9.size = sz ∧ BK G AO a d nc np nh H9) (fun q9 => sz ≤ q9) (fun v9 H9 => ∃ b, v9 = some (.ref b) ∧ BK G AO b d9 nc np nh H9) := by
  refine Wr.ofW (by decide) (Nat.le_of_ble_eq_true rfl) (fun p e s m below meth c ls E hG hE hP hr hk hin hl => ?_)
  have hS : va_S (fun q9 => sz ≤ q9) s.heap s.heap [] := va_S.rf
  have hx := E.1
  have hb := E.2.1
  have hl : lv_has ls 2 [(0, .ref a), (1, .int z)] := hl
  obtain ⟨hz0, hB⟩ := hP
  obtain ⟨ca, ho, fe, cr, pr, cA, pA, k1, k2, k3, k4, k5, k6, k7, k8⟩ := id hB
  have hEA : ∀ q9, sz ≤ q9 → EFA G q9 := fun q9 h9 => Nat.le_trans hz1 h9
  refine n_new (ci := 0) (fs := [.int 0, .null, .null, .null, .null]) (ty := tyX0) inX0 tyX0_ok rfl kl_X0_10 kn_X0 kin_X0 df_X0 E hG hS (Nat.le_of_eq hz0.symm) (show 0 + 1 ≤ 1 by omega) (show 0 + 5 ≤ 5 by omega) dX0_withToday_0 (fun b_1 H hb_1 hg_1 f_1 hz oq hS => ?_)
  refine lv_dup hx hb dX0_withToday_3 rfl ?_
  refine lv_iload_n hx hb dX0_withToday_4 rfl (lv_at hl 1 rfl) ?_
  refine lv_aload_n hx hb dX0_withToday_5 rfl (lv_at hl 0 rfl) ?_
  refine gf_X0_15 E hG (kn hS hz0 k1.1) rfl dX0_withToday_6 ?_
  refine lv_aload_n hx hb dX0_withToday_9 rfl (lv_at hl 0 rfl) ?_
  refine gf_X0_19 E hG (kn hS hz0 k1.1) rfl dX0_withToday_10 ?_
  refine lv_aload_n hx hb dX0_withToday_13 rfl (lv_at hl 0 rfl) ?_
  refine gf_X0_23 E hG (kn hS hz0 k1.1) rfl dX0_withToday_14 ?_
  refine lv_aload_n hx hb dX0_withToday_17 rfl (lv_at hl 0 rfl) ?_
  refine gf_X0_27 E hG (kn hS hz0 k1.1) rfl dX0_withToday_18 ?_
  refine Wr.callI (rest := [.ref b_1]) (c_X0_init l G z ca fe cr pr) yk_X0_init E km_X0_47 dX0_withToday_21 hG (hE.S hS hEA) f_1 rfl rfl hl.1 ⟨Nat.le_of_ble_eq_true rfl, Nat.le_of_ble_eq_true rfl⟩ ⟨(show 0 + 1 + 0 ≤ 1 by omega), (show 0 + 5 + 0 ≤ 5 by omega)⟩ (Nat.le_of_ble_eq_true rfl) hS (fun q9 h9 => by rw [h9]; exact hg_1) (fun v9 H locs hq hz9 hfr9 hS => ?_)
  obtain ⟨rfl, f_1⟩ := hq
  exact wr_ref E hr (by first | exact Or.inl ⟨_, rfl⟩ | exact Or.inr ⟨_, rfl⟩) hk hS (show 0 + 1 + 0 ≤ 1 by omega) (show 0 + 5 + 0 ≤ 5 by omega) (⟨b_1, rfl, BK.next ⟨f_1, (fun z9 => absurd (hAO _ z9) (Nat.not_lt.mpr hg_1))⟩ ht (knp hS hz0 k2) (knp hS hz0 k3) hSm.1 (knp hS hz0 k4) (knp hS hz0 k5) (fun c9 h9 => by rw [hSm.2.1 c9 h9]; exact knp hS hz0 (k6 c9 h9)) (fun p9 h9 => by rw [hSm.2.2.1 p9 h9]; exact knp hS hz0 (k7 p9 h9)) (fen hS hz0 k8 hSm.2.2.2)⟩) dX0_withToday_24

set_option maxHeartbeats 4000000 in
set_option maxRecDepth 100000 in
/-- withCredit -/
theorem c_X0_withCredit (l : Launch) (G : CG) {a sz : Nat} {AO : Nat → Prop} {d d9 : Nat → Int32} {nc np nh : Nat} (hz1 : EFA G sz) (hAO : ∀ q, AO q → q < sz) {q : Nat} (hSm : Sm d d9 nc np nh) (ht : d 3 = d9 3) (hc1 : nc < 12) : Wr l yX0_withCredit cX0_withCredit 4 ((Option.some (FieldType.object "DocumentaryCreditDesk$Book"))) 2 45 2 17 G [.ref a, .ref q] (fun H9 => H9.size = sz ∧ BK G AO a d nc np nh H9 ∧ At G q (.inr (2, crF d9 nc)) H9 ∧ ¬ AO q) (fun q9 => sz ≤ q9) (fun v9 H9 => ∃ b, v9 = some (.ref b) ∧ BK G AO b d9 (nc + 1) np nh H9) := by
  refine Wr.ofW (by decide) (Nat.le_of_ble_eq_true rfl) (fun p e s m below meth c ls E hG hE hP hr hk hin hl => ?_)
  have hS : va_S (fun q9 => sz ≤ q9) s.heap s.heap [] := va_S.rf
  have hx := E.1
  have hb := E.2.1
  have hl : lv_has ls 4 [(0, .ref a), (1, .ref q)] := hl
  obtain ⟨hz0, hB, hq, hqA⟩ := hP
  obtain ⟨ca, ho, fe, cr, pr, cA, pA, k1, k2, k3, k4, k5, k6, k7, k8⟩ := id hB
  have hEA : ∀ q9, sz ≤ q9 → EFA G q9 := fun q9 h9 => Nat.le_trans hz1 h9
  refine lv_aload_n hx hb dX0_withCredit_0 rfl (lv_at hl 0 rfl) ?_
  refine gf_X0_23 E hG (kn hS hz0 k1.1) rfl dX0_withCredit_1 ?_
  refine g_len (t0 := 4) (v := (nI nc)) E hG (kn hS hz0 k4.1) rfl rfl dX0_withCredit_4 ?_
  refine lv_iconst (v := 1) hx hb dX0_withCredit_5 rfl ?_
  refine lv_iadd hx hb dX0_withCredit_6 ?_
  refine n_newq (N := (nc + 1)) (t0 := 4) rfl kl_X0_43 hG.2.2.1 E hG hS (Nat.le_of_eq hz0.symm) (ixq (nI_ad rfl rfl)) (by omega) (show 0 + 1 ≤ 2 by omega) (show 0 + (nc + 1) ≤ 17 by omega) dX0_withCredit_7 (fun b_1 H hb_1 hg_1 f_1 hz oq hS => ?_)
  refine lv_astore_n (lv' := [(2, .ref b_1), (0, .ref a), (1, .ref q)]) hx hb dX0_withCredit_10 rfl hl (by decide) rfl (fun ls hl => ?_)
  refine lv_iconst (v := 0) hx hb dX0_withCredit_11 rfl ?_
  refine lv_ci (y := nI 0) (ixq rfl) ?_
  refine lv_istore_n (lv' := [(3, .int (nI 0)), (2, .ref b_1), (0, .ref a), (1, .ref q)]) hx hb dX0_withCredit_12 rfl hl (by decide) rfl (fun ls hl => ?_)
  have f_1 : At G b_1 (.inl (G.2.1 4, (nc + 1), .inr (.inr (.inr (.inr (fun j => if j < 0 then some (cA j) else none)))))) H := At.congrQ f_1 (fun j _ => (if_neg (Nat.not_lt_zero j)).symm)
  have loop : ∀ (j k : Nat), nc < k + j → k ≤ nc → ∀ (H : Heap) (locs : List Loc), At G b_1 (.inl (G.2.1 4, (nc + 1), .inr (.inr (.inr (.inr (fun j => if j < k then some (cA j) else none)))))) H → va_S (fun q9 => sz ≤ q9) s.heap H locs → ∀ ls : Array Slot, lv_has ls 4 [(3, .int (nI k)), (2, .ref b_1), (0, .ref a), (1, .ref q)] → W p l e { frames := 2, cells := 2, slots := 17, locals := 45 } s m ([.ref a, .ref q] : List Value).toArray below meth c H locs (0 + 1) (0 + (nc + 1)) (WQ below ([.ref a, .ref q] : List Value).toArray s 2 17 (fun q9 => sz ≤ q9) (fun v9 H9 => ∃ b, v9 = some (.ref b) ∧ BK G AO b d9 (nc + 1) np nh H9)) (F0 m 13 ls []) := by
    intro j
    induction j with
    | zero => intro k z1 z2; omega
    | succ j ih =>
      intro k z1 z2 H locs f_1 hS ls hl
      refine lv_iload_n hx hb dX0_withCredit_13 rfl (lv_at hl 0 rfl) ?_
      refine lv_aload_n hx hb dX0_withCredit_14 rfl (lv_at hl 2 rfl) ?_
      refine gf_X0_23 E hG (kn hS hz0 k1.1) rfl dX0_withCredit_15 ?_
      refine g_len (t0 := 4) (v := (nI nc)) E hG (kn hS hz0 k4.1) rfl rfl dX0_withCredit_18 ?_
      refine lv_icmp_ge (tgt := 37) hx hb dX0_withCredit_19 (by decide) (fun c_19 => ?_) (fun c_19 => ?_)
      · have c_19 : nc ≤ k := (nLE (x := (nI nc)) (y := (nI k)) (a := nc) (b := k) rfl rfl (by omega) (by omega)).mp c_19
        have e9 : nc = k := by omega
        subst e9
        refine lv_aload_n hx hb dX0_withCredit_37 rfl (lv_at hl 1 rfl) ?_
        refine lv_aload_n hx hb dX0_withCredit_38 rfl (lv_at hl 2 rfl) ?_
        refine gf_X0_23 E hG (kn hS hz0 k1.1) rfl dX0_withCredit_39 ?_
        refine g_len (t0 := 4) (v := (nI nc)) E hG (kn hS hz0 k4.1) rfl rfl dX0_withCredit_42 ?_
        refine lv_aload_n hx hb dX0_withCredit_43 rfl (lv_at hl 3 rfl) ?_
        refine g_ast (t0 := 4) nc rfl rfl E hG f_1 (kn hS hz0 hq) rfl (by omega) (by omega) hS hg_1 dX0_withCredit_44 (fun H locs f_1 hz oq hS => ?_)
        have f_1 : At G b_1 (.inl (G.2.1 4, (nc + 1), .inr (.inr (.inr (.inr (va_up (fun j => if j < nc then some (cA j) else none) nc (some q))))))) H := f_1
        refine n_new (ci := 0) (fs := [.int 0, .null, .null, .null, .null]) (ty := tyX0) inX0 tyX0_ok rfl kl_X0_10 kn_X0 kin_X0 df_X0 E hG hS (Nat.le_of_eq hz0.symm) (show 0 + 1 + 1 ≤ 2 by omega) (show 0 + (nc + 1) + 5 ≤ 17 by omega) dX0_withCredit_45 (fun b_2 H hb_2 hg_2 f_2 hz oq hS => ?_)
        have ne_b_1_b_2 : b_1 ≠ b_2 := fun z9 => absurd (va_at.lt f_1) (by rw [z9, hb_2]; exact Nat.lt_irrefl _)
        have f_1 : At G b_1 (.inl (G.2.1 4, (nc + 1), .inr (.inr (.inr (.inr (va_up (fun j => if j < nc then some (cA j) else none) nc (some q))))))) H := olt f_1 oq
        refine lv_dup hx hb dX0_withCredit_48 rfl ?_
        refine lv_aload_n hx hb dX0_withCredit_49 rfl (lv_at hl 2 rfl) ?_
        refine gf_X0_9 E hG (kn hS hz0 k1.1) rfl dX0_withCredit_50 ?_
        refine lv_aload_n hx hb dX0_withCredit_53 rfl (lv_at hl 2 rfl) ?_
        refine gf_X0_15 E hG (kn hS hz0 k1.1) rfl dX0_withCredit_54 ?_
        refine lv_aload_n hx hb dX0_withCredit_57 rfl (lv_at hl 2 rfl) ?_
        refine gf_X0_19 E hG (kn hS hz0 k1.1) rfl dX0_withCredit_58 ?_
        refine lv_aload_n hx hb dX0_withCredit_61 rfl (lv_at hl 1 rfl) ?_
        refine lv_aload_n hx hb dX0_withCredit_62 rfl (lv_at hl 2 rfl) ?_
        refine gf_X0_27 E hG (kn hS hz0 k1.1) rfl dX0_withCredit_63 ?_
        refine Wr.callI (rest := [.ref b_2]) (c_X0_init l G (d 3) ca fe b_1 pr) yk_X0_init E km_X0_47 dX0_withCredit_66 hG (hE.S hS hEA) f_2 rfl rfl hl.1 ⟨Nat.le_of_ble_eq_true rfl, Nat.le_of_ble_eq_true rfl⟩ ⟨(show 0 + 1 + 1 + 0 ≤ 2 by omega), (show 0 + (nc + 1) + 5 + 0 ≤ 17 by omega)⟩ (Nat.le_of_ble_eq_true rfl) hS (fun q9 h9 => by rw [h9]; exact hg_2) (fun v9 H locs hq hz9 hfr9 hS => ?_)
        have f_1 : At G b_1 (.inl (G.2.1 4, (nc + 1), .inr (.inr (.inr (.inr (va_up (fun j => if j < nc then some (cA j) else none) nc (some q))))))) H := va_at.kept f_1 (hfr9 _ (va_at.lt f_1) ne_b_1_b_2)
        obtain ⟨rfl, f_2⟩ := hq
        exact wr_ref E hr (by first | exact Or.inl ⟨_, rfl⟩ | exact Or.inr ⟨_, rfl⟩) hk hS (show 0 + 1 + 1 + 0 ≤ 2 by omega) (show 0 + (nc + 1) + 5 + 0 ≤ 17 by omega) (⟨b_2, rfl, BK.next (cA := (fun j9 => if j9 < nc then cA j9 else q)) ⟨f_2, (fun z9 => absurd (hAO _ z9) (Nat.not_lt.mpr hg_2))⟩ ht (knp hS hz0 k2) (knp hS hz0 k3) hSm.1 ⟨At.congrQ (g := fun j => some ((fun j9 => if j9 < nc then cA j9 else q) j)) f_1 (fun j hj => by unfold va_up; by_cases h9 : j < nc; (simp [h9, Nat.ne_of_lt h9]); (have h8 : j = nc := by omega); (subst h8; simp)), (fun z9 => absurd (hAO _ z9) (Nat.not_lt.mpr hg_1))⟩ (knp hS hz0 k5) (fun c9 h9 => by by_cases h8 : c9 < nc; (simp only [h8, if_true]; rw [hSm.2.1 c9 h8]; exact knp hS hz0 (k6 c9 h8)); (have h7 : c9 = nc := by omega); (subst h7; simp only [Nat.lt_irrefl, if_false]; exact ⟨kn hS hz0 hq, hqA⟩)) (fun p9 h9 => by rw [hSm.2.2.1 p9 h9]; exact knp hS hz0 (k7 p9 h9)) (fen hS hz0 k8 hSm.2.2.2)⟩) dX0_withCredit_69
      · have c_19 : ¬ nc ≤ k := fun z9 => c_19 ((nLE (x := (nI nc)) (y := (nI k)) (a := nc) (b := k) rfl rfl (by omega) (by omega)).mpr z9)
        refine lv_aload_n hx hb dX0_withCredit_22 rfl (lv_at hl 1 rfl) ?_
        refine lv_iload_n hx hb dX0_withCredit_23 rfl (lv_at hl 0 rfl) ?_
        refine lv_aload_n hx hb dX0_withCredit_24 rfl (lv_at hl 2 rfl) ?_
        refine gf_X0_23 E hG (kn hS hz0 k1.1) rfl dX0_withCredit_25 ?_
        refine lv_iload_n hx hb dX0_withCredit_28 rfl (lv_at hl 0 rfl) ?_
        refine g_aldS (t0 := 4) k rfl E hG (kn hS hz0 k4.1) rfl (by omega) (by omega) dX0_withCredit_29 ?_
        refine g_ast (t0 := 4) k rfl rfl E hG f_1 (kn hS hz0 (k6 k (by omega)).1) rfl (by omega) (by omega) hS hg_1 dX0_withCredit_30 (fun H locs f_1 hz oq hS => ?_)
        have f_1 : At G b_1 (.inl (G.2.1 4, (nc + 1), .inr (.inr (.inr (.inr (va_up (fun j => if j < k then some (cA j) else none) k (some (cA k)))))))) H := f_1
        refine lv_iinc (v := (nI (k + 1))) (lv' := [(3, .int (nI (k + 1))), (2, .ref b_1), (0, .ref a), (1, .ref q)]) hx hb dX0_withCredit_31 hl (k := 0) rfl (nI_ad rfl rfl) (by decide) rfl (fun ls hl => ?_)
        refine lv_goto (tgt := 13) hx hb dX0_withCredit_34 (by decide) ?_
        rw [upq (g := cA) rfl] at f_1
        exact ih (k + 1) (by omega) (by omega) H locs f_1 hS ls (lv_sub hl [0, 1, 2, 3] rfl)
  exact loop (nc + 1) 0 (by omega) (by omega) H _ f_1 hS ls (lv_sub hl [0, 1, 2, 3] rfl)

set_option maxHeartbeats 4000000 in
set_option maxRecDepth 100000 in
/-- withPresentation -/
theorem c_X0_withPresentation (l : Launch) (G : CG) {a sz : Nat} {AO : Nat → Prop} {d d9 : Nat → Int32} {nc np nh : Nat} (hz1 : EFA G sz) (hAO : ∀ q, AO q → q < sz) {q : Nat} (hSm : Sm d d9 nc np nh) (ht : d 3 = d9 3) (hc1 : np < 24) : Wr l yX0_withPresentation cX0_withPresentation 4 ((Option.some (FieldType.object "DocumentaryCreditDesk$Book"))) 2 45 2 29 G [.ref a, .ref q] (fun H9 => H9.size = sz ∧ BK G AO a d nc np nh H9 ∧ At G q (.inr (5, prF d9 nh np)) H9 ∧ ¬ AO q) (fun q9 => sz ≤ q9) (fun v9 H9 => ∃ b, v9 = some (.ref b) ∧ BK G AO b d9 nc (np + 1) nh H9) := by
  refine Wr.ofW (by decide) (Nat.le_of_ble_eq_true rfl) (fun p e s m below meth c ls E hG hE hP hr hk hin hl => ?_)
  have hS : va_S (fun q9 => sz ≤ q9) s.heap s.heap [] := va_S.rf
  have hx := E.1
  have hb := E.2.1
  have hl : lv_has ls 4 [(0, .ref a), (1, .ref q)] := hl
  obtain ⟨hz0, hB, hq, hqA⟩ := hP
  obtain ⟨ca, ho, fe, cr, pr, cA, pA, k1, k2, k3, k4, k5, k6, k7, k8⟩ := id hB
  have hEA : ∀ q9, sz ≤ q9 → EFA G q9 := fun q9 h9 => Nat.le_trans hz1 h9
  refine lv_aload_n hx hb dX0_withPresentation_0 rfl (lv_at hl 0 rfl) ?_
  refine gf_X0_27 E hG (kn hS hz0 k1.1) rfl dX0_withPresentation_1 ?_
  refine g_len (t0 := 5) (v := (nI np)) E hG (kn hS hz0 k5.1) rfl rfl dX0_withPresentation_4 ?_
  refine lv_iconst (v := 1) hx hb dX0_withPresentation_5 rfl ?_
  refine lv_iadd hx hb dX0_withPresentation_6 ?_
  refine n_newq (N := (np + 1)) (t0 := 5) rfl kl_X0_45 hG.2.2.2.1 E hG hS (Nat.le_of_eq hz0.symm) (ixq (nI_ad rfl rfl)) (by omega) (show 0 + 1 ≤ 2 by omega) (show 0 + (np + 1) ≤ 29 by omega) dX0_withPresentation_7 (fun b_1 H hb_1 hg_1 f_1 hz oq hS => ?_)
  refine lv_astore_n (lv' := [(2, .ref b_1), (0, .ref a), (1, .ref q)]) hx hb dX0_withPresentation_10 rfl hl (by decide) rfl (fun ls hl => ?_)
  refine lv_iconst (v := 0) hx hb dX0_withPresentation_11 rfl ?_
  refine lv_ci (y := nI 0) (ixq rfl) ?_
  refine lv_istore_n (lv' := [(3, .int (nI 0)), (2, .ref b_1), (0, .ref a), (1, .ref q)]) hx hb dX0_withPresentation_12 rfl hl (by decide) rfl (fun ls hl => ?_)
  have f_1 : At G b_1 (.inl (G.2.1 5, (np + 1), .inr (.inr (.inr (.inr (fun j => if j < 0 then some (pA j) else none)))))) H := At.congrQ f_1 (fun j _ => (if_neg (Nat.not_lt_zero j)).symm)
  have loop : ∀ (j k : Nat), np < k + j → k ≤ np → ∀ (H : Heap) (locs : List Loc), At G b_1 (.inl (G.2.1 5, (np + 1), .inr (.inr (.inr (.inr (fun j => if j < k then some (pA j) else none)))))) H → va_S (fun q9 => sz ≤ q9) s.heap H locs → ∀ ls : Array Slot, lv_has ls 4 [(3, .int (nI k)), (2, .ref b_1), (0, .ref a), (1, .ref q)] → W p l e { frames := 2, cells := 2, slots := 29, locals := 45 } s m ([.ref a, .ref q] : List Value).toArray below meth c H locs (0 + 1) (0 + (np + 1)) (WQ below ([.ref a, .ref q] : List Value).toArray s 2 29 (fun q9 => sz ≤ q9) (fun v9 H9 => ∃ b, v9 = some (.ref b) ∧ BK G AO b d9 nc (np + 1) nh H9)) (F0 m 13 ls []) := by
    intro j
    induction j with
    | zero => intro k z1 z2; omega
    | succ j ih =>
      intro k z1 z2 H locs f_1 hS ls hl
      refine lv_iload_n hx hb dX0_withPresentation_13 rfl (lv_at hl 0 rfl) ?_
      refine lv_aload_n hx hb dX0_withPresentation_14 rfl (lv_at hl 2 rfl) ?_
      refine gf_X0_27 E hG (kn hS hz0 k1.1) rfl dX0_withPresentation_15 ?_
      refine g_len (t0 := 5) (v := (nI np)) E hG (kn hS hz0 k5.1) rfl rfl dX0_withPresentation_18 ?_
      refine lv_icmp_ge (tgt := 37) hx hb dX0_withPresentation_19 (by decide) (fun c_19 => ?_) (fun c_19 => ?_)
      · have c_19 : np ≤ k := (nLE (x := (nI np)) (y := (nI k)) (a := np) (b := k) rfl rfl (by omega) (by omega)).mp c_19
        have e9 : np = k := by omega
        subst e9
        refine lv_aload_n hx hb dX0_withPresentation_37 rfl (lv_at hl 1 rfl) ?_
        refine lv_aload_n hx hb dX0_withPresentation_38 rfl (lv_at hl 2 rfl) ?_
        refine gf_X0_27 E hG (kn hS hz0 k1.1) rfl dX0_withPresentation_39 ?_
        refine g_len (t0 := 5) (v := (nI np)) E hG (kn hS hz0 k5.1) rfl rfl dX0_withPresentation_42 ?_
        refine lv_aload_n hx hb dX0_withPresentation_43 rfl (lv_at hl 3 rfl) ?_
        refine g_ast (t0 := 5) np rfl rfl E hG f_1 (kn hS hz0 hq) rfl (by omega) (by omega) hS hg_1 dX0_withPresentation_44 (fun H locs f_1 hz oq hS => ?_)
        have f_1 : At G b_1 (.inl (G.2.1 5, (np + 1), .inr (.inr (.inr (.inr (va_up (fun j => if j < np then some (pA j) else none) np (some q))))))) H := f_1
        refine n_new (ci := 0) (fs := [.int 0, .null, .null, .null, .null]) (ty := tyX0) inX0 tyX0_ok rfl kl_X0_10 kn_X0 kin_X0 df_X0 E hG hS (Nat.le_of_eq hz0.symm) (show 0 + 1 + 1 ≤ 2 by omega) (show 0 + (np + 1) + 5 ≤ 29 by omega) dX0_withPresentation_45 (fun b_2 H hb_2 hg_2 f_2 hz oq hS => ?_)
        have ne_b_1_b_2 : b_1 ≠ b_2 := fun z9 => absurd (va_at.lt f_1) (by rw [z9, hb_2]; exact Nat.lt_irrefl _)
        have f_1 : At G b_1 (.inl (G.2.1 5, (np + 1), .inr (.inr (.inr (.inr (va_up (fun j => if j < np then some (pA j) else none) np (some q))))))) H := olt f_1 oq
        refine lv_dup hx hb dX0_withPresentation_48 rfl ?_
        refine lv_aload_n hx hb dX0_withPresentation_49 rfl (lv_at hl 2 rfl) ?_
        refine gf_X0_9 E hG (kn hS hz0 k1.1) rfl dX0_withPresentation_50 ?_
        refine lv_aload_n hx hb dX0_withPresentation_53 rfl (lv_at hl 2 rfl) ?_
        refine gf_X0_15 E hG (kn hS hz0 k1.1) rfl dX0_withPresentation_54 ?_
        refine lv_aload_n hx hb dX0_withPresentation_57 rfl (lv_at hl 2 rfl) ?_
        refine gf_X0_19 E hG (kn hS hz0 k1.1) rfl dX0_withPresentation_58 ?_
        refine lv_aload_n hx hb dX0_withPresentation_61 rfl (lv_at hl 2 rfl) ?_
        refine gf_X0_23 E hG (kn hS hz0 k1.1) rfl dX0_withPresentation_62 ?_
        refine lv_aload_n hx hb dX0_withPresentation_65 rfl (lv_at hl 1 rfl) ?_
        refine Wr.callI (rest := [.ref b_2]) (c_X0_init l G (d 3) ca fe cr b_1) yk_X0_init E km_X0_47 dX0_withPresentation_66 hG (hE.S hS hEA) f_2 rfl rfl hl.1 ⟨Nat.le_of_ble_eq_true rfl, Nat.le_of_ble_eq_true rfl⟩ ⟨(show 0 + 1 + 1 + 0 ≤ 2 by omega), (show 0 + (np + 1) + 5 + 0 ≤ 29 by omega)⟩ (Nat.le_of_ble_eq_true rfl) hS (fun q9 h9 => by rw [h9]; exact hg_2) (fun v9 H locs hq hz9 hfr9 hS => ?_)
        have f_1 : At G b_1 (.inl (G.2.1 5, (np + 1), .inr (.inr (.inr (.inr (va_up (fun j => if j < np then some (pA j) else none) np (some q))))))) H := va_at.kept f_1 (hfr9 _ (va_at.lt f_1) ne_b_1_b_2)
        obtain ⟨rfl, f_2⟩ := hq
        exact wr_ref E hr (by first | exact Or.inl ⟨_, rfl⟩ | exact Or.inr ⟨_, rfl⟩) hk hS (show 0 + 1 + 1 + 0 ≤ 2 by omega) (show 0 + (np + 1) + 5 + 0 ≤ 29 by omega) (⟨b_2, rfl, BK.next (pA := (fun j9 => if j9 < np then pA j9 else q)) ⟨f_2, (fun z9 => absurd (hAO _ z9) (Nat.not_lt.mpr hg_2))⟩ ht (knp hS hz0 k2) (knp hS hz0 k3) hSm.1 (knp hS hz0 k4) ⟨At.congrQ (g := fun j => some ((fun j9 => if j9 < np then pA j9 else q) j)) f_1 (fun j hj => by unfold va_up; by_cases h9 : j < np; (simp [h9, Nat.ne_of_lt h9]); (have h8 : j = np := by omega); (subst h8; simp)), (fun z9 => absurd (hAO _ z9) (Nat.not_lt.mpr hg_1))⟩ (fun c9 h9 => by rw [hSm.2.1 c9 h9]; exact knp hS hz0 (k6 c9 h9)) (fun c9 h9 => by by_cases h8 : c9 < np; (simp only [h8, if_true]; rw [hSm.2.2.1 c9 h8]; exact knp hS hz0 (k7 c9 h8)); (have h7 : c9 = np := by omega); (subst h7; simp only [Nat.lt_irrefl, if_false]; exact ⟨kn hS hz0 hq, hqA⟩)) (fen hS hz0 k8 hSm.2.2.2)⟩) dX0_withPresentation_69
      · have c_19 : ¬ np ≤ k := fun z9 => c_19 ((nLE (x := (nI np)) (y := (nI k)) (a := np) (b := k) rfl rfl (by omega) (by omega)).mpr z9)
        refine lv_aload_n hx hb dX0_withPresentation_22 rfl (lv_at hl 1 rfl) ?_
        refine lv_iload_n hx hb dX0_withPresentation_23 rfl (lv_at hl 0 rfl) ?_
        refine lv_aload_n hx hb dX0_withPresentation_24 rfl (lv_at hl 2 rfl) ?_
        refine gf_X0_27 E hG (kn hS hz0 k1.1) rfl dX0_withPresentation_25 ?_
        refine lv_iload_n hx hb dX0_withPresentation_28 rfl (lv_at hl 0 rfl) ?_
        refine g_aldS (t0 := 5) k rfl E hG (kn hS hz0 k5.1) rfl (by omega) (by omega) dX0_withPresentation_29 ?_
        refine g_ast (t0 := 5) k rfl rfl E hG f_1 (kn hS hz0 (k7 k (by omega)).1) rfl (by omega) (by omega) hS hg_1 dX0_withPresentation_30 (fun H locs f_1 hz oq hS => ?_)
        have f_1 : At G b_1 (.inl (G.2.1 5, (np + 1), .inr (.inr (.inr (.inr (va_up (fun j => if j < k then some (pA j) else none) k (some (pA k)))))))) H := f_1
        refine lv_iinc (v := (nI (k + 1))) (lv' := [(3, .int (nI (k + 1))), (2, .ref b_1), (0, .ref a), (1, .ref q)]) hx hb dX0_withPresentation_31 hl (k := 0) rfl (nI_ad rfl rfl) (by decide) rfl (fun ls hl => ?_)
        refine lv_goto (tgt := 13) hx hb dX0_withPresentation_34 (by decide) ?_
        rw [upq (g := pA) rfl] at f_1
        exact ih (k + 1) (by omega) (by omega) H locs f_1 hS ls (lv_sub hl [0, 1, 2, 3] rfl)
  exact loop (np + 1) 0 (by omega) (by omega) H _ f_1 hS ls (lv_sub hl [0, 1, 2, 3] rfl)

set_option maxHeartbeats 4000000 in
set_option maxRecDepth 100000 in
/-- withPresentationAt -/
theorem c_X0_withPresentationAt (l : Launch) (G : CG) {a sz : Nat} {AO : Nat → Prop} {d d9 : Nat → Int32} {nc np nh : Nat} (hz1 : EFA G sz) (hAO : ∀ q, AO q → q < sz) {q : Nat} (z : Int32) (k0 : Nat) (ez : z = nI k0) (hk0 : k0 < np) (hSm : Sm d d9 nc 0 nh) (hpr : ∀ p, p < np → p ≠ k0 → prF d9 nh p = prF d nh p) (ht : d 3 = d9 3) (hp0 : np ≤ 24) : Wr l yX0_withPresentationAt cX0_withPresentationAt 5 ((Option.some (FieldType.object "DocumentaryCreditDesk$Book"))) 2 45 2 29 G [.ref a, .int z, .ref q] (fun H9 => H9.size = sz ∧ BK G AO a d nc np nh H9 ∧ At G q (.inr (5, prF d9 nh k0)) H9 ∧ ¬ AO q) (fun q9 => sz ≤ q9) (fun v9 H9 => ∃ b, v9 = some (.ref b) ∧ BK G AO b d9 nc np nh H9) := by
  refine Wr.ofW (by decide) (Nat.le_of_ble_eq_true rfl) (fun p e s m below meth c ls E hG hE hP hr hk hin hl => ?_)
  have hS : va_S (fun q9 => sz ≤ q9) s.heap s.heap [] := va_S.rf
  have hx := E.1
  have hb := E.2.1
  have hl : lv_has ls 5 [(0, .ref a), (1, .int z), (2, .ref q)] := hl
  obtain ⟨hz0, hB, hq, hqA⟩ := hP
  obtain ⟨ca, ho, fe, cr, pr, cA, pA, k1, k2, k3, k4, k5, k6, k7, k8⟩ := id hB
  have hEA : ∀ q9, sz ≤ q9 → EFA G q9 := fun q9 h9 => Nat.le_trans hz1 h9
  refine lv_aload_n hx hb dX0_withPresentationAt_0 rfl (lv_at hl 0 rfl) ?_
  refine gf_X0_27 E hG (kn hS hz0 k1.1) rfl dX0_withPresentationAt_1 ?_
  refine g_len (t0 := 5) (v := (nI np)) E hG (kn hS hz0 k5.1) rfl rfl dX0_withPresentationAt_4 ?_
  refine n_newq (N := np) (t0 := 5) rfl kl_X0_45 hG.2.2.2.1 E hG hS (Nat.le_of_eq hz0.symm) rfl (by omega) (show 0 + 1 ≤ 2 by omega) (show 0 + np ≤ 29 by omega) dX0_withPresentationAt_5 (fun b_1 H hb_1 hg_1 f_1 hz oq hS => ?_)
  refine lv_astore_n (lv' := [(3, .ref b_1), (0, .ref a), (1, .int z), (2, .ref q)]) hx hb dX0_withPresentationAt_8 rfl hl (by decide) rfl (fun ls hl => ?_)
  refine lv_iconst (v := 0) hx hb dX0_withPresentationAt_9 rfl ?_
  refine lv_ci (y := nI 0) (ixq rfl) ?_
  refine lv_istore (lv' := [(4, .int (nI 0)), (3, .ref b_1), (0, .ref a), (1, .int z), (2, .ref q)]) hx hb dX0_withPresentationAt_10 hl (by decide) rfl (fun ls hl => ?_)
  have f_1 : At G b_1 (.inl (G.2.1 5, np, .inr (.inr (.inr (.inr (fun j => if j < 0 then some ((fun j9 => if j9 = k0 then q else pA j9) j) else none)))))) H := At.congrQ f_1 (fun j _ => (if_neg (Nat.not_lt_zero j)).symm)
  have loop : ∀ (j k : Nat), np < k + j → k ≤ np → ∀ (H : Heap) (locs : List Loc), At G b_1 (.inl (G.2.1 5, np, .inr (.inr (.inr (.inr (fun j => if j < k then some ((fun j9 => if j9 = k0 then q else pA j9) j) else none)))))) H → va_S (fun q9 => sz ≤ q9) s.heap H locs → ∀ ls : Array Slot, lv_has ls 5 [(4, .int (nI k)), (3, .ref b_1), (0, .ref a), (1, .int z), (2, .ref q)] → W p l e { frames := 2, cells := 2, slots := 29, locals := 45 } s m ([.ref a, .int z, .ref q] : List Value).toArray below meth c H locs (0 + 1) (0 + np) (WQ below ([.ref a, .int z, .ref q] : List Value).toArray s 2 29 (fun q9 => sz ≤ q9) (fun v9 H9 => ∃ b, v9 = some (.ref b) ∧ BK G AO b d9 nc np nh H9)) (F0 m 12 ls []) := by
    intro j
    induction j with
    | zero => intro k z1 z2; omega
    | succ j ih =>
      intro k z1 z2 H locs f_1 hS ls hl
      refine lv_iload hx hb dX0_withPresentationAt_12 (lv_at hl 0 rfl) ?_
      refine lv_aload_n hx hb dX0_withPresentationAt_14 rfl (lv_at hl 2 rfl) ?_
      refine gf_X0_27 E hG (kn hS hz0 k1.1) rfl dX0_withPresentationAt_15 ?_
      refine g_len (t0 := 5) (v := (nI np)) E hG (kn hS hz0 k5.1) rfl rfl dX0_withPresentationAt_18 ?_
      refine lv_icmp_ge (tgt := 49) hx hb dX0_withPresentationAt_19 (by decide) (fun c_19 => ?_) (fun c_19 => ?_)
      · have c_19 : np ≤ k := (nLE (x := (nI np)) (y := (nI k)) (a := np) (b := k) rfl rfl (by omega) (by omega)).mp c_19
        have e9 : np = k := by omega
        subst e9
        refine n_new (ci := 0) (fs := [.int 0, .null, .null, .null, .null]) (ty := tyX0) inX0 tyX0_ok rfl kl_X0_10 kn_X0 kin_X0 df_X0 E hG hS (Nat.le_of_eq hz0.symm) (show 0 + 1 + 1 ≤ 2 by omega) (show 0 + np + 5 ≤ 29 by omega) dX0_withPresentationAt_49 (fun b_2 H hb_2 hg_2 f_2 hz oq hS => ?_)
        have ne_b_1_b_2 : b_1 ≠ b_2 := fun z9 => absurd (va_at.lt f_1) (by rw [z9, hb_2]; exact Nat.lt_irrefl _)
        have f_1 : At G b_1 (.inl (G.2.1 5, np, .inr (.inr (.inr (.inr (fun j => if j < np then some ((fun j9 => if j9 = k0 then q else pA j9) j) else none)))))) H := olt f_1 oq
        refine lv_dup hx hb dX0_withPresentationAt_52 rfl ?_
        refine lv_aload_n hx hb dX0_withPresentationAt_53 rfl (lv_at hl 2 rfl) ?_
        refine gf_X0_9 E hG (kn hS hz0 k1.1) rfl dX0_withPresentationAt_54 ?_
        refine lv_aload_n hx hb dX0_withPresentationAt_57 rfl (lv_at hl 2 rfl) ?_
        refine gf_X0_15 E hG (kn hS hz0 k1.1) rfl dX0_withPresentationAt_58 ?_
        refine lv_aload_n hx hb dX0_withPresentationAt_61 rfl (lv_at hl 2 rfl) ?_
        refine gf_X0_19 E hG (kn hS hz0 k1.1) rfl dX0_withPresentationAt_62 ?_
        refine lv_aload_n hx hb dX0_withPresentationAt_65 rfl (lv_at hl 2 rfl) ?_
        refine gf_X0_23 E hG (kn hS hz0 k1.1) rfl dX0_withPresentationAt_66 ?_
        refine lv_aload_n hx hb dX0_withPresentationAt_69 rfl (lv_at hl 1 rfl) ?_
        refine Wr.callI (rest := [.ref b_2]) (c_X0_init l G (d 3) ca fe cr b_1) yk_X0_init E km_X0_47 dX0_withPresentationAt_70 hG (hE.S hS hEA) f_2 rfl rfl hl.1 ⟨Nat.le_of_ble_eq_true rfl, Nat.le_of_ble_eq_true rfl⟩ ⟨(show 0 + 1 + 1 + 0 ≤ 2 by omega), (show 0 + np + 5 + 0 ≤ 29 by omega)⟩ (Nat.le_of_ble_eq_true rfl) hS (fun q9 h9 => by rw [h9]; exact hg_2) (fun v9 H locs hq hz9 hfr9 hS => ?_)
        have f_1 : At G b_1 (.inl (G.2.1 5, np, .inr (.inr (.inr (.inr (fun j => if j < np then some ((fun j9 => if j9 = k0 then q else pA j9) j) else none)))))) H := va_at.kept f_1 (hfr9 _ (va_at.lt f_1) ne_b_1_b_2)
        obtain ⟨rfl, f_2⟩ := hq
        exact wr_ref E hr (by first | exact Or.inl ⟨_, rfl⟩ | exact Or.inr ⟨_, rfl⟩) hk hS (show 0 + 1 + 1 + 0 ≤ 2 by omega) (show 0 + np + 5 + 0 ≤ 29 by omega) (⟨b_2, rfl, BK.next (pA := (fun j9 => if j9 = k0 then q else pA j9)) ⟨f_2, (fun z9 => absurd (hAO _ z9) (Nat.not_lt.mpr hg_2))⟩ ht (knp hS hz0 k2) (knp hS hz0 k3) hSm.1 (knp hS hz0 k4) ⟨At.congrQ (g := fun j => some ((fun j9 => if j9 = k0 then q else pA j9) j)) f_1 (fun j hj => if_pos hj), (fun z9 => absurd (hAO _ z9) (Nat.not_lt.mpr hg_1))⟩ (fun c9 h9 => by rw [hSm.2.1 c9 h9]; exact knp hS hz0 (k6 c9 h9)) (fun c9 h9 => by by_cases h8 : c9 = k0; (subst h8; simp only [if_true]; exact ⟨kn hS hz0 hq, hqA⟩); (simp only [h8, if_false]; rw [hpr c9 h9 h8]; exact knp hS hz0 (k7 c9 h9))) (fen hS hz0 k8 hSm.2.2.2)⟩) dX0_withPresentationAt_73
      · have c_19 : ¬ np ≤ k := fun z9 => c_19 ((nLE (x := (nI np)) (y := (nI k)) (a := np) (b := k) rfl rfl (by omega) (by omega)).mpr z9)
        refine lv_aload_n hx hb dX0_withPresentationAt_22 rfl (lv_at hl 1 rfl) ?_
        refine lv_iload hx hb dX0_withPresentationAt_23 (lv_at hl 0 rfl) ?_
        refine lv_iload hx hb dX0_withPresentationAt_25 (lv_at hl 0 rfl) ?_
        refine lv_iload_n hx hb dX0_withPresentationAt_27 rfl (lv_at hl 3 rfl) ?_
        refine lv_icmp_ne (tgt := 35) hx hb dX0_withPresentationAt_28 (by decide) (fun c_28 => ?_) (fun c_28 => ?_)
        · have c_28 : ¬ k = k0 := fun z9 => c_28 ((nEQ (x := (nI k)) (y := z) (a := k) (b := k0) rfl ez (by omega) (by omega)).mpr z9)
          refine lv_aload_n hx hb dX0_withPresentationAt_35 rfl (lv_at hl 2 rfl) ?_
          refine gf_X0_27 E hG (kn hS hz0 k1.1) rfl dX0_withPresentationAt_36 ?_
          refine lv_iload hx hb dX0_withPresentationAt_39 (lv_at hl 0 rfl) ?_
          refine g_aldS (t0 := 5) k rfl E hG (kn hS hz0 k5.1) rfl (by omega) (by omega) dX0_withPresentationAt_41 ?_
          refine g_ast (t0 := 5) k rfl rfl E hG f_1 (kn hS hz0 (k7 k (by omega)).1) rfl (by omega) (by omega) hS hg_1 dX0_withPresentationAt_42 (fun H locs f_1 hz oq hS => ?_)
          have f_1 : At G b_1 (.inl (G.2.1 5, np, .inr (.inr (.inr (.inr (va_up (fun j => if j < k then some ((fun j9 => if j9 = k0 then q else pA j9) j) else none) k (some (pA k)))))))) H := f_1
          refine lv_iinc (v := (nI (k + 1))) (lv' := [(4, .int (nI (k + 1))), (3, .ref b_1), (0, .ref a), (1, .int z), (2, .ref q)]) hx hb dX0_withPresentationAt_43 hl (k := 0) rfl (nI_ad rfl rfl) (by decide) rfl (fun ls hl => ?_)
          refine lv_goto (tgt := 12) hx hb dX0_withPresentationAt_46 (by decide) ?_
          rw [upq (g := (fun j9 => if j9 = k0 then q else pA j9)) (by simp [c_28])] at f_1
          exact ih (k + 1) (by omega) (by omega) H locs f_1 hS ls (lv_sub hl [0, 1, 2, 3, 4] rfl)
        · have c_28 : k = k0 := (nEQ (x := (nI k)) (y := z) (a := k) (b := k0) rfl ez (by omega) (by omega)).mp c_28
          refine lv_aload_n hx hb dX0_withPresentationAt_31 rfl (lv_at hl 4 rfl) ?_
          refine lv_goto (tgt := 42) hx hb dX0_withPresentationAt_32 (by decide) ?_
          refine g_ast (t0 := 5) k rfl rfl E hG f_1 (kn hS hz0 hq) rfl (by omega) (by omega) hS hg_1 dX0_withPresentationAt_42 (fun H locs f_1 hz oq hS => ?_)
          have f_1 : At G b_1 (.inl (G.2.1 5, np, .inr (.inr (.inr (.inr (va_up (fun j => if j < k then some ((fun j9 => if j9 = k0 then q else pA j9) j) else none) k (some q))))))) H := f_1
          refine lv_iinc (v := (nI (k + 1))) (lv' := [(4, .int (nI (k + 1))), (3, .ref b_1), (0, .ref a), (1, .int z), (2, .ref q)]) hx hb dX0_withPresentationAt_43 hl (k := 0) rfl (nI_ad rfl rfl) (by decide) rfl (fun ls hl => ?_)
          refine lv_goto (tgt := 12) hx hb dX0_withPresentationAt_46 (by decide) ?_
          rw [upq (g := (fun j9 => if j9 = k0 then q else pA j9)) (by simp [c_28])] at f_1
          exact ih (k + 1) (by omega) (by omega) H locs f_1 hS ls (lv_sub hl [0, 1, 2, 3, 4] rfl)
  exact loop (np + 1) 0 (by omega) (by omega) H _ f_1 hS ls (lv_sub hl [0, 1, 2, 3, 4] rfl)

set_option maxHeartbeats 4000000 in
set_option maxRecDepth 100000 in
/-- settled -/
theorem c_X5_settled (l : Launch) (G : CG) {q sz : Nat} {d : Nat → Int32} (hz1 : EFA G sz) {nh p9 : Nat} (y z : Int32) : Wr l yX5_settled cX5_settled 3 ((Option.some (FieldType.object "DocumentaryCreditDesk$Presentation"))) 2 46 1 6 G [.ref q, .int y, .int z] (fun H9 => H9.size = sz ∧ At G q (.inr (5, prF d nh p9)) H9) (fun q9 => sz ≤ q9) (fun v9 H9 => ∃ b, v9 = some (.ref b) ∧ sz ≤ b ∧ At G b (.inr (5, [.int (d (pP p9)), .int (d (pP p9 + 1)), .int (d (pP p9 + 2)), .int (d (pP p9 + 3)), .int y, .int z])) H9) := by
  refine Wr.ofW (by decide) (Nat.le_of_ble_eq_true rfl) (fun p e s m below meth c ls E hG hE hP hr hk hin hl => ?_)
  have hS : va_S (fun q9 => sz ≤ q9) s.heap s.heap [] := va_S.rf
  have hx := E.1
  have hb := E.2.1
  have hl : lv_has ls 3 [(0, .ref q), (1, .int y), (2, .int z)] := hl
  obtain ⟨hz0, hq⟩ := hP
  have hEA : ∀ q9, sz ≤ q9 → EFA G q9 := fun q9 h9 => Nat.le_trans hz1 h9
  refine n_new (ci := 5) (fs := [.int 0, .int 0, .int 0, .int 0, .int 0, .int 0]) (ty := tyX5) inX5 tyX5_ok rfl kl_X5_8 kn_X5 kin_X5 df_X5 E hG hS (Nat.le_of_eq hz0.symm) (show 0 + 1 ≤ 1 by omega) (show 0 + 6 ≤ 6 by omega) dX5_settled_0 (fun b_1 H hb_1 hg_1 f_1 hz oq hS => ?_)
  refine lv_dup hx hb dX5_settled_3 rfl ?_
  refine lv_aload_n hx hb dX5_settled_4 rfl (lv_at hl 0 rfl) ?_
  refine gf_X5_7 E hG (kn hS hz0 hq) rfl dX5_settled_5 ?_
  refine lv_aload_n hx hb dX5_settled_8 rfl (lv_at hl 0 rfl) ?_
  refine gf_X5_13 E hG (kn hS hz0 hq) rfl dX5_settled_9 ?_
  refine lv_aload_n hx hb dX5_settled_12 rfl (lv_at hl 0 rfl) ?_
  refine gf_X5_16 E hG (kn hS hz0 hq) rfl dX5_settled_13 ?_
  refine lv_aload_n hx hb dX5_settled_16 rfl (lv_at hl 0 rfl) ?_
  refine gf_X5_19 E hG (kn hS hz0 hq) rfl dX5_settled_17 ?_
  refine lv_iload_n hx hb dX5_settled_20 rfl (lv_at hl 1 rfl) ?_
  refine lv_iload_n hx hb dX5_settled_21 rfl (lv_at hl 2 rfl) ?_
  refine Wr.callI (rest := [.ref b_1]) (c_X5_init l G (d (pP p9)) (d (pP p9 + 1)) (d (pP p9 + 2)) (d (pP p9 + 3)) y z) yk_X5_init E km_X5_28 dX5_settled_22 hG (hE.S hS hEA) f_1 rfl rfl hl.1 ⟨Nat.le_of_ble_eq_true rfl, Nat.le_of_ble_eq_true rfl⟩ ⟨(show 0 + 1 + 0 ≤ 1 by omega), (show 0 + 6 + 0 ≤ 6 by omega)⟩ (Nat.le_of_ble_eq_true rfl) hS (fun q9 h9 => by rw [h9]; exact hg_1) (fun v9 H locs hq hz9 hfr9 hS => ?_)
  obtain ⟨rfl, f_1⟩ := hq
  exact wr_ref E hr (by first | exact Or.inl ⟨_, rfl⟩ | exact Or.inr ⟨_, rfl⟩) hk hS (show 0 + 1 + 0 ≤ 1 by omega) (show 0 + 6 + 0 ≤ 6 by omega) (⟨b_1, rfl, hg_1, f_1⟩) dX5_settled_25

set_option maxHeartbeats 4000000 in
set_option maxRecDepth 100000 in
/-- partTransferred -/
theorem c_X2_partTransferred (l : Launch) (G : CG) {q sz : Nat} {d : Nat → Int32} (hz1 : EFA G sz) {c9 : Nat} (x y z : Int32) (hp1 : d (cP c9 + 7) = 0 ∨ d (cP c9 + 7) = 1) : Wr l yX2_partTransferred cX2_partTransferred 5 ((Option.some (FieldType.object "DocumentaryCreditDesk$Credit"))) 2 42 1 12 G [.ref q, .int x, .int y, .int z] (fun H9 => H9.size = sz ∧ At G q (.inr (2, crF d c9)) H9) (fun q9 => sz ≤ q9) (fun v9 H9 => ∃ b, v9 = some (.ref b) ∧ sz ≤ b ∧ At G b (.inr (2, [.int x, .int (nI c9), .int y, .int 0, .int 0, .int z, .int (jmin (d (cP c9 + 4)) z), .int (d (cP c9 + 5)), .int (d (cP c9 + 6)), .int (d (cP c9 + 9)), .int (d (cP c9 + 7)), .int 0])) H9) := by
  refine Wr.ofW (by decide) (Nat.le_of_ble_eq_true rfl) (fun p e s m below meth c ls E hG hE hP hr hk hin hl => ?_)
  have hS : va_S (fun q9 => sz ≤ q9) s.heap s.heap [] := va_S.rf
  have hx := E.1
  have hb := E.2.1
  have hl : lv_has ls 5 [(0, .ref q), (1, .int x), (2, .int y), (3, .int z)] := hl
  obtain ⟨hz0, hq⟩ := hP
  have hEA : ∀ q9, sz ≤ q9 → EFA G q9 := fun q9 h9 => Nat.le_trans hz1 h9
  refine n_new (ci := 2) (fs := [.int 0, .int 0, .int 0, .int 0, .int 0, .int 0, .int 0, .int 0, .int 0, .int 0, .int 0, .int 0]) (ty := tyX2) inX2 tyX2_ok rfl kl_X2_8 kn_X2 kin_X2 df_X2 E hG hS (Nat.le_of_eq hz0.symm) (show 0 + 1 ≤ 1 by omega) (show 0 + 12 ≤ 12 by omega) dX2_partTransferred_0 (fun b_1 H hb_1 hg_1 f_1 hz oq hS => ?_)
  refine lv_dup hx hb dX2_partTransferred_3 rfl ?_
  refine lv_iload_n hx hb dX2_partTransferred_4 rfl (lv_at hl 1 rfl) ?_
  refine lv_aload_n hx hb dX2_partTransferred_5 rfl (lv_at hl 0 rfl) ?_
  refine gf_X2_7 E hG (kn hS hz0 hq) rfl dX2_partTransferred_6 ?_
  refine Wr.callI (rest := [.ref b_1]) (c_X2_init l G x (nI c9)) yk_X2_init E km_X2_25 dX2_partTransferred_9 hG (hE.S hS hEA) f_1 rfl rfl hl.1 ⟨Nat.le_of_ble_eq_true rfl, Nat.le_of_ble_eq_true rfl⟩ ⟨(show 0 + 1 + 0 ≤ 1 by omega), (show 0 + 12 + 0 ≤ 12 by omega)⟩ (Nat.le_of_ble_eq_true rfl) hS (fun q9 h9 => by rw [h9]; exact hg_1) (fun v9 H locs hq hz9 hfr9 hS => ?_)
  obtain ⟨rfl, f_1⟩ := hq
  refine lv_astore (lv' := [(4, .ref b_1), (0, .ref q), (1, .int x), (2, .int y), (3, .int z)]) hx hb dX2_partTransferred_12 hl (by decide) rfl (fun ls hl => ?_)
  refine lv_aload hx hb dX2_partTransferred_14 (lv_at hl 0 rfl) ?_
  refine lv_iload_n hx hb dX2_partTransferred_16 rfl (lv_at hl 3 rfl) ?_
  refine pf_X2_16 E hG f_1 (Nat.le_of_ble_eq_true rfl) rfl rfl hS hg_1 dX2_partTransferred_17 (fun H locs f_1 hz oq hS => ?_)
  have f_1 : At G b_1 (.inr (2, [.int x, .int (nI c9), .int y, .int 0, .int 0, .int 0, .int 0, .int 0, .int 0, .int 0, .int 0, .int 0])) H := f_1
  refine lv_aload hx hb dX2_partTransferred_20 (lv_at hl 0 rfl) ?_
  refine lv_iload_n hx hb dX2_partTransferred_22 rfl (lv_at hl 4 rfl) ?_
  refine pf_X2_28 E hG f_1 (Nat.le_of_ble_eq_true rfl) rfl rfl hS hg_1 dX2_partTransferred_23 (fun H locs f_1 hz oq hS => ?_)
  have f_1 : At G b_1 (.inr (2, [.int x, .int (nI c9), .int y, .int 0, .int 0, .int z, .int 0, .int 0, .int 0, .int 0, .int 0, .int 0])) H := f_1
  refine lv_aload hx hb dX2_partTransferred_26 (lv_at hl 0 rfl) ?_
  refine lv_aload_n hx hb dX2_partTransferred_28 rfl (lv_at hl 1 rfl) ?_
  refine gf_X2_31 E hG (kn hS hz0 hq) rfl dX2_partTransferred_29 ?_
  refine lv_iload_n hx hb dX2_partTransferred_32 rfl (lv_at hl 4 rfl) ?_
  refine g_mmin (rest := [.ref b_1]) E km_X2_34 dX2_partTransferred_33 (Nat.le_of_ble_eq_true rfl) (Nat.le_of_ble_eq_true rfl) ⟨(show 0 + 1 + 0 ≤ 1 by omega), (show 0 + 12 + 0 ≤ 12 by omega)⟩ hl.1 ?_
  refine pf_X2_31 E hG f_1 (Nat.le_of_ble_eq_true rfl) rfl rfl hS hg_1 dX2_partTransferred_36 (fun H locs f_1 hz oq hS => ?_)
  have f_1 : At G b_1 (.inr (2, [.int x, .int (nI c9), .int y, .int 0, .int 0, .int z, .int (jmin (d (cP c9 + 4)) z), .int 0, .int 0, .int 0, .int 0, .int 0])) H := f_1
  refine lv_aload hx hb dX2_partTransferred_39 (lv_at hl 0 rfl) ?_
  refine lv_aload_n hx hb dX2_partTransferred_41 rfl (lv_at hl 1 rfl) ?_
  refine gf_X2_40 E hG (kn hS hz0 hq) rfl dX2_partTransferred_42 ?_
  refine pf_X2_40 E hG f_1 (Nat.le_of_ble_eq_true rfl) rfl rfl hS hg_1 dX2_partTransferred_45 (fun H locs f_1 hz oq hS => ?_)
  have f_1 : At G b_1 (.inr (2, [.int x, .int (nI c9), .int y, .int 0, .int 0, .int z, .int (jmin (d (cP c9 + 4)) z), .int (d (cP c9 + 5)), .int 0, .int 0, .int 0, .int 0])) H := f_1
  refine lv_aload hx hb dX2_partTransferred_48 (lv_at hl 0 rfl) ?_
  refine lv_aload_n hx hb dX2_partTransferred_50 rfl (lv_at hl 1 rfl) ?_
  refine gf_X2_43 E hG (kn hS hz0 hq) rfl dX2_partTransferred_51 ?_
  refine pf_X2_43 E hG f_1 (Nat.le_of_ble_eq_true rfl) rfl rfl hS hg_1 dX2_partTransferred_54 (fun H locs f_1 hz oq hS => ?_)
  have f_1 : At G b_1 (.inr (2, [.int x, .int (nI c9), .int y, .int 0, .int 0, .int z, .int (jmin (d (cP c9 + 4)) z), .int (d (cP c9 + 5)), .int (d (cP c9 + 6)), .int 0, .int 0, .int 0])) H := f_1
  refine lv_aload hx hb dX2_partTransferred_57 (lv_at hl 0 rfl) ?_
  refine lv_aload_n hx hb dX2_partTransferred_59 rfl (lv_at hl 1 rfl) ?_
  refine gf_X2_46 E hG (kn hS hz0 hq) rfl dX2_partTransferred_60 ?_
  refine pf_X2_46 E hG f_1 (Nat.le_of_ble_eq_true rfl) rfl rfl hS hg_1 dX2_partTransferred_63 (fun H locs f_1 hz oq hS => ?_)
  have f_1 : At G b_1 (.inr (2, [.int x, .int (nI c9), .int y, .int 0, .int 0, .int z, .int (jmin (d (cP c9 + 4)) z), .int (d (cP c9 + 5)), .int (d (cP c9 + 6)), .int (d (cP c9 + 9)), .int 0, .int 0])) H := f_1
  refine lv_aload hx hb dX2_partTransferred_66 (lv_at hl 0 rfl) ?_
  refine lv_aload_n hx hb dX2_partTransferred_68 rfl (lv_at hl 1 rfl) ?_
  refine gf_X2_49 E hG (kn hS hz0 hq) rfl dX2_partTransferred_69 ?_
  refine pf_X2_49 E hG f_1 (Nat.le_of_ble_eq_true rfl) (by rcases hp1 with h9 | h9 <;> rw [h9] <;> rfl) (by rcases hp1 with h9 | h9 <;> rw [h9] <;> rfl) hS hg_1 dX2_partTransferred_72 (fun H locs f_1 hz oq hS => ?_)
  have f_1 : At G b_1 (.inr (2, [.int x, .int (nI c9), .int y, .int 0, .int 0, .int z, .int (jmin (d (cP c9 + 4)) z), .int (d (cP c9 + 5)), .int (d (cP c9 + 6)), .int (d (cP c9 + 9)), .int (d (cP c9 + 7)), .int 0])) H := f_1
  refine lv_aload hx hb dX2_partTransferred_75 (lv_at hl 0 rfl) ?_
  exact wr_ref E hr (by first | exact Or.inl ⟨_, rfl⟩ | exact Or.inr ⟨_, rfl⟩) hk hS (show 0 + 1 + 0 ≤ 1 by omega) (show 0 + 12 + 0 ≤ 12 by omega) (⟨b_1, rfl, hg_1, f_1⟩) dX2_partTransferred_77

set_option maxHeartbeats 4000000 in
set_option maxRecDepth 100000 in
/-- ofEmptySetup -/
theorem c_X0_ofEmptySetup (l : Launch) (G : CG) {sz : Nat} {AO : Nat → Prop} {d : Nat → Int32} (hz1 : EFA G sz) (hAO : ∀ q, AO q → q < sz) (h3 : d 3 = 0) (h4 : d 4 = 0) : Wr l yX0_ofEmptySetup cX0_ofEmptySetup 0 ((Option.some (FieldType.object "DocumentaryCreditDesk$Book"))) 2 45 6 7 G [] (fun H9 => H9.size = sz) (fun q9 => sz ≤ q9) (fun v9 H9 => ∃ b, v9 = some (.ref b) ∧ sz ≤ b ∧ BK G AO b d 0 0 0 H9) := by
  refine Wr.ofW (by decide) (Nat.le_of_ble_eq_true rfl) (fun p e s m below meth c ls E hG hE hP hr hk hin hl => ?_)
  have hS : va_S (fun q9 => sz ≤ q9) s.heap s.heap [] := va_S.rf
  have hx := E.1
  have hb := E.2.1
  have hl : lv_has ls 0 [] := hl
  have hz0 := hP
  have hEA : ∀ q9, sz ≤ q9 → EFA G q9 := fun q9 h9 => Nat.le_trans hz1 h9
  refine n_new (ci := 0) (fs := [.int 0, .null, .null, .null, .null]) (ty := tyX0) inX0 tyX0_ok rfl kl_X0_10 kn_X0 kin_X0 df_X0 E hG hS (Nat.le_of_eq hz0.symm) (show 0 + 1 ≤ 6 by omega) (show 0 + 5 ≤ 7 by omega) dX0_ofEmptySetup_0 (fun b_1 H hb_1 hg_1 f_1 hz oq hS => ?_)
  refine lv_dup hx hb dX0_ofEmptySetup_3 rfl ?_
  refine lv_iconst (v := 0) hx hb dX0_ofEmptySetup_4 rfl ?_
  refine n_new (ci := 1) (fs := [.null]) (ty := tyX1) inX1 tyX1_ok rfl kl_X0_31 kn_X1 kin_X1 df_X1 E hG hS (Nat.le_of_eq hz0.symm) (show 0 + 1 + 1 ≤ 6 by omega) (show 0 + 5 + 1 ≤ 7 by omega) dX0_ofEmptySetup_5 (fun b_2 H hb_2 hg_2 f_2 hz oq hS => ?_)
  have ne_b_1_b_2 : b_1 ≠ b_2 := fun z9 => absurd (va_at.lt f_1) (by rw [z9, hb_2]; exact Nat.lt_irrefl _)
  have f_1 : At G b_1 (.inr (0, [.int 0, .null, .null, .null, .null])) H := olt f_1 oq
  refine lv_dup hx hb dX0_ofEmptySetup_8 rfl ?_
  refine lv_iconst (v := 0) hx hb dX0_ofEmptySetup_9 rfl ?_
  refine n_newa (atype := .int) (N := 0) (x := (0, .inl (fun _ => 0))) (t0 := 1) rfl ka_int (by exact Or.inl rfl) rfl E hG hS (Nat.le_of_eq hz0.symm) rfl (by omega) (show 0 + 1 + 1 + 1 ≤ 6 by omega) (show 0 + 5 + 1 + 0 ≤ 7 by omega) dX0_ofEmptySetup_10 (fun b_3 H hb_3 hg_3 f_3 hz oq hS => ?_)
  have ne_b_1_b_3 : b_1 ≠ b_3 := fun z9 => absurd (va_at.lt f_1) (by rw [z9, hb_3]; exact Nat.lt_irrefl _)
  have ne_b_2_b_3 : b_2 ≠ b_3 := fun z9 => absurd (va_at.lt f_2) (by rw [z9, hb_3]; exact Nat.lt_irrefl _)
  have f_1 : At G b_1 (.inr (0, [.int 0, .null, .null, .null, .null])) H := olt f_1 oq
  have f_2 : At G b_2 (.inr (1, [.null])) H := olt f_2 oq
  refine Wr.callI (rest := [.ref b_2, .int 0, .ref b_1, .ref b_1]) (c_X1_init l G b_3) yk_X1_init E km_X0_33 dX0_ofEmptySetup_12 hG (hE.S hS hEA) f_2 rfl rfl hl.1 ⟨Nat.le_of_ble_eq_true rfl, Nat.le_of_ble_eq_true rfl⟩ ⟨(show 0 + 1 + 1 + 1 + 0 ≤ 6 by omega), (show 0 + 5 + 1 + 0 + 0 ≤ 7 by omega)⟩ (Nat.le_of_ble_eq_true rfl) hS (fun q9 h9 => by rw [h9]; exact hg_2) (fun v9 H locs hq hz9 hfr9 hS => ?_)
  have f_1 : At G b_1 (.inr (0, [.int 0, .null, .null, .null, .null])) H := va_at.kept f_1 (hfr9 _ (va_at.lt f_1) ne_b_1_b_2)
  have f_3 : At G b_3 (.inl (G.2.1 1, 0, .inl (fun _ => 0))) H := va_at.kept f_3 (hfr9 _ (va_at.lt f_3) (Ne.symm ne_b_2_b_3))
  obtain ⟨rfl, f_2⟩ := hq
  refine n_new (ci := 3) (fs := [.null]) (ty := tyX3) inX3 tyX3_ok rfl kl_X0_36 kn_X3 kin_X3 df_X3 E hG hS (Nat.le_of_eq hz0.symm) (show 0 + 1 + 1 + 1 + 0 + 1 ≤ 6 by omega) (show 0 + 5 + 1 + 0 + 0 + 1 ≤ 7 by omega) dX0_ofEmptySetup_15 (fun b_4 H hb_4 hg_4 f_4 hz oq hS => ?_)
  have ne_b_1_b_4 : b_1 ≠ b_4 := fun z9 => absurd (va_at.lt f_1) (by rw [z9, hb_4]; exact Nat.lt_irrefl _)
  have ne_b_2_b_4 : b_2 ≠ b_4 := fun z9 => absurd (va_at.lt f_2) (by rw [z9, hb_4]; exact Nat.lt_irrefl _)
  have ne_b_3_b_4 : b_3 ≠ b_4 := fun z9 => absurd (va_at.lt f_3) (by rw [z9, hb_4]; exact Nat.lt_irrefl _)
  have f_1 : At G b_1 (.inr (0, [.int 0, .null, .null, .null, .null])) H := olt f_1 oq
  have f_2 : At G b_2 (.inr (1, [.ref b_3])) H := olt f_2 oq
  have f_3 : At G b_3 (.inl (G.2.1 1, 0, .inl (fun _ => 0))) H := olt f_3 oq
  refine lv_dup hx hb dX0_ofEmptySetup_18 rfl ?_
  refine va_gets E.1 E.2.1 hE.1 (va_S.wid hS hEA) E.2.2.2.1 (E.2.2.2.2 _ kf_X0_38) (fun _ h9 => h9) dX0_ofEmptySetup_19 ?_
  refine Wr.callI (rest := [.ref b_4, .ref b_2, .int 0, .ref b_1, .ref b_1]) (c_X3_init l G (G.2.2 1)) yk_X3_init E km_X0_42 dX0_ofEmptySetup_22 hG (hE.S hS hEA) f_4 rfl rfl hl.1 ⟨Nat.le_of_ble_eq_true rfl, Nat.le_of_ble_eq_true rfl⟩ ⟨(show 0 + 1 + 1 + 1 + 0 + 1 + 0 ≤ 6 by omega), (show 0 + 5 + 1 + 0 + 0 + 1 + 0 ≤ 7 by omega)⟩ (Nat.le_of_ble_eq_true rfl) hS (fun q9 h9 => by rw [h9]; exact hg_4) (fun v9 H locs hq hz9 hfr9 hS => ?_)
  have f_1 : At G b_1 (.inr (0, [.int 0, .null, .null, .null, .null])) H := va_at.kept f_1 (hfr9 _ (va_at.lt f_1) ne_b_1_b_4)
  have f_2 : At G b_2 (.inr (1, [.ref b_3])) H := va_at.kept f_2 (hfr9 _ (va_at.lt f_2) ne_b_2_b_4)
  have f_3 : At G b_3 (.inl (G.2.1 1, 0, .inl (fun _ => 0))) H := va_at.kept f_3 (hfr9 _ (va_at.lt f_3) ne_b_3_b_4)
  obtain ⟨rfl, f_4⟩ := hq
  refine lv_iconst (v := 0) hx hb dX0_ofEmptySetup_25 rfl ?_
  refine n_newq (N := 0) (t0 := 4) rfl kl_X0_43 hG.2.2.1 E hG hS (Nat.le_of_eq hz0.symm) rfl (by omega) (show 0 + 1 + 1 + 1 + 0 + 1 + 0 + 1 ≤ 6 by omega) (show 0 + 5 + 1 + 0 + 0 + 1 + 0 + 0 ≤ 7 by omega) dX0_ofEmptySetup_26 (fun b_5 H hb_5 hg_5 f_5 hz oq hS => ?_)
  have ne_b_1_b_5 : b_1 ≠ b_5 := fun z9 => absurd (va_at.lt f_1) (by rw [z9, hb_5]; exact Nat.lt_irrefl _)
  have ne_b_2_b_5 : b_2 ≠ b_5 := fun z9 => absurd (va_at.lt f_2) (by rw [z9, hb_5]; exact Nat.lt_irrefl _)
  have ne_b_3_b_5 : b_3 ≠ b_5 := fun z9 => absurd (va_at.lt f_3) (by rw [z9, hb_5]; exact Nat.lt_irrefl _)
  have ne_b_4_b_5 : b_4 ≠ b_5 := fun z9 => absurd (va_at.lt f_4) (by rw [z9, hb_5]; exact Nat.lt_irrefl _)
  have f_1 : At G b_1 (.inr (0, [.int 0, .null, .null, .null, .null])) H := olt f_1 oq
  have f_2 : At G b_2 (.inr (1, [.ref b_3])) H := olt f_2 oq
  have f_3 : At G b_3 (.inl (G.2.1 1, 0, .inl (fun _ => 0))) H := olt f_3 oq
  have f_4 : At G b_4 (.inr (3, [.ref (G.2.2 1)])) H := olt f_4 oq
  refine lv_iconst (v := 0) hx hb dX0_ofEmptySetup_29 rfl ?_
  refine n_newq (N := 0) (t0 := 5) rfl kl_X0_45 hG.2.2.2.1 E hG hS (Nat.le_of_eq hz0.symm) rfl (by omega) (show 0 + 1 + 1 + 1 + 0 + 1 + 0 + 1 + 1 ≤ 6 by omega) (show 0 + 5 + 1 + 0 + 0 + 1 + 0 + 0 + 0 ≤ 7 by omega) dX0_ofEmptySetup_30 (fun b_6 H hb_6 hg_6 f_6 hz oq hS => ?_)
  have ne_b_1_b_6 : b_1 ≠ b_6 := fun z9 => absurd (va_at.lt f_1) (by rw [z9, hb_6]; exact Nat.lt_irrefl _)
  have ne_b_2_b_6 : b_2 ≠ b_6 := fun z9 => absurd (va_at.lt f_2) (by rw [z9, hb_6]; exact Nat.lt_irrefl _)
  have ne_b_3_b_6 : b_3 ≠ b_6 := fun z9 => absurd (va_at.lt f_3) (by rw [z9, hb_6]; exact Nat.lt_irrefl _)
  have ne_b_4_b_6 : b_4 ≠ b_6 := fun z9 => absurd (va_at.lt f_4) (by rw [z9, hb_6]; exact Nat.lt_irrefl _)
  have ne_b_5_b_6 : b_5 ≠ b_6 := fun z9 => absurd (va_at.lt f_5) (by rw [z9, hb_6]; exact Nat.lt_irrefl _)
  have f_1 : At G b_1 (.inr (0, [.int 0, .null, .null, .null, .null])) H := olt f_1 oq
  have f_2 : At G b_2 (.inr (1, [.ref b_3])) H := olt f_2 oq
  have f_3 : At G b_3 (.inl (G.2.1 1, 0, .inl (fun _ => 0))) H := olt f_3 oq
  have f_4 : At G b_4 (.inr (3, [.ref (G.2.2 1)])) H := olt f_4 oq
  have f_5 : At G b_5 (.inl (G.2.1 4, 0, .inr (.inr (.inr (.inr (fun _ => none)))))) H := olt f_5 oq
  refine Wr.callI (rest := [.ref b_1]) (c_X0_init l G 0 b_2 b_4 b_5 b_6) yk_X0_init E km_X0_47 dX0_ofEmptySetup_33 hG (hE.S hS hEA) f_1 rfl rfl hl.1 ⟨Nat.le_of_ble_eq_true rfl, Nat.le_of_ble_eq_true rfl⟩ ⟨(show 0 + 1 + 1 + 1 + 0 + 1 + 0 + 1 + 1 + 0 ≤ 6 by omega), (show 0 + 5 + 1 + 0 + 0 + 1 + 0 + 0 + 0 + 0 ≤ 7 by omega)⟩ (Nat.le_of_ble_eq_true rfl) hS (fun q9 h9 => by rw [h9]; exact hg_1) (fun v9 H locs hq hz9 hfr9 hS => ?_)
  have f_2 : At G b_2 (.inr (1, [.ref b_3])) H := va_at.kept f_2 (hfr9 _ (va_at.lt f_2) (Ne.symm ne_b_1_b_2))
  have f_3 : At G b_3 (.inl (G.2.1 1, 0, .inl (fun _ => 0))) H := va_at.kept f_3 (hfr9 _ (va_at.lt f_3) (Ne.symm ne_b_1_b_3))
  have f_4 : At G b_4 (.inr (3, [.ref (G.2.2 1)])) H := va_at.kept f_4 (hfr9 _ (va_at.lt f_4) (Ne.symm ne_b_1_b_4))
  have f_5 : At G b_5 (.inl (G.2.1 4, 0, .inr (.inr (.inr (.inr (fun _ => none)))))) H := va_at.kept f_5 (hfr9 _ (va_at.lt f_5) (Ne.symm ne_b_1_b_5))
  have f_6 : At G b_6 (.inl (G.2.1 5, 0, .inr (.inr (.inr (.inr (fun _ => none)))))) H := va_at.kept f_6 (hfr9 _ (va_at.lt f_6) (Ne.symm ne_b_1_b_6))
  obtain ⟨rfl, f_1⟩ := hq
  exact wr_ref E hr (by first | exact Or.inl ⟨_, rfl⟩ | exact Or.inr ⟨_, rfl⟩) hk hS (show 0 + 1 + 1 + 1 + 0 + 1 + 0 + 1 + 1 + 0 ≤ 6 by omega) (show 0 + 5 + 1 + 0 + 0 + 1 + 0 + 0 + 0 + 0 ≤ 7 by omega) (⟨b_1, rfl, hg_1, BK.next (d := d) (cA := fun _ => 0) (pA := fun _ => 0) ⟨f_1, (fun z9 => absurd (hAO _ z9) (Nat.not_lt.mpr hg_1))⟩ h3.symm ⟨f_2, (fun z9 => absurd (hAO _ z9) (Nat.not_lt.mpr hg_2))⟩ ⟨At.congr f_3 (fun j hj => absurd hj (Nat.not_lt_zero j)), (fun z9 => absurd (hAO _ z9) (Nat.not_lt.mpr hg_3))⟩ (fun _ _ => rfl) ⟨At.congrQ f_5 (fun j hj => absurd hj (Nat.not_lt_zero j)), (fun z9 => absurd (hAO _ z9) (Nat.not_lt.mpr hg_5))⟩ ⟨At.congrQ f_6 (fun j hj => absurd hj (Nat.not_lt_zero j)), (fun z9 => absurd (hAO _ z9) (Nat.not_lt.mpr hg_6))⟩ (fun c9 h9 => absurd h9 (Nat.not_lt_zero c9)) (fun c9 h9 => absurd h9 (Nat.not_lt_zero c9)) ⟨_, ⟨f_4, (fun z9 => absurd (hAO _ z9) (Nat.not_lt.mpr hg_4))⟩, Or.inl ⟨h4, rfl⟩⟩⟩) dX0_ofEmptySetup_36
