set_option maxHeartbeats 4000000 in
set_option maxRecDepth 100000 in
/-- fee, a rule of its own -/
theorem c_X8_fee (l : Launch) (G : CG) {B : Nat → Nat} {t bl tl ps er ea eo ud ns ne se : Int32} {bf da dr : Nat → Int32} {hi : Nat → Nat → Int32} {sk : Nat → Int64} (hD : MD G B) (x : Int32) (k : Nat) (ex : x = nI k) (hk9 : k < 24) (hin9 : inV x 0 (da 1 - 1) = 1) (fa : Nat) (hf1 : da (pP k + 3) = nI fa) (hf2 : fa < 128) (hv0 : B8 (da (pP k + 2))) (hv1 : B8 (da 3 - da (pP k + 1))) (e4 : da 4 = 1) (L : List Int32) (hF : FeR da L) : Wr l yX8_fee cX8_fee 5 ((Option.some FieldType.int)) 2 45 0 0 G [.ref (B 0), .int x] (MW G B (fm t bl tl ps er ea eo ud ns ne se) bf da dr hi sk) (MA B) (fun v9 H9 => v9 = some (.int (feeV (da (pP k + 2)) (da 3 - da (pP k + 1)) (nI (bits 8 fa)) L)) ∧ ∃ sk9 : Nat → Int64, MW G B (fm 0 bl tl ps er ea eo ud ns ne se) bf da dr hi sk9 H9) := by
  refine Wr.ofW (by decide) (Nat.le_of_ble_eq_true rfl) (fun p e s m below meth c ls E hG hE hP hr hk hin hl => ?_)
  have hS : va_S (MA B) s.heap s.heap [] := va_S.rf
  have hx := E.1
  have hb := E.2.1
  have hl : lv_has ls 5 [(0, .ref (B 0)), (1, .int x)] := hl
  have hN := hF.2.1
  refine lv_aload_n hx hb dX8_fee_0 rfl (lv_at hl 0 rfl) ?_
  refine lv_iconst (v := 0) hx hb dX8_fee_1 rfl ?_
  refine pf_X8_32 E hG hP.1 (Nat.le_of_ble_eq_true rfl) rfl rfl hS ⟨0, by decide, rfl⟩ dX8_fee_2 (fun H locs ho hz oq hS => ?_)
  have hP : MW G B (fm 0 bl tl ps er ea eo ud ns ne se) bf da dr hi sk H := hP.setO hD ho oq
  refine lv_aload_n hx hb dX8_fee_5 rfl (lv_at hl 0 rfl) ?_
  refine lv_iload_n hx hb dX8_fee_6 rfl (lv_at hl 1 rfl) ?_
  refine Wr.callV (rest := []) (c_X8_noPresentation l G hD x hin9) yk_X8_noPresentation E km_X8_216 dX8_fee_7 hG (hE.S hS hD.efa) hP (At.recv hG hP.1 rfl) rfl rfl hl.1 ⟨Nat.le_of_ble_eq_true rfl, Nat.le_of_ble_eq_true rfl⟩ ⟨Nat.le_of_ble_eq_true rfl, Nat.le_of_ble_eq_true rfl⟩ (Nat.le_of_ble_eq_true rfl) hS (fun _ h9 => h9) (fun v9 H locs hq hz9 hfr9 hS => ?_)
  obtain ⟨rfl, hP⟩ := hq
  refine lv_if_eq (tgt := 15) hx hb dX8_fee_10 (by decide) (fun c_10 => ?_) (fun c_10 => ?_)
  · refine lv_aload_n hx hb dX8_fee_15 rfl (lv_at hl 0 rfl) ?_
    refine gf_X8_17 (v := .ref (B 2)) E hG hP.1 rfl dX8_fee_16 ?_
    refine lv_iconst (v := 4) hx hb dX8_fee_19 rfl ?_
    refine g_ild 4 E hG hP.2.2.1 rfl (by omega) (by decide) dX8_fee_20 ?_
    refine lv_if_ne (tgt := 40) hx hb dX8_fee_21 (by decide) (fun c_21 => ?_) (fun c_21 => ?_)
    · refine lv_iconst (v := 0) hx hb dX8_fee_40 rfl ?_
      refine lv_ci (y := nI 0) (ixq rfl) ?_
      refine lv_istore_n (lv' := [(2, .int (nI 0)), (0, .ref (B 0)), (1, .int x)]) hx hb dX8_fee_41 rfl hl (by decide) rfl (fun ls hl => ?_)
      refine lv_iconst (v := 0) hx hb dX8_fee_42 rfl ?_
      refine lv_ci (y := nI 0) (ixq rfl) ?_
      refine lv_istore_n (lv' := [(3, .int (nI 0)), (2, .int (nI 0)), (0, .ref (B 0)), (1, .int x)]) hx hb dX8_fee_43 rfl hl (by decide) rfl (fun ls hl => ?_)
      have loop : ∀ (L1 : List Int32) (i h : Nat) (F : Nat → Int32) (sk : Nat → Int64), i + (exL L1).length = (exL L).length → (∀ j, j < (exL L1).length → da (298 + (i + j)) = (exL L1).getD j 0) → (∀ s ∈ L1, (-7) ≤ s ∧ s ≤ 9999) → okR L1 h = some 1 → h ≤ 11 → fR (da (pP k + 2)) (da 3 - da (pP k + 1)) (nI (bits 8 fa)) L1 F h 0 = fR (da (pP k + 2)) (da 3 - da (pP k + 1)) (nI (bits 8 fa)) L (fun _ => 0) 0 0 → (∀ j, j < h → sk j = (F j).toInt64 ∧ B8 (F j)) → ∀ (H : Heap) (locs : List Loc), MW G B (fm 0 bl tl ps er ea eo ud ns ne se) bf da dr hi sk H → va_S (MA B) s.heap H locs → ∀ ls : Array Slot, lv_has ls 5 [(3, .int (nI i)), (2, .int (nI h)), (0, .ref (B 0)), (1, .int x)] → W p l e { frames := 2, cells := 0, slots := 0, locals := 45 } s m ([.ref (B 0), .int x] : List Value).toArray below meth c H locs 0 0 (WQ below ([.ref (B 0), .int x] : List Value).toArray s 0 0 (MA B) (fun v9 H9 => v9 = some (.int (feeV (da (pP k + 2)) (da 3 - da (pP k + 1)) (nI (bits 8 fa)) L)) ∧ ∃ sk9 : Nat → Int64, MW G B (fm 0 bl tl ps er ea eo ud ns ne se) bf da dr hi sk9 H9)) (F0 m 44 ls []) := by
        intro L1
        induction L1 with
        | nil =>
          intro i h F sk z1 z2 z3 z4 z5 z6 z7 H locs hP hS ls hl
          have z1 : i + 0 = (exL L).length := z1
          have z4 : some h = some 1 := z4
          have e1 : h = 1 := Option.some.inj z4
          have z6 : F 0 = fR (da (pP k + 2)) (da 3 - da (pP k + 1)) (nI (bits 8 fa)) L (fun _ => 0) 0 0 := z6
          have z8 := (z7 0 (by omega)).1
          refine lv_iload_n hx hb dX8_fee_44 rfl (lv_at hl 0 rfl) ?_
          refine lv_aload_n hx hb dX8_fee_45 rfl (lv_at hl 2 rfl) ?_
          refine gf_X8_17 (v := .ref (B 2)) E hG hP.1 rfl dX8_fee_46 ?_
          refine lv_iconst (v := 5) hx hb dX8_fee_49 rfl ?_
          refine g_ild 5 E hG hP.2.2.1 rfl (by omega) (by decide) dX8_fee_50 ?_
          refine lv_icmp_ge (tgt := 158) hx hb dX8_fee_51 (by decide) (fun c_51 => ?_) (fun c_51 => ?_)
          · refine lv_aload_n hx hb dX8_fee_158 rfl (lv_at hl 2 rfl) ?_
            refine gf_X8_28 (v := .ref (B 5)) E hG hP.1 rfl dX8_fee_159 ?_
            refine lv_iconst (v := 0) hx hb dX8_fee_162 rfl ?_
            refine g_lld 0 E hG hP.2.2.2.2.2.1 rfl (by omega) (by decide) dX8_fee_163 ?_
            refine lv_lconst (v := 0) hx hb dX8_fee_164 rfl ?_
            refine W.lcmp hx hb dX8_fee_165 ?_
            refine lv_if_ge (tgt := 173) hx hb dX8_fee_166 (by decide) (fun c_166 => ?_) (fun c_166 => ?_)
            · refine lv_aload_n hx hb dX8_fee_173 rfl (lv_at hl 2 rfl) ?_
              refine gf_X8_28 (v := .ref (B 5)) E hG hP.1 rfl dX8_fee_174 ?_
              refine lv_iconst (v := 0) hx hb dX8_fee_177 rfl ?_
              refine g_lld 0 E hG hP.2.2.2.2.2.1 rfl (by omega) (by decide) dX8_fee_178 ?_
              refine lv_ldc2 (v := 999999) hx hb E.2.2.2.1 (E.2.2.2.2 _ kk_X8_240) dX8_fee_179 ?_
              refine W.lcmp hx hb dX8_fee_182 ?_
              refine lv_if_le (tgt := 191) hx hb dX8_fee_183 (by decide) (fun c_183 => ?_) (fun c_183 => ?_)
              · refine lv_aload_n hx hb dX8_fee_191 rfl (lv_at hl 2 rfl) ?_
                refine gf_X8_28 (v := .ref (B 5)) E hG hP.1 rfl dX8_fee_192 ?_
                refine lv_iconst (v := 0) hx hb dX8_fee_195 rfl ?_
                refine g_lld 0 E hG hP.2.2.2.2.2.1 rfl (by omega) (by decide) dX8_fee_196 ?_
                refine lv_l2i (v := (sk 0).toInt32) hx hb dX8_fee_197 rfl ?_
                exact wr_int E hr hk hS (by decide) (by decide) (⟨by rw [show feeV (da (pP k + 2)) (da 3 - da (pP k + 1)) (nI (bits 8 fa)) L = jmax 0 (jmin 999999 (F 0)) by unfold feeV; rw [z6], ← fee_out, ← z8]; simp only [c_166, c_183, ↓reduceIte], _, hP⟩) dX8_fee_198
              · refine lv_ldc (v := 999999) hx hb E.2.2.2.1 (E.2.2.2.2 _ kk_X8_129) dX8_fee_186 ?_
                refine lv_goto (tgt := 198) hx hb dX8_fee_188 (by decide) ?_
                exact wr_int E hr hk hS (by decide) (by decide) (⟨by rw [show feeV (da (pP k + 2)) (da 3 - da (pP k + 1)) (nI (bits 8 fa)) L = jmax 0 (jmin 999999 (F 0)) by unfold feeV; rw [z6], ← fee_out, ← z8]; simp only [c_166, c_183, ↓reduceIte], _, hP⟩) dX8_fee_198
            · refine lv_iconst (v := 0) hx hb dX8_fee_169 rfl ?_
              refine lv_goto (tgt := 198) hx hb dX8_fee_170 (by decide) ?_
              exact wr_int E hr hk hS (by decide) (by decide) (⟨by rw [show feeV (da (pP k + 2)) (da 3 - da (pP k + 1)) (nI (bits 8 fa)) L = jmax 0 (jmin 999999 (F 0)) by unfold feeV; rw [z6], ← fee_out, ← z8]; simp only [c_166, ↓reduceIte], _, hP⟩) dX8_fee_198
          · exact absurd ((nLE (x := da 5) (y := nI i) (a := (exL L).length) (b := i) hF.1 rfl (by omega) (by omega)).mpr (by omega)) c_51
        | cons s9 L1 ih =>
          intro i h F sk z1 z2 z3 z4 z5 z6 z7 H locs hP hS ls hl
          have z8 := z3 s9 (List.mem_cons_self ..)
          have w3 : ∀ s ∈ L1, (-7) ≤ s ∧ s ≤ 9999 := fun s hs => z3 s (List.mem_cons_of_mem _ hs)
          rcases step_c z8.1 with e0 | e0 | e0 | e0 | e0 | e0 | e0 | e0
          · rw [exL_l e0] at z1 z2
            have c9 : ¬ s9 ≤ (-4) := fun z => absurd (Int32.le_trans e0 z) (by decide)
            have z1 : i + ((exL L1).length + 1 + 1) = (exL L).length := z1
            obtain ⟨y1, y2, y3⟩ := cd2 z2
            obtain ⟨z9, z10⟩ := okR_o c9 z4
            rw [fR_o c9] at z6
            refine lv_iload_n hx hb dX8_fee_44 rfl (lv_at hl 0 rfl) ?_
            refine lv_aload_n hx hb dX8_fee_45 rfl (lv_at hl 2 rfl) ?_
            refine gf_X8_17 (v := .ref (B 2)) E hG hP.1 rfl dX8_fee_46 ?_
            refine lv_iconst (v := 5) hx hb dX8_fee_49 rfl ?_
            refine g_ild 5 E hG hP.2.2.1 rfl (by omega) (by decide) dX8_fee_50 ?_
            refine lv_icmp_ge (tgt := 158) hx hb dX8_fee_51 (by decide) (fun c_51 => ?_) (fun c_51 => ?_)
            · exact absurd ((nLE (x := da 5) (y := nI i) (a := (exL L).length) (b := i) hF.1 rfl (by omega) (by omega)).mp c_51) (by omega)
            refine lv_aload_n hx hb dX8_fee_54 rfl (lv_at hl 2 rfl) ?_
            refine gf_X8_17 (v := .ref (B 2)) E hG hP.1 rfl dX8_fee_55 ?_
            refine lv_sipush (v := 298) hx hb dX8_fee_58 rfl ?_
            refine lv_iload_n hx hb dX8_fee_61 rfl (lv_at hl 0 rfl) ?_
            refine lv_iadd hx hb dX8_fee_62 ?_
            refine g_ild (298 + i) E hG hP.2.2.1 (ixq (nI_ad rfl rfl)) (by omega) (by decide) dX8_fee_63 ?_
            refine lv_ci (y := 0) (y1) ?_
            refine lv_istore (lv' := [(4, .int 0), (3, .int (nI i)), (2, .int (nI h)), (0, .ref (B 0)), (1, .int x)]) hx hb dX8_fee_64 hl (by decide) rfl (fun ls hl => ?_)
            refine lv_iload hx hb dX8_fee_66 (lv_at hl 0 rfl) ?_
            refine lv_iconst (v := 1) hx hb dX8_fee_68 rfl ?_
            refine lv_icmp_gt (tgt := 122) hx hb dX8_fee_69 (by decide) (fun c_69 => ?_) (fun c_69 => ?_)
            · exact absurd c_69 (by decide)
            · refine lv_iinc (v := (nI (i + 1))) (lv' := [(3, .int (nI (i + 1))), (4, .int 0), (2, .int (nI h)), (0, .ref (B 0)), (1, .int x)]) hx hb dX8_fee_72 hl (k := 1) rfl (nI_ad rfl rfl) (by decide) rfl (fun ls hl => ?_)
              refine lv_aload_n hx hb dX8_fee_75 rfl (lv_at hl 3 rfl) ?_
              refine gf_X8_28 (v := .ref (B 5)) E hG hP.1 rfl dX8_fee_76 ?_
              refine lv_iload_n hx hb dX8_fee_79 rfl (lv_at hl 2 rfl) ?_
              refine lv_iload hx hb dX8_fee_80 (lv_at hl 1 rfl) ?_
              refine lv_if_ne (tgt := 99) hx hb dX8_fee_82 (by decide) (fun c_82 => ?_) (fun c_82 => ?_)
              · exact absurd c_82 (by decide)
              · refine lv_aload_n hx hb dX8_fee_85 rfl (lv_at hl 3 rfl) ?_
                refine gf_X8_17 (v := .ref (B 2)) E hG hP.1 rfl dX8_fee_86 ?_
                refine lv_sipush (v := 298) hx hb dX8_fee_89 rfl ?_
                refine lv_iload_n hx hb dX8_fee_92 rfl (lv_at hl 0 rfl) ?_
                refine lv_iadd hx hb dX8_fee_93 ?_
                refine g_ild (298 + i + 1) E hG hP.2.2.1 (ixq (nI_ad rfl rfl)) (by omega) (by decide) dX8_fee_94 ?_
                refine lv_ci (y := s9) y2 ?_
                refine lv_i2l (v := s9.toInt64) hx hb dX8_fee_95 rfl ?_
                refine lv_goto (tgt := 115) hx hb dX8_fee_96 (by decide) ?_
                refine g_lst h E hG hP.2.2.2.2.2.1 rfl (by omega) (by decide) hS ⟨5, by decide, rfl⟩ dX8_fee_115 (fun H locs ho hz oq hS => ?_)
                have hP : MW G B (fm 0 bl tl ps er ea eo ud ns ne se) bf da dr hi (vp_updL sk h s9.toInt64) H := hP.setK hD ho oq
                refine lv_iinc (v := (nI (h + 1))) (lv' := [(2, .int (nI (h + 1))), (3, .int (nI (i + 1))), (4, .int 0), (0, .ref (B 0)), (1, .int x)]) hx hb dX8_fee_116 hl (k := 2) rfl (nI_ad rfl rfl) (by decide) rfl (fun ls hl => ?_)
                refine lv_goto (tgt := 152) hx hb dX8_fee_119 (by decide) ?_
                refine lv_iinc (v := (nI (i + 1 + 1))) (lv' := [(3, .int (nI (i + 1 + 1))), (2, .int (nI (h + 1))), (4, .int 0), (0, .ref (B 0)), (1, .int x)]) hx hb dX8_fee_152 hl (k := 1) rfl (nI_ad rfl rfl) (by decide) rfl (fun ls hl => ?_)
                refine lv_goto (tgt := 44) hx hb dX8_fee_155 (by decide) ?_
                exact ih (i + 2) (h + 1) (upd F h (opV (da (pP k + 2)) (da 3 - da (pP k + 1)) (nI (bits 8 fa)) s9)) _ (by omega) y3 w3 z10 (by omega) z6 (rel_g (fun j h1 h2 => z7 j (by omega)) (by rw [show opV (da (pP k + 2)) (da 3 - da (pP k + 1)) (nI (bits 8 fa)) s9 = s9 by unfold opV; rw [if_neg (fun z => by rw [z] at e0; exact absurd e0 (by decide)), if_neg (fun z => by rw [z] at e0; exact absurd e0 (by decide)), if_neg (fun z => by rw [z] at e0; exact absurd e0 (by decide))]]; exact lit_b e0 z8.2) (by rw [show opV (da (pP k + 2)) (da 3 - da (pP k + 1)) (nI (bits 8 fa)) s9 = s9 by unfold opV; rw [if_neg (fun z => by rw [z] at e0; exact absurd e0 (by decide)), if_neg (fun z => by rw [z] at e0; exact absurd e0 (by decide)), if_neg (fun z => by rw [z] at e0; exact absurd e0 (by decide))]])) H locs hP hS ls (lv_sub hl [0, 1, 3, 4] rfl)
          · subst e0
            rw [show exL ((-1) :: L1) = 1 :: 0 :: exL L1 from rfl] at z1 z2
            have c9 : ¬ ((-1) : Int32) ≤ (-4) := by decide
            have z1 : i + ((exL L1).length + 1 + 1) = (exL L).length := z1
            obtain ⟨y1, y2, y3⟩ := cd2 z2
            obtain ⟨z9, z10⟩ := okR_o c9 z4
            rw [fR_o c9] at z6
            refine lv_iload_n hx hb dX8_fee_44 rfl (lv_at hl 0 rfl) ?_
            refine lv_aload_n hx hb dX8_fee_45 rfl (lv_at hl 2 rfl) ?_
            refine gf_X8_17 (v := .ref (B 2)) E hG hP.1 rfl dX8_fee_46 ?_
            refine lv_iconst (v := 5) hx hb dX8_fee_49 rfl ?_
            refine g_ild 5 E hG hP.2.2.1 rfl (by omega) (by decide) dX8_fee_50 ?_
            refine lv_icmp_ge (tgt := 158) hx hb dX8_fee_51 (by decide) (fun c_51 => ?_) (fun c_51 => ?_)
            · exact absurd ((nLE (x := da 5) (y := nI i) (a := (exL L).length) (b := i) hF.1 rfl (by omega) (by omega)).mp c_51) (by omega)
            refine lv_aload_n hx hb dX8_fee_54 rfl (lv_at hl 2 rfl) ?_
            refine gf_X8_17 (v := .ref (B 2)) E hG hP.1 rfl dX8_fee_55 ?_
            refine lv_sipush (v := 298) hx hb dX8_fee_58 rfl ?_
            refine lv_iload_n hx hb dX8_fee_61 rfl (lv_at hl 0 rfl) ?_
            refine lv_iadd hx hb dX8_fee_62 ?_
            refine g_ild (298 + i) E hG hP.2.2.1 (ixq (nI_ad rfl rfl)) (by omega) (by decide) dX8_fee_63 ?_
            refine lv_ci (y := 1) (y1) ?_
            refine lv_istore (lv' := [(4, .int 1), (3, .int (nI i)), (2, .int (nI h)), (0, .ref (B 0)), (1, .int x)]) hx hb dX8_fee_64 hl (by decide) rfl (fun ls hl => ?_)
            refine lv_iload hx hb dX8_fee_66 (lv_at hl 0 rfl) ?_
            refine lv_iconst (v := 1) hx hb dX8_fee_68 rfl ?_
            refine lv_icmp_gt (tgt := 122) hx hb dX8_fee_69 (by decide) (fun c_69 => ?_) (fun c_69 => ?_)
            · exact absurd c_69 (by decide)
            · refine lv_iinc (v := (nI (i + 1))) (lv' := [(3, .int (nI (i + 1))), (4, .int 1), (2, .int (nI h)), (0, .ref (B 0)), (1, .int x)]) hx hb dX8_fee_72 hl (k := 1) rfl (nI_ad rfl rfl) (by decide) rfl (fun ls hl => ?_)
              refine lv_aload_n hx hb dX8_fee_75 rfl (lv_at hl 3 rfl) ?_
              refine gf_X8_28 (v := .ref (B 5)) E hG hP.1 rfl dX8_fee_76 ?_
              refine lv_iload_n hx hb dX8_fee_79 rfl (lv_at hl 2 rfl) ?_
              refine lv_iload hx hb dX8_fee_80 (lv_at hl 1 rfl) ?_
              refine lv_if_ne (tgt := 99) hx hb dX8_fee_82 (by decide) (fun c_82 => ?_) (fun c_82 => ?_)
              · refine lv_aload_n hx hb dX8_fee_99 rfl (lv_at hl 3 rfl) ?_
                refine lv_iload_n hx hb dX8_fee_100 rfl (lv_at hl 4 rfl) ?_
                refine lv_aload_n hx hb dX8_fee_101 rfl (lv_at hl 3 rfl) ?_
                refine gf_X8_17 (v := .ref (B 2)) E hG hP.1 rfl dX8_fee_102 ?_
                refine lv_sipush (v := 298) hx hb dX8_fee_105 rfl ?_
                refine lv_iload_n hx hb dX8_fee_108 rfl (lv_at hl 0 rfl) ?_
                refine lv_iadd hx hb dX8_fee_109 ?_
                refine g_ild (298 + i + 1) E hG hP.2.2.1 (ixq (nI_ad rfl rfl)) (by omega) (by decide) dX8_fee_110 ?_
                refine lv_ci (y := 0) y2 ?_
                refine Rd.callV (rest := [.int (nI h), .ref (B 5)]) (c_X8_variable l G x 0 k fa ex (by omega) hf1 hf2) yk_X8_variable E km_X8_233 dX8_fee_111 hG (hE.S hS hD.efa) hP (At.recv hG hP.1 rfl) rfl rfl hl.1 ⟨Nat.le_of_ble_eq_true rfl, Nat.le_of_ble_eq_true rfl⟩ ⟨Nat.zero_le _, Nat.zero_le _⟩ (Nat.le_of_ble_eq_true rfl) ?_
                refine lv_ci (y := (da (pP k + 2))) (by simp) ?_
                refine lv_i2l (v := (da (pP k + 2)).toInt64) hx hb dX8_fee_114 rfl ?_
                refine g_lst h E hG hP.2.2.2.2.2.1 rfl (by omega) (by decide) hS ⟨5, by decide, rfl⟩ dX8_fee_115 (fun H locs ho hz oq hS => ?_)
                have hP : MW G B (fm 0 bl tl ps er ea eo ud ns ne se) bf da dr hi (vp_updL sk h ((da (pP k + 2)).toInt64)) H := hP.setK hD ho oq
                refine lv_iinc (v := (nI (h + 1))) (lv' := [(2, .int (nI (h + 1))), (3, .int (nI (i + 1))), (4, .int 1), (0, .ref (B 0)), (1, .int x)]) hx hb dX8_fee_116 hl (k := 2) rfl (nI_ad rfl rfl) (by decide) rfl (fun ls hl => ?_)
                refine lv_goto (tgt := 152) hx hb dX8_fee_119 (by decide) ?_
                refine lv_iinc (v := (nI (i + 1 + 1))) (lv' := [(3, .int (nI (i + 1 + 1))), (2, .int (nI (h + 1))), (4, .int 1), (0, .ref (B 0)), (1, .int x)]) hx hb dX8_fee_152 hl (k := 1) rfl (nI_ad rfl rfl) (by decide) rfl (fun ls hl => ?_)
                refine lv_goto (tgt := 44) hx hb dX8_fee_155 (by decide) ?_
                exact ih (i + 2) (h + 1) (upd F h (opV (da (pP k + 2)) (da 3 - da (pP k + 1)) (nI (bits 8 fa)) (-1))) _ (by omega) y3 w3 z10 (by omega) z6 (rel_g (fun j h1 h2 => z7 j (by omega)) hv0 rfl) H locs hP hS ls (lv_sub hl [0, 1, 3, 4] rfl)
              · exact absurd c_82 (by decide)
          · subst e0
            rw [show exL ((-2) :: L1) = 1 :: 1 :: exL L1 from rfl] at z1 z2
            have c9 : ¬ ((-2) : Int32) ≤ (-4) := by decide
            have z1 : i + ((exL L1).length + 1 + 1) = (exL L).length := z1
            obtain ⟨y1, y2, y3⟩ := cd2 z2
            obtain ⟨z9, z10⟩ := okR_o c9 z4
            rw [fR_o c9] at z6
            refine lv_iload_n hx hb dX8_fee_44 rfl (lv_at hl 0 rfl) ?_
            refine lv_aload_n hx hb dX8_fee_45 rfl (lv_at hl 2 rfl) ?_
            refine gf_X8_17 (v := .ref (B 2)) E hG hP.1 rfl dX8_fee_46 ?_
            refine lv_iconst (v := 5) hx hb dX8_fee_49 rfl ?_
            refine g_ild 5 E hG hP.2.2.1 rfl (by omega) (by decide) dX8_fee_50 ?_
            refine lv_icmp_ge (tgt := 158) hx hb dX8_fee_51 (by decide) (fun c_51 => ?_) (fun c_51 => ?_)
            · exact absurd ((nLE (x := da 5) (y := nI i) (a := (exL L).length) (b := i) hF.1 rfl (by omega) (by omega)).mp c_51) (by omega)
            refine lv_aload_n hx hb dX8_fee_54 rfl (lv_at hl 2 rfl) ?_
            refine gf_X8_17 (v := .ref (B 2)) E hG hP.1 rfl dX8_fee_55 ?_
            refine lv_sipush (v := 298) hx hb dX8_fee_58 rfl ?_
            refine lv_iload_n hx hb dX8_fee_61 rfl (lv_at hl 0 rfl) ?_
            refine lv_iadd hx hb dX8_fee_62 ?_
            refine g_ild (298 + i) E hG hP.2.2.1 (ixq (nI_ad rfl rfl)) (by omega) (by decide) dX8_fee_63 ?_
            refine lv_ci (y := 1) (y1) ?_
            refine lv_istore (lv' := [(4, .int 1), (3, .int (nI i)), (2, .int (nI h)), (0, .ref (B 0)), (1, .int x)]) hx hb dX8_fee_64 hl (by decide) rfl (fun ls hl => ?_)
            refine lv_iload hx hb dX8_fee_66 (lv_at hl 0 rfl) ?_
            refine lv_iconst (v := 1) hx hb dX8_fee_68 rfl ?_
            refine lv_icmp_gt (tgt := 122) hx hb dX8_fee_69 (by decide) (fun c_69 => ?_) (fun c_69 => ?_)
            · exact absurd c_69 (by decide)
            · refine lv_iinc (v := (nI (i + 1))) (lv' := [(3, .int (nI (i + 1))), (4, .int 1), (2, .int (nI h)), (0, .ref (B 0)), (1, .int x)]) hx hb dX8_fee_72 hl (k := 1) rfl (nI_ad rfl rfl) (by decide) rfl (fun ls hl => ?_)
              refine lv_aload_n hx hb dX8_fee_75 rfl (lv_at hl 3 rfl) ?_
              refine gf_X8_28 (v := .ref (B 5)) E hG hP.1 rfl dX8_fee_76 ?_
              refine lv_iload_n hx hb dX8_fee_79 rfl (lv_at hl 2 rfl) ?_
              refine lv_iload hx hb dX8_fee_80 (lv_at hl 1 rfl) ?_
              refine lv_if_ne (tgt := 99) hx hb dX8_fee_82 (by decide) (fun c_82 => ?_) (fun c_82 => ?_)
              · refine lv_aload_n hx hb dX8_fee_99 rfl (lv_at hl 3 rfl) ?_
                refine lv_iload_n hx hb dX8_fee_100 rfl (lv_at hl 4 rfl) ?_
                refine lv_aload_n hx hb dX8_fee_101 rfl (lv_at hl 3 rfl) ?_
                refine gf_X8_17 (v := .ref (B 2)) E hG hP.1 rfl dX8_fee_102 ?_
                refine lv_sipush (v := 298) hx hb dX8_fee_105 rfl ?_
                refine lv_iload_n hx hb dX8_fee_108 rfl (lv_at hl 0 rfl) ?_
                refine lv_iadd hx hb dX8_fee_109 ?_
                refine g_ild (298 + i + 1) E hG hP.2.2.1 (ixq (nI_ad rfl rfl)) (by omega) (by decide) dX8_fee_110 ?_
                refine lv_ci (y := 1) y2 ?_
                refine Rd.callV (rest := [.int (nI h), .ref (B 5)]) (c_X8_variable l G x 1 k fa ex (by omega) hf1 hf2) yk_X8_variable E km_X8_233 dX8_fee_111 hG (hE.S hS hD.efa) hP (At.recv hG hP.1 rfl) rfl rfl hl.1 ⟨Nat.le_of_ble_eq_true rfl, Nat.le_of_ble_eq_true rfl⟩ ⟨Nat.zero_le _, Nat.zero_le _⟩ (Nat.le_of_ble_eq_true rfl) ?_
                refine lv_ci (y := (da 3 - da (pP k + 1))) (by simp) ?_
                refine lv_i2l (v := (da 3 - da (pP k + 1)).toInt64) hx hb dX8_fee_114 rfl ?_
                refine g_lst h E hG hP.2.2.2.2.2.1 rfl (by omega) (by decide) hS ⟨5, by decide, rfl⟩ dX8_fee_115 (fun H locs ho hz oq hS => ?_)
                have hP : MW G B (fm 0 bl tl ps er ea eo ud ns ne se) bf da dr hi (vp_updL sk h ((da 3 - da (pP k + 1)).toInt64)) H := hP.setK hD ho oq
                refine lv_iinc (v := (nI (h + 1))) (lv' := [(2, .int (nI (h + 1))), (3, .int (nI (i + 1))), (4, .int 1), (0, .ref (B 0)), (1, .int x)]) hx hb dX8_fee_116 hl (k := 2) rfl (nI_ad rfl rfl) (by decide) rfl (fun ls hl => ?_)
                refine lv_goto (tgt := 152) hx hb dX8_fee_119 (by decide) ?_
                refine lv_iinc (v := (nI (i + 1 + 1))) (lv' := [(3, .int (nI (i + 1 + 1))), (2, .int (nI (h + 1))), (4, .int 1), (0, .ref (B 0)), (1, .int x)]) hx hb dX8_fee_152 hl (k := 1) rfl (nI_ad rfl rfl) (by decide) rfl (fun ls hl => ?_)
                refine lv_goto (tgt := 44) hx hb dX8_fee_155 (by decide) ?_
                exact ih (i + 2) (h + 1) (upd F h (opV (da (pP k + 2)) (da 3 - da (pP k + 1)) (nI (bits 8 fa)) (-2))) _ (by omega) y3 w3 z10 (by omega) z6 (rel_g (fun j h1 h2 => z7 j (by omega)) hv1 rfl) H locs hP hS ls (lv_sub hl [0, 1, 3, 4] rfl)
              · exact absurd c_82 (by decide)
          · subst e0
            rw [show exL ((-3) :: L1) = 1 :: 2 :: exL L1 from rfl] at z1 z2
            have c9 : ¬ ((-3) : Int32) ≤ (-4) := by decide
            have z1 : i + ((exL L1).length + 1 + 1) = (exL L).length := z1
            obtain ⟨y1, y2, y3⟩ := cd2 z2
            obtain ⟨z9, z10⟩ := okR_o c9 z4
            rw [fR_o c9] at z6
            refine lv_iload_n hx hb dX8_fee_44 rfl (lv_at hl 0 rfl) ?_
            refine lv_aload_n hx hb dX8_fee_45 rfl (lv_at hl 2 rfl) ?_
            refine gf_X8_17 (v := .ref (B 2)) E hG hP.1 rfl dX8_fee_46 ?_
            refine lv_iconst (v := 5) hx hb dX8_fee_49 rfl ?_
            refine g_ild 5 E hG hP.2.2.1 rfl (by omega) (by decide) dX8_fee_50 ?_
            refine lv_icmp_ge (tgt := 158) hx hb dX8_fee_51 (by decide) (fun c_51 => ?_) (fun c_51 => ?_)
            · exact absurd ((nLE (x := da 5) (y := nI i) (a := (exL L).length) (b := i) hF.1 rfl (by omega) (by omega)).mp c_51) (by omega)
            refine lv_aload_n hx hb dX8_fee_54 rfl (lv_at hl 2 rfl) ?_
            refine gf_X8_17 (v := .ref (B 2)) E hG hP.1 rfl dX8_fee_55 ?_
            refine lv_sipush (v := 298) hx hb dX8_fee_58 rfl ?_
            refine lv_iload_n hx hb dX8_fee_61 rfl (lv_at hl 0 rfl) ?_
            refine lv_iadd hx hb dX8_fee_62 ?_
            refine g_ild (298 + i) E hG hP.2.2.1 (ixq (nI_ad rfl rfl)) (by omega) (by decide) dX8_fee_63 ?_
            refine lv_ci (y := 1) (y1) ?_
            refine lv_istore (lv' := [(4, .int 1), (3, .int (nI i)), (2, .int (nI h)), (0, .ref (B 0)), (1, .int x)]) hx hb dX8_fee_64 hl (by decide) rfl (fun ls hl => ?_)
            refine lv_iload hx hb dX8_fee_66 (lv_at hl 0 rfl) ?_
            refine lv_iconst (v := 1) hx hb dX8_fee_68 rfl ?_
            refine lv_icmp_gt (tgt := 122) hx hb dX8_fee_69 (by decide) (fun c_69 => ?_) (fun c_69 => ?_)
            · exact absurd c_69 (by decide)
            · refine lv_iinc (v := (nI (i + 1))) (lv' := [(3, .int (nI (i + 1))), (4, .int 1), (2, .int (nI h)), (0, .ref (B 0)), (1, .int x)]) hx hb dX8_fee_72 hl (k := 1) rfl (nI_ad rfl rfl) (by decide) rfl (fun ls hl => ?_)
              refine lv_aload_n hx hb dX8_fee_75 rfl (lv_at hl 3 rfl) ?_
              refine gf_X8_28 (v := .ref (B 5)) E hG hP.1 rfl dX8_fee_76 ?_
              refine lv_iload_n hx hb dX8_fee_79 rfl (lv_at hl 2 rfl) ?_
              refine lv_iload hx hb dX8_fee_80 (lv_at hl 1 rfl) ?_
              refine lv_if_ne (tgt := 99) hx hb dX8_fee_82 (by decide) (fun c_82 => ?_) (fun c_82 => ?_)
              · refine lv_aload_n hx hb dX8_fee_99 rfl (lv_at hl 3 rfl) ?_
                refine lv_iload_n hx hb dX8_fee_100 rfl (lv_at hl 4 rfl) ?_
                refine lv_aload_n hx hb dX8_fee_101 rfl (lv_at hl 3 rfl) ?_
                refine gf_X8_17 (v := .ref (B 2)) E hG hP.1 rfl dX8_fee_102 ?_
                refine lv_sipush (v := 298) hx hb dX8_fee_105 rfl ?_
                refine lv_iload_n hx hb dX8_fee_108 rfl (lv_at hl 0 rfl) ?_
                refine lv_iadd hx hb dX8_fee_109 ?_
                refine g_ild (298 + i + 1) E hG hP.2.2.1 (ixq (nI_ad rfl rfl)) (by omega) (by decide) dX8_fee_110 ?_
                refine lv_ci (y := 2) y2 ?_
                refine Rd.callV (rest := [.int (nI h), .ref (B 5)]) (c_X8_variable l G x 2 k fa ex (by omega) hf1 hf2) yk_X8_variable E km_X8_233 dX8_fee_111 hG (hE.S hS hD.efa) hP (At.recv hG hP.1 rfl) rfl rfl hl.1 ⟨Nat.le_of_ble_eq_true rfl, Nat.le_of_ble_eq_true rfl⟩ ⟨Nat.zero_le _, Nat.zero_le _⟩ (Nat.le_of_ble_eq_true rfl) ?_
                refine lv_ci (y := (nI (bits 8 fa))) (by simp) ?_
                refine lv_i2l (v := (nI (bits 8 fa)).toInt64) hx hb dX8_fee_114 rfl ?_
                refine g_lst h E hG hP.2.2.2.2.2.1 rfl (by omega) (by decide) hS ⟨5, by decide, rfl⟩ dX8_fee_115 (fun H locs ho hz oq hS => ?_)
                have hP : MW G B (fm 0 bl tl ps er ea eo ud ns ne se) bf da dr hi (vp_updL sk h ((nI (bits 8 fa)).toInt64)) H := hP.setK hD ho oq
                refine lv_iinc (v := (nI (h + 1))) (lv' := [(2, .int (nI (h + 1))), (3, .int (nI (i + 1))), (4, .int 1), (0, .ref (B 0)), (1, .int x)]) hx hb dX8_fee_116 hl (k := 2) rfl (nI_ad rfl rfl) (by decide) rfl (fun ls hl => ?_)
                refine lv_goto (tgt := 152) hx hb dX8_fee_119 (by decide) ?_
                refine lv_iinc (v := (nI (i + 1 + 1))) (lv' := [(3, .int (nI (i + 1 + 1))), (2, .int (nI (h + 1))), (4, .int 1), (0, .ref (B 0)), (1, .int x)]) hx hb dX8_fee_152 hl (k := 1) rfl (nI_ad rfl rfl) (by decide) rfl (fun ls hl => ?_)
                refine lv_goto (tgt := 44) hx hb dX8_fee_155 (by decide) ?_
                exact ih (i + 2) (h + 1) (upd F h (opV (da (pP k + 2)) (da 3 - da (pP k + 1)) (nI (bits 8 fa)) (-3))) _ (by omega) y3 w3 z10 (by omega) z6 (rel_g (fun j h1 h2 => z7 j (by omega)) (bits_b hf2) rfl) H locs hP hS ls (lv_sub hl [0, 1, 3, 4] rfl)
              · exact absurd c_82 (by decide)
          · subst e0
            rw [show exL ((-4) :: L1) = 2 :: exL L1 from rfl] at z1 z2
            have c9 : (-4 : Int32) ≤ (-4) := by decide
            have z1 : i + ((exL L1).length + 1) = (exL L).length := z1
            obtain ⟨y1, y3⟩ := cd1 z2
            obtain ⟨z9, z10⟩ := okR_p c9 z4
            obtain ⟨h1, rfl⟩ : ∃ h1, h = h1 + 2 := ⟨h - 2, by omega⟩
            rw [fR_p c9] at z6
            refine lv_iload_n hx hb dX8_fee_44 rfl (lv_at hl 0 rfl) ?_
            refine lv_aload_n hx hb dX8_fee_45 rfl (lv_at hl 2 rfl) ?_
            refine gf_X8_17 (v := .ref (B 2)) E hG hP.1 rfl dX8_fee_46 ?_
            refine lv_iconst (v := 5) hx hb dX8_fee_49 rfl ?_
            refine g_ild 5 E hG hP.2.2.1 rfl (by omega) (by decide) dX8_fee_50 ?_
            refine lv_icmp_ge (tgt := 158) hx hb dX8_fee_51 (by decide) (fun c_51 => ?_) (fun c_51 => ?_)
            · exact absurd ((nLE (x := da 5) (y := nI i) (a := (exL L).length) (b := i) hF.1 rfl (by omega) (by omega)).mp c_51) (by omega)
            refine lv_aload_n hx hb dX8_fee_54 rfl (lv_at hl 2 rfl) ?_
            refine gf_X8_17 (v := .ref (B 2)) E hG hP.1 rfl dX8_fee_55 ?_
            refine lv_sipush (v := 298) hx hb dX8_fee_58 rfl ?_
            refine lv_iload_n hx hb dX8_fee_61 rfl (lv_at hl 0 rfl) ?_
            refine lv_iadd hx hb dX8_fee_62 ?_
            refine g_ild (298 + i) E hG hP.2.2.1 (ixq (nI_ad rfl rfl)) (by omega) (by decide) dX8_fee_63 ?_
            refine lv_ci (y := 2) (y1) ?_
            refine lv_istore (lv' := [(4, .int 2), (3, .int (nI i)), (2, .int (nI (h1 + 2))), (0, .ref (B 0)), (1, .int x)]) hx hb dX8_fee_64 hl (by decide) rfl (fun ls hl => ?_)
            refine lv_iload hx hb dX8_fee_66 (lv_at hl 0 rfl) ?_
            refine lv_iconst (v := 1) hx hb dX8_fee_68 rfl ?_
            refine lv_icmp_gt (tgt := 122) hx hb dX8_fee_69 (by decide) (fun c_69 => ?_) (fun c_69 => ?_)
            · refine lv_iinc (v := (nI (h1 + 1))) (lv' := [(2, .int (nI (h1 + 1))), (4, .int 2), (3, .int (nI i)), (0, .ref (B 0)), (1, .int x)]) hx hb dX8_fee_122 hl (k := 2) rfl (pk_m1 (h1 + 1)) (by decide) rfl (fun ls hl => ?_)
              refine lv_aload_n hx hb dX8_fee_125 rfl (lv_at hl 3 rfl) ?_
              refine gf_X8_28 (v := .ref (B 5)) E hG hP.1 rfl dX8_fee_126 ?_
              refine lv_iload_n hx hb dX8_fee_129 rfl (lv_at hl 0 rfl) ?_
              refine lv_iconst (v := 1) hx hb dX8_fee_130 rfl ?_
              refine lv_isub hx hb dX8_fee_131 ?_
              refine lv_iload hx hb dX8_fee_132 (lv_at hl 1 rfl) ?_
              refine lv_aload_n hx hb dX8_fee_134 rfl (lv_at hl 3 rfl) ?_
              refine gf_X8_28 (v := .ref (B 5)) E hG hP.1 rfl dX8_fee_135 ?_
              refine lv_iload_n hx hb dX8_fee_138 rfl (lv_at hl 0 rfl) ?_
              refine lv_iconst (v := 1) hx hb dX8_fee_139 rfl ?_
              refine lv_isub hx hb dX8_fee_140 ?_
              refine g_lld h1 E hG hP.2.2.2.2.2.1 (nI_pred h1) (by omega) (by decide) dX8_fee_141 ?_
              refine lv_aload_n hx hb dX8_fee_142 rfl (lv_at hl 3 rfl) ?_
              refine gf_X8_28 (v := .ref (B 5)) E hG hP.1 rfl dX8_fee_143 ?_
              refine lv_iload_n hx hb dX8_fee_146 rfl (lv_at hl 0 rfl) ?_
              refine g_lld (h1 + 1) E hG hP.2.2.2.2.2.1 rfl (by omega) (by decide) dX8_fee_147 ?_
              refine Rd.callS (rest := [.int ((nI (h1 + 1)) - 1), .ref (B 5)]) (c_X8_operate l G 2 (sk h1) (sk (h1 + 1))) yk_X8_operate E km_X8_236 dX8_fee_148 hG (hE.S hS hD.efa) trivial rfl rfl hl.1 ⟨Nat.le_of_ble_eq_true rfl, Nat.le_of_ble_eq_true rfl⟩ ⟨Nat.zero_le _, Nat.zero_le _⟩ (Nat.le_of_ble_eq_true rfl) ?_
              refine g_lst h1 E hG hP.2.2.2.2.2.1 (nI_pred h1) (by omega) (by decide) hS ⟨5, by decide, rfl⟩ dX8_fee_151 (fun H locs ho hz oq hS => ?_)
              have hP : MW G B (fm 0 bl tl ps er ea eo ud ns ne se) bf da dr hi (vp_updL sk h1 (operV 2 (sk h1) (sk (h1 + 1)))) H := hP.setK hD ho oq
              refine lv_iinc (v := (nI (i + 1))) (lv' := [(3, .int (nI (i + 1))), (2, .int (nI (h1 + 1))), (4, .int 2), (0, .ref (B 0)), (1, .int x)]) hx hb dX8_fee_152 hl (k := 2) rfl (nI_ad rfl rfl) (by decide) rfl (fun ls hl => ?_)
              refine lv_goto (tgt := 44) hx hb dX8_fee_155 (by decide) ?_
              exact ih (i + 1) (h1 + 1) _ _ (by omega) y3 w3 z10 (by omega) z6 (rel_g (fun j h1 h2 => z7 j (by omega)) (rsV_b _ _ _) (by rw [(z7 h1 (by omega)).1, (z7 (h1 + 1) (by omega)).1]; exact op_p _ _)) H locs hP hS ls (lv_sub hl [0, 1, 3, 4] rfl)
            · exact absurd c_69 (by decide)
          · subst e0
            rw [show exL ((-5) :: L1) = 3 :: exL L1 from rfl] at z1 z2
            have c9 : (-5 : Int32) ≤ (-4) := by decide
            have z1 : i + ((exL L1).length + 1) = (exL L).length := z1
            obtain ⟨y1, y3⟩ := cd1 z2
            obtain ⟨z9, z10⟩ := okR_p c9 z4
            obtain ⟨h1, rfl⟩ : ∃ h1, h = h1 + 2 := ⟨h - 2, by omega⟩
            rw [fR_p c9] at z6
            refine lv_iload_n hx hb dX8_fee_44 rfl (lv_at hl 0 rfl) ?_
            refine lv_aload_n hx hb dX8_fee_45 rfl (lv_at hl 2 rfl) ?_
            refine gf_X8_17 (v := .ref (B 2)) E hG hP.1 rfl dX8_fee_46 ?_
            refine lv_iconst (v := 5) hx hb dX8_fee_49 rfl ?_
            refine g_ild 5 E hG hP.2.2.1 rfl (by omega) (by decide) dX8_fee_50 ?_
            refine lv_icmp_ge (tgt := 158) hx hb dX8_fee_51 (by decide) (fun c_51 => ?_) (fun c_51 => ?_)
            · exact absurd ((nLE (x := da 5) (y := nI i) (a := (exL L).length) (b := i) hF.1 rfl (by omega) (by omega)).mp c_51) (by omega)
            refine lv_aload_n hx hb dX8_fee_54 rfl (lv_at hl 2 rfl) ?_
            refine gf_X8_17 (v := .ref (B 2)) E hG hP.1 rfl dX8_fee_55 ?_
            refine lv_sipush (v := 298) hx hb dX8_fee_58 rfl ?_
            refine lv_iload_n hx hb dX8_fee_61 rfl (lv_at hl 0 rfl) ?_
            refine lv_iadd hx hb dX8_fee_62 ?_
            refine g_ild (298 + i) E hG hP.2.2.1 (ixq (nI_ad rfl rfl)) (by omega) (by decide) dX8_fee_63 ?_
            refine lv_ci (y := 3) (y1) ?_
            refine lv_istore (lv' := [(4, .int 3), (3, .int (nI i)), (2, .int (nI (h1 + 2))), (0, .ref (B 0)), (1, .int x)]) hx hb dX8_fee_64 hl (by decide) rfl (fun ls hl => ?_)
            refine lv_iload hx hb dX8_fee_66 (lv_at hl 0 rfl) ?_
            refine lv_iconst (v := 1) hx hb dX8_fee_68 rfl ?_
            refine lv_icmp_gt (tgt := 122) hx hb dX8_fee_69 (by decide) (fun c_69 => ?_) (fun c_69 => ?_)
            · refine lv_iinc (v := (nI (h1 + 1))) (lv' := [(2, .int (nI (h1 + 1))), (4, .int 3), (3, .int (nI i)), (0, .ref (B 0)), (1, .int x)]) hx hb dX8_fee_122 hl (k := 2) rfl (pk_m1 (h1 + 1)) (by decide) rfl (fun ls hl => ?_)
              refine lv_aload_n hx hb dX8_fee_125 rfl (lv_at hl 3 rfl) ?_
              refine gf_X8_28 (v := .ref (B 5)) E hG hP.1 rfl dX8_fee_126 ?_
              refine lv_iload_n hx hb dX8_fee_129 rfl (lv_at hl 0 rfl) ?_
              refine lv_iconst (v := 1) hx hb dX8_fee_130 rfl ?_
              refine lv_isub hx hb dX8_fee_131 ?_
              refine lv_iload hx hb dX8_fee_132 (lv_at hl 1 rfl) ?_
              refine lv_aload_n hx hb dX8_fee_134 rfl (lv_at hl 3 rfl) ?_
              refine gf_X8_28 (v := .ref (B 5)) E hG hP.1 rfl dX8_fee_135 ?_
              refine lv_iload_n hx hb dX8_fee_138 rfl (lv_at hl 0 rfl) ?_
              refine lv_iconst (v := 1) hx hb dX8_fee_139 rfl ?_
              refine lv_isub hx hb dX8_fee_140 ?_
              refine g_lld h1 E hG hP.2.2.2.2.2.1 (nI_pred h1) (by omega) (by decide) dX8_fee_141 ?_
              refine lv_aload_n hx hb dX8_fee_142 rfl (lv_at hl 3 rfl) ?_
              refine gf_X8_28 (v := .ref (B 5)) E hG hP.1 rfl dX8_fee_143 ?_
              refine lv_iload_n hx hb dX8_fee_146 rfl (lv_at hl 0 rfl) ?_
              refine g_lld (h1 + 1) E hG hP.2.2.2.2.2.1 rfl (by omega) (by decide) dX8_fee_147 ?_
              refine Rd.callS (rest := [.int ((nI (h1 + 1)) - 1), .ref (B 5)]) (c_X8_operate l G 3 (sk h1) (sk (h1 + 1))) yk_X8_operate E km_X8_236 dX8_fee_148 hG (hE.S hS hD.efa) trivial rfl rfl hl.1 ⟨Nat.le_of_ble_eq_true rfl, Nat.le_of_ble_eq_true rfl⟩ ⟨Nat.zero_le _, Nat.zero_le _⟩ (Nat.le_of_ble_eq_true rfl) ?_
              refine g_lst h1 E hG hP.2.2.2.2.2.1 (nI_pred h1) (by omega) (by decide) hS ⟨5, by decide, rfl⟩ dX8_fee_151 (fun H locs ho hz oq hS => ?_)
              have hP : MW G B (fm 0 bl tl ps er ea eo ud ns ne se) bf da dr hi (vp_updL sk h1 (operV 3 (sk h1) (sk (h1 + 1)))) H := hP.setK hD ho oq
              refine lv_iinc (v := (nI (i + 1))) (lv' := [(3, .int (nI (i + 1))), (2, .int (nI (h1 + 1))), (4, .int 3), (0, .ref (B 0)), (1, .int x)]) hx hb dX8_fee_152 hl (k := 2) rfl (nI_ad rfl rfl) (by decide) rfl (fun ls hl => ?_)
              refine lv_goto (tgt := 44) hx hb dX8_fee_155 (by decide) ?_
              exact ih (i + 1) (h1 + 1) _ _ (by omega) y3 w3 z10 (by omega) z6 (rel_g (fun j h1 h2 => z7 j (by omega)) (rsV_b _ _ _) (by rw [(z7 h1 (by omega)).1, (z7 (h1 + 1) (by omega)).1]; exact op_m _ _)) H locs hP hS ls (lv_sub hl [0, 1, 3, 4] rfl)
            · exact absurd c_69 (by decide)
          · subst e0
            rw [show exL ((-6) :: L1) = 4 :: exL L1 from rfl] at z1 z2
            have c9 : (-6 : Int32) ≤ (-4) := by decide
            have z1 : i + ((exL L1).length + 1) = (exL L).length := z1
            obtain ⟨y1, y3⟩ := cd1 z2
            obtain ⟨z9, z10⟩ := okR_p c9 z4
            obtain ⟨h1, rfl⟩ : ∃ h1, h = h1 + 2 := ⟨h - 2, by omega⟩
            rw [fR_p c9] at z6
            refine lv_iload_n hx hb dX8_fee_44 rfl (lv_at hl 0 rfl) ?_
            refine lv_aload_n hx hb dX8_fee_45 rfl (lv_at hl 2 rfl) ?_
            refine gf_X8_17 (v := .ref (B 2)) E hG hP.1 rfl dX8_fee_46 ?_
            refine lv_iconst (v := 5) hx hb dX8_fee_49 rfl ?_
            refine g_ild 5 E hG hP.2.2.1 rfl (by omega) (by decide) dX8_fee_50 ?_
            refine lv_icmp_ge (tgt := 158) hx hb dX8_fee_51 (by decide) (fun c_51 => ?_) (fun c_51 => ?_)
            · exact absurd ((nLE (x := da 5) (y := nI i) (a := (exL L).length) (b := i) hF.1 rfl (by omega) (by omega)).mp c_51) (by omega)
            refine lv_aload_n hx hb dX8_fee_54 rfl (lv_at hl 2 rfl) ?_
            refine gf_X8_17 (v := .ref (B 2)) E hG hP.1 rfl dX8_fee_55 ?_
            refine lv_sipush (v := 298) hx hb dX8_fee_58 rfl ?_
            refine lv_iload_n hx hb dX8_fee_61 rfl (lv_at hl 0 rfl) ?_
            refine lv_iadd hx hb dX8_fee_62 ?_
            refine g_ild (298 + i) E hG hP.2.2.1 (ixq (nI_ad rfl rfl)) (by omega) (by decide) dX8_fee_63 ?_
            refine lv_ci (y := 4) (y1) ?_
            refine lv_istore (lv' := [(4, .int 4), (3, .int (nI i)), (2, .int (nI (h1 + 2))), (0, .ref (B 0)), (1, .int x)]) hx hb dX8_fee_64 hl (by decide) rfl (fun ls hl => ?_)
            refine lv_iload hx hb dX8_fee_66 (lv_at hl 0 rfl) ?_
            refine lv_iconst (v := 1) hx hb dX8_fee_68 rfl ?_
            refine lv_icmp_gt (tgt := 122) hx hb dX8_fee_69 (by decide) (fun c_69 => ?_) (fun c_69 => ?_)
            · refine lv_iinc (v := (nI (h1 + 1))) (lv' := [(2, .int (nI (h1 + 1))), (4, .int 4), (3, .int (nI i)), (0, .ref (B 0)), (1, .int x)]) hx hb dX8_fee_122 hl (k := 2) rfl (pk_m1 (h1 + 1)) (by decide) rfl (fun ls hl => ?_)
              refine lv_aload_n hx hb dX8_fee_125 rfl (lv_at hl 3 rfl) ?_
              refine gf_X8_28 (v := .ref (B 5)) E hG hP.1 rfl dX8_fee_126 ?_
              refine lv_iload_n hx hb dX8_fee_129 rfl (lv_at hl 0 rfl) ?_
              refine lv_iconst (v := 1) hx hb dX8_fee_130 rfl ?_
              refine lv_isub hx hb dX8_fee_131 ?_
              refine lv_iload hx hb dX8_fee_132 (lv_at hl 1 rfl) ?_
              refine lv_aload_n hx hb dX8_fee_134 rfl (lv_at hl 3 rfl) ?_
              refine gf_X8_28 (v := .ref (B 5)) E hG hP.1 rfl dX8_fee_135 ?_
              refine lv_iload_n hx hb dX8_fee_138 rfl (lv_at hl 0 rfl) ?_
              refine lv_iconst (v := 1) hx hb dX8_fee_139 rfl ?_
              refine lv_isub hx hb dX8_fee_140 ?_
              refine g_lld h1 E hG hP.2.2.2.2.2.1 (nI_pred h1) (by omega) (by decide) dX8_fee_141 ?_
              refine lv_aload_n hx hb dX8_fee_142 rfl (lv_at hl 3 rfl) ?_
              refine gf_X8_28 (v := .ref (B 5)) E hG hP.1 rfl dX8_fee_143 ?_
              refine lv_iload_n hx hb dX8_fee_146 rfl (lv_at hl 0 rfl) ?_
              refine g_lld (h1 + 1) E hG hP.2.2.2.2.2.1 rfl (by omega) (by decide) dX8_fee_147 ?_
              refine Rd.callS (rest := [.int ((nI (h1 + 1)) - 1), .ref (B 5)]) (c_X8_operate l G 4 (sk h1) (sk (h1 + 1))) yk_X8_operate E km_X8_236 dX8_fee_148 hG (hE.S hS hD.efa) trivial rfl rfl hl.1 ⟨Nat.le_of_ble_eq_true rfl, Nat.le_of_ble_eq_true rfl⟩ ⟨Nat.zero_le _, Nat.zero_le _⟩ (Nat.le_of_ble_eq_true rfl) ?_
              refine g_lst h1 E hG hP.2.2.2.2.2.1 (nI_pred h1) (by omega) (by decide) hS ⟨5, by decide, rfl⟩ dX8_fee_151 (fun H locs ho hz oq hS => ?_)
              have hP : MW G B (fm 0 bl tl ps er ea eo ud ns ne se) bf da dr hi (vp_updL sk h1 (operV 4 (sk h1) (sk (h1 + 1)))) H := hP.setK hD ho oq
              refine lv_iinc (v := (nI (i + 1))) (lv' := [(3, .int (nI (i + 1))), (2, .int (nI (h1 + 1))), (4, .int 4), (0, .ref (B 0)), (1, .int x)]) hx hb dX8_fee_152 hl (k := 2) rfl (nI_ad rfl rfl) (by decide) rfl (fun ls hl => ?_)
              refine lv_goto (tgt := 44) hx hb dX8_fee_155 (by decide) ?_
              exact ih (i + 1) (h1 + 1) _ _ (by omega) y3 w3 z10 (by omega) z6 (rel_g (fun j h1 h2 => z7 j (by omega)) (rsV_b _ _ _) (by rw [(z7 h1 (by omega)).1, (z7 (h1 + 1) (by omega)).1]; exact op_t _ _)) H locs hP hS ls (lv_sub hl [0, 1, 3, 4] rfl)
            · exact absurd c_69 (by decide)
          · subst e0
            rw [show exL ((-7) :: L1) = 5 :: exL L1 from rfl] at z1 z2
            have c9 : (-7 : Int32) ≤ (-4) := by decide
            have z1 : i + ((exL L1).length + 1) = (exL L).length := z1
            obtain ⟨y1, y3⟩ := cd1 z2
            obtain ⟨z9, z10⟩ := okR_p c9 z4
            obtain ⟨h1, rfl⟩ : ∃ h1, h = h1 + 2 := ⟨h - 2, by omega⟩
            rw [fR_p c9] at z6
            refine lv_iload_n hx hb dX8_fee_44 rfl (lv_at hl 0 rfl) ?_
            refine lv_aload_n hx hb dX8_fee_45 rfl (lv_at hl 2 rfl) ?_
            refine gf_X8_17 (v := .ref (B 2)) E hG hP.1 rfl dX8_fee_46 ?_
            refine lv_iconst (v := 5) hx hb dX8_fee_49 rfl ?_
            refine g_ild 5 E hG hP.2.2.1 rfl (by omega) (by decide) dX8_fee_50 ?_
            refine lv_icmp_ge (tgt := 158) hx hb dX8_fee_51 (by decide) (fun c_51 => ?_) (fun c_51 => ?_)
            · exact absurd ((nLE (x := da 5) (y := nI i) (a := (exL L).length) (b := i) hF.1 rfl (by omega) (by omega)).mp c_51) (by omega)
            refine lv_aload_n hx hb dX8_fee_54 rfl (lv_at hl 2 rfl) ?_
            refine gf_X8_17 (v := .ref (B 2)) E hG hP.1 rfl dX8_fee_55 ?_
            refine lv_sipush (v := 298) hx hb dX8_fee_58 rfl ?_
            refine lv_iload_n hx hb dX8_fee_61 rfl (lv_at hl 0 rfl) ?_
            refine lv_iadd hx hb dX8_fee_62 ?_
            refine g_ild (298 + i) E hG hP.2.2.1 (ixq (nI_ad rfl rfl)) (by omega) (by decide) dX8_fee_63 ?_
            refine lv_ci (y := 5) (y1) ?_
            refine lv_istore (lv' := [(4, .int 5), (3, .int (nI i)), (2, .int (nI (h1 + 2))), (0, .ref (B 0)), (1, .int x)]) hx hb dX8_fee_64 hl (by decide) rfl (fun ls hl => ?_)
            refine lv_iload hx hb dX8_fee_66 (lv_at hl 0 rfl) ?_
            refine lv_iconst (v := 1) hx hb dX8_fee_68 rfl ?_
            refine lv_icmp_gt (tgt := 122) hx hb dX8_fee_69 (by decide) (fun c_69 => ?_) (fun c_69 => ?_)
            · refine lv_iinc (v := (nI (h1 + 1))) (lv' := [(2, .int (nI (h1 + 1))), (4, .int 5), (3, .int (nI i)), (0, .ref (B 0)), (1, .int x)]) hx hb dX8_fee_122 hl (k := 2) rfl (pk_m1 (h1 + 1)) (by decide) rfl (fun ls hl => ?_)
              refine lv_aload_n hx hb dX8_fee_125 rfl (lv_at hl 3 rfl) ?_
              refine gf_X8_28 (v := .ref (B 5)) E hG hP.1 rfl dX8_fee_126 ?_
              refine lv_iload_n hx hb dX8_fee_129 rfl (lv_at hl 0 rfl) ?_
              refine lv_iconst (v := 1) hx hb dX8_fee_130 rfl ?_
              refine lv_isub hx hb dX8_fee_131 ?_
              refine lv_iload hx hb dX8_fee_132 (lv_at hl 1 rfl) ?_
              refine lv_aload_n hx hb dX8_fee_134 rfl (lv_at hl 3 rfl) ?_
              refine gf_X8_28 (v := .ref (B 5)) E hG hP.1 rfl dX8_fee_135 ?_
              refine lv_iload_n hx hb dX8_fee_138 rfl (lv_at hl 0 rfl) ?_
              refine lv_iconst (v := 1) hx hb dX8_fee_139 rfl ?_
              refine lv_isub hx hb dX8_fee_140 ?_
              refine g_lld h1 E hG hP.2.2.2.2.2.1 (nI_pred h1) (by omega) (by decide) dX8_fee_141 ?_
              refine lv_aload_n hx hb dX8_fee_142 rfl (lv_at hl 3 rfl) ?_
              refine gf_X8_28 (v := .ref (B 5)) E hG hP.1 rfl dX8_fee_143 ?_
              refine lv_iload_n hx hb dX8_fee_146 rfl (lv_at hl 0 rfl) ?_
              refine g_lld (h1 + 1) E hG hP.2.2.2.2.2.1 rfl (by omega) (by decide) dX8_fee_147 ?_
              refine Rd.callS (rest := [.int ((nI (h1 + 1)) - 1), .ref (B 5)]) (c_X8_operate l G 5 (sk h1) (sk (h1 + 1))) yk_X8_operate E km_X8_236 dX8_fee_148 hG (hE.S hS hD.efa) trivial rfl rfl hl.1 ⟨Nat.le_of_ble_eq_true rfl, Nat.le_of_ble_eq_true rfl⟩ ⟨Nat.zero_le _, Nat.zero_le _⟩ (Nat.le_of_ble_eq_true rfl) ?_
              refine g_lst h1 E hG hP.2.2.2.2.2.1 (nI_pred h1) (by omega) (by decide) hS ⟨5, by decide, rfl⟩ dX8_fee_151 (fun H locs ho hz oq hS => ?_)
              have hP : MW G B (fm 0 bl tl ps er ea eo ud ns ne se) bf da dr hi (vp_updL sk h1 (operV 5 (sk h1) (sk (h1 + 1)))) H := hP.setK hD ho oq
              refine lv_iinc (v := (nI (i + 1))) (lv' := [(3, .int (nI (i + 1))), (2, .int (nI (h1 + 1))), (4, .int 5), (0, .ref (B 0)), (1, .int x)]) hx hb dX8_fee_152 hl (k := 2) rfl (nI_ad rfl rfl) (by decide) rfl (fun ls hl => ?_)
              refine lv_goto (tgt := 44) hx hb dX8_fee_155 (by decide) ?_
              exact ih (i + 1) (h1 + 1) _ _ (by omega) y3 w3 z10 (by omega) z6 (rel_g (fun j h1 h2 => z7 j (by omega)) (rsV_b _ _ _) (by rw [(z7 h1 (by omega)).1, (z7 (h1 + 1) (by omega)).1]; exact op_o _ _ (z7 h1 (by omega)).2)) H locs hP hS ls (lv_sub hl [0, 1, 3, 4] rfl)
            · exact absurd c_69 (by decide)
      exact loop L 0 0 (fun _ => 0) sk (by omega) (fun j hj => by rw [Nat.zero_add]; exact hF.2.2.1 j hj) hF.2.2.2.2.2 hF.2.2.2.1 (by omega) rfl (fun j hj => absurd hj (Nat.not_lt_zero j)) _ _ hP hS ls (lv_sub hl [0, 1, 2, 3] rfl)
    · exact absurd (c_21.symm.trans e4) (by decide)
  · exact absurd c_10 (by decide)

set_option maxHeartbeats 4000000 in
set_option maxRecDepth 100000 in
/-- fee -/
theorem c_X8_fee_x (l : Launch) (G : CG) {B : Nat → Nat} {t bl tl ps er ea eo ud ns ne se : Int32} {bf da dr : Nat → Int32} {hi : Nat → Nat → Int32} {sk : Nat → Int64} (hD : MD G B) (x : Int32) (hin9 : inV x 0 (da 1 - 1) = 0) : Wr l yX8_fee cX8_fee 5 ((Option.some FieldType.int)) 2 43 0 0 G [.ref (B 0), .int x] (MW G B (fm t bl tl ps er ea eo ud ns ne se) bf da dr hi sk) (MA B) (fun v9 H9 => v9 = some (.int 0) ∧ MW G B (fm 1 bl tl ps er ea eo ud ns ne se) bf da dr hi sk H9) := by
  refine Wr.ofW (by decide) (Nat.le_of_ble_eq_true rfl) (fun p e s m below meth c ls E hG hE hP hr hk hin hl => ?_)
  have hS : va_S (MA B) s.heap s.heap [] := va_S.rf
  have hx := E.1
  have hb := E.2.1
  have hl : lv_has ls 5 [(0, .ref (B 0)), (1, .int x)] := hl
  refine lv_aload_n hx hb dX8_fee_0 rfl (lv_at hl 0 rfl) ?_
  refine lv_iconst (v := 0) hx hb dX8_fee_1 rfl ?_
  refine pf_X8_32 E hG hP.1 (Nat.le_of_ble_eq_true rfl) rfl rfl hS ⟨0, by decide, rfl⟩ dX8_fee_2 (fun H locs ho hz oq hS => ?_)
  have hP : MW G B (fm 0 bl tl ps er ea eo ud ns ne se) bf da dr hi sk H := hP.setO hD ho oq
  refine lv_aload_n hx hb dX8_fee_5 rfl (lv_at hl 0 rfl) ?_
  refine lv_iload_n hx hb dX8_fee_6 rfl (lv_at hl 1 rfl) ?_
  refine Wr.callV (rest := []) (c_X8_noPresentation_x l G hD x hin9) yk_X8_noPresentation E km_X8_216 dX8_fee_7 hG (hE.S hS hD.efa) hP (At.recv hG hP.1 rfl) rfl rfl hl.1 ⟨Nat.le_of_ble_eq_true rfl, Nat.le_of_ble_eq_true rfl⟩ ⟨Nat.le_of_ble_eq_true rfl, Nat.le_of_ble_eq_true rfl⟩ (Nat.le_of_ble_eq_true rfl) hS (fun _ h9 => h9) (fun v9 H locs hq hz9 hfr9 hS => ?_)
  obtain ⟨rfl, hP⟩ := hq
  refine lv_if_eq (tgt := 15) hx hb dX8_fee_10 (by decide) (fun c_10 => ?_) (fun c_10 => ?_)
  · exact absurd c_10 (by decide)
  · refine lv_iconst (v := 0) hx hb dX8_fee_13 rfl ?_
    exact wr_int E hr hk hS (by decide) (by decide) (⟨rfl, hP⟩) dX8_fee_14

set_option maxHeartbeats 4000000 in
set_option maxRecDepth 100000 in
/-- fee -/
theorem c_X8_fee_u (l : Launch) (G : CG) {B : Nat → Nat} {t bl tl ps er ea eo ud ns ne se : Int32} {bf da dr : Nat → Int32} {hi : Nat → Nat → Int32} {sk : Nat → Int64} (hD : MD G B) (x : Int32) (k : Nat) (ex : x = nI k) (hk9 : k < 24) (hin9 : inV x 0 (da 1 - 1) = 1) (e4 : da 4 = 0) : Wr l yX8_fee cX8_fee 5 ((Option.some FieldType.int)) 2 43 0 0 G [.ref (B 0), .int x] (MW G B (fm t bl tl ps er ea eo ud ns ne se) bf da dr hi sk) (MA B) (fun v9 H9 => v9 = some (.int (da (pP k + 2) / 1000)) ∧ MW G B (fm 0 bl tl ps er ea eo ud ns ne se) bf da dr hi sk H9) := by
  refine Wr.ofW (by decide) (Nat.le_of_ble_eq_true rfl) (fun p e s m below meth c ls E hG hE hP hr hk hin hl => ?_)
  have hS : va_S (MA B) s.heap s.heap [] := va_S.rf
  have hx := E.1
  have hb := E.2.1
  have hl : lv_has ls 5 [(0, .ref (B 0)), (1, .int x)] := hl
  refine lv_aload_n hx hb dX8_fee_0 rfl (lv_at hl 0 rfl) ?_
  refine lv_iconst (v := 0) hx hb dX8_fee_1 rfl ?_
  refine pf_X8_32 E hG hP.1 (Nat.le_of_ble_eq_true rfl) rfl rfl hS ⟨0, by decide, rfl⟩ dX8_fee_2 (fun H locs ho hz oq hS => ?_)
  have hP : MW G B (fm 0 bl tl ps er ea eo ud ns ne se) bf da dr hi sk H := hP.setO hD ho oq
  refine lv_aload_n hx hb dX8_fee_5 rfl (lv_at hl 0 rfl) ?_
  refine lv_iload_n hx hb dX8_fee_6 rfl (lv_at hl 1 rfl) ?_
  refine Wr.callV (rest := []) (c_X8_noPresentation l G hD x hin9) yk_X8_noPresentation E km_X8_216 dX8_fee_7 hG (hE.S hS hD.efa) hP (At.recv hG hP.1 rfl) rfl rfl hl.1 ⟨Nat.le_of_ble_eq_true rfl, Nat.le_of_ble_eq_true rfl⟩ ⟨Nat.le_of_ble_eq_true rfl, Nat.le_of_ble_eq_true rfl⟩ (Nat.le_of_ble_eq_true rfl) hS (fun _ h9 => h9) (fun v9 H locs hq hz9 hfr9 hS => ?_)
  obtain ⟨rfl, hP⟩ := hq
  refine lv_if_eq (tgt := 15) hx hb dX8_fee_10 (by decide) (fun c_10 => ?_) (fun c_10 => ?_)
  · refine lv_aload_n hx hb dX8_fee_15 rfl (lv_at hl 0 rfl) ?_
    refine gf_X8_17 (v := .ref (B 2)) E hG hP.1 rfl dX8_fee_16 ?_
    refine lv_iconst (v := 4) hx hb dX8_fee_19 rfl ?_
    refine g_ild 4 E hG hP.2.2.1 rfl (by omega) (by decide) dX8_fee_20 ?_
    refine lv_if_ne (tgt := 40) hx hb dX8_fee_21 (by decide) (fun c_21 => ?_) (fun c_21 => ?_)
    · exact absurd e4 c_21
    · refine lv_aload_n hx hb dX8_fee_24 rfl (lv_at hl 0 rfl) ?_
      refine gf_X8_17 (v := .ref (B 2)) E hG hP.1 rfl dX8_fee_25 ?_
      refine lv_iload_n hx hb dX8_fee_28 rfl (lv_at hl 1 rfl) ?_
      refine Rd.callS (rest := [.ref (B 2)]) (c_X8_presentation l G x) yk_X8_presentation E km_X8_188 dX8_fee_29 hG (hE.S hS hD.efa) trivial rfl rfl hl.1 ⟨Nat.le_of_ble_eq_true rfl, Nat.le_of_ble_eq_true rfl⟩ ⟨Nat.zero_le _, Nat.zero_le _⟩ (Nat.le_of_ble_eq_true rfl) ?_
      refine lv_iconst (v := 2) hx hb dX8_fee_32 rfl ?_
      refine lv_iadd hx hb dX8_fee_33 ?_
      refine g_ild ((154 + 6 * k) + 2) E hG hP.2.2.1 (ixq (nI_ad (nI_ad rfl (nI_mu rfl ex)) rfl)) (by omega) (by decide) dX8_fee_34 ?_
      refine lv_sipush (v := 1000) hx hb dX8_fee_35 rfl ?_
      refine lv_idiv hx hb dX8_fee_38 (by decide) ?_
      exact wr_int E hr hk hS (by decide) (by decide) (⟨rfl, hP⟩) dX8_fee_39
  · exact absurd c_10 (by decide)
