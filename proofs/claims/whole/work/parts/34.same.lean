/-! FEES and BUFFER: what both sides say is the same -/
theorem fee_usual {a : Nat} {v1 v2 : Int32} (h : a ≤ 1999999) : feeV (nI a) v1 v2 [-1, 1000, -7] = nI a / 1000 := by
  have hq : nI a / 1000 = nI (a / 1000) := pk_div (a := a) (d := 1000) (by omega) (by decide) (by decide)
  have hr : rsV (-7) (nI a) 1000 = nI (a / 1000) := by
    unfold rsV
    have e : rsE (-7) (nI a) 1000 = (nI (a / 1000)).toInt64 := by
      unfold rsE
      rw [if_neg (show ¬ (-7 : Int32) = (-4) by decide), if_neg (show ¬ (-7 : Int32) = (-5) by decide), if_neg (show ¬ (-7 : Int32) = (-6) by decide), if_neg (show ¬ (1000 : Int32) = 0 by decide), hq]
    rw [e, lim_id (by rw [Int32.toInt_toInt64, nI_toInt (by omega)]; omega) (by rw [Int32.toInt_toInt64, nI_toInt (by omega)]; omega), Int32.toInt32_toInt64]
  have hf : fR (nI a) v1 v2 [-1, 1000, -7] (fun _ => 0) 0 0 = rsV (-7) (nI a) 1000 := by
    rw [fR_o (by decide), fR_o (by decide), fR_p (by decide)]
    rfl
  unfold feeV
  rw [hf, hr, hq]
  unfold jmin jmax
  rw [if_pos ((nLT (x := nI (a / 1000)) (y := 999999) (a := a / 1000) (b := 999999) rfl rfl (by omega) (by omega)).mpr (by omega))]
  by_cases h0 : 0 < nI (a / 1000)
  · rw [if_pos h0]
  · rw [if_neg h0]
    exact Int32.le_antisymm (nI_pos' (by omega)) (Int32.not_lt.mp h0)
theorem b8_and (x : Int32) : (x &&& 255).toInt8 = x.toInt8 := by
  rw [Int32.toInt8_and, show (255 : Int32).toInt8 = (-1) by decide]
  simp
theorem b8_i (x : Int32) : x.toInt8.toInt32.toInt8 = x.toInt8 := by simp
theorem sh_at (k : Nat) (h : k < 4) : ((24 : Int32) - 8 * nI k) &&& 31 = (if k = 0 then 24 else if k = 1 then 16 else if k = 2 then 8 else 0) &&& 31 := by
  have h9 : ∀ n : Fin 4, ((24 : Int32) - 8 * nI n.1) &&& 31 = (if n.1 = 0 then 24 else if n.1 = 1 then 16 else if n.1 = 2 then 8 else 0) &&& 31 := by decide +kernel
  exact h9 ⟨k, h⟩
theorem pw_in {bb : Nat → Int32} {b j : Nat} {w : Int32} (h1 : b ≤ j) (h2 : j < b + 4) : pwD bb b w j = (w >>> ((24 - 8 * nI (j - b)) &&& 31) &&& 255).toInt8.toInt32 := by
  rw [b8_and, sh_at (j - b) (by omega)]
  unfold pwD upd
  rcases (show j = b ∨ j = b + 1 ∨ j = b + 2 ∨ j = b + 3 by omega) with e | e | e | e <;> subst e
  · rw [if_neg (by omega), if_neg (by omega), if_neg (by omega), if_pos rfl, b8_i, Nat.sub_self]
    rfl
  · rw [if_neg (by omega), if_neg (by omega), if_pos rfl, b8_i, show b + 1 - b = 1 by omega]
    rfl
  · rw [if_neg (by omega), if_pos rfl, b8_i, show b + 2 - b = 2 by omega]
    rfl
  · rw [if_pos rfl, b8_i, show b + 3 - b = 3 by omega]
    rfl
theorem pw_out {bb : Nat → Int32} {b j : Nat} {w : Int32} (h : j < b ∨ b + 4 ≤ j) : pwD bb b w j = bb j := by
  unfold pwD upd
  rw [if_neg (by omega), if_neg (by omega), if_neg (by omega), if_neg (by omega)]
/-- the class's buffer and the reference's, behind an append -/
theorem apC_eq {bb bf : Nat → Int32} {b : Nat} {w0 w1 w2 w3 w4 : Int32} (h : ∀ j, bb j = (bf j).toInt8.toInt32) : ∀ j, apC bb b w0 w1 w2 w3 w4 j = (appF bf b w0 w1 w2 w3 w4 20 j).toInt8.toInt32 := by
  intro j
  unfold apC appF
  by_cases hj : b ≤ j ∧ j < b + 20
  · rw [if_pos hj]
    unfold apB apW
    by_cases h4 : j < b + 4
    · rw [pw_out (by omega), pw_out (by omega), pw_out (by omega), pw_out (by omega), pw_in (by omega) (by omega), if_neg (show ¬ 4 ≤ j - b by omega), show (j - b) % 4 = j - b by omega]
    · by_cases h8 : j < b + 8
      · rw [pw_out (by omega), pw_out (by omega), pw_out (by omega), pw_in (by omega) (by omega), if_pos (show 4 ≤ j - b by omega), if_neg (show ¬ 8 ≤ j - b by omega), show (j - b) % 4 = j - (b + 4) by omega]
      · by_cases h12 : j < b + 12
        · rw [pw_out (by omega), pw_out (by omega), pw_in (by omega) (by omega), if_pos (show 4 ≤ j - b by omega), if_pos (show 8 ≤ j - b by omega), if_neg (show ¬ 12 ≤ j - b by omega), show (j - b) % 4 = j - (b + 4 + 4) by omega]
        · by_cases h16 : j < b + 16
          · rw [pw_out (by omega), pw_in (by omega) (by omega), if_pos (show 4 ≤ j - b by omega), if_pos (show 8 ≤ j - b by omega), if_pos (show 12 ≤ j - b by omega), if_neg (show ¬ 16 ≤ j - b by omega), show (j - b) % 4 = j - (b + 4 + 4 + 4) by omega]
          · rw [pw_in (by omega) (by omega), if_pos (show 4 ≤ j - b by omega), if_pos (show 8 ≤ j - b by omega), if_pos (show 12 ≤ j - b by omega), if_pos (show 16 ≤ j - b by omega), show (j - b) % 4 = j - (b + 4 + 4 + 4 + 4) by omega]
  · rw [if_neg hj, pw_out (by omega), pw_out (by omega), pw_out (by omega), pw_out (by omega), pw_out (by omega)]
    exact h j
theorem amOk {d : Nat → Int32} {nc np nh : Nat} (hO : OkD d nc np nh) : AmOk d np := fun j hj => by
  obtain ⟨cr, dy, am, fa, si, h1, h2, h3, h4, h5, h6, h7, h8⟩ := hO.2.2.2.2.2.1 j hj
  exact ⟨am, h7, h5⟩
