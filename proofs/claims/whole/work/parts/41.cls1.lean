/-! the class: fighters, rows, the harbour's getters -/
theorem s_thrust_26 {e n : Nat} {im : Nat → Option Nat} {w u : Nat → Nat → Int} {sp p : Int} (ht : a_tr (w 26)) (h1 : 0 ≤ sp ∧ sp ≤ 100) (h2 : 0 ≤ p ∧ p ≤ 1000) : (z_F (e + 1)).1 k_Fighter_thrust [.ref 26, .int (Int32.ofInt sp), .int (Int32.ofInt p)] (n, z_q im, jM w, jL u) = some (Int32.ofInt (a_fo (w 26) sp p), jM w, jL u) := by
  obtain ⟨t0, t1, t2, t3, t4, t5⟩ := ht
  have hm : 0 ≤ w 26 3 * p ∧ w 26 3 * p ≤ 9000 := ⟨Int.mul_nonneg t3.1 h2.1, Int.le_trans (Int.mul_le_mul_of_nonneg_right t3.2 h2.1) (by omega)⟩
  refine q_Fighter_thrust_26 ?_
  simp (disch := omega) only [jM, ji_add, ji_sub, ji_mul, ji_eq0, ji_eq, ji_le0, z_fI]
  refine z_lf ?_
  unfold a_fo a_mx
  generalize w 26 3 * p = q at *
  (repeat' split) <;> omega
theorem s_hold_26 {e n : Nat} {im : Nat → Option Nat} {w u : Nat → Nat → Int} {sp p fa : Int} (ht : a_tr (w 26)) (h1 : 0 ≤ sp ∧ sp ≤ 100) (h2 : 0 ≤ p ∧ p ≤ 1000) (h3 : 0 ≤ fa ∧ fa ≤ 2) : (z_F (e + 1)).1 k_Fighter_hold [.ref 26, .int (Int32.ofInt sp), .int (Int32.ofInt p), .int (Int32.ofInt fa)] (n, z_q im, jM w, jL u) = some (Int32.ofInt (a_st (w 26) fa sp p), jM w, jL u) := by
  obtain ⟨t0, t1, t2, t3, t4, t5⟩ := ht
  have hm : 0 ≤ w 26 3 * p ∧ w 26 3 * p ≤ 9000 := ⟨Int.mul_nonneg t3.1 h2.1, Int.le_trans (Int.mul_le_mul_of_nonneg_right t3.2 h2.1) (by omega)⟩
  refine q_Fighter_hold_26 ?_
  have e1 : (w 26 0).tdiv 10 = w 26 0 / 10 := Int.tdiv_eq_ediv_of_nonneg (by omega)
  have e2 : sp.tdiv 2 = sp / 2 := Int.tdiv_eq_ediv_of_nonneg (by omega)
  have e3 : (w 26 3 * p).tdiv 2 = w 26 3 * p / 2 := Int.tdiv_eq_ediv_of_nonneg (by omega)
  simp (disch := omega) only [jM, ji_add, ji_sub, ji_mul, ji_div, e1, e2, e3, ji_eq0, ji_eq, ji_le, ji_le0, z_fI]
  refine z_lf ?_
  unfold a_st a_mx a_ab
  generalize w 26 3 * p = q at *
  (repeat' split) <;> omega
theorem s_thrust_27 {e n : Nat} {im : Nat → Option Nat} {w u : Nat → Nat → Int} {sp p : Int} (ht : a_tr (w 27)) (h1 : 0 ≤ sp ∧ sp ≤ 100) (h2 : 0 ≤ p ∧ p ≤ 1000) : (z_F (e + 1)).1 k_Fighter_thrust [.ref 27, .int (Int32.ofInt sp), .int (Int32.ofInt p)] (n, z_q im, jM w, jL u) = some (Int32.ofInt (a_fo (w 27) sp p), jM w, jL u) := by
  obtain ⟨t0, t1, t2, t3, t4, t5⟩ := ht
  have hm : 0 ≤ w 27 3 * p ∧ w 27 3 * p ≤ 9000 := ⟨Int.mul_nonneg t3.1 h2.1, Int.le_trans (Int.mul_le_mul_of_nonneg_right t3.2 h2.1) (by omega)⟩
  refine q_Fighter_thrust_27 ?_
  simp (disch := omega) only [jM, ji_add, ji_sub, ji_mul, ji_eq0, ji_eq, ji_le0, z_fI]
  refine z_lf ?_
  unfold a_fo a_mx
  generalize w 27 3 * p = q at *
  (repeat' split) <;> omega
theorem s_hold_27 {e n : Nat} {im : Nat → Option Nat} {w u : Nat → Nat → Int} {sp p fa : Int} (ht : a_tr (w 27)) (h1 : 0 ≤ sp ∧ sp ≤ 100) (h2 : 0 ≤ p ∧ p ≤ 1000) (h3 : 0 ≤ fa ∧ fa ≤ 2) : (z_F (e + 1)).1 k_Fighter_hold [.ref 27, .int (Int32.ofInt sp), .int (Int32.ofInt p), .int (Int32.ofInt fa)] (n, z_q im, jM w, jL u) = some (Int32.ofInt (a_st (w 27) fa sp p), jM w, jL u) := by
  obtain ⟨t0, t1, t2, t3, t4, t5⟩ := ht
  have hm : 0 ≤ w 27 3 * p ∧ w 27 3 * p ≤ 9000 := ⟨Int.mul_nonneg t3.1 h2.1, Int.le_trans (Int.mul_le_mul_of_nonneg_right t3.2 h2.1) (by omega)⟩
  refine q_Fighter_hold_27 ?_
  have e1 : (w 27 0).tdiv 10 = w 27 0 / 10 := Int.tdiv_eq_ediv_of_nonneg (by omega)
  have e2 : sp.tdiv 2 = sp / 2 := Int.tdiv_eq_ediv_of_nonneg (by omega)
  have e3 : (w 27 3 * p).tdiv 2 = w 27 3 * p / 2 := Int.tdiv_eq_ediv_of_nonneg (by omega)
  simp (disch := omega) only [jM, ji_add, ji_sub, ji_mul, ji_div, e1, e2, e3, ji_eq0, ji_eq, ji_le, ji_le0, z_fI]
  refine z_lf ?_
  unfold a_st a_mx a_ab
  generalize w 27 3 * p = q at *
  (repeat' split) <;> omega
theorem s_at_4 {e n : Nat} {im : Nat → Option Nat} {w u : Nat → Nat → Int} {j : Int} (hj : jR j) : (z_F (e + 1)).1 k_Row_at [.ref 4, .int (Int32.ofInt j)] (n, z_q im, jM w, jL u) = some (Int32.ofInt (if 0 ≤ j ∧ j < 8 then w 5 j.toNat else 0), jM w, jL u) := by
  refine q_Row_at_4 ?_
  have e0 : (Int32.ofNat 8) = Int32.ofInt 8 := rfl
  simp (disch := omega) only [jM, e0, ji_lt0, ji_le, ji_nat]
  by_cases h1 : j < 0
  · rw [if_pos h1, if_neg (by omega)]
  · rw [if_neg h1]
    by_cases h2 : 8 ≤ j
    · rw [if_pos h2, if_neg (by omega)]
    · rw [if_neg h2, if_neg (by omega), if_pos (by omega)]
theorem s_set_4 {e n : Nat} {im : Nat → Option Nat} {w u : Nat → Nat → Int} {j v : Int} (hj : 0 ≤ j) (hj2 : j < 8) : (z_F (e + 1)).2.2.1 k_Row_set [.ref 4, .int (Int32.ofInt j), .int (Int32.ofInt v)] (n, z_q im, jM w, jL u) = some (jM (z_u w 5 j.toNat v), jL u) := by
  refine q_Row_set_4 ?_
  have e0 : (Int32.ofNat 8) = Int32.ofInt 8 := rfl
  simp (disch := omega) only [e0, ji_lt0, ji_le, ji_nat, jM_u]
  rw [if_neg (by omega), if_neg (by omega), if_neg (by omega)]
theorem s_at_6 {e n : Nat} {im : Nat → Option Nat} {w u : Nat → Nat → Int} {j : Int} (hj : jR j) : (z_F (e + 1)).1 k_Row_at [.ref 6, .int (Int32.ofInt j)] (n, z_q im, jM w, jL u) = some (Int32.ofInt (if 0 ≤ j ∧ j < 60 then w 7 j.toNat else 0), jM w, jL u) := by
  refine q_Row_at_6 ?_
  have e0 : (Int32.ofNat 60) = Int32.ofInt 60 := rfl
  simp (disch := omega) only [jM, e0, ji_lt0, ji_le, ji_nat]
  by_cases h1 : j < 0
  · rw [if_pos h1, if_neg (by omega)]
  · rw [if_neg h1]
    by_cases h2 : 60 ≤ j
    · rw [if_pos h2, if_neg (by omega)]
    · rw [if_neg h2, if_neg (by omega), if_pos (by omega)]
theorem s_set_6 {e n : Nat} {im : Nat → Option Nat} {w u : Nat → Nat → Int} {j v : Int} (hj : 0 ≤ j) (hj2 : j < 60) : (z_F (e + 1)).2.2.1 k_Row_set [.ref 6, .int (Int32.ofInt j), .int (Int32.ofInt v)] (n, z_q im, jM w, jL u) = some (jM (z_u w 7 j.toNat v), jL u) := by
  refine q_Row_set_6 ?_
  have e0 : (Int32.ofNat 60) = Int32.ofInt 60 := rfl
  simp (disch := omega) only [e0, ji_lt0, ji_le, ji_nat, jM_u]
  rw [if_neg (by omega), if_neg (by omega), if_neg (by omega)]
theorem s_at_8 {e n : Nat} {im : Nat → Option Nat} {w u : Nat → Nat → Int} {j : Int} (hj : jR j) : (z_F (e + 1)).1 k_Row_at [.ref 8, .int (Int32.ofInt j)] (n, z_q im, jM w, jL u) = some (Int32.ofInt (if 0 ≤ j ∧ j < 28 then w 9 j.toNat else 0), jM w, jL u) := by
  refine q_Row_at_8 ?_
  have e0 : (Int32.ofNat 28) = Int32.ofInt 28 := rfl
  simp (disch := omega) only [jM, e0, ji_lt0, ji_le, ji_nat]
  by_cases h1 : j < 0
  · rw [if_pos h1, if_neg (by omega)]
  · rw [if_neg h1]
    by_cases h2 : 28 ≤ j
    · rw [if_pos h2, if_neg (by omega)]
    · rw [if_neg h2, if_neg (by omega), if_pos (by omega)]
theorem s_set_8 {e n : Nat} {im : Nat → Option Nat} {w u : Nat → Nat → Int} {j v : Int} (hj : 0 ≤ j) (hj2 : j < 28) : (z_F (e + 1)).2.2.1 k_Row_set [.ref 8, .int (Int32.ofInt j), .int (Int32.ofInt v)] (n, z_q im, jM w, jL u) = some (jM (z_u w 9 j.toNat v), jL u) := by
  refine q_Row_set_8 ?_
  have e0 : (Int32.ofNat 28) = Int32.ofInt 28 := rfl
  simp (disch := omega) only [e0, ji_lt0, ji_le, ji_nat, jM_u]
  rw [if_neg (by omega), if_neg (by omega), if_neg (by omega)]
theorem s_at_11 {e n : Nat} {im : Nat → Option Nat} {w u : Nat → Nat → Int} {j : Int} (hj : jR j) : (z_F (e + 1)).1 k_Row_at [.ref 11, .int (Int32.ofInt j)] (n, z_q im, jM w, jL u) = some (Int32.ofInt (if 0 ≤ j ∧ j < 8 then w 12 j.toNat else 0), jM w, jL u) := by
  refine q_Row_at_11 ?_
  have e0 : (Int32.ofNat 8) = Int32.ofInt 8 := rfl
  simp (disch := omega) only [jM, e0, ji_lt0, ji_le, ji_nat]
  by_cases h1 : j < 0
  · rw [if_pos h1, if_neg (by omega)]
  · rw [if_neg h1]
    by_cases h2 : 8 ≤ j
    · rw [if_pos h2, if_neg (by omega)]
    · rw [if_neg h2, if_neg (by omega), if_pos (by omega)]
theorem s_set_11 {e n : Nat} {im : Nat → Option Nat} {w u : Nat → Nat → Int} {j v : Int} (hj : 0 ≤ j) (hj2 : j < 8) : (z_F (e + 1)).2.2.1 k_Row_set [.ref 11, .int (Int32.ofInt j), .int (Int32.ofInt v)] (n, z_q im, jM w, jL u) = some (jM (z_u w 12 j.toNat v), jL u) := by
  refine q_Row_set_11 ?_
  have e0 : (Int32.ofNat 8) = Int32.ofInt 8 := rfl
  simp (disch := omega) only [e0, ji_lt0, ji_le, ji_nat, jM_u]
  rw [if_neg (by omega), if_neg (by omega), if_neg (by omega)]
theorem s_at_13 {e n : Nat} {im : Nat → Option Nat} {w u : Nat → Nat → Int} {j : Int} (hj : jR j) : (z_F (e + 1)).1 k_Row_at [.ref 13, .int (Int32.ofInt j)] (n, z_q im, jM w, jL u) = some (Int32.ofInt (if 0 ≤ j ∧ j < 60 then w 14 j.toNat else 0), jM w, jL u) := by
  refine q_Row_at_13 ?_
  have e0 : (Int32.ofNat 60) = Int32.ofInt 60 := rfl
  simp (disch := omega) only [jM, e0, ji_lt0, ji_le, ji_nat]
  by_cases h1 : j < 0
  · rw [if_pos h1, if_neg (by omega)]
  · rw [if_neg h1]
    by_cases h2 : 60 ≤ j
    · rw [if_pos h2, if_neg (by omega)]
    · rw [if_neg h2, if_neg (by omega), if_pos (by omega)]
theorem s_set_13 {e n : Nat} {im : Nat → Option Nat} {w u : Nat → Nat → Int} {j v : Int} (hj : 0 ≤ j) (hj2 : j < 60) : (z_F (e + 1)).2.2.1 k_Row_set [.ref 13, .int (Int32.ofInt j), .int (Int32.ofInt v)] (n, z_q im, jM w, jL u) = some (jM (z_u w 14 j.toNat v), jL u) := by
  refine q_Row_set_13 ?_
  have e0 : (Int32.ofNat 60) = Int32.ofInt 60 := rfl
  simp (disch := omega) only [e0, ji_lt0, ji_le, ji_nat, jM_u]
  rw [if_neg (by omega), if_neg (by omega), if_neg (by omega)]
theorem s_at_15 {e n : Nat} {im : Nat → Option Nat} {w u : Nat → Nat → Int} {j : Int} (hj : jR j) : (z_F (e + 1)).1 k_Row_at [.ref 15, .int (Int32.ofInt j)] (n, z_q im, jM w, jL u) = some (Int32.ofInt (if 0 ≤ j ∧ j < 28 then w 16 j.toNat else 0), jM w, jL u) := by
  refine q_Row_at_15 ?_
  have e0 : (Int32.ofNat 28) = Int32.ofInt 28 := rfl
  simp (disch := omega) only [jM, e0, ji_lt0, ji_le, ji_nat]
  by_cases h1 : j < 0
  · rw [if_pos h1, if_neg (by omega)]
  · rw [if_neg h1]
    by_cases h2 : 28 ≤ j
    · rw [if_pos h2, if_neg (by omega)]
    · rw [if_neg h2, if_neg (by omega), if_pos (by omega)]
theorem s_set_15 {e n : Nat} {im : Nat → Option Nat} {w u : Nat → Nat → Int} {j v : Int} (hj : 0 ≤ j) (hj2 : j < 28) : (z_F (e + 1)).2.2.1 k_Row_set [.ref 15, .int (Int32.ofInt j), .int (Int32.ofInt v)] (n, z_q im, jM w, jL u) = some (jM (z_u w 16 j.toNat v), jL u) := by
  refine q_Row_set_15 ?_
  have e0 : (Int32.ofNat 28) = Int32.ofInt 28 := rfl
  simp (disch := omega) only [e0, ji_lt0, ji_le, ji_nat, jM_u]
  rw [if_neg (by omega), if_neg (by omega), if_neg (by omega)]
theorem s_at_21 {e n : Nat} {im : Nat → Option Nat} {w u : Nat → Nat → Int} {j : Int} (hj : jR j) : (z_F (e + 1)).1 k_Row_at [.ref 21, .int (Int32.ofInt j)] (n, z_q im, jM w, jL u) = some (Int32.ofInt (if 0 ≤ j ∧ j < 4 then w 22 j.toNat else 0), jM w, jL u) := by
  refine q_Row_at_21 ?_
  have e0 : (Int32.ofNat 4) = Int32.ofInt 4 := rfl
  simp (disch := omega) only [jM, e0, ji_lt0, ji_le, ji_nat]
  by_cases h1 : j < 0
  · rw [if_pos h1, if_neg (by omega)]
  · rw [if_neg h1]
    by_cases h2 : 4 ≤ j
    · rw [if_pos h2, if_neg (by omega)]
    · rw [if_neg h2, if_neg (by omega), if_pos (by omega)]
theorem s_set_21 {e n : Nat} {im : Nat → Option Nat} {w u : Nat → Nat → Int} {j v : Int} (hj : 0 ≤ j) (hj2 : j < 4) : (z_F (e + 1)).2.2.1 k_Row_set [.ref 21, .int (Int32.ofInt j), .int (Int32.ofInt v)] (n, z_q im, jM w, jL u) = some (jM (z_u w 22 j.toNat v), jL u) := by
  refine q_Row_set_21 ?_
  have e0 : (Int32.ofNat 4) = Int32.ofInt 4 := rfl
  simp (disch := omega) only [e0, ji_lt0, ji_le, ji_nat, jM_u]
  rw [if_neg (by omega), if_neg (by omega), if_neg (by omega)]
theorem s_at_23 {e n : Nat} {im : Nat → Option Nat} {w u : Nat → Nat → Int} {j : Int} (hj : jR j) : (z_F (e + 1)).1 k_Row_at [.ref 23, .int (Int32.ofInt j)] (n, z_q im, jM w, jL u) = some (Int32.ofInt (if 0 ≤ j ∧ j < 4 then w 24 j.toNat else 0), jM w, jL u) := by
  refine q_Row_at_23 ?_
  have e0 : (Int32.ofNat 4) = Int32.ofInt 4 := rfl
  simp (disch := omega) only [jM, e0, ji_lt0, ji_le, ji_nat]
  by_cases h1 : j < 0
  · rw [if_pos h1, if_neg (by omega)]
  · rw [if_neg h1]
    by_cases h2 : 4 ≤ j
    · rw [if_pos h2, if_neg (by omega)]
    · rw [if_neg h2, if_neg (by omega), if_pos (by omega)]
theorem s_set_23 {e n : Nat} {im : Nat → Option Nat} {w u : Nat → Nat → Int} {j v : Int} (hj : 0 ≤ j) (hj2 : j < 4) : (z_F (e + 1)).2.2.1 k_Row_set [.ref 23, .int (Int32.ofInt j), .int (Int32.ofInt v)] (n, z_q im, jM w, jL u) = some (jM (z_u w 24 j.toNat v), jL u) := by
  refine q_Row_set_23 ?_
  have e0 : (Int32.ofNat 4) = Int32.ofInt 4 := rfl
  simp (disch := omega) only [e0, ji_lt0, ji_le, ji_nat, jM_u]
  rw [if_neg (by omega), if_neg (by omega), if_neg (by omega)]
theorem s_at_28 {e n : Nat} {im : Nat → Option Nat} {w u : Nat → Nat → Int} {j : Int} (hj : jR j) : (z_F (e + 1)).1 k_Row_at [.ref 28, .int (Int32.ofInt j)] (n, z_q im, jM w, jL u) = some (Int32.ofInt (if 0 ≤ j ∧ j < 3 then w 29 j.toNat else 0), jM w, jL u) := by
  refine q_Row_at_28 ?_
  have e0 : (Int32.ofNat 3) = Int32.ofInt 3 := rfl
  simp (disch := omega) only [jM, e0, ji_lt0, ji_le, ji_nat]
  by_cases h1 : j < 0
  · rw [if_pos h1, if_neg (by omega)]
  · rw [if_neg h1]
    by_cases h2 : 3 ≤ j
    · rw [if_pos h2, if_neg (by omega)]
    · rw [if_neg h2, if_neg (by omega), if_pos (by omega)]
theorem s_set_28 {e n : Nat} {im : Nat → Option Nat} {w u : Nat → Nat → Int} {j v : Int} (hj : 0 ≤ j) (hj2 : j < 3) : (z_F (e + 1)).2.2.1 k_Row_set [.ref 28, .int (Int32.ofInt j), .int (Int32.ofInt v)] (n, z_q im, jM w, jL u) = some (jM (z_u w 29 j.toNat v), jL u) := by
  refine q_Row_set_28 ?_
  have e0 : (Int32.ofNat 3) = Int32.ofInt 3 := rfl
  simp (disch := omega) only [e0, ji_lt0, ji_le, ji_nat, jM_u]
  rw [if_neg (by omega), if_neg (by omega), if_neg (by omega)]
theorem s_at_32 {e n : Nat} {im : Nat → Option Nat} {w u : Nat → Nat → Int} {j : Int} (hj : jR j) : (z_F (e + 1)).1 k_Row_at [.ref 32, .int (Int32.ofInt j)] (n, z_q im, jM w, jL u) = some (Int32.ofInt (if 0 ≤ j ∧ j < 5 then w 33 j.toNat else 0), jM w, jL u) := by
  refine q_Row_at_32 ?_
  have e0 : (Int32.ofNat 5) = Int32.ofInt 5 := rfl
  simp (disch := omega) only [jM, e0, ji_lt0, ji_le, ji_nat]
  by_cases h1 : j < 0
  · rw [if_pos h1, if_neg (by omega)]
  · rw [if_neg h1]
    by_cases h2 : 5 ≤ j
    · rw [if_pos h2, if_neg (by omega)]
    · rw [if_neg h2, if_neg (by omega), if_pos (by omega)]
theorem s_set_32 {e n : Nat} {im : Nat → Option Nat} {w u : Nat → Nat → Int} {j v : Int} (hj : 0 ≤ j) (hj2 : j < 5) : (z_F (e + 1)).2.2.1 k_Row_set [.ref 32, .int (Int32.ofInt j), .int (Int32.ofInt v)] (n, z_q im, jM w, jL u) = some (jM (z_u w 33 j.toNat v), jL u) := by
  refine q_Row_set_32 ?_
  have e0 : (Int32.ofNat 5) = Int32.ofInt 5 := rfl
  simp (disch := omega) only [e0, ji_lt0, ji_le, ji_nat, jM_u]
  rw [if_neg (by omega), if_neg (by omega), if_neg (by omega)]
theorem s_at_34 {e n : Nat} {im : Nat → Option Nat} {w u : Nat → Nat → Int} {j : Int} (hj : jR j) : (z_F (e + 1)).1 k_Row_at [.ref 34, .int (Int32.ofInt j)] (n, z_q im, jM w, jL u) = some (Int32.ofInt (if 0 ≤ j ∧ j < 5 then w 35 j.toNat else 0), jM w, jL u) := by
  refine q_Row_at_34 ?_
  have e0 : (Int32.ofNat 5) = Int32.ofInt 5 := rfl
  simp (disch := omega) only [jM, e0, ji_lt0, ji_le, ji_nat]
  by_cases h1 : j < 0
  · rw [if_pos h1, if_neg (by omega)]
  · rw [if_neg h1]
    by_cases h2 : 5 ≤ j
    · rw [if_pos h2, if_neg (by omega)]
    · rw [if_neg h2, if_neg (by omega), if_pos (by omega)]
theorem s_set_34 {e n : Nat} {im : Nat → Option Nat} {w u : Nat → Nat → Int} {j v : Int} (hj : 0 ≤ j) (hj2 : j < 5) : (z_F (e + 1)).2.2.1 k_Row_set [.ref 34, .int (Int32.ofInt j), .int (Int32.ofInt v)] (n, z_q im, jM w, jL u) = some (jM (z_u w 35 j.toNat v), jL u) := by
  refine q_Row_set_34 ?_
  have e0 : (Int32.ofNat 5) = Int32.ofInt 5 := rfl
  simp (disch := omega) only [e0, ji_lt0, ji_le, ji_nat, jM_u]
  rw [if_neg (by omega), if_neg (by omega), if_neg (by omega)]
theorem s_at_36 {e n : Nat} {im : Nat → Option Nat} {w u : Nat → Nat → Int} {j : Int} (hj : jR j) : (z_F (e + 1)).1 k_Row_at [.ref 36, .int (Int32.ofInt j)] (n, z_q im, jM w, jL u) = some (Int32.ofInt (if 0 ≤ j ∧ j < 40 then w 37 j.toNat else 0), jM w, jL u) := by
  refine q_Row_at_36 ?_
  have e0 : (Int32.ofNat 40) = Int32.ofInt 40 := rfl
  simp (disch := omega) only [jM, e0, ji_lt0, ji_le, ji_nat]
  by_cases h1 : j < 0
  · rw [if_pos h1, if_neg (by omega)]
  · rw [if_neg h1]
    by_cases h2 : 40 ≤ j
    · rw [if_pos h2, if_neg (by omega)]
    · rw [if_neg h2, if_neg (by omega), if_pos (by omega)]
theorem s_set_36 {e n : Nat} {im : Nat → Option Nat} {w u : Nat → Nat → Int} {j v : Int} (hj : 0 ≤ j) (hj2 : j < 40) : (z_F (e + 1)).2.2.1 k_Row_set [.ref 36, .int (Int32.ofInt j), .int (Int32.ofInt v)] (n, z_q im, jM w, jL u) = some (jM (z_u w 37 j.toNat v), jL u) := by
  refine q_Row_set_36 ?_
  have e0 : (Int32.ofNat 40) = Int32.ofInt 40 := rfl
  simp (disch := omega) only [e0, ji_lt0, ji_le, ji_nat, jM_u]
  rw [if_neg (by omega), if_neg (by omega), if_neg (by omega)]
theorem s_at_38 {e n : Nat} {im : Nat → Option Nat} {w u : Nat → Nat → Int} {j : Int} (hj : jR j) : (z_F (e + 1)).1 k_Row_at [.ref 38, .int (Int32.ofInt j)] (n, z_q im, jM w, jL u) = some (Int32.ofInt (if 0 ≤ j ∧ j < 10 then w 39 j.toNat else 0), jM w, jL u) := by
  refine q_Row_at_38 ?_
  have e0 : (Int32.ofNat 10) = Int32.ofInt 10 := rfl
  simp (disch := omega) only [jM, e0, ji_lt0, ji_le, ji_nat]
  by_cases h1 : j < 0
  · rw [if_pos h1, if_neg (by omega)]
  · rw [if_neg h1]
    by_cases h2 : 10 ≤ j
    · rw [if_pos h2, if_neg (by omega)]
    · rw [if_neg h2, if_neg (by omega), if_pos (by omega)]
theorem s_set_38 {e n : Nat} {im : Nat → Option Nat} {w u : Nat → Nat → Int} {j v : Int} (hj : 0 ≤ j) (hj2 : j < 10) : (z_F (e + 1)).2.2.1 k_Row_set [.ref 38, .int (Int32.ofInt j), .int (Int32.ofInt v)] (n, z_q im, jM w, jL u) = some (jM (z_u w 39 j.toNat v), jL u) := by
  refine q_Row_set_38 ?_
  have e0 : (Int32.ofNat 10) = Int32.ofInt 10 := rfl
  simp (disch := omega) only [e0, ji_lt0, ji_le, ji_nat, jM_u]
  rw [if_neg (by omega), if_neg (by omega), if_neg (by omega)]
theorem s_at_40 {e n : Nat} {im : Nat → Option Nat} {w u : Nat → Nat → Int} {j : Int} (hj : jR j) : (z_F (e + 1)).1 k_Row_at [.ref 40, .int (Int32.ofInt j)] (n, z_q im, jM w, jL u) = some (Int32.ofInt (if 0 ≤ j ∧ j < 5 then w 41 j.toNat else 0), jM w, jL u) := by
  refine q_Row_at_40 ?_
  have e0 : (Int32.ofNat 5) = Int32.ofInt 5 := rfl
  simp (disch := omega) only [jM, e0, ji_lt0, ji_le, ji_nat]
  by_cases h1 : j < 0
  · rw [if_pos h1, if_neg (by omega)]
  · rw [if_neg h1]
    by_cases h2 : 5 ≤ j
    · rw [if_pos h2, if_neg (by omega)]
    · rw [if_neg h2, if_neg (by omega), if_pos (by omega)]
theorem s_set_40 {e n : Nat} {im : Nat → Option Nat} {w u : Nat → Nat → Int} {j v : Int} (hj : 0 ≤ j) (hj2 : j < 5) : (z_F (e + 1)).2.2.1 k_Row_set [.ref 40, .int (Int32.ofInt j), .int (Int32.ofInt v)] (n, z_q im, jM w, jL u) = some (jM (z_u w 41 j.toNat v), jL u) := by
  refine q_Row_set_40 ?_
  have e0 : (Int32.ofNat 5) = Int32.ofInt 5 := rfl
  simp (disch := omega) only [e0, ji_lt0, ji_le, ji_nat, jM_u]
  rw [if_neg (by omega), if_neg (by omega), if_neg (by omega)]
theorem s_at_43 {e n : Nat} {im : Nat → Option Nat} {w u : Nat → Nat → Int} {j : Int} (hj : jR j) : (z_F (e + 1)).1 k_Row_at [.ref 43, .int (Int32.ofInt j)] (n, z_q im, jM w, jL u) = some (Int32.ofInt (if 0 ≤ j ∧ j < 100 then w 44 j.toNat else 0), jM w, jL u) := by
  refine q_Row_at_43 ?_
  have e0 : (Int32.ofNat 100) = Int32.ofInt 100 := rfl
  simp (disch := omega) only [jM, e0, ji_lt0, ji_le, ji_nat]
  by_cases h1 : j < 0
  · rw [if_pos h1, if_neg (by omega)]
  · rw [if_neg h1]
    by_cases h2 : 100 ≤ j
    · rw [if_pos h2, if_neg (by omega)]
    · rw [if_neg h2, if_neg (by omega), if_pos (by omega)]
theorem s_set_43 {e n : Nat} {im : Nat → Option Nat} {w u : Nat → Nat → Int} {j v : Int} (hj : 0 ≤ j) (hj2 : j < 100) : (z_F (e + 1)).2.2.1 k_Row_set [.ref 43, .int (Int32.ofInt j), .int (Int32.ofInt v)] (n, z_q im, jM w, jL u) = some (jM (z_u w 44 j.toNat v), jL u) := by
  refine q_Row_set_43 ?_
  have e0 : (Int32.ofNat 100) = Int32.ofInt 100 := rfl
  simp (disch := omega) only [e0, ji_lt0, ji_le, ji_nat, jM_u]
  rw [if_neg (by omega), if_neg (by omega), if_neg (by omega)]
theorem s_at_66 {e n : Nat} {im : Nat → Option Nat} {w u : Nat → Nat → Int} {j : Int} (hj : jR j) : (z_F (e + 1)).1 k_Row_at [.ref 66, .int (Int32.ofInt j)] (n, z_q (z_h 65 im), jM w, jL u) = some (Int32.ofInt (if 0 ≤ j ∧ j < 8 then w 67 j.toNat else 0), jM w, jL u) := by
  refine q_Row_at_66 ?_
  have e0 : (Int32.ofNat 8) = Int32.ofInt 8 := rfl
  simp (disch := omega) only [jM, e0, ji_lt0, ji_le, ji_nat]
  by_cases h1 : j < 0
  · rw [if_pos h1, if_neg (by omega)]
  · rw [if_neg h1]
    by_cases h2 : 8 ≤ j
    · rw [if_pos h2, if_neg (by omega)]
    · rw [if_neg h2, if_neg (by omega), if_pos (by omega)]
theorem s_at_68 {e n : Nat} {im : Nat → Option Nat} {w u : Nat → Nat → Int} {j : Int} (hj : jR j) : (z_F (e + 1)).1 k_Row_at [.ref 68, .int (Int32.ofInt j)] (n, z_q (z_h 65 im), jM w, jL u) = some (Int32.ofInt (if 0 ≤ j ∧ j < 60 then w 69 j.toNat else 0), jM w, jL u) := by
  refine q_Row_at_68 ?_
  have e0 : (Int32.ofNat 60) = Int32.ofInt 60 := rfl
  simp (disch := omega) only [jM, e0, ji_lt0, ji_le, ji_nat]
  by_cases h1 : j < 0
  · rw [if_pos h1, if_neg (by omega)]
  · rw [if_neg h1]
    by_cases h2 : 60 ≤ j
    · rw [if_pos h2, if_neg (by omega)]
    · rw [if_neg h2, if_neg (by omega), if_pos (by omega)]
theorem s_at_70 {e n : Nat} {im : Nat → Option Nat} {w u : Nat → Nat → Int} {j : Int} (hj : jR j) : (z_F (e + 1)).1 k_Row_at [.ref 70, .int (Int32.ofInt j)] (n, z_q (z_h 65 im), jM w, jL u) = some (Int32.ofInt (if 0 ≤ j ∧ j < 28 then w 71 j.toNat else 0), jM w, jL u) := by
  refine q_Row_at_70 ?_
  have e0 : (Int32.ofNat 28) = Int32.ofInt 28 := rfl
  simp (disch := omega) only [jM, e0, ji_lt0, ji_le, ji_nat]
  by_cases h1 : j < 0
  · rw [if_pos h1, if_neg (by omega)]
  · rw [if_neg h1]
    by_cases h2 : 28 ≤ j
    · rw [if_pos h2, if_neg (by omega)]
    · rw [if_neg h2, if_neg (by omega), if_pos (by omega)]
theorem s_at_73 {e n : Nat} {im : Nat → Option Nat} {w u : Nat → Nat → Int} {j : Int} (hj : jR j) : (z_F (e + 1)).1 k_Row_at [.ref 73, .int (Int32.ofInt j)] (n, z_q (z_h 72 im), jM w, jL u) = some (Int32.ofInt (if 0 ≤ j ∧ j < 8 then w 74 j.toNat else 0), jM w, jL u) := by
  refine q_Row_at_73 ?_
  have e0 : (Int32.ofNat 8) = Int32.ofInt 8 := rfl
  simp (disch := omega) only [jM, e0, ji_lt0, ji_le, ji_nat]
  by_cases h1 : j < 0
  · rw [if_pos h1, if_neg (by omega)]
  · rw [if_neg h1]
    by_cases h2 : 8 ≤ j
    · rw [if_pos h2, if_neg (by omega)]
    · rw [if_neg h2, if_neg (by omega), if_pos (by omega)]
theorem s_at_75 {e n : Nat} {im : Nat → Option Nat} {w u : Nat → Nat → Int} {j : Int} (hj : jR j) : (z_F (e + 1)).1 k_Row_at [.ref 75, .int (Int32.ofInt j)] (n, z_q (z_h 72 im), jM w, jL u) = some (Int32.ofInt (if 0 ≤ j ∧ j < 60 then w 76 j.toNat else 0), jM w, jL u) := by
  refine q_Row_at_75 ?_
  have e0 : (Int32.ofNat 60) = Int32.ofInt 60 := rfl
  simp (disch := omega) only [jM, e0, ji_lt0, ji_le, ji_nat]
  by_cases h1 : j < 0
  · rw [if_pos h1, if_neg (by omega)]
  · rw [if_neg h1]
    by_cases h2 : 60 ≤ j
    · rw [if_pos h2, if_neg (by omega)]
    · rw [if_neg h2, if_neg (by omega), if_pos (by omega)]
theorem s_at_77 {e n : Nat} {im : Nat → Option Nat} {w u : Nat → Nat → Int} {j : Int} (hj : jR j) : (z_F (e + 1)).1 k_Row_at [.ref 77, .int (Int32.ofInt j)] (n, z_q (z_h 72 im), jM w, jL u) = some (Int32.ofInt (if 0 ≤ j ∧ j < 28 then w 78 j.toNat else 0), jM w, jL u) := by
  refine q_Row_at_77 ?_
  have e0 : (Int32.ofNat 28) = Int32.ofInt 28 := rfl
  simp (disch := omega) only [jM, e0, ji_lt0, ji_le, ji_nat]
  by_cases h1 : j < 0
  · rw [if_pos h1, if_neg (by omega)]
  · rw [if_neg h1]
    by_cases h2 : 28 ≤ j
    · rw [if_pos h2, if_neg (by omega)]
    · rw [if_neg h2, if_neg (by omega), if_pos (by omega)]
theorem s_at_80 {e n : Nat} {im : Nat → Option Nat} {w u : Nat → Nat → Int} {j : Int} (hj : jR j) : (z_F (e + 1)).1 k_Row_at [.ref 80, .int (Int32.ofInt j)] (n, z_q (z_h 79 im), jM w, jL u) = some (Int32.ofInt (if 0 ≤ j ∧ j < 8 then w 81 j.toNat else 0), jM w, jL u) := by
  refine q_Row_at_80 ?_
  have e0 : (Int32.ofNat 8) = Int32.ofInt 8 := rfl
  simp (disch := omega) only [jM, e0, ji_lt0, ji_le, ji_nat]
  by_cases h1 : j < 0
  · rw [if_pos h1, if_neg (by omega)]
  · rw [if_neg h1]
    by_cases h2 : 8 ≤ j
    · rw [if_pos h2, if_neg (by omega)]
    · rw [if_neg h2, if_neg (by omega), if_pos (by omega)]
theorem s_at_82 {e n : Nat} {im : Nat → Option Nat} {w u : Nat → Nat → Int} {j : Int} (hj : jR j) : (z_F (e + 1)).1 k_Row_at [.ref 82, .int (Int32.ofInt j)] (n, z_q (z_h 79 im), jM w, jL u) = some (Int32.ofInt (if 0 ≤ j ∧ j < 60 then w 83 j.toNat else 0), jM w, jL u) := by
  refine q_Row_at_82 ?_
  have e0 : (Int32.ofNat 60) = Int32.ofInt 60 := rfl
  simp (disch := omega) only [jM, e0, ji_lt0, ji_le, ji_nat]
  by_cases h1 : j < 0
  · rw [if_pos h1, if_neg (by omega)]
  · rw [if_neg h1]
    by_cases h2 : 60 ≤ j
    · rw [if_pos h2, if_neg (by omega)]
    · rw [if_neg h2, if_neg (by omega), if_pos (by omega)]
theorem s_at_84 {e n : Nat} {im : Nat → Option Nat} {w u : Nat → Nat → Int} {j : Int} (hj : jR j) : (z_F (e + 1)).1 k_Row_at [.ref 84, .int (Int32.ofInt j)] (n, z_q (z_h 79 im), jM w, jL u) = some (Int32.ofInt (if 0 ≤ j ∧ j < 28 then w 85 j.toNat else 0), jM w, jL u) := by
  refine q_Row_at_84 ?_
  have e0 : (Int32.ofNat 28) = Int32.ofInt 28 := rfl
  simp (disch := omega) only [jM, e0, ji_lt0, ji_le, ji_nat]
  by_cases h1 : j < 0
  · rw [if_pos h1, if_neg (by omega)]
  · rw [if_neg h1]
    by_cases h2 : 28 ≤ j
    · rw [if_pos h2, if_neg (by omega)]
    · rw [if_neg h2, if_neg (by omega), if_pos (by omega)]
