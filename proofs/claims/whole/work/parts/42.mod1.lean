/-! the reference: its world, speed, force, how one stands, what becomes of one -/
abbrev jQ (a : Int) : Prop := -9223372036854775808 ≤ a ∧ a < 9223372036854775808
theorem jl_toInt {a : Int} (h : jQ a) : (Int64.ofInt a).toInt = a := Int64.toInt_ofInt_of_le h.1 h.2
theorem jl_lt {a b : Int} (ha : jQ a) (hb : jQ b) : Int64.ofInt a < Int64.ofInt b ↔ a < b := by rw [Int64.lt_iff_toInt_lt, jl_toInt ha, jl_toInt hb]
theorem jl_le {a b : Int} (ha : jQ a) (hb : jQ b) : Int64.ofInt a ≤ Int64.ofInt b ↔ a ≤ b := by rw [Int64.le_iff_toInt_le, jl_toInt ha, jl_toInt hb]
theorem jl_eq {a b : Int} (ha : jQ a) (hb : jQ b) : Int64.ofInt a = Int64.ofInt b ↔ a = b := by rw [← Int64.toInt_inj, jl_toInt ha, jl_toInt hb]
theorem jl_of {a : Int} (h : jR a) : Int32.toInt64 (Int32.ofInt a) = Int64.ofInt a := by
  apply Int64.toInt.inj
  rw [Int32.toInt_toInt64, ji_toInt h, jl_toInt ⟨by omega, by omega⟩]
theorem lc_lt (x y : Int64) : lg_cmp x y < 0 ↔ x < y := by
  unfold lg_cmp
  by_cases h1 : x > y
  · rw [if_pos h1]
    have h1b : y < x := h1
    have : ¬ x < y := by rw [Int64.lt_iff_toInt_lt] at h1b ⊢; omega
    simp only [this, iff_false]; decide
  · rw [if_neg h1]
    by_cases h2 : x = y
    · rw [if_pos h2]
      have : ¬ x < y := by rw [h2]; exact Int64.lt_irrefl
      simp only [this, iff_false]; decide
    · rw [if_neg h2]
      have : x < y := by
        rw [Int64.lt_iff_toInt_lt]
        have h3 : ¬ y.toInt < x.toInt := fun q => h1 (Int64.lt_iff_toInt_lt.mpr q)
        have h4 : x.toInt ≠ y.toInt := fun q => h2 (Int64.toInt_inj.mp q)
        omega
      simp only [this, iff_true]; decide
theorem lc_gt (x y : Int64) : 0 < lg_cmp x y ↔ y < x := by
  unfold lg_cmp
  by_cases h1 : x > y
  · rw [if_pos h1]
    have : y < x := h1
    simp only [this, iff_true]; decide
  · rw [if_neg h1]
    have : ¬ y < x := h1
    simp only [this, iff_false]
    split <;> decide
theorem ji_ite (c : Prop) {dc : Decidable c} (a b : Int) : (@ite Int32 c dc (Int32.ofInt a) (Int32.ofInt b)) = Int32.ofInt (@ite Int c dc a b) := by
  by_cases h : c <;> simp only [h, if_true, if_false]
theorem ji_0sub (a : Int) : (0 : Int32) - Int32.ofInt a = Int32.ofInt (0 - a) := ji_sub 0 a
theorem ji_b (c : Prop) {dc : Decidable c} : (Int32.ofInt (@ite Int c dc 1 0) = 0) ↔ ¬ c := by
  by_cases h : c <;> simp only [h, if_true, if_false] <;> decide
theorem ji_b1 (c : Prop) {dc : Decidable c} : (Int32.ofInt (@ite Int c dc 1 0) = 1) ↔ c := by
  by_cases h : c <;> simp only [h, if_true, if_false] <;> decide
theorem ji_bb (c : Prop) {dc : Decidable c} : (Int32.ofInt (@ite Int c dc 1 0) = 0 ∨ Int32.ofInt (@ite Int c dc 1 0) = 1) ↔ True := by
  by_cases h : c <;> simp only [h, if_true, if_false] <;> decide
/-- a man's traits in the world's row -/
def a_T (v : Nat → Int) (a : Int) : Nat → Int := fun j => v (18 + 6 * a.toNat + j)
theorem kl_0 : z_kl 0 = Int64.ofInt (0) := rfl
theorem kl_1 : z_kl 1 = Int64.ofInt (1) := rfl
theorem kl_2 : z_kl 2 = Int64.ofInt (-2) := rfl
theorem kl_3 : z_kl 3 = Int64.ofInt (-1) := rfl
theorem kl_4 : z_kl 4 = Int64.ofInt (3) := rfl
theorem kl_5 : z_kl 5 = Int64.ofInt (2) := rfl
theorem kl_6 : z_kl 6 = Int64.ofInt (97) := rfl
theorem kl_7 : z_kl 7 = Int64.ofInt (122) := rfl
theorem kl_8 : z_kl 8 = Int64.ofInt (48) := rfl
theorem kl_9 : z_kl 9 = Int64.ofInt (57) := rfl
theorem kl_10 : z_kl 10 = Int64.ofInt (5) := rfl
theorem kl_11 : z_kl 11 = Int64.ofInt (99) := rfl
theorem kl_12 : z_kl 12 = Int64.ofInt (20) := rfl
theorem kl_13 : z_kl 13 = Int64.ofInt (1103515245) := rfl
theorem kl_14 : z_kl 14 = Int64.ofInt (12345) := rfl
theorem kl_15 : z_kl 15 = Int64.ofInt (2147483648) := rfl
theorem kl_16 : z_kl 16 = Int64.ofInt (65536) := rfl
theorem kl_17 : z_kl 17 = Int64.ofInt (12) := rfl
theorem kl_18 : z_kl 18 = Int64.ofInt (100) := rfl
theorem kl_19 : z_kl 19 = Int64.ofInt (9) := rfl
theorem kl_20 : z_kl 20 = Int64.ofInt (40) := rfl
theorem kl_21 : z_kl 21 = Int64.ofInt (200) := rfl
theorem kl_22 : z_kl 22 = Int64.ofInt (30) := rfl
theorem kl_23 : z_kl 23 = Int64.ofInt (4) := rfl
theorem kl_24 : z_kl 24 = Int64.ofInt (7) := rfl
theorem kl_25 : z_kl 25 = Int64.ofInt (50) := rfl
theorem kl_26 : z_kl 26 = Int64.ofInt (999) := rfl
theorem kl_27 : z_kl 27 = Int64.ofInt (2000000000) := rfl
theorem kl_28 : z_kl 28 = Int64.ofInt (2147483647) := rfl
theorem kl_29 : z_kl 29 = Int64.ofInt (4294967295) := rfl
theorem s_in {e n : Nat} {im : Nat → Option Nat} {d : zD} {a b c : Int} (ha : jQ a) (hb : jQ b) (hc : jQ c) : (z_F (e + 1)).1 k_Model_in [.long (Int64.ofInt a), .long (Int64.ofInt b), .long (Int64.ofInt c)] (n, z_q im, d) = some (Int32.ofInt (if b ≤ a ∧ a ≤ c then 1 else 0), d) := by
  refine q_Model_in ?_
  simp (disch := omega) only [lc_lt, lc_gt, jl_lt, z_fI]
  refine z_lf ?_
  (repeat' split) <;> omega
theorem s_isBoat {e n : Nat} {im : Nat → Option Nat} {w u : Nat → Nat → Int} {a : Int} (ha : jR a) (h1 : 0 ≤ w 46 6 ∧ w 46 6 ≤ 4) : (z_F (e + 2)).1 k_Model_isBoat [.ref 45, .int (Int32.ofInt a)] (n, z_q im, jM w, jL u) = some (Int32.ofInt (if 0 ≤ a ∧ a < w 46 6 then 1 else 0), jM w, jL u) := by
  refine q_Model_isBoat ?_
  simp (disch := omega) only [jM, ji_sub, jl_of, kl_0, s_in, z_oI_s, ji_bb, if_true]
  exact z_lf (by (repeat' split) <;> omega)
theorem s_isTeam {e n : Nat} {im : Nat → Option Nat} {w u : Nat → Nat → Int} {a : Int} (ha : jR a) (h1 : 0 ≤ w 46 8 ∧ w 46 8 ≤ 4) : (z_F (e + 2)).1 k_Model_isTeam [.ref 45, .int (Int32.ofInt a)] (n, z_q im, jM w, jL u) = some (Int32.ofInt (if 0 ≤ a ∧ a < w 46 8 then 1 else 0), jM w, jL u) := by
  refine q_Model_isTeam ?_
  simp (disch := omega) only [jM, ji_sub, jl_of, kl_0, s_in, z_oI_s, ji_bb, if_true]
  exact z_lf (by (repeat' split) <;> omega)
theorem s_isMan {e n : Nat} {im : Nat → Option Nat} {w u : Nat → Nat → Int} {a : Int} (ha : jQ a) (h1 : 0 ≤ w 46 7 ∧ w 46 7 ≤ 10) : (z_F (e + 2)).1 k_Model_isMan [.ref 45, .long (Int64.ofInt a)] (n, z_q im, jM w, jL u) = some (Int32.ofInt (if 0 ≤ a ∧ a < w 46 7 then 1 else 0), jM w, jL u) := by
  refine q_Model_isMan ?_
  simp (disch := omega) only [jM, ji_sub, jl_of, kl_0, s_in, z_oI_s, ji_bb, if_true]
  exact z_lf (by (repeat' split) <;> omega)
theorem s_of_0 {e n : Nat} {im : Nat → Option Nat} {w u : Nat → Nat → Int} {a : Int} (h0 : 0 ≤ a) (h9 : a ≤ 9) : (z_F (e + 1)).1 k_Model_of [.ref 45, .int (Int32.ofInt a), .int (Int32.ofInt 0)] (n, z_q im, jM w, jL u) = some (Int32.ofInt (a_T (w 46) a 0), jM w, jL u) := by
  refine q_Model_of ?_
  have e1 : (18 + 6 * a + 0).toNat = 18 + 6 * a.toNat + 0 := by omega
  simp (disch := omega) only [jM, ji_add, ji_mul, ji_lt0, ji_nat, e1]
  rw [if_neg (by omega)]
  rfl
theorem s_of_1 {e n : Nat} {im : Nat → Option Nat} {w u : Nat → Nat → Int} {a : Int} (h0 : 0 ≤ a) (h9 : a ≤ 9) : (z_F (e + 1)).1 k_Model_of [.ref 45, .int (Int32.ofInt a), .int (Int32.ofInt 1)] (n, z_q im, jM w, jL u) = some (Int32.ofInt (a_T (w 46) a 1), jM w, jL u) := by
  refine q_Model_of ?_
  have e1 : (18 + 6 * a + 1).toNat = 18 + 6 * a.toNat + 1 := by omega
  simp (disch := omega) only [jM, ji_add, ji_mul, ji_lt0, ji_nat, e1]
  rw [if_neg (by omega)]
  rfl
theorem s_of_2 {e n : Nat} {im : Nat → Option Nat} {w u : Nat → Nat → Int} {a : Int} (h0 : 0 ≤ a) (h9 : a ≤ 9) : (z_F (e + 1)).1 k_Model_of [.ref 45, .int (Int32.ofInt a), .int (Int32.ofInt 2)] (n, z_q im, jM w, jL u) = some (Int32.ofInt (a_T (w 46) a 2), jM w, jL u) := by
  refine q_Model_of ?_
  have e1 : (18 + 6 * a + 2).toNat = 18 + 6 * a.toNat + 2 := by omega
  simp (disch := omega) only [jM, ji_add, ji_mul, ji_lt0, ji_nat, e1]
  rw [if_neg (by omega)]
  rfl
theorem s_of_3 {e n : Nat} {im : Nat → Option Nat} {w u : Nat → Nat → Int} {a : Int} (h0 : 0 ≤ a) (h9 : a ≤ 9) : (z_F (e + 1)).1 k_Model_of [.ref 45, .int (Int32.ofInt a), .int (Int32.ofInt 3)] (n, z_q im, jM w, jL u) = some (Int32.ofInt (a_T (w 46) a 3), jM w, jL u) := by
  refine q_Model_of ?_
  have e1 : (18 + 6 * a + 3).toNat = 18 + 6 * a.toNat + 3 := by omega
  simp (disch := omega) only [jM, ji_add, ji_mul, ji_lt0, ji_nat, e1]
  rw [if_neg (by omega)]
  rfl
theorem s_of_4 {e n : Nat} {im : Nat → Option Nat} {w u : Nat → Nat → Int} {a : Int} (h0 : 0 ≤ a) (h9 : a ≤ 9) : (z_F (e + 1)).1 k_Model_of [.ref 45, .int (Int32.ofInt a), .int (Int32.ofInt 4)] (n, z_q im, jM w, jL u) = some (Int32.ofInt (a_T (w 46) a 4), jM w, jL u) := by
  refine q_Model_of ?_
  have e1 : (18 + 6 * a + 4).toNat = 18 + 6 * a.toNat + 4 := by omega
  simp (disch := omega) only [jM, ji_add, ji_mul, ji_lt0, ji_nat, e1]
  rw [if_neg (by omega)]
  rfl
theorem s_of_5 {e n : Nat} {im : Nat → Option Nat} {w u : Nat → Nat → Int} {a : Int} (h0 : 0 ≤ a) (h9 : a ≤ 9) : (z_F (e + 1)).1 k_Model_of [.ref 45, .int (Int32.ofInt a), .int (Int32.ofInt 5)] (n, z_q im, jM w, jL u) = some (Int32.ofInt (a_T (w 46) a 5), jM w, jL u) := by
  refine q_Model_of ?_
  have e1 : (18 + 6 * a + 5).toNat = 18 + 6 * a.toNat + 5 := by omega
  simp (disch := omega) only [jM, ji_add, ji_mul, ji_lt0, ji_nat, e1]
  rw [if_neg (by omega)]
  rfl
theorem s_oarsOf {e n : Nat} {im : Nat → Option Nat} {w u : Nat → Nat → Int} {a : Int} (h0 : 0 ≤ a) (h9 : a ≤ 3) : (z_F (e + 1)).1 k_Model_oarsOf [.ref 45, .int (Int32.ofInt a)] (n, z_q im, jM w, jL u) = some (Int32.ofInt (w 46 (10 + 2 * a.toNat)), jM w, jL u) := by
  refine q_Model_oarsOf ?_
  have e1 : (10 + 2 * a).toNat = 10 + 2 * a.toNat := by omega
  simp (disch := omega) only [jM, ji_add, ji_mul, ji_lt0, ji_nat, e1]
  rw [if_neg (by omega)]
theorem s_slipOf {e n : Nat} {im : Nat → Option Nat} {w u : Nat → Nat → Int} {a : Int} (h0 : 0 ≤ a) (h9 : a ≤ 3) : (z_F (e + 1)).1 k_Model_slipOf [.ref 45, .int (Int32.ofInt a)] (n, z_q im, jM w, jL u) = some (Int32.ofInt (w 46 (10 + 2 * a.toNat + 1)), jM w, jL u) := by
  refine q_Model_slipOf ?_
  have e1 : (10 + 2 * a + 1).toNat = 10 + 2 * a.toNat + 1 := by omega
  simp (disch := omega) only [jM, ji_add, ji_mul, ji_lt0, ji_nat, e1]
  rw [if_neg (by omega)]
theorem s_boatOf {e n : Nat} {im : Nat → Option Nat} {w u : Nat → Nat → Int} {a : Int} (h0 : 0 ≤ a) (h9 : a ≤ 3) : (z_F (e + 1)).1 k_Model_boatOf [.ref 45, .int (Int32.ofInt a)] (n, z_q im, jM w, jL u) = some (Int32.ofInt (w 46 (78 + 7 * a.toNat)), jM w, jL u) := by
  refine q_Model_boatOf ?_
  have e1 : (78 + 7 * a).toNat = 78 + 7 * a.toNat := by omega
  simp (disch := omega) only [jM, ji_add, ji_mul, ji_lt0, ji_nat, e1]
  rw [if_neg (by omega)]
theorem s_manyOf {e n : Nat} {im : Nat → Option Nat} {w u : Nat → Nat → Int} {a : Int} (h0 : 0 ≤ a) (h9 : a ≤ 3) : (z_F (e + 1)).1 k_Model_manyOf [.ref 45, .int (Int32.ofInt a)] (n, z_q im, jM w, jL u) = some (Int32.ofInt (w 46 (78 + 7 * a.toNat + 1)), jM w, jL u) := by
  refine q_Model_manyOf ?_
  have e1 : (78 + 7 * a + 1).toNat = 78 + 7 * a.toNat + 1 := by omega
  simp (disch := omega) only [jM, ji_add, ji_mul, ji_lt0, ji_nat, e1]
  rw [if_neg (by omega)]
theorem s_memberOf {e n : Nat} {im : Nat → Option Nat} {w u : Nat → Nat → Int} {a i : Int} (h0 : 0 ≤ a) (h9 : a ≤ 3) (h1 : 0 ≤ i) (h2 : i ≤ 4) : (z_F (e + 1)).1 k_Model_memberOf [.ref 45, .int (Int32.ofInt a), .int (Int32.ofInt i)] (n, z_q im, jM w, jL u) = some (Int32.ofInt (w 46 (78 + 7 * a.toNat + 2 + i.toNat)), jM w, jL u) := by
  refine q_Model_memberOf ?_
  have e1 : (78 + 7 * a + 2 + i).toNat = 78 + 7 * a.toNat + 2 + i.toNat := by omega
  simp (disch := omega) only [jM, ji_add, ji_mul, ji_lt0, ji_nat, e1]
  rw [if_neg (by omega)]
def a_sp (v : Nat → Int) (b o : Int) : Int := a_mx (v (10 + 2 * b.toNat) + v (10 + 2 * o.toNat) - v 0)
/-- a boat as told -/
def a_bo (v : Nat → Int) (b : Int) : Prop := (2 ≤ v (10 + 2 * b.toNat) ∧ v (10 + 2 * b.toNat) ≤ 12) ∧ (0 ≤ v (10 + 2 * b.toNat + 1) ∧ v (10 + 2 * b.toNat + 1) ≤ 4)
theorem s_speedOf {e n : Nat} {im : Nat → Option Nat} {w u : Nat → Nat → Int} {b o : Int} (h0 : 0 ≤ b) (h9 : b ≤ 3) (h1 : 0 ≤ o) (h2 : o ≤ 3) (hb : a_bo (w 46) b) (ho : a_bo (w 46) o) (hs : 0 ≤ w 46 0 ∧ w 46 0 ≤ 9) : (z_F (e + 2)).1 k_Model_speedOf [.ref 45, .int (Int32.ofInt b), .int (Int32.ofInt o)] (n, z_q im, jM w, jL u) = some (Int32.ofInt (a_sp (w 46) b o), jM w, jL u) := by
  obtain ⟨b1, b2⟩ := hb
  obtain ⟨o1, o2⟩ := ho
  refine q_Model_speedOf ?_
  simp (disch := omega) only [s_oarsOf, z_oI_s, jM, ji_add, ji_sub, ji_lt, ji_ite]
  exact z_lf rfl
theorem a_sp_b {v : Nat → Int} {b o : Int} (hb : a_bo v b) (ho : a_bo v o) (hs : 0 ≤ v 0 ∧ v 0 ≤ 9) : 0 ≤ a_sp v b o ∧ a_sp v b o ≤ 24 := by
  obtain ⟨b1, b2⟩ := hb
  obtain ⟨o1, o2⟩ := ho
  unfold a_sp a_mx
  split <;> omega
theorem s_forceOf {e n : Nat} {im : Nat → Option Nat} {w u : Nat → Nat → Int} {a sp p : Int} (h0 : 0 ≤ a) (h9 : a ≤ 9) (ht : a_tr (a_T (w 46) a)) (h1 : 0 ≤ sp ∧ sp ≤ 100) (h2 : 0 ≤ p ∧ p ≤ 1000) : (z_F (e + 2)).1 k_Model_forceOf [.ref 45, .int (Int32.ofInt a), .int (Int32.ofInt sp), .int (Int32.ofInt p)] (n, z_q im, jM w, jL u) = some (Int32.ofInt (a_fo (a_T (w 46) a) sp p), jM w, jL u) := by
  obtain ⟨t0, t1, t2, t3, t4, t5⟩ := ht
  have hm : 0 ≤ a_T (w 46) a 3 * p ∧ a_T (w 46) a 3 * p ≤ 9000 := ⟨Int.mul_nonneg t3.1 h2.1, Int.le_trans (Int.mul_le_mul_of_nonneg_right t3.2 h2.1) (by omega)⟩
  refine q_Model_forceOf ?_
  simp (disch := omega) only [s_of_5, s_of_2, s_of_4, s_of_3, z_oI_s, ji_add, ji_sub, ji_mul, ji_eq0, ji_eq, ji_lt, ji_ite, z_fI]
  refine z_lf ?_
  unfold a_fo a_mx
  generalize a_T (w 46) a 3 * p = q at *
  (repeat' split) <;> omega
theorem s_standsOf {e n : Nat} {im : Nat → Option Nat} {w u : Nat → Nat → Int} {a b sp p : Int} (h0 : 0 ≤ a) (h9 : a ≤ 9) (hb0 : 0 ≤ b) (hb9 : b ≤ 9) (ht : a_tr (a_T (w 46) a)) (hf : a_tr (a_T (w 46) b)) (h1 : 0 ≤ sp ∧ sp ≤ 100) (h2 : 0 ≤ p ∧ p ≤ 1000) : (z_F (e + 2)).1 k_Model_standsOf [.ref 45, .int (Int32.ofInt a), .int (Int32.ofInt b), .int (Int32.ofInt sp), .int (Int32.ofInt p)] (n, z_q im, jM w, jL u) = some (Int32.ofInt (a_st (a_T (w 46) a) (a_T (w 46) b 5) sp p), jM w, jL u) := by
  obtain ⟨t0, t1, t2, t3, t4, t5⟩ := ht
  have f5 := hf.2.2.2.2.2
  have hm : 0 ≤ a_T (w 46) a 3 * p ∧ a_T (w 46) a 3 * p ≤ 9000 := ⟨Int.mul_nonneg t3.1 h2.1, Int.le_trans (Int.mul_le_mul_of_nonneg_right t3.2 h2.1) (by omega)⟩
  have e1 : (a_T (w 46) a 0).tdiv 10 = a_T (w 46) a 0 / 10 := Int.tdiv_eq_ediv_of_nonneg (by omega)
  have e2 : sp.tdiv 2 = sp / 2 := Int.tdiv_eq_ediv_of_nonneg (by omega)
  have e3 : (a_T (w 46) a 3 * p).tdiv 2 = a_T (w 46) a 3 * p / 2 := Int.tdiv_eq_ediv_of_nonneg (by omega)
  refine q_Model_standsOf ?_
  simp (disch := omega) only [s_of_0, s_of_1, s_of_5, s_of_4, s_of_3, z_oI_s, ji_add, ji_sub, ji_mul, ji_div, e1, e2, e3, ji_0sub, ji_eq, ji_0le, ji_ite]
  have hab : 0 ≤ (if 0 ≤ a_T (w 46) a 4 - 2 then a_T (w 46) a 4 - 2 else 0 - (a_T (w 46) a 4 - 2)) ∧ (if 0 ≤ a_T (w 46) a 4 - 2 then a_T (w 46) a 4 - 2 else 0 - (a_T (w 46) a 4 - 2)) ≤ 2 := by split <;> omega
  simp (disch := omega) only [ji_add, ji_sub, ji_mul, ji_lt, ji_ite, z_fI]
  refine z_lf ?_
  unfold a_st a_mx a_ab
  generalize a_T (w 46) a 3 * p = q at *
  (repeat' split) <;> omega
