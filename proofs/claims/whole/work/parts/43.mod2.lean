/-! the reference: thrust off, why, result; kinds, pairs -/
theorem a_fo_b {t : Nat → Int} {sp p : Int} (ht : a_tr t) (h1 : 0 ≤ sp ∧ sp ≤ 100) (h2 : 0 ≤ p) : 0 ≤ a_fo t sp p ∧ a_fo t sp p ≤ 200 := by
  obtain ⟨t0, t1, t2, t3, t4, t5⟩ := ht
  have hm : 0 ≤ t 3 * p := Int.mul_nonneg t3.1 h2
  unfold a_fo a_mx
  generalize t 3 * p = q at *
  (repeat' split) <;> omega
theorem a_ab_b (a : Int) : 0 ≤ a_ab a := by
  unfold a_ab
  split <;> omega
theorem a_st_b {t : Nat → Int} {fa sp p : Int} (ht : a_tr t) (h1 : 0 ≤ sp ∧ sp ≤ 100) (h2 : 0 ≤ p) : 0 ≤ a_st t fa sp p ∧ a_st t fa sp p ≤ 100 := by
  obtain ⟨t0, t1, t2, t3, t4, t5⟩ := ht
  have hm : 0 ≤ t 3 * p := Int.mul_nonneg t3.1 h2
  have hb := a_ab_b (t 4 - 2)
  unfold a_st a_mx
  generalize t 3 * p = q at *
  generalize a_ab (t 4 - 2) = r at *
  (repeat' split) <;> omega
theorem s_thrOff {e n : Nat} {im : Nat → Option Nat} {w u : Nat → Nat → Int} {a b sp p po : Int} (h0 : 0 ≤ a) (h9 : a ≤ 9) (hb0 : 0 ≤ b) (hb9 : b ≤ 9) (ht : a_tr (a_T (w 46) a)) (hf : a_tr (a_T (w 46) b)) (h1 : 0 ≤ sp ∧ sp ≤ 100) (h2 : 0 ≤ p ∧ p ≤ 1000) (h3 : 0 ≤ po ∧ po ≤ 1000) : (z_F (e + 3)).1 k_Model_isThrustOff [.ref 45, .int (Int32.ofInt a), .int (Int32.ofInt b), .int (Int32.ofInt sp), .int (Int32.ofInt p), .int (Int32.ofInt po)] (n, z_q im, jM w, jL u) = some (Int32.ofInt (if a_T (w 46) b 5 ≠ 2 ∧ a_st (a_T (w 46) a) (a_T (w 46) b 5) sp p < a_fo (a_T (w 46) b) sp po then 1 else 0), jM w, jL u) := by
  have f5 := hf.2.2.2.2.2
  have k1 := a_fo_b (sp := sp) (p := po) hf h1 h3.1
  have k2 := a_st_b (fa := a_T (w 46) b 5) (sp := sp) (p := p) ht h1 h2.1
  refine q_Model_isThrustOff ?_
  rw [s_of_5 hb0 hb9, z_oI_s, s_forceOf hb0 hb9 hf h1 h3, z_oI_s, s_standsOf h0 h9 hb0 hb9 ht hf h1 h2, z_oI_s]
  simp (disch := omega) only [ji_eq, ji_le, z_fI]
  refine z_lf ?_
  (repeat' split) <;> omega
theorem s_whyOf {e n : Nat} {im : Nat → Option Nat} {w u : Nat → Nat → Int} {a b sp p po g : Int} (h0 : 0 ≤ a) (h9 : a ≤ 9) (hb0 : 0 ≤ b) (hb9 : b ≤ 9) (ht : a_tr (a_T (w 46) a)) (hf : a_tr (a_T (w 46) b)) (h1 : 0 ≤ sp ∧ sp ≤ 100) (h2 : 0 ≤ p ∧ p ≤ 1000) (h3 : 0 ≤ po ∧ po ≤ 1000) (hg : jR g) (hl : jR (w 46 3)) (hh : jR (w 46 4)) : (z_F (e + 4)).1 k_Model_whyOf [.ref 45, .int (Int32.ofInt a), .int (Int32.ofInt b), .int (Int32.ofInt sp), .int (Int32.ofInt p), .int (Int32.ofInt po), .int (Int32.ofInt g)] (n, z_q im, jM w, jL u) = some (Int32.ofInt (a_ft (a_kd (w 46 3) (w 46 4) g) (a_T (w 46) a) (a_T (w 46) b) sp p po), jM w, jL u) := by
  have t4 := ht.2.2.2.2.1
  have t5 := ht.2.2.2.2.2
  have f5 := hf.2.2.2.2.2
  refine q_Model_whyOf ?_
  rw [s_of_5 h0 h9, z_oI_s, s_of_4 h0 h9, z_oI_s, s_thrOff h0 h9 hb0 hb9 ht hf h1 h2 h3, z_oI_s]
  simp (disch := omega) only [jM, ji_le, ji_eq, ji_b, z_fI]
  refine z_lf ?_
  unfold a_ft a_kd
  by_cases c1 : w 46 3 ≤ g
  · rw [if_pos c1, if_neg (show ¬ g < w 46 3 by omega)]
    by_cases c2 : g ≤ w 46 4
    · rw [if_pos c2, if_neg (show ¬ w 46 4 < g by omega), if_neg (show ¬ (1 : Int) = 0 by decide), if_neg (show ¬ (1 : Int) = 2 by decide)]
      (repeat' split) <;> omega
    · rw [if_neg c2, if_pos (show w 46 4 < g by omega), if_neg (show ¬ (2 : Int) = 0 by decide), if_pos rfl]
  · rw [if_neg c1, if_pos (show g < w 46 3 by omega), if_pos rfl]
theorem s_resultOf {e n : Nat} {im : Nat → Option Nat} {w u : Nat → Nat → Int} {a b sp p po g : Int} (h0 : 0 ≤ a) (h9 : a ≤ 9) (hb0 : 0 ≤ b) (hb9 : b ≤ 9) (ht : a_tr (a_T (w 46) a)) (hf : a_tr (a_T (w 46) b)) (h1 : 0 ≤ sp ∧ sp ≤ 100) (h2 : 0 ≤ p ∧ p ≤ 1000) (h3 : 0 ≤ po ∧ po ≤ 1000) (hg : jR g) (hl : jR (w 46 3)) (hh : jR (w 46 4)) : (z_F (e + 5)).1 k_Model_resultOf [.ref 45, .int (Int32.ofInt a), .int (Int32.ofInt b), .int (Int32.ofInt sp), .int (Int32.ofInt p), .int (Int32.ofInt po), .int (Int32.ofInt g)] (n, z_q im, jM w, jL u) = some (Int32.ofInt (a_rs (a_kd (w 46 3) (w 46 4) g) (a_T (w 46) a) (a_T (w 46) b) sp p po), jM w, jL u) := by
  have k1 := a_ft_b (a_kd (w 46 3) (w 46 4) g) (a_T (w 46) a) (a_T (w 46) b) sp p po
  have k2 := a_ft_b (a_kd (w 46 3) (w 46 4) g) (a_T (w 46) b) (a_T (w 46) a) sp po p
  refine q_Model_resultOf ?_
  simp only [s_whyOf h0 h9 hb0 hb9 ht hf h1 h2 h3 hg hl hh, s_whyOf hb0 hb9 h0 h9 hf ht h1 h3 h2 hg hl hh, z_oI_s]
  simp (disch := omega) only [ji_eq0, ji_add, z_fI]
  refine z_lf ?_
  unfold a_rs
  (repeat' split) <;> omega
theorem s_kindOf {e n : Nat} {im : Nat → Option Nat} {w u : Nat → Nat → Int} {g : Int} (hg : jR g) (hl : jR (w 46 3)) (hh : jR (w 46 4)) : (z_F (e + 1)).1 k_Model_kindOf [.ref 45, .int (Int32.ofInt g)] (n, z_q im, jM w, jL u) = some (Int32.ofInt (a_kd (w 46 3) (w 46 4) g), jM w, jL u) := by
  refine q_Model_kindOf ?_
  simp (disch := omega) only [jM, ji_le, z_fI]
  refine z_lf ?_
  unfold a_kd
  (repeat' split) <;> omega
theorem s_pairsOf {e n : Nat} {im : Nat → Option Nat} {w u : Nat → Nat → Int} {b c : Int} (h0 : 0 ≤ b) (h9 : b ≤ 3) (h1 : 0 ≤ c) (h2 : c ≤ 3) : (z_F (e + 2)).1 k_Model_pairsOf [.ref 45, .int (Int32.ofInt b), .int (Int32.ofInt c)] (n, z_q im, jM w, jL u) = some (Int32.ofInt ((2 * w 46 (10 + 2 * b.toNat + 1) + 1) * (2 * w 46 (10 + 2 * c.toNat + 1) + 1)), jM w, jL u) := by
  refine q_Model_pairsOf ?_
  simp (disch := omega) only [s_slipOf, z_oI_s, ji_add, ji_mul]
theorem s_areSo {e n : Nat} {im : Nat → Option Nat} {w u : Nat → Nat → Int} {a b c f : Int} (ha : jR a) (hb : jR b) (hc : jR c) (hf : jR f) (h7 : 0 ≤ w 46 7 ∧ w 46 7 ≤ 10) (h6 : 0 ≤ w 46 6 ∧ w 46 6 ≤ 4) : (z_F (e + 3)).1 k_Model_areSo [.ref 45, .int (Int32.ofInt a), .int (Int32.ofInt b), .int (Int32.ofInt c), .int (Int32.ofInt f)] (n, z_q im, jM w, jL u) = some (Int32.ofInt (if (0 ≤ a ∧ a < w 46 7) ∧ (0 ≤ b ∧ b < w 46 7) ∧ a ≠ b ∧ (0 ≤ c ∧ c < w 46 6) ∧ (0 ≤ f ∧ f < w 46 6) then 1 else 0), jM w, jL u) := by
  refine q_Model_areSo ?_
  simp (disch := omega) only [jl_of, s_isMan, s_isBoat, z_oI_s, ji_b, ji_eq, z_fI]
  refine z_lf ?_
  (repeat' split) <;> omega
