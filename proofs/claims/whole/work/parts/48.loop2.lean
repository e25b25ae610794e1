/-! pairs of slips by their results, in the reference -/
theorem l_res_in {e n : Nat} {im : Nat → Option Nat} {w u : Nat → Nat → Int} {a b c f sp p r s2 x : Int} {z : Option Value × zM} (ha0 : 0 ≤ a) (ha9 : a ≤ 9) (hb0 : 0 ≤ b) (hb9 : b ≤ 9) (ta : a_tr (a_T (w 46) a)) (tb : a_tr (a_T (w 46) b)) (hc0 : 0 ≤ c) (hc3 : c ≤ 3) (hf0 : 0 ≤ f) (hf3 : f ≤ 3) (hsp : 0 ≤ sp ∧ sp ≤ 100) (hp : 0 ≤ p ∧ p ≤ 1000) (hr : 0 ≤ r ∧ r ≤ 3) (hg : 0 ≤ w 46 1 ∧ w 46 1 ≤ 12) (hl : jR (w 46 3)) (hh : jR (w 46 4)) (hs : w 46 (10 + 2 * f.toNat + 1) = s2) (hs2 : 0 ≤ s2 ∧ s2 ≤ 4) (hx : -4 ≤ x ∧ x ≤ 4) : ∀ (m : Nat) (y acc : Int), y = s2 + 1 - m → -4 ≤ y →
    z_Rn (z_F (e + 5)) cd_Model_resultsOf 13 [some (.ref 45), some (.int (Int32.ofInt a)), some (.int (Int32.ofInt b)), some (.int (Int32.ofInt c)), some (.int (Int32.ofInt f)), some (.int (Int32.ofInt p)), some (.int (Int32.ofInt r)), some (.int (Int32.ofInt (acc + a_sum (fun y => (if a_rs (a_kd (w 46 3) (w 46 4) (w 46 1 + x - y)) (a_T (w 46) a) (a_T (w 46) b) sp p p = r then 1 else 0)) y m))), some (.int (Int32.ofInt sp)), some (.int (Int32.ofInt (x + 1))), some (.int (Int32.ofInt (s2 + 1)))] (n, z_q im, jM w, jL u) z →
    z_Rn (z_F (e + 5)) cd_Model_resultsOf 24 [some (.ref 45), some (.int (Int32.ofInt a)), some (.int (Int32.ofInt b)), some (.int (Int32.ofInt c)), some (.int (Int32.ofInt f)), some (.int (Int32.ofInt p)), some (.int (Int32.ofInt r)), some (.int (Int32.ofInt acc)), some (.int (Int32.ofInt sp)), some (.int (Int32.ofInt x)), some (.int (Int32.ofInt y))] (n, z_q im, jM w, jL u) z := by
  intro m
  induction m with
  | zero =>
    intro y acc hy hy4 K
    have hy2 : y = s2 + 1 := by omega
    subst hy2
    simp only [a_sum, Int.add_zero] at K
    refine z_go (e_Model_resultsOf_24 _ _ _ _ _ _ _ _ _ _ _ _ _ _ |>.trans ?_) K
    rw [s_slipOf hf0 hf3, z_oI_s, hs]
    simp (disch := omega) only [ji_lt, ji_add]
    rw [if_pos (by omega)]
  | succ m ih =>
    intro y acc hy hy4 K
    have kb := a_rs_b (a_kd (w 46 3) (w 46 4) (w 46 1 + x - y)) (a_T (w 46) a) (a_T (w 46) b) sp p p
    have K2 : z_Rn (z_F (e + 5)) cd_Model_resultsOf 24 [some (.ref 45), some (.int (Int32.ofInt a)), some (.int (Int32.ofInt b)), some (.int (Int32.ofInt c)), some (.int (Int32.ofInt f)), some (.int (Int32.ofInt p)), some (.int (Int32.ofInt r)), some (.int (Int32.ofInt (acc + (if a_rs (a_kd (w 46 3) (w 46 4) (w 46 1 + x - y)) (a_T (w 46) a) (a_T (w 46) b) sp p p = r then 1 else 0)))), some (.int (Int32.ofInt sp)), some (.int (Int32.ofInt x)), some (.int (Int32.ofInt (y + 1)))] (n, z_q im, jM w, jL u) z := by
      refine ih (y + 1) _ (by omega) (by omega) ?_
      rw [Int.add_assoc]
      exact K
    refine z_go (e_Model_resultsOf_24 _ _ _ _ _ _ _ _ _ _ _ _ _ _ |>.trans ?_) K2
    rw [s_slipOf hf0 hf3, z_oI_s, hs]
    simp (disch := omega) only [jM_at, ji_lt, ji_add, ji_sub]
    rw [if_neg (by omega), s_resultOf ha0 ha9 hb0 hb9 ta tb hsp hp hp (by omega) hl hh, z_oI_s]
    simp (disch := omega) only [ji_eq]
    by_cases hk9 : a_rs (a_kd (w 46 3) (w 46 4) (w 46 1 + x - y)) (a_T (w 46) a) (a_T (w 46) b) sp p p = r
    · rw [if_pos hk9, if_pos hk9]
    · rw [if_neg hk9, if_neg hk9]
theorem l_res_out {e n : Nat} {im : Nat → Option Nat} {w u : Nat → Nat → Int} {a b c f sp p r s1 s2 : Int} (ha0 : 0 ≤ a) (ha9 : a ≤ 9) (hb0 : 0 ≤ b) (hb9 : b ≤ 9) (ta : a_tr (a_T (w 46) a)) (tb : a_tr (a_T (w 46) b)) (hc0 : 0 ≤ c) (hc3 : c ≤ 3) (hf0 : 0 ≤ f) (hf3 : f ≤ 3) (hsp : 0 ≤ sp ∧ sp ≤ 100) (hp : 0 ≤ p ∧ p ≤ 1000) (hr : 0 ≤ r ∧ r ≤ 3) (hg : 0 ≤ w 46 1 ∧ w 46 1 ≤ 12) (hl : jR (w 46 3)) (hh : jR (w 46 4)) (hs : w 46 (10 + 2 * c.toNat + 1) = s1) (hs1 : 0 ≤ s1 ∧ s1 ≤ 4) (ht : w 46 (10 + 2 * f.toNat + 1) = s2) (hs2 : 0 ≤ s2 ∧ s2 ≤ 4) : ∀ (m : Nat) (x acc : Int) (q : Option Value), x = s1 + 1 - m → -4 ≤ x →
    z_Rn (z_F (e + 5)) cd_Model_resultsOf 13 [some (.ref 45), some (.int (Int32.ofInt a)), some (.int (Int32.ofInt b)), some (.int (Int32.ofInt c)), some (.int (Int32.ofInt f)), some (.int (Int32.ofInt p)), some (.int (Int32.ofInt r)), some (.int (Int32.ofInt acc)), some (.int (Int32.ofInt sp)), some (.int (Int32.ofInt x)), q] (n, z_q im, jM w, jL u) (some (.int (Int32.ofInt (acc + a_sum (fun x => a_sum (fun y => (if a_rs (a_kd (w 46 3) (w 46 4) (w 46 1 + x - y)) (a_T (w 46) a) (a_T (w 46) b) sp p p = r then 1 else 0)) (-s2) (2 * s2 + 1).toNat) x m))), (n, z_q im, jM w, jL u)) := by
  intro m
  induction m with
  | zero =>
    intro x acc q hx hx4
    refine z_ret (e_Model_resultsOf_13 _ _ _ _ _ _ _ _ _ _ _ _ _ _ |>.trans ?_)
    rw [s_slipOf hc0 hc3, z_oI_s, hs]
    simp (disch := omega) only [ji_lt]
    rw [if_pos (by omega)]
    simp only [a_sum, Int.add_zero]
  | succ m ih =>
    intro x acc q hx hx4
    have K := ih (x + 1) (acc + a_sum (fun y => (if a_rs (a_kd (w 46 3) (w 46 4) (w 46 1 + x - y)) (a_T (w 46) a) (a_T (w 46) b) sp p p = r then 1 else 0)) (-s2) (2 * s2 + 1).toNat) (some (.int (Int32.ofInt (s2 + 1)))) (by omega) (by omega)
    rw [Int.add_assoc] at K
    refine z_go (e_Model_resultsOf_13 _ _ _ _ _ _ _ _ _ _ _ _ _ _ |>.trans ?_) (l_res_in ha0 ha9 hb0 hb9 ta tb hc0 hc3 hf0 hf3 hsp hp hr hg hl hh ht hs2 (x := x) (by omega) (2 * s2 + 1).toNat (-s2) acc (by omega) (by omega) K)
    rw [s_slipOf hc0 hc3, z_oI_s, hs]
    simp (disch := omega) only [ji_lt]
    rw [if_neg (by omega), s_slipOf hf0 hf3, z_oI_s, ht, ji_neg]
/-- how many pairs of slips make a result -/
def a_rn (v : Nat → Int) (a b c f p r : Int) : Int := a_sl (v (10 + 2 * c.toNat + 1)) (v (10 + 2 * f.toNat + 1)) (fun x y => if a_rs (a_kd (v 3) (v 4) (v 1 + x - y)) (a_T v a) (a_T v b) (a_sp v c f) p p = r then 1 else 0)
theorem s_resultsOf {e n : Nat} {im : Nat → Option Nat} {w u : Nat → Nat → Int} {a b c f p r : Int} (ha0 : 0 ≤ a) (ha9 : a ≤ 9) (hb0 : 0 ≤ b) (hb9 : b ≤ 9) (ta : a_tr (a_T (w 46) a)) (tb : a_tr (a_T (w 46) b)) (hc0 : 0 ≤ c) (hc3 : c ≤ 3) (hf0 : 0 ≤ f) (hf3 : f ≤ 3) (hc : a_bo (w 46) c) (hf : a_bo (w 46) f) (h0 : 0 ≤ w 46 0 ∧ w 46 0 ≤ 9) (hp : 0 ≤ p ∧ p ≤ 1000) (hr : 0 ≤ r ∧ r ≤ 3) (hg : 0 ≤ w 46 1 ∧ w 46 1 ≤ 12) (hl : jR (w 46 3)) (hh : jR (w 46 4)) : (z_F (e + 6)).1 k_Model_resultsOf [.ref 45, .int (Int32.ofInt a), .int (Int32.ofInt b), .int (Int32.ofInt c), .int (Int32.ofInt f), .int (Int32.ofInt p), .int (Int32.ofInt r)] (n, z_q im, jM w, jL u) = some (Int32.ofInt (a_rn (w 46) a b c f p r), jM w, jL u) := by
  refine n_Model_resultsOf ?_
  have c2 := hc.2
  have f2 := hf.2
  have hsp := a_sp_b hc hf h0
  have K := l_res_out (e := e) (n := n) (im := im) (u := u) (sp := a_sp (w 46) c f) ha0 ha9 hb0 hb9 ta tb hc0 hc3 hf0 hf3 (by omega) hp hr hg hl hh rfl c2 rfl f2 (2 * w 46 (10 + 2 * c.toNat + 1) + 1).toNat (-w 46 (10 + 2 * c.toNat + 1)) 0 none (by omega) (by omega)
  rw [Int.zero_add] at K
  refine z_go (e_Model_resultsOf_0 _ _ _ _ _ _ _ _ _ _ |>.trans ?_) K
  rw [s_speedOf hc0 hc3 hf0 hf3 hc hf h0, z_oI_s, s_slipOf hc0 hc3, z_oI_s, ji_neg]
theorem s_gainOf {e n : Nat} {im : Nat → Option Nat} {w u : Nat → Nat → Int} {a b c f : Int} (ha0 : 0 ≤ a) (ha9 : a ≤ 9) (hb0 : 0 ≤ b) (hb9 : b ≤ 9) (ta : a_tr (a_T (w 46) a)) (tb : a_tr (a_T (w 46) b)) (hc0 : 0 ≤ c) (hc3 : c ≤ 3) (hf0 : 0 ≤ f) (hf3 : f ≤ 3) (hc : a_bo (w 46) c) (hf : a_bo (w 46) f) (h0 : 0 ≤ w 46 0 ∧ w 46 0 ≤ 9) (hg : 0 ≤ w 46 1 ∧ w 46 1 ≤ 12) (hl : jR (w 46 3)) (hh : jR (w 46 4)) : (z_F (e + 7)).1 k_Model_gainOf [.ref 45, .int (Int32.ofInt a), .int (Int32.ofInt b), .int (Int32.ofInt c), .int (Int32.ofInt f)] (n, z_q im, jM w, jL u) = some (Int32.ofInt (a_rn (w 46) a b c f 0 2 - a_rn (w 46) a b c f 0 1), jM w, jL u) := by
  refine q_Model_gainOf ?_
  rw [s_resultsOf ha0 ha9 hb0 hb9 ta tb hc0 hc3 hf0 hf3 hc hf h0 (by omega) (by omega) hg hl hh, z_oI_s, s_resultsOf ha0 ha9 hb0 hb9 ta tb hc0 hc3 hf0 hf3 hc hf h0 (by omega) (by omega) hg hl hh, z_oI_s, ji_sub]
