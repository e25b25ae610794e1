/-! pairs of slips, in the reference -/
def a_sum (f : Int → Int) : Int → Nat → Int
  | _, 0 => 0
  | x, m + 1 => f x + a_sum f (x + 1) m
/-- over all pairs of slips -/
def a_sl (s1 s2 : Int) (f : Int → Int → Int) : Int := a_sum (fun x => a_sum (fun y => f x y) (-s2) (2 * s2 + 1).toNat) (-s1) (2 * s1 + 1).toNat
theorem ji_z : Int32.ofInt 0 = (0 : Int32) := rfl
theorem l_coming_in {e n : Nat} {im : Nat → Option Nat} {w u : Nat → Nat → Int} {b c g k s2 x : Int} {r : Option Value × zM} (hb0 : 0 ≤ b) (hb3 : b ≤ 3) (hc0 : 0 ≤ c) (hc3 : c ≤ 3) (hs : w 46 (10 + 2 * c.toNat + 1) = s2) (hs2 : 0 ≤ s2 ∧ s2 ≤ 4) (hx : -4 ≤ x ∧ x ≤ 4) (hg : -100 ≤ g ∧ g ≤ 100) (hk : 0 ≤ k ∧ k ≤ 2) (hl : jR (w 46 3)) (hh : jR (w 46 4)) : ∀ (m : Nat) (y acc : Int), y = s2 + 1 - m → -4 ≤ y →
    z_Rn (z_F (e + 1)) cd_Model_comingOf 8 [some (.ref 45), some (.int (Int32.ofInt b)), some (.int (Int32.ofInt c)), some (.int (Int32.ofInt g)), some (.int (Int32.ofInt k)), some (.int (Int32.ofInt (acc + a_sum (fun y => if a_kd (w 46 3) (w 46 4) (g + x - y) = k then 1 else 0) y m))), some (.int (Int32.ofInt (x + 1))), some (.int (Int32.ofInt (s2 + 1)))] (n, z_q im, jM w, jL u) r →
    z_Rn (z_F (e + 1)) cd_Model_comingOf 19 [some (.ref 45), some (.int (Int32.ofInt b)), some (.int (Int32.ofInt c)), some (.int (Int32.ofInt g)), some (.int (Int32.ofInt k)), some (.int (Int32.ofInt acc)), some (.int (Int32.ofInt x)), some (.int (Int32.ofInt y))] (n, z_q im, jM w, jL u) r := by
  intro m
  induction m with
  | zero =>
    intro y acc hy hy4 K
    have hy2 : y = s2 + 1 := by omega
    subst hy2
    simp only [a_sum, Int.add_zero] at K
    refine z_go (e_Model_comingOf_19 _ _ _ _ _ _ _ _ _ _ _ |>.trans ?_) K
    rw [s_slipOf hc0 hc3, z_oI_s, hs]
    simp (disch := omega) only [ji_lt, ji_add]
    rw [if_pos (by omega)]
  | succ m ih =>
    intro y acc hy hy4 K
    have kb := a_kd_b (w 46 3) (w 46 4) (g + x - y)
    have K2 : z_Rn (z_F (e + 1)) cd_Model_comingOf 19 [some (.ref 45), some (.int (Int32.ofInt b)), some (.int (Int32.ofInt c)), some (.int (Int32.ofInt g)), some (.int (Int32.ofInt k)), some (.int (Int32.ofInt (acc + (if a_kd (w 46 3) (w 46 4) (g + x - y) = k then 1 else 0)))), some (.int (Int32.ofInt x)), some (.int (Int32.ofInt (y + 1)))] (n, z_q im, jM w, jL u) r := by
      refine ih (y + 1) _ (by omega) (by omega) ?_
      rw [Int.add_assoc]
      exact K
    refine z_go (e_Model_comingOf_19 _ _ _ _ _ _ _ _ _ _ _ |>.trans ?_) K2
    rw [s_slipOf hc0 hc3, z_oI_s, hs]
    simp (disch := omega) only [ji_lt, ji_add, ji_sub]
    rw [if_neg (by omega), s_kindOf (by omega) hl hh, z_oI_s]
    simp (disch := omega) only [ji_eq]
    by_cases hk9 : a_kd (w 46 3) (w 46 4) (g + x - y) = k
    · rw [if_pos hk9, if_pos hk9]
    · rw [if_neg hk9, if_neg hk9]
theorem l_coming_out {e n : Nat} {im : Nat → Option Nat} {w u : Nat → Nat → Int} {b c g k s1 s2 : Int} (hb0 : 0 ≤ b) (hb3 : b ≤ 3) (hc0 : 0 ≤ c) (hc3 : c ≤ 3) (hs : w 46 (10 + 2 * b.toNat + 1) = s1) (hs1 : 0 ≤ s1 ∧ s1 ≤ 4) (ht : w 46 (10 + 2 * c.toNat + 1) = s2) (hs2 : 0 ≤ s2 ∧ s2 ≤ 4) (hg : -100 ≤ g ∧ g ≤ 100) (hk : 0 ≤ k ∧ k ≤ 2) (hl : jR (w 46 3)) (hh : jR (w 46 4)) : ∀ (m : Nat) (x acc : Int) (q : Option Value), x = s1 + 1 - m → -4 ≤ x →
    z_Rn (z_F (e + 1)) cd_Model_comingOf 8 [some (.ref 45), some (.int (Int32.ofInt b)), some (.int (Int32.ofInt c)), some (.int (Int32.ofInt g)), some (.int (Int32.ofInt k)), some (.int (Int32.ofInt acc)), some (.int (Int32.ofInt x)), q] (n, z_q im, jM w, jL u) (some (.int (Int32.ofInt (acc + a_sum (fun x => a_sum (fun y => if a_kd (w 46 3) (w 46 4) (g + x - y) = k then 1 else 0) (-s2) (2 * s2 + 1).toNat) x m))), (n, z_q im, jM w, jL u)) := by
  intro m
  induction m with
  | zero =>
    intro x acc q hx hx4
    refine z_ret (e_Model_comingOf_8 _ _ _ _ _ _ _ _ _ _ _ |>.trans ?_)
    rw [s_slipOf hb0 hb3, z_oI_s, hs]
    simp (disch := omega) only [ji_lt]
    rw [if_pos (by omega)]
    simp only [a_sum, Int.add_zero]
  | succ m ih =>
    intro x acc q hx hx4
    have K := ih (x + 1) (acc + a_sum (fun y => if a_kd (w 46 3) (w 46 4) (g + x - y) = k then 1 else 0) (-s2) (2 * s2 + 1).toNat) (some (.int (Int32.ofInt (s2 + 1)))) (by omega) (by omega)
    rw [Int.add_assoc] at K
    refine z_go (e_Model_comingOf_8 _ _ _ _ _ _ _ _ _ _ _ |>.trans ?_) (l_coming_in hb0 hb3 hc0 hc3 ht hs2 (x := x) (by omega) hg hk hl hh (2 * s2 + 1).toNat (-s2) acc (by omega) (by omega) K)
    rw [s_slipOf hb0 hb3, z_oI_s, hs]
    simp (disch := omega) only [ji_lt]
    rw [if_neg (by omega), s_slipOf hc0 hc3, z_oI_s, ht, ji_neg]
theorem s_comingOf {e n : Nat} {im : Nat → Option Nat} {w u : Nat → Nat → Int} {b c g k : Int} (hb0 : 0 ≤ b) (hb3 : b ≤ 3) (hc0 : 0 ≤ c) (hc3 : c ≤ 3) (hb : a_bo (w 46) b) (hc : a_bo (w 46) c) (hg : -100 ≤ g ∧ g ≤ 100) (hk : 0 ≤ k ∧ k ≤ 2) (hl : jR (w 46 3)) (hh : jR (w 46 4)) : (z_F (e + 2)).1 k_Model_comingOf [.ref 45, .int (Int32.ofInt b), .int (Int32.ofInt c), .int (Int32.ofInt g), .int (Int32.ofInt k)] (n, z_q im, jM w, jL u) = some (Int32.ofInt (a_sl (w 46 (10 + 2 * b.toNat + 1)) (w 46 (10 + 2 * c.toNat + 1)) (fun x y => if a_kd (w 46 3) (w 46 4) (g + x - y) = k then 1 else 0)), jM w, jL u) := by
  refine n_Model_comingOf ?_
  have b2 := hb.2
  have c2 := hc.2
  have K := l_coming_out (e := e) (n := n) (im := im) (u := u) hb0 hb3 hc0 hc3 rfl b2 rfl c2 hg hk hl hh (2 * w 46 (10 + 2 * b.toNat + 1) + 1).toNat (-w 46 (10 + 2 * b.toNat + 1)) 0 none (by omega) (by omega)
  rw [Int.zero_add] at K
  refine z_go (e_Model_comingOf_0 _ _ _ _ _ _ _ _ |>.trans ?_) K
  rw [s_slipOf hb0 hb3, z_oI_s, ji_neg]
