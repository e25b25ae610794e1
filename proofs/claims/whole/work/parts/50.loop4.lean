/-! results and gains out of kinds counted: class and reference alike -/
theorem l_po {e n : Nat} {im : Nat → Option Nat} {w u : Nat → Nat → Int} {r p acc k : Int} {z : Option Value × zM} (ht : a_tr (w 26)) (hf : a_tr (w 27)) (h1 : 0 ≤ w 25 9 ∧ w 25 9 ≤ 100) (hp : 0 ≤ p ∧ p ≤ 1000) (hr : 0 ≤ r ∧ r ≤ 3) (hk : 0 ≤ k ∧ k ≤ 2)
    (K : z_Rn (z_F (e + 3)) cd_Duel_pairsOf 5 [some (.ref 25), some (.int (Int32.ofInt r)), some (.int (Int32.ofInt p)), some (.int (Int32.ofInt (acc + (if a_rs k (w 26) (w 27) (w 25 9) p p = r then w 29 k.toNat else 0)))), some (.int (Int32.ofInt (k + 1)))] (n, z_q im, jM w, jL u) z) : z_Rn (z_F (e + 3)) cd_Duel_pairsOf 5 [some (.ref 25), some (.int (Int32.ofInt r)), some (.int (Int32.ofInt p)), some (.int (Int32.ofInt acc)), some (.int (Int32.ofInt k))] (n, z_q im, jM w, jL u) z := by
  have kb := a_rs_b k (w 26) (w 27) (w 25 9) p p
  refine z_go (e_Duel_pairsOf_5 _ _ _ _ _ _ _ _ |>.trans ?_) K
  simp (disch := omega) only [ji_lt]
  rw [if_neg (by omega), s_dres hk ht hf h1 hp hp, z_oI_s]
  simp (disch := omega) only [ji_eq]
  by_cases h : a_rs k (w 26) (w 27) (w 25 9) p p = r
  · rw [if_pos h, if_pos h, s_at_28 (by omega), z_oI_s, if_pos (by omega), ji_add, ji_add]
  · rw [if_neg h, if_neg h, ji_add, ji_add]
def c_po (w : Nat → Nat → Int) (r p : Int) : Int := (if a_rs 0 (w 26) (w 27) (w 25 9) p p = r then w 29 0 else 0) + (if a_rs 1 (w 26) (w 27) (w 25 9) p p = r then w 29 1 else 0) + (if a_rs 2 (w 26) (w 27) (w 25 9) p p = r then w 29 2 else 0)
theorem s_dpairs {e n : Nat} {im : Nat → Option Nat} {w u : Nat → Nat → Int} {r p : Int} (ht : a_tr (w 26)) (hf : a_tr (w 27)) (h1 : 0 ≤ w 25 9 ∧ w 25 9 ≤ 100) (hp : 0 ≤ p ∧ p ≤ 1000) (hr : 0 ≤ r ∧ r ≤ 3) : (z_F (e + 4)).1 k_Duel_pairsOf [.ref 25, .int (Int32.ofInt r), .int (Int32.ofInt p)] (n, z_q im, jM w, jL u) = some (Int32.ofInt (c_po w r p), jM w, jL u) := by
  refine n_Duel_pairsOf (z_go (e_Duel_pairsOf_0 _ _ _ _ _ _) ?_)
  refine l_po ht hf h1 hp hr (by decide) (l_po ht hf h1 hp hr (by decide) (l_po ht hf h1 hp hr (by decide) ?_))
  refine z_ret (e_Duel_pairsOf_5 _ _ _ _ _ _ _ _ |>.trans ?_)
  simp (disch := omega) only [ji_lt]
  rw [if_pos (by decide)]
  exact z_lf (by unfold c_po; rw [Int.zero_add]; rfl)
def a_gb (r : Int) : Int := if r = 2 then 1 else if r = 1 then -1 else 0
theorem s_gainBy {e n : Nat} {im : Nat → Option Nat} {d : zD} {r : Int} (hr : jR r) : (z_F (e + 1)).1 k_Duel_gainBy [.int (Int32.ofInt r)] (n, z_q im, d) = some (Int32.ofInt (a_gb r), d) := by
  refine q_Duel_gainBy ?_
  simp (disch := omega) only [ji_eq, z_fI]
  exact z_lf rfl
theorem l_ga {e n : Nat} {im : Nat → Option Nat} {w u : Nat → Nat → Int} {acc k : Int} {z : Option Value × zM} (ht : a_tr (w 26)) (hf : a_tr (w 27)) (h1 : 0 ≤ w 25 9 ∧ w 25 9 ≤ 100) (hk : 0 ≤ k ∧ k ≤ 2)
    (K : z_Rn (z_F (e + 3)) cd_Duel_gain 5 [some (.ref 25), some (.int (Int32.ofInt (acc + a_gb (a_rs k (w 26) (w 27) (w 25 9) 0 0) * w 29 k.toNat))), some (.int (Int32.ofInt (k + 1)))] (n, z_q im, jM w, jL u) z) : z_Rn (z_F (e + 3)) cd_Duel_gain 5 [some (.ref 25), some (.int (Int32.ofInt acc)), some (.int (Int32.ofInt k))] (n, z_q im, jM w, jL u) z := by
  have kb := a_rs_b k (w 26) (w 27) (w 25 9) 0 0
  refine z_go (e_Duel_gain_5 _ _ _ _ _ _ |>.trans ?_) K
  simp (disch := omega) only [ji_lt]
  rw [if_neg (by omega), s_dres hk ht hf h1 (by decide) (by decide), z_oI_s, s_gainBy (by omega), z_oI_s, s_at_28 (by omega), z_oI_s, if_pos (by omega), ji_mul, ji_add, ji_add]
def c_ga (w : Nat → Nat → Int) : Int := a_gb (a_rs 0 (w 26) (w 27) (w 25 9) 0 0) * w 29 0 + a_gb (a_rs 1 (w 26) (w 27) (w 25 9) 0 0) * w 29 1 + a_gb (a_rs 2 (w 26) (w 27) (w 25 9) 0 0) * w 29 2
theorem s_gain {e n : Nat} {im : Nat → Option Nat} {w u : Nat → Nat → Int} (ht : a_tr (w 26)) (hf : a_tr (w 27)) (h1 : 0 ≤ w 25 9 ∧ w 25 9 ≤ 100) : (z_F (e + 4)).1 k_Duel_gain [.ref 25] (n, z_q im, jM w, jL u) = some (Int32.ofInt (c_ga w), jM w, jL u) := by
  refine n_Duel_gain (z_go (e_Duel_gain_0 _ _ _ _) ?_)
  refine l_ga ht hf h1 (by decide) (l_ga ht hf h1 (by decide) (l_ga ht hf h1 (by decide) ?_))
  refine z_ret (e_Duel_gain_5 _ _ _ _ _ _ |>.trans ?_)
  simp (disch := omega) only [ji_lt]
  rw [if_pos (by decide)]
  exact z_lf (by unfold c_ga; rw [Int.zero_add]; rfl)
theorem s_allPairs {e n : Nat} {im : Nat → Option Nat} {w u : Nat → Nat → Int} : (z_F (e + 1)).1 k_Duel_allPairs [.ref 25] (n, z_q im, jM w, jL u) = some (Int32.ofInt ((2 * w 25 5 + 1) * (2 * w 25 6 + 1)), jM w, jL u) := by
  refine q_Duel_allPairs ?_
  simp only [jM_at, ji_mul, ji_add]
theorem a_sum_cg {f g : Int → Int} (h : ∀ x, f x = g x) : ∀ (m : Nat) (x : Int), a_sum f x m = a_sum g x m
  | 0, _ => rfl
  | m + 1, x => by simp only [a_sum]; rw [h x, a_sum_cg h m (x + 1)]
theorem a_sum_add (f g : Int → Int) : ∀ (m : Nat) (x : Int), a_sum (fun x => f x + g x) x m = a_sum f x m + a_sum g x m
  | 0, _ => rfl
  | m + 1, x => by simp only [a_sum]; rw [a_sum_add f g m (x + 1)]; omega
theorem a_sum_0 : ∀ (m : Nat) (x : Int), a_sum (fun _ => 0) x m = 0
  | 0, _ => rfl
  | m + 1, x => by simp only [a_sum]; rw [a_sum_0 m (x + 1)]; rfl
theorem a_sl_cg {f g : Int → Int → Int} (h : ∀ x y, f x y = g x y) (s1 s2 : Int) : a_sl s1 s2 f = a_sl s1 s2 g := a_sum_cg (fun x => a_sum_cg (fun y => h x y) _ _) _ _
theorem a_sl_add (f g : Int → Int → Int) (s1 s2 : Int) : a_sl s1 s2 (fun x y => f x y + g x y) = a_sl s1 s2 f + a_sl s1 s2 g := by
  unfold a_sl
  rw [← a_sum_add]
  exact a_sum_cg (fun x => a_sum_add _ _ _ _) _ _
theorem a_sl_if (c : Prop) {dc : Decidable c} (f : Int → Int → Int) (s1 s2 : Int) : a_sl s1 s2 (fun x y => @ite Int c dc (f x y) 0) = @ite Int c dc (a_sl s1 s2 f) 0 := by
  by_cases h : c
  · simp only [h, if_true]
  · simp only [h, if_false]
    unfold a_sl
    exact (a_sum_cg (fun x => a_sum_0 _ _) _ _).trans (a_sum_0 _ _)
/-- pairs of a kind -/
def a_cm (lo hi g s1 s2 k : Int) : Int := a_sl s1 s2 (fun x y => if a_kd lo hi (g + x - y) = k then 1 else 0)
theorem a_rn_eq (v : Nat → Int) (a b c f p r : Int) : a_rn v a b c f p r =
    (if a_rs 0 (a_T v a) (a_T v b) (a_sp v c f) p p = r then a_cm (v 3) (v 4) (v 1) (v (10 + 2 * c.toNat + 1)) (v (10 + 2 * f.toNat + 1)) 0 else 0) + (if a_rs 1 (a_T v a) (a_T v b) (a_sp v c f) p p = r then a_cm (v 3) (v 4) (v 1) (v (10 + 2 * c.toNat + 1)) (v (10 + 2 * f.toNat + 1)) 1 else 0) + (if a_rs 2 (a_T v a) (a_T v b) (a_sp v c f) p p = r then a_cm (v 3) (v 4) (v 1) (v (10 + 2 * c.toNat + 1)) (v (10 + 2 * f.toNat + 1)) 2 else 0) := by
  unfold a_rn a_cm
  rw [← a_sl_if, ← a_sl_if, ← a_sl_if, ← a_sl_add, ← a_sl_add]
  refine a_sl_cg (fun x y => ?_) _ _
  have hk := a_kd_b (v 3) (v 4) (v 1 + x - y)
  generalize a_kd (v 3) (v 4) (v 1 + x - y) = kk at *
  have : kk = 0 ∨ kk = 1 ∨ kk = 2 := by omega
  rcases this with rfl | rfl | rfl
  · simp
  · simp
  · simp
