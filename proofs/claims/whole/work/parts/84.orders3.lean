/-! the next order: the reference -/
theorem s_trade_53 {e n : Nat} {im : Nat → Option Nat} {w u : Nat → Nat → Int} {wi : Nat → Nat → Int} {F : Nat → Int} {m a b : Nat} (hm : m ≤ 5) (h : k_Q 53 w m F wi) (ha : a < m) (hb : b < m) : ∃ w', (z_F (e + 1)).2.2.1 k_Model_trade [.ref 53, .int (Int32.ofInt (a : Int)), .int (Int32.ofInt (b : Int))] (n, z_q im, jM wi, jL u) = some (jM w', jL u) ∧ k_Q 53 w m (a_sw F a b) w' := by
  refine ⟨_, q_Model_trade_53 ?_, k_Q_u h ha hb⟩
  have n1 : Int32.toNatClampNeg (Int32.ofInt (a : Int)) = a := (ji_nat (by omega)).trans (by omega)
  have n2 : Int32.toNatClampNeg (Int32.ofInt (b : Int)) = b := (ji_nat (by omega)).trans (by omega)
  have g1 : ¬ (Int32.ofInt (a : Int) < 0 ∨ 5 ≤ a) := by simp (disch := omega) only [ji_lt0]; omega
  have g2 : ¬ (Int32.ofInt (b : Int) < 0 ∨ 5 ≤ b) := by simp (disch := omega) only [ji_lt0]; omega
  rw [n1, n2, if_neg g1, if_neg g2, if_neg g1, if_neg g2]
  simp only [jM_at, jM_u]
theorem l_msort1_53 {e n : Nat} {im : Nat → Option Nat} {w u : Nat → Nat → Int} {m i : Nat} (hm : m ≤ 5) : ∀ (k : Nat) (F : Nat → Int) (wi : Nat → Nat → Int) (x : Int), k < m → (0 ≤ x ∧ x ≤ 9) → (∀ d, d ≠ 53 → wi d = w d) → (∀ j, j < m → a_up (wi 53) k x j = F j) → (∀ j, j < m → 0 ≤ F j ∧ F j ≤ 9) → ∃ w' q q', z_To (z_F e) cd_Model_sort (13, [some (.ref 53), some (.int (Int32.ofInt (m : Int))), some (.int (Int32.ofInt (i : Int))), some (.int (Int32.ofInt x)), some (.int (Int32.ofInt (k : Int)))], (n, z_q im, jM wi, jL u)) (3, [some (.ref 53), some (.int (Int32.ofInt (m : Int))), some (.int (Int32.ofInt ((i : Int) + 1))), q, q'], (n, z_q im, jM w', jL u)) ∧ k_Q 53 w m (q_in F k) w'
  | 0, F, wi, x, hk, hx, h1, h2, h3 => by
    refine ⟨z_u wi 53 0 x, some (.int (Int32.ofInt x)), some (.int (Int32.ofInt ((0 : Nat) : Int))), z_To_1 ((e_Model_sort_53_13 ..).trans ?_), fun d hd => by rw [z_u_ne hd]; exact h1 d hd, fun j hj => by rw [z_u_at]; exact h2 j hj, h3⟩
    rw [if_neg (c := Int32.ofInt ((0 : Nat) : Int) < 0 ∨ _) (by simp (disch := omega) only [ji_lt0, ji_nat]; omega), show (0 : Int32) = Int32.ofInt 0 from rfl, if_pos (ji_le_p (by decide) (by decide) (by decide)), ji_add, ji_nat (by decide)]
    simp only [jM_u]
    rfl
  | k + 1, F, wi, x, hk, hx, h1, h2, h3 => by
    simp only [q_in]
    have b1 : wi 53 k = F k := by
      have := h2 k (by omega)
      rw [a_up_ne (by omega)] at this
      exact this
    have b2 : x = F (k + 1) := by
      have := h2 (k + 1) hk
      unfold a_up at this
      rw [if_pos rfl] at this
      exact this
    have v1 := h3 k (by omega)
    have n1 : Int32.toNatClampNeg (Int32.ofInt (k : Int)) = k := (ji_nat (by omega)).trans (by omega)
    have n2 : Int32.toNatClampNeg (Int32.ofInt ((k + 1 : Nat) : Int)) = k + 1 := (ji_nat (by omega)).trans (by omega)
    have g1 : ¬ (Int32.ofInt (k : Int) < 0 ∨ 5 ≤ k) := by simp (disch := omega) only [ji_lt0]; omega
    have g2 : ¬ (Int32.ofInt ((k + 1 : Nat) : Int) < 0 ∨ 5 ≤ k + 1) := by simp (disch := omega) only [ji_lt0]; omega
    have e53 : ((jM wi, jL u) : zD).1 53 k = Int32.ofInt (F k) := by rw [← b1]; rfl
    have g0 : ¬ Int32.ofInt ((k + 1 : Nat) : Int) ≤ 0 := ji_le_n (b := 0) (by omega) (by decide) (by omega)
    have hx : z_ex none (z_F e) cd_Model_sort 4000 (cd_Model_sort.drop 13) 13 [some (.ref 53), some (.int (Int32.ofInt (m : Int))), some (.int (Int32.ofInt (i : Int))), some (.int (Int32.ofInt x)), some (.int (Int32.ofInt ((k + 1 : Nat) : Int)))] [] (n, z_q im, jM wi, jL u) = if F k ≤ x then some (.inr (3, [some (.ref 53), some (.int (Int32.ofInt (m : Int))), some (.int (Int32.ofInt ((i : Int) + 1))), some (.int (Int32.ofInt x)), some (.int (Int32.ofInt ((k + 1 : Nat) : Int)))], [], (n, z_q im, jM (z_u wi 53 (k + 1) x), jL u))) else some (.inr (13, [some (.ref 53), some (.int (Int32.ofInt (m : Int))), some (.int (Int32.ofInt (i : Int))), some (.int (Int32.ofInt x)), some (.int (Int32.ofInt (k : Int)))], [], (n, z_q im, jM (z_u wi 53 (k + 1) (F k)), jL u))) := by
      refine (e_Model_sort_53_13 ..).trans ?_
      rw [if_neg g0, ji_sub, show ((k + 1 : Nat) : Int) - 1 = (k : Int) by omega, n1, n2, if_neg g1, e53, if_neg g2, if_neg g1, if_neg g2, ji_add, ji_add, show ((k + 1 : Nat) : Int) + -1 = (k : Int) by omega]
      simp only [jM_u]
      by_cases q : F k ≤ x
      · rw [if_pos (ji_le_p (by omega) (by omega) q), if_pos q]
      · rw [if_neg (ji_le_n (by omega) (by omega) (by omega)), if_neg q]
    by_cases q : F k ≤ F (k + 1)
    · rw [if_pos (by omega)] at hx
      rw [if_pos q]
      exact ⟨z_u wi 53 (k + 1) x, _, _, z_To_1 hx, fun d hd => by rw [z_u_ne hd]; exact h1 d hd, fun j hj => by rw [z_u_at]; exact h2 j hj, h3⟩
    · rw [if_neg (by omega)] at hx
      rw [if_neg q]
      obtain ⟨w', q1, q2, k3, k4⟩ := l_msort1_53 (e := e) (n := n) (im := im) (w := w) (u := u) (i := i) hm k (a_sw F k (k + 1)) (z_u wi 53 (k + 1) (F k)) x (by omega) (by omega) (fun d hd => by rw [z_u_ne hd]; exact h1 d hd) (fun j hj => by
        have hh := h2 j hj
        rw [a_sw_at]
        unfold a_up at hh ⊢
        rw [z_u_at]
        by_cases j1 : j = k + 1
        · rw [if_pos j1, if_neg (by omega), if_pos j1]
        · rw [if_neg j1, if_neg j1]
          rw [if_neg j1] at hh
          by_cases j2 : j = k
          · rw [if_pos j2, if_pos j2]; exact b2
          · rw [if_neg j2, if_neg j2]; exact hh) (q_vr_sw h3 (by omega) hk)
      exact ⟨w', q1, q2, z_To_tr (z_To_1 hx) k3, k4⟩
theorem s_sort_53 {e n : Nat} {im : Nat → Option Nat} {w u : Nat → Nat → Int} {F : Nat → Int} {m : Nat} (hm : 1 ≤ m ∧ m ≤ 5) (h : ∀ j, j < m → w 53 j = F j) (hF : ∀ j, j < m → 0 ≤ F j ∧ F j ≤ 9) : ∃ w', (z_F (e + 1)).2.2.1 k_Model_sort [.ref 53, .int (Int32.ofInt (m : Int))] (n, z_q im, jM w, jL u) = some (jM w', jL u) ∧ k_Q 53 w m (q_so F m) w' := by
  obtain ⟨t9, ht9, wf, q, q', rfl, i1⟩ := z_for (o := z_F e) (cd := cd_Model_sort) (P := fun i s => ∃ wi q q', s = (3, [some (.ref 53), some (.int (Int32.ofInt (m : Int))), some (.int (Int32.ofInt ((i : Int) + 1))), q, q'], (n, z_q im, jM wi, jL u)) ∧ k_Q 53 w m (q_so F (i + 1)) wi) (m - 1) (s := (3, [some (.ref 53), some (.int (Int32.ofInt (m : Int))), some (.int (Int32.ofInt 1)), none, none], (n, z_q im, jM w, jL u))) ⟨w, none, none, rfl, fun _ _ => rfl, h, hF⟩ (fun i s hi hs => by
    obtain ⟨wi, q, q', rfl, i1⟩ := hs
    have n1 : Int32.toNatClampNeg (Int32.ofInt ((i : Int) + 1)) = i + 1 := (ji_nat (by omega)).trans (by omega)
    have g1 : ¬ (Int32.ofInt ((i : Int) + 1) < 0 ∨ 5 ≤ i + 1) := by simp (disch := omega) only [ji_lt0]; omega
    have e53 : ((jM wi, jL u) : zD).1 53 (i + 1) = Int32.ofInt (q_so F (i + 1) (i + 1)) := by rw [← i1.2.1 (i + 1) (by omega)]; rfl
    obtain ⟨w', q1, q2, k3, k4⟩ := l_msort1_53 (e := e) (n := n) (im := im) (w := w) (u := u) (i := i + 1) hm.2 (i + 1) (q_so F (i + 1)) wi (q_so F (i + 1) (i + 1)) (by omega) (i1.2.2 (i + 1) (by omega)) i1.1 (fun j hj => by
      unfold a_up
      by_cases q : j = i + 1
      · rw [if_pos q, q]
      · rw [if_neg q]; exact i1.2.1 j hj) i1.2.2
    refine ⟨_, z_To_tr (z_To_1 ((e_Model_sort_53_3 ..).trans ?_)) k3, w', q1, q2, rfl, k4⟩
    rw [if_neg (ji_le_n (by omega) (by omega) (by omega)), n1, if_neg g1, e53]
    rfl)
  refine ⟨wf, n_Model_sort_53 (z_go (e_Model_sort_53_0 ..) (ht9 _ (z_ret ((e_Model_sort_53_3 ..).trans ?_)))), ?_⟩
  · rw [if_pos (ji_le_p (by omega) (by omega) (by omega))]
  · rw [show m - 1 + 1 = m by omega] at i1
    exact i1
theorem l_mpv_53 {e n : Nat} {im : Nat → Option Nat} {w u : Nat → Nat → Int} {F : Nat → Int} {m : Nat} {wi : Nat → Nat → Int} (hm : m ≤ 5) (h : k_Q 53 w m F wi) : ∀ (k : Nat), k < m → (q_pv F k = -1 → z_Rn (z_F (e + 1)) cd_Model_nextOrder 5 [some (.ref 53), some (.int (Int32.ofInt (m : Int))), some (.int (Int32.ofInt ((k : Int) - 1))), none, none, none] (n, z_q im, jM wi, jL u) (some (.int (Int32.ofInt 0)), (n, z_q im, jM wi, jL u))) ∧ (q_pv F k ≠ -1 → z_To (z_F (e + 1)) cd_Model_nextOrder (5, [some (.ref 53), some (.int (Int32.ofInt (m : Int))), some (.int (Int32.ofInt ((k : Int) - 1))), none, none, none], (n, z_q im, jM wi, jL u)) (27, [some (.ref 53), some (.int (Int32.ofInt (m : Int))), some (.int (Int32.ofInt (q_pv F k))), some (.int (Int32.ofInt ((m : Int) - 1))), none, none], (n, z_q im, jM wi, jL u)))
  | 0, hk => by
    refine ⟨fun _ => z_ret ((e_Model_nextOrder_53_5 ..).trans ?_), fun q => absurd rfl q⟩
    rw [show (0 : Int32) = Int32.ofInt 0 from rfl, if_pos (ji_lt_p (by decide) (by decide) (by decide)), if_neg (ji_le_n (by decide) (by decide) (by decide))]
  | k + 1, hk => by
    have ih := l_mpv_53 (e := e) (n := n) (im := im) (u := u) hm h k (by omega)
    have v1 := h.2.2 k (by omega)
    have v2 := h.2.2 (k + 1) hk
    have e1 : ((jM wi, jL u) : zD).1 53 k = Int32.ofInt (F k) := by rw [← h.2.1 k (by omega)]; rfl
    have e2 : ((jM wi, jL u) : zD).1 53 (k + 1) = Int32.ofInt (F (k + 1)) := by rw [← h.2.1 (k + 1) hk]; rfl
    have n1 : Int32.toNatClampNeg (Int32.ofInt (k : Int)) = k := (ji_nat (by omega)).trans (by omega)
    have n2 : Int32.toNatClampNeg (Int32.ofInt ((k : Int) + 1)) = k + 1 := (ji_nat (by omega)).trans (by omega)
    have g1 : ¬ (Int32.ofInt (k : Int) < 0 ∨ 5 ≤ k) := by simp (disch := omega) only [ji_lt0]; omega
    have g2 : ¬ (Int32.ofInt ((k : Int) + 1) < 0 ∨ 5 ≤ k + 1) := by simp (disch := omega) only [ji_lt0]; omega
    have g3 : ¬ Int32.ofInt (k : Int) < 0 := fun q => g1 (Or.inl q)
    have g4 : (0 : Int32) ≤ Int32.ofInt (k : Int) := ji_le_p (a := 0) (by decide) (by omega) (by omega)
    have hx : z_ex none (z_F (e + 1)) cd_Model_nextOrder 4000 (cd_Model_nextOrder.drop 5) 5 [some (.ref 53), some (.int (Int32.ofInt (m : Int))), some (.int (Int32.ofInt (((k + 1 : Nat) : Int) - 1))), none, none, none] [] (n, z_q im, jM wi, jL u) = if F k ≤ F (k + 1) then some (.inr (27, [some (.ref 53), some (.int (Int32.ofInt (m : Int))), some (.int (Int32.ofInt (k : Int))), some (.int (Int32.ofInt ((m : Int) - 1))), none, none], [], (n, z_q im, jM wi, jL u))) else some (.inr (5, [some (.ref 53), some (.int (Int32.ofInt (m : Int))), some (.int (Int32.ofInt ((k : Int) - 1))), none, none, none], [], (n, z_q im, jM wi, jL u))) := by
      refine (e_Model_nextOrder_53_5 ..).trans ?_
      rw [show ((k + 1 : Nat) : Int) - 1 = (k : Int) by omega, if_neg g3, ji_add, ji_add, n1, n2, if_neg g1, if_neg g2, e1, e2, ji_sub, show (k : Int) + -1 = (k : Int) - 1 by omega]
      by_cases q : F k ≤ F (k + 1)
      · rw [if_pos (ji_le_p (by omega) (by omega) q), if_pos q, if_pos g4]
      · rw [if_neg (ji_le_n (by omega) (by omega) (by omega)), if_neg q]
    simp only [q_pv]
    by_cases q : F k ≤ F (k + 1)
    · rw [if_pos q] at hx ⊢
      exact ⟨fun q2 => by omega, fun _ => z_To_1 hx⟩
    · rw [if_neg q] at hx ⊢
      exact ⟨fun q2 => z_go hx (ih.1 q2), fun q2 => z_To_tr (z_To_1 hx) (ih.2 q2)⟩
theorem l_my_53 {e n : Nat} {im : Nat → Option Nat} {w u : Nat → Nat → Int} {F : Nat → Int} {m p : Nat} {wi : Nat → Nat → Int} (hm : m ≤ 5) (h : k_Q 53 w m F wi) : ∀ (y : Nat), y < m → p ≤ y → ∃ w', z_To (z_F (e + 1)) cd_Model_nextOrder (27, [some (.ref 53), some (.int (Int32.ofInt (m : Int))), some (.int (Int32.ofInt (p : Int))), some (.int (Int32.ofInt (y : Int))), none, none], (n, z_q im, jM wi, jL u)) (49, [some (.ref 53), some (.int (Int32.ofInt (m : Int))), some (.int (Int32.ofInt (p : Int))), some (.int (Int32.ofInt ((q_y F p y : Nat) : Int))), some (.int (Int32.ofInt ((p : Int) + 1))), some (.int (Int32.ofInt ((m : Int) - 1)))], (n, z_q im, jM w', jL u)) ∧ k_Q 53 w m (a_sw F p (q_y F p y)) w' := by
  intro y
  have pre : ∀ y : Nat, y < m → p ≤ y → z_ex none (z_F (e + 1)) cd_Model_nextOrder 4000 (cd_Model_nextOrder.drop 27) 27 [some (.ref 53), some (.int (Int32.ofInt (m : Int))), some (.int (Int32.ofInt (p : Int))), some (.int (Int32.ofInt (y : Int))), none, none] [] (n, z_q im, jM wi, jL u) = if F p ≤ F y then (z_oV ((z_F (e + 1)).2.2.1 k_Model_trade [.ref 53, .int (Int32.ofInt (p : Int)), .int (Int32.ofInt (y : Int))] (n, z_q im, jM wi, jL u)) none (fun d1 => some (.inr (49, [some (.ref 53), some (.int (Int32.ofInt (m : Int))), some (.int (Int32.ofInt (p : Int))), some (.int (Int32.ofInt (y : Int))), some (.int (Int32.ofInt ((p : Int) + 1))), some (.int (Int32.ofInt ((m : Int) - 1)))], [], (n, z_q im, d1))))) else some (.inr (27, [some (.ref 53), some (.int (Int32.ofInt (m : Int))), some (.int (Int32.ofInt (p : Int))), some (.int (Int32.ofInt ((y : Int) - 1))), none, none], [], (n, z_q im, jM wi, jL u))) := fun y hy hpy => by
    have v1 := h.2.2 p (by omega)
    have v2 := h.2.2 y hy
    have e1 : ((jM wi, jL u) : zD).1 53 p = Int32.ofInt (F p) := by rw [← h.2.1 p (by omega)]; rfl
    have e2 : ((jM wi, jL u) : zD).1 53 y = Int32.ofInt (F y) := by rw [← h.2.1 y hy]; rfl
    have n1 : Int32.toNatClampNeg (Int32.ofInt (p : Int)) = p := (ji_nat (by omega)).trans (by omega)
    have n2 : Int32.toNatClampNeg (Int32.ofInt (y : Int)) = y := (ji_nat (by omega)).trans (by omega)
    have g1 : ¬ (Int32.ofInt (p : Int) < 0 ∨ 5 ≤ p) := by simp (disch := omega) only [ji_lt0]; omega
    have g2 : ¬ (Int32.ofInt (y : Int) < 0 ∨ 5 ≤ y) := by simp (disch := omega) only [ji_lt0]; omega
    refine (e_Model_nextOrder_53_27 ..).trans ?_
    rw [n1, n2, if_neg g2, if_neg g1, e1, e2, ji_add, ji_add, ji_sub, show (y : Int) + -1 = (y : Int) - 1 by omega]
    by_cases q : F p ≤ F y
    · rw [if_pos (ji_le_p (by omega) (by omega) q), if_pos q]
    · rw [if_neg (ji_le_n (by omega) (by omega) (by omega)), if_neg q]
  have stop : ∀ y : Nat, y < m → p ≤ y → F p ≤ F y → ∃ w', z_To (z_F (e + 1)) cd_Model_nextOrder (27, [some (.ref 53), some (.int (Int32.ofInt (m : Int))), some (.int (Int32.ofInt (p : Int))), some (.int (Int32.ofInt (y : Int))), none, none], (n, z_q im, jM wi, jL u)) (49, [some (.ref 53), some (.int (Int32.ofInt (m : Int))), some (.int (Int32.ofInt (p : Int))), some (.int (Int32.ofInt (y : Int))), some (.int (Int32.ofInt ((p : Int) + 1))), some (.int (Int32.ofInt ((m : Int) - 1)))], (n, z_q im, jM w', jL u)) ∧ k_Q 53 w m (a_sw F p y) w' := fun y hy hpy hs => by
    obtain ⟨w1, k1, k2⟩ := s_trade_53 (e := e) (n := n) (im := im) (u := u) (a := p) (b := y) hm h (by omega) hy
    have hx := pre y hy hpy
    rw [if_pos hs, k1, z_oV_s] at hx
    exact ⟨w1, z_To_1 hx, k2⟩
  induction y with
  | zero => intro hy hp; exact stop 0 hy hp (by rw [show p = 0 by omega]; exact Int.le_refl _)
  | succ y ih =>
    intro hy hp
    simp only [q_y]
    by_cases q : F p ≤ F (y + 1)
    · rw [if_pos q]; exact stop (y + 1) hy hp q
    · rw [if_neg q]
      have hpy : p ≠ y + 1 := fun z => q (by rw [z]; exact Int.le_refl _)
      obtain ⟨w', k1, k2⟩ := ih (by omega) (by omega)
      have hx := pre (y + 1) hy hp
      rw [if_neg q, show ((y + 1 : Nat) : Int) - 1 = (y : Int) by omega] at hx
      exact ⟨w', z_To_tr (z_To_1 hx) k1, k2⟩
theorem l_mrv_53 {e n : Nat} {im : Nat → Option Nat} {w u : Nat → Nat → Int} {m : Nat} {x1 x2 : Int32} (hm : m ≤ 5) : ∀ (f : Nat) (F : Nat → Int) (wi : Nat → Nat → Int) (a b : Nat), b < m → a ≤ m → b ≤ a + 2 * f → k_Q 53 w m F wi → ∃ w', z_Rn (z_F (e + 1)) cd_Model_nextOrder 49 [some (.ref 53), some (.int (Int32.ofInt (m : Int))), some (.int x1), some (.int x2), some (.int (Int32.ofInt (a : Int))), some (.int (Int32.ofInt (b : Int)))] (n, z_q im, jM wi, jL u) (some (.int (Int32.ofInt 1)), (n, z_q im, jM w', jL u)) ∧ k_Q 53 w m (q_rv f F a b) w'
  | 0, F, wi, a, b, hb, ha, hf, h => by
    refine ⟨wi, z_ret ((e_Model_nextOrder_53_49 ..).trans ?_), h⟩
    rw [if_pos (ji_le_p (by omega) (by omega) (by omega))]
  | f + 1, F, wi, a, b, hb, ha, hf, h => by
    simp only [q_rv]
    by_cases q : b ≤ a
    · rw [if_pos q]
      refine ⟨wi, z_ret ((e_Model_nextOrder_53_49 ..).trans ?_), h⟩
      rw [if_pos (ji_le_p (by omega) (by omega) (by omega))]
    · rw [if_neg q]
      obtain ⟨w1, k1, k2⟩ := s_trade_53 (e := e) (n := n) (im := im) (u := u) (a := a) (b := b) hm h (by omega) hb
      obtain ⟨w', r1, r2⟩ := l_mrv_53 (e := e) (n := n) (im := im) (u := u) (x1 := x1) (x2 := x2) hm f _ w1 (a + 1) (b - 1) (by omega) (by omega) (by omega) k2
      refine ⟨w', z_go ((e_Model_nextOrder_53_49 ..).trans ?_) r1, r2⟩
      rw [if_neg (ji_le_n (by omega) (by omega) (by omega)), k1, z_oV_s, ji_add, ji_add, show (b : Int) + -1 = ((b - 1 : Nat) : Int) by omega]
      rfl
theorem s_nextOrder_53 {e n : Nat} {im : Nat → Option Nat} {w u : Nat → Nat → Int} {F : Nat → Int} {m : Nat} {wi : Nat → Nat → Int} (hm : 1 ≤ m ∧ m ≤ 5) (h : k_Q 53 w m F wi) : ∃ w', (z_F (e + 2)).1 k_Model_nextOrder [.ref 53, .int (Int32.ofInt (m : Int))] (n, z_q im, jM wi, jL u) = some (Int32.ofInt (if q_pv F (m - 1) = -1 then 0 else 1), jM w', jL u) ∧ k_Q 53 w m (q_nx F m) w' := by
  have he : z_ex none (z_F (e + 1)) cd_Model_nextOrder 4000 (cd_Model_nextOrder.drop 0) 0 [some (.ref 53), some (.int (Int32.ofInt (m : Int))), none, none, none, none] [] (n, z_q im, jM wi, jL u) = some (.inr (5, [some (.ref 53), some (.int (Int32.ofInt (m : Int))), some (.int (Int32.ofInt (((m - 1 : Nat) : Int) - 1))), none, none, none], [], (n, z_q im, jM wi, jL u))) := by
    refine (e_Model_nextOrder_53_0 ..).trans ?_
    rw [ji_sub, show (m : Int) - 2 = ((m - 1 : Nat) : Int) - 1 by omega]
  have hp := l_mpv_53 (e := e) (n := n) (im := im) (u := u) hm.2 h (m - 1) (by omega)
  have hpb := q_pv_b F (m - 1)
  unfold q_nx
  by_cases q : q_pv F (m - 1) = -1
  · rw [if_pos q, if_pos q]
    exact ⟨wi, n_Model_nextOrder_53 (z_go he (hp.1 q)), h⟩
  · rw [if_neg q, if_neg q]
    obtain ⟨P, hP⟩ : ∃ P : Nat, q_pv F (m - 1) = (P : Int) := ⟨(q_pv F (m - 1)).toNat, by omega⟩
    have hp2 := hp.2 q
    rw [hP] at hp2 hpb ⊢
    rw [show ((P : Int)).toNat = P by omega]
    obtain ⟨w1, y1, y2⟩ := l_my_53 (e := e) (n := n) (im := im) (u := u) (p := P) hm.2 h (m - 1) (by omega) (by omega)
    have hyb := q_y_b F P (m - 1)
    obtain ⟨w', r1, r2⟩ := l_mrv_53 (e := e) (n := n) (im := im) (u := u) (x1 := Int32.ofInt (P : Int)) (x2 := Int32.ofInt ((q_y F P (m - 1) : Nat) : Int)) hm.2 5 _ w1 (P + 1) (m - 1) (by omega) (by omega) (by omega) y2
    refine ⟨w', n_Model_nextOrder_53 (z_go he (hp2 _ ?_)), r2⟩
    rw [show (m : Int) - 1 = ((m - 1 : Nat) : Int) by omega] at y1 ⊢
    exact y1 _ r1
theorem s_trade_54 {e n : Nat} {im : Nat → Option Nat} {w u : Nat → Nat → Int} {wi : Nat → Nat → Int} {F : Nat → Int} {m a b : Nat} (hm : m ≤ 5) (h : k_Q 54 w m F wi) (ha : a < m) (hb : b < m) : ∃ w', (z_F (e + 1)).2.2.1 k_Model_trade [.ref 54, .int (Int32.ofInt (a : Int)), .int (Int32.ofInt (b : Int))] (n, z_q im, jM wi, jL u) = some (jM w', jL u) ∧ k_Q 54 w m (a_sw F a b) w' := by
  refine ⟨_, q_Model_trade_54 ?_, k_Q_u h ha hb⟩
  have n1 : Int32.toNatClampNeg (Int32.ofInt (a : Int)) = a := (ji_nat (by omega)).trans (by omega)
  have n2 : Int32.toNatClampNeg (Int32.ofInt (b : Int)) = b := (ji_nat (by omega)).trans (by omega)
  have g1 : ¬ (Int32.ofInt (a : Int) < 0 ∨ 5 ≤ a) := by simp (disch := omega) only [ji_lt0]; omega
  have g2 : ¬ (Int32.ofInt (b : Int) < 0 ∨ 5 ≤ b) := by simp (disch := omega) only [ji_lt0]; omega
  rw [n1, n2, if_neg g1, if_neg g2, if_neg g1, if_neg g2]
  simp only [jM_at, jM_u]
theorem l_msort1_54 {e n : Nat} {im : Nat → Option Nat} {w u : Nat → Nat → Int} {m i : Nat} (hm : m ≤ 5) : ∀ (k : Nat) (F : Nat → Int) (wi : Nat → Nat → Int) (x : Int), k < m → (0 ≤ x ∧ x ≤ 9) → (∀ d, d ≠ 54 → wi d = w d) → (∀ j, j < m → a_up (wi 54) k x j = F j) → (∀ j, j < m → 0 ≤ F j ∧ F j ≤ 9) → ∃ w' q q', z_To (z_F e) cd_Model_sort (13, [some (.ref 54), some (.int (Int32.ofInt (m : Int))), some (.int (Int32.ofInt (i : Int))), some (.int (Int32.ofInt x)), some (.int (Int32.ofInt (k : Int)))], (n, z_q im, jM wi, jL u)) (3, [some (.ref 54), some (.int (Int32.ofInt (m : Int))), some (.int (Int32.ofInt ((i : Int) + 1))), q, q'], (n, z_q im, jM w', jL u)) ∧ k_Q 54 w m (q_in F k) w'
  | 0, F, wi, x, hk, hx, h1, h2, h3 => by
    refine ⟨z_u wi 54 0 x, some (.int (Int32.ofInt x)), some (.int (Int32.ofInt ((0 : Nat) : Int))), z_To_1 ((e_Model_sort_54_13 ..).trans ?_), fun d hd => by rw [z_u_ne hd]; exact h1 d hd, fun j hj => by rw [z_u_at]; exact h2 j hj, h3⟩
    rw [if_neg (c := Int32.ofInt ((0 : Nat) : Int) < 0 ∨ _) (by simp (disch := omega) only [ji_lt0, ji_nat]; omega), show (0 : Int32) = Int32.ofInt 0 from rfl, if_pos (ji_le_p (by decide) (by decide) (by decide)), ji_add, ji_nat (by decide)]
    simp only [jM_u]
    rfl
  | k + 1, F, wi, x, hk, hx, h1, h2, h3 => by
    simp only [q_in]
    have b1 : wi 54 k = F k := by
      have := h2 k (by omega)
      rw [a_up_ne (by omega)] at this
      exact this
    have b2 : x = F (k + 1) := by
      have := h2 (k + 1) hk
      unfold a_up at this
      rw [if_pos rfl] at this
      exact this
    have v1 := h3 k (by omega)
    have n1 : Int32.toNatClampNeg (Int32.ofInt (k : Int)) = k := (ji_nat (by omega)).trans (by omega)
    have n2 : Int32.toNatClampNeg (Int32.ofInt ((k + 1 : Nat) : Int)) = k + 1 := (ji_nat (by omega)).trans (by omega)
    have g1 : ¬ (Int32.ofInt (k : Int) < 0 ∨ 5 ≤ k) := by simp (disch := omega) only [ji_lt0]; omega
    have g2 : ¬ (Int32.ofInt ((k + 1 : Nat) : Int) < 0 ∨ 5 ≤ k + 1) := by simp (disch := omega) only [ji_lt0]; omega
    have e53 : ((jM wi, jL u) : zD).1 54 k = Int32.ofInt (F k) := by rw [← b1]; rfl
    have g0 : ¬ Int32.ofInt ((k + 1 : Nat) : Int) ≤ 0 := ji_le_n (b := 0) (by omega) (by decide) (by omega)
    have hx : z_ex none (z_F e) cd_Model_sort 4000 (cd_Model_sort.drop 13) 13 [some (.ref 54), some (.int (Int32.ofInt (m : Int))), some (.int (Int32.ofInt (i : Int))), some (.int (Int32.ofInt x)), some (.int (Int32.ofInt ((k + 1 : Nat) : Int)))] [] (n, z_q im, jM wi, jL u) = if F k ≤ x then some (.inr (3, [some (.ref 54), some (.int (Int32.ofInt (m : Int))), some (.int (Int32.ofInt ((i : Int) + 1))), some (.int (Int32.ofInt x)), some (.int (Int32.ofInt ((k + 1 : Nat) : Int)))], [], (n, z_q im, jM (z_u wi 54 (k + 1) x), jL u))) else some (.inr (13, [some (.ref 54), some (.int (Int32.ofInt (m : Int))), some (.int (Int32.ofInt (i : Int))), some (.int (Int32.ofInt x)), some (.int (Int32.ofInt (k : Int)))], [], (n, z_q im, jM (z_u wi 54 (k + 1) (F k)), jL u))) := by
      refine (e_Model_sort_54_13 ..).trans ?_
      rw [if_neg g0, ji_sub, show ((k + 1 : Nat) : Int) - 1 = (k : Int) by omega, n1, n2, if_neg g1, e53, if_neg g2, if_neg g1, if_neg g2, ji_add, ji_add, show ((k + 1 : Nat) : Int) + -1 = (k : Int) by omega]
      simp only [jM_u]
      by_cases q : F k ≤ x
      · rw [if_pos (ji_le_p (by omega) (by omega) q), if_pos q]
      · rw [if_neg (ji_le_n (by omega) (by omega) (by omega)), if_neg q]
    by_cases q : F k ≤ F (k + 1)
    · rw [if_pos (by omega)] at hx
      rw [if_pos q]
      exact ⟨z_u wi 54 (k + 1) x, _, _, z_To_1 hx, fun d hd => by rw [z_u_ne hd]; exact h1 d hd, fun j hj => by rw [z_u_at]; exact h2 j hj, h3⟩
    · rw [if_neg (by omega)] at hx
      rw [if_neg q]
      obtain ⟨w', q1, q2, k3, k4⟩ := l_msort1_54 (e := e) (n := n) (im := im) (w := w) (u := u) (i := i) hm k (a_sw F k (k + 1)) (z_u wi 54 (k + 1) (F k)) x (by omega) (by omega) (fun d hd => by rw [z_u_ne hd]; exact h1 d hd) (fun j hj => by
        have hh := h2 j hj
        rw [a_sw_at]
        unfold a_up at hh ⊢
        rw [z_u_at]
        by_cases j1 : j = k + 1
        · rw [if_pos j1, if_neg (by omega), if_pos j1]
        · rw [if_neg j1, if_neg j1]
          rw [if_neg j1] at hh
          by_cases j2 : j = k
          · rw [if_pos j2, if_pos j2]; exact b2
          · rw [if_neg j2, if_neg j2]; exact hh) (q_vr_sw h3 (by omega) hk)
      exact ⟨w', q1, q2, z_To_tr (z_To_1 hx) k3, k4⟩
theorem s_sort_54 {e n : Nat} {im : Nat → Option Nat} {w u : Nat → Nat → Int} {F : Nat → Int} {m : Nat} (hm : 1 ≤ m ∧ m ≤ 5) (h : ∀ j, j < m → w 54 j = F j) (hF : ∀ j, j < m → 0 ≤ F j ∧ F j ≤ 9) : ∃ w', (z_F (e + 1)).2.2.1 k_Model_sort [.ref 54, .int (Int32.ofInt (m : Int))] (n, z_q im, jM w, jL u) = some (jM w', jL u) ∧ k_Q 54 w m (q_so F m) w' := by
  obtain ⟨t9, ht9, wf, q, q', rfl, i1⟩ := z_for (o := z_F e) (cd := cd_Model_sort) (P := fun i s => ∃ wi q q', s = (3, [some (.ref 54), some (.int (Int32.ofInt (m : Int))), some (.int (Int32.ofInt ((i : Int) + 1))), q, q'], (n, z_q im, jM wi, jL u)) ∧ k_Q 54 w m (q_so F (i + 1)) wi) (m - 1) (s := (3, [some (.ref 54), some (.int (Int32.ofInt (m : Int))), some (.int (Int32.ofInt 1)), none, none], (n, z_q im, jM w, jL u))) ⟨w, none, none, rfl, fun _ _ => rfl, h, hF⟩ (fun i s hi hs => by
    obtain ⟨wi, q, q', rfl, i1⟩ := hs
    have n1 : Int32.toNatClampNeg (Int32.ofInt ((i : Int) + 1)) = i + 1 := (ji_nat (by omega)).trans (by omega)
    have g1 : ¬ (Int32.ofInt ((i : Int) + 1) < 0 ∨ 5 ≤ i + 1) := by simp (disch := omega) only [ji_lt0]; omega
    have e53 : ((jM wi, jL u) : zD).1 54 (i + 1) = Int32.ofInt (q_so F (i + 1) (i + 1)) := by rw [← i1.2.1 (i + 1) (by omega)]; rfl
    obtain ⟨w', q1, q2, k3, k4⟩ := l_msort1_54 (e := e) (n := n) (im := im) (w := w) (u := u) (i := i + 1) hm.2 (i + 1) (q_so F (i + 1)) wi (q_so F (i + 1) (i + 1)) (by omega) (i1.2.2 (i + 1) (by omega)) i1.1 (fun j hj => by
      unfold a_up
      by_cases q : j = i + 1
      · rw [if_pos q, q]
      · rw [if_neg q]; exact i1.2.1 j hj) i1.2.2
    refine ⟨_, z_To_tr (z_To_1 ((e_Model_sort_54_3 ..).trans ?_)) k3, w', q1, q2, rfl, k4⟩
    rw [if_neg (ji_le_n (by omega) (by omega) (by omega)), n1, if_neg g1, e53]
    rfl)
  refine ⟨wf, n_Model_sort_54 (z_go (e_Model_sort_54_0 ..) (ht9 _ (z_ret ((e_Model_sort_54_3 ..).trans ?_)))), ?_⟩
  · rw [if_pos (ji_le_p (by omega) (by omega) (by omega))]
  · rw [show m - 1 + 1 = m by omega] at i1
    exact i1
theorem l_mpv_54 {e n : Nat} {im : Nat → Option Nat} {w u : Nat → Nat → Int} {F : Nat → Int} {m : Nat} {wi : Nat → Nat → Int} (hm : m ≤ 5) (h : k_Q 54 w m F wi) : ∀ (k : Nat), k < m → (q_pv F k = -1 → z_Rn (z_F (e + 1)) cd_Model_nextOrder 5 [some (.ref 54), some (.int (Int32.ofInt (m : Int))), some (.int (Int32.ofInt ((k : Int) - 1))), none, none, none] (n, z_q im, jM wi, jL u) (some (.int (Int32.ofInt 0)), (n, z_q im, jM wi, jL u))) ∧ (q_pv F k ≠ -1 → z_To (z_F (e + 1)) cd_Model_nextOrder (5, [some (.ref 54), some (.int (Int32.ofInt (m : Int))), some (.int (Int32.ofInt ((k : Int) - 1))), none, none, none], (n, z_q im, jM wi, jL u)) (27, [some (.ref 54), some (.int (Int32.ofInt (m : Int))), some (.int (Int32.ofInt (q_pv F k))), some (.int (Int32.ofInt ((m : Int) - 1))), none, none], (n, z_q im, jM wi, jL u)))
  | 0, hk => by
    refine ⟨fun _ => z_ret ((e_Model_nextOrder_54_5 ..).trans ?_), fun q => absurd rfl q⟩
    rw [show (0 : Int32) = Int32.ofInt 0 from rfl, if_pos (ji_lt_p (by decide) (by decide) (by decide)), if_neg (ji_le_n (by decide) (by decide) (by decide))]
  | k + 1, hk => by
    have ih := l_mpv_54 (e := e) (n := n) (im := im) (u := u) hm h k (by omega)
    have v1 := h.2.2 k (by omega)
    have v2 := h.2.2 (k + 1) hk
    have e1 : ((jM wi, jL u) : zD).1 54 k = Int32.ofInt (F k) := by rw [← h.2.1 k (by omega)]; rfl
    have e2 : ((jM wi, jL u) : zD).1 54 (k + 1) = Int32.ofInt (F (k + 1)) := by rw [← h.2.1 (k + 1) hk]; rfl
    have n1 : Int32.toNatClampNeg (Int32.ofInt (k : Int)) = k := (ji_nat (by omega)).trans (by omega)
    have n2 : Int32.toNatClampNeg (Int32.ofInt ((k : Int) + 1)) = k + 1 := (ji_nat (by omega)).trans (by omega)
    have g1 : ¬ (Int32.ofInt (k : Int) < 0 ∨ 5 ≤ k) := by simp (disch := omega) only [ji_lt0]; omega
    have g2 : ¬ (Int32.ofInt ((k : Int) + 1) < 0 ∨ 5 ≤ k + 1) := by simp (disch := omega) only [ji_lt0]; omega
    have g3 : ¬ Int32.ofInt (k : Int) < 0 := fun q => g1 (Or.inl q)
    have g4 : (0 : Int32) ≤ Int32.ofInt (k : Int) := ji_le_p (a := 0) (by decide) (by omega) (by omega)
    have hx : z_ex none (z_F (e + 1)) cd_Model_nextOrder 4000 (cd_Model_nextOrder.drop 5) 5 [some (.ref 54), some (.int (Int32.ofInt (m : Int))), some (.int (Int32.ofInt (((k + 1 : Nat) : Int) - 1))), none, none, none] [] (n, z_q im, jM wi, jL u) = if F k ≤ F (k + 1) then some (.inr (27, [some (.ref 54), some (.int (Int32.ofInt (m : Int))), some (.int (Int32.ofInt (k : Int))), some (.int (Int32.ofInt ((m : Int) - 1))), none, none], [], (n, z_q im, jM wi, jL u))) else some (.inr (5, [some (.ref 54), some (.int (Int32.ofInt (m : Int))), some (.int (Int32.ofInt ((k : Int) - 1))), none, none, none], [], (n, z_q im, jM wi, jL u))) := by
      refine (e_Model_nextOrder_54_5 ..).trans ?_
      rw [show ((k + 1 : Nat) : Int) - 1 = (k : Int) by omega, if_neg g3, ji_add, ji_add, n1, n2, if_neg g1, if_neg g2, e1, e2, ji_sub, show (k : Int) + -1 = (k : Int) - 1 by omega]
      by_cases q : F k ≤ F (k + 1)
      · rw [if_pos (ji_le_p (by omega) (by omega) q), if_pos q, if_pos g4]
      · rw [if_neg (ji_le_n (by omega) (by omega) (by omega)), if_neg q]
    simp only [q_pv]
    by_cases q : F k ≤ F (k + 1)
    · rw [if_pos q] at hx ⊢
      exact ⟨fun q2 => by omega, fun _ => z_To_1 hx⟩
    · rw [if_neg q] at hx ⊢
      exact ⟨fun q2 => z_go hx (ih.1 q2), fun q2 => z_To_tr (z_To_1 hx) (ih.2 q2)⟩
theorem l_my_54 {e n : Nat} {im : Nat → Option Nat} {w u : Nat → Nat → Int} {F : Nat → Int} {m p : Nat} {wi : Nat → Nat → Int} (hm : m ≤ 5) (h : k_Q 54 w m F wi) : ∀ (y : Nat), y < m → p ≤ y → ∃ w', z_To (z_F (e + 1)) cd_Model_nextOrder (27, [some (.ref 54), some (.int (Int32.ofInt (m : Int))), some (.int (Int32.ofInt (p : Int))), some (.int (Int32.ofInt (y : Int))), none, none], (n, z_q im, jM wi, jL u)) (49, [some (.ref 54), some (.int (Int32.ofInt (m : Int))), some (.int (Int32.ofInt (p : Int))), some (.int (Int32.ofInt ((q_y F p y : Nat) : Int))), some (.int (Int32.ofInt ((p : Int) + 1))), some (.int (Int32.ofInt ((m : Int) - 1)))], (n, z_q im, jM w', jL u)) ∧ k_Q 54 w m (a_sw F p (q_y F p y)) w' := by
  intro y
  have pre : ∀ y : Nat, y < m → p ≤ y → z_ex none (z_F (e + 1)) cd_Model_nextOrder 4000 (cd_Model_nextOrder.drop 27) 27 [some (.ref 54), some (.int (Int32.ofInt (m : Int))), some (.int (Int32.ofInt (p : Int))), some (.int (Int32.ofInt (y : Int))), none, none] [] (n, z_q im, jM wi, jL u) = if F p ≤ F y then (z_oV ((z_F (e + 1)).2.2.1 k_Model_trade [.ref 54, .int (Int32.ofInt (p : Int)), .int (Int32.ofInt (y : Int))] (n, z_q im, jM wi, jL u)) none (fun d1 => some (.inr (49, [some (.ref 54), some (.int (Int32.ofInt (m : Int))), some (.int (Int32.ofInt (p : Int))), some (.int (Int32.ofInt (y : Int))), some (.int (Int32.ofInt ((p : Int) + 1))), some (.int (Int32.ofInt ((m : Int) - 1)))], [], (n, z_q im, d1))))) else some (.inr (27, [some (.ref 54), some (.int (Int32.ofInt (m : Int))), some (.int (Int32.ofInt (p : Int))), some (.int (Int32.ofInt ((y : Int) - 1))), none, none], [], (n, z_q im, jM wi, jL u))) := fun y hy hpy => by
    have v1 := h.2.2 p (by omega)
    have v2 := h.2.2 y hy
    have e1 : ((jM wi, jL u) : zD).1 54 p = Int32.ofInt (F p) := by rw [← h.2.1 p (by omega)]; rfl
    have e2 : ((jM wi, jL u) : zD).1 54 y = Int32.ofInt (F y) := by rw [← h.2.1 y hy]; rfl
    have n1 : Int32.toNatClampNeg (Int32.ofInt (p : Int)) = p := (ji_nat (by omega)).trans (by omega)
    have n2 : Int32.toNatClampNeg (Int32.ofInt (y : Int)) = y := (ji_nat (by omega)).trans (by omega)
    have g1 : ¬ (Int32.ofInt (p : Int) < 0 ∨ 5 ≤ p) := by simp (disch := omega) only [ji_lt0]; omega
    have g2 : ¬ (Int32.ofInt (y : Int) < 0 ∨ 5 ≤ y) := by simp (disch := omega) only [ji_lt0]; omega
    refine (e_Model_nextOrder_54_27 ..).trans ?_
    rw [n1, n2, if_neg g2, if_neg g1, e1, e2, ji_add, ji_add, ji_sub, show (y : Int) + -1 = (y : Int) - 1 by omega]
    by_cases q : F p ≤ F y
    · rw [if_pos (ji_le_p (by omega) (by omega) q), if_pos q]
    · rw [if_neg (ji_le_n (by omega) (by omega) (by omega)), if_neg q]
  have stop : ∀ y : Nat, y < m → p ≤ y → F p ≤ F y → ∃ w', z_To (z_F (e + 1)) cd_Model_nextOrder (27, [some (.ref 54), some (.int (Int32.ofInt (m : Int))), some (.int (Int32.ofInt (p : Int))), some (.int (Int32.ofInt (y : Int))), none, none], (n, z_q im, jM wi, jL u)) (49, [some (.ref 54), some (.int (Int32.ofInt (m : Int))), some (.int (Int32.ofInt (p : Int))), some (.int (Int32.ofInt (y : Int))), some (.int (Int32.ofInt ((p : Int) + 1))), some (.int (Int32.ofInt ((m : Int) - 1)))], (n, z_q im, jM w', jL u)) ∧ k_Q 54 w m (a_sw F p y) w' := fun y hy hpy hs => by
    obtain ⟨w1, k1, k2⟩ := s_trade_54 (e := e) (n := n) (im := im) (u := u) (a := p) (b := y) hm h (by omega) hy
    have hx := pre y hy hpy
    rw [if_pos hs, k1, z_oV_s] at hx
    exact ⟨w1, z_To_1 hx, k2⟩
  induction y with
  | zero => intro hy hp; exact stop 0 hy hp (by rw [show p = 0 by omega]; exact Int.le_refl _)
  | succ y ih =>
    intro hy hp
    simp only [q_y]
    by_cases q : F p ≤ F (y + 1)
    · rw [if_pos q]; exact stop (y + 1) hy hp q
    · rw [if_neg q]
      have hpy : p ≠ y + 1 := fun z => q (by rw [z]; exact Int.le_refl _)
      obtain ⟨w', k1, k2⟩ := ih (by omega) (by omega)
      have hx := pre (y + 1) hy hp
      rw [if_neg q, show ((y + 1 : Nat) : Int) - 1 = (y : Int) by omega] at hx
      exact ⟨w', z_To_tr (z_To_1 hx) k1, k2⟩
theorem l_mrv_54 {e n : Nat} {im : Nat → Option Nat} {w u : Nat → Nat → Int} {m : Nat} {x1 x2 : Int32} (hm : m ≤ 5) : ∀ (f : Nat) (F : Nat → Int) (wi : Nat → Nat → Int) (a b : Nat), b < m → a ≤ m → b ≤ a + 2 * f → k_Q 54 w m F wi → ∃ w', z_Rn (z_F (e + 1)) cd_Model_nextOrder 49 [some (.ref 54), some (.int (Int32.ofInt (m : Int))), some (.int x1), some (.int x2), some (.int (Int32.ofInt (a : Int))), some (.int (Int32.ofInt (b : Int)))] (n, z_q im, jM wi, jL u) (some (.int (Int32.ofInt 1)), (n, z_q im, jM w', jL u)) ∧ k_Q 54 w m (q_rv f F a b) w'
  | 0, F, wi, a, b, hb, ha, hf, h => by
    refine ⟨wi, z_ret ((e_Model_nextOrder_54_49 ..).trans ?_), h⟩
    rw [if_pos (ji_le_p (by omega) (by omega) (by omega))]
  | f + 1, F, wi, a, b, hb, ha, hf, h => by
    simp only [q_rv]
    by_cases q : b ≤ a
    · rw [if_pos q]
      refine ⟨wi, z_ret ((e_Model_nextOrder_54_49 ..).trans ?_), h⟩
      rw [if_pos (ji_le_p (by omega) (by omega) (by omega))]
    · rw [if_neg q]
      obtain ⟨w1, k1, k2⟩ := s_trade_54 (e := e) (n := n) (im := im) (u := u) (a := a) (b := b) hm h (by omega) hb
      obtain ⟨w', r1, r2⟩ := l_mrv_54 (e := e) (n := n) (im := im) (u := u) (x1 := x1) (x2 := x2) hm f _ w1 (a + 1) (b - 1) (by omega) (by omega) (by omega) k2
      refine ⟨w', z_go ((e_Model_nextOrder_54_49 ..).trans ?_) r1, r2⟩
      rw [if_neg (ji_le_n (by omega) (by omega) (by omega)), k1, z_oV_s, ji_add, ji_add, show (b : Int) + -1 = ((b - 1 : Nat) : Int) by omega]
      rfl
theorem s_nextOrder_54 {e n : Nat} {im : Nat → Option Nat} {w u : Nat → Nat → Int} {F : Nat → Int} {m : Nat} {wi : Nat → Nat → Int} (hm : 1 ≤ m ∧ m ≤ 5) (h : k_Q 54 w m F wi) : ∃ w', (z_F (e + 2)).1 k_Model_nextOrder [.ref 54, .int (Int32.ofInt (m : Int))] (n, z_q im, jM wi, jL u) = some (Int32.ofInt (if q_pv F (m - 1) = -1 then 0 else 1), jM w', jL u) ∧ k_Q 54 w m (q_nx F m) w' := by
  have he : z_ex none (z_F (e + 1)) cd_Model_nextOrder 4000 (cd_Model_nextOrder.drop 0) 0 [some (.ref 54), some (.int (Int32.ofInt (m : Int))), none, none, none, none] [] (n, z_q im, jM wi, jL u) = some (.inr (5, [some (.ref 54), some (.int (Int32.ofInt (m : Int))), some (.int (Int32.ofInt (((m - 1 : Nat) : Int) - 1))), none, none, none], [], (n, z_q im, jM wi, jL u))) := by
    refine (e_Model_nextOrder_54_0 ..).trans ?_
    rw [ji_sub, show (m : Int) - 2 = ((m - 1 : Nat) : Int) - 1 by omega]
  have hp := l_mpv_54 (e := e) (n := n) (im := im) (u := u) hm.2 h (m - 1) (by omega)
  have hpb := q_pv_b F (m - 1)
  unfold q_nx
  by_cases q : q_pv F (m - 1) = -1
  · rw [if_pos q, if_pos q]
    exact ⟨wi, n_Model_nextOrder_54 (z_go he (hp.1 q)), h⟩
  · rw [if_neg q, if_neg q]
    obtain ⟨P, hP⟩ : ∃ P : Nat, q_pv F (m - 1) = (P : Int) := ⟨(q_pv F (m - 1)).toNat, by omega⟩
    have hp2 := hp.2 q
    rw [hP] at hp2 hpb ⊢
    rw [show ((P : Int)).toNat = P by omega]
    obtain ⟨w1, y1, y2⟩ := l_my_54 (e := e) (n := n) (im := im) (u := u) (p := P) hm.2 h (m - 1) (by omega) (by omega)
    have hyb := q_y_b F P (m - 1)
    obtain ⟨w', r1, r2⟩ := l_mrv_54 (e := e) (n := n) (im := im) (u := u) (x1 := Int32.ofInt (P : Int)) (x2 := Int32.ofInt ((q_y F P (m - 1) : Nat) : Int)) hm.2 5 _ w1 (P + 1) (m - 1) (by omega) (by omega) (by omega) y2
    refine ⟨w', n_Model_nextOrder_54 (z_go he (hp2 _ ?_)), r2⟩
    rw [show (m : Int) - 1 = ((m - 1 : Nat) : Int) by omega] at y1 ⊢
    exact y1 _ r1
