/-! the tape: feed, end, count, fault -/
/-- a byte of a number -/
def b_p (p s : Int) : Int := (Int8.toInt32 (Int32.toInt8 (Int8.toInt32 (Int32.toInt8 (Int32.ofInt p >>> (Int32.ofInt s &&& 31)))))).toInt
theorem b_p_o (p s : Int) : Int8.toInt32 (Int32.toInt8 (Int8.toInt32 (Int32.toInt8 (Int32.ofInt p >>> (Int32.ofInt s &&& 31))))) = Int32.ofInt (b_p p s) := (Int32.ofInt_toInt _).symm
theorem b_p_b (p s : Int) : -128 ≤ b_p p s ∧ b_p p s ≤ 127 := by
  unfold b_p
  generalize Int32.toInt8 (Int8.toInt32 (Int32.toInt8 (Int32.ofInt p >>> (Int32.ofInt s &&& 31)))) = x
  have h1 := Int8.le_toInt x
  have h2 := Int8.toInt_lt x
  rw [Int8.toInt_toInt32]
  omega
def T_c (w : Nat → Nat → Int) (U : Nat) (tp : Nat → Int) : Prop := w 1 1 = (U : Int) ∧ ∀ j, j < U → w 2 j = tp j
def T_m (w : Nat → Nat → Int) (U : Nat) (tp : Nat → Int) : Prop := w 45 5 = (U : Int) ∧ ∀ j, j < U → w 49 j = tp j
def T_w (U : Nat) (tp : Nat → Int) : Prop := U ≤ 1200 ∧ ∀ j, j < U → -128 ≤ tp j ∧ tp j ≤ 127
/-- what a feed's numbers bring -/
def t_5 (p0 p1 p2 p3 p4 : Int) (k : Nat) : Int := if k = 0 then p0 else if k = 1 then p1 else if k = 2 then p2 else if k = 3 then p3 else p4
def t_fd (tp : Nat → Int) (U : Nat) (p0 p1 p2 p3 p4 : Int) (j : Nat) : Int := if j < U then tp j else b_p (t_5 p0 p1 p2 p3 p4 ((j - U) / 4)) (24 - 8 * (((j - U) % 4 : Nat) : Int))
def V_feed (U : Nat) : Int := if U + 20 ≤ 1200 then (U : Int) + 20 else -1
def U_feed (U : Nat) : Nat := if U + 20 ≤ 1200 then U + 20 else U
def P_feed (tp : Nat → Int) (U : Nat) (p0 p1 p2 p3 p4 : Int) : Nat → Int := if U + 20 ≤ 1200 then t_fd tp U p0 p1 p2 p3 p4 else tp
theorem T_w_feed {U : Nat} {tp : Nat → Int} (h : T_w U tp) (p0 p1 p2 p3 p4 : Int) : T_w (U_feed U) (P_feed tp U p0 p1 p2 p3 p4) := by
  unfold U_feed P_feed
  by_cases q : U + 20 ≤ 1200
  · rw [if_pos q, if_pos q]
    refine ⟨q, fun j hj => ?_⟩
    unfold t_fd
    split
    · rename_i q2; exact h.2 j q2
    · exact b_p_b _ _
  · rw [if_neg q, if_neg q]; exact h
theorem s_put {e n : Nat} {im : Nat → Option Nat} {w u : Nat → Nat → Int} {p : Int} {U : Nat} (h : w 1 1 = (U : Int)) (hU : U + 4 ≤ 1200) : ∃ w', (z_F (e + 1)).2.2.1 k_Tape_put [.ref 1, .int (Int32.ofInt p)] (n, z_q im, jM w, jL u) = some (jM w', jL u) ∧ w' 1 1 = ((U + 4 : Nat) : Int) ∧ (∀ c, c ≠ 1 → c ≠ 2 → w' c = w c) ∧ (∀ j, j < U → w' 2 j = w 2 j) ∧ ∀ k, k < 4 → w' 2 (U + k) = b_p p (24 - 8 * (k : Int)) := by
  obtain ⟨t9, ht9, wf, rfl, i1, i2, i3, i4⟩ := z_for (o := z_F e) (cd := cd_Tape_put) (P := fun k s => ∃ wi, s = (3, [some (.ref 1), some (.int (Int32.ofInt p)), some (.int (Int32.ofInt (24 - 8 * (k : Int))))], (n, z_q im, jM wi, jL u)) ∧ wi 1 1 = ((U + k : Nat) : Int) ∧ (∀ c, c ≠ 1 → c ≠ 2 → wi c = w c) ∧ (∀ j, j < U → wi 2 j = w 2 j) ∧ ∀ j, j < k → wi 2 (U + j) = b_p p (24 - 8 * (j : Int))) 4 (s := (3, [some (.ref 1), some (.int (Int32.ofInt p)), some (.int (Int32.ofInt 24))], (n, z_q im, jM w, jL u))) ⟨w, rfl, h, fun _ _ _ => rfl, fun _ _ => rfl, fun j hj => absurd hj (by omega)⟩ (fun k s hk hs => by
    obtain ⟨wi, rfl, i1, i2, i3, i4⟩ := hs
    have e1 : ((jM wi, jL u) : zD).1 1 1 = Int32.ofInt ((U + k : Nat) : Int) := by rw [← i1]; rfl
    have n1 : Int32.toNatClampNeg (Int32.ofInt ((U + k : Nat) : Int)) = U + k := (ji_nat (by omega)).trans (by omega)
    have g0 : ¬ Int32.ofInt ((U + k : Nat) : Int) < 0 := by simp (disch := omega) only [ji_lt0]; omega
    have g2 : ¬ Int32.ofInt (24 - 8 * (k : Int)) < 0 := by simp (disch := omega) only [ji_lt0]; omega
    refine ⟨(3, [some (.ref 1), some (.int (Int32.ofInt p)), some (.int (Int32.ofInt (24 - 8 * ((k + 1 : Nat) : Int))))], (n, z_q im, jM (z_u (z_u wi 2 (U + k) (b_p p (24 - 8 * (k : Int)))) 1 1 ((U + (k + 1) : Nat) : Int)), jL u)), z_To_1 ((e_Tape_put_3 ..).trans ?_), _, rfl, by rw [z_u_at, if_pos rfl], fun c q1 q2 => by rw [z_u_ne q1, z_u_ne q2]; exact i2 c q1 q2, fun j hj => by rw [z_u_ne (by decide), z_u_at, if_neg (by omega)]; exact i3 j hj, fun j hj => ?_⟩
    · rw [if_neg g2, e1, if_neg g0, show Int32.ofNat 1200 = Int32.ofInt 1200 from rfl, if_neg (ji_le_n (by decide) (by omega) (by omega)), n1, if_neg (fun q => q.elim g0 (by omega)), ji_add, ji_add, b_p_o, jM_u, jM_u, show (24 : Int) - 8 * (k : Int) + -8 = 24 - 8 * ((k + 1 : Nat) : Int) by omega]
      rfl
    · rw [z_u_ne (by decide), z_u_at]
      by_cases q : j = k
      · rw [if_pos (by omega), q]
      · rw [if_neg (by omega)]; exact i4 j (by omega))
  refine ⟨wf, n_Tape_put (z_go (e_Tape_put_0 ..) (ht9 _ (z_ret ((e_Tape_put_3 ..).trans ?_)))), i1, i2, i3, i4⟩
  rw [if_pos (by simp (disch := omega) only [ji_lt0]; omega)]
theorem x_feed {e n : Nat} {im : Nat → Option Nat} {w u : Nat → Nat → Int} {U : Nat} {tp : Nat → Int} {p0 p1 p2 p3 p4 : Int} (hT : T_c w U tp) (hw : T_w U tp) : ∃ w', (z_F (e + 20)).1 k_LongBoats_feed [.ref 0, .int (Int32.ofInt p0), .int (Int32.ofInt p1), .int (Int32.ofInt p2), .int (Int32.ofInt p3), .int (Int32.ofInt p4)] (n, z_q im, jM w, jL u) = some (Int32.ofInt (V_feed U), jM w', jL u) ∧ T_c w' (U_feed U) (P_feed tp U p0 p1 p2 p3 p4) ∧ ∀ c, c ≠ 1 → c ≠ 2 → w' c = w c := by
  have hU := hw.1
  have hfull : (z_F (e + 19)).1 k_Tape_isFull [.ref 1] (n, z_q im, jM w, jL u) = some (Int32.ofInt (if U + 20 ≤ 1200 then 0 else 1), jM w, jL u) := by
    refine q_Tape_isFull (e := e + 18) ?_
    have e1 : ((jM w, jL u) : zD).1 1 1 = Int32.ofInt (U : Int) := by rw [← hT.1]; rfl
    rw [e1, ji_add]
    by_cases q : U + 20 ≤ 1200
    · rw [if_pos q, if_pos (ji_le_p (by omega) (by decide) (by omega))]
    · rw [if_neg q, if_neg (ji_le_n (by omega) (by decide) (by omega))]
  unfold V_feed U_feed P_feed
  by_cases q : U + 20 ≤ 1200
  · rw [if_pos q] at hfull ⊢
    rw [if_pos q, if_pos q]
    obtain ⟨w1, a1, a2, a3, a4, a5⟩ := s_put (e := e + 18) (n := n) (im := im) (w := w) (u := u) (p := p0) hT.1 (by omega)
    obtain ⟨w2, b1, b2, b3, b4, b5⟩ := s_put (e := e + 18) (n := n) (im := im) (w := w1) (u := u) (p := p1) a2 (by omega)
    obtain ⟨w3, c1, c2, c3, c4, c5⟩ := s_put (e := e + 18) (n := n) (im := im) (w := w2) (u := u) (p := p2) b2 (by omega)
    obtain ⟨w4, d1, d2, d3, d4, d5⟩ := s_put (e := e + 18) (n := n) (im := im) (w := w3) (u := u) (p := p3) c2 (by omega)
    obtain ⟨w5, f1, f2, f3, f4, f5⟩ := s_put (e := e + 18) (n := n) (im := im) (w := w4) (u := u) (p := p4) d2 (by omega)
    have hlen : (z_F (e + 19)).1 k_Tape_length [.ref 1] (n, z_q im, jM w5, jL u) = some (Int32.ofInt ((U : Int) + 20), jM w5, jL u) := by
      refine q_Tape_length (e := e + 18) ?_
      have e1 : ((jM w5, jL u) : zD).1 1 1 = Int32.ofInt ((U : Int) + 20) := by
        have : w5 1 1 = (U : Int) + 20 := by rw [f2]; omega
        rw [← this]; rfl
      rw [e1]
    refine ⟨w5, q_LongBoats_feed (e := e + 19) ?_, ⟨f2, fun j hj => ?_⟩, fun c q1 q2 => by rw [f3 c q1 q2, d3 c q1 q2, c3 c q1 q2, b3 c q1 q2, a3 c q1 q2]⟩
    · rw [hfull, z_oI_s, if_pos (show Int32.ofInt 0 = 0 from rfl), a1, z_oV_s, b1, z_oV_s, c1, z_oV_s, d1, z_oV_s, f1, z_oV_s, hlen, z_oI_s]
    · unfold t_fd
      by_cases j0 : j < U
      · rw [if_pos j0, f4 j (by omega), d4 j (by omega), c4 j (by omega), b4 j (by omega), a4 j j0]; exact hT.2 j j0
      · rw [if_neg j0]
        obtain ⟨r, hr⟩ : ∃ r, r = (j - U) % 4 := ⟨_, rfl⟩
        have hr4 : r < 4 := by omega
        rw [← hr]
        rcases (show (j - U) / 4 = 0 ∨ (j - U) / 4 = 1 ∨ (j - U) / 4 = 2 ∨ (j - U) / 4 = 3 ∨ (j - U) / 4 = 4 by omega) with q | q | q | q | q <;> rw [q]
        · rw [f4 j (by omega), d4 j (by omega), c4 j (by omega), b4 j (by omega), show j = U + r by omega]; exact a5 r hr4
        · rw [f4 j (by omega), d4 j (by omega), c4 j (by omega), show j = U + 4 + r by omega]; exact b5 r hr4
        · rw [f4 j (by omega), d4 j (by omega), show j = U + 4 + 4 + r by omega]; exact c5 r hr4
        · rw [f4 j (by omega), show j = U + 4 + 4 + 4 + r by omega]; exact d5 r hr4
        · rw [show j = U + 4 + 4 + 4 + 4 + r by omega]; exact f5 r hr4
  · rw [if_neg q] at hfull ⊢
    rw [if_neg q, if_neg q]
    refine ⟨w, q_LongBoats_feed (e := e + 19) ?_, hT, fun _ _ _ => rfl⟩
    rw [hfull, z_oI_s, if_neg (show ¬ Int32.ofInt 1 = 0 by decide)]
theorem m_feed {e n : Nat} {im : Nat → Option Nat} {w u : Nat → Nat → Int} {U : Nat} {tp : Nat → Int} {p0 p1 p2 p3 p4 : Int} (hT : T_m w U tp) (hw : T_w U tp) : ∃ w', (z_F (e + 20)).1 k_Model_feed [.ref 45, .int (Int32.ofInt p0), .int (Int32.ofInt p1), .int (Int32.ofInt p2), .int (Int32.ofInt p3), .int (Int32.ofInt p4)] (n, z_q im, jM w, jL u) = some (Int32.ofInt (V_feed U), jM w', jL u) ∧ T_m w' (U_feed U) (P_feed tp U p0 p1 p2 p3 p4) ∧ (∀ c, c ≠ 45 → c ≠ 49 → c ≠ 50 → w' c = w c) ∧ ∀ j, j ≠ 5 → w' 45 j = w 45 j := by
  have hU := hw.1
  have e5 : ((jM w, jL u) : zD).1 45 5 = Int32.ofInt (U : Int) := by rw [← hT.1]; rfl
  unfold V_feed U_feed P_feed
  by_cases q : U + 20 ≤ 1200
  · rw [if_pos q, if_pos q, if_pos q]
    obtain ⟨w0, hw0⟩ : ∃ w0, w0 = z_u (z_u (z_u (z_u (z_u w 50 0 p0) 50 1 p1) 50 2 p2) 50 3 p3) 50 4 p4 := ⟨_, rfl⟩
    have h50 : ∀ k, k < 5 → w0 50 k = t_5 p0 p1 p2 p3 p4 k := fun k hk => by
      rw [hw0]
      rcases (show k = 0 ∨ k = 1 ∨ k = 2 ∨ k = 3 ∨ k = 4 by omega) with rfl | rfl | rfl | rfl | rfl <;> rfl
    have hne : ∀ c, c ≠ 50 → w0 c = w c := fun c hc => by rw [hw0, z_u_ne hc, z_u_ne hc, z_u_ne hc, z_u_ne hc, z_u_ne hc]
    obtain ⟨t9, ht9, wf, rfl, i1, i2⟩ := z_for (o := z_F (e + 19)) (cd := cd_Model_feed) (P := fun k s => ∃ wi, s = (36, [some (.ref 45), some (.int (Int32.ofInt p0)), some (.int (Int32.ofInt p1)), some (.int (Int32.ofInt p2)), some (.int (Int32.ofInt p3)), some (.int (Int32.ofInt p4)), some (.int (Int32.ofInt (k : Int)))], (n, z_q im, jM wi, jL u)) ∧ (∀ c, c ≠ 49 → wi c = w0 c) ∧ ∀ j, j < U + k → wi 49 j = t_fd tp U p0 p1 p2 p3 p4 j) 20 (s := (36, [some (.ref 45), some (.int (Int32.ofInt p0)), some (.int (Int32.ofInt p1)), some (.int (Int32.ofInt p2)), some (.int (Int32.ofInt p3)), some (.int (Int32.ofInt p4)), some (.int (Int32.ofInt 0))], (n, z_q im, jM w0, jL u))) ⟨w0, rfl, fun _ _ => rfl, fun j hj => by rw [hne 49 (by decide), hT.2 j (by omega)]; unfold t_fd; rw [if_pos (by omega)]⟩ (fun k s hk hs => by
      obtain ⟨wi, rfl, i1, i2⟩ := hs
      have f5 : ((jM wi, jL u) : zD).1 45 5 = Int32.ofInt (U : Int) := by rw [← hT.1, ← hne 45 (by decide), ← i1 45 (by decide)]; rfl
      have n1 : Int32.toNatClampNeg (Int32.ofInt ((U : Int) + (k : Int))) = U + k := (ji_nat (by omega)).trans (by omega)
      have n2 : Int32.toNatClampNeg (Int32.ofInt ((k : Int) / 4)) = k / 4 := (ji_nat (by omega)).trans (by omega)
      have g1 : ¬ (Int32.ofInt ((U : Int) + (k : Int)) < 0 ∨ 1200 ≤ U + k) := by simp (disch := omega) only [ji_lt0]; omega
      have g2 : ¬ (Int32.ofInt ((k : Int) / 4) < 0 ∨ 5 ≤ k / 4) := by simp (disch := omega) only [ji_lt0]; omega
      have f50 : ((jM wi, jL u) : zD).1 50 (k / 4) = Int32.ofInt (t_5 p0 p1 p2 p3 p4 (k / 4)) := by rw [← h50 _ (by omega), ← i1 50 (by decide)]; rfl
      refine ⟨(36, [some (.ref 45), some (.int (Int32.ofInt p0)), some (.int (Int32.ofInt p1)), some (.int (Int32.ofInt p2)), some (.int (Int32.ofInt p3)), some (.int (Int32.ofInt p4)), some (.int (Int32.ofInt ((k : Int) + 1)))], (n, z_q im, jM (z_u wi 49 (U + k) (b_p (t_5 p0 p1 p2 p3 p4 (k / 4)) (24 - 8 * ((k % 4 : Nat) : Int)))), jL u)), z_To_1 ((e_Model_feed_36 ..).trans ?_), _, rfl, fun c hc => by rw [z_u_ne hc]; exact i1 c hc, fun j hj => ?_⟩
      · rw [if_neg (ji_le_n (by decide) (by omega) (by omega)), ji_ediv (by omega) (by omega) (by decide) (by decide), n2, if_neg g2, f5, ji_add, n1, if_neg g1, f50, ji_mul, ji_sub, ji_mul, ji_sub, ji_add, show (24 : Int) - 8 * ((k : Int) - (k : Int) / 4 * 4) = 24 - 8 * ((k % 4 : Nat) : Int) by omega, b_p_o, jM_u]
      · rw [z_u_at]
        by_cases qj : j = U + k
        · rw [if_pos qj]; unfold t_fd; rw [if_neg (by omega), show j - U = k by omega]
        · rw [if_neg qj]; exact i2 j (by omega))
    have f5 : ((jM wf, jL u) : zD).1 45 5 = Int32.ofInt (U : Int) := by rw [← hT.1, ← hne 45 (by decide), ← i1 45 (by decide)]; rfl
    refine ⟨z_u wf 45 5 ((U : Int) + 20), n_Model_feed (e := e + 19) (z_go ((e_Model_feed_0 ..).trans ?_) (ht9 _ (z_ret ((e_Model_feed_36 ..).trans ?_)))), ⟨by rw [z_u_at, if_pos rfl]; omega, fun j hj => by rw [z_u_ne (by decide)]; exact i2 j hj⟩, fun c q1 q2 q3 => by rw [z_u_ne q1, i1 c q2, hne c q3], fun j hj => by rw [z_u_at, if_neg hj, i1 45 (by decide), hne 45 (by decide)]⟩
    · rw [e5, ji_add, if_pos (ji_le_p (by omega) (by decide) (by omega)), jM_u, jM_u, jM_u, jM_u, jM_u, ← hw0]
    · rw [if_pos (ji_le_p (by decide) (by decide) (by decide)), f5, ji_add, jM_u]
  · rw [if_neg q, if_neg q, if_neg q]
    refine ⟨w, n_Model_feed (e := e + 19) (z_ret ((e_Model_feed_0 ..).trans ?_)), hT, fun _ _ _ _ => rfl, fun _ _ => rfl⟩
    rw [e5, ji_add, if_neg (ji_le_n (by omega) (by decide) (by omega))]
def V_end (U : Nat) (p : Int) : Int := if 0 ≤ p ∧ p ≤ (U : Int) then p else -1
def U_end (U : Nat) (p : Int) : Nat := if 0 ≤ p ∧ p ≤ (U : Int) then p.toNat else U
theorem T_w_end {U : Nat} {tp : Nat → Int} (h : T_w U tp) (p : Int) : T_w (U_end U p) tp := by
  have h1 := h.1
  unfold U_end
  by_cases q : 0 ≤ p ∧ p ≤ (U : Int)
  · rw [if_pos q]; exact ⟨by omega, fun j hj => h.2 j (by omega)⟩
  · rw [if_neg q]; exact h
theorem x_end {e n : Nat} {im : Nat → Option Nat} {w u : Nat → Nat → Int} {U : Nat} {tp : Nat → Int} {p : Int} (hT : T_c w U tp) (hw : T_w U tp) (hp : jR p) : ∃ w', (z_F (e + 20)).1 k_LongBoats_end [.ref 0, .int (Int32.ofInt p)] (n, z_q im, jM w, jL u) = some (Int32.ofInt (V_end U p), jM w', jL u) ∧ T_c w' (U_end U p) tp ∧ ∀ c, c ≠ 1 → c ≠ 2 → w' c = w c := by
  have hU := hw.1
  have hlen : (z_F (e + 19)).1 k_Tape_length [.ref 1] (n, z_q im, jM w, jL u) = some (Int32.ofInt (U : Int), jM w, jL u) := by
    refine q_Tape_length (e := e + 18) ?_
    have e1 : ((jM w, jL u) : zD).1 1 1 = Int32.ofInt (U : Int) := by rw [← hT.1]; rfl
    rw [e1]
  unfold V_end U_end
  by_cases q : 0 ≤ p ∧ p ≤ (U : Int)
  · rw [if_pos q, if_pos q]
    have hcut : (z_F (e + 19)).2.2.1 k_Tape_cut [.ref 1, .int (Int32.ofInt p)] (n, z_q im, jM w, jL u) = some (jM (z_u w 1 1 p), jL u) := by
      refine q_Tape_cut (e := e + 18) ?_
      rw [jM_u]
    refine ⟨z_u w 1 1 p, q_LongBoats_end (e := e + 19) ?_, ⟨by rw [z_u_at, if_pos rfl]; omega, fun j hj => by rw [z_u_ne (by decide)]; exact hT.2 j (by omega)⟩, fun c q1 _ => z_u_ne q1⟩
    rw [hlen, z_oI_s, s_within hp (by decide) (by omega), z_oI_s, if_neg (ji_b_n q), hcut, z_oV_s]
  · rw [if_neg q, if_neg q]
    refine ⟨w, q_LongBoats_end (e := e + 19) ?_, hT, fun _ _ _ => rfl⟩
    rw [hlen, z_oI_s, s_within hp (by decide) (by omega), z_oI_s, if_pos (ji_b_p q)]
theorem m_end {e n : Nat} {im : Nat → Option Nat} {w u : Nat → Nat → Int} {U : Nat} {tp : Nat → Int} {p : Int} (hT : T_m w U tp) (hw : T_w U tp) (hp : jR p) : ∃ w', (z_F (e + 20)).1 k_Model_end [.ref 45, .int (Int32.ofInt p)] (n, z_q im, jM w, jL u) = some (Int32.ofInt (V_end U p), jM w', jL u) ∧ T_m w' (U_end U p) tp ∧ (∀ c, c ≠ 45 → w' c = w c) ∧ ∀ j, j ≠ 5 → w' 45 j = w 45 j := by
  have hU := hw.1
  have e5 : ((jM w, jL u) : zD).1 45 5 = Int32.ofInt (U : Int) := by rw [← hT.1]; rfl
  unfold V_end U_end
  by_cases q : 0 ≤ p ∧ p ≤ (U : Int)
  · rw [if_pos q, if_pos q]
    refine ⟨z_u w 45 5 p, q_Model_end (e := e + 19) ?_, ⟨by rw [z_u_at, if_pos rfl]; omega, fun j hj => by rw [z_u_ne (by decide)]; exact hT.2 j (by omega)⟩, fun c q1 => z_u_ne q1, fun j hj => by rw [z_u_at, if_neg hj]⟩
    rw [e5, jl_of hp, jl_of (by omega), kl_0, s_in (by omega) (by decide) (by omega), z_oI_s, if_neg (ji_b_n q), jM_u]
  · rw [if_neg q, if_neg q]
    refine ⟨w, q_Model_end (e := e + 19) ?_, hT, fun _ _ => rfl, fun _ _ => rfl⟩
    rw [e5, jl_of hp, jl_of (by omega), kl_0, s_in (by omega) (by decide) (by omega), z_oI_s, if_pos (ji_b_p q)]
def V_fault (k p q : Int) : Int := if q = 0 then k else if q = 1 then p else -1
theorem x_fault {e n : Nat} {im : Nat → Option Nat} {w u : Nat → Nat → Int} {k p q : Int} (h1 : w 17 6 = k) (h2 : w 17 7 = p) (hq : jR q) : (z_F (e + 20)).1 k_LongBoats_fault [.ref 0, .int (Int32.ofInt q)] (n, z_q im, jM w, jL u) = some (Int32.ofInt (V_fault k p q), jM w, jL u) := by
  unfold V_fault
  refine q_LongBoats_fault (e := e + 19) ?_
  by_cases q0 : q = 0
  · rw [if_pos (ji_eq0_p hq q0), if_pos q0, ← h1]; rfl
  · rw [if_neg (ji_eq0_n hq q0), if_neg q0]
    by_cases q1 : q = 1
    · rw [if_pos (ji_eq_p hq (by decide) q1), if_pos q1, ← h2]; rfl
    · rw [if_neg (ji_eq_n hq (by decide) q1), if_neg q1]
theorem m_fault {e n : Nat} {im : Nat → Option Nat} {w u : Nat → Nat → Int} {k p q : Int} (h1 : w 45 12 = k) (h2 : w 45 13 = p) (hq : jR q) : (z_F (e + 20)).1 k_Model_fault [.ref 45, .int (Int32.ofInt q)] (n, z_q im, jM w, jL u) = some (Int32.ofInt (V_fault k p q), jM w, jL u) := by
  unfold V_fault
  refine q_Model_fault (e := e + 19) ?_
  by_cases q0 : q = 0
  · rw [if_pos (ji_eq0_p hq q0), if_pos q0, ← h1]; rfl
  · rw [if_neg (ji_eq0_n hq q0), if_neg q0]
    by_cases q1 : q = 1
    · rw [if_pos (ji_eq_p hq (by decide) q1), if_pos q1, ← h2]; rfl
    · rw [if_neg (ji_eq_n hq (by decide) q1), if_neg q1]
def R_n (z : Nat → Int) : Nat → Int
  | 0 => 0
  | k + 1 => R_n z k + (if z k ≠ -1 then 1 else 0)
def V_count (v z : Nat → Int) (U : Nat) (k : Int) : Int := if k = 0 then v 6 else if k = 1 then v 7 else if k = 2 then v 8 else if k = 3 then v 0 else if k = 4 then v 1 else if k = 5 then v 2 else if k = 6 then v 3 else if k = 7 then v 4 else if k = 8 then v 5 else if k = 9 then v 9 else if k = 10 then (U : Int) else if k = 11 then R_n z 4 else -1
theorem x_count {e n : Nat} {im : Nat → Option Nat} {w u : Nat → Nat → Int} {v z wd tp : Nat → Int} {nm : Nat → Nat → Int64} {U : Nat} {k : Int} (hv : c_v w v) (hs : c_s w u z wd nm) (hws : w_s z wd nm) (hT : T_c w U tp) (hk : jR k) : (z_F (e + 20)).1 k_LongBoats_count [.ref 0, .int (Int32.ofInt k)] (n, z_q im, jM w, jL u) = some (Int32.ofInt (V_count v z U k), jM w, jL u) := by
  obtain ⟨g0, g1, g2, g3, g4, g5, g6, g7, g8, g9, h5, h7, h9⟩ := id hv
  have hlen : (z_F (e + 19)).1 k_Tape_length [.ref 1] (n, z_q im, jM w, jL u) = some (Int32.ofInt (U : Int), jM w, jL u) := by
    refine q_Tape_length (e := e + 18) ?_
    have e1 : ((jM w, jL u) : zD).1 1 1 = Int32.ofInt (U : Int) := by rw [← hT.1]; rfl
    rw [e1]
  have hrows : (z_F (e + 19)).1 k_Shelf_rows [.ref 19] (n, z_q im, jM w, jL u) = some (Int32.ofInt (R_n z 4), jM w, jL u) := by
    obtain ⟨t9, ht9, rfl⟩ := z_for (o := z_F (e + 18)) (cd := cd_Shelf_rows) (P := fun i s => s = (5, [some (.ref 19), some (.int (Int32.ofInt (R_n z i))), some (.int (Int32.ofInt (i : Int)))], (n, z_q im, jM w, jL u))) 4 (s := (5, [some (.ref 19), some (.int (Int32.ofInt 0)), some (.int (Int32.ofInt 0))], (n, z_q im, jM w, jL u))) rfl (fun i s hi hs' => by
      subst hs'
      have hz := (hs i hi).1
      have hzb := (hws i hi).1
      refine ⟨(5, [some (.ref 19), some (.int (Int32.ofInt (R_n z (i + 1)))), some (.int (Int32.ofInt ((i : Int) + 1)))], (n, z_q im, jM w, jL u)), z_To_1 ((e_Shelf_rows_5 ..).trans ?_), rfl⟩
      have hst : R_n z (i + 1) = R_n z i + (if z i ≠ -1 then 1 else 0) := rfl
      rw [if_neg (ji_le_n (by decide) (by omega) (by omega)), s_hasRow (by omega) (by rw [show ((i : Int)).toNat = i by omega, hz]; omega), z_oI_s, show ((i : Int)).toNat = i by omega, hz, hst, ji_add, ji_add, ji_add]
      by_cases q : z i ≠ -1
      · rw [if_neg (ji_b_n q), if_pos q]
      · rw [if_pos (ji_b_p q), if_neg q])
    refine n_Shelf_rows (e := e + 18) (z_go (e_Shelf_rows_0 ..) (ht9 _ (z_ret ((e_Shelf_rows_5 ..).trans ?_))))
    rw [if_pos (ji_le_p (by decide) (by decide) (by decide))]
  unfold V_count
  refine q_LongBoats_count (e := e + 19) ?_
  rw [hlen, z_oI_s, hrows, z_oI_s, ji_toInt hk]
  simp only [jM_at, g0, g1, g2, g3, g4, g5, g6, g7, g8, g9]
  by_cases c0 : k = 0
  · rw [if_pos c0, if_pos c0]
  rw [if_neg c0, if_neg c0]
  by_cases c1 : k = 1
  · rw [if_pos c1, if_pos c1]
  rw [if_neg c1, if_neg c1]
  by_cases c2 : k = 2
  · rw [if_pos c2, if_pos c2]
  rw [if_neg c2, if_neg c2]
  by_cases c3 : k = 3
  · rw [if_pos c3, if_pos c3]
  rw [if_neg c3, if_neg c3]
  by_cases c4 : k = 4
  · rw [if_pos c4, if_pos c4]
  rw [if_neg c4, if_neg c4]
  by_cases c5 : k = 5
  · rw [if_pos c5, if_pos c5]
  rw [if_neg c5, if_neg c5]
  by_cases c6 : k = 6
  · rw [if_pos c6, if_pos c6]
  rw [if_neg c6, if_neg c6]
  by_cases c7 : k = 7
  · rw [if_pos c7, if_pos c7]
  rw [if_neg c7, if_neg c7]
  by_cases c8 : k = 8
  · rw [if_pos c8, if_pos c8]
  rw [if_neg c8, if_neg c8]
  by_cases c9 : k = 9
  · rw [if_pos c9, if_pos c9]
  rw [if_neg c9, if_neg c9]
  by_cases c10 : k = 10
  · rw [if_pos c10, if_pos c10]
  rw [if_neg c10, if_neg c10]
  by_cases c11 : k = 11
  · rw [if_pos c11, if_pos c11]
  rw [if_neg c11, if_neg c11]
theorem m_count {e n : Nat} {im : Nat → Option Nat} {w u : Nat → Nat → Int} {z wd tp : Nat → Int} {nm : Nat → Nat → Int64} {U : Nat} {k : Int} (hs : m_s w u z wd nm) (hws : w_s z wd nm) (hT : T_m w U tp) (hk : jR k) : (z_F (e + 20)).1 k_Model_count [.ref 45, .int (Int32.ofInt k)] (n, z_q im, jM w, jL u) = some (Int32.ofInt (V_count (w 46) z U k), jM w, jL u) := by
  obtain ⟨t9, ht9, rfl⟩ := z_for (o := z_F (e + 19)) (cd := cd_Model_count) (P := fun i s => s = (60, [some (.ref 45), some (.int (Int32.ofInt k)), some (.int (Int32.ofInt (R_n z i))), some (.int (Int32.ofInt (i : Int)))], (n, z_q im, jM w, jL u))) 4 (s := (60, [some (.ref 45), some (.int (Int32.ofInt k)), some (.int (Int32.ofInt 0)), some (.int (Int32.ofInt 0))], (n, z_q im, jM w, jL u))) rfl (fun i s hi hs' => by
    subst hs'
    have hzb := (hws i hi).1
    have e61 : ((jM w, jL u) : zD).1 61 i = Int32.ofInt (z i) := by rw [← (hs i hi).1]; rfl
    have n1 : Int32.toNatClampNeg (Int32.ofInt (i : Int)) = i := (ji_nat (by omega)).trans (by omega)
    have g1 : ¬ (Int32.ofInt (i : Int) < 0 ∨ 4 ≤ i) := by simp (disch := omega) only [ji_lt0]; omega
    refine ⟨(60, [some (.ref 45), some (.int (Int32.ofInt k)), some (.int (Int32.ofInt (R_n z (i + 1)))), some (.int (Int32.ofInt ((i : Int) + 1)))], (n, z_q im, jM w, jL u)), z_To_1 ((e_Model_count_60 ..).trans ?_), rfl⟩
    have hst : R_n z (i + 1) = R_n z i + (if z i ≠ -1 then 1 else 0) := rfl
    rw [if_neg (ji_le_n (by decide) (by omega) (by omega)), n1, if_neg g1, e61, hst, ji_add, ji_add, ji_add]
    by_cases q : z i = -1
    · rw [if_pos (ji_eq_p (by omega) (by decide) q), if_neg (fun z => z q)]
    · rw [if_neg (ji_eq_n (by omega) (by decide) q), if_pos q])
  have e5 : ((jM w, jL u) : zD).1 45 5 = Int32.ofInt (U : Int) := by rw [← hT.1]; rfl
  have h11 : k = 11 → (z_F (e + 20)).1 k_Model_count [.ref 45, .int (Int32.ofInt k)] (n, z_q im, jM w, jL u) = some (Int32.ofInt (R_n z 4), jM w, jL u) := fun q => by
    refine n_Model_count (e := e + 19) (z_go ((e_Model_count_0 ..).trans ?_) (ht9 _ (z_ret ((e_Model_count_60 ..).trans ?_))))
    · rw [ji_toInt hk, if_neg (by omega), if_neg (by omega), if_neg (by omega), if_neg (by omega), if_neg (by omega), if_neg (by omega), if_neg (by omega), if_neg (by omega), if_neg (by omega), if_neg (by omega), if_neg (by omega), if_pos q]
    · rw [if_pos (ji_le_p (by decide) (by decide) (by decide))]
  by_cases q : k = 11
  · rw [h11 q]
    unfold V_count
    subst q
    rfl
  · unfold V_count
    refine n_Model_count (e := e + 19) (z_ret ((e_Model_count_0 ..).trans ?_))
    rw [ji_toInt hk, e5, if_neg (c := k = 11) q, if_neg (c := k = 11) q]
    simp only [jM_at]
    by_cases c0 : k = 0
    · rw [if_pos c0, if_pos c0]
    rw [if_neg c0, if_neg c0]
    by_cases c1 : k = 1
    · rw [if_pos c1, if_pos c1]
    rw [if_neg c1, if_neg c1]
    by_cases c2 : k = 2
    · rw [if_pos c2, if_pos c2]
    rw [if_neg c2, if_neg c2]
    by_cases c3 : k = 3
    · rw [if_pos c3, if_pos c3]
    rw [if_neg c3, if_neg c3]
    by_cases c4 : k = 4
    · rw [if_pos c4, if_pos c4]
    rw [if_neg c4, if_neg c4]
    by_cases c5 : k = 5
    · rw [if_pos c5, if_pos c5]
    rw [if_neg c5, if_neg c5]
    by_cases c6 : k = 6
    · rw [if_pos c6, if_pos c6]
    rw [if_neg c6, if_neg c6]
    by_cases c7 : k = 7
    · rw [if_pos c7, if_pos c7]
    rw [if_neg c7, if_neg c7]
    by_cases c8 : k = 8
    · rw [if_pos c8, if_pos c8]
    rw [if_neg c8, if_neg c8]
    by_cases c9 : k = 9
    · rw [if_pos c9, if_pos c9]
    rw [if_neg c9, if_neg c9]
    by_cases c10 : k = 10
    · rw [if_pos c10, if_pos c10]
    rw [if_neg c10, if_neg c10]
