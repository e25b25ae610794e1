/-! each call, class and reference -/
theorem p1_train {v : Nat → Int} (h : a_p1 v) (a j x : Int) : a_p1 (U_train v a j x) := by
  unfold U_train
  split
  · intro q; rw [a_up_ne (by omega)] at q ⊢; exact h q
  · exact h
theorem p1_mend {v : Nat → Int} (h : a_p1 v) (a j x : Int) : a_p1 (U_mend v a j x) := by
  unfold U_mend
  split
  · intro q; rw [a_up_ne (by omega)] at q ⊢; exact h q
  · exact h
theorem p1_rule {v : Nat → Int} (h : a_p1 v) (j x : Int) : a_p1 (U_rule v j x) := by
  unfold U_rule
  split
  · rename_i hc
    obtain ⟨_, hc⟩ := hc
    intro q
    have h7 : a_up v (a_rk j) x 7 = v 7 := a_up_ne (by unfold a_rk; (repeat' split) <;> omega)
    rw [h7] at q
    by_cases hk : a_rk j = 2
    · rw [hk, a_up_eq]
      unfold a_rk at hk
      rcases hc with c | c | c | c
      · rw [if_pos c.1] at hk; omega
      · rw [if_neg (by omega), if_pos c.1] at hk; omega
      · exact c.2.1
      · rw [if_neg (by omega), if_neg (by omega), if_neg (by omega)] at hk; omega
    · rw [a_up_ne (fun q => hk q.symm)]; exact h q
  · exact h
theorem p1_swap {v : Nat → Int} (h : a_p1 v) (t i k : Int) : a_p1 (U_swap v t i k) := by
  unfold U_swap
  split
  · intro q
    unfold a_swp at q ⊢
    rw [a_up_ne (by omega), a_up_ne (by omega)] at q ⊢
    exact h q
  · exact h
theorem lq_man {n : Nat} {im : Nat → Option Nat} {w u : Nat → Nat → Int} {a : Int} {j : Int} (hJ : J_a n im w u) (hj_a : jR a) (hj_j : jR j) : ∃ V d1 w2 u2, (z_F 100).1 k_LongBoats_man [.ref 0, .int (Int32.ofInt a), .int (Int32.ofInt j)] (n, z_q im, jM w, jL u) = some (V, d1) ∧ (z_F 100).1 k_Model_man [.ref 45, .int (Int32.ofInt a), .int (Int32.ofInt j)] (n, z_q im, d1) = some (V, jM w2, jL u2) ∧ J_a n im w2 u2 := by
  obtain ⟨⟨hv, hw, hp⟩, ⟨z, wd, nm, hs, hms, hws⟩, ⟨U, tp, hT, hTm, hTw⟩, hf, hi⟩ := id hJ
  have k1 := x_man (e := 80) (n := n) (im := im) (w := w) (u := u) (a := a) (j := j) hv hw hj_a hj_j
  have g46 : w 46 = w 46 := rfl
  have l1 := m_man (e := 80) (n := n) (im := im) (w := w) (u := u) (a := a) (j := j) (by rw [g46]; exact hw) hj_a hj_j
  exact ⟨_, _, w, u, k1, l1, J_q hJ (c_fr_rf w) (⟨fun _ _ => rfl, fun _ _ => rfl⟩ : m_fr w w) (fun _ _ _ => rfl)⟩
theorem lq_boat {n : Nat} {im : Nat → Option Nat} {w u : Nat → Nat → Int} {a : Int} {j : Int} (hJ : J_a n im w u) (hj_a : jR a) (hj_j : jR j) : ∃ V d1 w2 u2, (z_F 100).1 k_LongBoats_boat [.ref 0, .int (Int32.ofInt a), .int (Int32.ofInt j)] (n, z_q im, jM w, jL u) = some (V, d1) ∧ (z_F 100).1 k_Model_boat [.ref 45, .int (Int32.ofInt a), .int (Int32.ofInt j)] (n, z_q im, d1) = some (V, jM w2, jL u2) ∧ J_a n im w2 u2 := by
  obtain ⟨⟨hv, hw, hp⟩, ⟨z, wd, nm, hs, hms, hws⟩, ⟨U, tp, hT, hTm, hTw⟩, hf, hi⟩ := id hJ
  have k1 := x_boat (e := 80) (n := n) (im := im) (w := w) (u := u) (a := a) (j := j) hv hw hj_a hj_j
  have g46 : w 46 = w 46 := rfl
  have l1 := m_boat (e := 80) (n := n) (im := im) (w := w) (u := u) (a := a) (j := j) (by rw [g46]; exact hw) hj_a hj_j
  exact ⟨_, _, w, u, k1, l1, J_q hJ (c_fr_rf w) (⟨fun _ _ => rfl, fun _ _ => rfl⟩ : m_fr w w) (fun _ _ _ => rfl)⟩
theorem lq_team {n : Nat} {im : Nat → Option Nat} {w u : Nat → Nat → Int} {a : Int} {j : Int} (hJ : J_a n im w u) (hj_a : jR a) (hj_j : jR j) : ∃ V d1 w2 u2, (z_F 100).1 k_LongBoats_team [.ref 0, .int (Int32.ofInt a), .int (Int32.ofInt j)] (n, z_q im, jM w, jL u) = some (V, d1) ∧ (z_F 100).1 k_Model_team [.ref 45, .int (Int32.ofInt a), .int (Int32.ofInt j)] (n, z_q im, d1) = some (V, jM w2, jL u2) ∧ J_a n im w2 u2 := by
  obtain ⟨⟨hv, hw, hp⟩, ⟨z, wd, nm, hs, hms, hws⟩, ⟨U, tp, hT, hTm, hTw⟩, hf, hi⟩ := id hJ
  have k1 := x_team (e := 80) (n := n) (im := im) (w := w) (u := u) (a := a) (j := j) hv hw hj_a hj_j
  have g46 : w 46 = w 46 := rfl
  have l1 := m_team (e := 80) (n := n) (im := im) (w := w) (u := u) (a := a) (j := j) (by rw [g46]; exact hw) hj_a hj_j
  exact ⟨_, _, w, u, k1, l1, J_q hJ (c_fr_rf w) (⟨fun _ _ => rfl, fun _ _ => rfl⟩ : m_fr w w) (fun _ _ _ => rfl)⟩
theorem lq_speed {n : Nat} {im : Nat → Option Nat} {w u : Nat → Nat → Int} {b : Int} {o : Int} (hJ : J_a n im w u) (hj_b : jR b) (hj_o : jR o) : ∃ V d1 w2 u2, (z_F 100).1 k_LongBoats_speed [.ref 0, .int (Int32.ofInt b), .int (Int32.ofInt o)] (n, z_q im, jM w, jL u) = some (V, d1) ∧ (z_F 100).1 k_Model_speed [.ref 45, .int (Int32.ofInt b), .int (Int32.ofInt o)] (n, z_q im, d1) = some (V, jM w2, jL u2) ∧ J_a n im w2 u2 := by
  obtain ⟨⟨hv, hw, hp⟩, ⟨z, wd, nm, hs, hms, hws⟩, ⟨U, tp, hT, hTm, hTw⟩, hf, hi⟩ := id hJ
  have k1 := x_speed (e := 80) (n := n) (im := im) (w := w) (u := u) (b := b) (o := o) hv hw hj_b hj_o
  have g46 : w 46 = w 46 := rfl
  have l1 := m_speed (e := 80) (n := n) (im := im) (w := w) (u := u) (v := w 46) (b := b) (o := o) (fun j _ => by rw [g46]) hw hj_b hj_o
  exact ⟨_, _, w, u, k1, l1, J_q hJ (c_fr_rf w) (⟨fun _ _ => rfl, fun _ _ => rfl⟩ : m_fr w w) (fun _ _ _ => rfl)⟩
theorem lq_force {n : Nat} {im : Nat → Option Nat} {w u : Nat → Nat → Int} {a : Int} {bo : Int} {ot : Int} {p : Int} (hJ : J_a n im w u) (hj_a : jR a) (hj_bo : jR bo) (hj_ot : jR ot) (hj_p : jR p) : ∃ V d1 w2 u2, (z_F 100).1 k_LongBoats_force [.ref 0, .int (Int32.ofInt a), .int (Int32.ofInt bo), .int (Int32.ofInt ot), .int (Int32.ofInt p)] (n, z_q im, jM w, jL u) = some (V, d1) ∧ (z_F 100).1 k_Model_force [.ref 45, .int (Int32.ofInt a), .int (Int32.ofInt bo), .int (Int32.ofInt ot), .int (Int32.ofInt p)] (n, z_q im, d1) = some (V, jM w2, jL u2) ∧ J_a n im w2 u2 := by
  obtain ⟨⟨hv, hw, hp⟩, ⟨z, wd, nm, hs, hms, hws⟩, ⟨U, tp, hT, hTm, hTw⟩, hf, hi⟩ := id hJ
  obtain ⟨w1, k1, k2⟩ := x_force (e := 80) (n := n) (im := im) (w := w) (u := u) (a := a) (bo := bo) (ot := ot) (p := p) hv hw hj_a hj_bo hj_ot hj_p
  have g46 : w1 46 = w 46 := k2 46 (by decide)
  have l1 := m_force (e := 80) (n := n) (im := im) (w := w1) (u := u) (a := a) (bo := bo) (ot := ot) (p := p) (by rw [g46]; exact hw) hj_a hj_bo hj_ot hj_p
  rw [g46] at l1
  exact ⟨_, _, w1, u, k1, l1, J_q hJ k2 (⟨fun _ _ => rfl, fun _ _ => rfl⟩ : m_fr w1 w1) (fun _ _ _ => rfl)⟩
theorem lq_stands {n : Nat} {im : Nat → Option Nat} {w u : Nat → Nat → Int} {a : Int} {b : Int} {bo : Int} {ot : Int} {p : Int} (hJ : J_a n im w u) (hj_a : jR a) (hj_b : jR b) (hj_bo : jR bo) (hj_ot : jR ot) (hj_p : jR p) : ∃ V d1 w2 u2, (z_F 100).1 k_LongBoats_stands [.ref 0, .int (Int32.ofInt a), .int (Int32.ofInt b), .int (Int32.ofInt bo), .int (Int32.ofInt ot), .int (Int32.ofInt p)] (n, z_q im, jM w, jL u) = some (V, d1) ∧ (z_F 100).1 k_Model_stands [.ref 45, .int (Int32.ofInt a), .int (Int32.ofInt b), .int (Int32.ofInt bo), .int (Int32.ofInt ot), .int (Int32.ofInt p)] (n, z_q im, d1) = some (V, jM w2, jL u2) ∧ J_a n im w2 u2 := by
  obtain ⟨⟨hv, hw, hp⟩, ⟨z, wd, nm, hs, hms, hws⟩, ⟨U, tp, hT, hTm, hTw⟩, hf, hi⟩ := id hJ
  obtain ⟨w1, k1, k2⟩ := x_stands (e := 80) (n := n) (im := im) (w := w) (u := u) (a := a) (b := b) (bo := bo) (ot := ot) (p := p) hv hw hj_a hj_b hj_bo hj_ot hj_p
  have g46 : w1 46 = w 46 := k2 46 (by decide)
  have l1 := m_stands (e := 80) (n := n) (im := im) (w := w1) (u := u) (v := w 46) (a := a) (b := b) (bo := bo) (ot := ot) (p := p) (fun j _ => by rw [g46]) hw hj_a hj_b hj_bo hj_ot hj_p
  exact ⟨_, _, w1, u, k1, l1, J_q hJ k2 (⟨fun _ _ => rfl, fun _ _ => rfl⟩ : m_fr w1 w1) (fun _ _ _ => rfl)⟩
theorem lq_pass {n : Nat} {im : Nat → Option Nat} {w u : Nat → Nat → Int} {a : Int} {b : Int} {bo : Int} {ot : Int} {p : Int} {g : Int} (hJ : J_a n im w u) (hj_a : jR a) (hj_b : jR b) (hj_bo : jR bo) (hj_ot : jR ot) (hj_p : jR p) (hj_g : jR g) : ∃ V d1 w2 u2, (z_F 100).1 k_LongBoats_pass [.ref 0, .int (Int32.ofInt a), .int (Int32.ofInt b), .int (Int32.ofInt bo), .int (Int32.ofInt ot), .int (Int32.ofInt p), .int (Int32.ofInt g)] (n, z_q im, jM w, jL u) = some (V, d1) ∧ (z_F 100).1 k_Model_pass [.ref 45, .int (Int32.ofInt a), .int (Int32.ofInt b), .int (Int32.ofInt bo), .int (Int32.ofInt ot), .int (Int32.ofInt p), .int (Int32.ofInt g)] (n, z_q im, d1) = some (V, jM w2, jL u2) ∧ J_a n im w2 u2 := by
  obtain ⟨⟨hv, hw, hp⟩, ⟨z, wd, nm, hs, hms, hws⟩, ⟨U, tp, hT, hTm, hTw⟩, hf, hi⟩ := id hJ
  obtain ⟨w1, k1, k2⟩ := x_pass (e := 80) (n := n) (im := im) (w := w) (u := u) (a := a) (b := b) (bo := bo) (ot := ot) (p := p) (g := g) hv hw hj_a hj_b hj_bo hj_ot hj_p hj_g
  have g46 : w1 46 = w 46 := k2 46 (by decide)
  have l1 := m_pass (e := 80) (n := n) (im := im) (w := w1) (u := u) (v := w 46) (a := a) (b := b) (bo := bo) (ot := ot) (p := p) (g := g) (fun j _ => by rw [g46]) hw hj_a hj_b hj_bo hj_ot hj_p hj_g
  exact ⟨_, _, w1, u, k1, l1, J_q hJ k2 (⟨fun _ _ => rfl, fun _ _ => rfl⟩ : m_fr w1 w1) (fun _ _ _ => rfl)⟩
theorem lq_why {n : Nat} {im : Nat → Option Nat} {w u : Nat → Nat → Int} {a : Int} {b : Int} {bo : Int} {ot : Int} {p : Int} {g : Int} (hJ : J_a n im w u) (hj_a : jR a) (hj_b : jR b) (hj_bo : jR bo) (hj_ot : jR ot) (hj_p : jR p) (hj_g : jR g) : ∃ V d1 w2 u2, (z_F 100).1 k_LongBoats_why [.ref 0, .int (Int32.ofInt a), .int (Int32.ofInt b), .int (Int32.ofInt bo), .int (Int32.ofInt ot), .int (Int32.ofInt p), .int (Int32.ofInt g)] (n, z_q im, jM w, jL u) = some (V, d1) ∧ (z_F 100).1 k_Model_why [.ref 45, .int (Int32.ofInt a), .int (Int32.ofInt b), .int (Int32.ofInt bo), .int (Int32.ofInt ot), .int (Int32.ofInt p), .int (Int32.ofInt g)] (n, z_q im, d1) = some (V, jM w2, jL u2) ∧ J_a n im w2 u2 := by
  obtain ⟨⟨hv, hw, hp⟩, ⟨z, wd, nm, hs, hms, hws⟩, ⟨U, tp, hT, hTm, hTw⟩, hf, hi⟩ := id hJ
  obtain ⟨w1, k1, k2⟩ := x_why (e := 80) (n := n) (im := im) (w := w) (u := u) (a := a) (b := b) (bo := bo) (ot := ot) (p := p) (g := g) hv hw hj_a hj_b hj_bo hj_ot hj_p hj_g
  have g46 : w1 46 = w 46 := k2 46 (by decide)
  have l1 := m_why (e := 80) (n := n) (im := im) (w := w1) (u := u) (v := w 46) (a := a) (b := b) (bo := bo) (ot := ot) (p := p) (g := g) (fun j _ => by rw [g46]) hw hj_a hj_b hj_bo hj_ot hj_p hj_g
  exact ⟨_, _, w1, u, k1, l1, J_q hJ k2 (⟨fun _ _ => rfl, fun _ _ => rfl⟩ : m_fr w1 w1) (fun _ _ _ => rfl)⟩
theorem lq_bout {n : Nat} {im : Nat → Option Nat} {w u : Nat → Nat → Int} {a : Int} {b : Int} {bo : Int} {ot : Int} {q : Int} (hJ : J_a n im w u) (hj_a : jR a) (hj_b : jR b) (hj_bo : jR bo) (hj_ot : jR ot) (hj_q : jR q) : ∃ V d1 w2 u2, (z_F 100).1 k_LongBoats_bout [.ref 0, .int (Int32.ofInt a), .int (Int32.ofInt b), .int (Int32.ofInt bo), .int (Int32.ofInt ot), .int (Int32.ofInt q)] (n, z_q im, jM w, jL u) = some (V, d1) ∧ (z_F 100).1 k_Model_bout [.ref 45, .int (Int32.ofInt a), .int (Int32.ofInt b), .int (Int32.ofInt bo), .int (Int32.ofInt ot), .int (Int32.ofInt q)] (n, z_q im, d1) = some (V, jM w2, jL u2) ∧ J_a n im w2 u2 := by
  obtain ⟨⟨hv, hw, hp⟩, ⟨z, wd, nm, hs, hms, hws⟩, ⟨U, tp, hT, hTm, hTw⟩, hf, hi⟩ := id hJ
  obtain ⟨w1, k1, k2⟩ := x_bout (e := 80) (n := n) (im := im) (w := w) (u := u) (a := a) (b := b) (bo := bo) (ot := ot) (q := q) hv hw hj_a hj_b hj_bo hj_ot hj_q
  have g46 : w1 46 = w 46 := k2 46 (by decide)
  obtain ⟨w2, l1, l2⟩ := m_bout (e := 80) (n := n) (im := im) (w := w1) (u := u) (a := a) (b := b) (bo := bo) (ot := ot) (q := q) (by rw [g46]; exact hw) hj_a hj_b hj_bo hj_ot hj_q
  rw [g46] at l1
  exact ⟨_, _, w2, u, k1, l1, J_q hJ k2 l2 (fun _ _ _ => rfl)⟩
theorem lq_comes {n : Nat} {im : Nat → Option Nat} {w u : Nat → Nat → Int} {bo : Int} {ot : Int} {g : Int} {k : Int} {q : Int} (hJ : J_a n im w u) (hj_bo : jR bo) (hj_ot : jR ot) (hj_g : jR g) (hj_k : jR k) (hj_q : jR q) : ∃ V d1 w2 u2, (z_F 100).1 k_LongBoats_comes [.ref 0, .int (Int32.ofInt bo), .int (Int32.ofInt ot), .int (Int32.ofInt g), .int (Int32.ofInt k), .int (Int32.ofInt q)] (n, z_q im, jM w, jL u) = some (V, d1) ∧ (z_F 100).1 k_Model_comes [.ref 45, .int (Int32.ofInt bo), .int (Int32.ofInt ot), .int (Int32.ofInt g), .int (Int32.ofInt k), .int (Int32.ofInt q)] (n, z_q im, d1) = some (V, jM w2, jL u2) ∧ J_a n im w2 u2 := by
  obtain ⟨⟨hv, hw, hp⟩, ⟨z, wd, nm, hs, hms, hws⟩, ⟨U, tp, hT, hTm, hTw⟩, hf, hi⟩ := id hJ
  obtain ⟨w1, k1, k2⟩ := x_comes (e := 80) (n := n) (im := im) (w := w) (u := u) (bo := bo) (ot := ot) (g := g) (k := k) (q := q) hv hw hj_bo hj_ot hj_g hj_k hj_q
  have g46 : w1 46 = w 46 := k2 46 (by decide)
  have l1 := m_comes (e := 80) (n := n) (im := im) (w := w1) (u := u) (bo := bo) (ot := ot) (g := g) (k := k) (q := q) (by rw [g46]; exact hw) hj_bo hj_ot hj_g hj_k hj_q
  rw [g46] at l1
  exact ⟨_, _, w1, u, k1, l1, J_q hJ k2 (⟨fun _ _ => rfl, fun _ _ => rfl⟩ : m_fr w1 w1) (fun _ _ _ => rfl)⟩
theorem lq_steer {n : Nat} {im : Nat → Option Nat} {w u : Nat → Nat → Int} {bo : Int} {ot : Int} {ab : Int} {be : Int} (hJ : J_a n im w u) (hj_bo : jR bo) (hj_ot : jR ot) (hj_ab : jR ab) (hj_be : jR be) : ∃ V d1 w2 u2, (z_F 100).1 k_LongBoats_steer [.ref 0, .int (Int32.ofInt bo), .int (Int32.ofInt ot), .int (Int32.ofInt ab), .int (Int32.ofInt be)] (n, z_q im, jM w, jL u) = some (V, d1) ∧ (z_F 100).1 k_Model_steer [.ref 45, .int (Int32.ofInt bo), .int (Int32.ofInt ot), .int (Int32.ofInt ab), .int (Int32.ofInt be)] (n, z_q im, d1) = some (V, jM w2, jL u2) ∧ J_a n im w2 u2 := by
  obtain ⟨⟨hv, hw, hp⟩, ⟨z, wd, nm, hs, hms, hws⟩, ⟨U, tp, hT, hTm, hTw⟩, hf, hi⟩ := id hJ
  obtain ⟨w1, k1, k2⟩ := x_steer (e := 80) (n := n) (im := im) (w := w) (u := u) (bo := bo) (ot := ot) (ab := ab) (be := be) hv hw hj_bo hj_ot hj_ab hj_be
  have g46 : w1 46 = w 46 := k2 46 (by decide)
  have l1 := m_steer (e := 80) (n := n) (im := im) (w := w1) (u := u) (bo := bo) (ot := ot) (ab := ab) (be := be) (by rw [g46]; exact hw) hj_bo hj_ot hj_ab hj_be
  rw [g46] at l1
  exact ⟨_, _, w1, u, k1, l1, J_q hJ k2 (⟨fun _ _ => rfl, fun _ _ => rfl⟩ : m_fr w1 w1) (fun _ _ _ => rfl)⟩
theorem lq_odds {n : Nat} {im : Nat → Option Nat} {w u : Nat → Nat → Int} {a : Int} {b : Int} {bo : Int} {ot : Int} {r : Int} {q : Int} (hJ : J_a n im w u) (hj_a : jR a) (hj_b : jR b) (hj_bo : jR bo) (hj_ot : jR ot) (hj_r : jR r) (hj_q : jR q) : ∃ V d1 w2 u2, (z_F 100).1 k_LongBoats_odds [.ref 0, .int (Int32.ofInt a), .int (Int32.ofInt b), .int (Int32.ofInt bo), .int (Int32.ofInt ot), .int (Int32.ofInt r), .int (Int32.ofInt q)] (n, z_q im, jM w, jL u) = some (V, d1) ∧ (z_F 100).1 k_Model_odds [.ref 45, .int (Int32.ofInt a), .int (Int32.ofInt b), .int (Int32.ofInt bo), .int (Int32.ofInt ot), .int (Int32.ofInt r), .int (Int32.ofInt q)] (n, z_q im, d1) = some (V, jM w2, jL u2) ∧ J_a n im w2 u2 := by
  obtain ⟨⟨hv, hw, hp⟩, ⟨z, wd, nm, hs, hms, hws⟩, ⟨U, tp, hT, hTm, hTw⟩, hf, hi⟩ := id hJ
  obtain ⟨w1, k1, k2⟩ := x_odds (e := 80) (n := n) (im := im) (w := w) (u := u) (a := a) (b := b) (bo := bo) (ot := ot) (r := r) (q := q) hv hw hj_a hj_b hj_bo hj_ot hj_r hj_q
  have g46 : w1 46 = w 46 := k2 46 (by decide)
  have l1 := m_odds (e := 80) (n := n) (im := im) (w := w1) (u := u) (a := a) (b := b) (bo := bo) (ot := ot) (r := r) (q := q) (by rw [g46]; exact hw) hj_a hj_b hj_bo hj_ot hj_r hj_q
  rw [g46] at l1
  exact ⟨_, _, w1, u, k1, l1, J_q hJ k2 (⟨fun _ _ => rfl, fun _ _ => rfl⟩ : m_fr w1 w1) (fun _ _ _ => rfl)⟩
theorem lq_ends {n : Nat} {im : Nat → Option Nat} {w u : Nat → Nat → Int} {a : Int} {b : Int} {bo : Int} {ot : Int} {r : Int} {h : Int} (hJ : J_a n im w u) (hj_a : jR a) (hj_b : jR b) (hj_bo : jR bo) (hj_ot : jR ot) (hj_r : jR r) (hj_h : jR h) : ∃ V d1 w2 u2, (z_F 100).2.1 k_LongBoats_ends [.ref 0, .int (Int32.ofInt a), .int (Int32.ofInt b), .int (Int32.ofInt bo), .int (Int32.ofInt ot), .int (Int32.ofInt r), .int (Int32.ofInt h)] (n, z_q im, jM w, jL u) = some (V, d1) ∧ (z_F 100).2.1 k_Model_ends [.ref 45, .int (Int32.ofInt a), .int (Int32.ofInt b), .int (Int32.ofInt bo), .int (Int32.ofInt ot), .int (Int32.ofInt r), .int (Int32.ofInt h)] (n, z_q im, d1) = some (V, jM w2, jL u2) ∧ J_a n im w2 u2 := by
  obtain ⟨⟨hv, hw, hp⟩, ⟨z, wd, nm, hs, hms, hws⟩, ⟨U, tp, hT, hTm, hTw⟩, hf, hi⟩ := id hJ
  obtain ⟨w1, k1, k2⟩ := x_ends (e := 80) (n := n) (im := im) (w := w) (u := u) (a := a) (b := b) (bo := bo) (ot := ot) (r := r) (h := h) hv hw hj_a hj_b hj_bo hj_ot hj_r hj_h
  have g46 : w1 46 = w 46 := k2 46 (by decide)
  have l1 := m_ends (e := 80) (n := n) (im := im) (w := w1) (u := u) (a := a) (b := b) (bo := bo) (ot := ot) (r := r) (h := h) (by rw [g46]; exact hw) hj_a hj_b hj_bo hj_ot hj_r hj_h
  rw [g46] at l1
  exact ⟨_, _, w1, u, k1, l1, J_q hJ k2 (⟨fun _ _ => rfl, fun _ _ => rfl⟩ : m_fr w1 w1) (fun _ _ _ => rfl)⟩
theorem lq_lasts {n : Nat} {im : Nat → Option Nat} {w u : Nat → Nat → Int} {a : Int} {b : Int} {bo : Int} {ot : Int} {h : Int} (hJ : J_a n im w u) (hj_a : jR a) (hj_b : jR b) (hj_bo : jR bo) (hj_ot : jR ot) (hj_h : jR h) : ∃ V d1 w2 u2, (z_F 100).2.1 k_LongBoats_lasts [.ref 0, .int (Int32.ofInt a), .int (Int32.ofInt b), .int (Int32.ofInt bo), .int (Int32.ofInt ot), .int (Int32.ofInt h)] (n, z_q im, jM w, jL u) = some (V, d1) ∧ (z_F 100).2.1 k_Model_lasts [.ref 45, .int (Int32.ofInt a), .int (Int32.ofInt b), .int (Int32.ofInt bo), .int (Int32.ofInt ot), .int (Int32.ofInt h)] (n, z_q im, d1) = some (V, jM w2, jL u2) ∧ J_a n im w2 u2 := by
  obtain ⟨⟨hv, hw, hp⟩, ⟨z, wd, nm, hs, hms, hws⟩, ⟨U, tp, hT, hTm, hTw⟩, hf, hi⟩ := id hJ
  obtain ⟨w1, k1, k2⟩ := x_lasts (e := 80) (n := n) (im := im) (w := w) (u := u) (a := a) (b := b) (bo := bo) (ot := ot) (h := h) hv hw hj_a hj_b hj_bo hj_ot hj_h
  have g46 : w1 46 = w 46 := k2 46 (by decide)
  have l1 := m_lasts (e := 80) (n := n) (im := im) (w := w1) (u := u) (a := a) (b := b) (bo := bo) (ot := ot) (h := h) (by rw [g46]; exact hw) (by rw [g46]; exact hp) hj_a hj_b hj_bo hj_ot hj_h
  rw [g46] at l1
  exact ⟨_, _, w1, u, k1, l1, J_q hJ k2 (⟨fun _ _ => rfl, fun _ _ => rfl⟩ : m_fr w1 w1) (fun _ _ _ => rfl)⟩
theorem lq_best {n : Nat} {im : Nat → Option Nat} {w u : Nat → Nat → Int} {a : Int} {b : Int} {bo : Int} {ot : Int} (hJ : J_a n im w u) (hj_a : jR a) (hj_b : jR b) (hj_bo : jR bo) (hj_ot : jR ot) : ∃ V d1 w2 u2, (z_F 100).1 k_LongBoats_best [.ref 0, .int (Int32.ofInt a), .int (Int32.ofInt b), .int (Int32.ofInt bo), .int (Int32.ofInt ot)] (n, z_q im, jM w, jL u) = some (V, d1) ∧ (z_F 100).1 k_Model_best [.ref 45, .int (Int32.ofInt a), .int (Int32.ofInt b), .int (Int32.ofInt bo), .int (Int32.ofInt ot)] (n, z_q im, d1) = some (V, jM w2, jL u2) ∧ J_a n im w2 u2 := by
  obtain ⟨⟨hv, hw, hp⟩, ⟨z, wd, nm, hs, hms, hws⟩, ⟨U, tp, hT, hTm, hTw⟩, hf, hi⟩ := id hJ
  obtain ⟨w1, k1, k2⟩ := x_best (e := 80) (n := n) (im := im) (w := w) (u := u) (a := a) (b := b) (bo := bo) (ot := ot) hv hw hj_a hj_b hj_bo hj_ot
  have g46 : w1 46 = w 46 := k2 46 (by decide)
  have l1 := m_best (e := 80) (n := n) (im := im) (w := w1) (u := u) (a := a) (b := b) (bo := bo) (ot := ot) (by rw [g46]; exact hw) hj_a hj_b hj_bo hj_ot
  rw [g46] at l1
  exact ⟨_, _, w1, u, k1, l1, J_q hJ k2 (⟨fun _ _ => rfl, fun _ _ => rfl⟩ : m_fr w1 w1) (fun _ _ _ => rfl)⟩
theorem lq_oars {n : Nat} {im : Nat → Option Nat} {w u : Nat → Nat → Int} {a : Int} {b : Int} {bo : Int} {ot : Int} (hJ : J_a n im w u) (hj_a : jR a) (hj_b : jR b) (hj_bo : jR bo) (hj_ot : jR ot) : ∃ V d1 w2 u2, (z_F 100).1 k_LongBoats_oars [.ref 0, .int (Int32.ofInt a), .int (Int32.ofInt b), .int (Int32.ofInt bo), .int (Int32.ofInt ot)] (n, z_q im, jM w, jL u) = some (V, d1) ∧ (z_F 100).1 k_Model_oars [.ref 45, .int (Int32.ofInt a), .int (Int32.ofInt b), .int (Int32.ofInt bo), .int (Int32.ofInt ot)] (n, z_q im, d1) = some (V, jM w2, jL u2) ∧ J_a n im w2 u2 := by
  obtain ⟨⟨hv, hw, hp⟩, ⟨z, wd, nm, hs, hms, hws⟩, ⟨U, tp, hT, hTm, hTw⟩, hf, hi⟩ := id hJ
  obtain ⟨w1, k1, k2⟩ := x_oars (e := 80) (n := n) (im := im) (w := w) (u := u) (a := a) (b := b) (bo := bo) (ot := ot) hv hw hj_a hj_b hj_bo hj_ot
  have g46 : w1 46 = w 46 := k2 46 (by decide)
  have l1 := m_oars (e := 80) (n := n) (im := im) (w := w1) (u := u) (a := a) (b := b) (bo := bo) (ot := ot) (by rw [g46]; exact hw) hj_a hj_b hj_bo hj_ot
  rw [g46] at l1
  exact ⟨_, _, w1, u, k1, l1, J_q hJ k2 (⟨fun _ _ => rfl, fun _ _ => rfl⟩ : m_fr w1 w1) (fun _ _ _ => rfl)⟩
theorem lq_heavy {n : Nat} {im : Nat → Option Nat} {w u : Nat → Nat → Int} {a : Int} {b : Int} {bo : Int} {ot : Int} (hJ : J_a n im w u) (hj_a : jR a) (hj_b : jR b) (hj_bo : jR bo) (hj_ot : jR ot) : ∃ V d1 w2 u2, (z_F 100).1 k_LongBoats_heavy [.ref 0, .int (Int32.ofInt a), .int (Int32.ofInt b), .int (Int32.ofInt bo), .int (Int32.ofInt ot)] (n, z_q im, jM w, jL u) = some (V, d1) ∧ (z_F 100).1 k_Model_heavy [.ref 45, .int (Int32.ofInt a), .int (Int32.ofInt b), .int (Int32.ofInt bo), .int (Int32.ofInt ot)] (n, z_q im, d1) = some (V, jM w2, jL u2) ∧ J_a n im w2 u2 := by
  obtain ⟨⟨hv, hw, hp⟩, ⟨z, wd, nm, hs, hms, hws⟩, ⟨U, tp, hT, hTm, hTw⟩, hf, hi⟩ := id hJ
  obtain ⟨w1, k1, k2⟩ := x_heavy (e := 80) (n := n) (im := im) (w := w) (u := u) (a := a) (b := b) (bo := bo) (ot := ot) hv hw hj_a hj_b hj_bo hj_ot
  have g46 : w1 46 = w 46 := k2 46 (by decide)
  have l1 := m_heavy (e := 80) (n := n) (im := im) (w := w1) (u := u) (a := a) (b := b) (bo := bo) (ot := ot) (by rw [g46]; exact hw) hj_a hj_b hj_bo hj_ot
  rw [g46] at l1
  exact ⟨_, _, w1, u, k1, l1, J_q hJ k2 (⟨fun _ _ => rfl, fun _ _ => rfl⟩ : m_fr w1 w1) (fun _ _ _ => rfl)⟩
theorem lq_even {n : Nat} {im : Nat → Option Nat} {w u : Nat → Nat → Int} {a : Int} {b : Int} {bo : Int} {ot : Int} {q : Int} (hJ : J_a n im w u) (hj_a : jR a) (hj_b : jR b) (hj_bo : jR bo) (hj_ot : jR ot) (hj_q : jR q) : ∃ V d1 w2 u2, (z_F 100).1 k_LongBoats_even [.ref 0, .int (Int32.ofInt a), .int (Int32.ofInt b), .int (Int32.ofInt bo), .int (Int32.ofInt ot), .int (Int32.ofInt q)] (n, z_q im, jM w, jL u) = some (V, d1) ∧ (z_F 100).1 k_Model_even [.ref 45, .int (Int32.ofInt a), .int (Int32.ofInt b), .int (Int32.ofInt bo), .int (Int32.ofInt ot), .int (Int32.ofInt q)] (n, z_q im, d1) = some (V, jM w2, jL u2) ∧ J_a n im w2 u2 := by
  obtain ⟨⟨hv, hw, hp⟩, ⟨z, wd, nm, hs, hms, hws⟩, ⟨U, tp, hT, hTm, hTw⟩, hf, hi⟩ := id hJ
  obtain ⟨w1, k1, k2⟩ := x_even (e := 80) (n := n) (im := im) (w := w) (u := u) (a := a) (b := b) (bo := bo) (ot := ot) (q := q) hv hw hj_a hj_b hj_bo hj_ot hj_q
  have g46 : w1 46 = w 46 := k2 46 (by decide)
  have l1 := m_even (e := 80) (n := n) (im := im) (w := w1) (u := u) (a := a) (b := b) (bo := bo) (ot := ot) (q := q) (by rw [g46]; exact hw) hj_a hj_b hj_bo hj_ot hj_q
  rw [g46] at l1
  exact ⟨_, _, w1, u, k1, l1, J_q hJ k2 (⟨fun _ _ => rfl, fun _ _ => rfl⟩ : m_fr w1 w1) (fun _ _ _ => rfl)⟩
theorem lq_game {n : Nat} {im : Nat → Option Nat} {w u : Nat → Nat → Int} {a : Int} {b : Int} {bo : Int} {ot : Int} {x : Int} {y : Int} (hJ : J_a n im w u) (hj_a : jR a) (hj_b : jR b) (hj_bo : jR bo) (hj_ot : jR ot) (hj_x : jR x) (hj_y : jR y) : ∃ V d1 w2 u2, (z_F 100).1 k_LongBoats_game [.ref 0, .int (Int32.ofInt a), .int (Int32.ofInt b), .int (Int32.ofInt bo), .int (Int32.ofInt ot), .int (Int32.ofInt x), .int (Int32.ofInt y)] (n, z_q im, jM w, jL u) = some (V, d1) ∧ (z_F 100).1 k_Model_game [.ref 45, .int (Int32.ofInt a), .int (Int32.ofInt b), .int (Int32.ofInt bo), .int (Int32.ofInt ot), .int (Int32.ofInt x), .int (Int32.ofInt y)] (n, z_q im, d1) = some (V, jM w2, jL u2) ∧ J_a n im w2 u2 := by
  obtain ⟨⟨hv, hw, hp⟩, ⟨z, wd, nm, hs, hms, hws⟩, ⟨U, tp, hT, hTm, hTw⟩, hf, hi⟩ := id hJ
  obtain ⟨w1, k1, k2⟩ := x_game (e := 80) (n := n) (im := im) (w := w) (u := u) (a := a) (b := b) (bo := bo) (ot := ot) (x := x) (y := y) hv hw hj_a hj_b hj_bo hj_ot hj_x hj_y
  have g46 : w1 46 = w 46 := k2 46 (by decide)
  obtain ⟨w2, l1, l2⟩ := m_game (e := 80) (n := n) (im := im) (w := w1) (u := u) (a := a) (b := b) (bo := bo) (ot := ot) (x := x) (y := y) (by rw [g46]; exact hw) hj_a hj_b hj_bo hj_ot hj_x hj_y
  rw [g46] at l1
  exact ⟨_, _, w2, u, k1, l1, J_q hJ k2 l2 (fun _ _ _ => rfl)⟩
theorem lq_reply {n : Nat} {im : Nat → Option Nat} {w u : Nat → Nat → Int} {a : Int} {b : Int} {bo : Int} {ot : Int} {x : Int} (hJ : J_a n im w u) (hj_a : jR a) (hj_b : jR b) (hj_bo : jR bo) (hj_ot : jR ot) (hj_x : jR x) : ∃ V d1 w2 u2, (z_F 100).1 k_LongBoats_reply [.ref 0, .int (Int32.ofInt a), .int (Int32.ofInt b), .int (Int32.ofInt bo), .int (Int32.ofInt ot), .int (Int32.ofInt x)] (n, z_q im, jM w, jL u) = some (V, d1) ∧ (z_F 100).1 k_Model_reply [.ref 45, .int (Int32.ofInt a), .int (Int32.ofInt b), .int (Int32.ofInt bo), .int (Int32.ofInt ot), .int (Int32.ofInt x)] (n, z_q im, d1) = some (V, jM w2, jL u2) ∧ J_a n im w2 u2 := by
  obtain ⟨⟨hv, hw, hp⟩, ⟨z, wd, nm, hs, hms, hws⟩, ⟨U, tp, hT, hTm, hTw⟩, hf, hi⟩ := id hJ
  obtain ⟨w1, k1, k2⟩ := x_reply (e := 80) (n := n) (im := im) (w := w) (u := u) (a := a) (b := b) (bo := bo) (ot := ot) (x := x) hv hw hj_a hj_b hj_bo hj_ot hj_x
  have g46 : w1 46 = w 46 := k2 46 (by decide)
  obtain ⟨w2, l1, l2⟩ := m_reply (e := 80) (n := n) (im := im) (w := w1) (u := u) (a := a) (b := b) (bo := bo) (ot := ot) (x := x) (by rw [g46]; exact hw) hj_a hj_b hj_bo hj_ot hj_x
  rw [g46] at l1
  exact ⟨_, _, w2, u, k1, l1, J_q hJ k2 l2 (fun _ _ _ => rfl)⟩
theorem lq_safe {n : Nat} {im : Nat → Option Nat} {w u : Nat → Nat → Int} {a : Int} {b : Int} {bo : Int} {ot : Int} {x : Int} (hJ : J_a n im w u) (hj_a : jR a) (hj_b : jR b) (hj_bo : jR bo) (hj_ot : jR ot) (hj_x : jR x) : ∃ V d1 w2 u2, (z_F 100).1 k_LongBoats_safe [.ref 0, .int (Int32.ofInt a), .int (Int32.ofInt b), .int (Int32.ofInt bo), .int (Int32.ofInt ot), .int (Int32.ofInt x)] (n, z_q im, jM w, jL u) = some (V, d1) ∧ (z_F 100).1 k_Model_safe [.ref 45, .int (Int32.ofInt a), .int (Int32.ofInt b), .int (Int32.ofInt bo), .int (Int32.ofInt ot), .int (Int32.ofInt x)] (n, z_q im, d1) = some (V, jM w2, jL u2) ∧ J_a n im w2 u2 := by
  obtain ⟨⟨hv, hw, hp⟩, ⟨z, wd, nm, hs, hms, hws⟩, ⟨U, tp, hT, hTm, hTw⟩, hf, hi⟩ := id hJ
  obtain ⟨w1, k1, k2⟩ := x_safe (e := 80) (n := n) (im := im) (w := w) (u := u) (a := a) (b := b) (bo := bo) (ot := ot) (x := x) hv hw hj_a hj_b hj_bo hj_ot hj_x
  have g46 : w1 46 = w 46 := k2 46 (by decide)
  obtain ⟨w2, l1, l2⟩ := m_safe (e := 80) (n := n) (im := im) (w := w1) (u := u) (a := a) (b := b) (bo := bo) (ot := ot) (x := x) (by rw [g46]; exact hw) hj_a hj_b hj_bo hj_ot hj_x
  rw [g46] at l1
  exact ⟨_, _, w2, u, k1, l1, J_q hJ k2 l2 (fun _ _ _ => rfl)⟩
theorem lq_rests {n : Nat} {im : Nat → Option Nat} {w u : Nat → Nat → Int} {a : Int} {b : Int} {bo : Int} {ot : Int} (hJ : J_a n im w u) (hj_a : jR a) (hj_b : jR b) (hj_bo : jR bo) (hj_ot : jR ot) : ∃ V d1 w2 u2, (z_F 100).1 k_LongBoats_rests [.ref 0, .int (Int32.ofInt a), .int (Int32.ofInt b), .int (Int32.ofInt bo), .int (Int32.ofInt ot)] (n, z_q im, jM w, jL u) = some (V, d1) ∧ (z_F 100).1 k_Model_rests [.ref 45, .int (Int32.ofInt a), .int (Int32.ofInt b), .int (Int32.ofInt bo), .int (Int32.ofInt ot)] (n, z_q im, d1) = some (V, jM w2, jL u2) ∧ J_a n im w2 u2 := by
  obtain ⟨⟨hv, hw, hp⟩, ⟨z, wd, nm, hs, hms, hws⟩, ⟨U, tp, hT, hTm, hTw⟩, hf, hi⟩ := id hJ
  obtain ⟨w1, k1, k2⟩ := x_rests (e := 80) (n := n) (im := im) (w := w) (u := u) (a := a) (b := b) (bo := bo) (ot := ot) hv hw hj_a hj_b hj_bo hj_ot
  have g46 : w1 46 = w 46 := k2 46 (by decide)
  obtain ⟨w2, l1, l2⟩ := m_rests (e := 80) (n := n) (im := im) (w := w1) (u := u) (a := a) (b := b) (bo := bo) (ot := ot) (by rw [g46]; exact hw) hj_a hj_b hj_bo hj_ot
  rw [g46] at l1
  exact ⟨_, _, w2, u, k1, l1, J_q hJ k2 l2 (fun _ _ _ => rfl)⟩
theorem lq_rest {n : Nat} {im : Nat → Option Nat} {w u : Nat → Nat → Int} {a : Int} {b : Int} {bo : Int} {ot : Int} {h : Int} (hJ : J_a n im w u) (hj_a : jR a) (hj_b : jR b) (hj_bo : jR bo) (hj_ot : jR ot) (hj_h : jR h) : ∃ V d1 w2 u2, (z_F 100).1 k_LongBoats_rest [.ref 0, .int (Int32.ofInt a), .int (Int32.ofInt b), .int (Int32.ofInt bo), .int (Int32.ofInt ot), .int (Int32.ofInt h)] (n, z_q im, jM w, jL u) = some (V, d1) ∧ (z_F 100).1 k_Model_rest [.ref 45, .int (Int32.ofInt a), .int (Int32.ofInt b), .int (Int32.ofInt bo), .int (Int32.ofInt ot), .int (Int32.ofInt h)] (n, z_q im, d1) = some (V, jM w2, jL u2) ∧ J_a n im w2 u2 := by
  obtain ⟨⟨hv, hw, hp⟩, ⟨z, wd, nm, hs, hms, hws⟩, ⟨U, tp, hT, hTm, hTw⟩, hf, hi⟩ := id hJ
  obtain ⟨w1, k1, k2⟩ := x_rest (e := 80) (n := n) (im := im) (w := w) (u := u) (a := a) (b := b) (bo := bo) (ot := ot) (h := h) hv hw hj_a hj_b hj_bo hj_ot hj_h
  have g46 : w1 46 = w 46 := k2 46 (by decide)
  obtain ⟨w2, l1, l2⟩ := m_rest (e := 80) (n := n) (im := im) (w := w1) (u := u) (a := a) (b := b) (bo := bo) (ot := ot) (h := h) (by rw [g46]; exact hw) hj_a hj_b hj_bo hj_ot hj_h
  rw [g46] at l1
  exact ⟨_, _, w2, u, k1, l1, J_q hJ k2 l2 (fun _ _ _ => rfl)⟩
theorem lq_vain {n : Nat} {im : Nat → Option Nat} {w u : Nat → Nat → Int} {a : Int} {b : Int} {bo : Int} {ot : Int} (hJ : J_a n im w u) (hj_a : jR a) (hj_b : jR b) (hj_bo : jR bo) (hj_ot : jR ot) : ∃ V d1 w2 u2, (z_F 100).1 k_LongBoats_vain [.ref 0, .int (Int32.ofInt a), .int (Int32.ofInt b), .int (Int32.ofInt bo), .int (Int32.ofInt ot)] (n, z_q im, jM w, jL u) = some (V, d1) ∧ (z_F 100).1 k_Model_vain [.ref 45, .int (Int32.ofInt a), .int (Int32.ofInt b), .int (Int32.ofInt bo), .int (Int32.ofInt ot)] (n, z_q im, d1) = some (V, jM w2, jL u2) ∧ J_a n im w2 u2 := by
  obtain ⟨⟨hv, hw, hp⟩, ⟨z, wd, nm, hs, hms, hws⟩, ⟨U, tp, hT, hTm, hTw⟩, hf, hi⟩ := id hJ
  obtain ⟨w1, k1, k2⟩ := x_vain (e := 80) (n := n) (im := im) (w := w) (u := u) (a := a) (b := b) (bo := bo) (ot := ot) hv hw hj_a hj_b hj_bo hj_ot
  have g46 : w1 46 = w 46 := k2 46 (by decide)
  obtain ⟨w2, l1, l2⟩ := m_vain (e := 80) (n := n) (im := im) (w := w1) (u := u) (a := a) (b := b) (bo := bo) (ot := ot) (by rw [g46]; exact hw) hj_a hj_b hj_bo hj_ot
  rw [g46] at l1
  exact ⟨_, _, w2, u, k1, l1, J_q hJ k2 l2 (fun _ _ _ => rfl)⟩
theorem lq_match {n : Nat} {im : Nat → Option Nat} {w u : Nat → Nat → Int} {t : Int} {o : Int} {k : Int} (hJ : J_a n im w u) (hj_t : jR t) (hj_o : jR o) (hj_k : jR k) : ∃ V d1 w2 u2, (z_F 100).1 k_LongBoats_match [.ref 0, .int (Int32.ofInt t), .int (Int32.ofInt o), .int (Int32.ofInt k)] (n, z_q im, jM w, jL u) = some (V, d1) ∧ (z_F 100).1 k_Model_match [.ref 45, .int (Int32.ofInt t), .int (Int32.ofInt o), .int (Int32.ofInt k)] (n, z_q im, d1) = some (V, jM w2, jL u2) ∧ J_a n im w2 u2 := by
  obtain ⟨⟨hv, hw, hp⟩, ⟨z, wd, nm, hs, hms, hws⟩, ⟨U, tp, hT, hTm, hTw⟩, hf, hi⟩ := id hJ
  obtain ⟨w1, k1, k2⟩ := x_match (e := 80) (n := n) (im := im) (w := w) (u := u) (t := t) (o := o) (k := k) hv hw hj_t hj_o hj_k
  have g46 : w1 46 = w 46 := k2 46 (by decide)
  obtain ⟨w2, l1, l2⟩ := m_match (e := 80) (n := n) (im := im) (w := w1) (u := u) (t := t) (o := o) (k := k) (by rw [g46]; exact hw) hj_t hj_o hj_k
  rw [g46] at l1
  exact ⟨_, _, w2, u, k1, l1, J_q hJ k2 l2 (fun _ _ _ => rfl)⟩
theorem lq_passed {n : Nat} {im : Nat → Option Nat} {w u : Nat → Nat → Int} {t : Int} {o : Int} {m : Int} (hJ : J_a n im w u) (hj_t : jR t) (hj_o : jR o) (hj_m : jR m) : ∃ V d1 w2 u2, (z_F 100).1 k_LongBoats_passed [.ref 0, .int (Int32.ofInt t), .int (Int32.ofInt o), .int (Int32.ofInt m)] (n, z_q im, jM w, jL u) = some (V, d1) ∧ (z_F 100).1 k_Model_passed [.ref 45, .int (Int32.ofInt t), .int (Int32.ofInt o), .int (Int32.ofInt m)] (n, z_q im, d1) = some (V, jM w2, jL u2) ∧ J_a n im w2 u2 := by
  obtain ⟨⟨hv, hw, hp⟩, ⟨z, wd, nm, hs, hms, hws⟩, ⟨U, tp, hT, hTm, hTw⟩, hf, hi⟩ := id hJ
  obtain ⟨w1, k1, k2⟩ := x_passed (e := 80) (n := n) (im := im) (w := w) (u := u) (t := t) (o := o) (m := m) hv hw hj_t hj_o hj_m
  have g46 : w1 46 = w 46 := k2 46 (by decide)
  obtain ⟨w2, l1, l2⟩ := m_passed (e := 80) (n := n) (im := im) (w := w1) (u := u) (t := t) (o := o) (m := m) (by rw [g46]; exact hw) hj_t hj_o hj_m
  rw [g46] at l1
  exact ⟨_, _, w2, u, k1, l1, J_q hJ k2 l2 (fun _ _ _ => rfl)⟩
theorem lq_led {n : Nat} {im : Nat → Option Nat} {w u : Nat → Nat → Int} {t : Int} {o : Int} {i : Int} {k : Int} (hJ : J_a n im w u) (hj_t : jR t) (hj_o : jR o) (hj_i : jR i) (hj_k : jR k) : ∃ V d1 w2 u2, (z_F 100).1 k_LongBoats_led [.ref 0, .int (Int32.ofInt t), .int (Int32.ofInt o), .int (Int32.ofInt i), .int (Int32.ofInt k)] (n, z_q im, jM w, jL u) = some (V, d1) ∧ (z_F 100).1 k_Model_led [.ref 45, .int (Int32.ofInt t), .int (Int32.ofInt o), .int (Int32.ofInt i), .int (Int32.ofInt k)] (n, z_q im, d1) = some (V, jM w2, jL u2) ∧ J_a n im w2 u2 := by
  obtain ⟨⟨hv, hw, hp⟩, ⟨z, wd, nm, hs, hms, hws⟩, ⟨U, tp, hT, hTm, hTw⟩, hf, hi⟩ := id hJ
  obtain ⟨w1, k1, k2⟩ := x_led (e := 80) (n := n) (im := im) (w := w) (u := u) (t := t) (o := o) (i := i) (k := k) hv hw hj_t hj_o hj_i hj_k
  have g46 : w1 46 = w 46 := k2 46 (by decide)
  obtain ⟨w2, l1, l2⟩ := m_led (e := 80) (n := n) (im := im) (w := w1) (u := u) (t := t) (o := o) (i := i) (k := k) (by rw [g46]; exact hw) hj_t hj_o hj_i hj_k
  rw [g46] at l1
  exact ⟨_, _, w2, u, k1, l1, J_q hJ k2 l2 (fun _ _ _ => rfl)⟩
theorem lq_wins {n : Nat} {im : Nat → Option Nat} {w u : Nat → Nat → Int} {t : Int} {o : Int} (hJ : J_a n im w u) (hj_t : jR t) (hj_o : jR o) : ∃ V d1 w2 u2, (z_F 100).1 k_LongBoats_wins [.ref 0, .int (Int32.ofInt t), .int (Int32.ofInt o)] (n, z_q im, jM w, jL u) = some (V, d1) ∧ (z_F 100).1 k_Model_wins [.ref 45, .int (Int32.ofInt t), .int (Int32.ofInt o)] (n, z_q im, d1) = some (V, jM w2, jL u2) ∧ J_a n im w2 u2 := by
  obtain ⟨⟨hv, hw, hp⟩, ⟨z, wd, nm, hs, hms, hws⟩, ⟨U, tp, hT, hTm, hTw⟩, hf, hi⟩ := id hJ
  obtain ⟨w1, k1, k2⟩ := x_wins (e := 80) (n := n) (im := im) (w := w) (u := u) (t := t) (o := o) hv hw hj_t hj_o
  have g46 : w1 46 = w 46 := k2 46 (by decide)
  obtain ⟨w2, l1, l2⟩ := m_wins (e := 79) (n := n) (im := im) (w := w1) (u := u) (t := t) (o := o) (by rw [g46]; exact hw) hj_t hj_o
  rw [g46] at l1
  exact ⟨_, _, w2, u, k1, l1, J_q hJ k2 l2 (fun _ _ _ => rfl)⟩
theorem lq_order {n : Nat} {im : Nat → Option Nat} {w u : Nat → Nat → Int} {t : Int} {o : Int} {i : Int} (hJ : J_a n im w u) (hj_t : jR t) (hj_o : jR o) (hj_i : jR i) : ∃ V d1 w2 u2, (z_F 100).1 k_LongBoats_order [.ref 0, .int (Int32.ofInt t), .int (Int32.ofInt o), .int (Int32.ofInt i)] (n, z_q im, jM w, jL u) = some (V, d1) ∧ (z_F 100).1 k_Model_order [.ref 45, .int (Int32.ofInt t), .int (Int32.ofInt o), .int (Int32.ofInt i)] (n, z_q im, d1) = some (V, jM w2, jL u2) ∧ J_a n im w2 u2 := by
  obtain ⟨⟨hv, hw, hp⟩, ⟨z, wd, nm, hs, hms, hws⟩, ⟨U, tp, hT, hTm, hTw⟩, hf, hi⟩ := id hJ
  obtain ⟨w1, k1, k2⟩ := x_order (e := 80) (n := n) (im := im) (w := w) (u := u) (t := t) (o := o) (i := i) hv hw hj_t hj_o hj_i
  have g46 : w1 46 = w 46 := k2 46 (by decide)
  obtain ⟨w2, l1, l2⟩ := m_order (e := 79) (n := n) (im := im) (w := w1) (u := u) (t := t) (o := o) (i := i) (by rw [g46]; exact hw) hj_t hj_o hj_i
  rw [g46] at l1
  exact ⟨_, _, w2, u, k1, l1, J_q hJ k2 l2 (fun _ _ _ => rfl)⟩
theorem lq_bold {n : Nat} {im : Nat → Option Nat} {w u : Nat → Nat → Int} {t : Int} {o : Int} {i : Int} (hJ : J_a n im w u) (hj_t : jR t) (hj_o : jR o) (hj_i : jR i) : ∃ V d1 w2 u2, (z_F 100).1 k_LongBoats_bold [.ref 0, .int (Int32.ofInt t), .int (Int32.ofInt o), .int (Int32.ofInt i)] (n, z_q im, jM w, jL u) = some (V, d1) ∧ (z_F 100).1 k_Model_bold [.ref 45, .int (Int32.ofInt t), .int (Int32.ofInt o), .int (Int32.ofInt i)] (n, z_q im, d1) = some (V, jM w2, jL u2) ∧ J_a n im w2 u2 := by
  obtain ⟨⟨hv, hw, hp⟩, ⟨z, wd, nm, hs, hms, hws⟩, ⟨U, tp, hT, hTm, hTw⟩, hf, hi⟩ := id hJ
  obtain ⟨w1, k1, k2⟩ := x_bold (e := 50) (n := n) (im := im) (w := w) (u := u) (t := t) (o := o) (i := i) hv hw hj_t hj_o hj_i
  have g46 : w1 46 = w 46 := k2 46 (by decide)
  obtain ⟨w2, l1, l2⟩ := m_bold (e := 79) (n := n) (im := im) (w := w1) (u := u) (t := t) (o := o) (i := i) (by rw [g46]; exact hw) hj_t hj_o hj_i
  rw [g46] at l1
  exact ⟨_, _, w2, u, k1, l1, J_q hJ k2 l2 (fun _ _ _ => rfl)⟩
theorem lq_sure {n : Nat} {im : Nat → Option Nat} {w u : Nat → Nat → Int} {t : Int} {o : Int} (hJ : J_a n im w u) (hj_t : jR t) (hj_o : jR o) : ∃ V d1 w2 u2, (z_F 100).1 k_LongBoats_sure [.ref 0, .int (Int32.ofInt t), .int (Int32.ofInt o)] (n, z_q im, jM w, jL u) = some (V, d1) ∧ (z_F 100).1 k_Model_sure [.ref 45, .int (Int32.ofInt t), .int (Int32.ofInt o)] (n, z_q im, d1) = some (V, jM w2, jL u2) ∧ J_a n im w2 u2 := by
  obtain ⟨⟨hv, hw, hp⟩, ⟨z, wd, nm, hs, hms, hws⟩, ⟨U, tp, hT, hTm, hTw⟩, hf, hi⟩ := id hJ
  obtain ⟨w1, k1, k2⟩ := x_sure (e := 50) (n := n) (im := im) (w := w) (u := u) (t := t) (o := o) hv hw hj_t hj_o
  have g46 : w1 46 = w 46 := k2 46 (by decide)
  obtain ⟨w2, l1, l2⟩ := m_sure (e := 79) (n := n) (im := im) (w := w1) (u := u) (t := t) (o := o) (by rw [g46]; exact hw) hj_t hj_o
  rw [g46] at l1
  exact ⟨_, _, w2, u, k1, l1, J_q hJ k2 l2 (fun _ _ _ => rfl)⟩
theorem lq_pillar {n : Nat} {im : Nat → Option Nat} {w u : Nat → Nat → Int} {t : Int} {o : Int} (hJ : J_a n im w u) (hj_t : jR t) (hj_o : jR o) : ∃ V d1 w2 u2, (z_F 100).1 k_LongBoats_pillar [.ref 0, .int (Int32.ofInt t), .int (Int32.ofInt o)] (n, z_q im, jM w, jL u) = some (V, d1) ∧ (z_F 100).1 k_Model_pillar [.ref 45, .int (Int32.ofInt t), .int (Int32.ofInt o)] (n, z_q im, d1) = some (V, jM w2, jL u2) ∧ J_a n im w2 u2 := by
  obtain ⟨⟨hv, hw, hp⟩, ⟨z, wd, nm, hs, hms, hws⟩, ⟨U, tp, hT, hTm, hTw⟩, hf, hi⟩ := id hJ
  obtain ⟨w1, k1, k2⟩ := x_pillar (e := 80) (n := n) (im := im) (w := w) (u := u) (t := t) (o := o) hv hw hj_t hj_o
  have g46 : w1 46 = w 46 := k2 46 (by decide)
  obtain ⟨w2, l1, l2⟩ := m_pillar (e := 80) (n := n) (im := im) (w := w1) (u := u) (t := t) (o := o) (by rw [g46]; exact hw) hj_t hj_o
  rw [g46] at l1
  exact ⟨_, _, w2, u, k1, l1, J_q hJ k2 l2 (fun _ _ _ => rfl)⟩
theorem lq_swap {n : Nat} {im : Nat → Option Nat} {w u : Nat → Nat → Int} {t : Int} {i : Int} {k : Int} (hJ : J_a n im w u) (hj_t : jR t) (hj_i : jR i) (hj_k : jR k) : ∃ V d1 w2 u2, (z_F 100).1 k_LongBoats_swap [.ref 0, .int (Int32.ofInt t), .int (Int32.ofInt i), .int (Int32.ofInt k)] (n, z_q im, jM w, jL u) = some (V, d1) ∧ (z_F 100).1 k_Model_swap [.ref 45, .int (Int32.ofInt t), .int (Int32.ofInt i), .int (Int32.ofInt k)] (n, z_q im, d1) = some (V, jM w2, jL u2) ∧ J_a n im w2 u2 := by
  obtain ⟨⟨hv, hw, hp⟩, ⟨z, wd, nm, hs, hms, hws⟩, ⟨U, tp, hT, hTm, hTw⟩, hf, hi⟩ := id hJ
  obtain ⟨w1, k1, kv, k2⟩ := x_swap (e := 80) (n := n) (im := im) (w := w) (u := u) (t := t) (i := i) (k := k) hv hw hj_t hj_i hj_k
  have g46 : w1 46 = w 46 := k2 46 (by decide)
  obtain ⟨w2, l1, l2, l3⟩ := m_swap (e := 80) (n := n) (im := im) (w := w1) (u := u) (t := t) (i := i) (k := k) (by rw [g46]; exact hw) hj_t hj_i hj_k
  rw [g46] at l1
  rw [g46] at l2
  exact ⟨_, _, w2, u, k1, l1, J_set hJ kv k2 l2 l3 (wf_swap hw t i k) (p1_swap hp t i k)⟩
theorem lq_train {n : Nat} {im : Nat → Option Nat} {w u : Nat → Nat → Int} {a : Int} {j : Int} {x : Int} (hJ : J_a n im w u) (hj_a : jR a) (hj_j : jR j) (hj_x : jR x) : ∃ V d1 w2 u2, (z_F 100).1 k_LongBoats_train [.ref 0, .int (Int32.ofInt a), .int (Int32.ofInt j), .int (Int32.ofInt x)] (n, z_q im, jM w, jL u) = some (V, d1) ∧ (z_F 100).1 k_Model_train [.ref 45, .int (Int32.ofInt a), .int (Int32.ofInt j), .int (Int32.ofInt x)] (n, z_q im, d1) = some (V, jM w2, jL u2) ∧ J_a n im w2 u2 := by
  obtain ⟨⟨hv, hw, hp⟩, ⟨z, wd, nm, hs, hms, hws⟩, ⟨U, tp, hT, hTm, hTw⟩, hf, hi⟩ := id hJ
  obtain ⟨w1, k1, kv, k2⟩ := x_train (e := 80) (n := n) (im := im) (w := w) (u := u) (a := a) (j := j) (x := x) hv hw hj_a hj_j hj_x
  have g46 : w1 46 = w 46 := k2 46 (by decide)
  obtain ⟨w2, l1, l2, l3⟩ := m_train (e := 80) (n := n) (im := im) (w := w1) (u := u) (a := a) (j := j) (x := x) (by rw [g46]; exact hw) hj_a hj_j hj_x
  rw [g46] at l1
  rw [g46] at l2
  exact ⟨_, _, w2, u, k1, l1, J_set hJ kv k2 l2 l3 (wf_train hw a j x) (p1_train hp a j x)⟩
theorem lq_mend {n : Nat} {im : Nat → Option Nat} {w u : Nat → Nat → Int} {a : Int} {j : Int} {x : Int} (hJ : J_a n im w u) (hj_a : jR a) (hj_j : jR j) (hj_x : jR x) : ∃ V d1 w2 u2, (z_F 100).1 k_LongBoats_mend [.ref 0, .int (Int32.ofInt a), .int (Int32.ofInt j), .int (Int32.ofInt x)] (n, z_q im, jM w, jL u) = some (V, d1) ∧ (z_F 100).1 k_Model_mend [.ref 45, .int (Int32.ofInt a), .int (Int32.ofInt j), .int (Int32.ofInt x)] (n, z_q im, d1) = some (V, jM w2, jL u2) ∧ J_a n im w2 u2 := by
  obtain ⟨⟨hv, hw, hp⟩, ⟨z, wd, nm, hs, hms, hws⟩, ⟨U, tp, hT, hTm, hTw⟩, hf, hi⟩ := id hJ
  obtain ⟨w1, k1, kv, k2⟩ := x_mend (e := 80) (n := n) (im := im) (w := w) (u := u) (a := a) (j := j) (x := x) hv hw hj_a hj_j hj_x
  have g46 : w1 46 = w 46 := k2 46 (by decide)
  obtain ⟨w2, l1, l2, l3⟩ := m_mend (e := 80) (n := n) (im := im) (w := w1) (u := u) (a := a) (j := j) (x := x) (by rw [g46]; exact hw) hj_a hj_j hj_x
  rw [g46] at l1
  rw [g46] at l2
  exact ⟨_, _, w2, u, k1, l1, J_set hJ kv k2 l2 l3 (wf_mend hw a j x) (p1_mend hp a j x)⟩
theorem lq_rule {n : Nat} {im : Nat → Option Nat} {w u : Nat → Nat → Int} {j : Int} {x : Int} (hJ : J_a n im w u) (hj_j : jR j) (hj_x : jR x) : ∃ V d1 w2 u2, (z_F 100).1 k_LongBoats_rule [.ref 0, .int (Int32.ofInt j), .int (Int32.ofInt x)] (n, z_q im, jM w, jL u) = some (V, d1) ∧ (z_F 100).1 k_Model_rule [.ref 45, .int (Int32.ofInt j), .int (Int32.ofInt x)] (n, z_q im, d1) = some (V, jM w2, jL u2) ∧ J_a n im w2 u2 := by
  obtain ⟨⟨hv, hw, hp⟩, ⟨z, wd, nm, hs, hms, hws⟩, ⟨U, tp, hT, hTm, hTw⟩, hf, hi⟩ := id hJ
  obtain ⟨w1, k1, kv, k2⟩ := x_rule (e := 80) (n := n) (im := im) (w := w) (u := u) (j := j) (x := x) hv hw hj_j hj_x
  have g46 : w1 46 = w 46 := k2 46 (by decide)
  obtain ⟨w2, l1, l2, l3⟩ := m_rule (e := 80) (n := n) (im := im) (w := w1) (u := u) (j := j) (x := x) (by rw [g46]; exact hw) hj_j hj_x
  rw [g46] at l1
  rw [g46] at l2
  exact ⟨_, _, w2, u, k1, l1, J_set hJ kv k2 l2 l3 (wf_rule hw j x) (p1_rule hp j x)⟩
theorem lq_judge {n : Nat} {im : Nat → Option Nat} {w u : Nat → Nat → Int} {k : Int} {m : Int} {h : Int} (hJ : J_a n im w u) (hj_k : jR k) (hj_m : jR m) (hj_h : jR h) : ∃ V d1 w2 u2, (z_F 100).2.1 k_LongBoats_judge [.ref 0, .int (Int32.ofInt k), .int (Int32.ofInt m), .int (Int32.ofInt h)] (n, z_q im, jM w, jL u) = some (V, d1) ∧ (z_F 100).2.1 k_Model_judge [.ref 45, .int (Int32.ofInt k), .int (Int32.ofInt m), .int (Int32.ofInt h)] (n, z_q im, d1) = some (V, jM w2, jL u2) ∧ J_a n im w2 u2 := by
  obtain ⟨⟨hv, hw, hp⟩, ⟨z, wd, nm, hs, hms, hws⟩, ⟨U, tp, hT, hTm, hTw⟩, hf, hi⟩ := id hJ
  have k1 := x_judge (e := 80) (n := n) (im := im) (w := w) (u := u) (k := k) (m := m) (h := h) hv hw hj_k hj_m hj_h
  have g46 : w 46 = w 46 := rfl
  have l1 := m_judge (e := 80) (n := n) (im := im) (w := w) (u := u) (k := k) (m := m) (h := h) (by rw [g46]; exact hw) hj_k hj_m hj_h
  exact ⟨_, _, w, u, k1, l1, J_q hJ (c_fr_rf w) (⟨fun _ _ => rfl, fun _ _ => rfl⟩ : m_fr w w) (fun _ _ _ => rfl)⟩
theorem lq_needed {n : Nat} {im : Nat → Option Nat} {w u : Nat → Nat → Int} {m : Int} (hJ : J_a n im w u) (hj_m : jR m) : ∃ V d1 w2 u2, (z_F 100).1 k_LongBoats_needed [.ref 0, .int (Int32.ofInt m)] (n, z_q im, jM w, jL u) = some (V, d1) ∧ (z_F 100).1 k_Model_needed [.ref 45, .int (Int32.ofInt m)] (n, z_q im, d1) = some (V, jM w2, jL u2) ∧ J_a n im w2 u2 := by
  obtain ⟨⟨hv, hw, hp⟩, ⟨z, wd, nm, hs, hms, hws⟩, ⟨U, tp, hT, hTm, hTw⟩, hf, hi⟩ := id hJ
  have k1 := x_needed (e := 80) (n := n) (im := im) (w := w) (u := u) (m := m) hv hw hj_m
  have g46 : w 46 = w 46 := rfl
  have l1 := m_needed (e := 80) (n := n) (im := im) (w := w) (u := u) (m := m) (by rw [g46]; exact hw) hj_m
  exact ⟨_, _, w, u, k1, l1, J_q hJ (c_fr_rf w) (⟨fun _ _ => rfl, fun _ _ => rfl⟩ : m_fr w w) (fun _ _ _ => rfl)⟩
theorem lq_gaps {n : Nat} {im : Nat → Option Nat} {w u : Nat → Nat → Int} {s : Int} (hJ : J_a n im w u) (hj_s : jR s) : ∃ V d1 w2 u2, (z_F 100).1 k_LongBoats_gaps [.ref 0, .int (Int32.ofInt s)] (n, z_q im, jM w, jL u) = some (V, d1) ∧ (z_F 100).1 k_Model_gaps [.ref 45, .int (Int32.ofInt s)] (n, z_q im, d1) = some (V, jM w2, jL u2) ∧ J_a n im w2 u2 := by
  obtain ⟨⟨hv, hw, hp⟩, ⟨z, wd, nm, hs, hms, hws⟩, ⟨U, tp, hT, hTm, hTw⟩, hf, hi⟩ := id hJ
  obtain ⟨w1, k1, k2⟩ := x_gaps (e := 80) (n := n) (im := im) (w := w) (u := u) (s := s) hv hw hs hws hj_s
  have g46 : w1 46 = w 46 := k2 46 (by decide)
  have hms1 : m_s w1 u z wd nm := m_s_f hms (k2 61 (by decide)) (k2 62 (by decide)) rfl
  have l1 := m_gaps (e := 80) (n := n) (im := im) (w := w1) (u := u) (s := s) (by rw [g46]; exact hw) hms1 hws hj_s
  rw [g46] at l1
  exact ⟨_, _, w1, u, k1, l1, J_q hJ k2 (⟨fun _ _ => rfl, fun _ _ => rfl⟩ : m_fr w1 w1) (fun _ _ _ => rfl)⟩
theorem lq_himself {n : Nat} {im : Nat → Option Nat} {w u : Nat → Nat → Int} {s : Int} {k : Int} (hJ : J_a n im w u) (hj_s : jR s) (hj_k : jR k) : ∃ V d1 w2 u2, (z_F 100).1 k_LongBoats_himself [.ref 0, .int (Int32.ofInt s), .int (Int32.ofInt k)] (n, z_q im, jM w, jL u) = some (V, d1) ∧ (z_F 100).1 k_Model_himself [.ref 45, .int (Int32.ofInt s), .int (Int32.ofInt k)] (n, z_q im, d1) = some (V, jM w2, jL u2) ∧ J_a n im w2 u2 := by
  obtain ⟨⟨hv, hw, hp⟩, ⟨z, wd, nm, hs, hms, hws⟩, ⟨U, tp, hT, hTm, hTw⟩, hf, hi⟩ := id hJ
  obtain ⟨w1, k1, k2⟩ := x_himself (e := 80) (n := n) (im := im) (w := w) (u := u) (s := s) (k := k) hv hw hs hws hj_s hj_k
  have g46 : w1 46 = w 46 := k2 46 (by decide)
  have hms1 : m_s w1 u z wd nm := m_s_f hms (k2 61 (by decide)) (k2 62 (by decide)) rfl
  have l1 := m_himself (e := 80) (n := n) (im := im) (w := w1) (u := u) (s := s) (k := k) (by rw [g46]; exact hw) hms1 hws hj_s hj_k
  rw [g46] at l1
  exact ⟨_, _, w1, u, k1, l1, J_q hJ k2 (⟨fun _ _ => rfl, fun _ _ => rfl⟩ : m_fr w1 w1) (fun _ _ _ => rfl)⟩
theorem lq_odd {n : Nat} {im : Nat → Option Nat} {w u : Nat → Nat → Int} {s : Int} (hJ : J_a n im w u) (hj_s : jR s) : ∃ V d1 w2 u2, (z_F 100).1 k_LongBoats_odd [.ref 0, .int (Int32.ofInt s)] (n, z_q im, jM w, jL u) = some (V, d1) ∧ (z_F 100).1 k_Model_odd [.ref 45, .int (Int32.ofInt s)] (n, z_q im, d1) = some (V, jM w2, jL u2) ∧ J_a n im w2 u2 := by
  obtain ⟨⟨hv, hw, hp⟩, ⟨z, wd, nm, hs, hms, hws⟩, ⟨U, tp, hT, hTm, hTw⟩, hf, hi⟩ := id hJ
  obtain ⟨w1, k1, k2⟩ := x_odd (e := 80) (n := n) (im := im) (w := w) (u := u) (s := s) hv hw hs hws hj_s
  have g46 : w1 46 = w 46 := k2 46 (by decide)
  have hms1 : m_s w1 u z wd nm := m_s_f hms (k2 61 (by decide)) (k2 62 (by decide)) rfl
  have l1 := m_odd (e := 80) (n := n) (im := im) (w := w1) (u := u) (s := s) (by rw [g46]; exact hw) hms1 hws hj_s
  rw [g46] at l1
  exact ⟨_, _, w1, u, k1, l1, J_q hJ k2 (⟨fun _ _ => rfl, fun _ _ => rfl⟩ : m_fr w1 w1) (fun _ _ _ => rfl)⟩
theorem lq_wave {n : Nat} {im : Nat → Option Nat} {w u : Nat → Nat → Int} {a : Int} {p : Int} (hJ : J_a n im w u) (hj_a : jR a) (hj_p : jR p) : ∃ V d1 w2 u2, (z_F 100).1 k_LongBoats_wave [.ref 0, .int (Int32.ofInt a), .int (Int32.ofInt p)] (n, z_q im, jM w, jL u) = some (V, d1) ∧ (z_F 100).1 k_Model_wave [.ref 45, .int (Int32.ofInt a), .int (Int32.ofInt p)] (n, z_q im, d1) = some (V, jM w2, jL u2) ∧ J_a n im w2 u2 := by
  obtain ⟨⟨hv, hw, hp⟩, ⟨z, wd, nm, hs, hms, hws⟩, ⟨U, tp, hT, hTm, hTw⟩, hf, hi⟩ := id hJ
  have k1 := x_wave (e := 80) (n := n) (im := im) (w := w) (u := u) (a := a) (p := p) hv hw hj_a hj_p
  have g46 : w 46 = w 46 := rfl
  have l1 := m_wave (e := 80) (n := n) (im := im) (w := w) (u := u) (a := a) (p := p) (by rw [g46]; exact hw) hj_a hj_p
  exact ⟨_, _, w, u, k1, l1, J_q hJ (c_fr_rf w) (⟨fun _ _ => rfl, fun _ _ => rfl⟩ : m_fr w w) (fun _ _ _ => rfl)⟩
theorem lq_calm {n : Nat} {im : Nat → Option Nat} {w u : Nat → Nat → Int} {a : Int} {p : Int} (hJ : J_a n im w u) (hj_a : jR a) (hj_p : jR p) : ∃ V d1 w2 u2, (z_F 100).1 k_LongBoats_calm [.ref 0, .int (Int32.ofInt a), .int (Int32.ofInt p)] (n, z_q im, jM w, jL u) = some (V, d1) ∧ (z_F 100).1 k_Model_calm [.ref 45, .int (Int32.ofInt a), .int (Int32.ofInt p)] (n, z_q im, d1) = some (V, jM w2, jL u2) ∧ J_a n im w2 u2 := by
  obtain ⟨⟨hv, hw, hp⟩, ⟨z, wd, nm, hs, hms, hws⟩, ⟨U, tp, hT, hTm, hTw⟩, hf, hi⟩ := id hJ
  have k1 := x_calm (e := 80) (n := n) (im := im) (w := w) (u := u) (a := a) (p := p) hv hw hj_a hj_p
  have g46 : w 46 = w 46 := rfl
  have l1 := m_calm (e := 80) (n := n) (im := im) (w := w) (u := u) (a := a) (p := p) (by rw [g46]; exact hw) hj_a hj_p
  exact ⟨_, _, w, u, k1, l1, J_q hJ (c_fr_rf w) (⟨fun _ _ => rfl, fun _ _ => rfl⟩ : m_fr w w) (fun _ _ _ => rfl)⟩
theorem lq_champion {n : Nat} {im : Nat → Option Nat} {w u : Nat → Nat → Int} {bo : Int} {ot : Int} (hJ : J_a n im w u) (hj_bo : jR bo) (hj_ot : jR ot) : ∃ V d1 w2 u2, (z_F 100).1 k_LongBoats_champion [.ref 0, .int (Int32.ofInt bo), .int (Int32.ofInt ot)] (n, z_q im, jM w, jL u) = some (V, d1) ∧ (z_F 100).1 k_Model_champion [.ref 45, .int (Int32.ofInt bo), .int (Int32.ofInt ot)] (n, z_q im, d1) = some (V, jM w2, jL u2) ∧ J_a n im w2 u2 := by
  obtain ⟨⟨hv, hw, hp⟩, ⟨z, wd, nm, hs, hms, hws⟩, ⟨U, tp, hT, hTm, hTw⟩, hf, hi⟩ := id hJ
  obtain ⟨w1, k1, k2⟩ := x_champion (e := 80) (n := n) (im := im) (w := w) (u := u) (bo := bo) (ot := ot) hv hw hj_bo hj_ot
  have g46 : w1 46 = w 46 := k2 46 (by decide)
  have l1 := m_champion (e := 80) (n := n) (im := im) (w := w1) (u := u) (bo := bo) (ot := ot) (by rw [g46]; exact hw) hj_bo hj_ot
  rw [g46] at l1
  exact ⟨_, _, w1, u, k1, l1, J_q hJ k2 (⟨fun _ _ => rfl, fun _ _ => rfl⟩ : m_fr w1 w1) (fun _ _ _ => rfl)⟩
theorem lq_beaten {n : Nat} {im : Nat → Option Nat} {w u : Nat → Nat → Int} {a : Int} {bo : Int} {ot : Int} (hJ : J_a n im w u) (hj_a : jR a) (hj_bo : jR bo) (hj_ot : jR ot) : ∃ V d1 w2 u2, (z_F 100).1 k_LongBoats_beaten [.ref 0, .int (Int32.ofInt a), .int (Int32.ofInt bo), .int (Int32.ofInt ot)] (n, z_q im, jM w, jL u) = some (V, d1) ∧ (z_F 100).1 k_Model_beaten [.ref 45, .int (Int32.ofInt a), .int (Int32.ofInt bo), .int (Int32.ofInt ot)] (n, z_q im, d1) = some (V, jM w2, jL u2) ∧ J_a n im w2 u2 := by
  obtain ⟨⟨hv, hw, hp⟩, ⟨z, wd, nm, hs, hms, hws⟩, ⟨U, tp, hT, hTm, hTw⟩, hf, hi⟩ := id hJ
  obtain ⟨w1, k1, k2⟩ := x_beaten (e := 80) (n := n) (im := im) (w := w) (u := u) (a := a) (bo := bo) (ot := ot) hv hw hj_a hj_bo hj_ot
  have g46 : w1 46 = w 46 := k2 46 (by decide)
  have l1 := m_beaten (e := 80) (n := n) (im := im) (w := w1) (u := u) (a := a) (bo := bo) (ot := ot) (by rw [g46]; exact hw) hj_a hj_bo hj_ot
  rw [g46] at l1
  exact ⟨_, _, w1, u, k1, l1, J_q hJ k2 (⟨fun _ _ => rfl, fun _ _ => rfl⟩ : m_fr w1 w1) (fun _ _ _ => rfl)⟩
theorem lq_ring {n : Nat} {im : Nat → Option Nat} {w u : Nat → Nat → Int} {bo : Int} {ot : Int} (hJ : J_a n im w u) (hj_bo : jR bo) (hj_ot : jR ot) : ∃ V d1 w2 u2, (z_F 100).1 k_LongBoats_ring [.ref 0, .int (Int32.ofInt bo), .int (Int32.ofInt ot)] (n, z_q im, jM w, jL u) = some (V, d1) ∧ (z_F 100).1 k_Model_ring [.ref 45, .int (Int32.ofInt bo), .int (Int32.ofInt ot)] (n, z_q im, d1) = some (V, jM w2, jL u2) ∧ J_a n im w2 u2 := by
  obtain ⟨⟨hv, hw, hp⟩, ⟨z, wd, nm, hs, hms, hws⟩, ⟨U, tp, hT, hTm, hTw⟩, hf, hi⟩ := id hJ
  obtain ⟨w1, k1, k2⟩ := x_ring (e := 80) (n := n) (im := im) (w := w) (u := u) (bo := bo) (ot := ot) hv hw hj_bo hj_ot
  have g46 : w1 46 = w 46 := k2 46 (by decide)
  have l1 := m_ring (e := 80) (n := n) (im := im) (w := w1) (u := u) (bo := bo) (ot := ot) (by rw [g46]; exact hw) hj_bo hj_ot
  rw [g46] at l1
  exact ⟨_, _, w1, u, k1, l1, J_q hJ k2 (⟨fun _ _ => rfl, fun _ _ => rfl⟩ : m_fr w1 w1) (fun _ _ _ => rfl)⟩
theorem lq_margin {n : Nat} {im : Nat → Option Nat} {w u : Nat → Nat → Int} {a : Int} {b : Int} {bo : Int} {ot : Int} {p : Int} (hJ : J_a n im w u) (hj_a : jR a) (hj_b : jR b) (hj_bo : jR bo) (hj_ot : jR ot) (hj_p : jR p) : ∃ V d1 w2 u2, (z_F 100).1 k_LongBoats_margin [.ref 0, .int (Int32.ofInt a), .int (Int32.ofInt b), .int (Int32.ofInt bo), .int (Int32.ofInt ot), .int (Int32.ofInt p)] (n, z_q im, jM w, jL u) = some (V, d1) ∧ (z_F 100).1 k_Model_margin [.ref 45, .int (Int32.ofInt a), .int (Int32.ofInt b), .int (Int32.ofInt bo), .int (Int32.ofInt ot), .int (Int32.ofInt p)] (n, z_q im, d1) = some (V, jM w2, jL u2) ∧ J_a n im w2 u2 := by
  obtain ⟨⟨hv, hw, hp⟩, ⟨z, wd, nm, hs, hms, hws⟩, ⟨U, tp, hT, hTm, hTw⟩, hf, hi⟩ := id hJ
  obtain ⟨w1, k1, k2⟩ := x_margin (e := 80) (n := n) (im := im) (w := w) (u := u) (a := a) (b := b) (bo := bo) (ot := ot) (p := p) hv hw hj_a hj_b hj_bo hj_ot hj_p
  have g46 : w1 46 = w 46 := k2 46 (by decide)
  have l1 := m_margin (e := 80) (n := n) (im := im) (w := w1) (u := u) (v := w 46) (a := a) (b := b) (bo := bo) (ot := ot) (p := p) (fun j _ => by rw [g46]) hw hj_a hj_b hj_bo hj_ot hj_p
  exact ⟨_, _, w1, u, k1, l1, J_q hJ k2 (⟨fun _ _ => rfl, fun _ _ => rfl⟩ : m_fr w1 w1) (fun _ _ _ => rfl)⟩
theorem lq_feared {n : Nat} {im : Nat → Option Nat} {w u : Nat → Nat → Int} {a : Int} {bo : Int} {ot : Int} (hJ : J_a n im w u) (hj_a : jR a) (hj_bo : jR bo) (hj_ot : jR ot) : ∃ V d1 w2 u2, (z_F 100).1 k_LongBoats_feared [.ref 0, .int (Int32.ofInt a), .int (Int32.ofInt bo), .int (Int32.ofInt ot)] (n, z_q im, jM w, jL u) = some (V, d1) ∧ (z_F 100).1 k_Model_feared [.ref 45, .int (Int32.ofInt a), .int (Int32.ofInt bo), .int (Int32.ofInt ot)] (n, z_q im, d1) = some (V, jM w2, jL u2) ∧ J_a n im w2 u2 := by
  obtain ⟨⟨hv, hw, hp⟩, ⟨z, wd, nm, hs, hms, hws⟩, ⟨U, tp, hT, hTm, hTw⟩, hf, hi⟩ := id hJ
  obtain ⟨w1, k1, k2⟩ := x_feared (e := 80) (n := n) (im := im) (w := w) (u := u) (a := a) (bo := bo) (ot := ot) hv hw hj_a hj_bo hj_ot
  have g46 : w1 46 = w 46 := k2 46 (by decide)
  have l1 := m_feared (e := 80) (n := n) (im := im) (w := w1) (u := u) (a := a) (bo := bo) (ot := ot) (by rw [g46]; exact hw) hj_a hj_bo hj_ot
  rw [g46] at l1
  exact ⟨_, _, w1, u, k1, l1, J_q hJ k2 (⟨fun _ _ => rfl, fun _ _ => rfl⟩ : m_fr w1 w1) (fun _ _ _ => rfl)⟩
theorem lq_weary {n : Nat} {im : Nat → Option Nat} {w u : Nat → Nat → Int} {a : Int} {b : Int} {bo : Int} {ot : Int} (hJ : J_a n im w u) (hj_a : jR a) (hj_b : jR b) (hj_bo : jR bo) (hj_ot : jR ot) : ∃ V d1 w2 u2, (z_F 100).1 k_LongBoats_weary [.ref 0, .int (Int32.ofInt a), .int (Int32.ofInt b), .int (Int32.ofInt bo), .int (Int32.ofInt ot)] (n, z_q im, jM w, jL u) = some (V, d1) ∧ (z_F 100).1 k_Model_weary [.ref 45, .int (Int32.ofInt a), .int (Int32.ofInt b), .int (Int32.ofInt bo), .int (Int32.ofInt ot)] (n, z_q im, d1) = some (V, jM w2, jL u2) ∧ J_a n im w2 u2 := by
  obtain ⟨⟨hv, hw, hp⟩, ⟨z, wd, nm, hs, hms, hws⟩, ⟨U, tp, hT, hTm, hTw⟩, hf, hi⟩ := id hJ
  obtain ⟨w1, k1, k2⟩ := x_weary (e := 80) (n := n) (im := im) (w := w) (u := u) (a := a) (b := b) (bo := bo) (ot := ot) hv hw hj_a hj_b hj_bo hj_ot
  have g46 : w1 46 = w 46 := k2 46 (by decide)
  have l1 := m_weary (e := 80) (n := n) (im := im) (w := w1) (u := u) (a := a) (b := b) (bo := bo) (ot := ot) (by rw [g46]; exact hw) hj_a hj_b hj_bo hj_ot
  rw [g46] at l1
  exact ⟨_, _, w1, u, k1, l1, J_q hJ k2 (⟨fun _ _ => rfl, fun _ _ => rfl⟩ : m_fr w1 w1) (fun _ _ _ => rfl)⟩
theorem lq_part {n : Nat} {im : Nat → Option Nat} {w u : Nat → Nat → Int} {a : Int} {b : Int} {bo : Int} {ot : Int} (hJ : J_a n im w u) (hj_a : jR a) (hj_b : jR b) (hj_bo : jR bo) (hj_ot : jR ot) : ∃ V d1 w2 u2, (z_F 100).1 k_LongBoats_part [.ref 0, .int (Int32.ofInt a), .int (Int32.ofInt b), .int (Int32.ofInt bo), .int (Int32.ofInt ot)] (n, z_q im, jM w, jL u) = some (V, d1) ∧ (z_F 100).1 k_Model_part_1 [.ref 45, .int (Int32.ofInt a), .int (Int32.ofInt b), .int (Int32.ofInt bo), .int (Int32.ofInt ot)] (n, z_q im, d1) = some (V, jM w2, jL u2) ∧ J_a n im w2 u2 := by
  obtain ⟨⟨hv, hw, hp⟩, ⟨z, wd, nm, hs, hms, hws⟩, ⟨U, tp, hT, hTm, hTw⟩, hf, hi⟩ := id hJ
  obtain ⟨w1, k1, k2⟩ := x_part (e := 80) (n := n) (im := im) (w := w) (u := u) (a := a) (b := b) (bo := bo) (ot := ot) hv hw hj_a hj_b hj_bo hj_ot
  have g46 : w1 46 = w 46 := k2 46 (by decide)
  have l1 := m_part (e := 80) (n := n) (im := im) (w := w1) (u := u) (a := a) (b := b) (bo := bo) (ot := ot) (by rw [g46]; exact hw) hj_a hj_b hj_bo hj_ot
  rw [g46] at l1
  exact ⟨_, _, w1, u, k1, l1, J_q hJ k2 (⟨fun _ _ => rfl, fun _ _ => rfl⟩ : m_fr w1 w1) (fun _ _ _ => rfl)⟩
theorem lq_drawn {n : Nat} {im : Nat → Option Nat} {w u : Nat → Nat → Int} {x : Int} {a : Int} {b : Int} {bo : Int} {ot : Int} {q : Int} (hJ : J_a n im w u) (hj_x : jR x) (hj_a : jR a) (hj_b : jR b) (hj_bo : jR bo) (hj_ot : jR ot) (hj_q : jR q) : ∃ V d1 w2 u2, (z_F 100).1 k_LongBoats_drawn [.ref 0, .int (Int32.ofInt x), .int (Int32.ofInt a), .int (Int32.ofInt b), .int (Int32.ofInt bo), .int (Int32.ofInt ot), .int (Int32.ofInt q)] (n, z_q im, jM w, jL u) = some (V, d1) ∧ (z_F 100).1 k_Model_drawn [.ref 45, .int (Int32.ofInt x), .int (Int32.ofInt a), .int (Int32.ofInt b), .int (Int32.ofInt bo), .int (Int32.ofInt ot), .int (Int32.ofInt q)] (n, z_q im, d1) = some (V, jM w2, jL u2) ∧ J_a n im w2 u2 := by
  obtain ⟨⟨hv, hw, hp⟩, ⟨z, wd, nm, hs, hms, hws⟩, ⟨U, tp, hT, hTm, hTw⟩, hf, hi⟩ := id hJ
  obtain ⟨w1, y1, k1, k2⟩ := x_drawn (e := 80) (n := n) (im := im) (w := w) (u := u) (x := x) (a := a) (b := b) (bo := bo) (ot := ot) (q := q) hv hw hj_x hj_a hj_b hj_bo hj_ot hj_q
  have g46 : w1 46 = w 46 := k2 46 (by decide)
  obtain ⟨w2, y2, l1, l2⟩ := m_drawn (e := 80) (n := n) (im := im) (w := w1) (u := (z_u u 30 0 y1)) (x := x) (a := a) (b := b) (bo := bo) (ot := ot) (q := q) (by rw [g46]; exact hw) hj_x hj_a hj_b hj_bo hj_ot hj_q
  rw [g46] at l1
  exact ⟨_, _, w2, (z_u (z_u u 30 0 y1) 45 18 y2), k1, l1, J_q hJ k2 l2 (fun c h1 h2 => by rw [z_u_ne h2, z_u_ne h1])⟩
theorem lq_years {n : Nat} {im : Nat → Option Nat} {w u : Nat → Nat → Int} {x : Int} {m : Int} {a : Int} {b : Int} {bo : Int} {ot : Int} {r : Int} (hJ : J_a n im w u) (hj_x : jR x) (hj_m : jR m) (hj_a : jR a) (hj_b : jR b) (hj_bo : jR bo) (hj_ot : jR ot) (hj_r : jR r) : ∃ V d1 w2 u2, (z_F 100).1 k_LongBoats_years [.ref 0, .int (Int32.ofInt x), .int (Int32.ofInt m), .int (Int32.ofInt a), .int (Int32.ofInt b), .int (Int32.ofInt bo), .int (Int32.ofInt ot), .int (Int32.ofInt r)] (n, z_q im, jM w, jL u) = some (V, d1) ∧ (z_F 100).1 k_Model_years [.ref 45, .int (Int32.ofInt x), .int (Int32.ofInt m), .int (Int32.ofInt a), .int (Int32.ofInt b), .int (Int32.ofInt bo), .int (Int32.ofInt ot), .int (Int32.ofInt r)] (n, z_q im, d1) = some (V, jM w2, jL u2) ∧ J_a n im w2 u2 := by
  obtain ⟨⟨hv, hw, hp⟩, ⟨z, wd, nm, hs, hms, hws⟩, ⟨U, tp, hT, hTm, hTw⟩, hf, hi⟩ := id hJ
  obtain ⟨w1, y1, k1, k2⟩ := x_years (e := 80) (n := n) (im := im) (w := w) (u := u) (x := x) (m := m) (a := a) (b := b) (bo := bo) (ot := ot) (r := r) hv hw hj_x hj_m hj_a hj_b hj_bo hj_ot hj_r
  have g46 : w1 46 = w 46 := k2 46 (by decide)
  obtain ⟨w2, y2, l1, l2⟩ := m_years (e := 80) (n := n) (im := im) (w := w1) (u := (z_u u 30 0 y1)) (x := x) (m := m) (a := a) (b := b) (bo := bo) (ot := ot) (r := r) (by rw [g46]; exact hw) hj_x hj_m hj_a hj_b hj_bo hj_ot hj_r
  rw [g46] at l1
  exact ⟨_, _, w2, (z_u (z_u u 30 0 y1) 45 18 y2), k1, l1, J_q hJ k2 l2 (fun c h1 h2 => by rw [z_u_ne h2, z_u_ne h1])⟩
theorem lq_day {n : Nat} {im : Nat → Option Nat} {w u : Nat → Nat → Int} {x : Int} {t : Int} {o : Int} {k : Int} (hJ : J_a n im w u) (hj_x : jR x) (hj_t : jR t) (hj_o : jR o) (hj_k : jR k) : ∃ V d1 w2 u2, (z_F 100).1 k_LongBoats_day [.ref 0, .int (Int32.ofInt x), .int (Int32.ofInt t), .int (Int32.ofInt o), .int (Int32.ofInt k)] (n, z_q im, jM w, jL u) = some (V, d1) ∧ (z_F 100).1 k_Model_day [.ref 45, .int (Int32.ofInt x), .int (Int32.ofInt t), .int (Int32.ofInt o), .int (Int32.ofInt k)] (n, z_q im, d1) = some (V, jM w2, jL u2) ∧ J_a n im w2 u2 := by
  obtain ⟨⟨hv, hw, hp⟩, ⟨z, wd, nm, hs, hms, hws⟩, ⟨U, tp, hT, hTm, hTw⟩, hf, hi⟩ := id hJ
  obtain ⟨w1, y1, k1, k2⟩ := x_day (e := 80) (n := n) (im := im) (w := w) (u := u) (x := x) (t := t) (o := o) (k := k) hv hw hj_x hj_t hj_o hj_k
  have g46 : w1 46 = w 46 := k2 46 (by decide)
  obtain ⟨w2, y2, l1, l2⟩ := m_day (e := 80) (n := n) (im := im) (w := w1) (u := (z_u u 30 0 y1)) (x := x) (t := t) (o := o) (k := k) (by rw [g46]; exact hw) hj_x hj_t hj_o hj_k
  rw [g46] at l1
  exact ⟨_, _, w2, (z_u (z_u u 30 0 y1) 45 18 y2), k1, l1, J_q hJ k2 l2 (fun c h1 h2 => by rw [z_u_ne h2, z_u_ne h1])⟩
theorem lq_count {n : Nat} {im : Nat → Option Nat} {w u : Nat → Nat → Int} {k : Int} (hJ : J_a n im w u) (hj_k : jR k) : ∃ V d1 w2 u2, (z_F 100).1 k_LongBoats_count [.ref 0, .int (Int32.ofInt k)] (n, z_q im, jM w, jL u) = some (V, d1) ∧ (z_F 100).1 k_Model_count [.ref 45, .int (Int32.ofInt k)] (n, z_q im, d1) = some (V, jM w2, jL u2) ∧ J_a n im w2 u2 := by
  obtain ⟨⟨hv, hw, hp⟩, ⟨z, wd, nm, hs, hms, hws⟩, ⟨U, tp, hT, hTm, hTw⟩, hf, hi⟩ := id hJ
  have k1 := x_count (e := 80) (n := n) (im := im) (w := w) (u := u) (k := k) hv hs hws hT hj_k
  have g46 : w 46 = w 46 := rfl
  have hms1 := hms
  have hTm1 := hTm
  have l1 := m_count (e := 80) (n := n) (im := im) (w := w) (u := u) (k := k) hms1 hws hTm1 hj_k
  exact ⟨_, _, w, u, k1, l1, J_q hJ (c_fr_rf w) (⟨fun _ _ => rfl, fun _ _ => rfl⟩ : m_fr w w) (fun _ _ _ => rfl)⟩
theorem lq_row {n : Nat} {im : Nat → Option Nat} {w u : Nat → Nat → Int} {s : Int} {k : Int} {m : Int} (hJ : J_a n im w u) (hj_s : jR s) (hj_k : jR k) (hj_m : jR m) : ∃ V d1 w2 u2, (z_F 100).1 k_LongBoats_row [.ref 0, .int (Int32.ofInt s), .int (Int32.ofInt k), .int (Int32.ofInt m)] (n, z_q im, jM w, jL u) = some (V, d1) ∧ (z_F 100).1 k_Model_row [.ref 45, .int (Int32.ofInt s), .int (Int32.ofInt k), .int (Int32.ofInt m)] (n, z_q im, d1) = some (V, jM w2, jL u2) ∧ J_a n im w2 u2 := by
  obtain ⟨⟨hv, hw, hp⟩, ⟨z, wd, nm, hs, hms, hws⟩, ⟨U, tp, hT, hTm, hTw⟩, hf, hi⟩ := id hJ
  obtain ⟨w1, u1, k1, ks, k2, k3⟩ := x_row (e := 80) (n := n) (im := im) (w := w) (u := u) (s := s) (k := k) (m := m) hs hws hj_k hj_m hj_s
  have g46 : w1 46 = w 46 := k2 46 (by decide) (by decide)
  have hms1 : m_s w1 u1 z wd nm := m_s_f hms (k2 61 (by decide) (by decide)) (k2 62 (by decide) (by decide)) (k3 63 (by decide))
  obtain ⟨w2, u2, l1, l2, l3, l4⟩ := m_row (e := 80) (n := n) (im := im) (w := w1) (u := u1) (s := s) (k := k) (m := m) hms1 hws hj_k hj_m hj_s
  have kc : ∀ c, c ≠ 22 → c ≠ 24 → c ≠ 61 → c ≠ 62 → w2 c = w c := fun c h1 h2 h3 h4 => (l3 c h3 h4).trans (k2 c h1 h2)
  refine ⟨_, _, w2, u2, k1, l1, J_v_fr ⟨hv, hw, hp⟩ (kc 3 (by decide) (by decide) (by decide) (by decide)) (kc 5 (by decide) (by decide) (by decide) (by decide)) (kc 7 (by decide) (by decide) (by decide) (by decide)) (kc 9 (by decide) (by decide) (by decide) (by decide)) (kc 46 (by decide) (by decide) (by decide) (by decide)), ⟨_, _, _, c_s_f ks (l3 24 (by decide) (by decide)) (l3 22 (by decide) (by decide)) (l4 20 (by decide) (by decide)), l2, (w_row hws s k m)⟩, J_t_fr ⟨U, tp, hT, hTm, hTw⟩ (kc 1 (by decide) (by decide) (by decide) (by decide)) (kc 2 (by decide) (by decide) (by decide) (by decide)) (by rw [kc 45 (by decide) (by decide) (by decide) (by decide)]) (kc 49 (by decide) (by decide) (by decide) (by decide)), Jf_fr hf (kc 17 (by decide) (by decide) (by decide) (by decide)) (by rw [kc 45 (by decide) (by decide) (by decide) (by decide)]) (by rw [kc 45 (by decide) (by decide) (by decide) (by decide)]), J_i_fr hi (kc 47 (by decide) (by decide) (by decide) (by decide)) (kc 48 (by decide) (by decide) (by decide) (by decide)) (fun c hc => kc c (by omega) (by omega) (by omega) (by omega))⟩
theorem lq_write {n : Nat} {im : Nat → Option Nat} {w u : Nat → Nat → Int} {s : Int} {i : Int} {x : Int64} (hJ : J_a n im w u) (hj_s : jR s) (hj_i : jR i) : ∃ V d1 w2 u2, (z_F 100).1 k_LongBoats_write [.ref 0, .int (Int32.ofInt s), .int (Int32.ofInt i), .long x] (n, z_q im, jM w, jL u) = some (V, d1) ∧ (z_F 100).1 k_Model_write [.ref 45, .int (Int32.ofInt s), .int (Int32.ofInt i), .long x] (n, z_q im, d1) = some (V, jM w2, jL u2) ∧ J_a n im w2 u2 := by
  obtain ⟨⟨hv, hw, hp⟩, ⟨z, wd, nm, hs, hms, hws⟩, ⟨U, tp, hT, hTm, hTw⟩, hf, hi⟩ := id hJ
  obtain ⟨u1, k1, ks, k3⟩ := x_write (e := 80) (n := n) (im := im) (w := w) (u := u) (s := s) (i := i) (x := x) hs hws hj_i hj_s
  have g46 : w 46 = w 46 := rfl
  have hms1 : m_s w u1 z wd nm := m_s_f hms rfl rfl (k3 63 (by decide))
  obtain ⟨u2, l1, l2, l4⟩ := m_write (e := 80) (n := n) (im := im) (w := w) (u := u1) (s := s) (i := i) (x := x) hms1 hws hj_i hj_s
  exact ⟨_, _, w, u2, k1, l1, ⟨hv, hw, hp⟩, ⟨_, _, _, c_s_f ks rfl rfl (l4 20 (by decide) (by decide)), l2, (w_write hws s i x)⟩, ⟨U, tp, hT, hTm, hTw⟩, hf, hi⟩
theorem lq_paste {n : Nat} {im : Nat → Option Nat} {w u : Nat → Nat → Int} {s : Int} {i : Int} {t : Int} {k : Int} {m : Int} (hJ : J_a n im w u) (hj_s : jR s) (hj_i : jR i) (hj_t : jR t) (hj_k : jR k) (hj_m : jR m) : ∃ V d1 w2 u2, (z_F 100).1 k_LongBoats_paste [.ref 0, .int (Int32.ofInt s), .int (Int32.ofInt i), .int (Int32.ofInt t), .int (Int32.ofInt k), .int (Int32.ofInt m)] (n, z_q im, jM w, jL u) = some (V, d1) ∧ (z_F 100).1 k_Model_paste [.ref 45, .int (Int32.ofInt s), .int (Int32.ofInt i), .int (Int32.ofInt t), .int (Int32.ofInt k), .int (Int32.ofInt m)] (n, z_q im, d1) = some (V, jM w2, jL u2) ∧ J_a n im w2 u2 := by
  obtain ⟨⟨hv, hw, hp⟩, ⟨z, wd, nm, hs, hms, hws⟩, ⟨U, tp, hT, hTm, hTw⟩, hf, hi⟩ := id hJ
  obtain ⟨u1, k1, ks, k3⟩ := x_paste (e := 80) (n := n) (im := im) (w := w) (u := u) (s := s) (i := i) (t := t) (k := k) (m := m) hs hws hj_i hj_t hj_k hj_m hj_s
  have g46 : w 46 = w 46 := rfl
  have hms1 : m_s w u1 z wd nm := m_s_f hms rfl rfl (k3 63 (by decide))
  obtain ⟨u2, l1, l2, l4⟩ := m_paste (e := 80) (n := n) (im := im) (w := w) (u := u1) (s := s) (i := i) (t := t) (k := k) (m := m) hms1 hws hj_i hj_t hj_k hj_m hj_s
  exact ⟨_, _, w, u2, k1, l1, ⟨hv, hw, hp⟩, ⟨_, _, _, c_s_f ks rfl rfl (l4 20 (by decide) (by decide)), l2, (w_paste hws s i t k m)⟩, ⟨U, tp, hT, hTm, hTw⟩, hf, hi⟩
theorem lq_fault {n : Nat} {im : Nat → Option Nat} {w u : Nat → Nat → Int} {q : Int} (hJ : J_a n im w u) (hj_q : jR q) : ∃ V d1 w2 u2, (z_F 100).1 k_LongBoats_fault [.ref 0, .int (Int32.ofInt q)] (n, z_q im, jM w, jL u) = some (V, d1) ∧ (z_F 100).1 k_Model_fault [.ref 45, .int (Int32.ofInt q)] (n, z_q im, d1) = some (V, jM w2, jL u2) ∧ J_a n im w2 u2 := by
  obtain ⟨⟨hv, hw, hp⟩, ⟨z, wd, nm, hs, hms, hws⟩, ⟨U, tp, hT, hTm, hTw⟩, hf, hi⟩ := id hJ
  have k1 := x_fault (e := 80) (n := n) (im := im) (w := w) (u := u) (k := w 17 6) (p := w 17 7) (q := q) rfl rfl hj_q
  have g46 : w 46 = w 46 := rfl
  have l1 := m_fault (e := 80) (n := n) (im := im) (w := w) (u := u) (k := w 17 6) (p := w 17 7) (q := q) hf.1.symm hf.2.symm hj_q
  exact ⟨_, _, w, u, k1, l1, J_q hJ (c_fr_rf w) (⟨fun _ _ => rfl, fun _ _ => rfl⟩ : m_fr w w) (fun _ _ _ => rfl)⟩
