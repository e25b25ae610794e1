/-! harbour -/
def H_r (U : Nat) (tp : Nat → Int) : Int := if (A_all U tp).1.1 = 0 then (A_all U tp).2 9 else -4
theorem x_harbour {e n : Nat} {im : Nat → Option Nat} {w u : Nat → Nat → Int} {U : Nat} {tp : Nat → Int} (hw : T_w U tp) (hT : T_c w U tp) : ∃ w', (z_F (e + 20)).1 k_LongBoats_harbour [.ref 0] (n, z_q im, jM w, jL u) = some (Int32.ofInt (H_r U tp), jM w', jL u) ∧ w' 1 1 = 0 ∧ (w' 17 6 = (A_all U tp).1.1 ∧ w' 17 7 = (A_all U tp).1.2.1) ∧ ((A_all U tp).1.1 = 0 → c_v w' (A_all U tp).2) ∧ (¬ (A_all U tp).1.1 = 0 → w' 3 = w 3 ∧ w' 5 = w 5 ∧ w' 7 = w 7 ∧ w' 9 = w 9) ∧ ∀ c, (c = 0 ∨ c = 2 ∨ 17 < c) → w' c = w c := by
  obtain ⟨w1, k1, k2, k3⟩ := s_reads (e := e + 12) (n := n) (im := im) (u := u) hw hT
  have hc : (z_F (e + 19)).2.2.1 k_Tape_cut [.ref 1, .int (Int32.ofInt 0)] (n, z_q im, jM w1, jL u) = some (jM (z_u w1 1 1 0), jL u) := by
    refine q_Tape_cut ?_
    rw [jM_u]
  unfold H_r
  by_cases h : (A_all U tp).1.1 = 0
  · have hh : c_h (z_u w1 1 1 0) 10 (A_all U tp).2 := c_h_cg k2.2 (z_u_ne (by decide)) (z_u_ne (by decide)) (z_u_ne (by decide)) (z_u_ne (by decide))
    obtain ⟨w2, l1, l2, l3⟩ := s_hcopy_3_10 (e := e + 16) (n := n) (im := im) (u := u) hh
    have e0 : ((jM w2, jL u) : zD).1 3 0 = Int32.ofInt ((A_all U tp).2 9) := by rw [← l2.1]; rfl
    refine ⟨w2, q_LongBoats_harbour ?_, ?_, ⟨?_, ?_⟩, fun _ => l2, fun q => absurd h q, fun c hc => ?_⟩
    · rw [k1, z_oI_s, hc, z_oV_s, if_neg (ji_b_n h), l1, z_oV_s, e0, if_pos h]
    · rw [l3 1 (by decide) (by decide) (by decide) (by decide)]; rfl
    · rw [l3 17 (by decide) (by decide) (by decide) (by decide)]; exact k2.1.2.2.1.1
    · rw [l3 17 (by decide) (by decide) (by decide) (by decide)]; exact k2.1.2.2.1.2
    · rw [l3 c (by omega) (by omega) (by omega) (by omega), z_u_ne (by omega)]; exact k3 c (by omega)
  · refine ⟨z_u w1 1 1 0, q_LongBoats_harbour ?_, rfl, ⟨k2.1.2.2.1.1, k2.1.2.2.1.2⟩, fun q => absurd q h, fun _ => ⟨?_, ?_, ?_, ?_⟩, fun c hc => ?_⟩
    · rw [k1, z_oI_s, hc, z_oV_s, if_pos (ji_b_p h), if_neg h]
    · rw [z_u_ne (by decide)]; exact k3 3 (by decide)
    · rw [z_u_ne (by decide)]; exact k3 5 (by decide)
    · rw [z_u_ne (by decide)]; exact k3 7 (by decide)
    · rw [z_u_ne (by decide)]; exact k3 9 (by decide)
    · rw [z_u_ne (by omega)]; exact k3 c (by omega)
theorem A_ln_9 {U : Nat} {tp : Nat → Int} {s : zS} (hU : U ≤ 1200) (hG : G_s U s) (h0 : s.1.1 = 0) (hk : s.1.2.2.2.2.1 ≠ 0) (q : (A_ln U tp s).1.1 = 0) : (A_ln U tp s).2 9 = s.2 9 + 1 := by
  obtain ⟨g1, g2⟩ := hG
  obtain ⟨g3, g4, g5⟩ := g2 h0
  have g6 := g5 hk
  have hat := g1.1.2.1
  obtain ⟨c1, c2, c3⟩ := A_si_g q
  have d := W_l1 (U := U) (tp := tp) (r := s.1) (v := s.2) g3 (by omega) c1
  show a_up (A_l1 U tp s).2 9 ((A_l1 U tp s).2 9 + 1) 9 = _
  rw [a_up_eq]
  have : (A_l1 U tp s).2 9 = s.2 9 := d.2
  rw [this]
theorem l_mrd {e n : Nat} {im : Nat → Option Nat} {u : Nat → Nat → Int} {U : Nat} {tp : Nat → Int} (hw : T_w U tp) {x1 : Int32} : ∀ (f : Nat) (s : zS) (w : Nat → Nat → Int), Q_m w U tp s → G_s U s → (s.1.1 = 0 → s.2 9 + (f : Int) = 1200) → ∃ w', z_To (z_F (e + 8)) cd_Model_harbour (32, [some (.ref 45), some (.int x1)], (n, z_q im, jM w, jL u)) (32, [some (.ref 45), some (.int x1)], (n, z_q im, jM w', jL u)) ∧ Q_m w' U tp (A_lp U tp f s) ∧ fM w w' ∧ ¬ ((A_lp U tp f s).1.2.2.2.2.1 ≠ 0 ∧ (A_lp U tp f s).1.1 = 0)
  | f, s, w, hQ, hG, hf => by
    by_cases hc : s.1.2.2.2.2.1 ≠ 0 ∧ s.1.1 = 0
    · obtain ⟨g3, g4, g5⟩ := hG.2 hc.2
      have g6 := g5 hc.1
      have hat := hG.1.1.2.1
      have hf' := hf hc.2
      have hU := hw.1
      obtain ⟨g, rfl⟩ : ∃ g, f = g + 1 := ⟨f - 1, by omega⟩
      have E : A_lp U tp (g + 1) s = A_lp U tp g (A_ln U tp s) := by simp only [A_lp]; rw [if_pos hc]
      rw [E]
      obtain ⟨w1, k1, k2, k3⟩ := m_line (e := e) (n := n) (im := im) (u := u) (r := s.1) (v := s.2) hw hQ hc.2 (W_B g3)
      obtain ⟨w2, l1, l2, l3, l4⟩ := l_mrd (e := e) (n := n) (im := im) (u := u) (x1 := x1) hw g (A_ln U tp s) w1 k2 (G_ln hw.1 hG hc.2 hc.1) (fun q => by rw [A_ln_9 hw.1 hG hc.2 hc.1 q]; omega)
      have g10 : w 45 10 = s.1.2.2.2.2.1 := (hQ.2.2.2.2 hc.2).1.2.2.1
      have e10 : ((jM w, jL u) : zD).1 45 10 = Int32.ofInt s.1.2.2.2.2.1 := by rw [← g10]; rfl
      have t3 := hG.1.1.2.2.1
      refine ⟨w2, z_To_tr (z_To_1 ((e_Model_harbour_32 ..).trans ?_)) l1, l2, fM_tr k3 l3, l4⟩
      rw [m_good (r := s.1) (v := s.2) hQ, z_oI_s, if_neg (ji_b_n hc.2), e10, if_neg (ji_eq0_n (by omega) hc.1), k1, z_oV_s]
    · have E : A_lp U tp f s = s := by
        cases f with
        | zero => rfl
        | succ g => simp only [A_lp]; rw [if_neg hc]
      rw [E]
      exact ⟨w, fun _ h => h, hQ, fM_rf w, hc⟩
termination_by f => f
theorem m_harbour {e n : Nat} {im : Nat → Option Nat} {w u : Nat → Nat → Int} {U : Nat} {tp : Nat → Int} (hw : T_w U tp) (hT : T_m w U tp) : ∃ w', (z_F (e + 20)).1 k_Model_harbour [.ref 45] (n, z_q im, jM w, jL u) = some (Int32.ofInt (H_r U tp), jM w', jL u) ∧ w' 45 5 = 0 ∧ (w' 45 12 = (A_all U tp).1.1 ∧ w' 45 13 = (A_all U tp).1.2.1) ∧ ((A_all U tp).1.1 = 0 → m_v w' (A_all U tp).2) ∧ (¬ (A_all U tp).1.1 = 0 → w' 46 = w 46) ∧ (∀ c, c ≠ 45 → c ≠ 46 → c ≠ 51 → w' c = w c) ∧ ∀ j, 13 < j → w' 45 j = w 45 j := by
  have hU := hw.1
  have e5 : ((jM w, jL u) : zD).1 45 5 = Int32.ofInt (U : Int) := by rw [← hT.1]; rfl
  -- the row of the new harbour is cleared
  obtain ⟨t9, ht9, wf, rfl, i1, i2⟩ := z_for (o := z_F (e + 19)) (cd := cd_Model_harbour) (P := fun i s => ∃ wi, s = (19, [some (.ref 45), some (.int (Int32.ofInt (i : Int)))], (n, z_q im, jM wi, jL u)) ∧ (∀ c, c ≠ 51 → wi c = (z_u (z_u (z_u (z_u (z_u w 45 7 (U : Int)) 45 5 0) 45 8 0) 45 12 0) 45 13 (-1)) c) ∧ ∀ j, j < i → wi 51 j = 0) 106 (s := (19, [some (.ref 45), some (.int (Int32.ofInt 0))], (n, z_q im, jM (z_u (z_u (z_u (z_u (z_u w 45 7 (U : Int)) 45 5 0) 45 8 0) 45 12 0) 45 13 (-1)), jL u))) ⟨_, rfl, fun _ _ => rfl, fun j hj => absurd hj (by omega)⟩ (fun i s hi hs => by
    obtain ⟨wi, rfl, i1, i2⟩ := hs
    refine ⟨(19, [some (.ref 45), some (.int (Int32.ofInt ((i : Int) + 1)))], (n, z_q im, jM (z_u wi 51 i 0), jL u)), z_To_1 ((e_Model_harbour_19 ..).trans ?_), _, rfl, fun c hc => by rw [z_u_ne hc]; exact i1 c hc, fun j hj => ?_⟩
    · rw [if_neg (ji_le_n (by decide) (by omega) (by omega)), if_neg (j_ix (by omega)), ji_nat (by omega), ji_add, jM_u, show ((i : Int)).toNat = i by omega]
    · rw [z_u_at]
      split
      · rfl
      · exact i2 j (by omega))
  have f7 : wf 45 7 = (U : Int) := by rw [i1 45 (by decide)]; rfl
  have f8 : wf 45 8 = ((0 : Nat) : Int) := by rw [i1 45 (by decide)]; rfl
  have f49 : ∀ j, j < U → wf 49 j = tp j := fun j hj => by rw [i1 49 (by decide)]; exact hT.2 j hj
  obtain ⟨w1, a1, a2, a3, a4, a5, a6, a7⟩ := m_adv (e := e + 17) (n := n) (im := im) (u := u) hw (Nat.zero_le U) f7 f49 f8
  have k := t_nx_ok (tp := tp) (Nat.zero_le U)
  have hQ : Q_m w1 U tp ((0, -1, t_nx U tp 0), fun _ => 0) := by
    refine ⟨(a3 7 (by decide)).trans f7, fun j hj => by rw [a2 49 (by decide)]; exact f49 j hj, ⟨(a3 12 (by decide)).trans (by rw [i1 45 (by decide)]; rfl), (a3 13 (by decide)).trans (by rw [i1 45 (by decide)]; rfl)⟩, ⟨k.1, by dsimp only; omega⟩, fun _ => ⟨⟨a4, a5, a6, a7⟩, fun j hj => by rw [a2 51 (by decide)]; exact i2 j hj⟩⟩
  obtain ⟨w2, b1, b2, b3, b4⟩ := l_mrd (e := e + 11) (n := n) (im := im) (u := u) (x1 := Int32.ofInt ((106 : Nat) : Int)) hw 1200 _ w1 hQ (G_0 U tp) (fun _ => rfl)
  have b2' : Q_m w2 U tp ((A_all U tp).1, (A_all U tp).2) := b2
  have b4' : ¬ ((A_all U tp).1.2.2.2.2.1 ≠ 0 ∧ (A_all U tp).1.1 = 0) := b4
  have hc2 : ∀ c, c ≠ 45 → c ≠ 51 → w2 c = w c := fun c h1 h2 => by
    rw [b3.1 c h1 h2, a2 c h1, i1 c h2, z_u_ne h1, z_u_ne h1, z_u_ne h1, z_u_ne h1, z_u_ne h1]
  have h45 : ∀ j, 13 < j → w2 45 j = w 45 j := fun j hj => by
    rw [b3.2 j (by omega), a3 j (by omega), i1 45 (by decide), z_u_at, if_neg (by omega), z_u_at, if_neg (by omega), z_u_at, if_neg (by omega), z_u_at, if_neg (by omega), z_u_at, if_neg (by omega)]
  have h5 : w2 45 5 = 0 := by rw [b3.2 5 (by decide), a3 5 (by decide), i1 45 (by decide)]; rfl
  have pre : ∀ r, z_Rn (z_F (e + 19)) cd_Model_harbour 32 [some (.ref 45), some (.int (Int32.ofInt ((106 : Nat) : Int)))] (n, z_q im, jM w2, jL u) r → z_Rn (z_F (e + 19)) cd_Model_harbour 0 [some (.ref 45), none] (n, z_q im, jM w, jL u) r := fun r hr => by
    refine z_go ((e_Model_harbour_0 ..).trans ?_) (ht9 _ (z_go ((e_Model_harbour_19 ..).trans ?_) (b1 _ hr)))
    · rw [e5, jM_u, jM_u, jM_u, jM_u, jM_u]
    · rw [if_pos (ji_le_p (by decide) (by decide) (by decide)), a1, z_oV_s]
  unfold H_r
  by_cases h : (A_all U tp).1.1 = 0
  · obtain ⟨⟨g8, g9, g10, g11⟩, g51⟩ := b2'.2.2.2.2 h
    dsimp only at g10 g51
    have hk : (A_all U tp).1.2.2.2.2.1 = 0 := Classical.byContradiction (fun q => b4' ⟨q, h⟩)
    have e10 : ((jM w2, jL u) : zD).1 45 10 = Int32.ofInt (A_all U tp).1.2.2.2.2.1 := by rw [← g10]; rfl
    obtain ⟨t8, ht8, w3, rfl, j1, j2⟩ := z_for (o := z_F (e + 19)) (cd := cd_Model_harbour) (P := fun i s => ∃ wi, s = (49, [some (.ref 45), some (.int (Int32.ofInt (i : Int)))], (n, z_q im, jM wi, jL u)) ∧ (∀ c, c ≠ 46 → wi c = w2 c) ∧ ∀ j, j < i → wi 46 j = (A_all U tp).2 j) 106 (s := (49, [some (.ref 45), some (.int (Int32.ofInt 0))], (n, z_q im, jM w2, jL u))) ⟨_, rfl, fun _ _ => rfl, fun j hj => absurd hj (by omega)⟩ (fun i s hi hs => by
      obtain ⟨wi, rfl, i1, i2⟩ := hs
      have hr : wi 51 i = (A_all U tp).2 i := by rw [i1 51 (by decide)]; exact g51 i hi
      have er : ((jM wi, jL u) : zD).1 51 i = Int32.ofInt ((A_all U tp).2 i) := by rw [← hr]; rfl
      refine ⟨(49, [some (.ref 45), some (.int (Int32.ofInt ((i : Int) + 1)))], (n, z_q im, jM (z_u wi 46 i ((A_all U tp).2 i)), jL u)), z_To_1 ((e_Model_harbour_49 ..).trans ?_), _, rfl, fun c hc => by rw [z_u_ne hc]; exact i1 c hc, fun j hj => ?_⟩
      · rw [if_neg (ji_le_n (by decide) (by omega) (by omega)), if_neg (j_ix (by omega)), if_neg (j_ix (by omega)), ji_nat (by omega), ji_add, show ((i : Int)).toNat = i by omega, er, jM_u]
      · rw [z_u_at]
        split
        · rename_i q; rw [q]
        · exact i2 j (by omega))
    have e9 : ((jM w3, jL u) : zD).1 46 9 = Int32.ofInt ((A_all U tp).2 9) := by rw [← j2 9 (by decide)]; rfl
    refine ⟨w3, n_Model_harbour (pre _ (z_go ((e_Model_harbour_32 ..).trans ?_) (ht8 _ (z_ret ((e_Model_harbour_49 ..).trans ?_))))), ?_, ⟨?_, ?_⟩, fun _ => j2, fun q => absurd h q, fun c h1 h2 h3 => ?_, fun j hj => ?_⟩
    · rw [m_good b2', z_oI_s, if_neg (ji_b_n h), e10, if_pos (ji_eq0_p (by omega) hk), m_good b2', z_oI_s, if_neg (ji_b_n h)]
    · rw [if_pos (ji_le_p (by decide) (by decide) (by decide)), e9, if_pos h]
    · rw [j1 45 (by decide)]; exact h5
    · rw [j1 45 (by decide)]; exact b2'.2.2.1.1
    · rw [j1 45 (by decide)]; exact b2'.2.2.1.2
    · rw [j1 c h2]; exact hc2 c h1 h3
    · rw [j1 45 (by decide)]; exact h45 j hj
  · refine ⟨w2, n_Model_harbour (pre _ (z_ret ((e_Model_harbour_32 ..).trans ?_))), h5, b2'.2.2.1, fun q => absurd q h, fun _ => hc2 46 (by decide) (by decide), fun c h1 h2 h3 => hc2 c h1 h3, h45⟩
    rw [m_good b2', z_oI_s, if_pos (ji_b_p h), m_good b2', z_oI_s, if_pos (ji_b_p h), if_neg h]
