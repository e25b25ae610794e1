/-! the text read: the reference's further lines -/
theorem m_tn {e n : Nat} {im : Nat → Option Nat} {w u : Nat → Nat → Int} {U : Nat} {tp : Nat → Int} {r : zR} {v : Nat → Int} (s : Nat) (hs : 1 ≤ s) (hl : (z_tx s).length ≤ 100) (hw : T_w U tp) (hQ : Q_m w U tp (r, v)) (h : ¬ (r.1 = 0 ∧ t_is tp (z_tx s) r.2.2 = true)) : (z_F (e + 3)).1 k_Model_takes [.ref 45, .ref (z_sb + s)] (n, z_q im, jM w, jL u) = some (0, jM w, jL u) := by
  refine q_Model_takes ?_
  rw [m_is s hs hl hw hQ, z_oI_s, if_pos (ji_b_p h), if_neg h]
  rfl
theorem m_ty {e n : Nat} {im : Nat → Option Nat} {w u : Nat → Nat → Int} {U : Nat} {tp : Nat → Int} {r : zR} {v : Nat → Int} (s : Nat) (hs : 1 ≤ s) (hl : (z_tx s).length ≤ 100) (hw : T_w U tp) (hQ : Q_m w U tp (r, v)) (h : r.1 = 0 ∧ t_is tp (z_tx s) r.2.2 = true) : ∃ w', (z_F (e + 3)).1 k_Model_takes [.ref 45, .ref (z_sb + s)] (n, z_q im, jM w, jL u) = some (Int32.ofInt 1, jM w', jL u) ∧ Q_m w' U tp (A_nx U tp r, v) ∧ fN w w' := by
  obtain ⟨w1, k1, k2, k3⟩ := m_takes (e := e) (n := n) (im := im) (u := u) s hs hl hw hQ
  rw [if_pos h] at k1 k2
  exact ⟨w1, k1, k2, k3⟩
theorem m_next {e n : Nat} {im : Nat → Option Nat} {w u : Nat → Nat → Int} {U : Nat} {tp : Nat → Int} {r : zR} {v : Nat → Int} (hw : T_w U tp) (hQ : Q_m w U tp (r, v)) (hr : r.1 = 0) (hB : Bv_ v) (h9 : ¬ v 9 = 0) : ∃ w', (z_F (e + 7)).2.2.1 k_Model_readNext [.ref 45] (n, z_q im, jM w, jL u) = some (jM w', jL u) ∧ Q_m w' U tp (A_l1 U tp (r, v)) ∧ fM w w' := by
  obtain ⟨b6, b7, b8, b9, bz⟩ := hB
  have g51 := (hQ.2.2.2.2 hr).2
  have m6 : w 51 6 = v 6 := g51 6 (by decide)
  have m7 : w 51 7 = v 7 := g51 7 (by decide)
  have m8 : w 51 8 = v 8 := g51 8 (by decide)
  have e6 : ((jM w, jL u) : zD).1 51 6 = Int32.ofInt (v 6) := by rw [← m6]; rfl
  have e7 : ((jM w, jL u) : zD).1 51 7 = Int32.ofInt (v 7) := by rw [← m7]; rfl
  have e8 : ((jM w, jL u) : zD).1 51 8 = Int32.ofInt (v 8) := by rw [← m8]; rfl
  have hnr : (A_nx U tp r).1 = 0 := (A_nx_1 U tp r).trans hr
  have bad : ∀ wx x, z_To (z_F (e + 6)) cd_Model_readNext (0, [some (.ref 45), none, none], (n, z_q im, jM w, jL u)) (65, [some (.ref 45), some (.int x), none], (n, z_q im, jM wx, jL u)) → ∀ k : Int, (1 ≤ k ∧ k ≤ 3) → Q_m wx U tp (A_fl k r, v) → fN w wx → ∃ w', (z_F (e + 7)).2.2.1 k_Model_readNext [.ref 45] (n, z_q im, jM w, jL u) = some (jM w', jL u) ∧ Q_m w' U tp (A_fl k r, v) ∧ fM w w' := fun wx x st k hk hq hf => by
    refine ⟨wx, n_Model_readNext (st _ (z_ret ((e_Model_readNext_65 ..).trans ?_))), hq, fN_M hf⟩
    rw [m_good hq, z_oI_s, if_pos (ji_b_p (A_fl_n0 (by omega)))]
  by_cases h11 : t_is tp (z_tx 11) r.2.2 = true
  · have n12 : ¬ (r.1 = 0 ∧ t_is tp (z_tx 12) r.2.2 = true) := fun q => t_is_x h11 (by decide) q.2
    have n13 : ¬ (r.1 = 0 ∧ t_is tp (z_tx 13) r.2.2 = true) := fun q => t_is_x h11 (by decide) q.2
    have n14 : ¬ (r.1 = 0 ∧ t_is tp (z_tx 14) r.2.2 = true) := fun q => t_is_x h11 (by decide) q.2
    have n15 : ¬ (r.1 = 0 ∧ t_is tp (z_tx 15) r.2.2 = true) := fun q => t_is_x h11 (by decide) q.2
    have p11 : r.1 = 0 ∧ t_is tp (z_tx 11) r.2.2 = true := ⟨hr, h11⟩
    have s0 : z_To (z_F (e + 6)) cd_Model_readNext (0, [some (.ref 45), none, none], (n, z_q im, jM w, jL u)) (31, [some (.ref 45), some (.int (Int32.ofInt 1)), none], (n, z_q im, jM w, jL u)) := by
      refine z_To_tr (t := (25, [some (.ref 45), some (.int (Int32.ofInt 1)), none], (n, z_q im, jM w, jL u))) (z_To_1 ((e_Model_readNext_0 ..).trans ?_)) (z_To_1 ((e_Model_readNext_25 ..).trans ?_))
      · rw [m_is 11 (by decide) (by decide) hw hQ, z_oI_s, if_neg (ji_b_n p11)]
      · rw [if_neg (by decide)]
    have s1 : z_To (z_F (e + 6)) cd_Model_readNext (31, [some (.ref 45), some (.int (Int32.ofInt 1)), none], (n, z_q im, jM w, jL u)) (65, [some (.ref 45), some (.int (Int32.ofInt 1)), none], (n, z_q im, jM w, jL u)) := by
      refine z_To_1 ((e_Model_readNext_31 ..).trans ?_)
      rw [m_is 12 (by decide) (by decide) hw hQ, z_oI_s, if_pos (ji_b_p n12), m_is 13 (by decide) (by decide) hw hQ, z_oI_s, if_pos (ji_b_p n13), m_is 14 (by decide) (by decide) hw hQ, z_oI_s, if_pos (ji_b_p n14)]
    have s2 : z_To (z_F (e + 6)) cd_Model_readNext (65, [some (.ref 45), some (.int (Int32.ofInt 1)), none], (n, z_q im, jM w, jL u)) (70, [some (.ref 45), some (.int (Int32.ofInt 1)), none], (n, z_q im, jM w, jL u)) := by
      refine z_To_1 ((e_Model_readNext_65 ..).trans ?_)
      rw [m_good hQ, z_oI_s, if_neg (ji_b_n hr)]
    obtain ⟨w1, a1, a2, a3⟩ := m_ty (e := e + 3) (n := n) (im := im) (u := u) 11 (by decide) (by decide) hw hQ p11
    obtain ⟨w2, c1, c2, c3⟩ := m_rreach (e := e) (n := n) (im := im) (u := u) (r := r) hw a2
    have E : A_l1 U tp (r, v) = A_re U tp (r, v) := by unfold A_l1; rw [if_neg (show ¬ ((r, v) : zS).2 9 = 0 from h9), if_pos (show t_is tp (z_tx 22) ((r, v) : zS).1.2.2 = true from h11)]
    rw [E]
    refine ⟨w2, n_Model_readNext (s0 _ (s1 _ (s2 _ (z_ret ((e_Model_readNext_70 ..).trans ?_))))), c2, fM_tr (fN_M a3) c3⟩
    rw [a1, z_oI_s, if_neg (by decide), c1, z_oV_s]
  by_cases h12 : t_is tp (z_tx 12) r.2.2 = true
  · have n11 : ¬ (r.1 = 0 ∧ t_is tp (z_tx 11) r.2.2 = true) := fun q => t_is_x h12 (by decide) q.2
    have n13 : ¬ (r.1 = 0 ∧ t_is tp (z_tx 13) r.2.2 = true) := fun q => t_is_x h12 (by decide) q.2
    have n14 : ¬ (r.1 = 0 ∧ t_is tp (z_tx 14) r.2.2 = true) := fun q => t_is_x h12 (by decide) q.2
    have n15 : ¬ (r.1 = 0 ∧ t_is tp (z_tx 15) r.2.2 = true) := fun q => t_is_x h12 (by decide) q.2
    have p12 : r.1 = 0 ∧ t_is tp (z_tx 12) r.2.2 = true := ⟨hr, h12⟩
    have s0 : z_To (z_F (e + 6)) cd_Model_readNext (0, [some (.ref 45), none, none], (n, z_q im, jM w, jL u)) (31, [some (.ref 45), some (.int (Int32.ofInt 1)), none], (n, z_q im, jM w, jL u)) := by
      refine z_To_tr (t := (25, [some (.ref 45), some (.int (Int32.ofInt 1)), none], (n, z_q im, jM w, jL u))) (z_To_1 ((e_Model_readNext_0 ..).trans ?_)) (z_To_1 ((e_Model_readNext_25 ..).trans ?_))
      · rw [m_is 11 (by decide) (by decide) hw hQ, z_oI_s, if_pos (ji_b_p n11), m_is 12 (by decide) (by decide) hw hQ, z_oI_s, if_neg (ji_b_n p12)]
      · rw [if_neg (by decide)]
    have E : A_l1 U tp (r, v) = A_bo U tp (r, v) := by unfold A_l1; rw [if_neg (show ¬ ((r, v) : zS).2 9 = 0 from h9), if_neg (show ¬ t_is tp (z_tx 22) ((r, v) : zS).1.2.2 = true from fun q => n11 ⟨hr, q⟩), if_pos (show t_is tp (z_tx 23) ((r, v) : zS).1.2.2 = true from h12)]
    rw [E]
    by_cases q6 : v 6 = 4
    · have E2 : A_bo U tp (r, v) = (A_fl 3 r, v) := if_pos q6
      rw [E2]
      obtain ⟨wx, k1, k2, k3⟩ := m_errs (e := e + 4) (n := n) (im := im) (u := u) (k := 3) (by decide) hQ
      refine bad wx (Int32.ofInt 1) (z_To_tr s0 (z_To_1 ((e_Model_readNext_31 ..).trans ?_))) 3 (by decide) k2 k3
      rw [m_is 12 (by decide) (by decide) hw hQ, z_oI_s, if_neg (ji_b_n p12), e6, if_pos (ji_eq_p (by omega) (by decide) q6), k1, z_oV_s]
    · have E2 : A_bo U tp (r, v) = (A_nu U tp 0 4 (A_wo U tp (z_tx 17) (A_nu U tp 2 12 (A_wo U tp (z_tx 16) (A_nx U tp r)))), a_up (a_up (a_up v (10 + 2 * (v 6).toNat) (A_vl 2 12 (A_wo U tp (z_tx 16) (A_nx U tp r)))) (10 + 2 * (v 6).toNat + 1) (A_vl 0 4 (A_wo U tp (z_tx 17) (A_nu U tp 2 12 (A_wo U tp (z_tx 16) (A_nx U tp r)))))) 6 (v 6 + 1)) := if_neg q6
      rw [E2]
      have s1 : z_To (z_F (e + 6)) cd_Model_readNext (31, [some (.ref 45), some (.int (Int32.ofInt 1)), none], (n, z_q im, jM w, jL u)) (65, [some (.ref 45), some (.int (Int32.ofInt 1)), none], (n, z_q im, jM w, jL u)) := by
        refine z_To_1 ((e_Model_readNext_31 ..).trans ?_)
        rw [m_is 12 (by decide) (by decide) hw hQ, z_oI_s, if_neg (ji_b_n p12), e6, if_neg (ji_eq_n (by omega) (by decide) q6), m_is 13 (by decide) (by decide) hw hQ, z_oI_s, if_pos (ji_b_p n13), m_is 14 (by decide) (by decide) hw hQ, z_oI_s, if_pos (ji_b_p n14)]
      have s2 : z_To (z_F (e + 6)) cd_Model_readNext (65, [some (.ref 45), some (.int (Int32.ofInt 1)), none], (n, z_q im, jM w, jL u)) (70, [some (.ref 45), some (.int (Int32.ofInt 1)), none], (n, z_q im, jM w, jL u)) := by
        refine z_To_1 ((e_Model_readNext_65 ..).trans ?_)
        rw [m_good hQ, z_oI_s, if_neg (ji_b_n hr)]
      obtain ⟨w1, a1, a2, a3⟩ := m_ty (e := e + 3) (n := n) (im := im) (u := u) 12 (by decide) (by decide) hw hQ p12
      have f6 : w1 51 6 = v 6 := (a2.2.2.2.2 hnr).2 6 (by decide)
      have i6 : ((jM w1, jL u) : zD).1 51 6 = Int32.ofInt (v 6) := by rw [← f6]; rfl
      obtain ⟨w2, c1, c2, c3⟩ := m_told (e := e + 1) (n := n) (im := im) (u := u) 16 (by decide) (by decide) 2 12 (by decide) (by decide) hw a2
      have c4 := Q_m_u (k := 10 + 2 * (v 6).toNat) (x := A_vl 2 12 (A_wo U tp (z_tx 16) (A_nx U tp r))) c2
      obtain ⟨w3, d1, d2, d3⟩ := m_told (e := e + 1) (n := n) (im := im) (u := u) 17 (by decide) (by decide) 0 4 (by decide) (by decide) hw c4
      have d4 := Q_m_u (k := 10 + 2 * (v 6).toNat + 1) (x := A_vl 0 4 (A_wo U tp (z_tx 17) (A_nu U tp 2 12 (A_wo U tp (z_tx 16) (A_nx U tp r))))) d2
      have d5 := Q_m_u (k := 6) (x := z_u w3 51 (10 + 2 * (v 6).toNat + 1) (A_vl 0 4 (A_wo U tp (z_tx 17) (A_nu U tp 2 12 (A_wo U tp (z_tx 16) (A_nx U tp r))))) 51 6 + 1) d4
      have ix0 : (Int32.ofInt (10 + 2 * v 6)).toNatClampNeg = 10 + 2 * (v 6).toNat := by rw [ji_nat (by omega)]; omega
      have ix1 : (Int32.ofInt (10 + 2 * v 6 + 1)).toNatClampNeg = 10 + 2 * (v 6).toNat + 1 := by rw [ji_nat (by omega)]; omega
      have rd : (jM (z_u w3 51 (10 + 2 * (v 6).toNat + 1) (A_vl 0 4 (A_wo U tp (z_tx 17) (A_nu U tp 2 12 (A_wo U tp (z_tx 16) (A_nx U tp r))))))) 51 6 = Int32.ofInt (z_u w3 51 (10 + 2 * (v 6).toNat + 1) (A_vl 0 4 (A_wo U tp (z_tx 17) (A_nu U tp 2 12 (A_wo U tp (z_tx 16) (A_nx U tp r))))) 51 6) := rfl
      refine ⟨_, n_Model_readNext (s0 _ (s1 _ (s2 _ (z_ret ((e_Model_readNext_70 ..).trans ?_))))), Q_m_v d5 (fun q j hj => ?_), fM_tr (fN_M a3) (fM_tr (fN_M c3) (fM_tr fM_51 (fM_tr (fN_M d3) (fM_tr fM_51 fM_51))))⟩
      · rw [m_tn 11 (by decide) (by decide) hw hQ n11, z_oI_s, if_pos rfl, a1, z_oI_s, if_neg (by decide), c1, z_oI_s, i6, ji_mul, ji_add, if_neg (j_ix (by omega)), ix0, jM_u, d1, z_oI_s, ji_add, if_neg (j_ix (by omega)), ix1, jM_u, rd, ji_add, jM_u]
      · have z6 : z_u w3 51 (10 + 2 * (v 6).toNat + 1) (A_vl 0 4 (A_wo U tp (z_tx 17) (A_nu U tp 2 12 (A_wo U tp (z_tx 16) (A_nx U tp r))))) 51 6 = v 6 := by
          rw [(d4.2.2.2.2 q).2 6 (by decide)]
          show a_up (a_up v (10 + 2 * (v 6).toNat) (A_vl 2 12 (A_wo U tp (z_tx 16) (A_nx U tp r)))) (10 + 2 * (v 6).toNat + 1) (A_vl 0 4 (A_wo U tp (z_tx 17) (A_nu U tp 2 12 (A_wo U tp (z_tx 16) (A_nx U tp r))))) 6 = v 6
          rw [a_up_ne (by omega), a_up_ne (by omega)]
        rw [z6]
  by_cases h13 : t_is tp (z_tx 13) r.2.2 = true
  · have n11 : ¬ (r.1 = 0 ∧ t_is tp (z_tx 11) r.2.2 = true) := fun q => t_is_x h13 (by decide) q.2
    have n12 : ¬ (r.1 = 0 ∧ t_is tp (z_tx 12) r.2.2 = true) := fun q => t_is_x h13 (by decide) q.2
    have n14 : ¬ (r.1 = 0 ∧ t_is tp (z_tx 14) r.2.2 = true) := fun q => t_is_x h13 (by decide) q.2
    have n15 : ¬ (r.1 = 0 ∧ t_is tp (z_tx 15) r.2.2 = true) := fun q => t_is_x h13 (by decide) q.2
    have p13 : r.1 = 0 ∧ t_is tp (z_tx 13) r.2.2 = true := ⟨hr, h13⟩
    have s0 : z_To (z_F (e + 6)) cd_Model_readNext (0, [some (.ref 45), none, none], (n, z_q im, jM w, jL u)) (31, [some (.ref 45), some (.int (Int32.ofInt 1)), none], (n, z_q im, jM w, jL u)) := by
      refine z_To_tr (t := (25, [some (.ref 45), some (.int (Int32.ofInt 1)), none], (n, z_q im, jM w, jL u))) (z_To_1 ((e_Model_readNext_0 ..).trans ?_)) (z_To_1 ((e_Model_readNext_25 ..).trans ?_))
      · rw [m_is 11 (by decide) (by decide) hw hQ, z_oI_s, if_pos (ji_b_p n11), m_is 12 (by decide) (by decide) hw hQ, z_oI_s, if_pos (ji_b_p n12), m_is 13 (by decide) (by decide) hw hQ, z_oI_s, if_neg (ji_b_n p13)]
      · rw [if_neg (by decide)]
    have E : A_l1 U tp (r, v) = A_mn U tp (r, v) := by unfold A_l1; rw [if_neg (show ¬ ((r, v) : zS).2 9 = 0 from h9), if_neg (show ¬ t_is tp (z_tx 22) ((r, v) : zS).1.2.2 = true from fun q => n11 ⟨hr, q⟩), if_neg (show ¬ t_is tp (z_tx 23) ((r, v) : zS).1.2.2 = true from fun q => n12 ⟨hr, q⟩), if_pos (show t_is tp (z_tx 24) ((r, v) : zS).1.2.2 = true from h13)]
    rw [E]
    by_cases q7 : v 7 = 10
    · have E2 : A_mn U tp (r, v) = (A_fl 3 r, v) := if_pos q7
      rw [E2]
      obtain ⟨wx, k1, k2, k3⟩ := m_errs (e := e + 4) (n := n) (im := im) (u := u) (k := 3) (by decide) hQ
      refine bad wx (Int32.ofInt 1) (z_To_tr s0 (z_To_1 ((e_Model_readNext_31 ..).trans ?_))) 3 (by decide) k2 k3
      rw [m_is 12 (by decide) (by decide) hw hQ, z_oI_s, if_pos (ji_b_p n12), m_is 13 (by decide) (by decide) hw hQ, z_oI_s, if_neg (ji_b_n p13), e7, if_pos (ji_eq_p (by omega) (by decide) q7), k1, z_oV_s]
    · have E2 : A_mn U tp (r, v) = (A_ai U tp (A_wo U tp (z_tx 39) (A_m5 U tp (v 7).toNat (A_nx U tp r, v)).1), a_up (a_up (A_m5 U tp (v 7).toNat (A_nx U tp r, v)).2 (18 + 6 * (v 7).toNat + 5) (A_av tp (A_wo U tp (z_tx 39) (A_m5 U tp (v 7).toNat (A_nx U tp r, v)).1))) 7 (v 7 + 1)) := if_neg q7
      rw [E2]
      have s1 : z_To (z_F (e + 6)) cd_Model_readNext (31, [some (.ref 45), some (.int (Int32.ofInt 1)), none], (n, z_q im, jM w, jL u)) (65, [some (.ref 45), some (.int (Int32.ofInt 1)), none], (n, z_q im, jM w, jL u)) := by
        refine z_To_1 ((e_Model_readNext_31 ..).trans ?_)
        rw [m_is 12 (by decide) (by decide) hw hQ, z_oI_s, if_pos (ji_b_p n12), m_is 13 (by decide) (by decide) hw hQ, z_oI_s, if_neg (ji_b_n p13), e7, if_neg (ji_eq_n (by omega) (by decide) q7), m_is 14 (by decide) (by decide) hw hQ, z_oI_s, if_pos (ji_b_p n14)]
      have s2 : z_To (z_F (e + 6)) cd_Model_readNext (65, [some (.ref 45), some (.int (Int32.ofInt 1)), none], (n, z_q im, jM w, jL u)) (70, [some (.ref 45), some (.int (Int32.ofInt 1)), none], (n, z_q im, jM w, jL u)) := by
        refine z_To_1 ((e_Model_readNext_65 ..).trans ?_)
        rw [m_good hQ, z_oI_s, if_neg (ji_b_n hr)]
      obtain ⟨w1, a1, a2, a3⟩ := m_ty (e := e + 3) (n := n) (im := im) (u := u) 13 (by decide) (by decide) hw hQ p13
      obtain ⟨w2, c1, c2, c3⟩ := m_rman (e := e) (n := n) (im := im) (u := u) (m := (v 7).toNat) hw a2 hnr (by omega) (by omega)
      refine ⟨w2, n_Model_readNext (s0 _ (s1 _ (s2 _ (z_ret ((e_Model_readNext_70 ..).trans ?_))))), c2, fM_tr (fN_M a3) c3⟩
      rw [m_tn 11 (by decide) (by decide) hw hQ n11, z_oI_s, if_pos rfl, m_tn 12 (by decide) (by decide) hw hQ n12, z_oI_s, if_pos rfl, a1, z_oI_s, if_neg (by decide), c1, z_oV_s]
  by_cases h14 : t_is tp (z_tx 14) r.2.2 = true
  · have n11 : ¬ (r.1 = 0 ∧ t_is tp (z_tx 11) r.2.2 = true) := fun q => t_is_x h14 (by decide) q.2
    have n12 : ¬ (r.1 = 0 ∧ t_is tp (z_tx 12) r.2.2 = true) := fun q => t_is_x h14 (by decide) q.2
    have n13 : ¬ (r.1 = 0 ∧ t_is tp (z_tx 13) r.2.2 = true) := fun q => t_is_x h14 (by decide) q.2
    have n15 : ¬ (r.1 = 0 ∧ t_is tp (z_tx 15) r.2.2 = true) := fun q => t_is_x h14 (by decide) q.2
    have p14 : r.1 = 0 ∧ t_is tp (z_tx 14) r.2.2 = true := ⟨hr, h14⟩
    have s0 : z_To (z_F (e + 6)) cd_Model_readNext (0, [some (.ref 45), none, none], (n, z_q im, jM w, jL u)) (31, [some (.ref 45), some (.int (Int32.ofInt 1)), none], (n, z_q im, jM w, jL u)) := by
      refine z_To_tr (t := (25, [some (.ref 45), some (.int (Int32.ofInt 1)), none], (n, z_q im, jM w, jL u))) (z_To_1 ((e_Model_readNext_0 ..).trans ?_)) (z_To_1 ((e_Model_readNext_25 ..).trans ?_))
      · rw [m_is 11 (by decide) (by decide) hw hQ, z_oI_s, if_pos (ji_b_p n11), m_is 12 (by decide) (by decide) hw hQ, z_oI_s, if_pos (ji_b_p n12), m_is 13 (by decide) (by decide) hw hQ, z_oI_s, if_pos (ji_b_p n13), m_is 14 (by decide) (by decide) hw hQ, z_oI_s, if_neg (ji_b_n p14)]
      · rw [if_neg (by decide)]
    have E : A_l1 U tp (r, v) = A_te U tp (r, v) := by unfold A_l1; rw [if_neg (show ¬ ((r, v) : zS).2 9 = 0 from h9), if_neg (show ¬ t_is tp (z_tx 22) ((r, v) : zS).1.2.2 = true from fun q => n11 ⟨hr, q⟩), if_neg (show ¬ t_is tp (z_tx 23) ((r, v) : zS).1.2.2 = true from fun q => n12 ⟨hr, q⟩), if_neg (show ¬ t_is tp (z_tx 24) ((r, v) : zS).1.2.2 = true from fun q => n13 ⟨hr, q⟩), if_pos (show t_is tp (z_tx 25) ((r, v) : zS).1.2.2 = true from h14)]
    rw [E]
    by_cases q8 : v 8 = 4
    · have E2 : A_te U tp (r, v) = (A_fl 3 r, v) := if_pos q8
      rw [E2]
      obtain ⟨wx, k1, k2, k3⟩ := m_errs (e := e + 4) (n := n) (im := im) (u := u) (k := 3) (by decide) hQ
      refine bad wx (Int32.ofInt 1) (z_To_tr s0 (z_To_1 ((e_Model_readNext_31 ..).trans ?_))) 3 (by decide) k2 k3
      rw [m_is 12 (by decide) (by decide) hw hQ, z_oI_s, if_pos (ji_b_p n12), m_is 13 (by decide) (by decide) hw hQ, z_oI_s, if_pos (ji_b_p n13), m_is 14 (by decide) (by decide) hw hQ, z_oI_s, if_neg (ji_b_n p14), e8, if_pos (ji_eq_p (by omega) (by decide) q8), k1, z_oV_s]
    · have E2 : A_te U tp (r, v) = ((A_t2 U tp (r, v)).1, a_up (A_t2 U tp (r, v)).2 8 ((A_t2 U tp (r, v)).2 8 + 1)) := if_neg q8
      rw [E2]
      have s1 : z_To (z_F (e + 6)) cd_Model_readNext (31, [some (.ref 45), some (.int (Int32.ofInt 1)), none], (n, z_q im, jM w, jL u)) (65, [some (.ref 45), some (.int (Int32.ofInt 1)), none], (n, z_q im, jM w, jL u)) := by
        refine z_To_1 ((e_Model_readNext_31 ..).trans ?_)
        rw [m_is 12 (by decide) (by decide) hw hQ, z_oI_s, if_pos (ji_b_p n12), m_is 13 (by decide) (by decide) hw hQ, z_oI_s, if_pos (ji_b_p n13), m_is 14 (by decide) (by decide) hw hQ, z_oI_s, if_neg (ji_b_n p14), e8, if_neg (ji_eq_n (by omega) (by decide) q8)]
      have s2 : z_To (z_F (e + 6)) cd_Model_readNext (65, [some (.ref 45), some (.int (Int32.ofInt 1)), none], (n, z_q im, jM w, jL u)) (70, [some (.ref 45), some (.int (Int32.ofInt 1)), none], (n, z_q im, jM w, jL u)) := by
        refine z_To_1 ((e_Model_readNext_65 ..).trans ?_)
        rw [m_good hQ, z_oI_s, if_neg (ji_b_n hr)]
      obtain ⟨w1, a1, a2, a3⟩ := m_ty (e := e + 3) (n := n) (im := im) (u := u) 14 (by decide) (by decide) hw hQ p14
      obtain ⟨w2, c1, c2, c3⟩ := m_rteam (e := e + 2) (n := n) (im := im) (u := u) (r := r) hw a2 hnr b6 b7 (by omega) (bz (by omega))
      refine ⟨w2, n_Model_readNext (s0 _ (s1 _ (s2 _ (z_ret ((e_Model_readNext_70 ..).trans ?_))))), c2, fM_tr (fN_M a3) c3⟩
      rw [m_tn 11 (by decide) (by decide) hw hQ n11, z_oI_s, if_pos rfl, m_tn 12 (by decide) (by decide) hw hQ n12, z_oI_s, if_pos rfl, m_tn 13 (by decide) (by decide) hw hQ n13, z_oI_s, if_pos rfl, a1, z_oI_s, if_neg (by decide), c1, z_oV_s]
  by_cases h15 : t_is tp (z_tx 15) r.2.2 = true
  · have n11 : ¬ (r.1 = 0 ∧ t_is tp (z_tx 11) r.2.2 = true) := fun q => t_is_x h15 (by decide) q.2
    have n12 : ¬ (r.1 = 0 ∧ t_is tp (z_tx 12) r.2.2 = true) := fun q => t_is_x h15 (by decide) q.2
    have n13 : ¬ (r.1 = 0 ∧ t_is tp (z_tx 13) r.2.2 = true) := fun q => t_is_x h15 (by decide) q.2
    have n14 : ¬ (r.1 = 0 ∧ t_is tp (z_tx 14) r.2.2 = true) := fun q => t_is_x h15 (by decide) q.2
    have p15 : r.1 = 0 ∧ t_is tp (z_tx 15) r.2.2 = true := ⟨hr, h15⟩
    have s0 : z_To (z_F (e + 6)) cd_Model_readNext (0, [some (.ref 45), none, none], (n, z_q im, jM w, jL u)) (31, [some (.ref 45), some (.int (Int32.ofInt 1)), none], (n, z_q im, jM w, jL u)) := by
      refine z_To_tr (t := (25, [some (.ref 45), some (.int (Int32.ofInt 1)), none], (n, z_q im, jM w, jL u))) (z_To_1 ((e_Model_readNext_0 ..).trans ?_)) (z_To_1 ((e_Model_readNext_25 ..).trans ?_))
      · rw [m_is 11 (by decide) (by decide) hw hQ, z_oI_s, if_pos (ji_b_p n11), m_is 12 (by decide) (by decide) hw hQ, z_oI_s, if_pos (ji_b_p n12), m_is 13 (by decide) (by decide) hw hQ, z_oI_s, if_pos (ji_b_p n13), m_is 14 (by decide) (by decide) hw hQ, z_oI_s, if_pos (ji_b_p n14), m_is 15 (by decide) (by decide) hw hQ, z_oI_s, if_neg (ji_b_n p15)]
      · rw [if_neg (by decide)]
    have E : A_l1 U tp (r, v) = A_er U tp (r, v) := by unfold A_l1; rw [if_neg (show ¬ ((r, v) : zS).2 9 = 0 from h9), if_neg (show ¬ t_is tp (z_tx 22) ((r, v) : zS).1.2.2 = true from fun q => n11 ⟨hr, q⟩), if_neg (show ¬ t_is tp (z_tx 23) ((r, v) : zS).1.2.2 = true from fun q => n12 ⟨hr, q⟩), if_neg (show ¬ t_is tp (z_tx 24) ((r, v) : zS).1.2.2 = true from fun q => n13 ⟨hr, q⟩), if_neg (show ¬ t_is tp (z_tx 25) ((r, v) : zS).1.2.2 = true from fun q => n14 ⟨hr, q⟩), if_pos (show t_is tp (z_tx 26) ((r, v) : zS).1.2.2 = true from h15)]
    rw [E]
    have s1 : z_To (z_F (e + 6)) cd_Model_readNext (31, [some (.ref 45), some (.int (Int32.ofInt 1)), none], (n, z_q im, jM w, jL u)) (65, [some (.ref 45), some (.int (Int32.ofInt 1)), none], (n, z_q im, jM w, jL u)) := by
      refine z_To_1 ((e_Model_readNext_31 ..).trans ?_)
      rw [m_is 12 (by decide) (by decide) hw hQ, z_oI_s, if_pos (ji_b_p n12), m_is 13 (by decide) (by decide) hw hQ, z_oI_s, if_pos (ji_b_p n13), m_is 14 (by decide) (by decide) hw hQ, z_oI_s, if_pos (ji_b_p n14)]
    have s2 : z_To (z_F (e + 6)) cd_Model_readNext (65, [some (.ref 45), some (.int (Int32.ofInt 1)), none], (n, z_q im, jM w, jL u)) (70, [some (.ref 45), some (.int (Int32.ofInt 1)), none], (n, z_q im, jM w, jL u)) := by
      refine z_To_1 ((e_Model_readNext_65 ..).trans ?_)
      rw [m_good hQ, z_oI_s, if_neg (ji_b_n hr)]
    obtain ⟨w1, a1, a2, a3⟩ := m_nx (e := e + 4) (n := n) (im := im) (u := u) hw hQ hr
    obtain ⟨w2, c1, c2, c3⟩ := m_number (e := e + 3) (n := n) (im := im) (u := u) 0 50 (by decide) (by decide) hw a2
    refine ⟨_, n_Model_readNext (s0 _ (s1 _ (s2 _ (z_ret ((e_Model_readNext_70 ..).trans ?_))))), Q_m_u c2, fM_tr (fN_M a3) (fM_tr (fN_M c3) fM_51)⟩
    rw [m_tn 11 (by decide) (by decide) hw hQ n11, z_oI_s, if_pos rfl, m_tn 12 (by decide) (by decide) hw hQ n12, z_oI_s, if_pos rfl, m_tn 13 (by decide) (by decide) hw hQ n13, z_oI_s, if_pos rfl, m_tn 14 (by decide) (by decide) hw hQ n14, z_oI_s, if_pos rfl, a1, z_oV_s, c1, z_oI_s, jM_u]
  have n11 : ¬ (r.1 = 0 ∧ t_is tp (z_tx 11) r.2.2 = true) := fun q => h11 q.2
  have n12 : ¬ (r.1 = 0 ∧ t_is tp (z_tx 12) r.2.2 = true) := fun q => h12 q.2
  have n13 : ¬ (r.1 = 0 ∧ t_is tp (z_tx 13) r.2.2 = true) := fun q => h13 q.2
  have n14 : ¬ (r.1 = 0 ∧ t_is tp (z_tx 14) r.2.2 = true) := fun q => h14 q.2
  have n15 : ¬ (r.1 = 0 ∧ t_is tp (z_tx 15) r.2.2 = true) := fun q => h15 q.2
  obtain ⟨wx, k1, k2, k3⟩ := m_errs (e := e + 4) (n := n) (im := im) (u := u) (k := 1) (by decide) hQ
  have hb : ¬ (A_fl 1 r).1 = 0 := A_fl_n0 (by decide)
  have E : A_l1 U tp (r, v) = (A_fl 1 r, v) := by unfold A_l1; rw [if_neg (show ¬ ((r, v) : zS).2 9 = 0 from h9), if_neg (show ¬ t_is tp (z_tx 22) ((r, v) : zS).1.2.2 = true from h11), if_neg (show ¬ t_is tp (z_tx 23) ((r, v) : zS).1.2.2 = true from h12), if_neg (show ¬ t_is tp (z_tx 24) ((r, v) : zS).1.2.2 = true from h13), if_neg (show ¬ t_is tp (z_tx 25) ((r, v) : zS).1.2.2 = true from h14), if_neg (show ¬ t_is tp (z_tx 26) ((r, v) : zS).1.2.2 = true from h15)]
  rw [E]
  refine bad wx (Int32.ofInt 0) (z_To_tr (t := (25, [some (.ref 45), some (.int (Int32.ofInt 0)), none], (n, z_q im, jM w, jL u))) (z_To_1 ((e_Model_readNext_0 ..).trans ?_)) (z_To_tr (t := (31, [some (.ref 45), some (.int (Int32.ofInt 0)), none], (n, z_q im, jM wx, jL u))) (z_To_1 ((e_Model_readNext_25 ..).trans ?_)) (z_To_1 ((e_Model_readNext_31 ..).trans ?_)))) 1 (by decide) k2 k3
  · rw [m_is 11 (by decide) (by decide) hw hQ, z_oI_s, if_pos (ji_b_p n11), m_is 12 (by decide) (by decide) hw hQ, z_oI_s, if_pos (ji_b_p n12), m_is 13 (by decide) (by decide) hw hQ, z_oI_s, if_pos (ji_b_p n13), m_is 14 (by decide) (by decide) hw hQ, z_oI_s, if_pos (ji_b_p n14), m_is 15 (by decide) (by decide) hw hQ, z_oI_s, if_pos (ji_b_p n15)]
  · rw [if_pos (show Int32.ofInt 0 = 0 from rfl), k1, z_oV_s]
  · rw [m_is 12 (by decide) (by decide) hw k2, z_oI_s, if_pos (ji_b_p (fun q => hb q.1)), m_is 13 (by decide) (by decide) hw k2, z_oI_s, if_pos (ji_b_p (fun q => hb q.1)), m_is 14 (by decide) (by decide) hw k2, z_oI_s, if_pos (ji_b_p (fun q => hb q.1))]
