/-! the text read: the reference's teams, a line -/
theorem a_up_ss {v : Nat → Int} {k j : Nat} : a_up v k (v k) j = v j := by
  unfold a_up
  split
  · rename_i h; rw [h]
  · rfl
theorem up_a {v : Nat → Int} {K B j : Nat} {x y z : Int} (h : K ≠ B) : a_up (a_up (a_up v K x) B y) B z j = a_up (a_up v B z) K x j := by
  unfold a_up
  (repeat' split) <;> first | rfl | omega
theorem up_b {v : Nat → Int} {K B j : Nat} {x y z c : Int} (h : K ≠ B) : a_up (a_up (a_up v K x) B y) 8 c j = a_up (a_up (a_up (a_up v B z) K x) B y) 8 c j := by
  unfold a_up
  (repeat' split) <;> first | rfl | omega
theorem l_mte {e n : Nat} {im : Nat → Option Nat} {u : Nat → Nat → Int} {U : Nat} {tp : Nat → Int} (hw : T_w U tp) : ∀ (f : Nat) (r : zR) (v : Nat → Int) (w : Nat → Nat → Int) (z : Int) (M : Nat) (q4 q5 : Option Value), Q_m w U tp (r, a_up v (78 + 7 * (v 8).toNat + 1) z) → V_m v → t_bi v M → w 51 7 = v 7 → (r.1 = 0 → 5 ≤ (f : Int) + v (78 + 7 * (v 8).toNat + 1)) → ∃ w', z_Rn (z_F (e + 3)) cd_Model_readTeam 27 [some (.ref 45), some (.int (Int32.ofInt (78 + 7 * v 8))), some (.int (Int32.ofInt (M : Int))), some (.int (Int32.ofInt (v (78 + 7 * (v 8).toNat + 1)))), q4, q5] (n, z_q im, jM w, jL u) (none, (n, z_q im, jM w', jL u)) ∧ Q_m w' U tp ((A_ms U tp f (A_ma U tp (r, v))).1, a_up (A_ms U tp f (A_ma U tp (r, v))).2 8 ((A_ms U tp f (A_ma U tp (r, v))).2 8 + 1)) ∧ fM w w'
  | f, r, v, w, z, M, q4, q5, hQ, hV, hb, h51, hf => by
    obtain ⟨v1, v2, v3, v4⟩ := id hV
    obtain ⟨w1, x4, s1, s2, s3⟩ := l_mm (e := e) (n := n) (im := im) (u := u) (x1 := Int32.ofInt (78 + 7 * v 8)) (q4 := q4) (q5 := q5) hw hQ hV hb
    obtain ⟨w2, k1, k2, k3⟩ := m_number (e := e) (n := n) (im := im) (u := u) 0 (v 7 - 1) (by decide) (by omega) hw s2
    have m7 : w1 51 7 = v 7 := by rw [s3.1 51 (by decide)]; exact h51
    have e7 : ((jM w1, jL u) : zD).1 51 7 = Int32.ofInt (v 7) := by rw [← m7]; rfl
    have hg : (A_nu U tp 0 (v 7 - 1) (A_m3 v r)).1 = (A_nt 0 (v 7 - 1) (A_m3 v r)).1 := A_nx_1 _ _ _
    by_cases h : (A_nt 0 (v 7 - 1) (A_m3 v r)).1 = 0
    · have h' : (A_nu U tp 0 (v 7 - 1) (A_m3 v r)).1 = 0 := hg.trans h
      have E : A_ma U tp (r, v) = (A_nu U tp 0 (v 7 - 1) (A_m3 v r), a_up (a_up v (78 + 7 * (v 8).toNat + 2 + (v (78 + 7 * (v 8).toNat + 1)).toNat) (A_vl 0 (v 7 - 1) (A_m3 v r))) (78 + 7 * (v 8).toNat + 1) (v (78 + 7 * (v 8).toNat + 1) + 1)) := by
        unfold A_ma
        dsimp only
        rw [if_pos h]
      have g4 := (A_m3_g hV h).2.1
      obtain ⟨y1, y2, y3, y4⟩ := A_nt_g h
      rw [← y4] at y3
      have hbm := bi_ma (U := U) (tp := tp) hV hb h
      obtain ⟨V1, V2, V3, V4⟩ := V_ma (U := U) (tp := tp) (r := r) hV
      have V5 := V4 (by rw [E]; exact h')
      obtain ⟨⟨g8, g9, g10, g11⟩, g51⟩ := k2.2.2.2.2 h'
      dsimp only at g10
      have e10 : ((jM w2, jL u) : zD).1 45 10 = Int32.ofInt (A_nu U tp 0 (v 7 - 1) (A_m3 v r)).2.2.2.2.1 := by rw [← g10]; rfl
      have tk3 := k2.2.2.2.1.1.2.2.1
      dsimp only at tk3
      have ix : Int32.ofInt (78 + 7 * v 8 + 2 + v (78 + 7 * (v 8).toNat + 1)) = Int32.ofInt ((78 + 7 * (v 8).toNat + 2 + (v (78 + 7 * (v 8).toNat + 1)).toNat : Nat) : Int) := by congr 1; omega
      have ix1 : Int32.ofInt (78 + 7 * v 8 + 1) = Int32.ofInt ((78 + 7 * (v 8).toNat + 1 : Nat) : Int) := by congr 1; omega
      have tn : ∀ k : Nat, k < 106 → (Int32.ofInt (k : Int)).toNatClampNeg = k := fun k hk => by rw [ji_nat (by omega)]; omega
      by_cases hk : (A_nu U tp 0 (v 7 - 1) (A_m3 v r)).2.2.2.2.1 = 2
      · have hr0 : r.1 = 0 := A_ma_g (U := U) (tp := tp) hV (by rw [E]; exact h')
        have hf' := hf hr0
        obtain ⟨g, rfl⟩ : ∃ g, f = g + 1 := ⟨f - 1, by omega⟩
        have Em : A_ms U tp (g + 1) (A_ma U tp (r, v)) = A_ms U tp g (A_ma U tp (A_ma U tp (r, v))) := by
          simp only [A_ms]
          rw [if_pos (by rw [E]; exact ⟨hk, h'⟩)]
        rw [Em]
        have hor := b_or M hb.1 (A_vl 0 (v 7 - 1) (A_m3 v r)).toNat (by omega)
        rw [show (((A_vl 0 (v 7 - 1) (A_m3 v r)).toNat : Nat) : Int) = A_vl 0 (v 7 - 1) (A_m3 v r) by omega] at hor
        have hQ2 : Q_m (z_u w2 51 (78 + 7 * (v 8).toNat + 2 + (v (78 + 7 * (v 8).toNat + 1)).toNat) (A_vl 0 (v 7 - 1) (A_m3 v r))) U tp ((A_ma U tp (r, v)).1, a_up (A_ma U tp (r, v)).2 (78 + 7 * ((A_ma U tp (r, v)).2 8).toNat + 1) z) := by
          rw [V2, E]
          exact Q_m_v (Q_m_u k2) (fun _ j hj => up_a (by omega))
        obtain ⟨w3, i1, i2, i3⟩ := l_mte (e := e) (n := n) (im := im) (u := u) hw g (A_ma U tp (r, v)).1 (A_ma U tp (r, v)).2 _ z _ (some (.int x4)) (some (.int (Int32.ofInt (A_vl 0 (v 7 - 1) (A_m3 v r))))) hQ2 V1 hbm (by
          rw [z_u_at, if_neg (by omega), V3, k3.1 51 (by decide)]; exact m7) (fun _ => by rw [V2, V5]; omega)
        rw [V2, V5] at i1
        refine ⟨w3, s1 _ (z_go ((e_Model_readTeam_75 ..).trans ?_) i1), i2, fM_tr (fN_M s3) (fM_tr (fN_M k3) (fM_tr fM_51 i3))⟩
        rw [e7, ji_sub, k1, z_oI_s, m_good k2, z_oI_s, if_neg (ji_b_n h'), ji_add, ji_add, ix, if_neg (j_ix (by omega)), tn _ (by omega), e10, if_pos (ji_eq_p (by omega) (by decide) hk), hor, ji_add, jM_u]
      · have Em : A_ms U tp f (A_ma U tp (r, v)) = A_ma U tp (r, v) := by
          cases f with
          | zero => rfl
          | succ g => simp only [A_ms]; rw [if_neg (by rw [E]; exact fun q => hk q.1)]
        rw [Em]
        have z8 : z_u (z_u w2 51 (78 + 7 * (v 8).toNat + 2 + (v (78 + 7 * (v 8).toNat + 1)).toNat) (A_vl 0 (v 7 - 1) (A_m3 v r))) 51 (78 + 7 * (v 8).toNat + 1) (v (78 + 7 * (v 8).toNat + 1) + 1) 51 8 = v 8 := by
          rw [z_u_at, if_neg (by omega), z_u_at, if_neg (by omega), g51 8 (by decide)]
          exact a_up_ne (by omega)
        have e8 : (jM (z_u (z_u w2 51 (78 + 7 * (v 8).toNat + 2 + (v (78 + 7 * (v 8).toNat + 1)).toNat) (A_vl 0 (v 7 - 1) (A_m3 v r))) 51 (78 + 7 * (v 8).toNat + 1) (v (78 + 7 * (v 8).toNat + 1) + 1))) 51 8 = Int32.ofInt (v 8) := congrArg Int32.ofInt z8
        refine ⟨_, s1 _ (z_ret ((e_Model_readTeam_75 ..).trans ?_)), (?_ : Q_m (z_u (z_u (z_u w2 51 (78 + 7 * (v 8).toNat + 2 + (v (78 + 7 * (v 8).toNat + 1)).toNat) (A_vl 0 (v 7 - 1) (A_m3 v r))) 51 (78 + 7 * (v 8).toNat + 1) (v (78 + 7 * (v 8).toNat + 1) + 1)) 51 8 (v 8 + 1)) U tp _), fM_tr (fN_M s3) (fM_tr (fN_M k3) (fM_tr fM_51 (fM_tr fM_51 fM_51)))⟩
        · rw [e7, ji_sub, k1, z_oI_s, m_good k2, z_oI_s, if_neg (ji_b_n h'), ji_add, ji_add, ix, if_neg (j_ix (by omega)), tn _ (by omega), e10, if_neg (ji_eq_n (by omega) (by decide) hk), ji_add, ix1, if_neg (j_ix (by omega)), tn _ (by omega), ji_add, jM_u, jM_u, e8, ji_add, jM_u]
        · rw [V2, E]
          exact Q_m_v (Q_m_u (Q_m_u (Q_m_u k2))) (fun _ j hj => up_b (by omega))
    · have h' : ¬ (A_nu U tp 0 (v 7 - 1) (A_m3 v r)).1 = 0 := fun q => h (hg.symm.trans q)
      have E : A_ma U tp (r, v) = (A_nu U tp 0 (v 7 - 1) (A_m3 v r), v) := by
        unfold A_ma
        dsimp only
        rw [if_neg h]
      have Em : A_ms U tp f (A_ma U tp (r, v)) = A_ma U tp (r, v) := by
        cases f with
        | zero => rfl
        | succ g => simp only [A_ms]; rw [if_neg (by rw [E]; exact fun q => h' q.2)]
      rw [Em, E]
      refine ⟨w2, s1 _ (z_ret ((e_Model_readTeam_75 ..).trans ?_)), Q_m_f k2 h', fM_tr (fN_M s3) (fN_M k3)⟩
      rw [e7, ji_sub, k1, z_oI_s, m_good k2, z_oI_s, if_pos (ji_b_p h')]
termination_by f => f
theorem m_rteam {e n : Nat} {im : Nat → Option Nat} {w u : Nat → Nat → Int} {U : Nat} {tp : Nat → Int} {r : zR} {v : Nat → Int} (hw : T_w U tp) (hQ : Q_m w U tp (A_nx U tp r, v)) (hr : (A_nx U tp r).1 = 0) (h6 : 0 ≤ v 6 ∧ v 6 ≤ 4) (h7 : 0 ≤ v 7 ∧ v 7 ≤ 10) (h8 : 0 ≤ v 8 ∧ v 8 ≤ 3) (hz : v (78 + 7 * (v 8).toNat + 1) = 0) : ∃ w', (z_F (e + 4)).2.2.1 k_Model_readTeam [.ref 45] (n, z_q im, jM w, jL u) = some (jM w', jL u) ∧ Q_m w' U tp ((A_t2 U tp (r, v)).1, a_up (A_t2 U tp (r, v)).2 8 ((A_t2 U tp (r, v)).2 8 + 1)) ∧ fM w w' := by
  have g51 := (hQ.2.2.2.2 hr).2
  have m6 : w 51 6 = v 6 := g51 6 (by decide)
  have m7 : w 51 7 = v 7 := g51 7 (by decide)
  have m8 : w 51 8 = v 8 := g51 8 (by decide)
  have e6 : ((jM w, jL u) : zD).1 51 6 = Int32.ofInt (v 6) := by rw [← m6]; rfl
  have e8 : ((jM w, jL u) : zD).1 51 8 = Int32.ofInt (v 8) := by rw [← m8]; rfl
  obtain ⟨w1, k1, k2, k3⟩ := m_number (e := e) (n := n) (im := im) (u := u) 0 (v 6 - 1) (by decide) (by omega) hw hQ
  have k4 : Q_m (z_u w1 51 (78 + 7 * (v 8).toNat) (A_vl 0 (v 6 - 1) (A_nx U tp r))) U tp ((A_t1 U tp (r, v)).1, (A_t1 U tp (r, v)).2) := Q_m_u k2
  obtain ⟨V1, V2, V3⟩ := V_t1 (U := U) (tp := tp) (r := r) h7 h8 hz
  have hv7 : (A_t1 U tp (r, v)).2 7 = v 7 := a_up_ne (show 7 ≠ 78 + 7 * (v 8).toNat by omega)
  have tn : ∀ k : Nat, k < 106 → (Int32.ofInt (k : Int)).toNatClampNeg = k := fun k hk => by rw [ji_nat (by omega)]; omega
  have ix : (Int32.ofInt (78 + 7 * v 8)).toNatClampNeg = 78 + 7 * (v 8).toNat := by rw [ji_nat (by omega)]; omega
  have hbi : t_bi (A_t1 U tp (r, v)).2 0 := ⟨by decide, fun m hm => by
    rw [Nat.zero_testBit, im_y, V2, V3]
    exact ⟨fun q => absurd q (by decide), fun ⟨i, i1, _⟩ => absurd i1 (by omega)⟩⟩
  obtain ⟨w2, i1, i2, i3⟩ := l_mte (e := e) (n := n) (im := im) (u := u) hw 6 (A_t1 U tp (r, v)).1 (A_t1 U tp (r, v)).2 _ ((A_t1 U tp (r, v)).2 (78 + 7 * ((A_t1 U tp (r, v)).2 8).toNat + 1)) 0 none none (Q_m_v k4 (fun _ j _ => a_up_ss)) V1 hbi (by
    rw [z_u_at, if_neg (by omega), k3.1 51 (by decide), hv7]; exact m7) (fun _ => by rw [V2, V3]; decide)
  rw [V2, V3] at i1
  refine ⟨w2, n_Model_readTeam (z_go ((e_Model_readTeam_0 ..).trans ?_) i1), i2, fM_tr (fN_M k3) (fM_tr fM_51 i3)⟩
  rw [e6, ji_sub, k1, z_oI_s, e8, ji_mul, ji_add, if_neg (j_ix (by omega)), ix, jM_u]
  rfl
