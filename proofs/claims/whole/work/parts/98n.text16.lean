/-! the text read: the reference's teams -/
theorem b_shr : ∀ M, M < 1024 → ∀ m, m < 10 → decide ((Int32.ofInt ((M : Nat) : Int) >>> (Int32.ofInt ((m : Nat) : Int) &&& 31)) &&& Int32.ofInt 1 = Int32.ofInt 1) = M.testBit m := by decide +kernel
theorem b_or : ∀ M, M < 1024 → ∀ m, m < 10 → Int32.ofInt ((M : Nat) : Int) ||| (Int32.ofInt 1 <<< (Int32.ofInt ((m : Nat) : Int) &&& 31)) = Int32.ofInt (((M ||| (1 <<< m) : Nat)) : Int) := by decide +kernel
theorem b_tb {M m k : Nat} : (M ||| (1 <<< m)).testBit k = (M.testBit k || decide (m = k)) := by
  rw [Nat.testBit_or, Nat.one_shiftLeft, Nat.testBit_two_pow]
theorem b_lt {M m : Nat} (h : M < 1024) (hm : m < 10) : M ||| (1 <<< m) < 1024 := by
  rw [Nat.one_shiftLeft]
  exact Nat.or_lt_two_pow (n := 10) h (Nat.pow_lt_pow_right (by decide) hm)
/-- the men met, as bits -/
def t_bi (v : Nat → Int) (M : Nat) : Prop := M < 1024 ∧ ∀ m : Nat, m < 10 → (M.testBit m = true ↔ t_im v (m : Int) = true)
theorem im_y {v : Nat → Int} {x : Int} : t_im v x = true ↔ ∃ i, i < (v (78 + 7 * (v 8).toNat + 1)).toNat ∧ v (78 + 7 * (v 8).toNat + 2 + i) = x := decide_eq_true_iff
theorem bi_ma {U : Nat} {tp : Nat → Int} {r : zR} {v : Nat → Int} {M : Nat} (hV : V_m v) (hb : t_bi v M) (h : (A_nt 0 (v 7 - 1) (A_m3 v r)).1 = 0) : t_bi (A_ma U tp (r, v)).2 (M ||| (1 <<< (A_vl 0 (v 7 - 1) (A_m3 v r)).toNat)) := by
  obtain ⟨h1, h2, h3, h4⟩ := A_nt_g h
  have g := A_m3_g hV h
  obtain ⟨v1, v2, v3, v4⟩ := id hV
  have E : (A_ma U tp (r, v)).2 = a_up (a_up v (78 + 7 * (v 8).toNat + 2 + (v (78 + 7 * (v 8).toNat + 1)).toNat) (A_vl 0 (v 7 - 1) (A_m3 v r))) (78 + 7 * (v 8).toNat + 1) (v (78 + 7 * (v 8).toNat + 1) + 1) := if_pos h
  rw [← h4] at h3
  generalize A_vl 0 (v 7 - 1) (A_m3 v r) = x at E h3 ⊢
  generalize (A_ma U tp (r, v)).2 = v' at E ⊢
  have p8 : v' 8 = v 8 := by rw [E, a_up_ne (by omega), a_up_ne (by omega)]
  have p1 : v' (78 + 7 * (v 8).toNat + 1) = v (78 + 7 * (v 8).toNat + 1) + 1 := by rw [E, a_up_eq]
  have pm : ∀ i : Nat, v' (78 + 7 * (v 8).toNat + 2 + i) = if i = (v (78 + 7 * (v 8).toNat + 1)).toNat then x else v (78 + 7 * (v 8).toNat + 2 + i) := fun i => by
    rw [E, a_up_ne (by omega)]
    unfold a_up
    by_cases q : i = (v (78 + 7 * (v 8).toNat + 1)).toNat
    · rw [if_pos (by omega), if_pos q]
    · rw [if_neg (by omega), if_neg q]
  refine ⟨b_lt hb.1 (by omega), fun m hm => ?_⟩
  rw [b_tb, Bool.or_eq_true, hb.2 m hm, im_y, im_y, p8, p1]
  constructor
  · intro q
    rcases q with ⟨i, i1, i2⟩ | q
    · exact ⟨i, by omega, by rw [pm, if_neg (by omega)]; exact i2⟩
    · have q' := of_decide_eq_true q
      exact ⟨(v (78 + 7 * (v 8).toNat + 1)).toNat, by omega, by rw [pm, if_pos rfl]; omega⟩
  · rintro ⟨i, i1, i2⟩
    rw [pm] at i2
    by_cases q : i = (v (78 + 7 * (v 8).toNat + 1)).toNat
    · rw [if_pos q] at i2
      exact Or.inr (decide_eq_true (by omega))
    · rw [if_neg q] at i2
      exact Or.inl ⟨i, by omega, i2⟩
theorem k_0 : z_kl 0 = Int64.ofInt 0 := by decide
/-- one man of a team: up to the number -/
theorem l_mm {e n : Nat} {im : Nat → Option Nat} {w u : Nat → Nat → Int} {U : Nat} {tp : Nat → Int} {r : zR} {v : Nat → Int} {z : Int} {M : Nat} {x1 : Int32} {q4 q5 : Option Value} (hw : T_w U tp) (hQ : Q_m w U tp (r, a_up v (78 + 7 * (v 8).toNat + 1) z)) (hV : V_m v) (hb : t_bi v M) : ∃ w' x4, z_To (z_F (e + 3)) cd_Model_readTeam (27, [some (.ref 45), some (.int x1), some (.int (Int32.ofInt (M : Int))), some (.int (Int32.ofInt (v (78 + 7 * (v 8).toNat + 1)))), q4, q5], (n, z_q im, jM w, jL u)) (75, [some (.ref 45), some (.int x1), some (.int (Int32.ofInt (M : Int))), some (.int (Int32.ofInt (v (78 + 7 * (v 8).toNat + 1)))), some (.int x4), q5], (n, z_q im, jM w', jL u)) ∧ Q_m w' U tp (A_m3 v r, a_up v (78 + 7 * (v 8).toNat + 1) z) ∧ fN w w' := by
  obtain ⟨v1, v2, v3, v4⟩ := id hV
  have n0 : ¬ (Int32.ofInt 1 : Int32) = 0 := by decide
  have key : ∀ b : Int, (b = 0 ∨ b = 1) → z_To (z_F (e + 3)) cd_Model_readTeam (27, [some (.ref 45), some (.int x1), some (.int (Int32.ofInt (M : Int))), some (.int (Int32.ofInt (v (78 + 7 * (v 8).toNat + 1)))), q4, q5], (n, z_q im, jM w, jL u)) (52, [some (.ref 45), some (.int x1), some (.int (Int32.ofInt (M : Int))), some (.int (Int32.ofInt (v (78 + 7 * (v 8).toNat + 1)))), some (.int (Int32.ofInt b)), q5], (n, z_q im, jM w, jL u)) → (b = 0 → A_m3 v r = r) → (b = 1 → r.1 = 0 ∧ r.2.2.2.2.1 = 2 ∧ 0 ≤ r.2.2.2.2.2 ∧ r.2.2.2.2.2 < v 7) → ∃ w' x4, z_To (z_F (e + 3)) cd_Model_readTeam (27, [some (.ref 45), some (.int x1), some (.int (Int32.ofInt (M : Int))), some (.int (Int32.ofInt (v (78 + 7 * (v 8).toNat + 1)))), q4, q5], (n, z_q im, jM w, jL u)) (75, [some (.ref 45), some (.int x1), some (.int (Int32.ofInt (M : Int))), some (.int (Int32.ofInt (v (78 + 7 * (v 8).toNat + 1)))), some (.int x4), q5], (n, z_q im, jM w', jL u)) ∧ Q_m w' U tp (A_m3 v r, a_up v (78 + 7 * (v 8).toNat + 1) z) ∧ fN w w' := by
    intro b hb01 h0 hz hone
    rcases hb01 with rfl | rfl
    · refine ⟨w, Int32.ofInt 0, z_To_tr h0 (z_To_tr (z_To_1 ((e_Model_readTeam_52 ..).trans (if_pos rfl))) (z_To_1 ((e_Model_readTeam_66 ..).trans (if_pos rfl)))), ?_, fN_rf w⟩
      rw [hz rfl]; exact hQ
    · obtain ⟨c1, c2, c3, c4⟩ := hone rfl
      have q11 : w 45 11 = t_cp 99999 r.2.2.2.2.2 := (hQ.2.2.2.2 c1).1.2.2.2 c2
      have tq : t_cp 99999 r.2.2.2.2.2 = r.2.2.2.2.2 := by unfold t_cp; rw [if_pos (by omega)]
      rw [tq] at q11
      have e11 : ((jM w, jL u) : zD).1 45 11 = Int32.ofInt ((r.2.2.2.2.2.toNat : Nat) : Int) := by
        rw [show ((r.2.2.2.2.2.toNat : Nat) : Int) = r.2.2.2.2.2 by omega, ← q11]; rfl
      have hbit := b_shr M hb.1 r.2.2.2.2.2.toNat (by omega)
      have himb := hb.2 r.2.2.2.2.2.toNat (by omega)
      rw [show ((r.2.2.2.2.2.toNat : Nat) : Int) = r.2.2.2.2.2 by omega] at himb
      have st1 : ∃ w1, z_To (z_F (e + 3)) cd_Model_readTeam (52, [some (.ref 45), some (.int x1), some (.int (Int32.ofInt (M : Int))), some (.int (Int32.ofInt (v (78 + 7 * (v 8).toNat + 1)))), some (.int (Int32.ofInt 1)), q5], (n, z_q im, jM w, jL u)) (66, [some (.ref 45), some (.int x1), some (.int (Int32.ofInt (M : Int))), some (.int (Int32.ofInt (v (78 + 7 * (v 8).toNat + 1)))), some (.int (Int32.ofInt 1)), q5], (n, z_q im, jM w1, jL u)) ∧ Q_m w1 U tp (A_m1 v r, a_up v (78 + 7 * (v 8).toNat + 1) z) ∧ fN w w1 := by
        by_cases hi : t_im v r.2.2.2.2.2 = true
        · have E : A_m1 v r = A_fl 2 r := if_pos ⟨c2, hi⟩
          rw [himb.mpr hi] at hbit
          obtain ⟨w1, k1, k2, k3⟩ := m_errs (e := e + 1) (n := n) (im := im) (u := u) (k := 2) (by decide) hQ
          rw [E]
          refine ⟨w1, z_To_1 ((e_Model_readTeam_52 ..).trans ?_), k2, k3⟩
          rw [if_neg n0, e11, if_pos (of_decide_eq_true hbit), k1, z_oV_s]
        · have E : A_m1 v r = r := if_neg (fun q => hi q.2)
          have hf : M.testBit r.2.2.2.2.2.toNat = false := by
            cases hq : M.testBit r.2.2.2.2.2.toNat with
            | false => rfl
            | true => exact absurd (himb.mp hq) hi
          rw [hf] at hbit
          rw [E]
          refine ⟨w, z_To_1 ((e_Model_readTeam_52 ..).trans ?_), hQ, fN_rf w⟩
          rw [if_neg n0, e11, if_neg (of_decide_eq_false hbit)]
      obtain ⟨w1, s1, s2, s3⟩ := st1
      by_cases h5 : v (78 + 7 * (v 8).toNat + 1) = 5
      · have E : A_m3 v r = A_fl 3 (A_m1 v r) := by
          unfold A_m3 A_m2
          rw [A_m1_t]
          exact if_pos ⟨h5, c2, c3, c4⟩
        obtain ⟨w2, k1, k2, k3⟩ := m_errs (e := e + 1) (n := n) (im := im) (u := u) (k := 3) (by decide) s2
        rw [E]
        refine ⟨w2, Int32.ofInt 1, z_To_tr h0 (z_To_tr s1 (z_To_1 ((e_Model_readTeam_66 ..).trans ?_))), k2, fN_tr s3 k3⟩
        rw [if_neg n0, if_pos (ji_eq_p (by omega) (by decide) h5), k1, z_oV_s]
      · have E : A_m3 v r = A_m1 v r := by
          unfold A_m3 A_m2
          exact if_neg (fun q => h5 q.1)
        rw [E]
        refine ⟨w1, Int32.ofInt 1, z_To_tr h0 (z_To_tr s1 (z_To_1 ((e_Model_readTeam_66 ..).trans ?_))), s2, s3⟩
        rw [if_neg n0, if_neg (ji_eq_n (by omega) (by decide) h5)]
  by_cases h : r.1 = 0
  · obtain ⟨⟨g1, g2, g3, g4⟩, g5⟩ := hQ.2.2.2.2 h
    dsimp only at g3 g4
    obtain ⟨t1, t2, t3, t4, t5⟩ := id hQ.2.2.2.1.1
    dsimp only at t3 t4
    have e10 : ((jM w, jL u) : zD).1 45 10 = Int32.ofInt r.2.2.2.2.1 := by rw [← g3]; rfl
    have q7 : w 51 7 = v 7 := (g5 7 (by decide)).trans (a_up_ne (by omega))
    have e7 : ((jM w, jL u) : zD).1 51 7 = Int32.ofInt (v 7) := by rw [← q7]; rfl
    by_cases h2 : r.2.2.2.2.1 = 2
    · have q11 := g4 h2
      have e11 : ((jM w, jL u) : zD).1 45 11 = Int32.ofInt (t_cp 99999 r.2.2.2.2.2) := by rw [← q11]; rfl
      have tb : 0 ≤ t_cp 99999 r.2.2.2.2.2 ∧ t_cp 99999 r.2.2.2.2.2 ≤ 99999 := by unfold t_cp; split <;> omega
      by_cases h3 : 0 ≤ r.2.2.2.2.2 ∧ r.2.2.2.2.2 ≤ v 7 - 1
      · refine key 1 (Or.inr rfl) (z_To_1 ((e_Model_readTeam_27 ..).trans ?_)) (fun q => by omega) (fun _ => ⟨h, h2, h3.1, by omega⟩)
        rw [m_good hQ, z_oI_s, if_neg (ji_b_n h), e10, if_pos (ji_eq_p (by omega) (by decide) h2), e11, e7, ji_sub, jl_of (by omega), k_0, jl_of (by omega), s_in (by omega) (by decide) (by omega), z_oI_s, if_neg (ji_b_n ((t_cp_in (by omega)).mpr h3))]
      · refine key 0 (Or.inl rfl) (z_To_1 ((e_Model_readTeam_27 ..).trans ?_)) (fun _ => ?_) (fun q => by omega)
        · rw [m_good hQ, z_oI_s, if_neg (ji_b_n h), e10, if_pos (ji_eq_p (by omega) (by decide) h2), e11, e7, ji_sub, jl_of (by omega), k_0, jl_of (by omega), s_in (by omega) (by decide) (by omega), z_oI_s, if_pos (ji_b_p (fun q => h3 ((t_cp_in (by omega)).mp q)))]
        · have E1 : A_m1 v r = r := if_neg (fun q => by
            obtain ⟨i, i1, i2⟩ := im_y.mp q.2
            have := v4 i (by omega)
            omega)
          unfold A_m3
          rw [E1]
          exact if_neg (fun q => h3 ⟨q.2.2.1, by omega⟩)
    · refine key 0 (Or.inl rfl) (z_To_1 ((e_Model_readTeam_27 ..).trans ?_)) (fun _ => ?_) (fun q => by omega)
      · rw [m_good hQ, z_oI_s, if_neg (ji_b_n h), e10, if_neg (ji_eq_n (by omega) (by decide) h2)]
      · have E1 : A_m1 v r = r := if_neg (fun q => h2 q.1)
        unfold A_m3
        rw [E1]
        exact if_neg (fun q => h2 q.2.1)
  · refine key 0 (Or.inl rfl) (z_To_1 ((e_Model_readTeam_27 ..).trans ?_)) (fun _ => ?_) (fun q => by omega)
    · rw [m_good hQ, z_oI_s, if_pos (ji_b_p h)]
    · unfold A_m3 A_m2 A_m1
      rw [A_fl_b h]
      rw [show (if r.2.2.2.2.1 = 2 ∧ t_im v r.2.2.2.2.2 = true then r else r) = r by split <;> rfl]
      split
      · exact A_fl_b h
      · rfl
