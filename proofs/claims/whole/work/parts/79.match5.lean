/-! the reference's plays; match, passed, led, day of the reference -/
def J_f (w wi : Nat → Nat → Int) : Prop := (∀ c, c ∉ [45, 55, 56, 57, 58, 59] → wi c = w c) ∧ ∀ j, j ≠ 15 → j ≠ 16 → j ≠ 17 → j ≠ 29 → j ≠ 30 → j ≠ 31 → wi 45 j = w 45 j
def J_l (T : zT) (wi : Nat → Nat → Int) : Prop := wi 45 29 = (T.2.2.2.2.1 : Int) ∧ (∀ j, j < 10 → wi 55 j = T.2.2.1 j) ∧ ∀ j, j < T.2.2.2.2.1 → wi 56 j = T.2.2.2.2.2 (4 * j) ∧ wi 57 j = T.2.2.2.2.2 (4 * j + 1) ∧ wi 58 j = T.2.2.2.2.2 (4 * j + 2) ∧ wi 59 j = T.2.2.2.2.2 (4 * j + 3)
theorem J_f_tr {w w1 w2 : Nat → Nat → Int} (h1 : J_f w w1) (h2 : J_f w1 w2) : J_f w w2 := ⟨fun c hc => (h2.1 c hc).trans (h1.1 c hc), fun j a1 a2 a3 a4 a5 a6 => (h2.2 j a1 a2 a3 a4 a5 a6).trans (h1.2 j a1 a2 a3 a4 a5 a6)⟩
theorem J_R {w wi : Nat → Nat → Int} {F S : Nat → Int} {n1 n2 : Nat} (h : J_f w wi) (hR : R_m w F S n1 n2) : R_m wi F S n1 n2 := by
  obtain ⟨r1, r2, r3, r4⟩ := hR
  refine ⟨?_, ?_, fun i hi => ?_, fun i hi => ?_⟩
  · rw [h.2 22 (by decide) (by decide) (by decide) (by decide) (by decide) (by decide)]; exact r1
  · rw [h.2 23 (by decide) (by decide) (by decide) (by decide) (by decide) (by decide)]; exact r2
  · rw [h.1 53 (by decide)]; exact r3 i hi
  · rw [h.1 54 (by decide)]; exact r4 i hi
theorem J_m {w wi : Nat → Nat → Int} (h : J_f w wi) : m_fr w wi := ⟨fun c hc => h.1 c (fun q => hc (by simp at q; rcases q with rfl | rfl | rfl | rfl | rfl | rfl <;> simp)), fun j hj => h.2 j (by omega) (by omega) (by omega) (by omega) (by omega) (by omega)⟩
def J_e (n1 n2 : Nat) (T : zT) (wi : Nat → Nat → Int) : Prop := J_l T wi ∧ wi 45 30 = O_w n1 n2 T 0 ∧ wi 45 31 = O_w n1 n2 T 1
theorem l_plays {e n : Nat} {im : Nat → Option Nat} {w u : Nat → Nat → Int} {dr bo ot : Int} {F S : Nat → Int} {n1 n2 : Nat} (hw : a_wf (w 46)) (hC : R_m w F S n1 n2) (hR : R_ok (w 46) F S n1 n2) (hdr : dr = 0 ∨ dr = 1) (s4 : 0 ≤ bo ∧ bo < w 46 6) (s5 : 0 ≤ ot ∧ ot < w 46 6) : ∀ (m : Nat) (T : zT) (wi : Nat → Nat → Int) (q3 q4 : Option Value), T_ok dr n1 n2 T → n1 + n2 ≤ T.1 + T.2.1 + m → J_f w wi → J_l T wi → ∃ wf, z_Rn (z_F (e + 6)) cd_Model_plays 21 [some (.ref 45), some (.int (Int32.ofInt bo)), some (.int (Int32.ofInt ot)), some (.int (Int32.ofInt dr)), some (.int (Int32.ofInt (T.1 : Int))), some (.int (Int32.ofInt (T.2.1 : Int))), q3, q4] (n, z_q im, jM wi, jL (z_u u 45 18 T.2.2.2.1)) (none, (n, z_q im, jM wf, jL (z_u u 45 18 (M_f (w 46) dr bo ot F S n1 n2 m T).2.2.2.1))) ∧ J_f w wf ∧ J_e n1 n2 (M_f (w 46) dr bo ot F S n1 n2 m T) wf := by
  have hend : ∀ (T : zT) (wi : Nat → Nat → Int) (q3 q4 : Option Value), T_ok dr n1 n2 T → ¬ (T.1 < n1 ∧ T.2.1 < n2) → J_f w wi → J_l T wi → ∃ wf, z_Rn (z_F (e + 6)) cd_Model_plays 21 [some (.ref 45), some (.int (Int32.ofInt bo)), some (.int (Int32.ofInt ot)), some (.int (Int32.ofInt dr)), some (.int (Int32.ofInt (T.1 : Int))), some (.int (Int32.ofInt (T.2.1 : Int))), q3, q4] (n, z_q im, jM wi, jL (z_u u 45 18 T.2.2.2.1)) (none, (n, z_q im, jM wf, jL (z_u u 45 18 T.2.2.2.1))) ∧ J_f w wf ∧ J_e n1 n2 T wf := by
    intro T wi q3 q4 hT hn hI hL
    obtain ⟨c1, c2, c3, c4⟩ := J_R hI hC
    obtain ⟨g1, g2, g3, g4, g5⟩ := hT
    have hn5 := hR.1
    have e22 : ((jM wi, jL (z_u u 45 18 T.2.2.2.1)) : zD).1 45 22 = Int32.ofInt (n1 : Int) := by rw [← c1]; rfl
    have e23 : ((jM wi, jL (z_u u 45 18 T.2.2.2.1)) : zD).1 45 23 = Int32.ofInt (n2 : Int) := by rw [← c2]; rfl
    have hout : ∀ x y : Int, x = O_w n1 n2 T 0 → y = O_w n1 n2 T 1 → J_f w (z_u (z_u wi 45 30 x) 45 31 y) ∧ J_e n1 n2 T (z_u (z_u wi 45 30 x) 45 31 y) := fun x y hx hy => ⟨⟨fun c hc => by
        have : c ≠ 45 := fun q => by subst q; simp at hc
        rw [z_u_ne this, z_u_ne this]; exact hI.1 c hc, fun j a1 a2 a3 a4 a5 a6 => by
        rw [z_u_at, if_neg a6, z_u_at, if_neg a5]; exact hI.2 j a1 a2 a3 a4 a5 a6⟩, ⟨hL.1, hL.2.1, hL.2.2⟩, hx, hy⟩
    by_cases h1 : T.1 < n1
    · have hh := hout 0 ((n1 : Int) - (T.1 : Int)) (by unfold O_w; rw [if_pos rfl, if_pos h1]) (by unfold O_w; rw [if_neg (by decide), if_pos rfl, if_pos h1])
      refine ⟨_, z_ret ((e_Model_plays_21 ..).trans ?_), hh⟩
      rw [e22, e23, if_neg (ji_le_n (by omega) (by omega) (by omega)), if_pos (ji_le_p (by omega) (by omega) (by omega)), if_neg (ji_le_n (by omega) (by omega) (by omega)), if_pos (show Int32.ofInt 0 = 0 from rfl), ji_sub]
      simp only [jM_u]
    · by_cases h2 : T.2.1 < n2
      · have hh := hout 1 ((n2 : Int) - (T.2.1 : Int)) (by unfold O_w; rw [if_pos rfl, if_neg h1, if_pos h2]) (by unfold O_w; rw [if_neg (by decide), if_pos rfl, if_neg h1])
        refine ⟨_, z_ret ((e_Model_plays_21 ..).trans ?_), hh⟩
        rw [e22, e23, if_pos (ji_le_p (by omega) (by omega) (by omega)), if_pos (ji_le_p (by omega) (by omega) (by omega)), if_neg (ji_le_n (by omega) (by omega) (by omega)), if_neg (show ¬ Int32.ofInt 1 = 0 by decide), if_pos (show Int32.ofInt 1 = Int32.ofInt 1 from rfl), ji_sub]
        simp only [jM_u]
      · have hh := hout 2 0 (by unfold O_w; rw [if_pos rfl, if_neg h1, if_neg h2]) (by unfold O_w; rw [if_neg (by decide), if_pos rfl, if_neg h1]; omega)
        refine ⟨_, z_ret ((e_Model_plays_21 ..).trans ?_), hh⟩
        rw [e22, e23, if_pos (ji_le_p (by omega) (by omega) (by omega)), if_pos (ji_le_p (by omega) (by omega) (by omega)), if_pos (ji_le_p (by omega) (by omega) (by omega)), if_neg (show ¬ Int32.ofInt 2 = 0 by decide), if_neg (show ¬ Int32.ofInt 2 = Int32.ofInt 1 by decide)]
        simp only [jM_u]
  intro m
  induction m with
  | zero =>
    intro T wi q3 q4 hT hm hI hL
    exact hend T wi q3 q4 hT (by omega) hI hL
  | succ m ih =>
    intro T wi q3 q4 hT hm hI hL
    simp only [M_f]
    by_cases hc : T.1 < n1 ∧ T.2.1 < n2
    · rw [if_pos hc]
      obtain ⟨c1, c2, c3, c4⟩ := J_R hI hC
      obtain ⟨i4, i5, i6⟩ := id hL
      obtain ⟨g1, g2, g3, g4, g5⟩ := id hT
      have hn5 := hR.1
      have f7 := hw.2.2.2.2.2.2.2.1
      have r1 := hR.2.1 T.1 hc.1
      have r2 := hR.2.2.1 T.2.1 hc.2
      have r3 := hR.2.2.2 T.1 T.2.1 hc.1 hc.2
      have a1 := g3 (F T.1).toNat (by omega)
      have a2 := g3 (S T.2.1).toNat (by omega)
      have e46 : wi 46 = w 46 := hI.1 46 (by decide)
      have hfi := s_goes (e := e) (n := n) (im := im) (w := wi) (u := z_u u 45 18 T.2.2.2.1) (a := F T.1) (b := S T.2.1) (bo := bo) (ot := ot) (p := T.2.2.1 (F T.1).toNat) (p2 := T.2.2.1 (S T.2.1).toNat) (dr := dr) (by rw [e46]; exact hw) (by rw [e46]; exact r1) (by rw [e46]; exact r2) (by rw [e46]; exact s4) (by rw [e46]; exact s5) hdr (by omega) (by omega) g5 (S := M_B (w 46) dr bo ot F S T) (by rw [e46]; rfl)
      have hxx : a_X dr (z_u u 45 18 T.2.2.2.1 45 18) (M_B (w 46) dr bo ot F S T).2.1 = (M_s (w 46) dr bo ot F S T).2.2.2.1 := rfl
      rw [zu_zu, hxx] at hfi
      have hb := B_o_b hw dr T.2.2.2.1 (F T.1) (S T.2.1) bo ot (T.2.2.1 (F T.1).toNat) (T.2.2.1 (S T.2.1).toNat)
      change (0 ≤ (M_B (w 46) dr bo ot F S T).1 ∧ (M_B (w 46) dr bo ot F S T).1 ≤ 3) ∧ (M_B (w 46) dr bo ot F S T).2.1 ≤ 7 ∧ _ at hb
      generalize hw1 : MG wi (M_B (w 46) dr bo ot F S T).1 (M_B (w 46) dr bo ot F S T).2.1 (wi 45 17 + (M_B (w 46) dr bo ot F S T).2.2) = w1 at hfi
      have e15 : w1 45 15 = (M_B (w 46) dr bo ot F S T).1 := by rw [← hw1]; rfl
      have e16 : w1 45 16 = ((M_B (w 46) dr bo ot F S T).2.1 : Int) := by rw [← hw1]; rfl
      have eoth : ∀ c, c ≠ 45 → w1 c = wi c := fun c q => by rw [← hw1]; funext j; simp only [MG, if_neg q]
      have e45 : ∀ j, j ≠ 15 → j ≠ 16 → j ≠ 17 → w1 45 j = wi 45 j := fun j j1 j2 j3 => by rw [← hw1]; simp only [MG, if_true, if_neg j1, if_neg j2, if_neg j3]
      have e29 : w1 45 29 = (T.2.2.2.2.1 : Int) := by rw [e45 29 (by decide) (by decide) (by decide)]; exact i4
      have hJ' : J_f w (w_mt w1 (F T.1) (S T.2.1) T.2.2.2.2.1) := by
        refine J_f_tr hI ⟨fun c hc9 => ?_, fun j j1 j2 j3 j4 j5 j6 => ?_⟩
        · rw [w_mt_ne hc9, eoth c (fun q => by subst q; simp at hc9)]
        · rw [w_mt_45, if_neg j4, e45 j j1 j2 j3]
      have hL' : J_l (M_s (w 46) dr bo ot F S T) (w_mt w1 (F T.1) (S T.2.1) T.2.2.2.2.1) := by
        refine ⟨?_, fun j hj => ?_, fun j hj => ?_⟩
        · rw [w_mt_45, if_pos rfl]; rfl
        · rw [w_mt_55 (by omega), e16, eoth 55 (by decide), i5 _ (by omega), i5 _ (by omega), i5 _ hj]
          rfl
        · have hMs : ∀ k, (M_s (w 46) dr bo ot F S T).2.2.2.2.2 k = if k = 4 * T.2.2.2.2.1 + 3 then ((M_B (w 46) dr bo ot F S T).2.1 : Int) else if k = 4 * T.2.2.2.2.1 + 2 then (M_B (w 46) dr bo ot F S T).1 else if k = 4 * T.2.2.2.2.1 + 1 then S T.2.1 else if k = 4 * T.2.2.2.2.1 then F T.1 else T.2.2.2.2.2 k := fun _ => rfl
          change j < T.2.2.2.2.1 + 1 at hj
          rw [hMs, hMs, hMs, hMs, w_mt_56, w_mt_57, w_mt_58, w_mt_59, e15, e16, eoth 56 (by decide), eoth 57 (by decide), eoth 58 (by decide), eoth 59 (by decide)]
          by_cases hjj : j = T.2.2.2.2.1
          · rw [if_pos hjj, if_pos hjj, if_pos hjj, if_pos hjj, if_neg (by omega), if_neg (by omega), if_neg (by omega), if_pos (by omega), if_neg (by omega), if_neg (by omega), if_pos (by omega), if_neg (by omega), if_pos (by omega), if_pos (by omega)]
            exact ⟨rfl, rfl, rfl, rfl⟩
          · have i7 := i6 j (by omega)
            rw [if_neg hjj, if_neg hjj, if_neg hjj, if_neg hjj, if_neg (by omega), if_neg (by omega), if_neg (by omega), if_neg (by omega), if_neg (by omega), if_neg (by omega), if_neg (by omega), if_neg (by omega), if_neg (by omega), if_neg (by omega), if_neg (by omega), if_neg (by omega), if_neg (by omega), if_neg (by omega), if_neg (by omega), if_neg (by omega)]
            exact i7
      obtain ⟨wf, k1, k2, k3⟩ := ih (M_s (w 46) dr bo ot F S T) _ (some (.int (Int32.ofInt (F T.1)))) (some (.int (Int32.ofInt (S T.2.1)))) (T_ok_s hw hR hT hc.1 hc.2) (by
        show n1 + n2 ≤ (if (M_B (w 46) dr bo ot F S T).1 = 2 then T.1 else T.1 + 1) + (if (M_B (w 46) dr bo ot F S T).1 = 1 then T.2.1 else T.2.1 + 1) + m
        (repeat' split) <;> omega) hJ' hL'
      refine ⟨wf, z_go ((e_Model_plays_21 ..).trans ?_) k1, k2, k3⟩
      have hMi : (M_s (w 46) dr bo ot F S T).1 = if (M_B (w 46) dr bo ot F S T).1 = 2 then T.1 else T.1 + 1 := rfl
      have hMk : (M_s (w 46) dr bo ot F S T).2.1 = if (M_B (w 46) dr bo ot F S T).1 = 1 then T.2.1 else T.2.1 + 1 := rfl
      have e22 : ((jM wi, jL (z_u u 45 18 T.2.2.2.1)) : zD).1 45 22 = Int32.ofInt (n1 : Int) := by rw [← c1]; rfl
      have e23 : ((jM wi, jL (z_u u 45 18 T.2.2.2.1)) : zD).1 45 23 = Int32.ofInt (n2 : Int) := by rw [← c2]; rfl
      have e53 : ((jM wi, jL (z_u u 45 18 T.2.2.2.1)) : zD).1 53 T.1 = Int32.ofInt (F T.1) := by rw [← c3 _ hc.1]; rfl
      have e54 : ((jM wi, jL (z_u u 45 18 T.2.2.2.1)) : zD).1 54 T.2.1 = Int32.ofInt (S T.2.1) := by rw [← c4 _ hc.2]; rfl
      have e55 : ((jM wi, jL (z_u u 45 18 T.2.2.2.1)) : zD).1 55 (F T.1).toNat = Int32.ofInt (T.2.2.1 (F T.1).toNat) := by rw [← i5 _ (by omega)]; rfl
      have e56 : ((jM wi, jL (z_u u 45 18 T.2.2.2.1)) : zD).1 55 (S T.2.1).toNat = Int32.ofInt (T.2.2.1 (S T.2.1).toNat) := by rw [← i5 _ (by omega)]; rfl
      have nF : Int32.toNatClampNeg (Int32.ofInt (F T.1)) = (F T.1).toNat := ji_nat (by omega)
      have nS : Int32.toNatClampNeg (Int32.ofInt (S T.2.1)) = (S T.2.1).toNat := ji_nat (by omega)
      have nI : Int32.toNatClampNeg (Int32.ofInt (T.1 : Int)) = T.1 := (ji_nat (by omega)).trans (by omega)
      have nK : Int32.toNatClampNeg (Int32.ofInt (T.2.1 : Int)) = T.2.1 := (ji_nat (by omega)).trans (by omega)
      have nB : Int32.toNatClampNeg (Int32.ofInt (T.2.2.2.2.1 : Int)) = T.2.2.2.2.1 := (ji_nat (by omega)).trans (by omega)
      have vI : ¬ (Int32.ofInt (T.1 : Int) < 0 ∨ 5 ≤ T.1) := by simp (disch := omega) only [ji_lt0]; omega
      have vK : ¬ (Int32.ofInt (T.2.1 : Int) < 0 ∨ 5 ≤ T.2.1) := by simp (disch := omega) only [ji_lt0]; omega
      have vF : ¬ (Int32.ofInt (F T.1) < 0 ∨ 10 ≤ (F T.1).toNat) := by simp (disch := omega) only [ji_lt0]; omega
      have vS : ¬ (Int32.ofInt (S T.2.1) < 0 ∨ 10 ≤ (S T.2.1).toNat) := by simp (disch := omega) only [ji_lt0]; omega
      have vB : ¬ (Int32.ofInt (T.2.2.2.2.1 : Int) < 0 ∨ 10 ≤ T.2.2.2.2.1) := by simp (disch := omega) only [ji_lt0]; omega
      have f29 : ((jM w1, jL (z_u u 45 18 (M_s (w 46) dr bo ot F S T).2.2.2.1)) : zD).1 45 29 = Int32.ofInt (T.2.2.2.2.1 : Int) := by rw [← e29]; rfl
      have f15 : ((jM w1, jL (z_u u 45 18 (M_s (w 46) dr bo ot F S T).2.2.2.1)) : zD).1 45 15 = Int32.ofInt (M_B (w 46) dr bo ot F S T).1 := by rw [← e15]; rfl
      rw [e22, e23, if_neg (ji_le_n (by omega) (by omega) (by omega)), if_neg (ji_le_n (by omega) (by omega) (by omega)), nI, nK, if_neg vI, if_neg vK, e53, e54, nF, nS, if_neg vF, if_neg vS, e55, e56, hfi, z_oV_s, if_neg vF, if_neg vF, if_neg vS, if_neg vS, f29, nB, if_neg vB, if_neg vB, if_neg vB, if_neg vB, f15, hMi, hMk]
      have hmem : ∀ x : Int, x = (M_B (w 46) dr bo ot F S T).1 → jM (w_mt w1 (F T.1) (S T.2.1) T.2.2.2.2.1) = z_u (z_u (z_u (z_u (z_u (z_u (z_u (jM w1) 55 (F T.1).toNat (((jM w1, jL (z_u u 45 18 (M_s (w 46) dr bo ot F S T).2.2.2.1)) : zD).1 55 (F T.1).toNat + ((jM w1, jL (z_u u 45 18 (M_s (w 46) dr bo ot F S T).2.2.2.1)) : zD).1 45 16)) 55 (S T.2.1).toNat (z_u (jM w1) 55 (F T.1).toNat (((jM w1, jL (z_u u 45 18 (M_s (w 46) dr bo ot F S T).2.2.2.1)) : zD).1 55 (F T.1).toNat + ((jM w1, jL (z_u u 45 18 (M_s (w 46) dr bo ot F S T).2.2.2.1)) : zD).1 45 16) 55 (S T.2.1).toNat + ((jM w1, jL (z_u u 45 18 (M_s (w 46) dr bo ot F S T).2.2.2.1)) : zD).1 45 16)) 56 T.2.2.2.2.1 (Int32.ofInt (F T.1))) 57 T.2.2.2.2.1 (Int32.ofInt (S T.2.1))) 58 T.2.2.2.2.1 (Int32.ofInt x)) 59 T.2.2.2.2.1 (((jM w1, jL (z_u u 45 18 (M_s (w 46) dr bo ot F S T).2.2.2.1)) : zD).1 45 16)) 45 29 (Int32.ofInt (T.2.2.2.2.1 : Int) + Int32.ofInt 1) := fun x hx => by
        subst hx
        simp only [jM_at, jM_u, ji_add]
        unfold w_mt
        rw [e15]
      by_cases h2 : (M_B (w 46) dr bo ot F S T).1 = 2
      · rw [if_pos (ji_eq_p (by omega) (by decide) h2), if_neg (ji_eq_n (by omega) (by decide) (by omega)), if_pos h2, if_neg (c := (M_B (w 46) dr bo ot F S T).1 = 1) (by omega), hmem _ rfl, ji_add, ji_add]
        rfl
      · rw [if_neg (ji_eq_n (by omega) (by decide) h2), if_neg h2]
        by_cases h3 : (M_B (w 46) dr bo ot F S T).1 = 1
        · rw [if_pos (ji_eq_p (by omega) (by decide) h3), if_pos h3, hmem _ rfl, ji_add, ji_add]
          rfl
        · rw [if_neg (ji_eq_n (by omega) (by decide) h3), if_neg h3, hmem _ rfl, ji_add, ji_add]
          rfl
    · rw [if_neg hc]
      exact hend T wi q3 q4 hT hc hI hL
