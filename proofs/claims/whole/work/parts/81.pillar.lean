/-! pillar -/
def l_o (F : Nat → Int) (i j : Nat) : Int := if j < i then F j else F (j + 1)
noncomputable def M_P (v : Nat → Int) (t o : Int) (i : Nat) : zT := M_F v 0 0 (t_b v t) (t_b v o) (l_o (t_m v t) i) (t_m v o) (t_n v t - 1) (t_n v o)
def Z_s (n1 n2 : Nat) (T : zT) : Int := (n1 : Int) - (T.1 : Int) - ((n2 : Int) - (T.2.1 : Int))
noncomputable def S_p (v : Nat → Int) (t o : Int) (i : Nat) : Int := Z_s (t_n v t - 1) (t_n v o) (M_P v t o i)
def P_w (f g : Nat → Int) (l : Int) : Nat → Int × Int
  | 0 => (-1, l)
  | i + 1 => if f i < (P_w f g l i).2 then (g i, f i) else P_w f g l i
theorem P_w_s (f g : Nat → Int) (l : Int) (i : Nat) : P_w f g l (i + 1) = if f i < (P_w f g l i).2 then (g i, f i) else P_w f g l i := rfl
theorem P_w_eq {f g : Nat → Int} {l l' c : Int} (h : f 0 < l) (h' : c + f 0 < l') : ∀ i, P_w (fun j => c + f j) g l' (i + 1) = ((P_w f g l (i + 1)).1, c + (P_w f g l (i + 1)).2)
  | 0 => by
    rw [P_w_s, P_w_s, if_pos (show c + f 0 < (P_w (fun j => c + f j) g l' 0).2 from h'), if_pos (show f 0 < (P_w f g l 0).2 from h)]
  | i + 1 => by
    rw [P_w_s _ _ _ (i + 1), P_w_s f g l (i + 1), P_w_eq h h' i]
    by_cases q : f (i + 1) < (P_w f g l (i + 1)).2
    · rw [if_pos q, if_pos (show c + f (i + 1) < c + (P_w f g l (i + 1)).2 by omega)]
    · rw [if_neg q, if_neg (show ¬ c + f (i + 1) < c + (P_w f g l (i + 1)).2 by omega)]
theorem P_w_b {f g : Nat → Int} {l lo hi : Int} : ∀ i, (∀ j, j < i → lo ≤ f j ∧ f j ≤ hi) → (∀ j, j < i → 0 ≤ g j ∧ g j ≤ 9) → lo ≤ l → l ≤ hi → (-1 ≤ (P_w f g l i).1 ∧ (P_w f g l i).1 ≤ 9) ∧ (lo ≤ (P_w f g l i).2 ∧ (P_w f g l i).2 ≤ hi)
  | 0, _, _, h1, h2 => ⟨by simp only [P_w]; omega, h1, h2⟩
  | i + 1, hf, hg, h1, h2 => by
    have ih := P_w_b i (fun j hj => hf j (by omega)) (fun j hj => hg j (by omega)) h1 h2
    have a1 := hf i (by omega)
    have a2 := hg i (by omega)
    rw [P_w_s]
    split
    · exact ⟨by show -1 ≤ g i ∧ g i ≤ 9; omega, a1⟩
    · exact ih
theorem R_ok_lo {v : Nat → Int} {F S : Nat → Int} {n1 n2 i : Nat} (h : R_ok v F S n1 n2) (hi : i < n1) : R_ok v (l_o F i) S (n1 - 1) n2 := by
  obtain ⟨h1, h2, h3, h4⟩ := h
  refine ⟨by omega, fun j hj => ?_, h3, fun j k hj hk => ?_⟩
  · unfold l_o; split
    · exact h2 j (by omega)
    · exact h2 (j + 1) (by omega)
  · unfold l_o; split
    · exact h4 j k (by omega) hk
    · exact h4 (j + 1) k (by omega) hk
theorem Z_s_b {dr : Int} {n1 n2 : Nat} {T : zT} (h5 : n1 ≤ 5 ∧ n2 ≤ 5) (hT : T_ok dr n1 n2 T) : -5 ≤ Z_s n1 n2 T ∧ Z_s n1 n2 T ≤ 5 := by
  have := hT.1
  have := hT.2.1
  unfold Z_s
  omega
noncomputable def V_pillar (v : Nat → Int) (t o : Int) : Int := if a_tt v t o then (if t_n v t = 1 then -1 else (P_w (S_p v t o) (t_m v t) 6 (t_n v t)).1) else -2
theorem s_leaveOut {e n : Nat} {im : Nat → Option Nat} {w u : Nat → Nat → Int} {v : Nat → Int} {dr bo ot : Int} {F S : Nat → Int} {n1 n2 i : Nat} (hC : C_m v dr bo ot F S n1 n2 w) (h5 : n1 ≤ 5) (hi : i < n1) : ∃ w', (z_F (e + 2)).2.2.1 k_Contest_leaveOut [.ref 31, .int (Int32.ofInt (i : Int))] (n, z_q im, jM w, jL u) = some (jM w', jL u) ∧ C_m v dr bo ot (l_o F i) S (n1 - 1) n2 w' ∧ c_fr w w' := by
  obtain ⟨c1, c2, c3, c4, c5, c6⟩ := hC
  obtain ⟨t9, ht9, wf, rfl, i1, i2⟩ := z_for (o := z_F (e + 1)) (cd := cd_Contest_leaveOut) (P := fun k s => ∃ wi, s = (9, [some (.ref 31), some (.int (Int32.ofInt (i : Int))), some (.int (Int32.ofInt ((i : Int) + (k : Int))))], (n, z_q im, jM wi, jL u)) ∧ (∀ c, c ≠ 33 → wi c = z_u w 31 5 ((n1 : Int) - 1) c) ∧ ∀ j, wi 33 j = if i ≤ j ∧ j < i + k then w 33 (j + 1) else w 33 j) (n1 - 1 - i) (s := (9, [some (.ref 31), some (.int (Int32.ofInt (i : Int))), some (.int (Int32.ofInt (i : Int)))], (n, z_q im, jM (z_u w 31 5 ((n1 : Int) - 1)), jL u))) ⟨_, by rw [show (i : Int) + ((0 : Nat) : Int) = (i : Int) by omega], fun _ _ => rfl, fun j => by rw [if_neg (by omega), z_u_ne (by decide)]⟩ (fun k s hk hs => by
    obtain ⟨wi, rfl, i1, i2⟩ := hs
    have e5 : ((jM wi, jL u) : zD).1 31 5 = Int32.ofInt ((n1 : Int) - 1) := by
      have : wi 31 5 = (n1 : Int) - 1 := by rw [i1 31 (by decide)]; rfl
      rw [← this]; rfl
    refine ⟨(9, [some (.ref 31), some (.int (Int32.ofInt (i : Int))), some (.int (Int32.ofInt ((i : Int) + (k : Int) + 1)))], (n, z_q im, jM (z_u wi 33 (i + k) (w 33 (i + k + 1))), jL u)), z_To_1 ((e_Contest_leaveOut_9 ..).trans ?_), _, by rw [ic, Int.add_assoc], fun c hc => by rw [z_u_ne hc]; exact i1 c hc, fun j => ?_⟩
    · rw [e5, if_neg (ji_le_n (by omega) (by omega) (by omega)), ji_add, s_at_32 (by omega), z_oI_s, if_pos (by omega), s_set_32 (by omega) (by omega), z_oV_s, i2, if_neg (by omega), show ((i : Int) + (k : Int) + 1).toNat = i + k + 1 by omega, show ((i : Int) + (k : Int)).toNat = i + k by omega]
    · rw [z_u_at]
      by_cases q : j = i + k
      · rw [if_pos q, if_pos (by omega), q]
      · rw [if_neg q, i2]
        by_cases q2 : i ≤ j ∧ j < i + k
        · rw [if_pos q2, if_pos (by omega)]
        · rw [if_neg q2, if_neg (by omega)])
  refine ⟨wf, n_Contest_leaveOut (z_go ((e_Contest_leaveOut_0 ..).trans ?_) (ht9 _ (z_ret ((e_Contest_leaveOut_9 ..).trans ?_)))), ⟨?_, ?_, ?_, ?_, fun j hj => ?_, fun j hj => ?_⟩, fun c hc => ?_⟩
  · simp only [jM_at, c3, ji_sub, jM_u]
  · have e5 : ((jM wf, jL u) : zD).1 31 5 = Int32.ofInt ((n1 : Int) - 1) := by
      have : wf 31 5 = (n1 : Int) - 1 := by rw [i1 31 (by decide)]; rfl
      rw [← this]; rfl
    rw [e5, if_pos (ji_le_p (by omega) (by omega) (by omega))]
  · unfold c_v
    rw [i1 3 (by decide), i1 5 (by decide), i1 7 (by decide), i1 9 (by decide)]
    exact c1
  · rw [i1 25 (by decide)]; exact c2
  · rw [i1 31 (by decide)]; show (n1 : Int) - 1 = _; omega
  · rw [i1 31 (by decide)]; exact c4
  · rw [i2]
    unfold l_o
    by_cases q : j < i
    · rw [if_pos q, if_neg (by omega)]; exact c5 j (by omega)
    · rw [if_neg q, if_pos (by omega)]; exact c5 (j + 1) (by omega)
  · rw [i1 35 (by decide)]; exact c6 j hj
  · rw [i1 c (fun q => by subst q; simp at hc), z_u_ne (fun q => by subst q; simp at hc)]
theorem M_P_ok {v : Nat → Int} {t o : Int} {i : Nat} (hw : a_wf v) (h : a_tt v t o) (hi : i < t_n v t) : (T_ok 0 (t_n v t - 1) (t_n v o) (M_P v t o i) ∧ ¬ ((M_P v t o i).1 < t_n v t - 1 ∧ (M_P v t o i).2.1 < t_n v o)) ∧ (-5 ≤ S_p v t o i ∧ S_p v t o i ≤ 5) := by
  have hR := R_ok_lo (R_ok_mt hw h) hi
  have h1 := M_F_ok (dr := 0) (x := 0) (bo := t_b v t) (ot := t_b v o) hw hR (fun q => absurd rfl q)
  exact ⟨h1, Z_s_b hR.1 h1.1⟩
theorem x_pillar {e n : Nat} {im : Nat → Option Nat} {w u : Nat → Nat → Int} {v : Nat → Int} {t o : Int} (hv : c_v w v) (hw : a_wf v) (ht : jR t) (ho : jR o) : ∃ w', (z_F (e + 20)).1 k_LongBoats_pillar [.ref 0, .int (Int32.ofInt t), .int (Int32.ofInt o)] (n, z_q im, jM w, jL u) = some (Int32.ofInt (V_pillar v t o), jM w', jL u) ∧ c_fr w w' := by
  unfold V_pillar
  obtain ⟨w1, m1, m2, m3⟩ := x_meets (e := e + 13) (n := n) (im := im) (u := u) hv hw ht ho
  by_cases h : a_tt v t o
  · rw [if_pos h] at m1 ⊢
    have hv1 := c_v_fr hv m2
    obtain ⟨a1, a2, a3, a4, a5, a6⟩ := t_wf hw h.1
    obtain ⟨b1, b2, b3, b4, b5, b6⟩ := t_wf hw h.2.1
    have f7 := hw.2.2.2.2.2.2.2.1
    have c2 := (c_t hv1 a1).2.1
    rw [a3] at c2
    by_cases h1 : t_n v t = 1
    · rw [if_pos h1]
      refine ⟨w1, n_LongBoats_pillar (z_ret ((e_LongBoats_pillar_0 ..).trans ?_)), m2⟩
      rw [m1, z_oI_s, if_neg (show ¬ Int32.ofInt 1 = 0 by decide), s_sizeOf_3 (by omega) (by omega), z_oI_s, c2, if_neg (ji_lt_n (by decide) (by omega) (by omega))]
    · rw [if_neg h1]
      obtain ⟨t9, ht9, wf, rfl, i1, i2⟩ := z_for (o := z_F (e + 19)) (cd := cd_LongBoats_pillar) (P := fun i s => ∃ wi, s = (22, [some (.ref 0), some (.int (Int32.ofInt t)), some (.int (Int32.ofInt o)), some (.int (Int32.ofInt (P_w (S_p v t o) (t_m v t) 6 i).1)), some (.int (Int32.ofInt (P_w (S_p v t o) (t_m v t) 6 i).2)), some (.int (Int32.ofInt (i : Int)))], (n, z_q im, jM wi, jL u)) ∧ c_v wi v ∧ c_fr w wi) (t_n v t) (s := (22, [some (.ref 0), some (.int (Int32.ofInt t)), some (.int (Int32.ofInt o)), some (.int (Int32.ofInt (-1))), some (.int (Int32.ofInt 6)), some (.int (Int32.ofInt 0))], (n, z_q im, jM w1, jL u))) ⟨w1, rfl, hv1, m2⟩ (fun i s hi hs => by
        obtain ⟨wi, rfl, i1, i2⟩ := hs
        obtain ⟨w2, l1, l2, l3⟩ := s_lineUp (e := e + 14) (n := n) (im := im) (u := u) i1 hw h.1 h.2.1
        obtain ⟨w3, o1, o2, o3⟩ := s_leaveOut (e := e + 17) (n := n) (im := im) (u := u) l2 a4.2 hi
        obtain ⟨w4, r1, r2⟩ := s_run (e := e + 13) (n := n) (im := im) (u := u) hw o2 (R_ok_lo (R_ok_mt hw h) hi) (Or.inl rfl) a2 b2 (fun q => absurd rfl q)
        rw [M_F_x] at r1 r2
        have hz : z_u u 30 0 (u 30 0) = u := zu_self u 30 0
        dsimp only at r1
        rw [hz] at r1
        change C_e w3 w4 (t_n v t - 1) (t_n v o) _ at r2
        have hfr : c_fr w w4 := c_fr_tr i2 (c_fr_tr l3 (c_fr_tr o3 r2.1))
        have hv4 : c_v w4 v := c_v_fr hv hfr
        have hs : w4 31 7 - w4 31 8 = S_p v t o i := by rw [r2.2.1, r2.2.2.1]; rfl
        have hb := (M_P_ok hw h hi).2
        have hpb := P_w_b (f := S_p v t o) (g := t_m v t) (l := 6) (lo := -5) (hi := 6) i (fun j hj => by have := (M_P_ok hw h (show j < t_n v t by omega)).2; omega) (fun j hj => by have := a5 j (by omega); omega) (by decide) (by decide)
        have d1 := (c_t hv4 a1).2.2 i (by omega)
        have d2 := (c_t i1 a1).2.1
        rw [a3] at d2
        have hx : z_ex none (z_F (e + 19)) cd_LongBoats_pillar 4000 (cd_LongBoats_pillar.drop 22) 22 [some (.ref 0), some (.int (Int32.ofInt t)), some (.int (Int32.ofInt o)), some (.int (Int32.ofInt (P_w (S_p v t o) (t_m v t) 6 i).1)), some (.int (Int32.ofInt (P_w (S_p v t o) (t_m v t) 6 i).2)), some (.int (Int32.ofInt (i : Int)))] [] (n, z_q im, jM wi, jL u) = some (.inr (22, [some (.ref 0), some (.int (Int32.ofInt t)), some (.int (Int32.ofInt o)), some (.int (Int32.ofInt (P_w (S_p v t o) (t_m v t) 6 (i + 1)).1)), some (.int (Int32.ofInt (P_w (S_p v t o) (t_m v t) 6 (i + 1)).2)), some (.int (Int32.ofInt ((i : Int) + 1)))], [], (n, z_q im, jM w4, jL u))) := by
          refine (e_LongBoats_pillar_22 ..).trans ?_
          rw [s_sizeOf_3 (by omega) (by omega), z_oI_s, d2, if_neg (ji_le_n (by omega) (by omega) (by omega)), l1, z_oV_s, o1, z_oV_s, r1, z_oV_s, s_score, z_oI_s, hs, ji_add, P_w_s]
          by_cases q : S_p v t o i < (P_w (S_p v t o) (t_m v t) 6 i).2
          · rw [if_neg (ji_le_n (by omega) (by omega) (by omega)), if_pos q, s_score, z_oI_s, hs, s_mate_3 (by omega) (by omega) (by omega) (by omega), z_oI_s, show ((i : Int)).toNat = i by omega, d1]
          · rw [if_pos (ji_le_p (by omega) (by omega) (by omega)), if_neg q]
        exact ⟨_, z_To_1 hx, w4, rfl, hv4, hfr⟩)
      refine ⟨wf, n_LongBoats_pillar (z_go ((e_LongBoats_pillar_0 ..).trans ?_) (ht9 _ (z_ret ((e_LongBoats_pillar_22 ..).trans ?_)))), i2⟩
      · rw [m1, z_oI_s, if_neg (show ¬ Int32.ofInt 1 = 0 by decide), s_sizeOf_3 (by omega) (by omega), z_oI_s, c2, if_pos (ji_lt_p (by decide) (by omega) (by omega))]
      · have d2 := (c_t i1 a1).2.1
        rw [a3] at d2
        rw [s_sizeOf_3 (by omega) (by omega), z_oI_s, d2, if_pos (ji_le_p (by omega) (by omega) (by omega))]
  · rw [if_neg h] at m1 ⊢
    refine ⟨w1, n_LongBoats_pillar (z_ret ((e_LongBoats_pillar_0 ..).trans ?_)), m2⟩
    rw [m1, z_oI_s, if_pos (show Int32.ofInt 0 = 0 from rfl)]
theorem s_worth {e n : Nat} {im : Nat → Option Nat} {w u : Nat → Nat → Int} {n1 n2 : Nat} {T : zT} {dr : Int} (h5 : n1 ≤ 5 ∧ n2 ≤ 5) (hT : T_ok dr n1 n2 T) (he : ¬ (T.1 < n1 ∧ T.2.1 < n2)) (hC : J_e n1 n2 T w) : (z_F (e + 1)).1 k_Model_worth [.ref 45] (n, z_q im, jM w, jL u) = some (Int32.ofInt (10 + Z_s n1 n2 T), jM w, jL u) := by
  obtain ⟨c1, c2, c3⟩ := hC
  have g1 := hT.1
  have g2 := hT.2.1
  refine q_Model_worth ?_
  simp only [jM_at, c2, c3]
  unfold O_w Z_s
  rw [if_pos rfl, if_neg (show ¬ (1 : Int) = 0 by decide), if_pos rfl]
  by_cases q1 : T.1 < n1
  · rw [if_pos q1, if_pos q1, if_pos (ji_eq0_p (by decide) rfl), ji_add, show (n1 : Int) - (T.1 : Int) - ((n2 : Int) - (T.2.1 : Int)) = (n1 : Int) - (T.1 : Int) by omega]
  · rw [if_neg q1, if_neg q1]
    by_cases q2 : T.2.1 < n2
    · rw [if_pos q2, if_neg (ji_eq0_n (by decide) (by decide)), if_neg (ji_eq_n (by decide) (by decide) (by decide)), ji_sub, show (10 : Int) - ((n2 : Int) - (T.2.1 : Int)) = 10 + ((n1 : Int) - (T.1 : Int) - ((n2 : Int) - (T.2.1 : Int))) by omega]
    · rw [if_neg q2, if_neg (ji_eq0_n (by decide) (by decide)), if_pos (ji_eq_p (by decide) (by decide) rfl), show 10 + ((n1 : Int) - (T.1 : Int) - ((n2 : Int) - (T.2.1 : Int))) = 10 by omega]
theorem m_pillar {e n : Nat} {im : Nat → Option Nat} {w u : Nat → Nat → Int} {t o : Int} (hw : a_wf (w 46)) (ht : jR t) (ho : jR o) : ∃ w', (z_F (e + 20)).1 k_Model_pillar [.ref 45, .int (Int32.ofInt t), .int (Int32.ofInt o)] (n, z_q im, jM w, jL u) = some (Int32.ofInt (V_pillar (w 46) t o), jM w', jL u) ∧ m_fr w w' := by
  unfold V_pillar
  by_cases h : a_tt (w 46) t o
  · rw [if_pos h]
    obtain ⟨a1, a2, a3, a4, a5, a6⟩ := t_wf hw h.1
    obtain ⟨b1, b2, b3, b4, b5, b6⟩ := t_wf hw h.2.1
    have f7 := hw.2.2.2.2.2.2.2.1
    by_cases h1 : t_n (w 46) t = 1
    · rw [if_pos h1]
      refine ⟨w, n_Model_pillar (z_ret ((e_Model_pillar_0 ..).trans ?_)), m_fr_rf w⟩
      rw [s_areTeams hw ht ho, z_oI_s, if_neg (ji_b_n h), s_manyOf (by omega) (by omega), z_oI_s, a3, if_pos (ji_eq_p (by omega) (by decide) (by omega))]
    · rw [if_neg h1]
      have hN : ∃ N, t_n (w 46) t = N + 1 := ⟨t_n (w 46) t - 1, by omega⟩
      have hfin : (P_w (S_p (w 46) t o) (t_m (w 46) t) 6 (t_n (w 46) t)).1 = (P_w (fun j => 10 + S_p (w 46) t o j) (t_m (w 46) t) 1000000 (t_n (w 46) t)).1 := by
        obtain ⟨N, hN⟩ := hN
        have := (M_P_ok hw h (show 0 < t_n (w 46) t by omega)).2
        rw [hN, P_w_eq (f := S_p (w 46) t o) (g := t_m (w 46) t) (l := 6) (l' := 1000000) (c := 10) (by omega) (by omega) N]
      rw [hfin]
      obtain ⟨t9, ht9, wf, q6, rfl, i1⟩ := z_for (o := z_F (e + 19)) (cd := cd_Model_pillar) (P := fun i s => ∃ wi q6, s = (21, [some (.ref 45), some (.int (Int32.ofInt t)), some (.int (Int32.ofInt o)), some (.int (Int32.ofInt (P_w (fun j => 10 + S_p (w 46) t o j) (t_m (w 46) t) 1000000 i).1)), some (.int (Int32.ofInt (P_w (fun j => 10 + S_p (w 46) t o j) (t_m (w 46) t) 1000000 i).2)), some (.int (Int32.ofInt (i : Int))), q6], (n, z_q im, jM wi, jL u)) ∧ m_fr w wi) (t_n (w 46) t) (s := (21, [some (.ref 45), some (.int (Int32.ofInt t)), some (.int (Int32.ofInt o)), some (.int (Int32.ofInt (-1))), some (.int (Int32.ofInt 1000000)), some (.int (Int32.ofInt 0)), none], (n, z_q im, jM w, jL u))) ⟨w, none, rfl, m_fr_rf w⟩ (fun i s hi hs => by
        obtain ⟨wi, q6, rfl, i1⟩ := hs
        have ei : wi 46 = w 46 := i1.1 46 (by decide)
        have hb := (M_P_ok hw h hi).2
        have hok := (M_P_ok hw h hi).1
        have hpb := P_w_b (f := fun j => 10 + S_p (w 46) t o j) (g := t_m (w 46) t) (l := 1000000) (lo := 5) (hi := 1000000) i (fun j hj => by have := (M_P_ok hw h (show j < t_n (w 46) t by omega)).2; omega) (fun j hj => by have := a5 j (by omega); omega) (by decide) (by decide)
        generalize hBb : (P_w (fun j => 10 + S_p (w 46) t o j) (t_m (w 46) t) 1000000 i).1 = Bb at hpb
        generalize hLl : (P_w (fun j => 10 + S_p (w 46) t o j) (t_m (w 46) t) 1000000 i).2 = Ll at hpb
        obtain ⟨w2, l1, l2, l3, l4⟩ := s_layRows (e := e + 17) (n := n) (im := im) (w := wi) (u := u) (t := t) (o := o) (by rw [ei]; exact hw) (by rw [ei]; exact h.1) (by rw [ei]; exact h.2.1)
        rw [ei] at l2
        have e2 : w2 46 = w 46 := (l3 46 (by decide) (by decide) (by decide)).trans ei
        obtain ⟨p1, p2, p3, p4⟩ := l2
        obtain ⟨t8, ht8, w3, rfl, j1, j2⟩ := z_for (o := z_F (e + 19)) (cd := cd_Model_pillar) (P := fun k s => ∃ wk, s = (33, [some (.ref 45), some (.int (Int32.ofInt t)), some (.int (Int32.ofInt o)), some (.int (Int32.ofInt Bb)), some (.int (Int32.ofInt Ll)), some (.int (Int32.ofInt (i : Int))), some (.int (Int32.ofInt ((i : Int) + (k : Int))))], (n, z_q im, jM wk, jL u)) ∧ (∀ c, c ≠ 53 → wk c = w2 c) ∧ ∀ j, wk 53 j = if i ≤ j ∧ j < i + k then w2 53 (j + 1) else w2 53 j) (t_n (w 46) t - 1 - i) (s := (33, [some (.ref 45), some (.int (Int32.ofInt t)), some (.int (Int32.ofInt o)), some (.int (Int32.ofInt Bb)), some (.int (Int32.ofInt Ll)), some (.int (Int32.ofInt (i : Int))), some (.int (Int32.ofInt (i : Int)))], (n, z_q im, jM w2, jL u))) ⟨_, by rw [show (i : Int) + ((0 : Nat) : Int) = (i : Int) by omega], fun _ _ => rfl, fun j => by rw [if_neg (by omega)]⟩ (fun k s hk hs => by
          obtain ⟨wk, rfl, j1, j2⟩ := hs
          have e22 : ((jM wk, jL u) : zD).1 45 22 = Int32.ofInt (t_n (w 46) t : Int) := by rw [← p1, ← j1 45 (by decide)]; rfl
          have e53 : ((jM wk, jL u) : zD).1 53 (i + k + 1) = Int32.ofInt (w2 53 (i + k + 1)) := by
            have := j2 (i + k + 1)
            rw [if_neg (by omega)] at this
            rw [← this]; rfl
          refine ⟨(33, [some (.ref 45), some (.int (Int32.ofInt t)), some (.int (Int32.ofInt o)), some (.int (Int32.ofInt Bb)), some (.int (Int32.ofInt Ll)), some (.int (Int32.ofInt (i : Int))), some (.int (Int32.ofInt ((i : Int) + (k : Int) + 1)))], (n, z_q im, jM (z_u wk 53 (i + k) (w2 53 (i + k + 1))), jL u)), z_To_1 ((e_Model_pillar_33 ..).trans ?_), _, by rw [ic, Int.add_assoc], fun c hc => by rw [z_u_ne hc]; exact j1 c hc, fun j => ?_⟩
          · rw [e22, ji_add, if_neg (ji_le_n (by omega) (by omega) (by omega)), if_neg (by simp (disch := omega) only [ji_lt0, ji_nat]; omega), if_neg (by simp (disch := omega) only [ji_lt0, ji_nat]; omega), ji_nat (by omega), ji_nat (by omega), show ((i : Int) + (k : Int) + 1).toNat = i + k + 1 by omega, show ((i : Int) + (k : Int)).toNat = i + k by omega, e53]
            simp only [jM_u]
          · rw [z_u_at]
            by_cases q : j = i + k
            · rw [if_pos q, if_pos (by omega), q]
            · rw [if_neg q, j2]
              by_cases q2 : i ≤ j ∧ j < i + k
              · rw [if_pos q2, if_pos (by omega)]
              · rw [if_neg q2, if_neg (by omega)])
        have e3 : z_u w3 45 22 ((t_n (w 46) t : Int) - 1) 46 = w 46 := (j1 46 (by decide)).trans e2
        have hRm : R_m (z_u w3 45 22 ((t_n (w 46) t : Int) - 1)) (l_o (t_m (w 46) t) i) (t_m (w 46) o) (t_n (w 46) t - 1) (t_n (w 46) o) := by
          refine ⟨?_, ?_, fun j hj => ?_, fun j hj => ?_⟩
          · rw [z_u_at, if_pos rfl]; omega
          · rw [z_u_at, if_neg (by decide), j1 45 (by decide)]; exact p2
          · rw [z_u_ne (by decide), j2]
            unfold l_o
            by_cases q : j < i
            · rw [if_pos q, if_neg (by omega)]; exact p3 j (by omega)
            · rw [if_neg q, if_pos (by omega)]; exact p3 (j + 1) (by omega)
          · rw [z_u_ne (by decide), j1 54 (by decide)]; exact p4 j hj
        obtain ⟨w4, k1, k2, k3⟩ := s_plays (e := e + 12) (n := n) (im := im) (u := u) (dr := 0) (bo := t_b (w 46) t) (ot := t_b (w 46) o) (by rw [e3]; exact hw) hRm (by rw [e3]; exact R_ok_lo (R_ok_mt hw h) hi) (Or.inl rfl) (by rw [e3]; exact a2) (by rw [e3]; exact b2) (fun q => absurd rfl q)
        rw [e3, M_F_x] at k1 k3
        have hz : z_u u 45 18 (u 45 18) = u := zu_self u 45 18
        dsimp only at k1
        rw [hz] at k1
        have hok' : T_ok 0 (t_n (w 46) t - 1) (t_n (w 46) o) ((M_P (w 46) t o i).1, (M_P (w 46) t o i).2.1, (M_P (w 46) t o i).2.2.1, u 45 18, (M_P (w 46) t o i).2.2.2.2) := ⟨hok.1.1, hok.1.2.1, hok.1.2.2.1, hok.1.2.2.2.1, fun q => absurd rfl q⟩
        have hwo := s_worth (e := e + 18) (n := n) (im := im) (w := w4) (u := u) (R_ok_lo (R_ok_mt hw h) hi).1 hok' hok.2 k3
        change (z_F (e + 19)).1 k_Model_worth [.ref 45] (n, z_q im, jM w4, jL u) = some (Int32.ofInt (10 + S_p (w 46) t o i), (n, z_q im, jM w4, jL u).2.2) at hwo
        have e4 : w4 46 = w 46 := (k2.1 46 (by decide)).trans e3
        have hfr : m_fr w w4 := by
          refine m_fr_tr (m_fr_tr i1 ⟨fun c hc => ?_, fun j hj => ?_⟩) (J_m k2)
          · rw [z_u_ne (fun q => by subst q; simp at hc), j1 c (fun q => by subst q; simp at hc), l3 c (fun q => by subst q; simp at hc) (fun q => by subst q; simp at hc) (fun q => by subst q; simp at hc)]
          · rw [z_u_at, if_neg (by omega), j1 45 (by decide), l4 j (by omega) (by omega)]
        have hx1 : z_ex none (z_F (e + 19)) cd_Model_pillar 4000 (cd_Model_pillar.drop 21) 21 [some (.ref 45), some (.int (Int32.ofInt t)), some (.int (Int32.ofInt o)), some (.int (Int32.ofInt Bb)), some (.int (Int32.ofInt Ll)), some (.int (Int32.ofInt (i : Int))), q6] [] (n, z_q im, jM wi, jL u) = some (.inr (33, [some (.ref 45), some (.int (Int32.ofInt t)), some (.int (Int32.ofInt o)), some (.int (Int32.ofInt Bb)), some (.int (Int32.ofInt Ll)), some (.int (Int32.ofInt (i : Int))), some (.int (Int32.ofInt (i : Int)))], [], (n, z_q im, jM w2, jL u))) := by
          refine (e_Model_pillar_21 ..).trans ?_
          rw [s_manyOf (by omega) (by omega), z_oI_s, ei, a3, if_neg (ji_le_n (by omega) (by omega) (by omega)), l1, z_oV_s]
        have hx2 : ∃ q7, z_ex none (z_F (e + 19)) cd_Model_pillar 4000 (cd_Model_pillar.drop 33) 33 [some (.ref 45), some (.int (Int32.ofInt t)), some (.int (Int32.ofInt o)), some (.int (Int32.ofInt Bb)), some (.int (Int32.ofInt Ll)), some (.int (Int32.ofInt (i : Int))), some (.int (Int32.ofInt ((i : Int) + ((t_n (w 46) t - 1 - i : Nat) : Int))))] [] (n, z_q im, jM w3, jL u) = some (.inr (21, [some (.ref 45), some (.int (Int32.ofInt t)), some (.int (Int32.ofInt o)), some (.int (Int32.ofInt (P_w (fun j => 10 + S_p (w 46) t o j) (t_m (w 46) t) 1000000 (i + 1)).1)), some (.int (Int32.ofInt (P_w (fun j => 10 + S_p (w 46) t o j) (t_m (w 46) t) 1000000 (i + 1)).2)), some (.int (Int32.ofInt ((i : Int) + 1))), q7], [], (n, z_q im, jM w4, jL u))) := by
          refine ⟨some (.int (Int32.ofInt ((i : Int) + ((t_n (w 46) t - 1 - i : Nat) : Int)))), (e_Model_pillar_33 ..).trans ?_⟩
          have e22 : ((jM w3, jL u) : zD).1 45 22 = Int32.ofInt (t_n (w 46) t : Int) := by rw [← p1, ← j1 45 (by decide)]; rfl
          rw [e22, ji_add, if_pos (ji_le_p (by omega) (by omega) (by omega)), ji_sub]
          simp only [jM_u]
          rw [s_boatOf (by omega) (by omega), z_oI_s, s_boatOf (by omega) (by omega), z_oI_s, e3]
          change z_oV ((z_F (e + 19)).2.2.1 k_Model_plays [.ref 45, .int (Int32.ofInt (t_b (w 46) t)), .int (Int32.ofInt (t_b (w 46) o)), .int (Int32.ofInt 0)] _) _ _ = _
          rw [k1, z_oV_s, hwo, z_oI_s, ji_add, P_w_s, hLl]
          by_cases q : 10 + S_p (w 46) t o i < Ll
          · rw [if_pos (ji_lt_p (by omega) (by omega) q), if_pos q, s_memberOf (by omega) (by omega) (by omega) (by omega), z_oI_s, hwo, z_oI_s, e4, show ((i : Int)).toNat = i by omega]
            rfl
          · rw [if_neg (ji_lt_n (by omega) (by omega) (by omega)), if_neg q, hBb, hLl]
        obtain ⟨q7, hx2⟩ := hx2
        exact ⟨_, z_To_tr (z_To_1 hx1) (z_To_tr ht8 (z_To_1 hx2)), w4, q7, rfl, hfr⟩)
      have ef : wf 46 = w 46 := i1.1 46 (by decide)
      refine ⟨wf, n_Model_pillar (z_go ((e_Model_pillar_0 ..).trans ?_) (ht9 _ (z_ret ((e_Model_pillar_21 ..).trans ?_)))), i1⟩
      · rw [s_areTeams hw ht ho, z_oI_s, if_neg (ji_b_n h), s_manyOf (by omega) (by omega), z_oI_s, a3, if_neg (ji_eq_n (by omega) (by decide) (by omega))]
      · rw [s_manyOf (by omega) (by omega), z_oI_s, ef, a3, if_pos (ji_le_p (by omega) (by omega) (by omega))]
  · rw [if_neg h]
    refine ⟨w, n_Model_pillar (z_ret ((e_Model_pillar_0 ..).trans ?_)), m_fr_rf w⟩
    rw [s_areTeams hw ht ho, z_oI_s, if_pos (ji_b_p h)]
