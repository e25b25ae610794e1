/-! wins and order: the reference -/
/-- the reference's memory at its i-th order -/
abbrev Y_i (v : Nat → Int) (t o : Int) (w : Nat → Nat → Int) (i : Nat) (wi : Nat → Nat → Int) : Prop := R_m wi (G_o v t i) (t_m v o) (t_n v t) (t_n v o) ∧ m_fr w wi
theorem Y_k {v : Nat → Int} {t o : Int} {w wi w' : Nat → Nat → Int} {F G S : Nat → Int} {n1 n2 : Nat} (hR : R_m wi F S n1 n2) (hf : m_fr w wi) (h : k_Q 53 wi n1 G w') : R_m w' G S n1 n2 ∧ m_fr w w' := by
  obtain ⟨r1, r2, r3, r4⟩ := hR
  refine ⟨⟨?_, ?_, h.2.1, ?_⟩, m_fr_tr hf ⟨fun c hc => h.1 c (fun q => by subst q; simp at hc), fun j _ => by rw [h.1 45 (by decide)]⟩⟩
  · rw [h.1 45 (by decide)]; exact r1
  · rw [h.1 45 (by decide)]; exact r2
  · rw [h.1 54 (by decide)]; exact r4
theorem s_mnext0 {e n : Nat} {im : Nat → Option Nat} {w u : Nat → Nat → Int} {t o : Int} {i : Nat} {wi : Nat → Nat → Int} (hw : a_wf (w 46)) (h : a_tt (w 46) t o) (hi : i < q_len (t_n (w 46) t)) (hX : Y_i (w 46) t o w i wi) : ∃ w', (z_F (e + 2)).1 k_Model_nextOrder [.ref 53, .int (Int32.ofInt (t_n (w 46) t : Int))] (n, z_q im, jM wi, jL u) = some (Int32.ofInt (if i + 1 = q_len (t_n (w 46) t) then 0 else 1), jM w', jL u) ∧ Y_i (w 46) t o w (i + 1) w' ∧ (∀ c, c ≠ 53 → w' c = wi c) := by
  have a4 := (t_wf hw h.1).2.2.2.1
  have hk : k_Q 53 wi (t_n (w 46) t) (G_o (w 46) t i) wi := ⟨fun _ _ => rfl, hX.1.2.2.1, R_ok_v hw (G_ok hw h i).2⟩
  obtain ⟨w', k1, k2⟩ := s_nextOrder_53 (e := e) (n := n) (im := im) (u := u) a4 hk
  rw [G_more hw h.1 i hi] at k1
  obtain ⟨c1, c2⟩ := Y_k (v := w 46) (t := t) (o := o) hX.1 hX.2 k2
  exact ⟨w', k1, ⟨c1, c2⟩, k2.1⟩
theorem s_worth2 {e n : Nat} {im : Nat → Option Nat} {w u : Nat → Nat → Int} {n1 n2 : Nat} {T : zT} {dr : Int} (hT : T_ok dr n1 n2 T) (he : ¬ (T.1 < n1 ∧ T.2.1 < n2)) (c2 : w 45 30 = O_w n1 n2 T 0) (c3 : w 45 31 = O_w n1 n2 T 1) : (z_F (e + 1)).1 k_Model_worth [.ref 45] (n, z_q im, jM w, jL u) = some (Int32.ofInt (10 + Z_s n1 n2 T), jM w, jL u) := by
  have g1 := hT.1
  have g2 := hT.2.1
  refine q_Model_worth ?_
  simp only [jM_at, c2, c3]
  unfold O_w Z_s
  rw [if_pos rfl, if_neg (show ¬ (1 : Int) = 0 by decide), if_pos rfl]
  by_cases q1 : T.1 < n1
  · rw [if_pos q1, if_pos q1, if_pos (ji_eq0_p (by decide) rfl), ji_add, show (n1 : Int) - (T.1 : Int) - ((n2 : Int) - (T.2.1 : Int)) = (n1 : Int) - (T.1 : Int) by omega]
  · rw [if_neg q1, if_neg q1]
    by_cases q2 : T.2.1 < n2
    · rw [if_pos q2, if_neg (ji_eq0_n (by decide) (by decide)), if_neg (ji_eq_n (by decide) (by decide) (by decide)), ji_sub, show (10 : Int) - ((n2 : Int) - (T.2.1 : Int)) = 10 + ((n1 : Int) - (T.1 : Int) - ((n2 : Int) - (T.2.1 : Int))) by omega]
    · rw [if_neg q2, if_neg (ji_eq0_n (by decide) (by decide)), if_pos (ji_eq_p (by decide) (by decide) rfl), show 10 + ((n1 : Int) - (T.1 : Int) - ((n2 : Int) - (T.2.1 : Int))) = 10 by omega]
theorem s_mplay0 {e n : Nat} {im : Nat → Option Nat} {w u : Nat → Nat → Int} {t o : Int} {i : Nat} {wi : Nat → Nat → Int} (hw : a_wf (w 46)) (h : a_tt (w 46) t o) (hX : Y_i (w 46) t o w i wi) : ∃ w', (z_F (e + 7)).2.2.1 k_Model_plays [.ref 45, .int (Int32.ofInt (t_b (w 46) t)), .int (Int32.ofInt (t_b (w 46) o)), .int (Int32.ofInt 0)] (n, z_q im, jM wi, jL u) = some (jM w', jL u) ∧ Y_i (w 46) t o w i w' ∧ J_f wi w' ∧ w' 45 30 = (if 0 < S_o (w 46) t o i then 0 else if S_o (w 46) t o i = 0 then 2 else 1) ∧ ∀ (e' : Nat) (w2 : Nat → Nat → Int), w2 45 30 = w' 45 30 → w2 45 31 = w' 45 31 → (z_F (e' + 1)).1 k_Model_worth [.ref 45] (n, z_q im, jM w2, jL u) = some (Int32.ofInt (10 + S_o (w 46) t o i), jM w2, jL u) := by
  obtain ⟨a1, a2, a3, a4, a5, a6⟩ := t_wf hw h.1
  obtain ⟨b1, b2, b3, b4, b5, b6⟩ := t_wf hw h.2.1
  have ei : wi 46 = w 46 := hX.2.1 46 (by decide)
  have hR := (G_ok hw h i).2
  obtain ⟨w', k1, k2, k3⟩ := s_plays (e := e) (n := n) (im := im) (w := wi) (u := u) (dr := 0) (bo := t_b (w 46) t) (ot := t_b (w 46) o) (by rw [ei]; exact hw) hX.1 (by rw [ei]; exact hR) (Or.inl rfl) (by rw [ei]; exact a2) (by rw [ei]; exact b2) (fun q => absurd rfl q)
  rw [ei, M_F_x] at k1 k3
  dsimp only at k1
  rw [zu_self] at k1
  have hok := M_F_ok (dr := 0) (x := 0) (bo := t_b (w 46) t) (ot := t_b (w 46) o) hw hR (fun q => absurd rfl q)
  generalize hT : M_F (w 46) 0 0 (t_b (w 46) t) (t_b (w 46) o) (G_o (w 46) t i) (t_m (w 46) o) (t_n (w 46) t) (t_n (w 46) o) = T at k3 hok
  have hS : S_o (w 46) t o i = Z_s (t_n (w 46) t) (t_n (w 46) o) T := by rw [← hT]; rfl
  have hok' : T_ok 0 (t_n (w 46) t) (t_n (w 46) o) (T.1, T.2.1, T.2.2.1, u 45 18, T.2.2.2.2) := ⟨hok.1.1, hok.1.2.1, hok.1.2.2.1, hok.1.2.2.2.1, fun q => absurd rfl q⟩
  refine ⟨w', k1, ⟨J_R k2 hX.1, m_fr_tr hX.2 (J_m k2)⟩, k2, ?_, fun e' w2 x y => ?_⟩
  · rw [k3.2.1, hS]
    have g1 := hok.1.1
    have g2 := hok.1.2.1
    have g3 := hok.2
    unfold O_w Z_s
    rw [if_pos rfl]
    dsimp only
    (repeat' split) <;> omega
  · have := s_worth2 (e := e') (n := n) (im := im) (w := w2) (u := u) hok' hok.2 (x.trans k3.2.1) (y.trans k3.2.2)
    rw [this, hS]
    rfl
theorem Y_u {v : Nat → Int} {t o : Int} {w wi : Nat → Nat → Int} {i j : Nat} (hX : Y_i v t o w i wi) (x : Int) (hj : j = 33 ∨ j = 34) : Y_i v t o w i (z_u wi 45 j x) := by
  obtain ⟨⟨r1, r2, r3, r4⟩, hf⟩ := hX
  refine ⟨⟨?_, ?_, r3, r4⟩, m_fr_tr hf ⟨fun c hc => ?_, fun j hj => ?_⟩⟩
  · rw [z_u_at, if_neg (by omega)]; exact r1
  · rw [z_u_at, if_neg (by omega)]; exact r2
  · have : c ≠ 45 := fun q => by subst q; simp at hc
    rw [z_u_ne this]
  · rw [z_u_at, if_neg (by omega)]
/-- the best order written down -/
theorem l_best {e n : Nat} {im : Nat → Option Nat} {w u : Nat → Nat → Int} {t o : Int} {i : Nat} {wi : Nat → Nat → Int} (hw : a_wf (w 46)) (h : a_tt (w 46) t o) (hX : Y_i (w 46) t o w i wi) : ∃ w', z_To (z_F (e + 19)) cd_Model_ordersOf (44, [some (.ref 45), some (.int (Int32.ofInt t)), some (.int (Int32.ofInt o)), some (.int (Int32.ofInt 0))], (n, z_q im, jM wi, jL u)) (44, [some (.ref 45), some (.int (Int32.ofInt t)), some (.int (Int32.ofInt o)), some (.int (Int32.ofInt (t_n (w 46) t : Int)))], (n, z_q im, jM w', jL u)) ∧ Y_i (w 46) t o w i w' ∧ (∀ c, c ≠ 60 → w' c = wi c) ∧ ∀ j, j < t_n (w 46) t → w' 60 j = G_o (w 46) t i j := by
  have a4 := (t_wf hw h.1).2.2.2.1
  obtain ⟨t9, ht9, wf, rfl, i1, i2⟩ := z_for (o := z_F (e + 19)) (cd := cd_Model_ordersOf) (P := fun k s => ∃ wk, s = (44, [some (.ref 45), some (.int (Int32.ofInt t)), some (.int (Int32.ofInt o)), some (.int (Int32.ofInt (k : Int)))], (n, z_q im, jM wk, jL u)) ∧ (∀ c, c ≠ 60 → wk c = wi c) ∧ ∀ j, j < k → wk 60 j = G_o (w 46) t i j) (t_n (w 46) t) (s := (44, [some (.ref 45), some (.int (Int32.ofInt t)), some (.int (Int32.ofInt o)), some (.int (Int32.ofInt 0))], (n, z_q im, jM wi, jL u))) ⟨wi, rfl, fun _ _ => rfl, fun j hj => absurd hj (by omega)⟩ (fun k s hk hs => by
    obtain ⟨wk, rfl, i1, i2⟩ := hs
    have n1 : Int32.toNatClampNeg (Int32.ofInt (k : Int)) = k := (ji_nat (by omega)).trans (by omega)
    have g1 : ¬ (Int32.ofInt (k : Int) < 0 ∨ 5 ≤ k) := by simp (disch := omega) only [ji_lt0]; omega
    have e22 : ((jM wk, jL u) : zD).1 45 22 = Int32.ofInt (t_n (w 46) t : Int) := by rw [← hX.1.1, ← i1 45 (by decide)]; rfl
    have e53 : ((jM wk, jL u) : zD).1 53 k = Int32.ofInt (G_o (w 46) t i k) := by rw [← hX.1.2.2.1 k hk, ← i1 53 (by decide)]; rfl
    refine ⟨(44, [some (.ref 45), some (.int (Int32.ofInt t)), some (.int (Int32.ofInt o)), some (.int (Int32.ofInt ((k : Int) + 1)))], (n, z_q im, jM (z_u wk 60 k (G_o (w 46) t i k)), jL u)), z_To_1 ((e_Model_ordersOf_44 ..).trans ?_), _, rfl, fun c hc => by rw [z_u_ne hc]; exact i1 c hc, fun j hj => ?_⟩
    · rw [e22, if_neg (ji_le_n (by omega) (by omega) (by omega)), n1, if_neg g1, if_neg g1, e53, ji_add]
      simp only [jM_u]
    · rw [z_u_at]
      split
      · rename_i q; rw [q]
      · exact i2 j (by omega))
  refine ⟨wf, ht9, ?_, i1, i2⟩
  obtain ⟨⟨r1, r2, r3, r4⟩, hf⟩ := hX
  refine ⟨⟨?_, ?_, ?_, ?_⟩, m_fr_tr hf ⟨fun c hc => i1 c (fun q => by subst q; simp at hc), fun j _ => by rw [i1 45 (by decide)]⟩⟩
  · rw [i1 45 (by decide)]; exact r1
  · rw [i1 45 (by decide)]; exact r2
  · rw [i1 53 (by decide)]; exact r3
  · rw [i1 54 (by decide)]; exact r4
def Fin_o (v : Nat → Int) (t o : Int) (w wf : Nat → Nat → Int) : Prop := m_fr w wf ∧ wf 45 22 = (t_n v t : Int) ∧ wf 45 34 = W_c (S_o v t o) (q_len (t_n v t)) ∧ ∀ j, j < t_n v t → wf 60 j = G_o v t (P_x (fun j => 10 + S_o v t o j) (-1) (q_len (t_n v t))).1 j
theorem l_orders {e n : Nat} {im : Nat → Option Nat} {w u : Nat → Nat → Int} {t o : Int} (hw : a_wf (w 46)) (h : a_tt (w 46) t o) : ∀ (m i : Nat) (wi : Nat → Nat → Int) (q3 : Option Value), i + m = q_len (t_n (w 46) t) → 1 ≤ m → Y_i (w 46) t o w i wi → wi 45 34 = W_c (S_o (w 46) t o) i → wi 45 33 = (P_x (fun j => 10 + S_o (w 46) t o j) (-1) i).2 → (1 ≤ i → ∀ j, j < t_n (w 46) t → wi 60 j = G_o (w 46) t (P_x (fun j => 10 + S_o (w 46) t o j) (-1) i).1 j) → ∃ wf, z_Rn (z_F (e + 19)) cd_Model_ordersOf 16 [some (.ref 45), some (.int (Int32.ofInt t)), some (.int (Int32.ofInt o)), q3] (n, z_q im, jM wi, jL u) (none, (n, z_q im, jM wf, jL u)) ∧ Fin_o (w 46) t o w wf
  | 0, i, wi, q3, hm, h1, hX, hc, hb, hr => absurd h1 (by decide)
  | m + 1, i, wi, q3, hm, h1, hX, hc, hb, hr => by
    obtain ⟨a1, a2, a3, a4, a5, a6⟩ := t_wf hw h.1
    obtain ⟨b1, b2, b3, b4, b5, b6⟩ := t_wf hw h.2.1
    have ei : wi 46 = w 46 := hX.2.1 46 (by decide)
    obtain ⟨w1, p1, p2, p3, p4, p5⟩ := s_mplay0 (e := e + 12) (n := n) (im := im) (u := u) hw h hX
    have hSb := S_o_b hw h i
    have hWb := W_c_b (S_o (w 46) t o) i
    have hLb := q_len_b a4
    have hpb := P_x_b (f := fun j => 10 + S_o (w 46) t o j) (l := -1) (lo := -1) (hi := 15) (by decide) (by decide) i (fun j hj => by have := S_o_b hw h j; omega)
    have c34 : w1 45 34 = W_c (S_o (w 46) t o) i := by rw [p3.2 34 (by decide) (by decide) (by decide) (by decide) (by decide) (by decide)]; exact hc
    have c33 : w1 45 33 = (P_x (fun j => 10 + S_o (w 46) t o j) (-1) i).2 := by rw [p3.2 33 (by decide) (by decide) (by decide) (by decide) (by decide) (by decide)]; exact hb
    have c60 : w1 60 = wi 60 := p3.1 60 (by decide)
    have hPs := P_x_s (fun j => 10 + S_o (w 46) t o j) (-1) i
    have hB0 : i = 0 → (P_x (fun j => 10 + S_o (w 46) t o j) (-1) i).2 = -1 := fun q => by rw [q]; rfl
    generalize hB : P_x (fun j => 10 + S_o (w 46) t o j) (-1) i = B at hpb c33 hPs hr hB0
    obtain ⟨w2, hw2⟩ : ∃ w2, w2 = z_u w1 45 34 (W_c (S_o (w 46) t o) (i + 1)) := ⟨_, rfl⟩
    have y2 : Y_i (w 46) t o w i w2 := by rw [hw2]; exact Y_u p2 _ (Or.inr rfl)
    have d33 : w2 45 33 = B.2 := by rw [hw2, z_u_at, if_neg (by decide)]; exact c33
    have d34 : w2 45 34 = W_c (S_o (w 46) t o) (i + 1) := by rw [hw2, z_u_at, if_pos rfl]
    have d60 : w2 60 = wi 60 := by rw [hw2, z_u_ne (by decide)]; exact c60
    have d30 : w2 45 30 = w1 45 30 := by rw [hw2, z_u_at, if_neg (by decide)]
    have d31 : w2 45 31 = w1 45 31 := by rw [hw2, z_u_at, if_neg (by decide)]
    have fin : ∀ (w3 : Nat → Nat → Int) (q' : Option Value), Y_i (w 46) t o w i w3 → w3 45 34 = W_c (S_o (w 46) t o) (i + 1) → (∀ j, j < t_n (w 46) t → w3 60 j = G_o (w 46) t (P_x (fun j => 10 + S_o (w 46) t o j) (-1) (i + 1)).1 j) → ∃ w5, (z_F (e + 19)).1 k_Model_nextOrder [.ref 53, .int (Int32.ofInt (t_n (w 46) t : Int))] (n, z_q im, jM (z_u w3 45 33 (P_x (fun j => 10 + S_o (w 46) t o j) (-1) (i + 1)).2), jL u) = some (Int32.ofInt (if i + 1 = q_len (t_n (w 46) t) then 0 else 1), jM w5, jL u) ∧ (i + 1 = q_len (t_n (w 46) t) → Fin_o (w 46) t o w w5) ∧ (i + 1 ≠ q_len (t_n (w 46) t) → ∃ wf, z_Rn (z_F (e + 19)) cd_Model_ordersOf 16 [some (.ref 45), some (.int (Int32.ofInt t)), some (.int (Int32.ofInt o)), q'] (n, z_q im, jM w5, jL u) (none, (n, z_q im, jM wf, jL u)) ∧ Fin_o (w 46) t o w wf) := fun w3 q' hy h34 h60 => by
      obtain ⟨w5, x1, x2, x3⟩ := s_mnext0 (e := e + 17) (n := n) (im := im) (u := u) hw h (show i < q_len (t_n (w 46) t) by omega) (Y_u hy (P_x (fun j => 10 + S_o (w 46) t o j) (-1) (i + 1)).2 (Or.inl rfl))
      have z34 : w5 45 34 = W_c (S_o (w 46) t o) (i + 1) := by rw [x3 45 (by decide), z_u_at, if_neg (by decide)]; exact h34
      have z33 : w5 45 33 = (P_x (fun j => 10 + S_o (w 46) t o j) (-1) (i + 1)).2 := by rw [x3 45 (by decide), z_u_at, if_pos rfl]
      have z60 : ∀ j, j < t_n (w 46) t → w5 60 j = G_o (w 46) t (P_x (fun j => 10 + S_o (w 46) t o j) (-1) (i + 1)).1 j := by rw [x3 60 (by decide), z_u_ne (by decide)]; exact h60
      refine ⟨w5, x1, fun q => ?_, fun q => ?_⟩
      · rw [q] at z34 z60
        exact ⟨x2.2, x2.1.1, z34, z60⟩
      · exact l_orders hw h m (i + 1) w5 q' (by omega) (by omega) x2 z34 z33 (fun _ => z60)
    have mx : (if Int32.ofInt B.2 < Int32.ofInt (10 + S_o (w 46) t o i) then Int32.ofInt (10 + S_o (w 46) t o i) else Int32.ofInt B.2) = Int32.ofInt (P_x (fun j => 10 + S_o (w 46) t o j) (-1) (i + 1)).2 := by
      rw [hPs]
      by_cases q : B.2 < 10 + S_o (w 46) t o i
      · rw [if_pos (ji_lt_p (by omega) (by omega) q), if_pos q]
      · rw [if_neg (ji_lt_n (by omega) (by omega) q), if_neg q]
    have hx : z_ex none (z_F (e + 19)) cd_Model_ordersOf 4000 (cd_Model_ordersOf.drop 16) 16 [some (.ref 45), some (.int (Int32.ofInt t)), some (.int (Int32.ofInt o)), q3] [] (n, z_q im, jM wi, jL u) = if 10 + S_o (w 46) t o i ≤ B.2 then (z_oI ((z_F (e + 19)).1 k_Model_nextOrder [.ref 53, .int (Int32.ofInt (t_n (w 46) t : Int))] (n, z_q im, jM (z_u w2 45 33 (P_x (fun j => 10 + S_o (w 46) t o j) (-1) (i + 1)).2), jL u)) none (fun v17 d16 => if v17 = 0 then some (.inl (none, (n, z_q im, d16))) else some (.inr (16, [some (.ref 45), some (.int (Int32.ofInt t)), some (.int (Int32.ofInt o)), q3], [], (n, z_q im, d16))))) else some (.inr (44, [some (.ref 45), some (.int (Int32.ofInt t)), some (.int (Int32.ofInt o)), some (.int (Int32.ofInt 0))], [], (n, z_q im, jM w2, jL u))) := by
      refine (e_Model_ordersOf_16 ..).trans ?_
      rw [s_boatOf (by omega) (by omega), z_oI_s, s_boatOf (by omega) (by omega), z_oI_s, ei]
      change z_oV ((z_F (e + 19)).2.2.1 k_Model_plays [.ref 45, .int (Int32.ofInt (t_b (w 46) t)), .int (Int32.ofInt (t_b (w 46) o)), .int (Int32.ofInt 0)] _) _ _ = _
      have e30 : ((jM w1, jL u) : zD).1 45 30 = Int32.ofInt (if 0 < S_o (w 46) t o i then 0 else if S_o (w 46) t o i = 0 then 2 else 1) := by rw [← p4]; rfl
      have e34 : ((jM w1, jL u) : zD).1 45 34 = Int32.ofInt (W_c (S_o (w 46) t o) i) := by rw [← c34]; rfl
      have f33 : ((jM w2, jL u) : zD).1 45 33 = Int32.ofInt B.2 := by rw [← d33]; rfl
      have f22 : ((jM w2, jL u) : zD).1 45 22 = Int32.ofInt (t_n (w 46) t : Int) := by rw [← y2.1.1]; rfl
      have hWs : W_c (S_o (w 46) t o) (i + 1) = W_c (S_o (w 46) t o) i + (if 0 < S_o (w 46) t o i then 1 else 0) := rfl
      rw [p1, z_oV_s, e30, e34, ji_add, ji_add]
      by_cases q : 0 < S_o (w 46) t o i
      · rw [if_pos q] at hWs
        rw [if_pos q, if_pos (show Int32.ofInt 0 = 0 from rfl), jM_u, ← hWs, ← hw2, p5 _ w2 d30 d31, z_oI_s, p5 _ w2 d30 d31, z_oI_s, f33, mx, f22, jM_u]
        by_cases q2 : 10 + S_o (w 46) t o i ≤ B.2
        · rw [if_pos (ji_le_p (by omega) (by omega) q2), if_pos q2]
        · rw [if_neg (ji_le_n (by omega) (by omega) q2), if_neg q2]
      · rw [if_neg q] at hWs
        have g0 : ¬ Int32.ofInt (if S_o (w 46) t o i = 0 then 2 else 1) = 0 := by split <;> decide
        rw [if_neg q, if_neg g0, jM_u, ← hWs, ← hw2, p5 _ w2 d30 d31, z_oI_s, p5 _ w2 d30 d31, z_oI_s, f33, mx, f22, jM_u]
        by_cases q2 : 10 + S_o (w 46) t o i ≤ B.2
        · rw [if_pos (ji_le_p (by omega) (by omega) q2), if_pos q2]
        · rw [if_neg (ji_le_n (by omega) (by omega) q2), if_neg q2]
    by_cases q2 : 10 + S_o (w 46) t o i ≤ B.2
    · rw [if_pos q2] at hx
      have hi1 : 1 ≤ i := by
        by_cases q0 : i = 0
        · have := hB0 q0; omega
        · omega
      have hPB : P_x (fun j => 10 + S_o (w 46) t o j) (-1) (i + 1) = B := by rw [hPs, if_neg (by omega)]
      obtain ⟨w5, x1, x2, x3⟩ := fin w2 q3 y2 d34 (by rw [hPB, d60]; exact hr hi1)
      rw [x1, z_oI_s] at hx
      by_cases q : i + 1 = q_len (t_n (w 46) t)
      · rw [if_pos q, if_pos (show Int32.ofInt 0 = 0 from rfl)] at hx
        exact ⟨w5, z_ret hx, x2 q⟩
      · rw [if_neg q, if_neg (show ¬ Int32.ofInt 1 = 0 by decide)] at hx
        obtain ⟨wf, r1, r2⟩ := x3 q
        exact ⟨wf, z_go hx r1, r2⟩
    · rw [if_neg q2] at hx
      have hPB : P_x (fun j => 10 + S_o (w 46) t o j) (-1) (i + 1) = (i, 10 + S_o (w 46) t o i) := by rw [hPs, if_pos (by omega)]
      obtain ⟨w3, l1, l2, l3, l4⟩ := l_best (e := e) (n := n) (im := im) (u := u) hw h y2
      obtain ⟨w5, x1, x2, x3⟩ := fin w3 (some (.int (Int32.ofInt (t_n (w 46) t : Int)))) l2 (by rw [l3 45 (by decide)]; exact d34) (by rw [hPB]; exact l4)
      have f33 : ((jM w3, jL u) : zD).1 45 33 = Int32.ofInt B.2 := by rw [← d33, ← l3 45 (by decide)]; rfl
      have f22 : ((jM w3, jL u) : zD).1 45 22 = Int32.ofInt (t_n (w 46) t : Int) := by rw [← l2.1.1]; rfl
      have hx2 : z_ex none (z_F (e + 19)) cd_Model_ordersOf 4000 (cd_Model_ordersOf.drop 44) 44 [some (.ref 45), some (.int (Int32.ofInt t)), some (.int (Int32.ofInt o)), some (.int (Int32.ofInt (t_n (w 46) t : Int)))] [] (n, z_q im, jM w3, jL u) = if i + 1 = q_len (t_n (w 46) t) then some (.inl (none, (n, z_q im, jM w5, jL u))) else some (.inr (16, [some (.ref 45), some (.int (Int32.ofInt t)), some (.int (Int32.ofInt o)), some (.int (Int32.ofInt (t_n (w 46) t : Int)))], [], (n, z_q im, jM w5, jL u))) := by
        refine (e_Model_ordersOf_44 ..).trans ?_
        rw [f22, if_pos (ji_le_p (by omega) (by omega) (by omega)), p5 _ w3 (by rw [l3 45 (by decide)]; exact d30) (by rw [l3 45 (by decide)]; exact d31), z_oI_s, f33, mx, f22, jM_u, x1, z_oI_s]
        by_cases q : i + 1 = q_len (t_n (w 46) t)
        · rw [if_pos q, if_pos q, if_pos (show Int32.ofInt 0 = 0 from rfl)]
        · rw [if_neg q, if_neg q, if_neg (show ¬ Int32.ofInt 1 = 0 by decide)]
      by_cases q : i + 1 = q_len (t_n (w 46) t)
      · rw [if_pos q] at hx2
        exact ⟨w5, z_go hx (l1 _ (z_ret hx2)), x2 q⟩
      · rw [if_neg q] at hx2
        obtain ⟨wf, r1, r2⟩ := x3 q
        exact ⟨wf, z_go hx (l1 _ (z_go hx2 r1)), r2⟩
theorem s_ordersOf {e n : Nat} {im : Nat → Option Nat} {w u : Nat → Nat → Int} {t o : Int} (hw : a_wf (w 46)) (h : a_tt (w 46) t o) : ∃ w', (z_F (e + 20)).2.2.1 k_Model_ordersOf [.ref 45, .int (Int32.ofInt t), .int (Int32.ofInt o)] (n, z_q im, jM w, jL u) = some (jM w', jL u) ∧ Fin_o (w 46) t o w w' := by
  obtain ⟨a1, a2, a3, a4, a5, a6⟩ := t_wf hw h.1
  have hLb := q_len_b a4
  obtain ⟨w1, l1, l2, l3, l4⟩ := s_layRows (e := e + 17) (n := n) (im := im) (u := u) hw h.1 h.2.1
  have hf1 : m_fr w w1 := ⟨fun c hc => l3 c (fun q => by subst q; simp at hc) (fun q => by subst q; simp at hc) (fun q => by subst q; simp at hc), fun j hj => l4 j (by omega) (by omega)⟩
  obtain ⟨w2, s1, s2⟩ := s_sort_53 (e := e + 18) (n := n) (im := im) (w := w1) (u := u) a4 l2.2.2.1 (R_ok_v hw (R_ok_mt hw h))
  have y2 : Y_i (w 46) t o w 0 w2 := Y_k (v := w 46) (t := t) (o := o) l2 hf1 s2
  obtain ⟨wf, r1, r2⟩ := l_orders (e := e) (n := n) (im := im) (u := u) hw h (q_len (t_n (w 46) t)) 0 (z_u (z_u w2 45 33 (-1)) 45 34 0) none (by omega) hLb.1 (Y_u (Y_u y2 _ (Or.inl rfl)) _ (Or.inr rfl)) rfl rfl (fun q => absurd q (by decide))
  refine ⟨wf, n_Model_ordersOf (z_go ((e_Model_ordersOf_0 ..).trans ?_) r1), r2⟩
  have e22 : ((jM w1, jL u) : zD).1 45 22 = Int32.ofInt (t_n (w 46) t : Int) := by rw [← l2.1]; rfl
  rw [l1, z_oV_s, e22, s1, z_oV_s, jM_u, jM_u]
theorem m_wins {e n : Nat} {im : Nat → Option Nat} {w u : Nat → Nat → Int} {t o : Int} (hw : a_wf (w 46)) (ht : jR t) (ho : jR o) : ∃ w', (z_F (e + 21)).1 k_Model_wins [.ref 45, .int (Int32.ofInt t), .int (Int32.ofInt o)] (n, z_q im, jM w, jL u) = some (Int32.ofInt (V_wins (w 46) t o), jM w', jL u) ∧ m_fr w w' := by
  unfold V_wins
  by_cases h : a_tt (w 46) t o
  · rw [if_pos h]
    obtain ⟨w1, k1, k2⟩ := s_ordersOf (e := e) (n := n) (im := im) (u := u) hw h
    refine ⟨w1, q_Model_wins ?_, k2.1⟩
    rw [s_areTeams hw ht ho, z_oI_s, if_neg (ji_b_n h), k1, z_oV_s, ← k2.2.2.1]
    rfl
  · rw [if_neg h]
    refine ⟨w, q_Model_wins ?_, m_fr_rf w⟩
    rw [s_areTeams hw ht ho, z_oI_s, if_pos (ji_b_p h)]
theorem m_order {e n : Nat} {im : Nat → Option Nat} {w u : Nat → Nat → Int} {t o i : Int} (hw : a_wf (w 46)) (ht : jR t) (ho : jR o) (hi : jR i) : ∃ w', (z_F (e + 21)).1 k_Model_order [.ref 45, .int (Int32.ofInt t), .int (Int32.ofInt o), .int (Int32.ofInt i)] (n, z_q im, jM w, jL u) = some (Int32.ofInt (V_order (w 46) t o i), jM w', jL u) ∧ m_fr w w' := by
  unfold V_order
  by_cases h : a_tt (w 46) t o
  · rw [if_pos h]
    obtain ⟨a1, a2, a3, a4, a5, a6⟩ := t_wf hw h.1
    have hLb := q_len_b a4
    obtain ⟨w1, k1, k2⟩ := s_ordersOf (e := e) (n := n) (im := im) (u := u) hw h
    have e22 : ((jM w1, jL u) : zD).1 45 22 = Int32.ofInt (t_n (w 46) t : Int) := by rw [← k2.2.1]; rfl
    have hP : (P_x (S_o (w 46) t o) (-6) (q_len (t_n (w 46) t))).1 = (P_x (fun j => 10 + S_o (w 46) t o j) (-1) (q_len (t_n (w 46) t))).1 := by
      obtain ⟨N, hN⟩ : ∃ N, q_len (t_n (w 46) t) = N + 1 := ⟨q_len (t_n (w 46) t) - 1, by omega⟩
      have := S_o_b hw h 0
      rw [hN, P_x_eq (f := S_o (w 46) t o) (l := -6) (l' := -1) (c := 10) (by omega) (by omega) N]
    refine ⟨w1, q_Model_order ?_, k2.1⟩
    rw [s_areTeams hw ht ho, z_oI_s, if_neg (ji_b_n h), k1, z_oV_s, e22, ji_sub, jl_of hi, jl_of (by omega), kl_0, s_in (by omega) (by decide) (by omega), z_oI_s]
    by_cases q : 0 ≤ i ∧ i < (t_n (w 46) t : Int)
    · have g : ¬ (Int32.ofInt i < 0 ∨ 5 ≤ i.toNat) := by simp (disch := omega) only [ji_lt0]; omega
      rw [if_pos q, if_neg (ji_b_n (by omega)), ji_nat (by omega), if_neg g, hP, ← k2.2.2.2 i.toNat (by omega)]
      rfl
    · rw [if_neg q, if_pos (ji_b_p (by omega))]
  · rw [if_neg h]
    refine ⟨w, q_Model_order ?_, m_fr_rf w⟩
    rw [s_areTeams hw ht ho, z_oI_s, if_pos (ji_b_p h)]
