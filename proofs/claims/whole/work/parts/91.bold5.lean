/-! bold and sure: the reference -/
def B_f (w wi : Nat → Nat → Int) : Prop := (∀ c, c ∉ [45, 54, 55, 56, 57, 58, 59] → wi c = w c) ∧ ∀ j, j ≠ 15 → j ≠ 16 → j ≠ 17 → j ≠ 29 → j ≠ 30 → j ≠ 31 → wi 45 j = w 45 j
theorem B_f_tr {w w1 w2 : Nat → Nat → Int} (h1 : B_f w w1) (h2 : B_f w1 w2) : B_f w w2 := ⟨fun c hc => (h2.1 c hc).trans (h1.1 c hc), fun j a1 a2 a3 a4 a5 a6 => (h2.2 j a1 a2 a3 a4 a5 a6).trans (h1.2 j a1 a2 a3 a4 a5 a6)⟩
theorem B_f_J {w wi : Nat → Nat → Int} (h : J_f w wi) : B_f w wi := ⟨fun c hc => h.1 c (fun q => hc (by simp at q; rcases q with rfl | rfl | rfl | rfl | rfl | rfl <;> simp)), h.2⟩
theorem B_f_k {w wi : Nat → Nat → Int} {m : Nat} {F : Nat → Int} (h : k_Q 54 w m F wi) : B_f w wi := ⟨fun c hc => h.1 c (fun q => by subst q; simp at hc), fun j _ _ _ _ _ _ => by rw [h.1 45 (by decide)]⟩
theorem B_f_m {w wi : Nat → Nat → Int} (h : B_f w wi) : m_fr w wi := ⟨fun c hc => h.1 c (fun q => hc (by simp at q; rcases q with rfl | rfl | rfl | rfl | rfl | rfl | rfl <;> simp)), fun j hj => h.2 j (by omega) (by omega) (by omega) (by omega) (by omega) (by omega)⟩
/-- rows of the same men, with the same sums -/
def K_e (n2 : Nat) (S X : Nat → Int) : Prop := q_pm n2 S X ∧ ∀ v bo ot G n1, K_w v bo ot G X n1 n2 = K_w v bo ot G S n1 n2
theorem K_e_so {n2 : Nat} {S X : Nat → Int} (h2 : 1 ≤ n2 ∧ n2 ≤ 5) (h : K_e n2 S X) (k : Nat) : K_e n2 S (q_it n2 (q_so X n2) k) := ⟨q_pm_tr h.1 (q_pm_tr (q_pm_so _ (Nat.le_refl _)) (q_pm_it _ h2.1 k)), fun v bo ot G n1 => by rw [W_it h2 k, W_so h2.2 n2 (Nat.le_refl _), h.2]⟩
theorem R_ok_p2 {v : Nat → Int} {F S X : Nat → Int} {n1 n2 : Nat} (h : R_ok v F S n1 n2) (hp : q_pm n2 S X) : R_ok v F X n1 n2 := by
  obtain ⟨h1, h2, h3, h4⟩ := h
  refine ⟨h1, h2, fun i hi => ?_, fun i k hi hk => ?_⟩
  · obtain ⟨j, j1, j2⟩ := hp.1 i hi
    rw [j2]; exact h3 j j1
  · obtain ⟨j, j1, j2⟩ := hp.1 k hk
    rw [j2]; exact h4 i j hi j1
theorem R_ok_v2 {v : Nat → Int} {F S : Nat → Int} {n1 n2 : Nat} (hw : a_wf v) (h : R_ok v F S n1 n2) : ∀ j, j < n2 → 0 ≤ S j ∧ S j ≤ 9 := fun j hj => by
  have := h.2.2.1 j hj
  have := hw.2.2.2.2.2.2.2.1
  omega
theorem R_m_k {wi w' : Nat → Nat → Int} {F S X : Nat → Int} {n1 n2 : Nat} (h : R_m wi F S n1 n2) (hk : k_Q 54 wi n2 X w') : R_m w' F X n1 n2 := by
  obtain ⟨r1, r2, r3, r4⟩ := h
  refine ⟨?_, ?_, ?_, hk.2.1⟩
  · rw [hk.1 45 (by decide)]; exact r1
  · rw [hk.1 45 (by decide)]; exact r2
  · rw [hk.1 53 (by decide)]; exact r3
theorem q_more {n2 : Nat} {X : Nat → Int} (h2 : 1 ≤ n2 ∧ n2 ≤ 5) (hX : ∀ i j, i < j → j < n2 → X i ≠ X j) (k : Nat) (hk : k < q_len n2) : (if q_pv (q_it n2 (q_so X n2) k) (n2 - 1) = -1 then (0 : Int) else 1) = if k + 1 = q_len n2 then 0 else 1 := by
  obtain ⟨q1, q2⟩ := q_all h2 hX
  by_cases q : k + 1 = q_len n2
  · rw [if_pos q, if_pos]
    rw [show k = q_len n2 - 1 by omega]
    exact q2
  · rw [if_neg q, if_neg (q1 k (by omega))]
theorem l_mbo {e n : Nat} {im : Nat → Option Nat} {w u : Nat → Nat → Int} {t o : Int} {G X : Nat → Int} {n1 n2 : Nat} (hw : a_wf (w 46)) (ht : t_in (w 46) t) (ho : t_in (w 46) o) (h2 : 1 ≤ n2 ∧ n2 ≤ 5) (hR : R_ok (w 46) G X n1 n2) (hX : ∀ i j, i < j → j < n2 → X i ≠ X j) : ∀ (m k : Nat) (wi : Nat → Nat → Int), k + m = q_len n2 → 1 ≤ m → R_m wi G (q_it n2 (q_so X n2) k) n1 n2 → B_f w wi → ∃ wf, z_Rn (z_F (e + 7)) cd_Model_beatenOrders 8 [some (.ref 45), some (.int (Int32.ofInt t)), some (.int (Int32.ofInt o)), some (.int (Int32.ofInt (s_n (fun k => W_f (w 46) (t_b (w 46) t) (t_b (w 46) o) G n1 n2 (q_it n2 (q_so X n2) k)) k)))] (n, z_q im, jM wi, jL u) (some (.int (Int32.ofInt (s_n (fun k => W_f (w 46) (t_b (w 46) t) (t_b (w 46) o) G n1 n2 (q_it n2 (q_so X n2) k)) (q_len n2)))), (n, z_q im, jM wf, jL u)) ∧ R_m wf G (q_it n2 (q_so X n2) (q_len n2)) n1 n2 ∧ B_f w wf
  | 0, k, wi, hm, h1, hr, hf => absurd h1 (by decide)
  | m + 1, k, wi, hm, h1, hr, hf => by
    obtain ⟨a1, a2, a3, a4, a5, a6⟩ := t_wf hw ht
    obtain ⟨b1, b2, b3, b4, b5, b6⟩ := t_wf hw ho
    have ei : wi 46 = w 46 := hf.1 46 (by decide)
    have hp : q_pm n2 X (q_it n2 (q_so X n2) k) := q_pm_tr (q_pm_so _ (Nat.le_refl _)) (q_pm_it _ h2.1 k)
    have hRk := R_ok_p2 hR hp
    obtain ⟨w1, k1, k2, k3⟩ := s_plays (e := e) (n := n) (im := im) (w := wi) (u := u) (dr := 0) (bo := t_b (w 46) t) (ot := t_b (w 46) o) (by rw [ei]; exact hw) hr (by rw [ei]; exact hRk) (Or.inl rfl) (by rw [ei]; exact a2) (by rw [ei]; exact b2) (fun q => absurd rfl q)
    rw [ei, M_F_x] at k1 k3
    dsimp only at k1
    rw [zu_self] at k1
    have hr1 := J_R k2 hr
    have e23 : ((jM w1, jL u) : zD).1 45 23 = Int32.ofInt (n2 : Int) := by rw [← hr1.2.1]; rfl
    have hk1 : k_Q 54 w1 n2 (q_it n2 (q_so X n2) k) w1 := ⟨fun _ _ => rfl, hr1.2.2.2, R_ok_v2 hw hRk⟩
    obtain ⟨w2, x1, x2⟩ := s_nextOrder_54 (e := e + 5) (n := n) (im := im) (u := u) h2 hk1
    rw [q_more h2 hX k (by omega)] at x1
    have hr2 : R_m w2 G (q_it n2 (q_so X n2) (k + 1)) n1 n2 := R_m_k hr1 x2
    have hf2 : B_f w w2 := B_f_tr hf (B_f_tr (B_f_J k2) (B_f_k x2))
    have hst : s_n (fun k => W_f (w 46) (t_b (w 46) t) (t_b (w 46) o) G n1 n2 (q_it n2 (q_so X n2) k)) (k + 1) = s_n (fun k => W_f (w 46) (t_b (w 46) t) (t_b (w 46) o) G n1 n2 (q_it n2 (q_so X n2) k)) k + W_f (w 46) (t_b (w 46) t) (t_b (w 46) o) G n1 n2 (q_it n2 (q_so X n2) k) := rfl
    have hx : z_ex none (z_F (e + 7)) cd_Model_beatenOrders 4000 (cd_Model_beatenOrders.drop 8) 8 [some (.ref 45), some (.int (Int32.ofInt t)), some (.int (Int32.ofInt o)), some (.int (Int32.ofInt (s_n (fun k => W_f (w 46) (t_b (w 46) t) (t_b (w 46) o) G n1 n2 (q_it n2 (q_so X n2) k)) k)))] [] (n, z_q im, jM wi, jL u) = if k + 1 = q_len n2 then some (.inl (some (.int (Int32.ofInt (s_n (fun k => W_f (w 46) (t_b (w 46) t) (t_b (w 46) o) G n1 n2 (q_it n2 (q_so X n2) k)) (k + 1)))), (n, z_q im, jM w2, jL u))) else some (.inr (8, [some (.ref 45), some (.int (Int32.ofInt t)), some (.int (Int32.ofInt o)), some (.int (Int32.ofInt (s_n (fun k => W_f (w 46) (t_b (w 46) t) (t_b (w 46) o) G n1 n2 (q_it n2 (q_so X n2) k)) (k + 1))))], [], (n, z_q im, jM w2, jL u))) := by
      refine (e_Model_beatenOrders_8 ..).trans ?_
      rw [s_boatOf (by omega) (by omega), z_oI_s, s_boatOf (by omega) (by omega), z_oI_s, ei]
      change z_oV ((z_F (e + 7)).2.2.1 k_Model_plays [.ref 45, .int (Int32.ofInt (t_b (w 46) t)), .int (Int32.ofInt (t_b (w 46) o)), .int (Int32.ofInt 0)] _) _ _ = _
      have e30 : ((jM w1, jL u) : zD).1 45 30 = Int32.ofInt (O_w n1 n2 (M_F (w 46) 0 0 (t_b (w 46) t) (t_b (w 46) o) G (q_it n2 (q_so X n2) k) n1 n2) 0) := by
        have : w1 45 30 = O_w n1 n2 (M_F (w 46) 0 0 (t_b (w 46) t) (t_b (w 46) o) G (q_it n2 (q_so X n2) k) n1 n2) 0 := k3.2.1
        rw [← this]; rfl
      rw [k1, z_oV_s, e30, e23, x1, z_oI_s, z_oI_s, ji_add, ji_add, hst]
      unfold W_f M_w O_w
      rw [if_pos (show (0 : Int) = 0 from rfl)]
      by_cases c1 : (M_F (w 46) 0 0 (t_b (w 46) t) (t_b (w 46) o) G (q_it n2 (q_so X n2) k) n1 n2).1 < n1
      · rw [if_pos c1, if_pos c1, if_pos (show Int32.ofInt 0 = 0 from rfl)]
        by_cases q : k + 1 = q_len n2
        · rw [if_pos q, if_pos q, if_pos (show Int32.ofInt 0 = 0 from rfl)]
        · rw [if_neg q, if_neg q, if_neg (show ¬ Int32.ofInt 1 = 0 by decide)]
      · rw [if_neg c1, if_neg c1, if_neg (show ¬ Int32.ofInt (if (M_F (w 46) 0 0 (t_b (w 46) t) (t_b (w 46) o) G (q_it n2 (q_so X n2) k) n1 n2).2.1 < n2 then 1 else 2) = 0 by split <;> decide)]
        by_cases q : k + 1 = q_len n2
        · rw [if_pos q, if_pos q, if_pos (show Int32.ofInt 0 = 0 from rfl)]
        · rw [if_neg q, if_neg q, if_neg (show ¬ Int32.ofInt 1 = 0 by decide)]
    by_cases q : k + 1 = q_len n2
    · rw [if_pos q, q] at hx
      rw [q] at hr2
      exact ⟨w2, z_ret hx, hr2, hf2⟩
    · rw [if_neg q] at hx
      obtain ⟨wf, r1, r2⟩ := l_mbo (e := e) (n := n) (im := im) (w := w) (u := u) hw ht ho h2 hR hX m (k + 1) w2 (by omega) (by omega) hr2 hf2
      exact ⟨wf, z_go hx r1, r2⟩
theorem s_mbo {e n : Nat} {im : Nat → Option Nat} {w u : Nat → Nat → Int} {wi : Nat → Nat → Int} {t o : Int} {G S X : Nat → Int} {n1 n2 : Nat} (hw : a_wf (w 46)) (ht : t_in (w 46) t) (ho : t_in (w 46) o) (h2 : 1 ≤ n2 ∧ n2 ≤ 5) (hR : R_ok (w 46) G S n1 n2) (hS : ∀ i j, i < j → j < n2 → S i ≠ S j) (hK : K_e n2 S X) (hr : R_m wi G X n1 n2) (e46 : wi 46 = w 46) : ∃ w' X', (z_F (e + 8)).1 k_Model_beatenOrders [.ref 45, .int (Int32.ofInt t), .int (Int32.ofInt o)] (n, z_q im, jM wi, jL u) = some (Int32.ofInt (K_w (w 46) (t_b (w 46) t) (t_b (w 46) o) G S n1 n2), jM w', jL u) ∧ R_m w' G X' n1 n2 ∧ K_e n2 S X' ∧ B_f wi w' := by
  have hXd := hK.1.2 hS
  have hRX := R_ok_p2 hR hK.1
  have hL := q_len_b h2
  obtain ⟨w1, s1, s2⟩ := s_sort_54 (e := e + 6) (n := n) (im := im) (w := wi) (u := u) h2 hr.2.2.2 (R_ok_v2 hw hRX)
  have hr1 := R_m_k hr s2
  obtain ⟨wf, r1, r2, r3⟩ := l_mbo (e := e) (n := n) (im := im) (w := wi) (u := u) (by rw [e46]; exact hw) (by rw [e46]; exact ht) (by rw [e46]; exact ho) h2 (by rw [e46]; exact hRX) hXd (q_len n2) 0 w1 (by omega) hL.1 hr1 (B_f_k s2)
  rw [e46] at r1
  rw [W_ref h2 hXd, W_so h2.2 n2 (Nat.le_refl _), hK.2] at r1
  refine ⟨wf, _, n_Model_beatenOrders (z_go ((e_Model_beatenOrders_0 ..).trans ?_) r1), r2, K_e_so h2 hK _, r3⟩
  have e23 : ((jM wi, jL u) : zD).1 45 23 = Int32.ofInt (n2 : Int) := by rw [← hr.2.1]; rfl
  rw [e23, s1, z_oV_s]
  rfl
/-- the reference's memory at its i-th order, the second row in some order -/
abbrev Z_i (v : Nat → Int) (t o : Int) (w : Nat → Nat → Int) (i : Nat) (wi : Nat → Nat → Int) : Prop := (∃ X, R_m wi (G_o v t i) X (t_n v t) (t_n v o) ∧ K_e (t_n v o) (t_m v o) X) ∧ m_fr w wi
theorem l_bbest {e n : Nat} {im : Nat → Option Nat} {w u : Nat → Nat → Int} {t o x : Int} {i : Nat} {wi : Nat → Nat → Int} (hw : a_wf (w 46)) (h : a_tt (w 46) t o) (hX : Z_i (w 46) t o w i wi) : ∃ w', z_To (z_F (e + 19)) cd_Model_boldOf (25, [some (.ref 45), some (.int (Int32.ofInt t)), some (.int (Int32.ofInt o)), some (.int (Int32.ofInt x)), some (.int (Int32.ofInt 0))], (n, z_q im, jM wi, jL u)) (25, [some (.ref 45), some (.int (Int32.ofInt t)), some (.int (Int32.ofInt o)), some (.int (Int32.ofInt x)), some (.int (Int32.ofInt (t_n (w 46) t : Int)))], (n, z_q im, jM w', jL u)) ∧ Z_i (w 46) t o w i w' ∧ (∀ c, c ≠ 60 → w' c = wi c) ∧ ∀ j, j < t_n (w 46) t → w' 60 j = G_o (w 46) t i j := by
  have a4 := (t_wf hw h.1).2.2.2.1
  obtain ⟨⟨X, hR, hK⟩, hf⟩ := hX
  obtain ⟨t9, ht9, wf, rfl, i1, i2⟩ := z_for (o := z_F (e + 19)) (cd := cd_Model_boldOf) (P := fun k s => ∃ wk, s = (25, [some (.ref 45), some (.int (Int32.ofInt t)), some (.int (Int32.ofInt o)), some (.int (Int32.ofInt x)), some (.int (Int32.ofInt (k : Int)))], (n, z_q im, jM wk, jL u)) ∧ (∀ c, c ≠ 60 → wk c = wi c) ∧ ∀ j, j < k → wk 60 j = G_o (w 46) t i j) (t_n (w 46) t) (s := (25, [some (.ref 45), some (.int (Int32.ofInt t)), some (.int (Int32.ofInt o)), some (.int (Int32.ofInt x)), some (.int (Int32.ofInt 0))], (n, z_q im, jM wi, jL u))) ⟨wi, rfl, fun _ _ => rfl, fun j hj => absurd hj (by omega)⟩ (fun k s hk hs => by
    obtain ⟨wk, rfl, i1, i2⟩ := hs
    have n1 : Int32.toNatClampNeg (Int32.ofInt (k : Int)) = k := (ji_nat (by omega)).trans (by omega)
    have g1 : ¬ (Int32.ofInt (k : Int) < 0 ∨ 5 ≤ k) := by simp (disch := omega) only [ji_lt0]; omega
    have e22 : ((jM wk, jL u) : zD).1 45 22 = Int32.ofInt (t_n (w 46) t : Int) := by rw [← hR.1, ← i1 45 (by decide)]; rfl
    have e53 : ((jM wk, jL u) : zD).1 53 k = Int32.ofInt (G_o (w 46) t i k) := by rw [← hR.2.2.1 k hk, ← i1 53 (by decide)]; rfl
    refine ⟨(25, [some (.ref 45), some (.int (Int32.ofInt t)), some (.int (Int32.ofInt o)), some (.int (Int32.ofInt x)), some (.int (Int32.ofInt ((k : Int) + 1)))], (n, z_q im, jM (z_u wk 60 k (G_o (w 46) t i k)), jL u)), z_To_1 ((e_Model_boldOf_25 ..).trans ?_), _, rfl, fun c hc => by rw [z_u_ne hc]; exact i1 c hc, fun j hj => ?_⟩
    · rw [e22, if_neg (ji_le_n (by omega) (by omega) (by omega)), n1, if_neg g1, if_neg g1, e53, ji_add]
      simp only [jM_u]
    · rw [z_u_at]
      split
      · rename_i q; rw [q]
      · exact i2 j (by omega))
  refine ⟨wf, ht9, ⟨⟨X, ⟨?_, ?_, ?_, ?_⟩, hK⟩, m_fr_tr hf ⟨fun c hc => i1 c (fun q => by subst q; simp at hc), fun j _ => by rw [i1 45 (by decide)]⟩⟩, i1, i2⟩
  · rw [i1 45 (by decide)]; exact hR.1
  · rw [i1 45 (by decide)]; exact hR.2.1
  · rw [i1 53 (by decide)]; exact hR.2.2.1
  · rw [i1 54 (by decide)]; exact hR.2.2.2
theorem s_bnext0 {e n : Nat} {im : Nat → Option Nat} {w u : Nat → Nat → Int} {t o : Int} {i : Nat} {x : Int} {wi : Nat → Nat → Int} (hw : a_wf (w 46)) (h : a_tt (w 46) t o) (hi : i < q_len (t_n (w 46) t)) (hX : Z_i (w 46) t o w i wi) : ∃ w', (z_F (e + 2)).1 k_Model_nextOrder [.ref 53, .int (Int32.ofInt (t_n (w 46) t : Int))] (n, z_q im, jM (z_u wi 45 33 x), jL u) = some (Int32.ofInt (if i + 1 = q_len (t_n (w 46) t) then 0 else 1), jM w', jL u) ∧ Z_i (w 46) t o w (i + 1) w' ∧ (∀ c, c ≠ 53 → w' c = z_u wi 45 33 x c) := by
  have a4 := (t_wf hw h.1).2.2.2.1
  obtain ⟨⟨X, hR, hK⟩, hf⟩ := hX
  have hR' : R_m (z_u wi 45 33 x) (G_o (w 46) t i) X (t_n (w 46) t) (t_n (w 46) o) := ⟨hR.1, hR.2.1, hR.2.2.1, hR.2.2.2⟩
  have hf' : m_fr w (z_u wi 45 33 x) := m_fr_tr hf ⟨fun c hc => z_u_ne (fun q => by subst q; simp at hc), fun j hj => by rw [z_u_at, if_neg (by omega)]⟩
  have hk : k_Q 53 (z_u wi 45 33 x) (t_n (w 46) t) (G_o (w 46) t i) (z_u wi 45 33 x) := ⟨fun _ _ => rfl, hR'.2.2.1, R_ok_v hw (G_ok hw h i).2⟩
  obtain ⟨w', k1, k2⟩ := s_nextOrder_53 (e := e) (n := n) (im := im) (u := u) a4 hk
  rw [G_more hw h.1 i hi] at k1
  obtain ⟨c1, c2⟩ := Y_k (v := w 46) (t := t) (o := o) hR' hf' k2
  exact ⟨w', k1, ⟨⟨X, c1, hK⟩, c2⟩, k2.1⟩
def Fin_b (v : Nat → Int) (t o : Int) (w wf : Nat → Nat → Int) : Prop := m_fr w wf ∧ (wf 45 22 = (t_n v t : Int) ∧ wf 45 23 = (t_n v o : Int)) ∧ wf 45 33 = (P_o v t o (q_len (t_n v t))).2 ∧ ∀ j, j < t_n v t → wf 60 j = G_o v t (P_o v t o (q_len (t_n v t))).1 j
theorem l_bold {e n : Nat} {im : Nat → Option Nat} {w u : Nat → Nat → Int} {t o : Int} (hw : a_wf (w 46)) (h : a_tt (w 46) t o) : ∀ (m i : Nat) (wi : Nat → Nat → Int) (q3 q4 : Option Value), i + m = q_len (t_n (w 46) t) → 1 ≤ m → Z_i (w 46) t o w i wi → wi 45 33 = (P_o (w 46) t o i).2 → (1 ≤ i → ∀ j, j < t_n (w 46) t → wi 60 j = G_o (w 46) t (P_o (w 46) t o i).1 j) → ∃ wf, z_Rn (z_F (e + 19)) cd_Model_boldOf 13 [some (.ref 45), some (.int (Int32.ofInt t)), some (.int (Int32.ofInt o)), q3, q4] (n, z_q im, jM wi, jL u) (none, (n, z_q im, jM wf, jL u)) ∧ Fin_b (w 46) t o w wf
  | 0, i, wi, q3, q4, hm, h1, hX, hb, hr => absurd h1 (by decide)
  | m + 1, i, wi, q3, q4, hm, h1, hX, hb, hr => by
    obtain ⟨a1, a2, a3, a4, a5, a6⟩ := t_wf hw h.1
    obtain ⟨b1, b2, b3, b4, b5, b6⟩ := t_wf hw h.2.1
    have ei : wi 46 = w 46 := hX.2.1 46 (by decide)
    have hWb := W_o_b (t := t) hw h.2.1 i
    have hPb := P_o_b (t := t) hw h.2.1 i
    have hLb := q_len_b a4
    obtain ⟨⟨X, hR, hK⟩, hf⟩ := hX
    obtain ⟨w1, X1, p1, p2, p3, p4⟩ := s_mbo (e := e + 11) (n := n) (im := im) (w := w) (u := u) hw h.1 h.2.1 b4 (G_ok hw h i).2 b6 hK hR ei
    change (z_F (e + 19)).1 _ _ _ = some (Int32.ofInt (W_o (w 46) t o i), _) at p1
    have y1 : Z_i (w 46) t o w i w1 := ⟨⟨X1, p2, p3⟩, m_fr_tr hf (B_f_m p4)⟩
    have c33 : w1 45 33 = (P_o (w 46) t o i).2 := by rw [p4.2 33 (by decide) (by decide) (by decide) (by decide) (by decide) (by decide)]; exact hb
    have c60 : w1 60 = wi 60 := p4.1 60 (by decide)
    have hPs : P_o (w 46) t o (i + 1) = if (P_o (w 46) t o i).2 < W_o (w 46) t o i then (i, W_o (w 46) t o i) else P_o (w 46) t o i := rfl
    have hP0 : i = 0 → (P_o (w 46) t o i).2 = -1 := fun q => by rw [q]; rfl
    have fin : ∀ (w3 : Nat → Nat → Int) (q3' q4' : Option Value), Z_i (w 46) t o w i w3 → (∀ j, j < t_n (w 46) t → w3 60 j = G_o (w 46) t (P_o (w 46) t o (i + 1)).1 j) → ∃ w5, (z_F (e + 19)).1 k_Model_nextOrder [.ref 53, .int (Int32.ofInt (t_n (w 46) t : Int))] (n, z_q im, jM (z_u w3 45 33 (P_o (w 46) t o (i + 1)).2), jL u) = some (Int32.ofInt (if i + 1 = q_len (t_n (w 46) t) then 0 else 1), jM w5, jL u) ∧ (i + 1 = q_len (t_n (w 46) t) → Fin_b (w 46) t o w w5) ∧ (i + 1 ≠ q_len (t_n (w 46) t) → ∃ wf, z_Rn (z_F (e + 19)) cd_Model_boldOf 13 [some (.ref 45), some (.int (Int32.ofInt t)), some (.int (Int32.ofInt o)), q3', q4'] (n, z_q im, jM w5, jL u) (none, (n, z_q im, jM wf, jL u)) ∧ Fin_b (w 46) t o w wf) := fun w3 q3' q4' hy h60 => by
      obtain ⟨w5, x1, x2, x3⟩ := s_bnext0 (e := e + 17) (n := n) (im := im) (u := u) (x := (P_o (w 46) t o (i + 1)).2) hw h (show i < q_len (t_n (w 46) t) by omega) hy
      have z33 : w5 45 33 = (P_o (w 46) t o (i + 1)).2 := by rw [x3 45 (by decide), z_u_at, if_pos rfl]
      have z60 : ∀ j, j < t_n (w 46) t → w5 60 j = G_o (w 46) t (P_o (w 46) t o (i + 1)).1 j := by rw [x3 60 (by decide), z_u_ne (by decide)]; exact h60
      refine ⟨w5, x1, fun q => ?_, fun q => ?_⟩
      · rw [q] at z33 z60
        obtain ⟨⟨X5, hR5, hK5⟩, hf5⟩ := x2
        exact ⟨hf5, ⟨hR5.1, hR5.2.1⟩, z33, z60⟩
      · exact l_bold hw h m (i + 1) w5 q3' q4' (by omega) (by omega) x2 z33 (fun _ => z60)
    have mx : (if Int32.ofInt (P_o (w 46) t o i).2 < Int32.ofInt (W_o (w 46) t o i) then Int32.ofInt (W_o (w 46) t o i) else Int32.ofInt (P_o (w 46) t o i).2) = Int32.ofInt (P_o (w 46) t o (i + 1)).2 := by
      rw [hPs]
      by_cases q : (P_o (w 46) t o i).2 < W_o (w 46) t o i
      · rw [if_pos (ji_lt_p (by omega) (by omega) q), if_pos q]
      · rw [if_neg (ji_lt_n (by omega) (by omega) q), if_neg q]
    have f33 : ((jM w1, jL u) : zD).1 45 33 = Int32.ofInt (P_o (w 46) t o i).2 := by rw [← c33]; rfl
    have f22 : ((jM w1, jL u) : zD).1 45 22 = Int32.ofInt (t_n (w 46) t : Int) := by rw [← p2.1]; rfl
    have hx : z_ex none (z_F (e + 19)) cd_Model_boldOf 4000 (cd_Model_boldOf.drop 13) 13 [some (.ref 45), some (.int (Int32.ofInt t)), some (.int (Int32.ofInt o)), q3, q4] [] (n, z_q im, jM wi, jL u) = if W_o (w 46) t o i ≤ (P_o (w 46) t o i).2 then (z_oI ((z_F (e + 19)).1 k_Model_nextOrder [.ref 53, .int (Int32.ofInt (t_n (w 46) t : Int))] (n, z_q im, jM (z_u w1 45 33 (P_o (w 46) t o (i + 1)).2), jL u)) none (fun v17 d16 => if v17 = 0 then some (.inl (none, (n, z_q im, d16))) else some (.inr (13, [some (.ref 45), some (.int (Int32.ofInt t)), some (.int (Int32.ofInt o)), some (.int (Int32.ofInt (W_o (w 46) t o i))), q4], [], (n, z_q im, d16))))) else some (.inr (25, [some (.ref 45), some (.int (Int32.ofInt t)), some (.int (Int32.ofInt o)), some (.int (Int32.ofInt (W_o (w 46) t o i))), some (.int (Int32.ofInt 0))], [], (n, z_q im, jM w1, jL u))) := by
      refine (e_Model_boldOf_13 ..).trans ?_
      rw [p1, z_oI_s, f33, mx, f22, jM_u]
      by_cases q2 : W_o (w 46) t o i ≤ (P_o (w 46) t o i).2
      · rw [if_pos (ji_le_p (by omega) (by omega) q2), if_pos q2]
      · rw [if_neg (ji_le_n (by omega) (by omega) q2), if_neg q2]
    by_cases q2 : W_o (w 46) t o i ≤ (P_o (w 46) t o i).2
    · rw [if_pos q2] at hx
      have hi1 : 1 ≤ i := by
        by_cases q0 : i = 0
        · have := hP0 q0; omega
        · omega
      have hPB : P_o (w 46) t o (i + 1) = P_o (w 46) t o i := by rw [hPs, if_neg (by omega)]
      obtain ⟨w5, x1, x2, x3⟩ := fin w1 (some (.int (Int32.ofInt (W_o (w 46) t o i)))) q4 y1 (by rw [hPB, c60]; exact hr hi1)
      rw [x1, z_oI_s] at hx
      by_cases q : i + 1 = q_len (t_n (w 46) t)
      · rw [if_pos q, if_pos (show Int32.ofInt 0 = 0 from rfl)] at hx
        exact ⟨w5, z_ret hx, x2 q⟩
      · rw [if_neg q, if_neg (show ¬ Int32.ofInt 1 = 0 by decide)] at hx
        obtain ⟨wf, r1, r2⟩ := x3 q
        exact ⟨wf, z_go hx r1, r2⟩
    · rw [if_neg q2] at hx
      have hPB : P_o (w 46) t o (i + 1) = (i, W_o (w 46) t o i) := by rw [hPs, if_pos (by omega)]
      obtain ⟨w3, l1, l2, l3, l4⟩ := l_bbest (e := e) (n := n) (im := im) (u := u) (x := W_o (w 46) t o i) hw h y1
      obtain ⟨w5, x1, x2, x3⟩ := fin w3 (some (.int (Int32.ofInt (W_o (w 46) t o i)))) (some (.int (Int32.ofInt (t_n (w 46) t : Int)))) l2 (by rw [hPB]; exact l4)
      have g33 : ((jM w3, jL u) : zD).1 45 33 = Int32.ofInt (P_o (w 46) t o i).2 := by rw [← c33, ← l3 45 (by decide)]; rfl
      have g22 : ((jM w3, jL u) : zD).1 45 22 = Int32.ofInt (t_n (w 46) t : Int) := by rw [← p2.1, ← l3 45 (by decide)]; rfl
      have hx2 : z_ex none (z_F (e + 19)) cd_Model_boldOf 4000 (cd_Model_boldOf.drop 25) 25 [some (.ref 45), some (.int (Int32.ofInt t)), some (.int (Int32.ofInt o)), some (.int (Int32.ofInt (W_o (w 46) t o i))), some (.int (Int32.ofInt (t_n (w 46) t : Int)))] [] (n, z_q im, jM w3, jL u) = if i + 1 = q_len (t_n (w 46) t) then some (.inl (none, (n, z_q im, jM w5, jL u))) else some (.inr (13, [some (.ref 45), some (.int (Int32.ofInt t)), some (.int (Int32.ofInt o)), some (.int (Int32.ofInt (W_o (w 46) t o i))), some (.int (Int32.ofInt (t_n (w 46) t : Int)))], [], (n, z_q im, jM w5, jL u))) := by
        refine (e_Model_boldOf_25 ..).trans ?_
        rw [g22, if_pos (ji_le_p (by omega) (by omega) (by omega)), g33, mx, jM_u, x1, z_oI_s]
        by_cases q : i + 1 = q_len (t_n (w 46) t)
        · rw [if_pos q, if_pos q, if_pos (show Int32.ofInt 0 = 0 from rfl)]
        · rw [if_neg q, if_neg q, if_neg (show ¬ Int32.ofInt 1 = 0 by decide)]
      by_cases q : i + 1 = q_len (t_n (w 46) t)
      · rw [if_pos q] at hx2
        exact ⟨w5, z_go hx (l1 _ (z_ret hx2)), x2 q⟩
      · rw [if_neg q] at hx2
        obtain ⟨wf, r1, r2⟩ := x3 q
        exact ⟨wf, z_go hx (l1 _ (z_go hx2 r1)), r2⟩
theorem s_boldOf {e n : Nat} {im : Nat → Option Nat} {w u : Nat → Nat → Int} {t o : Int} (hw : a_wf (w 46)) (h : a_tt (w 46) t o) : ∃ w', (z_F (e + 20)).2.2.1 k_Model_boldOf [.ref 45, .int (Int32.ofInt t), .int (Int32.ofInt o)] (n, z_q im, jM w, jL u) = some (jM w', jL u) ∧ Fin_b (w 46) t o w w' := by
  obtain ⟨a1, a2, a3, a4, a5, a6⟩ := t_wf hw h.1
  have hLb := q_len_b a4
  obtain ⟨w1, l1, l2, l3, l4⟩ := s_layRows (e := e + 17) (n := n) (im := im) (u := u) hw h.1 h.2.1
  have hf1 : m_fr w w1 := ⟨fun c hc => l3 c (fun q => by subst q; simp at hc) (fun q => by subst q; simp at hc) (fun q => by subst q; simp at hc), fun j hj => l4 j (by omega) (by omega)⟩
  obtain ⟨w2, s1, s2⟩ := s_sort_53 (e := e + 18) (n := n) (im := im) (w := w1) (u := u) a4 l2.2.2.1 (R_ok_v hw (R_ok_mt hw h))
  obtain ⟨c1, c2⟩ := Y_k (v := w 46) (t := t) (o := o) l2 hf1 s2
  have y2 : Z_i (w 46) t o w 0 (z_u w2 45 33 (-1)) := ⟨⟨t_m (w 46) o, ⟨c1.1, c1.2.1, c1.2.2.1, c1.2.2.2⟩, q_pm_rf _ _, fun _ _ _ _ _ => rfl⟩, m_fr_tr c2 ⟨fun c hc => z_u_ne (fun q => by subst q; simp at hc), fun j hj => by rw [z_u_at, if_neg (by omega)]⟩⟩
  obtain ⟨wf, r1, r2⟩ := l_bold (e := e) (n := n) (im := im) (u := u) hw h (q_len (t_n (w 46) t)) 0 (z_u w2 45 33 (-1)) none none (by omega) hLb.1 y2 rfl (fun q => absurd q (by decide))
  refine ⟨wf, n_Model_boldOf (z_go ((e_Model_boldOf_0 ..).trans ?_) r1), r2⟩
  have e22 : ((jM w1, jL u) : zD).1 45 22 = Int32.ofInt (t_n (w 46) t : Int) := by rw [← l2.1]; rfl
  rw [l1, z_oV_s, e22, s1, z_oV_s, jM_u]
theorem m_bold {e n : Nat} {im : Nat → Option Nat} {w u : Nat → Nat → Int} {t o i : Int} (hw : a_wf (w 46)) (ht : jR t) (ho : jR o) (hi : jR i) : ∃ w', (z_F (e + 21)).1 k_Model_bold [.ref 45, .int (Int32.ofInt t), .int (Int32.ofInt o), .int (Int32.ofInt i)] (n, z_q im, jM w, jL u) = some (Int32.ofInt (V_bold (w 46) t o i), jM w', jL u) ∧ m_fr w w' := by
  unfold V_bold
  by_cases h : a_tt (w 46) t o
  · rw [if_pos h]
    obtain ⟨a1, a2, a3, a4, a5, a6⟩ := t_wf hw h.1
    obtain ⟨w1, k1, k2⟩ := s_boldOf (e := e) (n := n) (im := im) (u := u) hw h
    have e22 : ((jM w1, jL u) : zD).1 45 22 = Int32.ofInt (t_n (w 46) t : Int) := by rw [← k2.2.1.1]; rfl
    have e33 : ((jM w1, jL u) : zD).1 45 33 = Int32.ofInt (P_o (w 46) t o (q_len (t_n (w 46) t))).2 := by rw [← k2.2.2.1]; rfl
    refine ⟨w1, q_Model_bold (e := e + 20) ?_, k2.1⟩
    rw [s_areTeams hw ht ho, z_oI_s, if_neg (ji_b_n h), k1, z_oV_s, e22, e33, ji_sub, jl_of hi, jl_of (by omega), kl_0, s_in (by omega) (by decide) (by omega), z_oI_s]
    by_cases q1 : i = -1
    · rw [if_pos (ji_eq_p (by omega) (by decide) q1), if_pos q1]
    · rw [if_neg (ji_eq_n (by omega) (by decide) q1), if_neg q1]
      by_cases q : 0 ≤ i ∧ i < (t_n (w 46) t : Int)
      · have g : ¬ (Int32.ofInt i < 0 ∨ 5 ≤ i.toNat) := by simp (disch := omega) only [ji_lt0]; omega
        rw [if_pos q, if_neg (ji_b_n (by omega)), ji_nat (by omega), if_neg g, ← k2.2.2.2 i.toNat (by omega)]
        rfl
      · rw [if_neg q, if_pos (ji_b_p (by omega))]
  · rw [if_neg h]
    refine ⟨w, q_Model_bold (e := e + 20) ?_, m_fr_rf w⟩
    rw [s_areTeams hw ht ho, z_oI_s, if_pos (ji_b_p h)]
theorem m_sure {e n : Nat} {im : Nat → Option Nat} {w u : Nat → Nat → Int} {t o : Int} (hw : a_wf (w 46)) (ht : jR t) (ho : jR o) : ∃ w', (z_F (e + 21)).1 k_Model_sure [.ref 45, .int (Int32.ofInt t), .int (Int32.ofInt o)] (n, z_q im, jM w, jL u) = some (Int32.ofInt (V_sure (w 46) t o), jM w', jL u) ∧ m_fr w w' := by
  unfold V_sure
  by_cases h : a_tt (w 46) t o
  · rw [if_pos h]
    obtain ⟨b1, b2, b3, b4, b5, b6⟩ := t_wf hw h.2.1
    obtain ⟨w1, k1, k2⟩ := s_boldOf (e := e) (n := n) (im := im) (u := u) hw h
    have e23 : ((jM w1, jL u) : zD).1 45 23 = Int32.ofInt (t_n (w 46) o : Int) := by rw [← k2.2.1.2]; rfl
    have e33 : ((jM w1, jL u) : zD).1 45 33 = Int32.ofInt (P_o (w 46) t o (q_len (t_n (w 46) t))).2 := by rw [← k2.2.2.1]; rfl
    have hpb := P_o_b (t := t) hw h.2.1 (q_len (t_n (w 46) t))
    have hqb := q_fc_b (t_n (w 46) o)
    have ho2 : (z_F (e + 20)).1 k_Model_ordersMany [.int (Int32.ofInt (t_n (w 46) o : Int))] (n, z_q im, jM w1, jL u) = some (Int32.ofInt (q_fc (t_n (w 46) o)), jM w1, jL u) := n_Model_ordersMany (e := e + 19) (s_Model_ordersMany_x _ b4)
    refine ⟨w1, q_Model_sure (e := e + 20) ?_, k2.1⟩
    rw [s_areTeams hw ht ho, z_oI_s, if_neg (ji_b_n h), k1, z_oV_s, e23, e33, ho2, z_oI_s]
    by_cases q : (P_o (w 46) t o (q_len (t_n (w 46) t))).2 = q_fc (t_n (w 46) o)
    · rw [if_pos (ji_eq_p (by omega) (by omega) q), if_pos q]
    · rw [if_neg (ji_eq_n (by omega) (by omega) q), if_neg q]
  · rw [if_neg h]
    refine ⟨w, q_Model_sure (e := e + 20) ?_, m_fr_rf w⟩
    rw [s_areTeams hw ht ho, z_oI_s, if_pos (ji_b_p h)]
