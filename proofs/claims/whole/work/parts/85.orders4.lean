/-! wins and order: the class -/
theorem R_ok_pm {v : Nat → Int} {F G S : Nat → Int} {n1 n2 : Nat} (h : R_ok v F S n1 n2) (hp : q_pm n1 F G) : R_ok v G S n1 n2 := by
  obtain ⟨h1, h2, h3, h4⟩ := h
  refine ⟨h1, fun i hi => ?_, h3, fun i k hi hk => ?_⟩
  · obtain ⟨j, j1, j2⟩ := hp.1 i hi
    rw [j2]; exact h2 j j1
  · obtain ⟨j, j1, j2⟩ := hp.1 i hi
    rw [j2]; exact h4 j k j1 hk
theorem R_ok_v {v : Nat → Int} {F S : Nat → Int} {n1 n2 : Nat} (hw : a_wf v) (h : R_ok v F S n1 n2) : ∀ j, j < n1 → 0 ≤ F j ∧ F j ≤ 9 := fun j hj => by
  have := h.2.1 j hj
  have := hw.2.2.2.2.2.2.2.1
  omega
theorem x_run0 {e n : Nat} {im : Nat → Option Nat} {w u : Nat → Nat → Int} {v : Nat → Int} {bo ot : Int} {F S : Nat → Int} {n1 n2 : Nat} (hw : a_wf v) (hC : C_m v 0 bo ot F S n1 n2 w) (hR : R_ok v F S n1 n2) (s4 : 0 ≤ bo ∧ bo < v 6) (s5 : 0 ≤ ot ∧ ot < v 6) : ∃ w', (z_F (e + 6)).2.2.1 k_Contest_run [.ref 31] (n, z_q im, jM w, jL u) = some (jM w', jL u) ∧ c_fr w w' ∧ C_m v 0 bo ot F S n1 n2 w' ∧ w' 41 = w 41 ∧ w' 31 7 - w' 31 8 = Z_s n1 n2 (M_F v 0 0 bo ot F S n1 n2) := by
  obtain ⟨w1, k1, k2, k3⟩ := s_fill_38 (e := e + 4) (n := n) (im := im) (w := w) (u := u) (x := 0)
  have hC1 : C_m v 0 bo ot F S n1 n2 (z_u w1 31 11 0) := by
    obtain ⟨c1, c2, c3, c4, c5, c6⟩ := hC
    refine ⟨?_, ?_, ?_, ?_, ?_, ?_⟩
    · unfold c_v
      rw [z_u_ne (by decide), z_u_ne (by decide), z_u_ne (by decide), z_u_ne (by decide), k2 3 (by decide), k2 5 (by decide), k2 7 (by decide), k2 9 (by decide)]
      exact c1
    · rw [z_u_ne (by decide), k2 25 (by decide)]; exact c2
    · rw [z_u_at, if_neg (by decide), k2 31 (by decide)]; exact c3
    · rw [z_u_at, if_neg (by decide), k2 31 (by decide)]; exact c4
    · rw [z_u_ne (by decide), k2 33 (by decide)]; exact c5
    · rw [z_u_ne (by decide), k2 35 (by decide)]; exact c6
  have hI : I_r (z_u w1 31 11 0) (M_0 (u 30 0)) (z_u w1 31 11 0) := ⟨fun _ _ => rfl, fun _ _ _ _ => rfl, fun _ _ _ _ => rfl, by rw [z_u_at, if_pos rfl]; rfl, fun j hj => by rw [z_u_ne (by decide)]; exact k3 j hj, fun j hj => absurd hj (Nat.not_lt_zero j)⟩
  obtain ⟨wf, r1, r2, r3, r4⟩ := l_run (e := e) (n := n) (im := im) (u := u) hw hC1 hR (Or.inl rfl) s4 s5 (n1 + n2) (M_0 (u 30 0)) _ none none (T_ok_0 (fun q => absurd rfl q)) (by show n1 + n2 ≤ 0 + 0 + (n1 + n2); omega) hI
  have hu : z_u u 30 0 (M_0 (u 30 0)).2.2.2.1 = u := zu_self u 30 0
  have hM : M_f v 0 bo ot F S n1 n2 (n1 + n2) (M_0 (u 30 0)) = ((M_F v 0 0 bo ot F S n1 n2).1, (M_F v 0 0 bo ot F S n1 n2).2.1, (M_F v 0 0 bo ot F S n1 n2).2.2.1, u 30 0, (M_F v 0 0 bo ot F S n1 n2).2.2.2.2) := M_F_x
  rw [hM] at r1 r3 r4
  rw [hu] at r1
  dsimp only at r1 r3 r4
  rw [zu_self] at r1
  refine ⟨wf, n_Contest_run (z_go ((e_Contest_run_0 ..).trans ?_) r1), fun c hc => ?_, I_r_C hC1 r2, ?_, ?_⟩
  · rw [k1, z_oV_s]
    simp only [jM_u]
    rfl
  · rw [r2.1 c (fun q => hc (by simp at q; rcases q with rfl | rfl | rfl | rfl | rfl | rfl <;> simp)), z_u_ne (fun q => by subst q; simp at hc), k2 c (fun q => by subst q; simp at hc)]
  · rw [r2.1 41 (by decide), z_u_ne (by decide), k2 41 (by decide)]
  · rw [r3, r4]; rfl
theorem C_k {v : Nat → Int} {dr bo ot : Int} {F G S : Nat → Int} {n1 n2 : Nat} {w wi : Nat → Nat → Int} (hC : C_m v dr bo ot F S n1 n2 w) (h : k_Q 33 w n1 G wi) : C_m v dr bo ot G S n1 n2 wi ∧ c_fr w wi ∧ wi 41 = w 41 := by
  obtain ⟨c1, c2, c3, c4, c5, c6⟩ := hC
  refine ⟨⟨?_, ?_, ?_, ?_, h.2.1, ?_⟩, fun c hc => h.1 c (fun q => by subst q; simp at hc), h.1 41 (by decide)⟩
  · unfold c_v
    rw [h.1 3 (by decide), h.1 5 (by decide), h.1 7 (by decide), h.1 9 (by decide)]
    exact c1
  · rw [h.1 25 (by decide)]; exact c2
  · rw [h.1 31 (by decide)]; exact c3
  · rw [h.1 31 (by decide)]; exact c4
  · rw [h.1 35 (by decide)]; exact c6
/-- the orders of the first TEAM's row -/
def G_o (v : Nat → Int) (t : Int) (k : Nat) : Nat → Int := q_it (t_n v t) (q_so (t_m v t) (t_n v t)) k
noncomputable def S_o (v : Nat → Int) (t o : Int) (k : Nat) : Int := Z_s (t_n v t) (t_n v o) (M_F v 0 0 (t_b v t) (t_b v o) (G_o v t k) (t_m v o) (t_n v t) (t_n v o))
def W_c (f : Nat → Int) : Nat → Int
  | 0 => 0
  | k + 1 => W_c f k + (if 0 < f k then 1 else 0)
theorem W_c_b (f : Nat → Int) : ∀ k, 0 ≤ W_c f k ∧ W_c f k ≤ k
  | 0 => ⟨Int.le_refl _, Int.le_refl _⟩
  | k + 1 => by
    have := W_c_b f k
    simp only [W_c, ic]
    split <;> omega
def P_x (f : Nat → Int) (l : Int) : Nat → Nat × Int
  | 0 => (0, l)
  | i + 1 => if (P_x f l i).2 < f i then (i, f i) else P_x f l i
theorem P_x_s (f : Nat → Int) (l : Int) (i : Nat) : P_x f l (i + 1) = if (P_x f l i).2 < f i then (i, f i) else P_x f l i := rfl
theorem P_x_eq {f : Nat → Int} {l l' c : Int} (h : l < f 0) (h' : l' < c + f 0) : ∀ i, P_x (fun j => c + f j) l' (i + 1) = ((P_x f l (i + 1)).1, c + (P_x f l (i + 1)).2)
  | 0 => by
    rw [P_x_s, P_x_s, if_pos (show (P_x (fun j => c + f j) l' 0).2 < c + f 0 from h'), if_pos (show (P_x f l 0).2 < f 0 from h)]
  | i + 1 => by
    rw [P_x_s _ _ (i + 1), P_x_s f l (i + 1), P_x_eq h h' i]
    by_cases q : (P_x f l (i + 1)).2 < f (i + 1)
    · rw [if_pos q, if_pos (show c + (P_x f l (i + 1)).2 < c + f (i + 1) by omega)]
    · rw [if_neg q, if_neg (show ¬ c + (P_x f l (i + 1)).2 < c + f (i + 1) by omega)]
theorem P_x_b {f : Nat → Int} {l lo hi : Int} (h1 : lo ≤ l) (h2 : l ≤ hi) : ∀ i, (∀ j, j < i → lo ≤ f j ∧ f j ≤ hi) → lo ≤ (P_x f l i).2 ∧ (P_x f l i).2 ≤ hi
  | 0, _ => ⟨h1, h2⟩
  | i + 1, hf => by
    have ih := P_x_b h1 h2 i (fun j hj => hf j (by omega))
    have a1 := hf i (by omega)
    rw [P_x_s]
    split
    · exact a1
    · exact ih
noncomputable def V_wins (v : Nat → Int) (t o : Int) : Int := if a_tt v t o then W_c (S_o v t o) (q_len (t_n v t)) else -2
noncomputable def V_order (v : Nat → Int) (t o i : Int) : Int := if a_tt v t o then (if 0 ≤ i ∧ i < (t_n v t : Int) then G_o v t (P_x (S_o v t o) (-6) (q_len (t_n v t))).1 i.toNat else -1) else -2
theorem G_ok {v : Nat → Int} {t o : Int} (hw : a_wf v) (h : a_tt v t o) (k : Nat) : q_pm (t_n v t) (t_m v t) (G_o v t k) ∧ R_ok v (G_o v t k) (t_m v o) (t_n v t) (t_n v o) := by
  have a4 := (t_wf hw h.1).2.2.2.1
  have hp : q_pm (t_n v t) (t_m v t) (G_o v t k) := q_pm_tr (q_pm_so _ (Nat.le_refl _)) (q_pm_it _ a4.1 k)
  exact ⟨hp, R_ok_pm (R_ok_mt hw h) hp⟩
theorem S_o_b {v : Nat → Int} {t o : Int} (hw : a_wf v) (h : a_tt v t o) (k : Nat) : -5 ≤ S_o v t o k ∧ S_o v t o k ≤ 5 := by
  have hR := (G_ok hw h k).2
  exact Z_s_b hR.1 (M_F_ok (dr := 0) (x := 0) (bo := t_b v t) (ot := t_b v o) hw hR (fun q => absurd rfl q)).1
theorem G_more {v : Nat → Int} {t : Int} (hw : a_wf v) (h : t_in v t) (i : Nat) (hi : i < q_len (t_n v t)) : (if q_pv (G_o v t i) (t_n v t - 1) = -1 then (0 : Int) else 1) = if i + 1 = q_len (t_n v t) then 0 else 1 := by
  obtain ⟨a1, a2, a3, a4, a5, a6⟩ := t_wf hw h
  obtain ⟨q1, q2⟩ := q_all a4 a6
  by_cases q : i + 1 = q_len (t_n v t)
  · rw [if_pos q, if_pos]
    rw [show i = q_len (t_n v t) - 1 by omega]
    exact q2
  · rw [if_neg q, if_neg (show ¬ q_pv (G_o v t i) (t_n v t - 1) = -1 from q1 i (by omega))]
abbrev X_i (v : Nat → Int) (t o : Int) (w : Nat → Nat → Int) (i : Nat) (wi : Nat → Nat → Int) : Prop := C_m v 0 (t_b v t) (t_b v o) (G_o v t i) (t_m v o) (t_n v t) (t_n v o) wi ∧ c_fr w wi
theorem s_next0 {e n : Nat} {im : Nat → Option Nat} {w u : Nat → Nat → Int} {v : Nat → Int} {t o : Int} {i : Nat} {wi : Nat → Nat → Int} (hw : a_wf v) (h : a_tt v t o) (hi : i < q_len (t_n v t)) (hX : X_i v t o w i wi) : ∃ w', (z_F (e + 3)).1 k_Contest_nextOrder [.ref 31] (n, z_q im, jM wi, jL u) = some (Int32.ofInt (if i + 1 = q_len (t_n v t) then 0 else 1), jM w', jL u) ∧ X_i v t o w (i + 1) w' ∧ w' 41 = wi 41 := by
  have a4 := (t_wf hw h.1).2.2.2.1
  have hk : k_Q 33 wi (t_n v t) (G_o v t i) wi := ⟨fun _ _ => rfl, hX.1.2.2.2.2.1, R_ok_v hw (G_ok hw h i).2⟩
  obtain ⟨w', k1, k2⟩ := s_nextOrder (e := e) (n := n) (im := im) (u := u) a4 hX.1.2.2.1 hk
  rw [G_more hw h.1 i hi] at k1
  obtain ⟨c1, c2, c3⟩ := C_k hX.1 k2
  exact ⟨w', k1, ⟨c1, c_fr_tr hX.2 c2⟩, c3⟩
theorem s_sort0 {e n : Nat} {im : Nat → Option Nat} {w u : Nat → Nat → Int} {v : Nat → Int} {t o : Int} (hw : a_wf v) (h : a_tt v t o) (hC : C_m v 0 (t_b v t) (t_b v o) (t_m v t) (t_m v o) (t_n v t) (t_n v o) w) : ∃ w', (z_F (e + 3)).2.2.1 k_Contest_sortFirsts [.ref 31] (n, z_q im, jM w, jL u) = some (jM w', jL u) ∧ X_i v t o w 0 w' := by
  have a4 := (t_wf hw h.1).2.2.2.1
  obtain ⟨w', k1, k2⟩ := s_sortFirsts (e := e) (n := n) (im := im) (u := u) a4 hC.2.2.1 hC.2.2.2.2.1 (R_ok_v hw (R_ok_mt hw h))
  obtain ⟨c1, c2, c3⟩ := C_k hC k2
  exact ⟨w', k1, c1, c2⟩
theorem s_winningOrders {e n : Nat} {im : Nat → Option Nat} {w u : Nat → Nat → Int} {v : Nat → Int} {t o : Int} (hw : a_wf v) (h : a_tt v t o) (hC : C_m v 0 (t_b v t) (t_b v o) (t_m v t) (t_m v o) (t_n v t) (t_n v o) w) : ∃ w', (z_F (e + 7)).1 k_Contest_winningOrders [.ref 31] (n, z_q im, jM w, jL u) = some (Int32.ofInt (W_c (S_o v t o) (q_len (t_n v t))), jM w', jL u) ∧ c_fr w w' := by
  obtain ⟨a1, a2, a3, a4, a5, a6⟩ := t_wf hw h.1
  obtain ⟨b1, b2, b3, b4, b5, b6⟩ := t_wf hw h.2.1
  have hL := q_len_b a4
  obtain ⟨w0, s1, s2⟩ := s_sort0 (e := e + 3) (n := n) (im := im) (u := u) hw h hC
  obtain ⟨t9, ht9, wf, rfl, i1⟩ := z_for (o := z_F (e + 6)) (cd := cd_Contest_winningOrders) (P := fun i s => ∃ wi, s = (9, [some (.ref 31), some (.int (Int32.ofInt (W_c (S_o v t o) i))), some (.int (Int32.ofInt (if i = q_len (t_n v t) then 0 else 1))), some (.int (Int32.ofInt (i : Int)))], (n, z_q im, jM wi, jL u)) ∧ X_i v t o w i wi) (q_len (t_n v t)) (s := (9, [some (.ref 31), some (.int (Int32.ofInt 0)), some (.int (Int32.ofInt 1)), some (.int (Int32.ofInt 0))], (n, z_q im, jM w0, jL u))) ⟨w0, by rw [if_neg (show ¬ 0 = q_len (t_n v t) by omega)]; rfl, s2⟩ (fun i s hi hs => by
    obtain ⟨wi, rfl, i1⟩ := hs
    obtain ⟨w1, r1, r2, r3, r4, r5⟩ := x_run0 (e := e) (n := n) (im := im) (u := u) hw i1.1 (G_ok hw h i).2 a2 b2
    obtain ⟨w2, x1, x2, x3⟩ := s_next0 (e := e + 3) (n := n) (im := im) (w := w) (u := u) hw h hi ⟨r3, c_fr_tr i1.2 r2⟩
    have hb := S_o_b hw h i
    change w1 31 7 - w1 31 8 = S_o v t o i at r5
    have hc := W_c_b (S_o v t o) i
    refine ⟨(9, [some (.ref 31), some (.int (Int32.ofInt (W_c (S_o v t o) (i + 1)))), some (.int (Int32.ofInt (if i + 1 = q_len (t_n v t) then 0 else 1))), some (.int (Int32.ofInt ((i : Int) + 1)))], (n, z_q im, jM w2, jL u)), z_To_1 ((e_Contest_winningOrders_9 ..).trans ?_), w2, rfl, x2⟩
    rw [if_neg (c := i = q_len (t_n v t)) (by omega), if_neg (ji_le_n (by decide) (by omega) (by omega)), if_neg (show ¬ Int32.ofInt 1 = 0 by decide), r1, z_oV_s, s_score, z_oI_s, r5, x1, z_oI_s, z_oI_s, ji_add, ji_add, ji_add]
    have hW : W_c (S_o v t o) (i + 1) = W_c (S_o v t o) i + (if 0 < S_o v t o i then 1 else 0) := rfl
    rw [hW]
    by_cases q : 0 < S_o v t o i
    · have g : ¬ Int32.ofInt (S_o v t o i) ≤ 0 := ji_le_n (b := 0) (by omega) (by decide) (by omega)
      rw [if_neg g, if_pos q]
    · have g : Int32.ofInt (S_o v t o i) ≤ 0 := ji_le_p (b := 0) (by omega) (by decide) (by omega)
      rw [if_pos g, if_neg q])
  refine ⟨wf, n_Contest_winningOrders (z_go ((e_Contest_winningOrders_0 ..).trans ?_) (ht9 _ (z_ret ((e_Contest_winningOrders_9 ..).trans ?_)))), i1.2⟩
  · rw [s1, z_oV_s]
  · rw [if_pos (c := q_len (t_n v t) = q_len (t_n v t)) rfl, if_pos (c := Int32.ofInt 0 = 0) rfl]
    by_cases q : Int32.ofInt 120 ≤ Int32.ofInt ((q_len (t_n v t) : Nat) : Int)
    · rw [if_pos q]
    · rw [if_neg q]
theorem x_wins {e n : Nat} {im : Nat → Option Nat} {w u : Nat → Nat → Int} {v : Nat → Int} {t o : Int} (hv : c_v w v) (hw : a_wf v) (ht : jR t) (ho : jR o) : ∃ w', (z_F (e + 20)).1 k_LongBoats_wins [.ref 0, .int (Int32.ofInt t), .int (Int32.ofInt o)] (n, z_q im, jM w, jL u) = some (Int32.ofInt (V_wins v t o), jM w', jL u) ∧ c_fr w w' := by
  unfold V_wins
  obtain ⟨w1, m1, m2, m3⟩ := x_meets (e := e + 13) (n := n) (im := im) (u := u) hv hw ht ho
  by_cases h : a_tt v t o
  · rw [if_pos h] at m1 ⊢
    obtain ⟨w2, k1, k2⟩ := s_winningOrders (e := e + 12) (n := n) (im := im) (u := u) hw h (m3 h)
    refine ⟨w2, q_LongBoats_wins ?_, c_fr_tr m2 k2⟩
    rw [m1, z_oI_s, if_neg (show ¬ Int32.ofInt 1 = 0 by decide), k1, z_oI_s]
  · rw [if_neg h] at m1 ⊢
    refine ⟨w1, q_LongBoats_wins ?_, m2⟩
    rw [m1, z_oI_s, if_pos (show Int32.ofInt 0 = 0 from rfl)]
theorem s_copy_40 {e n : Nat} {im : Nat → Option Nat} {w u : Nat → Nat → Int} : ∃ w', (z_F (e + 2)).2.2.1 k_Row_copyFrom [.ref 40, .ref 32] (n, z_q im, jM w, jL u) = some (jM w', jL u) ∧ (∀ c, c ≠ 41 → w' c = w c) ∧ ∀ j, j < 5 → w' 41 j = w 33 j := by
  obtain ⟨t9, ht9, wf, rfl, i1, i2⟩ := z_for (o := z_F (e + 1)) (cd := cd_Row_copyFrom) (P := fun i s => ∃ wi, s = (3, [some (.ref 40), some (.ref 32), some (.int (Int32.ofInt (i : Int)))], (n, z_q im, jM wi, jL u)) ∧ (∀ c, c ≠ 41 → wi c = w c) ∧ ∀ j, j < i → wi 41 j = w 33 j) 5 (s := (3, [some (.ref 40), some (.ref 32), some (.int (Int32.ofInt 0))], (n, z_q im, jM w, jL u))) ⟨w, rfl, fun _ _ => rfl, fun j hj => absurd hj (by omega)⟩ (fun i s hi hs => by
    obtain ⟨wi, rfl, i1, i2⟩ := hs
    refine ⟨(3, [some (.ref 40), some (.ref 32), some (.int (Int32.ofInt ((i : Int) + 1)))], (n, z_q im, jM (z_u wi 41 i (w 33 i)), jL u)), z_To_1 ((e_Row_copyFrom_40_32_3 ..).trans ?_), _, rfl, fun c hc => by rw [z_u_ne hc]; exact i1 c hc, fun j hj => ?_⟩
    · rw [show Int32.ofNat 5 = Int32.ofInt 5 from rfl, if_neg (ji_le_n (by decide) (by omega) (by omega)), s_at_32 (by omega), z_oI_s, if_pos (c := 0 ≤ (i : Int) ∧ (i : Int) < 5) (by omega), if_neg (by simp (disch := omega) only [ji_lt0, ji_nat]; omega), ji_add, ji_nat (by omega), show ((i : Int)).toNat = i by omega, i1 33 (by decide)]
      simp only [jM_u]
    · rw [z_u_at]
      split
      · rename_i q; rw [q]
      · exact i2 j (by omega))
  refine ⟨wf, n_Row_copyFrom_40_32 (z_go (e_Row_copyFrom_40_32_0 ..) (ht9 _ (z_ret ((e_Row_copyFrom_40_32_3 ..).trans ?_)))), i1, i2⟩
  rw [show Int32.ofNat 5 = Int32.ofInt 5 from rfl, if_pos (ji_le_p (by decide) (by decide) (by decide))]
theorem X_41 {v : Nat → Int} {t o : Int} {w wi w' : Nat → Nat → Int} {i : Nat} (hX : X_i v t o w i wi) (h : ∀ c, c ≠ 41 → w' c = wi c) : X_i v t o w i w' := by
  obtain ⟨⟨c1, c2, c3, c4, c5, c6⟩, hf⟩ := hX
  refine ⟨⟨?_, ?_, ?_, ?_, ?_, ?_⟩, fun c hc => (h c (fun q => by subst q; simp at hc)).trans (hf c hc)⟩
  · unfold c_v
    rw [h 3 (by decide), h 5 (by decide), h 7 (by decide), h 9 (by decide)]
    exact c1
  · rw [h 25 (by decide)]; exact c2
  · rw [h 31 (by decide)]; exact c3
  · rw [h 31 (by decide)]; exact c4
  · rw [h 33 (by decide)]; exact c5
  · rw [h 35 (by decide)]; exact c6
theorem s_findBest {e n : Nat} {im : Nat → Option Nat} {w u : Nat → Nat → Int} {v : Nat → Int} {t o : Int} (hw : a_wf v) (h : a_tt v t o) (hC : C_m v 0 (t_b v t) (t_b v o) (t_m v t) (t_m v o) (t_n v t) (t_n v o) w) : ∃ w', (z_F (e + 7)).2.2.1 k_Contest_findBest [.ref 31] (n, z_q im, jM w, jL u) = some (jM w', jL u) ∧ c_fr w w' ∧ ∀ j, j < t_n v t → w' 41 j = G_o v t (P_x (S_o v t o) (-6) (q_len (t_n v t))).1 j := by
  obtain ⟨a1, a2, a3, a4, a5, a6⟩ := t_wf hw h.1
  obtain ⟨b1, b2, b3, b4, b5, b6⟩ := t_wf hw h.2.1
  have hL := q_len_b a4
  obtain ⟨w0, s1, s2⟩ := s_sort0 (e := e + 3) (n := n) (im := im) (u := u) hw h hC
  obtain ⟨t9, ht9, wf, rfl, i1, i2⟩ := z_for (o := z_F (e + 6)) (cd := cd_Contest_findBest) (P := fun i s => ∃ wi, s = (9, [some (.ref 31), some (.int (Int32.ofInt (P_x (S_o v t o) (-6) i).2)), some (.int (Int32.ofInt (if i = q_len (t_n v t) then 0 else 1))), some (.int (Int32.ofInt (i : Int)))], (n, z_q im, jM wi, jL u)) ∧ X_i v t o w i wi ∧ (1 ≤ i → ∀ j, j < t_n v t → wi 41 j = G_o v t (P_x (S_o v t o) (-6) i).1 j)) (q_len (t_n v t)) (s := (9, [some (.ref 31), some (.int (Int32.ofInt (-6))), some (.int (Int32.ofInt 1)), some (.int (Int32.ofInt 0))], (n, z_q im, jM w0, jL u))) ⟨w0, by rw [if_neg (show ¬ 0 = q_len (t_n v t) by omega)]; rfl, s2, fun q => absurd q (by decide)⟩ (fun i s hi hs => by
    obtain ⟨wi, rfl, i1, i2⟩ := hs
    obtain ⟨w1, r1, r2, r3, r4, r5⟩ := x_run0 (e := e) (n := n) (im := im) (u := u) hw i1.1 (G_ok hw h i).2 a2 b2
    have hb := S_o_b hw h i
    change w1 31 7 - w1 31 8 = S_o v t o i at r5
    have hpb := P_x_b (f := S_o v t o) (l := -6) (lo := -6) (hi := 5) (by decide) (by decide) i (fun j hj => by have := S_o_b hw h j; omega)
    have hX1 : X_i v t o w i w1 := ⟨r3, c_fr_tr i1.2 r2⟩
    have hP := P_x_s (S_o v t o) (-6) i
    by_cases q : (P_x (S_o v t o) (-6) i).2 < S_o v t o i
    · rw [if_pos q] at hP
      obtain ⟨w2, y1, y2, y3⟩ := s_copy_40 (e := e + 4) (n := n) (im := im) (w := w1) (u := u)
      obtain ⟨w3, x1, x2, x3⟩ := s_next0 (e := e + 3) (n := n) (im := im) (w := w) (u := u) hw h hi (X_41 hX1 y2)
      refine ⟨(9, [some (.ref 31), some (.int (Int32.ofInt (P_x (S_o v t o) (-6) (i + 1)).2)), some (.int (Int32.ofInt (if i + 1 = q_len (t_n v t) then 0 else 1))), some (.int (Int32.ofInt ((i : Int) + 1)))], (n, z_q im, jM w3, jL u)), z_To_1 ((e_Contest_findBest_9 ..).trans ?_), w3, rfl, x2, fun _ j hj => ?_⟩
      · rw [hP, if_neg (c := i = q_len (t_n v t)) (by omega), if_neg (ji_le_n (by decide) (by omega) (by omega)), if_neg (show ¬ Int32.ofInt 1 = 0 by decide), r1, z_oV_s, s_score, z_oI_s, r5, if_neg (ji_le_n (by omega) (by omega) (by omega)), s_score, z_oI_s, r5, y1, z_oV_s, x1, z_oI_s, ji_add]
      · rw [x3, y3 j (by omega), hP]
        exact r3.2.2.2.2.1 j hj
    · rw [if_neg q] at hP
      obtain ⟨w3, x1, x2, x3⟩ := s_next0 (e := e + 3) (n := n) (im := im) (w := w) (u := u) hw h hi hX1
      refine ⟨(9, [some (.ref 31), some (.int (Int32.ofInt (P_x (S_o v t o) (-6) (i + 1)).2)), some (.int (Int32.ofInt (if i + 1 = q_len (t_n v t) then 0 else 1))), some (.int (Int32.ofInt ((i : Int) + 1)))], (n, z_q im, jM w3, jL u)), z_To_1 ((e_Contest_findBest_9 ..).trans ?_), w3, rfl, x2, fun _ j hj => ?_⟩
      · rw [hP, if_neg (c := i = q_len (t_n v t)) (by omega), if_neg (ji_le_n (by decide) (by omega) (by omega)), if_neg (show ¬ Int32.ofInt 1 = 0 by decide), r1, z_oV_s, s_score, z_oI_s, r5, if_pos (ji_le_p (by omega) (by omega) (by omega)), x1, z_oI_s, ji_add]
      · by_cases q0 : i = 0
        · subst q0
          have : ¬ (-6 : Int) < S_o v t o 0 := q
          omega
        · rw [x3, r4, hP]
          exact i2 (by omega) j hj)
  refine ⟨wf, n_Contest_findBest (z_go ((e_Contest_findBest_0 ..).trans ?_) (ht9 _ (z_ret ((e_Contest_findBest_9 ..).trans ?_)))), i1.2, i2 hL.1⟩
  · rw [s1, z_oV_s]
  · rw [if_pos (c := q_len (t_n v t) = q_len (t_n v t)) rfl, if_pos (c := Int32.ofInt 0 = 0) rfl]
    by_cases q : Int32.ofInt 120 ≤ Int32.ofInt ((q_len (t_n v t) : Nat) : Int)
    · rw [if_pos q]
    · rw [if_neg q]
theorem x_order {e n : Nat} {im : Nat → Option Nat} {w u : Nat → Nat → Int} {v : Nat → Int} {t o i : Int} (hv : c_v w v) (hw : a_wf v) (ht : jR t) (ho : jR o) (hi : jR i) : ∃ w', (z_F (e + 20)).1 k_LongBoats_order [.ref 0, .int (Int32.ofInt t), .int (Int32.ofInt o), .int (Int32.ofInt i)] (n, z_q im, jM w, jL u) = some (Int32.ofInt (V_order v t o i), jM w', jL u) ∧ c_fr w w' := by
  unfold V_order
  obtain ⟨w1, m1, m2, m3⟩ := x_meets (e := e + 13) (n := n) (im := im) (u := u) hv hw ht ho
  by_cases h : a_tt v t o
  · rw [if_pos h] at m1 ⊢
    obtain ⟨a1, a2, a3, a4, a5, a6⟩ := t_wf hw h.1
    have c2 := (c_t (m3 h).1 a1).2.1
    rw [a3] at c2
    by_cases q : 0 ≤ i ∧ i < (t_n v t : Int)
    · rw [if_pos q]
      obtain ⟨w2, k1, k2, k3⟩ := s_findBest (e := e + 12) (n := n) (im := im) (u := u) hw h (m3 h)
      refine ⟨w2, q_LongBoats_order ?_, c_fr_tr m2 k2⟩
      rw [m1, z_oI_s, if_neg (show ¬ Int32.ofInt 1 = 0 by decide), s_sizeOf_3 (by omega) (by omega), z_oI_s, c2, ji_sub, s_within (by omega) (by decide) (by omega), z_oI_s, if_neg (ji_b_n (by omega)), k1, z_oV_s, s_at_40 (by omega), z_oI_s, if_pos (by omega), k3 _ (by omega)]
    · rw [if_neg q]
      refine ⟨w1, q_LongBoats_order ?_, m2⟩
      rw [m1, z_oI_s, if_neg (show ¬ Int32.ofInt 1 = 0 by decide), s_sizeOf_3 (by omega) (by omega), z_oI_s, c2, ji_sub, s_within (by omega) (by decide) (by omega), z_oI_s, if_pos (ji_b_p (by omega))]
  · rw [if_neg h] at m1 ⊢
    refine ⟨w1, q_LongBoats_order ?_, m2⟩
    rw [m1, z_oI_s, if_pos (show Int32.ofInt 0 = 0 from rfl)]
