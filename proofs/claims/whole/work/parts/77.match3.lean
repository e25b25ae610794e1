/-! match, passed, led, day: the class -/
theorem a_f1_e {p : Nat → Int} : ∀ (m x : Nat), a_f1 p x m ≠ -1 → ∃ y, x ≤ y ∧ y < x + m ∧ p y ≠ -1
  | 0, x, h => absurd rfl h
  | m + 1, x, h => by
    by_cases hp : p x = -1
    · rw [a_f1_s, if_pos hp] at h
      obtain ⟨y, h1, h2, h3⟩ := a_f1_e m (x + 1) h
      exact ⟨y, by omega, by omega, h3⟩
    · exact ⟨x, by omega, by omega, hp⟩
theorem D_m_e {v : Nat → Int} {t m : Int} (h : D_m v t m ≠ -1) : ∃ i, i < t_n v t ∧ t_m v t i = m := by
  obtain ⟨y, h1, h2, h3⟩ := a_f1_e _ _ h
  refine ⟨y, by omega, ?_⟩
  by_cases q : t_m v t y = m
  · exact q
  · exact absurd (if_neg q) h3
theorem D_m_r {v : Nat → Int} {t m : Int} (hw : a_wf v) (ht : t_in v t) (h : D_m v t m ≠ -1) : 0 ≤ m ∧ m ≤ 9 := by
  obtain ⟨i, h1, h2⟩ := D_m_e h
  have := (t_wf hw ht).2.2.2.2.1 i h1
  have f7 := hw.2.2.2.2.2.2.2.1
  omega
/-- the match between two TEAMS, as told -/
noncomputable def M_T (v : Nat → Int) (dr x t o : Int) : zT := M_F v dr x (t_b v t) (t_b v o) (t_m v t) (t_m v o) (t_n v t) (t_n v o)
theorem M_T_x {v : Nat → Int} {x t o : Int} : M_T v 0 x t o = ((M_T v 0 0 t o).1, (M_T v 0 0 t o).2.1, (M_T v 0 0 t o).2.2.1, x, (M_T v 0 0 t o).2.2.2.2) := M_F_x
/-- what is asked of a match -/
def O_w (n1 n2 : Nat) (T : zT) (k : Int) : Int := if k = 0 then (if T.1 < n1 then 0 else if T.2.1 < n2 then 1 else 2) else if k = 1 then (if T.1 < n1 then (n1 : Int) - (T.1 : Int) else (n2 : Int) - (T.2.1 : Int)) else (T.2.2.2.2.1 : Int)
noncomputable def V_match (v : Nat → Int) (t o k : Int) : Int := if a_tt v t o ∧ (0 ≤ k ∧ k ≤ 2) then O_w (t_n v t) (t_n v o) (M_T v 0 0 t o) k else -2
noncomputable def V_passed (v : Nat → Int) (t o m : Int) : Int := if a_tt v t o ∧ ¬ (D_m v t m = -1 ∧ D_m v o m = -1) then (M_T v 0 0 t o).2.2.1 m.toNat else -2
noncomputable def V_led (v : Nat → Int) (t o i k : Int) : Int := if a_tt v t o ∧ (0 ≤ k ∧ k ≤ 3) then (if 0 ≤ i ∧ i < ((M_T v 0 0 t o).2.2.2.2.1 : Int) then (M_T v 0 0 t o).2.2.2.2.2 (4 * i.toNat + k.toNat) else -1) else -2
noncomputable def V_day (v : Nat → Int) (x t o k : Int) : Int := if (0 ≤ x ∧ x ≤ 2000000000) ∧ a_tt v t o ∧ (0 ≤ k ∧ k ≤ 2) then O_w (t_n v t) (t_n v o) (M_T v 1 x t o) k else -2
theorem s_score {e n : Nat} {im : Nat → Option Nat} {w u : Nat → Nat → Int} : (z_F (e + 1)).1 k_Contest_score [.ref 31] (n, z_q im, jM w, jL u) = some (Int32.ofInt (w 31 7 - w 31 8), jM w, jL u) := by
  refine q_Contest_score ?_
  simp only [jM_at, ji_sub]
theorem s_outcome {e n : Nat} {im : Nat → Option Nat} {w u : Nat → Nat → Int} {w0 : Nat → Nat → Int} {n1 n2 : Nat} {dr k : Int} {T : zT} (h5 : n1 ≤ 5 ∧ n2 ≤ 5) (hT : T_ok dr n1 n2 T) (he : ¬ (T.1 < n1 ∧ T.2.1 < n2)) (hC : C_e w0 w n1 n2 T) (hk : 0 ≤ k ∧ k ≤ 2) : (z_F (e + 2)).1 k_Contest_outcome [.ref 31, .int (Int32.ofInt k)] (n, z_q im, jM w, jL u) = some (Int32.ofInt (O_w n1 n2 T k), jM w, jL u) := by
  obtain ⟨c0, c1, c2, c3, c4, c5⟩ := hC
  obtain ⟨g1, g2, g3, g4, g5⟩ := hT
  refine q_Contest_outcome ?_
  simp only [s_score, z_oI_s, c1, c2, jM_at, c3]
  rw [show (0 : Int32) = Int32.ofInt 0 from rfl]
  have hS : ∀ S : Int, S = (n1 : Int) - (T.1 : Int) - ((n2 : Int) - (T.2.1 : Int)) → (T.1 < n1 → 0 < S ∧ S = (n1 : Int) - (T.1 : Int)) ∧ (¬ T.1 < n1 → S ≤ 0 ∧ S = - ((n2 : Int) - (T.2.1 : Int))) ∧ jR S := fun S h => by omega
  have hSS := hS _ rfl
  generalize (n1 : Int) - (T.1 : Int) - ((n2 : Int) - (T.2.1 : Int)) = S at hSS
  obtain ⟨p1, p2, p3⟩ := hSS
  unfold O_w
  by_cases k0 : k = 0
  · rw [if_pos (ji_eq_p (by omega) (by decide) k0), if_pos k0]
    by_cases q1 : T.1 < n1
    · rw [if_pos q1, if_neg (ji_le_n p3 (by decide) (by have := p1 q1; omega))]
    · have p4 := p2 q1
      rw [if_neg q1, if_pos (ji_le_p p3 (by decide) (by omega))]
      by_cases q2 : T.2.1 < n2
      · rw [if_pos q2, if_neg (ji_le_n (by decide) p3 (by omega))]
      · rw [if_neg q2, if_pos (ji_le_p (by decide) p3 (by omega))]
  · rw [if_neg (ji_eq_n (by omega) (by decide) k0), if_neg k0]
    by_cases k1 : k = 1
    · rw [if_pos (ji_eq_p (by omega) (by decide) k1), if_pos k1]
      by_cases q1 : T.1 < n1
      · rw [if_pos q1, if_pos (ji_le_p (by decide) p3 (by have := p1 q1; omega)), (p1 q1).2]
      · have p4 := p2 q1
        rw [if_neg q1]
        by_cases q2 : T.2.1 < n2
        · rw [if_neg (ji_le_n (by decide) p3 (by omega)), ji_sub, show 0 - S = (n2 : Int) - (T.2.1 : Int) by omega]
        · rw [if_pos (ji_le_p (by decide) p3 (by omega)), show S = (n2 : Int) - (T.2.1 : Int) by omega]
    · rw [if_neg (ji_eq_n (by omega) (by decide) k1), if_neg k1]
/-- a match run after the TEAMS met, without draws -/
theorem x_runs {e n : Nat} {im : Nat → Option Nat} {w u : Nat → Nat → Int} {v : Nat → Int} {t o : Int} (hw : a_wf v) (h : a_tt v t o) (hC : C_m v 0 (t_b v t) (t_b v o) (t_m v t) (t_m v o) (t_n v t) (t_n v o) w) : ∃ w', (z_F (e + 6)).2.2.1 k_Contest_run [.ref 31] (n, z_q im, jM w, jL u) = some (jM w', jL u) ∧ C_e w w' (t_n v t) (t_n v o) (M_T v 0 0 t o) := by
  obtain ⟨a1, a2, a3, a4, a5, a6⟩ := t_wf hw h.1
  obtain ⟨b1, b2, b3, b4, b5, b6⟩ := t_wf hw h.2.1
  obtain ⟨w', k1, k2⟩ := s_run (e := e) (n := n) (im := im) (w := w) (u := u) hw hC (R_ok_mt hw h) (Or.inl rfl) a2 b2 (fun q => absurd rfl q)
  change _ = some (jM w', jL (z_u u 30 0 (M_T v 0 (u 30 0) t o).2.2.2.1)) at k1
  change C_e w w' (t_n v t) (t_n v o) (M_T v 0 (u 30 0) t o) at k2
  rw [M_T_x] at k1 k2
  refine ⟨w', ?_, k2⟩
  rw [k1, zu_self]
theorem x_match {e n : Nat} {im : Nat → Option Nat} {w u : Nat → Nat → Int} {v : Nat → Int} {t o k : Int} (hv : c_v w v) (hw : a_wf v) (ht : jR t) (ho : jR o) (hk : jR k) : ∃ w', (z_F (e + 20)).1 k_LongBoats_match [.ref 0, .int (Int32.ofInt t), .int (Int32.ofInt o), .int (Int32.ofInt k)] (n, z_q im, jM w, jL u) = some (Int32.ofInt (V_match v t o k), jM w', jL u) ∧ c_fr w w' := by
  unfold V_match
  by_cases h1 : 0 ≤ k ∧ k ≤ 2
  · obtain ⟨w1, m1, m2, m3⟩ := x_meets (e := e + 13) (n := n) (im := im) (u := u) hv hw ht ho
    by_cases h2 : a_tt v t o
    · rw [if_pos h2] at m1
      rw [if_pos ⟨h2, h1⟩]
      obtain ⟨w2, r1, r2⟩ := x_runs (e := e + 13) (n := n) (im := im) (u := u) hw h2 (m3 h2)
      have hok := M_F_ok (dr := 0) (x := 0) (bo := t_b v t) (ot := t_b v o) hw (R_ok_mt hw h2) (fun q => absurd rfl q)
      refine ⟨w2, q_LongBoats_match ?_, c_fr_tr m2 r2.1⟩
      rw [s_within (by omega) (by decide) (by decide), z_oI_s, if_neg (ji_b_n h1), m1, z_oI_s, if_neg (show ¬ Int32.ofInt 1 = 0 by decide), r1, z_oV_s, s_outcome (R_ok_mt hw h2).1 hok.1 hok.2 r2 h1, z_oI_s]
      rfl
    · rw [if_neg h2] at m1
      rw [if_neg (fun q => h2 q.1)]
      refine ⟨w1, q_LongBoats_match ?_, m2⟩
      rw [s_within (by omega) (by decide) (by decide), z_oI_s, if_neg (ji_b_n h1), m1, z_oI_s, if_pos (show Int32.ofInt 0 = 0 from rfl)]
  · rw [if_neg (fun q => h1 q.2)]
    refine ⟨w, q_LongBoats_match ?_, c_fr_rf w⟩
    rw [s_within (by omega) (by decide) (by decide), z_oI_s, if_pos (ji_b_p h1)]
theorem x_passed {e n : Nat} {im : Nat → Option Nat} {w u : Nat → Nat → Int} {v : Nat → Int} {t o m : Int} (hv : c_v w v) (hw : a_wf v) (ht : jR t) (ho : jR o) (hm : jR m) : ∃ w', (z_F (e + 20)).1 k_LongBoats_passed [.ref 0, .int (Int32.ofInt t), .int (Int32.ofInt o), .int (Int32.ofInt m)] (n, z_q im, jM w, jL u) = some (Int32.ofInt (V_passed v t o m), jM w', jL u) ∧ c_fr w w' := by
  unfold V_passed
  obtain ⟨w1, m1, m2, m3⟩ := x_meets (e := e + 13) (n := n) (im := im) (u := u) hv hw ht ho
  by_cases h2 : a_tt v t o
  · rw [if_pos h2] at m1
    have hv1 := c_v_fr hv m2
    have hb1 := D_m_b v t m
    have hb2 := D_m_b v o m
    have e1 := s_isMate_3 (e := e + 16) (n := n) (im := im) (u := u) hv1 hw h2.1 hm
    have e2 := s_isMate_3 (e := e + 16) (n := n) (im := im) (u := u) hv1 hw h2.2.1 hm
    by_cases h3 : D_m v t m = -1 ∧ D_m v o m = -1
    · rw [if_neg (fun q => q.2 h3)]
      refine ⟨w1, q_LongBoats_passed ?_, m2⟩
      rw [m1, z_oI_s, if_neg (show ¬ Int32.ofInt 1 = 0 by decide), e1, z_oI_s, if_pos (ji_eq0_p (by omega) (by omega)), e2, z_oI_s, if_pos (ji_eq0_p (by omega) (by omega))]
    · rw [if_pos ⟨h2, h3⟩]
      obtain ⟨w2, r1, r2⟩ := x_runs (e := e + 13) (n := n) (im := im) (u := u) hw h2 (m3 h2)
      have hmr : 0 ≤ m ∧ m ≤ 9 := by
        by_cases q : D_m v t m = -1
        · exact D_m_r hw h2.2.1 (fun q2 => h3 ⟨q, q2⟩)
        · exact D_m_r hw h2.1 q
      have e3 := s_at_38 (e := e + 18) (n := n) (im := im) (w := w2) (u := u) hm
      rw [if_pos (by omega), r2.2.2.2.2.1 _ (by omega)] at e3
      refine ⟨w2, q_LongBoats_passed ?_, c_fr_tr m2 r2.1⟩
      rw [m1, z_oI_s, if_neg (show ¬ Int32.ofInt 1 = 0 by decide), e1, z_oI_s, e2, z_oI_s, r1, z_oV_s, e3, z_oI_s]
      by_cases q : D_m v t m = -1
      · rw [if_pos (ji_eq0_p (by omega) (by omega)), if_neg (ji_eq0_n (by omega) (fun q2 => h3 ⟨q, by omega⟩))]
      · rw [if_neg (ji_eq0_n (by omega) (by omega))]
  · rw [if_neg h2] at m1
    rw [if_neg (fun q => h2 q.1)]
    refine ⟨w1, q_LongBoats_passed ?_, m2⟩
    rw [m1, z_oI_s, if_pos (show Int32.ofInt 0 = 0 from rfl)]
theorem s_logged {e n : Nat} {im : Nat → Option Nat} {w u : Nat → Nat → Int} {i k : Int} (hi : 0 ≤ i ∧ i ≤ 9) (hk : 0 ≤ k ∧ k ≤ 3) : (z_F (e + 2)).1 k_Contest_logged [.ref 31, .int (Int32.ofInt i), .int (Int32.ofInt k)] (n, z_q im, jM w, jL u) = some (Int32.ofInt (w 37 (4 * i.toNat + k.toNat)), jM w, jL u) := by
  refine q_Contest_logged ?_
  rw [ji_mul, ji_add, s_at_36 (by omega), z_oI_s, if_pos (by omega), show (i * 4 + k).toNat = 4 * i.toNat + k.toNat by omega]
theorem x_led {e n : Nat} {im : Nat → Option Nat} {w u : Nat → Nat → Int} {v : Nat → Int} {t o i k : Int} (hv : c_v w v) (hw : a_wf v) (ht : jR t) (ho : jR o) (hi : jR i) (hk : jR k) : ∃ w', (z_F (e + 20)).1 k_LongBoats_led [.ref 0, .int (Int32.ofInt t), .int (Int32.ofInt o), .int (Int32.ofInt i), .int (Int32.ofInt k)] (n, z_q im, jM w, jL u) = some (Int32.ofInt (V_led v t o i k), jM w', jL u) ∧ c_fr w w' := by
  unfold V_led
  by_cases h1 : 0 ≤ k ∧ k ≤ 3
  · obtain ⟨w1, m1, m2, m3⟩ := x_meets (e := e + 13) (n := n) (im := im) (u := u) hv hw ht ho
    by_cases h2 : a_tt v t o
    · rw [if_pos h2] at m1
      rw [if_pos ⟨h2, h1⟩]
      obtain ⟨w2, r1, r2⟩ := x_runs (e := e + 13) (n := n) (im := im) (u := u) hw h2 (m3 h2)
      have hok := (M_F_ok (dr := 0) (x := 0) (bo := t_b v t) (ot := t_b v o) hw (R_ok_mt hw h2) (fun q => absurd rfl q)).1
      have hn := (R_ok_mt hw h2).1
      have hB : (M_T v 0 0 t o).2.2.2.2.1 ≤ 10 := by
        have a1 := hok.1
        have a2 := hok.2.1
        have a3 := hok.2.2.2.1
        change (M_T v 0 0 t o).1 ≤ t_n v t at a1
        change (M_T v 0 0 t o).2.1 ≤ t_n v o at a2
        change (M_T v 0 0 t o).2.2.2.2.1 ≤ (M_T v 0 0 t o).1 + (M_T v 0 0 t o).2.1 at a3
        omega
      refine ⟨w2, q_LongBoats_led ?_, c_fr_tr m2 r2.1⟩
      rw [s_within (by omega) (by decide) (by decide), z_oI_s, if_neg (ji_b_n h1), m1, z_oI_s, if_neg (show ¬ Int32.ofInt 1 = 0 by decide), r1, z_oV_s]
      simp only [jM_at, r2.2.2.2.1, ji_sub]
      rw [s_within (by omega) (by decide) (by omega), z_oI_s]
      by_cases h3 : 0 ≤ i ∧ i < ((M_T v 0 0 t o).2.2.2.2.1 : Int)
      · rw [if_neg (ji_b_n (by omega)), if_pos h3, s_logged (by omega) h1, z_oI_s, r2.2.2.2.2.2 _ (by omega)]
      · rw [if_pos (ji_b_p (by omega)), if_neg h3]
    · rw [if_neg h2] at m1
      rw [if_neg (fun q => h2 q.1)]
      refine ⟨w1, q_LongBoats_led ?_, m2⟩
      rw [s_within (by omega) (by decide) (by decide), z_oI_s, if_neg (ji_b_n h1), m1, z_oI_s, if_pos (show Int32.ofInt 0 = 0 from rfl)]
  · rw [if_neg (fun q => h1 q.2)]
    refine ⟨w, q_LongBoats_led ?_, c_fr_rf w⟩
    rw [s_within (by omega) (by decide) (by decide), z_oI_s, if_pos (ji_b_p h1)]
theorem x_day {e n : Nat} {im : Nat → Option Nat} {w u : Nat → Nat → Int} {v : Nat → Int} {x t o k : Int} (hv : c_v w v) (hw : a_wf v) (hx : jR x) (ht : jR t) (ho : jR o) (hk : jR k) : ∃ w' y, (z_F (e + 20)).1 k_LongBoats_day [.ref 0, .int (Int32.ofInt x), .int (Int32.ofInt t), .int (Int32.ofInt o), .int (Int32.ofInt k)] (n, z_q im, jM w, jL u) = some (Int32.ofInt (V_day v x t o k), jM w', jL (z_u u 30 0 y)) ∧ c_fr w w' := by
  unfold V_day
  by_cases h0 : 0 ≤ x ∧ x ≤ 2000000000
  · by_cases h1 : 0 ≤ k ∧ k ≤ 2
    · obtain ⟨w1, m1, m2, m3⟩ := x_meets (e := e + 13) (n := n) (im := im) (u := u) hv hw ht ho
      by_cases h2 : a_tt v t o
      · rw [if_pos h2] at m1
        rw [if_pos ⟨h0, h2, h1⟩]
        obtain ⟨a1, a2, a3, a4, a5, a6⟩ := t_wf hw h2.1
        obtain ⟨b1, b2, b3, b4, b5, b6⟩ := t_wf hw h2.2.1
        have hC : C_m v 1 (t_b v t) (t_b v o) (t_m v t) (t_m v o) (t_n v t) (t_n v o) (z_u w1 25 4 1) := by
          obtain ⟨c1, ⟨k9, k5, k6, k7, k8, k10, k11, k4⟩, c3⟩ := m3 h2
          exact ⟨c1, ⟨k9, k5, k6, k7, k8, k10, k11, rfl⟩, c3⟩
        obtain ⟨w2, r1, r2⟩ := s_run (e := e + 13) (n := n) (im := im) (u := z_u u 30 0 x) hw hC (R_ok_mt hw h2) (Or.inr rfl) a2 b2 (fun _ => by show 0 ≤ x ∧ x < 2147483648; omega)
        have hM : M_F v 1 (z_u u 30 0 x 30 0) (t_b v t) (t_b v o) (t_m v t) (t_m v o) (t_n v t) (t_n v o) = M_T v 1 x t o := rfl
        rw [zu_zu, hM] at r1
        rw [hM] at r2
        have hok := M_F_ok (dr := 1) (x := x) (bo := t_b v t) (ot := t_b v o) hw (R_ok_mt hw h2) (fun q => by omega)
        refine ⟨w2, (M_T v 1 x t o).2.2.2.1, q_LongBoats_day ?_, c_fr_tr m2 (c_fr_tr (fun c hc => z_u_ne (fun q => by subst q; simp at hc)) r2.1)⟩
        rw [s_within (by omega) (by decide) (by decide), z_oI_s, if_neg (ji_b_n h0), s_within (by omega) (by decide) (by decide), z_oI_s, if_neg (ji_b_n h1), m1, z_oI_s, if_neg (show ¬ Int32.ofInt 1 = 0 by decide), s_drawFrom hx, z_oV_s, r1, z_oV_s, s_outcome (R_ok_mt hw h2).1 hok.1 hok.2 r2 h1, z_oI_s]
        rfl
      · rw [if_neg h2] at m1
        rw [if_neg (fun q => h2 q.2.1)]
        refine ⟨w1, u 30 0, q_LongBoats_day ?_, m2⟩
        rw [zu_self, s_within (by omega) (by decide) (by decide), z_oI_s, if_neg (ji_b_n h0), s_within (by omega) (by decide) (by decide), z_oI_s, if_neg (ji_b_n h1), m1, z_oI_s, if_pos (show Int32.ofInt 0 = 0 from rfl)]
    · rw [if_neg (fun q => h1 q.2.2)]
      refine ⟨w, u 30 0, q_LongBoats_day ?_, c_fr_rf w⟩
      rw [zu_self, s_within (by omega) (by decide) (by decide), z_oI_s, if_neg (ji_b_n h0), s_within (by omega) (by decide) (by decide), z_oI_s, if_pos (ji_b_p h1)]
  · rw [if_neg (fun q => h0 q.1)]
    refine ⟨w, u 30 0, q_LongBoats_day ?_, c_fr_rf w⟩
    rw [zu_self, s_within (by omega) (by decide) (by decide), z_oI_s, if_pos (ji_b_p h0)]
