/-! match, passed, led, day of the reference -/
theorem s_plays {e n : Nat} {im : Nat → Option Nat} {w u : Nat → Nat → Int} {dr bo ot : Int} {F S : Nat → Int} {n1 n2 : Nat} (hw : a_wf (w 46)) (hC : R_m w F S n1 n2) (hR : R_ok (w 46) F S n1 n2) (hdr : dr = 0 ∨ dr = 1) (s4 : 0 ≤ bo ∧ bo < w 46 6) (s5 : 0 ≤ ot ∧ ot < w 46 6) (hx : dr ≠ 0 → 0 ≤ u 45 18 ∧ u 45 18 < 2147483648) : ∃ w', (z_F (e + 7)).2.2.1 k_Model_plays [.ref 45, .int (Int32.ofInt bo), .int (Int32.ofInt ot), .int (Int32.ofInt dr)] (n, z_q im, jM w, jL u) = some (jM w', jL (z_u u 45 18 (M_F (w 46) dr (u 45 18) bo ot F S n1 n2).2.2.2.1)) ∧ J_f w w' ∧ J_e n1 n2 (M_F (w 46) dr (u 45 18) bo ot F S n1 n2) w' := by
  obtain ⟨t9, ht9, wf, rfl, i1, i2⟩ := z_for (o := z_F (e + 6)) (cd := cd_Model_plays) (P := fun i s => ∃ wi, s = (3, [some (.ref 45), some (.int (Int32.ofInt bo)), some (.int (Int32.ofInt ot)), some (.int (Int32.ofInt dr)), some (.int (Int32.ofInt (i : Int))), none, none, none], (n, z_q im, jM wi, jL u)) ∧ (∀ c, c ≠ 55 → wi c = w c) ∧ ∀ j, j < i → wi 55 j = 0) 10 (s := (3, [some (.ref 45), some (.int (Int32.ofInt bo)), some (.int (Int32.ofInt ot)), some (.int (Int32.ofInt dr)), some (.int (Int32.ofInt 0)), none, none, none], (n, z_q im, jM w, jL u))) ⟨w, rfl, fun _ _ => rfl, fun j hj => absurd hj (by omega)⟩ (fun i s hi hs => by
    obtain ⟨wi, rfl, i1, i2⟩ := hs
    refine ⟨(3, [some (.ref 45), some (.int (Int32.ofInt bo)), some (.int (Int32.ofInt ot)), some (.int (Int32.ofInt dr)), some (.int (Int32.ofInt ((i : Int) + 1))), none, none, none], (n, z_q im, jM (z_u wi 55 i 0), jL u)), z_To_1 ((e_Model_plays_3 ..).trans ?_), _, rfl, fun c hc => by rw [z_u_ne hc]; exact i1 c hc, fun j hj => ?_⟩
    · rw [if_neg (ji_le_n (by decide) (by omega) (by omega)), if_neg (by simp (disch := omega) only [ji_lt0, ji_nat]; omega), ji_add, ji_nat (by omega)]
      simp only [jM_u]
      rw [show ((i : Int)).toNat = i by omega]
    · rw [z_u_at]
      split
      · rfl
      · exact i2 j (by omega))
  have hJ : J_f w (z_u wf 45 29 0) := ⟨fun c hc => by rw [z_u_ne (fun q => by subst q; simp at hc)]; exact i1 c (fun q => by subst q; simp at hc), fun j a1 a2 a3 a4 a5 a6 => by rw [z_u_at, if_neg a4, i1 45 (by decide)]⟩
  have hL : J_l (M_0 (u 45 18)) (z_u wf 45 29 0) := ⟨rfl, fun j hj => by rw [z_u_ne (by decide)]; exact i2 j hj, fun j hj => absurd hj (Nat.not_lt_zero j)⟩
  obtain ⟨w', r1, r2, r3⟩ := l_plays (e := e) (n := n) (im := im) (u := u) hw hC hR hdr s4 s5 (n1 + n2) (M_0 (u 45 18)) _ none none (T_ok_0 hx) (by show n1 + n2 ≤ 0 + 0 + (n1 + n2); omega) hJ hL
  have hu : z_u u 45 18 (M_0 (u 45 18)).2.2.2.1 = u := zu_self u 45 18
  rw [hu] at r1
  refine ⟨w', n_Model_plays (z_go (e_Model_plays_0 ..) (ht9 _ (z_go ((e_Model_plays_3 ..).trans ?_) r1))), r2, r3⟩
  rw [if_pos (ji_le_p (by decide) (by decide) (by decide))]
  simp only [jM_u]
  rfl
theorem s_playsAsTold {e n : Nat} {im : Nat → Option Nat} {w u : Nat → Nat → Int} {t o : Int} (hw : a_wf (w 46)) (h : a_tt (w 46) t o) : ∃ w', (z_F (e + 8)).2.2.1 k_Model_playsAsTold [.ref 45, .int (Int32.ofInt t), .int (Int32.ofInt o)] (n, z_q im, jM w, jL u) = some (jM w', jL u) ∧ m_fr w w' ∧ J_e (t_n (w 46) t) (t_n (w 46) o) (M_T (w 46) 0 0 t o) w' := by
  obtain ⟨a1, a2, a3, a4, a5, a6⟩ := t_wf hw h.1
  obtain ⟨b1, b2, b3, b4, b5, b6⟩ := t_wf hw h.2.1
  obtain ⟨w1, l1, l2, l3, l4⟩ := s_layRows (e := e + 5) (n := n) (im := im) (u := u) hw h.1 h.2.1
  have e46 : w1 46 = w 46 := l3 46 (by decide) (by decide) (by decide)
  obtain ⟨w', k1, k2, k3⟩ := s_plays (e := e) (n := n) (im := im) (w := w1) (u := u) (dr := 0) (bo := t_b (w 46) t) (ot := t_b (w 46) o) (F := t_m (w 46) t) (S := t_m (w 46) o) (n1 := t_n (w 46) t) (n2 := t_n (w 46) o) (by rw [e46]; exact hw) l2 (by rw [e46]; exact R_ok_mt hw h) (Or.inl rfl) (by rw [e46]; exact a2) (by rw [e46]; exact b2) (fun q => absurd rfl q)
  rw [e46] at k1 k3
  change _ = some (jM w', jL (z_u u 45 18 (M_T (w 46) 0 (u 45 18) t o).2.2.2.1)) at k1
  change J_e _ _ (M_T (w 46) 0 (u 45 18) t o) w' at k3
  rw [M_T_x] at k1 k3
  refine ⟨w', q_Model_playsAsTold ?_, m_fr_tr ⟨fun c hc => l3 c (fun q => by subst q; simp at hc) (fun q => by subst q; simp at hc) (fun q => by subst q; simp at hc), fun j hj => l4 j (by omega) (by omega)⟩ (J_m k2), k3⟩
  rw [l1, z_oV_s, s_boatOf (by omega) (by omega), z_oI_s, s_boatOf (by omega) (by omega), z_oI_s, e46]
  change z_oV ((z_F (e + 7)).2.2.1 k_Model_plays [.ref 45, .int (Int32.ofInt (t_b (w 46) t)), .int (Int32.ofInt (t_b (w 46) o)), .int (Int32.ofInt 0)] _) _ _ = _
  rw [k1, z_oV_s, zu_self]
theorem s_ofMatch {e n : Nat} {im : Nat → Option Nat} {w u : Nat → Nat → Int} {n1 n2 : Nat} {T : zT} {k : Int} (hC : J_e n1 n2 T w) (hk : 0 ≤ k ∧ k ≤ 2) : (z_F (e + 1)).1 k_Model_ofMatch [.ref 45, .int (Int32.ofInt k)] (n, z_q im, jM w, jL u) = some (Int32.ofInt (O_w n1 n2 T k), jM w, jL u) := by
  obtain ⟨c1, c2, c3⟩ := hC
  refine q_Model_ofMatch ?_
  by_cases k0 : k = 0
  · subst k0
    rw [if_pos (ji_eq0_p (by decide) rfl), ← c2]
    rfl
  · rw [if_neg (ji_eq0_n (by omega) k0)]
    by_cases k1 : k = 1
    · subst k1
      rw [if_pos (ji_eq_p (by decide) (by decide) rfl), ← c3]
      rfl
    · rw [if_neg (ji_eq_n (by omega) (by decide) k1)]
      unfold O_w
      rw [if_neg k0, if_neg k1, ← c1.1]
      rfl
theorem m_match {e n : Nat} {im : Nat → Option Nat} {w u : Nat → Nat → Int} {t o k : Int} (hw : a_wf (w 46)) (ht : jR t) (ho : jR o) (hk : jR k) : ∃ w', (z_F (e + 20)).1 k_Model_match [.ref 45, .int (Int32.ofInt t), .int (Int32.ofInt o), .int (Int32.ofInt k)] (n, z_q im, jM w, jL u) = some (Int32.ofInt (V_match (w 46) t o k), jM w', jL u) ∧ m_fr w w' := by
  unfold V_match
  have hin : ∀ d : zD, (z_F (e + 19)).1 k_Model_in [.long (Int32.toInt64 (Int32.ofInt k)), .long (z_kl 0), .long (z_kl 5)] (n, z_q im, d) = some (Int32.ofInt (if 0 ≤ k ∧ k ≤ 2 then 1 else 0), d) := fun d => by
    rw [jl_of hk, kl_0, kl_5, s_in (by omega) (by decide) (by decide)]
  by_cases h2 : a_tt (w 46) t o
  · by_cases h1 : 0 ≤ k ∧ k ≤ 2
    · rw [if_pos ⟨h2, h1⟩]
      obtain ⟨w1, p1, p2, p3⟩ := s_playsAsTold (e := e + 11) (n := n) (im := im) (u := u) hw h2
      refine ⟨w1, q_Model_match ?_, p2⟩
      rw [s_areTeams hw ht ho, z_oI_s, if_neg (ji_b_n h2), hin, z_oI_s, if_neg (ji_b_n h1), p1, z_oV_s, s_ofMatch p3 h1, z_oI_s]
    · rw [if_neg (fun q => h1 q.2)]
      refine ⟨w, q_Model_match ?_, m_fr_rf w⟩
      rw [s_areTeams hw ht ho, z_oI_s, if_neg (ji_b_n h2), hin, z_oI_s, if_pos (ji_b_p h1)]
  · rw [if_neg (fun q => h2 q.1)]
    refine ⟨w, q_Model_match ?_, m_fr_rf w⟩
    rw [s_areTeams hw ht ho, z_oI_s, if_pos (ji_b_p h2)]
theorem m_passed {e n : Nat} {im : Nat → Option Nat} {w u : Nat → Nat → Int} {t o m : Int} (hw : a_wf (w 46)) (ht : jR t) (ho : jR o) (hm : jR m) : ∃ w', (z_F (e + 20)).1 k_Model_passed [.ref 45, .int (Int32.ofInt t), .int (Int32.ofInt o), .int (Int32.ofInt m)] (n, z_q im, jM w, jL u) = some (Int32.ofInt (V_passed (w 46) t o m), jM w', jL u) ∧ m_fr w w' := by
  unfold V_passed
  by_cases h2 : a_tt (w 46) t o
  · have hb1 := D_m_b (w 46) t m
    have hb2 := D_m_b (w 46) o m
    have e1 := s_isIn (e := e + 17) (n := n) (im := im) (u := u) hw h2.1 hm
    have e2 := s_isIn (e := e + 17) (n := n) (im := im) (u := u) hw h2.2.1 hm
    by_cases h3 : D_m (w 46) t m = -1 ∧ D_m (w 46) o m = -1
    · rw [if_neg (fun q => q.2 h3)]
      refine ⟨w, q_Model_passed ?_, m_fr_rf w⟩
      rw [s_areTeams hw ht ho, z_oI_s, if_neg (ji_b_n h2), e1, z_oI_s, if_pos (ji_eq0_p (by omega) (by omega)), e2, z_oI_s, if_pos (ji_eq0_p (by omega) (by omega))]
    · rw [if_pos ⟨h2, h3⟩]
      obtain ⟨w1, p1, p2, p3⟩ := s_playsAsTold (e := e + 11) (n := n) (im := im) (u := u) hw h2
      have hmr : 0 ≤ m ∧ m ≤ 9 := by
        by_cases q : D_m (w 46) t m = -1
        · exact D_m_r hw h2.2.1 (fun q2 => h3 ⟨q, q2⟩)
        · exact D_m_r hw h2.1 q
      have hg : ¬ (Int32.ofInt m < 0 ∨ 10 ≤ (Int32.ofInt m).toNatClampNeg) := by simp (disch := omega) only [ji_lt0, ji_nat]; omega
      have e3 : ((jM w1, jL u) : zD).1 55 (Int32.ofInt m).toNatClampNeg = Int32.ofInt ((M_T (w 46) 0 0 t o).2.2.1 m.toNat) := by
        rw [ji_nat (by omega), ← p3.1.2.1 _ (by omega)]
        rfl
      refine ⟨w1, q_Model_passed ?_, p2⟩
      rw [s_areTeams hw ht ho, z_oI_s, if_neg (ji_b_n h2), e1, z_oI_s, e2, z_oI_s, p1, z_oV_s, if_neg hg, e3]
      by_cases q : D_m (w 46) t m = -1
      · rw [if_pos (ji_eq0_p (by omega) (by omega)), if_neg (ji_eq0_n (by omega) (fun q2 => h3 ⟨q, by omega⟩))]
      · rw [if_neg (ji_eq0_n (by omega) (by omega))]
  · rw [if_neg (fun q => h2 q.1)]
    refine ⟨w, q_Model_passed ?_, m_fr_rf w⟩
    rw [s_areTeams hw ht ho, z_oI_s, if_pos (ji_b_p h2)]
theorem m_led {e n : Nat} {im : Nat → Option Nat} {w u : Nat → Nat → Int} {t o i k : Int} (hw : a_wf (w 46)) (ht : jR t) (ho : jR o) (hi : jR i) (hk : jR k) : ∃ w', (z_F (e + 20)).1 k_Model_led [.ref 45, .int (Int32.ofInt t), .int (Int32.ofInt o), .int (Int32.ofInt i), .int (Int32.ofInt k)] (n, z_q im, jM w, jL u) = some (Int32.ofInt (V_led (w 46) t o i k), jM w', jL u) ∧ m_fr w w' := by
  unfold V_led
  have hin : ∀ d : zD, (z_F (e + 19)).1 k_Model_in [.long (Int32.toInt64 (Int32.ofInt k)), .long (z_kl 0), .long (z_kl 4)] (n, z_q im, d) = some (Int32.ofInt (if 0 ≤ k ∧ k ≤ 3 then 1 else 0), d) := fun d => by
    rw [jl_of hk, kl_0, kl_4, s_in (by omega) (by decide) (by decide)]
  by_cases h2 : a_tt (w 46) t o
  · by_cases h1 : 0 ≤ k ∧ k ≤ 3
    · rw [if_pos ⟨h2, h1⟩]
      obtain ⟨w1, p1, p2, p3⟩ := s_playsAsTold (e := e + 11) (n := n) (im := im) (u := u) hw h2
      have hok := (M_F_ok (dr := 0) (x := 0) (bo := t_b (w 46) t) (ot := t_b (w 46) o) hw (R_ok_mt hw h2) (fun q => absurd rfl q)).1
      have hn := (R_ok_mt hw h2).1
      have hB : (M_T (w 46) 0 0 t o).2.2.2.2.1 ≤ 10 := by
        have a1 := hok.1
        have a2 := hok.2.1
        have a3 := hok.2.2.2.1
        change (M_T (w 46) 0 0 t o).1 ≤ t_n (w 46) t at a1
        change (M_T (w 46) 0 0 t o).2.1 ≤ t_n (w 46) o at a2
        change (M_T (w 46) 0 0 t o).2.2.2.2.1 ≤ (M_T (w 46) 0 0 t o).1 + (M_T (w 46) 0 0 t o).2.1 at a3
        omega
      have e29 : ((jM w1, jL u) : zD).1 45 29 = Int32.ofInt ((M_T (w 46) 0 0 t o).2.2.2.2.1 : Int) := by rw [← p3.1.1]; rfl
      refine ⟨w1, q_Model_led ?_, p2⟩
      rw [s_areTeams hw ht ho, z_oI_s, if_neg (ji_b_n h2), hin, z_oI_s, if_neg (ji_b_n h1), p1, z_oV_s, e29, ji_sub, jl_of hi, jl_of (by omega), kl_0, s_in (by omega) (by decide) (by omega), z_oI_s]
      by_cases h3 : 0 ≤ i ∧ i < ((M_T (w 46) 0 0 t o).2.2.2.2.1 : Int)
      · have hg : ¬ (Int32.ofInt i < 0 ∨ 10 ≤ i.toNat) := by simp (disch := omega) only [ji_lt0]; omega
        have hl := p3.1.2.2 i.toNat (by omega)
        rw [if_neg (ji_b_n (by omega)), if_pos h3, ji_nat (by omega)]
        by_cases k0 : k = 0
        · rw [if_pos (ji_eq0_p (by omega) k0), if_neg hg, k0, show 4 * i.toNat + (0 : Int).toNat = 4 * i.toNat from rfl, ← hl.1]
          rfl
        · rw [if_neg (ji_eq0_n (by omega) k0)]
          by_cases k1 : k = 1
          · rw [if_pos (ji_eq_p (by omega) (by decide) k1), if_neg hg, k1, show 4 * i.toNat + (1 : Int).toNat = 4 * i.toNat + 1 from rfl, ← hl.2.1]
            rfl
          · rw [if_neg (ji_eq_n (by omega) (by decide) k1)]
            by_cases k2 : k = 2
            · rw [if_pos (ji_eq_p (by omega) (by decide) k2), if_neg hg, k2, show 4 * i.toNat + (2 : Int).toNat = 4 * i.toNat + 2 from rfl, ← hl.2.2.1]
              rfl
            · rw [if_neg (ji_eq_n (by omega) (by decide) k2), if_neg hg, show k = 3 by omega, show 4 * i.toNat + (3 : Int).toNat = 4 * i.toNat + 3 from rfl, ← hl.2.2.2]
              rfl
      · rw [if_pos (ji_b_p (by omega)), if_neg h3]
    · rw [if_neg (fun q => h1 q.2)]
      refine ⟨w, q_Model_led ?_, m_fr_rf w⟩
      rw [s_areTeams hw ht ho, z_oI_s, if_neg (ji_b_n h2), hin, z_oI_s, if_pos (ji_b_p h1)]
  · rw [if_neg (fun q => h2 q.1)]
    refine ⟨w, q_Model_led ?_, m_fr_rf w⟩
    rw [s_areTeams hw ht ho, z_oI_s, if_pos (ji_b_p h2)]
theorem m_day {e n : Nat} {im : Nat → Option Nat} {w u : Nat → Nat → Int} {x t o k : Int} (hw : a_wf (w 46)) (hx : jR x) (ht : jR t) (ho : jR o) (hk : jR k) : ∃ w' y, (z_F (e + 20)).1 k_Model_day [.ref 45, .int (Int32.ofInt x), .int (Int32.ofInt t), .int (Int32.ofInt o), .int (Int32.ofInt k)] (n, z_q im, jM w, jL u) = some (Int32.ofInt (V_day (w 46) x t o k), jM w', jL (z_u u 45 18 y)) ∧ m_fr w w' := by
  unfold V_day
  have hin : ∀ d : zD, (z_F (e + 19)).1 k_Model_in [.long (Int32.toInt64 (Int32.ofInt k)), .long (z_kl 0), .long (z_kl 5)] (n, z_q im, d) = some (Int32.ofInt (if 0 ≤ k ∧ k ≤ 2 then 1 else 0), d) := fun d => by
    rw [jl_of hk, kl_0, kl_5, s_in (by omega) (by decide) (by decide)]
  by_cases h0 : 0 ≤ x ∧ x ≤ 2000000000
  · by_cases h2 : a_tt (w 46) t o
    · by_cases h1 : 0 ≤ k ∧ k ≤ 2
      · rw [if_pos ⟨h0, h2, h1⟩]
        obtain ⟨a1, a2, a3, a4, a5, a6⟩ := t_wf hw h2.1
        obtain ⟨b1, b2, b3, b4, b5, b6⟩ := t_wf hw h2.2.1
        obtain ⟨w1, l1, l2, l3, l4⟩ := s_layRows (e := e + 17) (n := n) (im := im) (u := u) hw h2.1 h2.2.1
        have e46 : w1 46 = w 46 := l3 46 (by decide) (by decide) (by decide)
        obtain ⟨w', k1, k2, k3⟩ := s_plays (e := e + 12) (n := n) (im := im) (w := w1) (u := z_u u 45 18 x) (dr := 1) (bo := t_b (w 46) t) (ot := t_b (w 46) o) (F := t_m (w 46) t) (S := t_m (w 46) o) (n1 := t_n (w 46) t) (n2 := t_n (w 46) o) (by rw [e46]; exact hw) l2 (by rw [e46]; exact R_ok_mt hw h2) (Or.inr rfl) (by rw [e46]; exact a2) (by rw [e46]; exact b2) (fun _ => by show 0 ≤ x ∧ x < 2147483648; omega)
        rw [e46] at k1 k3
        have hM : M_F (w 46) 1 (z_u u 45 18 x 45 18) (t_b (w 46) t) (t_b (w 46) o) (t_m (w 46) t) (t_m (w 46) o) (t_n (w 46) t) (t_n (w 46) o) = M_T (w 46) 1 x t o := rfl
        rw [zu_zu, hM] at k1
        rw [hM] at k3
        refine ⟨w', (M_T (w 46) 1 x t o).2.2.2.1, q_Model_day ?_, m_fr_tr ⟨fun c hc => l3 c (fun q => by subst q; simp at hc) (fun q => by subst q; simp at hc) (fun q => by subst q; simp at hc), fun j hj => l4 j (by omega) (by omega)⟩ (J_m k2)⟩
        rw [s_isSeed hx, z_oI_s, if_neg (ji_b_n h0), s_areTeams hw ht ho, z_oI_s, if_neg (ji_b_n h2), hin, z_oI_s, if_neg (ji_b_n h1), l1, z_oV_s, jl_of hx]
        simp only [jL_u]
        rw [s_boatOf (by omega) (by omega), z_oI_s, s_boatOf (by omega) (by omega), z_oI_s, e46]
        change z_oV ((z_F (e + 19)).2.2.1 k_Model_plays [.ref 45, .int (Int32.ofInt (t_b (w 46) t)), .int (Int32.ofInt (t_b (w 46) o)), .int (Int32.ofInt 1)] _) _ _ = _
        rw [k1, z_oV_s, s_ofMatch k3 h1, z_oI_s]
      · rw [if_neg (fun q => h1 q.2.2)]
        refine ⟨w, u 45 18, q_Model_day ?_, m_fr_rf w⟩
        rw [zu_self, s_isSeed hx, z_oI_s, if_neg (ji_b_n h0), s_areTeams hw ht ho, z_oI_s, if_neg (ji_b_n h2), hin, z_oI_s, if_pos (ji_b_p h1)]
    · rw [if_neg (fun q => h2 q.2.1)]
      refine ⟨w, u 45 18, q_Model_day ?_, m_fr_rf w⟩
      rw [zu_self, s_isSeed hx, z_oI_s, if_neg (ji_b_n h0), s_areTeams hw ht ho, z_oI_s, if_pos (ji_b_p h2)]
  · rw [if_neg (fun q => h0 q.1)]
    refine ⟨w, u 45 18, q_Model_day ?_, m_fr_rf w⟩
    rw [zu_self, s_isSeed hx, z_oI_s, if_pos (ji_b_p h0)]
