/-! game, reply, safe, rests, rest, vain: the calls -/
theorem s_isChoice {e n : Nat} {im : Nat → Option Nat} {d : zD} {x : Int} (hx : jR x) : (z_F (e + 2)).1 k_LongBoats_isChoice [.int (Int32.ofInt x)] (n, z_q im, d) = some (Int32.ofInt (if 0 ≤ x ∧ x ≤ 9 then 1 else 0), d) := by
  refine q_LongBoats_isChoice ?_
  rw [s_within hx (by decide) (by decide), z_oI_s, if_pos ((ji_bb _).mpr trivial)]
theorem s_misChoice {e n : Nat} {im : Nat → Option Nat} {d : zD} {x : Int} (hx : jR x) : (z_F (e + 2)).1 k_Model_isChoice [.int (Int32.ofInt x)] (n, z_q im, d) = some (Int32.ofInt (if 0 ≤ x ∧ x ≤ 9 then 1 else 0), d) := by
  refine q_Model_isChoice ?_
  rw [jl_of hx, kl_0, kl_19, s_in (by omega) (by decide) (by decide), z_oI_s, if_pos ((ji_bb _).mpr trivial)]
theorem x_grid {e n : Nat} {im : Nat → Option Nat} {w u : Nat → Nat → Int} {v : Nat → Int} {a b bo ot : Int} (hv : c_v w v) (hw : a_wf v) (hs : a_so v a b bo ot) : ∃ w1 w2, (z_F (e + 6)).1 k_LongBoats_faces [.ref 0, .int (Int32.ofInt a), .int (Int32.ofInt b), .int (Int32.ofInt bo), .int (Int32.ofInt ot)] (n, z_q im, jM w, jL u) = some (Int32.ofInt 1, jM w1, jL u) ∧ (z_F (e + 6)).2.2.1 k_Grid_fillFrom [.ref 42, .ref 25] (n, z_q im, jM w1, jL u) = some (jM w2, jL u) ∧ c_fr w w2 ∧ (∀ m, m < 100 → w2 44 m = G_g v a b bo ot (m / 10) (m % 10)) ∧ g_b (G_g v a b bo ot) := by
  obtain ⟨f0, f1, f2, f3, f4, f5, f6, f7, f8, f9, f10, f11, f12⟩ := id hw
  obtain ⟨s1, s2, s3, s4, s5⟩ := id hs
  obtain ⟨w1, q1, q2, q3, q4, q5, q6, q7⟩ := x_faces_y (e := e + 1) (n := n) (im := im) (u := u) hv hw hs
  obtain ⟨w2, k1, k2, k3⟩ := x_fillFrom (e := e) (n := n) (im := im) (u := u) hw hs q2 q3
  exact ⟨w1, w2, q1, k1, c_fr_tr q4 k2, k3, fun x y => G_g_b (f10 bo s4.1 s4.2) (f10 ot s5.1 s5.2) x y⟩
theorem m_grid {e n : Nat} {im : Nat → Option Nat} {w u : Nat → Nat → Int} {a b bo ot : Int} (hw : a_wf (w 46)) (hs : a_so (w 46) a b bo ot) : ∃ w2, (z_F (e + 9)).2.2.1 k_Model_lay [.ref 45, .int (Int32.ofInt a), .int (Int32.ofInt b), .int (Int32.ofInt bo), .int (Int32.ofInt ot)] (n, z_q im, jM w, jL u) = some (jM w2, jL u) ∧ m_fr w w2 ∧ (∀ m, m < 100 → w2 52 m = G_g (w 46) a b bo ot (m / 10) (m % 10)) ∧ g_b (G_g (w 46) a b bo ot) := by
  obtain ⟨f0, f1, f2, f3, f4, f5, f6, f7, f8, f9, f10, f11, f12⟩ := id hw
  obtain ⟨s1, s2, s3, s4, s5⟩ := id hs
  obtain ⟨w2, k1, k2, k3⟩ := s_lay (e := e) (n := n) (im := im) (u := u) hw hs
  exact ⟨w2, k1, ⟨fun c hc => k2 c (fun q => by subst q; simp at hc), fun j _ => by rw [k2 45 (by decide)]⟩, k3, fun x y => G_g_b (f10 bo s4.1 s4.2) (f10 ot s5.1 s5.2) x y⟩
def V_game (v : Nat → Int) (a b bo ot x y : Int) : Int := if a_so v a b bo ot ∧ (0 ≤ x ∧ x ≤ 9) ∧ (0 ≤ y ∧ y ≤ 9) then G_g v a b bo ot x.toNat y.toNat else -1000
theorem x_game {e n : Nat} {im : Nat → Option Nat} {w u : Nat → Nat → Int} {v : Nat → Int} {a b bo ot x y : Int} (hv : c_v w v) (hw : a_wf v) (ha : jR a) (hb : jR b) (hbo : jR bo) (hot : jR ot) (hx : jR x) (hy : jR y) : ∃ w', (z_F (e + 20)).1 k_LongBoats_game [.ref 0, .int (Int32.ofInt a), .int (Int32.ofInt b), .int (Int32.ofInt bo), .int (Int32.ofInt ot), .int (Int32.ofInt x), .int (Int32.ofInt y)] (n, z_q im, jM w, jL u) = some (Int32.ofInt (V_game v a b bo ot x y), jM w', jL u) ∧ c_fr w w' := by
  obtain ⟨f0, f1, f2, f3, f4, f5, f6, f7, f8, f9, f10, f11, f12⟩ := id hw
  unfold V_game
  by_cases hx1 : 0 ≤ x ∧ x ≤ 9
  · by_cases hy1 : 0 ≤ y ∧ y ≤ 9
    · by_cases hs : a_so v a b bo ot
      · rw [if_pos ⟨hs, hx1, hy1⟩]
        obtain ⟨w1, w2, q1, q2, q3, q4, q5, q6, q7⟩ := x_slips (e := e + 14) (n := n) (im := im) (u := u) hv hw hs
        obtain ⟨s1, s2, s3, s4, s5⟩ := id hs
        have ta := f11 a s1.1 s1.2
        have tb := f11 b s2.1 s2.2
        obtain ⟨⟨d1, d2, d3, d4, d5, d6, d7, d8, d9, d10⟩, hv2, h3⟩ := id q3
        have tt : ∀ j, j < 6 → z_u (z_u (z_u (z_u w2 26 4 (x / 2)) 26 5 (x % 2)) 27 4 (y / 2)) 27 5 (y % 2) 26 j = a_ch (a_T v a) x j := fun j hj => by
          rw [z_u_ne (by decide), z_u_ne (by decide), z_u_at, z_u_at]
          simp only [a_ch, a_s1]
          by_cases j5 : j = 5
          · rw [if_pos j5, if_pos j5]
          · rw [if_neg j5, if_neg j5]
            by_cases j4 : j = 4
            · rw [if_pos j4, if_pos j4]
            · rw [if_neg j4, if_neg j4]; exact d1 j hj
        have tf : ∀ j, j < 6 → z_u (z_u (z_u (z_u w2 26 4 (x / 2)) 26 5 (x % 2)) 27 4 (y / 2)) 27 5 (y % 2) 27 j = a_ch (a_T v b) y j := fun j hj => by
          rw [z_u_at, z_u_at, z_u_ne (by decide), z_u_ne (by decide)]
          simp only [a_ch, a_s1]
          by_cases j5 : j = 5
          · rw [if_pos j5, if_pos j5]
          · rw [if_neg j5, if_neg j5]
            by_cases j4 : j = 4
            · rw [if_pos j4, if_pos j4]
            · rw [if_neg j4, if_neg j4]; exact d2 j hj
        have oth : ∀ c, c ≠ 26 → c ≠ 27 → z_u (z_u (z_u (z_u w2 26 4 (x / 2)) 26 5 (x % 2)) 27 4 (y / 2)) 27 5 (y % 2) c = w2 c := fun c c1 c2 => by rw [z_u_ne c2, z_u_ne c2, z_u_ne c1, z_u_ne c1]
        have hval : c_ga (z_u (z_u (z_u (z_u w2 26 4 (x / 2)) 26 5 (x % 2)) 27 4 (y / 2)) 27 5 (y % 2)) = G_g v a b bo ot x.toNat y.toNat := by
          rw [c_ga_eq (v := v) (a := a) (b := b) (bo := bo) (ot := ot) (by rw [oth 29 (by decide) (by decide)]; exact h3), oth 25 (by decide) (by decide), d3]
          unfold G_g
          rw [show ((x.toNat : Nat) : Int) = x by omega, show ((y.toNat : Nat) : Int) = y by omega]
          exact a_gn_cg rfl rfl rfl rfl rfl tt tf
        refine ⟨z_u (z_u (z_u (z_u w2 26 4 (x / 2)) 26 5 (x % 2)) 27 4 (y / 2)) 27 5 (y % 2), q_LongBoats_game ?_, fun c hc => ?_⟩
        · rw [s_isChoice hx, z_oI_s, if_neg (ji_b_n hx1), s_isChoice hy, z_oI_s, if_neg (ji_b_n hy1), q1, z_oI_s, if_neg jc_1]
          simp only [jM_at]
          rw [q2, z_oV_s, s_choose_26 (by omega) (by omega), z_oV_s, s_choose_27 (by omega) (by omega), z_oV_s, s_gain (a_tr_cg tt (ch_tr ta (by omega) (by omega))) (a_tr_cg tf (ch_tr tb (by omega) (by omega))) (by rw [oth 25 (by decide) (by decide)]; exact q7), z_oI_s, hval]
        · rw [oth c (fun q => by subst q; simp at hc) (fun q => by subst q; simp at hc)]
          exact q4 c hc
      · refine ⟨w, q_LongBoats_game ?_, c_fr_rf w⟩
        rw [if_neg (fun q => hs q.1), s_isChoice hx, z_oI_s, if_neg (ji_b_n hx1), s_isChoice hy, z_oI_s, if_neg (ji_b_n hy1), x_faces_n hv hw ha hb hbo hot hs, z_oI_s, if_pos (show Int32.ofInt 0 = 0 from rfl)]
    · refine ⟨w, q_LongBoats_game ?_, c_fr_rf w⟩
      rw [if_neg (fun q => hy1 q.2.2), s_isChoice hx, z_oI_s, if_neg (ji_b_n hx1), s_isChoice hy, z_oI_s, if_pos (ji_b_p hy1)]
  · refine ⟨w, q_LongBoats_game ?_, c_fr_rf w⟩
    rw [if_neg (fun q => hx1 q.2.1), s_isChoice hx, z_oI_s, if_pos (ji_b_p hx1)]
theorem m_game {e n : Nat} {im : Nat → Option Nat} {w u : Nat → Nat → Int} {a b bo ot x y : Int} (hw : a_wf (w 46)) (ha : jR a) (hb : jR b) (hbo : jR bo) (hot : jR ot) (hx : jR x) (hy : jR y) : ∃ w', (z_F (e + 20)).1 k_Model_game [.ref 45, .int (Int32.ofInt a), .int (Int32.ofInt b), .int (Int32.ofInt bo), .int (Int32.ofInt ot), .int (Int32.ofInt x), .int (Int32.ofInt y)] (n, z_q im, jM w, jL u) = some (Int32.ofInt (V_game (w 46) a b bo ot x y), jM w', jL u) ∧ m_fr w w' := by
  obtain ⟨f0, f1, f2, f3, f4, f5, f6, f7, f8, f9, f10, f11, f12⟩ := id hw
  unfold V_game
  by_cases hs : a_so (w 46) a b bo ot
  · by_cases hx1 : 0 ≤ x ∧ x ≤ 9
    · by_cases hy1 : 0 ≤ y ∧ y ≤ 9
      · rw [if_pos ⟨hs, hx1, hy1⟩]
        obtain ⟨w2, k1, k2, k3, k4⟩ := m_grid (e := e + 10) (n := n) (im := im) (u := u) hw hs
        have h1 := s_at_m (e := e + 17) (n := n) (im := im) (u := u) k3 (show x.toNat < 10 by omega) (show y.toNat < 10 by omega)
        rw [show ((x.toNat : Nat) : Int) = x by omega, show ((y.toNat : Nat) : Int) = y by omega] at h1
        refine ⟨w2, q_Model_game ?_, k2⟩
        rw [s_areSo ha hb hbo hot f7 f6, z_oI_s, if_neg (ji_b_n hs), s_misChoice hx, z_oI_s, if_neg (ji_b_n hx1), s_misChoice hy, z_oI_s, if_neg (ji_b_n hy1), k1, z_oV_s, h1, z_oI_s]
      · refine ⟨w, q_Model_game ?_, m_fr_rf w⟩
        rw [if_neg (fun q => hy1 q.2.2), s_areSo ha hb hbo hot f7 f6, z_oI_s, if_neg (ji_b_n hs), s_misChoice hx, z_oI_s, if_neg (ji_b_n hx1), s_misChoice hy, z_oI_s, if_pos (ji_b_p hy1)]
    · refine ⟨w, q_Model_game ?_, m_fr_rf w⟩
      rw [if_neg (fun q => hx1 q.2.1), s_areSo ha hb hbo hot f7 f6, z_oI_s, if_neg (ji_b_n hs), s_misChoice hx, z_oI_s, if_pos (ji_b_p hx1)]
  · refine ⟨w, q_Model_game ?_, m_fr_rf w⟩
    rw [if_neg (fun q => hs q.1), s_areSo ha hb hbo hot f7 f6, z_oI_s, if_pos (ji_b_p hs)]
def V_reply (v : Nat → Int) (a b bo ot x : Int) : Int := if a_so v a b bo ot ∧ (0 ≤ x ∧ x ≤ 9) then (G_w (G_g v a b bo ot) x.toNat 9 : Nat) else -2
theorem x_reply {e n : Nat} {im : Nat → Option Nat} {w u : Nat → Nat → Int} {v : Nat → Int} {a b bo ot x : Int} (hv : c_v w v) (hw : a_wf v) (ha : jR a) (hb : jR b) (hbo : jR bo) (hot : jR ot) (hx : jR x) : ∃ w', (z_F (e + 20)).1 k_LongBoats_reply [.ref 0, .int (Int32.ofInt a), .int (Int32.ofInt b), .int (Int32.ofInt bo), .int (Int32.ofInt ot), .int (Int32.ofInt x)] (n, z_q im, jM w, jL u) = some (Int32.ofInt (V_reply v a b bo ot x), jM w', jL u) ∧ c_fr w w' := by
  unfold V_reply
  by_cases hx1 : 0 ≤ x ∧ x ≤ 9
  · by_cases hs : a_so v a b bo ot
    · rw [if_pos ⟨hs, hx1⟩]
      obtain ⟨w1, w2, q1, q2, q3, q4, q5⟩ := x_grid (e := e + 13) (n := n) (im := im) (u := u) hv hw hs
      have h1 := s_wr_c (e := e + 16) (n := n) (im := im) (u := u) q4 q5 (show x.toNat < 10 by omega)
      rw [show ((x.toNat : Nat) : Int) = x by omega] at h1
      refine ⟨w2, q_LongBoats_reply ?_, q3⟩
      rw [s_isChoice hx, z_oI_s, if_neg (ji_b_n hx1), q1, z_oI_s, if_neg jc_1, q2, z_oV_s, h1, z_oI_s]
    · refine ⟨w, q_LongBoats_reply ?_, c_fr_rf w⟩
      rw [if_neg (fun q => hs q.1), s_isChoice hx, z_oI_s, if_neg (ji_b_n hx1), x_faces_n hv hw ha hb hbo hot hs, z_oI_s, if_pos (show Int32.ofInt 0 = 0 from rfl)]
  · refine ⟨w, q_LongBoats_reply ?_, c_fr_rf w⟩
    rw [if_neg (fun q => hx1 q.2), s_isChoice hx, z_oI_s, if_pos (ji_b_p hx1)]
theorem m_reply {e n : Nat} {im : Nat → Option Nat} {w u : Nat → Nat → Int} {a b bo ot x : Int} (hw : a_wf (w 46)) (ha : jR a) (hb : jR b) (hbo : jR bo) (hot : jR ot) (hx : jR x) : ∃ w', (z_F (e + 20)).1 k_Model_reply [.ref 45, .int (Int32.ofInt a), .int (Int32.ofInt b), .int (Int32.ofInt bo), .int (Int32.ofInt ot), .int (Int32.ofInt x)] (n, z_q im, jM w, jL u) = some (Int32.ofInt (V_reply (w 46) a b bo ot x), jM w', jL u) ∧ m_fr w w' := by
  obtain ⟨f0, f1, f2, f3, f4, f5, f6, f7, f8, f9, f10, f11, f12⟩ := id hw
  unfold V_reply
  by_cases hs : a_so (w 46) a b bo ot
  · by_cases hx1 : 0 ≤ x ∧ x ≤ 9
    · rw [if_pos ⟨hs, hx1⟩]
      obtain ⟨w2, k1, k2, k3, k4⟩ := m_grid (e := e + 10) (n := n) (im := im) (u := u) hw hs
      have h1 := s_wr_m (e := e + 16) (n := n) (im := im) (u := u) k3 k4 (show x.toNat < 10 by omega)
      rw [show ((x.toNat : Nat) : Int) = x by omega] at h1
      refine ⟨w2, q_Model_reply ?_, k2⟩
      rw [s_areSo ha hb hbo hot f7 f6, z_oI_s, if_neg (ji_b_n hs), s_misChoice hx, z_oI_s, if_neg (ji_b_n hx1), k1, z_oV_s, h1, z_oI_s]
    · refine ⟨w, q_Model_reply ?_, m_fr_rf w⟩
      rw [if_neg (fun q => hx1 q.2), s_areSo ha hb hbo hot f7 f6, z_oI_s, if_neg (ji_b_n hs), s_misChoice hx, z_oI_s, if_pos (ji_b_p hx1)]
  · refine ⟨w, q_Model_reply ?_, m_fr_rf w⟩
    rw [if_neg (fun q => hs q.1), s_areSo ha hb hbo hot f7 f6, z_oI_s, if_pos (ji_b_p hs)]
theorem s_sc {e n : Nat} {im : Nat → Option Nat} {w u : Nat → Nat → Int} {g : Nat → Nat → Int} (hg : ∀ m, m < 100 → w 44 m = g (m / 10) (m % 10)) (hb : g_b g) : (z_F (e + 4)).1 k_Grid_safeChoice [.ref 42] (n, z_q im, jM w, jL u) = some (Int32.ofInt (G_sc g 9 : Nat), jM w, jL u) := by
  obtain ⟨t, ht, q, rfl⟩ := z_for (o := z_F (e + 3)) (cd := cd_Grid_safeChoice) (P := fun i s => ∃ q, s = (5, [some (.ref 42), some (.int (Int32.ofInt (G_sc g i : Nat))), some (.int (Int32.ofInt ((i : Int) + 1))), q], (n, z_q im, jM w, jL u))) 9 (s := (5, [some (.ref 42), some (.int (Int32.ofInt 0)), some (.int (Int32.ofInt 1)), none], (n, z_q im, jM w, jL u))) ⟨none, rfl⟩ (fun i s hi hs => by
    obtain ⟨q, rfl⟩ := hs
    have hsb := G_sc_b g i
    have b1 : -1000 ≤ G_lo g (i + 1) ∧ G_lo g (i + 1) ≤ 1000 := hb _ _
    have b2 : -1000 ≤ G_lo g (G_sc g i) ∧ G_lo g (G_sc g i) ≤ 1000 := hb _ _
    refine ⟨(5, [some (.ref 42), some (.int (Int32.ofInt (G_sc g (i + 1) : Nat))), some (.int (Int32.ofInt ((i : Int) + 1 + 1))), some (.int (Int32.ofInt (G_lo g (i + 1))))], (n, z_q im, jM w, jL u)), z_To_1 ((e_Grid_safeChoice_5 ..).trans ?_), _, rfl⟩
    have h1 := s_wr_c (e := e) (n := n) (im := im) (u := u) hg hb (show i + 1 < 10 by omega)
    have h2 := s_lo_c (e := e + 1) (n := n) (im := im) (u := u) hg (show i + 1 < 10 by omega)
    rw [ic] at h1 h2
    rw [h1, z_oI_s, h2, z_oI_s, s_wr_c hg hb (show G_sc g i < 10 by omega), z_oI_s, s_lo_c hg (show G_sc g i < 10 by omega), z_oI_s]
    simp (disch := omega) only [ji_le, ji_add]
    rw [if_neg (by omega)]
    simp only [G_sc]
    by_cases h : G_lo g (G_sc g i) < G_lo g (i + 1)
    · rw [if_neg (by omega), if_pos h]
      rfl
    · rw [if_pos (by omega), if_neg h])
  refine n_Grid_safeChoice (z_go (e_Grid_safeChoice_0 ..) (ht _ (z_ret ((e_Grid_safeChoice_5 ..).trans ?_))))
  simp (disch := omega) only [ji_le]
  rw [if_pos (by decide)]
theorem s_sr {e n : Nat} {im : Nat → Option Nat} {w u : Nat → Nat → Int} {g : Nat → Nat → Int} (hg : ∀ m, m < 100 → w 44 m = g (m / 10) (m % 10)) (hb : g_b g) : (z_F (e + 4)).1 k_Grid_safeReply [.ref 42] (n, z_q im, jM w, jL u) = some (Int32.ofInt (G_sr g 9 : Nat), jM w, jL u) := by
  obtain ⟨t, ht, q, rfl⟩ := z_for (o := z_F (e + 3)) (cd := cd_Grid_safeReply) (P := fun i s => ∃ q, s = (5, [some (.ref 42), some (.int (Int32.ofInt (G_sr g i : Nat))), some (.int (Int32.ofInt ((i : Int) + 1))), q], (n, z_q im, jM w, jL u))) 9 (s := (5, [some (.ref 42), some (.int (Int32.ofInt 0)), some (.int (Int32.ofInt 1)), none], (n, z_q im, jM w, jL u))) ⟨none, rfl⟩ (fun i s hi hs => by
    obtain ⟨q, rfl⟩ := hs
    have hsb := G_sr_b g i
    have b1 : -1000 ≤ G_hi g (i + 1) ∧ G_hi g (i + 1) ≤ 1000 := hb _ _
    have b2 : -1000 ≤ G_hi g (G_sr g i) ∧ G_hi g (G_sr g i) ≤ 1000 := hb _ _
    refine ⟨(5, [some (.ref 42), some (.int (Int32.ofInt (G_sr g (i + 1) : Nat))), some (.int (Int32.ofInt ((i : Int) + 1 + 1))), some (.int (Int32.ofInt (G_hi g (i + 1))))], (n, z_q im, jM w, jL u)), z_To_1 ((e_Grid_safeReply_5 ..).trans ?_), _, rfl⟩
    have h1 := s_bc_c (e := e) (n := n) (im := im) (u := u) hg hb (show i + 1 < 10 by omega)
    have h2 := s_hi_c (e := e + 1) (n := n) (im := im) (u := u) hg (show i + 1 < 10 by omega)
    rw [ic] at h1 h2
    rw [h1, z_oI_s, h2, z_oI_s, s_bc_c hg hb (show G_sr g i < 10 by omega), z_oI_s, s_hi_c hg (show G_sr g i < 10 by omega), z_oI_s]
    simp (disch := omega) only [ji_le, ji_add]
    rw [if_neg (by omega)]
    simp only [G_sr]
    by_cases h : G_hi g (i + 1) < G_hi g (G_sr g i)
    · rw [if_neg (by omega), if_pos h]
      rfl
    · rw [if_pos (by omega), if_neg h])
  refine n_Grid_safeReply (z_go (e_Grid_safeReply_0 ..) (ht _ (z_ret ((e_Grid_safeReply_5 ..).trans ?_))))
  simp (disch := omega) only [ji_le]
  rw [if_pos (by decide)]
def V_safe (v : Nat → Int) (a b bo ot x : Int) : Int := if a_so v a b bo ot ∧ (0 ≤ x ∧ x ≤ 3) then (if x = 0 then (G_sc (G_g v a b bo ot) 9 : Nat) else if x = 1 then G_lo (G_g v a b bo ot) (G_sc (G_g v a b bo ot) 9) else if x = 2 then (G_sr (G_g v a b bo ot) 9 : Nat) else G_hi (G_g v a b bo ot) (G_sr (G_g v a b bo ot) 9)) else -1000
theorem x_safe {e n : Nat} {im : Nat → Option Nat} {w u : Nat → Nat → Int} {v : Nat → Int} {a b bo ot x : Int} (hv : c_v w v) (hw : a_wf v) (ha : jR a) (hb : jR b) (hbo : jR bo) (hot : jR ot) (hx : jR x) : ∃ w', (z_F (e + 20)).1 k_LongBoats_safe [.ref 0, .int (Int32.ofInt a), .int (Int32.ofInt b), .int (Int32.ofInt bo), .int (Int32.ofInt ot), .int (Int32.ofInt x)] (n, z_q im, jM w, jL u) = some (Int32.ofInt (V_safe v a b bo ot x), jM w', jL u) ∧ c_fr w w' := by
  unfold V_safe
  by_cases hx1 : 0 ≤ x ∧ x ≤ 3
  · by_cases hs : a_so v a b bo ot
    · rw [if_pos ⟨hs, hx1⟩]
      obtain ⟨w1, w2, q1, q2, q3, q4, q5⟩ := x_grid (e := e + 13) (n := n) (im := im) (u := u) hv hw hs
      refine ⟨w2, q_LongBoats_safe ?_, q3⟩
      have c1 := G_sc_b (G_g v a b bo ot) 9
      have c2 := G_sr_b (G_g v a b bo ot) 9
      rw [s_within hx (by decide) (by decide), z_oI_s, if_neg (ji_b_n hx1), q1, z_oI_s, if_neg jc_1, q2, z_oV_s]
      by_cases h1 : 1 < x
      · rw [if_pos (ji_lt_p (by decide) hx h1), s_sr q4 q5, z_oI_s, if_neg (c := x = 0) (by omega), if_neg (c := x = 1) (by omega)]
        by_cases h2 : x = 2
        · rw [if_pos (ji_eq_p hx (by decide) h2), if_pos h2]
        · rw [if_neg (ji_eq_n hx (by decide) h2), if_neg h2, s_bc_c q4 q5 (by omega), z_oI_s, s_hi_c q4 (by omega), z_oI_s]
      · rw [if_neg (ji_lt_n (by decide) hx h1), s_sc q4 q5, z_oI_s]
        by_cases h2 : x = 0
        · rw [if_pos (ji_eq0_p hx h2), if_pos h2]
        · rw [if_neg (ji_eq0_n hx h2), if_neg h2, if_pos (c := x = 1) (by omega), s_wr_c q4 q5 (by omega), z_oI_s, s_lo_c q4 (by omega), z_oI_s]
    · refine ⟨w, q_LongBoats_safe ?_, c_fr_rf w⟩
      rw [if_neg (fun q => hs q.1), s_within hx (by decide) (by decide), z_oI_s, if_neg (ji_b_n hx1), x_faces_n hv hw ha hb hbo hot hs, z_oI_s, if_pos (show Int32.ofInt 0 = 0 from rfl)]
  · refine ⟨w, q_LongBoats_safe ?_, c_fr_rf w⟩
    rw [if_neg (fun q => hx1 q.2), s_within hx (by decide) (by decide), z_oI_s, if_pos (ji_b_p hx1)]
theorem m_safe {e n : Nat} {im : Nat → Option Nat} {w u : Nat → Nat → Int} {a b bo ot x : Int} (hw : a_wf (w 46)) (ha : jR a) (hb : jR b) (hbo : jR bo) (hot : jR ot) (hx : jR x) : ∃ w', (z_F (e + 20)).1 k_Model_safe [.ref 45, .int (Int32.ofInt a), .int (Int32.ofInt b), .int (Int32.ofInt bo), .int (Int32.ofInt ot), .int (Int32.ofInt x)] (n, z_q im, jM w, jL u) = some (Int32.ofInt (V_safe (w 46) a b bo ot x), jM w', jL u) ∧ m_fr w w' := by
  obtain ⟨f0, f1, f2, f3, f4, f5, f6, f7, f8, f9, f10, f11, f12⟩ := id hw
  unfold V_safe
  by_cases hs : a_so (w 46) a b bo ot
  · by_cases hx1 : 0 ≤ x ∧ x ≤ 3
    · rw [if_pos ⟨hs, hx1⟩]
      obtain ⟨w2, k1, k2, k3, k4⟩ := m_grid (e := e + 10) (n := n) (im := im) (u := u) hw hs
      generalize G_g (w 46) a b bo ot = g at k3 k4 ⊢
      obtain ⟨t, ht, rfl⟩ := z_for (o := z_F (e + 19)) (cd := cd_Model_safe) (P := fun i s => s = (28, [some (.ref 45), some (.int (Int32.ofInt a)), some (.int (Int32.ofInt b)), some (.int (Int32.ofInt bo)), some (.int (Int32.ofInt ot)), some (.int (Int32.ofInt x)), some (.int (Int32.ofInt (G_sc g i : Nat))), some (.int (Int32.ofInt (G_sr g i : Nat))), some (.int (Int32.ofInt ((i : Int) + 1)))], (n, z_q im, jM w2, jL u))) 9 (s := (28, [some (.ref 45), some (.int (Int32.ofInt a)), some (.int (Int32.ofInt b)), some (.int (Int32.ofInt bo)), some (.int (Int32.ofInt ot)), some (.int (Int32.ofInt x)), some (.int (Int32.ofInt 0)), some (.int (Int32.ofInt 0)), some (.int (Int32.ofInt 1))], (n, z_q im, jM w2, jL u))) rfl (fun i s hi hs => by
        subst hs
        have c1 := G_sc_b g i
        have c2 := G_sr_b g i
        have b1 : -1000 ≤ G_lo g (i + 1) ∧ G_lo g (i + 1) ≤ 1000 := k4 _ _
        have b2 : -1000 ≤ G_lo g (G_sc g i) ∧ G_lo g (G_sc g i) ≤ 1000 := k4 _ _
        have b3 : -1000 ≤ G_hi g (i + 1) ∧ G_hi g (i + 1) ≤ 1000 := k4 _ _
        have b4 : -1000 ≤ G_hi g (G_sr g i) ∧ G_hi g (G_sr g i) ≤ 1000 := k4 _ _
        refine ⟨(28, [some (.ref 45), some (.int (Int32.ofInt a)), some (.int (Int32.ofInt b)), some (.int (Int32.ofInt bo)), some (.int (Int32.ofInt ot)), some (.int (Int32.ofInt x)), some (.int (Int32.ofInt (G_sc g (i + 1) : Nat))), some (.int (Int32.ofInt (G_sr g (i + 1) : Nat))), some (.int (Int32.ofInt ((i : Int) + 1 + 1)))], (n, z_q im, jM w2, jL u)), z_To_1 ((e_Model_safe_28 ..).trans ?_), rfl⟩
        have h1 := s_wr_m (e := e + 16) (n := n) (im := im) (u := u) k3 k4 (show i + 1 < 10 by omega)
        have h2 := s_lo_m (e := e + 17) (n := n) (im := im) (u := u) k3 (show i + 1 < 10 by omega)
        have h3 := s_bc_m (e := e + 16) (n := n) (im := im) (u := u) k3 k4 (show i + 1 < 10 by omega)
        have h4 := s_hi_m (e := e + 17) (n := n) (im := im) (u := u) k3 (show i + 1 < 10 by omega)
        rw [ic] at h1 h2 h3 h4
        rw [if_neg (ji_le_n (by decide) (by omega) (by omega)), h1, z_oI_s, h2, z_oI_s, s_wr_m k3 k4 (show G_sc g i < 10 by omega), z_oI_s, s_lo_m k3 (show G_sc g i < 10 by omega), z_oI_s]
        simp only [G_sc, G_sr]
        by_cases j1 : G_lo g (G_sc g i) < G_lo g (i + 1)
        · rw [if_neg (ji_le_n (by omega) (by omega) (by omega)), if_pos j1, h3, z_oI_s, h4, z_oI_s, s_bc_m k3 k4 (show G_sr g i < 10 by omega), z_oI_s, s_hi_m k3 (show G_sr g i < 10 by omega), z_oI_s, ji_add]
          by_cases j2 : G_hi g (i + 1) < G_hi g (G_sr g i)
          · rw [if_neg (ji_le_n (by omega) (by omega) (by omega)), if_pos j2]
            rfl
          · rw [if_pos (ji_le_p (by omega) (by omega) (by omega)), if_neg j2]
            rfl
        · rw [if_pos (ji_le_p (by omega) (by omega) (by omega)), if_neg j1, h3, z_oI_s, h4, z_oI_s, s_bc_m k3 k4 (show G_sr g i < 10 by omega), z_oI_s, s_hi_m k3 (show G_sr g i < 10 by omega), z_oI_s, ji_add]
          by_cases j2 : G_hi g (i + 1) < G_hi g (G_sr g i)
          · rw [if_neg (ji_le_n (by omega) (by omega) (by omega)), if_pos j2]
            rfl
          · rw [if_pos (ji_le_p (by omega) (by omega) (by omega)), if_neg j2])
      have c1 := G_sc_b g 9
      have c2 := G_sr_b g 9
      refine ⟨w2, n_Model_safe (z_go ((e_Model_safe_0 ..).trans ?_) (ht _ (z_ret ((e_Model_safe_28 ..).trans ?_)))), k2⟩
      · rw [s_areSo ha hb hbo hot f7 f6, z_oI_s, if_neg (ji_b_n hs), jl_of hx, kl_0, kl_4, s_in (by omega) (by decide) (by decide), z_oI_s, if_neg (ji_b_n hx1), k1, z_oV_s]
      · rw [if_pos (ji_le_p (by decide) (by decide) (by decide))]
        by_cases h0 : x = 0
        · rw [if_pos (ji_eq0_p hx h0), if_pos h0]
        · rw [if_neg (ji_eq0_n hx h0), if_neg h0]
          by_cases h1 : x = 1
          · rw [if_pos (ji_eq_p hx (by decide) h1), if_pos h1, s_wr_m k3 k4 (by omega), z_oI_s, s_lo_m k3 (by omega), z_oI_s]
          · rw [if_neg (ji_eq_n hx (by decide) h1), if_neg h1]
            by_cases h2 : x = 2
            · rw [if_pos (ji_eq_p hx (by decide) h2), if_pos h2]
            · rw [if_neg (ji_eq_n hx (by decide) h2), if_neg h2, s_bc_m k3 k4 (by omega), z_oI_s, s_hi_m k3 (by omega), z_oI_s]
    · refine ⟨w, n_Model_safe (z_ret ((e_Model_safe_0 ..).trans ?_)), m_fr_rf w⟩
      rw [if_neg (fun q => hx1 q.2), s_areSo ha hb hbo hot f7 f6, z_oI_s, if_neg (ji_b_n hs), jl_of hx, kl_0, kl_4, s_in (by omega) (by decide) (by decide), z_oI_s, if_pos (ji_b_p hx1)]
  · refine ⟨w, n_Model_safe (z_ret ((e_Model_safe_0 ..).trans ?_)), m_fr_rf w⟩
    rw [if_neg (fun q => hs q.1), s_areSo ha hb hbo hot f7 f6, z_oI_s, if_pos (ji_b_p hs)]
