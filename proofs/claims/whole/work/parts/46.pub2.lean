/-! public calls without slips: man, boat, team, speed, force, stands, why, margin -/
theorem m_bo {w : Nat → Nat → Int} {v : Nat → Int} {b : Int} (hv : m_v w v) (h0 : 0 ≤ b) (h3 : b ≤ 3) (h : a_bo v b) : a_bo (w 46) b := by
  unfold a_bo
  rw [hv _ (by omega), hv _ (by omega)]
  exact h
theorem m_sp {w : Nat → Nat → Int} {v : Nat → Int} {b o : Int} (hv : m_v w v) (h0 : 0 ≤ b) (h3 : b ≤ 3) (h1 : 0 ≤ o) (h2 : o ≤ 3) : a_sp (w 46) b o = a_sp v b o := by
  unfold a_sp
  rw [hv _ (by omega), hv _ (by omega), hv 0 (by decide)]
/-- speed -/
def V_speed (v : Nat → Int) (b o : Int) : Int := if (0 ≤ b ∧ b < v 6) ∧ (0 ≤ o ∧ o < v 6) then a_sp v b o else -2
theorem x_speed {e n : Nat} {im : Nat → Option Nat} {w u : Nat → Nat → Int} {v : Nat → Int} {b o : Int} (hv : c_v w v) (hw : a_wf v) (hb : jR b) (ho : jR o) : (z_F (e + 20)).1 k_LongBoats_speed [.ref 0, .int (Int32.ofInt b), .int (Int32.ofInt o)] (n, z_q im, jM w, jL u) = some (Int32.ofInt (V_speed v b o), jM w, jL u) := by
  obtain ⟨n1, n2, n3, n4, n5, n6⟩ := c_ok_of hv hw
  have hsw := fun h0 h9 h1 h2 => c_sw_eq (b := b) (o := o) hv h0 h9 h1 h2
  obtain ⟨g0, g1, g2, g3, g4, g5, g6, g7, g8, g9, h5, h7, h9⟩ := hv
  unfold V_speed
  refine q_LongBoats_speed ?_
  simp (disch := omega) only [s_hasBoats, z_oI_s, ji_b, g7]
  by_cases h : (0 ≤ b ∧ b < v 6) ∧ (0 ≤ o ∧ o < v 6)
  · have b1 := (n5 b h.1.1 (by omega)).1
    have o1 := (n5 o h.2.1 (by omega)).1
    rw [if_neg (fun q => q h), s_speedOf_3 (by omega) (by omega) (by omega) (by omega) (by omega) (by omega) n4, z_oI_s, if_pos h]
    exact z_lf (hsw (by omega) (by omega) (by omega) (by omega))
  · rw [if_pos h, if_neg h]
theorem m_speed {e n : Nat} {im : Nat → Option Nat} {w u : Nat → Nat → Int} {v : Nat → Int} {b o : Int} (hv : m_v w v) (hw : a_wf v) (hb : jR b) (ho : jR o) : (z_F (e + 20)).1 k_Model_speed [.ref 45, .int (Int32.ofInt b), .int (Int32.ofInt o)] (n, z_q im, jM w, jL u) = some (Int32.ofInt (V_speed v b o), jM w, jL u) := by
  have e0 := hv 0 (by decide)
  have e3 := hv 3 (by decide)
  have e4 := hv 4 (by decide)
  have e6 := hv 6 (by decide)
  have e7 := hv 7 (by decide)
  have e8 := hv 8 (by decide)
  obtain ⟨f0, f1, f2, f3, f4, f5, f6, f7, f8, f9, f10, f11, f12⟩ := hw
  unfold V_speed
  refine q_Model_speed ?_
  simp (disch := omega) only [s_isBoat, z_oI_s, ji_b, e6]
  by_cases h1 : 0 ≤ b ∧ b < v 6
  · rw [if_neg (fun q => q h1)]
    by_cases h2 : 0 ≤ o ∧ o < v 6
    · rw [if_neg (fun q => q h2), s_speedOf h1.1 (by omega) h2.1 (by omega) (m_bo hv h1.1 (by omega) (f10 b h1.1 h1.2)) (m_bo hv h2.1 (by omega) (f10 o h2.1 h2.2)) (by omega), z_oI_s, if_pos ⟨h1, h2⟩]
      exact z_lf (m_sp hv h1.1 (by omega) h2.1 (by omega))
    · rw [if_pos h2, if_neg (fun q => h2 q.2)]
  · rw [if_pos h1, if_neg (fun q => h1 q.1)]
def V_why (v : Nat → Int) (a b bo ot p g : Int) : Int := if a_so v a b bo ot ∧ (0 ≤ p ∧ p ≤ 99) ∧ (0 ≤ g ∧ g ≤ 20) then a_ft (a_kd (v 3) (v 4) g) (a_T v a) (a_T v b) (a_sp v bo ot) p p else -2
theorem x_why {e n : Nat} {im : Nat → Option Nat} {w u : Nat → Nat → Int} {v : Nat → Int} {a b bo ot p g : Int} (hv : c_v w v) (hw : a_wf v) (ha : jR a) (hb : jR b) (hbo : jR bo) (hot : jR ot) (hp : jR p) (hg : jR g) : ∃ w', (z_F (e + 20)).1 k_LongBoats_why [.ref 0, .int (Int32.ofInt a), .int (Int32.ofInt b), .int (Int32.ofInt bo), .int (Int32.ofInt ot), .int (Int32.ofInt p), .int (Int32.ofInt g)] (n, z_q im, jM w, jL u) = some (Int32.ofInt (V_why v a b bo ot p g), jM w', jL u) ∧ c_fr w w' := by
  unfold V_why
  by_cases c0 : 0 ≤ p ∧ p ≤ 99
  · skip
    by_cases c1 : 0 ≤ g ∧ g ≤ 20
    · skip
      by_cases h3 : a_so v a b bo ot
      · obtain ⟨w', f1, f2, f3, f4, f5, f6, f7⟩ := x_faces_y (e := e + 14) (n := n) (im := im) (u := u) hv hw h3
        obtain ⟨d1, d2, d3, d4, d5, d6, d7, d8, d9, d10⟩ := f2
        obtain ⟨-, -, -, m3, m4, -⟩ := hw
        have t5 := f5.2.2.2.2.2
        have t6 := f6.2.2.2.2.2
        refine ⟨w', ?_, f4⟩
        refine q_LongBoats_why ?_
        simp (disch := omega) only [s_within, z_oI_s, jb_t c0, jb_t c1, jc_1, if_false, f1, jM_at]
        rw [s_dkind hg (by omega) (by omega), z_oI_s, s_fateOne (a_kd_b _ _ _) f5 f6 f7 (by omega) (by omega), z_oI_s, if_pos ⟨h3, c0, c1⟩]
        exact z_lf (by rw [a_ft_cg d1 d2, d3, d6, d7])
      · refine ⟨w, ?_, c_fr_rf w⟩
        refine q_LongBoats_why ?_
        simp (disch := omega) only [s_within, z_oI_s, jb_t c0, jb_t c1, jc_1, if_false, x_faces_n hv hw ha hb hbo hot h3, jc_0, if_true]
        rw [if_neg (fun q => h3 q.1)]
    · refine ⟨w, ?_, c_fr_rf w⟩
      refine q_LongBoats_why ?_
      simp (disch := omega) only [s_within, z_oI_s, jb_t c0, jb_f c1, jc_1, if_false, jc_0, if_true]
      rw [if_neg (fun q => c1 q.2.2)]
  · refine ⟨w, ?_, c_fr_rf w⟩
    refine q_LongBoats_why ?_
    simp (disch := omega) only [s_within, z_oI_s, jb_f c0, jc_1, if_false, jc_0, if_true]
    rw [if_neg (fun q => c0 q.2.1)]
theorem m_why {e n : Nat} {im : Nat → Option Nat} {w u : Nat → Nat → Int} {v : Nat → Int} {a b bo ot p g : Int} (hv : m_v w v) (hw : a_wf v) (ha : jR a) (hb : jR b) (hbo : jR bo) (hot : jR ot) (hp : jR p) (hg : jR g) : (z_F (e + 20)).1 k_Model_why [.ref 45, .int (Int32.ofInt a), .int (Int32.ofInt b), .int (Int32.ofInt bo), .int (Int32.ofInt ot), .int (Int32.ofInt p), .int (Int32.ofInt g)] (n, z_q im, jM w, jL u) = some (Int32.ofInt (V_why v a b bo ot p g), jM w, jL u) := by
  have hT := fun a h0 h9 => m_T (a := a) hv h0 h9
  have e0 := hv 0 (by decide)
  have e3 := hv 3 (by decide)
  have e4 := hv 4 (by decide)
  have e6 := hv 6 (by decide)
  have e7 := hv 7 (by decide)
  have e8 := hv 8 (by decide)
  obtain ⟨f0, f1, f2, f3, f4, f5, f6, f7, f8, f9, f10, f11, f12⟩ := hw
  unfold V_why
  refine q_Model_why ?_
  simp (disch := omega) only [s_areSo, s_arePasses, jl_of, kl_0, kl_12, s_in, z_oI_s, ji_b, e6, e7]
  by_cases h3 : a_so v a b bo ot
  · rw [if_neg (fun q => q h3)]
    by_cases c0 : 0 ≤ p ∧ p ≤ 99
    · rw [if_neg (fun q => q c0)]
      by_cases c1 : 0 ≤ g ∧ g ≤ 20
      · rw [if_neg (fun q => q c1)]
        obtain ⟨s1, s2, s3, s4, s5⟩ := id h3
        have bb := m_bo hv s4.1 (by omega) (f10 bo s4.1 s4.2)
        have oo := m_bo hv s5.1 (by omega) (f10 ot s5.1 s5.2)
        have hs := a_sp_b bb oo (by omega)
        have ta := a_tr_cg (hT a s1.1 (by omega)) (f11 a s1.1 s1.2)
        have tb := a_tr_cg (hT b s2.1 (by omega)) (f11 b s2.1 s2.2)
        rw [s_speedOf s4.1 (by omega) s5.1 (by omega) bb oo (by omega), z_oI_s, s_whyOf s1.1 (by omega) s2.1 (by omega) ta tb (by omega) (by omega) (by omega) hg (by omega) (by omega), z_oI_s, if_pos ⟨h3, c0, c1⟩]
        exact z_lf (by rw [a_ft_cg (hT a s1.1 (by omega)) (hT b s2.1 (by omega)), e3, e4, m_sp hv s4.1 (by omega) s5.1 (by omega)])
      · rw [if_pos c1, if_neg (fun q => c1 q.2.2)]
    · rw [if_pos c0, if_neg (fun q => c0 q.2.1)]
  · rw [if_pos h3, if_neg (fun q => h3 q.1)]
def V_stands (v : Nat → Int) (a b bo ot p : Int) : Int := if a_so v a b bo ot ∧ (0 ≤ p ∧ p ≤ 99) then a_st (a_T v a) (a_T v b 5) (a_sp v bo ot) p else -2
theorem x_stands {e n : Nat} {im : Nat → Option Nat} {w u : Nat → Nat → Int} {v : Nat → Int} {a b bo ot p : Int} (hv : c_v w v) (hw : a_wf v) (ha : jR a) (hb : jR b) (hbo : jR bo) (hot : jR ot) (hp : jR p) : ∃ w', (z_F (e + 20)).1 k_LongBoats_stands [.ref 0, .int (Int32.ofInt a), .int (Int32.ofInt b), .int (Int32.ofInt bo), .int (Int32.ofInt ot), .int (Int32.ofInt p)] (n, z_q im, jM w, jL u) = some (Int32.ofInt (V_stands v a b bo ot p), jM w', jL u) ∧ c_fr w w' := by
  unfold V_stands
  by_cases c0 : 0 ≤ p ∧ p ≤ 99
  · skip
    by_cases h3 : a_so v a b bo ot
    · obtain ⟨w', f1, f2, f3, f4, f5, f6, f7⟩ := x_faces_y (e := e + 14) (n := n) (im := im) (u := u) hv hw h3
      obtain ⟨d1, d2, d3, d4, d5, d6, d7, d8, d9, d10⟩ := f2
      obtain ⟨-, -, -, m3, m4, -⟩ := hw
      have t5 := f5.2.2.2.2.2
      have t6 := f6.2.2.2.2.2
      refine ⟨w', ?_, f4⟩
      refine q_LongBoats_stands ?_
      simp (disch := omega) only [s_within, z_oI_s, jb_t c0, jc_1, if_false, f1, jM_at]
      rw [s_hold_26 f5 f7 (by omega) t6, z_oI_s, if_pos ⟨h3, c0⟩]
      exact z_lf (by rw [a_st_cg d1, d2 5 (by decide), d3])
    · refine ⟨w, ?_, c_fr_rf w⟩
      refine q_LongBoats_stands ?_
      simp (disch := omega) only [s_within, z_oI_s, jb_t c0, jc_1, if_false, x_faces_n hv hw ha hb hbo hot h3, jc_0, if_true]
      rw [if_neg (fun q => h3 q.1)]
  · refine ⟨w, ?_, c_fr_rf w⟩
    refine q_LongBoats_stands ?_
    simp (disch := omega) only [s_within, z_oI_s, jb_f c0, jc_1, if_false, jc_0, if_true]
    rw [if_neg (fun q => c0 q.2)]
theorem m_stands {e n : Nat} {im : Nat → Option Nat} {w u : Nat → Nat → Int} {v : Nat → Int} {a b bo ot p : Int} (hv : m_v w v) (hw : a_wf v) (ha : jR a) (hb : jR b) (hbo : jR bo) (hot : jR ot) (hp : jR p) : (z_F (e + 20)).1 k_Model_stands [.ref 45, .int (Int32.ofInt a), .int (Int32.ofInt b), .int (Int32.ofInt bo), .int (Int32.ofInt ot), .int (Int32.ofInt p)] (n, z_q im, jM w, jL u) = some (Int32.ofInt (V_stands v a b bo ot p), jM w, jL u) := by
  have hT := fun a h0 h9 => m_T (a := a) hv h0 h9
  have e0 := hv 0 (by decide)
  have e3 := hv 3 (by decide)
  have e4 := hv 4 (by decide)
  have e6 := hv 6 (by decide)
  have e7 := hv 7 (by decide)
  have e8 := hv 8 (by decide)
  obtain ⟨f0, f1, f2, f3, f4, f5, f6, f7, f8, f9, f10, f11, f12⟩ := hw
  unfold V_stands
  refine q_Model_stands ?_
  simp (disch := omega) only [s_areSo, s_arePasses, jl_of, s_in, z_oI_s, ji_b, e6, e7]
  by_cases h3 : a_so v a b bo ot
  · rw [if_neg (fun q => q h3)]
    by_cases c0 : 0 ≤ p ∧ p ≤ 99
    · rw [if_neg (fun q => q c0)]
      obtain ⟨s1, s2, s3, s4, s5⟩ := id h3
      have bb := m_bo hv s4.1 (by omega) (f10 bo s4.1 s4.2)
      have oo := m_bo hv s5.1 (by omega) (f10 ot s5.1 s5.2)
      have hs := a_sp_b bb oo (by omega)
      have ta := a_tr_cg (hT a s1.1 (by omega)) (f11 a s1.1 s1.2)
      have tb := a_tr_cg (hT b s2.1 (by omega)) (f11 b s2.1 s2.2)
      rw [s_speedOf s4.1 (by omega) s5.1 (by omega) bb oo (by omega), z_oI_s, s_standsOf s1.1 (by omega) s2.1 (by omega) ta tb (by omega) (by omega), z_oI_s, if_pos ⟨h3, c0⟩]
      exact z_lf (by rw [a_st_cg (hT a s1.1 (by omega)), hT b s2.1 (by omega) 5 (by decide), m_sp hv s4.1 (by omega) s5.1 (by omega)])
    · rw [if_pos c0, if_neg (fun q => c0 q.2)]
  · rw [if_pos h3, if_neg (fun q => h3 q.1)]
theorem s_marginOf {e n : Nat} {im : Nat → Option Nat} {w u : Nat → Nat → Int} {a b sp p po : Int} (h0 : 0 ≤ a) (h9 : a ≤ 9) (hb0 : 0 ≤ b) (hb9 : b ≤ 9) (ht : a_tr (a_T (w 46) a)) (hf : a_tr (a_T (w 46) b)) (h1 : 0 ≤ sp ∧ sp ≤ 100) (h2 : 0 ≤ p ∧ p ≤ 1000) (h3 : 0 ≤ po ∧ po ≤ 1000) : (z_F (e + 3)).1 k_Model_marginOf [.ref 45, .int (Int32.ofInt a), .int (Int32.ofInt b), .int (Int32.ofInt sp), .int (Int32.ofInt p), .int (Int32.ofInt po)] (n, z_q im, jM w, jL u) = some (Int32.ofInt (a_fo (a_T (w 46) a) sp p - a_st (a_T (w 46) b) (a_T (w 46) a 5) sp po), jM w, jL u) := by
  refine q_Model_marginOf ?_
  rw [s_forceOf h0 h9 ht h1 h2, z_oI_s, s_standsOf hb0 hb9 h0 h9 hf ht h1 h3, z_oI_s, ji_sub]
def V_margin (v : Nat → Int) (a b bo ot p : Int) : Int := if a_so v a b bo ot ∧ (0 ≤ p ∧ p ≤ 99) then a_fo (a_T v a) (a_sp v bo ot) p - a_st (a_T v b) (a_T v a 5) (a_sp v bo ot) p else -1000
theorem x_margin {e n : Nat} {im : Nat → Option Nat} {w u : Nat → Nat → Int} {v : Nat → Int} {a b bo ot p : Int} (hv : c_v w v) (hw : a_wf v) (ha : jR a) (hb : jR b) (hbo : jR bo) (hot : jR ot) (hp : jR p) : ∃ w', (z_F (e + 20)).1 k_LongBoats_margin [.ref 0, .int (Int32.ofInt a), .int (Int32.ofInt b), .int (Int32.ofInt bo), .int (Int32.ofInt ot), .int (Int32.ofInt p)] (n, z_q im, jM w, jL u) = some (Int32.ofInt (V_margin v a b bo ot p), jM w', jL u) ∧ c_fr w w' := by
  unfold V_margin
  by_cases c0 : 0 ≤ p ∧ p ≤ 99
  · skip
    by_cases h3 : a_so v a b bo ot
    · obtain ⟨w', f1, f2, f3, f4, f5, f6, f7⟩ := x_faces_y (e := e + 14) (n := n) (im := im) (u := u) hv hw h3
      obtain ⟨d1, d2, d3, d4, d5, d6, d7, d8, d9, d10⟩ := f2
      obtain ⟨-, -, -, m3, m4, -⟩ := hw
      have t5 := f5.2.2.2.2.2
      have t6 := f6.2.2.2.2.2
      refine ⟨w', ?_, f4⟩
      refine q_LongBoats_margin ?_
      simp (disch := omega) only [s_within, z_oI_s, jb_t c0, jc_1, if_false, f1, jM_at]
      rw [s_thrust_26 f5 f7 (by omega), z_oI_s]
      simp only [jM_at]
      rw [s_hold_27 f6 f7 (by omega) t5, z_oI_s, ji_sub, if_pos ⟨h3, c0⟩]
      exact z_lf (by rw [a_fo_cg d1, a_st_cg d2, d1 5 (by decide), d3])
    · refine ⟨w, ?_, c_fr_rf w⟩
      refine q_LongBoats_margin ?_
      simp (disch := omega) only [s_within, z_oI_s, jb_t c0, jc_1, if_false, x_faces_n hv hw ha hb hbo hot h3, jc_0, if_true]
      rw [if_neg (fun q => h3 q.1)]
  · refine ⟨w, ?_, c_fr_rf w⟩
    refine q_LongBoats_margin ?_
    simp (disch := omega) only [s_within, z_oI_s, jb_f c0, jc_1, if_false, jc_0, if_true]
    rw [if_neg (fun q => c0 q.2)]
theorem m_margin {e n : Nat} {im : Nat → Option Nat} {w u : Nat → Nat → Int} {v : Nat → Int} {a b bo ot p : Int} (hv : m_v w v) (hw : a_wf v) (ha : jR a) (hb : jR b) (hbo : jR bo) (hot : jR ot) (hp : jR p) : (z_F (e + 20)).1 k_Model_margin [.ref 45, .int (Int32.ofInt a), .int (Int32.ofInt b), .int (Int32.ofInt bo), .int (Int32.ofInt ot), .int (Int32.ofInt p)] (n, z_q im, jM w, jL u) = some (Int32.ofInt (V_margin v a b bo ot p), jM w, jL u) := by
  have hT := fun a h0 h9 => m_T (a := a) hv h0 h9
  have e0 := hv 0 (by decide)
  have e3 := hv 3 (by decide)
  have e4 := hv 4 (by decide)
  have e6 := hv 6 (by decide)
  have e7 := hv 7 (by decide)
  have e8 := hv 8 (by decide)
  obtain ⟨f0, f1, f2, f3, f4, f5, f6, f7, f8, f9, f10, f11, f12⟩ := hw
  unfold V_margin
  refine q_Model_margin ?_
  simp (disch := omega) only [s_areSo, s_arePasses, jl_of, s_in, z_oI_s, ji_b, e6, e7]
  by_cases h3 : a_so v a b bo ot
  · rw [if_neg (fun q => q h3)]
    by_cases c0 : 0 ≤ p ∧ p ≤ 99
    · rw [if_neg (fun q => q c0)]
      obtain ⟨s1, s2, s3, s4, s5⟩ := id h3
      have bb := m_bo hv s4.1 (by omega) (f10 bo s4.1 s4.2)
      have oo := m_bo hv s5.1 (by omega) (f10 ot s5.1 s5.2)
      have hs := a_sp_b bb oo (by omega)
      have ta := a_tr_cg (hT a s1.1 (by omega)) (f11 a s1.1 s1.2)
      have tb := a_tr_cg (hT b s2.1 (by omega)) (f11 b s2.1 s2.2)
      rw [s_speedOf s4.1 (by omega) s5.1 (by omega) bb oo (by omega), z_oI_s, s_marginOf s1.1 (by omega) s2.1 (by omega) ta tb (by omega) (by omega) (by omega), z_oI_s, if_pos ⟨h3, c0⟩]
      exact z_lf (by rw [a_fo_cg (hT a s1.1 (by omega)), a_st_cg (hT b s2.1 (by omega)), hT a s1.1 (by omega) 5 (by decide), m_sp hv s4.1 (by omega) s5.1 (by omega)])
    · rw [if_pos c0, if_neg (fun q => c0 q.2)]
  · rw [if_pos h3, if_neg (fun q => h3 q.1)]
