/-! what is best: choices, oars, weights -/
theorem s_gn_v {e n : Nat} {im : Nat → Option Nat} {w u : Nat → Nat → Int} {v : Nat → Int} {a b bo ot : Int} (hv : w 46 = v) (hw : a_wf v) (s1 : 0 ≤ a ∧ a < v 7) (s2 : 0 ≤ b ∧ b < v 7) (s4 : 0 ≤ bo ∧ bo < v 6) (s5 : 0 ≤ ot ∧ ot < v 6) : (z_F (e + 7)).1 k_Model_gainOf [.ref 45, .int (Int32.ofInt a), .int (Int32.ofInt b), .int (Int32.ofInt bo), .int (Int32.ofInt ot)] (n, z_q im, jM w, jL u) = some (Int32.ofInt (a_gn v (a_T v a) (a_T v b) (a_sp v bo ot) bo ot), jM w, jL u) := by
  subst hv
  exact s_gn hw s1 s2 s4 s5
def F_ch (v : Nat → Int) (a b bo ot c : Int) : Int := a_gn v (a_ch (a_T v a) c) (a_T v b) (a_sp v bo ot) bo ot
theorem F_ch_b {v : Nat → Int} {a b bo ot : Int} (h1 : a_bo v bo) (h2 : a_bo v ot) (x : Int) : -1000 ≤ F_ch v a b bo ot x ∧ F_ch v a b bo ot x ≤ 1000 := by
  have := a_gn_b (t := a_ch (a_T v a) x) (f := a_T v b) (sp := a_sp v bo ot) h1 h2
  unfold F_ch
  omega
def V_best (v : Nat → Int) (a b bo ot : Int) : Int := if a_so v a b bo ot then (a_am (F_ch v a b bo ot) 0 0 (-2000) 10).1 else -2
theorem x_best {e n : Nat} {im : Nat → Option Nat} {w u : Nat → Nat → Int} {v : Nat → Int} {a b bo ot : Int} (hv : c_v w v) (hw : a_wf v) (ha : jR a) (hb : jR b) (hbo : jR bo) (hot : jR ot) : ∃ w', (z_F (e + 20)).1 k_LongBoats_best [.ref 0, .int (Int32.ofInt a), .int (Int32.ofInt b), .int (Int32.ofInt bo), .int (Int32.ofInt ot)] (n, z_q im, jM w, jL u) = some (Int32.ofInt (V_best v a b bo ot), jM w', jL u) ∧ c_fr w w' := by
  obtain ⟨f0, f1, f2, f3, f4, f5, f6, f7, f8, f9, f10, f11, f12⟩ := id hw
  unfold V_best
  by_cases h : a_so v a b bo ot
  · obtain ⟨w1, w2, q1, q2, q3, q4, q5, q6, q7⟩ := x_slips (e := e + 14) (n := n) (im := im) (u := u) hv hw h
    obtain ⟨s1, s2, s3, s4, s5⟩ := id h
    have b1 := f10 bo s4.1 s4.2
    have b2 := f10 ot s5.1 s5.2
    have pb := a_pp_b b1.2 b2.2
    obtain ⟨⟨d1, d2, d3, d4, d5, d6, d7, d8, d9, d10⟩, hv2, h3⟩ := id q3
    have ta := f11 a s1.1 s1.2
    have tb := f11 b s2.1 s2.2
    have spb := a_sp_b b1 b2 f0
    rw [if_pos h]
    have hFb := fun x => F_ch_b (a := a) (b := b) b1 b2 x
    have hF0 : -a_pp (v (10 + 2 * bo.toNat + 1)) (v (10 + 2 * ot.toNat + 1)) ≤ F_ch v a b bo ot 0 := a_gn_l b1 b2
    have hr := fun i => a_am_r (b := 0) (m := -a_pp (v (10 + 2 * bo.toNat + 1)) (v (10 + 2 * ot.toNat + 1)) - 1) hFb (by omega) (lo := 0) (by decide) (by decide) i
    obtain ⟨t, ht, wi, q, rfl, hag⟩ := z_for (o := z_F (e + 19)) (cd := cd_LongBoats_best) (P := fun i s => ∃ wi q, s = (27, [some (.ref 0), some (.int (Int32.ofInt a)), some (.int (Int32.ofInt b)), some (.int (Int32.ofInt bo)), some (.int (Int32.ofInt ot)), some (.int (Int32.ofInt (a_am (F_ch v a b bo ot) 0 0 (-a_pp (v (10 + 2 * bo.toNat + 1)) (v (10 + 2 * ot.toNat + 1)) - 1) i).1)), some (.int (Int32.ofInt (a_am (F_ch v a b bo ot) 0 0 (-a_pp (v (10 + 2 * bo.toNat + 1)) (v (10 + 2 * ot.toNat + 1)) - 1) i).2)), some (.int (Int32.ofInt (i : Int))), q], (n, z_q im, jM wi, jL u)) ∧ a_ag w2 wi 26 (fun j => j = 4 ∨ j = 5)) 10 (s := (27, [some (.ref 0), some (.int (Int32.ofInt a)), some (.int (Int32.ofInt b)), some (.int (Int32.ofInt bo)), some (.int (Int32.ofInt ot)), some (.int (Int32.ofInt 0)), some (.int (Int32.ofInt (-a_pp (v (10 + 2 * bo.toNat + 1)) (v (10 + 2 * ot.toNat + 1)) - 1))), some (.int (Int32.ofInt 0)), none], (n, z_q im, jM w2, jL u))) ⟨w2, none, rfl, a_ag_rf _ _ _⟩ (fun i s hi hs => by
      obtain ⟨wi, q, rfl, hag⟩ := hs
      have hri := hr i
      have hFi := hFb (0 + (i : Int))
      have tt : ∀ j, j < 6 → z_u (z_u wi 26 4 ((i : Int) / 2)) 26 5 ((i : Int) % 2) 26 j = a_ch (a_T v a) i j := fun j hj => by
        rw [z_u_at, z_u_at]
        simp only [a_ch, a_s1]
        split
        · rfl
        · split
          · rfl
          · rw [hag.2 j (by omega)]; exact d1 j hj
      have t7 : z_u (z_u wi 26 4 ((i : Int) / 2)) 26 5 ((i : Int) % 2) 27 = w2 27 := by rw [z_u_ne (by decide), z_u_ne (by decide)]; exact hag.1 27 (by decide)
      have t5 : z_u (z_u wi 26 4 ((i : Int) / 2)) 26 5 ((i : Int) % 2) 25 = w2 25 := by rw [z_u_ne (by decide), z_u_ne (by decide)]; exact hag.1 25 (by decide)
      have t9 : z_u (z_u wi 26 4 ((i : Int) / 2)) 26 5 ((i : Int) % 2) 29 = w2 29 := by rw [z_u_ne (by decide), z_u_ne (by decide)]; exact hag.1 29 (by decide)
      have hval : c_ga (z_u (z_u wi 26 4 ((i : Int) / 2)) 26 5 ((i : Int) % 2)) = F_ch v a b bo ot (0 + (i : Int)) := by
        rw [c_ga_eq (v := v) (a := a) (b := b) (bo := bo) (ot := ot) (by rw [t9]; exact h3), t7, t5, d3, Int.zero_add]
        exact a_gn_cg rfl rfl rfl rfl rfl tt d2
      refine ⟨(27, [some (.ref 0), some (.int (Int32.ofInt a)), some (.int (Int32.ofInt b)), some (.int (Int32.ofInt bo)), some (.int (Int32.ofInt ot)), some (.int (Int32.ofInt (a_am (F_ch v a b bo ot) 0 0 (-a_pp (v (10 + 2 * bo.toNat + 1)) (v (10 + 2 * ot.toNat + 1)) - 1) (i + 1)).1)), some (.int (Int32.ofInt (a_am (F_ch v a b bo ot) 0 0 (-a_pp (v (10 + 2 * bo.toNat + 1)) (v (10 + 2 * ot.toNat + 1)) - 1) (i + 1)).2)), some (.int (Int32.ofInt ((i : Int) + 1))), some (.int (Int32.ofInt (F_ch v a b bo ot (0 + (i : Int)))))], (n, z_q im, jM (z_u (z_u wi 26 4 ((i : Int) / 2)) 26 5 ((i : Int) % 2)), jL u)), z_To_1 ((e_LongBoats_best_27 ..).trans ?_), _, _, rfl, a_ag_u (a_ag_u hag (Or.inl rfl) _) (Or.inr rfl) _⟩
      simp (disch := omega) only [ji_le]
      rw [if_neg (by omega), s_choose_26 (by omega) (by omega), z_oV_s, s_gain (a_tr_cg tt (ch_tr ta (by omega) (by omega))) (by rw [t7]; exact q6) (by rw [t5]; exact q7), z_oI_s, hval]
      simp (disch := omega) only [ji_le, ji_add]
      simp only [a_am]
      by_cases hh : (a_am (F_ch v a b bo ot) 0 0 (-a_pp (v (10 + 2 * bo.toNat + 1)) (v (10 + 2 * ot.toNat + 1)) - 1) i).2 < F_ch v a b bo ot (0 + (i : Int))
      · rw [if_neg (by omega), if_pos hh, Int.zero_add]
      · rw [if_pos (by omega), if_neg hh])
    refine ⟨wi, n_LongBoats_best (z_go ((e_LongBoats_best_0 ..).trans ?_) (ht _ (z_ret ((e_LongBoats_best_27 ..).trans ?_)))), fun c hc => ?_⟩
    · simp (disch := omega) only [z_oI_s, q1, jM_at]
      rw [if_neg jc_1, q2, z_oV_s, s_allPairs, z_oI_s, d4, d5, ji_neg, ji_sub]
      rfl
    · simp (disch := omega) only [ji_le]
      rw [if_pos (by decide)]
      exact z_lf (by rw [a_am_eq (b' := 0) (m' := -2000) (by omega) (by have := hFb 0; omega) 9])
    · rw [hag.1 c (fun q => by subst q; simp at hc)]
      exact q4 c hc
  · refine ⟨w, n_LongBoats_best (z_ret ((e_LongBoats_best_0 ..).trans ?_)), c_fr_rf w⟩
    rw [if_neg h, x_faces_n hv hw ha hb hbo hot h, z_oI_s]
    rfl
theorem m_best {e n : Nat} {im : Nat → Option Nat} {w u : Nat → Nat → Int} {a b bo ot : Int} (hw : a_wf (w 46)) (ha : jR a) (hb : jR b) (hbo : jR bo) (hot : jR ot) : (z_F (e + 20)).1 k_Model_best [.ref 45, .int (Int32.ofInt a), .int (Int32.ofInt b), .int (Int32.ofInt bo), .int (Int32.ofInt ot)] (n, z_q im, jM w, jL u) = some (Int32.ofInt (V_best (w 46) a b bo ot), jM w, jL u) := by
  obtain ⟨f0, f1, f2, f3, f4, f5, f6, f7, f8, f9, f10, f11, f12⟩ := id hw
  unfold V_best
  by_cases h : a_so (w 46) a b bo ot
  · obtain ⟨s1, s2, s3, s4, s5⟩ := id h
    have b1 := f10 bo s4.1 s4.2
    have b2 := f10 ot s5.1 s5.2
    rw [if_pos h]
    have hFb := fun x => F_ch_b (a := a) (b := b) b1 b2 x
    have hr := fun i => a_am_r (b := -1) (m := -1000000) hFb (by omega) (lo := 0) (by decide) (by decide) i
    obtain ⟨t, ht, wi, q, rfl, hag⟩ := z_for (o := z_F (e + 19)) (cd := cd_Model_best) (P := fun i s => ∃ wi q, s = (26, [some (.ref 45), some (.int (Int32.ofInt a)), some (.int (Int32.ofInt b)), some (.int (Int32.ofInt bo)), some (.int (Int32.ofInt ot)), some (.int (Int32.ofInt (a_T (w 46) a 4))), some (.int (Int32.ofInt (a_T (w 46) a 5))), some (.int (Int32.ofInt (a_am (F_ch (w 46) a b bo ot) 0 (-1) (-1000000) i).1)), some (.int (Int32.ofInt (a_am (F_ch (w 46) a b bo ot) 0 (-1) (-1000000) i).2)), some (.int (Int32.ofInt (i : Int))), q], (n, z_q im, jM wi, jL u)) ∧ a_ag w wi 46 (fun j => j = 18 + 6 * a.toNat + 4 ∨ j = 18 + 6 * a.toNat + 5)) 10 (s := (26, [some (.ref 45), some (.int (Int32.ofInt a)), some (.int (Int32.ofInt b)), some (.int (Int32.ofInt bo)), some (.int (Int32.ofInt ot)), some (.int (Int32.ofInt (a_T (w 46) a 4))), some (.int (Int32.ofInt (a_T (w 46) a 5))), some (.int (Int32.ofInt (-1))), some (.int (Int32.ofInt (-1000000))), some (.int (Int32.ofInt 0)), none], (n, z_q im, jM w, jL u))) ⟨w, none, rfl, a_ag_rf _ _ _⟩ (fun i s hi hs => by
      obtain ⟨wi, q, rfl, hag⟩ := hs
      have hri := hr i
      have hFi := hFb (0 + (i : Int))
      refine ⟨(26, [some (.ref 45), some (.int (Int32.ofInt a)), some (.int (Int32.ofInt b)), some (.int (Int32.ofInt bo)), some (.int (Int32.ofInt ot)), some (.int (Int32.ofInt (a_T (w 46) a 4))), some (.int (Int32.ofInt (a_T (w 46) a 5))), some (.int (Int32.ofInt (a_am (F_ch (w 46) a b bo ot) 0 (-1) (-1000000) (i + 1)).1)), some (.int (Int32.ofInt (a_am (F_ch (w 46) a b bo ot) 0 (-1) (-1000000) (i + 1)).2)), some (.int (Int32.ofInt ((i : Int) + 1))), some (.int (Int32.ofInt (F_ch (w 46) a b bo ot (0 + (i : Int)))))], (n, z_q im, jM (z_u (z_u wi 46 (18 + 6 * a.toNat + 4) ((i : Int) / 2)) 46 (18 + 6 * a.toNat + 5) ((i : Int) % 2)), jL u)), z_To_1 ((e_Model_best_26 ..).trans ?_), _, _, rfl, a_ag_u (a_ag_u hag (Or.inl rfl) _) (Or.inr rfl) _⟩
      have hc46 : z_u (z_u wi 46 (18 + 6 * a.toNat + 4) ((i : Int) / 2)) 46 (18 + 6 * a.toNat + 5) ((i : Int) % 2) 46 = v_ch (w 46) a i := by rw [zz2 hag, zu_row, zu_row]; rfl
      have hgn : a_gn (v_ch (w 46) a i) (a_T (v_ch (w 46) a i) a) (a_T (v_ch (w 46) a i) b) (a_sp (v_ch (w 46) a i) bo ot) bo ot = F_ch (w 46) a b bo ot (0 + (i : Int)) := by
        rw [a_sp_cg (v := w 46) (v_ch_lo (by decide)) (v_ch_lo (by omega)) (v_ch_lo (by omega)), Int.zero_add]
        exact a_gn_cg (v_ch_lo (by decide)) (v_ch_lo (by decide)) (v_ch_lo (by decide)) (v_ch_lo (by omega)) (v_ch_lo (by omega)) (fun j _ => v_ch_T j) (v_ch_Tn s1.1 s2.1 s3)
      simp (disch := omega) only [ji_le]
      rw [if_neg (by omega), s_mchoose (by omega) (by omega) (by omega) (by omega), z_oV_s, s_gn_v hc46 (v_ch_wf hw s1.1 s1.2 (by omega) (by omega)) (by rw [v_ch_lo (by decide)]; exact s1) (by rw [v_ch_lo (by decide)]; exact s2) (by rw [v_ch_lo (by decide)]; exact s4) (by rw [v_ch_lo (by decide)]; exact s5), z_oI_s, hgn]
      simp (disch := omega) only [ji_lt, ji_add]
      simp only [a_am]
      by_cases hh : (a_am (F_ch (w 46) a b bo ot) 0 (-1) (-1000000) i).2 < F_ch (w 46) a b bo ot (0 + (i : Int))
      · rw [if_pos (by omega), if_pos hh, Int.zero_add]
      · rw [if_neg (by omega), if_neg hh])
    refine n_Model_best (z_go ((e_Model_best_0 ..).trans ?_) (ht _ (z_ret ((e_Model_best_26 ..).trans ?_))))
    · simp (disch := omega) only [s_areSo, z_oI_s, ji_b]
      rw [if_neg (fun q => q h), s_of_4 (by omega) (by omega), z_oI_s, s_of_5 (by omega) (by omega), z_oI_s]
    · simp (disch := omega) only [ji_le]
      rw [if_pos (by decide), s_mset_4 (by omega) (by omega), z_oV_s, s_mset_5 (by omega) (by omega), z_oV_s, zz2 hag]
      unfold a_T
      rw [zu_self, zu_self]
      exact z_lf (by rw [a_am_eq (b' := 0) (m' := -2000) (by have := hFb 0; omega) (by have := hFb 0; omega) 9])
  · refine n_Model_best (z_ret ((e_Model_best_0 ..).trans ?_))
    simp (disch := omega) only [s_areSo, z_oI_s, ji_b]
    rw [if_neg h, if_pos h]
/-- oars -/
def F_oa (v : Nat → Int) (a b bo ot c : Int) : Int := a_gn v (a_T v a) (a_T v b) (a_mx (c + (if ot = bo then c else v (10 + 2 * ot.toNat)) - v 0)) bo ot
theorem F_oa_b {v : Nat → Int} {a b bo ot : Int} (h1 : a_bo v bo) (h2 : a_bo v ot) (x : Int) : -1000 ≤ F_oa v a b bo ot x ∧ F_oa v a b bo ot x ≤ 1000 := by
  have := a_gn_b (t := a_T v a) (f := a_T v b) (sp := a_mx (x + (if ot = bo then x else v (10 + 2 * ot.toNat)) - v 0)) h1 h2
  unfold F_oa
  omega
def V_oars (v : Nat → Int) (a b bo ot : Int) : Int := if a_so v a b bo ot then (a_am (F_oa v a b bo ot) 2 2 (-2000) 11).1 else -2
theorem x_oars {e n : Nat} {im : Nat → Option Nat} {w u : Nat → Nat → Int} {v : Nat → Int} {a b bo ot : Int} (hv : c_v w v) (hw : a_wf v) (ha : jR a) (hb : jR b) (hbo : jR bo) (hot : jR ot) : ∃ w', (z_F (e + 20)).1 k_LongBoats_oars [.ref 0, .int (Int32.ofInt a), .int (Int32.ofInt b), .int (Int32.ofInt bo), .int (Int32.ofInt ot)] (n, z_q im, jM w, jL u) = some (Int32.ofInt (V_oars v a b bo ot), jM w', jL u) ∧ c_fr w w' := by
  obtain ⟨f0, f1, f2, f3, f4, f5, f6, f7, f8, f9, f10, f11, f12⟩ := id hw
  unfold V_oars
  by_cases h : a_so v a b bo ot
  · obtain ⟨w1, w2, q1, q2, q3, q4, q5, q6, q7⟩ := x_slips (e := e + 14) (n := n) (im := im) (u := u) hv hw h
    obtain ⟨s1, s2, s3, s4, s5⟩ := id h
    have b1 := f10 bo s4.1 s4.2
    have b2 := f10 ot s5.1 s5.2
    have pb := a_pp_b b1.2 b2.2
    obtain ⟨⟨d1, d2, d3, d4, d5, d6, d7, d8, d9, d10⟩, hv2, h3⟩ := id q3
    have ta := f11 a s1.1 s1.2
    have tb := f11 b s2.1 s2.2
    have spb := a_sp_b b1 b2 f0
    rw [if_pos h]
    have hFb := fun x => F_oa_b (a := a) (b := b) b1 b2 x
    have hF0 : -a_pp (v (10 + 2 * bo.toNat + 1)) (v (10 + 2 * ot.toNat + 1)) ≤ F_oa v a b bo ot 2 := a_gn_l b1 b2
    have hr := fun i => a_am_r (b := 2) (m := -a_pp (v (10 + 2 * bo.toNat + 1)) (v (10 + 2 * ot.toNat + 1)) - 1) hFb (by omega) (lo := 2) (by decide) (by decide) i
    obtain ⟨t, ht, wi, q, rfl, hag⟩ := z_for (o := z_F (e + 19)) (cd := cd_LongBoats_oars) (P := fun i s => ∃ wi q, s = (27, [some (.ref 0), some (.int (Int32.ofInt a)), some (.int (Int32.ofInt b)), some (.int (Int32.ofInt bo)), some (.int (Int32.ofInt ot)), some (.int (Int32.ofInt (a_am (F_oa v a b bo ot) 2 2 (-a_pp (v (10 + 2 * bo.toNat + 1)) (v (10 + 2 * ot.toNat + 1)) - 1) i).1)), some (.int (Int32.ofInt (a_am (F_oa v a b bo ot) 2 2 (-a_pp (v (10 + 2 * bo.toNat + 1)) (v (10 + 2 * ot.toNat + 1)) - 1) i).2)), some (.int (Int32.ofInt (2 + (i : Int)))), q], (n, z_q im, jM wi, jL u)) ∧ a_ag w2 wi 25 (fun j => j = 9)) 11 (s := (27, [some (.ref 0), some (.int (Int32.ofInt a)), some (.int (Int32.ofInt b)), some (.int (Int32.ofInt bo)), some (.int (Int32.ofInt ot)), some (.int (Int32.ofInt 2)), some (.int (Int32.ofInt (-a_pp (v (10 + 2 * bo.toNat + 1)) (v (10 + 2 * ot.toNat + 1)) - 1))), some (.int (Int32.ofInt 2)), none], (n, z_q im, jM w2, jL u))) ⟨w2, none, rfl, a_ag_rf _ _ _⟩ (fun i s hi hs => by
      obtain ⟨wi, q, rfl, hag⟩ := hs
      have hri := hr i
      have hFi := hFb (2 + (i : Int))
      obtain ⟨g0, g1, g2, g3, g4, g5, g6, g7, g8, g9, h5, h7, h9⟩ := id hv2
      have k5 : wi 5 = w2 5 := hag.1 5 (by decide)
      have k3 : wi 3 = w2 3 := hag.1 3 (by decide)
      have k52 := h5 (2 * ot.toNat) (by omega)
      have hsw : c_sw wi bo (2 + (i : Int)) ot = a_mx ((2 + (i : Int)) + (if ot = bo then (2 + (i : Int)) else v (10 + 2 * ot.toNat)) - v 0) := by
        unfold c_sw
        rw [k5, k3, k52, g1]
      have hsb : 0 ≤ c_sw wi bo (2 + (i : Int)) ot ∧ c_sw wi bo (2 + (i : Int)) ot ≤ 100 := by
        have h22 := b2.1
        rw [hsw]
        unfold a_mx
        (repeat' split) <;> omega
      have t6 : z_u wi 25 9 (c_sw wi bo (2 + (i : Int)) ot) 26 = w2 26 := by rw [z_u_ne (by decide)]; exact hag.1 26 (by decide)
      have t7 : z_u wi 25 9 (c_sw wi bo (2 + (i : Int)) ot) 27 = w2 27 := by rw [z_u_ne (by decide)]; exact hag.1 27 (by decide)
      have t5 : z_u wi 25 9 (c_sw wi bo (2 + (i : Int)) ot) 25 9 = c_sw wi bo (2 + (i : Int)) ot := by rw [z_u_at, if_pos rfl]
      have t9 : z_u wi 25 9 (c_sw wi bo (2 + (i : Int)) ot) 29 = w2 29 := by rw [z_u_ne (by decide)]; exact hag.1 29 (by decide)
      have hval : c_ga (z_u wi 25 9 (c_sw wi bo (2 + (i : Int)) ot)) = F_oa v a b bo ot (2 + (i : Int)) := by
        rw [c_ga_eq (v := v) (a := a) (b := b) (bo := bo) (ot := ot) (by rw [t9]; exact h3), t6, t7, t5, hsw]
        exact a_gn_cg rfl rfl rfl rfl rfl d1 d2
      refine ⟨(27, [some (.ref 0), some (.int (Int32.ofInt a)), some (.int (Int32.ofInt b)), some (.int (Int32.ofInt bo)), some (.int (Int32.ofInt ot)), some (.int (Int32.ofInt (a_am (F_oa v a b bo ot) 2 2 (-a_pp (v (10 + 2 * bo.toNat + 1)) (v (10 + 2 * ot.toNat + 1)) - 1) (i + 1)).1)), some (.int (Int32.ofInt (a_am (F_oa v a b bo ot) 2 2 (-a_pp (v (10 + 2 * bo.toNat + 1)) (v (10 + 2 * ot.toNat + 1)) - 1) (i + 1)).2)), some (.int (Int32.ofInt (2 + (i : Int) + 1))), some (.int (Int32.ofInt (F_oa v a b bo ot (2 + (i : Int)))))], (n, z_q im, jM (z_u wi 25 9 (c_sw wi bo (2 + (i : Int)) ot)), jL u)), z_To_1 ((e_LongBoats_oars_27 ..).trans ?_), _, _, by rw [Int.natCast_add, Int.add_assoc]; rfl, a_ag_u hag rfl _⟩
      have h22 := b2.1
      simp (disch := omega) only [ji_lt]
      rw [if_neg (by omega), s_speedWith (by omega) (by omega) (by omega) (by omega) (by omega) (by rw [k5, k52]; omega) (by rw [k3, g1]; omega), z_oI_s]
      simp only [jM_u]
      rw [s_gain (by rw [t6]; exact q5) (by rw [t7]; exact q6) (by rw [t5]; exact hsb), z_oI_s, hval]
      simp (disch := omega) only [ji_le, ji_add]
      simp only [a_am]
      by_cases hh : (a_am (F_oa v a b bo ot) 2 2 (-a_pp (v (10 + 2 * bo.toNat + 1)) (v (10 + 2 * ot.toNat + 1)) - 1) i).2 < F_oa v a b bo ot (2 + (i : Int))
      · rw [if_neg (by omega), if_pos hh]
      · rw [if_pos (by omega), if_neg hh])
    refine ⟨wi, n_LongBoats_oars (z_go ((e_LongBoats_oars_0 ..).trans ?_) (ht _ (z_ret ((e_LongBoats_oars_27 ..).trans ?_)))), fun c hc => ?_⟩
    · simp (disch := omega) only [z_oI_s, q1, jM_at]
      rw [if_neg jc_1, q2, z_oV_s, s_allPairs, z_oI_s, d4, d5, ji_neg, ji_sub]
      rfl
    · simp (disch := omega) only [ji_lt]
      rw [if_pos (by decide)]
      exact z_lf (by rw [a_am_eq (b' := 2) (m' := -2000) (by omega) (by have := hFb 2; omega) 10])
    · rw [hag.1 c (fun q => by subst q; simp at hc)]
      exact q4 c hc
  · refine ⟨w, n_LongBoats_oars (z_ret ((e_LongBoats_oars_0 ..).trans ?_)), c_fr_rf w⟩
    rw [if_neg h, x_faces_n hv hw ha hb hbo hot h, z_oI_s]
    rfl
theorem m_oars {e n : Nat} {im : Nat → Option Nat} {w u : Nat → Nat → Int} {a b bo ot : Int} (hw : a_wf (w 46)) (ha : jR a) (hb : jR b) (hbo : jR bo) (hot : jR ot) : (z_F (e + 20)).1 k_Model_oars [.ref 45, .int (Int32.ofInt a), .int (Int32.ofInt b), .int (Int32.ofInt bo), .int (Int32.ofInt ot)] (n, z_q im, jM w, jL u) = some (Int32.ofInt (V_oars (w 46) a b bo ot), jM w, jL u) := by
  obtain ⟨f0, f1, f2, f3, f4, f5, f6, f7, f8, f9, f10, f11, f12⟩ := id hw
  unfold V_oars
  by_cases h : a_so (w 46) a b bo ot
  · obtain ⟨s1, s2, s3, s4, s5⟩ := id h
    have b1 := f10 bo s4.1 s4.2
    have b2 := f10 ot s5.1 s5.2
    rw [if_pos h]
    have hFb := fun x => F_oa_b (a := a) (b := b) b1 b2 x
    have hr := fun i => a_am_r (b := -1) (m := -1000000) hFb (by omega) (lo := 2) (by decide) (by decide) i
    obtain ⟨t, ht, wi, q, rfl, hag⟩ := z_for (o := z_F (e + 19)) (cd := cd_Model_oars) (P := fun i s => ∃ wi q, s = (20, [some (.ref 45), some (.int (Int32.ofInt a)), some (.int (Int32.ofInt b)), some (.int (Int32.ofInt bo)), some (.int (Int32.ofInt ot)), some (.int (Int32.ofInt (w 46 (10 + 2 * bo.toNat)))), some (.int (Int32.ofInt (a_am (F_oa (w 46) a b bo ot) 2 (-1) (-1000000) i).1)), some (.int (Int32.ofInt (a_am (F_oa (w 46) a b bo ot) 2 (-1) (-1000000) i).2)), some (.int (Int32.ofInt (2 + (i : Int)))), q], (n, z_q im, jM wi, jL u)) ∧ a_ag w wi 46 (fun j => j = 10 + 2 * bo.toNat)) 11 (s := (20, [some (.ref 45), some (.int (Int32.ofInt a)), some (.int (Int32.ofInt b)), some (.int (Int32.ofInt bo)), some (.int (Int32.ofInt ot)), some (.int (Int32.ofInt (w 46 (10 + 2 * bo.toNat)))), some (.int (Int32.ofInt (-1))), some (.int (Int32.ofInt (-1000000))), some (.int (Int32.ofInt 2)), none], (n, z_q im, jM w, jL u))) ⟨w, none, rfl, a_ag_rf _ _ _⟩ (fun i s hi hs => by
      obtain ⟨wi, q, rfl, hag⟩ := hs
      have hri := hr i
      have hFi := hFb (2 + (i : Int))
      refine ⟨(20, [some (.ref 45), some (.int (Int32.ofInt a)), some (.int (Int32.ofInt b)), some (.int (Int32.ofInt bo)), some (.int (Int32.ofInt ot)), some (.int (Int32.ofInt (w 46 (10 + 2 * bo.toNat)))), some (.int (Int32.ofInt (a_am (F_oa (w 46) a b bo ot) 2 (-1) (-1000000) (i + 1)).1)), some (.int (Int32.ofInt (a_am (F_oa (w 46) a b bo ot) 2 (-1) (-1000000) (i + 1)).2)), some (.int (Int32.ofInt (2 + (i : Int) + 1))), some (.int (Int32.ofInt (F_oa (w 46) a b bo ot (2 + (i : Int)))))], (n, z_q im, jM (z_u wi 46 (10 + 2 * bo.toNat) (2 + (i : Int))), jL u)), z_To_1 ((e_Model_oars_20 ..).trans ?_), _, _, by rw [Int.natCast_add, Int.add_assoc]; rfl, a_ag_u hag rfl _⟩
      have hc46 : z_u wi 46 (10 + 2 * bo.toNat) (2 + (i : Int)) 46 = a_up (w 46) (10 + 2 * bo.toNat + 0) (2 + (i : Int)) := by rw [zz1 hag, zu_row]; rfl
      have lo : ∀ j, j ≠ 10 + 2 * bo.toNat → a_up (w 46) (10 + 2 * bo.toNat + 0) (2 + (i : Int)) j = w 46 j := fun j hj => a_up_ne (by omega)
      have hgn : a_gn (a_up (w 46) (10 + 2 * bo.toNat + 0) (2 + (i : Int))) (a_T (a_up (w 46) (10 + 2 * bo.toNat + 0) (2 + (i : Int))) a) (a_T (a_up (w 46) (10 + 2 * bo.toNat + 0) (2 + (i : Int))) b) (a_sp (a_up (w 46) (10 + 2 * bo.toNat + 0) (2 + (i : Int))) bo ot) bo ot = F_oa (w 46) a b bo ot (2 + (i : Int)) := by
        have hsp : a_sp (a_up (w 46) (10 + 2 * bo.toNat + 0) (2 + (i : Int))) bo ot = a_mx ((2 + (i : Int)) + (if ot = bo then (2 + (i : Int)) else w 46 (10 + 2 * ot.toNat)) - w 46 0) := by
          unfold a_sp
          rw [lo 0 (by omega)]
          simp only [Nat.add_zero, a_up_eq]
          by_cases hob : ot = bo
          · rw [if_pos hob, hob, a_up_eq]
          · rw [if_neg hob, a_up_ne (by omega)]
        rw [hsp]
        exact a_gn_cg (lo _ (by omega)) (lo _ (by omega)) (lo _ (by omega)) (lo _ (by omega)) (lo _ (by omega)) (fun j hj => by unfold a_T; exact lo _ (by omega)) (fun j hj => by unfold a_T; exact lo _ (by omega))
      simp (disch := omega) only [ji_lt, ji_mul, ji_add, ji_lt0, ji_nat, jM_u]
      rw [if_neg (by omega), if_neg (by omega), show (10 + 2 * bo).toNat = 10 + 2 * bo.toNat by omega, s_gn_v hc46 (wf_bo hw s4.1 s4.2 (by decide) (by rw [if_pos rfl]; omega)) (by rw [lo _ (by omega)]; exact s1) (by rw [lo _ (by omega)]; exact s2) (by rw [lo _ (by omega)]; exact s4) (by rw [lo _ (by omega)]; exact s5), z_oI_s, hgn]
      simp (disch := omega) only [ji_lt, ji_add]
      simp only [a_am]
      by_cases hh : (a_am (F_oa (w 46) a b bo ot) 2 (-1) (-1000000) i).2 < F_oa (w 46) a b bo ot (2 + (i : Int))
      · rw [if_pos (by omega), if_pos hh]
      · rw [if_neg (by omega), if_neg hh])
    refine n_Model_oars (z_go ((e_Model_oars_0 ..).trans ?_) (ht _ (z_ret ((e_Model_oars_20 ..).trans ?_))))
    · simp (disch := omega) only [s_areSo, z_oI_s, ji_b]
      rw [if_neg (fun q => q h), s_oarsOf (by omega) (by omega), z_oI_s]
    · simp (disch := omega) only [ji_lt, ji_mul, ji_add, ji_lt0, ji_nat, jM_u]
      rw [if_pos (by decide), if_neg (by omega), show (10 + 2 * bo).toNat = 10 + 2 * bo.toNat by omega, zz1 hag, zu_self]
      exact z_lf (by rw [a_am_eq (b' := 2) (m' := -2000) (by have := hFb 2; omega) (by have := hFb 2; omega) 10])
  · refine n_Model_oars (z_ret ((e_Model_oars_0 ..).trans ?_))
    simp (disch := omega) only [s_areSo, z_oI_s, ji_b]
    rw [if_neg h, if_pos h]
