/-! changes: train, mend, rule, swap -/
def c_fr2 (w w' : Nat → Nat → Int) : Prop := ∀ c, c ∉ [3, 5, 7, 9] → w' c = w c
theorem c_fr2_rf (w : Nat → Nat → Int) : c_fr2 w w := fun _ _ => rfl
theorem c_fr2_u {w : Nat → Nat → Int} {c k : Nat} {x : Int} (h : c ∈ [3, 5, 7, 9]) : c_fr2 w (z_u w c k x) := fun d hd => z_u_ne (fun q => hd (q ▸ h))
theorem c_v_5 {w : Nat → Nat → Int} {v : Nat → Int} {k : Nat} {x : Int} (hv : c_v w v) (hk : k < 8) : c_v (z_u w 5 k x) (a_up v (10 + k) x) := by
  obtain ⟨g0, g1, g2, g3, g4, g5, g6, g7, g8, g9, h5, h7, h9⟩ := id hv
  unfold c_v
  have n3 : ∀ j, z_u w 5 k x 3 j = w 3 j := fun j => rfl
  have lo : ∀ i, i < 10 → a_up v (10 + k) x i = v i := fun i hi => a_up_ne (by omega)
  rw [n3, n3, n3, n3, n3, n3, n3, n3, n3, n3, lo 0 (by decide), lo 1 (by decide), lo 2 (by decide), lo 3 (by decide), lo 4 (by decide), lo 5 (by decide), lo 6 (by decide), lo 7 (by decide), lo 8 (by decide), lo 9 (by decide)]
  refine ⟨g0, g1, g2, g3, g4, g5, g6, g7, g8, g9, fun j hj => ?_, fun j hj => ?_, fun j hj => ?_⟩
  · rw [z_u_at]
    unfold a_up
    by_cases h : j = k
    · rw [if_pos h, if_pos (by omega)]
    · rw [if_neg h, if_neg (by omega)]; exact h5 j hj
  · rw [z_u_ne (by decide), a_up_ne (by omega)]; exact h7 j hj
  · rw [z_u_ne (by decide), a_up_ne (by omega)]; exact h9 j hj
theorem c_v_7 {w : Nat → Nat → Int} {v : Nat → Int} {k : Nat} {x : Int} (hv : c_v w v) (hk : k < 60) : c_v (z_u w 7 k x) (a_up v (18 + k) x) := by
  obtain ⟨g0, g1, g2, g3, g4, g5, g6, g7, g8, g9, h5, h7, h9⟩ := id hv
  unfold c_v
  have n3 : ∀ j, z_u w 7 k x 3 j = w 3 j := fun j => rfl
  have lo : ∀ i, i < 10 → a_up v (18 + k) x i = v i := fun i hi => a_up_ne (by omega)
  rw [n3, n3, n3, n3, n3, n3, n3, n3, n3, n3, lo 0 (by decide), lo 1 (by decide), lo 2 (by decide), lo 3 (by decide), lo 4 (by decide), lo 5 (by decide), lo 6 (by decide), lo 7 (by decide), lo 8 (by decide), lo 9 (by decide)]
  refine ⟨g0, g1, g2, g3, g4, g5, g6, g7, g8, g9, fun j hj => ?_, fun j hj => ?_, fun j hj => ?_⟩
  · rw [z_u_ne (by decide), a_up_ne (by omega)]; exact h5 j hj
  · rw [z_u_at]
    unfold a_up
    by_cases h : j = k
    · rw [if_pos h, if_pos (by omega)]
    · rw [if_neg h, if_neg (by omega)]; exact h7 j hj
  · rw [z_u_ne (by decide), a_up_ne (by omega)]; exact h9 j hj
theorem c_v_9 {w : Nat → Nat → Int} {v : Nat → Int} {k : Nat} {x : Int} (hv : c_v w v) (hk : k < 28) : c_v (z_u w 9 k x) (a_up v (78 + k) x) := by
  obtain ⟨g0, g1, g2, g3, g4, g5, g6, g7, g8, g9, h5, h7, h9⟩ := id hv
  unfold c_v
  have n3 : ∀ j, z_u w 9 k x 3 j = w 3 j := fun j => rfl
  have lo : ∀ i, i < 10 → a_up v (78 + k) x i = v i := fun i hi => a_up_ne (by omega)
  rw [n3, n3, n3, n3, n3, n3, n3, n3, n3, n3, lo 0 (by decide), lo 1 (by decide), lo 2 (by decide), lo 3 (by decide), lo 4 (by decide), lo 5 (by decide), lo 6 (by decide), lo 7 (by decide), lo 8 (by decide), lo 9 (by decide)]
  refine ⟨g0, g1, g2, g3, g4, g5, g6, g7, g8, g9, fun j hj => ?_, fun j hj => ?_, fun j hj => ?_⟩
  · rw [z_u_ne (by decide), a_up_ne (by omega)]; exact h5 j hj
  · rw [z_u_ne (by decide), a_up_ne (by omega)]; exact h7 j hj
  · rw [z_u_at]
    unfold a_up
    by_cases h : j = k
    · rw [if_pos h, if_pos (by omega)]
    · rw [if_neg h, if_neg (by omega)]; exact h9 j hj
theorem s_setTrait {e n : Nat} {im : Nat → Option Nat} {w u : Nat → Nat → Int} {a j x : Int} (h0 : 0 ≤ a) (h9 : a ≤ 9) (j0 : 0 ≤ j) (j5 : j ≤ 5) : (z_F (e + 2)).2.2.1 k_Harbour_setTrait [.ref 3, .int (Int32.ofInt a), .int (Int32.ofInt j), .int (Int32.ofInt x)] (n, z_q im, jM w, jL u) = some (jM (z_u w 7 (6 * a.toNat + j.toNat) x), jL u) := by
  refine q_Harbour_setTrait_3 ?_
  rw [ji_mul, ji_add, s_set_6 (by omega) (by omega), z_oV_s, show (a * 6 + j).toNat = 6 * a.toNat + j.toNat by omega]
theorem s_setGear {e n : Nat} {im : Nat → Option Nat} {w u : Nat → Nat → Int} {a j x : Int} (h0 : 0 ≤ a) (h9 : a ≤ 3) (j0 : 0 ≤ j) (j5 : j ≤ 1) : (z_F (e + 2)).2.2.1 k_Harbour_setGear [.ref 3, .int (Int32.ofInt a), .int (Int32.ofInt j), .int (Int32.ofInt x)] (n, z_q im, jM w, jL u) = some (jM (z_u w 5 (2 * a.toNat + j.toNat) x), jL u) := by
  refine q_Harbour_setGear_3 ?_
  rw [ji_mul, ji_add, s_set_4 (by omega) (by omega), z_oV_s, show (a * 2 + j).toNat = 2 * a.toNat + j.toNat by omega]
theorem s_setMate {e n : Nat} {im : Nat → Option Nat} {w u : Nat → Nat → Int} {a j x : Int} (h0 : 0 ≤ a) (h9 : a ≤ 3) (j0 : 0 ≤ j) (j5 : j ≤ 4) : (z_F (e + 2)).2.2.1 k_Harbour_setMate [.ref 3, .int (Int32.ofInt a), .int (Int32.ofInt j), .int (Int32.ofInt x)] (n, z_q im, jM w, jL u) = some (jM (z_u w 9 (7 * a.toNat + 2 + j.toNat) x), jL u) := by
  refine q_Harbour_setMate_3 ?_
  rw [ji_mul, ji_add, ji_add, s_set_8 (by omega) (by omega), z_oV_s, show (a * 7 + 2 + j).toNat = 7 * a.toNat + 2 + j.toNat by omega]
def a_lt (j : Int) : Int := if j = 0 then 40 else 0
def a_mt (j : Int) : Int := if j = 0 then 200 else if j = 1 then 30 else if j = 2 then 30 else if j = 3 then 9 else if j = 4 then 4 else 2
theorem a_lm_b (j : Int) : (0 ≤ a_lt j ∧ a_lt j ≤ 40) ∧ (2 ≤ a_mt j ∧ a_mt j ≤ 200) := by
  unfold a_lt a_mt
  (repeat' split) <;> omega
theorem s_leastTrait {e n : Nat} {im : Nat → Option Nat} {d : zD} {j : Int} (hj : jR j) : (z_F (e + 1)).1 k_Harbour_leastTrait [.int (Int32.ofInt j)] (n, z_q im, d) = some (Int32.ofInt (a_lt j), d) := by
  refine q_Harbour_leastTrait ?_
  unfold a_lt
  simp (disch := omega) only [ji_eq0]
  split <;> rfl
theorem s_mostTrait {e n : Nat} {im : Nat → Option Nat} {d : zD} {j : Int} (hj : jR j) : (z_F (e + 1)).1 k_Harbour_mostTrait [.int (Int32.ofInt j)] (n, z_q im, d) = some (Int32.ofInt (a_mt j), d) := by
  refine q_Harbour_mostTrait ?_
  unfold a_mt
  rw [ji_toInt hj]
  (repeat' split) <;> rfl
theorem s_traitFits {e n : Nat} {im : Nat → Option Nat} {d : zD} {j x : Int} (hj : jR j) (hx : jR x) : (z_F (e + 2)).1 k_Harbour_traitFits [.int (Int32.ofInt j), .int (Int32.ofInt x)] (n, z_q im, d) = some (Int32.ofInt (if a_lt j ≤ x ∧ x ≤ a_mt j then 1 else 0), d) := by
  have := a_lm_b j
  refine q_Harbour_traitFits ?_
  rw [s_leastTrait hj, z_oI_s, s_mostTrait hj, z_oI_s, s_within hx (by omega) (by omega), z_oI_s, if_pos (by rw [ji_bb]; trivial)]
abbrev a_tc (v : Nat → Int) (a j x : Int) : Prop := (0 ≤ a ∧ a < v 7) ∧ (0 ≤ j ∧ j ≤ 5) ∧ (a_lt j ≤ x ∧ x ≤ a_mt j)
def V_train (v : Nat → Int) (a j x : Int) : Int := if a_tc v a j x then v (18 + (6 * a.toNat + j.toNat)) else -2
def U_train (v : Nat → Int) (a j x : Int) : Nat → Int := if a_tc v a j x then a_up v (18 + (6 * a.toNat + j.toNat)) x else v
theorem wf_train {v : Nat → Int} (hw : a_wf v) (a j x : Int) : a_wf (U_train v a j x) := by
  unfold U_train
  by_cases h : a_tc v a j x
  · rw [if_pos h, ← Nat.add_assoc]
    obtain ⟨h1, h2, h3⟩ := h
    obtain ⟨f0, f1, f2, f3, f4, f5, f6, f7, f8, f9, f10, f11, f12⟩ := id hw
    refine wf_tr hw h1.1 h1.2 (by omega) ?_
    obtain ⟨t0, t1, t2, t3, t4, t5⟩ := f11 a h1.1 h1.2
    unfold a_lt a_mt at h3
    unfold a_tr a_s1
    have : j = 0 ∨ j = 1 ∨ j = 2 ∨ j = 3 ∨ j = 4 ∨ j = 5 := by omega
    rcases this with rfl | rfl | rfl | rfl | rfl | rfl <;> simp at h3 ⊢ <;> simp_all
  · rw [if_neg h]; exact hw
theorem x_train {e n : Nat} {im : Nat → Option Nat} {w u : Nat → Nat → Int} {v : Nat → Int} {a j x : Int} (hv : c_v w v) (hw : a_wf v) (ha : jR a) (hj : jR j) (hx : jR x) : ∃ w', (z_F (e + 20)).1 k_LongBoats_train [.ref 0, .int (Int32.ofInt a), .int (Int32.ofInt j), .int (Int32.ofInt x)] (n, z_q im, jM w, jL u) = some (Int32.ofInt (V_train v a j x), jM w', jL u) ∧ c_v w' (U_train v a j x) ∧ c_fr2 w w' := by
  obtain ⟨g0, g1, g2, g3, g4, g5, g6, g7, g8, g9, h5, h7, h9⟩ := id hv
  obtain ⟨f0, f1, f2, f3, f4, f5, f6, f7, f8, f9, f10, f11, f12⟩ := id hw
  unfold V_train U_train
  by_cases h : a_tc v a j x
  · rw [if_pos h, if_pos h]
    obtain ⟨h1, h2, h3⟩ := id h
    refine ⟨_, q_LongBoats_train ?_, c_v_7 (x := x) hv (k := 6 * a.toNat + j.toNat) (by omega), c_fr2_u (by decide)⟩
    rw [s_hasMan_3 ha (by omega), z_oI_s, g8, if_neg (by rw [ji_b]; omega), s_within hj (by decide) (by decide), z_oI_s, if_neg (by rw [ji_b]; omega), s_traitFits hj hx, z_oI_s, if_neg (by rw [ji_b]; omega), s_trait (by omega) (by omega) (by omega) (by omega), z_oI_s, s_setTrait (by omega) (by omega) (by omega) (by omega), z_oV_s, h7 _ (by omega)]
  · rw [if_neg h, if_neg h]
    refine ⟨w, q_LongBoats_train ?_, hv, c_fr2_rf w⟩
    rw [s_hasMan_3 ha (by omega), z_oI_s, g8]
    by_cases h1 : 0 ≤ a ∧ a < v 7
    · rw [if_neg (ji_b_n h1), s_within hj (by decide) (by decide), z_oI_s]
      by_cases h2 : 0 ≤ j ∧ j ≤ 5
      · rw [if_neg (ji_b_n h2), s_traitFits hj hx, z_oI_s, if_pos (ji_b_p (fun q => h ⟨h1, h2, q⟩))]
      · rw [if_pos (ji_b_p h2)]
    · rw [if_pos (ji_b_p h1)]
theorem s_isPart {e n : Nat} {im : Nat → Option Nat} {w u : Nat → Nat → Int} {j x : Int} (hj : jR j) (hx : jR x) : (z_F (e + 2)).1 k_Model_isPart [.int (Int32.ofInt j), .int (Int32.ofInt x)] (n, z_q im, jM w, jL u) = some (Int32.ofInt (if (0 ≤ j ∧ j ≤ 5) ∧ (a_lt j ≤ x ∧ x ≤ a_mt j) then 1 else 0), jM w, jL u) := by
  refine q_Model_isPart ?_
  by_cases j0 : j = 0
  · subst j0
    rw [if_pos (ji_eq0_p (by decide) rfl), jl_of hx, kl_20, kl_21, s_in (by omega) (by decide) (by decide), z_oI_s, if_pos ((ji_bb _).mpr trivial)]
    exact z_lf (by simp [a_lt, a_mt])
  rw [if_neg (ji_eq0_n hj j0)]
  by_cases j1 : j = 1
  · subst j1
    rw [if_pos rfl, jl_of hx, kl_0, kl_22, s_in (by omega) (by decide) (by decide), z_oI_s, if_pos ((ji_bb _).mpr trivial)]
    exact z_lf (by simp [a_lt, a_mt])
  rw [if_neg (ji_eq_n hj (by decide) j1)]
  by_cases j2 : j = 2
  · subst j2
    rw [if_pos rfl, jl_of hx, kl_0, kl_22, s_in (by omega) (by decide) (by decide), z_oI_s, if_pos ((ji_bb _).mpr trivial)]
    exact z_lf (by simp [a_lt, a_mt])
  rw [if_neg (ji_eq_n hj (by decide) j2)]
  by_cases j3 : j = 3
  · subst j3
    rw [if_pos rfl, jl_of hx, kl_0, kl_19, s_in (by omega) (by decide) (by decide), z_oI_s, if_pos ((ji_bb _).mpr trivial)]
    exact z_lf (by simp [a_lt, a_mt])
  rw [if_neg (ji_eq_n hj (by decide) j3)]
  by_cases j4 : j = 4
  · subst j4
    rw [if_pos rfl, jl_of hx, kl_0, kl_23, s_in (by omega) (by decide) (by decide), z_oI_s, if_pos ((ji_bb _).mpr trivial)]
    exact z_lf (by simp [a_lt, a_mt])
  rw [if_neg (ji_eq_n hj (by decide) j4)]
  by_cases j5 : j = 5
  · subst j5
    rw [if_pos rfl, jl_of hx, kl_0, kl_5, s_in (by omega) (by decide) (by decide), z_oI_s]
    by_cases h : 0 ≤ x ∧ x ≤ 2
    · rw [if_neg (ji_b_n h)]
      exact z_lf (by simp [a_lt, a_mt, h])
    · rw [if_pos (ji_b_p h)]
      exact z_lf (by rw [if_neg]; simp only [a_lt, a_mt]; omega)
  · rw [if_neg (ji_eq_n hj (by decide) j5), if_neg (by omega)]
theorem s_mseti {e n : Nat} {im : Nat → Option Nat} {w u : Nat → Nat → Int} {a j x : Int} (h0 : 0 ≤ a) (h9 : a ≤ 9) (j0 : 0 ≤ j) (j5 : j ≤ 5) : (z_F (e + 1)).2.2.1 k_Model_set [.ref 45, .int (Int32.ofInt a), .int (Int32.ofInt j), .int (Int32.ofInt x)] (n, z_q im, jM w, jL u) = some (jM (z_u w 46 (18 + (6 * a.toNat + j.toNat)) x), jL u) := by
  have h := s_mset (e := e) (n := n) (im := im) (w := w) (u := u) (a := a) (x := x) (j := j.toNat) h0 h9 (by omega)
  rw [show ((j.toNat : Nat) : Int) = j by omega, Nat.add_assoc] at h
  exact h
theorem m_train {e n : Nat} {im : Nat → Option Nat} {w u : Nat → Nat → Int} {a j x : Int} (hw : a_wf (w 46)) (ha : jR a) (hj : jR j) (hx : jR x) : ∃ w', (z_F (e + 20)).1 k_Model_train [.ref 45, .int (Int32.ofInt a), .int (Int32.ofInt j), .int (Int32.ofInt x)] (n, z_q im, jM w, jL u) = some (Int32.ofInt (V_train (w 46) a j x), jM w', jL u) ∧ w' 46 = U_train (w 46) a j x ∧ ∀ c, c ≠ 46 → w' c = w c := by
  obtain ⟨f0, f1, f2, f3, f4, f5, f6, f7, f8, f9, f10, f11, f12⟩ := id hw
  unfold V_train U_train
  by_cases h : a_tc (w 46) a j x
  · rw [if_pos h, if_pos h]
    obtain ⟨h1, h2, h3⟩ := id h
    refine ⟨_, q_Model_train ?_, zu_row w 46 _ x, fun c hc => z_u_ne hc⟩
    rw [jl_of ha, s_isMan (by omega) (by omega), z_oI_s, if_neg (by rw [ji_b]; omega), s_isPart hj hx, z_oI_s, if_neg (by rw [ji_b]; omega), s_of (by omega) (by omega) (by omega) (by omega), z_oI_s, s_mseti (by omega) (by omega) (by omega) (by omega), z_oV_s, Nat.add_assoc]
  · rw [if_neg h, if_neg h]
    refine ⟨w, q_Model_train ?_, rfl, fun c _ => rfl⟩
    rw [jl_of ha, s_isMan (by omega) (by omega), z_oI_s]
    by_cases h1 : 0 ≤ a ∧ a < w 46 7
    · rw [if_neg (ji_b_n h1), s_isPart hj hx, z_oI_s, if_pos (ji_b_p (fun q => h ⟨h1, q⟩))]
    · rw [if_pos (ji_b_p h1)]
abbrev a_mc (v : Nat → Int) (a j x : Int) : Prop := (0 ≤ a ∧ a < v 6) ∧ (0 ≤ j ∧ j ≤ 1) ∧ (if j = 0 then 2 ≤ x ∧ x ≤ 12 else 0 ≤ x ∧ x ≤ 4)
def V_mend (v : Nat → Int) (a j x : Int) : Int := if a_mc v a j x then v (10 + (2 * a.toNat + j.toNat)) else -2
def U_mend (v : Nat → Int) (a j x : Int) : Nat → Int := if a_mc v a j x then a_up v (10 + (2 * a.toNat + j.toNat)) x else v
theorem wf_mend {v : Nat → Int} (hw : a_wf v) (a j x : Int) : a_wf (U_mend v a j x) := by
  unfold U_mend
  by_cases h : a_mc v a j x
  · rw [if_pos h, ← Nat.add_assoc]
    obtain ⟨h1, h2, h3⟩ := h
    refine wf_bo hw h1.1 h1.2 (by omega) ?_
    have : j = 0 ∨ j = 1 := by omega
    rcases this with rfl | rfl <;> simpa using h3
  · rw [if_neg h]; exact hw
theorem s_gearFits {e n : Nat} {im : Nat → Option Nat} {d : zD} {j x : Int} (hj : jR j) (hx : jR x) : (z_F (e + 2)).1 k_Harbour_gearFits [.int (Int32.ofInt j), .int (Int32.ofInt x)] (n, z_q im, d) = some (Int32.ofInt (if (if j = 0 then 2 ≤ x ∧ x ≤ 12 else 0 ≤ x ∧ x ≤ 4) then 1 else 0), d) := by
  refine q_Harbour_gearFits ?_
  simp (disch := omega) only [s_within, z_oI_s, ji_bb, ji_eq0, if_true]
  by_cases h : j = 0
  · simp only [if_pos h]
  · simp only [if_neg h]
theorem x_mend {e n : Nat} {im : Nat → Option Nat} {w u : Nat → Nat → Int} {v : Nat → Int} {a j x : Int} (hv : c_v w v) (hw : a_wf v) (ha : jR a) (hj : jR j) (hx : jR x) : ∃ w', (z_F (e + 20)).1 k_LongBoats_mend [.ref 0, .int (Int32.ofInt a), .int (Int32.ofInt j), .int (Int32.ofInt x)] (n, z_q im, jM w, jL u) = some (Int32.ofInt (V_mend v a j x), jM w', jL u) ∧ c_v w' (U_mend v a j x) ∧ c_fr2 w w' := by
  obtain ⟨g0, g1, g2, g3, g4, g5, g6, g7, g8, g9, h5, h7, h9⟩ := id hv
  obtain ⟨f0, f1, f2, f3, f4, f5, f6, f7, f8, f9, f10, f11, f12⟩ := id hw
  unfold V_mend U_mend
  by_cases h : a_mc v a j x
  · rw [if_pos h, if_pos h]
    obtain ⟨h1, h2, h3⟩ := id h
    refine ⟨_, q_LongBoats_mend ?_, c_v_5 (x := x) hv (k := 2 * a.toNat + j.toNat) (by omega), c_fr2_u (by decide)⟩
    rw [s_hasBoat_3 ha (by omega), z_oI_s, g7, if_neg (by rw [ji_b]; omega), s_within hj (by decide) (by decide), z_oI_s, if_neg (by rw [ji_b]; omega), s_gearFits hj hx, z_oI_s, if_neg (by rw [ji_b]; exact not_not_intro h3), s_gear (by omega) (by omega) (by omega) (by omega), z_oI_s, s_setGear (by omega) (by omega) (by omega) (by omega), z_oV_s, h5 _ (by omega)]
  · rw [if_neg h, if_neg h]
    refine ⟨w, q_LongBoats_mend ?_, hv, c_fr2_rf w⟩
    rw [s_hasBoat_3 ha (by omega), z_oI_s, g7]
    by_cases h1 : 0 ≤ a ∧ a < v 6
    · rw [if_neg (ji_b_n h1), s_within hj (by decide) (by decide), z_oI_s]
      by_cases h2 : 0 ≤ j ∧ j ≤ 1
      · rw [if_neg (ji_b_n h2), s_gearFits hj hx, z_oI_s, if_pos (ji_b_p (fun q => h ⟨h1, h2, q⟩))]
      · rw [if_pos (ji_b_p h2)]
    · rw [if_pos (ji_b_p h1)]
theorem m_mend {e n : Nat} {im : Nat → Option Nat} {w u : Nat → Nat → Int} {a j x : Int} (hw : a_wf (w 46)) (ha : jR a) (hj : jR j) (hx : jR x) : ∃ w', (z_F (e + 20)).1 k_Model_mend [.ref 45, .int (Int32.ofInt a), .int (Int32.ofInt j), .int (Int32.ofInt x)] (n, z_q im, jM w, jL u) = some (Int32.ofInt (V_mend (w 46) a j x), jM w', jL u) ∧ w' 46 = U_mend (w 46) a j x ∧ ∀ c, c ≠ 46 → w' c = w c := by
  obtain ⟨f0, f1, f2, f3, f4, f5, f6, f7, f8, f9, f10, f11, f12⟩ := id hw
  unfold V_mend U_mend
  by_cases h1 : 0 ≤ a ∧ a < w 46 6
  · by_cases h2 : 0 ≤ j ∧ j ≤ 1
    · have hj2 : j = 0 ∨ j = 1 := by omega
      by_cases h3 : if j = 0 then 2 ≤ x ∧ x ≤ 12 else 0 ≤ x ∧ x ≤ 4
      · have h : a_mc (w 46) a j x := ⟨h1, h2, h3⟩
        rw [if_pos h, if_pos h]
        refine ⟨_, q_Model_mend ?_, zu_row w 46 _ x, fun c hc => z_u_ne hc⟩
        rw [s_isBoat ha f6, z_oI_s, if_neg (ji_b_n h1), jl_of hj, kl_0, kl_1, s_in (by omega) (by decide) (by decide), z_oI_s, if_neg (ji_b_n h2)]
        rcases hj2 with rfl | rfl
        · rw [if_pos rfl] at h3
          rw [if_pos (show Int32.ofInt 0 = 0 from rfl), if_pos (show Int32.ofInt 0 = 0 from rfl), jl_of hx, kl_5, kl_17, s_in (by omega) (by decide) (by decide), z_oI_s, if_neg (ji_b_n h3)]
          simp (disch := omega) only [ji_mul, ji_add, ji_lt0, ji_nat, jM_at, jM_u]
          rw [if_neg (by omega), if_neg (by omega), show (10 + 2 * a + 0).toNat = 10 + (2 * a.toNat + (0 : Int).toNat) by omega]
        · rw [if_neg (by decide)] at h3
          rw [if_neg (show ¬ Int32.ofInt 1 = 0 by decide), if_neg (show ¬ Int32.ofInt 1 = 0 by decide), jl_of hx, kl_23, s_in (by omega) (by decide) (by decide), z_oI_s, if_neg (ji_b_n h3)]
          simp (disch := omega) only [ji_mul, ji_add, ji_lt0, ji_nat, jM_at, jM_u]
          rw [if_neg (by omega), if_neg (by omega), show (10 + 2 * a + 1).toNat = 10 + (2 * a.toNat + (1 : Int).toNat) by omega]
      · have h : ¬ a_mc (w 46) a j x := fun q => h3 q.2.2
        rw [if_neg h, if_neg h]
        refine ⟨w, q_Model_mend ?_, rfl, fun c _ => rfl⟩
        rw [s_isBoat ha f6, z_oI_s, if_neg (ji_b_n h1), jl_of hj, kl_0, kl_1, s_in (by omega) (by decide) (by decide), z_oI_s, if_neg (ji_b_n h2)]
        rcases hj2 with rfl | rfl
        · rw [if_pos rfl] at h3
          rw [if_pos (show Int32.ofInt 0 = 0 from rfl), if_pos (show Int32.ofInt 0 = 0 from rfl), jl_of hx, kl_5, kl_17, s_in (by omega) (by decide) (by decide), z_oI_s, if_pos (ji_b_p h3)]
        · rw [if_neg (by decide)] at h3
          rw [if_neg (show ¬ Int32.ofInt 1 = 0 by decide), if_neg (show ¬ Int32.ofInt 1 = 0 by decide), jl_of hx, kl_23, s_in (by omega) (by decide) (by decide), z_oI_s, if_pos (ji_b_p h3)]
    · have h : ¬ a_mc (w 46) a j x := fun q => h2 q.2.1
      rw [if_neg h, if_neg h]
      refine ⟨w, q_Model_mend ?_, rfl, fun c _ => rfl⟩
      rw [s_isBoat ha f6, z_oI_s, if_neg (ji_b_n h1), jl_of hj, kl_0, kl_1, s_in (by omega) (by decide) (by decide), z_oI_s, if_pos (ji_b_p h2)]
  · have h : ¬ a_mc (w 46) a j x := fun q => h1 q.1
    rw [if_neg h, if_neg h]
    refine ⟨w, q_Model_mend ?_, rfl, fun c _ => rfl⟩
    rw [s_isBoat ha f6, z_oI_s, if_pos (ji_b_p h1)]
/-- rule: which of the world's numbers, its bounds -/
def a_rk (j : Int) : Nat := if j = 0 then 1 else if j = 1 then 0 else if j = 2 then 2 else 5
abbrev a_rc (v : Nat → Int) (j x : Int) : Prop := 0 < v 9 ∧ ((j = 0 ∧ 0 ≤ x ∧ x ≤ 12) ∨ (j = 1 ∧ 0 ≤ x ∧ x ≤ 9) ∨ (j = 2 ∧ 1 ≤ x ∧ x ≤ 7) ∨ (j = 3 ∧ 0 ≤ x ∧ x ≤ 50))
def V_rule (v : Nat → Int) (j x : Int) : Int := if a_rc v j x then v (a_rk j) else -2
def U_rule (v : Nat → Int) (j x : Int) : Nat → Int := if a_rc v j x then a_up v (a_rk j) x else v
theorem wf_rule {v : Nat → Int} (hw : a_wf v) (j x : Int) : a_wf (U_rule v j x) := by
  unfold U_rule
  by_cases h : a_rc v j x
  · rw [if_pos h]
    obtain ⟨f0, f1, f2, f3, f4, f5, f6, f7, f8, f9, f10, f11, f12⟩ := id hw
    have hk : (a_rk j = 0 ∧ 0 ≤ x ∧ x ≤ 9) ∨ (a_rk j = 1 ∧ 0 ≤ x ∧ x ≤ 12) ∨ (a_rk j = 2 ∧ 1 ≤ x ∧ x ≤ 7) ∨ (a_rk j = 5 ∧ 0 ≤ x ∧ x ≤ 50) := by
      rcases h.2 with ⟨rfl, hx⟩ | ⟨rfl, hx⟩ | ⟨rfl, hx⟩ | ⟨rfl, hx⟩ <;> simp [a_rk] <;> omega
    have hi : ∀ i, 6 ≤ i → a_up v (a_rk j) x i = v i := fun i hi => a_up_ne (by omega)
    unfold a_wf
    rw [hi 6 (by decide), hi 7 (by decide), hi 8 (by decide), hi 9 (by decide)]
    refine ⟨?_, ?_, ?_, ?_, ?_, ?_, f6, f7, f8, f9, fun c hc hc2 => ?_, fun c hc hc2 => ?_, fun t ht ht2 => ?_⟩
    · unfold a_up; split <;> omega
    · unfold a_up; split <;> omega
    · unfold a_up; split <;> omega
    · unfold a_up; split <;> omega
    · unfold a_up; split <;> omega
    · unfold a_up; split <;> omega
    · unfold a_bo
      rw [hi _ (by omega), hi _ (by omega)]
      exact f10 c hc hc2
    · exact a_tr_cg (fun i _ => by unfold a_T; exact hi _ (by omega)) (f11 c hc hc2)
    · have := f12 t ht ht2
      unfold a_te at this ⊢
      simp only [hi (78 + 7 * t.toNat) (by omega), hi (78 + 7 * t.toNat + 1) (by omega), hi 6 (by decide), hi 7 (by decide), fun i : Int => hi (78 + 7 * t.toNat + 2 + i.toNat) (by omega)]
      exact this
  · rw [if_neg h]; exact hw
theorem c_v_3 {w : Nat → Nat → Int} {v : Nat → Int} {k f : Nat} {x : Int} (hv : c_v w v) (hk : (f = 2 ∧ k = 1) ∨ (f = 1 ∧ k = 0) ∨ (f = 3 ∧ k = 2) ∨ (f = 6 ∧ k = 5)) : c_v (z_u w 3 f x) (a_up v k x) := by
  obtain ⟨g0, g1, g2, g3, g4, g5, g6, g7, g8, g9, h5, h7, h9⟩ := id hv
  have hi : ∀ i, 10 ≤ i → a_up v k x i = v i := fun i hi => a_up_ne (by omega)
  unfold c_v
  refine ⟨?_, ?_, ?_, ?_, ?_, ?_, ?_, ?_, ?_, ?_, fun j hj => ?_, fun j hj => ?_, fun j hj => ?_⟩
  · rw [z_u_at]; unfold a_up; rw [if_neg (by omega), if_neg (by omega)]; exact g0
  · rw [z_u_at]; unfold a_up; by_cases h : f = 1
    · rw [if_pos h.symm, if_pos (by omega)]
    · rw [if_neg (fun q => h q.symm), if_neg (by omega)]; exact g1
  · rw [z_u_at]; unfold a_up; by_cases h : f = 2
    · rw [if_pos h.symm, if_pos (by omega)]
    · rw [if_neg (fun q => h q.symm), if_neg (by omega)]; exact g2
  · rw [z_u_at]; unfold a_up; by_cases h : f = 3
    · rw [if_pos h.symm, if_pos (by omega)]
    · rw [if_neg (fun q => h q.symm), if_neg (by omega)]; exact g3
  · rw [z_u_at]; unfold a_up; rw [if_neg (by omega), if_neg (by omega)]; exact g4
  · rw [z_u_at]; unfold a_up; rw [if_neg (by omega), if_neg (by omega)]; exact g5
  · rw [z_u_at]; unfold a_up; by_cases h : f = 6
    · rw [if_pos h.symm, if_pos (by omega)]
    · rw [if_neg (fun q => h q.symm), if_neg (by omega)]; exact g6
  · rw [z_u_at]; unfold a_up; rw [if_neg (by omega), if_neg (by omega)]; exact g7
  · rw [z_u_at]; unfold a_up; rw [if_neg (by omega), if_neg (by omega)]; exact g8
  · rw [z_u_at]; unfold a_up; rw [if_neg (by omega), if_neg (by omega)]; exact g9
  · rw [z_u_ne (by decide), hi _ (by omega)]; exact h5 j hj
  · rw [z_u_ne (by decide), hi _ (by omega)]; exact h7 j hj
  · rw [z_u_ne (by decide), hi _ (by omega)]; exact h9 j hj
theorem x_rule {e n : Nat} {im : Nat → Option Nat} {w u : Nat → Nat → Int} {v : Nat → Int} {j x : Int} (hv : c_v w v) (hw : a_wf v) (hj : jR j) (hx : jR x) : ∃ w', (z_F (e + 20)).1 k_LongBoats_rule [.ref 0, .int (Int32.ofInt j), .int (Int32.ofInt x)] (n, z_q im, jM w, jL u) = some (Int32.ofInt (V_rule v j x), jM w', jL u) ∧ c_v w' (U_rule v j x) ∧ c_fr2 w w' := by
  obtain ⟨g0, g1, g2, g3, g4, g5, g6, g7, g8, g9, h5, h7, h9⟩ := id hv
  obtain ⟨f0, f1, f2, f3, f4, f5, f6, f7, f8, f9, f10, f11, f12⟩ := id hw
  unfold V_rule U_rule
  by_cases h : a_rc v j x
  · rw [if_pos h, if_pos h]
    obtain ⟨h1, h2⟩ := id h
    have hz : ¬ ((jM w, jL u) : zD).1 3 0 = 0 := by
      show ¬ Int32.ofInt (w 3 0) = 0
      rw [g0]
      exact ji_eq0_n (by omega) (by omega)
    rcases h2 with ⟨rfl, hx1⟩ | ⟨rfl, hx1⟩ | ⟨rfl, hx1⟩ | ⟨rfl, hx1⟩
    · refine ⟨z_u w 3 2 x, q_LongBoats_rule ?_, c_v_3 (k := 1) hv (by omega), c_fr2_u (by decide)⟩
      rw [if_neg hz, if_pos (show Int32.ofInt 0 = 0 from rfl), s_within hx (by decide) (by decide), z_oI_s, if_neg (ji_b_n hx1)]
      simp only [jM_at, jM_u, g2]
      rfl
    · refine ⟨z_u w 3 1 x, q_LongBoats_rule ?_, c_v_3 (k := 0) hv (by omega), c_fr2_u (by decide)⟩
      rw [if_neg hz, if_neg (show ¬ Int32.ofInt 1 = 0 by decide), if_pos rfl, s_within hx (by decide) (by decide), z_oI_s, if_neg (ji_b_n hx1)]
      simp only [jM_at, jM_u, g1]
      rfl
    · refine ⟨z_u w 3 3 x, q_LongBoats_rule ?_, c_v_3 (k := 2) hv (by omega), c_fr2_u (by decide)⟩
      rw [if_neg hz, if_neg (show ¬ Int32.ofInt 2 = 0 by decide), if_neg (show ¬ Int32.ofInt 2 = Int32.ofInt 1 by decide), if_pos rfl, s_within hx (by decide) (by decide), z_oI_s, if_neg (ji_b_n hx1)]
      simp only [jM_at, jM_u, g3]
      rfl
    · refine ⟨z_u w 3 6 x, q_LongBoats_rule ?_, c_v_3 (k := 5) hv (by omega), c_fr2_u (by decide)⟩
      rw [if_neg hz, if_neg (show ¬ Int32.ofInt 3 = 0 by decide), if_neg (show ¬ Int32.ofInt 3 = Int32.ofInt 1 by decide), if_neg (show ¬ Int32.ofInt 3 = Int32.ofInt 2 by decide), if_pos rfl, s_within hx (by decide) (by decide), z_oI_s, if_neg (ji_b_n hx1)]
      simp only [jM_at, jM_u, g6]
      rfl
  · rw [if_neg h, if_neg h]
    refine ⟨w, q_LongBoats_rule ?_, hv, c_fr2_rf w⟩
    by_cases h0 : v 9 = 0
    · have hz : ((jM w, jL u) : zD).1 3 0 = 0 := by
        show Int32.ofInt (w 3 0) = 0
        rw [g0, h0]
        rfl
      rw [if_pos hz]
    · have h1 : 0 < v 9 := by omega
      have hz : ¬ ((jM w, jL u) : zD).1 3 0 = 0 := by
        show ¬ Int32.ofInt (w 3 0) = 0
        rw [g0]
        exact ji_eq0_n (by omega) h0
      rw [if_neg hz]
      by_cases j0 : j = 0
      · subst j0
        rw [if_pos (show Int32.ofInt 0 = 0 from rfl), s_within hx (by decide) (by decide), z_oI_s, if_pos (ji_b_p (fun q => h ⟨h1, by omega⟩)), if_neg (show ¬ Int32.ofInt 0 = Int32.ofInt 1 by decide), if_neg (show ¬ Int32.ofInt 0 = Int32.ofInt 2 by decide), if_neg (show ¬ Int32.ofInt 0 = Int32.ofInt 3 by decide)]
      rw [if_neg (ji_eq0_n hj j0)]
      by_cases j1 : j = 1
      · subst j1
        rw [if_pos rfl, s_within hx (by decide) (by decide), z_oI_s, if_pos (ji_b_p (fun q => h ⟨h1, by omega⟩)), if_neg (show ¬ Int32.ofInt 1 = Int32.ofInt 2 by decide), if_neg (show ¬ Int32.ofInt 1 = Int32.ofInt 3 by decide)]
      rw [if_neg (ji_eq_n hj (by decide) j1)]
      by_cases j2 : j = 2
      · subst j2
        rw [if_pos rfl, s_within hx (by decide) (by decide), z_oI_s, if_pos (ji_b_p (fun q => h ⟨h1, by omega⟩)), if_neg (show ¬ Int32.ofInt 2 = Int32.ofInt 3 by decide)]
      rw [if_neg (ji_eq_n hj (by decide) j2)]
      by_cases j3 : j = 3
      · subst j3
        rw [if_pos rfl, s_within hx (by decide) (by decide), z_oI_s, if_pos (ji_b_p (fun q => h ⟨h1, by omega⟩))]
      rw [if_neg (ji_eq_n hj (by decide) j3)]
theorem s_isHarbour {e n : Nat} {im : Nat → Option Nat} {w u : Nat → Nat → Int} (h : 0 ≤ w 46 9 ∧ w 46 9 ≤ 1200) : (z_F (e + 1)).1 k_Model_isHarbour [.ref 45] (n, z_q im, jM w, jL u) = some (Int32.ofInt (if 0 < w 46 9 then 1 else 0), jM w, jL u) := by
  refine q_Model_isHarbour ?_
  simp (disch := omega) only [jM_at, ji_le0]
  (repeat' split) <;> first | rfl | (exfalso; omega)
theorem m_rule {e n : Nat} {im : Nat → Option Nat} {w u : Nat → Nat → Int} {j x : Int} (hw : a_wf (w 46)) (hj : jR j) (hx : jR x) : ∃ w', (z_F (e + 20)).1 k_Model_rule [.ref 45, .int (Int32.ofInt j), .int (Int32.ofInt x)] (n, z_q im, jM w, jL u) = some (Int32.ofInt (V_rule (w 46) j x), jM w', jL u) ∧ w' 46 = U_rule (w 46) j x ∧ ∀ c, c ≠ 46 → w' c = w c := by
  obtain ⟨f0, f1, f2, f3, f4, f5, f6, f7, f8, f9, f10, f11, f12⟩ := id hw
  unfold V_rule U_rule
  by_cases h : a_rc (w 46) j x
  · rw [if_pos h, if_pos h]
    obtain ⟨h1, h2⟩ := id h
    refine ⟨z_u w 46 (a_rk j) x, q_Model_rule ?_, zu_row w 46 _ x, fun c hc => z_u_ne hc⟩
    rcases h2 with ⟨rfl, hx1⟩ | ⟨rfl, hx1⟩ | ⟨rfl, hx1⟩ | ⟨rfl, hx1⟩
    · rw [if_pos (show Int32.ofInt 0 = 0 from rfl), jl_of hx, kl_0, kl_17, s_in (by omega) (by decide) (by decide), z_oI_s, s_isHarbour f9, z_oI_s, if_neg (ji_b_n h1), if_neg (ji_b_n hx1), if_pos (show Int32.ofInt 0 = 0 from rfl)]
      simp only [jM_at, jM_u]
      rfl
    · rw [if_neg (show ¬ Int32.ofInt 1 = 0 by decide), if_pos rfl, jl_of hx, kl_0, kl_19, s_in (by omega) (by decide) (by decide), z_oI_s, s_isHarbour f9, z_oI_s, if_neg (ji_b_n h1), if_neg (ji_b_n hx1), if_neg (show ¬ Int32.ofInt 1 = 0 by decide), if_pos rfl]
      simp only [jM_at, jM_u]
      rfl
    · rw [if_neg (show ¬ Int32.ofInt 2 = 0 by decide), if_neg (show ¬ Int32.ofInt 2 = Int32.ofInt 1 by decide), if_pos rfl, jl_of hx, kl_1, kl_24, s_in (by omega) (by decide) (by decide), z_oI_s, s_isHarbour f9, z_oI_s, if_neg (ji_b_n h1), if_neg (ji_b_n hx1), if_neg (show ¬ Int32.ofInt 2 = 0 by decide), if_neg (show ¬ Int32.ofInt 2 = Int32.ofInt 1 by decide), if_pos rfl]
      simp only [jM_at, jM_u]
      rfl
    · rw [if_neg (show ¬ Int32.ofInt 3 = 0 by decide), if_neg (show ¬ Int32.ofInt 3 = Int32.ofInt 1 by decide), if_neg (show ¬ Int32.ofInt 3 = Int32.ofInt 2 by decide), if_pos rfl, jl_of hx, kl_0, kl_25, s_in (by omega) (by decide) (by decide), z_oI_s, if_neg (ji_b_n hx1), s_isHarbour f9, z_oI_s, if_neg (ji_b_n h1), if_neg (show ¬ Int32.ofInt 1 = 0 by decide), if_neg (show ¬ Int32.ofInt 3 = 0 by decide), if_neg (show ¬ Int32.ofInt 3 = Int32.ofInt 1 by decide), if_neg (show ¬ Int32.ofInt 3 = Int32.ofInt 2 by decide)]
      simp only [jM_at, jM_u]
      rfl
  · rw [if_neg h, if_neg h]
    refine ⟨w, q_Model_rule ?_, rfl, fun c _ => rfl⟩
    by_cases h1 : 0 < w 46 9
    · by_cases j0 : j = 0
      · subst j0
        rw [if_pos (show Int32.ofInt 0 = 0 from rfl), jl_of hx, kl_0, kl_17, s_in (by omega) (by decide) (by decide), z_oI_s, s_isHarbour f9, z_oI_s, if_neg (ji_b_n h1), if_pos (ji_b_p (fun q => h ⟨h1, by omega⟩))]
      rw [if_neg (ji_eq0_n hj j0)]
      by_cases j1 : j = 1
      · subst j1
        rw [if_pos rfl, jl_of hx, kl_0, kl_19, s_in (by omega) (by decide) (by decide), z_oI_s, s_isHarbour f9, z_oI_s, if_neg (ji_b_n h1), if_pos (ji_b_p (fun q => h ⟨h1, by omega⟩))]
      rw [if_neg (ji_eq_n hj (by decide) j1)]
      by_cases j2 : j = 2
      · subst j2
        rw [if_pos rfl, jl_of hx, kl_1, kl_24, s_in (by omega) (by decide) (by decide), z_oI_s, s_isHarbour f9, z_oI_s, if_neg (ji_b_n h1), if_pos (ji_b_p (fun q => h ⟨h1, by omega⟩))]
      rw [if_neg (ji_eq_n hj (by decide) j2)]
      by_cases j3 : j = 3
      · subst j3
        rw [if_pos rfl, jl_of hx, kl_0, kl_25, s_in (by omega) (by decide) (by decide), z_oI_s, if_pos (ji_b_p (fun q => h ⟨h1, by omega⟩)), s_isHarbour f9, z_oI_s, if_neg (ji_b_n h1), if_pos (show Int32.ofInt 0 = 0 from rfl)]
      rw [if_neg (ji_eq_n hj (by decide) j3), s_isHarbour f9, z_oI_s, if_neg (ji_b_n h1), if_pos (show Int32.ofInt 0 = 0 from rfl)]
    · by_cases j0 : j = 0
      · subst j0
        rw [if_pos (show Int32.ofInt 0 = 0 from rfl), jl_of hx, kl_0, kl_17, s_in (by omega) (by decide) (by decide), z_oI_s, s_isHarbour f9, z_oI_s, if_pos (ji_b_p h1)]
      rw [if_neg (ji_eq0_n hj j0)]
      by_cases j1 : j = 1
      · subst j1
        rw [if_pos rfl, jl_of hx, kl_0, kl_19, s_in (by omega) (by decide) (by decide), z_oI_s, s_isHarbour f9, z_oI_s, if_pos (ji_b_p h1)]
      rw [if_neg (ji_eq_n hj (by decide) j1)]
      by_cases j2 : j = 2
      · subst j2
        rw [if_pos rfl, jl_of hx, kl_1, kl_24, s_in (by omega) (by decide) (by decide), z_oI_s, s_isHarbour f9, z_oI_s, if_pos (ji_b_p h1)]
      rw [if_neg (ji_eq_n hj (by decide) j2)]
      by_cases j3 : j = 3
      · subst j3
        rw [if_pos rfl, jl_of hx, kl_0, kl_25, s_in (by omega) (by decide) (by decide), z_oI_s]
        by_cases hx1 : 0 ≤ x ∧ x ≤ 50
        · rw [if_neg (ji_b_n hx1), s_isHarbour f9, z_oI_s, if_pos (ji_b_p h1)]
        · rw [if_pos (ji_b_p hx1), s_isHarbour f9, z_oI_s, if_pos (ji_b_p h1)]
      rw [if_neg (ji_eq_n hj (by decide) j3), s_isHarbour f9, z_oI_s, if_pos (ji_b_p h1)]
