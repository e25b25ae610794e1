/-! public calls: man, boat, team, force, wave, calm -/
theorem s_trait {e n : Nat} {im : Nat → Option Nat} {w u : Nat → Nat → Int} {a j : Int} (h0 : 0 ≤ a) (h9 : a ≤ 9) (j0 : 0 ≤ j) (j5 : j ≤ 5) : (z_F (e + 2)).1 k_Harbour_trait [.ref 3, .int (Int32.ofInt a), .int (Int32.ofInt j)] (n, z_q im, jM w, jL u) = some (Int32.ofInt (w 7 (6 * a.toNat + j.toNat)), jM w, jL u) := by
  refine q_Harbour_trait_3 ?_
  rw [ji_mul, ji_add, s_at_6 (by omega), z_oI_s, if_pos (by omega)]
  exact z_lf (by congr 1 <;> omega)
theorem s_gear {e n : Nat} {im : Nat → Option Nat} {w u : Nat → Nat → Int} {a j : Int} (h0 : 0 ≤ a) (h9 : a ≤ 3) (j0 : 0 ≤ j) (j5 : j ≤ 1) : (z_F (e + 2)).1 k_Harbour_gear [.ref 3, .int (Int32.ofInt a), .int (Int32.ofInt j)] (n, z_q im, jM w, jL u) = some (Int32.ofInt (w 5 (2 * a.toNat + j.toNat)), jM w, jL u) := by
  refine q_Harbour_gear_3 ?_
  rw [ji_mul, ji_add, s_at_4 (by omega), z_oI_s, if_pos (by omega)]
  exact z_lf (by congr 1 <;> omega)
theorem s_of {e n : Nat} {im : Nat → Option Nat} {w u : Nat → Nat → Int} {a j : Int} (h0 : 0 ≤ a) (h9 : a ≤ 9) (j0 : 0 ≤ j) (j5 : j ≤ 5) : (z_F (e + 1)).1 k_Model_of [.ref 45, .int (Int32.ofInt a), .int (Int32.ofInt j)] (n, z_q im, jM w, jL u) = some (Int32.ofInt (w 46 (18 + 6 * a.toNat + j.toNat)), jM w, jL u) := by
  refine q_Model_of ?_
  simp (disch := omega) only [ji_mul, ji_add, ji_lt0, ji_nat, jM_at]
  rw [if_neg (by omega)]
  exact z_lf (by congr 1 <;> omega)
def V_man (v : Nat → Int) (a j : Int) : Int := if (0 ≤ a ∧ a < v 7) ∧ (0 ≤ j ∧ j ≤ 5) then v (18 + 6 * a.toNat + j.toNat) else -2
theorem x_man {e n : Nat} {im : Nat → Option Nat} {w u : Nat → Nat → Int} {v : Nat → Int} {a j : Int} (hv : c_v w v) (hw : a_wf v) (ha : jR a) (hj : jR j) : (z_F (e + 20)).1 k_LongBoats_man [.ref 0, .int (Int32.ofInt a), .int (Int32.ofInt j)] (n, z_q im, jM w, jL u) = some (Int32.ofInt (V_man v a j), jM w, jL u) := by
  obtain ⟨g0, g1, g2, g3, g4, g5, g6, g7, g8, g9, h5, h7, h9⟩ := id hv
  obtain ⟨f0, f1, f2, f3, f4, f5, f6, f7, f8, f9, f10, f11, f12⟩ := id hw
  unfold V_man
  refine q_LongBoats_man ?_
  simp (disch := omega) only [s_hasMan_3, s_within, z_oI_s, ji_b, g8]
  repeat' (split <;> try simp (disch := omega) only [s_trait, z_oI_s])
  all_goals first | rfl | (exfalso; omega) | exact z_lf (by first | omega | (exact (h7 _ (by omega)).trans (by congr 1 <;> omega)) | (exact (h5 _ (by omega)).trans (by congr 1 <;> omega)) | (exact (h9 _ (by omega)).trans (by congr 1 <;> omega)))
theorem m_man {e n : Nat} {im : Nat → Option Nat} {w u : Nat → Nat → Int} {a j : Int} (hw : a_wf (w 46)) (ha : jR a) (hj : jR j) : (z_F (e + 20)).1 k_Model_man [.ref 45, .int (Int32.ofInt a), .int (Int32.ofInt j)] (n, z_q im, jM w, jL u) = some (Int32.ofInt (V_man (w 46) a j), jM w, jL u) := by
  obtain ⟨f0, f1, f2, f3, f4, f5, f6, f7, f8, f9, f10, f11, f12⟩ := id hw
  unfold V_man
  refine q_Model_man ?_
  simp (disch := omega) only [jl_of, kl_0, kl_10, s_isMan, s_in, z_oI_s, ji_b]
  repeat' (split <;> try simp (disch := omega) only [s_of, z_oI_s])
  all_goals first | rfl | (exfalso; omega) | exact z_lf (by first | rfl | omega | (congr 1 <;> omega))
def V_boat (v : Nat → Int) (a j : Int) : Int := if (0 ≤ a ∧ a < v 6) ∧ (0 ≤ j ∧ j ≤ 1) then v (10 + 2 * a.toNat + j.toNat) else -2
theorem x_boat {e n : Nat} {im : Nat → Option Nat} {w u : Nat → Nat → Int} {v : Nat → Int} {a j : Int} (hv : c_v w v) (hw : a_wf v) (ha : jR a) (hj : jR j) : (z_F (e + 20)).1 k_LongBoats_boat [.ref 0, .int (Int32.ofInt a), .int (Int32.ofInt j)] (n, z_q im, jM w, jL u) = some (Int32.ofInt (V_boat v a j), jM w, jL u) := by
  obtain ⟨g0, g1, g2, g3, g4, g5, g6, g7, g8, g9, h5, h7, h9⟩ := id hv
  obtain ⟨f0, f1, f2, f3, f4, f5, f6, f7, f8, f9, f10, f11, f12⟩ := id hw
  unfold V_boat
  refine q_LongBoats_boat ?_
  simp (disch := omega) only [s_hasBoat_3, s_within, z_oI_s, ji_b, g7]
  repeat' (split <;> try simp (disch := omega) only [s_gear, z_oI_s])
  all_goals first | rfl | (exfalso; omega) | exact z_lf (by first | omega | (exact (h7 _ (by omega)).trans (by congr 1 <;> omega)) | (exact (h5 _ (by omega)).trans (by congr 1 <;> omega)) | (exact (h9 _ (by omega)).trans (by congr 1 <;> omega)))
theorem m_boat {e n : Nat} {im : Nat → Option Nat} {w u : Nat → Nat → Int} {a j : Int} (hw : a_wf (w 46)) (ha : jR a) (hj : jR j) : (z_F (e + 20)).1 k_Model_boat [.ref 45, .int (Int32.ofInt a), .int (Int32.ofInt j)] (n, z_q im, jM w, jL u) = some (Int32.ofInt (V_boat (w 46) a j), jM w, jL u) := by
  obtain ⟨f0, f1, f2, f3, f4, f5, f6, f7, f8, f9, f10, f11, f12⟩ := id hw
  unfold V_boat
  refine q_Model_boat ?_
  simp (disch := omega) only [jl_of, kl_0, kl_1, s_isBoat, s_in, z_oI_s, ji_b]
  repeat' (split <;> try simp (disch := omega) only [ji_mul, ji_add, ji_lt0, ji_nat, jM_at] at *)
  all_goals first | rfl | (exfalso; omega) | exact z_lf (by first | rfl | omega | (congr 1 <;> omega))
def V_team (v : Nat → Int) (a j : Int) : Int := if 0 ≤ a ∧ a < v 8 then (if j = -1 then v (78 + 7 * a.toNat) else if j = -2 then v (78 + 7 * a.toNat + 1) else if 0 ≤ j ∧ j < v (78 + 7 * a.toNat + 1) then v (78 + 7 * a.toNat + 2 + j.toNat) else -1) else -2
theorem x_team {e n : Nat} {im : Nat → Option Nat} {w u : Nat → Nat → Int} {v : Nat → Int} {a j : Int} (hv : c_v w v) (hw : a_wf v) (ha : jR a) (hj : jR j) : (z_F (e + 20)).1 k_LongBoats_team [.ref 0, .int (Int32.ofInt a), .int (Int32.ofInt j)] (n, z_q im, jM w, jL u) = some (Int32.ofInt (V_team v a j), jM w, jL u) := by
  obtain ⟨g0, g1, g2, g3, g4, g5, g6, g7, g8, g9, h5, h7, h9⟩ := id hv
  obtain ⟨f0, f1, f2, f3, f4, f5, f6, f7, f8, f9, f10, f11, f12⟩ := id hw
  unfold V_team
  refine q_LongBoats_team ?_
  simp (disch := omega) only [s_hasTeam_3, z_oI_s, ji_b, g9, ji_eq]
  by_cases ht : 0 ≤ a ∧ a < v 8
  · obtain ⟨-, t2, -⟩ := f12 a ht.1 ht.2
    have e1 : w 9 (7 * a.toNat + 1) = v (78 + 7 * a.toNat + 1) := by rw [h9 _ (by omega)]; congr 1 <;> omega
    simp (disch := omega) only [if_pos ht, if_neg (not_not_intro ht), s_boatOf_3, s_sizeOf_3, s_within, z_oI_s, ji_b, ji_sub, e1]
    repeat' (split <;> try simp (disch := omega) only [s_mate_3, z_oI_s])
    all_goals first | rfl | (exfalso; omega) | exact z_lf (by first | omega | (exact (h7 _ (by omega)).trans (by congr 1 <;> omega)) | (exact (h5 _ (by omega)).trans (by congr 1 <;> omega)) | (exact (h9 _ (by omega)).trans (by congr 1 <;> omega)))
  · rw [if_pos ht, if_neg ht]
theorem m_team {e n : Nat} {im : Nat → Option Nat} {w u : Nat → Nat → Int} {a j : Int} (hw : a_wf (w 46)) (ha : jR a) (hj : jR j) : (z_F (e + 20)).1 k_Model_team [.ref 45, .int (Int32.ofInt a), .int (Int32.ofInt j)] (n, z_q im, jM w, jL u) = some (Int32.ofInt (V_team (w 46) a j), jM w, jL u) := by
  obtain ⟨f0, f1, f2, f3, f4, f5, f6, f7, f8, f9, f10, f11, f12⟩ := id hw
  unfold V_team
  refine q_Model_team ?_
  simp (disch := omega) only [s_isTeam, z_oI_s, ji_b, ji_eq]
  by_cases ht : 0 ≤ a ∧ a < w 46 8
  · obtain ⟨-, t2, -⟩ := f12 a ht.1 ht.2
    simp (disch := omega) only [if_pos ht, if_neg (not_not_intro ht), s_boatOf, s_manyOf, jl_of, kl_0, s_in, z_oI_s, ji_b, ji_sub]
    repeat' (split <;> try simp (disch := omega) only [s_memberOf, z_oI_s])
    all_goals first | rfl | (exfalso; omega) | exact z_lf (by first | rfl | omega | (congr 1 <;> omega))
  · rw [if_pos ht, if_neg ht]
/-- a duel placed, no men yet -/
theorem pl_D {w : Nat → Nat → Int} {v : Nat → Int} {bo ot : Int} (hv : c_v w v) (hw : a_wf v) (s4 : 0 ≤ bo ∧ bo < v 6) (s5 : 0 ≤ ot ∧ ot < v 6) : c_pl w bo ot 25 9 = a_sp v bo ot ∧ c_pl w bo ot 25 5 = v (10 + 2 * bo.toNat + 1) ∧ c_pl w bo ot 25 6 = v (10 + 2 * ot.toNat + 1) ∧ c_pl w bo ot 25 7 = v 3 ∧ c_pl w bo ot 25 8 = v 4 ∧ c_pl w bo ot 25 10 = v 1 ∧ c_pl w bo ot 25 11 = v 2 ∧ c_pl w bo ot 25 4 = 0 ∧ c_v (c_pl w bo ot) v := by
  obtain ⟨f0, f1, f2, f3, f4, f5, f6, f7, f8, f9, f10, f11, f12⟩ := id hw
  have hs := c_sw_eq (b := bo) (o := ot) hv s4.1 (by omega) s5.1 (by omega)
  obtain ⟨g0, g1, g2, g3, g4, g5, g6, g7, g8, g9, h5, h7, h9⟩ := id hv
  unfold c_pl
  simp only [z_u_at]
  refine ⟨hs, ?_, ?_, g4, g5, g2, g3, by simp, ?_⟩
  · simp; rw [h5 _ (by omega)]; congr 1 <;> omega
  · simp; rw [h5 _ (by omega)]; congr 1 <;> omega
  · have this : ∀ c, c ≠ 25 → c_pl w bo ot c = w c := fun c hc => c_pl_ne hc
    unfold c_v
    unfold c_pl at this
    rw [this 3 (by decide), this 5 (by decide), this 7 (by decide), this 9 (by decide)]
    exact hv
theorem x_place {e n : Nat} {im : Nat → Option Nat} {w u : Nat → Nat → Int} {v : Nat → Int} {bo ot : Int} (hv : c_v w v) (hw : a_wf v) (s4 : 0 ≤ bo ∧ bo < v 6) (s5 : 0 ≤ ot ∧ ot < v 6) : (z_F (e + 4)).2.2.1 k_Duel_place [.ref 25, .ref 3, .int (Int32.ofInt bo), .int (Int32.ofInt ot)] (n, z_q im, jM w, jL u) = some (jM (c_pl w bo ot), jL u) := by
  obtain ⟨f0, f1, f2, f3, f4, f5, f6, f7, f8, f9, f10, f11, f12⟩ := id hw
  obtain ⟨n1, n2, n3, n4, n5, n6⟩ := c_ok_of hv hw
  obtain ⟨g0, g1, g2, g3, g4, g5, g6, g7, g8, g9, h5, h7, h9⟩ := id hv
  have b1 := (n5 bo s4.1 (by omega)).1
  have o1 := (n5 ot s5.1 (by omega)).1
  exact s_place (by omega) (by omega) (by omega) (by omega) (by omega) (by omega) n4
theorem pl_fr {w : Nat → Nat → Int} {bo ot : Int} : c_fr w (c_pl w bo ot) := fun c hc => c_pl_ne (fun q => by subst q; simp at hc)
def V_force (v : Nat → Int) (a bo ot p : Int) : Int := if (0 ≤ a ∧ a < v 7) ∧ ((0 ≤ bo ∧ bo < v 6) ∧ (0 ≤ ot ∧ ot < v 6)) ∧ (0 ≤ p ∧ p ≤ 99) then a_fo (a_T v a) (a_sp v bo ot) p else -2
theorem x_force {e n : Nat} {im : Nat → Option Nat} {w u : Nat → Nat → Int} {v : Nat → Int} {a bo ot p : Int} (hv : c_v w v) (hw : a_wf v) (ha : jR a) (hbo : jR bo) (hot : jR ot) (hp : jR p) : ∃ w', (z_F (e + 20)).1 k_LongBoats_force [.ref 0, .int (Int32.ofInt a), .int (Int32.ofInt bo), .int (Int32.ofInt ot), .int (Int32.ofInt p)] (n, z_q im, jM w, jL u) = some (Int32.ofInt (V_force v a bo ot p), jM w', jL u) ∧ c_fr w w' := by
  obtain ⟨g0, g1, g2, g3, g4, g5, g6, g7, g8, g9, h5, h7, h9⟩ := id hv
  obtain ⟨f0, f1, f2, f3, f4, f5, f6, f7, f8, f9, f10, f11, f12⟩ := id hw
  unfold V_force
  by_cases h : (0 ≤ a ∧ a < v 7) ∧ ((0 ≤ bo ∧ bo < v 6) ∧ (0 ≤ ot ∧ ot < v 6)) ∧ (0 ≤ p ∧ p ≤ 99)
  · obtain ⟨d1, d2, d3, d4, d5, d6, d7, d8, d9⟩ := pl_D hv hw h.2.1.1 h.2.1.2
    have hb := a_sp_b (f10 bo h.2.1.1.1 h.2.1.1.2) (f10 ot h.2.1.2.1 h.2.1.2.2) f0
    have t1 : ∀ j, j < 6 → (c_ld (c_pl w bo ot) 26 a) 26 j = a_T v a j := fun j hj => by rw [c_ld_at hj]; exact c_T d9 h.1.1 (by omega) j hj
    refine ⟨c_ld (c_pl w bo ot) 26 a, q_LongBoats_force ?_, fun c hc => ?_⟩
    · simp (disch := omega) only [s_hasMan_3, s_hasBoats, s_within, z_oI_s, ji_b, g7, g8]
      have e9 : c_ld (c_pl w bo ot) 26 a 25 9 = a_sp v bo ot := by rw [c_ld_ne (by decide)]; exact d1
      rw [if_neg (by omega), if_neg (by omega), if_neg (by omega), if_pos h, x_place hv hw h.2.1.1 h.2.1.2, z_oV_s, s_load_26 (by omega) (by omega), z_oV_s]
      simp only [jM_at, e9]
      rw [s_thrust_26 (a_tr_cg t1 (f11 a h.1.1 h.1.2)) (by omega) (by omega), z_oI_s]
      exact z_lf (a_fo_cg t1 _ _)
    · rw [c_ld_ne (fun q => by subst q; simp at hc)]
      exact pl_fr c hc
  · refine ⟨w, q_LongBoats_force ?_, c_fr_rf w⟩
    rw [if_neg h]
    simp (disch := omega) only [s_hasMan_3, s_hasBoats, s_within, z_oI_s, ji_b, g7, g8]
    (repeat' split) <;> first | rfl | (exfalso; omega)
theorem m_force {e n : Nat} {im : Nat → Option Nat} {w u : Nat → Nat → Int} {a bo ot p : Int} (hw : a_wf (w 46)) (ha : jR a) (hbo : jR bo) (hot : jR ot) (hp : jR p) : (z_F (e + 20)).1 k_Model_force [.ref 45, .int (Int32.ofInt a), .int (Int32.ofInt bo), .int (Int32.ofInt ot), .int (Int32.ofInt p)] (n, z_q im, jM w, jL u) = some (Int32.ofInt (V_force (w 46) a bo ot p), jM w, jL u) := by
  obtain ⟨f0, f1, f2, f3, f4, f5, f6, f7, f8, f9, f10, f11, f12⟩ := id hw
  unfold V_force
  refine q_Model_force ?_
  simp (disch := omega) only [jl_of, s_isMan, s_isBoat, s_arePasses, z_oI_s, ji_b]
  by_cases h : (0 ≤ a ∧ a < w 46 7) ∧ ((0 ≤ bo ∧ bo < w 46 6) ∧ (0 ≤ ot ∧ ot < w 46 6)) ∧ (0 ≤ p ∧ p ≤ 99)
  · have hbo2 := f10 bo h.2.1.1.1 h.2.1.1.2
    have hot2 := f10 ot h.2.1.2.1 h.2.1.2.2
    have hs := a_sp_b hbo2 hot2 f0
    rw [if_neg (by omega), if_neg (by omega), if_neg (by omega), if_neg (by omega), if_pos h, s_speedOf (by omega) (by omega) (by omega) (by omega) hbo2 hot2 f0, z_oI_s, s_forceOf (by omega) (by omega) (f11 a h.1.1 h.1.2) (by omega) (by omega), z_oI_s]
  · rw [if_neg h]
    (repeat' split) <;> first | rfl | (exfalso; omega)
def V_wave (v : Nat → Int) (a p : Int) : Int := if (0 ≤ a ∧ a < v 6) ∧ (0 ≤ p ∧ p ≤ 999) then 4 * v (10 + 2 * a.toNat) / (p + 1) else -2
theorem ji_ediv {a b : Int} (ha : 0 ≤ a) (ha2 : a < 2147483648) (hb : 0 < b) (hb2 : b < 2147483648) : Int32.ofInt a / Int32.ofInt b = Int32.ofInt (a / b) := by
  rw [ji_div ⟨by omega, ha2⟩ hb hb2, Int.tdiv_eq_ediv_of_nonneg ha]
theorem x_wave {e n : Nat} {im : Nat → Option Nat} {w u : Nat → Nat → Int} {v : Nat → Int} {a p : Int} (hv : c_v w v) (hw : a_wf v) (ha : jR a) (hp : jR p) : (z_F (e + 20)).1 k_LongBoats_wave [.ref 0, .int (Int32.ofInt a), .int (Int32.ofInt p)] (n, z_q im, jM w, jL u) = some (Int32.ofInt (V_wave v a p), jM w, jL u) := by
  obtain ⟨g0, g1, g2, g3, g4, g5, g6, g7, g8, g9, h5, h7, h9⟩ := id hv
  obtain ⟨f0, f1, f2, f3, f4, f5, f6, f7, f8, f9, f10, f11, f12⟩ := id hw
  unfold V_wave
  refine q_LongBoats_wave ?_
  simp (disch := omega) only [s_hasBoat_3, s_within, z_oI_s, ji_b, g7]
  by_cases h : (0 ≤ a ∧ a < v 6) ∧ (0 ≤ p ∧ p ≤ 999)
  · have hb := (f10 a h.1.1 h.1.2).1
    have e5 : w 5 (2 * a.toNat + 0) = v (10 + 2 * a.toNat) := h5 _ (by omega)
    rw [if_neg (by omega), if_neg (by omega), if_pos h, s_gear_0 (by omega) (by omega), z_oI_s, e5]
    simp (disch := omega) only [ji_add, ji_mul, ji_eq0, ji_ediv]
    rw [if_neg (by omega)]
  · rw [if_neg h]
    (repeat' split) <;> first | rfl | (exfalso; omega)
theorem m_wave {e n : Nat} {im : Nat → Option Nat} {w u : Nat → Nat → Int} {a p : Int} (hw : a_wf (w 46)) (ha : jR a) (hp : jR p) : (z_F (e + 20)).1 k_Model_wave [.ref 45, .int (Int32.ofInt a), .int (Int32.ofInt p)] (n, z_q im, jM w, jL u) = some (Int32.ofInt (V_wave (w 46) a p), jM w, jL u) := by
  obtain ⟨f0, f1, f2, f3, f4, f5, f6, f7, f8, f9, f10, f11, f12⟩ := id hw
  unfold V_wave
  refine q_Model_wave ?_
  simp (disch := omega) only [jl_of, kl_0, kl_26, s_isBoat, s_in, z_oI_s, ji_b]
  by_cases h : (0 ≤ a ∧ a < w 46 6) ∧ (0 ≤ p ∧ p ≤ 999)
  · have hb := (f10 a h.1.1 h.1.2).1
    rw [if_neg (by omega), if_neg (by omega), if_pos h, s_oarsOf (by omega) (by omega), z_oI_s]
    simp (disch := omega) only [ji_add, ji_mul, ji_eq0, ji_ediv]
    rw [if_neg (by omega)]
  · rw [if_neg h]
    (repeat' split) <;> first | rfl | (exfalso; omega)
def V_calm (v : Nat → Int) (a p : Int) : Int := if (0 ≤ a ∧ a < v 6) ∧ (0 ≤ p ∧ p ≤ 99) then 4 * v (10 + 2 * a.toNat) / (p + 1) else -2
theorem x_calm {e n : Nat} {im : Nat → Option Nat} {w u : Nat → Nat → Int} {v : Nat → Int} {a p : Int} (hv : c_v w v) (hw : a_wf v) (ha : jR a) (hp : jR p) : (z_F (e + 20)).1 k_LongBoats_calm [.ref 0, .int (Int32.ofInt a), .int (Int32.ofInt p)] (n, z_q im, jM w, jL u) = some (Int32.ofInt (V_calm v a p), jM w, jL u) := by
  obtain ⟨g0, g1, g2, g3, g4, g5, g6, g7, g8, g9, h5, h7, h9⟩ := id hv
  obtain ⟨f0, f1, f2, f3, f4, f5, f6, f7, f8, f9, f10, f11, f12⟩ := id hw
  unfold V_calm
  refine q_LongBoats_calm ?_
  simp (disch := omega) only [s_hasBoat_3, s_within, z_oI_s, ji_b, g7]
  by_cases h : (0 ≤ a ∧ a < v 6) ∧ (0 ≤ p ∧ p ≤ 99)
  · have hb := (f10 a h.1.1 h.1.2).1
    have e5 : w 5 (2 * a.toNat + 0) = v (10 + 2 * a.toNat) := h5 _ (by omega)
    rw [if_neg (by omega), if_neg (by omega), if_pos h, s_gear_0 (by omega) (by omega), z_oI_s, e5]
    simp (disch := omega) only [ji_add, ji_mul, ji_eq0, ji_ediv]
    rw [if_neg (by omega)]
  · rw [if_neg h]
    (repeat' split) <;> first | rfl | (exfalso; omega)
theorem a_dv {x p b : Int} (hx : 0 ≤ x) (hp : 0 ≤ p) (hb : 0 ≤ b) : x / (b + 1) ≤ p ↔ x / (p + 1) ≤ b := by
  have l1 : x / (b + 1) ≤ p ↔ x < (p + 1) * (b + 1) := by
    rw [← Int.lt_add_one_iff, Int.ediv_lt_iff_lt_mul (by omega)]
  have l2 : x / (p + 1) ≤ b ↔ x < (b + 1) * (p + 1) := by
    rw [← Int.lt_add_one_iff, Int.ediv_lt_iff_lt_mul (by omega)]
  rw [l1, l2, Int.mul_comm]
theorem m_calm {e n : Nat} {im : Nat → Option Nat} {w u : Nat → Nat → Int} {a p : Int} (hw : a_wf (w 46)) (ha : jR a) (hp : jR p) : (z_F (e + 20)).1 k_Model_calm [.ref 45, .int (Int32.ofInt a), .int (Int32.ofInt p)] (n, z_q im, jM w, jL u) = some (Int32.ofInt (V_calm (w 46) a p), jM w, jL u) := by
  obtain ⟨f0, f1, f2, f3, f4, f5, f6, f7, f8, f9, f10, f11, f12⟩ := id hw
  unfold V_calm
  by_cases h : (0 ≤ a ∧ a < w 46 6) ∧ (0 ≤ p ∧ p ≤ 99)
  · have hb := (f10 a h.1.1 h.1.2).1
    have q0 : 0 ≤ 4 * w 46 (10 + 2 * a.toNat) / (p + 1) := Int.ediv_nonneg (by omega) (by omega)
    have q1 : 4 * w 46 (10 + 2 * a.toNat) / (p + 1) ≤ 4 * w 46 (10 + 2 * a.toNat) := Int.ediv_le_self _ (by omega)
    have hl : ∀ (m : Nat) (b : Int), 0 ≤ b → b + m = 4 * w 46 (10 + 2 * a.toNat) / (p + 1) → z_Rn (z_F (e + 19)) cd_Model_calm 15 [some (.ref 45), some (.int (Int32.ofInt a)), some (.int (Int32.ofInt p)), some (.int (Int32.ofInt b))] (n, z_q im, jM w, jL u) (some (.int (Int32.ofInt (4 * w 46 (10 + 2 * a.toNat) / (p + 1)))), (n, z_q im, jM w, jL u)) := by
      intro m
      induction m with
      | zero =>
        intro b hb0 hbm
        have hd := a_dv (x := 4 * w 46 (10 + 2 * a.toNat)) (p := p) (b := b) (by omega) (by omega) hb0
        refine z_ret (e_Model_calm_15 _ _ _ _ _ _ _ |>.trans ?_)
        have q2 : 0 ≤ 4 * w 46 (10 + 2 * a.toNat) / (b + 1) := Int.ediv_nonneg (by omega) (by omega)
        have q3 : 4 * w 46 (10 + 2 * a.toNat) / (b + 1) ≤ 4 * w 46 (10 + 2 * a.toNat) := Int.ediv_le_self _ (by omega)
        rw [s_oarsOf (by omega) (by omega), z_oI_s]
        simp (disch := omega) only [ji_add, ji_mul, ji_eq0, ji_ediv, ji_le]
        rw [if_neg (by omega), if_pos (hd.mpr (by omega))]
        exact z_lf (by omega)
      | succ m ih =>
        intro b hb0 hbm
        have hd := a_dv (x := 4 * w 46 (10 + 2 * a.toNat)) (p := p) (b := b) (by omega) (by omega) hb0
        have q2 : 0 ≤ 4 * w 46 (10 + 2 * a.toNat) / (b + 1) := Int.ediv_nonneg (by omega) (by omega)
        have q3 : 4 * w 46 (10 + 2 * a.toNat) / (b + 1) ≤ 4 * w 46 (10 + 2 * a.toNat) := Int.ediv_le_self _ (by omega)
        refine z_go (e_Model_calm_15 _ _ _ _ _ _ _ |>.trans ?_) (ih (b + 1) (by omega) (by omega))
        rw [s_oarsOf (by omega) (by omega), z_oI_s]
        simp (disch := omega) only [ji_add, ji_mul, ji_eq0, ji_ediv, ji_le]
        rw [if_neg (by omega), if_neg (fun q => by have := hd.mp q; omega)]
    rw [if_pos h]
    refine n_Model_calm (z_go (e_Model_calm_0 _ _ _ _ _ _ |>.trans ?_) (hl (4 * w 46 (10 + 2 * a.toNat) / (p + 1)).toNat 0 (by omega) (by omega)))
    simp (disch := omega) only [jl_of, kl_0, kl_11, s_isBoat, s_in, z_oI_s, ji_b]
    rw [if_neg (by omega), if_neg (by omega)]
  · refine n_Model_calm (z_ret (e_Model_calm_0 _ _ _ _ _ _ |>.trans ?_))
    rw [if_neg h]
    simp (disch := omega) only [jl_of, kl_0, kl_11, s_isBoat, s_in, z_oI_s, ji_b]
    (repeat' split) <;> first | rfl | (exfalso; omega)
