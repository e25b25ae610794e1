/-! bout, drawn, years -/
def B_o (v : Nat → Int) (dr x a b bo ot p q : Int) : Int × Nat × Int := a_bi (a_G dr x (v 1) (v (10 + 2 * bo.toNat + 1)) (v (10 + 2 * ot.toNat + 1))) (v 3) (v 4) (a_sp v bo ot) (a_T v a) (a_T v b) p q (v 2).toNat (0, 0, 0)
theorem B_o_x (v : Nat → Int) (x a b bo ot p q : Int) : B_o v 0 x a b bo ot p q = B_o v 0 0 a b bo ot p q := a_bi_cg (fun _ => rfl) (fun _ _ => rfl) (fun _ _ => rfl) _ _
theorem B_o_b {v : Nat → Int} (hw : a_wf v) (dr x a b bo ot p q : Int) : (0 ≤ (B_o v dr x a b bo ot p q).1 ∧ (B_o v dr x a b bo ot p q).1 ≤ 3) ∧ (B_o v dr x a b bo ot p q).2.1 ≤ 7 ∧ (0 ≤ (B_o v dr x a b bo ot p q).2.2 ∧ (B_o v dr x a b bo ot p q).2.2 ≤ 7) := by
  obtain ⟨f0, f1, f2, f3, f4, f5, f6, f7, f8, f9, f10, f11, f12⟩ := id hw
  have h := a_bi_b (v 2).toNat (G := a_G dr x (v 1) (v (10 + 2 * bo.toNat + 1)) (v (10 + 2 * ot.toNat + 1))) (lo := v 3) (hi := v 4) (sp := a_sp v bo ot) (t := a_T v a) (f := a_T v b) (p := p) (q := q) (S := (0, 0, 0)) (by decide) (by decide)
  change (0 ≤ (B_o v dr x a b bo ot p q).1 ∧ (B_o v dr x a b bo ot p q).1 ≤ 3) ∧ (0 ≤ (B_o v dr x a b bo ot p q).2.1 ∧ (B_o v dr x a b bo ot p q).2.1 ≤ 0 + (v 2).toNat) ∧ (0 ≤ (B_o v dr x a b bo ot p q).2.2 ∧ (B_o v dr x a b bo ot p q).2.2 ≤ 0 + ((v 2).toNat : Int)) at h
  omega
theorem D_bo {v : Nat → Int} {w' : Nat → Nat → Int} {a b bo ot : Int} (d1 : ∀ j, j < 6 → w' 26 j = a_T v a j) (d2 : ∀ j, j < 6 → w' 27 j = a_T v b j) (d3 : w' 25 9 = a_sp v bo ot) (d4 : w' 25 5 = v (10 + 2 * bo.toNat + 1)) (d5 : w' 25 6 = v (10 + 2 * ot.toNat + 1)) (d6 : w' 25 7 = v 3) (d7 : w' 25 8 = v 4) (d8 : w' 25 10 = v 1) (d9 : w' 25 11 = v 2) (dr x p q : Int) : a_bi (a_G dr x (w' 25 10) (w' 25 5) (w' 25 6)) (w' 25 7) (w' 25 8) (w' 25 9) (w' 26) (w' 27) p q (w' 25 11).toNat (0, 0, 0) = B_o v dr x a b bo ot p q := by
  rw [d3, d4, d5, d6, d7, d8, d9]
  exact a_bi_cg (fun _ => rfl) d1 d2 _ _
theorem MB_fr {w w' : Nat → Nat → Int} {r : Int} {k : Nat} {c : Int} (h : c_fr w w') : c_fr w (MB w' r k c) := fun d hd => by
  rw [MB_ne (fun q => by subst q; simp at hd)]
  exact h d hd
theorem s_lastPass {e n : Nat} {im : Nat → Option Nat} {w u : Nat → Nat → Int} {r : Int} {k : Nat} {c : Int} (hr : 0 ≤ r ∧ r ≤ 3) : (z_F (e + 1)).1 k_LongBoats_lastPass [.ref 0] (n, z_q im, jM (MB w r k c), jL u) = some (Int32.ofInt (if r = 0 then -1 else (k : Int) - 1), jM (MB w r k c), jL u) := by
  refine q_LongBoats_lastPass ?_
  simp (disch := omega) only [jM_at, MB_12, MB_13, ji_sub, ji_eq0]
  split <;> rfl
def V_bout (v : Nat → Int) (a b bo ot q : Int) : Int := if a_so v a b bo ot ∧ (0 ≤ q ∧ q ≤ 1) then (if q = 0 then (B_o v 0 0 a b bo ot 0 0).1 else if (B_o v 0 0 a b bo ot 0 0).1 = 0 then -1 else ((B_o v 0 0 a b bo ot 0 0).2.1 : Int) - 1) else -2
theorem x_bout {e n : Nat} {im : Nat → Option Nat} {w u : Nat → Nat → Int} {v : Nat → Int} {a b bo ot q : Int} (hv : c_v w v) (hw : a_wf v) (ha : jR a) (hb : jR b) (hbo : jR bo) (hot : jR ot) (hq : jR q) : ∃ w', (z_F (e + 20)).1 k_LongBoats_bout [.ref 0, .int (Int32.ofInt a), .int (Int32.ofInt b), .int (Int32.ofInt bo), .int (Int32.ofInt ot), .int (Int32.ofInt q)] (n, z_q im, jM w, jL u) = some (Int32.ofInt (V_bout v a b bo ot q), jM w', jL u) ∧ c_fr w w' := by
  obtain ⟨f0, f1, f2, f3, f4, f5, f6, f7, f8, f9, f10, f11, f12⟩ := id hw
  unfold V_bout
  by_cases hq1 : 0 ≤ q ∧ q ≤ 1
  · by_cases h : a_so v a b bo ot
    · rw [if_pos ⟨h, hq1⟩]
      obtain ⟨w2, q1, q2, q3, q4, q5, q6, q7⟩ := x_faces_y (e := e + 14) (n := n) (im := im) (u := u) hv hw h
      obtain ⟨d1, d2, d3, d4, d5, d6, d7, d8, d9, d10⟩ := q2
      obtain ⟨s1, s2, s3, s4, s5⟩ := id h
      have b1 := (f10 bo s4.1 s4.2).2
      have b2 := (f10 ot s5.1 s5.2).2
      have hS := (D_bo d1 d2 d3 d4 d5 d6 d7 d8 d9 0 (u 30 0) 0 0).trans (B_o_x v (u 30 0) a b bo ot 0 0)
      have hb := B_o_b hw 0 0 a b bo ot 0 0
      have hR := s_runBout (e := e + 15) (n := n) (im := im) (u := u) (p := 0) (p2 := 0) (dr := 0) q5 q6 q7 d10 (Or.inl rfl) (by omega) (by omega) (by omega) (by omega) (by omega) (by omega) (by decide) (by decide) (fun h => absurd rfl h) hS
      rw [a_X_0, zu_self] at hR
      refine ⟨_, q_LongBoats_bout ?_, MB_fr (r := (B_o v 0 0 a b bo ot 0 0).1) (k := (B_o v 0 0 a b bo ot 0 0).2.1) (c := (B_o v 0 0 a b bo ot 0 0).2.2) q4⟩
      · rw [s_within (by omega) (by decide) (by decide), z_oI_s, if_neg (by rw [ji_b]; omega), q1, z_oI_s, if_neg jc_1, hR, z_oV_s, s_lastPass hb.1, z_oI_s]
        simp (disch := omega) only [jM_at, MB_12, ji_eq0]
        split <;> rfl
    · refine ⟨w, q_LongBoats_bout ?_, c_fr_rf w⟩
      rw [if_neg (fun q => h q.1), s_within (by omega) (by decide) (by decide), z_oI_s, if_neg (by rw [ji_b]; omega), x_faces_n hv hw ha hb hbo hot h, z_oI_s]
      rfl
  · refine ⟨w, q_LongBoats_bout ?_, c_fr_rf w⟩
    rw [if_neg (fun q => hq1 q.2), s_within (by omega) (by decide) (by decide), z_oI_s, if_pos (by rw [ji_b]; omega)]
theorem MG_self (w : Nat → Nat → Int) (k : Nat) (h : w 45 16 = (k : Int)) : MG w (w 45 15) k (w 45 17) = w := by
  funext a b
  simp only [MG]
  by_cases h1 : a = 45
  · subst h1
    simp only [if_true]
    (repeat' split) <;> first | rfl | simp_all
  · rw [if_neg h1]
/-- what the reference's calls leave: rows of work and the bout's fields may change -/
def m_fr (w w' : Nat → Nat → Int) : Prop := (∀ c, c ∉ [45, 52, 53, 54, 55, 56, 57, 58, 59, 60] → w' c = w c) ∧ ∀ j, j < 15 → w' 45 j = w 45 j
theorem m_fr_rf (w : Nat → Nat → Int) : m_fr w w := ⟨fun _ _ => rfl, fun _ _ => rfl⟩
theorem m_fr_tr {w w1 w2 : Nat → Nat → Int} (h1 : m_fr w w1) (h2 : m_fr w1 w2) : m_fr w w2 := ⟨fun c hc => (h2.1 c hc).trans (h1.1 c hc), fun j hj => (h2.2 j hj).trans (h1.2 j hj)⟩
theorem MG_fr {w w' : Nat → Nat → Int} {r : Int} {k : Nat} {c : Int} (h : m_fr w w') : m_fr w (MG w' r k c) := ⟨fun d hd => by
  rw [MG_ne (fun q => by subst q; simp at hd)]
  exact h.1 d hd, fun j hj => by
  rw [← h.2 j hj]
  simp only [MG, if_true]
  rw [if_neg (by omega), if_neg (by omega), if_neg (by omega)]⟩
theorem m_bout {e n : Nat} {im : Nat → Option Nat} {w u : Nat → Nat → Int} {a b bo ot q : Int} (hw : a_wf (w 46)) (ha : jR a) (hb : jR b) (hbo : jR bo) (hot : jR ot) (hq : jR q) : ∃ w', (z_F (e + 20)).1 k_Model_bout [.ref 45, .int (Int32.ofInt a), .int (Int32.ofInt b), .int (Int32.ofInt bo), .int (Int32.ofInt ot), .int (Int32.ofInt q)] (n, z_q im, jM w, jL u) = some (Int32.ofInt (V_bout (w 46) a b bo ot q), jM w', jL u) ∧ m_fr w w' := by
  obtain ⟨f0, f1, f2, f3, f4, f5, f6, f7, f8, f9, f10, f11, f12⟩ := id hw
  unfold V_bout
  by_cases h : a_so (w 46) a b bo ot
  · by_cases hq1 : 0 ≤ q ∧ q ≤ 1
    · rw [if_pos ⟨h, hq1⟩]
      obtain ⟨s1, s2, s3, s4, s5⟩ := id h
      have hb := B_o_b hw 0 0 a b bo ot 0 0
      have hR := s_goes (e := e + 13) (n := n) (im := im) (u := u) (p := 0) (p2 := 0) (dr := 0) hw s1 s2 s4 s5 (Or.inl rfl) (by decide) (by decide) (fun h => absurd rfl h) (B_o_x (w 46) (u 45 18) a b bo ot 0 0)
      rw [a_X_0, zu_self] at hR
      refine ⟨_, q_Model_bout ?_, MG_fr (r := (B_o (w 46) 0 0 a b bo ot 0 0).1) (k := (B_o (w 46) 0 0 a b bo ot 0 0).2.1) (c := (w 45 17 + (B_o (w 46) 0 0 a b bo ot 0 0).2.2)) (m_fr_rf w)⟩
      · simp (disch := omega) only [s_areSo, jl_of, kl_0, kl_1, s_in, z_oI_s, ji_b]
        rw [if_neg (not_not_intro h), if_neg (not_not_intro hq1), hR, z_oV_s]
        simp (disch := omega) only [jM_at, MG_15, MG_16, ji_sub, ji_eq0]
        (repeat' split) <;> rfl
    · refine ⟨w, q_Model_bout ?_, m_fr_rf w⟩
      simp (disch := omega) only [s_areSo, jl_of, kl_0, kl_1, s_in, z_oI_s, ji_b]
      rw [if_neg (not_not_intro h), if_pos hq1, if_neg (fun q => hq1 q.2)]
  · refine ⟨w, q_Model_bout ?_, m_fr_rf w⟩
    simp (disch := omega) only [s_areSo, jl_of, kl_0, kl_1, s_in, z_oI_s, ji_b]
    rw [if_pos h, if_neg (fun q => h q.1)]
theorem s_drawFrom {e n : Nat} {im : Nat → Option Nat} {w u : Nat → Nat → Int} {x : Int} (hx : jR x) : (z_F (e + 2)).2.2.1 k_Duel_drawFrom [.ref 25, .int (Int32.ofInt x)] (n, z_q im, jM w, jL u) = some (jM (z_u w 25 4 1), jL (z_u u 30 0 x)) := by
  refine q_Duel_drawFrom ?_
  have h : (z_F (e + 1)).2.2.1 k_Draws_start [.ref 30, .int (Int32.ofInt x)] (n, z_q im, jM w, jL u) = some (jM w, jL (z_u u 30 0 x)) := by
    refine q_Draws_start ?_
    rw [jl_of hx, jL_u]
  rw [h, z_oV_s, jM_u]
def V_drawn (v : Nat → Int) (x a b bo ot q : Int) : Int := if (0 ≤ x ∧ x ≤ 2000000000) ∧ a_so v a b bo ot ∧ (0 ≤ q ∧ q ≤ 2) then (if q = 0 then (B_o v 1 x a b bo ot 0 0).1 else if q = 2 then (B_o v 1 x a b bo ot 0 0).2.2 else if (B_o v 1 x a b bo ot 0 0).1 = 0 then -1 else ((B_o v 1 x a b bo ot 0 0).2.1 : Int) - 1) else -2
theorem x_drawn {e n : Nat} {im : Nat → Option Nat} {w u : Nat → Nat → Int} {v : Nat → Int} {x a b bo ot q : Int} (hv : c_v w v) (hw : a_wf v) (hx : jR x) (ha : jR a) (hb : jR b) (hbo : jR bo) (hot : jR ot) (hq : jR q) : ∃ w' y, (z_F (e + 20)).1 k_LongBoats_drawn [.ref 0, .int (Int32.ofInt x), .int (Int32.ofInt a), .int (Int32.ofInt b), .int (Int32.ofInt bo), .int (Int32.ofInt ot), .int (Int32.ofInt q)] (n, z_q im, jM w, jL u) = some (Int32.ofInt (V_drawn v x a b bo ot q), jM w', jL (z_u u 30 0 y)) ∧ c_fr w w' := by
  obtain ⟨f0, f1, f2, f3, f4, f5, f6, f7, f8, f9, f10, f11, f12⟩ := id hw
  unfold V_drawn
  by_cases hx1 : 0 ≤ x ∧ x ≤ 2000000000
  · by_cases hq1 : 0 ≤ q ∧ q ≤ 2
    · by_cases h : a_so v a b bo ot
      · rw [if_pos ⟨hx1, h, hq1⟩]
        obtain ⟨w2, q1, q2, q3, q4, q5, q6, q7⟩ := x_faces_y (e := e + 14) (n := n) (im := im) (u := u) hv hw h
        obtain ⟨d1, d2, d3, d4, d5, d6, d7, d8, d9, d10⟩ := q2
        obtain ⟨s1, s2, s3, s4, s5⟩ := id h
        have b1 := (f10 bo s4.1 s4.2).2
        have b2 := (f10 ot s5.1 s5.2).2
        have hS := D_bo d1 d2 d3 d4 d5 d6 d7 d8 d9 1 x 0 0
        have hb := B_o_b hw 1 x a b bo ot 0 0
        have hR := s_runBout (e := e + 15) (n := n) (im := im) (w := z_u w2 25 4 1) (u := z_u u 30 0 x) (p := 0) (p2 := 0) (dr := 1) q5 q6 q7 rfl (Or.inr rfl) (show 0 ≤ w2 25 5 ∧ w2 25 5 ≤ 4 by omega) (show 0 ≤ w2 25 6 ∧ w2 25 6 ≤ 4 by omega) (show 0 ≤ w2 25 7 ∧ w2 25 7 ≤ 12 by omega) (show 0 ≤ w2 25 8 ∧ w2 25 8 ≤ 12 by omega) (show 0 ≤ w2 25 10 ∧ w2 25 10 ≤ 12 by omega) (show 0 ≤ w2 25 11 ∧ w2 25 11 ≤ 7 by omega) (by decide) (by decide) (fun _ => (show 0 ≤ x ∧ x < 2147483648 by omega)) hS
        rw [zu_zu] at hR
        refine ⟨_, a_X 1 x (B_o v 1 x a b bo ot 0 0).2.1, q_LongBoats_drawn ?_, MB_fr (r := (B_o v 1 x a b bo ot 0 0).1) (k := (B_o v 1 x a b bo ot 0 0).2.1) (c := (B_o v 1 x a b bo ot 0 0).2.2) (w' := z_u w2 25 4 1) (fun d hd => by rw [z_u_ne (fun q => by subst q; simp at hd)]; exact q4 d hd)⟩
        · rw [s_within (by omega) (by decide) (by decide), z_oI_s, if_neg (by rw [ji_b]; omega), s_within (by omega) (by decide) (by decide), z_oI_s, if_neg (by rw [ji_b]; omega), q1, z_oI_s, if_neg jc_1, s_drawFrom hx, z_oV_s, hR, z_oV_s, s_lastPass hb.1, z_oI_s]
          simp (disch := omega) only [jM_at, MB_12, MB_14, ji_eq0, ji_eq]
          by_cases k0 : q = 0
          · rw [if_pos k0, if_pos k0]; rfl
          · rw [if_neg k0, if_neg k0]
            by_cases k1 : q = 1
            · rw [if_pos k1, if_neg (c := q = 2) (by omega)]; rfl
            · rw [if_neg k1, if_pos (by omega)]; rfl
      · refine ⟨w, u 30 0, q_LongBoats_drawn ?_, c_fr_rf w⟩
        rw [zu_self, if_neg (fun q => h q.2.1), s_within (by omega) (by decide) (by decide), z_oI_s, if_neg (by rw [ji_b]; omega), s_within (by omega) (by decide) (by decide), z_oI_s, if_neg (by rw [ji_b]; omega), x_faces_n hv hw ha hb hbo hot h, z_oI_s]
        rfl
    · refine ⟨w, u 30 0, q_LongBoats_drawn ?_, c_fr_rf w⟩
      rw [zu_self, if_neg (fun q => hq1 q.2.2), s_within (by omega) (by decide) (by decide), z_oI_s, if_neg (by rw [ji_b]; omega), s_within (by omega) (by decide) (by decide), z_oI_s, if_pos (by rw [ji_b]; omega)]
  · refine ⟨w, u 30 0, q_LongBoats_drawn ?_, c_fr_rf w⟩
    rw [zu_self, if_neg (fun q => hx1 q.1), s_within (by omega) (by decide) (by decide), z_oI_s, if_pos (by rw [ji_b]; omega)]
theorem MG_z {w : Nat → Nat → Int} {r x : Int} {k : Nat} {c : Int} : MG (z_u w 45 17 x) r k c = MG w r k c := by
  funext a b
  simp only [MG, z_u]
  (repeat' split) <;> first | rfl | omega
theorem MG_MG {w : Nat → Nat → Int} {r r' : Int} {k k' : Nat} {c c' : Int} : MG (MG w r k c) r' k' c' = MG w r' k' c' := by
  funext a b
  simp only [MG, if_true]
  (repeat' split) <;> rfl
theorem MB_MB {w : Nat → Nat → Int} {r r' : Int} {k k' : Nat} {c c' : Int} : MB (MB w r k c) r' k' c' = MB w r' k' c' := by
  funext a b
  simp only [MB, if_true]
  (repeat' split) <;> rfl
theorem MB_u4 {w : Nat → Nat → Int} {r x : Int} {k : Nat} {c : Int} : z_u (MB w r k c) 25 4 x = MB (z_u w 25 4 x) r k c := by
  funext a b
  simp only [MB, z_u, if_true]
  (repeat' split) <;> first | rfl | omega
theorem s_isSeed {e n : Nat} {im : Nat → Option Nat} {w u : Nat → Nat → Int} {x : Int} (hx : jR x) : (z_F (e + 2)).1 k_Model_isSeed [.int (Int32.ofInt x)] (n, z_q im, jM w, jL u) = some (Int32.ofInt (if 0 ≤ x ∧ x ≤ 2000000000 then 1 else 0), jM w, jL u) := by
  refine q_Model_isSeed ?_
  simp (disch := omega) only [jl_of, kl_0, kl_27, s_in, z_oI_s, ji_bb, if_true]
theorem s_goesDrawn {e n : Nat} {im : Nat → Option Nat} {w u : Nat → Nat → Int} {x a b bo ot : Int} (hw : a_wf (w 46)) (hx : 0 ≤ x ∧ x < 2147483648) (h : a_so (w 46) a b bo ot) : ∃ y, (z_F (e + 7)).2.2.1 k_Model_goesDrawn [.ref 45, .long (Int64.ofInt x), .int (Int32.ofInt a), .int (Int32.ofInt b), .int (Int32.ofInt bo), .int (Int32.ofInt ot)] (n, z_q im, jM w, jL u) = some (jM (MG w (B_o (w 46) 1 x a b bo ot 0 0).1 (B_o (w 46) 1 x a b bo ot 0 0).2.1 (B_o (w 46) 1 x a b bo ot 0 0).2.2), jL (z_u u 45 18 y)) := by
  obtain ⟨s1, s2, s3, s4, s5⟩ := id h
  have hR := s_goes (e := e) (n := n) (im := im) (w := z_u w 45 17 0) (u := z_u u 45 18 x) (a := a) (b := b) (bo := bo) (ot := ot) (p := 0) (p2 := 0) (dr := 1) hw s1 s2 s4 s5 (Or.inr rfl) (by decide) (by decide) (fun _ => hx) (S := B_o (w 46) 1 x a b bo ot 0 0) rfl
  rw [zu_zu, MG_z, show z_u w 45 17 0 45 17 = 0 from rfl, Int.zero_add] at hR
  refine ⟨a_X 1 x (B_o (w 46) 1 x a b bo ot 0 0).2.1, q_Model_goesDrawn ?_⟩
  · rw [jL_u, show Int32.ofInt 0 = Int32.ofInt (0 : Int) from rfl, jM_u, hR, z_oV_s]
    rfl
theorem m_drawn {e n : Nat} {im : Nat → Option Nat} {w u : Nat → Nat → Int} {x a b bo ot q : Int} (hw : a_wf (w 46)) (hx : jR x) (ha : jR a) (hb : jR b) (hbo : jR bo) (hot : jR ot) (hq : jR q) : ∃ w' y, (z_F (e + 20)).1 k_Model_drawn [.ref 45, .int (Int32.ofInt x), .int (Int32.ofInt a), .int (Int32.ofInt b), .int (Int32.ofInt bo), .int (Int32.ofInt ot), .int (Int32.ofInt q)] (n, z_q im, jM w, jL u) = some (Int32.ofInt (V_drawn (w 46) x a b bo ot q), jM w', jL (z_u u 45 18 y)) ∧ m_fr w w' := by
  obtain ⟨f0, f1, f2, f3, f4, f5, f6, f7, f8, f9, f10, f11, f12⟩ := id hw
  unfold V_drawn
  by_cases hc : (0 ≤ x ∧ x ≤ 2000000000) ∧ a_so (w 46) a b bo ot ∧ (0 ≤ q ∧ q ≤ 2)
  · rw [if_pos hc]
    obtain ⟨hx1, h, hq1⟩ := id hc
    obtain ⟨y, hR⟩ := s_goesDrawn (e := e + 12) (n := n) (im := im) (u := u) hw (show 0 ≤ x ∧ x < 2147483648 by omega) h
    have hb := B_o_b hw 1 x a b bo ot 0 0
    refine ⟨_, y, q_Model_drawn ?_, MG_fr (r := (B_o (w 46) 1 x a b bo ot 0 0).1) (k := (B_o (w 46) 1 x a b bo ot 0 0).2.1) (c := (B_o (w 46) 1 x a b bo ot 0 0).2.2) (m_fr_rf w)⟩
    · rw [s_isSeed hx, z_oI_s]
      simp (disch := omega) only [s_areSo, jl_of, kl_0, kl_5, s_in, z_oI_s, ji_b]
      rw [if_neg (not_not_intro hx1), if_neg (not_not_intro h), if_neg (not_not_intro hq1), hR, z_oV_s]
      simp (disch := omega) only [jM_at, MG_15, MG_16, MG_17, ji_sub, ji_eq0, ji_eq]
      (repeat' split) <;> rfl
  · refine ⟨w, u 45 18, q_Model_drawn ?_, m_fr_rf w⟩
    rw [zu_self, if_neg hc, s_isSeed hx, z_oI_s]
    simp (disch := omega) only [s_areSo, jl_of, kl_0, kl_5, s_in, z_oI_s, ji_b]
    by_cases hx1 : 0 ≤ x ∧ x ≤ 2000000000
    · rw [if_neg (not_not_intro hx1)]
      by_cases h : a_so (w 46) a b bo ot
      · rw [if_neg (not_not_intro h), if_pos (fun q => hc ⟨hx1, h, q⟩)]
      · rw [if_pos h]
    · rw [if_pos hx1]
abbrev a_yc (v : Nat → Int) (x m a b bo ot r : Int) : Prop := (0 ≤ x ∧ x ≤ 2000000000) ∧ (1 ≤ m ∧ m ≤ 20) ∧ a_so v a b bo ot ∧ (0 ≤ r ∧ r ≤ 3)
def C_yr (v : Nat → Int) (x a b bo ot r : Int) : Nat → Int := a_cnt (fun i => if (B_o v 1 (x + (i : Int)) a b bo ot 0 0).1 = r then 1 else 0)
def V_years (v : Nat → Int) (x m a b bo ot r : Int) : Int := if a_yc v x m a b bo ot r then C_yr v x a b bo ot r m.toNat else -2
abbrev K_y (j : Nat) : Prop := j = 4 ∨ (12 ≤ j ∧ j ≤ 14)
theorem MB_ag {w wi : Nat → Nat → Int} {r : Int} {k : Nat} {c : Int} (h : a_ag w wi 25 K_y) : a_ag w (MB wi r k c) 25 K_y := ⟨fun d hd => by rw [MB_ne hd]; exact h.1 d hd, fun j hj => by
  rw [← h.2 j hj]
  simp only [MB, if_true]
  rw [if_neg (by omega), if_neg (by omega), if_neg (by omega)]⟩
theorem x_years {e n : Nat} {im : Nat → Option Nat} {w u : Nat → Nat → Int} {v : Nat → Int} {x m a b bo ot r : Int} (hv : c_v w v) (hw : a_wf v) (hx : jR x) (hm : jR m) (ha : jR a) (hb : jR b) (hbo : jR bo) (hot : jR ot) (hr : jR r) : ∃ w' y, (z_F (e + 20)).1 k_LongBoats_years [.ref 0, .int (Int32.ofInt x), .int (Int32.ofInt m), .int (Int32.ofInt a), .int (Int32.ofInt b), .int (Int32.ofInt bo), .int (Int32.ofInt ot), .int (Int32.ofInt r)] (n, z_q im, jM w, jL u) = some (Int32.ofInt (V_years v x m a b bo ot r), jM w', jL (z_u u 30 0 y)) ∧ c_fr w w' := by
  obtain ⟨f0, f1, f2, f3, f4, f5, f6, f7, f8, f9, f10, f11, f12⟩ := id hw
  unfold V_years
  by_cases hx1 : 0 ≤ x ∧ x ≤ 2000000000
  · by_cases hm1 : 1 ≤ m ∧ m ≤ 20
    · by_cases hr1 : 0 ≤ r ∧ r ≤ 3
      · by_cases h : a_so v a b bo ot
        · rw [if_pos ⟨hx1, hm1, h, hr1⟩]
          obtain ⟨w2, q1, q2, q3, q4, q5, q6, q7⟩ := x_faces_y (e := e + 14) (n := n) (im := im) (u := u) hv hw h
          obtain ⟨d1, d2, d3, d4, d5, d6, d7, d8, d9, d10⟩ := q2
          obtain ⟨s1, s2, s3, s4, s5⟩ := id h
          have b1 := (f10 bo s4.1 s4.2).2
          have b2 := (f10 ot s5.1 s5.2).2
          obtain ⟨t, ht, wf, yf, rfl, hag⟩ := z_for (o := z_F (e + 19)) (cd := cd_LongBoats_years) (P := fun i s => ∃ wi y9, s = (29, [some (.ref 0), some (.int (Int32.ofInt x)), some (.int (Int32.ofInt m)), some (.int (Int32.ofInt a)), some (.int (Int32.ofInt b)), some (.int (Int32.ofInt bo)), some (.int (Int32.ofInt ot)), some (.int (Int32.ofInt r)), some (.int (Int32.ofInt (C_yr v x a b bo ot r i))), some (.int (Int32.ofInt (i : Int)))], (n, z_q im, jM wi, jL (z_u u 30 0 y9))) ∧ a_ag w2 wi 25 K_y) m.toNat (s := (29, [some (.ref 0), some (.int (Int32.ofInt x)), some (.int (Int32.ofInt m)), some (.int (Int32.ofInt a)), some (.int (Int32.ofInt b)), some (.int (Int32.ofInt bo)), some (.int (Int32.ofInt ot)), some (.int (Int32.ofInt r)), some (.int (Int32.ofInt 0)), some (.int (Int32.ofInt 0))], (n, z_q im, jM w2, jL u))) ⟨w2, u 30 0, by rw [zu_self]; rfl, a_ag_rf _ _ _⟩ (fun i s hi hs => by
            obtain ⟨wi, y9, rfl, hag⟩ := hs
            have hag2 : a_ag w2 (z_u wi 25 4 1) 25 K_y := a_ag_u hag (Or.inl rfl) _
            have e5 : z_u wi 25 4 1 25 5 = w2 25 5 := hag.2 5 (by decide)
            have e6 : z_u wi 25 4 1 25 6 = w2 25 6 := hag.2 6 (by decide)
            have e7 : z_u wi 25 4 1 25 7 = w2 25 7 := hag.2 7 (by decide)
            have e8 : z_u wi 25 4 1 25 8 = w2 25 8 := hag.2 8 (by decide)
            have e9 : z_u wi 25 4 1 25 9 = w2 25 9 := hag.2 9 (by decide)
            have e10 : z_u wi 25 4 1 25 10 = w2 25 10 := hag.2 10 (by decide)
            have e11 : z_u wi 25 4 1 25 11 = w2 25 11 := hag.2 11 (by decide)
            have e26 : z_u wi 25 4 1 26 = w2 26 := hag2.1 26 (by decide)
            have e27 : z_u wi 25 4 1 27 = w2 27 := hag2.1 27 (by decide)
            have hS := D_bo d1 d2 d3 d4 d5 d6 d7 d8 d9 1 (x + (i : Int)) 0 0
            rw [← e5, ← e6, ← e7, ← e8, ← e9, ← e10, ← e11, ← e26, ← e27] at hS
            have hb := B_o_b hw 1 (x + (i : Int)) a b bo ot 0 0
            have hR := s_runBout (e := e + 15) (n := n) (im := im) (w := z_u wi 25 4 1) (u := z_u u 30 0 (x + (i : Int))) (p := 0) (p2 := 0) (dr := 1) (by rw [e26]; exact q5) (by rw [e27]; exact q6) (by rw [e9]; exact q7) rfl (Or.inr rfl) (by omega) (by omega) (by omega) (by omega) (by omega) (by omega) (by decide) (by decide) (fun _ => (show 0 ≤ x + (i : Int) ∧ x + (i : Int) < 2147483648 by omega)) hS
            rw [zu_zu] at hR
            refine ⟨(29, [some (.ref 0), some (.int (Int32.ofInt x)), some (.int (Int32.ofInt m)), some (.int (Int32.ofInt a)), some (.int (Int32.ofInt b)), some (.int (Int32.ofInt bo)), some (.int (Int32.ofInt ot)), some (.int (Int32.ofInt r)), some (.int (Int32.ofInt (C_yr v x a b bo ot r (i + 1)))), some (.int (Int32.ofInt ((i : Int) + 1)))], (n, z_q im, jM (MB (z_u wi 25 4 1) (B_o v 1 (x + (i : Int)) a b bo ot 0 0).1 (B_o v 1 (x + (i : Int)) a b bo ot 0 0).2.1 (B_o v 1 (x + (i : Int)) a b bo ot 0 0).2.2), jL (z_u u 30 0 (a_X 1 (x + (i : Int)) (B_o v 1 (x + (i : Int)) a b bo ot 0 0).2.1)))), z_To_1 ((e_LongBoats_years_29 ..).trans ?_), _, _, rfl, MB_ag hag2⟩
            have hx : C_yr v x a b bo ot r (i + 1) = C_yr v x a b bo ot r i + (if (B_o v 1 (x + (i : Int)) a b bo ot 0 0).1 = r then 1 else 0) := rfl
            rw [if_neg (ji_le_n (by omega) (by omega) (by omega)), ji_add, s_drawFrom (by omega), z_oV_s, zu_zu, hR, z_oV_s, hx]
            simp (disch := omega) only [jM_at, MB_12, ji_add, ji_eq]
            split <;> rfl)
          refine ⟨wf, yf, n_LongBoats_years (z_go ((e_LongBoats_years_0 ..).trans ?_) (ht _ (z_ret ((e_LongBoats_years_29 ..).trans ?_)))), fun c hc => ?_⟩
          · rw [s_within (by omega) (by decide) (by decide), z_oI_s, if_neg (by rw [ji_b]; omega), s_within (by omega) (by decide) (by decide), z_oI_s, if_neg (by rw [ji_b]; omega), s_within (by omega) (by decide) (by decide), z_oI_s, if_neg (by rw [ji_b]; omega), q1, z_oI_s, if_neg jc_1]
          · rw [if_pos (ji_le_p (by omega) (by omega) (by omega))]
          · rw [hag.1 c (fun q => by subst q; simp at hc)]
            exact q4 c hc
        · refine ⟨w, u 30 0, n_LongBoats_years (z_ret ((e_LongBoats_years_0 ..).trans ?_)), c_fr_rf w⟩
          rw [zu_self, if_neg (fun q => h q.2.2.1), s_within (by omega) (by decide) (by decide), z_oI_s, if_neg (by rw [ji_b]; omega), s_within (by omega) (by decide) (by decide), z_oI_s, if_neg (by rw [ji_b]; omega), s_within (by omega) (by decide) (by decide), z_oI_s, if_neg (by rw [ji_b]; omega), x_faces_n hv hw ha hb hbo hot h, z_oI_s]
          rfl
      · refine ⟨w, u 30 0, n_LongBoats_years (z_ret ((e_LongBoats_years_0 ..).trans ?_)), c_fr_rf w⟩
        rw [zu_self, if_neg (fun q => hr1 q.2.2.2), s_within (by omega) (by decide) (by decide), z_oI_s, if_neg (by rw [ji_b]; omega), s_within (by omega) (by decide) (by decide), z_oI_s, if_neg (by rw [ji_b]; omega), s_within (by omega) (by decide) (by decide), z_oI_s, if_pos (by rw [ji_b]; omega)]
    · refine ⟨w, u 30 0, n_LongBoats_years (z_ret ((e_LongBoats_years_0 ..).trans ?_)), c_fr_rf w⟩
      rw [zu_self, if_neg (fun q => hm1 q.2.1), s_within (by omega) (by decide) (by decide), z_oI_s, if_neg (by rw [ji_b]; omega), s_within (by omega) (by decide) (by decide), z_oI_s, if_pos (by rw [ji_b]; omega)]
  · refine ⟨w, u 30 0, n_LongBoats_years (z_ret ((e_LongBoats_years_0 ..).trans ?_)), c_fr_rf w⟩
    rw [zu_self, if_neg (fun q => hx1 q.1), s_within (by omega) (by decide) (by decide), z_oI_s, if_pos (by rw [ji_b]; omega)]
theorem m_years {e n : Nat} {im : Nat → Option Nat} {w u : Nat → Nat → Int} {x m a b bo ot r : Int} (hw : a_wf (w 46)) (hx : jR x) (hm : jR m) (ha : jR a) (hb : jR b) (hbo : jR bo) (hot : jR ot) (hr : jR r) : ∃ w' y, (z_F (e + 20)).1 k_Model_years [.ref 45, .int (Int32.ofInt x), .int (Int32.ofInt m), .int (Int32.ofInt a), .int (Int32.ofInt b), .int (Int32.ofInt bo), .int (Int32.ofInt ot), .int (Int32.ofInt r)] (n, z_q im, jM w, jL u) = some (Int32.ofInt (V_years (w 46) x m a b bo ot r), jM w', jL (z_u u 45 18 y)) ∧ m_fr w w' := by
  obtain ⟨f0, f1, f2, f3, f4, f5, f6, f7, f8, f9, f10, f11, f12⟩ := id hw
  unfold V_years
  by_cases hc : a_yc (w 46) x m a b bo ot r
  · rw [if_pos hc]
    obtain ⟨hx1, hm1, h, hr1⟩ := id hc
    obtain ⟨t, ht, wf, yf, rfl, hfr⟩ := z_for (o := z_F (e + 19)) (cd := cd_Model_years) (P := fun i s => ∃ wi y9, s = (29, [some (.ref 45), some (.int (Int32.ofInt x)), some (.int (Int32.ofInt m)), some (.int (Int32.ofInt a)), some (.int (Int32.ofInt b)), some (.int (Int32.ofInt bo)), some (.int (Int32.ofInt ot)), some (.int (Int32.ofInt r)), some (.int (Int32.ofInt (C_yr (w 46) x a b bo ot r i))), some (.int (Int32.ofInt (i : Int)))], (n, z_q im, jM wi, jL (z_u u 45 18 y9))) ∧ m_fr w wi) m.toNat (s := (29, [some (.ref 45), some (.int (Int32.ofInt x)), some (.int (Int32.ofInt m)), some (.int (Int32.ofInt a)), some (.int (Int32.ofInt b)), some (.int (Int32.ofInt bo)), some (.int (Int32.ofInt ot)), some (.int (Int32.ofInt r)), some (.int (Int32.ofInt 0)), some (.int (Int32.ofInt 0))], (n, z_q im, jM w, jL u))) ⟨w, u 45 18, by rw [zu_self]; rfl, m_fr_rf w⟩ (fun i s hi hs => by
      obtain ⟨wi, y9, rfl, hfr⟩ := hs
      have e46 : wi 46 = w 46 := hfr.1 46 (by decide)
      obtain ⟨y, hR⟩ := s_goesDrawn (e := e + 12) (n := n) (im := im) (w := wi) (u := z_u u 45 18 y9) (x := x + (i : Int)) (a := a) (b := b) (bo := bo) (ot := ot) (by rw [e46]; exact hw) (by omega) (by rw [e46]; exact h)
      rw [zu_zu, e46] at hR
      have hb := B_o_b hw 1 (x + (i : Int)) a b bo ot 0 0
      refine ⟨(29, [some (.ref 45), some (.int (Int32.ofInt x)), some (.int (Int32.ofInt m)), some (.int (Int32.ofInt a)), some (.int (Int32.ofInt b)), some (.int (Int32.ofInt bo)), some (.int (Int32.ofInt ot)), some (.int (Int32.ofInt r)), some (.int (Int32.ofInt (C_yr (w 46) x a b bo ot r (i + 1)))), some (.int (Int32.ofInt ((i : Int) + 1)))], (n, z_q im, jM (MG wi (B_o (w 46) 1 (x + (i : Int)) a b bo ot 0 0).1 (B_o (w 46) 1 (x + (i : Int)) a b bo ot 0 0).2.1 (B_o (w 46) 1 (x + (i : Int)) a b bo ot 0 0).2.2), jL (z_u u 45 18 y))), z_To_1 ((e_Model_years_29 ..).trans ?_), _, _, rfl, MG_fr hfr⟩
      have hx : C_yr (w 46) x a b bo ot r (i + 1) = C_yr (w 46) x a b bo ot r i + (if (B_o (w 46) 1 (x + (i : Int)) a b bo ot 0 0).1 = r then 1 else 0) := rfl
      rw [if_neg (ji_le_n (by omega) (by omega) (by omega)), jl_of (by omega), jl_of (by omega), jl_add, hR, z_oV_s, hx]
      simp (disch := omega) only [jM_at, MG_15, ji_add, ji_eq]
      split <;> rfl)
    refine ⟨wf, yf, n_Model_years (z_go ((e_Model_years_0 ..).trans ?_) (ht _ (z_ret ((e_Model_years_29 ..).trans ?_)))), hfr⟩
    · rw [s_isSeed hx, z_oI_s]
      simp (disch := omega) only [s_areSo, jl_of, kl_0, kl_1, kl_4, kl_12, s_in, z_oI_s, ji_b]
      rw [if_neg (not_not_intro hx1), if_neg (not_not_intro hm1), if_neg (not_not_intro h), if_neg (not_not_intro hr1)]
    · rw [if_pos (ji_le_p (by omega) (by omega) (by omega))]
  · refine ⟨w, u 45 18, n_Model_years (z_ret ((e_Model_years_0 ..).trans ?_)), m_fr_rf w⟩
    rw [zu_self, if_neg hc, s_isSeed hx, z_oI_s]
    simp (disch := omega) only [s_areSo, jl_of, kl_0, kl_1, kl_4, kl_12, s_in, z_oI_s, ji_b]
    by_cases hx1 : 0 ≤ x ∧ x ≤ 2000000000
    · rw [if_neg (not_not_intro hx1)]
      by_cases hm1 : 1 ≤ m ∧ m ≤ 20
      · rw [if_neg (not_not_intro hm1)]
        by_cases h : a_so (w 46) a b bo ot
        · rw [if_neg (not_not_intro h), if_pos (fun q => hc ⟨hx1, hm1, h, q⟩)]
        · rw [if_pos h]
      · rw [if_pos hm1]
    · rw [if_pos hx1]
