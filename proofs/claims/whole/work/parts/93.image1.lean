/-! harbours copied; image and back of the reference -/
/-- the harbour at cell h is v -/
def c_h (w : Nat → Nat → Int) (h : Nat) (v : Nat → Int) : Prop := w h 0 = v 9 ∧ w h 1 = v 0 ∧ w h 2 = v 1 ∧ w h 3 = v 2 ∧ w h 4 = v 3 ∧ w h 5 = v 4 ∧ w h 6 = v 5 ∧ w h 7 = v 6 ∧ w h 8 = v 7 ∧ w h 9 = v 8 ∧ (∀ j, j < 8 → w (h + 2) j = v (10 + j)) ∧ (∀ j, j < 60 → w (h + 4) j = v (18 + j)) ∧ ∀ j, j < 28 → w (h + 6) j = v (78 + j)
theorem c_h_3 {w : Nat → Nat → Int} {v : Nat → Int} : c_h w 3 v ↔ c_v w v := Iff.rfl
theorem c_h_cg {w w' : Nat → Nat → Int} {h : Nat} {v : Nat → Int} (hc : c_h w h v) (h0 : w' h = w h) (h2 : w' (h + 2) = w (h + 2)) (h4 : w' (h + 4) = w (h + 4)) (h6 : w' (h + 6) = w (h + 6)) : c_h w' h v := by
  unfold c_h
  rw [h0, h2, h4, h6]
  exact hc
theorem s_rcopy_4_11 {e n : Nat} {im : Nat → Option Nat} {w u : Nat → Nat → Int} : ∃ w', (z_F (e + 2)).2.2.1 k_Row_copyFrom [.ref 4, .ref 11] (n, z_q im, jM w, jL u) = some (jM w', jL u) ∧ (∀ c, c ≠ 5 → w' c = w c) ∧ ∀ j, j < 8 → w' 5 j = w 12 j := by
  obtain ⟨t9, ht9, wf, rfl, i1, i2⟩ := z_for (o := z_F (e + 1)) (cd := cd_Row_copyFrom) (P := fun i s => ∃ wi, s = (3, [some (.ref 4), some (.ref 11), some (.int (Int32.ofInt (i : Int)))], (n, z_q im, jM wi, jL u)) ∧ (∀ c, c ≠ 5 → wi c = w c) ∧ ∀ j, j < i → wi 5 j = w 12 j) 8 (s := (3, [some (.ref 4), some (.ref 11), some (.int (Int32.ofInt 0))], (n, z_q im, jM w, jL u))) ⟨w, rfl, fun _ _ => rfl, fun j hj => absurd hj (by omega)⟩ (fun i s hi hs => by
    obtain ⟨wi, rfl, i1, i2⟩ := hs
    refine ⟨(3, [some (.ref 4), some (.ref 11), some (.int (Int32.ofInt ((i : Int) + 1)))], (n, z_q im, jM (z_u wi 5 i (w 12 i)), jL u)), z_To_1 ((e_Row_copyFrom_4_11_3 ..).trans ?_), _, rfl, fun c hc => by rw [z_u_ne hc]; exact i1 c hc, fun j hj => ?_⟩
    · rw [show Int32.ofNat 8 = Int32.ofInt 8 from rfl, if_neg (ji_le_n (by decide) (by omega) (by omega)), s_at_11 (by omega), z_oI_s, if_pos (c := 0 ≤ (i : Int) ∧ (i : Int) < 8) (by omega), if_neg (by simp (disch := omega) only [ji_lt0, ji_nat]; omega), ji_add, ji_nat (by omega), show ((i : Int)).toNat = i by omega, i1 12 (by decide)]
      simp only [jM_u]
    · rw [z_u_at]
      split
      · rename_i q; rw [q]
      · exact i2 j (by omega))
  refine ⟨wf, n_Row_copyFrom_4_11 (z_go (e_Row_copyFrom_4_11_0 ..) (ht9 _ (z_ret ((e_Row_copyFrom_4_11_3 ..).trans ?_)))), i1, i2⟩
  rw [show Int32.ofNat 8 = Int32.ofInt 8 from rfl, if_pos (ji_le_p (by decide) (by decide) (by decide))]
theorem s_rcopy_6_13 {e n : Nat} {im : Nat → Option Nat} {w u : Nat → Nat → Int} : ∃ w', (z_F (e + 2)).2.2.1 k_Row_copyFrom [.ref 6, .ref 13] (n, z_q im, jM w, jL u) = some (jM w', jL u) ∧ (∀ c, c ≠ 7 → w' c = w c) ∧ ∀ j, j < 60 → w' 7 j = w 14 j := by
  obtain ⟨t9, ht9, wf, rfl, i1, i2⟩ := z_for (o := z_F (e + 1)) (cd := cd_Row_copyFrom) (P := fun i s => ∃ wi, s = (3, [some (.ref 6), some (.ref 13), some (.int (Int32.ofInt (i : Int)))], (n, z_q im, jM wi, jL u)) ∧ (∀ c, c ≠ 7 → wi c = w c) ∧ ∀ j, j < i → wi 7 j = w 14 j) 60 (s := (3, [some (.ref 6), some (.ref 13), some (.int (Int32.ofInt 0))], (n, z_q im, jM w, jL u))) ⟨w, rfl, fun _ _ => rfl, fun j hj => absurd hj (by omega)⟩ (fun i s hi hs => by
    obtain ⟨wi, rfl, i1, i2⟩ := hs
    refine ⟨(3, [some (.ref 6), some (.ref 13), some (.int (Int32.ofInt ((i : Int) + 1)))], (n, z_q im, jM (z_u wi 7 i (w 14 i)), jL u)), z_To_1 ((e_Row_copyFrom_6_13_3 ..).trans ?_), _, rfl, fun c hc => by rw [z_u_ne hc]; exact i1 c hc, fun j hj => ?_⟩
    · rw [show Int32.ofNat 60 = Int32.ofInt 60 from rfl, if_neg (ji_le_n (by decide) (by omega) (by omega)), s_at_13 (by omega), z_oI_s, if_pos (c := 0 ≤ (i : Int) ∧ (i : Int) < 60) (by omega), if_neg (by simp (disch := omega) only [ji_lt0, ji_nat]; omega), ji_add, ji_nat (by omega), show ((i : Int)).toNat = i by omega, i1 14 (by decide)]
      simp only [jM_u]
    · rw [z_u_at]
      split
      · rename_i q; rw [q]
      · exact i2 j (by omega))
  refine ⟨wf, n_Row_copyFrom_6_13 (z_go (e_Row_copyFrom_6_13_0 ..) (ht9 _ (z_ret ((e_Row_copyFrom_6_13_3 ..).trans ?_)))), i1, i2⟩
  rw [show Int32.ofNat 60 = Int32.ofInt 60 from rfl, if_pos (ji_le_p (by decide) (by decide) (by decide))]
theorem s_rcopy_8_15 {e n : Nat} {im : Nat → Option Nat} {w u : Nat → Nat → Int} : ∃ w', (z_F (e + 2)).2.2.1 k_Row_copyFrom [.ref 8, .ref 15] (n, z_q im, jM w, jL u) = some (jM w', jL u) ∧ (∀ c, c ≠ 9 → w' c = w c) ∧ ∀ j, j < 28 → w' 9 j = w 16 j := by
  obtain ⟨t9, ht9, wf, rfl, i1, i2⟩ := z_for (o := z_F (e + 1)) (cd := cd_Row_copyFrom) (P := fun i s => ∃ wi, s = (3, [some (.ref 8), some (.ref 15), some (.int (Int32.ofInt (i : Int)))], (n, z_q im, jM wi, jL u)) ∧ (∀ c, c ≠ 9 → wi c = w c) ∧ ∀ j, j < i → wi 9 j = w 16 j) 28 (s := (3, [some (.ref 8), some (.ref 15), some (.int (Int32.ofInt 0))], (n, z_q im, jM w, jL u))) ⟨w, rfl, fun _ _ => rfl, fun j hj => absurd hj (by omega)⟩ (fun i s hi hs => by
    obtain ⟨wi, rfl, i1, i2⟩ := hs
    refine ⟨(3, [some (.ref 8), some (.ref 15), some (.int (Int32.ofInt ((i : Int) + 1)))], (n, z_q im, jM (z_u wi 9 i (w 16 i)), jL u)), z_To_1 ((e_Row_copyFrom_8_15_3 ..).trans ?_), _, rfl, fun c hc => by rw [z_u_ne hc]; exact i1 c hc, fun j hj => ?_⟩
    · rw [show Int32.ofNat 28 = Int32.ofInt 28 from rfl, if_neg (ji_le_n (by decide) (by omega) (by omega)), s_at_15 (by omega), z_oI_s, if_pos (c := 0 ≤ (i : Int) ∧ (i : Int) < 28) (by omega), if_neg (by simp (disch := omega) only [ji_lt0, ji_nat]; omega), ji_add, ji_nat (by omega), show ((i : Int)).toNat = i by omega, i1 16 (by decide)]
      simp only [jM_u]
    · rw [z_u_at]
      split
      · rename_i q; rw [q]
      · exact i2 j (by omega))
  refine ⟨wf, n_Row_copyFrom_8_15 (z_go (e_Row_copyFrom_8_15_0 ..) (ht9 _ (z_ret ((e_Row_copyFrom_8_15_3 ..).trans ?_)))), i1, i2⟩
  rw [show Int32.ofNat 28 = Int32.ofInt 28 from rfl, if_pos (ji_le_p (by decide) (by decide) (by decide))]
theorem s_hcopy_3_10 {e n : Nat} {im : Nat → Option Nat} {w u : Nat → Nat → Int} {v : Nat → Int} (h : c_h w 10 v) : ∃ w', (z_F (e + 3)).2.2.1 k_Harbour_copyFrom [.ref 3, .ref 10] (n, z_q im, jM w, jL u) = some (jM w', jL u) ∧ c_h w' 3 v ∧ ∀ c, c ≠ 3 → c ≠ 3 + 2 → c ≠ 3 + 4 → c ≠ 3 + 6 → w' c = w c := by
  obtain ⟨h0, h1, h2, h3, h4, h5, h6, h7, h8, h9, k5, k7, k9⟩ := h
  obtain ⟨w0, hw0⟩ : ∃ w0, w0 = z_u (z_u (z_u (z_u (z_u (z_u (z_u (z_u (z_u (z_u w 3 0 (w 10 0)) 3 1 (w 10 1)) 3 2 (w 10 2)) 3 3 (w 10 3)) 3 4 (w 10 4)) 3 5 (w 10 5)) 3 6 (w 10 6)) 3 7 (w 10 7)) 3 8 (w 10 8)) 3 9 (w 10 9) := ⟨_, rfl⟩
  have hne : ∀ c, c ≠ 3 → w0 c = w c := fun c hc => by rw [hw0, z_u_ne hc, z_u_ne hc, z_u_ne hc, z_u_ne hc, z_u_ne hc, z_u_ne hc, z_u_ne hc, z_u_ne hc, z_u_ne hc, z_u_ne hc]
  obtain ⟨w1, a1, a2, a3⟩ := s_rcopy_4_11 (e := e) (n := n) (im := im) (w := w0) (u := u)
  obtain ⟨w2, b1, b2, b3⟩ := s_rcopy_6_13 (e := e) (n := n) (im := im) (w := w1) (u := u)
  obtain ⟨w3, d1, d2, d3⟩ := s_rcopy_8_15 (e := e) (n := n) (im := im) (w := w2) (u := u)
  refine ⟨w3, q_Harbour_copyFrom_3_10 ?_, ⟨?_, ?_, ?_, ?_, ?_, ?_, ?_, ?_, ?_, ?_, fun j hj => ?_, fun j hj => ?_, fun j hj => ?_⟩, fun c q1 q2 q3 q4 => ?_⟩
  · simp only [jM_at, jM_u]
    rw [← hw0, a1, z_oV_s, b1, z_oV_s, d1, z_oV_s]
  · rw [d2 3 (by decide), b2 3 (by decide), a2 3 (by decide), hw0]; exact h0
  · rw [d2 3 (by decide), b2 3 (by decide), a2 3 (by decide), hw0]; exact h1
  · rw [d2 3 (by decide), b2 3 (by decide), a2 3 (by decide), hw0]; exact h2
  · rw [d2 3 (by decide), b2 3 (by decide), a2 3 (by decide), hw0]; exact h3
  · rw [d2 3 (by decide), b2 3 (by decide), a2 3 (by decide), hw0]; exact h4
  · rw [d2 3 (by decide), b2 3 (by decide), a2 3 (by decide), hw0]; exact h5
  · rw [d2 3 (by decide), b2 3 (by decide), a2 3 (by decide), hw0]; exact h6
  · rw [d2 3 (by decide), b2 3 (by decide), a2 3 (by decide), hw0]; exact h7
  · rw [d2 3 (by decide), b2 3 (by decide), a2 3 (by decide), hw0]; exact h8
  · rw [d2 3 (by decide), b2 3 (by decide), a2 3 (by decide), hw0]; exact h9
  · show w3 5 j = _
    rw [d2 5 (by decide), b2 5 (by decide), a3 j hj, hne 12 (by decide)]; exact k5 j hj
  · show w3 7 j = _
    rw [d2 7 (by decide), b3 j hj, a2 14 (by decide), hne 14 (by decide)]; exact k7 j hj
  · show w3 9 j = _
    rw [d3 j hj, b2 16 (by decide), a2 16 (by decide), hne 16 (by decide)]; exact k9 j hj
  · rw [d2 c q4, b2 c q3, a2 c q2, hne c q1]
theorem s_rcopy_4_66 {e n : Nat} {im : Nat → Option Nat} {w u : Nat → Nat → Int} : ∃ w', (z_F (e + 2)).2.2.1 k_Row_copyFrom [.ref 4, .ref 66] (n, z_q (z_h 65 im), jM w, jL u) = some (jM w', jL u) ∧ (∀ c, c ≠ 5 → w' c = w c) ∧ ∀ j, j < 8 → w' 5 j = w 67 j := by
  obtain ⟨t9, ht9, wf, rfl, i1, i2⟩ := z_for (o := z_F (e + 1)) (cd := cd_Row_copyFrom) (P := fun i s => ∃ wi, s = (3, [some (.ref 4), some (.ref 66), some (.int (Int32.ofInt (i : Int)))], (n, z_q (z_h 65 im), jM wi, jL u)) ∧ (∀ c, c ≠ 5 → wi c = w c) ∧ ∀ j, j < i → wi 5 j = w 67 j) 8 (s := (3, [some (.ref 4), some (.ref 66), some (.int (Int32.ofInt 0))], (n, z_q (z_h 65 im), jM w, jL u))) ⟨w, rfl, fun _ _ => rfl, fun j hj => absurd hj (by omega)⟩ (fun i s hi hs => by
    obtain ⟨wi, rfl, i1, i2⟩ := hs
    refine ⟨(3, [some (.ref 4), some (.ref 66), some (.int (Int32.ofInt ((i : Int) + 1)))], (n, z_q (z_h 65 im), jM (z_u wi 5 i (w 67 i)), jL u)), z_To_1 ((e_Row_copyFrom_4_66_3 ..).trans ?_), _, rfl, fun c hc => by rw [z_u_ne hc]; exact i1 c hc, fun j hj => ?_⟩
    · rw [show Int32.ofNat 8 = Int32.ofInt 8 from rfl, if_neg (ji_le_n (by decide) (by omega) (by omega)), s_at_66 (by omega), z_oI_s, if_pos (c := 0 ≤ (i : Int) ∧ (i : Int) < 8) (by omega), if_neg (by simp (disch := omega) only [ji_lt0, ji_nat]; omega), ji_add, ji_nat (by omega), show ((i : Int)).toNat = i by omega, i1 67 (by decide)]
      simp only [jM_u]
    · rw [z_u_at]
      split
      · rename_i q; rw [q]
      · exact i2 j (by omega))
  refine ⟨wf, n_Row_copyFrom_4_66 (z_go (e_Row_copyFrom_4_66_0 ..) (ht9 _ (z_ret ((e_Row_copyFrom_4_66_3 ..).trans ?_)))), i1, i2⟩
  rw [show Int32.ofNat 8 = Int32.ofInt 8 from rfl, if_pos (ji_le_p (by decide) (by decide) (by decide))]
theorem s_rcopy_6_68 {e n : Nat} {im : Nat → Option Nat} {w u : Nat → Nat → Int} : ∃ w', (z_F (e + 2)).2.2.1 k_Row_copyFrom [.ref 6, .ref 68] (n, z_q (z_h 65 im), jM w, jL u) = some (jM w', jL u) ∧ (∀ c, c ≠ 7 → w' c = w c) ∧ ∀ j, j < 60 → w' 7 j = w 69 j := by
  obtain ⟨t9, ht9, wf, rfl, i1, i2⟩ := z_for (o := z_F (e + 1)) (cd := cd_Row_copyFrom) (P := fun i s => ∃ wi, s = (3, [some (.ref 6), some (.ref 68), some (.int (Int32.ofInt (i : Int)))], (n, z_q (z_h 65 im), jM wi, jL u)) ∧ (∀ c, c ≠ 7 → wi c = w c) ∧ ∀ j, j < i → wi 7 j = w 69 j) 60 (s := (3, [some (.ref 6), some (.ref 68), some (.int (Int32.ofInt 0))], (n, z_q (z_h 65 im), jM w, jL u))) ⟨w, rfl, fun _ _ => rfl, fun j hj => absurd hj (by omega)⟩ (fun i s hi hs => by
    obtain ⟨wi, rfl, i1, i2⟩ := hs
    refine ⟨(3, [some (.ref 6), some (.ref 68), some (.int (Int32.ofInt ((i : Int) + 1)))], (n, z_q (z_h 65 im), jM (z_u wi 7 i (w 69 i)), jL u)), z_To_1 ((e_Row_copyFrom_6_68_3 ..).trans ?_), _, rfl, fun c hc => by rw [z_u_ne hc]; exact i1 c hc, fun j hj => ?_⟩
    · rw [show Int32.ofNat 60 = Int32.ofInt 60 from rfl, if_neg (ji_le_n (by decide) (by omega) (by omega)), s_at_68 (by omega), z_oI_s, if_pos (c := 0 ≤ (i : Int) ∧ (i : Int) < 60) (by omega), if_neg (by simp (disch := omega) only [ji_lt0, ji_nat]; omega), ji_add, ji_nat (by omega), show ((i : Int)).toNat = i by omega, i1 69 (by decide)]
      simp only [jM_u]
    · rw [z_u_at]
      split
      · rename_i q; rw [q]
      · exact i2 j (by omega))
  refine ⟨wf, n_Row_copyFrom_6_68 (z_go (e_Row_copyFrom_6_68_0 ..) (ht9 _ (z_ret ((e_Row_copyFrom_6_68_3 ..).trans ?_)))), i1, i2⟩
  rw [show Int32.ofNat 60 = Int32.ofInt 60 from rfl, if_pos (ji_le_p (by decide) (by decide) (by decide))]
theorem s_rcopy_8_70 {e n : Nat} {im : Nat → Option Nat} {w u : Nat → Nat → Int} : ∃ w', (z_F (e + 2)).2.2.1 k_Row_copyFrom [.ref 8, .ref 70] (n, z_q (z_h 65 im), jM w, jL u) = some (jM w', jL u) ∧ (∀ c, c ≠ 9 → w' c = w c) ∧ ∀ j, j < 28 → w' 9 j = w 71 j := by
  obtain ⟨t9, ht9, wf, rfl, i1, i2⟩ := z_for (o := z_F (e + 1)) (cd := cd_Row_copyFrom) (P := fun i s => ∃ wi, s = (3, [some (.ref 8), some (.ref 70), some (.int (Int32.ofInt (i : Int)))], (n, z_q (z_h 65 im), jM wi, jL u)) ∧ (∀ c, c ≠ 9 → wi c = w c) ∧ ∀ j, j < i → wi 9 j = w 71 j) 28 (s := (3, [some (.ref 8), some (.ref 70), some (.int (Int32.ofInt 0))], (n, z_q (z_h 65 im), jM w, jL u))) ⟨w, rfl, fun _ _ => rfl, fun j hj => absurd hj (by omega)⟩ (fun i s hi hs => by
    obtain ⟨wi, rfl, i1, i2⟩ := hs
    refine ⟨(3, [some (.ref 8), some (.ref 70), some (.int (Int32.ofInt ((i : Int) + 1)))], (n, z_q (z_h 65 im), jM (z_u wi 9 i (w 71 i)), jL u)), z_To_1 ((e_Row_copyFrom_8_70_3 ..).trans ?_), _, rfl, fun c hc => by rw [z_u_ne hc]; exact i1 c hc, fun j hj => ?_⟩
    · rw [show Int32.ofNat 28 = Int32.ofInt 28 from rfl, if_neg (ji_le_n (by decide) (by omega) (by omega)), s_at_70 (by omega), z_oI_s, if_pos (c := 0 ≤ (i : Int) ∧ (i : Int) < 28) (by omega), if_neg (by simp (disch := omega) only [ji_lt0, ji_nat]; omega), ji_add, ji_nat (by omega), show ((i : Int)).toNat = i by omega, i1 71 (by decide)]
      simp only [jM_u]
    · rw [z_u_at]
      split
      · rename_i q; rw [q]
      · exact i2 j (by omega))
  refine ⟨wf, n_Row_copyFrom_8_70 (z_go (e_Row_copyFrom_8_70_0 ..) (ht9 _ (z_ret ((e_Row_copyFrom_8_70_3 ..).trans ?_)))), i1, i2⟩
  rw [show Int32.ofNat 28 = Int32.ofInt 28 from rfl, if_pos (ji_le_p (by decide) (by decide) (by decide))]
theorem s_hcopy_3_65 {e n : Nat} {im : Nat → Option Nat} {w u : Nat → Nat → Int} {v : Nat → Int} (h : c_h w 65 v) : ∃ w', (z_F (e + 3)).2.2.1 k_Harbour_copyFrom [.ref 3, .ref 65] (n, z_q (z_h 65 im), jM w, jL u) = some (jM w', jL u) ∧ c_h w' 3 v ∧ ∀ c, c ≠ 3 → c ≠ 3 + 2 → c ≠ 3 + 4 → c ≠ 3 + 6 → w' c = w c := by
  obtain ⟨h0, h1, h2, h3, h4, h5, h6, h7, h8, h9, k5, k7, k9⟩ := h
  obtain ⟨w0, hw0⟩ : ∃ w0, w0 = z_u (z_u (z_u (z_u (z_u (z_u (z_u (z_u (z_u (z_u w 3 0 (w 65 0)) 3 1 (w 65 1)) 3 2 (w 65 2)) 3 3 (w 65 3)) 3 4 (w 65 4)) 3 5 (w 65 5)) 3 6 (w 65 6)) 3 7 (w 65 7)) 3 8 (w 65 8)) 3 9 (w 65 9) := ⟨_, rfl⟩
  have hne : ∀ c, c ≠ 3 → w0 c = w c := fun c hc => by rw [hw0, z_u_ne hc, z_u_ne hc, z_u_ne hc, z_u_ne hc, z_u_ne hc, z_u_ne hc, z_u_ne hc, z_u_ne hc, z_u_ne hc, z_u_ne hc]
  obtain ⟨w1, a1, a2, a3⟩ := s_rcopy_4_66 (e := e) (n := n) (im := im) (w := w0) (u := u)
  obtain ⟨w2, b1, b2, b3⟩ := s_rcopy_6_68 (e := e) (n := n) (im := im) (w := w1) (u := u)
  obtain ⟨w3, d1, d2, d3⟩ := s_rcopy_8_70 (e := e) (n := n) (im := im) (w := w2) (u := u)
  refine ⟨w3, q_Harbour_copyFrom_3_65 ?_, ⟨?_, ?_, ?_, ?_, ?_, ?_, ?_, ?_, ?_, ?_, fun j hj => ?_, fun j hj => ?_, fun j hj => ?_⟩, fun c q1 q2 q3 q4 => ?_⟩
  · simp only [jM_at, jM_u]
    rw [← hw0, a1, z_oV_s, b1, z_oV_s, d1, z_oV_s]
  · rw [d2 3 (by decide), b2 3 (by decide), a2 3 (by decide), hw0]; exact h0
  · rw [d2 3 (by decide), b2 3 (by decide), a2 3 (by decide), hw0]; exact h1
  · rw [d2 3 (by decide), b2 3 (by decide), a2 3 (by decide), hw0]; exact h2
  · rw [d2 3 (by decide), b2 3 (by decide), a2 3 (by decide), hw0]; exact h3
  · rw [d2 3 (by decide), b2 3 (by decide), a2 3 (by decide), hw0]; exact h4
  · rw [d2 3 (by decide), b2 3 (by decide), a2 3 (by decide), hw0]; exact h5
  · rw [d2 3 (by decide), b2 3 (by decide), a2 3 (by decide), hw0]; exact h6
  · rw [d2 3 (by decide), b2 3 (by decide), a2 3 (by decide), hw0]; exact h7
  · rw [d2 3 (by decide), b2 3 (by decide), a2 3 (by decide), hw0]; exact h8
  · rw [d2 3 (by decide), b2 3 (by decide), a2 3 (by decide), hw0]; exact h9
  · show w3 5 j = _
    rw [d2 5 (by decide), b2 5 (by decide), a3 j hj, hne 67 (by decide)]; exact k5 j hj
  · show w3 7 j = _
    rw [d2 7 (by decide), b3 j hj, a2 69 (by decide), hne 69 (by decide)]; exact k7 j hj
  · show w3 9 j = _
    rw [d3 j hj, b2 71 (by decide), a2 71 (by decide), hne 71 (by decide)]; exact k9 j hj
  · rw [d2 c q4, b2 c q3, a2 c q2, hne c q1]
theorem s_rcopy_4_73 {e n : Nat} {im : Nat → Option Nat} {w u : Nat → Nat → Int} : ∃ w', (z_F (e + 2)).2.2.1 k_Row_copyFrom [.ref 4, .ref 73] (n, z_q (z_h 72 im), jM w, jL u) = some (jM w', jL u) ∧ (∀ c, c ≠ 5 → w' c = w c) ∧ ∀ j, j < 8 → w' 5 j = w 74 j := by
  obtain ⟨t9, ht9, wf, rfl, i1, i2⟩ := z_for (o := z_F (e + 1)) (cd := cd_Row_copyFrom) (P := fun i s => ∃ wi, s = (3, [some (.ref 4), some (.ref 73), some (.int (Int32.ofInt (i : Int)))], (n, z_q (z_h 72 im), jM wi, jL u)) ∧ (∀ c, c ≠ 5 → wi c = w c) ∧ ∀ j, j < i → wi 5 j = w 74 j) 8 (s := (3, [some (.ref 4), some (.ref 73), some (.int (Int32.ofInt 0))], (n, z_q (z_h 72 im), jM w, jL u))) ⟨w, rfl, fun _ _ => rfl, fun j hj => absurd hj (by omega)⟩ (fun i s hi hs => by
    obtain ⟨wi, rfl, i1, i2⟩ := hs
    refine ⟨(3, [some (.ref 4), some (.ref 73), some (.int (Int32.ofInt ((i : Int) + 1)))], (n, z_q (z_h 72 im), jM (z_u wi 5 i (w 74 i)), jL u)), z_To_1 ((e_Row_copyFrom_4_73_3 ..).trans ?_), _, rfl, fun c hc => by rw [z_u_ne hc]; exact i1 c hc, fun j hj => ?_⟩
    · rw [show Int32.ofNat 8 = Int32.ofInt 8 from rfl, if_neg (ji_le_n (by decide) (by omega) (by omega)), s_at_73 (by omega), z_oI_s, if_pos (c := 0 ≤ (i : Int) ∧ (i : Int) < 8) (by omega), if_neg (by simp (disch := omega) only [ji_lt0, ji_nat]; omega), ji_add, ji_nat (by omega), show ((i : Int)).toNat = i by omega, i1 74 (by decide)]
      simp only [jM_u]
    · rw [z_u_at]
      split
      · rename_i q; rw [q]
      · exact i2 j (by omega))
  refine ⟨wf, n_Row_copyFrom_4_73 (z_go (e_Row_copyFrom_4_73_0 ..) (ht9 _ (z_ret ((e_Row_copyFrom_4_73_3 ..).trans ?_)))), i1, i2⟩
  rw [show Int32.ofNat 8 = Int32.ofInt 8 from rfl, if_pos (ji_le_p (by decide) (by decide) (by decide))]
theorem s_rcopy_6_75 {e n : Nat} {im : Nat → Option Nat} {w u : Nat → Nat → Int} : ∃ w', (z_F (e + 2)).2.2.1 k_Row_copyFrom [.ref 6, .ref 75] (n, z_q (z_h 72 im), jM w, jL u) = some (jM w', jL u) ∧ (∀ c, c ≠ 7 → w' c = w c) ∧ ∀ j, j < 60 → w' 7 j = w 76 j := by
  obtain ⟨t9, ht9, wf, rfl, i1, i2⟩ := z_for (o := z_F (e + 1)) (cd := cd_Row_copyFrom) (P := fun i s => ∃ wi, s = (3, [some (.ref 6), some (.ref 75), some (.int (Int32.ofInt (i : Int)))], (n, z_q (z_h 72 im), jM wi, jL u)) ∧ (∀ c, c ≠ 7 → wi c = w c) ∧ ∀ j, j < i → wi 7 j = w 76 j) 60 (s := (3, [some (.ref 6), some (.ref 75), some (.int (Int32.ofInt 0))], (n, z_q (z_h 72 im), jM w, jL u))) ⟨w, rfl, fun _ _ => rfl, fun j hj => absurd hj (by omega)⟩ (fun i s hi hs => by
    obtain ⟨wi, rfl, i1, i2⟩ := hs
    refine ⟨(3, [some (.ref 6), some (.ref 75), some (.int (Int32.ofInt ((i : Int) + 1)))], (n, z_q (z_h 72 im), jM (z_u wi 7 i (w 76 i)), jL u)), z_To_1 ((e_Row_copyFrom_6_75_3 ..).trans ?_), _, rfl, fun c hc => by rw [z_u_ne hc]; exact i1 c hc, fun j hj => ?_⟩
    · rw [show Int32.ofNat 60 = Int32.ofInt 60 from rfl, if_neg (ji_le_n (by decide) (by omega) (by omega)), s_at_75 (by omega), z_oI_s, if_pos (c := 0 ≤ (i : Int) ∧ (i : Int) < 60) (by omega), if_neg (by simp (disch := omega) only [ji_lt0, ji_nat]; omega), ji_add, ji_nat (by omega), show ((i : Int)).toNat = i by omega, i1 76 (by decide)]
      simp only [jM_u]
    · rw [z_u_at]
      split
      · rename_i q; rw [q]
      · exact i2 j (by omega))
  refine ⟨wf, n_Row_copyFrom_6_75 (z_go (e_Row_copyFrom_6_75_0 ..) (ht9 _ (z_ret ((e_Row_copyFrom_6_75_3 ..).trans ?_)))), i1, i2⟩
  rw [show Int32.ofNat 60 = Int32.ofInt 60 from rfl, if_pos (ji_le_p (by decide) (by decide) (by decide))]
theorem s_rcopy_8_77 {e n : Nat} {im : Nat → Option Nat} {w u : Nat → Nat → Int} : ∃ w', (z_F (e + 2)).2.2.1 k_Row_copyFrom [.ref 8, .ref 77] (n, z_q (z_h 72 im), jM w, jL u) = some (jM w', jL u) ∧ (∀ c, c ≠ 9 → w' c = w c) ∧ ∀ j, j < 28 → w' 9 j = w 78 j := by
  obtain ⟨t9, ht9, wf, rfl, i1, i2⟩ := z_for (o := z_F (e + 1)) (cd := cd_Row_copyFrom) (P := fun i s => ∃ wi, s = (3, [some (.ref 8), some (.ref 77), some (.int (Int32.ofInt (i : Int)))], (n, z_q (z_h 72 im), jM wi, jL u)) ∧ (∀ c, c ≠ 9 → wi c = w c) ∧ ∀ j, j < i → wi 9 j = w 78 j) 28 (s := (3, [some (.ref 8), some (.ref 77), some (.int (Int32.ofInt 0))], (n, z_q (z_h 72 im), jM w, jL u))) ⟨w, rfl, fun _ _ => rfl, fun j hj => absurd hj (by omega)⟩ (fun i s hi hs => by
    obtain ⟨wi, rfl, i1, i2⟩ := hs
    refine ⟨(3, [some (.ref 8), some (.ref 77), some (.int (Int32.ofInt ((i : Int) + 1)))], (n, z_q (z_h 72 im), jM (z_u wi 9 i (w 78 i)), jL u)), z_To_1 ((e_Row_copyFrom_8_77_3 ..).trans ?_), _, rfl, fun c hc => by rw [z_u_ne hc]; exact i1 c hc, fun j hj => ?_⟩
    · rw [show Int32.ofNat 28 = Int32.ofInt 28 from rfl, if_neg (ji_le_n (by decide) (by omega) (by omega)), s_at_77 (by omega), z_oI_s, if_pos (c := 0 ≤ (i : Int) ∧ (i : Int) < 28) (by omega), if_neg (by simp (disch := omega) only [ji_lt0, ji_nat]; omega), ji_add, ji_nat (by omega), show ((i : Int)).toNat = i by omega, i1 78 (by decide)]
      simp only [jM_u]
    · rw [z_u_at]
      split
      · rename_i q; rw [q]
      · exact i2 j (by omega))
  refine ⟨wf, n_Row_copyFrom_8_77 (z_go (e_Row_copyFrom_8_77_0 ..) (ht9 _ (z_ret ((e_Row_copyFrom_8_77_3 ..).trans ?_)))), i1, i2⟩
  rw [show Int32.ofNat 28 = Int32.ofInt 28 from rfl, if_pos (ji_le_p (by decide) (by decide) (by decide))]
theorem s_hcopy_3_72 {e n : Nat} {im : Nat → Option Nat} {w u : Nat → Nat → Int} {v : Nat → Int} (h : c_h w 72 v) : ∃ w', (z_F (e + 3)).2.2.1 k_Harbour_copyFrom [.ref 3, .ref 72] (n, z_q (z_h 72 im), jM w, jL u) = some (jM w', jL u) ∧ c_h w' 3 v ∧ ∀ c, c ≠ 3 → c ≠ 3 + 2 → c ≠ 3 + 4 → c ≠ 3 + 6 → w' c = w c := by
  obtain ⟨h0, h1, h2, h3, h4, h5, h6, h7, h8, h9, k5, k7, k9⟩ := h
  obtain ⟨w0, hw0⟩ : ∃ w0, w0 = z_u (z_u (z_u (z_u (z_u (z_u (z_u (z_u (z_u (z_u w 3 0 (w 72 0)) 3 1 (w 72 1)) 3 2 (w 72 2)) 3 3 (w 72 3)) 3 4 (w 72 4)) 3 5 (w 72 5)) 3 6 (w 72 6)) 3 7 (w 72 7)) 3 8 (w 72 8)) 3 9 (w 72 9) := ⟨_, rfl⟩
  have hne : ∀ c, c ≠ 3 → w0 c = w c := fun c hc => by rw [hw0, z_u_ne hc, z_u_ne hc, z_u_ne hc, z_u_ne hc, z_u_ne hc, z_u_ne hc, z_u_ne hc, z_u_ne hc, z_u_ne hc, z_u_ne hc]
  obtain ⟨w1, a1, a2, a3⟩ := s_rcopy_4_73 (e := e) (n := n) (im := im) (w := w0) (u := u)
  obtain ⟨w2, b1, b2, b3⟩ := s_rcopy_6_75 (e := e) (n := n) (im := im) (w := w1) (u := u)
  obtain ⟨w3, d1, d2, d3⟩ := s_rcopy_8_77 (e := e) (n := n) (im := im) (w := w2) (u := u)
  refine ⟨w3, q_Harbour_copyFrom_3_72 ?_, ⟨?_, ?_, ?_, ?_, ?_, ?_, ?_, ?_, ?_, ?_, fun j hj => ?_, fun j hj => ?_, fun j hj => ?_⟩, fun c q1 q2 q3 q4 => ?_⟩
  · simp only [jM_at, jM_u]
    rw [← hw0, a1, z_oV_s, b1, z_oV_s, d1, z_oV_s]
  · rw [d2 3 (by decide), b2 3 (by decide), a2 3 (by decide), hw0]; exact h0
  · rw [d2 3 (by decide), b2 3 (by decide), a2 3 (by decide), hw0]; exact h1
  · rw [d2 3 (by decide), b2 3 (by decide), a2 3 (by decide), hw0]; exact h2
  · rw [d2 3 (by decide), b2 3 (by decide), a2 3 (by decide), hw0]; exact h3
  · rw [d2 3 (by decide), b2 3 (by decide), a2 3 (by decide), hw0]; exact h4
  · rw [d2 3 (by decide), b2 3 (by decide), a2 3 (by decide), hw0]; exact h5
  · rw [d2 3 (by decide), b2 3 (by decide), a2 3 (by decide), hw0]; exact h6
  · rw [d2 3 (by decide), b2 3 (by decide), a2 3 (by decide), hw0]; exact h7
  · rw [d2 3 (by decide), b2 3 (by decide), a2 3 (by decide), hw0]; exact h8
  · rw [d2 3 (by decide), b2 3 (by decide), a2 3 (by decide), hw0]; exact h9
  · show w3 5 j = _
    rw [d2 5 (by decide), b2 5 (by decide), a3 j hj, hne 74 (by decide)]; exact k5 j hj
  · show w3 7 j = _
    rw [d2 7 (by decide), b3 j hj, a2 76 (by decide), hne 76 (by decide)]; exact k7 j hj
  · show w3 9 j = _
    rw [d3 j hj, b2 78 (by decide), a2 78 (by decide), hne 78 (by decide)]; exact k9 j hj
  · rw [d2 c q4, b2 c q3, a2 c q2, hne c q1]
theorem s_rcopy_4_80 {e n : Nat} {im : Nat → Option Nat} {w u : Nat → Nat → Int} : ∃ w', (z_F (e + 2)).2.2.1 k_Row_copyFrom [.ref 4, .ref 80] (n, z_q (z_h 79 im), jM w, jL u) = some (jM w', jL u) ∧ (∀ c, c ≠ 5 → w' c = w c) ∧ ∀ j, j < 8 → w' 5 j = w 81 j := by
  obtain ⟨t9, ht9, wf, rfl, i1, i2⟩ := z_for (o := z_F (e + 1)) (cd := cd_Row_copyFrom) (P := fun i s => ∃ wi, s = (3, [some (.ref 4), some (.ref 80), some (.int (Int32.ofInt (i : Int)))], (n, z_q (z_h 79 im), jM wi, jL u)) ∧ (∀ c, c ≠ 5 → wi c = w c) ∧ ∀ j, j < i → wi 5 j = w 81 j) 8 (s := (3, [some (.ref 4), some (.ref 80), some (.int (Int32.ofInt 0))], (n, z_q (z_h 79 im), jM w, jL u))) ⟨w, rfl, fun _ _ => rfl, fun j hj => absurd hj (by omega)⟩ (fun i s hi hs => by
    obtain ⟨wi, rfl, i1, i2⟩ := hs
    refine ⟨(3, [some (.ref 4), some (.ref 80), some (.int (Int32.ofInt ((i : Int) + 1)))], (n, z_q (z_h 79 im), jM (z_u wi 5 i (w 81 i)), jL u)), z_To_1 ((e_Row_copyFrom_4_80_3 ..).trans ?_), _, rfl, fun c hc => by rw [z_u_ne hc]; exact i1 c hc, fun j hj => ?_⟩
    · rw [show Int32.ofNat 8 = Int32.ofInt 8 from rfl, if_neg (ji_le_n (by decide) (by omega) (by omega)), s_at_80 (by omega), z_oI_s, if_pos (c := 0 ≤ (i : Int) ∧ (i : Int) < 8) (by omega), if_neg (by simp (disch := omega) only [ji_lt0, ji_nat]; omega), ji_add, ji_nat (by omega), show ((i : Int)).toNat = i by omega, i1 81 (by decide)]
      simp only [jM_u]
    · rw [z_u_at]
      split
      · rename_i q; rw [q]
      · exact i2 j (by omega))
  refine ⟨wf, n_Row_copyFrom_4_80 (z_go (e_Row_copyFrom_4_80_0 ..) (ht9 _ (z_ret ((e_Row_copyFrom_4_80_3 ..).trans ?_)))), i1, i2⟩
  rw [show Int32.ofNat 8 = Int32.ofInt 8 from rfl, if_pos (ji_le_p (by decide) (by decide) (by decide))]
theorem s_rcopy_6_82 {e n : Nat} {im : Nat → Option Nat} {w u : Nat → Nat → Int} : ∃ w', (z_F (e + 2)).2.2.1 k_Row_copyFrom [.ref 6, .ref 82] (n, z_q (z_h 79 im), jM w, jL u) = some (jM w', jL u) ∧ (∀ c, c ≠ 7 → w' c = w c) ∧ ∀ j, j < 60 → w' 7 j = w 83 j := by
  obtain ⟨t9, ht9, wf, rfl, i1, i2⟩ := z_for (o := z_F (e + 1)) (cd := cd_Row_copyFrom) (P := fun i s => ∃ wi, s = (3, [some (.ref 6), some (.ref 82), some (.int (Int32.ofInt (i : Int)))], (n, z_q (z_h 79 im), jM wi, jL u)) ∧ (∀ c, c ≠ 7 → wi c = w c) ∧ ∀ j, j < i → wi 7 j = w 83 j) 60 (s := (3, [some (.ref 6), some (.ref 82), some (.int (Int32.ofInt 0))], (n, z_q (z_h 79 im), jM w, jL u))) ⟨w, rfl, fun _ _ => rfl, fun j hj => absurd hj (by omega)⟩ (fun i s hi hs => by
    obtain ⟨wi, rfl, i1, i2⟩ := hs
    refine ⟨(3, [some (.ref 6), some (.ref 82), some (.int (Int32.ofInt ((i : Int) + 1)))], (n, z_q (z_h 79 im), jM (z_u wi 7 i (w 83 i)), jL u)), z_To_1 ((e_Row_copyFrom_6_82_3 ..).trans ?_), _, rfl, fun c hc => by rw [z_u_ne hc]; exact i1 c hc, fun j hj => ?_⟩
    · rw [show Int32.ofNat 60 = Int32.ofInt 60 from rfl, if_neg (ji_le_n (by decide) (by omega) (by omega)), s_at_82 (by omega), z_oI_s, if_pos (c := 0 ≤ (i : Int) ∧ (i : Int) < 60) (by omega), if_neg (by simp (disch := omega) only [ji_lt0, ji_nat]; omega), ji_add, ji_nat (by omega), show ((i : Int)).toNat = i by omega, i1 83 (by decide)]
      simp only [jM_u]
    · rw [z_u_at]
      split
      · rename_i q; rw [q]
      · exact i2 j (by omega))
  refine ⟨wf, n_Row_copyFrom_6_82 (z_go (e_Row_copyFrom_6_82_0 ..) (ht9 _ (z_ret ((e_Row_copyFrom_6_82_3 ..).trans ?_)))), i1, i2⟩
  rw [show Int32.ofNat 60 = Int32.ofInt 60 from rfl, if_pos (ji_le_p (by decide) (by decide) (by decide))]
theorem s_rcopy_8_84 {e n : Nat} {im : Nat → Option Nat} {w u : Nat → Nat → Int} : ∃ w', (z_F (e + 2)).2.2.1 k_Row_copyFrom [.ref 8, .ref 84] (n, z_q (z_h 79 im), jM w, jL u) = some (jM w', jL u) ∧ (∀ c, c ≠ 9 → w' c = w c) ∧ ∀ j, j < 28 → w' 9 j = w 85 j := by
  obtain ⟨t9, ht9, wf, rfl, i1, i2⟩ := z_for (o := z_F (e + 1)) (cd := cd_Row_copyFrom) (P := fun i s => ∃ wi, s = (3, [some (.ref 8), some (.ref 84), some (.int (Int32.ofInt (i : Int)))], (n, z_q (z_h 79 im), jM wi, jL u)) ∧ (∀ c, c ≠ 9 → wi c = w c) ∧ ∀ j, j < i → wi 9 j = w 85 j) 28 (s := (3, [some (.ref 8), some (.ref 84), some (.int (Int32.ofInt 0))], (n, z_q (z_h 79 im), jM w, jL u))) ⟨w, rfl, fun _ _ => rfl, fun j hj => absurd hj (by omega)⟩ (fun i s hi hs => by
    obtain ⟨wi, rfl, i1, i2⟩ := hs
    refine ⟨(3, [some (.ref 8), some (.ref 84), some (.int (Int32.ofInt ((i : Int) + 1)))], (n, z_q (z_h 79 im), jM (z_u wi 9 i (w 85 i)), jL u)), z_To_1 ((e_Row_copyFrom_8_84_3 ..).trans ?_), _, rfl, fun c hc => by rw [z_u_ne hc]; exact i1 c hc, fun j hj => ?_⟩
    · rw [show Int32.ofNat 28 = Int32.ofInt 28 from rfl, if_neg (ji_le_n (by decide) (by omega) (by omega)), s_at_84 (by omega), z_oI_s, if_pos (c := 0 ≤ (i : Int) ∧ (i : Int) < 28) (by omega), if_neg (by simp (disch := omega) only [ji_lt0, ji_nat]; omega), ji_add, ji_nat (by omega), show ((i : Int)).toNat = i by omega, i1 85 (by decide)]
      simp only [jM_u]
    · rw [z_u_at]
      split
      · rename_i q; rw [q]
      · exact i2 j (by omega))
  refine ⟨wf, n_Row_copyFrom_8_84 (z_go (e_Row_copyFrom_8_84_0 ..) (ht9 _ (z_ret ((e_Row_copyFrom_8_84_3 ..).trans ?_)))), i1, i2⟩
  rw [show Int32.ofNat 28 = Int32.ofInt 28 from rfl, if_pos (ji_le_p (by decide) (by decide) (by decide))]
theorem s_hcopy_3_79 {e n : Nat} {im : Nat → Option Nat} {w u : Nat → Nat → Int} {v : Nat → Int} (h : c_h w 79 v) : ∃ w', (z_F (e + 3)).2.2.1 k_Harbour_copyFrom [.ref 3, .ref 79] (n, z_q (z_h 79 im), jM w, jL u) = some (jM w', jL u) ∧ c_h w' 3 v ∧ ∀ c, c ≠ 3 → c ≠ 3 + 2 → c ≠ 3 + 4 → c ≠ 3 + 6 → w' c = w c := by
  obtain ⟨h0, h1, h2, h3, h4, h5, h6, h7, h8, h9, k5, k7, k9⟩ := h
  obtain ⟨w0, hw0⟩ : ∃ w0, w0 = z_u (z_u (z_u (z_u (z_u (z_u (z_u (z_u (z_u (z_u w 3 0 (w 79 0)) 3 1 (w 79 1)) 3 2 (w 79 2)) 3 3 (w 79 3)) 3 4 (w 79 4)) 3 5 (w 79 5)) 3 6 (w 79 6)) 3 7 (w 79 7)) 3 8 (w 79 8)) 3 9 (w 79 9) := ⟨_, rfl⟩
  have hne : ∀ c, c ≠ 3 → w0 c = w c := fun c hc => by rw [hw0, z_u_ne hc, z_u_ne hc, z_u_ne hc, z_u_ne hc, z_u_ne hc, z_u_ne hc, z_u_ne hc, z_u_ne hc, z_u_ne hc, z_u_ne hc]
  obtain ⟨w1, a1, a2, a3⟩ := s_rcopy_4_80 (e := e) (n := n) (im := im) (w := w0) (u := u)
  obtain ⟨w2, b1, b2, b3⟩ := s_rcopy_6_82 (e := e) (n := n) (im := im) (w := w1) (u := u)
  obtain ⟨w3, d1, d2, d3⟩ := s_rcopy_8_84 (e := e) (n := n) (im := im) (w := w2) (u := u)
  refine ⟨w3, q_Harbour_copyFrom_3_79 ?_, ⟨?_, ?_, ?_, ?_, ?_, ?_, ?_, ?_, ?_, ?_, fun j hj => ?_, fun j hj => ?_, fun j hj => ?_⟩, fun c q1 q2 q3 q4 => ?_⟩
  · simp only [jM_at, jM_u]
    rw [← hw0, a1, z_oV_s, b1, z_oV_s, d1, z_oV_s]
  · rw [d2 3 (by decide), b2 3 (by decide), a2 3 (by decide), hw0]; exact h0
  · rw [d2 3 (by decide), b2 3 (by decide), a2 3 (by decide), hw0]; exact h1
  · rw [d2 3 (by decide), b2 3 (by decide), a2 3 (by decide), hw0]; exact h2
  · rw [d2 3 (by decide), b2 3 (by decide), a2 3 (by decide), hw0]; exact h3
  · rw [d2 3 (by decide), b2 3 (by decide), a2 3 (by decide), hw0]; exact h4
  · rw [d2 3 (by decide), b2 3 (by decide), a2 3 (by decide), hw0]; exact h5
  · rw [d2 3 (by decide), b2 3 (by decide), a2 3 (by decide), hw0]; exact h6
  · rw [d2 3 (by decide), b2 3 (by decide), a2 3 (by decide), hw0]; exact h7
  · rw [d2 3 (by decide), b2 3 (by decide), a2 3 (by decide), hw0]; exact h8
  · rw [d2 3 (by decide), b2 3 (by decide), a2 3 (by decide), hw0]; exact h9
  · show w3 5 j = _
    rw [d2 5 (by decide), b2 5 (by decide), a3 j hj, hne 81 (by decide)]; exact k5 j hj
  · show w3 7 j = _
    rw [d2 7 (by decide), b3 j hj, a2 83 (by decide), hne 83 (by decide)]; exact k7 j hj
  · show w3 9 j = _
    rw [d3 j hj, b2 85 (by decide), a2 85 (by decide), hne 85 (by decide)]; exact k9 j hj
  · rw [d2 c q4, b2 c q3, a2 c q2, hne c q1]
theorem s_rcopy_66_4 {e n : Nat} {im : Nat → Option Nat} {w u : Nat → Nat → Int} : ∃ w', (z_F (e + 2)).2.2.1 k_Row_copyFrom [.ref 66, .ref 4] (n, z_q (z_h 65 im), jM w, jL u) = some (jM w', jL u) ∧ (∀ c, c ≠ 67 → w' c = w c) ∧ ∀ j, j < 8 → w' 67 j = w 5 j := by
  obtain ⟨t9, ht9, wf, rfl, i1, i2⟩ := z_for (o := z_F (e + 1)) (cd := cd_Row_copyFrom) (P := fun i s => ∃ wi, s = (3, [some (.ref 66), some (.ref 4), some (.int (Int32.ofInt (i : Int)))], (n, z_q (z_h 65 im), jM wi, jL u)) ∧ (∀ c, c ≠ 67 → wi c = w c) ∧ ∀ j, j < i → wi 67 j = w 5 j) 8 (s := (3, [some (.ref 66), some (.ref 4), some (.int (Int32.ofInt 0))], (n, z_q (z_h 65 im), jM w, jL u))) ⟨w, rfl, fun _ _ => rfl, fun j hj => absurd hj (by omega)⟩ (fun i s hi hs => by
    obtain ⟨wi, rfl, i1, i2⟩ := hs
    refine ⟨(3, [some (.ref 66), some (.ref 4), some (.int (Int32.ofInt ((i : Int) + 1)))], (n, z_q (z_h 65 im), jM (z_u wi 67 i (w 5 i)), jL u)), z_To_1 ((e_Row_copyFrom_66_4_3 ..).trans ?_), _, rfl, fun c hc => by rw [z_u_ne hc]; exact i1 c hc, fun j hj => ?_⟩
    · rw [show Int32.ofNat 8 = Int32.ofInt 8 from rfl, if_neg (ji_le_n (by decide) (by omega) (by omega)), s_at_4 (by omega), z_oI_s, if_pos (c := 0 ≤ (i : Int) ∧ (i : Int) < 8) (by omega), if_neg (by simp (disch := omega) only [ji_lt0, ji_nat]; omega), ji_add, ji_nat (by omega), show ((i : Int)).toNat = i by omega, i1 5 (by decide)]
      simp only [jM_u]
    · rw [z_u_at]
      split
      · rename_i q; rw [q]
      · exact i2 j (by omega))
  refine ⟨wf, n_Row_copyFrom_66_4 (z_go (e_Row_copyFrom_66_4_0 ..) (ht9 _ (z_ret ((e_Row_copyFrom_66_4_3 ..).trans ?_)))), i1, i2⟩
  rw [show Int32.ofNat 8 = Int32.ofInt 8 from rfl, if_pos (ji_le_p (by decide) (by decide) (by decide))]
theorem s_rcopy_68_6 {e n : Nat} {im : Nat → Option Nat} {w u : Nat → Nat → Int} : ∃ w', (z_F (e + 2)).2.2.1 k_Row_copyFrom [.ref 68, .ref 6] (n, z_q (z_h 65 im), jM w, jL u) = some (jM w', jL u) ∧ (∀ c, c ≠ 69 → w' c = w c) ∧ ∀ j, j < 60 → w' 69 j = w 7 j := by
  obtain ⟨t9, ht9, wf, rfl, i1, i2⟩ := z_for (o := z_F (e + 1)) (cd := cd_Row_copyFrom) (P := fun i s => ∃ wi, s = (3, [some (.ref 68), some (.ref 6), some (.int (Int32.ofInt (i : Int)))], (n, z_q (z_h 65 im), jM wi, jL u)) ∧ (∀ c, c ≠ 69 → wi c = w c) ∧ ∀ j, j < i → wi 69 j = w 7 j) 60 (s := (3, [some (.ref 68), some (.ref 6), some (.int (Int32.ofInt 0))], (n, z_q (z_h 65 im), jM w, jL u))) ⟨w, rfl, fun _ _ => rfl, fun j hj => absurd hj (by omega)⟩ (fun i s hi hs => by
    obtain ⟨wi, rfl, i1, i2⟩ := hs
    refine ⟨(3, [some (.ref 68), some (.ref 6), some (.int (Int32.ofInt ((i : Int) + 1)))], (n, z_q (z_h 65 im), jM (z_u wi 69 i (w 7 i)), jL u)), z_To_1 ((e_Row_copyFrom_68_6_3 ..).trans ?_), _, rfl, fun c hc => by rw [z_u_ne hc]; exact i1 c hc, fun j hj => ?_⟩
    · rw [show Int32.ofNat 60 = Int32.ofInt 60 from rfl, if_neg (ji_le_n (by decide) (by omega) (by omega)), s_at_6 (by omega), z_oI_s, if_pos (c := 0 ≤ (i : Int) ∧ (i : Int) < 60) (by omega), if_neg (by simp (disch := omega) only [ji_lt0, ji_nat]; omega), ji_add, ji_nat (by omega), show ((i : Int)).toNat = i by omega, i1 7 (by decide)]
      simp only [jM_u]
    · rw [z_u_at]
      split
      · rename_i q; rw [q]
      · exact i2 j (by omega))
  refine ⟨wf, n_Row_copyFrom_68_6 (z_go (e_Row_copyFrom_68_6_0 ..) (ht9 _ (z_ret ((e_Row_copyFrom_68_6_3 ..).trans ?_)))), i1, i2⟩
  rw [show Int32.ofNat 60 = Int32.ofInt 60 from rfl, if_pos (ji_le_p (by decide) (by decide) (by decide))]
theorem s_rcopy_70_8 {e n : Nat} {im : Nat → Option Nat} {w u : Nat → Nat → Int} : ∃ w', (z_F (e + 2)).2.2.1 k_Row_copyFrom [.ref 70, .ref 8] (n, z_q (z_h 65 im), jM w, jL u) = some (jM w', jL u) ∧ (∀ c, c ≠ 71 → w' c = w c) ∧ ∀ j, j < 28 → w' 71 j = w 9 j := by
  obtain ⟨t9, ht9, wf, rfl, i1, i2⟩ := z_for (o := z_F (e + 1)) (cd := cd_Row_copyFrom) (P := fun i s => ∃ wi, s = (3, [some (.ref 70), some (.ref 8), some (.int (Int32.ofInt (i : Int)))], (n, z_q (z_h 65 im), jM wi, jL u)) ∧ (∀ c, c ≠ 71 → wi c = w c) ∧ ∀ j, j < i → wi 71 j = w 9 j) 28 (s := (3, [some (.ref 70), some (.ref 8), some (.int (Int32.ofInt 0))], (n, z_q (z_h 65 im), jM w, jL u))) ⟨w, rfl, fun _ _ => rfl, fun j hj => absurd hj (by omega)⟩ (fun i s hi hs => by
    obtain ⟨wi, rfl, i1, i2⟩ := hs
    refine ⟨(3, [some (.ref 70), some (.ref 8), some (.int (Int32.ofInt ((i : Int) + 1)))], (n, z_q (z_h 65 im), jM (z_u wi 71 i (w 9 i)), jL u)), z_To_1 ((e_Row_copyFrom_70_8_3 ..).trans ?_), _, rfl, fun c hc => by rw [z_u_ne hc]; exact i1 c hc, fun j hj => ?_⟩
    · rw [show Int32.ofNat 28 = Int32.ofInt 28 from rfl, if_neg (ji_le_n (by decide) (by omega) (by omega)), s_at_8 (by omega), z_oI_s, if_pos (c := 0 ≤ (i : Int) ∧ (i : Int) < 28) (by omega), if_neg (by simp (disch := omega) only [ji_lt0, ji_nat]; omega), ji_add, ji_nat (by omega), show ((i : Int)).toNat = i by omega, i1 9 (by decide)]
      simp only [jM_u]
    · rw [z_u_at]
      split
      · rename_i q; rw [q]
      · exact i2 j (by omega))
  refine ⟨wf, n_Row_copyFrom_70_8 (z_go (e_Row_copyFrom_70_8_0 ..) (ht9 _ (z_ret ((e_Row_copyFrom_70_8_3 ..).trans ?_)))), i1, i2⟩
  rw [show Int32.ofNat 28 = Int32.ofInt 28 from rfl, if_pos (ji_le_p (by decide) (by decide) (by decide))]
theorem s_hcopy_65_3 {e n : Nat} {im : Nat → Option Nat} {w u : Nat → Nat → Int} {v : Nat → Int} (h : c_h w 3 v) : ∃ w', (z_F (e + 3)).2.2.1 k_Harbour_copyFrom [.ref 65, .ref 3] (n, z_q (z_h 65 im), jM w, jL u) = some (jM w', jL u) ∧ c_h w' 65 v ∧ ∀ c, c ≠ 65 → c ≠ 65 + 2 → c ≠ 65 + 4 → c ≠ 65 + 6 → w' c = w c := by
  obtain ⟨h0, h1, h2, h3, h4, h5, h6, h7, h8, h9, k5, k7, k9⟩ := h
  obtain ⟨w0, hw0⟩ : ∃ w0, w0 = z_u (z_u (z_u (z_u (z_u (z_u (z_u (z_u (z_u (z_u w 65 0 (w 3 0)) 65 1 (w 3 1)) 65 2 (w 3 2)) 65 3 (w 3 3)) 65 4 (w 3 4)) 65 5 (w 3 5)) 65 6 (w 3 6)) 65 7 (w 3 7)) 65 8 (w 3 8)) 65 9 (w 3 9) := ⟨_, rfl⟩
  have hne : ∀ c, c ≠ 65 → w0 c = w c := fun c hc => by rw [hw0, z_u_ne hc, z_u_ne hc, z_u_ne hc, z_u_ne hc, z_u_ne hc, z_u_ne hc, z_u_ne hc, z_u_ne hc, z_u_ne hc, z_u_ne hc]
  obtain ⟨w1, a1, a2, a3⟩ := s_rcopy_66_4 (e := e) (n := n) (im := im) (w := w0) (u := u)
  obtain ⟨w2, b1, b2, b3⟩ := s_rcopy_68_6 (e := e) (n := n) (im := im) (w := w1) (u := u)
  obtain ⟨w3, d1, d2, d3⟩ := s_rcopy_70_8 (e := e) (n := n) (im := im) (w := w2) (u := u)
  refine ⟨w3, q_Harbour_copyFrom_65_3 ?_, ⟨?_, ?_, ?_, ?_, ?_, ?_, ?_, ?_, ?_, ?_, fun j hj => ?_, fun j hj => ?_, fun j hj => ?_⟩, fun c q1 q2 q3 q4 => ?_⟩
  · simp only [jM_at, jM_u]
    rw [← hw0, a1, z_oV_s, b1, z_oV_s, d1, z_oV_s]
  · rw [d2 65 (by decide), b2 65 (by decide), a2 65 (by decide), hw0]; exact h0
  · rw [d2 65 (by decide), b2 65 (by decide), a2 65 (by decide), hw0]; exact h1
  · rw [d2 65 (by decide), b2 65 (by decide), a2 65 (by decide), hw0]; exact h2
  · rw [d2 65 (by decide), b2 65 (by decide), a2 65 (by decide), hw0]; exact h3
  · rw [d2 65 (by decide), b2 65 (by decide), a2 65 (by decide), hw0]; exact h4
  · rw [d2 65 (by decide), b2 65 (by decide), a2 65 (by decide), hw0]; exact h5
  · rw [d2 65 (by decide), b2 65 (by decide), a2 65 (by decide), hw0]; exact h6
  · rw [d2 65 (by decide), b2 65 (by decide), a2 65 (by decide), hw0]; exact h7
  · rw [d2 65 (by decide), b2 65 (by decide), a2 65 (by decide), hw0]; exact h8
  · rw [d2 65 (by decide), b2 65 (by decide), a2 65 (by decide), hw0]; exact h9
  · show w3 67 j = _
    rw [d2 67 (by decide), b2 67 (by decide), a3 j hj, hne 5 (by decide)]; exact k5 j hj
  · show w3 69 j = _
    rw [d2 69 (by decide), b3 j hj, a2 7 (by decide), hne 7 (by decide)]; exact k7 j hj
  · show w3 71 j = _
    rw [d3 j hj, b2 9 (by decide), a2 9 (by decide), hne 9 (by decide)]; exact k9 j hj
  · rw [d2 c q4, b2 c q3, a2 c q2, hne c q1]
theorem s_rcopy_73_4 {e n : Nat} {im : Nat → Option Nat} {w u : Nat → Nat → Int} : ∃ w', (z_F (e + 2)).2.2.1 k_Row_copyFrom [.ref 73, .ref 4] (n, z_q (z_h 72 im), jM w, jL u) = some (jM w', jL u) ∧ (∀ c, c ≠ 74 → w' c = w c) ∧ ∀ j, j < 8 → w' 74 j = w 5 j := by
  obtain ⟨t9, ht9, wf, rfl, i1, i2⟩ := z_for (o := z_F (e + 1)) (cd := cd_Row_copyFrom) (P := fun i s => ∃ wi, s = (3, [some (.ref 73), some (.ref 4), some (.int (Int32.ofInt (i : Int)))], (n, z_q (z_h 72 im), jM wi, jL u)) ∧ (∀ c, c ≠ 74 → wi c = w c) ∧ ∀ j, j < i → wi 74 j = w 5 j) 8 (s := (3, [some (.ref 73), some (.ref 4), some (.int (Int32.ofInt 0))], (n, z_q (z_h 72 im), jM w, jL u))) ⟨w, rfl, fun _ _ => rfl, fun j hj => absurd hj (by omega)⟩ (fun i s hi hs => by
    obtain ⟨wi, rfl, i1, i2⟩ := hs
    refine ⟨(3, [some (.ref 73), some (.ref 4), some (.int (Int32.ofInt ((i : Int) + 1)))], (n, z_q (z_h 72 im), jM (z_u wi 74 i (w 5 i)), jL u)), z_To_1 ((e_Row_copyFrom_73_4_3 ..).trans ?_), _, rfl, fun c hc => by rw [z_u_ne hc]; exact i1 c hc, fun j hj => ?_⟩
    · rw [show Int32.ofNat 8 = Int32.ofInt 8 from rfl, if_neg (ji_le_n (by decide) (by omega) (by omega)), s_at_4 (by omega), z_oI_s, if_pos (c := 0 ≤ (i : Int) ∧ (i : Int) < 8) (by omega), if_neg (by simp (disch := omega) only [ji_lt0, ji_nat]; omega), ji_add, ji_nat (by omega), show ((i : Int)).toNat = i by omega, i1 5 (by decide)]
      simp only [jM_u]
    · rw [z_u_at]
      split
      · rename_i q; rw [q]
      · exact i2 j (by omega))
  refine ⟨wf, n_Row_copyFrom_73_4 (z_go (e_Row_copyFrom_73_4_0 ..) (ht9 _ (z_ret ((e_Row_copyFrom_73_4_3 ..).trans ?_)))), i1, i2⟩
  rw [show Int32.ofNat 8 = Int32.ofInt 8 from rfl, if_pos (ji_le_p (by decide) (by decide) (by decide))]
theorem s_rcopy_75_6 {e n : Nat} {im : Nat → Option Nat} {w u : Nat → Nat → Int} : ∃ w', (z_F (e + 2)).2.2.1 k_Row_copyFrom [.ref 75, .ref 6] (n, z_q (z_h 72 im), jM w, jL u) = some (jM w', jL u) ∧ (∀ c, c ≠ 76 → w' c = w c) ∧ ∀ j, j < 60 → w' 76 j = w 7 j := by
  obtain ⟨t9, ht9, wf, rfl, i1, i2⟩ := z_for (o := z_F (e + 1)) (cd := cd_Row_copyFrom) (P := fun i s => ∃ wi, s = (3, [some (.ref 75), some (.ref 6), some (.int (Int32.ofInt (i : Int)))], (n, z_q (z_h 72 im), jM wi, jL u)) ∧ (∀ c, c ≠ 76 → wi c = w c) ∧ ∀ j, j < i → wi 76 j = w 7 j) 60 (s := (3, [some (.ref 75), some (.ref 6), some (.int (Int32.ofInt 0))], (n, z_q (z_h 72 im), jM w, jL u))) ⟨w, rfl, fun _ _ => rfl, fun j hj => absurd hj (by omega)⟩ (fun i s hi hs => by
    obtain ⟨wi, rfl, i1, i2⟩ := hs
    refine ⟨(3, [some (.ref 75), some (.ref 6), some (.int (Int32.ofInt ((i : Int) + 1)))], (n, z_q (z_h 72 im), jM (z_u wi 76 i (w 7 i)), jL u)), z_To_1 ((e_Row_copyFrom_75_6_3 ..).trans ?_), _, rfl, fun c hc => by rw [z_u_ne hc]; exact i1 c hc, fun j hj => ?_⟩
    · rw [show Int32.ofNat 60 = Int32.ofInt 60 from rfl, if_neg (ji_le_n (by decide) (by omega) (by omega)), s_at_6 (by omega), z_oI_s, if_pos (c := 0 ≤ (i : Int) ∧ (i : Int) < 60) (by omega), if_neg (by simp (disch := omega) only [ji_lt0, ji_nat]; omega), ji_add, ji_nat (by omega), show ((i : Int)).toNat = i by omega, i1 7 (by decide)]
      simp only [jM_u]
    · rw [z_u_at]
      split
      · rename_i q; rw [q]
      · exact i2 j (by omega))
  refine ⟨wf, n_Row_copyFrom_75_6 (z_go (e_Row_copyFrom_75_6_0 ..) (ht9 _ (z_ret ((e_Row_copyFrom_75_6_3 ..).trans ?_)))), i1, i2⟩
  rw [show Int32.ofNat 60 = Int32.ofInt 60 from rfl, if_pos (ji_le_p (by decide) (by decide) (by decide))]
theorem s_rcopy_77_8 {e n : Nat} {im : Nat → Option Nat} {w u : Nat → Nat → Int} : ∃ w', (z_F (e + 2)).2.2.1 k_Row_copyFrom [.ref 77, .ref 8] (n, z_q (z_h 72 im), jM w, jL u) = some (jM w', jL u) ∧ (∀ c, c ≠ 78 → w' c = w c) ∧ ∀ j, j < 28 → w' 78 j = w 9 j := by
  obtain ⟨t9, ht9, wf, rfl, i1, i2⟩ := z_for (o := z_F (e + 1)) (cd := cd_Row_copyFrom) (P := fun i s => ∃ wi, s = (3, [some (.ref 77), some (.ref 8), some (.int (Int32.ofInt (i : Int)))], (n, z_q (z_h 72 im), jM wi, jL u)) ∧ (∀ c, c ≠ 78 → wi c = w c) ∧ ∀ j, j < i → wi 78 j = w 9 j) 28 (s := (3, [some (.ref 77), some (.ref 8), some (.int (Int32.ofInt 0))], (n, z_q (z_h 72 im), jM w, jL u))) ⟨w, rfl, fun _ _ => rfl, fun j hj => absurd hj (by omega)⟩ (fun i s hi hs => by
    obtain ⟨wi, rfl, i1, i2⟩ := hs
    refine ⟨(3, [some (.ref 77), some (.ref 8), some (.int (Int32.ofInt ((i : Int) + 1)))], (n, z_q (z_h 72 im), jM (z_u wi 78 i (w 9 i)), jL u)), z_To_1 ((e_Row_copyFrom_77_8_3 ..).trans ?_), _, rfl, fun c hc => by rw [z_u_ne hc]; exact i1 c hc, fun j hj => ?_⟩
    · rw [show Int32.ofNat 28 = Int32.ofInt 28 from rfl, if_neg (ji_le_n (by decide) (by omega) (by omega)), s_at_8 (by omega), z_oI_s, if_pos (c := 0 ≤ (i : Int) ∧ (i : Int) < 28) (by omega), if_neg (by simp (disch := omega) only [ji_lt0, ji_nat]; omega), ji_add, ji_nat (by omega), show ((i : Int)).toNat = i by omega, i1 9 (by decide)]
      simp only [jM_u]
    · rw [z_u_at]
      split
      · rename_i q; rw [q]
      · exact i2 j (by omega))
  refine ⟨wf, n_Row_copyFrom_77_8 (z_go (e_Row_copyFrom_77_8_0 ..) (ht9 _ (z_ret ((e_Row_copyFrom_77_8_3 ..).trans ?_)))), i1, i2⟩
  rw [show Int32.ofNat 28 = Int32.ofInt 28 from rfl, if_pos (ji_le_p (by decide) (by decide) (by decide))]
theorem s_hcopy_72_3 {e n : Nat} {im : Nat → Option Nat} {w u : Nat → Nat → Int} {v : Nat → Int} (h : c_h w 3 v) : ∃ w', (z_F (e + 3)).2.2.1 k_Harbour_copyFrom [.ref 72, .ref 3] (n, z_q (z_h 72 im), jM w, jL u) = some (jM w', jL u) ∧ c_h w' 72 v ∧ ∀ c, c ≠ 72 → c ≠ 72 + 2 → c ≠ 72 + 4 → c ≠ 72 + 6 → w' c = w c := by
  obtain ⟨h0, h1, h2, h3, h4, h5, h6, h7, h8, h9, k5, k7, k9⟩ := h
  obtain ⟨w0, hw0⟩ : ∃ w0, w0 = z_u (z_u (z_u (z_u (z_u (z_u (z_u (z_u (z_u (z_u w 72 0 (w 3 0)) 72 1 (w 3 1)) 72 2 (w 3 2)) 72 3 (w 3 3)) 72 4 (w 3 4)) 72 5 (w 3 5)) 72 6 (w 3 6)) 72 7 (w 3 7)) 72 8 (w 3 8)) 72 9 (w 3 9) := ⟨_, rfl⟩
  have hne : ∀ c, c ≠ 72 → w0 c = w c := fun c hc => by rw [hw0, z_u_ne hc, z_u_ne hc, z_u_ne hc, z_u_ne hc, z_u_ne hc, z_u_ne hc, z_u_ne hc, z_u_ne hc, z_u_ne hc, z_u_ne hc]
  obtain ⟨w1, a1, a2, a3⟩ := s_rcopy_73_4 (e := e) (n := n) (im := im) (w := w0) (u := u)
  obtain ⟨w2, b1, b2, b3⟩ := s_rcopy_75_6 (e := e) (n := n) (im := im) (w := w1) (u := u)
  obtain ⟨w3, d1, d2, d3⟩ := s_rcopy_77_8 (e := e) (n := n) (im := im) (w := w2) (u := u)
  refine ⟨w3, q_Harbour_copyFrom_72_3 ?_, ⟨?_, ?_, ?_, ?_, ?_, ?_, ?_, ?_, ?_, ?_, fun j hj => ?_, fun j hj => ?_, fun j hj => ?_⟩, fun c q1 q2 q3 q4 => ?_⟩
  · simp only [jM_at, jM_u]
    rw [← hw0, a1, z_oV_s, b1, z_oV_s, d1, z_oV_s]
  · rw [d2 72 (by decide), b2 72 (by decide), a2 72 (by decide), hw0]; exact h0
  · rw [d2 72 (by decide), b2 72 (by decide), a2 72 (by decide), hw0]; exact h1
  · rw [d2 72 (by decide), b2 72 (by decide), a2 72 (by decide), hw0]; exact h2
  · rw [d2 72 (by decide), b2 72 (by decide), a2 72 (by decide), hw0]; exact h3
  · rw [d2 72 (by decide), b2 72 (by decide), a2 72 (by decide), hw0]; exact h4
  · rw [d2 72 (by decide), b2 72 (by decide), a2 72 (by decide), hw0]; exact h5
  · rw [d2 72 (by decide), b2 72 (by decide), a2 72 (by decide), hw0]; exact h6
  · rw [d2 72 (by decide), b2 72 (by decide), a2 72 (by decide), hw0]; exact h7
  · rw [d2 72 (by decide), b2 72 (by decide), a2 72 (by decide), hw0]; exact h8
  · rw [d2 72 (by decide), b2 72 (by decide), a2 72 (by decide), hw0]; exact h9
  · show w3 74 j = _
    rw [d2 74 (by decide), b2 74 (by decide), a3 j hj, hne 5 (by decide)]; exact k5 j hj
  · show w3 76 j = _
    rw [d2 76 (by decide), b3 j hj, a2 7 (by decide), hne 7 (by decide)]; exact k7 j hj
  · show w3 78 j = _
    rw [d3 j hj, b2 9 (by decide), a2 9 (by decide), hne 9 (by decide)]; exact k9 j hj
  · rw [d2 c q4, b2 c q3, a2 c q2, hne c q1]
theorem s_rcopy_80_4 {e n : Nat} {im : Nat → Option Nat} {w u : Nat → Nat → Int} : ∃ w', (z_F (e + 2)).2.2.1 k_Row_copyFrom [.ref 80, .ref 4] (n, z_q (z_h 79 im), jM w, jL u) = some (jM w', jL u) ∧ (∀ c, c ≠ 81 → w' c = w c) ∧ ∀ j, j < 8 → w' 81 j = w 5 j := by
  obtain ⟨t9, ht9, wf, rfl, i1, i2⟩ := z_for (o := z_F (e + 1)) (cd := cd_Row_copyFrom) (P := fun i s => ∃ wi, s = (3, [some (.ref 80), some (.ref 4), some (.int (Int32.ofInt (i : Int)))], (n, z_q (z_h 79 im), jM wi, jL u)) ∧ (∀ c, c ≠ 81 → wi c = w c) ∧ ∀ j, j < i → wi 81 j = w 5 j) 8 (s := (3, [some (.ref 80), some (.ref 4), some (.int (Int32.ofInt 0))], (n, z_q (z_h 79 im), jM w, jL u))) ⟨w, rfl, fun _ _ => rfl, fun j hj => absurd hj (by omega)⟩ (fun i s hi hs => by
    obtain ⟨wi, rfl, i1, i2⟩ := hs
    refine ⟨(3, [some (.ref 80), some (.ref 4), some (.int (Int32.ofInt ((i : Int) + 1)))], (n, z_q (z_h 79 im), jM (z_u wi 81 i (w 5 i)), jL u)), z_To_1 ((e_Row_copyFrom_80_4_3 ..).trans ?_), _, rfl, fun c hc => by rw [z_u_ne hc]; exact i1 c hc, fun j hj => ?_⟩
    · rw [show Int32.ofNat 8 = Int32.ofInt 8 from rfl, if_neg (ji_le_n (by decide) (by omega) (by omega)), s_at_4 (by omega), z_oI_s, if_pos (c := 0 ≤ (i : Int) ∧ (i : Int) < 8) (by omega), if_neg (by simp (disch := omega) only [ji_lt0, ji_nat]; omega), ji_add, ji_nat (by omega), show ((i : Int)).toNat = i by omega, i1 5 (by decide)]
      simp only [jM_u]
    · rw [z_u_at]
      split
      · rename_i q; rw [q]
      · exact i2 j (by omega))
  refine ⟨wf, n_Row_copyFrom_80_4 (z_go (e_Row_copyFrom_80_4_0 ..) (ht9 _ (z_ret ((e_Row_copyFrom_80_4_3 ..).trans ?_)))), i1, i2⟩
  rw [show Int32.ofNat 8 = Int32.ofInt 8 from rfl, if_pos (ji_le_p (by decide) (by decide) (by decide))]
theorem s_rcopy_82_6 {e n : Nat} {im : Nat → Option Nat} {w u : Nat → Nat → Int} : ∃ w', (z_F (e + 2)).2.2.1 k_Row_copyFrom [.ref 82, .ref 6] (n, z_q (z_h 79 im), jM w, jL u) = some (jM w', jL u) ∧ (∀ c, c ≠ 83 → w' c = w c) ∧ ∀ j, j < 60 → w' 83 j = w 7 j := by
  obtain ⟨t9, ht9, wf, rfl, i1, i2⟩ := z_for (o := z_F (e + 1)) (cd := cd_Row_copyFrom) (P := fun i s => ∃ wi, s = (3, [some (.ref 82), some (.ref 6), some (.int (Int32.ofInt (i : Int)))], (n, z_q (z_h 79 im), jM wi, jL u)) ∧ (∀ c, c ≠ 83 → wi c = w c) ∧ ∀ j, j < i → wi 83 j = w 7 j) 60 (s := (3, [some (.ref 82), some (.ref 6), some (.int (Int32.ofInt 0))], (n, z_q (z_h 79 im), jM w, jL u))) ⟨w, rfl, fun _ _ => rfl, fun j hj => absurd hj (by omega)⟩ (fun i s hi hs => by
    obtain ⟨wi, rfl, i1, i2⟩ := hs
    refine ⟨(3, [some (.ref 82), some (.ref 6), some (.int (Int32.ofInt ((i : Int) + 1)))], (n, z_q (z_h 79 im), jM (z_u wi 83 i (w 7 i)), jL u)), z_To_1 ((e_Row_copyFrom_82_6_3 ..).trans ?_), _, rfl, fun c hc => by rw [z_u_ne hc]; exact i1 c hc, fun j hj => ?_⟩
    · rw [show Int32.ofNat 60 = Int32.ofInt 60 from rfl, if_neg (ji_le_n (by decide) (by omega) (by omega)), s_at_6 (by omega), z_oI_s, if_pos (c := 0 ≤ (i : Int) ∧ (i : Int) < 60) (by omega), if_neg (by simp (disch := omega) only [ji_lt0, ji_nat]; omega), ji_add, ji_nat (by omega), show ((i : Int)).toNat = i by omega, i1 7 (by decide)]
      simp only [jM_u]
    · rw [z_u_at]
      split
      · rename_i q; rw [q]
      · exact i2 j (by omega))
  refine ⟨wf, n_Row_copyFrom_82_6 (z_go (e_Row_copyFrom_82_6_0 ..) (ht9 _ (z_ret ((e_Row_copyFrom_82_6_3 ..).trans ?_)))), i1, i2⟩
  rw [show Int32.ofNat 60 = Int32.ofInt 60 from rfl, if_pos (ji_le_p (by decide) (by decide) (by decide))]
theorem s_rcopy_84_8 {e n : Nat} {im : Nat → Option Nat} {w u : Nat → Nat → Int} : ∃ w', (z_F (e + 2)).2.2.1 k_Row_copyFrom [.ref 84, .ref 8] (n, z_q (z_h 79 im), jM w, jL u) = some (jM w', jL u) ∧ (∀ c, c ≠ 85 → w' c = w c) ∧ ∀ j, j < 28 → w' 85 j = w 9 j := by
  obtain ⟨t9, ht9, wf, rfl, i1, i2⟩ := z_for (o := z_F (e + 1)) (cd := cd_Row_copyFrom) (P := fun i s => ∃ wi, s = (3, [some (.ref 84), some (.ref 8), some (.int (Int32.ofInt (i : Int)))], (n, z_q (z_h 79 im), jM wi, jL u)) ∧ (∀ c, c ≠ 85 → wi c = w c) ∧ ∀ j, j < i → wi 85 j = w 9 j) 28 (s := (3, [some (.ref 84), some (.ref 8), some (.int (Int32.ofInt 0))], (n, z_q (z_h 79 im), jM w, jL u))) ⟨w, rfl, fun _ _ => rfl, fun j hj => absurd hj (by omega)⟩ (fun i s hi hs => by
    obtain ⟨wi, rfl, i1, i2⟩ := hs
    refine ⟨(3, [some (.ref 84), some (.ref 8), some (.int (Int32.ofInt ((i : Int) + 1)))], (n, z_q (z_h 79 im), jM (z_u wi 85 i (w 9 i)), jL u)), z_To_1 ((e_Row_copyFrom_84_8_3 ..).trans ?_), _, rfl, fun c hc => by rw [z_u_ne hc]; exact i1 c hc, fun j hj => ?_⟩
    · rw [show Int32.ofNat 28 = Int32.ofInt 28 from rfl, if_neg (ji_le_n (by decide) (by omega) (by omega)), s_at_8 (by omega), z_oI_s, if_pos (c := 0 ≤ (i : Int) ∧ (i : Int) < 28) (by omega), if_neg (by simp (disch := omega) only [ji_lt0, ji_nat]; omega), ji_add, ji_nat (by omega), show ((i : Int)).toNat = i by omega, i1 9 (by decide)]
      simp only [jM_u]
    · rw [z_u_at]
      split
      · rename_i q; rw [q]
      · exact i2 j (by omega))
  refine ⟨wf, n_Row_copyFrom_84_8 (z_go (e_Row_copyFrom_84_8_0 ..) (ht9 _ (z_ret ((e_Row_copyFrom_84_8_3 ..).trans ?_)))), i1, i2⟩
  rw [show Int32.ofNat 28 = Int32.ofInt 28 from rfl, if_pos (ji_le_p (by decide) (by decide) (by decide))]
theorem s_hcopy_79_3 {e n : Nat} {im : Nat → Option Nat} {w u : Nat → Nat → Int} {v : Nat → Int} (h : c_h w 3 v) : ∃ w', (z_F (e + 3)).2.2.1 k_Harbour_copyFrom [.ref 79, .ref 3] (n, z_q (z_h 79 im), jM w, jL u) = some (jM w', jL u) ∧ c_h w' 79 v ∧ ∀ c, c ≠ 79 → c ≠ 79 + 2 → c ≠ 79 + 4 → c ≠ 79 + 6 → w' c = w c := by
  obtain ⟨h0, h1, h2, h3, h4, h5, h6, h7, h8, h9, k5, k7, k9⟩ := h
  obtain ⟨w0, hw0⟩ : ∃ w0, w0 = z_u (z_u (z_u (z_u (z_u (z_u (z_u (z_u (z_u (z_u w 79 0 (w 3 0)) 79 1 (w 3 1)) 79 2 (w 3 2)) 79 3 (w 3 3)) 79 4 (w 3 4)) 79 5 (w 3 5)) 79 6 (w 3 6)) 79 7 (w 3 7)) 79 8 (w 3 8)) 79 9 (w 3 9) := ⟨_, rfl⟩
  have hne : ∀ c, c ≠ 79 → w0 c = w c := fun c hc => by rw [hw0, z_u_ne hc, z_u_ne hc, z_u_ne hc, z_u_ne hc, z_u_ne hc, z_u_ne hc, z_u_ne hc, z_u_ne hc, z_u_ne hc, z_u_ne hc]
  obtain ⟨w1, a1, a2, a3⟩ := s_rcopy_80_4 (e := e) (n := n) (im := im) (w := w0) (u := u)
  obtain ⟨w2, b1, b2, b3⟩ := s_rcopy_82_6 (e := e) (n := n) (im := im) (w := w1) (u := u)
  obtain ⟨w3, d1, d2, d3⟩ := s_rcopy_84_8 (e := e) (n := n) (im := im) (w := w2) (u := u)
  refine ⟨w3, q_Harbour_copyFrom_79_3 ?_, ⟨?_, ?_, ?_, ?_, ?_, ?_, ?_, ?_, ?_, ?_, fun j hj => ?_, fun j hj => ?_, fun j hj => ?_⟩, fun c q1 q2 q3 q4 => ?_⟩
  · simp only [jM_at, jM_u]
    rw [← hw0, a1, z_oV_s, b1, z_oV_s, d1, z_oV_s]
  · rw [d2 79 (by decide), b2 79 (by decide), a2 79 (by decide), hw0]; exact h0
  · rw [d2 79 (by decide), b2 79 (by decide), a2 79 (by decide), hw0]; exact h1
  · rw [d2 79 (by decide), b2 79 (by decide), a2 79 (by decide), hw0]; exact h2
  · rw [d2 79 (by decide), b2 79 (by decide), a2 79 (by decide), hw0]; exact h3
  · rw [d2 79 (by decide), b2 79 (by decide), a2 79 (by decide), hw0]; exact h4
  · rw [d2 79 (by decide), b2 79 (by decide), a2 79 (by decide), hw0]; exact h5
  · rw [d2 79 (by decide), b2 79 (by decide), a2 79 (by decide), hw0]; exact h6
  · rw [d2 79 (by decide), b2 79 (by decide), a2 79 (by decide), hw0]; exact h7
  · rw [d2 79 (by decide), b2 79 (by decide), a2 79 (by decide), hw0]; exact h8
  · rw [d2 79 (by decide), b2 79 (by decide), a2 79 (by decide), hw0]; exact h9
  · show w3 81 j = _
    rw [d2 81 (by decide), b2 81 (by decide), a3 j hj, hne 5 (by decide)]; exact k5 j hj
  · show w3 83 j = _
    rw [d2 83 (by decide), b3 j hj, a2 7 (by decide), hne 7 (by decide)]; exact k7 j hj
  · show w3 85 j = _
    rw [d3 j hj, b2 9 (by decide), a2 9 (by decide), hne 9 (by decide)]; exact k9 j hj
  · rw [d2 c q4, b2 c q3, a2 c q2, hne c q1]
/-- the reference's images: which it has, and what -/
def I_m (w : Nat → Nat → Int) (hs : Nat → Bool) (iv : Nat → Nat → Int) : Prop := ∀ k, k < 3 → (w 48 k = if hs k then 1 else 0) ∧ (hs k = true → ∀ j, j < 106 → w 47 (106 * k + j) = iv k j)
def V_image (k : Int) : Int := if 0 ≤ k ∧ k ≤ 2 then 0 else -2
def H_image (hs : Nat → Bool) (k : Int) : Nat → Bool := fun s => if 0 ≤ k ∧ k ≤ 2 ∧ s = k.toNat then true else hs s
def J_image (iv : Nat → Nat → Int) (v : Nat → Int) (k : Int) : Nat → Nat → Int := fun s => if 0 ≤ k ∧ k ≤ 2 ∧ s = k.toNat then v else iv s
theorem m_image {e n : Nat} {im : Nat → Option Nat} {w u : Nat → Nat → Int} {hs : Nat → Bool} {iv : Nat → Nat → Int} {k : Int} (hI : I_m w hs iv) (hk : jR k) : ∃ w', (z_F (e + 20)).1 k_Model_image [.ref 45, .int (Int32.ofInt k)] (n, z_q im, jM w, jL u) = some (Int32.ofInt (V_image k), jM w', jL u) ∧ I_m w' (H_image hs k) (J_image iv (w 46) k) ∧ ∀ c, c ≠ 47 → c ≠ 48 → w' c = w c := by
  have hin : (z_F (e + 19)).1 k_Model_in [.long (Int32.toInt64 (Int32.ofInt k)), .long (z_kl 0), .long (z_kl 5)] (n, z_q im, jM w, jL u) = some (Int32.ofInt (if 0 ≤ k ∧ k ≤ 2 then 1 else 0), jM w, jL u) := by
    rw [jl_of hk, kl_0, kl_5, s_in (by omega) (by decide) (by decide)]
  unfold V_image
  by_cases q : 0 ≤ k ∧ k ≤ 2
  · rw [if_pos q]
    obtain ⟨t9, ht9, wf, rfl, i1, i2⟩ := z_for (o := z_F (e + 19)) (cd := cd_Model_image) (P := fun i s => ∃ wi, s = (11, [some (.ref 45), some (.int (Int32.ofInt k)), some (.int (Int32.ofInt (i : Int)))], (n, z_q im, jM wi, jL u)) ∧ (∀ c, c ≠ 47 → wi c = w c) ∧ ∀ j, wi 47 j = if 106 * k.toNat ≤ j ∧ j < 106 * k.toNat + i then w 46 (j - 106 * k.toNat) else w 47 j) 106 (s := (11, [some (.ref 45), some (.int (Int32.ofInt k)), some (.int (Int32.ofInt 0))], (n, z_q im, jM w, jL u))) ⟨w, rfl, fun _ _ => rfl, fun j => by rw [if_neg (by omega)]⟩ (fun i s hi hs' => by
      obtain ⟨wi, rfl, i1, i2⟩ := hs'
      have n1 : Int32.toNatClampNeg (Int32.ofInt (i : Int)) = i := (ji_nat (by omega)).trans (by omega)
      have n2 : Int32.toNatClampNeg (Int32.ofInt (106 * k + (i : Int))) = 106 * k.toNat + i := (ji_nat (by omega)).trans (by omega)
      have g1 : ¬ (Int32.ofInt (i : Int) < 0 ∨ 106 ≤ i) := by simp (disch := omega) only [ji_lt0]; omega
      have g2 : ¬ (Int32.ofInt (106 * k + (i : Int)) < 0 ∨ 318 ≤ 106 * k.toNat + i) := by simp (disch := omega) only [ji_lt0]; omega
      have e46 : ((jM wi, jL u) : zD).1 46 i = Int32.ofInt (w 46 i) := by rw [← i1 46 (by decide)]; rfl
      refine ⟨(11, [some (.ref 45), some (.int (Int32.ofInt k)), some (.int (Int32.ofInt ((i : Int) + 1)))], (n, z_q im, jM (z_u wi 47 (106 * k.toNat + i) (w 46 i)), jL u)), z_To_1 ((e_Model_image_11 ..).trans ?_), _, rfl, fun c hc => by rw [z_u_ne hc]; exact i1 c hc, fun j => ?_⟩
      · rw [if_neg (ji_le_n (by decide) (by omega) (by omega)), n1, if_neg g1, ji_mul, ji_add, ji_add, n2, if_neg g2, e46, jM_u]
      · rw [z_u_at]
        by_cases qj : j = 106 * k.toNat + i
        · rw [if_pos qj, if_pos (by omega), show j - 106 * k.toNat = i by omega]
        · rw [if_neg qj, i2]
          by_cases q2 : 106 * k.toNat ≤ j ∧ j < 106 * k.toNat + i
          · rw [if_pos q2, if_pos (by omega)]
          · rw [if_neg q2, if_neg (by omega)])
    have nk : Int32.toNatClampNeg (Int32.ofInt k) = k.toNat := ji_nat (by omega)
    have gk : ¬ (Int32.ofInt k < 0 ∨ 3 ≤ k.toNat) := by simp (disch := omega) only [ji_lt0]; omega
    refine ⟨z_u wf 48 k.toNat 1, n_Model_image (e := e + 19) (z_go ((e_Model_image_0 ..).trans ?_) (ht9 _ (z_ret ((e_Model_image_11 ..).trans ?_)))), fun s hs3 => ?_, fun c q1 q2 => by rw [z_u_ne q2]; exact i1 c q1⟩
    · rw [hin, z_oI_s, if_neg (ji_b_n q)]
    · rw [if_pos (ji_le_p (by decide) (by decide) (by decide)), nk, if_neg gk, show Int32.ofInt 1 &&& 1 = Int32.ofInt 1 from rfl, jM_u]
    · unfold H_image J_image
      by_cases qs : 0 ≤ k ∧ k ≤ 2 ∧ s = k.toNat
      · rw [if_pos qs, if_pos qs]
        refine ⟨by rw [z_u_at, if_pos qs.2.2]; rfl, fun _ j hj => ?_⟩
        rw [z_u_ne (by decide), i2, if_pos (by omega), show 106 * s + j - 106 * k.toNat = j by omega]
      · rw [if_neg qs, if_neg qs]
        refine ⟨by rw [z_u_at, if_neg (by omega), i1 48 (by decide)]; exact (hI s hs3).1, fun hh j hj => ?_⟩
        rw [z_u_ne (by decide), i2, if_neg (by omega)]; exact (hI s hs3).2 hh j hj
  · rw [if_neg q]
    refine ⟨w, n_Model_image (e := e + 19) (z_ret ((e_Model_image_0 ..).trans ?_)), fun s hs3 => ?_, fun _ _ _ => rfl⟩
    · rw [hin, z_oI_s, if_pos (ji_b_p q)]
    · unfold H_image J_image
      have qs : ¬ (0 ≤ k ∧ k ≤ 2 ∧ s = k.toNat) := fun z => q ⟨z.1, z.2.1⟩
      rw [if_neg qs, if_neg qs]
      exact hI s hs3
def V_back (hs : Nat → Bool) (k : Int) : Int := if 0 ≤ k ∧ k ≤ 2 then (if hs k.toNat then 0 else -6) else -2
abbrev a_bk (hs : Nat → Bool) (k : Int) : Prop := (0 ≤ k ∧ k ≤ 2) ∧ hs k.toNat = true
theorem m_back {e n : Nat} {im : Nat → Option Nat} {w u : Nat → Nat → Int} {hs : Nat → Bool} {iv : Nat → Nat → Int} {k : Int} (hI : I_m w hs iv) (hk : jR k) : ∃ w', (z_F (e + 20)).1 k_Model_back [.ref 45, .int (Int32.ofInt k)] (n, z_q im, jM w, jL u) = some (Int32.ofInt (V_back hs k), jM w', jL u) ∧ (a_bk hs k → ∀ j, j < 106 → w' 46 j = iv k.toNat j) ∧ (¬ a_bk hs k → w' = w) ∧ ∀ c, c ≠ 46 → w' c = w c := by
  have hin : (z_F (e + 19)).1 k_Model_in [.long (Int32.toInt64 (Int32.ofInt k)), .long (z_kl 0), .long (z_kl 5)] (n, z_q im, jM w, jL u) = some (Int32.ofInt (if 0 ≤ k ∧ k ≤ 2 then 1 else 0), jM w, jL u) := by
    rw [jl_of hk, kl_0, kl_5, s_in (by omega) (by decide) (by decide)]
  unfold V_back
  by_cases q : 0 ≤ k ∧ k ≤ 2
  · rw [if_pos q]
    have nk : Int32.toNatClampNeg (Int32.ofInt k) = k.toNat := ji_nat (by omega)
    have gk : ¬ (Int32.ofInt k < 0 ∨ 3 ≤ k.toNat) := by simp (disch := omega) only [ji_lt0]; omega
    obtain ⟨h1, h2⟩ := hI k.toNat (by omega)
    have e48 : ((jM w, jL u) : zD).1 48 k.toNat = Int32.ofInt (if hs k.toNat then 1 else 0) := by rw [← h1]; rfl
    by_cases qh : hs k.toNat = true
    · rw [if_pos qh] at e48 ⊢
      obtain ⟨t9, ht9, wf, rfl, i1, i2⟩ := z_for (o := z_F (e + 19)) (cd := cd_Model_back) (P := fun i s => ∃ wi, s = (18, [some (.ref 45), some (.int (Int32.ofInt k)), some (.int (Int32.ofInt (i : Int)))], (n, z_q im, jM wi, jL u)) ∧ (∀ c, c ≠ 46 → wi c = w c) ∧ ∀ j, j < i → wi 46 j = iv k.toNat j) 106 (s := (18, [some (.ref 45), some (.int (Int32.ofInt k)), some (.int (Int32.ofInt 0))], (n, z_q im, jM w, jL u))) ⟨w, rfl, fun _ _ => rfl, fun j hj => absurd hj (by omega)⟩ (fun i s hi hs' => by
        obtain ⟨wi, rfl, i1, i2⟩ := hs'
        have n1 : Int32.toNatClampNeg (Int32.ofInt (i : Int)) = i := (ji_nat (by omega)).trans (by omega)
        have n2 : Int32.toNatClampNeg (Int32.ofInt (106 * k + (i : Int))) = 106 * k.toNat + i := (ji_nat (by omega)).trans (by omega)
        have g1 : ¬ (Int32.ofInt (i : Int) < 0 ∨ 106 ≤ i) := by simp (disch := omega) only [ji_lt0]; omega
        have g2 : ¬ (Int32.ofInt (106 * k + (i : Int)) < 0 ∨ 318 ≤ 106 * k.toNat + i) := by simp (disch := omega) only [ji_lt0]; omega
        have e47 : ((jM wi, jL u) : zD).1 47 (106 * k.toNat + i) = Int32.ofInt (iv k.toNat i) := by rw [← h2 qh i hi, ← i1 47 (by decide)]; rfl
        refine ⟨(18, [some (.ref 45), some (.int (Int32.ofInt k)), some (.int (Int32.ofInt ((i : Int) + 1)))], (n, z_q im, jM (z_u wi 46 i (iv k.toNat i)), jL u)), z_To_1 ((e_Model_back_18 ..).trans ?_), _, rfl, fun c hc => by rw [z_u_ne hc]; exact i1 c hc, fun j hj => ?_⟩
        · rw [if_neg (ji_le_n (by decide) (by omega) (by omega)), ji_mul, ji_add, ji_add, n2, if_neg g2, n1, if_neg g1, e47, jM_u]
        · rw [z_u_at]
          by_cases qj : j = i
          · rw [if_pos qj, qj]
          · rw [if_neg qj]; exact i2 j (by omega))
      refine ⟨wf, n_Model_back (e := e + 19) (z_go ((e_Model_back_0 ..).trans ?_) (ht9 _ (z_ret ((e_Model_back_18 ..).trans ?_)))), fun _ => i2, fun z => absurd ⟨q, qh⟩ z, i1⟩
      · rw [hin, z_oI_s, if_neg (ji_b_n q), nk, if_neg gk, e48, if_neg (show ¬ Int32.ofInt 1 = 0 by decide)]
      · rw [if_pos (ji_le_p (by decide) (by decide) (by decide))]
    · rw [if_neg qh] at e48 ⊢
      refine ⟨w, n_Model_back (e := e + 19) (z_ret ((e_Model_back_0 ..).trans ?_)), fun z => absurd z.2 qh, fun _ => rfl, fun _ _ => rfl⟩
      rw [hin, z_oI_s, if_neg (ji_b_n q), nk, if_neg gk, e48, if_pos (show Int32.ofInt 0 = 0 from rfl)]
  · rw [if_neg q]
    refine ⟨w, n_Model_back (e := e + 19) (z_ret ((e_Model_back_0 ..).trans ?_)), fun z => absurd z.1 q, fun _ => rfl, fun _ _ => rfl⟩
    rw [hin, z_oI_s, if_pos (ji_b_p q)]
