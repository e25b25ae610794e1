/-! TEAMS in their rows; the class's meets and run -/
def t_b (v : Nat → Int) (t : Int) : Int := v (78 + 7 * t.toNat)
def t_n (v : Nat → Int) (t : Int) : Nat := (v (78 + 7 * t.toNat + 1)).toNat
def t_m (v : Nat → Int) (t : Int) (i : Nat) : Int := v (78 + 7 * t.toNat + 2 + i)
def D_m (v : Nat → Int) (t m : Int) : Int := a_f1 (fun i => if t_m v t i = m then 0 else -1) 0 (t_n v t)
def D_d (v : Nat → Int) (t o : Int) : Int := a_f1 (fun i => if D_m v o (t_m v t i) = -1 then -1 else 0) 0 (t_n v t)
abbrev t_in (v : Nat → Int) (t : Int) : Prop := 0 ≤ t ∧ t < v 8
abbrev a_tt (v : Nat → Int) (t o : Int) : Prop := t_in v t ∧ t_in v o ∧ t ≠ o ∧ D_d v t o = -1
theorem D_m_b (v : Nat → Int) (t m : Int) : D_m v t m = -1 ∨ D_m v t m = 0 := by
  have h := a_f1_b (p := fun i => if t_m v t i = m then 0 else -1) (B := 0) (t_n v t) 0 (fun y _ _ => by split <;> omega)
  change D_m v t m = -1 ∨ (0 ≤ D_m v t m ∧ D_m v t m ≤ 0) at h
  omega
theorem D_d_b (v : Nat → Int) (t o : Int) : D_d v t o = -1 ∨ D_d v t o = 0 := by
  have h := a_f1_b (p := fun i => if D_m v o (t_m v t i) = -1 then -1 else 0) (B := 0) (t_n v t) 0 (fun y _ _ => by split <;> omega)
  change D_d v t o = -1 ∨ (0 ≤ D_d v t o ∧ D_d v t o ≤ 0) at h
  omega
theorem t_wf {v : Nat → Int} {t : Int} (hw : a_wf v) (h : t_in v t) : (0 ≤ t ∧ t ≤ 3) ∧ (0 ≤ t_b v t ∧ t_b v t < v 6) ∧ v (78 + 7 * t.toNat + 1) = (t_n v t : Int) ∧ (1 ≤ t_n v t ∧ t_n v t ≤ 5) ∧ (∀ i, i < t_n v t → 0 ≤ t_m v t i ∧ t_m v t i < v 7) ∧ ∀ i j, i < j → j < t_n v t → t_m v t i ≠ t_m v t j := by
  have f8 := hw.2.2.2.2.2.2.2.2.1
  obtain ⟨h1, h2, h3, h4⟩ := hw.2.2.2.2.2.2.2.2.2.2.2.2 t h.1 h.2
  have hn : v (78 + 7 * t.toNat + 1) = (t_n v t : Int) := by unfold t_n; omega
  refine ⟨by omega, h1, hn, by omega, fun i hi => h3 (i : Int) (by omega) (by omega), fun i j hi hj => h4 (i : Int) (j : Int) (by omega) (by omega) (by omega)⟩
theorem R_ok_mt {v : Nat → Int} {t o : Int} (hw : a_wf v) (h : a_tt v t o) : R_ok v (t_m v t) (t_m v o) (t_n v t) (t_n v o) := by
  obtain ⟨h1, h2, h3, h4⟩ := h
  obtain ⟨a1, a2, a3, a4, a5, a6⟩ := t_wf hw h1
  obtain ⟨b1, b2, b3, b4, b5, b6⟩ := t_wf hw h2
  refine ⟨⟨a4.2, b4.2⟩, a5, b5, fun i k hi hk => ?_⟩
  have q := a_f1_n _ _ h4 i (by omega) (by omega)
  by_cases hq : D_m v o (t_m v t i) = -1
  · have r := a_f1_n _ _ hq k (by omega) (by omega)
    by_cases hr : t_m v o k = t_m v t i
    · rw [if_pos hr] at r; omega
    · exact fun z => hr z.symm
  · rw [if_neg hq] at q; omega
theorem c_t {w : Nat → Nat → Int} {v : Nat → Int} {t : Int} (hv : c_v w v) (ht : 0 ≤ t ∧ t ≤ 3) : w 9 (7 * t.toNat) = t_b v t ∧ w 9 (7 * t.toNat + 1) = v (78 + 7 * t.toNat + 1) ∧ ∀ i, i < 5 → w 9 (7 * t.toNat + 2 + i) = t_m v t i := by
  have h9 := hv.2.2.2.2.2.2.2.2.2.2.2.2
  refine ⟨?_, ?_, fun i hi => ?_⟩
  · rw [h9 _ (by omega)]; rfl
  · rw [h9 _ (by omega)]; rfl
  · rw [h9 _ (by omega), show 78 + (7 * t.toNat + 2 + i) = 78 + 7 * t.toNat + 2 + i by omega]; rfl
theorem c_v_fr {w w' : Nat → Nat → Int} {v : Nat → Int} (hv : c_v w v) (h : c_fr w w') : c_v w' v := by
  unfold c_v
  rw [h 3 (by decide), h 5 (by decide), h 7 (by decide), h 9 (by decide)]
  exact hv
theorem s_isMate_3 {e n : Nat} {im : Nat → Option Nat} {w u : Nat → Nat → Int} {v : Nat → Int} {t m : Int} (hv : c_v w v) (hw : a_wf v) (ht : t_in v t) (hm : jR m) : (z_F (e + 3)).1 k_Harbour_isMate [.ref 3, .int (Int32.ofInt t), .int (Int32.ofInt m)] (n, z_q im, jM w, jL u) = some (Int32.ofInt (D_m v t m + 1), jM w, jL u) := by
  obtain ⟨a1, a2, a3, a4, a5, a6⟩ := t_wf hw ht
  obtain ⟨c1, c2, c3⟩ := c_t hv a1
  rw [a3] at c2
  have f7 := hw.2.2.2.2.2.2.2.1
  refine n_Harbour_isMate_3 (z_go (e_Harbour_isMate_3_0 ..) ?_)
  have key := z_fnd (o := z_F (e + 2)) (cd := cd_Harbour_isMate) (p := fun i => if t_m v t i = m then 0 else -1) (P := fun i s => s = (3, [some (.ref 3), some (.int (Int32.ofInt t)), some (.int (Int32.ofInt m)), some (.int (Int32.ofInt (i : Int)))], (n, z_q im, jM w, jL u))) (Q := fun x r => r = (some (.int (Int32.ofInt 1)), (n, z_q im, jM w, jL u))) (t_n v t) 0 (3, [some (.ref 3), some (.int (Int32.ofInt t)), some (.int (Int32.ofInt m)), some (.int (Int32.ofInt 0))], (n, z_q im, jM w, jL u)) rfl (fun i s hi1 hi2 hP => by
    subst hP
    have hmi := a5 i (by omega)
    have hx : z_ex none (z_F (e + 2)) cd_Harbour_isMate 4000 (cd_Harbour_isMate.drop 3) 3 [some (.ref 3), some (.int (Int32.ofInt t)), some (.int (Int32.ofInt m)), some (.int (Int32.ofInt (i : Int)))] [] (n, z_q im, jM w, jL u) = if t_m v t i = m then some (.inl (some (.int (Int32.ofInt 1)), (n, z_q im, jM w, jL u))) else some (.inr (3, [some (.ref 3), some (.int (Int32.ofInt t)), some (.int (Int32.ofInt m)), some (.int (Int32.ofInt ((i : Int) + 1)))], [], (n, z_q im, jM w, jL u))) := by
      refine (e_Harbour_isMate_3_3 ..).trans ?_
      rw [s_sizeOf_3 (by omega) (by omega), z_oI_s, c2, if_neg (ji_le_n (by omega) (by omega) (by omega)), s_mate_3 (by omega) (by omega) (by omega) (by omega), z_oI_s, show ((i : Int)).toNat = i by omega, c3 i (by omega), ji_add]
      by_cases hh : t_m v t i = m
      · rw [if_pos (ji_eq_p (by omega) hm hh), if_pos hh]
      · rw [if_neg (ji_eq_n (by omega) hm hh), if_neg hh]
    dsimp only
    by_cases hh : t_m v t i = m
    · rw [if_pos hh]
      exact ⟨fun q => by omega, fun _ => ⟨_, z_ret (hx.trans (if_pos hh)), rfl⟩⟩
    · rw [if_neg hh]
      exact ⟨fun _ => ⟨(3, [some (.ref 3), some (.int (Int32.ofInt t)), some (.int (Int32.ofInt m)), some (.int (Int32.ofInt ((i : Int) + 1)))], (n, z_q im, jM w, jL u)), z_To_1 (hx.trans (if_neg hh)), rfl⟩, fun q => absurd rfl q⟩)
  rcases key with ⟨k1, s, k2, rfl⟩ | ⟨k1, r, k2, rfl⟩
  · change D_m v t m = -1 at k1
    rw [k1]
    refine k2 _ (z_ret ((e_Harbour_isMate_3_3 ..).trans ?_))
    rw [s_sizeOf_3 (by omega) (by omega), z_oI_s, c2, if_pos (ji_le_p (by omega) (by omega) (by omega))]
    rfl
  · change D_m v t m ≠ -1 at k1
    have := D_m_b v t m
    rw [show D_m v t m = 0 by omega]
    exact k2
theorem s_lineUp {e n : Nat} {im : Nat → Option Nat} {w u : Nat → Nat → Int} {v : Nat → Int} {t o : Int} (hv : c_v w v) (hw : a_wf v) (ht : t_in v t) (ho : t_in v o) : ∃ w', (z_F (e + 5)).2.2.1 k_Contest_lineUp [.ref 31, .int (Int32.ofInt t), .int (Int32.ofInt o)] (n, z_q im, jM w, jL u) = some (jM w', jL u) ∧ C_m v 0 (t_b v t) (t_b v o) (t_m v t) (t_m v o) (t_n v t) (t_n v o) w' ∧ c_fr w w' := by
  obtain ⟨f0, f1, f2, f3, f4, f5, f6, f7, f8, f9, f10, f11, f12⟩ := id hw
  obtain ⟨g0, g1, g2, g3, g4, g5, g6, g7, g8, g9, h5, h7, h9⟩ := id hv
  obtain ⟨a1, a2, a3, a4, a5, a6⟩ := t_wf hw ht
  obtain ⟨b1, b2, b3, b4, b5, b6⟩ := t_wf hw ho
  obtain ⟨c1, c2, c3⟩ := c_t hv a1
  obtain ⟨d1, d2, d3⟩ := c_t hv b1
  rw [a3] at c2
  rw [b3] at d2
  have bb := f10 _ a2.1 a2.2
  have bo := f10 _ b2.1 b2.2
  have k5 : ∀ b : Int, 0 ≤ b → b ≤ 3 → w 5 (2 * b.toNat) = v (10 + 2 * b.toNat) ∧ w 5 (2 * b.toNat + 1) = v (10 + 2 * b.toNat + 1) := fun b hb1 hb2 => ⟨h5 _ (by omega), h5 _ (by omega)⟩
  have k5a := k5 (t_b v t) (by omega) (by omega)
  have k5b := k5 (t_b v o) (by omega) (by omega)
  obtain ⟨t9, ht9, wf, rfl, i1, i2, i3⟩ := z_for (o := z_F (e + 4)) (cd := cd_Contest_lineUp) (P := fun i s => ∃ wi, s = (28, [some (.ref 31), some (.int (Int32.ofInt t)), some (.int (Int32.ofInt o)), some (.int (Int32.ofInt (i : Int)))], (n, z_q im, jM wi, jL u)) ∧ (∀ c, c ≠ 33 → c ≠ 35 → wi c = z_u (z_u (c_pl w (t_b v t) (t_b v o)) 31 5 (t_n v t : Int)) 31 6 (t_n v o : Int) c) ∧ (∀ j, j < i → wi 33 j = t_m v t j) ∧ ∀ j, j < i → wi 35 j = t_m v o j) 5 (s := (28, [some (.ref 31), some (.int (Int32.ofInt t)), some (.int (Int32.ofInt o)), some (.int (Int32.ofInt 0))], (n, z_q im, jM (z_u (z_u (c_pl w (t_b v t) (t_b v o)) 31 5 (t_n v t : Int)) 31 6 (t_n v o : Int)), jL u))) ⟨_, rfl, fun _ _ _ => rfl, fun j hj => absurd hj (by omega), fun j hj => absurd hj (by omega)⟩ (fun i s hi hs => by
    obtain ⟨wi, rfl, i1, i2, i3⟩ := hs
    refine ⟨(28, [some (.ref 31), some (.int (Int32.ofInt t)), some (.int (Int32.ofInt o)), some (.int (Int32.ofInt ((i : Int) + 1)))], (n, z_q im, jM (z_u (z_u wi 33 i (t_m v t i)) 35 i (t_m v o i)), jL u)), z_To_1 ((e_Contest_lineUp_28 ..).trans ?_), _, rfl, fun c q1 q2 => by rw [z_u_ne q2, z_u_ne q1]; exact i1 c q1 q2, fun j hj => ?_, fun j hj => ?_⟩
    · have e9 : wi 9 = w 9 := i1 9 (by decide) (by decide)
      rw [if_neg (ji_le_n (by decide) (by omega) (by omega)), s_mate_3 (by omega) (by omega) (by omega) (by omega), z_oI_s, show ((i : Int)).toNat = i by omega, e9, c3 i hi, s_set_32 (by omega) (by omega), z_oV_s, s_mate_3 (by omega) (by omega) (by omega) (by omega), z_oI_s, show ((i : Int)).toNat = i by omega, z_u_ne (by decide), e9, d3 i hi, s_set_34 (by omega) (by omega), z_oV_s, ji_add, show ((i : Int)).toNat = i by omega]
    · rw [z_u_ne (by decide), z_u_at]
      split
      · rename_i q; rw [q]
      · exact i2 j (by omega)
    · rw [z_u_at]
      split
      · rename_i q; rw [q]
      · rw [z_u_ne (by decide)]; exact i3 j (by omega))
  refine ⟨wf, n_Contest_lineUp (z_go ((e_Contest_lineUp_0 ..).trans ?_) (ht9 _ (z_ret ((e_Contest_lineUp_28 ..).trans ?_)))), ⟨?_, ⟨?_, ?_, ?_, ?_, ?_, ?_, ?_, ?_⟩, ?_, ?_, fun i hi => i2 i (by omega), fun i hi => i3 i (by omega)⟩, ?_⟩
  · rw [s_boatOf_3 (by omega) (by omega), z_oI_s, s_boatOf_3 (by omega) (by omega), z_oI_s, c1, d1, s_place (by omega) (by omega) (by omega) (by omega) (by rw [k5a.1]; have := bb.1; omega) (by rw [k5b.1]; have := bo.1; omega) (by omega), z_oV_s, s_sizeOf_3 (by omega) (by omega), z_oI_s]
    have e9 : c_pl w (t_b v t) (t_b v o) 9 = w 9 := rfl
    rw [e9, c2]
    simp only [jM_u]
    rw [s_sizeOf_3 (by omega) (by omega), z_oI_s, show z_u (c_pl w (t_b v t) (t_b v o)) 31 5 (t_n v t : Int) 9 = w 9 from rfl, d2]
    simp only [jM_u]
  · rw [if_pos (ji_le_p (by decide) (by decide) (by decide))]
  · unfold c_v
    rw [i1 3 (by decide) (by decide), i1 5 (by decide) (by decide), i1 7 (by decide) (by decide), i1 9 (by decide) (by decide)]
    exact hv
  · rw [i1 25 (by decide) (by decide)]
    show c_sw w (t_b v t) (w 5 (2 * (t_b v t).toNat)) (t_b v o) = _
    unfold c_sw a_sp
    rw [k5a.1, k5b.1, g1]
    by_cases hq : t_b v o = t_b v t
    · rw [if_pos hq, hq]
    · rw [if_neg hq]
  · rw [i1 25 (by decide) (by decide)]; exact k5a.2
  · rw [i1 25 (by decide) (by decide)]; exact k5b.2
  · rw [i1 25 (by decide) (by decide)]; exact g4
  · rw [i1 25 (by decide) (by decide)]; exact g5
  · rw [i1 25 (by decide) (by decide)]; exact g2
  · rw [i1 25 (by decide) (by decide)]; exact g3
  · rw [i1 25 (by decide) (by decide)]; rfl
  · rw [i1 31 (by decide) (by decide)]; rfl
  · rw [i1 31 (by decide) (by decide)]; rfl
  · intro c hc
    rw [i1 c (fun q => by subst q; simp at hc) (fun q => by subst q; simp at hc), z_u_ne (fun q => by subst q; simp at hc), z_u_ne (fun q => by subst q; simp at hc)]
    unfold c_pl
    have h25 : c ≠ 25 := fun q => by subst q; simp at hc
    rw [z_u_ne h25, z_u_ne h25, z_u_ne h25, z_u_ne h25, z_u_ne h25, z_u_ne h25, z_u_ne h25, z_u_ne h25]
theorem x_meets {e n : Nat} {im : Nat → Option Nat} {w u : Nat → Nat → Int} {v : Nat → Int} {t o : Int} (hv : c_v w v) (hw : a_wf v) (ht : jR t) (ho : jR o) : ∃ w', (z_F (e + 6)).1 k_LongBoats_meets [.ref 0, .int (Int32.ofInt t), .int (Int32.ofInt o)] (n, z_q im, jM w, jL u) = some (Int32.ofInt (if a_tt v t o then 1 else 0), jM w', jL u) ∧ c_fr w w' ∧ (a_tt v t o → C_m v 0 (t_b v t) (t_b v o) (t_m v t) (t_m v o) (t_n v t) (t_n v o) w') := by
  obtain ⟨f0, f1, f2, f3, f4, f5, f6, f7, f8, f9, f10, f11, f12⟩ := id hw
  obtain ⟨g0, g1, g2, g3, g4, g5, g6, g7, g8, g9, h5, h7, h9⟩ := id hv
  by_cases h0 : t_in v t ∧ t_in v o ∧ t ≠ o
  · obtain ⟨k1, k2, k3⟩ := h0
    obtain ⟨a1, a2, a3, a4, a5, a6⟩ := t_wf hw k1
    obtain ⟨c1, c2, c3⟩ := c_t hv a1
    rw [a3] at c2
    have he : z_ex none (z_F (e + 5)) cd_LongBoats_meets 4000 (cd_LongBoats_meets.drop 0) 0 [some (.ref 0), some (.int (Int32.ofInt t)), some (.int (Int32.ofInt o)), none] [] (n, z_q im, jM w, jL u) = some (.inr (18, [some (.ref 0), some (.int (Int32.ofInt t)), some (.int (Int32.ofInt o)), some (.int (Int32.ofInt 0))], [], (n, z_q im, jM w, jL u))) := by
      refine (e_LongBoats_meets_0 ..).trans ?_
      rw [if_neg (ji_eq_n ht ho k3), s_hasTeam_3 (by omega) (by omega), z_oI_s, g9, if_neg (ji_b_n k1), s_hasTeam_3 (by omega) (by omega), z_oI_s, g9, if_neg (ji_b_n k2)]
    have key := z_fnd (o := z_F (e + 5)) (cd := cd_LongBoats_meets) (p := fun i => if D_m v o (t_m v t i) = -1 then -1 else 0) (P := fun i s => s = (18, [some (.ref 0), some (.int (Int32.ofInt t)), some (.int (Int32.ofInt o)), some (.int (Int32.ofInt (i : Int)))], (n, z_q im, jM w, jL u))) (Q := fun x r => r = (some (.int (Int32.ofInt 0)), (n, z_q im, jM w, jL u))) (t_n v t) 0 (18, [some (.ref 0), some (.int (Int32.ofInt t)), some (.int (Int32.ofInt o)), some (.int (Int32.ofInt 0))], (n, z_q im, jM w, jL u)) rfl (fun i s hi1 hi2 hP => by
      subst hP
      have hmi := a5 i (by omega)
      have hx : z_ex none (z_F (e + 5)) cd_LongBoats_meets 4000 (cd_LongBoats_meets.drop 18) 18 [some (.ref 0), some (.int (Int32.ofInt t)), some (.int (Int32.ofInt o)), some (.int (Int32.ofInt (i : Int)))] [] (n, z_q im, jM w, jL u) = if D_m v o (t_m v t i) = -1 then some (.inr (18, [some (.ref 0), some (.int (Int32.ofInt t)), some (.int (Int32.ofInt o)), some (.int (Int32.ofInt ((i : Int) + 1)))], [], (n, z_q im, jM w, jL u))) else some (.inl (some (.int (Int32.ofInt 0)), (n, z_q im, jM w, jL u))) := by
        refine (e_LongBoats_meets_18 ..).trans ?_
        rw [s_sizeOf_3 (by omega) (by omega), z_oI_s, c2, if_neg (ji_le_n (by omega) (by omega) (by omega)), s_mate_3 (by omega) (by omega) (by omega) (by omega), z_oI_s, show ((i : Int)).toNat = i by omega, c3 i (by omega), ji_add, s_isMate_3 hv hw k2 (by omega), z_oI_s]
        have := D_m_b v o (t_m v t i)
        by_cases hh : D_m v o (t_m v t i) = -1
        · rw [if_pos hh, if_pos (ji_eq0_p (by omega) (by omega))]
        · rw [if_neg hh, if_neg (ji_eq0_n (by omega) (by omega))]
      dsimp only
      by_cases hh : D_m v o (t_m v t i) = -1
      · rw [if_pos hh]
        exact ⟨fun _ => ⟨(18, [some (.ref 0), some (.int (Int32.ofInt t)), some (.int (Int32.ofInt o)), some (.int (Int32.ofInt ((i : Int) + 1)))], (n, z_q im, jM w, jL u)), z_To_1 (hx.trans (if_pos hh)), rfl⟩, fun q => absurd rfl q⟩
      · rw [if_neg hh]
        exact ⟨fun q => by omega, fun _ => ⟨_, z_ret (hx.trans (if_neg hh)), rfl⟩⟩)
    rcases key with ⟨q1, s, q2, rfl⟩ | ⟨q1, r, q2, rfl⟩
    · change D_d v t o = -1 at q1
      rw [if_pos ⟨k1, k2, k3, q1⟩]
      obtain ⟨w', l1, l2, l3⟩ := s_lineUp (e := e) (n := n) (im := im) (u := u) hv hw k1 k2
      refine ⟨w', n_LongBoats_meets (z_go he (q2 _ (z_ret ((e_LongBoats_meets_18 ..).trans ?_)))), l3, fun _ => l2⟩
      rw [s_sizeOf_3 (by omega) (by omega), z_oI_s, c2, if_pos (ji_le_p (by omega) (by omega) (by omega)), l1, z_oV_s]
    · change D_d v t o ≠ -1 at q1
      rw [if_neg (fun q => q1 q.2.2.2)]
      exact ⟨w, n_LongBoats_meets (z_go he q2), c_fr_rf w, fun q => absurd q.2.2.2 q1⟩
  · rw [if_neg (fun q => h0 ⟨q.1, q.2.1, q.2.2.1⟩)]
    refine ⟨w, n_LongBoats_meets (z_ret ((e_LongBoats_meets_0 ..).trans ?_)), c_fr_rf w, fun q => absurd ⟨q.1, q.2.1, q.2.2.1⟩ h0⟩
    by_cases k3 : t = o
    · rw [if_pos (ji_eq_p ht ho k3)]
    · rw [if_neg (ji_eq_n ht ho k3), s_hasTeam_3 (by omega) (by omega), z_oI_s, g9]
      by_cases k1 : t_in v t
      · rw [if_neg (ji_b_n k1), s_hasTeam_3 (by omega) (by omega), z_oI_s, g9, if_pos (ji_b_p (fun k2 => h0 ⟨k1, k2, k3⟩))]
      · rw [if_pos (ji_b_p k1)]
theorem s_fill_38 {e n : Nat} {im : Nat → Option Nat} {w u : Nat → Nat → Int} {x : Int} : ∃ w', (z_F (e + 1)).2.2.1 k_Row_fill [.ref 38, .int (Int32.ofInt x)] (n, z_q im, jM w, jL u) = some (jM w', jL u) ∧ (∀ c, c ≠ 39 → w' c = w c) ∧ ∀ j, j < 10 → w' 39 j = x := by
  obtain ⟨t9, ht9, wf, rfl, i1, i2⟩ := z_for (o := z_F e) (cd := cd_Row_fill) (P := fun i s => ∃ wi, s = (3, [some (.ref 38), some (.int (Int32.ofInt x)), some (.int (Int32.ofInt (i : Int)))], (n, z_q im, jM wi, jL u)) ∧ (∀ c, c ≠ 39 → wi c = w c) ∧ ∀ j, j < i → wi 39 j = x) 10 (s := (3, [some (.ref 38), some (.int (Int32.ofInt x)), some (.int (Int32.ofInt 0))], (n, z_q im, jM w, jL u))) ⟨w, rfl, fun _ _ => rfl, fun j hj => absurd hj (by omega)⟩ (fun i s hi hs => by
    obtain ⟨wi, rfl, i1, i2⟩ := hs
    refine ⟨(3, [some (.ref 38), some (.int (Int32.ofInt x)), some (.int (Int32.ofInt ((i : Int) + 1)))], (n, z_q im, jM (z_u wi 39 i x), jL u)), z_To_1 ((e_Row_fill_38_3 ..).trans ?_), _, rfl, fun c hc => by rw [z_u_ne hc]; exact i1 c hc, fun j hj => ?_⟩
    · rw [show Int32.ofNat 10 = Int32.ofInt 10 from rfl, if_neg (ji_le_n (by decide) (by omega) (by omega)), if_neg (by simp (disch := omega) only [ji_lt0, ji_nat]; omega), ji_add, ji_nat (by omega)]
      simp only [jM_u]
      rw [show ((i : Int)).toNat = i by omega]
    · rw [z_u_at]
      split
      · rfl
      · exact i2 j (by omega))
  refine ⟨wf, n_Row_fill_38 (z_go (e_Row_fill_38_0 ..) (ht9 _ (z_ret ((e_Row_fill_38_3 ..).trans ?_)))), i1, i2⟩
  rw [show Int32.ofNat 10 = Int32.ofInt 10 from rfl, if_pos (ji_le_p (by decide) (by decide) (by decide))]
/-- the whole match -/
noncomputable def M_F (v : Nat → Int) (dr x bo ot : Int) (F S : Nat → Int) (n1 n2 : Nat) : zT := M_f v dr bo ot F S n1 n2 (n1 + n2) (M_0 x)
def C_e (w wf : Nat → Nat → Int) (n1 n2 : Nat) (T : zT) : Prop := c_fr w wf ∧ wf 31 7 = (n1 : Int) - (T.1 : Int) ∧ wf 31 8 = (n2 : Int) - (T.2.1 : Int) ∧ wf 31 11 = (T.2.2.2.2.1 : Int) ∧ (∀ j, j < 10 → wf 39 j = T.2.2.1 j) ∧ ∀ j, j < 4 * T.2.2.2.2.1 → wf 37 j = T.2.2.2.2.2 j
theorem M_F_ok {v : Nat → Int} {dr x bo ot : Int} {F S : Nat → Int} {n1 n2 : Nat} (hw : a_wf v) (hR : R_ok v F S n1 n2) (hx : dr ≠ 0 → 0 ≤ x ∧ x < 2147483648) : T_ok dr n1 n2 (M_F v dr x bo ot F S n1 n2) ∧ ¬ ((M_F v dr x bo ot F S n1 n2).1 < n1 ∧ (M_F v dr x bo ot F S n1 n2).2.1 < n2) := ⟨M_f_ok hw hR _ (T_ok_0 hx), M_f_end _ (by show n1 + n2 ≤ 0 + 0 + (n1 + n2); omega)⟩
theorem M_F_x {v : Nat → Int} {x bo ot : Int} {F S : Nat → Int} {n1 n2 : Nat} : M_F v 0 x bo ot F S n1 n2 = ((M_F v 0 0 bo ot F S n1 n2).1, (M_F v 0 0 bo ot F S n1 n2).2.1, (M_F v 0 0 bo ot F S n1 n2).2.2.1, x, (M_F v 0 0 bo ot F S n1 n2).2.2.2.2) := M_f_x x (n1 + n2) (M_0 0)
theorem s_run {e n : Nat} {im : Nat → Option Nat} {w u : Nat → Nat → Int} {v : Nat → Int} {dr bo ot : Int} {F S : Nat → Int} {n1 n2 : Nat} (hw : a_wf v) (hC : C_m v dr bo ot F S n1 n2 w) (hR : R_ok v F S n1 n2) (hdr : dr = 0 ∨ dr = 1) (s4 : 0 ≤ bo ∧ bo < v 6) (s5 : 0 ≤ ot ∧ ot < v 6) (hx : dr ≠ 0 → 0 ≤ u 30 0 ∧ u 30 0 < 2147483648) : ∃ w', (z_F (e + 6)).2.2.1 k_Contest_run [.ref 31] (n, z_q im, jM w, jL u) = some (jM w', jL (z_u u 30 0 (M_F v dr (u 30 0) bo ot F S n1 n2).2.2.2.1)) ∧ C_e w w' n1 n2 (M_F v dr (u 30 0) bo ot F S n1 n2) := by
  obtain ⟨w1, k1, k2, k3⟩ := s_fill_38 (e := e + 4) (n := n) (im := im) (w := w) (u := u) (x := 0)
  have hC1 : C_m v dr bo ot F S n1 n2 (z_u w1 31 11 0) := by
    obtain ⟨c1, c2, c3, c4, c5, c6⟩ := hC
    refine ⟨?_, ?_, ?_, ?_, ?_, ?_⟩
    · unfold c_v
      rw [z_u_ne (by decide), z_u_ne (by decide), z_u_ne (by decide), z_u_ne (by decide), k2 3 (by decide), k2 5 (by decide), k2 7 (by decide), k2 9 (by decide)]
      exact c1
    · rw [z_u_ne (by decide), k2 25 (by decide)]; exact c2
    · rw [z_u_at, if_neg (by decide), k2 31 (by decide)]; exact c3
    · rw [z_u_at, if_neg (by decide), k2 31 (by decide)]; exact c4
    · rw [z_u_ne (by decide), k2 33 (by decide)]; exact c5
    · rw [z_u_ne (by decide), k2 35 (by decide)]; exact c6
  have hI : I_r (z_u w1 31 11 0) (M_0 (u 30 0)) (z_u w1 31 11 0) := ⟨fun _ _ => rfl, fun _ _ _ _ => rfl, fun _ _ _ _ => rfl, by rw [z_u_at, if_pos rfl]; rfl, fun j hj => by rw [z_u_ne (by decide)]; exact k3 j hj, fun j hj => absurd hj (Nat.not_lt_zero j)⟩
  obtain ⟨wf, r1, r2, r3, r4⟩ := l_run (e := e) (n := n) (im := im) (u := u) hw hC1 hR hdr s4 s5 (n1 + n2) (M_0 (u 30 0)) _ none none (T_ok_0 hx) (by show n1 + n2 ≤ 0 + 0 + (n1 + n2); omega) hI
  have hu : z_u u 30 0 (M_0 (u 30 0)).2.2.2.1 = u := zu_self u 30 0
  rw [hu] at r1
  refine ⟨wf, n_Contest_run (z_go ((e_Contest_run_0 ..).trans ?_) r1), fun c hc => ?_, r3, r4, r2.2.2.2.1, r2.2.2.2.2.1, r2.2.2.2.2.2⟩
  · rw [k1, z_oV_s]
    simp only [jM_u]
    rfl
  · rw [r2.1 c (fun q => hc (by simp at q; rcases q with rfl | rfl | rfl | rfl | rfl | rfl <;> simp)), z_u_ne (fun q => by subst q; simp at hc), k2 c (fun q => by subst q; simp at hc)]
