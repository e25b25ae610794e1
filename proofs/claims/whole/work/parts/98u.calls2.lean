/-! feed, end, harbour, image, back: in pairs -/
theorem a_wf_cg {v v' : Nat → Int} (hw : a_wf v) (hs : ∀ j, j < 106 → v' j = v j) : a_wf v' := by
  obtain ⟨f0, f1, f2, f3, f4, f5, f6, f7, f8, f9, f10, f11, f12⟩ := id hw
  unfold a_wf
  rw [hs 0 (by decide), hs 1 (by decide), hs 2 (by decide), hs 3 (by decide), hs 4 (by decide), hs 5 (by decide), hs 6 (by decide), hs 7 (by decide), hs 8 (by decide), hs 9 (by decide)]
  refine ⟨f0, f1, f2, f3, f4, f5, f6, f7, f8, f9, fun b b0 b1 => ?_, fun a a0 a1 => ?_, fun t t0 t1 => ?_⟩
  · have := f10 b b0 b1
    unfold a_bo at this ⊢
    rw [hs _ (by omega), hs _ (by omega)]
    exact this
  · have := f11 a a0 a1
    unfold a_tr a_T at this ⊢
    rw [hs _ (by omega), hs _ (by omega), hs _ (by omega), hs _ (by omega), hs _ (by omega), hs _ (by omega)]
    exact this
  · obtain ⟨k1, k2, k3, k4⟩ := f12 t t0 t1
    unfold a_te
    rw [hs (78 + 7 * t.toNat) (by omega), hs (78 + 7 * t.toNat + 1) (by omega), hs 6 (by decide), hs 7 (by decide)]
    refine ⟨k1, k2, fun i i0 i1 => ?_, fun i j i0 i1 i2 => ?_⟩
    · rw [hs _ (by omega)]; exact k3 i i0 i1
    · rw [hs _ (by omega), hs _ (by omega)]; exact k4 i j i0 i1 i2
theorem p1_cg {v v' : Nat → Int} (h : a_p1 v) (hs : ∀ j, j < 106 → v' j = v j) : a_p1 v' := by
  intro q
  rw [hs 7 (by decide)] at q
  rw [hs 2 (by decide)]
  exact h q
theorem c_v_cg {w : Nat → Nat → Int} {v v' : Nat → Int} (hv : c_v w v) (hs : ∀ j, j < 106 → v' j = v j) : c_v w v' := by
  obtain ⟨g0, g1, g2, g3, g4, g5, g6, g7, g8, g9, h5, h7, h9⟩ := id hv
  unfold c_v
  rw [hs 0 (by decide), hs 1 (by decide), hs 2 (by decide), hs 3 (by decide), hs 4 (by decide), hs 5 (by decide), hs 6 (by decide), hs 7 (by decide), hs 8 (by decide), hs 9 (by decide)]
  exact ⟨g0, g1, g2, g3, g4, g5, g6, g7, g8, g9, fun j hj => by rw [hs _ (by omega)]; exact h5 j hj, fun j hj => by rw [hs _ (by omega)]; exact h7 j hj, fun j hj => by rw [hs _ (by omega)]; exact h9 j hj⟩
theorem c_v_fr4 {w w' : Nat → Nat → Int} {v : Nat → Int} (hv : c_v w v) (h3 : w' 3 = w 3) (h5 : w' 5 = w 5) (h7 : w' 7 = w 7) (h9 : w' 9 = w 9) : c_v w' v := by
  unfold c_v at hv ⊢
  rw [h3, h5, h7, h9]
  exact hv
theorem lq_feed {e n : Nat} {im : Nat → Option Nat} {w u : Nat → Nat → Int} {p0 p1 p2 p3 p4 : Int} (hJ : J_a n im w u) : ∃ V d1 w2 u2, (z_F 100).1 k_LongBoats_feed [.ref 0, .int (Int32.ofInt p0), .int (Int32.ofInt p1), .int (Int32.ofInt p2), .int (Int32.ofInt p3), .int (Int32.ofInt p4)] (n, z_q im, jM w, jL u) = some (V, d1) ∧ (z_F 100).1 k_Model_feed [.ref 45, .int (Int32.ofInt p0), .int (Int32.ofInt p1), .int (Int32.ofInt p2), .int (Int32.ofInt p3), .int (Int32.ofInt p4)] (n, z_q im, d1) = some (V, jM w2, jL u2) ∧ J_a n im w2 u2 := by
  obtain ⟨⟨hv, hw, hp⟩, ⟨z, wd, nm, hs, hms, hws⟩, ⟨U, tp, hT, hTm, hTw⟩, hf, hi⟩ := id hJ
  obtain ⟨w1, k1, k2, k3⟩ := x_feed (e := 80) (n := n) (im := im) (u := u) (p0 := p0) (p1 := p1) (p2 := p2) (p3 := p3) (p4 := p4) hT hTw
  obtain ⟨w2, l1, l2, l3, l4⟩ := m_feed (e := 80) (n := n) (im := im) (u := u) (p0 := p0) (p1 := p1) (p2 := p2) (p3 := p3) (p4 := p4) (T_m_fr hTm (by rw [k3 45 (by decide) (by decide)]) (k3 49 (by decide) (by decide))) hTw
  have kc : ∀ c, c ≠ 1 → c ≠ 2 → c ≠ 45 → c ≠ 49 → c ≠ 50 → w2 c = w c := fun c h1 h2 h3 h4 h5 => (l3 c h3 h4 h5).trans (k3 c h1 h2)
  have k45 : ∀ j, j ≠ 5 → w2 45 j = w 45 j := fun j hj => by rw [l4 j hj, k3 45 (by decide) (by decide)]
  exact ⟨_, _, w2, u, k1, l1, J_v_fr ⟨hv, hw, hp⟩ (kc 3 (by decide) (by decide) (by decide) (by decide) (by decide)) (kc 5 (by decide) (by decide) (by decide) (by decide) (by decide)) (kc 7 (by decide) (by decide) (by decide) (by decide) (by decide)) (kc 9 (by decide) (by decide) (by decide) (by decide) (by decide)) (kc 46 (by decide) (by decide) (by decide) (by decide) (by decide)), J_s_fr ⟨z, wd, nm, hs, hms, hws⟩ (kc 24 (by decide) (by decide) (by decide) (by decide) (by decide)) (kc 22 (by decide) (by decide) (by decide) (by decide) (by decide)) rfl (kc 61 (by decide) (by decide) (by decide) (by decide) (by decide)) (kc 62 (by decide) (by decide) (by decide) (by decide) (by decide)) rfl, ⟨_, _, T_c_fr k2 (l3 1 (by decide) (by decide) (by decide)) (l3 2 (by decide) (by decide) (by decide)), l2, T_w_feed hTw p0 p1 p2 p3 p4⟩, Jf_fr hf (kc 17 (by decide) (by decide) (by decide) (by decide) (by decide)) (k45 12 (by decide)) (k45 13 (by decide)), J_i_fr hi (kc 47 (by decide) (by decide) (by decide) (by decide) (by decide)) (kc 48 (by decide) (by decide) (by decide) (by decide) (by decide)) (fun c hc => kc c (by omega) (by omega) (by omega) (by omega) (by omega))⟩
theorem lq_end {e n : Nat} {im : Nat → Option Nat} {w u : Nat → Nat → Int} {p : Int} (hJ : J_a n im w u) (hj_p : jR p) : ∃ V d1 w2 u2, (z_F 100).1 k_LongBoats_end [.ref 0, .int (Int32.ofInt p)] (n, z_q im, jM w, jL u) = some (V, d1) ∧ (z_F 100).1 k_Model_end [.ref 45, .int (Int32.ofInt p)] (n, z_q im, d1) = some (V, jM w2, jL u2) ∧ J_a n im w2 u2 := by
  obtain ⟨⟨hv, hw, hp⟩, ⟨z, wd, nm, hs, hms, hws⟩, ⟨U, tp, hT, hTm, hTw⟩, hf, hi⟩ := id hJ
  obtain ⟨w1, k1, k2, k3⟩ := x_end (e := 80) (n := n) (im := im) (u := u) hT hTw hj_p
  obtain ⟨w2, l1, l2, l3, l4⟩ := m_end (e := 80) (n := n) (im := im) (u := u) (T_m_fr hTm (by rw [k3 45 (by decide) (by decide)]) (k3 49 (by decide) (by decide))) hTw hj_p
  have kc : ∀ c, c ≠ 1 → c ≠ 2 → c ≠ 45 → w2 c = w c := fun c h1 h2 h3 => (l3 c h3).trans (k3 c h1 h2)
  have k45 : ∀ j, j ≠ 5 → w2 45 j = w 45 j := fun j hj => by rw [l4 j hj, k3 45 (by decide) (by decide)]
  exact ⟨_, _, w2, u, k1, l1, J_v_fr ⟨hv, hw, hp⟩ (kc 3 (by decide) (by decide) (by decide)) (kc 5 (by decide) (by decide) (by decide)) (kc 7 (by decide) (by decide) (by decide)) (kc 9 (by decide) (by decide) (by decide)) (kc 46 (by decide) (by decide) (by decide)), J_s_fr ⟨z, wd, nm, hs, hms, hws⟩ (kc 24 (by decide) (by decide) (by decide)) (kc 22 (by decide) (by decide) (by decide)) rfl (kc 61 (by decide) (by decide) (by decide)) (kc 62 (by decide) (by decide) (by decide)) rfl, ⟨_, _, T_c_fr k2 (l3 1 (by decide)) (l3 2 (by decide)), l2, T_w_end hTw p⟩, Jf_fr hf (kc 17 (by decide) (by decide) (by decide)) (k45 12 (by decide)) (k45 13 (by decide)), J_i_fr hi (kc 47 (by decide) (by decide) (by decide)) (kc 48 (by decide) (by decide) (by decide)) (fun c hc => kc c (by omega) (by omega) (by omega))⟩
theorem lq_harbour {e n : Nat} {im : Nat → Option Nat} {w u : Nat → Nat → Int} (hJ : J_a n im w u) : ∃ V d1 w2 u2, (z_F 100).1 k_LongBoats_harbour [.ref 0] (n, z_q im, jM w, jL u) = some (V, d1) ∧ (z_F 100).1 k_Model_harbour [.ref 45] (n, z_q im, d1) = some (V, jM w2, jL u2) ∧ J_a n im w2 u2 := by
  obtain ⟨⟨hv, hw, hp⟩, ⟨z, wd, nm, hs, hms, hws⟩, ⟨U, tp, hT, hTm, hTw⟩, hf, hi⟩ := id hJ
  obtain ⟨w1, k1, k2, k3, k4, k5, k6⟩ := x_harbour (e := 80) (n := n) (im := im) (u := u) hTw hT
  obtain ⟨w2, l1, l2, l3, l4, l5, l6, l7⟩ := m_harbour (e := 80) (n := n) (im := im) (u := u) hTw (T_m_fr hTm (by rw [k6 45 (by decide)]) (k6 49 (by decide)))
  have kc : ∀ c, (c = 0 ∨ c = 2 ∨ 17 < c) → c ≠ 45 → c ≠ 46 → c ≠ 51 → w2 c = w c := fun c h1 h2 h3 h4 => (l6 c h2 h3 h4).trans (k6 c h1)
  have l6' : ∀ c, c < 45 → w2 c = w1 c := fun c hc => l6 c (by omega) (by omega) (by omega)
  refine ⟨_, _, w2, u, k1, l1, ?_, J_s_fr ⟨z, wd, nm, hs, hms, hws⟩ (kc 24 (by decide) (by decide) (by decide) (by decide)) (kc 22 (by decide) (by decide) (by decide) (by decide)) rfl (kc 61 (by decide) (by decide) (by decide) (by decide)) (kc 62 (by decide) (by decide) (by decide) (by decide)) rfl, ⟨0, tp, ⟨by rw [l6' 1 (by decide)]; exact k2, fun j hj => by omega⟩, ⟨l2, fun j hj => by omega⟩, by omega, fun j hj => by omega⟩, ⟨by rw [l6' 17 (by decide), k3.1, l3.1], by rw [l6' 17 (by decide), k3.2, l3.2]⟩, J_i_fr hi (kc 47 (by decide) (by decide) (by decide) (by decide)) (kc 48 (by decide) (by decide) (by decide) (by decide)) (fun c hc => kc c (by omega) (by omega) (by omega) (by omega))⟩
  by_cases h : (A_all U tp).1.1 = 0
  · have hW := W_all hTw h
    have hm := l4 h
    refine ⟨c_v_cg (c_v_fr4 (k4 h) (l6' 3 (by decide)) (l6' 5 (by decide)) (l6' 7 (by decide)) (l6' 9 (by decide))) hm, a_wf_cg hW.1 hm, p1_cg (fun q => ?_) hm⟩
    have f9 := hW.1.2.2.2.2.2.2.2.2.2.1
    exact hW.2.2.1 (by
      rcases Int.lt_or_le 0 ((A_all U tp).2 9) with q9 | q9
      · exact q9
      · have := hW.2.1 (by omega); omega)
  · obtain ⟨c3, c5, c7, c9⟩ := k5 h
    exact J_v_fr ⟨hv, hw, hp⟩ ((l6' 3 (by decide)).trans c3) ((l6' 5 (by decide)).trans c5) ((l6' 7 (by decide)).trans c7) ((l6' 9 (by decide)).trans c9) ((l5 h).trans (k6 46 (by decide)))
