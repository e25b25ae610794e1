/-! the text read: every line leaves a harbour -/
theorem W_9 {v : Nat → Int} (hW : W_v v) (h9 : v 9 + 1 ≤ 1200) (h : 0 < v 9) : W_v (a_up v 9 (v 9 + 1)) := by
  obtain ⟨f0, f1, f2, f3, f4, f5, f6, f7, f8, f9, f10, f11, f12⟩ := id hW.1
  exact W_lo hW (fun j _ hj => a_up_ne hj) f0 f1 f2 f3 f4 f5 (by rw [a_up_eq]; omega) (fun q => by rw [a_up_eq] at q; omega) (fun _ => hW.2.2.1 h)
theorem W_ha {U : Nat} {tp : Nat → Int} {r : zR} {v : Nat → Int} (hW : W_v v) (h9 : v 9 + 1 ≤ 1200) (hg : (A_ha U tp (r, v)).1.1 = 0) : W_v (a_up (A_ha U tp (r, v)).2 9 ((A_ha U tp (r, v)).2 9 + 1)) ∧ (A_ha U tp (r, v)).2 9 = v 9 := by
  obtain ⟨f0, f1, f2, f3, f4, f5, f6, f7, f8, f9, f10, f11, f12⟩ := id hW.1
  obtain ⟨a1, a2⟩ := A_to_g (j := 2) (s := (A_to U tp (z_tx 29) 0 12 1 (A_to U tp (z_tx 28) 0 9 0 (A_wo U tp (z_tx 27) r, v)))) hg
  obtain ⟨b1, b2⟩ := A_to_g a1
  obtain ⟨c1, c2⟩ := A_to_g b1
  have hs : ∀ j, 5 ≤ j → (A_ha U tp (r, v)).2 j = v j := fun j hj => by
    show a_up (a_up (A_to U tp (z_tx 30) 1 7 2 (A_to U tp (z_tx 29) 0 12 1 (A_to U tp (z_tx 28) 0 9 0 (A_wo U tp (z_tx 27) r, v)))).2 3 2) 4 4 j = v j
    rw [a_up_ne (by omega), a_up_ne (by omega), A_to_lo (by omega), A_to_lo (by omega), A_to_lo (by omega)]
  have e9 := hs 9 (by decide)
  rw [e9]
  refine ⟨W_lo hW (fun j hj hj9 => (a_up_ne hj9).trans (hs j (by omega))) ?_ ?_ ?_ (by decide : (0 : Int) ≤ 2 ∧ (2 : Int) ≤ 12) (by decide : (0 : Int) ≤ 4 ∧ (4 : Int) ≤ 12) ?_ (by rw [a_up_eq]; omega) (fun q => by rw [a_up_eq] at q; omega) ?_, rfl⟩
  · show 0 ≤ (A_to U tp (z_tx 30) 1 7 2 (A_to U tp (z_tx 29) 0 12 1 (A_to U tp (z_tx 28) 0 9 0 (A_wo U tp (z_tx 27) r, v)))).2 0 ∧ (A_to U tp (z_tx 30) 1 7 2 (A_to U tp (z_tx 29) 0 12 1 (A_to U tp (z_tx 28) 0 9 0 (A_wo U tp (z_tx 27) r, v)))).2 0 ≤ 9
    rw [A_to_lo (by decide), A_to_lo (by decide)]; exact c2
  · show 0 ≤ (A_to U tp (z_tx 30) 1 7 2 (A_to U tp (z_tx 29) 0 12 1 (A_to U tp (z_tx 28) 0 9 0 (A_wo U tp (z_tx 27) r, v)))).2 1 ∧ (A_to U tp (z_tx 30) 1 7 2 (A_to U tp (z_tx 29) 0 12 1 (A_to U tp (z_tx 28) 0 9 0 (A_wo U tp (z_tx 27) r, v)))).2 1 ≤ 12
    rw [A_to_lo (by decide)]; exact b2
  · exact ⟨Int.le_trans (by decide : (0 : Int) ≤ 1) a2.1, a2.2⟩
  · rw [a_up_ne (by decide), hs 5 (by decide)]; exact f5
  · exact fun _ => a2.1
theorem W_re {U : Nat} {tp : Nat → Int} {r : zR} {v : Nat → Int} (hW : W_v v) (h9 : v 9 + 1 ≤ 1200) (h : 0 < v 9) (hg : (A_re U tp (r, v)).1.1 = 0) : W_v (a_up (A_re U tp (r, v)).2 9 ((A_re U tp (r, v)).2 9 + 1)) ∧ (A_re U tp (r, v)).2 9 = v 9 := by
  obtain ⟨f0, f1, f2, f3, f4, f5, f6, f7, f8, f9, f10, f11, f12⟩ := id hW.1
  obtain ⟨a1, a2⟩ := A_to_g hg
  have b := A_nu_g (show (A_nu U tp 0 12 (A_nx U tp r)).1 = 0 from a1)
  have hx : 0 ≤ A_vl 0 12 (A_nx U tp r) ∧ A_vl 0 12 (A_nx U tp r) ≤ 12 := by rw [b.2.2.2.2]; exact b.2.2.2.1
  have hs : ∀ j, j ≠ 3 → j ≠ 4 → (A_re U tp (r, v)).2 j = v j := fun j h3 h4 => (A_to_lo h4).trans (a_up_ne h3)
  have e3 : (A_re U tp (r, v)).2 3 = A_vl 0 12 (A_nx U tp r) := (A_to_lo (by decide)).trans (show a_up v 3 (A_vl 0 12 (A_nx U tp r)) 3 = _ from a_up_eq)
  have e9 := hs 9 (by decide) (by decide)
  rw [e9]
  have a2' : A_vl 0 12 (A_nx U tp r) ≤ (A_re U tp (r, v)).2 4 ∧ (A_re U tp (r, v)).2 4 ≤ 12 := a2
  refine ⟨W_lo hW (fun j hj hj9 => (a_up_ne hj9).trans (hs j (by omega) (by omega))) ?_ ?_ ?_ ?_ ?_ ?_ (by rw [a_up_eq]; omega) (fun q => by rw [a_up_eq] at q; omega) ?_, rfl⟩
  · rw [a_up_ne (by decide), hs 0 (by decide) (by decide)]; exact f0
  · rw [a_up_ne (by decide), hs 1 (by decide) (by decide)]; exact f1
  · rw [a_up_ne (by decide), hs 2 (by decide) (by decide)]; exact f2
  · rw [a_up_ne (by decide), e3]; exact hx
  · rw [a_up_ne (by decide)]; omega
  · rw [a_up_ne (by decide), hs 5 (by decide) (by decide)]; exact f5
  · intro _; rw [a_up_ne (by decide), hs 2 (by decide) (by decide)]; exact hW.2.2.1 h
theorem W_er {U : Nat} {tp : Nat → Int} {r : zR} {v : Nat → Int} (hW : W_v v) (h9 : v 9 + 1 ≤ 1200) (h : 0 < v 9) (hg : (A_er U tp (r, v)).1.1 = 0) : W_v (a_up (A_er U tp (r, v)).2 9 ((A_er U tp (r, v)).2 9 + 1)) ∧ (A_er U tp (r, v)).2 9 = v 9 := by
  obtain ⟨f0, f1, f2, f3, f4, f5, f6, f7, f8, f9, f10, f11, f12⟩ := id hW.1
  have b := A_nu_g (show (A_nu U tp 0 50 (A_nx U tp r)).1 = 0 from hg)
  have e5 : (A_er U tp (r, v)).2 5 = A_vl 0 50 (A_nx U tp r) := (show a_up v 5 (A_vl 0 50 (A_nx U tp r)) 5 = _ from a_up_eq)
  have hs : ∀ j, j ≠ 5 → (A_er U tp (r, v)).2 j = v j := fun j h3 => a_up_ne h3
  have e9 := hs 9 (by decide)
  rw [e9]
  refine ⟨W_lo hW (fun j hj hj9 => (a_up_ne hj9).trans (hs j (by omega))) f0 f1 f2 f3 f4 ?_ (by rw [a_up_eq]; omega) (fun q => by rw [a_up_eq] at q; omega) (fun _ => hW.2.2.1 h), rfl⟩
  rw [a_up_ne (by decide), e5, b.2.2.2.2]; exact b.2.2.2.1
theorem W_bo {U : Nat} {tp : Nat → Int} {r : zR} {v : Nat → Int} (hW : W_v v) (h9 : v 9 + 1 ≤ 1200) (h : 0 < v 9) (hg : (A_bo U tp (r, v)).1.1 = 0) : W_v (a_up (A_bo U tp (r, v)).2 9 ((A_bo U tp (r, v)).2 9 + 1)) ∧ (A_bo U tp (r, v)).2 9 = v 9 := by
  obtain ⟨f0, f1, f2, f3, f4, f5, f6, f7, f8, f9, f10, f11, f12⟩ := id hW.1
  by_cases h6 : v 6 = 4
  · have E : A_bo U tp (r, v) = (A_fl 3 r, v) := if_pos h6
    rw [E] at hg
    exact absurd hg (A_fl_n0 (by decide))
  · have E : A_bo U tp (r, v) = ((A_to U tp (z_tx 33) 0 4 (10 + 2 * (v 6).toNat + 1) (A_to U tp (z_tx 32) 2 12 (10 + 2 * (v 6).toNat) (A_nx U tp r, v))).1, a_up (A_to U tp (z_tx 33) 0 4 (10 + 2 * (v 6).toNat + 1) (A_to U tp (z_tx 32) 2 12 (10 + 2 * (v 6).toNat) (A_nx U tp r, v))).2 6 (v 6 + 1)) := if_neg h6
    rw [E] at hg ⊢
    obtain ⟨a1, a2⟩ := A_to_g hg
    obtain ⟨b1, b2⟩ := A_to_g a1
    dsimp only
    have e6 : a_up (A_to U tp (z_tx 33) 0 4 (10 + 2 * (v 6).toNat + 1) (A_to U tp (z_tx 32) 2 12 (10 + 2 * (v 6).toNat) (A_nx U tp r, v))).2 6 (v 6 + 1) 6 = v 6 + 1 := a_up_eq
    have ea : a_up (A_to U tp (z_tx 33) 0 4 (10 + 2 * (v 6).toNat + 1) (A_to U tp (z_tx 32) 2 12 (10 + 2 * (v 6).toNat) (A_nx U tp r, v))).2 6 (v 6 + 1) (10 + 2 * (v 6).toNat) = (A_to U tp (z_tx 32) 2 12 (10 + 2 * (v 6).toNat) (A_nx U tp r, v)).2 (10 + 2 * (v 6).toNat) := by rw [a_up_ne (by omega), A_to_lo (by omega)]
    have eb : a_up (A_to U tp (z_tx 33) 0 4 (10 + 2 * (v 6).toNat + 1) (A_to U tp (z_tx 32) 2 12 (10 + 2 * (v 6).toNat) (A_nx U tp r, v))).2 6 (v 6 + 1) (10 + 2 * (v 6).toNat + 1) = (A_to U tp (z_tx 33) 0 4 (10 + 2 * (v 6).toNat + 1) (A_to U tp (z_tx 32) 2 12 (10 + 2 * (v 6).toNat) (A_nx U tp r, v))).2 (10 + 2 * (v 6).toNat + 1) := a_up_ne (by omega)
    have hs : ∀ j, j ≠ 6 → j ≠ 10 + 2 * (v 6).toNat → j ≠ 10 + 2 * (v 6).toNat + 1 → a_up (A_to U tp (z_tx 33) 0 4 (10 + 2 * (v 6).toNat + 1) (A_to U tp (z_tx 32) 2 12 (10 + 2 * (v 6).toNat) (A_nx U tp r, v))).2 6 (v 6 + 1) j = v j := fun j j1 j2 j3 => by rw [a_up_ne j1, A_to_lo j3, A_to_lo j2]
    rw [← ea] at b2
    rw [← eb] at a2
    generalize a_up (A_to U tp (z_tx 33) 0 4 (10 + 2 * (v 6).toNat + 1) (A_to U tp (z_tx 32) 2 12 (10 + 2 * (v 6).toNat) (A_nx U tp r, v))).2 6 (v 6 + 1) = v' at e6 a2 b2 hs
    have e9 := hs 9 (by decide) (by omega) (by omega)
    have hW' : W_v v' := ⟨wf_bo_ hW.1 (by omega) e6 b2 a2 hs, fun q => by omega, fun _ => by rw [hs 2 (by decide) (by omega) (by omega)]; exact hW.2.2.1 h, fun j j0 j1 => by
      rw [hs 8 (by decide) (by omega) (by omega)] at j0
      rw [hs j (by omega) (by omega) (by omega)]; exact hW.2.2.2 j j0 j1⟩
    exact ⟨W_9 hW' (by omega) (by omega), e9⟩
theorem A_av_b (tp : Nat → Int) (r : zR) : 0 ≤ A_av tp r ∧ A_av tp r ≤ 2 := by
  unfold A_av
  (repeat' split) <;> omega
theorem A_ai_g {U : Nat} {tp : Nat → Int} {r : zR} (h : (A_ai U tp r).1 = 0) : r.1 = 0 ∧ A_ai U tp r = A_nx U tp r ∧ (t_is tp (z_tx 40) r.2.2 = true ∨ t_is tp (z_tx 41) r.2.2 = true ∨ t_is tp (z_tx 42) r.2.2 = true) := by
  unfold A_ai at h ⊢
  rw [A_nx_1] at h
  by_cases k1 : t_is tp (z_tx 40) r.2.2 = true
  · rw [if_pos k1] at h ⊢; exact ⟨h, rfl, Or.inl k1⟩
  · rw [if_neg k1] at h ⊢
    by_cases k2 : t_is tp (z_tx 41) r.2.2 = true
    · rw [if_pos k2] at h ⊢; exact ⟨h, rfl, Or.inr (Or.inl k2)⟩
    · rw [if_neg k2] at h ⊢
      by_cases k3 : t_is tp (z_tx 42) r.2.2 = true
      · rw [if_pos k3] at h ⊢; exact ⟨h, rfl, Or.inr (Or.inr k3)⟩
      · rw [if_neg k3] at h; exact absurd h (A_fl_n0 (by decide))
theorem m5_g {U : Nat} {tp : Nat → Int} {m : Nat} {s : zS} (hg : (A_m5 U tp m s).1.1 = 0) : s.1.1 = 0 ∧ (40 ≤ (A_m5 U tp m s).2 (18 + 6 * m) ∧ (A_m5 U tp m s).2 (18 + 6 * m) ≤ 200) ∧ (0 ≤ (A_m5 U tp m s).2 (18 + 6 * m + 1) ∧ (A_m5 U tp m s).2 (18 + 6 * m + 1) ≤ 30) ∧ (0 ≤ (A_m5 U tp m s).2 (18 + 6 * m + 2) ∧ (A_m5 U tp m s).2 (18 + 6 * m + 2) ≤ 30) ∧ (0 ≤ (A_m5 U tp m s).2 (18 + 6 * m + 3) ∧ (A_m5 U tp m s).2 (18 + 6 * m + 3) ≤ 9) ∧ (0 ≤ (A_m5 U tp m s).2 (18 + 6 * m + 4) ∧ (A_m5 U tp m s).2 (18 + 6 * m + 4) ≤ 4) ∧ ∀ j, (j < 18 + 6 * m ∨ 18 + 6 * m + 5 ≤ j) → (A_m5 U tp m s).2 j = s.2 j := by
  unfold A_m5 at hg ⊢
  obtain ⟨a1, a2⟩ := A_to_g hg
  obtain ⟨b1, b2⟩ := A_to_g a1
  obtain ⟨c1, c2⟩ := A_to_g b1
  obtain ⟨d1, d2⟩ := A_to_g c1
  obtain ⟨e1, e2⟩ := A_to_g d1
  refine ⟨e1, ?_, ?_, ?_, ?_, a2, fun j hj => ?_⟩
  · rw [A_to_lo (by omega), A_to_lo (by omega), A_to_lo (by omega), A_to_lo (by omega)]; exact e2
  · rw [A_to_lo (by omega), A_to_lo (by omega), A_to_lo (by omega)]; exact d2
  · rw [A_to_lo (by omega), A_to_lo (by omega)]; exact c2
  · rw [A_to_lo (by omega)]; exact b2
  · rw [A_to_lo (by omega), A_to_lo (by omega), A_to_lo (by omega), A_to_lo (by omega), A_to_lo (by omega)]
theorem W_mn {U : Nat} {tp : Nat → Int} {r : zR} {v : Nat → Int} (hW : W_v v) (h9 : v 9 + 1 ≤ 1200) (h : 0 < v 9) (hg : (A_mn U tp (r, v)).1.1 = 0) : W_v (a_up (A_mn U tp (r, v)).2 9 ((A_mn U tp (r, v)).2 9 + 1)) ∧ (A_mn U tp (r, v)).2 9 = v 9 := by
  obtain ⟨f0, f1, f2, f3, f4, f5, f6, f7, f8, f9, f10, f11, f12⟩ := id hW.1
  by_cases h7 : v 7 = 10
  · have E : A_mn U tp (r, v) = (A_fl 3 r, v) := if_pos h7
    rw [E] at hg
    exact absurd hg (A_fl_n0 (by decide))
  · have E : A_mn U tp (r, v) = (A_ai U tp (A_wo U tp (z_tx 39) (A_m5 U tp (v 7).toNat (A_nx U tp r, v)).1), a_up (a_up (A_m5 U tp (v 7).toNat (A_nx U tp r, v)).2 (18 + 6 * (v 7).toNat + 5) (A_av tp (A_wo U tp (z_tx 39) (A_m5 U tp (v 7).toNat (A_nx U tp r, v)).1))) 7 (v 7 + 1)) := if_neg h7
    rw [E] at hg ⊢
    have g1 := A_wo_g (A_ai_g hg).1
    obtain ⟨m0, m1, m2, m3, m4, m5, m6⟩ := m5_g g1.1
    have hav := A_av_b tp (A_wo U tp (z_tx 39) (A_m5 U tp (v 7).toNat (A_nx U tp r, v)).1)
    dsimp only
    generalize A_av tp (A_wo U tp (z_tx 39) (A_m5 U tp (v 7).toNat (A_nx U tp r, v)).1) = x at hav
    generalize (A_m5 U tp (v 7).toNat (A_nx U tp r, v)).2 = v5 at m1 m2 m3 m4 m5 m6
    have hs : ∀ j, j ≠ 7 → (j < 18 + 6 * (v 7).toNat ∨ 18 + 6 * (v 7).toNat + 6 ≤ j) → a_up (a_up v5 (18 + 6 * (v 7).toNat + 5) x) 7 (v 7 + 1) j = v j := fun j j1 j2 => by rw [a_up_ne j1, a_up_ne (by omega)]; exact m6 j (by omega)
    have ho : ∀ j, j < 5 → a_up (a_up v5 (18 + 6 * (v 7).toNat + 5) x) 7 (v 7 + 1) (18 + 6 * (v 7).toNat + j) = v5 (18 + 6 * (v 7).toNat + j) := fun j hj => by rw [a_up_ne (by omega), a_up_ne (by omega)]
    have h5 : a_up (a_up v5 (18 + 6 * (v 7).toNat + 5) x) 7 (v 7 + 1) (18 + 6 * (v 7).toNat + 5) = x := by rw [a_up_ne (by omega), a_up_eq]
    have e7 : a_up (a_up v5 (18 + 6 * (v 7).toNat + 5) x) 7 (v 7 + 1) 7 = v 7 + 1 := a_up_eq
    generalize a_up (a_up v5 (18 + 6 * (v 7).toNat + 5) x) 7 (v 7 + 1) = v' at hs ho h5 e7
    have e9 := hs 9 (by decide) (by omega)
    have htr : a_tr (a_T v' (v 7)) := by
      unfold a_tr a_T
      rw [ho 0 (by decide), ho 1 (by decide), ho 2 (by decide), ho 3 (by decide), ho 4 (by decide), h5]
      exact ⟨m1, m2, m3, m4, m5, hav⟩
    have hW' : W_v v' := ⟨wf_mn_ hW.1 (by omega) e7 htr hs, fun q => by omega, fun _ => by rw [hs 2 (by decide) (by omega)]; exact hW.2.2.1 h, fun j j0 j1 => by
      rw [hs 8 (by decide) (by omega)] at j0
      rw [hs j (by omega) (by omega)]; exact hW.2.2.2 j j0 j1⟩
    exact ⟨W_9 hW' (by omega) (by omega), e9⟩
def X_m (v0 v : Nat → Int) : Prop := V_m v ∧ v 8 = v0 8 ∧ (∀ j, (j < 78 + 7 * (v0 8).toNat + 1 ∨ 78 + 7 * (v0 8).toNat + 7 ≤ j) → v j = v0 j) ∧ ∀ i j : Nat, i < j → (j : Int) < v (78 + 7 * (v0 8).toNat + 1) → v (78 + 7 * (v0 8).toNat + 2 + i) ≠ v (78 + 7 * (v0 8).toNat + 2 + j)
theorem X_ma {U : Nat} {tp : Nat → Int} {r : zR} {v0 v : Nat → Int} (hX : X_m v0 v) : X_m v0 (A_ma U tp (r, v)).2 ∧ v (78 + 7 * (v0 8).toNat + 1) ≤ (A_ma U tp (r, v)).2 (78 + 7 * (v0 8).toNat + 1) ∧ ((A_ma U tp (r, v)).1.1 = 0 → (A_ma U tp (r, v)).2 (78 + 7 * (v0 8).toNat + 1) = v (78 + 7 * (v0 8).toNat + 1) + 1) := by
  obtain ⟨x1, x2, x3, x4⟩ := id hX
  obtain ⟨y1, y2, y3, y4⟩ := V_ma (U := U) (tp := tp) (r := r) x1
  rw [x2] at y4
  by_cases h : (A_nt 0 (v 7 - 1) (A_m3 v r)).1 = 0
  · obtain ⟨h1, h2, h3, h4⟩ := A_nt_g h
    have g := A_m3_g x1 h
    obtain ⟨v1, v2, v3, v4⟩ := id x1
    have E : (A_ma U tp (r, v)).2 = a_up (a_up v (78 + 7 * (v 8).toNat + 2 + (v (78 + 7 * (v 8).toNat + 1)).toNat) (A_vl 0 (v 7 - 1) (A_m3 v r))) (78 + 7 * (v 8).toNat + 1) (v (78 + 7 * (v 8).toNat + 1) + 1) := if_pos h
    have E1 : (A_ma U tp (r, v)).1.1 = 0 := (A_nx_1 _ _ _).trans h
    have y4' := y4 E1
    rw [h4, g.1, x2] at E
    have gi := g.2.2
    rw [x2] at v3 v4
    have g4 := g.2.1
    rw [x2] at g4
    refine ⟨⟨y1, y2.trans x2, fun j hj => ?_, fun i j hij hj => ?_⟩, by omega, y4⟩
    · rw [E, a_up_ne (by omega), a_up_ne (by omega)]; exact x3 j hj
    · rw [y4'] at hj
      rw [E, a_up_ne (by omega), a_up_ne (by omega), a_up_ne (by omega)]
      by_cases hk : (j : Int) = v (78 + 7 * (v0 8).toNat + 1)
      · rw [show (v (78 + 7 * (v0 8).toNat + 1)).toNat = j by omega, a_up_eq]
        intro q
        refine gi (decide_eq_true ⟨i, ?_, ?_⟩)
        · rw [x2]; omega
        · rw [x2]; exact q
      · rw [a_up_ne (by omega)]; exact x4 i j hij (by omega)
  · have E : (A_ma U tp (r, v)).2 = v := if_neg h
    rw [E] at y4 ⊢
    exact ⟨hX, Int.le_refl _, y4⟩
theorem X_ms {U : Nat} {tp : Nat → Int} {v0 : Nat → Int} : ∀ (f : Nat) (s : zS), X_m v0 s.2 → X_m v0 (A_ms U tp f s).2 ∧ s.2 (78 + 7 * (v0 8).toNat + 1) ≤ (A_ms U tp f s).2 (78 + 7 * (v0 8).toNat + 1) ∧ ((A_ms U tp f s).1.1 = 0 → s.1.1 = 0)
  | 0, s, h => ⟨h, Int.le_refl _, fun q => q⟩
  | f + 1, s, h => by
    simp only [A_ms]
    by_cases hc : s.1.2.2.2.2.1 = 2 ∧ s.1.1 = 0
    · rw [if_pos hc]
      obtain ⟨a1, a2, a3⟩ := X_ma (U := U) (tp := tp) (r := s.1) h
      obtain ⟨b1, b2, b3⟩ := X_ms (U := U) (tp := tp) f (A_ma U tp s) a1
      exact ⟨b1, Int.le_trans a2 b2, fun _ => hc.2⟩
    · rw [if_neg hc]
      exact ⟨h, Int.le_refl _, fun q => q⟩
theorem A_ma_g {U : Nat} {tp : Nat → Int} {r : zR} {v : Nat → Int} (hV : V_m v) (h : (A_ma U tp (r, v)).1.1 = 0) : r.1 = 0 := by
  have h1 : (A_nt 0 (v 7 - 1) (A_m3 v r)).1 = 0 := (A_nx_1 U tp _).symm.trans h
  have g := A_m3_g hV h1
  have k := (A_nt_g h1).1
  rw [g.1] at k
  rw [g.1, k] at h1
  exact h1
theorem W_te {U : Nat} {tp : Nat → Int} {r : zR} {v : Nat → Int} (hW : W_v v) (h9 : v 9 + 1 ≤ 1200) (h : 0 < v 9) (hg : (A_te U tp (r, v)).1.1 = 0) : W_v (a_up (A_te U tp (r, v)).2 9 ((A_te U tp (r, v)).2 9 + 1)) ∧ (A_te U tp (r, v)).2 9 = v 9 := by
  obtain ⟨f0, f1, f2, f3, f4, f5, f6, f7, f8, f9, f10, f11, f12⟩ := id hW.1
  by_cases h8 : v 8 = 4
  · have E : A_te U tp (r, v) = (A_fl 3 r, v) := if_pos h8
    rw [E] at hg
    exact absurd hg (A_fl_n0 (by decide))
  · have E : A_te U tp (r, v) = ((A_t2 U tp (r, v)).1, a_up (A_t2 U tp (r, v)).2 8 ((A_t2 U tp (r, v)).2 8 + 1)) := if_neg h8
    rw [E] at hg ⊢
    have z1 := hW.2.2.2 (78 + 7 * (v 8).toNat + 1) (by omega) (by omega)
    obtain ⟨V1, V2, V3⟩ := V_t1 (U := U) (tp := tp) (r := r) f7 (by omega) z1
    have X0 : X_m (A_t1 U tp (r, v)).2 (A_t1 U tp (r, v)).2 := ⟨V1, rfl, fun _ _ => rfl, fun i j hij hj => by rw [V2, V3] at hj; omega⟩
    obtain ⟨a1, a2, a3⟩ := X_ma (U := U) (tp := tp) (r := (A_t1 U tp (r, v)).1) X0
    obtain ⟨b1, b2, b3⟩ := X_ms (U := U) (tp := tp) 6 (A_ma U tp (A_t1 U tp (r, v))) a1
    have c1 := b3 hg
    have c2 := a3 c1
    have c3 := A_ma_g V1 c1
    have c4 := A_nu_g (show (A_nu U tp 0 (v 6 - 1) (A_nx U tp r)).1 = 0 from c3)
    have ht0 : (A_t1 U tp (r, v)).2 (78 + 7 * (v 8).toNat) = A_vl 0 (v 6 - 1) (A_nx U tp r) := a_up_eq
    rw [c4.2.2.2.2] at ht0
    have hbt := c4.2.2.2.1
    rw [← ht0] at hbt
    have ht1 : ∀ j, j ≠ 78 + 7 * (v 8).toNat → (A_t1 U tp (r, v)).2 j = v j := fun j hj => a_up_ne hj
    have hEE : A_ms U tp 6 (A_ma U tp (A_t1 U tp (r, v))) = A_t2 U tp (r, v) := rfl
    rw [hEE] at b1 b2
    have hmm : A_ma U tp ((A_t1 U tp (r, v)).1, (A_t1 U tp (r, v)).2) = A_ma U tp (A_t1 U tp (r, v)) := rfl
    rw [hmm] at c2
    rw [V2] at c2 b2
    rw [V3] at c2
    dsimp only
    generalize (A_t2 U tp (r, v)).2 = v2 at b1 b2
    generalize (A_t1 U tp (r, v)).2 = v1 at V1 V2 V3 b1 ht1 hbt
    obtain ⟨⟨p1, p2, p3, p4⟩, p5, p6, p7⟩ := b1
    rw [p5, V2] at p1 p3 p4
    rw [V2] at p6 p7
    rw [p5, V2]
    have hs : ∀ j, j ≠ 8 → (j < 78 + 7 * (v 8).toNat ∨ 78 + 7 * (v 8).toNat + 7 ≤ j) → a_up v2 8 (v 8 + 1) j = v j := fun j j1 j2 => by rw [a_up_ne j1, p6 j (by omega), ht1 j (by omega)]
    have h7' : v2 7 = v 7 := by rw [p6 7 (by omega), ht1 7 (by omega)]
    have hte : a_te (a_up v2 8 (v 8 + 1)) (v 8) := by
      unfold a_te
      rw [a_up_ne (show 78 + 7 * (v 8).toNat ≠ 8 by omega), a_up_ne (show 78 + 7 * (v 8).toNat + 1 ≠ 8 by omega), hs 6 (by decide) (by omega), hs 7 (by decide) (by omega), p6 (78 + 7 * (v 8).toNat) (by omega)]
      refine ⟨by omega, by omega, fun i i0 i1 => ?_, fun i j i0 i1 i2 => ?_⟩
      · rw [a_up_ne (by omega)]
        have := p4 i.toNat (by omega)
        omega
      · rw [a_up_ne (by omega), a_up_ne (by omega)]
        exact p7 i.toNat j.toNat (by omega) (by omega)
    have e8 : a_up v2 8 (v 8 + 1) 8 = v 8 + 1 := a_up_eq
    generalize a_up v2 8 (v 8 + 1) = v' at hs hte e8
    have e9 := hs 9 (by decide) (by omega)
    have hW' : W_v v' := ⟨wf_te_ hW.1 (by omega) e8 hte hs, fun q => by omega, fun _ => by rw [hs 2 (by decide) (by omega)]; exact hW.2.2.1 h, fun j j0 j1 => by
      rw [e8] at j0
      rw [hs j (by omega) (by omega)]; exact hW.2.2.2 j (by omega) j1⟩
    exact ⟨W_9 hW' (by omega) (by omega), e9⟩
theorem W_l1 {U : Nat} {tp : Nat → Int} {r : zR} {v : Nat → Int} (hW : W_v v) (h9 : v 9 + 1 ≤ 1200) (hg : (A_l1 U tp (r, v)).1.1 = 0) : W_v (a_up (A_l1 U tp (r, v)).2 9 ((A_l1 U tp (r, v)).2 9 + 1)) ∧ (A_l1 U tp (r, v)).2 9 = v 9 := by
  have f9 := hW.1.2.2.2.2.2.2.2.2.2.1
  unfold A_l1 at hg ⊢
  by_cases h0 : v 9 = 0
  · rw [if_pos (show ((r, v) : zS).2 9 = 0 from h0)] at hg ⊢
    exact W_ha hW h9 hg
  · have h : 0 < v 9 := by omega
    rw [if_neg (show ¬ ((r, v) : zS).2 9 = 0 from h0)] at hg ⊢
    split at hg
    · rename_i k; rw [if_pos k]; exact W_re hW h9 h hg
    · rename_i k1; rw [if_neg k1]
      split at hg
      · rename_i k; rw [if_pos k]; exact W_bo hW h9 h hg
      · rename_i k2; rw [if_neg k2]
        split at hg
        · rename_i k; rw [if_pos k]; exact W_mn hW h9 h hg
        · rename_i k3; rw [if_neg k3]
          split at hg
          · rename_i k; rw [if_pos k]; exact W_te hW h9 h hg
          · rename_i k4; rw [if_neg k4]
            split at hg
            · rename_i k; rw [if_pos k]; exact W_er hW h9 h hg
            · exact absurd hg (A_fl_n0 (by decide))
def G_s (U : Nat) (s : zS) : Prop := r_ok U s.1 ∧ (s.1.1 = 0 → W_v s.2 ∧ s.2 9 ≤ (s.1.2.2.1 : Int) ∧ (s.1.2.2.2.2.1 ≠ 0 → s.2 9 < (s.1.2.2.1 : Int)))
theorem G_ln {U : Nat} {tp : Nat → Int} {s : zS} (hU : U ≤ 1200) (hG : G_s U s) (h0 : s.1.1 = 0) (hk : s.1.2.2.2.2.1 ≠ 0) : G_s U (A_ln U tp s) := by
  obtain ⟨g1, g2⟩ := hG
  obtain ⟨g3, g4, g5⟩ := g2 h0
  have g6 := g5 hk
  have hat := g1.1.2.1
  obtain ⟨a1, a2⟩ := R_l1 U tp s g1
  obtain ⟨b1, b2⟩ := R_si U tp _ a1
  refine ⟨b1, fun q => ?_⟩
  obtain ⟨c1, c2, c3⟩ := A_si_g q
  have d := W_l1 (U := U) (tp := tp) (r := s.1) (v := s.2) g3 (by omega) c1
  have e9 : (A_ln U tp s).2 9 = s.2 9 + 1 := by
    show a_up (A_l1 U tp s).2 9 ((A_l1 U tp s).2 9 + 1) 9 = _
    rw [a_up_eq]
    have : (A_l1 U tp s).2 9 = s.2 9 := d.2
    rw [this]
  have hE : (A_ln U tp s).1 = (0, (A_l1 U tp s).1.2.1, t_nx U tp (A_l1 U tp s).1.2.2.1) := by
    show A_si U tp (A_l1 U tp s).1 = _
    rw [c3]
    unfold A_nx
    rw [if_pos c1, c1]
  have k := t_nx_ok (tp := tp) a1.1.2.1
  refine ⟨d.1, ?_, fun hq => ?_⟩
  · rw [e9, hE]
    have := k.1.1
    have := k.2.1
    dsimp only
    omega
  · rw [hE] at hq
    have := k.1.2.2.2.2 hq
    have := k.2.1
    rw [e9, hE]
    dsimp only
    omega
