/-! the text read: what a line leaves, apart from the machine -/
theorem A_wo_g {U : Nat} {tp : Nat → Int} {nm : List Int32} {r : zR} (h : (A_wo U tp nm r).1 = 0) : r.1 = 0 ∧ t_is tp nm r.2.2 = true ∧ A_wo U tp nm r = A_nx U tp r := by
  unfold A_wo at h ⊢
  rw [A_nx_1] at h
  by_cases k : t_is tp nm r.2.2 = true
  · rw [if_pos k] at h ⊢; exact ⟨h, k, rfl⟩
  · rw [if_neg k] at h; exact absurd h (A_fl_n0 (by decide))
theorem A_nu_g {U : Nat} {tp : Nat → Int} {lo hi : Int} {r : zR} (h : (A_nu U tp lo hi r).1 = 0) : r.1 = 0 ∧ A_nu U tp lo hi r = A_nx U tp r ∧ r.2.2.2.2.1 = 2 ∧ (lo ≤ r.2.2.2.2.2 ∧ r.2.2.2.2.2 ≤ hi) ∧ A_vl lo hi r = r.2.2.2.2.2 := by
  unfold A_nu at h ⊢
  rw [A_nx_1] at h
  obtain ⟨h1, h2, h3, h4⟩ := A_nt_g h
  rw [h1] at h ⊢
  exact ⟨h, rfl, h2, h3, h4⟩
theorem A_si_g {U : Nat} {tp : Nat → Int} {r : zR} (h : (A_si U tp r).1 = 0) : r.1 = 0 ∧ r.2.2.2.2.1 = 3 ∧ A_si U tp r = A_nx U tp r := by
  unfold A_si at h ⊢
  rw [A_nx_1] at h
  by_cases k : r.2.2.2.2.1 = 3
  · rw [if_pos k] at h ⊢; exact ⟨h, k, rfl⟩
  · rw [if_neg k] at h; exact absurd h (A_fl_n0 (by decide))
theorem A_to_g {U : Nat} {tp : Nat → Int} {nm : List Int32} {lo hi : Int} {j : Nat} {s : zS} (h : (A_to U tp nm lo hi j s).1.1 = 0) : s.1.1 = 0 ∧ (lo ≤ (A_to U tp nm lo hi j s).2 j ∧ (A_to U tp nm lo hi j s).2 j ≤ hi) := by
  have a := A_nu_g (show (A_nu U tp lo hi (A_wo U tp nm s.1)).1 = 0 from h)
  have b := A_wo_g a.1
  have c : (A_to U tp nm lo hi j s).2 j = (A_wo U tp nm s.1).2.2.2.2.2 := a_up_eq.trans a.2.2.2.2
  rw [c]
  exact ⟨b.1, a.2.2.2.1⟩
/-- the reader goes on, never back -/
def R_g (U : Nat) (r r' : zR) : Prop := r_ok U r → r_ok U r' ∧ r.2.2.1 ≤ r'.2.2.1
theorem R_rf (U : Nat) (r : zR) : R_g U r r := fun h => ⟨h, Nat.le_refl _⟩
theorem R_tr {U : Nat} {a b c : zR} (h : R_g U a b) (k : R_g U b c) : R_g U a c := fun q => ⟨(k (h q).1).1, Nat.le_trans (h q).2 (k (h q).1).2⟩
theorem R_nx (U : Nat) (tp : Nat → Int) (r : zR) : R_g U r (A_nx U tp r) := fun h => ⟨A_nx_ok h, by
  unfold A_nx
  split
  · have k := t_nx_ok (tp := tp) h.1.2.1
    exact Nat.le_trans k.2.1 k.1.1
  · exact Nat.le_refl _⟩
theorem R_fl (U : Nat) (r : zR) {k : Int} (hk : 1 ≤ k ∧ k ≤ 3) : R_g U r (A_fl k r) := fun h => ⟨A_fl_ok hk h, by rw [A_fl_t]; exact Nat.le_refl _⟩
theorem R_wo (U : Nat) (tp : Nat → Int) (nm : List Int32) (r : zR) : R_g U r (A_wo U tp nm r) := by
  unfold A_wo
  split
  · exact R_nx _ _ _
  · exact R_tr (R_fl _ _ (by decide)) (R_nx _ _ _)
theorem R_si (U : Nat) (tp : Nat → Int) (r : zR) : R_g U r (A_si U tp r) := by
  unfold A_si
  split
  · exact R_nx _ _ _
  · exact R_tr (R_fl _ _ (by decide)) (R_nx _ _ _)
theorem R_nt (U : Nat) (lo hi : Int) (r : zR) : R_g U r (A_nt lo hi r) := by
  unfold A_nt
  (repeat' split) <;> first | exact R_rf _ _ | exact R_fl _ _ (by decide)
theorem R_nu (U : Nat) (tp : Nat → Int) (lo hi : Int) (r : zR) : R_g U r (A_nu U tp lo hi r) := R_tr (R_nt _ _ _ _) (R_nx _ _ _)
theorem R_to (U : Nat) (tp : Nat → Int) (nm : List Int32) (lo hi : Int) (j : Nat) (s : zS) : R_g U s.1 (A_to U tp nm lo hi j s).1 := R_tr (R_wo _ _ _ _) (R_nu _ _ _ _ _)
theorem R_ha (U : Nat) (tp : Nat → Int) (s : zS) : R_g U s.1 (A_ha U tp s).1 := R_tr (R_wo U tp (z_tx 27) s.1) (R_tr (R_to U tp (z_tx 28) 0 9 0 (A_wo U tp (z_tx 27) s.1, s.2)) (R_tr (R_to U tp (z_tx 29) 0 12 1 _) (R_to U tp (z_tx 30) 1 7 2 _)))
theorem R_re (U : Nat) (tp : Nat → Int) (s : zS) : R_g U s.1 (A_re U tp s).1 := R_tr (R_nx U tp s.1) (R_tr (R_nu U tp 0 12 (A_nx U tp s.1)) (R_to U tp (z_tx 31) (A_vl 0 12 (A_nx U tp s.1)) 12 4 (A_nu U tp 0 12 (A_nx U tp s.1), a_up s.2 3 (A_vl 0 12 (A_nx U tp s.1)))))
theorem R_bo (U : Nat) (tp : Nat → Int) (s : zS) : R_g U s.1 (A_bo U tp s).1 := by
  unfold A_bo
  split
  · exact R_fl _ _ (by decide)
  · exact R_tr (R_nx U tp s.1) (R_tr (R_to U tp (z_tx 32) 2 12 (10 + 2 * (s.2 6).toNat) (A_nx U tp s.1, s.2)) (R_to U tp (z_tx 33) 0 4 (10 + 2 * (s.2 6).toNat + 1) _))
theorem R_m5 (U : Nat) (tp : Nat → Int) (m : Nat) (s : zS) : R_g U s.1 (A_m5 U tp m s).1 := R_tr (R_to U tp (z_tx 34) 40 200 (18 + 6 * m) s) (R_tr (R_to U tp (z_tx 35) 0 30 (18 + 6 * m + 1) _) (R_tr (R_to U tp (z_tx 36) 0 30 (18 + 6 * m + 2) _) (R_tr (R_to U tp (z_tx 37) 0 9 (18 + 6 * m + 3) _) (R_to U tp (z_tx 38) 0 4 (18 + 6 * m + 4) _))))
theorem R_ai (U : Nat) (tp : Nat → Int) (r : zR) : R_g U r (A_ai U tp r) := by
  unfold A_ai
  (repeat' split) <;> first | exact R_nx _ _ _ | exact R_tr (R_fl _ _ (by decide)) (R_nx _ _ _)
theorem R_mn (U : Nat) (tp : Nat → Int) (s : zS) : R_g U s.1 (A_mn U tp s).1 := by
  unfold A_mn
  split
  · exact R_fl _ _ (by decide)
  · exact R_tr (R_nx U tp s.1) (R_tr (R_m5 U tp (s.2 7).toNat (A_nx U tp s.1, s.2)) (R_tr (R_wo U tp (z_tx 39) _) (R_ai _ _ _)))
theorem R_ma (U : Nat) (tp : Nat → Int) (s : zS) : R_g U s.1 (A_ma U tp s).1 := by
  have h1 : R_g U s.1 (A_m1 s.2 s.1) := by
    unfold A_m1
    split
    · exact R_fl _ _ (by decide)
    · exact R_rf _ _
  have h2 : ∀ r, R_g U r (A_m2 s.2 r) := fun r => by
    unfold A_m2
    split
    · exact R_fl _ _ (by decide)
    · exact R_rf _ _
  exact R_tr h1 (R_tr (h2 _) (R_nu _ _ _ _ _))
theorem R_ms (U : Nat) (tp : Nat → Int) : ∀ (f : Nat) (s : zS), R_g U s.1 (A_ms U tp f s).1
  | 0, s => R_rf _ _
  | f + 1, s => by
    simp only [A_ms]
    split
    · exact R_tr (R_ma U tp s) (R_ms U tp f _)
    · exact R_rf _ _
theorem R_te (U : Nat) (tp : Nat → Int) (s : zS) : R_g U s.1 (A_te U tp s).1 := by
  unfold A_te
  split
  · exact R_fl _ _ (by decide)
  · exact R_tr (R_nx U tp s.1) (R_tr (R_nu U tp 0 (s.2 6 - 1) _) (R_tr (R_ma U tp (A_t1 U tp s)) (R_ms U tp 6 _)))
theorem R_l1 (U : Nat) (tp : Nat → Int) (s : zS) : R_g U s.1 (A_l1 U tp s).1 := by
  unfold A_l1
  split
  · exact R_ha _ _ _
  · split
    · exact R_re _ _ _
    · split
      · exact R_bo _ _ _
      · split
        · exact R_mn _ _ _
        · split
          · exact R_te _ _ _
          · split
            · exact R_tr (R_nx U tp s.1) (R_nu U tp 0 50 (A_nx U tp s.1))
            · exact R_fl _ _ (by decide)
/-- a harbour as it is being told -/
def W_v (v : Nat → Int) : Prop := a_wf v ∧ (v 9 = 0 → v 7 = 0) ∧ (0 < v 9 → 1 ≤ v 2) ∧ ∀ j, 78 + 7 * (v 8).toNat ≤ j → j < 106 → v j = 0
theorem W_B {v : Nat → Int} (h : W_v v) : Bv_ v := by
  obtain ⟨⟨f0, f1, f2, f3, f4, f5, f6, f7, f8, f9, f10, f11, f12⟩, h1, h2, h3⟩ := h
  exact ⟨f6, f7, f8, by omega, fun q => h3 _ (by omega) (by omega)⟩
theorem wf_lo {v v' : Nat → Int} (hw : a_wf v) (hs : ∀ j, 6 ≤ j → j ≠ 9 → v' j = v j) (h0 : 0 ≤ v' 0 ∧ v' 0 ≤ 9) (h1 : 0 ≤ v' 1 ∧ v' 1 ≤ 12) (h2 : 0 ≤ v' 2 ∧ v' 2 ≤ 7) (h3 : 0 ≤ v' 3 ∧ v' 3 ≤ 12) (h4 : 0 ≤ v' 4 ∧ v' 4 ≤ 12) (h5 : 0 ≤ v' 5 ∧ v' 5 ≤ 50) (h9 : 0 ≤ v' 9 ∧ v' 9 ≤ 1200) : a_wf v' := by
  obtain ⟨f0, f1, f2, f3, f4, f5, f6, f7, f8, f9, f10, f11, f12⟩ := id hw
  unfold a_wf
  rw [hs 6 (by decide) (by decide), hs 7 (by decide) (by decide), hs 8 (by decide) (by decide)]
  refine ⟨h0, h1, h2, h3, h4, h5, f6, f7, f8, h9, fun b b0 b1 => ?_, fun a a0 a1 => ?_, fun t t0 t1 => ?_⟩
  · have := f10 b b0 b1
    unfold a_bo at this ⊢
    rw [hs _ (by omega) (by omega), hs _ (by omega) (by omega)]
    exact this
  · have := f11 a a0 a1
    unfold a_tr a_T at this ⊢
    rw [hs _ (by omega) (by omega), hs _ (by omega) (by omega), hs _ (by omega) (by omega), hs _ (by omega) (by omega), hs _ (by omega) (by omega), hs _ (by omega) (by omega)]
    exact this
  · obtain ⟨k1, k2, k3, k4⟩ := f12 t t0 t1
    unfold a_te
    rw [hs (78 + 7 * t.toNat) (by omega) (by omega), hs (78 + 7 * t.toNat + 1) (by omega) (by omega), hs 6 (by decide) (by decide), hs 7 (by decide) (by decide)]
    refine ⟨k1, k2, fun i i0 i1 => ?_, fun i j i0 i1 i2 => ?_⟩
    · rw [hs _ (by omega) (by omega)]; exact k3 i i0 i1
    · rw [hs _ (by omega) (by omega), hs _ (by omega) (by omega)]; exact k4 i j i0 i1 i2
theorem W_lo {v v' : Nat → Int} (hW : W_v v) (hs : ∀ j, 6 ≤ j → j ≠ 9 → v' j = v j) (h0 : 0 ≤ v' 0 ∧ v' 0 ≤ 9) (h1 : 0 ≤ v' 1 ∧ v' 1 ≤ 12) (h2 : 0 ≤ v' 2 ∧ v' 2 ≤ 7) (h3 : 0 ≤ v' 3 ∧ v' 3 ≤ 12) (h4 : 0 ≤ v' 4 ∧ v' 4 ≤ 12) (h5 : 0 ≤ v' 5 ∧ v' 5 ≤ 50) (h9 : 0 ≤ v' 9 ∧ v' 9 ≤ 1200) (g : v' 9 = 0 → v 9 = 0) (g2 : 0 < v' 9 → 1 ≤ v' 2) : W_v v' := by
  refine ⟨wf_lo hW.1 hs h0 h1 h2 h3 h4 h5 h9, fun q => ?_, g2, fun j j0 j1 => ?_⟩
  · rw [hs 7 (by decide) (by decide)]; exact hW.2.1 (g q)
  · rw [hs 8 (by decide) (by decide)] at j0
    rw [hs j (by omega) (by omega)]
    exact hW.2.2.2 j j0 j1
theorem wf_bo_ {v v' : Nat → Int} (hw : a_wf v) (h6 : v 6 ≤ 3) (g6 : v' 6 = v 6 + 1) (ga : 2 ≤ v' (10 + 2 * (v 6).toNat) ∧ v' (10 + 2 * (v 6).toNat) ≤ 12) (gb : 0 ≤ v' (10 + 2 * (v 6).toNat + 1) ∧ v' (10 + 2 * (v 6).toNat + 1) ≤ 4) (hs : ∀ j, j ≠ 6 → j ≠ 10 + 2 * (v 6).toNat → j ≠ 10 + 2 * (v 6).toNat + 1 → v' j = v j) : a_wf v' := by
  obtain ⟨f0, f1, f2, f3, f4, f5, f6, f7, f8, f9, f10, f11, f12⟩ := id hw
  unfold a_wf
  rw [g6, hs 7 (by decide) (by omega) (by omega), hs 8 (by decide) (by omega) (by omega), hs 0 (by decide) (by omega) (by omega), hs 1 (by decide) (by omega) (by omega), hs 2 (by decide) (by omega) (by omega), hs 3 (by decide) (by omega) (by omega), hs 4 (by decide) (by omega) (by omega), hs 5 (by decide) (by omega) (by omega), hs 9 (by decide) (by omega) (by omega)]
  refine ⟨f0, f1, f2, f3, f4, f5, by omega, f7, f8, f9, fun b b0 b1 => ?_, fun a a0 a1 => ?_, fun t t0 t1 => ?_⟩
  · by_cases h : b = v 6
    · subst h; exact ⟨ga, gb⟩
    · have := f10 b b0 (by omega)
      unfold a_bo at this ⊢
      rw [hs _ (by omega) (by omega) (by omega), hs _ (by omega) (by omega) (by omega)]
      exact this
  · have := f11 a a0 a1
    unfold a_tr a_T at this ⊢
    rw [hs _ (by omega) (by omega) (by omega), hs _ (by omega) (by omega) (by omega), hs _ (by omega) (by omega) (by omega), hs _ (by omega) (by omega) (by omega), hs _ (by omega) (by omega) (by omega), hs _ (by omega) (by omega) (by omega)]
    exact this
  · obtain ⟨k1, k2, k3, k4⟩ := f12 t t0 t1
    unfold a_te
    rw [hs (78 + 7 * t.toNat) (by omega) (by omega) (by omega), hs (78 + 7 * t.toNat + 1) (by omega) (by omega) (by omega), g6, hs 7 (by decide) (by omega) (by omega)]
    refine ⟨by omega, k2, fun i i0 i1 => ?_, fun i j i0 i1 i2 => ?_⟩
    · rw [hs _ (by omega) (by omega) (by omega)]; exact k3 i i0 i1
    · rw [hs _ (by omega) (by omega) (by omega), hs _ (by omega) (by omega) (by omega)]; exact k4 i j i0 i1 i2
theorem wf_mn_ {v v' : Nat → Int} (hw : a_wf v) (h7 : v 7 ≤ 9) (g7 : v' 7 = v 7 + 1) (ga : a_tr (a_T v' (v 7))) (hs : ∀ j, j ≠ 7 → (j < 18 + 6 * (v 7).toNat ∨ 18 + 6 * (v 7).toNat + 6 ≤ j) → v' j = v j) : a_wf v' := by
  obtain ⟨f0, f1, f2, f3, f4, f5, f6, f7, f8, f9, f10, f11, f12⟩ := id hw
  unfold a_wf
  rw [g7, hs 6 (by decide) (by omega), hs 8 (by decide) (by omega), hs 0 (by decide) (by omega), hs 1 (by decide) (by omega), hs 2 (by decide) (by omega), hs 3 (by decide) (by omega), hs 4 (by decide) (by omega), hs 5 (by decide) (by omega), hs 9 (by decide) (by omega)]
  refine ⟨f0, f1, f2, f3, f4, f5, f6, by omega, f8, f9, fun b b0 b1 => ?_, fun a a0 a1 => ?_, fun t t0 t1 => ?_⟩
  · have := f10 b b0 b1
    unfold a_bo at this ⊢
    rw [hs _ (by omega) (by omega), hs _ (by omega) (by omega)]
    exact this
  · by_cases h : a = v 7
    · subst h; exact ga
    · have := f11 a a0 (by omega)
      unfold a_tr a_T at this ⊢
      rw [hs _ (by omega) (by omega), hs _ (by omega) (by omega), hs _ (by omega) (by omega), hs _ (by omega) (by omega), hs _ (by omega) (by omega), hs _ (by omega) (by omega)]
      exact this
  · obtain ⟨k1, k2, k3, k4⟩ := f12 t t0 t1
    unfold a_te
    rw [hs (78 + 7 * t.toNat) (by omega) (by omega), hs (78 + 7 * t.toNat + 1) (by omega) (by omega), g7, hs 6 (by decide) (by omega)]
    refine ⟨k1, k2, fun i i0 i1 => ?_, fun i j i0 i1 i2 => ?_⟩
    · rw [hs _ (by omega) (by omega)]; have := k3 i i0 i1; omega
    · rw [hs _ (by omega) (by omega), hs _ (by omega) (by omega)]; exact k4 i j i0 i1 i2
theorem wf_te_ {v v' : Nat → Int} (hw : a_wf v) (h8 : v 8 ≤ 3) (g8 : v' 8 = v 8 + 1) (ga : a_te v' (v 8)) (hs : ∀ j, j ≠ 8 → (j < 78 + 7 * (v 8).toNat ∨ 78 + 7 * (v 8).toNat + 7 ≤ j) → v' j = v j) : a_wf v' := by
  obtain ⟨f0, f1, f2, f3, f4, f5, f6, f7, f8, f9, f10, f11, f12⟩ := id hw
  unfold a_wf
  rw [g8, hs 6 (by decide) (by omega), hs 7 (by decide) (by omega), hs 0 (by decide) (by omega), hs 1 (by decide) (by omega), hs 2 (by decide) (by omega), hs 3 (by decide) (by omega), hs 4 (by decide) (by omega), hs 5 (by decide) (by omega), hs 9 (by decide) (by omega)]
  refine ⟨f0, f1, f2, f3, f4, f5, f6, f7, by omega, f9, fun b b0 b1 => ?_, fun a a0 a1 => ?_, fun t t0 t1 => ?_⟩
  · have := f10 b b0 b1
    unfold a_bo at this ⊢
    rw [hs _ (by omega) (by omega), hs _ (by omega) (by omega)]
    exact this
  · have := f11 a a0 a1
    unfold a_tr a_T at this ⊢
    rw [hs _ (by omega) (by omega), hs _ (by omega) (by omega), hs _ (by omega) (by omega), hs _ (by omega) (by omega), hs _ (by omega) (by omega), hs _ (by omega) (by omega)]
    exact this
  · by_cases h : t = v 8
    · subst h; exact ga
    · obtain ⟨k1, k2, k3, k4⟩ := f12 t t0 (by omega)
      unfold a_te
      rw [hs (78 + 7 * t.toNat) (by omega) (by omega), hs (78 + 7 * t.toNat + 1) (by omega) (by omega), hs 6 (by decide) (by omega), hs 7 (by decide) (by omega)]
      refine ⟨k1, k2, fun i i0 i1 => ?_, fun i j i0 i1 i2 => ?_⟩
      · rw [hs _ (by omega) (by omega)]; exact k3 i i0 i1
      · rw [hs _ (by omega) (by omega), hs _ (by omega) (by omega)]; exact k4 i j i0 i1 i2
