/-! pairs of slips counted by kinds, in the class; results and gains out of them -/
theorem s_fill_28 {e n : Nat} {im : Nat → Option Nat} {w u : Nat → Nat → Int} {v : Int} : (z_F (e + 1)).2.2.1 k_Row_fill [.ref 28, .int (Int32.ofInt v)] (n, z_q im, jM w, jL u) = some (jM (z_u (z_u (z_u w 29 0 v) 29 1 v) 29 2 v), jL u) := by
  refine n_Row_fill_28 ?_
  have e0 : (Int32.ofNat 3) = Int32.ofInt 3 := rfl
  refine z_go (e_Row_fill_28_0 _ _ _ _ _) ?_
  refine z_go (ip' := 3) (lv' := [some (.ref 28), some (.int (Int32.ofInt v)), some (.int (Int32.ofInt 1))]) (m' := (n, z_q im, jM (z_u w 29 0 v), jL u)) (e_Row_fill_28_3 _ _ _ _ _ _ |>.trans ?_) ?_
  · simp (disch := omega) only [e0, ji_le, ji_lt0, ji_nat, ji_add, jM_u]
    rw [if_neg (by decide), if_neg (by decide)]
    rfl
  refine z_go (ip' := 3) (lv' := [some (.ref 28), some (.int (Int32.ofInt v)), some (.int (Int32.ofInt 2))]) (m' := (n, z_q im, jM (z_u (z_u w 29 0 v) 29 1 v), jL u)) (e_Row_fill_28_3 _ _ _ _ _ _ |>.trans ?_) ?_
  · simp (disch := omega) only [e0, ji_le, ji_lt0, ji_nat, ji_add, jM_u]
    rw [if_neg (by decide), if_neg (by decide)]
    rfl
  refine z_go (ip' := 3) (lv' := [some (.ref 28), some (.int (Int32.ofInt v)), some (.int (Int32.ofInt 3))]) (m' := (n, z_q im, jM (z_u (z_u (z_u w 29 0 v) 29 1 v) 29 2 v), jL u)) (e_Row_fill_28_3 _ _ _ _ _ _ |>.trans ?_) ?_
  · simp (disch := omega) only [e0, ji_le, ji_lt0, ji_nat, ji_add, jM_u]
    rw [if_neg (by decide), if_neg (by decide)]
    rfl
  refine z_ret (e_Row_fill_28_3 _ _ _ _ _ _ |>.trans ?_)
  simp (disch := omega) only [e0, ji_le]
  rw [if_pos (by decide)]
theorem l_cs_in {e n : Nat} {im : Nat → Option Nat} {w u : Nat → Nat → Int} {g s2 x : Int} {P : (Nat → Nat → Int) → Prop} (hs2 : w 25 6 = s2) (h2 : 0 ≤ s2 ∧ s2 ≤ 4) (hx : -4 ≤ x ∧ x ≤ 4) (hg : -100 ≤ g ∧ g ≤ 100) (hl : jR (w 25 7)) (hh : jR (w 25 8)) : ∀ (m : Nat) (y : Int) (wc : Nat → Nat → Int) (q4 : Option Value), y = s2 + 1 - m → -4 ≤ y → (∀ c, c ≠ 29 → wc c = w c) →
    (∀ (w1 : Nat → Nat → Int) (q4 : Option Value), (∀ c, c ≠ 29 → w1 c = w c) → (∀ k : Nat, k < 3 → w1 29 k = wc 29 k + a_sum (fun y => (if a_kd (w 25 7) (w 25 8) (g + x - y) = k then 1 else 0)) y m) → ∃ wf, P wf ∧ z_Rn (z_F (e + 1)) cd_Duel_countSlips 9 [some (.ref 25), some (.int (Int32.ofInt g)), some (.int (Int32.ofInt (x + 1))), some (.int (Int32.ofInt (s2 + 1))), q4] (n, z_q im, jM w1, jL u) (none, (n, z_q im, jM wf, jL u))) →
    ∃ wf, P wf ∧ z_Rn (z_F (e + 1)) cd_Duel_countSlips 18 [some (.ref 25), some (.int (Int32.ofInt g)), some (.int (Int32.ofInt x)), some (.int (Int32.ofInt y)), q4] (n, z_q im, jM wc, jL u) (none, (n, z_q im, jM wf, jL u)) := by
  intro m
  induction m with
  | zero =>
    intro y wc q4 hy hy4 hfr K
    have hy2 : y = s2 + 1 := by omega
    subst hy2
    obtain ⟨wf, hP, hR⟩ := K wc q4 hfr (fun k hk => by simp only [a_sum, Int.add_zero])
    refine ⟨wf, hP, z_go (e_Duel_countSlips_18 _ _ _ _ _ _ _ _ |>.trans ?_) hR⟩
    simp only [jM_at, hfr 25 (by decide), hs2]
    simp (disch := omega) only [ji_lt, ji_add]
    rw [if_pos (by omega)]
  | succ m ih =>
    intro y wc q4 hy hy4 hfr K
    have kb := a_kd_b (w 25 7) (w 25 8) (g + x - y)
    have hw1 : ∀ c, c ≠ 29 → (z_u wc 29 (a_kd (w 25 7) (w 25 8) (g + x - y)).toNat (wc 29 (a_kd (w 25 7) (w 25 8) (g + x - y)).toNat + 1)) c = w c := fun c hc => by rw [z_u_ne hc]; exact hfr c hc
    obtain ⟨wf, hP, hR⟩ := ih (y + 1) (z_u wc 29 (a_kd (w 25 7) (w 25 8) (g + x - y)).toNat (wc 29 (a_kd (w 25 7) (w 25 8) (g + x - y)).toNat + 1)) (some (.int (Int32.ofInt (a_kd (w 25 7) (w 25 8) (g + x - y))))) (by omega) (by omega) hw1 (fun w1 q4 f1 f2 => by
      refine K w1 q4 f1 (fun k hk => ?_)
      rw [f2 k hk, z_u_at]
      simp only [a_sum]
      by_cases h : k = (a_kd (w 25 7) (w 25 8) (g + x - y)).toNat
      · rw [if_pos h, if_pos (by omega), ← h]; omega
      · rw [if_neg h, if_neg (by omega)]; omega)
    refine ⟨wf, hP, z_go (e_Duel_countSlips_18 _ _ _ _ _ _ _ _ |>.trans ?_) hR⟩
    have e7 : wc 25 = w 25 := hfr 25 (by decide)
    simp only [jM_at, e7, hs2]
    simp (disch := omega) only [ji_lt, ji_add, ji_sub]
    rw [if_neg (by omega)]
    have hkk := s_dkind (e := e) (n := n) (im := im) (w := wc) (u := u) (g := g + x - y) (by omega) (by rw [e7]; exact hl) (by rw [e7]; exact hh)
    rw [e7] at hkk
    rw [hkk, z_oI_s, s_at_28 (by omega), z_oI_s, if_pos (by omega), ji_add, s_set_28 kb.1 (by omega), z_oV_s]
theorem l_cs_out {e n : Nat} {im : Nat → Option Nat} {w u : Nat → Nat → Int} {g s1 s2 : Int} (hs1 : w 25 5 = s1) (h1 : 0 ≤ s1 ∧ s1 ≤ 4) (hs2 : w 25 6 = s2) (h2 : 0 ≤ s2 ∧ s2 ≤ 4) (hg : -100 ≤ g ∧ g ≤ 100) (hl : jR (w 25 7)) (hh : jR (w 25 8)) : ∀ (m : Nat) (x : Int) (wc : Nat → Nat → Int) (q3 q4 : Option Value), x = s1 + 1 - m → -4 ≤ x → (∀ c, c ≠ 29 → wc c = w c) →
    ∃ wf, ((∀ c, c ≠ 29 → wf c = w c) ∧ ∀ k : Nat, k < 3 → wf 29 k = wc 29 k + a_sum (fun x => a_sum (fun y => (if a_kd (w 25 7) (w 25 8) (g + x - y) = k then 1 else 0)) (-s2) (2 * s2 + 1).toNat) x m) ∧ z_Rn (z_F (e + 1)) cd_Duel_countSlips 9 [some (.ref 25), some (.int (Int32.ofInt g)), some (.int (Int32.ofInt x)), q3, q4] (n, z_q im, jM wc, jL u) (none, (n, z_q im, jM wf, jL u)) := by
  intro m
  induction m with
  | zero =>
    intro x wc q3 q4 hx hx4 hfr
    refine ⟨wc, ⟨hfr, fun k hk => by simp only [a_sum, Int.add_zero]⟩, z_ret (e_Duel_countSlips_9 _ _ _ _ _ _ _ _ |>.trans ?_)⟩
    simp only [jM_at, hfr 25 (by decide), hs1]
    simp (disch := omega) only [ji_lt]
    rw [if_pos (by omega)]
  | succ m ih =>
    intro x wc q3 q4 hx hx4 hfr
    obtain ⟨wf, hP, hR⟩ := l_cs_in (e := e) (n := n) (im := im) (u := u) (x := x) (P := fun wf => (∀ c, c ≠ 29 → wf c = w c) ∧ ∀ k : Nat, k < 3 → wf 29 k = wc 29 k + a_sum (fun x => a_sum (fun y => (if a_kd (w 25 7) (w 25 8) (g + x - y) = k then 1 else 0)) (-s2) (2 * s2 + 1).toNat) x (m + 1)) hs2 h2 (by omega) hg hl hh (2 * s2 + 1).toNat (-s2) wc q4 (by omega) (by omega) hfr (fun w1 q4 f1 f2 => by
      obtain ⟨wf, ⟨p1, p2⟩, hR⟩ := ih (x + 1) w1 (some (.int (Int32.ofInt (s2 + 1)))) q4 (by omega) (by omega) f1
      refine ⟨wf, ⟨p1, fun k hk => ?_⟩, hR⟩
      rw [p2 k hk, f2 k hk, Int.add_assoc]
      rfl)
    refine ⟨wf, hP, z_go (e_Duel_countSlips_9 _ _ _ _ _ _ _ _ |>.trans ?_) hR⟩
    simp only [jM_at, hfr 25 (by decide), hs1, hs2]
    simp (disch := omega) only [ji_lt, ji_neg]
    rw [if_neg (by omega)]
theorem s_countSlips {e n : Nat} {im : Nat → Option Nat} {w u : Nat → Nat → Int} {g : Int} (h1 : 0 ≤ w 25 5 ∧ w 25 5 ≤ 4) (h2 : 0 ≤ w 25 6 ∧ w 25 6 ≤ 4) (hg : -100 ≤ g ∧ g ≤ 100) (hl : jR (w 25 7)) (hh : jR (w 25 8)) : ∃ w', (z_F (e + 2)).2.2.1 k_Duel_countSlips [.ref 25, .int (Int32.ofInt g)] (n, z_q im, jM w, jL u) = some (jM w', jL u) ∧ (∀ c, c ≠ 29 → w' c = w c) ∧ ∀ k : Nat, k < 3 → w' 29 k = a_sl (w 25 5) (w 25 6) (fun x y => (if a_kd (w 25 7) (w 25 8) (g + x - y) = k then 1 else 0)) := by
  have hfr : ∀ c, c ≠ 29 → (z_u (z_u (z_u w 29 0 0) 29 1 0) 29 2 0) c = w c := fun c hc => by rw [z_u_ne hc, z_u_ne hc, z_u_ne hc]
  obtain ⟨wf, ⟨p1, p2⟩, hR⟩ := l_cs_out (e := e) (n := n) (im := im) (u := u) (w := w) (g := g) rfl h1 rfl h2 hg hl hh (2 * w 25 5 + 1).toNat (-w 25 5) (z_u (z_u (z_u w 29 0 0) 29 1 0) 29 2 0) none none (by omega) (by omega) hfr
  refine ⟨wf, n_Duel_countSlips (z_go (e_Duel_countSlips_0 _ _ _ _ _ |>.trans ?_) hR), p1, fun k hk => ?_⟩
  · rw [s_fill_28, z_oV_s]
    simp only [jM_at, hfr 25 (by decide), ji_neg]
  · rw [p2 k hk]
    have hz : (z_u (z_u (z_u w 29 0 0) 29 1 0) 29 2 0) 29 k = 0 := by
      match k, hk with
      | 0, _ => simp [z_u_at]
      | 1, _ => simp [z_u_at]
      | 2, _ => simp [z_u_at]
    rw [hz, Int.zero_add]
    rfl
