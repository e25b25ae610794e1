/-! swap -/
abbrev a_wc (v : Nat → Int) (t i k : Int) : Prop := (0 ≤ t ∧ t < v 8) ∧ (0 ≤ i ∧ i < v (78 + 7 * t.toNat + 1)) ∧ (0 ≤ k ∧ k < v (78 + 7 * t.toNat + 1))
def a_swp (v : Nat → Int) (p q : Nat) : Nat → Int := a_up (a_up v p (v q)) q (v p)
def V_swap (v : Nat → Int) (t i k : Int) : Int := if a_wc v t i k then 0 else -2
def U_swap (v : Nat → Int) (t i k : Int) : Nat → Int := if a_wc v t i k then a_swp v (78 + (7 * t.toNat + 2 + i.toNat)) (78 + (7 * t.toNat + 2 + k.toNat)) else v
theorem wf_swap {v : Nat → Int} (hw : a_wf v) (t i k : Int) : a_wf (U_swap v t i k) := by
  unfold U_swap
  by_cases h : a_wc v t i k
  · rw [if_pos h]
    obtain ⟨⟨t0, t1⟩, ⟨i0, i1⟩, ⟨k0, k1⟩⟩ := id h
    obtain ⟨f0, f1, f2, f3, f4, f5, f6, f7, f8, f9, f10, f11, f12⟩ := id hw
    have ht := f12 t t0 t1
    have hat : ∀ j, a_swp v (78 + (7 * t.toNat + 2 + i.toNat)) (78 + (7 * t.toNat + 2 + k.toNat)) j = if j = 78 + (7 * t.toNat + 2 + k.toNat) then v (78 + (7 * t.toNat + 2 + i.toNat)) else if j = 78 + (7 * t.toNat + 2 + i.toNat) then v (78 + (7 * t.toNat + 2 + k.toNat)) else v j := fun j => rfl
    generalize a_swp v (78 + (7 * t.toNat + 2 + i.toNat)) (78 + (7 * t.toNat + 2 + k.toNat)) = V at hat ⊢
    have lo : ∀ j, j < 78 → V j = v j := fun j hj => by rw [hat, if_neg (by omega), if_neg (by omega)]
    have hz := ht.2.1
    unfold a_wf
    rw [lo 0 (by decide), lo 1 (by decide), lo 2 (by decide), lo 3 (by decide), lo 4 (by decide), lo 5 (by decide), lo 6 (by decide), lo 7 (by decide), lo 8 (by decide), lo 9 (by decide)]
    refine ⟨f0, f1, f2, f3, f4, f5, f6, f7, f8, f9, fun c hc hc2 => ?_, fun c hc hc2 => ?_, fun s hs hs2 => ?_⟩
    · unfold a_bo
      rw [lo _ (by omega), lo _ (by omega)]
      exact f10 c hc hc2
    · exact a_tr_cg (fun j hj => by unfold a_T; exact lo _ (by omega)) (f11 c hc hc2)
    · by_cases hst : s = t
      · subst hst
        have q0 : V (78 + 7 * s.toNat) = v (78 + 7 * s.toNat) := by rw [hat, if_neg (by omega), if_neg (by omega)]
        have q1 : V (78 + 7 * s.toNat + 1) = v (78 + 7 * s.toNat + 1) := by rw [hat, if_neg (by omega), if_neg (by omega)]
        have sg : ∀ x : Int, 0 ≤ x → x < v (78 + 7 * s.toNat + 1) → ∃ y : Int, (0 ≤ y ∧ y < v (78 + 7 * s.toNat + 1)) ∧ ((x = k ∧ y = i) ∨ (x ≠ k ∧ x = i ∧ y = k) ∨ (x ≠ k ∧ x ≠ i ∧ y = x)) ∧ V (78 + 7 * s.toNat + 2 + x.toNat) = v (78 + 7 * s.toNat + 2 + y.toNat) := by
          intro x x0 x1
          by_cases e1 : x = k
          · refine ⟨i, ⟨i0, i1⟩, Or.inl ⟨e1, rfl⟩, ?_⟩
            rw [hat, if_pos (by omega)]
            congr 1 <;> omega
          · by_cases e2 : x = i
            · refine ⟨k, ⟨k0, k1⟩, Or.inr (Or.inl ⟨e1, e2, rfl⟩), ?_⟩
              rw [hat, if_neg (by omega), if_pos (by omega)]
              congr 1 <;> omega
            · refine ⟨x, ⟨x0, x1⟩, Or.inr (Or.inr ⟨e1, e2, rfl⟩), ?_⟩
              rw [hat, if_neg (by omega), if_neg (by omega)]
        unfold a_te
        rw [q0, q1, lo 6 (by decide), lo 7 (by decide)]
        refine ⟨ht.1, ht.2.1, fun x x0 x1 => ?_, fun x y x0 xy y1 => ?_⟩
        · obtain ⟨z, hz1, -, hz3⟩ := sg x x0 x1
          rw [hz3]
          exact ht.2.2.1 z hz1.1 hz1.2
        · obtain ⟨z, hz1, hz2, hz3⟩ := sg x x0 (by omega)
          obtain ⟨z', hz1', hz2', hz3'⟩ := sg y (by omega) y1
          rw [hz3, hz3']
          rcases Int.lt_or_gt_of_ne (show z ≠ z' by omega) with hlt | hlt
          · exact ht.2.2.2 z z' hz1.1 hlt hz1'.2
          · exact fun q => ht.2.2.2 z' z hz1'.1 hlt hz1.2 q.symm
      · have hn : ∀ j, 78 + 7 * s.toNat ≤ j → j < 78 + 7 * s.toNat + 7 → V j = v j := fun j h1 h2 => by
          rw [hat, if_neg (by omega), if_neg (by omega)]
        have hts := f12 s hs hs2
        unfold a_te at hts ⊢
        have hz2 := hts.2.1
        rw [hn _ (by omega) (by omega), hn (78 + 7 * s.toNat + 1) (by omega) (by omega), lo 6 (by decide), lo 7 (by decide)]
        refine ⟨hts.1, hts.2.1, fun x x0 x1 => ?_, fun x y x0 xy y1 => ?_⟩
        · rw [hn _ (by omega) (by omega)]
          exact hts.2.2.1 x x0 x1
        · rw [hn _ (by omega) (by omega), hn _ (by omega) (by omega)]
          exact hts.2.2.2 x y x0 xy y1
  · rw [if_neg h]; exact hw
theorem x_swap {e n : Nat} {im : Nat → Option Nat} {w u : Nat → Nat → Int} {v : Nat → Int} {t i k : Int} (hv : c_v w v) (hw : a_wf v) (ht : jR t) (hi : jR i) (hk : jR k) : ∃ w', (z_F (e + 20)).1 k_LongBoats_swap [.ref 0, .int (Int32.ofInt t), .int (Int32.ofInt i), .int (Int32.ofInt k)] (n, z_q im, jM w, jL u) = some (Int32.ofInt (V_swap v t i k), jM w', jL u) ∧ c_v w' (U_swap v t i k) ∧ c_fr2 w w' := by
  obtain ⟨g0, g1, g2, g3, g4, g5, g6, g7, g8, g9, h5, h7, h9⟩ := id hv
  obtain ⟨f0, f1, f2, f3, f4, f5, f6, f7, f8, f9, f10, f11, f12⟩ := id hw
  unfold V_swap U_swap
  by_cases hT : 0 ≤ t ∧ t < v 8
  · have ht := f12 t hT.1 hT.2
    have hz := ht.2.1
    have e1 : w 9 (7 * t.toNat + 1) = v (78 + 7 * t.toNat + 1) := by rw [h9 _ (by omega)]; congr 1 <;> omega
    by_cases h : a_wc v t i k
    · rw [if_pos h, if_pos h]
      obtain ⟨-, ⟨i0, i1⟩, ⟨k0, k1⟩⟩ := id h
      have ei : w 9 (7 * t.toNat + 2 + i.toNat) = v (78 + (7 * t.toNat + 2 + i.toNat)) := h9 _ (by omega)
      have ek : w 9 (7 * t.toNat + 2 + k.toNat) = v (78 + (7 * t.toNat + 2 + k.toNat)) := h9 _ (by omega)
      refine ⟨_, q_LongBoats_swap ?_, c_v_9 (x := v (78 + (7 * t.toNat + 2 + i.toNat))) (k := 7 * t.toNat + 2 + k.toNat) (c_v_9 (x := v (78 + (7 * t.toNat + 2 + k.toNat))) (k := 7 * t.toNat + 2 + i.toNat) hv (by omega)) (by omega), fun c hc => ?_⟩
      · simp (disch := omega) only [s_hasTeam_3, s_sizeOf_3, s_within, s_mate_3, s_setMate, z_oI_s, z_oV_s, ji_b, g9, e1, ji_sub, ei, ek]
        rw [if_neg (by omega), if_neg (by omega), if_neg (by omega)]
      · rw [c_fr2_u (by decide) c hc, c_fr2_u (by decide) c hc]
    · rw [if_neg h, if_neg h]
      refine ⟨w, q_LongBoats_swap ?_, hv, c_fr2_rf w⟩
      simp (disch := omega) only [s_hasTeam_3, s_sizeOf_3, s_within, z_oI_s, ji_b, g9, e1, ji_sub]
      rw [if_neg (not_not_intro hT)]
      by_cases h1 : 0 ≤ i ∧ i ≤ v (78 + 7 * t.toNat + 1) - 1
      · rw [if_neg (not_not_intro h1), if_pos (fun q => h ⟨hT, by omega, by omega⟩)]
      · rw [if_pos h1]
  · have h : ¬ a_wc v t i k := fun q => hT q.1
    rw [if_neg h, if_neg h]
    refine ⟨w, q_LongBoats_swap ?_, hv, c_fr2_rf w⟩
    rw [s_hasTeam_3 (by omega) (by omega), z_oI_s, g9, if_pos (ji_b_p hT)]
theorem s_trade_46 {e n : Nat} {im : Nat → Option Nat} {w u : Nat → Nat → Int} {p q : Int} (hp : 0 ≤ p ∧ p < 106) (hq : 0 ≤ q ∧ q < 106) : (z_F (e + 1)).2.2.1 k_Model_trade [.ref 46, .int (Int32.ofInt p), .int (Int32.ofInt q)] (n, z_q im, jM w, jL u) = some (jM (z_u (z_u w 46 p.toNat (w 46 q.toNat)) 46 q.toNat (w 46 p.toNat)), jL u) := by
  refine q_Model_trade_46 ?_
  simp (disch := omega) only [ji_lt0, ji_nat, jM_at, jM_u]
  rw [if_neg (by omega), if_neg (by omega), if_neg (by omega), if_neg (by omega)]
theorem m_swap {e n : Nat} {im : Nat → Option Nat} {w u : Nat → Nat → Int} {t i k : Int} (hw : a_wf (w 46)) (ht : jR t) (hi : jR i) (hk : jR k) : ∃ w', (z_F (e + 20)).1 k_Model_swap [.ref 45, .int (Int32.ofInt t), .int (Int32.ofInt i), .int (Int32.ofInt k)] (n, z_q im, jM w, jL u) = some (Int32.ofInt (V_swap (w 46) t i k), jM w', jL u) ∧ w' 46 = U_swap (w 46) t i k ∧ ∀ c, c ≠ 46 → w' c = w c := by
  obtain ⟨f0, f1, f2, f3, f4, f5, f6, f7, f8, f9, f10, f11, f12⟩ := id hw
  unfold V_swap U_swap
  by_cases hT : 0 ≤ t ∧ t < w 46 8
  · have ht := f12 t hT.1 hT.2
    have hz := ht.2.1
    by_cases h : a_wc (w 46) t i k
    · rw [if_pos h, if_pos h]
      obtain ⟨-, ⟨i0, i1⟩, ⟨k0, k1⟩⟩ := id h
      refine ⟨z_u (z_u w 46 (78 + (7 * t.toNat + 2 + i.toNat)) (w 46 (78 + (7 * t.toNat + 2 + k.toNat)))) 46 (78 + (7 * t.toNat + 2 + k.toNat)) (w 46 (78 + (7 * t.toNat + 2 + i.toNat))), q_Model_swap ?_, ?_, fun c hc => ?_⟩
      · simp (disch := omega) only [s_isTeam, s_manyOf, jl_of, kl_0, s_in, z_oI_s, ji_b, ji_sub, ji_mul, ji_add, s_trade_46, z_oV_s]
        rw [if_neg (by omega), if_neg (by omega), if_neg (by omega), show (78 + 7 * t + 2 + i).toNat = 78 + (7 * t.toNat + 2 + i.toNat) by omega, show (78 + 7 * t + 2 + k).toNat = 78 + (7 * t.toNat + 2 + k.toNat) by omega]
      · rw [zu_row, zu_row]
        rfl
      · rw [z_u_ne hc, z_u_ne hc]
    · rw [if_neg h, if_neg h]
      refine ⟨w, q_Model_swap ?_, rfl, fun c _ => rfl⟩
      simp (disch := omega) only [s_isTeam, s_manyOf, jl_of, kl_0, s_in, z_oI_s, ji_b, ji_sub]
      rw [if_neg (not_not_intro hT)]
      by_cases h1 : 0 ≤ i ∧ i ≤ w 46 (78 + 7 * t.toNat + 1) - 1
      · rw [if_neg (not_not_intro h1), if_pos (fun q => h ⟨hT, by omega, by omega⟩)]
      · rw [if_pos h1]
  · have h : ¬ a_wc (w 46) t i k := fun q => hT q.1
    rw [if_neg h, if_neg h]
    refine ⟨w, q_Model_swap ?_, rfl, fun c _ => rfl⟩
    rw [s_isTeam (by omega) (by omega), z_oI_s, if_pos (ji_b_p hT)]
