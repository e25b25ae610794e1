/-! weights: heavy, even; the gap to steer for -/
def a_fd (p : Int → Bool) : Int → Nat → Int
  | _, 0 => -1
  | x, m + 1 => if p x then x else a_fd p (x + 1) m
def G_he (v : Nat → Int) (a b bo ot x : Int) : Int := a_ft 1 (a_s1 (a_T v a) 0 x) (a_T v b) (a_sp v bo ot) 0 0
def V_heavy (v : Nat → Int) (a b bo ot : Int) : Int := if a_so v a b bo ot then a_fd (fun x => decide (G_he v a b bo ot x ≠ 3)) 40 161 else -2
theorem x_heavy {e n : Nat} {im : Nat → Option Nat} {w u : Nat → Nat → Int} {v : Nat → Int} {a b bo ot : Int} (hv : c_v w v) (hw : a_wf v) (ha : jR a) (hb : jR b) (hbo : jR bo) (hot : jR ot) : ∃ w', (z_F (e + 20)).1 k_LongBoats_heavy [.ref 0, .int (Int32.ofInt a), .int (Int32.ofInt b), .int (Int32.ofInt bo), .int (Int32.ofInt ot)] (n, z_q im, jM w, jL u) = some (Int32.ofInt (V_heavy v a b bo ot), jM w', jL u) ∧ c_fr w w' := by
  obtain ⟨f0, f1, f2, f3, f4, f5, f6, f7, f8, f9, f10, f11, f12⟩ := id hw
  unfold V_heavy
  by_cases h : a_so v a b bo ot
  · obtain ⟨w2, q1, f2, hv2, q4, q5, q6, q7⟩ := x_faces_y (e := e + 14) (n := n) (im := im) (u := u) hv hw h
    obtain ⟨s1, s2, s3, s4, s5⟩ := id h
    have b1 := f10 bo s4.1 s4.2
    have b2 := f10 ot s5.1 s5.2
    have ta := f11 a s1.1 s1.2
    have tb := f11 b s2.1 s2.2
    have spb := a_sp_b b1 b2 f0
    obtain ⟨d1, d2, d3, d4, d5, d6, d7, d8, d9, d10⟩ := id f2
    rw [if_pos h]
    have hl : ∀ (m : Nat) (x : Int) (wi : Nat → Nat → Int), x = 201 - m → 40 ≤ x → a_ag w2 wi 26 (fun j => j = 0) → ∃ wf, a_ag w2 wf 26 (fun j => j = 0) ∧ z_Rn (z_F (e + 19)) cd_LongBoats_heavy 12 [some (.ref 0), some (.int (Int32.ofInt a)), some (.int (Int32.ofInt b)), some (.int (Int32.ofInt bo)), some (.int (Int32.ofInt ot)), some (.int (Int32.ofInt x))] (n, z_q im, jM wi, jL u) (some (.int (Int32.ofInt (a_fd (fun x => decide (G_he v a b bo ot x ≠ 3)) x m))), (n, z_q im, jM wf, jL u)) := by
      intro m
      induction m with
      | zero =>
        intro x wi hx hx4 hag
        refine ⟨wi, hag, z_ret ((e_LongBoats_heavy_12 ..).trans ?_)⟩
        simp (disch := omega) only [ji_lt]
        rw [if_pos (by omega)]
        rfl
      | succ m ih =>
        intro x wi hx hx4 hag
        have hag2 : a_ag w2 (z_u wi 26 0 x) 26 (fun j => j = 0) := a_ag_u hag rfl x
        have tt : ∀ j, j < 6 → z_u wi 26 0 x 26 j = a_s1 (a_T v a) 0 x j := fun j hj => by
          rw [z_u_at]
          simp only [a_s1]
          split
          · rfl
          · rw [hag.2 j (by omega)]; exact d1 j hj
        have t7 : z_u wi 26 0 x 27 = w2 27 := hag2.1 27 (by decide)
        have t5 : z_u wi 26 0 x 25 = w2 25 := hag2.1 25 (by decide)
        have hval : a_ft 1 (z_u wi 26 0 x 26) (z_u wi 26 0 x 27) (z_u wi 26 0 x 25 9) 0 0 = G_he v a b bo ot x := by
          rw [t7, t5, d3]
          exact a_ft_cg tt d2 _ _ _ _
        have hb3 := a_ft_b 1 (a_s1 (a_T v a) 0 x) (a_T v b) (a_sp v bo ot) 0 0
        by_cases hh : G_he v a b bo ot x = 3
        · obtain ⟨wf, i1, i2⟩ := ih (x + 1) _ (by omega) (by omega) hag2
          refine ⟨wf, i1, ?_⟩
          rw [a_fd, if_neg (by simp [hh])]
          refine z_go ((e_LongBoats_heavy_12 ..).trans ?_) i2
          simp (disch := omega) only [ji_lt, jM_u]
          rw [if_neg (by omega), s_fateOne (by decide) (a_tr_cg tt (we_tr ta (by omega) (by omega))) (by rw [t7]; exact q6) (by rw [t5]; exact q7) (by decide) (by decide), z_oI_s, hval, hh, if_pos rfl, ji_add]
        · refine ⟨_, hag2, ?_⟩
          rw [a_fd, if_pos (by simp [hh])]
          refine z_ret ((e_LongBoats_heavy_12 ..).trans ?_)
          unfold G_he at hh hval
          simp (disch := omega) only [ji_lt, jM_u]
          rw [if_neg (by omega), s_fateOne (by decide) (a_tr_cg tt (we_tr ta (by omega) (by omega))) (by rw [t7]; exact q6) (by rw [t5]; exact q7) (by decide) (by decide), z_oI_s, hval]
          simp (disch := omega) only [ji_eq]
          rw [if_neg hh]
    obtain ⟨wf, i1, i2⟩ := hl 161 40 w2 (by decide) (by decide) (a_ag_rf _ _ _)
    refine ⟨wf, n_LongBoats_heavy (z_go ((e_LongBoats_heavy_0 ..).trans ?_) i2), fun c hc => ?_⟩
    · simp (disch := omega) only [z_oI_s, q1]
      rw [if_neg jc_1]
    · rw [i1.1 c (fun q => by subst q; simp at hc)]
      exact q4 c hc
  · refine ⟨w, n_LongBoats_heavy (z_ret ((e_LongBoats_heavy_0 ..).trans ?_)), c_fr_rf w⟩
    rw [if_neg h, x_faces_n hv hw ha hb hbo hot h, z_oI_s]
    rfl
theorem wt_v {w wi : Nat → Nat → Int} {a x : Int} (hag : a_ag w wi 46 (fun j => j = 18 + 6 * a.toNat + 0)) : z_u wi 46 (18 + 6 * a.toNat + 0) x 46 = a_up (w 46) (18 + 6 * a.toNat + 0) x := by rw [zz1 hag, zu_row]
theorem m_heavy {e n : Nat} {im : Nat → Option Nat} {w u : Nat → Nat → Int} {a b bo ot : Int} (hw : a_wf (w 46)) (ha : jR a) (hb : jR b) (hbo : jR bo) (hot : jR ot) : (z_F (e + 20)).1 k_Model_heavy [.ref 45, .int (Int32.ofInt a), .int (Int32.ofInt b), .int (Int32.ofInt bo), .int (Int32.ofInt ot)] (n, z_q im, jM w, jL u) = some (Int32.ofInt (V_heavy (w 46) a b bo ot), jM w, jL u) := by
  obtain ⟨f0, f1, f2, f3, f4, f5, f6, f7, f8, f9, f10, f11, f12⟩ := id hw
  unfold V_heavy
  by_cases h : a_so (w 46) a b bo ot
  · obtain ⟨s1, s2, s3, s4, s5⟩ := id h
    have b1 := f10 bo s4.1 s4.2
    have b2 := f10 ot s5.1 s5.2
    have ta := f11 a s1.1 s1.2
    have tb := f11 b s2.1 s2.2
    have spb := a_sp_b b1 b2 f0
    rw [if_pos h]
    have hend : ∀ (x f : Int) (wi : Nat → Nat → Int), 40 ≤ x → x ≤ 201 → (f = -1 → x = 201) → -1 ≤ f → f ≤ 200 → a_ag w wi 46 (fun j => j = 18 + 6 * a.toNat + 0) → z_Rn (z_F (e + 19)) cd_Model_heavy 19 [some (.ref 45), some (.int (Int32.ofInt a)), some (.int (Int32.ofInt b)), some (.int (Int32.ofInt bo)), some (.int (Int32.ofInt ot)), some (.int (Int32.ofInt (a_T (w 46) a 0))), some (.int (Int32.ofInt f)), some (.int (Int32.ofInt x))] (n, z_q im, jM wi, jL u) (some (.int (Int32.ofInt f)), (n, z_q im, jM w, jL u)) := by
      intro x f wi hx hx2 hf hf2 hf3 hag
      refine z_ret ((e_Model_heavy_19 ..).trans ?_)
      have hz : z_u wi 46 (18 + 6 * a.toNat + 0) (a_T (w 46) a 0) = w := by
        rw [zz1 hag]
        exact zu_self w 46 _
      simp (disch := omega) only [ji_lt, ji_eq]
      by_cases hx3 : 200 < x
      · rw [if_pos hx3, s_mset_0 (by omega) (by omega), z_oV_s, hz]
      · rw [if_neg hx3, if_neg (by omega), s_mset_0 (by omega) (by omega), z_oV_s, hz]
    have hl : ∀ (m : Nat) (x : Int) (wi : Nat → Nat → Int), x = 201 - m → 40 ≤ x → a_ag w wi 46 (fun j => j = 18 + 6 * a.toNat + 0) → z_Rn (z_F (e + 19)) cd_Model_heavy 19 [some (.ref 45), some (.int (Int32.ofInt a)), some (.int (Int32.ofInt b)), some (.int (Int32.ofInt bo)), some (.int (Int32.ofInt ot)), some (.int (Int32.ofInt (a_T (w 46) a 0))), some (.int (Int32.ofInt (-1))), some (.int (Int32.ofInt x))] (n, z_q im, jM wi, jL u) (some (.int (Int32.ofInt (a_fd (fun x => decide (G_he (w 46) a b bo ot x ≠ 3)) x m))), (n, z_q im, jM w, jL u)) := by
      intro m
      induction m with
      | zero =>
        intro x wi hx hx4 hag
        exact hend x (-1) wi hx4 (by omega) (by omega) (by decide) (by decide) hag
      | succ m ih =>
        intro x wi hx hx4 hag
        have hag2 : a_ag w (z_u wi 46 (18 + 6 * a.toNat + 0) x) 46 (fun j => j = 18 + 6 * a.toNat + 0) := a_ag_u hag rfl x
        have hc46 := wt_v (x := x) hag
        have tT : ∀ j, j < 6 → a_T (z_u wi 46 (18 + 6 * a.toNat + 0) x 46) a j = a_s1 (a_T (w 46) a) 0 x j := fun j hj => by rw [hc46]; exact T_up j
        have tU : ∀ j, j < 6 → a_T (z_u wi 46 (18 + 6 * a.toNat + 0) x 46) b j = a_T (w 46) b j := fun j hj => by rw [hc46]; exact T_up_ne s1.1 s2.1 s3 (by decide) j hj
        have lo : ∀ j, j < 18 → z_u wi 46 (18 + 6 * a.toNat + 0) x 46 j = w 46 j := fun j hj => by rw [hc46]; exact a_up_ne (by omega)
        have hsp : a_sp (z_u wi 46 (18 + 6 * a.toNat + 0) x 46) bo ot = a_sp (w 46) bo ot := a_sp_cg (lo _ (by decide)) (lo _ (by omega)) (lo _ (by omega))
        have c1 : a_bo (z_u wi 46 (18 + 6 * a.toNat + 0) x 46) bo := by unfold a_bo; rw [lo _ (by omega), lo _ (by omega)]; exact b1
        have c2 : a_bo (z_u wi 46 (18 + 6 * a.toNat + 0) x 46) ot := by unfold a_bo; rw [lo _ (by omega), lo _ (by omega)]; exact b2
        have w5 : a_T (z_u wi 46 (18 + 6 * a.toNat + 0) x 46) a 5 = a_T (w 46) a 5 := tT 5 (by decide)
        have y5 : a_T (z_u wi 46 (18 + 6 * a.toNat + 0) x 46) b 5 = a_T (w 46) b 5 := tU 5 (by decide)
        have hG : G_he (w 46) a b bo ot x = if a_T (w 46) a 5 = 2 then 2 else if a_T (w 46) b 5 = 2 then 0 else if a_st (a_s1 (a_T (w 46) a) 0 x) (a_T (w 46) b 5) (a_sp (w 46) bo ot) 0 < a_fo (a_T (w 46) b) (a_sp (w 46) bo ot) 0 then 3 else 0 := rfl
        have ta5 := ta.2.2.2.2.2
        have ez : (z_F (e + 19)).2.2.1 k_Model_set [.ref 45, .int (Int32.ofInt a), .int (Int32.ofInt 0), .int (Int32.ofInt x)] (n, z_q im, jM wi, jL u) = some (jM (z_u wi 46 (18 + 6 * a.toNat + 0) x), jL u) := s_mset_0 (by omega) (by omega)
        by_cases hh : G_he (w 46) a b bo ot x = 3
        · rw [a_fd, if_neg (by simp [hh])]
          refine z_go ((e_Model_heavy_19 ..).trans ?_) (ih (x + 1) _ (by omega) (by omega) hag2)
          rw [hG] at hh
          simp (disch := omega) only [ji_lt, if_true]
          rw [if_neg (by omega), ez, z_oV_s, s_of_5 (by omega) (by omega), z_oI_s, w5]
          simp (disch := omega) only [ji_eq]
          rw [if_neg (fun q => by rw [if_pos q] at hh; omega), s_speedOf (by omega) (by omega) (by omega) (by omega) c1 c2 (by rw [lo 0 (by decide)]; exact f0), z_oI_s, hsp, s_thrOff (by omega) (by omega) (by omega) (by omega) (a_tr_cg tT (we_tr ta (by omega) (by omega))) (a_tr_cg tU tb) (by omega) (by decide) (by decide), z_oI_s]
          simp only [ji_b]
          rw [y5, a_st_cg tT, a_fo_cg tU, if_neg (fun q => ?_), ji_add]
          apply q
          split at hh
          · omega
          · split at hh
            · omega
            · split at hh
              · constructor <;> assumption
              · omega
        · rw [a_fd, if_pos (by simp [hh])]
          refine z_go ((e_Model_heavy_19 ..).trans ?_) (hend (x + 1) x _ (by omega) (by omega) (by omega) (by omega) (by omega) hag2)
          rw [hG] at hh
          simp (disch := omega) only [ji_lt, if_true]
          rw [if_neg (by omega), ez, z_oV_s, s_of_5 (by omega) (by omega), z_oI_s, w5]
          simp (disch := omega) only [ji_eq]
          by_cases h5 : a_T (w 46) a 5 = 2
          · rw [if_pos h5, ji_add]
          · rw [if_neg h5, s_speedOf (by omega) (by omega) (by omega) (by omega) c1 c2 (by rw [lo 0 (by decide)]; exact f0), z_oI_s, hsp, s_thrOff (by omega) (by omega) (by omega) (by omega) (a_tr_cg tT (we_tr ta (by omega) (by omega))) (a_tr_cg tU tb) (by omega) (by decide) (by decide), z_oI_s]
            simp only [ji_b]
            rw [y5, a_st_cg tT, a_fo_cg tU, if_pos (fun q => ?_), ji_add]
            apply hh
            rw [if_neg h5, if_neg q.1, if_pos q.2]
    refine n_Model_heavy (z_go ((e_Model_heavy_0 ..).trans ?_) (hl 161 40 w (by decide) (by decide) (a_ag_rf _ _ _)))
    simp (disch := omega) only [s_areSo, z_oI_s, ji_b]
    rw [if_neg (fun q => q h), s_of_0 (by omega) (by omega), z_oI_s]
  · refine n_Model_heavy (z_ret ((e_Model_heavy_0 ..).trans ?_))
    simp (disch := omega) only [s_areSo, z_oI_s, ji_b]
    rw [if_neg h, if_pos h]
/-- even -/
def F_ev (v : Nat → Int) (a b bo ot c : Int) : Int := a_gn v (a_s1 (a_T v a) 0 c) (a_T v b) (a_sp v bo ot) bo ot
def a_ev (F : Int → Int) (lo : Int) : Nat → Int × Int
  | 0 => (0, -1)
  | i + 1 => if F (lo + i) = 0 then ((a_ev F lo i).1 + 1, if (a_ev F lo i).2 = -1 then lo + i else (a_ev F lo i).2) else a_ev F lo i
theorem a_ev_r {F : Int → Int} {lo : Int} (hl : 0 ≤ lo ∧ lo ≤ 1000) : ∀ i, (0 ≤ (a_ev F lo i).1 ∧ (a_ev F lo i).1 ≤ i) ∧ (-1 ≤ (a_ev F lo i).2 ∧ (a_ev F lo i).2 ≤ 1000 + i)
  | 0 => by simp only [a_ev]; omega
  | i + 1 => by
    have := a_ev_r (F := F) hl i
    simp only [a_ev]
    (repeat' split) <;> (try dsimp only) <;> omega
def V_even (v : Nat → Int) (a b bo ot q : Int) : Int := if a_so v a b bo ot ∧ (0 ≤ q ∧ q ≤ 1) then (if q = 0 then (a_ev (F_ev v a b bo ot) 40 161).1 else (a_ev (F_ev v a b bo ot) 40 161).2) else -2
theorem x_even {e n : Nat} {im : Nat → Option Nat} {w u : Nat → Nat → Int} {v : Nat → Int} {a b bo ot q : Int} (hv : c_v w v) (hw : a_wf v) (ha : jR a) (hb : jR b) (hbo : jR bo) (hot : jR ot) (hq : jR q) : ∃ w', (z_F (e + 20)).1 k_LongBoats_even [.ref 0, .int (Int32.ofInt a), .int (Int32.ofInt b), .int (Int32.ofInt bo), .int (Int32.ofInt ot), .int (Int32.ofInt q)] (n, z_q im, jM w, jL u) = some (Int32.ofInt (V_even v a b bo ot q), jM w', jL u) ∧ c_fr w w' := by
  obtain ⟨f0, f1, f2, f3, f4, f5, f6, f7, f8, f9, f10, f11, f12⟩ := id hw
  unfold V_even
  by_cases hq1 : 0 ≤ q ∧ q ≤ 1
  · by_cases h : a_so v a b bo ot
    · obtain ⟨w1, w2, q1, q2, q3, q4, q5, q6, q7⟩ := x_slips (e := e + 14) (n := n) (im := im) (u := u) hv hw h
      obtain ⟨s1, s2, s3, s4, s5⟩ := id h
      have b1 := f10 bo s4.1 s4.2
      have b2 := f10 ot s5.1 s5.2
      have pb := a_pp_b b1.2 b2.2
      obtain ⟨⟨d1, d2, d3, d4, d5, d6, d7, d8, d9, d10⟩, hv2, h3⟩ := id q3
      have ta := f11 a s1.1 s1.2
      have tb := f11 b s2.1 s2.2
      have spb := a_sp_b b1 b2 f0
      rw [if_pos ⟨h, hq1⟩]
      have hr := fun i => a_ev_r (F := F_ev v a b bo ot) (lo := 40) (by decide) i
      obtain ⟨t, ht, wi, rfl, hag⟩ := z_for (o := z_F (e + 19)) (cd := cd_LongBoats_even) (P := fun i s => ∃ wi, s = (27, [some (.ref 0), some (.int (Int32.ofInt a)), some (.int (Int32.ofInt b)), some (.int (Int32.ofInt bo)), some (.int (Int32.ofInt ot)), some (.int (Int32.ofInt (q))), some (.int (Int32.ofInt (a_ev (F_ev v a b bo ot) 40 i).1)), some (.int (Int32.ofInt (a_ev (F_ev v a b bo ot) 40 i).2)), some (.int (Int32.ofInt (40 + (i : Int))))], (n, z_q im, jM wi, jL u)) ∧ a_ag w2 wi 26 (fun j => j = 0)) 161 (s := (27, [some (.ref 0), some (.int (Int32.ofInt a)), some (.int (Int32.ofInt b)), some (.int (Int32.ofInt bo)), some (.int (Int32.ofInt ot)), some (.int (Int32.ofInt (q))), some (.int (Int32.ofInt 0)), some (.int (Int32.ofInt (-1))), some (.int (Int32.ofInt 40))], (n, z_q im, jM w2, jL u))) ⟨w2, rfl, a_ag_rf _ _ _⟩ (fun i s hi hs => by
        obtain ⟨wi, rfl, hag⟩ := hs
        have hri := hr i
        have hag2 : a_ag w2 (z_u wi 26 0 (40 + (i : Int))) 26 (fun j => j = 0) := a_ag_u hag rfl _
        have tt : ∀ j, j < 6 → z_u wi 26 0 (40 + (i : Int)) 26 j = a_s1 (a_T v a) 0 (40 + (i : Int)) j := fun j hj => by
          rw [z_u_at]
          simp only [a_s1]
          split
          · rfl
          · rw [hag.2 j (by omega)]; exact d1 j hj
        have t7 : z_u wi 26 0 (40 + (i : Int)) 27 = w2 27 := hag2.1 27 (by decide)
        have t5 : z_u wi 26 0 (40 + (i : Int)) 25 = w2 25 := hag2.1 25 (by decide)
        have t9 : z_u wi 26 0 (40 + (i : Int)) 29 = w2 29 := hag2.1 29 (by decide)
        have hval : c_ga (z_u wi 26 0 (40 + (i : Int))) = F_ev v a b bo ot (40 + (i : Int)) := by
          rw [c_ga_eq (v := v) (a := a) (b := b) (bo := bo) (ot := ot) (by rw [t9]; exact h3), t7, t5, d3]
          exact a_gn_cg rfl rfl rfl rfl rfl tt d2
        have hFb : -243 ≤ F_ev v a b bo ot (40 + (i : Int)) ∧ F_ev v a b bo ot (40 + (i : Int)) ≤ 243 := a_gn_b b1 b2
        refine ⟨(27, [some (.ref 0), some (.int (Int32.ofInt a)), some (.int (Int32.ofInt b)), some (.int (Int32.ofInt bo)), some (.int (Int32.ofInt ot)), some (.int (Int32.ofInt (q))), some (.int (Int32.ofInt (a_ev (F_ev v a b bo ot) 40 (i + 1)).1)), some (.int (Int32.ofInt (a_ev (F_ev v a b bo ot) 40 (i + 1)).2)), some (.int (Int32.ofInt (40 + (i : Int) + 1)))], (n, z_q im, jM (z_u wi 26 0 (40 + (i : Int))), jL u)), z_To_1 ((e_LongBoats_even_27 ..).trans ?_), _, by rw [Int.natCast_add, Int.add_assoc]; rfl, hag2⟩
        simp (disch := omega) only [ji_lt, jM_u]
        rw [if_neg (by omega), s_gain (a_tr_cg tt (we_tr ta (by omega) (by omega))) (by rw [t7]; exact q6) (by rw [t5]; exact q7), z_oI_s, hval]
        simp (disch := omega) only [ji_eq0, ji_eq, ji_add]
        by_cases h0 : F_ev v a b bo ot (40 + (i : Int)) = 0
        · by_cases h1 : (a_ev (F_ev v a b bo ot) 40 i).2 = -1
          · simp only [a_ev, if_pos h0, if_pos h1]
          · simp only [a_ev, if_pos h0, if_neg h1]
        · simp only [a_ev, if_neg h0])
      refine ⟨wi, n_LongBoats_even (z_go ((e_LongBoats_even_0 ..).trans ?_) (ht _ (z_ret ((e_LongBoats_even_27 ..).trans ?_)))), fun c hc => ?_⟩
      · simp (disch := omega) only [s_within, ji_b, z_oI_s, q1, jM_at]
        rw [if_neg (by omega), if_neg jc_1, q2, z_oV_s]
      · simp (disch := omega) only [ji_lt, ji_eq0]
        rw [if_pos (by decide)]
        split <;> rfl
      · rw [hag.1 c (fun q => by subst q; simp at hc)]
        exact q4 c hc
    · refine ⟨w, n_LongBoats_even (z_ret ((e_LongBoats_even_0 ..).trans ?_)), c_fr_rf w⟩
      simp (disch := omega) only [s_within, ji_b, z_oI_s]
      rw [if_neg (by omega), if_neg (fun q => h q.1), x_faces_n hv hw ha hb hbo hot h, z_oI_s]
      rfl
  · refine ⟨w, n_LongBoats_even (z_ret ((e_LongBoats_even_0 ..).trans ?_)), c_fr_rf w⟩
    simp (disch := omega) only [s_within, ji_b, z_oI_s]
    rw [if_pos (by omega), if_neg (fun q => hq1 q.2)]
theorem m_even {e n : Nat} {im : Nat → Option Nat} {w u : Nat → Nat → Int} {a b bo ot q : Int} (hw : a_wf (w 46)) (ha : jR a) (hb : jR b) (hbo : jR bo) (hot : jR ot) (hq : jR q) : (z_F (e + 20)).1 k_Model_even [.ref 45, .int (Int32.ofInt a), .int (Int32.ofInt b), .int (Int32.ofInt bo), .int (Int32.ofInt ot), .int (Int32.ofInt q)] (n, z_q im, jM w, jL u) = some (Int32.ofInt (V_even (w 46) a b bo ot q), jM w, jL u) := by
  obtain ⟨f0, f1, f2, f3, f4, f5, f6, f7, f8, f9, f10, f11, f12⟩ := id hw
  unfold V_even
  by_cases h1 : a_so (w 46) a b bo ot ∧ (0 ≤ q ∧ q ≤ 1)
  · have h := h1.1
    obtain ⟨s1, s2, s3, s4, s5⟩ := id h
    have b1 := f10 bo s4.1 s4.2
    have b2 := f10 ot s5.1 s5.2
    have ta := f11 a s1.1 s1.2
    have tb := f11 b s2.1 s2.2
    have spb := a_sp_b b1 b2 f0
    rw [if_pos h1]
    have hr := fun i => a_ev_r (F := F_ev (w 46) a b bo ot) (lo := 40) (by decide) i
    obtain ⟨t, ht, wi, rfl, hag⟩ := z_for (o := z_F (e + 19)) (cd := cd_Model_even) (P := fun i s => ∃ wi, s = (27, [some (.ref 45), some (.int (Int32.ofInt a)), some (.int (Int32.ofInt b)), some (.int (Int32.ofInt bo)), some (.int (Int32.ofInt ot)), some (.int (Int32.ofInt (q))), some (.int (Int32.ofInt (a_T (w 46) a 0))), some (.int (Int32.ofInt (a_ev (F_ev (w 46) a b bo ot) 40 i).1)), some (.int (Int32.ofInt (a_ev (F_ev (w 46) a b bo ot) 40 i).2)), some (.int (Int32.ofInt (40 + (i : Int))))], (n, z_q im, jM wi, jL u)) ∧ a_ag w wi 46 (fun j => j = 18 + 6 * a.toNat + 0)) 161 (s := (27, [some (.ref 45), some (.int (Int32.ofInt a)), some (.int (Int32.ofInt b)), some (.int (Int32.ofInt bo)), some (.int (Int32.ofInt ot)), some (.int (Int32.ofInt (q))), some (.int (Int32.ofInt (a_T (w 46) a 0))), some (.int (Int32.ofInt 0)), some (.int (Int32.ofInt (-1))), some (.int (Int32.ofInt 40))], (n, z_q im, jM w, jL u))) ⟨w, rfl, a_ag_rf _ _ _⟩ (fun i s hi hs => by
      obtain ⟨wi, rfl, hag⟩ := hs
      have hri := hr i
      have hag2 : a_ag w (z_u wi 46 (18 + 6 * a.toNat + 0) (40 + (i : Int))) 46 (fun j => j = 18 + 6 * a.toNat + 0) := a_ag_u hag rfl _
      have hc46 := wt_v (x := 40 + (i : Int)) hag
      have lo : ∀ j, j < 18 → a_up (w 46) (18 + 6 * a.toNat + 0) (40 + (i : Int)) j = w 46 j := fun j hj => a_up_ne (by omega)
      have hgn : a_gn (a_up (w 46) (18 + 6 * a.toNat + 0) (40 + (i : Int))) (a_T (a_up (w 46) (18 + 6 * a.toNat + 0) (40 + (i : Int))) a) (a_T (a_up (w 46) (18 + 6 * a.toNat + 0) (40 + (i : Int))) b) (a_sp (a_up (w 46) (18 + 6 * a.toNat + 0) (40 + (i : Int))) bo ot) bo ot = F_ev (w 46) a b bo ot (40 + (i : Int)) := by
        rw [a_sp_cg (v := w 46) (lo _ (by decide)) (lo _ (by omega)) (lo _ (by omega))]
        exact a_gn_cg (lo _ (by decide)) (lo _ (by decide)) (lo _ (by decide)) (lo _ (by omega)) (lo _ (by omega)) (fun j _ => T_up j) (T_up_ne s1.1 s2.1 s3 (by decide))
      have hFb : -243 ≤ F_ev (w 46) a b bo ot (40 + (i : Int)) ∧ F_ev (w 46) a b bo ot (40 + (i : Int)) ≤ 243 := a_gn_b b1 b2
      have ez : (z_F (e + 19)).2.2.1 k_Model_set [.ref 45, .int (Int32.ofInt a), .int (Int32.ofInt 0), .int (Int32.ofInt (40 + (i : Int)))] (n, z_q im, jM wi, jL u) = some (jM (z_u wi 46 (18 + 6 * a.toNat + 0) (40 + (i : Int))), jL u) := s_mset_0 (by omega) (by omega)
      refine ⟨(27, [some (.ref 45), some (.int (Int32.ofInt a)), some (.int (Int32.ofInt b)), some (.int (Int32.ofInt bo)), some (.int (Int32.ofInt ot)), some (.int (Int32.ofInt (q))), some (.int (Int32.ofInt (a_T (w 46) a 0))), some (.int (Int32.ofInt (a_ev (F_ev (w 46) a b bo ot) 40 (i + 1)).1)), some (.int (Int32.ofInt (a_ev (F_ev (w 46) a b bo ot) 40 (i + 1)).2)), some (.int (Int32.ofInt (40 + (i : Int) + 1)))], (n, z_q im, jM (z_u wi 46 (18 + 6 * a.toNat + 0) (40 + (i : Int))), jL u)), z_To_1 ((e_Model_even_27 ..).trans ?_), _, by rw [Int.natCast_add, Int.add_assoc]; rfl, hag2⟩
      simp (disch := omega) only [ji_lt]
      rw [if_neg (by omega), ez, z_oV_s, s_gn_v hc46 (wf_tr hw s1.1 s1.2 (by decide) (we_tr ta (by omega) (by omega))) (by rw [lo _ (by decide)]; exact s1) (by rw [lo _ (by decide)]; exact s2) (by rw [lo _ (by decide)]; exact s4) (by rw [lo _ (by decide)]; exact s5), z_oI_s, hgn]
      simp (disch := omega) only [ji_eq0, ji_eq, ji_add]
      by_cases h0 : F_ev (w 46) a b bo ot (40 + (i : Int)) = 0
      · by_cases h1 : (a_ev (F_ev (w 46) a b bo ot) 40 i).2 = -1
        · simp only [a_ev, if_pos h0, if_pos h1]
        · simp only [a_ev, if_pos h0, if_neg h1]
      · simp only [a_ev, if_neg h0])
    refine n_Model_even (z_go ((e_Model_even_0 ..).trans ?_) (ht _ (z_ret ((e_Model_even_27 ..).trans ?_))))
    · simp (disch := omega) only [jl_of, kl_0, kl_1, s_in, s_areSo, z_oI_s, ji_b]
      rw [if_neg (fun q => q h), if_neg (by omega), s_of_0 (by omega) (by omega), z_oI_s]
    · have hz : z_u wi 46 (18 + 6 * a.toNat + 0) (a_T (w 46) a 0) = w := by
        rw [zz1 hag]
        exact zu_self w 46 _
      simp (disch := omega) only [ji_lt, ji_eq0]
      rw [if_pos (by decide), s_mset_0 (by omega) (by omega), z_oV_s, hz]
      split <;> rfl
  · refine n_Model_even (z_ret ((e_Model_even_0 ..).trans ?_))
    simp (disch := omega) only [jl_of, kl_0, kl_1, s_in, s_areSo, z_oI_s, ji_b]
    rw [if_neg h1]
    (repeat' split) <;> first | rfl | (exfalso; omega)
theorem s_at28_0 {e n : Nat} {im : Nat → Option Nat} {w u : Nat → Nat → Int} : (z_F (e + 1)).1 k_Row_at [.ref 28, .int (Int32.ofInt 0)] (n, z_q im, jM w, jL u) = some (Int32.ofInt (w 29 0), jM w, jL u) := s_at_28 (j := 0) (by decide)
theorem s_at28_1 {e n : Nat} {im : Nat → Option Nat} {w u : Nat → Nat → Int} : (z_F (e + 1)).1 k_Row_at [.ref 28, .int (Int32.ofInt 1)] (n, z_q im, jM w, jL u) = some (Int32.ofInt (w 29 1), jM w, jL u) := s_at_28 (j := 1) (by decide)
/-- steer -/
def a_str (C T : Int → Int) (p ab be : Int) : Nat → Int × Int
  | 0 => (-1, -1)
  | i + 1 => if C i * be ≤ ab * p ∧ (a_str C T p ab be i).2 < T i then ((i : Int), T i) else a_str C T p ab be i
theorem a_str_r {C T : Int → Int} {p ab be : Int} (hT : ∀ x, 0 ≤ T x ∧ T x ≤ 81) : ∀ i, (-1 ≤ (a_str C T p ab be i).2 ∧ (a_str C T p ab be i).2 ≤ 81) ∧ (-1 ≤ (a_str C T p ab be i).1 ∧ (a_str C T p ab be i).1 ≤ i)
  | 0 => by simp only [a_str]; omega
  | i + 1 => by
    have := a_str_r (C := C) (p := p) (ab := ab) (be := be) hT i
    have h2 := hT i
    simp only [a_str]
    split
    · dsimp only; omega
    · omega
def V_steer (v : Nat → Int) (bo ot ab be : Int) : Int := if ((0 ≤ bo ∧ bo < v 6) ∧ (0 ≤ ot ∧ ot < v 6)) ∧ (0 ≤ ab ∧ ab ≤ 100) ∧ (1 ≤ be ∧ be ≤ 100) then (a_str (fun g => a_cm (v 3) (v 4) g (v (10 + 2 * bo.toNat + 1)) (v (10 + 2 * ot.toNat + 1)) 0) (fun g => a_cm (v 3) (v 4) g (v (10 + 2 * bo.toNat + 1)) (v (10 + 2 * ot.toNat + 1)) 1) (a_pp (v (10 + 2 * bo.toNat + 1)) (v (10 + 2 * ot.toNat + 1))) ab be 13).1 else -2
theorem x_steer {e n : Nat} {im : Nat → Option Nat} {w u : Nat → Nat → Int} {v : Nat → Int} {bo ot ab be : Int} (hv : c_v w v) (hw : a_wf v) (hbo : jR bo) (hot : jR ot) (hab : jR ab) (hbe : jR be) : ∃ w', (z_F (e + 20)).1 k_LongBoats_steer [.ref 0, .int (Int32.ofInt bo), .int (Int32.ofInt ot), .int (Int32.ofInt ab), .int (Int32.ofInt be)] (n, z_q im, jM w, jL u) = some (Int32.ofInt (V_steer v bo ot ab be), jM w', jL u) ∧ c_fr w w' := by
  obtain ⟨g0, g1, g2, g3, g4, g5, g6, g7, g8, g9, h5, h7, h9⟩ := id hv
  obtain ⟨f0, f1, f2, f3, f4, f5, f6, f7, f8, f9, f10, f11, f12⟩ := id hw
  unfold V_steer
  by_cases h : ((0 ≤ bo ∧ bo < v 6) ∧ (0 ≤ ot ∧ ot < v 6)) ∧ (0 ≤ ab ∧ ab ≤ 100) ∧ (1 ≤ be ∧ be ≤ 100)
  · obtain ⟨d1, d2, d3, d4, d5, d6, d7, d8, d9⟩ := pl_D hv hw h.1.1 h.1.2
    have b1 := (f10 bo h.1.1.1 h.1.1.2).2
    have b2 := (f10 ot h.1.2.1 h.1.2.2).2
    have pb := a_pp_b b1 b2
    have hC := fun g => a_cm_b (lo := v 3) (hi := v 4) (g := g) (k := 0) b1 b2
    have hT := fun g => a_cm_b (lo := v 3) (hi := v 4) (g := g) (k := 1) b1 b2
    rw [if_pos h]
    have hr := fun i => a_str_r (C := fun g => a_cm (v 3) (v 4) g (v (10 + 2 * bo.toNat + 1)) (v (10 + 2 * ot.toNat + 1)) 0) (T := fun g => a_cm (v 3) (v 4) g (v (10 + 2 * bo.toNat + 1)) (v (10 + 2 * ot.toNat + 1)) 1) (p := a_pp (v (10 + 2 * bo.toNat + 1)) (v (10 + 2 * ot.toNat + 1))) (ab := ab) (be := be) hT i
    obtain ⟨t, ht, wi, q, rfl, hfr⟩ := z_for (o := z_F (e + 19)) (cd := cd_LongBoats_steer) (P := fun i s => ∃ wi q, s = (32, [some (.ref 0), some (.int (Int32.ofInt bo)), some (.int (Int32.ofInt ot)), some (.int (Int32.ofInt ab)), some (.int (Int32.ofInt be)), some (.int (Int32.ofInt (a_str (fun g => a_cm (v 3) (v 4) g (v (10 + 2 * bo.toNat + 1)) (v (10 + 2 * ot.toNat + 1)) 0) (fun g => a_cm (v 3) (v 4) g (v (10 + 2 * bo.toNat + 1)) (v (10 + 2 * ot.toNat + 1)) 1) (a_pp (v (10 + 2 * bo.toNat + 1)) (v (10 + 2 * ot.toNat + 1))) ab be i).1)), some (.int (Int32.ofInt (a_str (fun g => a_cm (v 3) (v 4) g (v (10 + 2 * bo.toNat + 1)) (v (10 + 2 * ot.toNat + 1)) 0) (fun g => a_cm (v 3) (v 4) g (v (10 + 2 * bo.toNat + 1)) (v (10 + 2 * ot.toNat + 1)) 1) (a_pp (v (10 + 2 * bo.toNat + 1)) (v (10 + 2 * ot.toNat + 1))) ab be i).2)), some (.int (Int32.ofInt (i : Int))), q], (n, z_q im, jM wi, jL u)) ∧ (∀ c, c ≠ 29 → wi c = c_pl w bo ot c)) 13 (s := (32, [some (.ref 0), some (.int (Int32.ofInt bo)), some (.int (Int32.ofInt ot)), some (.int (Int32.ofInt ab)), some (.int (Int32.ofInt be)), some (.int (Int32.ofInt (-1))), some (.int (Int32.ofInt (-1))), some (.int (Int32.ofInt 0)), none], (n, z_q im, jM (c_pl w bo ot), jL u))) ⟨_, none, rfl, fun _ _ => rfl⟩ (fun i s hi hs => by
      obtain ⟨wi, q, rfl, hfr⟩ := hs
      have hri := hr i
      have hCi := hC i
      have hTi := hT i
      have k25 := hfr 25 (by decide)
      obtain ⟨w2, q1, q2, q3⟩ := x_cs (e := e + 17) (n := n) (im := im) (u := u) (w := wi) (g := (i : Int)) hw h.1.1 h.1.2 (by omega) (by rw [k25]; exact d2) (by rw [k25]; exact d3) (by rw [k25]; exact d4) (by rw [k25]; exact d5)
      have k0 : w2 29 0 = a_cm (v 3) (v 4) i (v (10 + 2 * bo.toNat + 1)) (v (10 + 2 * ot.toNat + 1)) 0 := q3 0 (by decide)
      have k1 : w2 29 1 = a_cm (v 3) (v 4) i (v (10 + 2 * bo.toNat + 1)) (v (10 + 2 * ot.toNat + 1)) 1 := q3 1 (by decide)
      have k5 : w2 25 5 = (v (10 + 2 * bo.toNat + 1)) := by rw [q2 25 (by decide), k25, d2]
      have k6 : w2 25 6 = (v (10 + 2 * ot.toNat + 1)) := by rw [q2 25 (by decide), k25, d3]
      have hq2 : ∀ c, c ≠ 29 → w2 c = c_pl w bo ot c := fun c hc => by rw [q2 c hc, hfr c hc]
      have m1 := a_mul_b (x := ab) (y := a_pp (v (10 + 2 * bo.toNat + 1)) (v (10 + 2 * ot.toNat + 1))) (X := 100) (Y := 81) (by omega) (by omega)
      have m2 := a_mul_b (x := a_cm (v 3) (v 4) i (v (10 + 2 * bo.toNat + 1)) (v (10 + 2 * ot.toNat + 1)) 0) (y := be) (X := 81) (Y := 100) (by omega) (by omega)
      by_cases hc : a_cm (v 3) (v 4) i (v (10 + 2 * bo.toNat + 1)) (v (10 + 2 * ot.toNat + 1)) 0 * be ≤ ab * a_pp (v (10 + 2 * bo.toNat + 1)) (v (10 + 2 * ot.toNat + 1)) ∧ (a_str (fun g => a_cm (v 3) (v 4) g (v (10 + 2 * bo.toNat + 1)) (v (10 + 2 * ot.toNat + 1)) 0) (fun g => a_cm (v 3) (v 4) g (v (10 + 2 * bo.toNat + 1)) (v (10 + 2 * ot.toNat + 1)) 1) (a_pp (v (10 + 2 * bo.toNat + 1)) (v (10 + 2 * ot.toNat + 1))) ab be i).2 < a_cm (v 3) (v 4) i (v (10 + 2 * bo.toNat + 1)) (v (10 + 2 * ot.toNat + 1)) 1
      · refine ⟨(32, [some (.ref 0), some (.int (Int32.ofInt bo)), some (.int (Int32.ofInt ot)), some (.int (Int32.ofInt ab)), some (.int (Int32.ofInt be)), some (.int (Int32.ofInt (i : Int))), some (.int (Int32.ofInt (a_cm (v 3) (v 4) i (v (10 + 2 * bo.toNat + 1)) (v (10 + 2 * ot.toNat + 1)) 1))), some (.int (Int32.ofInt ((i : Int) + 1))), some (.int (Int32.ofInt 1))], (n, z_q im, jM w2, jL u)), z_To_1 ((e_LongBoats_steer_32 ..).trans ?_), w2, _, by simp only [a_str]; rw [if_pos hc]; rfl, hq2⟩
        simp (disch := omega) only [ji_lt]
        rw [if_neg (by omega), q1, z_oV_s, s_at28_0, z_oI_s, k0, s_allPairs, z_oI_s, k5, k6]
        change (if Int32.ofInt ab * Int32.ofInt (a_pp _ _) < _ then _ else _) = _
        simp (disch := omega) only [ji_mul, ji_lt, ji_add, jc_1, if_false]
        rw [if_neg (by omega), s_at28_1, z_oI_s, k1]
        simp (disch := omega) only [ji_le]
        rw [if_neg (by omega), s_at28_1, z_oI_s, k1]
      · by_cases hc2 : ab * a_pp (v (10 + 2 * bo.toNat + 1)) (v (10 + 2 * ot.toNat + 1)) < a_cm (v 3) (v 4) i (v (10 + 2 * bo.toNat + 1)) (v (10 + 2 * ot.toNat + 1)) 0 * be
        · refine ⟨(32, [some (.ref 0), some (.int (Int32.ofInt bo)), some (.int (Int32.ofInt ot)), some (.int (Int32.ofInt ab)), some (.int (Int32.ofInt be)), some (.int (Int32.ofInt (a_str (fun g => a_cm (v 3) (v 4) g (v (10 + 2 * bo.toNat + 1)) (v (10 + 2 * ot.toNat + 1)) 0) (fun g => a_cm (v 3) (v 4) g (v (10 + 2 * bo.toNat + 1)) (v (10 + 2 * ot.toNat + 1)) 1) (a_pp (v (10 + 2 * bo.toNat + 1)) (v (10 + 2 * ot.toNat + 1))) ab be i).1)), some (.int (Int32.ofInt (a_str (fun g => a_cm (v 3) (v 4) g (v (10 + 2 * bo.toNat + 1)) (v (10 + 2 * ot.toNat + 1)) 0) (fun g => a_cm (v 3) (v 4) g (v (10 + 2 * bo.toNat + 1)) (v (10 + 2 * ot.toNat + 1)) 1) (a_pp (v (10 + 2 * bo.toNat + 1)) (v (10 + 2 * ot.toNat + 1))) ab be i).2)), some (.int (Int32.ofInt ((i : Int) + 1))), some (.int (Int32.ofInt 0))], (n, z_q im, jM w2, jL u)), z_To_1 ((e_LongBoats_steer_32 ..).trans ?_), w2, _, by simp only [a_str]; rw [if_neg hc]; rfl, hq2⟩
          simp (disch := omega) only [ji_lt]
          rw [if_neg (by omega), q1, z_oV_s, s_at28_0, z_oI_s, k0, s_allPairs, z_oI_s, k5, k6]
          change (if Int32.ofInt ab * Int32.ofInt (a_pp _ _) < _ then _ else _) = _
          simp (disch := omega) only [ji_mul, ji_lt, ji_add, jc_0, if_true]
          rw [if_pos hc2]
        · refine ⟨(32, [some (.ref 0), some (.int (Int32.ofInt bo)), some (.int (Int32.ofInt ot)), some (.int (Int32.ofInt ab)), some (.int (Int32.ofInt be)), some (.int (Int32.ofInt (a_str (fun g => a_cm (v 3) (v 4) g (v (10 + 2 * bo.toNat + 1)) (v (10 + 2 * ot.toNat + 1)) 0) (fun g => a_cm (v 3) (v 4) g (v (10 + 2 * bo.toNat + 1)) (v (10 + 2 * ot.toNat + 1)) 1) (a_pp (v (10 + 2 * bo.toNat + 1)) (v (10 + 2 * ot.toNat + 1))) ab be i).1)), some (.int (Int32.ofInt (a_str (fun g => a_cm (v 3) (v 4) g (v (10 + 2 * bo.toNat + 1)) (v (10 + 2 * ot.toNat + 1)) 0) (fun g => a_cm (v 3) (v 4) g (v (10 + 2 * bo.toNat + 1)) (v (10 + 2 * ot.toNat + 1)) 1) (a_pp (v (10 + 2 * bo.toNat + 1)) (v (10 + 2 * ot.toNat + 1))) ab be i).2)), some (.int (Int32.ofInt ((i : Int) + 1))), some (.int (Int32.ofInt 1))], (n, z_q im, jM w2, jL u)), z_To_1 ((e_LongBoats_steer_32 ..).trans ?_), w2, _, by simp only [a_str]; rw [if_neg hc]; rfl, hq2⟩
          simp (disch := omega) only [ji_lt]
          rw [if_neg (by omega), q1, z_oV_s, s_at28_0, z_oI_s, k0, s_allPairs, z_oI_s, k5, k6]
          change (if Int32.ofInt ab * Int32.ofInt (a_pp _ _) < _ then _ else _) = _
          simp (disch := omega) only [ji_mul, ji_lt, ji_add, jc_1, if_false]
          rw [if_neg hc2, s_at28_1, z_oI_s, k1]
          simp (disch := omega) only [ji_le]
          rw [if_pos (by omega)])
    refine ⟨wi, n_LongBoats_steer (z_go ((e_LongBoats_steer_0 ..).trans ?_) (ht _ (z_ret ((e_LongBoats_steer_32 ..).trans ?_)))), fun c hc => ?_⟩
    · simp (disch := omega) only [s_hasBoats, s_within, z_oI_s, ji_b, g7]
      rw [if_neg (by omega), if_neg (by omega), if_neg (by omega), x_place hv hw h.1.1 h.1.2, z_oV_s]
    · simp (disch := omega) only [ji_lt]
      rw [if_pos (by decide)]
    · rw [hfr c (fun q => by subst q; simp at hc)]
      exact pl_fr c hc
  · refine ⟨w, n_LongBoats_steer (z_ret ((e_LongBoats_steer_0 ..).trans ?_)), c_fr_rf w⟩
    rw [if_neg h]
    simp (disch := omega) only [s_hasBoats, s_within, z_oI_s, ji_b, g7]
    (repeat' split) <;> first | rfl | (exfalso; omega)
theorem m_steer {e n : Nat} {im : Nat → Option Nat} {w u : Nat → Nat → Int} {bo ot ab be : Int} (hw : a_wf (w 46)) (hbo : jR bo) (hot : jR ot) (hab : jR ab) (hbe : jR be) : (z_F (e + 20)).1 k_Model_steer [.ref 45, .int (Int32.ofInt bo), .int (Int32.ofInt ot), .int (Int32.ofInt ab), .int (Int32.ofInt be)] (n, z_q im, jM w, jL u) = some (Int32.ofInt (V_steer (w 46) bo ot ab be), jM w, jL u) := by
  obtain ⟨f0, f1, f2, f3, f4, f5, f6, f7, f8, f9, f10, f11, f12⟩ := id hw
  unfold V_steer
  by_cases h : ((0 ≤ bo ∧ bo < w 46 6) ∧ (0 ≤ ot ∧ ot < w 46 6)) ∧ (0 ≤ ab ∧ ab ≤ 100) ∧ (1 ≤ be ∧ be ≤ 100)
  · have b1 := f10 bo h.1.1.1 h.1.1.2
    have b2 := f10 ot h.1.2.1 h.1.2.2
    have pb := a_pp_b b1.2 b2.2
    have hC := fun g => a_cm_b (lo := w 46 3) (hi := w 46 4) (g := g) (k := 0) b1.2 b2.2
    have hT := fun g => a_cm_b (lo := w 46 3) (hi := w 46 4) (g := g) (k := 1) b1.2 b2.2
    rw [if_pos h]
    have hr := fun i => a_str_r (C := fun g => a_cm (w 46 3) (w 46 4) g (w 46 (10 + 2 * bo.toNat + 1)) (w 46 (10 + 2 * ot.toNat + 1)) 0) (T := fun g => a_cm (w 46 3) (w 46 4) g (w 46 (10 + 2 * bo.toNat + 1)) (w 46 (10 + 2 * ot.toNat + 1)) 1) (p := a_pp (w 46 (10 + 2 * bo.toNat + 1)) (w 46 (10 + 2 * ot.toNat + 1))) (ab := ab) (be := be) hT i
    obtain ⟨t, ht, rfl⟩ := z_for (o := z_F (e + 19)) (cd := cd_Model_steer) (P := fun i s => s = (29, [some (.ref 45), some (.int (Int32.ofInt bo)), some (.int (Int32.ofInt ot)), some (.int (Int32.ofInt ab)), some (.int (Int32.ofInt be)), some (.int (Int32.ofInt (a_str (fun g => a_cm (w 46 3) (w 46 4) g (w 46 (10 + 2 * bo.toNat + 1)) (w 46 (10 + 2 * ot.toNat + 1)) 0) (fun g => a_cm (w 46 3) (w 46 4) g (w 46 (10 + 2 * bo.toNat + 1)) (w 46 (10 + 2 * ot.toNat + 1)) 1) (a_pp (w 46 (10 + 2 * bo.toNat + 1)) (w 46 (10 + 2 * ot.toNat + 1))) ab be i).1)), some (.int (Int32.ofInt (a_str (fun g => a_cm (w 46 3) (w 46 4) g (w 46 (10 + 2 * bo.toNat + 1)) (w 46 (10 + 2 * ot.toNat + 1)) 0) (fun g => a_cm (w 46 3) (w 46 4) g (w 46 (10 + 2 * bo.toNat + 1)) (w 46 (10 + 2 * ot.toNat + 1)) 1) (a_pp (w 46 (10 + 2 * bo.toNat + 1)) (w 46 (10 + 2 * ot.toNat + 1))) ab be i).2)), some (.int (Int32.ofInt (i : Int)))], (n, z_q im, jM w, jL u))) 13 (s := (29, [some (.ref 45), some (.int (Int32.ofInt bo)), some (.int (Int32.ofInt ot)), some (.int (Int32.ofInt ab)), some (.int (Int32.ofInt be)), some (.int (Int32.ofInt (-1))), some (.int (Int32.ofInt (-1))), some (.int (Int32.ofInt 0))], (n, z_q im, jM w, jL u))) rfl (fun i s hi hs => by
      subst hs
      have hri := hr i
      have hCi := hC i
      have hTi := hT i
      have m1 := a_mul_b (x := ab) (y := a_pp (w 46 (10 + 2 * bo.toNat + 1)) (w 46 (10 + 2 * ot.toNat + 1))) (X := 100) (Y := 81) (by omega) (by omega)
      have m2 := a_mul_b (x := a_cm (w 46 3) (w 46 4) i (w 46 (10 + 2 * bo.toNat + 1)) (w 46 (10 + 2 * ot.toNat + 1)) 0) (y := be) (X := 81) (Y := 100) (by omega) (by omega)
      refine ⟨(29, [some (.ref 45), some (.int (Int32.ofInt bo)), some (.int (Int32.ofInt ot)), some (.int (Int32.ofInt ab)), some (.int (Int32.ofInt be)), some (.int (Int32.ofInt (a_str (fun g => a_cm (w 46 3) (w 46 4) g (w 46 (10 + 2 * bo.toNat + 1)) (w 46 (10 + 2 * ot.toNat + 1)) 0) (fun g => a_cm (w 46 3) (w 46 4) g (w 46 (10 + 2 * bo.toNat + 1)) (w 46 (10 + 2 * ot.toNat + 1)) 1) (a_pp (w 46 (10 + 2 * bo.toNat + 1)) (w 46 (10 + 2 * ot.toNat + 1))) ab be (i + 1)).1)), some (.int (Int32.ofInt (a_str (fun g => a_cm (w 46 3) (w 46 4) g (w 46 (10 + 2 * bo.toNat + 1)) (w 46 (10 + 2 * ot.toNat + 1)) 0) (fun g => a_cm (w 46 3) (w 46 4) g (w 46 (10 + 2 * bo.toNat + 1)) (w 46 (10 + 2 * ot.toNat + 1)) 1) (a_pp (w 46 (10 + 2 * bo.toNat + 1)) (w 46 (10 + 2 * ot.toNat + 1))) ab be (i + 1)).2)), some (.int (Int32.ofInt ((i : Int) + 1)))], (n, z_q im, jM w, jL u)), z_To_1 ((e_Model_steer_29 ..).trans ?_), rfl⟩
      simp (disch := omega) only [ji_lt]
      rw [if_neg (by omega), s_cm (by omega) (by omega) (by omega) (by omega) b1 b2 (by omega) (by omega) (by omega) (by omega), z_oI_s, s_pp (by omega) (by omega) (by omega) (by omega), z_oI_s]
      simp (disch := omega) only [ji_mul, ji_lt, ji_add]
      simp only [a_str]
      by_cases hc2 : ab * a_pp (w 46 (10 + 2 * bo.toNat + 1)) (w 46 (10 + 2 * ot.toNat + 1)) < a_cm (w 46 3) (w 46 4) i (w 46 (10 + 2 * bo.toNat + 1)) (w 46 (10 + 2 * ot.toNat + 1)) 0 * be
      · rw [if_pos hc2, if_neg (by omega)]
      · rw [if_neg hc2, s_cm (by omega) (by omega) (by omega) (by omega) b1 b2 (by omega) (by omega) (by omega) (by omega), z_oI_s]
        simp (disch := omega) only [ji_lt]
        by_cases hc : (a_str (fun g => a_cm (w 46 3) (w 46 4) g (w 46 (10 + 2 * bo.toNat + 1)) (w 46 (10 + 2 * ot.toNat + 1)) 0) (fun g => a_cm (w 46 3) (w 46 4) g (w 46 (10 + 2 * bo.toNat + 1)) (w 46 (10 + 2 * ot.toNat + 1)) 1) (a_pp (w 46 (10 + 2 * bo.toNat + 1)) (w 46 (10 + 2 * ot.toNat + 1))) ab be i).2 < a_cm (w 46 3) (w 46 4) i (w 46 (10 + 2 * bo.toNat + 1)) (w 46 (10 + 2 * ot.toNat + 1)) 1
        · rw [if_pos hc, if_pos ⟨by omega, hc⟩, s_cm (by omega) (by omega) (by omega) (by omega) b1 b2 (by omega) (by omega) (by omega) (by omega), z_oI_s]
        · rw [if_neg hc, if_neg (fun q => hc q.2)])
    refine n_Model_steer (z_go ((e_Model_steer_0 ..).trans ?_) (ht _ (z_ret ((e_Model_steer_29 ..).trans ?_))))
    · simp (disch := omega) only [jl_of, kl_0, kl_1, kl_18, s_in, s_isBoat, z_oI_s, ji_b]
      rw [if_neg (by omega), if_neg (by omega), if_neg (by omega), if_neg (by omega)]
    · simp (disch := omega) only [ji_lt]
      rw [if_pos (by decide)]
  · refine n_Model_steer (z_ret ((e_Model_steer_0 ..).trans ?_))
    rw [if_neg h]
    simp (disch := omega) only [jl_of, kl_0, kl_1, kl_18, s_in, s_isBoat, z_oI_s, ji_b]
    (repeat' split) <;> first | rfl | (exfalso; omega)
