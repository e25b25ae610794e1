/-! judges -/
theorem lc_le (x y : Int64) : lg_cmp x y ≤ 0 ↔ ¬ y < x := by rw [← lc_gt, Int32.not_lt]
def c_em (v : Nat → Int) (i : Nat) : Int := if a_T v i 5 = 2 then 1 else 0
def E_m (v : Nat → Int) : Int := a_cnt (c_em v) (v 7).toNat
theorem E_m_b {v : Nat → Int} (hw : a_wf v) : 0 ≤ E_m v ∧ E_m v ≤ v 7 := by
  have h := a_cnt_b (f := c_em v) (fun i => by unfold c_em; split <;> omega) (v 7).toNat
  have h7 := hw.2.2.2.2.2.2.2.1
  unfold E_m
  omega
theorem s_menWho {e n : Nat} {im : Nat → Option Nat} {w u : Nat → Nat → Int} {v : Nat → Int} (hv : c_v w v) (hw : a_wf v) : (z_F (e + 3)).1 k_Harbour_menWhoAim [.ref 3, .int (Int32.ofInt 2)] (n, z_q im, jM w, jL u) = some (Int32.ofInt (E_m v), jM w, jL u) := by
  obtain ⟨g0, g1, g2, g3, g4, g5, g6, g7, g8, g9, h5, h7, h9⟩ := id hv
  obtain ⟨f0, f1, f2, f3, f4, f5, f6, f7, f8, f9, f10, f11, f12⟩ := id hw
  obtain ⟨t, ht, rfl⟩ := z_for (o := z_F (e + 2)) (cd := cd_Harbour_menWhoAim) (P := fun i s => s = (5, [some (.ref 3), some (.int (Int32.ofInt 2)), some (.int (Int32.ofInt (a_cnt (c_em v) i))), some (.int (Int32.ofInt (i : Int)))], (n, z_q im, jM w, jL u))) (v 7).toNat (s := (5, [some (.ref 3), some (.int (Int32.ofInt 2)), some (.int (Int32.ofInt 0)), some (.int (Int32.ofInt 0))], (n, z_q im, jM w, jL u))) rfl (fun i s hi hs => by
    subst hs
    refine ⟨(5, [some (.ref 3), some (.int (Int32.ofInt 2)), some (.int (Int32.ofInt (a_cnt (c_em v) (i + 1)))), some (.int (Int32.ofInt ((i : Int) + 1)))], (n, z_q im, jM w, jL u)), z_To_1 ((e_Harbour_menWhoAim_3_5 ..).trans ?_), rfl⟩
    have t5 := (f11 i (by omega) (by omega)).2.2.2.2.2
    have e5 : w 7 (6 * (i : Int).toNat + 5) = a_T v i 5 := c_T hv (by omega) (by omega) 5 (by decide)
    have hx : a_cnt (c_em v) (i + 1) = a_cnt (c_em v) i + (if a_T v i 5 = 2 then 1 else 0) := rfl
    rw [s_trait_5 (by omega) (by omega), z_oI_s, e5, hx]
    simp (disch := omega) only [jM_at, g8, ji_le, ji_eq, ji_add]
    rw [if_neg (by omega)]
    split <;> rfl)
  refine n_Harbour_menWhoAim_3 (z_go (e_Harbour_menWhoAim_3_0 ..) (ht _ (z_ret ((e_Harbour_menWhoAim_3_5 ..).trans ?_))))
  simp (disch := omega) only [jM_at, g8, ji_le]
  rw [if_pos (by omega)]
  rfl
theorem s_edgeMen {e n : Nat} {im : Nat → Option Nat} {w u : Nat → Nat → Int} (hw : a_wf (w 46)) : (z_F (e + 2)).1 k_Model_edgeMen [.ref 45] (n, z_q im, jM w, jL u) = some (Int32.ofInt (E_m (w 46)), jM w, jL u) := by
  obtain ⟨f0, f1, f2, f3, f4, f5, f6, f7, f8, f9, f10, f11, f12⟩ := id hw
  obtain ⟨t, ht, rfl⟩ := z_for (o := z_F (e + 1)) (cd := cd_Model_edgeMen) (P := fun i s => s = (5, [some (.ref 45), some (.int (Int32.ofInt (a_cnt (c_em (w 46)) i))), some (.int (Int32.ofInt (i : Int)))], (n, z_q im, jM w, jL u))) (w 46 7).toNat (s := (5, [some (.ref 45), some (.int (Int32.ofInt 0)), some (.int (Int32.ofInt 0))], (n, z_q im, jM w, jL u))) rfl (fun i s hi hs => by
    subst hs
    refine ⟨(5, [some (.ref 45), some (.int (Int32.ofInt (a_cnt (c_em (w 46)) (i + 1)))), some (.int (Int32.ofInt ((i : Int) + 1)))], (n, z_q im, jM w, jL u)), z_To_1 ((e_Model_edgeMen_5 ..).trans ?_), rfl⟩
    have t5 := (f11 i (by omega) (by omega)).2.2.2.2.2
    have hx : a_cnt (c_em (w 46)) (i + 1) = a_cnt (c_em (w 46)) i + (if a_T (w 46) i 5 = 2 then 1 else 0) := rfl
    rw [s_of_5 (by omega) (by omega), z_oI_s, hx]
    simp (disch := omega) only [jM_at, ji_le, ji_eq, ji_add]
    rw [if_neg (by omega)]
    split <;> rfl)
  refine n_Model_edgeMen (z_go (e_Model_edgeMen_0 ..) (ht _ (z_ret ((e_Model_edgeMen_5 ..).trans ?_))))
  simp (disch := omega) only [jM_at, ji_le]
  rw [if_pos (by omega)]
  rfl
def eW (v : Nat → Int) (k m : Int) : Int := E_m v * (100 - v 5) ^ k.toNat * v 5 ^ (m - k).toNat
def oW (v : Nat → Int) (k m : Int) : Int := (v 7 - E_m v) * v 5 ^ k.toNat * (100 - v 5) ^ (m - k).toNat
theorem a_pc_b {p : Int} (hp : 0 ≤ p ∧ p ≤ 100) : ∀ k : Nat, 0 ≤ p ^ k ∧ p ^ k ≤ 100 ^ k
  | 0 => by simp
  | k + 1 => by
    have h := a_pc_b hp k
    rw [Int.pow_succ, Int.pow_succ]
    exact a_mul_b h hp
theorem a_pc_4 {p : Int} (hp : 0 ≤ p ∧ p ≤ 100) {k : Nat} (hk : k ≤ 4) : 0 ≤ p ^ k ∧ p ^ k ≤ 100000000 := by
  have h := a_pc_b hp k
  have : k = 0 ∨ k = 1 ∨ k = 2 ∨ k = 3 ∨ k = 4 := by omega
  rcases this with rfl | rfl | rfl | rfl | rfl <;> exact ⟨h.1, Int.le_trans h.2 (by decide)⟩
theorem W_b {v : Nat → Int} (hw : a_wf v) {k m : Int} (hm : 1 ≤ m ∧ m ≤ 4) (hk : 0 ≤ k ∧ k ≤ m) : (0 ≤ eW v k m ∧ eW v k m ≤ 100000000000000000) ∧ (0 ≤ oW v k m ∧ oW v k m ≤ 100000000000000000) := by
  obtain ⟨f0, f1, f2, f3, f4, f5, f6, f7, f8, f9, f10, f11, f12⟩ := id hw
  have hE := E_m_b hw
  have p1 := a_pc_4 (p := 100 - v 5) (k := k.toNat) (by omega) (by omega)
  have p2 := a_pc_4 (p := v 5) (k := (m - k).toNat) (by omega) (by omega)
  have p3 := a_pc_4 (p := v 5) (k := k.toNat) (by omega) (by omega)
  have p4 := a_pc_4 (p := 100 - v 5) (k := (m - k).toNat) (by omega) (by omega)
  have m1 := a_mul_b (x := E_m v) (y := (100 - v 5) ^ k.toNat) (X := 10) (Y := 100000000) (by omega) p1
  have m2 := a_mul_b (x := E_m v * (100 - v 5) ^ k.toNat) (y := v 5 ^ (m - k).toNat) (X := 1000000000) (Y := 100000000) (by omega) p2
  have m3 := a_mul_b (x := v 7 - E_m v) (y := v 5 ^ k.toNat) (X := 10) (Y := 100000000) (by omega) p3
  have m4 := a_mul_b (x := (v 7 - E_m v) * v 5 ^ k.toNat) (y := (100 - v 5) ^ (m - k).toNat) (X := 1000000000) (Y := 100000000) (by omega) p4
  exact ⟨m2, m4⟩
theorem x_edgeWays {e n : Nat} {im : Nat → Option Nat} {w u : Nat → Nat → Int} {v : Nat → Int} {k m : Int} (hv : c_v w v) (hw : a_wf v) (hm : 1 ≤ m ∧ m ≤ 4) (hk : 0 ≤ k ∧ k ≤ m) : (z_F (e + 4)).2.1 k_LongBoats_edgeWays [.ref 0, .int (Int32.ofInt k), .int (Int32.ofInt m)] (n, z_q im, jM w, jL u) = some (Int64.ofInt (eW v k m), jM w, jL u) := by
  obtain ⟨g0, g1, g2, g3, g4, g5, g6, g7, g8, g9, h5, h7, h9⟩ := id hv
  obtain ⟨f0, f1, f2, f3, f4, f5, f6, f7, f8, f9, f10, f11, f12⟩ := id hw
  have hE := E_m_b hw
  refine q_LongBoats_edgeWays ?_
  rw [s_menWho hv hw, z_oI_s]
  simp (disch := omega) only [jM_at, g6, ji_sub, s_cpower, z_oJ_s, jl_of, jl_mul]
  rfl
theorem x_otherWays {e n : Nat} {im : Nat → Option Nat} {w u : Nat → Nat → Int} {v : Nat → Int} {k m : Int} (hv : c_v w v) (hw : a_wf v) (hm : 1 ≤ m ∧ m ≤ 4) (hk : 0 ≤ k ∧ k ≤ m) : (z_F (e + 4)).2.1 k_LongBoats_otherWays [.ref 0, .int (Int32.ofInt k), .int (Int32.ofInt m)] (n, z_q im, jM w, jL u) = some (Int64.ofInt (oW v k m), jM w, jL u) := by
  obtain ⟨g0, g1, g2, g3, g4, g5, g6, g7, g8, g9, h5, h7, h9⟩ := id hv
  obtain ⟨f0, f1, f2, f3, f4, f5, f6, f7, f8, f9, f10, f11, f12⟩ := id hw
  have hE := E_m_b hw
  refine q_LongBoats_otherWays ?_
  rw [s_menWho hv hw, z_oI_s]
  simp (disch := omega) only [jM_at, g6, g8, ji_sub, s_cpower, z_oJ_s, jl_of, jl_mul]
  rfl
theorem s_tells1 {e n : Nat} {im : Nat → Option Nat} {w u : Nat → Nat → Int} {k m : Int} (hw : a_wf (w 46)) (hm : 1 ≤ m ∧ m ≤ 4) (hk : 0 ≤ k ∧ k ≤ m) : (z_F (e + 3)).2.1 k_Model_tellsOf [.ref 45, .int (Int32.ofInt k), .int (Int32.ofInt m), .int (Int32.ofInt 1)] (n, z_q im, jM w, jL u) = some (Int64.ofInt (eW (w 46) k m), jM w, jL u) := by
  obtain ⟨f0, f1, f2, f3, f4, f5, f6, f7, f8, f9, f10, f11, f12⟩ := id hw
  have hE := E_m_b hw
  refine q_Model_tellsOf ?_
  rw [if_neg (show ¬ Int32.ofInt 1 = 0 by decide), s_edgeMen hw, z_oI_s, if_neg (show ¬ Int32.ofInt 1 = 0 by decide)]
  simp (disch := omega) only [jM_at, kl_18, ji_sub, jl_of, jl_sub, s_power, z_oJ_s, jl_mul]
  rw [← Int.mul_assoc]
  rfl
theorem s_tells0 {e n : Nat} {im : Nat → Option Nat} {w u : Nat → Nat → Int} {k m : Int} (hw : a_wf (w 46)) (hm : 1 ≤ m ∧ m ≤ 4) (hk : 0 ≤ k ∧ k ≤ m) : (z_F (e + 3)).2.1 k_Model_tellsOf [.ref 45, .int (Int32.ofInt k), .int (Int32.ofInt m), .int (Int32.ofInt 0)] (n, z_q im, jM w, jL u) = some (Int64.ofInt (oW (w 46) k m), jM w, jL u) := by
  obtain ⟨f0, f1, f2, f3, f4, f5, f6, f7, f8, f9, f10, f11, f12⟩ := id hw
  have hE := E_m_b hw
  refine q_Model_tellsOf ?_
  rw [if_pos (show Int32.ofInt 0 = 0 from rfl), s_edgeMen hw, z_oI_s, if_pos (show Int32.ofInt 0 = 0 from rfl)]
  simp (disch := omega) only [jM_at, kl_18, ji_sub, jl_of, jl_sub, s_power, z_oJ_s, jl_mul]
  rw [← Int.mul_assoc]
  rfl
abbrev a_jc (v : Nat → Int) (k m h : Int) : Prop := v 7 ≠ 0 ∧ (1 ≤ m ∧ m ≤ 4) ∧ (0 ≤ k ∧ k ≤ m) ∧ (0 ≤ h ∧ h ≤ 1)
def V_judge (v : Nat → Int) (k m h : Int) : Int := if a_jc v k m h then (if eW v k m + oW v k m = 0 then -1 else a_lw (eW v k m) (eW v k m + oW v k m) h) else -2
theorem x_judge {e n : Nat} {im : Nat → Option Nat} {w u : Nat → Nat → Int} {v : Nat → Int} {k m h : Int} (hv : c_v w v) (hw : a_wf v) (hk : jR k) (hm : jR m) (hh : jR h) : (z_F (e + 20)).2.1 k_LongBoats_judge [.ref 0, .int (Int32.ofInt k), .int (Int32.ofInt m), .int (Int32.ofInt h)] (n, z_q im, jM w, jL u) = some (Int64.ofInt (V_judge v k m h), jM w, jL u) := by
  obtain ⟨g0, g1, g2, g3, g4, g5, g6, g7, g8, g9, h5, h7, h9⟩ := id hv
  obtain ⟨f0, f1, f2, f3, f4, f5, f6, f7, f8, f9, f10, f11, f12⟩ := id hw
  unfold V_judge
  refine q_LongBoats_judge ?_
  have h37 : ((jM w, jL u) : zD).1 3 8 = Int32.ofInt (v 7) := by
    show Int32.ofInt (w 3 8) = _
    rw [g8]
  rw [s_within hm (by decide) (by decide), z_oI_s]
  by_cases h1 : 1 ≤ m ∧ m ≤ 4
  · rw [if_neg (ji_b_n h1), s_within hk (by decide) hm, z_oI_s]
    by_cases h2 : 0 ≤ k ∧ k ≤ m
    · rw [if_neg (ji_b_n h2), s_within hh (by decide) (by decide), z_oI_s]
      by_cases h3 : 0 ≤ h ∧ h ≤ 1
      · rw [if_neg (ji_b_n h3), h37]
        by_cases h4 : v 7 = 0
        · rw [if_pos (ji_eq0_p (by omega) h4), kl_2, if_neg (fun q => q.1 h4)]
        · have hb := W_b hw h1 h2
          rw [if_neg (ji_eq0_n (by omega) h4), if_pos ⟨h4, h1, h2, h3⟩, x_edgeWays hv hw h1 h2, z_oJ_s, x_otherWays hv hw h1 h2, z_oJ_s]
          simp (disch := omega) only [jl_add, kl_0, lc_eq, jl_eq, kl_3]
          by_cases h5 : eW v k m + oW v k m = 0
          · rw [if_pos h5, if_pos h5]
          · rw [if_neg h5, if_neg h5, s_lowest hb.1.1 (by omega) (by omega) (by omega) hh, z_oJ_s]
      · rw [if_pos (ji_b_p h3), kl_2, if_neg (fun q => h3 q.2.2.2)]
    · rw [if_pos (ji_b_p h2), kl_2, if_neg (fun q => h2 q.2.2.1)]
  · rw [if_pos (ji_b_p h1), kl_2, if_neg (fun q => h1 q.2.1)]
theorem m_judge {e n : Nat} {im : Nat → Option Nat} {w u : Nat → Nat → Int} {k m h : Int} (hw : a_wf (w 46)) (hk : jR k) (hm : jR m) (hh : jR h) : (z_F (e + 20)).2.1 k_Model_judge [.ref 45, .int (Int32.ofInt k), .int (Int32.ofInt m), .int (Int32.ofInt h)] (n, z_q im, jM w, jL u) = some (Int64.ofInt (V_judge (w 46) k m h), jM w, jL u) := by
  obtain ⟨f0, f1, f2, f3, f4, f5, f6, f7, f8, f9, f10, f11, f12⟩ := id hw
  unfold V_judge
  refine q_Model_judge ?_
  have h37 : ((jM w, jL u) : zD).1 46 7 = Int32.ofInt (w 46 7) := rfl
  rw [h37]
  by_cases h4 : w 46 7 = 0
  · rw [if_pos (ji_eq0_p (by omega) h4), kl_2, if_neg (fun q => q.1 h4)]
  · rw [if_neg (ji_eq0_n (by omega) h4), jl_of hm, kl_1, kl_23, s_in (by omega) (by decide) (by decide), z_oI_s]
    by_cases h1 : 1 ≤ m ∧ m ≤ 4
    · rw [if_neg (ji_b_n h1), jl_of hk, kl_0, s_in (by omega) (by decide) (by omega), z_oI_s]
      by_cases h2 : 0 ≤ k ∧ k ≤ m
      · rw [if_neg (ji_b_n h2), jl_of hh, s_in (by omega) (by decide) (by decide), z_oI_s]
        by_cases h3 : 0 ≤ h ∧ h ≤ 1
        · have hb := W_b hw h1 h2
          rw [if_neg (ji_b_n h3), if_pos ⟨h4, h1, h2, h3⟩, s_tells1 hw h1 h2, z_oJ_s, s_tells0 hw h1 h2, z_oJ_s]
          simp (disch := omega) only [jl_add, lc_eq, jl_eq, kl_3]
          by_cases h5 : eW (w 46) k m + oW (w 46) k m = 0
          · rw [if_pos h5, if_pos h5]
          · rw [if_neg h5, if_neg h5, s_part0 hb.1.1 (by omega) (by omega) (by omega) hh, z_oJ_s]
        · rw [if_pos (ji_b_p h3), kl_2, if_neg (fun q => h3 q.2.2.2)]
      · rw [if_pos (ji_b_p h2), kl_2, if_neg (fun q => h2 q.2.2.1)]
    · rw [if_pos (ji_b_p h1), kl_2, if_neg (fun q => h1 q.2.1)]
def p_ned (v : Nat → Int) (m : Int) (k : Nat) : Int := if oW v k m < eW v k m then (k : Int) else -1
def V_needed (v : Nat → Int) (m : Int) : Int := if v 7 ≠ 0 ∧ (1 ≤ m ∧ m ≤ 4) then a_f1 (p_ned v m) 0 (m + 1).toNat else -2
theorem x_needed {e n : Nat} {im : Nat → Option Nat} {w u : Nat → Nat → Int} {v : Nat → Int} {m : Int} (hv : c_v w v) (hw : a_wf v) (hm : jR m) : (z_F (e + 20)).1 k_LongBoats_needed [.ref 0, .int (Int32.ofInt m)] (n, z_q im, jM w, jL u) = some (Int32.ofInt (V_needed v m), jM w, jL u) := by
  obtain ⟨g0, g1, g2, g3, g4, g5, g6, g7, g8, g9, h5, h7, h9⟩ := id hv
  obtain ⟨f0, f1, f2, f3, f4, f5, f6, f7, f8, f9, f10, f11, f12⟩ := id hw
  unfold V_needed
  have h37 : ((jM w, jL u) : zD).1 3 8 = Int32.ofInt (v 7) := by
    show Int32.ofInt (w 3 8) = _
    rw [g8]
  by_cases h1 : 1 ≤ m ∧ m ≤ 4
  · by_cases h4 : v 7 = 0
    · refine n_LongBoats_needed (z_ret ((e_LongBoats_needed_0 ..).trans ?_))
      rw [s_within hm (by decide) (by decide), z_oI_s, if_neg (ji_b_n h1), h37, if_pos (ji_eq0_p (by omega) h4), if_neg (fun q => q.1 h4)]
    · rw [if_pos ⟨h4, h1⟩]
      have key := z_fnd (o := z_F (e + 19)) (cd := cd_LongBoats_needed) (p := p_ned v m) (P := fun k s => s = (14, [some (.ref 0), some (.int (Int32.ofInt m)), some (.int (Int32.ofInt (k : Int)))], (n, z_q im, jM w, jL u))) (Q := fun x r => r = (some (.int (Int32.ofInt x)), (n, z_q im, jM w, jL u))) (m + 1).toNat 0 (14, [some (.ref 0), some (.int (Int32.ofInt m)), some (.int (Int32.ofInt 0))], (n, z_q im, jM w, jL u)) rfl (fun k s hk1 hk2 hs => by
        subst hs
        have hb := W_b hw (k := (k : Int)) h1 (by omega)
        have hx : z_ex none (z_F (e + 19)) cd_LongBoats_needed 4000 (cd_LongBoats_needed.drop 14) 14 [some (.ref 0), some (.int (Int32.ofInt m)), some (.int (Int32.ofInt (k : Int)))] [] (n, z_q im, jM w, jL u) = if oW v k m < eW v k m then some (.inl (some (.int (Int32.ofInt k)), (n, z_q im, jM w, jL u))) else some (.inr (14, [some (.ref 0), some (.int (Int32.ofInt m)), some (.int (Int32.ofInt ((k : Int) + 1)))], [], (n, z_q im, jM w, jL u))) := by
          refine (e_LongBoats_needed_14 ..).trans ?_
          rw [x_edgeWays hv hw h1 (by omega), z_oJ_s, x_otherWays hv hw h1 (by omega), z_oJ_s]
          simp (disch := omega) only [ji_lt, lc_le, jl_lt, ji_add]
          rw [if_neg (by omega)]
          by_cases hh : oW v k m < eW v k m
          · rw [if_neg (not_not_intro hh), if_pos hh]
          · rw [if_pos hh, if_neg hh]
        by_cases hh : oW v k m < eW v k m
        · have hp : p_ned v m k = k := if_pos hh
          rw [hp]
          exact ⟨fun q => by omega, fun _ => ⟨_, z_ret (hx.trans (if_pos hh)), rfl⟩⟩
        · have hp : p_ned v m k = -1 := if_neg hh
          exact ⟨fun _ => ⟨(14, [some (.ref 0), some (.int (Int32.ofInt m)), some (.int (Int32.ofInt ((k : Int) + 1)))], (n, z_q im, jM w, jL u)), z_To_1 (hx.trans (if_neg hh)), rfl⟩, fun q => absurd hp q⟩)
      have he : z_ex none (z_F (e + 19)) cd_LongBoats_needed 4000 (cd_LongBoats_needed.drop 0) 0 [some (.ref 0), some (.int (Int32.ofInt m)), none] [] (n, z_q im, jM w, jL u) = some (.inr (14, [some (.ref 0), some (.int (Int32.ofInt m)), some (.int (Int32.ofInt 0))], [], (n, z_q im, jM w, jL u))) := by
        refine (e_LongBoats_needed_0 ..).trans ?_
        rw [s_within hm (by decide) (by decide), z_oI_s, if_neg (ji_b_n h1), h37, if_neg (ji_eq0_n (by omega) h4)]
      rcases key with ⟨k1, t, k2, rfl⟩ | ⟨k1, r, k2, rfl⟩
      · refine n_LongBoats_needed (z_go he (k2 _ (z_ret ((e_LongBoats_needed_14 ..).trans ?_))))
        rw [k1]
        simp (disch := omega) only [ji_lt]
        rw [if_pos (by omega)]
      · exact n_LongBoats_needed (z_go he k2)
  · refine n_LongBoats_needed (z_ret ((e_LongBoats_needed_0 ..).trans ?_))
    rw [s_within hm (by decide) (by decide), z_oI_s, if_pos (ji_b_p h1), if_neg (fun q => h1 q.2)]
theorem m_needed {e n : Nat} {im : Nat → Option Nat} {w u : Nat → Nat → Int} {m : Int} (hw : a_wf (w 46)) (hm : jR m) : (z_F (e + 20)).1 k_Model_needed [.ref 45, .int (Int32.ofInt m)] (n, z_q im, jM w, jL u) = some (Int32.ofInt (V_needed (w 46) m), jM w, jL u) := by
  obtain ⟨f0, f1, f2, f3, f4, f5, f6, f7, f8, f9, f10, f11, f12⟩ := id hw
  unfold V_needed
  have h37 : ((jM w, jL u) : zD).1 46 7 = Int32.ofInt (w 46 7) := rfl
  by_cases h4 : w 46 7 = 0
  · refine n_Model_needed (z_ret ((e_Model_needed_0 ..).trans ?_))
    rw [h37, if_pos (ji_eq0_p (by omega) h4), if_neg (fun q => q.1 h4)]
  · by_cases h1 : 1 ≤ m ∧ m ≤ 4
    · rw [if_pos ⟨h4, h1⟩]
      have key := z_fnd (o := z_F (e + 19)) (cd := cd_Model_needed) (p := p_ned (w 46) m) (P := fun k s => s = (16, [some (.ref 45), some (.int (Int32.ofInt m)), some (.int (Int32.ofInt (k : Int)))], (n, z_q im, jM w, jL u))) (Q := fun x r => r = (some (.int (Int32.ofInt x)), (n, z_q im, jM w, jL u))) (m + 1).toNat 0 (16, [some (.ref 45), some (.int (Int32.ofInt m)), some (.int (Int32.ofInt 0))], (n, z_q im, jM w, jL u)) rfl (fun k s hk1 hk2 hs => by
        subst hs
        have hb := W_b hw (k := (k : Int)) h1 (by omega)
        have hx : z_ex none (z_F (e + 19)) cd_Model_needed 4000 (cd_Model_needed.drop 16) 16 [some (.ref 45), some (.int (Int32.ofInt m)), some (.int (Int32.ofInt (k : Int)))] [] (n, z_q im, jM w, jL u) = if oW (w 46) k m < eW (w 46) k m then some (.inl (some (.int (Int32.ofInt k)), (n, z_q im, jM w, jL u))) else some (.inr (16, [some (.ref 45), some (.int (Int32.ofInt m)), some (.int (Int32.ofInt ((k : Int) + 1)))], [], (n, z_q im, jM w, jL u))) := by
          refine (e_Model_needed_16 ..).trans ?_
          rw [s_tells1 hw h1 (by omega), z_oJ_s, s_tells0 hw h1 (by omega), z_oJ_s]
          simp (disch := omega) only [ji_lt, lc_le, jl_lt, ji_add]
          rw [if_neg (by omega)]
          by_cases hh : oW (w 46) k m < eW (w 46) k m
          · rw [if_neg (not_not_intro hh), if_pos hh]
          · rw [if_pos hh, if_neg hh]
        by_cases hh : oW (w 46) k m < eW (w 46) k m
        · have hp : p_ned (w 46) m k = k := if_pos hh
          rw [hp]
          exact ⟨fun q => by omega, fun _ => ⟨_, z_ret (hx.trans (if_pos hh)), rfl⟩⟩
        · have hp : p_ned (w 46) m k = -1 := if_neg hh
          exact ⟨fun _ => ⟨(16, [some (.ref 45), some (.int (Int32.ofInt m)), some (.int (Int32.ofInt ((k : Int) + 1)))], (n, z_q im, jM w, jL u)), z_To_1 (hx.trans (if_neg hh)), rfl⟩, fun q => absurd hp q⟩)
      have he : z_ex none (z_F (e + 19)) cd_Model_needed 4000 (cd_Model_needed.drop 0) 0 [some (.ref 45), some (.int (Int32.ofInt m)), none] [] (n, z_q im, jM w, jL u) = some (.inr (16, [some (.ref 45), some (.int (Int32.ofInt m)), some (.int (Int32.ofInt 0))], [], (n, z_q im, jM w, jL u))) := by
        refine (e_Model_needed_0 ..).trans ?_
        rw [h37, if_neg (ji_eq0_n (by omega) h4), jl_of hm, kl_1, kl_23, s_in (by omega) (by decide) (by decide), z_oI_s, if_neg (ji_b_n h1)]
      rcases key with ⟨k1, t, k2, rfl⟩ | ⟨k1, r, k2, rfl⟩
      · refine n_Model_needed (z_go he (k2 _ (z_ret ((e_Model_needed_16 ..).trans ?_))))
        rw [k1]
        simp (disch := omega) only [ji_lt]
        rw [if_pos (by omega)]
      · exact n_Model_needed (z_go he k2)
    · refine n_Model_needed (z_ret ((e_Model_needed_0 ..).trans ?_))
      rw [h37, if_neg (ji_eq0_n (by omega) h4), jl_of hm, kl_1, kl_23, s_in (by omega) (by decide) (by decide), z_oI_s, if_pos (ji_b_p h1), if_neg (fun q => h1 q.2)]
