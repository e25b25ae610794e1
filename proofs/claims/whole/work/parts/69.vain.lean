/-! rests, rest, vain -/
def c_rs (g : Nat → Nat → Int) (m : Nat) : Int := if G_rs g (m / 10) (m % 10) then 1 else 0
def V_rests (v : Nat → Int) (a b bo ot : Int) : Int := if a_so v a b bo ot then a_cnt (c_rs (G_g v a b bo ot)) 100 else -2
theorem ji_m10 {c : Int} (h0 : 0 ≤ c) (h9 : c ≤ 1000) : Int32.ofInt c - Int32.ofInt c / Int32.ofInt 10 * Int32.ofInt 10 = Int32.ofInt (c % 10) := by
  rw [ji_ediv h0 (by omega) (by decide) (by decide), ji_mul, ji_sub]
  congr 1
  omega
theorem x_rests {e n : Nat} {im : Nat → Option Nat} {w u : Nat → Nat → Int} {v : Nat → Int} {a b bo ot : Int} (hv : c_v w v) (hw : a_wf v) (ha : jR a) (hb : jR b) (hbo : jR bo) (hot : jR ot) : ∃ w', (z_F (e + 20)).1 k_LongBoats_rests [.ref 0, .int (Int32.ofInt a), .int (Int32.ofInt b), .int (Int32.ofInt bo), .int (Int32.ofInt ot)] (n, z_q im, jM w, jL u) = some (Int32.ofInt (V_rests v a b bo ot), jM w', jL u) ∧ c_fr w w' := by
  unfold V_rests
  by_cases hs : a_so v a b bo ot
  · rw [if_pos hs]
    obtain ⟨w1, w2, q1, q2, q3, q4, q5⟩ := x_grid (e := e + 13) (n := n) (im := im) (u := u) hv hw hs
    generalize G_g v a b bo ot = g at q4 q5 ⊢
    obtain ⟨t, ht, rfl⟩ := z_for (o := z_F (e + 19)) (cd := cd_LongBoats_rests) (P := fun m s => s = (19, [some (.ref 0), some (.int (Int32.ofInt a)), some (.int (Int32.ofInt b)), some (.int (Int32.ofInt bo)), some (.int (Int32.ofInt ot)), some (.int (Int32.ofInt (a_cnt (c_rs g) m))), some (.int (Int32.ofInt (m : Int)))], (n, z_q im, jM w2, jL u))) 100 (s := (19, [some (.ref 0), some (.int (Int32.ofInt a)), some (.int (Int32.ofInt b)), some (.int (Int32.ofInt bo)), some (.int (Int32.ofInt ot)), some (.int (Int32.ofInt 0)), some (.int (Int32.ofInt 0))], (n, z_q im, jM w2, jL u))) rfl (fun m s hm hs => by
      subst hs
      refine ⟨(19, [some (.ref 0), some (.int (Int32.ofInt a)), some (.int (Int32.ofInt b)), some (.int (Int32.ofInt bo)), some (.int (Int32.ofInt ot)), some (.int (Int32.ofInt (a_cnt (c_rs g) (m + 1)))), some (.int (Int32.ofInt ((m : Int) + 1)))], (n, z_q im, jM w2, jL u)), z_To_1 ((e_LongBoats_rests_19 ..).trans ?_), rfl⟩
      have h1 := s_rs_c (e := e + 15) (n := n) (im := im) (u := u) q4 q5 (show m / 10 < 10 by omega) (show m % 10 < 10 by omega)
      have hx : a_cnt (c_rs g) (m + 1) = a_cnt (c_rs g) m + (if G_rs g (m / 10) (m % 10) then 1 else 0) := rfl
      rw [if_neg (ji_le_n (by decide) (by omega) (by omega)), ji_m10 (by omega) (by omega), ji_ediv (by omega) (by omega) (by decide) (by decide), show (m : Int) / 10 = ((m / 10 : Nat) : Int) by omega, show (m : Int) % 10 = ((m % 10 : Nat) : Int) by omega, h1, z_oI_s, hx]
      simp only [ji_add]
      by_cases h : G_rs g (m / 10) (m % 10)
      · rw [if_neg (ji_b_n h), if_pos h]
      · rw [if_pos (ji_b_p h), if_neg h])
    refine ⟨w2, n_LongBoats_rests (z_go ((e_LongBoats_rests_0 ..).trans ?_) (ht _ (z_ret ((e_LongBoats_rests_19 ..).trans ?_)))), q3⟩
    · rw [q1, z_oI_s, if_neg jc_1, q2, z_oV_s]
    · rw [if_pos (ji_le_p (by decide) (by decide) (by decide))]
  · refine ⟨w, n_LongBoats_rests (z_ret ((e_LongBoats_rests_0 ..).trans ?_)), c_fr_rf w⟩
    rw [if_neg hs, x_faces_n hv hw ha hb hbo hot hs, z_oI_s, if_pos (show Int32.ofInt 0 = 0 from rfl)]
theorem m_rests {e n : Nat} {im : Nat → Option Nat} {w u : Nat → Nat → Int} {a b bo ot : Int} (hw : a_wf (w 46)) (ha : jR a) (hb : jR b) (hbo : jR bo) (hot : jR ot) : ∃ w', (z_F (e + 20)).1 k_Model_rests [.ref 45, .int (Int32.ofInt a), .int (Int32.ofInt b), .int (Int32.ofInt bo), .int (Int32.ofInt ot)] (n, z_q im, jM w, jL u) = some (Int32.ofInt (V_rests (w 46) a b bo ot), jM w', jL u) ∧ m_fr w w' := by
  obtain ⟨f0, f1, f2, f3, f4, f5, f6, f7, f8, f9, f10, f11, f12⟩ := id hw
  unfold V_rests
  by_cases hs : a_so (w 46) a b bo ot
  · rw [if_pos hs]
    obtain ⟨w2, k1, k2, k3, k4⟩ := m_grid (e := e + 10) (n := n) (im := im) (u := u) hw hs
    generalize G_g (w 46) a b bo ot = g at k3 k4 ⊢
    obtain ⟨t, ht, q, rfl⟩ := z_for (o := z_F (e + 19)) (cd := cd_Model_rests) (P := fun x s => ∃ q, s = (20, [some (.ref 45), some (.int (Int32.ofInt a)), some (.int (Int32.ofInt b)), some (.int (Int32.ofInt bo)), some (.int (Int32.ofInt ot)), some (.int (Int32.ofInt (a_cnt (c_rs g) (10 * x)))), some (.int (Int32.ofInt (x : Int))), q], (n, z_q im, jM w2, jL u))) 10 (s := (20, [some (.ref 45), some (.int (Int32.ofInt a)), some (.int (Int32.ofInt b)), some (.int (Int32.ofInt bo)), some (.int (Int32.ofInt ot)), some (.int (Int32.ofInt 0)), some (.int (Int32.ofInt 0)), none], (n, z_q im, jM w2, jL u))) ⟨none, rfl⟩ (fun x s hx hs => by
      obtain ⟨q, rfl⟩ := hs
      obtain ⟨t, ht, rfl⟩ := z_for (o := z_F (e + 19)) (cd := cd_Model_rests) (P := fun y s => s = (26, [some (.ref 45), some (.int (Int32.ofInt a)), some (.int (Int32.ofInt b)), some (.int (Int32.ofInt bo)), some (.int (Int32.ofInt ot)), some (.int (Int32.ofInt (a_cnt (c_rs g) (10 * x + y)))), some (.int (Int32.ofInt (x : Int))), some (.int (Int32.ofInt (y : Int)))], (n, z_q im, jM w2, jL u))) 10 (s := (26, [some (.ref 45), some (.int (Int32.ofInt a)), some (.int (Int32.ofInt b)), some (.int (Int32.ofInt bo)), some (.int (Int32.ofInt ot)), some (.int (Int32.ofInt (a_cnt (c_rs g) (10 * x)))), some (.int (Int32.ofInt (x : Int))), some (.int (Int32.ofInt 0))], (n, z_q im, jM w2, jL u))) rfl (fun y s hy hs => by
        subst hs
        refine ⟨(26, [some (.ref 45), some (.int (Int32.ofInt a)), some (.int (Int32.ofInt b)), some (.int (Int32.ofInt bo)), some (.int (Int32.ofInt ot)), some (.int (Int32.ofInt (a_cnt (c_rs g) (10 * x + (y + 1))))), some (.int (Int32.ofInt (x : Int))), some (.int (Int32.ofInt ((y : Int) + 1)))], (n, z_q im, jM w2, jL u)), z_To_1 ((e_Model_rests_26 ..).trans ?_), rfl⟩
        have hq : a_cnt (c_rs g) (10 * x + (y + 1)) = a_cnt (c_rs g) (10 * x + y) + (if G_rs g ((10 * x + y) / 10) ((10 * x + y) % 10) then 1 else 0) := rfl
        rw [show (10 * x + y) / 10 = x by omega, show (10 * x + y) % 10 = y by omega] at hq
        rw [if_neg (ji_le_n (by decide) (by omega) (by omega)), s_rs_m k3 k4 hx hy, z_oI_s, hq]
        simp only [ji_add]
        by_cases h : G_rs g x y
        · rw [if_neg (ji_b_n h), if_pos h]
        · rw [if_pos (ji_b_p h), if_neg h])
      refine ⟨(20, [some (.ref 45), some (.int (Int32.ofInt a)), some (.int (Int32.ofInt b)), some (.int (Int32.ofInt bo)), some (.int (Int32.ofInt ot)), some (.int (Int32.ofInt (a_cnt (c_rs g) (10 * (x + 1))))), some (.int (Int32.ofInt ((x : Int) + 1))), some (.int (Int32.ofInt ((10 : Nat) : Int)))], (n, z_q im, jM w2, jL u)), z_To_tr (z_To_1 ((e_Model_rests_20 ..).trans ?_)) (z_To_tr ht (z_To_1 ((e_Model_rests_26 ..).trans ?_))), _, rfl⟩
      · rw [if_neg (ji_le_n (by decide) (by omega) (by omega))]
      · rw [if_pos (ji_le_p (by decide) (by decide) (by decide)), ji_add, show 10 * (x + 1) = 10 * x + 10 by omega])
    refine ⟨w2, n_Model_rests (z_go ((e_Model_rests_0 ..).trans ?_) (ht _ (z_ret ((e_Model_rests_20 ..).trans ?_)))), k2⟩
    · rw [s_areSo ha hb hbo hot f7 f6, z_oI_s, if_neg (ji_b_n hs), k1, z_oV_s]
    · rw [if_pos (ji_le_p (by decide) (by decide) (by decide))]
  · refine ⟨w, n_Model_rests (z_ret ((e_Model_rests_0 ..).trans ?_)), m_fr_rf w⟩
    rw [if_neg hs, s_areSo ha hb hbo hot f7 f6, z_oI_s, if_pos (ji_b_p hs)]
theorem a_f1_s (p : Nat → Int) (m x : Nat) : a_f1 p x (m + 1) = if p x = -1 then a_f1 p (x + 1) m else p x := rfl
theorem a_f1_sp (p : Nat → Int) : ∀ (m n x : Nat), a_f1 p x (m + n) = if a_f1 p x m = -1 then a_f1 p (x + m) n else a_f1 p x m
  | 0, n, x => by rw [Nat.zero_add]; exact (if_pos rfl).symm
  | m + 1, n, x => by
    rw [show m + 1 + n = (m + n) + 1 by omega, a_f1_s p (m + n) x, a_f1_s p m x]
    by_cases h : p x = -1
    · rw [if_pos h, if_pos h, a_f1_sp p m n (x + 1), show x + 1 + m = x + (m + 1) by omega]
    · rw [if_neg h, if_neg h, if_neg h]
theorem a_f1_sh (p : Nat → Int) (c : Nat) : ∀ (m x : Nat), a_f1 (fun y => p (c + y)) x m = a_f1 p (c + x) m
  | 0, _ => rfl
  | m + 1, x => by
    simp only [a_f1]
    rw [a_f1_sh p c m (x + 1), show c + (x + 1) = c + x + 1 by omega]
theorem a_f1_10 (p : Nat → Int) : ∀ (m x : Nat), a_f1 (fun z => a_f1 p (10 * z) 10) x m = a_f1 p (10 * x) (10 * m)
  | 0, _ => rfl
  | m + 1, x => by
    show (if a_f1 p (10 * x) 10 = -1 then a_f1 (fun z => a_f1 p (10 * z) 10) (x + 1) m else a_f1 p (10 * x) 10) = _
    rw [show 10 * (m + 1) = 10 + 10 * m by omega, a_f1_sp p 10 (10 * m) (10 * x), a_f1_10 p m (x + 1), show 10 * (x + 1) = 10 * x + 10 by omega]
def p_re (g : Nat → Nat → Int) (h : Int) (m : Nat) : Int := if G_rs g (m / 10) (m % 10) then (if h = 0 then ((m / 10 : Nat) : Int) else ((m % 10 : Nat) : Int)) else -1
def V_rest (v : Nat → Int) (a b bo ot h : Int) : Int := if a_so v a b bo ot ∧ (0 ≤ h ∧ h ≤ 1) then a_f1 (p_re (G_g v a b bo ot) h) 0 100 else -2
theorem x_rest {e n : Nat} {im : Nat → Option Nat} {w u : Nat → Nat → Int} {v : Nat → Int} {a b bo ot h : Int} (hv : c_v w v) (hw : a_wf v) (ha : jR a) (hb : jR b) (hbo : jR bo) (hot : jR ot) (hh : jR h) : ∃ w', (z_F (e + 20)).1 k_LongBoats_rest [.ref 0, .int (Int32.ofInt a), .int (Int32.ofInt b), .int (Int32.ofInt bo), .int (Int32.ofInt ot), .int (Int32.ofInt h)] (n, z_q im, jM w, jL u) = some (Int32.ofInt (V_rest v a b bo ot h), jM w', jL u) ∧ c_fr w w' := by
  unfold V_rest
  by_cases hh1 : 0 ≤ h ∧ h ≤ 1
  · by_cases hs : a_so v a b bo ot
    · rw [if_pos ⟨hs, hh1⟩]
      obtain ⟨w1, w2, q1, q2, q3, q4, q5⟩ := x_grid (e := e + 13) (n := n) (im := im) (u := u) hv hw hs
      generalize G_g v a b bo ot = g at q4 q5 ⊢
      have key := z_fnd (o := z_F (e + 19)) (cd := cd_LongBoats_rest) (p := p_re g h) (P := fun m s => s = (22, [some (.ref 0), some (.int (Int32.ofInt a)), some (.int (Int32.ofInt b)), some (.int (Int32.ofInt bo)), some (.int (Int32.ofInt ot)), some (.int (Int32.ofInt h)), some (.int (Int32.ofInt (m : Int)))], (n, z_q im, jM w2, jL u))) (Q := fun x r => r = (some (.int (Int32.ofInt x)), (n, z_q im, jM w2, jL u))) 100 0 (22, [some (.ref 0), some (.int (Int32.ofInt a)), some (.int (Int32.ofInt b)), some (.int (Int32.ofInt bo)), some (.int (Int32.ofInt ot)), some (.int (Int32.ofInt h)), some (.int (Int32.ofInt 0))], (n, z_q im, jM w2, jL u)) rfl (fun m s hm1 hm hs => by
        subst hs
        have h1 := s_rs_c (e := e + 15) (n := n) (im := im) (u := u) q4 q5 (show m / 10 < 10 by omega) (show m % 10 < 10 by omega)
        have hx : z_ex none (z_F (e + 19)) cd_LongBoats_rest 4000 (cd_LongBoats_rest.drop 22) 22 [some (.ref 0), some (.int (Int32.ofInt a)), some (.int (Int32.ofInt b)), some (.int (Int32.ofInt bo)), some (.int (Int32.ofInt ot)), some (.int (Int32.ofInt h)), some (.int (Int32.ofInt (m : Int)))] [] (n, z_q im, jM w2, jL u) = if G_rs g (m / 10) (m % 10) then (some (.inl (some (.int (Int32.ofInt (if h = 0 then ((m / 10 : Nat) : Int) else ((m % 10 : Nat) : Int)))), (n, z_q im, jM w2, jL u)))) else some (.inr (22, [some (.ref 0), some (.int (Int32.ofInt a)), some (.int (Int32.ofInt b)), some (.int (Int32.ofInt bo)), some (.int (Int32.ofInt ot)), some (.int (Int32.ofInt h)), some (.int (Int32.ofInt ((m : Int) + 1)))], [], (n, z_q im, jM w2, jL u))) := by
          refine (e_LongBoats_rest_22 ..).trans ?_
          rw [if_neg (ji_le_n (by decide) (by omega) (by omega)), ji_m10 (by omega) (by omega), ji_ediv (by omega) (by omega) (by decide) (by decide), show (m : Int) / 10 = ((m / 10 : Nat) : Int) by omega, show (m : Int) % 10 = ((m % 10 : Nat) : Int) by omega, h1, z_oI_s, ji_add]
          by_cases j : G_rs g (m / 10) (m % 10)
          · rw [if_neg (ji_b_n j), if_pos j]
            by_cases j0 : h = 0
            · rw [if_pos (ji_eq0_p hh j0), if_pos j0]
            · rw [if_neg (ji_eq0_n hh j0), if_neg j0]
          · rw [if_pos (ji_b_p j), if_neg j]
        by_cases j : G_rs g (m / 10) (m % 10)
        · have hp : p_re g h m = if h = 0 then ((m / 10 : Nat) : Int) else ((m % 10 : Nat) : Int) := if_pos j
          rw [hp]
          exact ⟨fun q => by split at q <;> omega, fun _ => ⟨_, z_ret (hx.trans (if_pos j)), rfl⟩⟩
        · have hp : p_re g h m = -1 := if_neg j
          exact ⟨fun _ => ⟨(22, [some (.ref 0), some (.int (Int32.ofInt a)), some (.int (Int32.ofInt b)), some (.int (Int32.ofInt bo)), some (.int (Int32.ofInt ot)), some (.int (Int32.ofInt h)), some (.int (Int32.ofInt ((m : Int) + 1)))], (n, z_q im, jM w2, jL u)), z_To_1 (hx.trans (if_neg j)), rfl⟩, fun q => absurd hp q⟩)
      have he : z_ex none (z_F (e + 19)) cd_LongBoats_rest 4000 (cd_LongBoats_rest.drop 0) 0 [some (.ref 0), some (.int (Int32.ofInt a)), some (.int (Int32.ofInt b)), some (.int (Int32.ofInt bo)), some (.int (Int32.ofInt ot)), some (.int (Int32.ofInt h)), none] [] (n, z_q im, jM w, jL u) = some (.inr (22, [some (.ref 0), some (.int (Int32.ofInt a)), some (.int (Int32.ofInt b)), some (.int (Int32.ofInt bo)), some (.int (Int32.ofInt ot)), some (.int (Int32.ofInt h)), some (.int (Int32.ofInt 0))], [], (n, z_q im, jM w2, jL u))) := by
        refine (e_LongBoats_rest_0 ..).trans ?_
        rw [s_within hh (by decide) (by decide), z_oI_s, if_neg (ji_b_n hh1), q1, z_oI_s, if_neg jc_1, q2, z_oV_s]
      refine ⟨w2, n_LongBoats_rest (z_go he ?_), q3⟩
      rcases key with ⟨k1, t, k2, rfl⟩ | ⟨k1, r, k2, rfl⟩
      · refine k2 _ (z_ret ((e_LongBoats_rest_22 ..).trans ?_))
        rw [k1, if_pos (ji_le_p (by decide) (by decide) (by decide))]
      · exact k2
    · refine ⟨w, n_LongBoats_rest (z_ret ((e_LongBoats_rest_0 ..).trans ?_)), c_fr_rf w⟩
      rw [if_neg (fun q => hs q.1), s_within hh (by decide) (by decide), z_oI_s, if_neg (ji_b_n hh1), x_faces_n hv hw ha hb hbo hot hs, z_oI_s, if_pos (show Int32.ofInt 0 = 0 from rfl)]
  · refine ⟨w, n_LongBoats_rest (z_ret ((e_LongBoats_rest_0 ..).trans ?_)), c_fr_rf w⟩
    rw [if_neg (fun q => hh1 q.2), s_within hh (by decide) (by decide), z_oI_s, if_pos (ji_b_p hh1)]
theorem m_rest {e n : Nat} {im : Nat → Option Nat} {w u : Nat → Nat → Int} {a b bo ot h : Int} (hw : a_wf (w 46)) (ha : jR a) (hb : jR b) (hbo : jR bo) (hot : jR ot) (hh : jR h) : ∃ w', (z_F (e + 20)).1 k_Model_rest [.ref 45, .int (Int32.ofInt a), .int (Int32.ofInt b), .int (Int32.ofInt bo), .int (Int32.ofInt ot), .int (Int32.ofInt h)] (n, z_q im, jM w, jL u) = some (Int32.ofInt (V_rest (w 46) a b bo ot h), jM w', jL u) ∧ m_fr w w' := by
  obtain ⟨f0, f1, f2, f3, f4, f5, f6, f7, f8, f9, f10, f11, f12⟩ := id hw
  unfold V_rest
  by_cases hs : a_so (w 46) a b bo ot
  · by_cases hh1 : 0 ≤ h ∧ h ≤ 1
    · rw [if_pos ⟨hs, hh1⟩]
      obtain ⟨w2, k1, k2, k3, k4⟩ := m_grid (e := e + 10) (n := n) (im := im) (u := u) hw hs
      generalize G_g (w 46) a b bo ot = g at k3 k4 ⊢
      have key := z_fnd (o := z_F (e + 19)) (cd := cd_Model_rest) (p := fun z => a_f1 (p_re g h) (10 * z) 10) (P := fun x s => ∃ q, s = (24, [some (.ref 45), some (.int (Int32.ofInt a)), some (.int (Int32.ofInt b)), some (.int (Int32.ofInt bo)), some (.int (Int32.ofInt ot)), some (.int (Int32.ofInt h)), some (.int (Int32.ofInt (x : Int))), q], (n, z_q im, jM w2, jL u))) (Q := fun x r => r = (some (.int (Int32.ofInt x)), (n, z_q im, jM w2, jL u))) 10 0 (24, [some (.ref 45), some (.int (Int32.ofInt a)), some (.int (Int32.ofInt b)), some (.int (Int32.ofInt bo)), some (.int (Int32.ofInt ot)), some (.int (Int32.ofInt h)), some (.int (Int32.ofInt 0)), none], (n, z_q im, jM w2, jL u)) ⟨none, rfl⟩ (fun x s hx1 hx hs => by
        obtain ⟨q, rfl⟩ := hs
        have key := z_fnd (o := z_F (e + 19)) (cd := cd_Model_rest) (p := fun y => p_re g h (10 * x + y)) (P := fun y s => s = (30, [some (.ref 45), some (.int (Int32.ofInt a)), some (.int (Int32.ofInt b)), some (.int (Int32.ofInt bo)), some (.int (Int32.ofInt ot)), some (.int (Int32.ofInt h)), some (.int (Int32.ofInt (x : Int))), some (.int (Int32.ofInt (y : Int)))], (n, z_q im, jM w2, jL u))) (Q := fun x r => r = (some (.int (Int32.ofInt x)), (n, z_q im, jM w2, jL u))) 10 0 (30, [some (.ref 45), some (.int (Int32.ofInt a)), some (.int (Int32.ofInt b)), some (.int (Int32.ofInt bo)), some (.int (Int32.ofInt ot)), some (.int (Int32.ofInt h)), some (.int (Int32.ofInt (x : Int))), some (.int (Int32.ofInt 0))], (n, z_q im, jM w2, jL u)) rfl (fun y s hy1 hy hs => by
          subst hs
          have hpe : p_re g h (10 * x + y) = if G_rs g x y then (if h = 0 then (x : Int) else (y : Int)) else -1 := by
            unfold p_re
            rw [show (10 * x + y) / 10 = x by omega, show (10 * x + y) % 10 = y by omega]
          have hx9 : z_ex none (z_F (e + 19)) cd_Model_rest 4000 (cd_Model_rest.drop 30) 30 [some (.ref 45), some (.int (Int32.ofInt a)), some (.int (Int32.ofInt b)), some (.int (Int32.ofInt bo)), some (.int (Int32.ofInt ot)), some (.int (Int32.ofInt h)), some (.int (Int32.ofInt (x : Int))), some (.int (Int32.ofInt (y : Int)))] [] (n, z_q im, jM w2, jL u) = if G_rs g x y then (some (.inl (some (.int (Int32.ofInt (if h = 0 then (x : Int) else (y : Int)))), (n, z_q im, jM w2, jL u)))) else some (.inr (30, [some (.ref 45), some (.int (Int32.ofInt a)), some (.int (Int32.ofInt b)), some (.int (Int32.ofInt bo)), some (.int (Int32.ofInt ot)), some (.int (Int32.ofInt h)), some (.int (Int32.ofInt (x : Int))), some (.int (Int32.ofInt ((y : Int) + 1)))], [], (n, z_q im, jM w2, jL u))) := by
            refine (e_Model_rest_30 ..).trans ?_
            rw [if_neg (ji_le_n (by decide) (by omega) (by omega)), s_rs_m k3 k4 (by omega) (by omega), z_oI_s, ji_add]
            by_cases j : G_rs g x y
            · rw [if_neg (ji_b_n j), if_pos j]
              by_cases j0 : h = 0
              · rw [if_pos (ji_eq0_p hh j0), if_pos j0]
              · rw [if_neg (ji_eq0_n hh j0), if_neg j0]
            · rw [if_pos (ji_b_p j), if_neg j]
          show (p_re g h (10 * x + y) = -1 → _) ∧ (p_re g h (10 * x + y) ≠ -1 → ∃ r, _ ∧ r = (some (Value.int (Int32.ofInt (p_re g h (10 * x + y)))), _))
          rw [hpe]
          by_cases j : G_rs g x y
          · rw [if_pos j]
            exact ⟨fun q => by split at q <;> omega, fun _ => ⟨_, z_ret (hx9.trans (if_pos j)), rfl⟩⟩
          · rw [if_neg j]
            exact ⟨fun _ => ⟨(30, [some (.ref 45), some (.int (Int32.ofInt a)), some (.int (Int32.ofInt b)), some (.int (Int32.ofInt bo)), some (.int (Int32.ofInt ot)), some (.int (Int32.ofInt h)), some (.int (Int32.ofInt (x : Int))), some (.int (Int32.ofInt ((y : Int) + 1)))], (n, z_q im, jM w2, jL u)), z_To_1 (hx9.trans (if_neg j)), rfl⟩, fun q => absurd rfl q⟩)
        rw [a_f1_sh (p_re g h) (10 * x) 10 0, Nat.add_zero] at key
        have h1 : z_To (z_F (e + 19)) cd_Model_rest (24, [some (.ref 45), some (.int (Int32.ofInt a)), some (.int (Int32.ofInt b)), some (.int (Int32.ofInt bo)), some (.int (Int32.ofInt ot)), some (.int (Int32.ofInt h)), some (.int (Int32.ofInt (x : Int))), q], (n, z_q im, jM w2, jL u)) (30, [some (.ref 45), some (.int (Int32.ofInt a)), some (.int (Int32.ofInt b)), some (.int (Int32.ofInt bo)), some (.int (Int32.ofInt ot)), some (.int (Int32.ofInt h)), some (.int (Int32.ofInt (x : Int))), some (.int (Int32.ofInt 0))], (n, z_q im, jM w2, jL u)) := z_To_1 ((e_Model_rest_24 ..).trans (by rw [if_neg (ji_le_n (by decide) (by omega) (by omega))]))
        rcases key with ⟨j1, t, j2, rfl⟩ | ⟨j1, r, j2, rfl⟩
        · refine ⟨fun _ => ⟨(24, [some (.ref 45), some (.int (Int32.ofInt a)), some (.int (Int32.ofInt b)), some (.int (Int32.ofInt bo)), some (.int (Int32.ofInt ot)), some (.int (Int32.ofInt h)), some (.int (Int32.ofInt ((x : Int) + 1))), some (.int (Int32.ofInt ((0 + 10 : Nat) : Int)))], (n, z_q im, jM w2, jL u)), z_To_tr h1 (z_To_tr j2 (z_To_1 ((e_Model_rest_30 ..).trans ?_))), _, rfl⟩, fun q => absurd j1 q⟩
          rw [if_pos (ji_le_p (by decide) (by decide) (by decide)), ji_add]
        · exact ⟨fun q => absurd q j1, fun _ => ⟨_, h1 _ j2, rfl⟩⟩)
      rw [a_f1_10 (p_re g h) 10 0] at key
      have he : z_ex none (z_F (e + 19)) cd_Model_rest 4000 (cd_Model_rest.drop 0) 0 [some (.ref 45), some (.int (Int32.ofInt a)), some (.int (Int32.ofInt b)), some (.int (Int32.ofInt bo)), some (.int (Int32.ofInt ot)), some (.int (Int32.ofInt h)), none, none] [] (n, z_q im, jM w, jL u) = some (.inr (24, [some (.ref 45), some (.int (Int32.ofInt a)), some (.int (Int32.ofInt b)), some (.int (Int32.ofInt bo)), some (.int (Int32.ofInt ot)), some (.int (Int32.ofInt h)), some (.int (Int32.ofInt 0)), none], [], (n, z_q im, jM w2, jL u))) := by
        refine (e_Model_rest_0 ..).trans ?_
        rw [s_areSo ha hb hbo hot f7 f6, z_oI_s, if_neg (ji_b_n hs), jl_of hh, kl_0, kl_1, s_in (by omega) (by decide) (by decide), z_oI_s, if_neg (ji_b_n hh1), k1, z_oV_s]
      refine ⟨w2, n_Model_rest (z_go he ?_), k2⟩
      rcases key with ⟨j1, t, j2, q, rfl⟩ | ⟨j1, r, j2, rfl⟩
      · refine j2 _ (z_ret ((e_Model_rest_24 ..).trans ?_))
        rw [show a_f1 (p_re g h) 0 100 = -1 from j1, if_pos (ji_le_p (by decide) (by decide) (by decide))]
      · exact j2
    · refine ⟨w, n_Model_rest (z_ret ((e_Model_rest_0 ..).trans ?_)), m_fr_rf w⟩
      rw [if_neg (fun q => hh1 q.2), s_areSo ha hb hbo hot f7 f6, z_oI_s, if_neg (ji_b_n hs), jl_of hh, kl_0, kl_1, s_in (by omega) (by decide) (by decide), z_oI_s, if_pos (ji_b_p hh1)]
  · refine ⟨w, n_Model_rest (z_ret ((e_Model_rest_0 ..).trans ?_)), m_fr_rf w⟩
    rw [if_neg (fun q => hs q.1), s_areSo ha hb hbo hot f7 f6, z_oI_s, if_pos (ji_b_p hs)]
abbrev G_bt (g : Nat → Nat → Int) (x o : Nat) : Prop := G_nb g x o 10 ∧ G_wo g x o 10
def G_vn (g : Nat → Nat → Int) (x k : Nat) : Prop := ∃ o, o < k ∧ G_bt g x o
theorem s_vn {e n : Nat} {im : Nat → Option Nat} {w u : Nat → Nat → Int} {g : Nat → Nat → Int} (hg : ∀ m, m < 100 → w 44 m = g (m / 10) (m % 10)) (hb : g_b g) {x : Nat} (hx : x < 10) : (G_vn g x 10 → (z_F (e + 5)).1 k_Grid_isVain [.ref 42, .int (Int32.ofInt (x : Int))] (n, z_q im, jM w, jL u) = some (Int32.ofInt 1, jM w, jL u)) ∧ (¬ G_vn g x 10 → (z_F (e + 5)).1 k_Grid_isVain [.ref 42, .int (Int32.ofInt (x : Int))] (n, z_q im, jM w, jL u) = some (Int32.ofInt 0, jM w, jL u)) := by
  have key := z_forx (o := z_F (e + 4)) (cd := cd_Grid_isVain) (P := fun k s => ¬ G_vn g x k ∧ s = (3, [some (.ref 42), some (.int (Int32.ofInt (x : Int))), some (.int (Int32.ofInt (k : Int)))], (n, z_q im, jM w, jL u))) (Q := fun r => (G_vn g x 10 ∧ r = (some (.int (Int32.ofInt 1)), (n, z_q im, jM w, jL u))) ∨ (¬ G_vn g x 10 ∧ r = (some (.int (Int32.ofInt 0)), (n, z_q im, jM w, jL u)))) 10 (s := (3, [some (.ref 42), some (.int (Int32.ofInt (x : Int))), some (.int (Int32.ofInt 0))], (n, z_q im, jM w, jL u))) ⟨fun q => by obtain ⟨o, ho, -⟩ := q; omega, rfl⟩ (fun k s hk hP => by
    obtain ⟨hv, rfl⟩ := hP
    have hbt := s_bt_c (e := e) (n := n) (im := im) (u := u) hg hb hx hk
    by_cases hbb : G_bt g x k
    · refine Or.inr ⟨(some (.int (Int32.ofInt 1)), (n, z_q im, jM w, jL u)), z_ret ((e_Grid_isVain_3 ..).trans ?_), Or.inl ⟨⟨k, hk, hbb⟩, rfl⟩⟩
      rw [if_neg (ji_le_n (by decide) (by omega) (by omega)), hbt.1 hbb, z_oI_s, if_neg jc_1]
    · refine Or.inl ⟨(3, [some (.ref 42), some (.int (Int32.ofInt (x : Int))), some (.int (Int32.ofInt ((k : Int) + 1)))], (n, z_q im, jM w, jL u)), z_To_1 ((e_Grid_isVain_3 ..).trans ?_), fun q => ?_, rfl⟩
      · rw [if_neg (ji_le_n (by decide) (by omega) (by omega)), hbt.2 hbb, z_oI_s, if_pos (show Int32.ofInt 0 = 0 from rfl), ji_add]
      · obtain ⟨o, ho1, ho2⟩ := q
        by_cases hok : o = k
        · subst hok; exact hbb ho2
        · exact hv ⟨o, by omega, ho2⟩) (fun s hP => by
    obtain ⟨hv, rfl⟩ := hP
    refine ⟨(some (.int (Int32.ofInt 0)), (n, z_q im, jM w, jL u)), z_ret ((e_Grid_isVain_3 ..).trans ?_), Or.inr ⟨hv, rfl⟩⟩
    rw [if_pos (ji_le_p (by decide) (by decide) (by decide))])
  obtain ⟨r, k1, k2⟩ := key
  have hgo := z_go (e_Grid_isVain_0 (z_F (e + 4)) n im (jM w, jL u) (Int32.ofInt (x : Int))) k1
  constructor
  · intro h
    rcases k2 with ⟨-, rfl⟩ | ⟨h2, -⟩
    · exact n_Grid_isVain hgo
    · exact absurd h h2
  · intro h
    rcases k2 with ⟨h1, -⟩ | ⟨-, rfl⟩
    · exact absurd h1 h
    · exact n_Grid_isVain hgo
def b_mk (x : Nat) : Int32 := Int32.ofInt 1 <<< (Int32.ofInt (x : Int) &&& 31)
noncomputable def B_v (g : Nat → Nat → Int) : Nat → Int32
  | 0 => Int32.ofInt 0
  | x + 1 => @ite _ (G_vn g x 10) (Classical.propDecidable _) (B_v g x ||| b_mk x) (B_v g x)
noncomputable def V_vain (v : Nat → Int) (a b bo ot : Int) : Int := if a_so v a b bo ot then (B_v (G_g v a b bo ot) 10).toInt else -2
theorem x_vain {e n : Nat} {im : Nat → Option Nat} {w u : Nat → Nat → Int} {v : Nat → Int} {a b bo ot : Int} (hv : c_v w v) (hw : a_wf v) (ha : jR a) (hb : jR b) (hbo : jR bo) (hot : jR ot) : ∃ w', (z_F (e + 20)).1 k_LongBoats_vain [.ref 0, .int (Int32.ofInt a), .int (Int32.ofInt b), .int (Int32.ofInt bo), .int (Int32.ofInt ot)] (n, z_q im, jM w, jL u) = some (Int32.ofInt (V_vain v a b bo ot), jM w', jL u) ∧ c_fr w w' := by
  unfold V_vain
  by_cases hs : a_so v a b bo ot
  · rw [if_pos hs, Int32.ofInt_toInt]
    obtain ⟨w1, w2, q1, q2, q3, q4, q5⟩ := x_grid (e := e + 13) (n := n) (im := im) (u := u) hv hw hs
    generalize G_g v a b bo ot = g at q4 q5 ⊢
    obtain ⟨t, ht, rfl⟩ := z_for (o := z_F (e + 19)) (cd := cd_LongBoats_vain) (P := fun x s => s = (19, [some (.ref 0), some (.int (Int32.ofInt a)), some (.int (Int32.ofInt b)), some (.int (Int32.ofInt bo)), some (.int (Int32.ofInt ot)), some (.int (B_v g x)), some (.int (Int32.ofInt (x : Int)))], (n, z_q im, jM w2, jL u))) 10 (s := (19, [some (.ref 0), some (.int (Int32.ofInt a)), some (.int (Int32.ofInt b)), some (.int (Int32.ofInt bo)), some (.int (Int32.ofInt ot)), some (.int (Int32.ofInt 0)), some (.int (Int32.ofInt 0))], (n, z_q im, jM w2, jL u))) rfl (fun x s hx hs => by
      subst hs
      refine ⟨(19, [some (.ref 0), some (.int (Int32.ofInt a)), some (.int (Int32.ofInt b)), some (.int (Int32.ofInt bo)), some (.int (Int32.ofInt ot)), some (.int (B_v g (x + 1))), some (.int (Int32.ofInt ((x : Int) + 1)))], (n, z_q im, jM w2, jL u)), z_To_1 ((e_LongBoats_vain_19 ..).trans ?_), rfl⟩
      have h1 := s_vn (e := e + 14) (n := n) (im := im) (u := u) q4 q5 hx
      rw [if_neg (ji_le_n (by decide) (by omega) (by omega))]
      simp only [B_v]
      by_cases h : G_vn g x 10
      · rw [h1.1 h, z_oI_s, if_neg jc_1, if_pos h, ji_add]
        rfl
      · rw [h1.2 h, z_oI_s, if_pos (show Int32.ofInt 0 = 0 from rfl), if_neg h, ji_add, show Int32.ofInt 0 = (0 : Int32) from rfl, Int32.or_zero])
    refine ⟨w2, n_LongBoats_vain (z_go ((e_LongBoats_vain_0 ..).trans ?_) (ht _ (z_ret ((e_LongBoats_vain_19 ..).trans ?_)))), q3⟩
    · rw [q1, z_oI_s, if_neg jc_1, q2, z_oV_s]
    · rw [if_pos (ji_le_p (by decide) (by decide) (by decide))]
  · refine ⟨w, n_LongBoats_vain (z_ret ((e_LongBoats_vain_0 ..).trans ?_)), c_fr_rf w⟩
    rw [if_neg hs, x_faces_n hv hw ha hb hbo hot hs, z_oI_s, if_pos (show Int32.ofInt 0 = 0 from rfl)]
theorem m_vain {e n : Nat} {im : Nat → Option Nat} {w u : Nat → Nat → Int} {a b bo ot : Int} (hw : a_wf (w 46)) (ha : jR a) (hb : jR b) (hbo : jR bo) (hot : jR ot) : ∃ w', (z_F (e + 20)).1 k_Model_vain [.ref 45, .int (Int32.ofInt a), .int (Int32.ofInt b), .int (Int32.ofInt bo), .int (Int32.ofInt ot)] (n, z_q im, jM w, jL u) = some (Int32.ofInt (V_vain (w 46) a b bo ot), jM w', jL u) ∧ m_fr w w' := by
  obtain ⟨f0, f1, f2, f3, f4, f5, f6, f7, f8, f9, f10, f11, f12⟩ := id hw
  unfold V_vain
  by_cases hs : a_so (w 46) a b bo ot
  · rw [if_pos hs, Int32.ofInt_toInt]
    obtain ⟨w2, k1, k2, k3, k4⟩ := m_grid (e := e + 10) (n := n) (im := im) (u := u) hw hs
    generalize G_g (w 46) a b bo ot = g at k3 k4 ⊢
    obtain ⟨t, ht, q, rfl⟩ := z_for (o := z_F (e + 19)) (cd := cd_Model_vain) (P := fun x s => ∃ q, s = (20, [some (.ref 45), some (.int (Int32.ofInt a)), some (.int (Int32.ofInt b)), some (.int (Int32.ofInt bo)), some (.int (Int32.ofInt ot)), some (.int (B_v g x)), some (.int (Int32.ofInt (x : Int))), q], (n, z_q im, jM w2, jL u))) 10 (s := (20, [some (.ref 45), some (.int (Int32.ofInt a)), some (.int (Int32.ofInt b)), some (.int (Int32.ofInt bo)), some (.int (Int32.ofInt ot)), some (.int (Int32.ofInt 0)), some (.int (Int32.ofInt 0)), none], (n, z_q im, jM w2, jL u))) ⟨none, rfl⟩ (fun x s hx hs => by
      obtain ⟨q, rfl⟩ := hs
      obtain ⟨t, ht, B, rfl, hB⟩ := z_for (o := z_F (e + 19)) (cd := cd_Model_vain) (P := fun k s => ∃ B, s = (26, [some (.ref 45), some (.int (Int32.ofInt a)), some (.int (Int32.ofInt b)), some (.int (Int32.ofInt bo)), some (.int (Int32.ofInt ot)), some (.int B), some (.int (Int32.ofInt (x : Int))), some (.int (Int32.ofInt (k : Int)))], (n, z_q im, jM w2, jL u)) ∧ ((G_vn g x k ∧ B = B_v g x ||| b_mk x) ∨ (¬ G_vn g x k ∧ B = B_v g x))) 10 (s := (26, [some (.ref 45), some (.int (Int32.ofInt a)), some (.int (Int32.ofInt b)), some (.int (Int32.ofInt bo)), some (.int (Int32.ofInt ot)), some (.int (B_v g x)), some (.int (Int32.ofInt (x : Int))), some (.int (Int32.ofInt 0))], (n, z_q im, jM w2, jL u))) ⟨_, rfl, Or.inr ⟨fun q => by obtain ⟨o, ho, -⟩ := q; omega, rfl⟩⟩ (fun k s hk hs => by
        obtain ⟨B, rfl, hB⟩ := hs
        have hbt := s_bt_m (e := e + 15) (n := n) (im := im) (u := u) k3 k4 hx hk
        by_cases hbb : G_bt g x k
        · refine ⟨(26, [some (.ref 45), some (.int (Int32.ofInt a)), some (.int (Int32.ofInt b)), some (.int (Int32.ofInt bo)), some (.int (Int32.ofInt ot)), some (.int (B ||| b_mk x)), some (.int (Int32.ofInt (x : Int))), some (.int (Int32.ofInt ((k : Int) + 1)))], (n, z_q im, jM w2, jL u)), z_To_1 ((e_Model_vain_26 ..).trans ?_), _, rfl, Or.inl ⟨⟨k, by omega, hbb⟩, ?_⟩⟩
          · rw [if_neg (ji_le_n (by decide) (by omega) (by omega)), hbt.1 hbb, z_oI_s, if_neg jc_1, ji_add]
            rfl
          · rcases hB with ⟨-, rfl⟩ | ⟨-, rfl⟩
            · rw [Int32.or_assoc, Int32.or_self]
            · rfl
        · refine ⟨(26, [some (.ref 45), some (.int (Int32.ofInt a)), some (.int (Int32.ofInt b)), some (.int (Int32.ofInt bo)), some (.int (Int32.ofInt ot)), some (.int B), some (.int (Int32.ofInt (x : Int))), some (.int (Int32.ofInt ((k : Int) + 1)))], (n, z_q im, jM w2, jL u)), z_To_1 ((e_Model_vain_26 ..).trans ?_), _, rfl, ?_⟩
          · rw [if_neg (ji_le_n (by decide) (by omega) (by omega)), hbt.2 hbb, z_oI_s, if_pos (show Int32.ofInt 0 = 0 from rfl), ji_add]
          · rcases hB with ⟨⟨o, h1, h2⟩, h3⟩ | ⟨h1, h3⟩
            · exact Or.inl ⟨⟨o, by omega, h2⟩, h3⟩
            · refine Or.inr ⟨fun q => ?_, h3⟩
              obtain ⟨o, ho1, ho2⟩ := q
              by_cases hok : o = k
              · subst hok; exact hbb ho2
              · exact h1 ⟨o, by omega, ho2⟩)
      have hB2 : B = B_v g (x + 1) := by
        simp only [B_v]
        rcases hB with ⟨h1, h2⟩ | ⟨h1, h2⟩
        · rw [if_pos h1]; exact h2
        · rw [if_neg h1]; exact h2
      subst hB2
      refine ⟨(20, [some (.ref 45), some (.int (Int32.ofInt a)), some (.int (Int32.ofInt b)), some (.int (Int32.ofInt bo)), some (.int (Int32.ofInt ot)), some (.int (B_v g (x + 1))), some (.int (Int32.ofInt ((x : Int) + 1))), some (.int (Int32.ofInt ((10 : Nat) : Int)))], (n, z_q im, jM w2, jL u)), z_To_tr (z_To_1 ((e_Model_vain_20 ..).trans ?_)) (z_To_tr ht (z_To_1 ((e_Model_vain_26 ..).trans ?_))), _, rfl⟩
      · rw [if_neg (ji_le_n (by decide) (by omega) (by omega))]
      · rw [if_pos (ji_le_p (by decide) (by decide) (by decide)), ji_add])
    refine ⟨w2, n_Model_vain (z_go ((e_Model_vain_0 ..).trans ?_) (ht _ (z_ret ((e_Model_vain_20 ..).trans ?_)))), k2⟩
    · rw [s_areSo ha hb hbo hot f7 f6, z_oI_s, if_neg (ji_b_n hs), k1, z_oV_s]
    · rw [if_pos (ji_le_p (by decide) (by decide) (by decide))]
  · refine ⟨w, n_Model_vain (z_ret ((e_Model_vain_0 ..).trans ?_)), m_fr_rf w⟩
    rw [if_neg hs, s_areSo ha hb hbo hot f7 f6, z_oI_s, if_pos (ji_b_p hs)]
