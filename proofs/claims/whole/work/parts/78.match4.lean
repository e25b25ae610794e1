/-! the reference's rows, and its plays -/
theorem s_isIn {e n : Nat} {im : Nat → Option Nat} {w u : Nat → Nat → Int} {t m : Int} (hw : a_wf (w 46)) (ht : t_in (w 46) t) (hm : jR m) : (z_F (e + 2)).1 k_Model_isIn [.ref 45, .int (Int32.ofInt t), .int (Int32.ofInt m)] (n, z_q im, jM w, jL u) = some (Int32.ofInt (D_m (w 46) t m + 1), jM w, jL u) := by
  obtain ⟨a1, a2, a3, a4, a5, a6⟩ := t_wf hw ht
  have f7 := hw.2.2.2.2.2.2.2.1
  refine n_Model_isIn (z_go (e_Model_isIn_0 ..) ?_)
  have key := z_fnd (o := z_F (e + 1)) (cd := cd_Model_isIn) (p := fun i => if t_m (w 46) t i = m then 0 else -1) (P := fun i s => s = (3, [some (.ref 45), some (.int (Int32.ofInt t)), some (.int (Int32.ofInt m)), some (.int (Int32.ofInt (i : Int)))], (n, z_q im, jM w, jL u))) (Q := fun x r => r = (some (.int (Int32.ofInt 1)), (n, z_q im, jM w, jL u))) (t_n (w 46) t) 0 (3, [some (.ref 45), some (.int (Int32.ofInt t)), some (.int (Int32.ofInt m)), some (.int (Int32.ofInt 0))], (n, z_q im, jM w, jL u)) rfl (fun i s hi1 hi2 hP => by
    subst hP
    have hmi := a5 i (by omega)
    have hx : z_ex none (z_F (e + 1)) cd_Model_isIn 4000 (cd_Model_isIn.drop 3) 3 [some (.ref 45), some (.int (Int32.ofInt t)), some (.int (Int32.ofInt m)), some (.int (Int32.ofInt (i : Int)))] [] (n, z_q im, jM w, jL u) = if t_m (w 46) t i = m then some (.inl (some (.int (Int32.ofInt 1)), (n, z_q im, jM w, jL u))) else some (.inr (3, [some (.ref 45), some (.int (Int32.ofInt t)), some (.int (Int32.ofInt m)), some (.int (Int32.ofInt ((i : Int) + 1)))], [], (n, z_q im, jM w, jL u))) := by
      refine (e_Model_isIn_3 ..).trans ?_
      rw [s_manyOf (by omega) (by omega), z_oI_s, a3, if_neg (ji_le_n (by omega) (by omega) (by omega)), s_memberOf (by omega) (by omega) (by omega) (by omega), z_oI_s, show ((i : Int)).toNat = i by omega, ji_add]
      change (if Int32.ofInt (t_m (w 46) t i) = _ then _ else _) = _
      by_cases hh : t_m (w 46) t i = m
      · rw [if_pos (ji_eq_p (by omega) hm hh), if_pos hh]
      · rw [if_neg (ji_eq_n (by omega) hm hh), if_neg hh]
    dsimp only
    by_cases hh : t_m (w 46) t i = m
    · rw [if_pos hh]
      exact ⟨fun q => by omega, fun _ => ⟨_, z_ret (hx.trans (if_pos hh)), rfl⟩⟩
    · rw [if_neg hh]
      exact ⟨fun _ => ⟨(3, [some (.ref 45), some (.int (Int32.ofInt t)), some (.int (Int32.ofInt m)), some (.int (Int32.ofInt ((i : Int) + 1)))], (n, z_q im, jM w, jL u)), z_To_1 (hx.trans (if_neg hh)), rfl⟩, fun q => absurd rfl q⟩)
  rcases key with ⟨k1, s, k2, rfl⟩ | ⟨k1, r, k2, rfl⟩
  · change D_m (w 46) t m = -1 at k1
    rw [k1]
    refine k2 _ (z_ret ((e_Model_isIn_3 ..).trans ?_))
    rw [s_manyOf (by omega) (by omega), z_oI_s, a3, if_pos (ji_le_p (by omega) (by omega) (by omega))]
    rfl
  · change D_m (w 46) t m ≠ -1 at k1
    have := D_m_b (w 46) t m
    rw [show D_m (w 46) t m = 0 by omega]
    exact k2
theorem s_areTeams {e n : Nat} {im : Nat → Option Nat} {w u : Nat → Nat → Int} {t o : Int} (hw : a_wf (w 46)) (ht : jR t) (ho : jR o) : (z_F (e + 3)).1 k_Model_areTeams [.ref 45, .int (Int32.ofInt t), .int (Int32.ofInt o)] (n, z_q im, jM w, jL u) = some (Int32.ofInt (if a_tt (w 46) t o then 1 else 0), jM w, jL u) := by
  obtain ⟨f0, f1, f2, f3, f4, f5, f6, f7, f8, f9, f10, f11, f12⟩ := id hw
  by_cases h0 : t_in (w 46) t ∧ t_in (w 46) o ∧ t ≠ o
  · obtain ⟨k1, k2, k3⟩ := h0
    obtain ⟨a1, a2, a3, a4, a5, a6⟩ := t_wf hw k1
    obtain ⟨b1, b2, b3, b4, b5, b6⟩ := t_wf hw k2
    have he : z_ex none (z_F (e + 2)) cd_Model_areTeams 4000 (cd_Model_areTeams.drop 0) 0 [some (.ref 45), some (.int (Int32.ofInt t)), some (.int (Int32.ofInt o)), none, none] [] (n, z_q im, jM w, jL u) = some (.inr (16, [some (.ref 45), some (.int (Int32.ofInt t)), some (.int (Int32.ofInt o)), some (.int (Int32.ofInt 0)), none], [], (n, z_q im, jM w, jL u))) := by
      refine (e_Model_areTeams_0 ..).trans ?_
      rw [s_isTeam ht f8, z_oI_s, if_neg (ji_b_n k1), s_isTeam ho f8, z_oI_s, if_neg (ji_b_n k2), if_neg (ji_eq_n ht ho k3)]
    have key := z_fnd (o := z_F (e + 2)) (cd := cd_Model_areTeams) (p := fun i => if D_m (w 46) o (t_m (w 46) t i) = -1 then -1 else 0) (P := fun i s => ∃ q4, s = (16, [some (.ref 45), some (.int (Int32.ofInt t)), some (.int (Int32.ofInt o)), some (.int (Int32.ofInt (i : Int))), q4], (n, z_q im, jM w, jL u))) (Q := fun x r => r = (some (.int (Int32.ofInt 0)), (n, z_q im, jM w, jL u))) (t_n (w 46) t) 0 (16, [some (.ref 45), some (.int (Int32.ofInt t)), some (.int (Int32.ofInt o)), some (.int (Int32.ofInt 0)), none], (n, z_q im, jM w, jL u)) ⟨none, rfl⟩ (fun i s hi1 hi2 hP => by
      obtain ⟨q4, rfl⟩ := hP
      have hmi := a5 i (by omega)
      have hx : z_ex none (z_F (e + 2)) cd_Model_areTeams 4000 (cd_Model_areTeams.drop 16) 16 [some (.ref 45), some (.int (Int32.ofInt t)), some (.int (Int32.ofInt o)), some (.int (Int32.ofInt (i : Int))), q4] [] (n, z_q im, jM w, jL u) = some (.inr (24, [some (.ref 45), some (.int (Int32.ofInt t)), some (.int (Int32.ofInt o)), some (.int (Int32.ofInt (i : Int))), some (.int (Int32.ofInt 0))], [], (n, z_q im, jM w, jL u))) := by
        refine (e_Model_areTeams_16 ..).trans ?_
        rw [s_manyOf (by omega) (by omega), z_oI_s, a3, if_neg (ji_le_n (by omega) (by omega) (by omega))]
      have key2 := z_fnd (o := z_F (e + 2)) (cd := cd_Model_areTeams) (p := fun k => if t_m (w 46) o k = t_m (w 46) t i then 0 else -1) (P := fun k s => s = (24, [some (.ref 45), some (.int (Int32.ofInt t)), some (.int (Int32.ofInt o)), some (.int (Int32.ofInt (i : Int))), some (.int (Int32.ofInt (k : Int)))], (n, z_q im, jM w, jL u))) (Q := fun x r => r = (some (.int (Int32.ofInt 0)), (n, z_q im, jM w, jL u))) (t_n (w 46) o) 0 (24, [some (.ref 45), some (.int (Int32.ofInt t)), some (.int (Int32.ofInt o)), some (.int (Int32.ofInt (i : Int))), some (.int (Int32.ofInt 0))], (n, z_q im, jM w, jL u)) rfl (fun k s hk1 hk2 hP => by
        subst hP
        have hmk := b5 k (by omega)
        have hy : z_ex none (z_F (e + 2)) cd_Model_areTeams 4000 (cd_Model_areTeams.drop 24) 24 [some (.ref 45), some (.int (Int32.ofInt t)), some (.int (Int32.ofInt o)), some (.int (Int32.ofInt (i : Int))), some (.int (Int32.ofInt (k : Int)))] [] (n, z_q im, jM w, jL u) = if t_m (w 46) o k = t_m (w 46) t i then some (.inl (some (.int (Int32.ofInt 0)), (n, z_q im, jM w, jL u))) else some (.inr (24, [some (.ref 45), some (.int (Int32.ofInt t)), some (.int (Int32.ofInt o)), some (.int (Int32.ofInt (i : Int))), some (.int (Int32.ofInt ((k : Int) + 1)))], [], (n, z_q im, jM w, jL u))) := by
          refine (e_Model_areTeams_24 ..).trans ?_
          rw [s_manyOf (by omega) (by omega), z_oI_s, b3, if_neg (ji_le_n (by omega) (by omega) (by omega)), s_memberOf (by omega) (by omega) (by omega) (by omega), z_oI_s, s_memberOf (by omega) (by omega) (by omega) (by omega), z_oI_s, show ((i : Int)).toNat = i by omega, show ((k : Int)).toNat = k by omega, ji_add]
          change (if Int32.ofInt (t_m (w 46) t i) = Int32.ofInt (t_m (w 46) o k) then _ else _) = _
          by_cases hh : t_m (w 46) o k = t_m (w 46) t i
          · rw [if_pos (ji_eq_p (by omega) (by omega) hh.symm), if_pos hh]
          · rw [if_neg (ji_eq_n (by omega) (by omega) (fun q => hh q.symm)), if_neg hh]
        dsimp only
        by_cases hh : t_m (w 46) o k = t_m (w 46) t i
        · rw [if_pos hh]
          exact ⟨fun q => by omega, fun _ => ⟨_, z_ret (hy.trans (if_pos hh)), rfl⟩⟩
        · rw [if_neg hh]
          exact ⟨fun _ => ⟨(24, [some (.ref 45), some (.int (Int32.ofInt t)), some (.int (Int32.ofInt o)), some (.int (Int32.ofInt (i : Int))), some (.int (Int32.ofInt ((k : Int) + 1)))], (n, z_q im, jM w, jL u)), z_To_1 (hy.trans (if_neg hh)), rfl⟩, fun q => absurd rfl q⟩)
      dsimp only
      rcases key2 with ⟨k1, s, k2, rfl⟩ | ⟨k1, r, k2, rfl⟩
      · change D_m (w 46) o (t_m (w 46) t i) = -1 at k1
        rw [if_pos k1]
        refine ⟨fun _ => ⟨(16, [some (.ref 45), some (.int (Int32.ofInt t)), some (.int (Int32.ofInt o)), some (.int (Int32.ofInt ((i : Int) + 1))), some (.int (Int32.ofInt ((0 + t_n (w 46) o : Nat) : Int)))], (n, z_q im, jM w, jL u)), z_To_tr (z_To_1 hx) (z_To_tr k2 (z_To_1 ((e_Model_areTeams_24 ..).trans ?_))), _, rfl⟩, fun q => absurd rfl q⟩
        rw [s_manyOf (by omega) (by omega), z_oI_s, b3, if_pos (ji_le_p (by omega) (by omega) (by omega)), ji_add]
      · change D_m (w 46) o (t_m (w 46) t i) ≠ -1 at k1
        rw [if_neg k1]
        exact ⟨fun q => by omega, fun _ => ⟨_, z_go hx k2, rfl⟩⟩)
    rcases key with ⟨q1, s, q2, q4, rfl⟩ | ⟨q1, r, q2, rfl⟩
    · change D_d (w 46) t o = -1 at q1
      rw [if_pos ⟨k1, k2, k3, q1⟩]
      refine n_Model_areTeams (z_go he (q2 _ (z_ret ((e_Model_areTeams_16 ..).trans ?_))))
      rw [s_manyOf (by omega) (by omega), z_oI_s, a3, if_pos (ji_le_p (by omega) (by omega) (by omega))]
    · change D_d (w 46) t o ≠ -1 at q1
      rw [if_neg (fun q => q1 q.2.2.2)]
      exact n_Model_areTeams (z_go he q2)
  · rw [if_neg (fun q => h0 ⟨q.1, q.2.1, q.2.2.1⟩)]
    refine n_Model_areTeams (z_ret ((e_Model_areTeams_0 ..).trans ?_))
    rw [s_isTeam ht f8, z_oI_s]
    by_cases k1 : t_in (w 46) t
    · rw [if_neg (ji_b_n k1), s_isTeam ho f8, z_oI_s]
      by_cases k2 : t_in (w 46) o
      · rw [if_neg (ji_b_n k2)]
        by_cases k3 : t = o
        · rw [if_pos (ji_eq_p ht ho k3)]
        · exact absurd ⟨k1, k2, k3⟩ h0
      · rw [if_pos (ji_b_p k2)]
    · rw [if_pos (ji_b_p k1)]
/-- the reference's rows laid -/
def R_m (w : Nat → Nat → Int) (F S : Nat → Int) (n1 n2 : Nat) : Prop := w 45 22 = (n1 : Int) ∧ w 45 23 = (n2 : Int) ∧ (∀ i, i < n1 → w 53 i = F i) ∧ ∀ i, i < n2 → w 54 i = S i
theorem s_layRows {e n : Nat} {im : Nat → Option Nat} {w u : Nat → Nat → Int} {t o : Int} (hw : a_wf (w 46)) (ht : t_in (w 46) t) (ho : t_in (w 46) o) : ∃ w', (z_F (e + 2)).2.2.1 k_Model_layRows [.ref 45, .int (Int32.ofInt t), .int (Int32.ofInt o)] (n, z_q im, jM w, jL u) = some (jM w', jL u) ∧ R_m w' (t_m (w 46) t) (t_m (w 46) o) (t_n (w 46) t) (t_n (w 46) o) ∧ (∀ c, c ≠ 45 → c ≠ 53 → c ≠ 54 → w' c = w c) ∧ ∀ j, j ≠ 22 → j ≠ 23 → w' 45 j = w 45 j := by
  obtain ⟨a1, a2, a3, a4, a5, a6⟩ := t_wf hw ht
  obtain ⟨b1, b2, b3, b4, b5, b6⟩ := t_wf hw ho
  have hlow : ∀ {wi : Nat → Nat → Int} {x : Int}, (∀ c, c ≠ 53 → c ≠ 54 → wi c = z_u (z_u w 45 22 (t_n (w 46) t : Int)) 45 23 (t_n (w 46) o : Int) c) → wi 46 = w 46 ∧ wi 45 22 = (t_n (w 46) t : Int) ∧ wi 45 23 = (t_n (w 46) o : Int) := fun {wi x} h => ⟨by rw [h 46 (by decide) (by decide)]; rfl, by rw [h 45 (by decide) (by decide)]; rfl, by rw [h 45 (by decide) (by decide)]; rfl⟩
  obtain ⟨t9, ht9, wf, rfl, i1, i2⟩ := z_for (o := z_F (e + 1)) (cd := cd_Model_layRows) (P := fun i s => ∃ wi, s = (13, [some (.ref 45), some (.int (Int32.ofInt t)), some (.int (Int32.ofInt o)), some (.int (Int32.ofInt (i : Int)))], (n, z_q im, jM wi, jL u)) ∧ (∀ c, c ≠ 53 → wi c = z_u (z_u w 45 22 (t_n (w 46) t : Int)) 45 23 (t_n (w 46) o : Int) c) ∧ ∀ j, j < i → wi 53 j = t_m (w 46) t j) (t_n (w 46) t) (s := (13, [some (.ref 45), some (.int (Int32.ofInt t)), some (.int (Int32.ofInt o)), some (.int (Int32.ofInt 0))], (n, z_q im, jM (z_u (z_u w 45 22 (t_n (w 46) t : Int)) 45 23 (t_n (w 46) o : Int)), jL u))) ⟨_, rfl, fun _ _ => rfl, fun j hj => absurd hj (by omega)⟩ (fun i s hi hs => by
    obtain ⟨wi, rfl, i1, i2⟩ := hs
    obtain ⟨l1, l2, l3⟩ := hlow (x := 0) (fun c q1 _ => i1 c q1)
    refine ⟨(13, [some (.ref 45), some (.int (Int32.ofInt t)), some (.int (Int32.ofInt o)), some (.int (Int32.ofInt ((i : Int) + 1)))], (n, z_q im, jM (z_u wi 53 i (t_m (w 46) t i)), jL u)), z_To_1 ((e_Model_layRows_13 ..).trans ?_), _, rfl, fun c q1 => by rw [z_u_ne q1]; exact i1 c q1, fun j hj => ?_⟩
    · have e22 : ((jM wi, jL u) : zD).1 45 22 = Int32.ofInt (t_n (w 46) t : Int) := by rw [← l2]; rfl
      rw [e22, if_neg (ji_le_n (by omega) (by omega) (by omega)), s_memberOf (by omega) (by omega) (by omega) (by omega), z_oI_s, if_neg (by simp (disch := omega) only [ji_lt0, ji_nat]; omega), ji_nat (by omega), show ((i : Int)).toNat = i by omega, l1, ji_add]
      simp only [jM_u]
      rfl
    · rw [z_u_at]
      split
      · rename_i q; rw [q]
      · exact i2 j (by omega))
  obtain ⟨l1, l2, l3⟩ := hlow (x := 0) (fun c q1 _ => i1 c q1)
  obtain ⟨t8, ht8, wg, rfl, j1, j2⟩ := z_for (o := z_F (e + 1)) (cd := cd_Model_layRows) (P := fun i s => ∃ wi, s = (30, [some (.ref 45), some (.int (Int32.ofInt t)), some (.int (Int32.ofInt o)), some (.int (Int32.ofInt (i : Int)))], (n, z_q im, jM wi, jL u)) ∧ (∀ c, c ≠ 54 → wi c = wf c) ∧ ∀ j, j < i → wi 54 j = t_m (w 46) o j) (t_n (w 46) o) (s := (30, [some (.ref 45), some (.int (Int32.ofInt t)), some (.int (Int32.ofInt o)), some (.int (Int32.ofInt 0))], (n, z_q im, jM wf, jL u))) ⟨_, rfl, fun _ _ => rfl, fun j hj => absurd hj (by omega)⟩ (fun i s hi hs => by
    obtain ⟨wi, rfl, j1, j2⟩ := hs
    refine ⟨(30, [some (.ref 45), some (.int (Int32.ofInt t)), some (.int (Int32.ofInt o)), some (.int (Int32.ofInt ((i : Int) + 1)))], (n, z_q im, jM (z_u wi 54 i (t_m (w 46) o i)), jL u)), z_To_1 ((e_Model_layRows_30 ..).trans ?_), _, rfl, fun c q1 => by rw [z_u_ne q1]; exact j1 c q1, fun j hj => ?_⟩
    · have e23 : ((jM wi, jL u) : zD).1 45 23 = Int32.ofInt (t_n (w 46) o : Int) := by rw [← l3, ← j1 45 (by decide)]; rfl
      rw [e23, if_neg (ji_le_n (by omega) (by omega) (by omega)), s_memberOf (by omega) (by omega) (by omega) (by omega), z_oI_s, if_neg (by simp (disch := omega) only [ji_lt0, ji_nat]; omega), ji_nat (by omega), show ((i : Int)).toNat = i by omega, j1 46 (by decide), l1, ji_add]
      simp only [jM_u]
      rfl
    · rw [z_u_at]
      split
      · rename_i q; rw [q]
      · exact j2 j (by omega))
  refine ⟨wg, n_Model_layRows (z_go ((e_Model_layRows_0 ..).trans ?_) (ht9 _ (z_go ((e_Model_layRows_13 ..).trans ?_) (ht8 _ (z_ret ((e_Model_layRows_30 ..).trans ?_)))))), ⟨by rw [j1 45 (by decide)]; exact l2, by rw [j1 45 (by decide)]; exact l3, fun i hi => by rw [j1 53 (by decide)]; exact i2 i hi, j2⟩, fun c c1 c2 c3 => ?_, fun j k1 k2 => ?_⟩
  · rw [s_manyOf (by omega) (by omega), z_oI_s, a3]
    simp only [jM_u]
    rw [s_manyOf (by omega) (by omega), z_oI_s, show z_u w 45 22 (t_n (w 46) t : Int) 46 = w 46 from rfl, b3]
    simp only [jM_u]
  · have e22 : ((jM wf, jL u) : zD).1 45 22 = Int32.ofInt (t_n (w 46) t : Int) := by rw [← l2]; rfl
    rw [e22, if_pos (ji_le_p (by omega) (by omega) (by omega))]
  · have e23 : ((jM wg, jL u) : zD).1 45 23 = Int32.ofInt (t_n (w 46) o : Int) := by rw [← l3, ← j1 45 (by decide)]; rfl
    rw [e23, if_pos (ji_le_p (by omega) (by omega) (by omega))]
  · rw [j1 c c3, i1 c c2, z_u_ne c1, z_u_ne c1]
  · rw [j1 45 (by decide), i1 45 (by decide), z_u_at, if_neg k2, z_u_at, if_neg k1]
def w_mt (w : Nat → Nat → Int) (a b : Int) (c : Nat) : Nat → Nat → Int := z_u (z_u (z_u (z_u (z_u (z_u (z_u w 55 a.toNat (w 55 a.toNat + w 45 16)) 55 b.toNat (z_u w 55 a.toNat (w 55 a.toNat + w 45 16) 55 b.toNat + w 45 16)) 56 c a) 57 c b) 58 c (w 45 15)) 59 c (w 45 16)) 45 29 ((c : Int) + 1)
theorem w_mt_ne {w : Nat → Nat → Int} {a b : Int} {c d : Nat} (h : d ∉ [45, 55, 56, 57, 58, 59]) : w_mt w a b c d = w d := by
  have h1 : d ≠ 45 := fun q => by subst q; simp at h
  have h2 : d ≠ 55 := fun q => by subst q; simp at h
  have h3 : d ≠ 56 := fun q => by subst q; simp at h
  have h4 : d ≠ 57 := fun q => by subst q; simp at h
  have h5 : d ≠ 58 := fun q => by subst q; simp at h
  have h6 : d ≠ 59 := fun q => by subst q; simp at h
  unfold w_mt
  rw [z_u_ne h1, z_u_ne h6, z_u_ne h5, z_u_ne h4, z_u_ne h3, z_u_ne h2, z_u_ne h2]
theorem w_mt_45 {w : Nat → Nat → Int} {a b : Int} {c j : Nat} : w_mt w a b c 45 j = if j = 29 then (c : Int) + 1 else w 45 j := by
  unfold w_mt
  rw [z_u_at, z_u_ne (by decide), z_u_ne (by decide), z_u_ne (by decide), z_u_ne (by decide), z_u_ne (by decide), z_u_ne (by decide)]
theorem w_mt_55 {w : Nat → Nat → Int} {a b : Int} {c j : Nat} (hab : a.toNat ≠ b.toNat) : w_mt w a b c 55 j = if j = b.toNat then w 55 b.toNat + w 45 16 else if j = a.toNat then w 55 a.toNat + w 45 16 else w 55 j := by
  unfold w_mt
  rw [z_u_ne (by decide), z_u_ne (by decide), z_u_ne (by decide), z_u_ne (by decide), z_u_ne (by decide), z_u_at]
  by_cases h : j = b.toNat
  · rw [if_pos h, if_pos h, z_u_at, if_neg (fun q => hab q.symm)]
  · rw [if_neg h, if_neg h, z_u_at]
theorem w_mt_56 {w : Nat → Nat → Int} {a b : Int} {c j : Nat} : w_mt w a b c 56 j = if j = c then a else w 56 j := by
  unfold w_mt
  rw [z_u_ne (by decide), z_u_ne (by decide), z_u_ne (by decide), z_u_ne (by decide), z_u_at, z_u_ne (by decide), z_u_ne (by decide)]
theorem w_mt_57 {w : Nat → Nat → Int} {a b : Int} {c j : Nat} : w_mt w a b c 57 j = if j = c then b else w 57 j := by
  unfold w_mt
  rw [z_u_ne (by decide), z_u_ne (by decide), z_u_ne (by decide), z_u_at, z_u_ne (by decide), z_u_ne (by decide), z_u_ne (by decide)]
theorem w_mt_58 {w : Nat → Nat → Int} {a b : Int} {c j : Nat} : w_mt w a b c 58 j = if j = c then w 45 15 else w 58 j := by
  unfold w_mt
  rw [z_u_ne (by decide), z_u_ne (by decide), z_u_at, z_u_ne (by decide), z_u_ne (by decide), z_u_ne (by decide), z_u_ne (by decide)]
theorem w_mt_59 {w : Nat → Nat → Int} {a b : Int} {c j : Nat} : w_mt w a b c 59 j = if j = c then w 45 16 else w 59 j := by
  unfold w_mt
  rw [z_u_ne (by decide), z_u_at, z_u_ne (by decide), z_u_ne (by decide), z_u_ne (by decide), z_u_ne (by decide), z_u_ne (by decide)]
