/-! the text read: the class's teams -/
theorem A_fl_n0 {k : Int} {r : zR} (hk : ¬ k = 0) : ¬ (A_fl k r).1 = 0 := by
  unfold A_fl
  split
  · exact hk
  · assumption
theorem A_nt_g {lo hi : Int} {r : zR} (h : (A_nt lo hi r).1 = 0) : A_nt lo hi r = r ∧ r.2.2.2.2.1 = 2 ∧ (lo ≤ r.2.2.2.2.2 ∧ r.2.2.2.2.2 ≤ hi) ∧ A_vl lo hi r = r.2.2.2.2.2 := by
  have hv : A_vl lo hi r = r.2.2.2.2.2 := if_pos h
  unfold A_nt at h ⊢
  by_cases h1 : r.2.2.2.2.1 = 2
  · rw [if_pos h1] at h ⊢
    by_cases h2 : lo ≤ r.2.2.2.2.2 ∧ r.2.2.2.2.2 ≤ hi
    · rw [if_pos h2]; exact ⟨rfl, h1, h2, hv⟩
    · rw [if_neg h2] at h; exact absurd h (A_fl_n0 (by decide))
  · rw [if_neg h1] at h; exact absurd h (A_fl_n0 (by decide))
def A_m1 (v : Nat → Int) (r : zR) : zR := if r.2.2.2.2.1 = 2 ∧ t_im v r.2.2.2.2.2 = true then A_fl 2 r else r
def A_m2 (v : Nat → Int) (r : zR) : zR := if v (78 + 7 * (v 8).toNat + 1) = 5 ∧ r.2.2.2.2.1 = 2 ∧ (0 ≤ r.2.2.2.2.2 ∧ r.2.2.2.2.2 < v 7) then A_fl 3 r else r
def A_m3 (v : Nat → Int) (r : zR) : zR := A_m2 v (A_m1 v r)
theorem A_m1_t (v : Nat → Int) (r : zR) : (A_m1 v r).2.2 = r.2.2 := by unfold A_m1; split; exact A_fl_t _ _; rfl
theorem A_m2_t (v : Nat → Int) (r : zR) : (A_m2 v r).2.2 = r.2.2 := by unfold A_m2; split; exact A_fl_t _ _; rfl
theorem A_m3_t (v : Nat → Int) (r : zR) : (A_m3 v r).2.2 = r.2.2 := (A_m2_t v _).trans (A_m1_t v r)
def A_ma (U : Nat) (tp : Nat → Int) (s : zS) : zS := (A_nu U tp 0 (s.2 7 - 1) (A_m3 s.2 s.1), if (A_nt 0 (s.2 7 - 1) (A_m3 s.2 s.1)).1 = 0 then a_up (a_up s.2 (78 + 7 * (s.2 8).toNat + 2 + (s.2 (78 + 7 * (s.2 8).toNat + 1)).toNat) (A_vl 0 (s.2 7 - 1) (A_m3 s.2 s.1))) (78 + 7 * (s.2 8).toNat + 1) (s.2 (78 + 7 * (s.2 8).toNat + 1) + 1) else s.2)
def V_m (v : Nat → Int) : Prop := (0 ≤ v 8 ∧ v 8 ≤ 3) ∧ (0 ≤ v 7 ∧ v 7 ≤ 10) ∧ (0 ≤ v (78 + 7 * (v 8).toNat + 1) ∧ v (78 + 7 * (v 8).toNat + 1) ≤ 5) ∧ ∀ i : Nat, (i : Int) < v (78 + 7 * (v 8).toNat + 1) → 0 ≤ v (78 + 7 * (v 8).toNat + 2 + i) ∧ v (78 + 7 * (v 8).toNat + 2 + i) < v 7
theorem A_m3_g {v : Nat → Int} {r : zR} (hV : V_m v) (h : (A_nt 0 (v 7 - 1) (A_m3 v r)).1 = 0) : A_m3 v r = r ∧ v (78 + 7 * (v 8).toNat + 1) ≤ 4 ∧ ¬ t_im v r.2.2.2.2.2 = true := by
  obtain ⟨h1, h2, h3, _⟩ := A_nt_g h
  rw [h1] at h
  rw [A_m3_t] at h2 h3
  have g1 : ¬ t_im v r.2.2.2.2.2 = true := fun q => by
    have e1 : A_m1 v r = A_fl 2 r := by unfold A_m1; rw [if_pos ⟨h2, q⟩]
    unfold A_m3 at h
    rw [e1] at h
    unfold A_m2 at h
    split at h
    · exact A_fl_n0 (by decide) h
    · exact A_fl_n0 (by decide) h
  have e1 : A_m1 v r = r := by unfold A_m1; rw [if_neg (fun q => g1 q.2)]
  have g2 : ¬ v (78 + 7 * (v 8).toNat + 1) = 5 := fun q => by
    unfold A_m3 at h
    rw [e1] at h
    unfold A_m2 at h
    rw [if_pos ⟨q, h2, h3.1, by omega⟩] at h
    exact A_fl_n0 (by decide) h
  have e2 : A_m2 v r = r := by unfold A_m2; rw [if_neg (fun q => g2 q.1)]
  have := hV.2.2.1
  refine ⟨?_, by omega, g1⟩
  unfold A_m3
  rw [e1, e2]
theorem V_ma {U : Nat} {tp : Nat → Int} {r : zR} {v : Nat → Int} (hV : V_m v) : V_m (A_ma U tp (r, v)).2 ∧ (A_ma U tp (r, v)).2 8 = v 8 ∧ (A_ma U tp (r, v)).2 7 = v 7 ∧ ((A_ma U tp (r, v)).1.1 = 0 → (A_ma U tp (r, v)).2 (78 + 7 * (v 8).toNat + 1) = v (78 + 7 * (v 8).toNat + 1) + 1) := by
  by_cases h : (A_nt 0 (v 7 - 1) (A_m3 v r)).1 = 0
  · obtain ⟨h1, h2, h3, h4⟩ := A_nt_g h
    have g := (A_m3_g hV h).2.1
    obtain ⟨v1, v2, v3, v4⟩ := id hV
    have E : (A_ma U tp (r, v)).2 = a_up (a_up v (78 + 7 * (v 8).toNat + 2 + (v (78 + 7 * (v 8).toNat + 1)).toNat) (A_vl 0 (v 7 - 1) (A_m3 v r))) (78 + 7 * (v 8).toNat + 1) (v (78 + 7 * (v 8).toNat + 1) + 1) := if_pos h
    rw [h4] at E
    generalize (A_ma U tp (r, v)).2 = v' at E
    generalize (A_m3 v r).2.2.2.2.2 = x at E h3
    have p8 : v' 8 = v 8 := by rw [E, a_up_ne (by omega), a_up_ne (by omega)]
    have p7 : v' 7 = v 7 := by rw [E, a_up_ne (by omega), a_up_ne (by omega)]
    have p1 : v' (78 + 7 * (v 8).toNat + 1) = v (78 + 7 * (v 8).toNat + 1) + 1 := by rw [E, a_up_eq]
    refine ⟨?_, p8, p7, fun _ => p1⟩
    unfold V_m
    rw [p8, p7, p1]
    refine ⟨v1, v2, by omega, fun i hi => ?_⟩
    rw [E, a_up_ne (by omega)]
    unfold a_up
    split
    · omega
    · exact v4 i (by omega)
  · have E : (A_ma U tp (r, v)).2 = v := if_neg h
    have E1 : (A_ma U tp (r, v)).1.1 = (A_nt 0 (v 7 - 1) (A_m3 v r)).1 := A_nx_1 _ _ _
    rw [E, E1]
    exact ⟨hV, rfl, rfl, fun q => absurd q h⟩
theorem S_ma {e n : Nat} {im : Nat → Option Nat} {w u : Nat → Nat → Int} {U : Nat} {tp : Nat → Int} {r : zR} {v : Nat → Int} (hw : T_w U tp) (hQ : S_c w U tp (r, v)) (hV : V_m v) : ∃ w', (z_F (e + 4)).2.2.1 k_Reader_readMate [.ref 17] (n, z_q im, jM w, jL u) = some (jM w', jL u) ∧ S_c w' U tp (A_ma U tp (r, v)) ∧ fD w w' := by
  obtain ⟨v1, v2, v3, v4⟩ := id hV
  have tk := hQ.1.2.2.2.1
  have tk3 := tk.2.2.1
  have tk4 := tk.2.2.2.1
  dsimp only at tk3 tk4
  have q3 : w 17 3 = r.2.2.2.2.1 := hQ.1.2.1.2.1
  have q5 : w 17 5 = r.2.2.2.2.2 := hQ.1.2.1.2.2.2
  have q9 : w 10 9 = v 8 := hQ.2.2.2.2.2.2.2.2.2.2.1
  have e3 : ((jM w, jL u) : zD).1 17 3 = Int32.ofInt r.2.2.2.2.1 := by rw [← q3]; rfl
  have e5 : ((jM w, jL u) : zD).1 17 5 = Int32.ofInt r.2.2.2.2.2 := by rw [← q5]; rfl
  have e9 : ((jM w, jL u) : zD).1 10 9 = Int32.ofInt (v 8) := by rw [← q9]; rfl
  have st1 : ∃ w1 x1, z_To (z_F (e + 3)) cd_Reader_readMate (0, [some (.ref 17), none, none, none], (n, z_q im, jM w, jL u)) (24, [some (.ref 17), some (.int x1), none, none], (n, z_q im, jM w1, jL u)) ∧ S_c w1 U tp (A_m1 v r, v) ∧ fD w w1 := by
    unfold A_m1
    by_cases h1 : r.2.2.2.2.1 = 2
    · by_cases h2 : t_im v r.2.2.2.2.2 = true
      · rw [if_pos ⟨h1, h2⟩]
        obtain ⟨w1, k1, k2, k3⟩ := S_fl (e := e + 2) (n := n) (im := im) (u := u) (k := 2) (by decide) hQ
        refine ⟨w1, Int32.ofInt 1, z_To_tr (t := (18, [some (.ref 17), some (.int (Int32.ofInt 1)), none, none], (n, z_q im, jM w, jL u))) (z_To_1 ((e_Reader_readMate_0 ..).trans ?_)) (z_To_1 ((e_Reader_readMate_18 ..).trans ?_)), k2, k3⟩
        · rw [e3, if_pos (ji_eq_p (by omega) (by decide) h1), e9, e5, s_im hQ.2 v1 v3 (fun i hi => by have := v4 i hi; dsimp only; omega) (by omega), z_oI_s, if_neg (ji_b_n h2)]
        · rw [if_neg (by decide), k1, z_oV_s]
      · rw [if_neg (fun q => h2 q.2)]
        refine ⟨w, Int32.ofInt 0, z_To_tr (t := (18, [some (.ref 17), some (.int (Int32.ofInt 0)), none, none], (n, z_q im, jM w, jL u))) (z_To_1 ((e_Reader_readMate_0 ..).trans ?_)) (z_To_1 ((e_Reader_readMate_18 ..).trans ?_)), hQ, fD_rf w⟩
        · rw [e3, if_pos (ji_eq_p (by omega) (by decide) h1), e9, e5, s_im hQ.2 v1 v3 (fun i hi => by have := v4 i hi; dsimp only; omega) (by omega), z_oI_s, if_pos (ji_b_p h2)]
        · rw [if_pos (by decide)]
    · rw [if_neg (fun q => h1 q.1)]
      refine ⟨w, Int32.ofInt 0, z_To_tr (t := (18, [some (.ref 17), some (.int (Int32.ofInt 0)), none, none], (n, z_q im, jM w, jL u))) (z_To_1 ((e_Reader_readMate_0 ..).trans ?_)) (z_To_1 ((e_Reader_readMate_18 ..).trans ?_)), hQ, fD_rf w⟩
      · rw [e3, if_neg (ji_eq_n (by omega) (by decide) h1)]
      · rw [if_pos (by decide)]
  obtain ⟨w1, x1, s1, s2, s3⟩ := st1
  have hr1 : (A_m1 v r).2.2 = r.2.2 := A_m1_t v r
  have p3 : w1 17 3 = r.2.2.2.2.1 := by rw [← hr1]; exact s2.1.2.1.2.1
  have p5 : w1 17 5 = r.2.2.2.2.2 := by rw [← hr1]; exact s2.1.2.1.2.2.2
  have p9 : w1 10 9 = v 8 := s2.2.2.2.2.2.2.2.2.2.2.1
  have p8 : w1 10 8 = v 7 := s2.2.2.2.2.2.2.2.2.2.1
  have f3 : ((jM w1, jL u) : zD).1 17 3 = Int32.ofInt r.2.2.2.2.1 := by rw [← p3]; rfl
  have f5 : ((jM w1, jL u) : zD).1 17 5 = Int32.ofInt r.2.2.2.2.2 := by rw [← p5]; rfl
  have f9 : ((jM w1, jL u) : zD).1 10 9 = Int32.ofInt (v 8) := by rw [← p9]; rfl
  have sz : w1 16 (7 * (v 8).toNat + 1) = v (78 + 7 * (v 8).toNat + 1) := by
    rw [s2.2.2.2.2.2.2.2.2.2.2.2.2.2 (7 * (v 8).toNat + 1) (by omega), show 78 + (7 * (v 8).toNat + 1) = 78 + 7 * (v 8).toNat + 1 by omega]
  have st2 : ∃ w2 x2, z_To (z_F (e + 3)) cd_Reader_readMate (24, [some (.ref 17), some (.int x1), none, none], (n, z_q im, jM w1, jL u)) (53, [some (.ref 17), some (.int x1), some (.int x2), none], (n, z_q im, jM w2, jL u)) ∧ S_c w2 U tp (A_m2 v (A_m1 v r), v) ∧ fD w1 w2 := by
    unfold A_m2
    rw [hr1]
    by_cases h1 : v (78 + 7 * (v 8).toNat + 1) = 5
    · have g0 : z_To (z_F (e + 3)) cd_Reader_readMate (24, [some (.ref 17), some (.int x1), none, none], (n, z_q im, jM w1, jL u)) (37, [some (.ref 17), some (.int x1), some (.int (Int32.ofInt 1)), none], (n, z_q im, jM w1, jL u)) := by
        refine z_To_1 ((e_Reader_readMate_24 ..).trans ?_)
        rw [f9, s_sizeOf_10 (by omega) (by omega), z_oI_s, sz, if_pos (ji_eq_p (by omega) (by decide) h1)]
      by_cases h2 : r.2.2.2.2.1 = 2
      · by_cases h3 : 0 ≤ r.2.2.2.2.2 ∧ r.2.2.2.2.2 < v 7
        · rw [if_pos ⟨h1, h2, h3⟩]
          obtain ⟨w2, k1, k2, k3⟩ := S_fl (e := e + 2) (n := n) (im := im) (u := u) (k := 3) (by decide) s2
          refine ⟨w2, Int32.ofInt 1, z_To_tr g0 (z_To_1 ((e_Reader_readMate_37 ..).trans ?_)), k2, k3⟩
          rw [if_neg (by decide), f3, if_pos (ji_eq_p (by omega) (by decide) h2), f5, s_hasMan_10 (by omega) (by omega), z_oI_s, p8, if_neg (ji_b_n h3), k1, z_oV_s]
        · rw [if_neg (fun q => h3 q.2.2)]
          refine ⟨w1, Int32.ofInt 1, z_To_tr g0 (z_To_1 ((e_Reader_readMate_37 ..).trans ?_)), s2, fD_rf w1⟩
          rw [if_neg (by decide), f3, if_pos (ji_eq_p (by omega) (by decide) h2), f5, s_hasMan_10 (by omega) (by omega), z_oI_s, p8, if_pos (ji_b_p h3)]
      · rw [if_neg (fun q => h2 q.2.1)]
        refine ⟨w1, Int32.ofInt 1, z_To_tr g0 (z_To_1 ((e_Reader_readMate_37 ..).trans ?_)), s2, fD_rf w1⟩
        rw [if_neg (by decide), f3, if_neg (ji_eq_n (by omega) (by decide) h2)]
    · rw [if_neg (fun q => h1 q.1)]
      refine ⟨w1, Int32.ofInt 0, z_To_tr (t := (37, [some (.ref 17), some (.int x1), some (.int (Int32.ofInt 0)), none], (n, z_q im, jM w1, jL u))) (z_To_1 ((e_Reader_readMate_24 ..).trans ?_)) (z_To_1 ((e_Reader_readMate_37 ..).trans ?_)), s2, fD_rf w1⟩
      · rw [f9, s_sizeOf_10 (by omega) (by omega), z_oI_s, sz, if_neg (ji_eq_n (by omega) (by decide) h1)]
      · rw [if_pos (by decide)]
  obtain ⟨w2, x2, l1, l2, l3⟩ := st2
  have l2' : S_c w2 U tp (A_m3 v r, v) := l2
  obtain ⟨w3, k1, k2, k3⟩ := S_nu (e := e) (n := n) (im := im) (u := u) 0 (v 7 - 1) (by decide) (by omega) hw l2'
  have m8 : w2 10 8 = v 7 := l2.2.2.2.2.2.2.2.2.2.1
  have n8 : ((jM w2, jL u) : zD).1 10 8 = Int32.ofInt (v 7) := by rw [← m8]; rfl
  have m9 : w3 10 9 = v 8 := k2.2.2.2.2.2.2.2.2.2.2.1
  have n9 : ((jM w3, jL u) : zD).1 10 9 = Int32.ofInt (v 8) := by rw [← m9]; rfl
  have m6 : w3 17 6 = (A_nt 0 (v 7 - 1) (A_m3 v r)).1 := k2.1.2.2.1.1.trans (A_nx_1 _ _ _)
  have n6 : ((jM w3, jL u) : zD).1 17 6 = Int32.ofInt (A_nt 0 (v 7 - 1) (A_m3 v r)).1 := by rw [← m6]; rfl
  have fb : 0 ≤ (A_nt 0 (v 7 - 1) (A_m3 v r)).1 ∧ (A_nt 0 (v 7 - 1) (A_m3 v r)).1 ≤ 3 := by rw [← A_nx_1 U tp]; exact k2.1.2.2.2.2
  by_cases h : (A_nt 0 (v 7 - 1) (A_m3 v r)).1 = 0
  · have E : A_ma U tp (r, v) = (A_nu U tp 0 (v 7 - 1) (A_m3 v r), a_up (a_up v (78 + 7 * (v 8).toNat + 2 + (v (78 + 7 * (v 8).toNat + 1)).toNat) (A_vl 0 (v 7 - 1) (A_m3 v r))) (78 + 7 * (v 8).toNat + 1) (v (78 + 7 * (v 8).toNat + 1) + 1)) := by
      unfold A_ma
      dsimp only
      rw [if_pos h]
    rw [E]
    have g := (A_m3_g hV h).2.1
    have sz3 : w3 16 (7 * (v 8).toNat + 1) = v (78 + 7 * (v 8).toNat + 1) := by
      rw [k2.2.2.2.2.2.2.2.2.2.2.2.2.2 (7 * (v 8).toNat + 1) (by omega), show 78 + (7 * (v 8).toNat + 1) = 78 + 7 * (v 8).toNat + 1 by omega]
    refine ⟨_, n_Reader_readMate (s1 _ (l1 _ (z_ret ((e_Reader_readMate_53 ..).trans ?_)))), S_16 (k := 7 * (v 8).toNat + 1) (S_16 (k := 7 * (v 8).toNat + 2 + (v (78 + 7 * (v 8).toNat + 1)).toNat) (x := A_vl 0 (v 7 - 1) (A_m3 v r)) k2 (by omega) (by omega)) (by omega) (by omega), fD_tr s3 (fD_tr l3 (fD_tr k3 (fD_tr (fD_u (by decide)) (fD_u (by decide)))))⟩
    rw [n8, ji_sub, k1, z_oI_s, n6, if_pos (ji_eq0_p (by omega) h), n9, s_addMate_10 (by omega) (by omega) sz3 (by omega) (by omega), z_oV_s]
  · have E : A_ma U tp (r, v) = (A_nu U tp 0 (v 7 - 1) (A_m3 v r), v) := by
      unfold A_ma
      dsimp only
      rw [if_neg h]
    rw [E]
    refine ⟨w3, n_Reader_readMate (s1 _ (l1 _ (z_ret ((e_Reader_readMate_53 ..).trans ?_)))), k2, fD_tr s3 (fD_tr l3 k3)⟩
    rw [n8, ji_sub, k1, z_oI_s, n6, if_neg (ji_eq0_n (by omega) h)]
def A_ms (U : Nat) (tp : Nat → Int) : Nat → zS → zS
  | 0, s => s
  | f + 1, s => if s.1.2.2.2.2.1 = 2 ∧ s.1.1 = 0 then A_ms U tp f (A_ma U tp s) else s
theorem l_te {e n : Nat} {im : Nat → Option Nat} {u : Nat → Nat → Int} {U : Nat} {tp : Nat → Int} (hw : T_w U tp) : ∀ (f : Nat) (s : zS) (w : Nat → Nat → Int) (x : Int), S_c w U tp s → V_m s.2 → (s.1.1 = 0 → 6 ≤ (f : Int) + s.2 (78 + 7 * (s.2 8).toNat + 1)) → (0 ≤ x ∧ x + (f : Int) ≤ 1000) → ∃ w', z_Rn (z_F (e + 4)) cd_Reader_readTeam 30 [some (.ref 17), some (.int (Int32.ofInt x))] (n, z_q im, jM w, jL u) (none, (n, z_q im, jM w', jL u)) ∧ S_c w' U tp ((A_ms U tp f s).1, a_up (A_ms U tp f s).2 8 ((A_ms U tp f s).2 8 + 1)) ∧ fD w w'
  | f, s, w, x, hQ, hV, hf, hx => by
    have q3 : w 17 3 = s.1.2.2.2.2.1 := hQ.1.2.1.2.1
    have q6 : w 17 6 = s.1.1 := hQ.1.2.2.1.1
    have q9 : w 10 9 = s.2 8 := hQ.2.2.2.2.2.2.2.2.2.2.1
    have e3 : ((jM w, jL u) : zD).1 17 3 = Int32.ofInt s.1.2.2.2.2.1 := by rw [← q3]; rfl
    have e6 : ((jM w, jL u) : zD).1 17 6 = Int32.ofInt s.1.1 := by rw [← q6]; rfl
    have e9 : ((jM w, jL u) : zD).1 10 9 = Int32.ofInt (s.2 8) := by rw [← q9]; rfl
    have tk3 := hQ.1.2.2.2.1.2.2.1
    have fb := hQ.1.2.2.2.2
    have hsz := hV.2.2.1
    by_cases hc : s.1.2.2.2.2.1 = 2 ∧ s.1.1 = 0
    · obtain ⟨g, rfl⟩ : ∃ g, f = g + 1 := ⟨f - 1, by have := hf hc.2; omega⟩
      have E : A_ms U tp (g + 1) s = A_ms U tp g (A_ma U tp s) := by simp only [A_ms]; rw [if_pos hc]
      rw [E]
      obtain ⟨w1, k1, k2, k3⟩ := S_ma (e := e) (n := n) (im := im) (u := u) (r := s.1) (v := s.2) hw hQ hV
      obtain ⟨a1, a2, a3, a4⟩ := V_ma (U := U) (tp := tp) (r := s.1) hV
      obtain ⟨w2, l1, l2, l3⟩ := l_te (e := e) (n := n) (im := im) (u := u) hw g (A_ma U tp s) w1 (x + 1) k2 a1 (fun q => by
        have b1 := a4 q
        have b2 := hf hc.2
        have b3 : (A_ma U tp s).2 (78 + 7 * ((A_ma U tp s).2 8).toNat + 1) = s.2 (78 + 7 * (s.2 8).toNat + 1) + 1 := by
          have : (A_ma U tp s).2 8 = s.2 8 := a2
          rw [this]; exact b1
        rw [b3]; omega) (by omega)
      refine ⟨w2, z_go ((e_Reader_readTeam_30 ..).trans ?_) l1, l2, fD_tr k3 l3⟩
      rw [if_neg (ji_le_n (by decide) (by omega) (by omega)), e3, if_pos (ji_eq_p (by omega) (by decide) hc.1), e6, if_pos (ji_eq0_p (by omega) hc.2), k1, z_oV_s, ji_add]
    · have E : A_ms U tp f s = s := by
        cases f with
        | zero => rfl
        | succ g => simp only [A_ms]; rw [if_neg hc]
      rw [E]
      refine ⟨z_u w 10 9 (s.2 8 + 1), z_ret ((e_Reader_readTeam_30 ..).trans ?_), S_f9 (r := s.1) (v := s.2) hQ, fD_u (by decide)⟩
      rw [if_neg (ji_le_n (by decide) (by omega) (by omega)), e3]
      by_cases h1 : s.1.2.2.2.2.1 = 2
      · rw [if_pos (ji_eq_p (by omega) (by decide) h1), e6, if_neg (ji_eq0_n (by omega) (fun q => hc ⟨h1, q⟩)), e9, ji_add, jM_u]
      · rw [if_neg (ji_eq_n (by omega) (by decide) h1), e9, ji_add, jM_u]
termination_by f => f
def A_t1 (U : Nat) (tp : Nat → Int) (s : zS) : zS := (A_nu U tp 0 (s.2 6 - 1) (A_nx U tp s.1), a_up s.2 (78 + 7 * (s.2 8).toNat) (A_vl 0 (s.2 6 - 1) (A_nx U tp s.1)))
def A_t2 (U : Nat) (tp : Nat → Int) (s : zS) : zS := A_ms U tp 6 (A_ma U tp (A_t1 U tp s))
def A_te (U : Nat) (tp : Nat → Int) (s : zS) : zS := if s.2 8 = 4 then (A_fl 3 s.1, s.2) else ((A_t2 U tp s).1, a_up (A_t2 U tp s).2 8 ((A_t2 U tp s).2 8 + 1))
theorem V_t1 {U : Nat} {tp : Nat → Int} {r : zR} {v : Nat → Int} (h7 : 0 ≤ v 7 ∧ v 7 ≤ 10) (h8 : 0 ≤ v 8 ∧ v 8 ≤ 3) (hz : v (78 + 7 * (v 8).toNat + 1) = 0) : V_m (A_t1 U tp (r, v)).2 ∧ (A_t1 U tp (r, v)).2 8 = v 8 ∧ (A_t1 U tp (r, v)).2 (78 + 7 * (v 8).toNat + 1) = 0 := by
  have p8 : (A_t1 U tp (r, v)).2 8 = v 8 := a_up_ne (show 8 ≠ 78 + 7 * (v 8).toNat by omega)
  have p7 : (A_t1 U tp (r, v)).2 7 = v 7 := a_up_ne (show 7 ≠ 78 + 7 * (v 8).toNat by omega)
  have p1 : (A_t1 U tp (r, v)).2 (78 + 7 * (v 8).toNat + 1) = 0 := (a_up_ne (show 78 + 7 * (v 8).toNat + 1 ≠ 78 + 7 * (v 8).toNat by omega)).trans hz
  refine ⟨?_, p8, p1⟩
  unfold V_m
  rw [p8, p7, p1]
  exact ⟨h8, h7, by omega, fun i hi => by omega⟩
theorem S_te {e n : Nat} {im : Nat → Option Nat} {w u : Nat → Nat → Int} {U : Nat} {tp : Nat → Int} {r : zR} {v : Nat → Int} (hw : T_w U tp) (hQ : S_c w U tp (r, v)) (h6 : 0 ≤ v 6 ∧ v 6 ≤ 4) (h7 : 0 ≤ v 7 ∧ v 7 ≤ 10) (h8 : 0 ≤ v 8 ∧ v 8 ≤ 4) (hz : v 8 ≤ 3 → v (78 + 7 * (v 8).toNat + 1) = 0) : ∃ w', (z_F (e + 5)).2.2.1 k_Reader_readTeam [.ref 17] (n, z_q im, jM w, jL u) = some (jM w', jL u) ∧ S_c w' U tp (A_te U tp (r, v)) ∧ fD w w' := by
  have q9 : w 10 9 = v 8 := hQ.2.2.2.2.2.2.2.2.2.2.1
  have e9 : ((jM w, jL u) : zD).1 10 9 = Int32.ofInt (v 8) := by rw [← q9]; rfl
  unfold A_te
  by_cases h : v 8 = 4
  · rw [if_pos (show ((r, v) : zS).2 8 = 4 from h)]
    obtain ⟨w1, k1, k2, k3⟩ := S_fl (e := e + 3) (n := n) (im := im) (u := u) (k := 3) (by decide) hQ
    refine ⟨w1, n_Reader_readTeam (z_ret ((e_Reader_readTeam_0 ..).trans ?_)), k2, k3⟩
    rw [e9, if_pos (ji_eq_p (by omega) (by decide) h), k1, z_oV_s]
  · rw [if_neg (show ¬ ((r, v) : zS).2 8 = 4 from h)]
    obtain ⟨w1, k1, k2, k3⟩ := S_nx (e := e + 2) (n := n) (im := im) (u := u) hw hQ
    obtain ⟨w2, l1, l2, l3⟩ := S_nu (e := e + 1) (n := n) (im := im) (u := u) 0 (v 6 - 1) (by decide) (by omega) hw k2
    have m7 : w1 10 7 = v 6 := k2.2.2.2.2.2.2.2.2.1
    have m9 : w1 10 9 = v 8 := k2.2.2.2.2.2.2.2.2.2.2.1
    have n7 : ((jM w1, jL u) : zD).1 10 7 = Int32.ofInt (v 6) := by rw [← m7]; rfl
    have n9 : ((jM w1, jL u) : zD).1 10 9 = Int32.ofInt (v 8) := by rw [← m9]; rfl
    have l4 : S_c (z_u w2 16 (7 * (v 8).toNat) (A_vl 0 (v 6 - 1) (A_nx U tp r))) U tp (A_t1 U tp (r, v)) := S_16 (k := 7 * (v 8).toNat) (q := 78 + 7 * (v 8).toNat) l2 (by omega) (by omega)
    obtain ⟨V1, V2, V3⟩ := V_t1 (U := U) (tp := tp) (r := r) h7 (by omega) (hz (by omega))
    obtain ⟨w3, i1, i2, i3⟩ := S_ma (e := e) (n := n) (im := im) (u := u) (r := (A_t1 U tp (r, v)).1) (v := (A_t1 U tp (r, v)).2) hw l4 V1
    obtain ⟨a1, a2, a3, a4⟩ := V_ma (U := U) (tp := tp) (r := (A_t1 U tp (r, v)).1) V1
    have a1' : V_m (A_ma U tp (A_t1 U tp (r, v))).2 := a1
    obtain ⟨w4, j1, j2, j3⟩ := l_te (e := e) (n := n) (im := im) (u := u) hw 6 (A_ma U tp (A_t1 U tp (r, v))) w3 0 i2 a1' (fun _ => by have := a1'.2.2.1; omega) (by omega)
    refine ⟨w4, n_Reader_readTeam (z_go ((e_Reader_readTeam_0 ..).trans ?_) j1), j2, fD_tr k3 (fD_tr l3 (fD_tr (fD_u (by decide)) (fD_tr i3 j3)))⟩
    rw [e9, if_neg (ji_eq_n (by omega) (by decide) h), k1, z_oV_s, n7, ji_sub, l1, z_oI_s, n9, s_setBoatOf_10 (by omega) (by omega), z_oV_s, i1, z_oV_s]
