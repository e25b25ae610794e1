/-! himself, odd -/
abbrev b_op (Bt : Int32) (g : Nat) : Prop := (Bt >>> (Int32.ofInt (g : Int) &&& 31)) &&& Int32.ofInt 1 = Int32.ofInt 1
def f_p (v : Nat → Int) (nm : Nat → Nat → Int64) (s : Int) (i : Nat) (g : Int) : Int := a_ft (a_kd (v 3) (v 4) g) (a_T v (n_A nm s (3 * i))) (a_T v (n_A nm s (3 * i + 1))) (a_sp v 0 1) 0 0
def p_su (v : Nat → Int) (nm : Nat → Nat → Int64) (s q : Int) (Bt : Int32) (i g : Nat) : Int := if b_op Bt g ∧ f_p v nm s i g ≠ q + 1 then 0 else -1
def c_su (v : Nat → Int) (nm : Nat → Nat → Int64) (s q : Int) (Bt : Int32) (i : Nat) : Int := if a_f1 (p_su v nm s q Bt i) 0 21 = -1 then 1 else 0
def V_himself (v z : Nat → Int) (nm : Nat → Nat → Int64) (s q : Int) : Int := if 0 ≤ q ∧ q ≤ 2 then (if F_p v z nm s = 0 then (if B_g v nm s (z s.toNat / 3).toNat = 0 then -1 else a_cnt (c_su v nm s q (B_g v nm s (z s.toNat / 3).toNat)) (z s.toNat / 3).toNat) else F_p v z nm s) else -2
theorem x_isSure {e n : Nat} {im : Nat → Option Nat} {w u : Nat → Nat → Int} {v z wd : Nat → Int} {nm : Nat → Nat → Int64} {s k : Int} {N i : Nat} {Bt : Int32} (hv : c_v w v) (hw : a_wf v) (hs : c_s w u z wd nm) (hws : w_s z wd nm) (h1 : 0 ≤ s ∧ s ≤ 3) (h6 : 2 ≤ v 6) (hz : z s.toNat = 3 * (N : Int)) (hok : ∀ p, p < N → P_ok v nm s p) (hi : i < N) (hk : 0 ≤ k ∧ k ≤ 2) : ∃ w', (z_F (e + 7)).1 k_LongBoats_isSure [.ref 0, .int (Int32.ofInt s), .int (Int32.ofInt (3 * (i : Int))), .int (Int32.ofInt (k + 1)), .int Bt] (n, z_q im, jM w, jL u) = some (Int32.ofInt (c_su v nm s k Bt i), jM w', jL u) ∧ c_v w' v ∧ c_fr w w' := by
  obtain ⟨w2, q1, q2, q3, q4, q5, q6, q7⟩ := x_show (e := e) (n := n) (im := im) (u := u) hv hw hs hws h1 h6 hz hok hi
  have key := z_fnd (o := z_F (e + 6)) (cd := cd_LongBoats_isSure) (p := p_su v nm s k Bt i) (P := fun g t => ∃ q6, t = (7, [some (.ref 0), some (.int (Int32.ofInt s)), some (.int (Int32.ofInt (3 * (i : Int)))), some (.int (Int32.ofInt (k + 1))), some (.int Bt), some (.int (Int32.ofInt (g : Int))), q6], (n, z_q im, jM w2, jL u))) (Q := fun x r => r = (some (.int (Int32.ofInt 0)), (n, z_q im, jM w2, jL u))) 21 0 (7, [some (.ref 0), some (.int (Int32.ofInt s)), some (.int (Int32.ofInt (3 * (i : Int)))), some (.int (Int32.ofInt (k + 1))), some (.int Bt), some (.int (Int32.ofInt 0)), none], (n, z_q im, jM w2, jL u)) ⟨none, rfl⟩ (fun g t hg1 hg2 hP => by
    obtain ⟨q9, rfl⟩ := hP
    obtain ⟨r1, r2, r3⟩ := x_shr (e := e + 3) (n := n) (im := im) (u := u) (g := (g : Int)) hw q2 q5 q6 q7 (by omega)
    have hfb := a_ft_b (a_kd (v 3) (v 4) g) (a_T v (n_A nm s (3 * i))) (a_T v (n_A nm s (3 * i + 1))) (a_sp v 0 1) 0 0
    change (z_F (e + 6)).1 k_Duel_fateOfOne _ _ = some (Int32.ofInt (f_p v nm s i g), _) at r3
    change 0 ≤ f_p v nm s i g ∧ f_p v nm s i g ≤ 3 at hfb
    by_cases ho : b_op Bt g
    · by_cases hf : f_p v nm s i g = k + 1
      · have hp : p_su v nm s k Bt i g = -1 := if_neg (fun q => q.2 hf)
        refine ⟨fun _ => ⟨(7, [some (.ref 0), some (.int (Int32.ofInt s)), some (.int (Int32.ofInt (3 * (i : Int)))), some (.int (Int32.ofInt (k + 1))), some (.int Bt), some (.int (Int32.ofInt ((g : Int) + 1))), some (.int (Int32.ofInt 1))], (n, z_q im, jM w2, jL u)), z_To_1 ((e_LongBoats_isSure_7 ..).trans ?_), _, rfl⟩, fun q => absurd hp q⟩
        rw [if_neg (ji_lt_n (by decide) (by omega) (by omega)), if_pos ho, if_neg (show ¬ Int32.ofInt 1 = 0 by decide), r1, z_oI_s, r3, z_oI_s, if_pos (ji_eq_p (by omega) (by omega) hf), ji_add]
      · have hp : p_su v nm s k Bt i g = 0 := if_pos ⟨ho, hf⟩
        rw [hp]
        refine ⟨fun q => by omega, fun _ => ⟨(some (.int (Int32.ofInt 0)), (n, z_q im, jM w2, jL u)), z_ret ((e_LongBoats_isSure_7 ..).trans ?_), rfl⟩⟩
        rw [if_neg (ji_lt_n (by decide) (by omega) (by omega)), if_pos ho, if_neg (show ¬ Int32.ofInt 1 = 0 by decide), r1, z_oI_s, r3, z_oI_s, if_neg (ji_eq_n (by omega) (by omega) hf)]
    · have hp : p_su v nm s k Bt i g = -1 := if_neg (fun q => ho q.1)
      refine ⟨fun _ => ⟨(7, [some (.ref 0), some (.int (Int32.ofInt s)), some (.int (Int32.ofInt (3 * (i : Int)))), some (.int (Int32.ofInt (k + 1))), some (.int Bt), some (.int (Int32.ofInt ((g : Int) + 1))), some (.int (Int32.ofInt 0))], (n, z_q im, jM w2, jL u)), z_To_1 ((e_LongBoats_isSure_7 ..).trans ?_), _, rfl⟩, fun q => absurd hp q⟩
      rw [if_neg (ji_lt_n (by decide) (by omega) (by omega)), if_neg ho, if_pos (show Int32.ofInt 0 = 0 from rfl), ji_add])
  refine ⟨w2, n_LongBoats_isSure (z_go (ip' := 7) (lv' := [some (.ref 0), some (.int (Int32.ofInt s)), some (.int (Int32.ofInt (3 * (i : Int)))), some (.int (Int32.ofInt (k + 1))), some (.int Bt), some (.int (Int32.ofInt 0)), none]) (m' := (n, z_q im, jM w2, jL u)) ((e_LongBoats_isSure_0 ..).trans ?_) ?_), q3, q4⟩
  · rw [q1, z_oV_s]
  · unfold c_su
    rcases key with ⟨k1, t, k2, q9, rfl⟩ | ⟨k1, r, k2, rfl⟩
    · refine k2 _ (z_ret ((e_LongBoats_isSure_7 ..).trans ?_))
      rw [if_pos k1, if_pos (ji_lt_p (by decide) (by decide) (by decide))]
    · rw [if_neg k1]; exact k2
theorem x_himself {e n : Nat} {im : Nat → Option Nat} {w u : Nat → Nat → Int} {v z wd : Nat → Int} {nm : Nat → Nat → Int64} {s k : Int} (hv : c_v w v) (hw : a_wf v) (hs : c_s w u z wd nm) (hws : w_s z wd nm) (hss : jR s) (hk : jR k) : ∃ w', (z_F (e + 20)).1 k_LongBoats_himself [.ref 0, .int (Int32.ofInt s), .int (Int32.ofInt k)] (n, z_q im, jM w, jL u) = some (Int32.ofInt (V_himself v z nm s k), jM w', jL u) ∧ c_fr w w' := by
  unfold V_himself
  have hb := F_p_b v z nm s
  by_cases hk1 : 0 ≤ k ∧ k ≤ 2
  · rw [if_pos hk1]
    by_cases h0 : F_p v z nm s = 0
    · obtain ⟨h1, h6, N, hN, hz, hok⟩ := F_p_0 hws h0
      rw [if_pos h0, show (z s.toNat / 3).toNat = N by omega]
      obtain ⟨w', q1, q2, q3⟩ := x_gapBits (e := e + 12) (n := n) (im := im) (u := u) hv hw hs hws h1 h6 hN hz hok
      generalize B_g v nm s N = Bt at q1 ⊢
      by_cases hB : Bt = 0
      · rw [if_pos hB]
        refine ⟨w', n_LongBoats_himself (z_ret ((e_LongBoats_himself_0 ..).trans ?_)), q3⟩
        rw [s_within hk (by decide) (by decide), z_oI_s, if_neg (ji_b_n hk1), x_pf hv hw hs hws hss, z_oI_s, if_pos (ji_eq0_p (by omega) h0), q1, z_oI_s, if_pos hB]
      · rw [if_neg hB]
        obtain ⟨t, ht, wf, rfl, hvf, hff⟩ := z_for (o := z_F (e + 19)) (cd := cd_LongBoats_himself) (P := fun i t => ∃ wi, t = (28, [some (.ref 0), some (.int (Int32.ofInt s)), some (.int (Int32.ofInt k)), some (.int (Int32.ofInt (F_p v z nm s))), some (.int Bt), some (.int (Int32.ofInt (a_cnt (c_su v nm s k Bt) i))), some (.int (Int32.ofInt (3 * (i : Int))))], (n, z_q im, jM wi, jL u)) ∧ c_v wi v ∧ c_fr w wi) N (s := (28, [some (.ref 0), some (.int (Int32.ofInt s)), some (.int (Int32.ofInt k)), some (.int (Int32.ofInt (F_p v z nm s))), some (.int Bt), some (.int (Int32.ofInt 0)), some (.int (Int32.ofInt 0))], (n, z_q im, jM w', jL u))) ⟨w', rfl, q2, q3⟩ (fun i t hi hP => by
          obtain ⟨wi, rfl, hvi, hfi⟩ := hP
          have hsi := c_s_fr hs hfi
          obtain ⟨w3, r1, r2, r3⟩ := x_isSure (e := e + 12) (n := n) (im := im) (u := u) (Bt := Bt) hvi hw hsi hws h1 h6 hz hok hi hk1
          refine ⟨(28, [some (.ref 0), some (.int (Int32.ofInt s)), some (.int (Int32.ofInt k)), some (.int (Int32.ofInt (F_p v z nm s))), some (.int Bt), some (.int (Int32.ofInt (a_cnt (c_su v nm s k Bt) (i + 1)))), some (.int (Int32.ofInt (3 * ((i + 1 : Nat) : Int))))], (n, z_q im, jM w3, jL u)), z_To_1 ((e_LongBoats_himself_28 ..).trans ?_), w3, rfl, r2, c_fr_tr hfi r3⟩
          have hx : a_cnt (c_su v nm s k Bt) (i + 1) = a_cnt (c_su v nm s k Bt) i + c_su v nm s k Bt i := rfl
          rw [s_ssize h1, z_oI_s, (hsi s.toNat (by omega)).1, ji_add, if_neg (ji_le_n (by omega) (by omega) (by omega)), ji_add, r1, z_oI_s, hx, show 3 * ((i + 1 : Nat) : Int) = 3 * (i : Int) + 3 by omega]
          simp only [ji_add]
          have hcs : c_su v nm s k Bt i = if a_f1 (p_su v nm s k Bt i) 0 21 = -1 then 1 else 0 := rfl
          rw [hcs]
          by_cases hh : a_f1 (p_su v nm s k Bt i) 0 21 = -1
          · rw [if_neg (ji_b_n hh), if_pos hh]
          · rw [if_pos (ji_b_p hh), if_neg hh])
        have hsf := c_s_fr hs hff
        refine ⟨wf, n_LongBoats_himself (z_go ((e_LongBoats_himself_0 ..).trans ?_) (ht _ (z_ret ((e_LongBoats_himself_28 ..).trans ?_)))), hff⟩
        · rw [s_within hk (by decide) (by decide), z_oI_s, if_neg (ji_b_n hk1), x_pf hv hw hs hws hss, z_oI_s, if_pos (ji_eq0_p (by omega) h0), q1, z_oI_s, if_neg hB]
        · rw [s_ssize h1, z_oI_s, (hsf s.toNat (by omega)).1, ji_add, if_pos (ji_le_p (by omega) (by omega) (by omega))]
    · refine ⟨w, n_LongBoats_himself (z_ret ((e_LongBoats_himself_0 ..).trans ?_)), c_fr_rf w⟩
      rw [if_neg h0, s_within hk (by decide) (by decide), z_oI_s, if_neg (ji_b_n hk1), x_pf hv hw hs hws hss, z_oI_s, if_neg (ji_eq0_n (by omega) h0)]
  · refine ⟨w, n_LongBoats_himself (z_ret ((e_LongBoats_himself_0 ..).trans ?_)), c_fr_rf w⟩
    rw [if_neg hk1, s_within hk (by decide) (by decide), z_oI_s, if_pos (ji_b_p hk1)]
theorem m_himself {e n : Nat} {im : Nat → Option Nat} {w u : Nat → Nat → Int} {z wd : Nat → Int} {nm : Nat → Nat → Int64} {s k : Int} (hw : a_wf (w 46)) (hs : m_s w u z wd nm) (hws : w_s z wd nm) (hss : jR s) (hk : jR k) : (z_F (e + 20)).1 k_Model_himself [.ref 45, .int (Int32.ofInt s), .int (Int32.ofInt k)] (n, z_q im, jM w, jL u) = some (Int32.ofInt (V_himself (w 46) z nm s k), jM w, jL u) := by
  obtain ⟨f0, f1, f2, f3, f4, f5, f6, f7, f8, f9, f10, f11, f12⟩ := id hw
  unfold V_himself
  have hb := F_p_b (w 46) z nm s
  have hin : (z_F (e + 19)).1 k_Model_in [.long (Int32.toInt64 (Int32.ofInt k)), .long (z_kl 0), .long (z_kl 5)] (n, z_q im, jM w, jL u) = some (Int32.ofInt (if 0 ≤ k ∧ k ≤ 2 then 1 else 0), jM w, jL u) := by
    rw [jl_of hk, kl_0, kl_5]
    exact s_in (by omega) (by decide) (by decide)
  by_cases hk1 : 0 ≤ k ∧ k ≤ 2
  · have hpf := m_pf (e := e + 15) (n := n) (im := im) (b := 1) hw hs hws hss (Or.inr rfl)
    rw [if_neg (by decide)] at hpf
    rw [if_pos hk1] at hin ⊢
    by_cases h0 : F_p (w 46) z nm s = 0
    · obtain ⟨h1, h6, N, hN, hz, hok⟩ := F_p_0 hws h0
      rw [if_pos h0, show (z s.toNat / 3).toNat = N by omega]
      have gs : ¬ (Int32.ofInt s < 0 ∨ 4 ≤ (Int32.ofInt s).toNatClampNeg) := by
        rw [ji_lt0 hss, ji_nat hss]
        omega
      have g61s : ((jM w, jL u) : zD).1 61 (Int32.ofInt s).toNatClampNeg = Int32.ofInt (z s.toNat) := by
        rw [ji_nat hss, ← (hs s.toNat (by omega)).1]
        rfl
      have b1 := f10 0 (by decide) (by omega)
      have b2 := f10 1 (by decide) (by omega)
      have spb := a_sp_b b1 b2 f0
      have hgo := m_gapsOf (e := e + 12) (n := n) (im := im) hw hs hws h1 h6 hN hz hok
      generalize B_g (w 46) nm s N = Bt at hgo ⊢
      by_cases hB : Bt = 0
      · rw [if_pos hB]
        refine n_Model_himself (z_ret ((e_Model_himself_0 ..).trans ?_))
        rw [hin, z_oI_s, hpf, z_oI_s, if_pos ((ji_0le (by omega)).mpr (by omega)), hgo, z_oI_s, if_pos hB]
      · rw [if_neg hB]
        obtain ⟨t, ht, q7, q8, rfl⟩ := z_for (o := z_F (e + 19)) (cd := cd_Model_himself) (P := fun i t => ∃ q7 q8, t = (26, [some (.ref 45), some (.int (Int32.ofInt s)), some (.int (Int32.ofInt k)), some (.int (Int32.ofInt (F_p (w 46) z nm s))), some (.int Bt), some (.int (Int32.ofInt (a_cnt (c_su (w 46) nm s k Bt) i))), some (.int (Int32.ofInt (3 * (i : Int)))), q7, q8], (n, z_q im, jM w, jL u))) N (s := (26, [some (.ref 45), some (.int (Int32.ofInt s)), some (.int (Int32.ofInt k)), some (.int (Int32.ofInt (F_p (w 46) z nm s))), some (.int Bt), some (.int (Int32.ofInt 0)), some (.int (Int32.ofInt 0)), none, none], (n, z_q im, jM w, jL u))) ⟨none, none, rfl⟩ (fun i t hi hP => by
          obtain ⟨q7, q8, rfl⟩ := hP
          obtain ⟨k1, k2, k3, k4⟩ := hok i hi
          obtain ⟨t, ht, rfl⟩ := z_for (o := z_F (e + 19)) (cd := cd_Model_himself) (P := fun g t => t = (37, [some (.ref 45), some (.int (Int32.ofInt s)), some (.int (Int32.ofInt k)), some (.int (Int32.ofInt (F_p (w 46) z nm s))), some (.int Bt), some (.int (Int32.ofInt (a_cnt (c_su (w 46) nm s k Bt) i))), some (.int (Int32.ofInt (3 * (i : Int)))), some (.int (Int32.ofInt (if a_f1 (p_su (w 46) nm s k Bt i) 0 g = -1 then 1 else 0))), some (.int (Int32.ofInt (g : Int)))], (n, z_q im, jM w, jL u))) 21 (s := (37, [some (.ref 45), some (.int (Int32.ofInt s)), some (.int (Int32.ofInt k)), some (.int (Int32.ofInt (F_p (w 46) z nm s))), some (.int Bt), some (.int (Int32.ofInt (a_cnt (c_su (w 46) nm s k Bt) i))), some (.int (Int32.ofInt (3 * (i : Int)))), some (.int (Int32.ofInt 1)), some (.int (Int32.ofInt 0))], (n, z_q im, jM w, jL u))) rfl (fun g t hg hP => by
            subst hP
            have hfb := a_ft_b (a_kd (w 46 3) (w 46 4) g) (a_T (w 46) (n_A nm s (3 * i))) (a_T (w 46) (n_A nm s (3 * i + 1))) (a_sp (w 46) 0 1) 0 0
            change 0 ≤ f_p (w 46) nm s i g ∧ f_p (w 46) nm s i g ≤ 3 at hfb
            have hwy : (z_F (e + 19)).1 k_Model_whyOf [.ref 45, .int (Int32.ofInt (n_A nm s (3 * i))), .int (Int32.ofInt (n_A nm s (3 * i + 1))), .int (Int32.ofInt (a_sp (w 46) 0 1)), .int (Int32.ofInt 0), .int (Int32.ofInt 0), .int (Int32.ofInt (g : Int))] (n, z_q im, jM w, jL u) = some (Int32.ofInt (f_p (w 46) nm s i g), jM w, jL u) := s_whyOf (by omega) (by omega) (by omega) (by omega) (f11 _ k1.1 k1.2) (f11 _ k2.1 k2.2) (by omega) (by decide) (by decide) (by omega) (by omega) (by omega)
            have hsp := a_f1_sp (p_su (w 46) nm s k Bt i) g 1 0
            have h11 : a_f1 (p_su (w 46) nm s k Bt i) (0 + g) 1 = p_su (w 46) nm s k Bt i g := by
              rw [a_f1_s, Nat.zero_add]
              show (if p_su (w 46) nm s k Bt i g = -1 then -1 else p_su (w 46) nm s k Bt i g) = _
              split <;> simp_all
            rw [h11] at hsp
            refine ⟨(37, [some (.ref 45), some (.int (Int32.ofInt s)), some (.int (Int32.ofInt k)), some (.int (Int32.ofInt (F_p (w 46) z nm s))), some (.int Bt), some (.int (Int32.ofInt (a_cnt (c_su (w 46) nm s k Bt) i))), some (.int (Int32.ofInt (3 * (i : Int)))), some (.int (Int32.ofInt (if a_f1 (p_su (w 46) nm s k Bt i) 0 (g + 1) = -1 then 1 else 0))), some (.int (Int32.ofInt ((g : Int) + 1)))], (n, z_q im, jM w, jL u)), z_To_1 ((e_Model_himself_37 ..).trans ?_), rfl⟩
            rw [if_neg (ji_lt_n (by decide) (by omega) (by omega)), hsp]
            by_cases hh : a_f1 (p_su (w 46) nm s k Bt i) 0 g = -1
            · rw [if_pos hh, if_pos hh]
              by_cases ho : b_op Bt g
              · rw [if_pos ho, if_neg (show ¬ Int32.ofInt 1 = 0 by decide)]
                simp only [ji_add]
                rw [s_mat hs hws h1 (by omega), z_oJ_s, s_mat hs hws h1 (by omega), z_oJ_s, show (3 * (i : Int)).toNat = 3 * i by omega, show (3 * (i : Int) + 1).toNat = 3 * i + 1 by omega, jl_to, jl_to, s_speedOf (by decide) (by decide) (by decide) (by decide) b1 b2 f0, z_oI_s, hwy, z_oI_s]
                by_cases hf : f_p (w 46) nm s i g = k + 1
                · have hp : p_su (w 46) nm s k Bt i g = -1 := if_neg (fun q => q.2 hf)
                  rw [if_pos (ji_eq_p (by omega) (by omega) hf), if_pos hp]
                · have hp : p_su (w 46) nm s k Bt i g = 0 := if_pos ⟨ho, hf⟩
                  rw [if_neg (ji_eq_n (by omega) (by omega) hf), if_neg (by rw [hp]; decide)]
              · have hp : p_su (w 46) nm s k Bt i g = -1 := if_neg (fun q => ho q.1)
                rw [if_neg ho, if_pos hp, ji_add]
            · rw [if_neg hh, if_neg hh, if_neg hh, ji_add]
              by_cases ho : b_op Bt g
              · rw [if_pos ho, if_pos (show Int32.ofInt 0 = 0 from rfl)]
              · rw [if_neg ho])
          refine ⟨(26, [some (.ref 45), some (.int (Int32.ofInt s)), some (.int (Int32.ofInt k)), some (.int (Int32.ofInt (F_p (w 46) z nm s))), some (.int Bt), some (.int (Int32.ofInt (a_cnt (c_su (w 46) nm s k Bt) (i + 1)))), some (.int (Int32.ofInt (3 * ((i + 1 : Nat) : Int)))), some (.int (Int32.ofInt (if a_f1 (p_su (w 46) nm s k Bt i) 0 21 = -1 then 1 else 0))), some (.int (Int32.ofInt ((21 : Nat) : Int)))], (n, z_q im, jM w, jL u)), z_To_tr (z_To_1 ((e_Model_himself_26 ..).trans ?_)) (z_To_tr ht (z_To_1 ((e_Model_himself_37 ..).trans ?_))), _, _, rfl⟩
          · rw [if_neg gs, g61s, if_neg (ji_le_n (by omega) (by omega) (by omega))]
          · have hx : a_cnt (c_su (w 46) nm s k Bt) (i + 1) = a_cnt (c_su (w 46) nm s k Bt) i + (if a_f1 (p_su (w 46) nm s k Bt i) 0 21 = -1 then 1 else 0) := rfl
            rw [if_pos (ji_lt_p (by decide) (by decide) (by decide)), hx, show 3 * ((i + 1 : Nat) : Int) = 3 * (i : Int) + 3 by omega]
            simp only [ji_add]
            by_cases hh : a_f1 (p_su (w 46) nm s k Bt i) 0 21 = -1
            · rw [if_neg (ji_b_n hh), if_pos hh]
            · rw [if_pos (ji_b_p hh), if_neg hh])
        refine n_Model_himself (z_go ((e_Model_himself_0 ..).trans ?_) (ht _ (z_ret ((e_Model_himself_26 ..).trans ?_))))
        · rw [hin, z_oI_s, hpf, z_oI_s, if_pos ((ji_0le (by omega)).mpr (by omega)), hgo, z_oI_s, if_neg hB]
        · rw [if_neg gs, g61s, if_pos (ji_le_p (by omega) (by omega) (by omega))]
    · refine n_Model_himself (z_ret ((e_Model_himself_0 ..).trans ?_))
      rw [if_neg h0, hin, z_oI_s, hpf, z_oI_s, if_neg (fun q => h0 (by have := (ji_0le (a := F_p (w 46) z nm s) (by omega)).mp q; omega))]
  · have hpf := m_pf (e := e + 15) (n := n) (im := im) (b := 0) hw hs hws hss (Or.inl rfl)
    rw [if_pos rfl] at hpf
    rw [if_neg hk1] at hin ⊢
    refine n_Model_himself (z_ret ((e_Model_himself_0 ..).trans ?_))
    rw [hin, z_oI_s, hpf, z_oI_s, if_neg (fun q => absurd ((ji_0le (a := -2) (by decide)).mp q) (by decide))]
def p_od (v : Nat → Int) (nm : Nat → Nat → Int64) (s : Int) (i : Nat) : Int := if so_ v nm s i (v 1) = true then -1 else (i : Int)
def V_odd (v z : Nat → Int) (nm : Nat → Nat → Int64) (s : Int) : Int := if F_p v z nm s = 0 then a_f1 (p_od v nm s) 0 (z s.toNat / 3).toNat else F_p v z nm s
theorem x_odd {e n : Nat} {im : Nat → Option Nat} {w u : Nat → Nat → Int} {v z wd : Nat → Int} {nm : Nat → Nat → Int64} {s : Int} (hv : c_v w v) (hw : a_wf v) (hs : c_s w u z wd nm) (hws : w_s z wd nm) (hss : jR s) : ∃ w', (z_F (e + 20)).1 k_LongBoats_odd [.ref 0, .int (Int32.ofInt s)] (n, z_q im, jM w, jL u) = some (Int32.ofInt (V_odd v z nm s), jM w', jL u) ∧ c_fr w w' := by
  obtain ⟨f0, f1, f2, f3, f4, f5, f6, f7, f8, f9, f10, f11, f12⟩ := id hw
  unfold V_odd
  have hb := F_p_b v z nm s
  by_cases h0 : F_p v z nm s = 0
  · obtain ⟨h1, h6, N, hN, hz, hok⟩ := F_p_0 hws h0
    rw [if_pos h0, show (z s.toNat / 3).toNat = N by omega]
    have key := z_fnd (o := z_F (e + 19)) (cd := cd_LongBoats_odd) (p := p_od v nm s) (P := fun i t => ∃ wi, t = (11, [some (.ref 0), some (.int (Int32.ofInt s)), some (.int (Int32.ofInt (F_p v z nm s))), some (.int (Int32.ofInt (3 * (i : Int))))], (n, z_q im, jM wi, jL u)) ∧ c_v wi v ∧ c_fr w wi) (Q := fun x r => ∃ wi, r = (some (.int (Int32.ofInt x)), (n, z_q im, jM wi, jL u)) ∧ c_fr w wi) N 0 (11, [some (.ref 0), some (.int (Int32.ofInt s)), some (.int (Int32.ofInt (F_p v z nm s))), some (.int (Int32.ofInt 0))], (n, z_q im, jM w, jL u)) ⟨w, rfl, hv, c_fr_rf w⟩ (fun i t hi1 hi hP => by
      obtain ⟨wi, rfl, hvi, hfi⟩ := hP
      have hsi := c_s_fr hs hfi
      obtain ⟨w2, q1, q2, q3, q4, q5, q6, q7⟩ := x_show (e := e + 13) (n := n) (im := im) (u := u) hvi hw hsi hws h1 h6 hz hok (show i < N by omega)
      have hs2 := c_s_fr hsi q4
      have e10 : w2 25 10 = v 1 := q2.2.2.2.2.2.2.2.1
      obtain ⟨r1, r2, r3⟩ := x_shr (e := e + 16) (n := n) (im := im) (u := u) (g := v 1) hw q2 q5 q6 q7 (by omega)
      have r4 := s_cat (e := e + 16) (n := n) (im := im) (i := 3 * (i : Int) + 2) hs2 hws h1 (by omega)
      rw [show (3 * (i : Int) + 2).toNat = 3 * i + 2 by omega] at r4
      have jC := n_A_q nm s (3 * i + 2)
      have hrb := a_rs_b (a_kd (v 3) (v 4) (v 1)) (a_T v (n_A nm s (3 * i))) (a_T v (n_A nm s (3 * i + 1))) (a_sp v 0 1) 0 0
      have hx : z_ex none (z_F (e + 19)) cd_LongBoats_odd 4000 (cd_LongBoats_odd.drop 11) 11 [some (.ref 0), some (.int (Int32.ofInt s)), some (.int (Int32.ofInt (F_p v z nm s))), some (.int (Int32.ofInt (3 * (i : Int))))] [] (n, z_q im, jM wi, jL u) = if so_ v nm s i (v 1) = true then some (.inr (11, [some (.ref 0), some (.int (Int32.ofInt s)), some (.int (Int32.ofInt (F_p v z nm s))), some (.int (Int32.ofInt (3 * ((i + 1 : Nat) : Int))))], [], (n, z_q im, jM w2, jL u))) else some (.inl (some (.int (Int32.ofInt (i : Int))), (n, z_q im, jM w2, jL u))) := by
        refine (e_LongBoats_odd_11 ..).trans ?_
        rw [s_ssize h1, z_oI_s, (hsi s.toNat (by omega)).1, ji_add, if_neg (ji_le_n (by omega) (by omega) (by omega)), q1, z_oV_s]
        simp only [jM_at, e10]
        rw [r1, z_oI_s, r2, z_oI_s, r4, z_oJ_s, jl_of (by omega), ji_add, ji_ediv (by omega) (by omega) (by decide) (by decide), show 3 * (i : Int) / 3 = (i : Int) by omega, show 3 * ((i + 1 : Nat) : Int) = 3 * (i : Int) + 3 by omega]
        by_cases hh : a_rs (a_kd (v 3) (v 4) (v 1)) (a_T v (n_A nm s (3 * i))) (a_T v (n_A nm s (3 * i + 1))) (a_sp v 0 1) 0 0 = n_A nm s (3 * i + 2)
        · rw [if_pos ((lc_eq _ _).mpr ((jl_eq (by omega) jC).mpr hh)), if_pos (show so_ v nm s i (v 1) = true from decide_eq_true hh)]
        · rw [if_neg (fun q => hh ((jl_eq (by omega) jC).mp ((lc_eq _ _).mp q))), if_neg (fun q : so_ v nm s i (v 1) = true => hh (of_decide_eq_true q))]
      by_cases hh : so_ v nm s i (v 1) = true
      · have hp : p_od v nm s i = -1 := if_pos hh
        exact ⟨fun _ => ⟨(11, [some (.ref 0), some (.int (Int32.ofInt s)), some (.int (Int32.ofInt (F_p v z nm s))), some (.int (Int32.ofInt (3 * ((i + 1 : Nat) : Int))))], (n, z_q im, jM w2, jL u)), z_To_1 (hx.trans (if_pos hh)), w2, rfl, q3, c_fr_tr hfi q4⟩, fun q => absurd hp q⟩
      · have hp : p_od v nm s i = i := if_neg hh
        rw [hp]
        exact ⟨fun q => by omega, fun _ => ⟨_, z_ret (hx.trans (if_neg hh)), w2, rfl, c_fr_tr hfi q4⟩⟩)
    have he : z_ex none (z_F (e + 19)) cd_LongBoats_odd 4000 (cd_LongBoats_odd.drop 0) 0 [some (.ref 0), some (.int (Int32.ofInt s)), none, none] [] (n, z_q im, jM w, jL u) = some (.inr (11, [some (.ref 0), some (.int (Int32.ofInt s)), some (.int (Int32.ofInt (F_p v z nm s))), some (.int (Int32.ofInt 0))], [], (n, z_q im, jM w, jL u))) := by
      refine (e_LongBoats_odd_0 ..).trans ?_
      rw [x_pf hv hw hs hws hss, z_oI_s, if_pos (ji_eq0_p (by omega) h0)]
    rcases key with ⟨k1, t, k2, wi, rfl, hvi, hfi⟩ | ⟨k1, r, k2, wi, rfl, hfi⟩
    · refine ⟨wi, n_LongBoats_odd (z_go he (k2 _ (z_ret ((e_LongBoats_odd_11 ..).trans ?_)))), hfi⟩
      rw [k1, s_ssize h1, z_oI_s, (c_s_fr hs hfi s.toNat (by omega)).1, ji_add, if_pos (ji_le_p (by omega) (by omega) (by omega))]
    · exact ⟨wi, n_LongBoats_odd (z_go he k2), hfi⟩
  · refine ⟨w, n_LongBoats_odd (z_ret ((e_LongBoats_odd_0 ..).trans ?_)), c_fr_rf w⟩
    rw [if_neg h0, x_pf hv hw hs hws hss, z_oI_s, if_neg (ji_eq0_n (by omega) h0)]
theorem m_odd {e n : Nat} {im : Nat → Option Nat} {w u : Nat → Nat → Int} {z wd : Nat → Int} {nm : Nat → Nat → Int64} {s : Int} (hw : a_wf (w 46)) (hs : m_s w u z wd nm) (hws : w_s z wd nm) (hss : jR s) : (z_F (e + 20)).1 k_Model_odd [.ref 45, .int (Int32.ofInt s)] (n, z_q im, jM w, jL u) = some (Int32.ofInt (V_odd (w 46) z nm s), jM w, jL u) := by
  obtain ⟨f0, f1, f2, f3, f4, f5, f6, f7, f8, f9, f10, f11, f12⟩ := id hw
  unfold V_odd
  have hb := F_p_b (w 46) z nm s
  have hpf := m_pf (e := e + 15) (n := n) (im := im) (b := 1) hw hs hws hss (Or.inr rfl)
  rw [if_neg (by decide)] at hpf
  by_cases h0 : F_p (w 46) z nm s = 0
  · obtain ⟨h1, h6, N, hN, hz, hok⟩ := F_p_0 hws h0
    rw [if_pos h0, show (z s.toNat / 3).toNat = N by omega]
    have gs : ¬ (Int32.ofInt s < 0 ∨ 4 ≤ (Int32.ofInt s).toNatClampNeg) := by
      rw [ji_lt0 hss, ji_nat hss]
      omega
    have g61s : ((jM w, jL u) : zD).1 61 (Int32.ofInt s).toNatClampNeg = Int32.ofInt (z s.toNat) := by
      rw [ji_nat hss, ← (hs s.toNat (by omega)).1]
      rfl
    have key := z_fnd (o := z_F (e + 19)) (cd := cd_Model_odd) (p := p_od (w 46) nm s) (P := fun i t => t = (12, [some (.ref 45), some (.int (Int32.ofInt s)), some (.int (Int32.ofInt (F_p (w 46) z nm s))), some (.int (Int32.ofInt (i : Int)))], (n, z_q im, jM w, jL u))) (Q := fun x r => r = (some (.int (Int32.ofInt x)), (n, z_q im, jM w, jL u))) N 0 (12, [some (.ref 45), some (.int (Int32.ofInt s)), some (.int (Int32.ofInt (F_p (w 46) z nm s))), some (.int (Int32.ofInt 0))], (n, z_q im, jM w, jL u)) rfl (fun i t hi1 hi hP => by
      subst hP
      have hx : z_ex none (z_F (e + 19)) cd_Model_odd 4000 (cd_Model_odd.drop 12) 12 [some (.ref 45), some (.int (Int32.ofInt s)), some (.int (Int32.ofInt (F_p (w 46) z nm s))), some (.int (Int32.ofInt (i : Int)))] [] (n, z_q im, jM w, jL u) = if so_ (w 46) nm s i (w 46 1) = true then some (.inr (12, [some (.ref 45), some (.int (Int32.ofInt s)), some (.int (Int32.ofInt (F_p (w 46) z nm s))), some (.int (Int32.ofInt ((i : Int) + 1)))], [], (n, z_q im, jM w, jL u))) else some (.inl (some (.int (Int32.ofInt (i : Int))), (n, z_q im, jM w, jL u))) := by
        refine (e_Model_odd_12 ..).trans ?_
        rw [if_neg gs, g61s, ji_mul, if_neg (ji_le_n (by omega) (by omega) (by omega))]
        simp only [jM_at]
        rw [m_isSo hw hs hws h1 h6 hz hok (by omega) (by omega), z_oI_s, ji_add]
        by_cases hh : so_ (w 46) nm s i (w 46 1) = true
        · rw [if_neg (ji_b_n hh), if_pos hh]
        · rw [if_pos (ji_b_p hh), if_neg hh]
      by_cases hh : so_ (w 46) nm s i (w 46 1) = true
      · have hp : p_od (w 46) nm s i = -1 := if_pos hh
        exact ⟨fun _ => ⟨(12, [some (.ref 45), some (.int (Int32.ofInt s)), some (.int (Int32.ofInt (F_p (w 46) z nm s))), some (.int (Int32.ofInt ((i : Int) + 1)))], (n, z_q im, jM w, jL u)), z_To_1 (hx.trans (if_pos hh)), rfl⟩, fun q => absurd hp q⟩
      · have hp : p_od (w 46) nm s i = i := if_neg hh
        rw [hp]
        exact ⟨fun q => by omega, fun _ => ⟨_, z_ret (hx.trans (if_neg hh)), rfl⟩⟩)
    have he : z_ex none (z_F (e + 19)) cd_Model_odd 4000 (cd_Model_odd.drop 0) 0 [some (.ref 45), some (.int (Int32.ofInt s)), none, none] [] (n, z_q im, jM w, jL u) = some (.inr (12, [some (.ref 45), some (.int (Int32.ofInt s)), some (.int (Int32.ofInt (F_p (w 46) z nm s))), some (.int (Int32.ofInt 0))], [], (n, z_q im, jM w, jL u))) := by
      refine (e_Model_odd_0 ..).trans ?_
      rw [hpf, z_oI_s, if_pos ((ji_0le (by omega)).mpr (by omega))]
    rcases key with ⟨k1, t, k2, rfl⟩ | ⟨k1, r, k2, rfl⟩
    · refine n_Model_odd (z_go he (k2 _ (z_ret ((e_Model_odd_12 ..).trans ?_))))
      rw [k1, if_neg gs, g61s, ji_mul, if_pos (ji_le_p (by omega) (by omega) (by omega))]
    · exact n_Model_odd (z_go he k2)
  · refine n_Model_odd (z_ret ((e_Model_odd_0 ..).trans ?_))
    rw [if_neg h0, hpf, z_oI_s, if_neg (fun q => h0 (by have := (ji_0le (a := F_p (w 46) z nm s) (by omega)).mp q; omega))]
