/-! the text read: all lines, both; harbour -/
theorem l_mln {e n : Nat} {im : Nat → Option Nat} {w u : Nat → Nat → Int} {U : Nat} {tp : Nat → Int} {r : zR} {v : Nat → Int} (hw : T_w U tp) (hQ : Q_m w U tp (r, v)) : ∃ w', ((z_oI ((z_F (e + 2)).1 k_Model_good [.ref 45] (n, z_q im, jM w, jL u)) none (fun v3 d2 => (if v3 = 0 then (z_oI ((z_F (e + 2)).1 k_Model_good [.ref 45] (n, z_q im, d2)) none (fun v5 d4 => (if v5 = 0 then some (.inl (none, (n, z_q im, (z_u d4.1 51 9 ((d4.1 51 9) + Int32.ofInt 1)), d4.2))) else (z_oV ((z_F (e + 2)).2.2.1 k_Model_advance [.ref 45] (n, z_q im, d4)) none (fun d6 => some (.inl (none, (n, z_q im, (z_u d6.1 51 9 ((d6.1 51 9) + Int32.ofInt 1)), d6.2)))))))) else (if (d2.1 45 10) = Int32.ofInt 3 then (z_oI ((z_F (e + 2)).1 k_Model_good [.ref 45] (n, z_q im, d2)) none (fun v8 d7 => (if v8 = 0 then some (.inl (none, (n, z_q im, (z_u d7.1 51 9 ((d7.1 51 9) + Int32.ofInt 1)), d7.2))) else (z_oV ((z_F (e + 2)).2.2.1 k_Model_advance [.ref 45] (n, z_q im, d7)) none (fun d9 => some (.inl (none, (n, z_q im, (z_u d9.1 51 9 ((d9.1 51 9) + Int32.ofInt 1)), d9.2)))))))) else (z_oV ((z_F (e + 2)).2.2.1 k_Model_errs [.ref 45, .int (Int32.ofInt 1)] (n, z_q im, d2)) none (fun d10 => (z_oI ((z_F (e + 2)).1 k_Model_good [.ref 45] (n, z_q im, d10)) none (fun v12 d11 => (if v12 = 0 then some (.inl (none, (n, z_q im, (z_u d11.1 51 9 ((d11.1 51 9) + Int32.ofInt 1)), d11.2))) else (z_oV ((z_F (e + 2)).2.2.1 k_Model_advance [.ref 45] (n, z_q im, d11)) none (fun d13 => some (.inl (none, (n, z_q im, (z_u d13.1 51 9 ((d13.1 51 9) + Int32.ofInt 1)), d13.2)))))))))))))) : zRs) = some (.inl (none, (n, z_q im, jM w', jL u))) ∧ Q_m w' U tp (A_si U tp r, a_up v 9 (v 9 + 1)) ∧ fM w w' := by
  have rd : ∀ wx : Nat → Nat → Int, ((jM wx, jL u) : zD).1 51 9 = Int32.ofInt (wx 51 9) := fun _ => rfl
  by_cases h : r.1 = 0
  · obtain ⟨⟨g8, g9, g10, g11⟩, g51⟩ := hQ.2.2.2.2 h
    dsimp only at g10
    have e10 : ((jM w, jL u) : zD).1 45 10 = Int32.ofInt r.2.2.2.2.1 := by rw [← g10]; rfl
    have t3 := hQ.2.2.2.1.1.2.2.1
    dsimp only at t3
    by_cases h3 : r.2.2.2.2.1 = 3
    · have E : A_si U tp r = A_nx U tp r := by unfold A_si; rw [if_pos h3]
      rw [E]
      obtain ⟨w1, k1, k2, k3⟩ := m_nx (e := e) (n := n) (im := im) (u := u) hw hQ h
      refine ⟨z_u w1 51 9 (w1 51 9 + 1), ?_, Q_m_v (Q_m_u k2) (fun q j hj => ?_), fM_tr (fN_M k3) fM_51⟩
      · rw [m_good hQ, z_oI_s, if_neg (ji_b_n h), e10, if_pos (ji_eq_p (by omega) (by decide) h3), m_good hQ, z_oI_s, if_neg (ji_b_n h), k1, z_oV_s, rd, ji_add, jM_u]
      · rw [(k2.2.2.2.2 q).2 9 (by decide)]
    · have hn : ¬ (A_fl 1 r).1 = 0 := A_fl_n0 (by decide)
      have E : A_si U tp r = A_fl 1 r := by unfold A_si; rw [if_neg h3, A_nx_b hn]
      rw [E]
      obtain ⟨w1, k1, k2, k3⟩ := m_errs (e := e) (n := n) (im := im) (u := u) (k := 1) (by decide) hQ
      refine ⟨z_u w1 51 9 (w1 51 9 + 1), ?_, Q_m_f (Q_m_u k2) hn, fM_tr (fN_M k3) fM_51⟩
      rw [m_good hQ, z_oI_s, if_neg (ji_b_n h), e10, if_neg (ji_eq_n (by omega) (by decide) h3), k1, z_oV_s, m_good k2, z_oI_s, if_pos (ji_b_p hn), rd, ji_add, jM_u]
  · have E : A_si U tp r = r := by
      unfold A_si
      rw [A_fl_b h, show (if r.2.2.2.2.1 = 3 then r else r) = r by split <;> rfl]
      exact A_nx_b h
    rw [E]
    refine ⟨z_u w 51 9 (w 51 9 + 1), ?_, Q_m_f (Q_m_u hQ) h, fM_51⟩
    rw [m_good hQ, z_oI_s, if_pos (ji_b_p h), m_good hQ, z_oI_s, if_pos (ji_b_p h), rd, ji_add, jM_u]
theorem m_line {e n : Nat} {im : Nat → Option Nat} {w u : Nat → Nat → Int} {U : Nat} {tp : Nat → Int} {r : zR} {v : Nat → Int} (hw : T_w U tp) (hQ : Q_m w U tp (r, v)) (hr : r.1 = 0) (hB : Bv_ v) : ∃ w', (z_F (e + 8)).2.2.1 k_Model_readLine [.ref 45] (n, z_q im, jM w, jL u) = some (jM w', jL u) ∧ Q_m w' U tp (A_ln U tp (r, v)) ∧ fM w w' := by
  have g51 := (hQ.2.2.2.2 hr).2
  have m9 : w 51 9 = v 9 := g51 9 (by decide)
  have e9 : ((jM w, jL u) : zD).1 51 9 = Int32.ofInt (v 9) := by rw [← m9]; rfl
  have b9 := hB.2.2.2.1
  unfold A_ln
  by_cases h0 : v 9 = 0
  · have E : A_l1 U tp (r, v) = (A_nu U tp 1 7 (A_wo U tp (z_tx 21) (A_nu U tp 0 12 (A_wo U tp (z_tx 20) (A_nu U tp 0 9 (A_wo U tp (z_tx 19) (A_wo U tp (z_tx 18) r)))))), a_up (a_up (a_up (a_up (a_up v 0 (A_vl 0 9 (A_wo U tp (z_tx 19) (A_wo U tp (z_tx 18) r)))) 1 (A_vl 0 12 (A_wo U tp (z_tx 20) (A_nu U tp 0 9 (A_wo U tp (z_tx 19) (A_wo U tp (z_tx 18) r)))))) 2 (A_vl 1 7 (A_wo U tp (z_tx 21) (A_nu U tp 0 12 (A_wo U tp (z_tx 20) (A_nu U tp 0 9 (A_wo U tp (z_tx 19) (A_wo U tp (z_tx 18) r)))))))) 3 2) 4 4) := by
      unfold A_l1
      rw [if_pos (show ((r, v) : zS).2 9 = 0 from h0)]
      rfl
    rw [E]
    obtain ⟨w1, a1, a2, a3⟩ := m_needs (e := e + 3) (n := n) (im := im) (u := u) 18 (by decide) (by decide) hw hQ
    obtain ⟨w2, b1, b2, b3⟩ := m_told (e := e + 2) (n := n) (im := im) (u := u) 19 (by decide) (by decide) 0 9 (by decide) (by decide) hw a2
    obtain ⟨w3, c1, c2, c3⟩ := m_told (e := e + 2) (n := n) (im := im) (u := u) 20 (by decide) (by decide) 0 12 (by decide) (by decide) hw (Q_m_u (k := 0) (x := A_vl 0 9 (A_wo U tp (z_tx 19) (A_wo U tp (z_tx 18) r))) b2)
    obtain ⟨w4, d1, d2, d3⟩ := m_told (e := e + 2) (n := n) (im := im) (u := u) 21 (by decide) (by decide) 1 7 (by decide) (by decide) hw (Q_m_u (k := 1) (x := A_vl 0 12 (A_wo U tp (z_tx 20) (A_nu U tp 0 9 (A_wo U tp (z_tx 19) (A_wo U tp (z_tx 18) r))))) c2)
    obtain ⟨w5, f1, f2, f3⟩ := l_mln (e := e + 5) (n := n) (im := im) (u := u) hw (Q_m_u (k := 4) (x := 4) (Q_m_u (k := 3) (x := 2) (Q_m_u (k := 2) (x := A_vl 1 7 (A_wo U tp (z_tx 21) (A_nu U tp 0 12 (A_wo U tp (z_tx 20) (A_nu U tp 0 9 (A_wo U tp (z_tx 19) (A_wo U tp (z_tx 18) r))))))) d2)))
    refine ⟨w5, q_Model_readLine ?_, f2, fM_tr (fN_M a3) (fM_tr (fN_M b3) (fM_tr fM_51 (fM_tr (fN_M c3) (fM_tr fM_51 (fM_tr (fN_M d3) (fM_tr fM_51 (fM_tr fM_51 (fM_tr fM_51 f3))))))))⟩
    rw [e9, if_pos (ji_eq0_p (by omega) h0), a1, z_oV_s, b1, z_oI_s, jM_u, c1, z_oI_s, jM_u, d1, z_oI_s, jM_u, jM_u, jM_u]
    exact f1
  · obtain ⟨w1, a1, a2, a3⟩ := m_next (e := e) (n := n) (im := im) (u := u) hw hQ hr hB h0
    obtain ⟨w5, f1, f2, f3⟩ := l_mln (e := e + 5) (n := n) (im := im) (u := u) (r := (A_l1 U tp (r, v)).1) (v := (A_l1 U tp (r, v)).2) hw a2
    refine ⟨w5, q_Model_readLine ?_, f2, fM_tr a3 f3⟩
    rw [e9, if_neg (ji_eq0_n (by omega) h0), a1, z_oV_s]
    exact f1
def A_lp (U : Nat) (tp : Nat → Int) : Nat → zS → zS
  | 0, s => s
  | f + 1, s => if s.1.2.2.2.2.1 ≠ 0 ∧ s.1.1 = 0 then A_lp U tp f (A_ln U tp s) else s
/-- all of the text -/
def A_all (U : Nat) (tp : Nat → Int) : zS := A_lp U tp 1200 ((0, -1, t_nx U tp 0), fun _ => 0)
theorem W_0 : W_v (fun _ => 0) := by
  refine ⟨⟨by decide, by decide, by decide, by decide, by decide, by decide, by decide, by decide, by decide, by decide, fun b h1 h2 => by dsimp only at h2; omega, fun b h1 h2 => by dsimp only at h2; omega, fun b h1 h2 => by dsimp only at h2; omega⟩, fun _ => rfl, fun q => by dsimp only at q; omega, fun _ _ _ => rfl⟩
theorem G_0 (U : Nat) (tp : Nat → Int) : G_s U ((0, -1, t_nx U tp 0), fun _ => 0) := by
  have k := t_nx_ok (tp := tp) (Nat.zero_le U)
  refine ⟨⟨k.1, by dsimp only; omega⟩, fun _ => ⟨W_0, by dsimp only; omega, fun q => ?_⟩⟩
  have := k.1.2.2.2.2 q
  dsimp only
  omega
theorem l_rd {e n : Nat} {im : Nat → Option Nat} {u : Nat → Nat → Int} {U : Nat} {tp : Nat → Int} (hw : T_w U tp) : ∀ (f i : Nat) (s : zS) (w : Nat → Nat → Int), i + f = 1200 → S_c w U tp s → G_s U s → ∃ w', z_Rn (z_F (e + 6)) cd_Reader_reads 17 [some (.ref 17), some (.int (Int32.ofInt (i : Int)))] (n, z_q im, jM w, jL u) (some (.int (Int32.ofInt (if (A_lp U tp f s).1.1 = 0 then 1 else 0))), (n, z_q im, jM w', jL u)) ∧ S_c w' U tp (A_lp U tp f s) ∧ fD w w'
  | f, i, s, w, hi, hQ, hG => by
    have q3 : w 17 3 = s.1.2.2.2.2.1 := hQ.1.2.1.2.1
    have q6 : w 17 6 = s.1.1 := hQ.1.2.2.1.1
    have e3 : ((jM w, jL u) : zD).1 17 3 = Int32.ofInt s.1.2.2.2.2.1 := by rw [← q3]; rfl
    have e6 : ((jM w, jL u) : zD).1 17 6 = Int32.ofInt s.1.1 := by rw [← q6]; rfl
    have tk3 := hQ.1.2.2.2.1.2.2.1
    have fb := hQ.1.2.2.2.2
    have out : ((if Int32.ofInt s.1.1 = 0 then some (.inl (some (.int (Int32.ofInt 1)), (n, z_q im, jM w, jL u))) else some (.inl (some (.int (Int32.ofInt 0)), (n, z_q im, jM w, jL u)))) : zRs) = some (.inl (some (.int (Int32.ofInt (if s.1.1 = 0 then 1 else 0))), (n, z_q im, jM w, jL u))) := by
      by_cases h : s.1.1 = 0
      · rw [if_pos (ji_eq0_p (by omega) h), if_pos h]
      · rw [if_neg (ji_eq0_n (by omega) h), if_neg h]
    by_cases hz : f = 0
    · subst hz
      refine ⟨w, z_ret ((e_Reader_reads_17 ..).trans ?_), hQ, fD_rf w⟩
      rw [if_pos (ji_le_p (by decide) (by omega) (by omega)), e6]
      exact out
    · obtain ⟨g, rfl⟩ : ∃ g, f = g + 1 := ⟨f - 1, by omega⟩
      by_cases hc : s.1.2.2.2.2.1 ≠ 0 ∧ s.1.1 = 0
      · have E : A_lp U tp (g + 1) s = A_lp U tp g (A_ln U tp s) := by simp only [A_lp]; rw [if_pos hc]
        rw [E]
        obtain ⟨w1, k1, k2, k3⟩ := S_ln (e := e) (n := n) (im := im) (u := u) (r := s.1) (v := s.2) hw hQ (W_B (hG.2 hc.2).1)
        obtain ⟨w2, l1, l2, l3⟩ := l_rd (e := e) (n := n) (im := im) (u := u) hw g (i + 1) (A_ln U tp s) w1 (by omega) k2 (G_ln hw.1 hG hc.2 hc.1)
        refine ⟨w2, z_go ((e_Reader_reads_17 ..).trans ?_) l1, l2, fD_tr k3 l3⟩
        rw [if_neg (ji_le_n (by decide) (by omega) (by omega)), e3, if_neg (ji_eq0_n (by omega) hc.1), e6, if_pos (ji_eq0_p (by omega) hc.2), k1, z_oV_s, ji_add]
        rfl
      · have E : A_lp U tp (g + 1) s = s := by simp only [A_lp]; rw [if_neg hc]
        rw [E]
        refine ⟨w, z_ret ((e_Reader_reads_17 ..).trans ?_), hQ, fD_rf w⟩
        rw [if_neg (ji_le_n (by decide) (by omega) (by omega)), e3, e6]
        by_cases h3 : s.1.2.2.2.2.1 = 0
        · rw [if_pos (ji_eq0_p (by omega) h3)]; exact out
        · have h6 : ¬ s.1.1 = 0 := fun q => hc ⟨h3, q⟩
          rw [if_neg (ji_eq0_n (by omega) h3), if_neg (c := Int32.ofInt s.1.1 = 0) (ji_eq0_n (by omega) h6)]; exact out
termination_by f => f
theorem s_reads {e n : Nat} {im : Nat → Option Nat} {w u : Nat → Nat → Int} {U : Nat} {tp : Nat → Int} (hw : T_w U tp) (hT : T_c w U tp) : ∃ w', (z_F (e + 7)).1 k_Reader_reads [.ref 17] (n, z_q im, jM w, jL u) = some (Int32.ofInt (if (A_all U tp).1.1 = 0 then 1 else 0), jM w', jL u) ∧ S_c w' U tp (A_all U tp) ∧ fD w w' := by
  obtain ⟨w1, k1, k2, k3⟩ := s_clear_10 (e := e + 4) (n := n) (im := im) (w := w) (u := u)
  have hT1 : T_c (z_u (z_u (z_u w1 17 6 0) 17 7 (-1)) 17 2 0) U tp := T_c_17 (T_c_17 (T_c_17 ⟨by rw [k3 1 (by decide)]; exact hT.1, fun j hj => by rw [k3 2 (by decide)]; exact hT.2 j hj⟩))
  obtain ⟨w2, l1, l2, l3⟩ := s_nx0 (e := e + 4) (n := n) (im := im) (w := z_u (z_u (z_u w1 17 6 0) 17 7 (-1)) 17 2 0) (u := u) hw hT1 rfl rfl rfl
  have hS : S_c w2 U tp ((0, -1, t_nx U tp 0), fun _ => 0) := ⟨l2, c_h_17 l3 (c_h_17 (f17_tr f17_u (f17_tr f17_u f17_u)) k2)⟩
  obtain ⟨w3, i1, i2, i3⟩ := l_rd (e := e) (n := n) (im := im) (u := u) hw 1200 0 _ w2 rfl hS (G_0 U tp)
  refine ⟨w3, n_Reader_reads (z_go ((e_Reader_reads_0 ..).trans ?_) i1), i2, fun c hc => ?_⟩
  · rw [k1, z_oV_s, jM_u, jM_u, jM_u, l1, z_oV_s]
    rfl
  · rw [i3 c hc, l3 c (by omega), z_u_ne (by omega), z_u_ne (by omega), z_u_ne (by omega), k3 c (by omega)]
theorem G_lp {U : Nat} {tp : Nat → Int} (hU : U ≤ 1200) : ∀ (f : Nat) (s : zS), G_s U s → G_s U (A_lp U tp f s)
  | 0, s, h => h
  | f + 1, s, h => by
    simp only [A_lp]
    by_cases hc : s.1.2.2.2.2.1 ≠ 0 ∧ s.1.1 = 0
    · rw [if_pos hc]; exact G_lp hU f _ (G_ln hU h hc.2 hc.1)
    · rw [if_neg hc]; exact h
theorem W_all {U : Nat} {tp : Nat → Int} (hw : T_w U tp) (h : (A_all U tp).1.1 = 0) : W_v (A_all U tp).2 := ((G_lp hw.1 1200 _ (G_0 U tp)).2 h).1
