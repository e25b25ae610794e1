/-! the text read: the class's lines -/
theorem A_vl_r {U : Nat} {lo hi : Int} {r : zR} (h : r_ok U r) : 0 ≤ A_vl lo hi r ∧ A_vl lo hi r ≤ 100000 := by
  have := h.1.2.2.2.1
  unfold A_vl
  split
  · exact this
  · omega
/-- the first line -/
def A_ha (U : Nat) (tp : Nat → Int) (s : zS) : zS := ((A_to U tp (z_tx 30) 1 7 2 (A_to U tp (z_tx 29) 0 12 1 (A_to U tp (z_tx 28) 0 9 0 (A_wo U tp (z_tx 27) s.1, s.2)))).1, a_up (a_up (A_to U tp (z_tx 30) 1 7 2 (A_to U tp (z_tx 29) 0 12 1 (A_to U tp (z_tx 28) 0 9 0 (A_wo U tp (z_tx 27) s.1, s.2)))).2 3 2) 4 4)
theorem S_ha {e n : Nat} {im : Nat → Option Nat} {w u : Nat → Nat → Int} {U : Nat} {tp : Nat → Int} {r : zR} {v : Nat → Int} (hw : T_w U tp) (hQ : S_c w U tp (r, v)) : ∃ w', (z_F (e + 4)).2.2.1 k_Reader_readHarbour [.ref 17] (n, z_q im, jM w, jL u) = some (jM w', jL u) ∧ S_c w' U tp (A_ha U tp (r, v)) ∧ fD w w' := by
  obtain ⟨w1, k1, k2, k3⟩ := S_wo (e := e) (n := n) (im := im) (u := u) 27 (by decide) (by decide) hw hQ
  obtain ⟨x2, y2, a2, b2, c2, d2, h2⟩ := S_to (e := e) (n := n) (im := im) (u := u) 28 (by decide) (by decide) 0 9 (by decide) (by decide) hw k2
  obtain ⟨x3, y3, a3, b3, c3, d3, h3⟩ := S_to (e := e) (n := n) (im := im) (u := u) 29 (by decide) (by decide) 0 12 (by decide) (by decide) hw (S_f1 (x := A_vl 0 9 (A_wo U tp (z_tx 28) (A_wo U tp (z_tx 27) r))) c2)
  obtain ⟨x4, y4, a4, b4, c4, d4, h4⟩ := S_to (e := e) (n := n) (im := im) (u := u) 30 (by decide) (by decide) 1 7 (by decide) (by decide) hw (S_f2 (x := A_vl 0 12 (A_wo U tp (z_tx 29) (A_nu U tp 0 9 (A_wo U tp (z_tx 28) (A_wo U tp (z_tx 27) r))))) c3)
  refine ⟨_, q_Reader_readHarbour ?_, S_f5 (x := 4) (S_f4 (x := 2) (S_f3 (x := A_vl 1 7 (A_wo U tp (z_tx 30) (A_nu U tp 0 12 (A_wo U tp (z_tx 29) (A_nu U tp 0 9 (A_wo U tp (z_tx 28) (A_wo U tp (z_tx 27) r))))))) c4)), ?_⟩
  · rw [k1, z_oV_s, a2, z_oV_s, b2, z_oI_s, jM_u, a3, z_oV_s, b3, z_oI_s, jM_u, a4, z_oV_s, b4, z_oI_s, jM_u, jM_u, jM_u]
  · exact fD_tr k3 (fD_tr d2 (fD_tr (fD_u (by decide)) (fD_tr d3 (fD_tr (fD_u (by decide)) (fD_tr d4 (fD_tr (fD_u (by decide)) (fD_tr (fD_u (by decide)) (fD_u (by decide)))))))))
/-- reach -/
def A_re (U : Nat) (tp : Nat → Int) (s : zS) : zS := A_to U tp (z_tx 31) (A_vl 0 12 (A_nx U tp s.1)) 12 4 (A_nu U tp 0 12 (A_nx U tp s.1), a_up s.2 3 (A_vl 0 12 (A_nx U tp s.1)))
theorem S_re {e n : Nat} {im : Nat → Option Nat} {w u : Nat → Nat → Int} {U : Nat} {tp : Nat → Int} {r : zR} {v : Nat → Int} (hw : T_w U tp) (hQ : S_c w U tp (r, v)) : ∃ w', (z_F (e + 4)).2.2.1 k_Reader_readReach [.ref 17] (n, z_q im, jM w, jL u) = some (jM w', jL u) ∧ S_c w' U tp (A_re U tp (r, v)) ∧ fD w w' := by
  obtain ⟨w1, k1, k2, k3⟩ := S_nx (e := e + 1) (n := n) (im := im) (u := u) hw hQ
  obtain ⟨w2, l1, l2, l3⟩ := S_nu (e := e) (n := n) (im := im) (u := u) 0 12 (by decide) (by decide) hw k2
  have hb := A_vl_r (lo := 0) (hi := 12) k2.1.2.2.2
  obtain ⟨x3, y3, a3, b3, c3, d3, h3⟩ := S_to (e := e) (n := n) (im := im) (u := u) 31 (by decide) (by decide) (A_vl 0 12 (A_nx U tp r)) 12 (by dsimp only at hb; omega) (by decide) hw (S_f4 (x := A_vl 0 12 (A_nx U tp r)) l2)
  have e4 : ((jM x3, jL u) : zD).1 10 4 = Int32.ofInt (A_vl 0 12 (A_nx U tp r)) := by
    show Int32.ofInt (x3 10 4) = _
    rw [h3.2.2.2.2.1]; rfl
  refine ⟨_, q_Reader_readReach ?_, S_f5 (x := A_vl (A_vl 0 12 (A_nx U tp r)) 12 (A_wo U tp (z_tx 31) (A_nu U tp 0 12 (A_nx U tp r)))) c3, ?_⟩
  · rw [k1, z_oV_s, l1, z_oI_s, jM_u, a3, z_oV_s, e4, b3, z_oI_s, jM_u]
  · exact fD_tr k3 (fD_tr l3 (fD_tr (fD_u (by decide)) (fD_tr d3 (fD_u (by decide)))))
/-- a boat -/
def A_bo (U : Nat) (tp : Nat → Int) (s : zS) : zS := if s.2 6 = 4 then (A_fl 3 s.1, s.2) else
  ((A_to U tp (z_tx 33) 0 4 (10 + 2 * (s.2 6).toNat + 1) (A_to U tp (z_tx 32) 2 12 (10 + 2 * (s.2 6).toNat) (A_nx U tp s.1, s.2))).1, a_up (A_to U tp (z_tx 33) 0 4 (10 + 2 * (s.2 6).toNat + 1) (A_to U tp (z_tx 32) 2 12 (10 + 2 * (s.2 6).toNat) (A_nx U tp s.1, s.2))).2 6 (s.2 6 + 1))
theorem S_bo {e n : Nat} {im : Nat → Option Nat} {w u : Nat → Nat → Int} {U : Nat} {tp : Nat → Int} {r : zR} {v : Nat → Int} (hw : T_w U tp) (hQ : S_c w U tp (r, v)) (h6 : 0 ≤ v 6 ∧ v 6 ≤ 4) : ∃ w', (z_F (e + 4)).2.2.1 k_Reader_readBoat [.ref 17] (n, z_q im, jM w, jL u) = some (jM w', jL u) ∧ S_c w' U tp (A_bo U tp (r, v)) ∧ fD w w' := by
  have q7 : w 10 7 = v 6 := hQ.2.2.2.2.2.2.2.2.1
  have e7 : ((jM w, jL u) : zD).1 10 7 = Int32.ofInt (v 6) := by rw [← q7]; rfl
  unfold A_bo
  by_cases h : v 6 = 4
  · rw [if_pos (show ((r, v) : zS).2 6 = 4 from h)]
    obtain ⟨w1, k1, k2, k3⟩ := S_fl (e := e + 2) (n := n) (im := im) (u := u) (k := 3) (by decide) hQ
    refine ⟨w1, q_Reader_readBoat ?_, k2, k3⟩
    rw [e7, if_pos (ji_eq_p (by omega) (by decide) h), k1, z_oV_s]
  · rw [if_neg (show ¬ ((r, v) : zS).2 6 = 4 from h)]
    obtain ⟨w1, k1, k2, k3⟩ := S_nx (e := e + 1) (n := n) (im := im) (u := u) hw hQ
    obtain ⟨x2, y2, a2, b2, c2, d2, h2⟩ := S_to (e := e) (n := n) (im := im) (u := u) 32 (by decide) (by decide) 2 12 (by decide) (by decide) hw k2
    have f2 : ((jM x2, jL u) : zD).1 10 7 = Int32.ofInt (v 6) := by rw [← h2.2.2.2.2.2.2.2.1]; rfl
    obtain ⟨x3, y3, a3, b3, c3, d3, h3⟩ := S_to (e := e) (n := n) (im := im) (u := u) 33 (by decide) (by decide) 0 4 (by decide) (by decide) hw (S_12 (k := 2 * (v 6).toNat) (q := 10 + 2 * (v 6).toNat) (x := A_vl 2 12 (A_wo U tp (z_tx 32) (A_nx U tp r))) c2 (by omega) (by omega))
    have h3' : x3 10 7 = v 6 := by rw [h3.2.2.2.2.2.2.2.1, a_up_ne (by omega)]
    have f3 : ((jM x3, jL u) : zD).1 10 7 = Int32.ofInt (v 6) := by rw [← h3']; rfl
    have c4 := S_12 (k := 2 * (v 6).toNat + 1) (q := 10 + 2 * (v 6).toNat + 1) (x := A_vl 0 4 (A_wo U tp (z_tx 33) (A_nu U tp 2 12 (A_wo U tp (z_tx 32) (A_nx U tp r))))) c3 (by omega) (by omega)
    have g4 : z_u y3 12 (2 * (v 6).toNat + 1) (A_vl 0 4 (A_wo U tp (z_tx 33) (A_nu U tp 2 12 (A_wo U tp (z_tx 32) (A_nx U tp r))))) 10 7 = v 6 := by
      rw [c4.2.2.2.2.2.2.2.2.1]
      show a_up _ _ _ 6 = _
      rw [a_up_ne (by omega)]
      show a_up _ _ _ 6 = _
      rw [a_up_ne (by omega)]
    have f4 : ((jM (z_u y3 12 (2 * (v 6).toNat + 1) (A_vl 0 4 (A_wo U tp (z_tx 33) (A_nu U tp 2 12 (A_wo U tp (z_tx 32) (A_nx U tp r)))))), jL u) : zD).1 10 7 = Int32.ofInt (v 6) := by rw [← g4]; rfl
    refine ⟨_, q_Reader_readBoat ?_, S_f7 (x := v 6 + 1) c4, ?_⟩
    · rw [e7, if_neg (ji_eq_n (by omega) (by decide) h), k1, z_oV_s, a2, z_oV_s, b2, z_oI_s, f2, s_setGear_10 (by omega) (by omega) (by decide) (by decide), z_oV_s]
      rw [show 2 * (v 6).toNat + Int.toNat 0 = 2 * (v 6).toNat from rfl, a3, z_oV_s, b3, z_oI_s, f3, s_setGear_10 (by omega) (by omega) (by decide) (by decide), z_oV_s]
      rw [show 2 * (v 6).toNat + Int.toNat 1 = 2 * (v 6).toNat + 1 from rfl, f4, ji_add, jM_u]
    · exact fD_tr k3 (fD_tr d2 (fD_tr (fD_u (by decide)) (fD_tr d3 (fD_tr (fD_u (by decide)) (fD_u (by decide))))))
theorem S_tr {e n : Nat} {im : Nat → Option Nat} {w u : Nat → Nat → Int} {U : Nat} {tp : Nat → Int} {r : zR} {v : Nat → Int} (s : Nat) (hs : 1 ≤ s) (hl : (z_tx s).length ≤ 100) (j m : Int) (hj : 0 ≤ j ∧ j ≤ 5) (hw : T_w U tp) (hQ : S_c w U tp (r, v)) (h7 : v 7 = m) (hm : 0 ≤ m ∧ m ≤ 9) : ∃ w', (z_F (e + 4)).2.2.1 k_Reader_readTrait [.ref 17, .ref (z_sb + s), .int (Int32.ofInt j)] (n, z_q im, jM w, jL u) = some (jM w', jL u) ∧ S_c w' U tp (A_to U tp (z_tx s) (a_lt j) (a_mt j) (18 + 6 * m.toNat + j.toNat) (r, v)) ∧ fD w w' := by
  have hb := a_lm_b j
  obtain ⟨x2, y2, a2, b2, c2, d2, h2⟩ := S_to (e := e) (n := n) (im := im) (u := u) s hs hl (a_lt j) (a_mt j) (by omega) (by omega) hw hQ
  have f2 : ((jM x2, jL u) : zD).1 10 8 = Int32.ofInt m := by rw [← h7, ← h2.2.2.2.2.2.2.2.2.1]; rfl
  refine ⟨_, q_Reader_readTrait ?_, S_14 (k := 6 * m.toNat + j.toNat) (q := 18 + 6 * m.toNat + j.toNat) (x := A_vl (a_lt j) (a_mt j) (A_wo U tp (z_tx s) r)) c2 (by omega) (by omega), ?_⟩
  · rw [a2, z_oV_s, s_leastTrait (by omega), z_oI_s, s_mostTrait (by omega), z_oI_s, b2, z_oI_s, f2, s_setTrait_10 (by omega) (by omega) (by omega) (by omega), z_oV_s]
  · exact fD_tr d2 (fD_u (by decide))
/-- an aim -/
def A_ai (U : Nat) (tp : Nat → Int) (r : zR) : zR := A_nx U tp (if t_is tp (z_tx 40) r.2.2 = true then r else if t_is tp (z_tx 41) r.2.2 = true then r else if t_is tp (z_tx 42) r.2.2 = true then r else A_fl 1 r)
def A_av (tp : Nat → Int) (r : zR) : Int := if t_is tp (z_tx 40) r.2.2 = true then 1 else if t_is tp (z_tx 41) r.2.2 = true then 2 else 0
theorem S_ai {e n : Nat} {im : Nat → Option Nat} {w u : Nat → Nat → Int} {U : Nat} {tp : Nat → Int} {r : zR} {v : Nat → Int} (hw : T_w U tp) (hQ : S_c w U tp (r, v)) : ∃ w', (z_F (e + 3)).1 k_Reader_aim [.ref 17] (n, z_q im, jM w, jL u) = some (Int32.ofInt (A_av tp r), jM w', jL u) ∧ S_c w' U tp (A_ai U tp r, v) ∧ fD w w' := by
  unfold A_ai A_av
  by_cases h1 : t_is tp (z_tx 40) r.2.2 = true
  · rw [if_pos h1, if_pos h1]
    obtain ⟨w1, k1, k2, k3⟩ := S_nx (e := e) (n := n) (im := im) (u := u) hw hQ
    refine ⟨w1, q_Reader_aim ?_, k2, k3⟩
    rw [s_isw (by decide) (by decide) hw hQ.1, z_oI_s, if_neg (ji_b_n h1), k1, z_oV_s]
  · rw [if_neg h1, if_neg h1]
    by_cases h2 : t_is tp (z_tx 41) r.2.2 = true
    · rw [if_pos h2, if_pos h2]
      obtain ⟨w1, k1, k2, k3⟩ := S_nx (e := e) (n := n) (im := im) (u := u) hw hQ
      refine ⟨w1, q_Reader_aim ?_, k2, k3⟩
      rw [s_isw (by decide) (by decide) hw hQ.1, z_oI_s, if_pos (ji_b_p h1), s_isw (by decide) (by decide) hw hQ.1, z_oI_s, if_neg (ji_b_n h2), k1, z_oV_s]
    · rw [if_neg h2, if_neg h2]
      by_cases h3 : t_is tp (z_tx 42) r.2.2 = true
      · rw [if_pos h3]
        obtain ⟨w1, k1, k2, k3⟩ := S_nx (e := e) (n := n) (im := im) (u := u) hw hQ
        refine ⟨w1, q_Reader_aim ?_, k2, k3⟩
        rw [s_isw (by decide) (by decide) hw hQ.1, z_oI_s, if_pos (ji_b_p h1), s_isw (by decide) (by decide) hw hQ.1, z_oI_s, if_pos (ji_b_p h2), s_isw (by decide) (by decide) hw hQ.1, z_oI_s, if_neg (ji_b_n h3), k1, z_oV_s]
      · rw [if_neg h3]
        obtain ⟨w0, j1, j2, j3⟩ := S_fl (e := e + 1) (n := n) (im := im) (u := u) (k := 1) (by decide) hQ
        obtain ⟨w1, k1, k2, k3⟩ := S_nx (e := e) (n := n) (im := im) (u := u) hw j2
        refine ⟨w1, q_Reader_aim ?_, k2, fD_tr j3 k3⟩
        rw [s_isw (by decide) (by decide) hw hQ.1, z_oI_s, if_pos (ji_b_p h1), s_isw (by decide) (by decide) hw hQ.1, z_oI_s, if_pos (ji_b_p h2), s_isw (by decide) (by decide) hw hQ.1, z_oI_s, if_pos (ji_b_p h3), j1, z_oV_s, k1, z_oV_s]
/-- the five numbers of a man -/
def A_m5 (U : Nat) (tp : Nat → Int) (m : Nat) (s : zS) : zS := A_to U tp (z_tx 38) 0 4 (18 + 6 * m + 4) (A_to U tp (z_tx 37) 0 9 (18 + 6 * m + 3) (A_to U tp (z_tx 36) 0 30 (18 + 6 * m + 2) (A_to U tp (z_tx 35) 0 30 (18 + 6 * m + 1) (A_to U tp (z_tx 34) 40 200 (18 + 6 * m) s))))
def A_mn (U : Nat) (tp : Nat → Int) (s : zS) : zS := if s.2 7 = 10 then (A_fl 3 s.1, s.2) else
  (A_ai U tp (A_wo U tp (z_tx 39) (A_m5 U tp (s.2 7).toNat (A_nx U tp s.1, s.2)).1), a_up (a_up (A_m5 U tp (s.2 7).toNat (A_nx U tp s.1, s.2)).2 (18 + 6 * (s.2 7).toNat + 5) (A_av tp (A_wo U tp (z_tx 39) (A_m5 U tp (s.2 7).toNat (A_nx U tp s.1, s.2)).1))) 7 (s.2 7 + 1))
theorem A_to_lo {U : Nat} {tp : Nat → Int} {nm : List Int32} {lo hi : Int} {j i : Nat} {s : zS} (h : i ≠ j) : (A_to U tp nm lo hi j s).2 i = s.2 i := a_up_ne h
theorem S_mn {e n : Nat} {im : Nat → Option Nat} {w u : Nat → Nat → Int} {U : Nat} {tp : Nat → Int} {r : zR} {v : Nat → Int} (hw : T_w U tp) (hQ : S_c w U tp (r, v)) (h7 : 0 ≤ v 7 ∧ v 7 ≤ 10) : ∃ w', (z_F (e + 5)).2.2.1 k_Reader_readMan [.ref 17] (n, z_q im, jM w, jL u) = some (jM w', jL u) ∧ S_c w' U tp (A_mn U tp (r, v)) ∧ fD w w' := by
  have q8 : w 10 8 = v 7 := hQ.2.2.2.2.2.2.2.2.2.1
  have e8 : ((jM w, jL u) : zD).1 10 8 = Int32.ofInt (v 7) := by rw [← q8]; rfl
  unfold A_mn
  by_cases h : v 7 = 10
  · rw [if_pos (show ((r, v) : zS).2 7 = 10 from h)]
    obtain ⟨w1, k1, k2, k3⟩ := S_fl (e := e + 3) (n := n) (im := im) (u := u) (k := 3) (by decide) hQ
    refine ⟨w1, q_Reader_readMan ?_, k2, k3⟩
    rw [e8, if_pos (ji_eq_p (by omega) (by decide) h), k1, z_oV_s]
  · rw [if_neg (show ¬ ((r, v) : zS).2 7 = 10 from h)]
    obtain ⟨w1, k1, k2, k3⟩ := S_nx (e := e + 2) (n := n) (im := im) (u := u) hw hQ
    obtain ⟨w2, a1, a2, a3⟩ := S_tr (e := e) (n := n) (im := im) (u := u) 34 (by decide) (by decide) 0 (v 7) (by decide) hw k2 rfl (by omega)
    obtain ⟨w3, b1, b2, b3⟩ := S_tr (e := e) (n := n) (im := im) (u := u) 35 (by decide) (by decide) 1 (v 7) (by decide) hw a2 (A_to_lo (by omega)) (by omega)
    obtain ⟨w4, c1, c2, c3⟩ := S_tr (e := e) (n := n) (im := im) (u := u) 36 (by decide) (by decide) 2 (v 7) (by decide) hw b2 ((A_to_lo (by omega)).trans (A_to_lo (by omega))) (by omega)
    obtain ⟨w5, d1, d2, d3⟩ := S_tr (e := e) (n := n) (im := im) (u := u) 37 (by decide) (by decide) 3 (v 7) (by decide) hw c2 (((A_to_lo (by omega)).trans (A_to_lo (by omega))).trans (A_to_lo (by omega))) (by omega)
    obtain ⟨w6, f1, f2, f3⟩ := S_tr (e := e) (n := n) (im := im) (u := u) 38 (by decide) (by decide) 4 (v 7) (by decide) hw d2 ((((A_to_lo (by omega)).trans (A_to_lo (by omega))).trans (A_to_lo (by omega))).trans (A_to_lo (by omega))) (by omega)
    have f2' : S_c w6 U tp (A_m5 U tp (v 7).toNat (A_nx U tp r, v)) := f2
    have hv7 : (A_m5 U tp (v 7).toNat (A_nx U tp r, v)).2 7 = v 7 := ((((A_to_lo (by omega)).trans (A_to_lo (by omega))).trans (A_to_lo (by omega))).trans (A_to_lo (by omega))).trans (A_to_lo (by omega))
    generalize hs : A_m5 U tp (v 7).toNat (A_nx U tp r, v) = s5 at f2' hv7
    obtain ⟨w7, g1, g2, g3⟩ := S_wo (e := e + 1) (n := n) (im := im) (u := u) (r := s5.1) (v := s5.2) 39 (by decide) (by decide) hw f2'
    obtain ⟨w8, i1, i2, i3⟩ := S_ai (e := e + 1) (n := n) (im := im) (u := u) hw g2
    have e7 : ((jM w7, jL u) : zD).1 10 8 = Int32.ofInt (v 7) := by rw [← hv7, ← g2.2.2.2.2.2.2.2.2.2.1]; rfl
    have c9 := S_14 (k := 6 * (v 7).toNat + 5) (q := 18 + 6 * (v 7).toNat + 5) (x := A_av tp (A_wo U tp (z_tx 39) s5.1)) i2 (by omega) (by omega)
    have g9 : z_u w8 14 (6 * (v 7).toNat + 5) (A_av tp (A_wo U tp (z_tx 39) s5.1)) 10 8 = v 7 := by
      rw [c9.2.2.2.2.2.2.2.2.2.1]
      show a_up _ _ _ 7 = _
      rw [a_up_ne (by omega)]
      exact hv7
    have e9 : ((jM (z_u w8 14 (6 * (v 7).toNat + 5) (A_av tp (A_wo U tp (z_tx 39) s5.1))), jL u) : zD).1 10 8 = Int32.ofInt (v 7) := by rw [← g9]; rfl
    refine ⟨_, q_Reader_readMan ?_, S_f8 (x := v 7 + 1) c9, ?_⟩
    · rw [e8, if_neg (ji_eq_n (by omega) (by decide) h), k1, z_oV_s, a1, z_oV_s, b1, z_oV_s, c1, z_oV_s, d1, z_oV_s, f1, z_oV_s, g1, z_oV_s, i1, z_oI_s, e7, s_setTrait_10 (by omega) (by omega) (by decide) (by decide), z_oV_s]
      rw [show 6 * (v 7).toNat + Int.toNat 5 = 6 * (v 7).toNat + 5 from rfl, e9, ji_add, jM_u]
    · exact fD_tr k3 (fD_tr a3 (fD_tr b3 (fD_tr c3 (fD_tr d3 (fD_tr f3 (fD_tr g3 (fD_tr i3 (fD_tr (fD_u (by decide)) (fD_u (by decide))))))))))
