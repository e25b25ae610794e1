/-! the text read: a line, all lines, the class -/
def A_er (U : Nat) (tp : Nat → Int) (s : zS) : zS := (A_nu U tp 0 50 (A_nx U tp s.1), a_up s.2 5 (A_vl 0 50 (A_nx U tp s.1)))
def A_l1 (U : Nat) (tp : Nat → Int) (s : zS) : zS :=
  if s.2 9 = 0 then A_ha U tp s else
  if t_is tp (z_tx 22) s.1.2.2 = true then A_re U tp s else
  if t_is tp (z_tx 23) s.1.2.2 = true then A_bo U tp s else
  if t_is tp (z_tx 24) s.1.2.2 = true then A_mn U tp s else
  if t_is tp (z_tx 25) s.1.2.2 = true then A_te U tp s else
  if t_is tp (z_tx 26) s.1.2.2 = true then A_er U tp s else (A_fl 1 s.1, s.2)
def A_ln (U : Nat) (tp : Nat → Int) (s : zS) : zS := (A_si U tp (A_l1 U tp s).1, a_up (A_l1 U tp s).2 9 ((A_l1 U tp s).2 9 + 1))
theorem l_ln {e n : Nat} {im : Nat → Option Nat} {w u : Nat → Nat → Int} {U : Nat} {tp : Nat → Int} {r : zR} {v : Nat → Int} (hw : T_w U tp) (hQ : S_c w U tp (r, v)) : ∃ w', (z_oV ((z_F (e + 3)).2.2.1 k_Reader_sign [.ref 17] (n, z_q im, jM w, jL u)) none (fun d26 => some (.inl (none, (n, z_q im, (z_u d26.1 10 0 ((d26.1 10 0) + (Int32.ofInt 1))), d26.2)))) : zRs) = some (.inl (none, (n, z_q im, jM w', jL u))) ∧ S_c w' U tp (A_si U tp r, a_up v 9 (v 9 + 1)) ∧ fD w w' := by
  obtain ⟨w1, k1, k2, k3⟩ := S_si (e := e) (n := n) (im := im) (u := u) hw hQ
  have m0 : w1 10 0 = v 9 := k2.2.1
  have n0 : ((jM w1, jL u) : zD).1 10 0 = Int32.ofInt (v 9) := by rw [← m0]; rfl
  refine ⟨_, ?_, S_f0 (x := v 9 + 1) k2, fD_tr k3 (fD_u (by decide))⟩
  rw [k1, z_oV_s, n0, ji_add, jM_u]
def Bv_ (v : Nat → Int) : Prop := (0 ≤ v 6 ∧ v 6 ≤ 4) ∧ (0 ≤ v 7 ∧ v 7 ≤ 10) ∧ (0 ≤ v 8 ∧ v 8 ≤ 4) ∧ (0 ≤ v 9 ∧ v 9 ≤ 2000) ∧ (v 8 ≤ 3 → v (78 + 7 * (v 8).toNat + 1) = 0)
theorem S_ln {e n : Nat} {im : Nat → Option Nat} {w u : Nat → Nat → Int} {U : Nat} {tp : Nat → Int} {r : zR} {v : Nat → Int} (hw : T_w U tp) (hQ : S_c w U tp (r, v)) (hB : Bv_ v) : ∃ w', (z_F (e + 6)).2.2.1 k_Reader_readLine [.ref 17] (n, z_q im, jM w, jL u) = some (jM w', jL u) ∧ S_c w' U tp (A_ln U tp (r, v)) ∧ fD w w' := by
  obtain ⟨b6, b7, b8, b9, bz⟩ := hB
  have m0 : w 10 0 = v 9 := hQ.2.1
  have e0 : ((jM w, jL u) : zD).1 10 0 = Int32.ofInt (v 9) := by rw [← m0]; rfl
  unfold A_ln
  by_cases h0 : v 9 = 0
  · have E : A_l1 U tp (r, v) = A_ha U tp (r, v) := by unfold A_l1; rw [if_pos (show ((r, v) : zS).2 9 = 0 from h0)]
    rw [E]
    obtain ⟨w1, k1, k2, k3⟩ := S_ha (e := e + 1) (n := n) (im := im) (u := u) hw hQ
    obtain ⟨w2, l1, l2, l3⟩ := l_ln (e := e + 2) (n := n) (im := im) (u := u) (r := (A_ha U tp (r, v)).1) (v := (A_ha U tp (r, v)).2) hw k2
    refine ⟨w2, q_Reader_readLine ?_, l2, fD_tr k3 l3⟩
    rw [e0, if_pos (ji_eq0_p (by omega) h0), k1, z_oV_s]
    exact l1
  · have g0 : ¬ ((r, v) : zS).2 9 = 0 := h0
    by_cases h1 : t_is tp (z_tx 22) r.2.2 = true
    · have E : A_l1 U tp (r, v) = A_re U tp (r, v) := by unfold A_l1; rw [if_neg g0, if_pos (show t_is tp (z_tx 22) ((r, v) : zS).1.2.2 = true from h1)]
      rw [E]
      obtain ⟨w1, k1, k2, k3⟩ := S_re (e := e + 1) (n := n) (im := im) (u := u) hw hQ
      obtain ⟨w2, l1, l2, l3⟩ := l_ln (e := e + 2) (n := n) (im := im) (u := u) (r := (A_re U tp (r, v)).1) (v := (A_re U tp (r, v)).2) hw k2
      refine ⟨w2, q_Reader_readLine ?_, l2, fD_tr k3 l3⟩
      rw [e0, if_neg (ji_eq0_n (by omega) h0), s_isw (by decide) (by decide) hw hQ.1, z_oI_s, if_neg (ji_b_n h1), k1, z_oV_s]
      exact l1
    · have g1 : ¬ t_is tp (z_tx 22) ((r, v) : zS).1.2.2 = true := h1
      by_cases h2 : t_is tp (z_tx 23) r.2.2 = true
      · have E : A_l1 U tp (r, v) = A_bo U tp (r, v) := by unfold A_l1; rw [if_neg g0, if_neg g1, if_pos (show t_is tp (z_tx 23) ((r, v) : zS).1.2.2 = true from h2)]
        rw [E]
        obtain ⟨w1, k1, k2, k3⟩ := S_bo (e := e + 1) (n := n) (im := im) (u := u) hw hQ b6
        obtain ⟨w2, l1, l2, l3⟩ := l_ln (e := e + 2) (n := n) (im := im) (u := u) (r := (A_bo U tp (r, v)).1) (v := (A_bo U tp (r, v)).2) hw k2
        refine ⟨w2, q_Reader_readLine ?_, l2, fD_tr k3 l3⟩
        rw [e0, if_neg (ji_eq0_n (by omega) h0), s_isw (by decide) (by decide) hw hQ.1, z_oI_s, if_pos (ji_b_p h1), s_isw (by decide) (by decide) hw hQ.1, z_oI_s, if_neg (ji_b_n h2), k1, z_oV_s]
        exact l1
      · have g2 : ¬ t_is tp (z_tx 23) ((r, v) : zS).1.2.2 = true := h2
        by_cases h3 : t_is tp (z_tx 24) r.2.2 = true
        · have E : A_l1 U tp (r, v) = A_mn U tp (r, v) := by unfold A_l1; rw [if_neg g0, if_neg g1, if_neg g2, if_pos (show t_is tp (z_tx 24) ((r, v) : zS).1.2.2 = true from h3)]
          rw [E]
          obtain ⟨w1, k1, k2, k3⟩ := S_mn (e := e) (n := n) (im := im) (u := u) hw hQ b7
          obtain ⟨w2, l1, l2, l3⟩ := l_ln (e := e + 2) (n := n) (im := im) (u := u) (r := (A_mn U tp (r, v)).1) (v := (A_mn U tp (r, v)).2) hw k2
          refine ⟨w2, q_Reader_readLine ?_, l2, fD_tr k3 l3⟩
          rw [e0, if_neg (ji_eq0_n (by omega) h0), s_isw (by decide) (by decide) hw hQ.1, z_oI_s, if_pos (ji_b_p h1), s_isw (by decide) (by decide) hw hQ.1, z_oI_s, if_pos (ji_b_p h2), s_isw (by decide) (by decide) hw hQ.1, z_oI_s, if_neg (ji_b_n h3), k1, z_oV_s]
          exact l1
        · have g3 : ¬ t_is tp (z_tx 24) ((r, v) : zS).1.2.2 = true := h3
          by_cases h4 : t_is tp (z_tx 25) r.2.2 = true
          · have E : A_l1 U tp (r, v) = A_te U tp (r, v) := by unfold A_l1; rw [if_neg g0, if_neg g1, if_neg g2, if_neg g3, if_pos (show t_is tp (z_tx 25) ((r, v) : zS).1.2.2 = true from h4)]
            rw [E]
            obtain ⟨w1, k1, k2, k3⟩ := S_te (e := e) (n := n) (im := im) (u := u) hw hQ b6 b7 b8 bz
            obtain ⟨w2, l1, l2, l3⟩ := l_ln (e := e + 2) (n := n) (im := im) (u := u) (r := (A_te U tp (r, v)).1) (v := (A_te U tp (r, v)).2) hw k2
            refine ⟨w2, q_Reader_readLine ?_, l2, fD_tr k3 l3⟩
            rw [e0, if_neg (ji_eq0_n (by omega) h0), s_isw (by decide) (by decide) hw hQ.1, z_oI_s, if_pos (ji_b_p h1), s_isw (by decide) (by decide) hw hQ.1, z_oI_s, if_pos (ji_b_p h2), s_isw (by decide) (by decide) hw hQ.1, z_oI_s, if_pos (ji_b_p h3), s_isw (by decide) (by decide) hw hQ.1, z_oI_s, if_neg (ji_b_n h4), k1, z_oV_s]
            exact l1
          · have g4 : ¬ t_is tp (z_tx 25) ((r, v) : zS).1.2.2 = true := h4
            by_cases h5 : t_is tp (z_tx 26) r.2.2 = true
            · have E : A_l1 U tp (r, v) = A_er U tp (r, v) := by unfold A_l1; rw [if_neg g0, if_neg g1, if_neg g2, if_neg g3, if_neg g4, if_pos (show t_is tp (z_tx 26) ((r, v) : zS).1.2.2 = true from h5)]
              rw [E]
              obtain ⟨w1, k1, k2, k3⟩ := S_nx (e := e + 3) (n := n) (im := im) (u := u) hw hQ
              obtain ⟨w3, i1, i2, i3⟩ := S_nu (e := e + 2) (n := n) (im := im) (u := u) 0 50 (by decide) (by decide) hw k2
              obtain ⟨w2, l1, l2, l3⟩ := l_ln (e := e + 2) (n := n) (im := im) (u := u) hw (S_f6 (x := A_vl 0 50 (A_nx U tp r)) i2)
              refine ⟨w2, q_Reader_readLine ?_, l2, fD_tr k3 (fD_tr i3 (fD_tr (fD_u (by decide)) l3))⟩
              rw [e0, if_neg (ji_eq0_n (by omega) h0), s_isw (by decide) (by decide) hw hQ.1, z_oI_s, if_pos (ji_b_p h1), s_isw (by decide) (by decide) hw hQ.1, z_oI_s, if_pos (ji_b_p h2), s_isw (by decide) (by decide) hw hQ.1, z_oI_s, if_pos (ji_b_p h3), s_isw (by decide) (by decide) hw hQ.1, z_oI_s, if_pos (ji_b_p h4), s_isw (by decide) (by decide) hw hQ.1, z_oI_s, if_neg (ji_b_n h5), k1, z_oV_s, i1, z_oI_s, jM_u]
              exact l1
            · have g5 : ¬ t_is tp (z_tx 26) ((r, v) : zS).1.2.2 = true := h5
              have E : A_l1 U tp (r, v) = (A_fl 1 r, v) := by unfold A_l1; rw [if_neg g0, if_neg g1, if_neg g2, if_neg g3, if_neg g4, if_neg g5]
              rw [E]
              obtain ⟨w1, k1, k2, k3⟩ := S_fl (e := e + 4) (n := n) (im := im) (u := u) (k := 1) (by decide) hQ
              obtain ⟨w2, l1, l2, l3⟩ := l_ln (e := e + 2) (n := n) (im := im) (u := u) hw k2
              refine ⟨w2, q_Reader_readLine ?_, l2, fD_tr k3 l3⟩
              rw [e0, if_neg (ji_eq0_n (by omega) h0), s_isw (by decide) (by decide) hw hQ.1, z_oI_s, if_pos (ji_b_p h1), s_isw (by decide) (by decide) hw hQ.1, z_oI_s, if_pos (ji_b_p h2), s_isw (by decide) (by decide) hw hQ.1, z_oI_s, if_pos (ji_b_p h3), s_isw (by decide) (by decide) hw hQ.1, z_oI_s, if_pos (ji_b_p h4), s_isw (by decide) (by decide) hw hQ.1, z_oI_s, if_pos (ji_b_p h5), k1, z_oV_s]
              exact l1
theorem s_fill_11 {e n : Nat} {im : Nat → Option Nat} {w u : Nat → Nat → Int} {x : Int} : ∃ w', (z_F (e + 1)).2.2.1 k_Row_fill [.ref 11, .int (Int32.ofInt x)] (n, z_q im, jM w, jL u) = some (jM w', jL u) ∧ (∀ c, c ≠ 12 → w' c = w c) ∧ ∀ j, j < 8 → w' 12 j = x := by
  obtain ⟨t9, ht9, wf, rfl, i1, i2⟩ := z_for (o := z_F e) (cd := cd_Row_fill) (P := fun i s => ∃ wi, s = (3, [some (.ref 11), some (.int (Int32.ofInt x)), some (.int (Int32.ofInt (i : Int)))], (n, z_q im, jM wi, jL u)) ∧ (∀ c, c ≠ 12 → wi c = w c) ∧ ∀ j, j < i → wi 12 j = x) 8 (s := (3, [some (.ref 11), some (.int (Int32.ofInt x)), some (.int (Int32.ofInt 0))], (n, z_q im, jM w, jL u))) ⟨w, rfl, fun _ _ => rfl, fun j hj => absurd hj (by omega)⟩ (fun i s hi hs => by
    obtain ⟨wi, rfl, i1, i2⟩ := hs
    refine ⟨(3, [some (.ref 11), some (.int (Int32.ofInt x)), some (.int (Int32.ofInt ((i : Int) + 1)))], (n, z_q im, jM (z_u wi 12 i x), jL u)), z_To_1 ((e_Row_fill_11_3 ..).trans ?_), _, rfl, fun c hc => by rw [z_u_ne hc]; exact i1 c hc, fun j hj => ?_⟩
    · rw [show Int32.ofNat 8 = Int32.ofInt 8 from rfl, if_neg (ji_le_n (by decide) (by omega) (by omega)), if_neg (by simp (disch := omega) only [ji_lt0, ji_nat]; omega), ji_add, ji_nat (by omega)]
      simp only [jM_u]
      rw [show ((i : Int)).toNat = i by omega]
    · rw [z_u_at]
      split
      · rfl
      · exact i2 j (by omega))
  refine ⟨wf, n_Row_fill_11 (z_go (e_Row_fill_11_0 ..) (ht9 _ (z_ret ((e_Row_fill_11_3 ..).trans ?_)))), i1, i2⟩
  rw [show Int32.ofNat 8 = Int32.ofInt 8 from rfl, if_pos (ji_le_p (by decide) (by decide) (by decide))]
theorem s_fill_13 {e n : Nat} {im : Nat → Option Nat} {w u : Nat → Nat → Int} {x : Int} : ∃ w', (z_F (e + 1)).2.2.1 k_Row_fill [.ref 13, .int (Int32.ofInt x)] (n, z_q im, jM w, jL u) = some (jM w', jL u) ∧ (∀ c, c ≠ 14 → w' c = w c) ∧ ∀ j, j < 60 → w' 14 j = x := by
  obtain ⟨t9, ht9, wf, rfl, i1, i2⟩ := z_for (o := z_F e) (cd := cd_Row_fill) (P := fun i s => ∃ wi, s = (3, [some (.ref 13), some (.int (Int32.ofInt x)), some (.int (Int32.ofInt (i : Int)))], (n, z_q im, jM wi, jL u)) ∧ (∀ c, c ≠ 14 → wi c = w c) ∧ ∀ j, j < i → wi 14 j = x) 60 (s := (3, [some (.ref 13), some (.int (Int32.ofInt x)), some (.int (Int32.ofInt 0))], (n, z_q im, jM w, jL u))) ⟨w, rfl, fun _ _ => rfl, fun j hj => absurd hj (by omega)⟩ (fun i s hi hs => by
    obtain ⟨wi, rfl, i1, i2⟩ := hs
    refine ⟨(3, [some (.ref 13), some (.int (Int32.ofInt x)), some (.int (Int32.ofInt ((i : Int) + 1)))], (n, z_q im, jM (z_u wi 14 i x), jL u)), z_To_1 ((e_Row_fill_13_3 ..).trans ?_), _, rfl, fun c hc => by rw [z_u_ne hc]; exact i1 c hc, fun j hj => ?_⟩
    · rw [show Int32.ofNat 60 = Int32.ofInt 60 from rfl, if_neg (ji_le_n (by decide) (by omega) (by omega)), if_neg (by simp (disch := omega) only [ji_lt0, ji_nat]; omega), ji_add, ji_nat (by omega)]
      simp only [jM_u]
      rw [show ((i : Int)).toNat = i by omega]
    · rw [z_u_at]
      split
      · rfl
      · exact i2 j (by omega))
  refine ⟨wf, n_Row_fill_13 (z_go (e_Row_fill_13_0 ..) (ht9 _ (z_ret ((e_Row_fill_13_3 ..).trans ?_)))), i1, i2⟩
  rw [show Int32.ofNat 60 = Int32.ofInt 60 from rfl, if_pos (ji_le_p (by decide) (by decide) (by decide))]
theorem s_fill_15 {e n : Nat} {im : Nat → Option Nat} {w u : Nat → Nat → Int} {x : Int} : ∃ w', (z_F (e + 1)).2.2.1 k_Row_fill [.ref 15, .int (Int32.ofInt x)] (n, z_q im, jM w, jL u) = some (jM w', jL u) ∧ (∀ c, c ≠ 16 → w' c = w c) ∧ ∀ j, j < 28 → w' 16 j = x := by
  obtain ⟨t9, ht9, wf, rfl, i1, i2⟩ := z_for (o := z_F e) (cd := cd_Row_fill) (P := fun i s => ∃ wi, s = (3, [some (.ref 15), some (.int (Int32.ofInt x)), some (.int (Int32.ofInt (i : Int)))], (n, z_q im, jM wi, jL u)) ∧ (∀ c, c ≠ 16 → wi c = w c) ∧ ∀ j, j < i → wi 16 j = x) 28 (s := (3, [some (.ref 15), some (.int (Int32.ofInt x)), some (.int (Int32.ofInt 0))], (n, z_q im, jM w, jL u))) ⟨w, rfl, fun _ _ => rfl, fun j hj => absurd hj (by omega)⟩ (fun i s hi hs => by
    obtain ⟨wi, rfl, i1, i2⟩ := hs
    refine ⟨(3, [some (.ref 15), some (.int (Int32.ofInt x)), some (.int (Int32.ofInt ((i : Int) + 1)))], (n, z_q im, jM (z_u wi 16 i x), jL u)), z_To_1 ((e_Row_fill_15_3 ..).trans ?_), _, rfl, fun c hc => by rw [z_u_ne hc]; exact i1 c hc, fun j hj => ?_⟩
    · rw [show Int32.ofNat 28 = Int32.ofInt 28 from rfl, if_neg (ji_le_n (by decide) (by omega) (by omega)), if_neg (by simp (disch := omega) only [ji_lt0, ji_nat]; omega), ji_add, ji_nat (by omega)]
      simp only [jM_u]
      rw [show ((i : Int)).toNat = i by omega]
    · rw [z_u_at]
      split
      · rfl
      · exact i2 j (by omega))
  refine ⟨wf, n_Row_fill_15 (z_go (e_Row_fill_15_0 ..) (ht9 _ (z_ret ((e_Row_fill_15_3 ..).trans ?_)))), i1, i2⟩
  rw [show Int32.ofNat 28 = Int32.ofInt 28 from rfl, if_pos (ji_le_p (by decide) (by decide) (by decide))]
theorem s_clear_10 {e n : Nat} {im : Nat → Option Nat} {w u : Nat → Nat → Int} : ∃ w', (z_F (e + 2)).2.2.1 k_Harbour_clear [.ref 10] (n, z_q im, jM w, jL u) = some (jM w', jL u) ∧ c_h w' 10 (fun _ => 0) ∧ ∀ c, (c < 10 ∨ 16 < c) → w' c = w c := by
  obtain ⟨w1, k1, k2, k3⟩ := s_fill_11 (e := e) (n := n) (im := im) (w := z_u (z_u (z_u (z_u (z_u (z_u (z_u (z_u (z_u (z_u w 10 0 0) 10 1 0) 10 2 0) 10 3 0) 10 4 0) 10 5 0) 10 6 0) 10 7 0) 10 8 0) 10 9 0) (u := u) (x := 0)
  obtain ⟨w2, l1, l2, l3⟩ := s_fill_13 (e := e) (n := n) (im := im) (w := w1) (u := u) (x := 0)
  obtain ⟨w3, i1, i2, i3⟩ := s_fill_15 (e := e) (n := n) (im := im) (w := w2) (u := u) (x := 0)
  refine ⟨w3, q_Harbour_clear_10 ?_, ?_, fun c hc => ?_⟩
  · simp only [jM_u]
    rw [k1, z_oV_s, l1, z_oV_s, i1, z_oV_s]
  · have h10 : w3 10 = (z_u (z_u (z_u (z_u (z_u (z_u (z_u (z_u (z_u (z_u w 10 0 0) 10 1 0) 10 2 0) 10 3 0) 10 4 0) 10 5 0) 10 6 0) 10 7 0) 10 8 0) 10 9 0) 10 := by rw [i2 10 (by decide), l2 10 (by decide), k2 10 (by decide)]
    refine ⟨by rw [h10]; rfl, by rw [h10]; rfl, by rw [h10]; rfl, by rw [h10]; rfl, by rw [h10]; rfl, by rw [h10]; rfl, by rw [h10]; rfl, by rw [h10]; rfl, by rw [h10]; rfl, by rw [h10]; rfl, fun j hj => ?_, fun j hj => ?_, fun j hj => ?_⟩
    · rw [i2 (10 + 2) (by decide), l2 (10 + 2) (by decide)]; exact k3 j hj
    · rw [i2 (10 + 4) (by decide)]; exact l3 j hj
    · exact i3 j hj
  · rw [i2 c (by omega), l2 c (by omega), k2 c (by omega)]
    (repeat rw [z_u_ne (by omega)])
theorem s_nx0 {e n : Nat} {im : Nat → Option Nat} {w u : Nat → Nat → Int} {U : Nat} {tp : Nat → Int} (hw : T_w U tp) (hT : T_c w U tp) (h2 : w 17 2 = 0) (h6 : w 17 6 = 0) (h7 : w 17 7 = -1) : ∃ w', (z_F (e + 2)).2.2.1 k_Reader_nextToken [.ref 17] (n, z_q im, jM w, jL u) = some (jM w', jL u) ∧ Q_c w' U tp (0, -1, t_nx U tp 0) ∧ f17 w w' := by
  have e6 : ((jM w, jL u) : zD).1 17 6 = Int32.ofInt 0 := by rw [← h6]; rfl
  have k := t_nx_ok (tp := tp) (Nat.zero_le U)
  refine ⟨c_tk w (t_nx U tp 0), n_Reader_nextToken (z_go ((e_Reader_nextToken_0 ..).trans ?_) (l_blank hw U 0 w (by omega) (Nat.zero_le U) hT h2)), ?_, ?_⟩
  · rw [e6, if_pos (show Int32.ofInt 0 = 0 from rfl)]
  · exact ⟨⟨hT.1, hT.2⟩, ⟨rfl, rfl, rfl, rfl⟩, ⟨h6, h7⟩, k.1, by dsimp only; omega⟩
  · intro c hc; unfold c_tk; rw [z_u_ne hc, z_u_ne hc, z_u_ne hc, z_u_ne hc]
