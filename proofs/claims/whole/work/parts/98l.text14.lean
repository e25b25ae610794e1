/-! the text read: the reference's reader -/
def Q_m (w : Nat → Nat → Int) (U : Nat) (tp : Nat → Int) (s : zS) : Prop := w 45 7 = (U : Int) ∧ (∀ j, j < U → w 49 j = tp j) ∧ (w 45 12 = s.1.1 ∧ w 45 13 = s.1.2.1) ∧ r_ok U s.1 ∧ (s.1.1 = 0 → (w 45 8 = (s.1.2.2.1 : Int) ∧ w 45 9 = (s.1.2.2.2.1 : Int) ∧ w 45 10 = s.1.2.2.2.2.1 ∧ (s.1.2.2.2.2.1 = 2 → w 45 11 = t_cp 99999 s.1.2.2.2.2.2)) ∧ ∀ j, j < 106 → w 51 j = s.2 j)
def fM (w w' : Nat → Nat → Int) : Prop := (∀ c, c ≠ 45 → c ≠ 51 → w' c = w c) ∧ ∀ j, (j < 8 ∨ 13 < j) → w' 45 j = w 45 j
def fN (w w' : Nat → Nat → Int) : Prop := (∀ c, c ≠ 45 → w' c = w c) ∧ ∀ j, (j < 8 ∨ 13 < j) → w' 45 j = w 45 j
theorem fN_rf (w : Nat → Nat → Int) : fN w w := ⟨fun _ _ => rfl, fun _ _ => rfl⟩
theorem fN_tr {a b c : Nat → Nat → Int} (h : fN a b) (k : fN b c) : fN a c := ⟨fun d h1 => (k.1 d h1).trans (h.1 d h1), fun j hj => (k.2 j hj).trans (h.2 j hj)⟩
theorem fN_M {w w' : Nat → Nat → Int} (h : fN w w') : fM w w' := ⟨fun c h1 _ => h.1 c h1, h.2⟩
theorem fN_45 {w : Nat → Nat → Int} {j : Nat} {x : Int} (h : 8 ≤ j ∧ j ≤ 13) : fN w (z_u w 45 j x) := ⟨fun c h => z_u_ne h, fun i hi => by rw [z_u_at, if_neg (by omega)]⟩
theorem fM_rf (w : Nat → Nat → Int) : fM w w := ⟨fun _ _ _ => rfl, fun _ _ => rfl⟩
theorem fM_tr {a b c : Nat → Nat → Int} (h : fM a b) (k : fM b c) : fM a c := ⟨fun d h1 h2 => (k.1 d h1 h2).trans (h.1 d h1 h2), fun j hj => (k.2 j hj).trans (h.2 j hj)⟩
theorem fM_51 {w : Nat → Nat → Int} {j : Nat} {x : Int} : fM w (z_u w 51 j x) := ⟨fun c _ h => z_u_ne h, fun i _ => rfl⟩
theorem fM_45 {w : Nat → Nat → Int} {j : Nat} {x : Int} (h : 8 ≤ j ∧ j ≤ 13) : fM w (z_u w 45 j x) := ⟨fun c h _ => z_u_ne h, fun i hi => by rw [z_u_at, if_neg (by omega)]⟩
theorem Q_m_u {w : Nat → Nat → Int} {U : Nat} {tp : Nat → Int} {r : zR} {v : Nat → Int} {k : Nat} {x : Int} (hQ : Q_m w U tp (r, v)) : Q_m (z_u w 51 k x) U tp (r, a_up v k x) := by
  obtain ⟨h1, h2, h3, h4, h5⟩ := hQ
  refine ⟨h1, h2, h3, h4, fun q => ⟨(h5 q).1, fun j hj => ?_⟩⟩
  rw [z_u_at]
  show _ = a_up v k x j
  unfold a_up
  split
  · rfl
  · exact (h5 q).2 j hj
/-- a fault, once made, leaves the numbers free -/
theorem Q_m_f {w : Nat → Nat → Int} {U : Nat} {tp : Nat → Int} {r : zR} {v v' : Nat → Int} (hQ : Q_m w U tp (r, v)) (h : ¬ r.1 = 0) : Q_m w U tp (r, v') := ⟨hQ.1, hQ.2.1, hQ.2.2.1, hQ.2.2.2.1, fun q => absurd q h⟩
theorem m_good {e n : Nat} {im : Nat → Option Nat} {w u : Nat → Nat → Int} {U : Nat} {tp : Nat → Int} {r : zR} {v : Nat → Int} (hQ : Q_m w U tp (r, v)) : (z_F (e + 1)).1 k_Model_good [.ref 45] (n, z_q im, jM w, jL u) = some (Int32.ofInt (if r.1 = 0 then 1 else 0), jM w, jL u) := by
  have q : w 45 12 = r.1 := hQ.2.2.1.1
  have e12 : ((jM w, jL u) : zD).1 45 12 = Int32.ofInt r.1 := by rw [← q]; rfl
  have hb := hQ.2.2.2.1.2
  dsimp only at hb
  refine q_Model_good ?_
  rw [e12]
  by_cases h : r.1 = 0
  · rw [if_pos (ji_eq0_p (by omega) h), if_pos h]
  · rw [if_neg (ji_eq0_n (by omega) h), if_neg h]
theorem m_errs {e n : Nat} {im : Nat → Option Nat} {w u : Nat → Nat → Int} {U : Nat} {tp : Nat → Int} {r : zR} {v : Nat → Int} {k : Int} (hk : 1 ≤ k ∧ k ≤ 3) (hQ : Q_m w U tp (r, v)) : ∃ w', (z_F (e + 2)).2.2.1 k_Model_errs [.ref 45, .int (Int32.ofInt k)] (n, z_q im, jM w, jL u) = some (jM w', jL u) ∧ Q_m w' U tp (A_fl k r, v) ∧ fN w w' := by
  by_cases h : r.1 = 0
  · have q : w 45 9 = (r.2.2.2.1 : Int) := (hQ.2.2.2.2 h).1.2.1
    have e9 : ((jM w, jL u) : zD).1 45 9 = Int32.ofInt (r.2.2.2.1 : Int) := by rw [← q]; rfl
    have E : A_fl k r = (k, (r.2.2.2.1 : Int), r.2.2) := if_pos h
    refine ⟨z_u (z_u w 45 12 k) 45 13 (r.2.2.2.1 : Int), q_Model_errs ?_, ?_, fN_tr (fN_45 (by decide)) (fN_45 (by decide))⟩
    · rw [m_good hQ, z_oI_s, if_neg (ji_b_n h), e9, jM_u, jM_u]
    · rw [E]
      exact ⟨hQ.1, hQ.2.1, ⟨rfl, rfl⟩, ⟨hQ.2.2.2.1.1, by dsimp only; omega⟩, fun z => by dsimp only at z; omega⟩
  · refine ⟨w, q_Model_errs ?_, ?_, fN_rf w⟩
    · rw [m_good hQ, z_oI_s, if_pos (ji_b_p h)]
    · rw [A_fl_b h]; exact hQ
theorem m_nx {e n : Nat} {im : Nat → Option Nat} {w u : Nat → Nat → Int} {U : Nat} {tp : Nat → Int} {r : zR} {v : Nat → Int} (hw : T_w U tp) (hQ : Q_m w U tp (r, v)) (h : r.1 = 0) : ∃ w', (z_F (e + 2)).2.2.1 k_Model_advance [.ref 45] (n, z_q im, jM w, jL u) = some (jM w', jL u) ∧ Q_m w' U tp (A_nx U tp r, v) ∧ fN w w' := by
  obtain ⟨h1, h2, h3, h4, h5⟩ := hQ
  obtain ⟨⟨g1, g2, g3, g4⟩, g5⟩ := h5 h
  obtain ⟨w', k1, k2, k3, k4, k5, k6, k7⟩ := m_adv (e := e) (n := n) (im := im) (u := u) hw h4.1.2.1 h1 h2 g1
  have E : A_nx U tp r = (r.1, r.2.1, t_nx U tp r.2.2.1) := if_pos h
  refine ⟨w', k1, ?_, fun c hc => k2 c hc, fun j hj => k3 j (by omega)⟩
  have ok := A_nx_ok (tp := tp) h4
  rw [E]
  rw [E] at ok
  refine ⟨(k3 7 (by decide)).trans h1, fun j hj => by rw [k2 49 (by decide)]; exact h2 j hj, ⟨(k3 12 (by decide)).trans h3.1, (k3 13 (by decide)).trans h3.2⟩, ok, fun _ => ⟨⟨k4, k5, k6, k7⟩, fun j hj => by rw [k2 51 (by decide)]; exact g5 j hj⟩⟩
theorem l_mis0 {e n : Nat} {im : Nat → Option Nat} {w u : Nat → Nat → Int} {s : Nat} (hs : 1 ≤ s) {x3 : Int32} : z_Rn (z_F (e + 1)) cd_Model_is 22 [some (.ref 45), some (.ref (z_sb + s)), some (.int (Int32.ofInt 0)), some (.int x3)] (n, z_q im, jM w, jL u) (some (.int (Int32.ofInt 0)), (n, z_q im, jM w, jL u)) := by
  refine z_ret ((e_Model_is_22 ..).trans ?_)
  rw [z_sbt hs, cond_true]
  have h0 : Int32.ofInt 0 = 0 ∨ Int32.ofInt 0 = 1 := Or.inl rfl
  rw [if_pos h0, if_pos (show Int32.ofInt 0 = 0 from rfl)]
  split <;> rfl
theorem l_mis {e n : Nat} {im : Nat → Option Nat} {w u : Nat → Nat → Int} {U : Nat} {tp : Nat → Int} (hw : T_w U tp) {s st : Nat} (hs : 1 ≤ s) (hl : (z_tx s).length ≤ 100) (hst : st + (z_tx s).length ≤ U) (hT : ∀ j, j < U → w 49 j = tp j) (h9 : w 45 9 = (st : Int)) : ∀ (f i : Nat), i + f = (z_tx s).length → (∀ j, j < i → Int32.ofInt (tp (st + j)) = (z_tx s).getD j 0) → z_Rn (z_F (e + 1)) cd_Model_is 22 [some (.ref 45), some (.ref (z_sb + s)), some (.int (Int32.ofInt 1)), some (.int (Int32.ofInt (i : Int)))] (n, z_q im, jM w, jL u) (some (.int (Int32.ofInt (if t_mt tp (z_tx s) st = true then 1 else 0))), (n, z_q im, jM w, jL u))
  | 0, i, hi, hj => by
    have hm : t_mt tp (z_tx s) st = true := decide_eq_true (fun j hj' => hj j (by omega))
    refine z_ret ((e_Model_is_22 ..).trans ?_)
    rw [z_sbt hs, cond_true, z_sbs, ji_oN, if_pos (ji_le_p (by omega) (by omega) (by omega)), if_pos (show Int32.ofInt 1 = 0 ∨ Int32.ofInt 1 = 1 from Or.inr rfl), if_pos hm]
  | f + 1, i, hi, hj => by
    have hU := hw.1
    have e9 : ((jM w, jL u) : zD).1 45 9 = Int32.ofInt (st : Int) := by rw [← h9]; rfl
    have e2 : ((jM w, jL u) : zD).1 49 (st + i) = Int32.ofInt (tp (st + i)) := by rw [← hT _ (by omega)]; rfl
    have g0 : ¬ Int32.ofInt (i : Int) < 0 := ji_lt_n (b := 0) (by omega) (by decide) (by omega)
    have g1 : ¬ Int32.ofInt ((st : Int) + (i : Int)) < 0 := ji_lt_n (b := 0) (by omega) (by decide) (by omega)
    by_cases hc : Int32.ofInt (tp (st + i)) = (z_tx s).getD i 0
    · refine z_go ((e_Model_is_22 ..).trans ?_) (l_mis hw hs hl hst hT h9 f (i + 1) (by omega) (fun j hj' => ?_))
      · rw [z_sbt hs, cond_true, z_sbs, ji_oN, if_neg (ji_le_n (by omega) (by omega) (by omega)), if_neg (show ¬ Int32.ofInt 1 = 0 by decide), e9, ji_add, ji_nat (by omega), show ((st : Int) + (i : Int)).toNat = st + i by omega, if_neg (fun q => q.elim g1 (by omega)), cond_true, ji_nat (by omega), show ((i : Int)).toNat = i by omega, if_neg (fun q => q.elim g0 (by omega)), e2, if_pos hc, ji_add]
        rfl
      · by_cases h : j = i
        · rw [h]; exact hc
        · exact hj j (by omega)
    · have hm : ¬ t_mt tp (z_tx s) st = true := fun q => hc (of_decide_eq_true q i (by omega))
      rw [if_neg hm]
      refine z_go ((e_Model_is_22 ..).trans ?_) (l_mis0 hs (x3 := Int32.ofInt ((i : Int) + 1)))
      rw [z_sbt hs, cond_true, z_sbs, ji_oN, if_neg (ji_le_n (by omega) (by omega) (by omega)), if_neg (show ¬ Int32.ofInt 1 = 0 by decide), e9, ji_add, ji_nat (by omega), show ((st : Int) + (i : Int)).toNat = st + i by omega, if_neg (fun q => q.elim g1 (by omega)), cond_true, ji_nat (by omega), show ((i : Int)).toNat = i by omega, if_neg (fun q => q.elim g0 (by omega)), e2, if_neg hc, ji_add]
theorem m_is {e n : Nat} {im : Nat → Option Nat} {w u : Nat → Nat → Int} {U : Nat} {tp : Nat → Int} {r : zR} {v : Nat → Int} (s : Nat) (hs : 1 ≤ s) (hl : (z_tx s).length ≤ 100) (hw : T_w U tp) (hQ : Q_m w U tp (r, v)) : (z_F (e + 2)).1 k_Model_is [.ref 45, .ref (z_sb + s)] (n, z_q im, jM w, jL u) = some (Int32.ofInt (if r.1 = 0 ∧ t_is tp (z_tx s) r.2.2 = true then 1 else 0), jM w, jL u) := by
  have hU := hw.1
  by_cases h : r.1 = 0
  · obtain ⟨⟨g1, g2, g3, g4⟩, g5⟩ := hQ.2.2.2.2 h
    dsimp only at g1 g2 g3
    obtain ⟨t1, t2, t3, t4, t5⟩ := id hQ.2.2.2.1.1
    dsimp only at t1 t2 t3
    have e8 : ((jM w, jL u) : zD).1 45 8 = Int32.ofInt (r.2.2.1 : Int) := by rw [← g1]; rfl
    have e9 : ((jM w, jL u) : zD).1 45 9 = Int32.ofInt (r.2.2.2.1 : Int) := by rw [← g2]; rfl
    have e10 : ((jM w, jL u) : zD).1 45 10 = Int32.ofInt r.2.2.2.2.1 := by rw [← g3]; rfl
    by_cases h1 : r.2.2.2.2.1 = 1
    · by_cases h2 : r.2.2.1 = r.2.2.2.1 + (z_tx s).length
      · have E : (if r.1 = 0 ∧ t_is tp (z_tx s) r.2.2 = true then (1 : Int) else 0) = if t_mt tp (z_tx s) r.2.2.2.1 = true then 1 else 0 := by
          rw [t_is_y h1 h2]
          by_cases hm : t_mt tp (z_tx s) r.2.2.2.1 = true
          · rw [if_pos ⟨h, hm⟩, if_pos hm]
          · rw [if_neg (fun q => hm q.2), if_neg hm]
        rw [E]
        refine n_Model_is (z_go ((e_Model_is_0 ..).trans ?_) (l_mis hw hs hl (by omega) hQ.2.1 g2 (z_tx s).length 0 (by omega) (fun j hj => by omega)))
        rw [m_good hQ, z_oI_s, if_neg (ji_b_n h), e10, if_pos (ji_eq_p (by omega) (by decide) h1), z_sbt hs, cond_true, z_sbs, ji_oN, e8, e9, ji_sub, if_pos (ji_eq_p (by omega) (by omega) (by omega))]
        rfl
      · rw [if_neg (fun q => t_is_n2 h2 q.2)]
        refine n_Model_is (z_go ((e_Model_is_0 ..).trans ?_) (l_mis0 hs (x3 := Int32.ofInt 0)))
        rw [m_good hQ, z_oI_s, if_neg (ji_b_n h), e10, if_pos (ji_eq_p (by omega) (by decide) h1), z_sbt hs, cond_true, z_sbs, ji_oN, e8, e9, ji_sub, if_neg (ji_eq_n (by omega) (by omega) (by omega))]
    · rw [if_neg (fun q => t_is_n1 h1 q.2)]
      refine n_Model_is (z_go ((e_Model_is_0 ..).trans ?_) (l_mis0 hs (x3 := Int32.ofInt 0)))
      rw [m_good hQ, z_oI_s, if_neg (ji_b_n h), e10, if_neg (ji_eq_n (by omega) (by decide) h1)]
  · rw [if_neg (fun q => h q.1)]
    refine n_Model_is (z_go ((e_Model_is_0 ..).trans ?_) (l_mis0 hs (x3 := Int32.ofInt 0)))
    rw [m_good hQ, z_oI_s, if_pos (ji_b_p h)]
theorem m_takes {e n : Nat} {im : Nat → Option Nat} {w u : Nat → Nat → Int} {U : Nat} {tp : Nat → Int} {r : zR} {v : Nat → Int} (s : Nat) (hs : 1 ≤ s) (hl : (z_tx s).length ≤ 100) (hw : T_w U tp) (hQ : Q_m w U tp (r, v)) : ∃ w', (z_F (e + 3)).1 k_Model_takes [.ref 45, .ref (z_sb + s)] (n, z_q im, jM w, jL u) = some (Int32.ofInt (if r.1 = 0 ∧ t_is tp (z_tx s) r.2.2 = true then 1 else 0), jM w', jL u) ∧ Q_m w' U tp (if r.1 = 0 ∧ t_is tp (z_tx s) r.2.2 = true then A_nx U tp r else r, v) ∧ fN w w' := by
  by_cases h : r.1 = 0 ∧ t_is tp (z_tx s) r.2.2 = true
  · obtain ⟨w1, k1, k2, k3⟩ := m_nx (e := e) (n := n) (im := im) (u := u) hw hQ h.1
    refine ⟨w1, q_Model_takes ?_, by rw [if_pos h]; exact k2, k3⟩
    rw [m_is s hs hl hw hQ, z_oI_s, if_neg (ji_b_n h), k1, z_oV_s, if_pos h, if_pos (show Int32.ofInt 1 = 0 ∨ Int32.ofInt 1 = 1 from Or.inr rfl)]
  · refine ⟨w, q_Model_takes ?_, by rw [if_neg h]; exact hQ, fN_rf w⟩
    rw [m_is s hs hl hw hQ, z_oI_s, if_pos (ji_b_p h), if_neg h, if_pos (show Int32.ofInt 0 = 0 ∨ Int32.ofInt 0 = 1 from Or.inl rfl)]
theorem m_needs {e n : Nat} {im : Nat → Option Nat} {w u : Nat → Nat → Int} {U : Nat} {tp : Nat → Int} {r : zR} {v : Nat → Int} (s : Nat) (hs : 1 ≤ s) (hl : (z_tx s).length ≤ 100) (hw : T_w U tp) (hQ : Q_m w U tp (r, v)) : ∃ w', (z_F (e + 4)).2.2.1 k_Model_needs [.ref 45, .ref (z_sb + s)] (n, z_q im, jM w, jL u) = some (jM w', jL u) ∧ Q_m w' U tp (A_wo U tp (z_tx s) r, v) ∧ fN w w' := by
  obtain ⟨w1, k1, k2, k3⟩ := m_takes (e := e) (n := n) (im := im) (u := u) s hs hl hw hQ
  by_cases h : r.1 = 0 ∧ t_is tp (z_tx s) r.2.2 = true
  · rw [if_pos h] at k2
    refine ⟨w1, q_Model_needs ?_, ?_, k3⟩
    · rw [k1, z_oI_s, if_neg (ji_b_n h)]
    · unfold A_wo; rw [if_pos h.2]; exact k2
  · rw [if_neg h] at k2
    obtain ⟨w2, l1, l2, l3⟩ := m_errs (e := e + 1) (n := n) (im := im) (u := u) (k := 1) (by decide) k2
    refine ⟨w2, q_Model_needs ?_, ?_, fN_tr k3 l3⟩
    · rw [k1, z_oI_s, if_pos (ji_b_p h), l1, z_oV_s]
    · unfold A_wo
      by_cases h1 : t_is tp (z_tx s) r.2.2 = true
      · have h0 : ¬ r.1 = 0 := fun q => h ⟨q, h1⟩
        rw [if_pos h1, A_nx_b h0]
        rw [A_fl_b h0] at l2
        exact l2
      · rw [if_neg h1, A_nx_b (A_fl_n0 (by decide))]
        exact l2
theorem t_cp_in {x lo hi : Int} (h : hi ≤ 1000) : (lo ≤ t_cp 99999 x ∧ t_cp 99999 x ≤ hi) ↔ (lo ≤ x ∧ x ≤ hi) := by
  unfold t_cp
  split <;> omega
theorem m_number {e n : Nat} {im : Nat → Option Nat} {w u : Nat → Nat → Int} {U : Nat} {tp : Nat → Int} {r : zR} {v : Nat → Int} (lo hi : Int) (hlo : jR lo) (hhi : -1 ≤ hi ∧ hi ≤ 1000) (hw : T_w U tp) (hQ : Q_m w U tp (r, v)) : ∃ w', (z_F (e + 3)).1 k_Model_number [.ref 45, .int (Int32.ofInt lo), .int (Int32.ofInt hi)] (n, z_q im, jM w, jL u) = some (Int32.ofInt (A_vl lo hi r), jM w', jL u) ∧ Q_m w' U tp (A_nu U tp lo hi r, v) ∧ fN w w' := by
  by_cases h : r.1 = 0
  · obtain ⟨⟨g1, g2, g3, g4⟩, g5⟩ := hQ.2.2.2.2 h
    dsimp only at g1 g2 g3 g4
    obtain ⟨t1, t2, t3, t4, t5⟩ := id hQ.2.2.2.1.1
    dsimp only at t1 t2 t3 t4
    have e10 : ((jM w, jL u) : zD).1 45 10 = Int32.ofInt r.2.2.2.2.1 := by rw [← g3]; rfl
    by_cases h1 : r.2.2.2.2.1 = 2
    · have q11 := g4 h1
      have e11 : ((jM w, jL u) : zD).1 45 11 = Int32.ofInt (t_cp 99999 r.2.2.2.2.2) := by rw [← q11]; rfl
      have tb : 0 ≤ t_cp 99999 r.2.2.2.2.2 ∧ t_cp 99999 r.2.2.2.2.2 ≤ 99999 := by unfold t_cp; split <;> omega
      by_cases h2 : lo ≤ r.2.2.2.2.2 ∧ r.2.2.2.2.2 ≤ hi
      · have E : A_nt lo hi r = r := by unfold A_nt; rw [if_pos h1, if_pos h2]
        have Ev : A_vl lo hi r = t_cp 99999 r.2.2.2.2.2 := by
          unfold A_vl; rw [E, if_pos h]; unfold t_cp; rw [if_pos (by omega)]
        obtain ⟨w1, k1, k2, k3⟩ := m_nx (e := e) (n := n) (im := im) (u := u) hw hQ h
        refine ⟨w1, q_Model_number ?_, by unfold A_nu; rw [E]; exact k2, k3⟩
        rw [m_good hQ, z_oI_s, if_neg (ji_b_n h), e10, if_pos (ji_eq_p (by omega) (by decide) h1), m_good hQ, z_oI_s, if_neg (ji_b_n h), e11, jl_of (by omega), jl_of hlo, jl_of (by omega), s_in (by omega) (by omega) (by omega), z_oI_s, if_neg (ji_b_n ((t_cp_in hhi.2).mpr h2)), m_good hQ, z_oI_s, if_neg (ji_b_n h), k1, z_oV_s, e11, Ev]
      · have E : A_nt lo hi r = A_fl 2 r := by unfold A_nt; rw [if_pos h1, if_neg h2]
        have hn : ¬ (A_fl 2 r).1 = 0 := A_fl_n0 (by decide)
        have Ev : A_vl lo hi r = 0 := by unfold A_vl; rw [E, if_neg hn]
        obtain ⟨w1, k1, k2, k3⟩ := m_errs (e := e) (n := n) (im := im) (u := u) (k := 2) (by decide) hQ
        refine ⟨w1, q_Model_number ?_, by unfold A_nu; rw [E, A_nx_b hn]; exact k2, k3⟩
        rw [m_good hQ, z_oI_s, if_neg (ji_b_n h), e10, if_pos (ji_eq_p (by omega) (by decide) h1), m_good hQ, z_oI_s, if_neg (ji_b_n h), e11, jl_of (by omega), jl_of hlo, jl_of (by omega), s_in (by omega) (by omega) (by omega), z_oI_s, if_pos (ji_b_p (fun q => h2 ((t_cp_in hhi.2).mp q))), k1, z_oV_s, m_good k2, z_oI_s, if_pos (ji_b_p hn), Ev]
    · have E : A_nt lo hi r = A_fl 1 r := by unfold A_nt; rw [if_neg h1]
      have hn : ¬ (A_fl 1 r).1 = 0 := A_fl_n0 (by decide)
      have Ev : A_vl lo hi r = 0 := by unfold A_vl; rw [E, if_neg hn]
      obtain ⟨w1, k1, k2, k3⟩ := m_errs (e := e) (n := n) (im := im) (u := u) (k := 1) (by decide) hQ
      refine ⟨w1, q_Model_number ?_, by unfold A_nu; rw [E, A_nx_b hn]; exact k2, k3⟩
      rw [m_good hQ, z_oI_s, if_neg (ji_b_n h), e10, if_neg (ji_eq_n (by omega) (by decide) h1), k1, z_oV_s, m_good k2, z_oI_s, if_pos (ji_b_p hn), m_good k2, z_oI_s, if_pos (ji_b_p hn), Ev]
  · have hf : ∀ k, A_fl k r = r := fun k => A_fl_b h
    have E : A_nt lo hi r = r := by unfold A_nt; rw [hf, hf]; (repeat' split) <;> rfl
    have Ev : A_vl lo hi r = 0 := by unfold A_vl; rw [E, if_neg h]
    refine ⟨w, q_Model_number ?_, by unfold A_nu; rw [E, A_nx_b h]; exact hQ, fN_rf w⟩
    rw [m_good hQ, z_oI_s, if_pos (ji_b_p h), m_good hQ, z_oI_s, if_pos (ji_b_p h), m_good hQ, z_oI_s, if_pos (ji_b_p h), Ev]
theorem m_told {e n : Nat} {im : Nat → Option Nat} {w u : Nat → Nat → Int} {U : Nat} {tp : Nat → Int} {r : zR} {v : Nat → Int} (s : Nat) (hs : 1 ≤ s) (hl : (z_tx s).length ≤ 100) (lo hi : Int) (hlo : jR lo) (hhi : -1 ≤ hi ∧ hi ≤ 1000) (hw : T_w U tp) (hQ : Q_m w U tp (r, v)) : ∃ w', (z_F (e + 5)).1 k_Model_told [.ref 45, .ref (z_sb + s), .int (Int32.ofInt lo), .int (Int32.ofInt hi)] (n, z_q im, jM w, jL u) = some (Int32.ofInt (A_vl lo hi (A_wo U tp (z_tx s) r)), jM w', jL u) ∧ Q_m w' U tp (A_nu U tp lo hi (A_wo U tp (z_tx s) r), v) ∧ fN w w' := by
  obtain ⟨w1, k1, k2, k3⟩ := m_needs (e := e) (n := n) (im := im) (u := u) s hs hl hw hQ
  obtain ⟨w2, l1, l2, l3⟩ := m_number (e := e + 1) (n := n) (im := im) (u := u) lo hi hlo hhi hw k2
  refine ⟨w2, q_Model_told ?_, l2, fN_tr k3 l3⟩
  rw [k1, z_oV_s, l1, z_oI_s]
