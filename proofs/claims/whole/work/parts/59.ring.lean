/-! ring -/
def p_rc (v : Nat → Int) (bo ot : Int) (a b c : Nat) : Int := if a_ho v b c bo ot ∧ a_ho v c a bo ot then (c : Int) else -1
def R_c (v : Nat → Int) (bo ot : Int) (a b : Nat) : Int := a_f1 (p_rc v bo ot a b) (a + 1) ((v 7).toNat - (a + 1))
def p_rb (v : Nat → Int) (bo ot : Int) (a b : Nat) : Int := if a_ho v a b bo ot then (if R_c v bo ot a b = -1 then -1 else 100 * (a : Int) + 10 * (b : Int) + R_c v bo ot a b) else -1
def R_b (v : Nat → Int) (bo ot : Int) (a : Nat) : Int := a_f1 (p_rb v bo ot a) (a + 1) ((v 7).toNat - (a + 1))
def V_ring (v : Nat → Int) (bo ot : Int) : Int := if (0 ≤ bo ∧ bo < v 6) ∧ (0 ≤ ot ∧ ot < v 6) then a_f1 (R_b v bo ot) 0 (v 7).toNat else -2
theorem R_c_b (v : Nat → Int) (bo ot : Int) (a b : Nat) (h : (v 7).toNat ≤ 10) : R_c v bo ot a b = -1 ∨ (0 ≤ R_c v bo ot a b ∧ R_c v bo ot a b ≤ 9) := a_f1_b _ _ (fun y h1 h2 => by unfold p_rc; split <;> omega)
theorem x_closesRing {e n : Nat} {im : Nat → Option Nat} {w u : Nat → Nat → Int} {v : Nat → Int} {a b : Nat} {bo ot : Int} (hv : c_v w v) (hw : a_wf v) (s1 : a < (v 7).toNat) (s2 : b < (v 7).toNat) (s4 : 0 ≤ bo ∧ bo < v 6) (s5 : 0 ≤ ot ∧ ot < v 6) : ∃ w', (z_F (e + 7)).1 k_LongBoats_closesRing [.ref 0, .int (Int32.ofInt (a : Int)), .int (Int32.ofInt (b : Int)), .int (Int32.ofInt bo), .int (Int32.ofInt ot)] (n, z_q im, jM w, jL u) = some (Int32.ofInt (R_c v bo ot a b), jM w', jL u) ∧ c_v w' v ∧ c_fr w w' := by
  obtain ⟨f0, f1, f2, f3, f4, f5, f6, f7, f8, f9, f10, f11, f12⟩ := id hw
  have key := z_fnd (o := z_F (e + 6)) (cd := cd_LongBoats_closesRing) (p := p_rc v bo ot a b) (P := fun c s => ∃ wi, s = (5, [some (.ref 0), some (.int (Int32.ofInt (a : Int))), some (.int (Int32.ofInt (b : Int))), some (.int (Int32.ofInt bo)), some (.int (Int32.ofInt ot)), some (.int (Int32.ofInt (c : Int)))], (n, z_q im, jM wi, jL u)) ∧ c_v wi v ∧ c_fr w wi) (Q := fun x r => ∃ wi, r = (some (.int (Int32.ofInt x)), (n, z_q im, jM wi, jL u)) ∧ c_v wi v ∧ c_fr w wi) ((v 7).toNat - (a + 1)) (a + 1) (5, [some (.ref 0), some (.int (Int32.ofInt (a : Int))), some (.int (Int32.ofInt (b : Int))), some (.int (Int32.ofInt bo)), some (.int (Int32.ofInt ot)), some (.int (Int32.ofInt ((a : Int) + 1)))], (n, z_q im, jM w, jL u)) ⟨w, rfl, hv, c_fr_rf w⟩ (fun c s hc1 hc2 hs => by
    obtain ⟨wi, rfl, hvi, hfi⟩ := hs
    obtain ⟨w2, q1, q2, q3⟩ := x_hasOut (e := e) (n := n) (im := im) (u := u) (a := (b : Int)) (b := (c : Int)) hvi hw (by omega) (by omega) s4 s5
    obtain ⟨w3, k1, k2, k3⟩ := x_hasOut (e := e) (n := n) (im := im) (u := u) (a := (c : Int)) (b := (a : Int)) q2 hw (by omega) (by omega) s4 s5
    have hi8 := hvi.2.2.2.2.2.2.2.2.1
    have hx : z_ex none (z_F (e + 6)) cd_LongBoats_closesRing 4000 (cd_LongBoats_closesRing.drop 5) 5 [some (.ref 0), some (.int (Int32.ofInt (a : Int))), some (.int (Int32.ofInt (b : Int))), some (.int (Int32.ofInt bo)), some (.int (Int32.ofInt ot)), some (.int (Int32.ofInt (c : Int)))] [] (n, z_q im, jM wi, jL u) = if a_ho v b c bo ot then (if a_ho v c a bo ot then some (.inl (some (.int (Int32.ofInt c)), (n, z_q im, jM w3, jL u))) else some (.inr (5, [some (.ref 0), some (.int (Int32.ofInt (a : Int))), some (.int (Int32.ofInt (b : Int))), some (.int (Int32.ofInt bo)), some (.int (Int32.ofInt ot)), some (.int (Int32.ofInt ((c : Int) + 1)))], [], (n, z_q im, jM w3, jL u)))) else some (.inr (5, [some (.ref 0), some (.int (Int32.ofInt (a : Int))), some (.int (Int32.ofInt (b : Int))), some (.int (Int32.ofInt bo)), some (.int (Int32.ofInt ot)), some (.int (Int32.ofInt ((c : Int) + 1)))], [], (n, z_q im, jM w2, jL u))) := by
      refine (e_LongBoats_closesRing_5 ..).trans ?_
      simp only [jM_at, hi8, q1, z_oI_s, k1]
      simp (disch := omega) only [ji_le, ji_add, ji_b]
      rw [if_neg (by omega)]
      by_cases j1 : a_ho v b c bo ot
      · rw [if_neg (not_not_intro j1), if_pos j1]
        by_cases j2 : a_ho v c a bo ot
        · rw [if_neg (not_not_intro j2), if_pos j2]
        · rw [if_pos j2, if_neg j2]
      · rw [if_pos j1, if_neg j1]
    by_cases j1 : a_ho v b c bo ot
    · by_cases j2 : a_ho v c a bo ot
      · have hp : p_rc v bo ot a b c = c := if_pos ⟨j1, j2⟩
        rw [hp]
        refine ⟨fun q => by omega, fun _ => ⟨(some (.int (Int32.ofInt c)), (n, z_q im, jM w3, jL u)), z_ret ?_, w3, rfl, k2, c_fr_tr (c_fr_tr hfi q3) k3⟩⟩
        rw [hx, if_pos j1, if_pos j2]
      · have hp : p_rc v bo ot a b c = -1 := if_neg (fun q => j2 q.2)
        refine ⟨fun _ => ⟨(5, [some (.ref 0), some (.int (Int32.ofInt (a : Int))), some (.int (Int32.ofInt (b : Int))), some (.int (Int32.ofInt bo)), some (.int (Int32.ofInt ot)), some (.int (Int32.ofInt ((c : Int) + 1)))], (n, z_q im, jM w3, jL u)), z_To_1 ?_, w3, rfl, k2, c_fr_tr (c_fr_tr hfi q3) k3⟩, fun q => absurd hp q⟩
        rw [hx, if_pos j1, if_neg j2]
    · have hp : p_rc v bo ot a b c = -1 := if_neg (fun q => j1 q.1)
      refine ⟨fun _ => ⟨(5, [some (.ref 0), some (.int (Int32.ofInt (a : Int))), some (.int (Int32.ofInt (b : Int))), some (.int (Int32.ofInt bo)), some (.int (Int32.ofInt ot)), some (.int (Int32.ofInt ((c : Int) + 1)))], (n, z_q im, jM w2, jL u)), z_To_1 ?_, w2, rfl, q2, c_fr_tr hfi q3⟩, fun q => absurd hp q⟩
      rw [hx, if_neg j1])
  rw [show a_f1 (p_rc v bo ot a b) (a + 1) ((v 7).toNat - (a + 1)) = R_c v bo ot a b from rfl] at key
  rcases key with ⟨k1, t, k2, wi, rfl, hvi, hfi⟩ | ⟨k1, r, k2, wi, rfl, hvi, hfi⟩
  · refine ⟨wi, n_LongBoats_closesRing (z_go ((e_LongBoats_closesRing_0 ..).trans (by rw [ji_add])) (k2 _ (z_ret ((e_LongBoats_closesRing_5 ..).trans ?_)))), hvi, hfi⟩
    simp (disch := omega) only [jM_at, hvi.2.2.2.2.2.2.2.2.1, ji_le]
    rw [k1, if_pos (by omega)]
  · refine ⟨wi, n_LongBoats_closesRing (z_go ((e_LongBoats_closesRing_0 ..).trans (by rw [ji_add])) k2), hvi, hfi⟩
theorem x_ring {e n : Nat} {im : Nat → Option Nat} {w u : Nat → Nat → Int} {v : Nat → Int} {bo ot : Int} (hv : c_v w v) (hw : a_wf v) (hbo : jR bo) (hot : jR ot) : ∃ w', (z_F (e + 20)).1 k_LongBoats_ring [.ref 0, .int (Int32.ofInt bo), .int (Int32.ofInt ot)] (n, z_q im, jM w, jL u) = some (Int32.ofInt (V_ring v bo ot), jM w', jL u) ∧ c_fr w w' := by
  obtain ⟨f0, f1, f2, f3, f4, f5, f6, f7, f8, f9, f10, f11, f12⟩ := id hw
  obtain ⟨g0, g1, g2, g3, g4, g5, g6, g7, g8, g9, h5, h7, h9⟩ := id hv
  unfold V_ring
  by_cases h : (0 ≤ bo ∧ bo < v 6) ∧ (0 ≤ ot ∧ ot < v 6)
  · rw [if_pos h]
    obtain ⟨s4, s5⟩ := id h
    have key := z_fnd (o := z_F (e + 19)) (cd := cd_LongBoats_ring) (p := R_b v bo ot) (P := fun a s => ∃ wi q q', s = (11, [some (.ref 0), some (.int (Int32.ofInt bo)), some (.int (Int32.ofInt ot)), some (.int (Int32.ofInt (a : Int))), q, q'], (n, z_q im, jM wi, jL u)) ∧ c_v wi v ∧ c_fr w wi) (Q := fun x r => ∃ wi, r = (some (.int (Int32.ofInt x)), (n, z_q im, jM wi, jL u)) ∧ c_v wi v ∧ c_fr w wi) (v 7).toNat 0 (11, [some (.ref 0), some (.int (Int32.ofInt bo)), some (.int (Int32.ofInt ot)), some (.int (Int32.ofInt 0)), none, none], (n, z_q im, jM w, jL u)) ⟨w, none, none, rfl, hv, c_fr_rf w⟩ (fun a s ha1 ha2 hs => by
      obtain ⟨wi, q, q', rfl, hvi, hfi⟩ := hs
      have hi8 := hvi.2.2.2.2.2.2.2.2.1
      have key := z_fnd (o := z_F (e + 19)) (cd := cd_LongBoats_ring) (p := p_rb v bo ot a) (P := fun b s => ∃ wi q', s = (21, [some (.ref 0), some (.int (Int32.ofInt bo)), some (.int (Int32.ofInt ot)), some (.int (Int32.ofInt (a : Int))), some (.int (Int32.ofInt (b : Int))), q'], (n, z_q im, jM wi, jL u)) ∧ c_v wi v ∧ c_fr w wi) (Q := fun x r => ∃ wi, r = (some (.int (Int32.ofInt x)), (n, z_q im, jM wi, jL u)) ∧ c_v wi v ∧ c_fr w wi) ((v 7).toNat - (a + 1)) (a + 1) (21, [some (.ref 0), some (.int (Int32.ofInt bo)), some (.int (Int32.ofInt ot)), some (.int (Int32.ofInt (a : Int))), some (.int (Int32.ofInt ((a : Int) + 1))), q'], (n, z_q im, jM wi, jL u)) ⟨wi, q', rfl, hvi, hfi⟩ (fun b s hb1 hb2 hs => by
        obtain ⟨wk, q', rfl, hvk, hfk⟩ := hs
        have hk8 := hvk.2.2.2.2.2.2.2.2.1
        obtain ⟨w2, q1, q2, q3⟩ := x_hasOut (e := e + 13) (n := n) (im := im) (u := u) (a := (a : Int)) (b := (b : Int)) hvk hw (by omega) (by omega) s4 s5
        by_cases j1 : a_ho v a b bo ot
        · obtain ⟨w3, k1, k2, k3⟩ := x_closesRing (e := e + 12) (n := n) (im := im) (u := u) (a := a) (b := b) q2 hw (by omega) (by omega) s4 s5
          have hrb := R_c_b v bo ot a b (by omega)
          have hx : z_ex none (z_F (e + 19)) cd_LongBoats_ring 4000 (cd_LongBoats_ring.drop 21) 21 [some (.ref 0), some (.int (Int32.ofInt bo)), some (.int (Int32.ofInt ot)), some (.int (Int32.ofInt (a : Int))), some (.int (Int32.ofInt (b : Int))), q'] [] (n, z_q im, jM wk, jL u) = if R_c v bo ot a b = -1 then some (.inr (21, [some (.ref 0), some (.int (Int32.ofInt bo)), some (.int (Int32.ofInt ot)), some (.int (Int32.ofInt (a : Int))), some (.int (Int32.ofInt ((b : Int) + 1))), some (.int (Int32.ofInt (R_c v bo ot a b)))], [], (n, z_q im, jM w3, jL u))) else some (.inl (some (.int (Int32.ofInt (100 * (a : Int) + 10 * (b : Int) + R_c v bo ot a b))), (n, z_q im, jM w3, jL u))) := by
            refine (e_LongBoats_ring_21 ..).trans ?_
            simp (disch := omega) only [jM_at, hk8, q1, z_oI_s, k1, ji_le, ji_b, ji_eq, ji_mul, ji_add]
            rw [if_neg (by omega), if_neg (not_not_intro j1)]
          by_cases j2 : R_c v bo ot a b = -1
          · have hp : p_rb v bo ot a b = -1 := by unfold p_rb; rw [if_pos j1, if_pos j2]
            refine ⟨fun _ => ⟨(21, [some (.ref 0), some (.int (Int32.ofInt bo)), some (.int (Int32.ofInt ot)), some (.int (Int32.ofInt (a : Int))), some (.int (Int32.ofInt ((b : Int) + 1))), some (.int (Int32.ofInt (R_c v bo ot a b)))], (n, z_q im, jM w3, jL u)), z_To_1 ?_, w3, _, rfl, k2, c_fr_tr (c_fr_tr hfk q3) k3⟩, fun q => absurd hp q⟩
            rw [hx, if_pos j2]
          · have hp : p_rb v bo ot a b = 100 * (a : Int) + 10 * (b : Int) + R_c v bo ot a b := by unfold p_rb; rw [if_pos j1, if_neg j2]
            rw [hp]
            refine ⟨fun q => by omega, fun _ => ⟨(some (.int (Int32.ofInt (100 * (a : Int) + 10 * (b : Int) + R_c v bo ot a b))), (n, z_q im, jM w3, jL u)), z_ret (hx.trans ?_), w3, rfl, k2, c_fr_tr (c_fr_tr hfk q3) k3⟩⟩
            rw [if_neg j2]
        · have hp : p_rb v bo ot a b = -1 := if_neg j1
          refine ⟨fun _ => ⟨(21, [some (.ref 0), some (.int (Int32.ofInt bo)), some (.int (Int32.ofInt ot)), some (.int (Int32.ofInt (a : Int))), some (.int (Int32.ofInt ((b : Int) + 1))), some (.int (Int32.ofInt (-1)))], (n, z_q im, jM w2, jL u)), z_To_1 ((e_LongBoats_ring_21 ..).trans ?_), w2, _, rfl, q2, c_fr_tr hfk q3⟩, fun q => absurd hp q⟩
          simp (disch := omega) only [jM_at, hk8, q1, z_oI_s, ji_le, ji_b, ji_add]
          rw [if_neg (by omega), if_pos j1, if_true])
      rw [show a_f1 (p_rb v bo ot a) (a + 1) ((v 7).toNat - (a + 1)) = R_b v bo ot a from rfl] at key
      have h1 : z_To (z_F (e + 19)) cd_LongBoats_ring (11, [some (.ref 0), some (.int (Int32.ofInt bo)), some (.int (Int32.ofInt ot)), some (.int (Int32.ofInt (a : Int))), q, q'], (n, z_q im, jM wi, jL u)) (21, [some (.ref 0), some (.int (Int32.ofInt bo)), some (.int (Int32.ofInt ot)), some (.int (Int32.ofInt (a : Int))), some (.int (Int32.ofInt ((a : Int) + 1))), q'], (n, z_q im, jM wi, jL u)) := z_To_1 ((e_LongBoats_ring_11 ..).trans (by simp (disch := omega) only [jM_at, hi8, ji_le, ji_add]; rw [if_neg (by omega)]))
      rcases key with ⟨k1, t, k2, wk, q3, rfl, hvk, hfk⟩ | ⟨k1, r, k2, wk, rfl, hvk, hfk⟩
      · refine ⟨fun _ => ⟨(11, [some (.ref 0), some (.int (Int32.ofInt bo)), some (.int (Int32.ofInt ot)), some (.int (Int32.ofInt ((a : Int) + 1))), some (.int (Int32.ofInt ((a + 1 + ((v 7).toNat - (a + 1)) : Nat) : Int))), q3], (n, z_q im, jM wk, jL u)), z_To_tr h1 (z_To_tr k2 (z_To_1 ((e_LongBoats_ring_21 ..).trans ?_))), wk, _, _, rfl, hvk, hfk⟩, fun q => absurd k1 q⟩
        simp (disch := omega) only [jM_at, hvk.2.2.2.2.2.2.2.2.1, ji_le, ji_add]
        rw [if_pos (by omega)]
      · exact ⟨fun q => absurd q k1, fun _ => ⟨_, h1 _ k2, wk, rfl, hvk, hfk⟩⟩)
    have he : z_ex none (z_F (e + 19)) cd_LongBoats_ring 4000 (cd_LongBoats_ring.drop 0) 0 [some (.ref 0), some (.int (Int32.ofInt bo)), some (.int (Int32.ofInt ot)), none, none, none] [] (n, z_q im, jM w, jL u) = some (.inr (11, [some (.ref 0), some (.int (Int32.ofInt bo)), some (.int (Int32.ofInt ot)), some (.int (Int32.ofInt 0)), none, none], [], (n, z_q im, jM w, jL u))) := by
      refine (e_LongBoats_ring_0 ..).trans ?_
      simp (disch := omega) only [s_hasBoats, z_oI_s, ji_b, g7]
      rw [if_neg (by omega)]
    rcases key with ⟨k1, t, k2, wi, q, q', rfl, hvi, hfi⟩ | ⟨k1, r, k2, wi, rfl, hvi, hfi⟩
    · refine ⟨wi, n_LongBoats_ring (z_go he (k2 _ (z_ret ((e_LongBoats_ring_11 ..).trans ?_)))), hfi⟩
      simp (disch := omega) only [jM_at, hvi.2.2.2.2.2.2.2.2.1, ji_le]
      rw [k1, if_pos (by omega)]
    · exact ⟨wi, n_LongBoats_ring (z_go he k2), hfi⟩
  · refine ⟨w, n_LongBoats_ring (z_ret ((e_LongBoats_ring_0 ..).trans ?_)), c_fr_rf w⟩
    rw [if_neg h]
    simp (disch := omega) only [s_hasBoats, z_oI_s, ji_b, g7]
    rw [if_pos (by omega)]
def p_mc (v : Nat → Int) (bo ot : Int) (a b c : Nat) : Int := if a_ho v a b bo ot ∧ a_ho v b c bo ot ∧ a_ho v c a bo ot then 100 * (a : Int) + 10 * (b : Int) + (c : Int) else -1
theorem p_mc_eq (v : Nat → Int) (bo ot : Int) (a b : Nat) : a_f1 (p_mc v bo ot a b) (a + 1) ((v 7).toNat - (a + 1)) = p_rb v bo ot a b := by
  unfold p_rb
  by_cases j1 : a_ho v a b bo ot
  · rw [if_pos j1]
    have h1 : a_f1 (p_mc v bo ot a b) (a + 1) ((v 7).toNat - (a + 1)) = a_f1 (fun y => if a_ho v b y bo ot ∧ a_ho v y a bo ot then 100 * (a : Int) + 10 * (b : Int) + (y : Int) else -1) (a + 1) ((v 7).toNat - (a + 1)) := a_f1_cg _ _ (fun y _ _ => by
      unfold p_mc
      by_cases j2 : a_ho v b y bo ot ∧ a_ho v y a bo ot
      · rw [if_pos ⟨j1, j2⟩, if_pos j2]
      · rw [if_neg (fun q => j2 q.2), if_neg j2])
    rw [h1, a_f1_if _ _ (fun y _ _ => by omega)]
    have h2 : a_f1 (fun y => if a_ho v b y bo ot ∧ a_ho v y a bo ot then (y : Int) else -1) (a + 1) ((v 7).toNat - (a + 1)) = R_c v bo ot a b := rfl
    rw [h2]
    by_cases j3 : R_c v bo ot a b = -1
    · rw [if_pos j3, if_pos j3]
    · rw [if_neg j3, if_neg j3]
      have : ∀ m x : Nat, a_f1 (p_rc v bo ot a b) x m = -1 ∨ 0 ≤ a_f1 (p_rc v bo ot a b) x m := fun m => by
        induction m with
        | zero => exact fun _ => Or.inl rfl
        | succ m ih =>
          intro x
          simp only [a_f1]
          split
          · exact ih (x + 1)
          · unfold p_rc; split <;> omega
      have h4 : R_c v bo ot a b = -1 ∨ 0 ≤ R_c v bo ot a b := this _ _
      omega
  · rw [if_neg j1]
    have : ∀ m x : Nat, a_f1 (p_mc v bo ot a b) x m = -1 := fun m => by
      induction m with
      | zero => exact fun _ => rfl
      | succ m ih =>
        intro x
        simp only [a_f1]
        rw [if_pos (show p_mc v bo ot a b x = -1 from if_neg (fun q => j1 q.1))]
        exact ih (x + 1)
    exact this _ _
theorem m_ring {e n : Nat} {im : Nat → Option Nat} {w u : Nat → Nat → Int} {bo ot : Int} (hw : a_wf (w 46)) (hbo : jR bo) (hot : jR ot) : (z_F (e + 20)).1 k_Model_ring [.ref 45, .int (Int32.ofInt bo), .int (Int32.ofInt ot)] (n, z_q im, jM w, jL u) = some (Int32.ofInt (V_ring (w 46) bo ot), jM w, jL u) := by
  obtain ⟨f0, f1, f2, f3, f4, f5, f6, f7, f8, f9, f10, f11, f12⟩ := id hw
  unfold V_ring
  by_cases h : (0 ≤ bo ∧ bo < w 46 6) ∧ (0 ≤ ot ∧ ot < w 46 6)
  · rw [if_pos h]
    obtain ⟨s4, s5⟩ := id h
    have key := z_fnd (o := z_F (e + 19)) (cd := cd_Model_ring) (p := R_b (w 46) bo ot) (P := fun a s => ∃ q q', s = (18, [some (.ref 45), some (.int (Int32.ofInt bo)), some (.int (Int32.ofInt ot)), some (.int (Int32.ofInt (w 46 7))), some (.int (Int32.ofInt (a : Int))), q, q'], (n, z_q im, jM w, jL u))) (Q := fun x r => r = (some (.int (Int32.ofInt x)), (n, z_q im, jM w, jL u))) (w 46 7).toNat 0 (18, [some (.ref 45), some (.int (Int32.ofInt bo)), some (.int (Int32.ofInt ot)), some (.int (Int32.ofInt (w 46 7))), some (.int (Int32.ofInt 0)), none, none], (n, z_q im, jM w, jL u)) ⟨none, none, rfl⟩ (fun a s ha1 ha2 hs => by
      obtain ⟨q, q', rfl⟩ := hs
      have key := z_fnd (o := z_F (e + 19)) (cd := cd_Model_ring) (p := p_rb (w 46) bo ot a) (P := fun b s => ∃ q', s = (26, [some (.ref 45), some (.int (Int32.ofInt bo)), some (.int (Int32.ofInt ot)), some (.int (Int32.ofInt (w 46 7))), some (.int (Int32.ofInt (a : Int))), some (.int (Int32.ofInt (b : Int))), q'], (n, z_q im, jM w, jL u))) (Q := fun x r => r = (some (.int (Int32.ofInt x)), (n, z_q im, jM w, jL u))) ((w 46 7).toNat - (a + 1)) (a + 1) (26, [some (.ref 45), some (.int (Int32.ofInt bo)), some (.int (Int32.ofInt ot)), some (.int (Int32.ofInt (w 46 7))), some (.int (Int32.ofInt (a : Int))), some (.int (Int32.ofInt ((a : Int) + 1))), q'], (n, z_q im, jM w, jL u)) ⟨q', rfl⟩ (fun b s hb1 hb2 hs => by
        obtain ⟨q', rfl⟩ := hs
        have key := z_fnd (o := z_F (e + 19)) (cd := cd_Model_ring) (p := p_mc (w 46) bo ot a b) (P := fun c s => s = (34, [some (.ref 45), some (.int (Int32.ofInt bo)), some (.int (Int32.ofInt ot)), some (.int (Int32.ofInt (w 46 7))), some (.int (Int32.ofInt (a : Int))), some (.int (Int32.ofInt (b : Int))), some (.int (Int32.ofInt (c : Int)))], (n, z_q im, jM w, jL u))) (Q := fun x r => r = (some (.int (Int32.ofInt x)), (n, z_q im, jM w, jL u))) ((w 46 7).toNat - (a + 1)) (a + 1) (34, [some (.ref 45), some (.int (Int32.ofInt bo)), some (.int (Int32.ofInt ot)), some (.int (Int32.ofInt (w 46 7))), some (.int (Int32.ofInt (a : Int))), some (.int (Int32.ofInt (b : Int))), some (.int (Int32.ofInt ((a : Int) + 1)))], (n, z_q im, jM w, jL u)) rfl (fun c s hc1 hc2 hs => by
          subst hs
          have hx : z_ex none (z_F (e + 19)) cd_Model_ring 4000 (cd_Model_ring.drop 34) 34 [some (.ref 45), some (.int (Int32.ofInt bo)), some (.int (Int32.ofInt ot)), some (.int (Int32.ofInt (w 46 7))), some (.int (Int32.ofInt (a : Int))), some (.int (Int32.ofInt (b : Int))), some (.int (Int32.ofInt (c : Int)))] [] (n, z_q im, jM w, jL u) = if a_ho (w 46) a b bo ot ∧ a_ho (w 46) b c bo ot ∧ a_ho (w 46) c a bo ot then some (.inl (some (.int (Int32.ofInt (100 * (a : Int) + 10 * (b : Int) + (c : Int)))), (n, z_q im, jM w, jL u))) else some (.inr (34, [some (.ref 45), some (.int (Int32.ofInt bo)), some (.int (Int32.ofInt ot)), some (.int (Int32.ofInt (w 46 7))), some (.int (Int32.ofInt (a : Int))), some (.int (Int32.ofInt (b : Int))), some (.int (Int32.ofInt ((c : Int) + 1)))], [], (n, z_q im, jM w, jL u))) := by
            refine (e_Model_ring_34 ..).trans ?_
            rw [s_mhasOut hw (by omega) (by omega) s4 s5, z_oI_s, s_mhasOut hw (by omega) (by omega) s4 s5, z_oI_s, s_mhasOut hw (by omega) (by omega) s4 s5, z_oI_s]
            simp (disch := omega) only [ji_le, ji_add, ji_mul, ji_b]
            rw [if_neg (by omega)]
            by_cases j1 : a_ho (w 46) a b bo ot
            · rw [if_neg (not_not_intro j1)]
              by_cases j2 : a_ho (w 46) b c bo ot
              · rw [if_neg (not_not_intro j2)]
                by_cases j3 : a_ho (w 46) c a bo ot
                · rw [if_neg (not_not_intro j3), if_pos ⟨j1, j2, j3⟩]
                · rw [if_pos j3, if_neg (fun q => j3 q.2.2)]
              · rw [if_pos j2, if_neg (fun q => j2 q.2.1)]
            · rw [if_pos j1, if_neg (fun q => j1 q.1)]
          by_cases j : a_ho (w 46) a b bo ot ∧ a_ho (w 46) b c bo ot ∧ a_ho (w 46) c a bo ot
          · have hp : p_mc (w 46) bo ot a b c = 100 * (a : Int) + 10 * (b : Int) + (c : Int) := if_pos j
            rw [hp]
            exact ⟨fun q => by omega, fun _ => ⟨_, z_ret (hx.trans (if_pos j)), rfl⟩⟩
          · have hp : p_mc (w 46) bo ot a b c = -1 := if_neg j
            exact ⟨fun _ => ⟨(34, [some (.ref 45), some (.int (Int32.ofInt bo)), some (.int (Int32.ofInt ot)), some (.int (Int32.ofInt (w 46 7))), some (.int (Int32.ofInt (a : Int))), some (.int (Int32.ofInt (b : Int))), some (.int (Int32.ofInt ((c : Int) + 1)))], (n, z_q im, jM w, jL u)), z_To_1 (hx.trans (if_neg j)), rfl⟩, fun q => absurd hp q⟩)
        rw [p_mc_eq] at key
        have h1 : z_To (z_F (e + 19)) cd_Model_ring (26, [some (.ref 45), some (.int (Int32.ofInt bo)), some (.int (Int32.ofInt ot)), some (.int (Int32.ofInt (w 46 7))), some (.int (Int32.ofInt (a : Int))), some (.int (Int32.ofInt (b : Int))), q'], (n, z_q im, jM w, jL u)) (34, [some (.ref 45), some (.int (Int32.ofInt bo)), some (.int (Int32.ofInt ot)), some (.int (Int32.ofInt (w 46 7))), some (.int (Int32.ofInt (a : Int))), some (.int (Int32.ofInt (b : Int))), some (.int (Int32.ofInt ((a : Int) + 1)))], (n, z_q im, jM w, jL u)) := z_To_1 ((e_Model_ring_26 ..).trans (by rw [if_neg (ji_le_n (by omega) (by omega) (by omega)), ji_add]))
        rcases key with ⟨k1, t, k2, rfl⟩ | ⟨k1, r, k2, rfl⟩
        · refine ⟨fun _ => ⟨(26, [some (.ref 45), some (.int (Int32.ofInt bo)), some (.int (Int32.ofInt ot)), some (.int (Int32.ofInt (w 46 7))), some (.int (Int32.ofInt (a : Int))), some (.int (Int32.ofInt ((b : Int) + 1))), some (.int (Int32.ofInt ((a + 1 + ((w 46 7).toNat - (a + 1)) : Nat) : Int)))], (n, z_q im, jM w, jL u)), z_To_tr h1 (z_To_tr k2 (z_To_1 ((e_Model_ring_34 ..).trans ?_))), _, rfl⟩, fun q => absurd k1 q⟩
          rw [if_pos (ji_le_p (by omega) (by omega) (by omega)), ji_add]
        · exact ⟨fun q => absurd q k1, fun _ => ⟨_, h1 _ k2, rfl⟩⟩)
      rw [show a_f1 (p_rb (w 46) bo ot a) (a + 1) ((w 46 7).toNat - (a + 1)) = R_b (w 46) bo ot a from rfl] at key
      have h1 : z_To (z_F (e + 19)) cd_Model_ring (18, [some (.ref 45), some (.int (Int32.ofInt bo)), some (.int (Int32.ofInt ot)), some (.int (Int32.ofInt (w 46 7))), some (.int (Int32.ofInt (a : Int))), q, q'], (n, z_q im, jM w, jL u)) (26, [some (.ref 45), some (.int (Int32.ofInt bo)), some (.int (Int32.ofInt ot)), some (.int (Int32.ofInt (w 46 7))), some (.int (Int32.ofInt (a : Int))), some (.int (Int32.ofInt ((a : Int) + 1))), q'], (n, z_q im, jM w, jL u)) := z_To_1 ((e_Model_ring_18 ..).trans (by rw [if_neg (ji_le_n (by omega) (by omega) (by omega)), ji_add]))
      rcases key with ⟨k1, t, k2, q3, rfl⟩ | ⟨k1, r, k2, rfl⟩
      · refine ⟨fun _ => ⟨(18, [some (.ref 45), some (.int (Int32.ofInt bo)), some (.int (Int32.ofInt ot)), some (.int (Int32.ofInt (w 46 7))), some (.int (Int32.ofInt ((a : Int) + 1))), some (.int (Int32.ofInt ((a + 1 + ((w 46 7).toNat - (a + 1)) : Nat) : Int))), q3], (n, z_q im, jM w, jL u)), z_To_tr h1 (z_To_tr k2 (z_To_1 ((e_Model_ring_26 ..).trans ?_))), _, _, rfl⟩, fun q => absurd k1 q⟩
        rw [if_pos (ji_le_p (by omega) (by omega) (by omega)), ji_add]
      · exact ⟨fun q => absurd q k1, fun _ => ⟨_, h1 _ k2, rfl⟩⟩)
    have he : z_ex none (z_F (e + 19)) cd_Model_ring 4000 (cd_Model_ring.drop 0) 0 [some (.ref 45), some (.int (Int32.ofInt bo)), some (.int (Int32.ofInt ot)), none, none, none, none] [] (n, z_q im, jM w, jL u) = some (.inr (18, [some (.ref 45), some (.int (Int32.ofInt bo)), some (.int (Int32.ofInt ot)), some (.int (Int32.ofInt (w 46 7))), some (.int (Int32.ofInt 0)), none, none], [], (n, z_q im, jM w, jL u))) := by
      refine (e_Model_ring_0 ..).trans ?_
      simp (disch := omega) only [s_isBoat, z_oI_s, ji_b]
      rw [if_neg (by omega), if_neg (by omega)]
      rfl
    rcases key with ⟨k1, t, k2, q, q', rfl⟩ | ⟨k1, r, k2, rfl⟩
    · refine n_Model_ring (z_go he (k2 _ (z_ret ((e_Model_ring_18 ..).trans ?_))))
      rw [k1, if_pos (ji_le_p (by omega) (by omega) (by omega))]
    · exact n_Model_ring (z_go he k2)
  · refine n_Model_ring (z_ret ((e_Model_ring_0 ..).trans ?_))
    rw [if_neg h]
    simp (disch := omega) only [s_isBoat, z_oI_s, ji_b]
    (repeat' split) <;> first | rfl | (exfalso; omega)
