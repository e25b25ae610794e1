/-! bold and sure: the class's publics -/
noncomputable def W_o (v : Nat → Int) (t o : Int) (k : Nat) : Int := K_w v (t_b v t) (t_b v o) (G_o v t k) (t_m v o) (t_n v t) (t_n v o)
noncomputable def P_o (v : Nat → Int) (t o : Int) (k : Nat) : Nat × Int := P_x (W_o v t o) (-1) k
noncomputable def V_bold (v : Nat → Int) (t o i : Int) : Int := if a_tt v t o then (if i = -1 then (P_o v t o (q_len (t_n v t))).2 else if 0 ≤ i ∧ i < (t_n v t : Int) then G_o v t (P_o v t o (q_len (t_n v t))).1 i.toNat else -1) else -2
def q_fc (n : Nat) : Int := if n = 1 then 1 else if n = 2 then 2 else if n = 3 then 6 else if n = 4 then 24 else 120
noncomputable def V_sure (v : Nat → Int) (t o : Int) : Int := if a_tt v t o then (if (P_o v t o (q_len (t_n v t))).2 = q_fc (t_n v o) then 1 else 0) else -2
theorem W_o_b {v : Nat → Int} {t o : Int} (hw : a_wf v) (h : t_in v o) (k : Nat) : 0 ≤ W_o v t o k ∧ W_o v t o k ≤ 120 := K_w_b (t_wf hw h).2.2.2.1
theorem P_o_b {v : Nat → Int} {t o : Int} (hw : a_wf v) (h : t_in v o) (k : Nat) : -1 ≤ (P_o v t o k).2 ∧ (P_o v t o k).2 ≤ 120 := P_x_b (by decide) (by decide) k (fun j _ => by have := W_o_b (t := t) hw h j; omega)
theorem s_bo0 {e n : Nat} {im : Nat → Option Nat} {w u : Nat → Nat → Int} {v : Nat → Int} {t o : Int} {i : Nat} {wi : Nat → Nat → Int} (hw : a_wf v) (h : a_tt v t o) (hX : X_i v t o w i wi) : ∃ w', (z_F (e + 48)).1 k_Contest_beatenOrders [.ref 31, .int (Int32.ofInt 0), .int (Int32.ofInt 0), .int (Int32.ofInt ((2 ^ t_n v o - 1 : Nat) : Int)), .int (Int32.ofInt (-1)), .int (Int32.ofInt 0), .int (Int32.ofInt 0)] (n, z_q im, jM wi, jL u) = some (Int32.ofInt (W_o v t o i), jM w', jL u) ∧ X_i v t o w i w' ∧ w' 41 = wi 41 := by
  obtain ⟨a1, a2, a3, a4, a5, a6⟩ := t_wf hw h.1
  obtain ⟨b1, b2, b3, b4, b5, b6⟩ := t_wf hw h.2.1
  have hG := G_ok hw h i
  have hp : 0 < 2 ^ t_n v o := Nat.pow_pos (by decide)
  obtain ⟨w', r1, r2, r3, r4⟩ := s_bo (n := n) (im := im) (w := wi) (u := u) hw hG.2 a2 b2 21 e 0 0 (2 ^ t_n v o - 1) (-1) 0 wi (by decide) (Nat.zero_le _) (by decide) (by decide) (by omega) (Or.inl rfl) ⟨hX.1, c_fr_rf wi, rfl⟩
  rw [W_cls a4 b4 hG.2 (hG.1.2 a6) b6] at r1
  exact ⟨w', r1, ⟨r2, c_fr_tr hX.2 r3⟩, r4⟩
theorem s_findBold {e n : Nat} {im : Nat → Option Nat} {w u : Nat → Nat → Int} {v : Nat → Int} {t o : Int} (hw : a_wf v) (h : a_tt v t o) (hC : C_m v 0 (t_b v t) (t_b v o) (t_m v t) (t_m v o) (t_n v t) (t_n v o) w) : ∃ w', (z_F (e + 49)).1 k_Contest_findBold [.ref 31] (n, z_q im, jM w, jL u) = some (Int32.ofInt (P_o v t o (q_len (t_n v t))).2, jM w', jL u) ∧ (c_v w' v ∧ c_fr w w') ∧ ∀ j, j < t_n v t → w' 41 j = G_o v t (P_o v t o (q_len (t_n v t))).1 j := by
  obtain ⟨a1, a2, a3, a4, a5, a6⟩ := t_wf hw h.1
  obtain ⟨b1, b2, b3, b4, b5, b6⟩ := t_wf hw h.2.1
  have hL := q_len_b a4
  obtain ⟨w0, s1, s2⟩ := s_sort0 (e := e + 45) (n := n) (im := im) (u := u) hw h hC
  obtain ⟨t9, ht9, wf, q4, rfl, i1, i2⟩ := z_for (o := z_F (e + 48)) (cd := cd_Contest_findBold) (P := fun i s => ∃ wi q4, s = (9, [some (.ref 31), some (.int (Int32.ofInt (P_o v t o i).2)), some (.int (Int32.ofInt (if i = q_len (t_n v t) then 0 else 1))), some (.int (Int32.ofInt (i : Int))), q4], (n, z_q im, jM wi, jL u)) ∧ X_i v t o w i wi ∧ (1 ≤ i → ∀ j, j < t_n v t → wi 41 j = G_o v t (P_o v t o i).1 j)) (q_len (t_n v t)) (s := (9, [some (.ref 31), some (.int (Int32.ofInt (-1))), some (.int (Int32.ofInt 1)), some (.int (Int32.ofInt 0)), none], (n, z_q im, jM w0, jL u))) ⟨w0, none, by rw [if_neg (show ¬ 0 = q_len (t_n v t) by omega)]; rfl, s2, fun q => absurd q (by decide)⟩ (fun i s hi hs => by
    obtain ⟨wi, q4, rfl, i1, i2⟩ := hs
    obtain ⟨w1, r1, r3, r4⟩ := s_bo0 (e := e) (n := n) (im := im) (w := w) (u := u) hw h i1
    have e6 : ((jM wi, jL u) : zD).1 31 6 = Int32.ofInt (t_n v o : Int) := by rw [← i1.1.2.2.2.1]; rfl
    have hb := W_o_b (t := t) hw h.2.1 i
    have hpb := P_o_b (t := t) hw h.2.1 i
    have hP : P_o v t o (i + 1) = if (P_o v t o i).2 < W_o v t o i then (i, W_o v t o i) else P_o v t o i := rfl
    have hP0 : i = 0 → (P_o v t o i).2 = -1 := fun q => by rw [q]; rfl
    by_cases q : (P_o v t o i).2 < W_o v t o i
    · rw [if_pos q] at hP
      obtain ⟨w2, y1, y2, y3⟩ := s_copy_40 (e := e + 46) (n := n) (im := im) (w := w1) (u := u)
      obtain ⟨w3, x1, x2, x3⟩ := s_next0 (e := e + 45) (n := n) (im := im) (w := w) (u := u) hw h hi (X_41 r3 y2)
      refine ⟨(9, [some (.ref 31), some (.int (Int32.ofInt (P_o v t o (i + 1)).2)), some (.int (Int32.ofInt (if i + 1 = q_len (t_n v t) then 0 else 1))), some (.int (Int32.ofInt ((i : Int) + 1))), some (.int (Int32.ofInt (W_o v t o i)))], (n, z_q im, jM w3, jL u)), z_To_1 ((e_Contest_findBold_9 ..).trans ?_), w3, _, rfl, x2, fun _ j hj => ?_⟩
      · rw [hP, if_neg (c := i = q_len (t_n v t)) (by omega), if_neg (ji_le_n (by decide) (by omega) (by omega)), if_neg (show ¬ Int32.ofInt 1 = 0 by decide), e6, k_bit3 _ (by omega), r1, z_oI_s, if_neg (ji_le_n (by omega) (by omega) (by omega)), y1, z_oV_s, x1, z_oI_s, ji_add]
      · rw [x3, y3 j (by omega), hP]
        exact r3.1.2.2.2.2.1 j hj
    · rw [if_neg q] at hP
      obtain ⟨w3, x1, x2, x3⟩ := s_next0 (e := e + 45) (n := n) (im := im) (w := w) (u := u) hw h hi r3
      refine ⟨(9, [some (.ref 31), some (.int (Int32.ofInt (P_o v t o (i + 1)).2)), some (.int (Int32.ofInt (if i + 1 = q_len (t_n v t) then 0 else 1))), some (.int (Int32.ofInt ((i : Int) + 1))), some (.int (Int32.ofInt (W_o v t o i)))], (n, z_q im, jM w3, jL u)), z_To_1 ((e_Contest_findBold_9 ..).trans ?_), w3, _, rfl, x2, fun _ j hj => ?_⟩
      · rw [hP, if_neg (c := i = q_len (t_n v t)) (by omega), if_neg (ji_le_n (by decide) (by omega) (by omega)), if_neg (show ¬ Int32.ofInt 1 = 0 by decide), e6, k_bit3 _ (by omega), r1, z_oI_s, if_pos (ji_le_p (by omega) (by omega) (by omega)), x1, z_oI_s, ji_add]
      · by_cases q0 : i = 0
        · have := hP0 q0
          omega
        · rw [x3, r4, hP]
          exact i2 (by omega) j hj)
  refine ⟨wf, n_Contest_findBold (z_go ((e_Contest_findBold_0 ..).trans ?_) (ht9 _ (z_ret ((e_Contest_findBold_9 ..).trans ?_)))), ⟨i1.1.1, i1.2⟩, i2 hL.1⟩
  · rw [s1, z_oV_s]
  · rw [if_pos (c := q_len (t_n v t) = q_len (t_n v t)) rfl, if_pos (c := Int32.ofInt 0 = 0) rfl]
    by_cases q : Int32.ofInt 120 ≤ Int32.ofInt ((q_len (t_n v t) : Nat) : Int)
    · rw [if_pos q]
    · rw [if_neg q]
theorem x_bold {e n : Nat} {im : Nat → Option Nat} {w u : Nat → Nat → Int} {v : Nat → Int} {t o i : Int} (hv : c_v w v) (hw : a_wf v) (ht : jR t) (ho : jR o) (hi : jR i) : ∃ w', (z_F (e + 50)).1 k_LongBoats_bold [.ref 0, .int (Int32.ofInt t), .int (Int32.ofInt o), .int (Int32.ofInt i)] (n, z_q im, jM w, jL u) = some (Int32.ofInt (V_bold v t o i), jM w', jL u) ∧ c_fr w w' := by
  unfold V_bold
  obtain ⟨w1, m1, m2, m3⟩ := x_meets (e := e + 43) (n := n) (im := im) (u := u) hv hw ht ho
  by_cases h : a_tt v t o
  · rw [if_pos h] at m1 ⊢
    obtain ⟨a1, a2, a3, a4, a5, a6⟩ := t_wf hw h.1
    have c2 := (c_t (m3 h).1 a1).2.1
    rw [a3] at c2
    obtain ⟨w2, k1, k2, k3⟩ := s_findBold (e := e) (n := n) (im := im) (u := u) hw h (m3 h)
    by_cases q : -1 ≤ i ∧ i < (t_n v t : Int)
    · have base : ∀ V : Int, (if Int32.ofInt i = Int32.ofInt (-1) then (some (Sum.inl (some (Value.int (Int32.ofInt (P_o v t o (q_len (t_n v t))).2)), (n, z_q im, jM w2, jL u))) : Option (Sum (Option Value × zM) (Nat × zL × List Value × zM))) else some (Sum.inl (some (Value.int (Int32.ofInt (if 0 ≤ i ∧ i < 5 then w2 41 i.toNat else 0))), (n, z_q im, jM w2, jL u)))) = some (Sum.inl (some (Value.int (Int32.ofInt V)), (n, z_q im, jM w2, jL u))) → (z_F (e + 50)).1 k_LongBoats_bold [.ref 0, .int (Int32.ofInt t), .int (Int32.ofInt o), .int (Int32.ofInt i)] (n, z_q im, jM w, jL u) = some (Int32.ofInt V, jM w2, jL u) := fun V hV => by
        refine q_LongBoats_bold (e := e + 49) ?_
        rw [m1, z_oI_s, if_neg (show ¬ Int32.ofInt 1 = 0 by decide), s_sizeOf_3 (by omega) (by omega), z_oI_s, c2, ji_sub, s_within (by omega) (by decide) (by omega), z_oI_s, if_neg (ji_b_n (by omega)), k1, z_oI_s, s_at_40 (by omega), z_oI_s]
        exact hV
      refine ⟨w2, base _ ?_, c_fr_tr m2 k2.2⟩
      by_cases q1 : i = -1
      · rw [if_pos (ji_eq_p (by omega) (by decide) q1), if_pos q1]
      · rw [if_neg (ji_eq_n (by omega) (by decide) q1), if_neg q1, if_pos (c := 0 ≤ i ∧ i < (t_n v t : Int)) (by omega), if_pos (by omega), k3 _ (by omega)]
    · rw [if_neg (c := i = -1) (by omega), if_neg (c := 0 ≤ i ∧ i < (t_n v t : Int)) (by omega)]
      refine ⟨w1, q_LongBoats_bold (e := e + 49) ?_, m2⟩
      rw [m1, z_oI_s, if_neg (show ¬ Int32.ofInt 1 = 0 by decide), s_sizeOf_3 (by omega) (by omega), z_oI_s, c2, ji_sub, s_within (by omega) (by decide) (by omega), z_oI_s, if_pos (ji_b_p (by omega))]
  · rw [if_neg h] at m1 ⊢
    refine ⟨w1, q_LongBoats_bold (e := e + 49) ?_, m2⟩
    rw [m1, z_oI_s, if_pos (show Int32.ofInt 0 = 0 from rfl)]
theorem s_LongBoats_ordersOf_x {o : zO} {n : Nat} {im : Nat → Option Nat} {d : zD} : ∀ m : Nat, 1 ≤ m ∧ m ≤ 5 → z_Rn o cd_LongBoats_ordersOf 0 [some (.int (Int32.ofInt (m : Int))), none, none] (n, z_q im, d) (some (.int (Int32.ofInt (q_fc m))), (n, z_q im, d)) := by
  intro m hm
  have step : ∀ (m k x : Nat), k ≤ m → z_ex none o cd_LongBoats_ordersOf 4000 (cd_LongBoats_ordersOf.drop 5) 5 [some (.int (Int32.ofInt (m : Int))), some (.int (Int32.ofInt (x : Int))), some (.int (Int32.ofInt (k : Int)))] [] (n, z_q im, d) = some (.inr (5, [some (.int (Int32.ofInt (m : Int))), some (.int (Int32.ofInt ((x * k : Nat) : Int))), some (.int (Int32.ofInt ((k + 1 : Nat) : Int)))], [], (n, z_q im, d))) ∨ 5 < m := fun m k x hk => by
    by_cases q : 5 < m
    · exact Or.inr q
    · refine Or.inl ((e_LongBoats_ordersOf_5 ..).trans ?_)
      rw [if_neg (ji_lt_n (by omega) (by omega) (by omega)), ji_mul, ji_add]
      rfl
  have fin : ∀ (m x : Nat), m ≤ 5 → z_ex none o cd_LongBoats_ordersOf 4000 (cd_LongBoats_ordersOf.drop 5) 5 [some (.int (Int32.ofInt (m : Int))), some (.int (Int32.ofInt (x : Int))), some (.int (Int32.ofInt ((m + 1 : Nat) : Int)))] [] (n, z_q im, d) = some (.inl (some (.int (Int32.ofInt (x : Int))), (n, z_q im, d))) := fun m x hm => by
    refine (e_LongBoats_ordersOf_5 ..).trans ?_
    rw [if_pos (ji_lt_p (by omega) (by omega) (by omega))]
  have st : ∀ (m k x : Nat), m ≤ 5 → k ≤ m → z_ex none o cd_LongBoats_ordersOf 4000 (cd_LongBoats_ordersOf.drop 5) 5 [some (.int (Int32.ofInt (m : Int))), some (.int (Int32.ofInt (x : Int))), some (.int (Int32.ofInt (k : Int)))] [] (n, z_q im, d) = some (.inr (5, [some (.int (Int32.ofInt (m : Int))), some (.int (Int32.ofInt ((x * k : Nat) : Int))), some (.int (Int32.ofInt ((k + 1 : Nat) : Int)))], [], (n, z_q im, d))) := fun m k x h1 h2 => by
    rcases step m k x h2 with q | q
    · exact q
    · omega
  refine z_go (e_LongBoats_ordersOf_0 ..) ?_
  rcases (show m = 1 ∨ m = 2 ∨ m = 3 ∨ m = 4 ∨ m = 5 by omega) with rfl | rfl | rfl | rfl | rfl
  · exact z_ret (fin 1 1 (by decide))
  · exact z_go (st 2 2 1 (by decide) (by decide)) (z_ret (fin 2 2 (by decide)))
  · exact z_go (st 3 2 1 (by decide) (by decide)) (z_go (st 3 3 2 (by decide) (by decide)) (z_ret (fin 3 6 (by decide))))
  · exact z_go (st 4 2 1 (by decide) (by decide)) (z_go (st 4 3 2 (by decide) (by decide)) (z_go (st 4 4 6 (by decide) (by decide)) (z_ret (fin 4 24 (by decide)))))
  · exact z_go (st 5 2 1 (by decide) (by decide)) (z_go (st 5 3 2 (by decide) (by decide)) (z_go (st 5 4 6 (by decide) (by decide)) (z_go (st 5 5 24 (by decide) (by decide)) (z_ret (fin 5 120 (by decide))))))
theorem s_Model_ordersMany_x {o : zO} {n : Nat} {im : Nat → Option Nat} {d : zD} : ∀ m : Nat, 1 ≤ m ∧ m ≤ 5 → z_Rn o cd_Model_ordersMany 0 [some (.int (Int32.ofInt (m : Int))), none, none] (n, z_q im, d) (some (.int (Int32.ofInt (q_fc m))), (n, z_q im, d)) := by
  intro m hm
  have step : ∀ (m k x : Nat), k ≤ m → z_ex none o cd_Model_ordersMany 4000 (cd_Model_ordersMany.drop 5) 5 [some (.int (Int32.ofInt (m : Int))), some (.int (Int32.ofInt (x : Int))), some (.int (Int32.ofInt (k : Int)))] [] (n, z_q im, d) = some (.inr (5, [some (.int (Int32.ofInt (m : Int))), some (.int (Int32.ofInt ((x * k : Nat) : Int))), some (.int (Int32.ofInt ((k + 1 : Nat) : Int)))], [], (n, z_q im, d))) ∨ 5 < m := fun m k x hk => by
    by_cases q : 5 < m
    · exact Or.inr q
    · refine Or.inl ((e_Model_ordersMany_5 ..).trans ?_)
      rw [if_neg (ji_lt_n (by omega) (by omega) (by omega)), ji_mul, ji_add]
      rfl
  have fin : ∀ (m x : Nat), m ≤ 5 → z_ex none o cd_Model_ordersMany 4000 (cd_Model_ordersMany.drop 5) 5 [some (.int (Int32.ofInt (m : Int))), some (.int (Int32.ofInt (x : Int))), some (.int (Int32.ofInt ((m + 1 : Nat) : Int)))] [] (n, z_q im, d) = some (.inl (some (.int (Int32.ofInt (x : Int))), (n, z_q im, d))) := fun m x hm => by
    refine (e_Model_ordersMany_5 ..).trans ?_
    rw [if_pos (ji_lt_p (by omega) (by omega) (by omega))]
  have st : ∀ (m k x : Nat), m ≤ 5 → k ≤ m → z_ex none o cd_Model_ordersMany 4000 (cd_Model_ordersMany.drop 5) 5 [some (.int (Int32.ofInt (m : Int))), some (.int (Int32.ofInt (x : Int))), some (.int (Int32.ofInt (k : Int)))] [] (n, z_q im, d) = some (.inr (5, [some (.int (Int32.ofInt (m : Int))), some (.int (Int32.ofInt ((x * k : Nat) : Int))), some (.int (Int32.ofInt ((k + 1 : Nat) : Int)))], [], (n, z_q im, d))) := fun m k x h1 h2 => by
    rcases step m k x h2 with q | q
    · exact q
    · omega
  refine z_go (e_Model_ordersMany_0 ..) ?_
  rcases (show m = 1 ∨ m = 2 ∨ m = 3 ∨ m = 4 ∨ m = 5 by omega) with rfl | rfl | rfl | rfl | rfl
  · exact z_ret (fin 1 1 (by decide))
  · exact z_go (st 2 2 1 (by decide) (by decide)) (z_ret (fin 2 2 (by decide)))
  · exact z_go (st 3 2 1 (by decide) (by decide)) (z_go (st 3 3 2 (by decide) (by decide)) (z_ret (fin 3 6 (by decide))))
  · exact z_go (st 4 2 1 (by decide) (by decide)) (z_go (st 4 3 2 (by decide) (by decide)) (z_go (st 4 4 6 (by decide) (by decide)) (z_ret (fin 4 24 (by decide)))))
  · exact z_go (st 5 2 1 (by decide) (by decide)) (z_go (st 5 3 2 (by decide) (by decide)) (z_go (st 5 4 6 (by decide) (by decide)) (z_go (st 5 5 24 (by decide) (by decide)) (z_ret (fin 5 120 (by decide))))))
theorem q_fc_b (n : Nat) : 1 ≤ q_fc n ∧ q_fc n ≤ 120 := by
  unfold q_fc
  (repeat' split) <;> omega
theorem x_sure {e n : Nat} {im : Nat → Option Nat} {w u : Nat → Nat → Int} {v : Nat → Int} {t o : Int} (hv : c_v w v) (hw : a_wf v) (ht : jR t) (ho : jR o) : ∃ w', (z_F (e + 50)).1 k_LongBoats_sure [.ref 0, .int (Int32.ofInt t), .int (Int32.ofInt o)] (n, z_q im, jM w, jL u) = some (Int32.ofInt (V_sure v t o), jM w', jL u) ∧ c_fr w w' := by
  unfold V_sure
  obtain ⟨w1, m1, m2, m3⟩ := x_meets (e := e + 43) (n := n) (im := im) (u := u) hv hw ht ho
  by_cases h : a_tt v t o
  · rw [if_pos h] at m1 ⊢
    obtain ⟨b1, b2, b3, b4, b5, b6⟩ := t_wf hw h.2.1
    obtain ⟨w2, k1, k2, k3⟩ := s_findBold (e := e) (n := n) (im := im) (u := u) hw h (m3 h)
    have c2 := (c_t k2.1 b1).2.1
    rw [b3] at c2
    have hpb := P_o_b (t := t) hw h.2.1 (q_len (t_n v t))
    have hqb := q_fc_b (t_n v o)
    have ho2 : (z_F (e + 49)).1 k_LongBoats_ordersOf [.int (Int32.ofInt (t_n v o : Int))] (n, z_q im, jM w2, jL u) = some (Int32.ofInt (q_fc (t_n v o)), jM w2, jL u) := n_LongBoats_ordersOf (e := e + 48) (s_LongBoats_ordersOf_x _ b4)
    refine ⟨w2, q_LongBoats_sure (e := e + 49) ?_, c_fr_tr m2 k2.2⟩
    rw [m1, z_oI_s, if_neg (show ¬ Int32.ofInt 1 = 0 by decide), k1, z_oI_s, s_sizeOf_3 (by omega) (by omega), z_oI_s, c2, ho2, z_oI_s]
    by_cases q : (P_o v t o (q_len (t_n v t))).2 = q_fc (t_n v o)
    · rw [if_pos (ji_eq_p (by omega) (by omega) q), if_pos q]
    · rw [if_neg (ji_eq_n (by omega) (by omega) q), if_neg q]
  · rw [if_neg h] at m1 ⊢
    refine ⟨w1, q_LongBoats_sure (e := e + 49) ?_, m2⟩
    rw [m1, z_oI_s, if_pos (show Int32.ofInt 0 = 0 from rfl)]
