/-! bold and sure: the class -/
theorem k_bit1 : ∀ m, m < 32 → ∀ k, k < 5 → ((((Int32.ofInt ((m : Nat) : Int)) >>> ((Int32.ofInt ((k : Nat) : Int)) &&& 31)) &&& (Int32.ofInt 1) = (Int32.ofInt 1)) ↔ b_has m k = true) := by decide +kernel
theorem k_bit2 : ∀ m, m < 32 → ∀ k, k < 5 → b_has m k = true → (Int32.ofInt ((m : Nat) : Int)) &&& (((Int32.ofInt 1) <<< ((Int32.ofInt ((k : Nat) : Int)) &&& 31)) ^^^ (Int32.ofInt (-1))) = Int32.ofInt ((k_del m k : Nat) : Int) := by decide +kernel
theorem k_bit3 : ∀ n, n < 6 → ((Int32.ofInt 1) <<< ((Int32.ofInt ((n : Nat) : Int)) &&& 31)) - (Int32.ofInt 1) = Int32.ofInt ((2 ^ n - 1 : Nat) : Int) := by decide +kernel
theorem k_bit4 : ∀ n, n < 6 → ∀ m, m < 32 → m < 2 ^ n → ∀ k, k < 5 → b_has m k = true → k < n := by decide +kernel
theorem k_bit5 : ∀ n, n < 6 → 2 ^ n ≤ 32 := by decide
theorem C_m_MB {v : Nat → Int} {dr bo ot : Int} {F S : Nat → Int} {n1 n2 : Nat} {w : Nat → Nat → Int} {a b r : Int} {k : Nat} {c : Int} (hC : C_m v dr bo ot F S n1 n2 w) : C_m v dr bo ot F S n1 n2 (MB (c_ld (c_ld w 26 a) 27 b) r k c) := by
  obtain ⟨c1, ⟨k9, k5, k6, k7, k8, k10, k11, k4⟩, c3, c4, c5, c6⟩ := hC
  have eo : ∀ d, d ≠ 25 → d ≠ 26 → d ≠ 27 → MB (c_ld (c_ld w 26 a) 27 b) r k c d = w d := fun d q1 q2 q3 => by rw [MB_ne q1, c_ld_ne q3, c_ld_ne q2]
  have e25 : ∀ j, j ≠ 12 → j ≠ 13 → j ≠ 14 → MB (c_ld (c_ld w 26 a) 27 b) r k c 25 j = w 25 j := fun j j1 j2 j3 => by
    simp only [MB, if_true, if_neg j1, if_neg j2, if_neg j3]
    rw [c_ld_ne (by decide), c_ld_ne (by decide)]
  refine ⟨?_, ⟨?_, ?_, ?_, ?_, ?_, ?_, ?_, ?_⟩, ?_, ?_, ?_, ?_⟩
  · unfold c_v
    rw [eo 3 (by decide) (by decide) (by decide), eo 5 (by decide) (by decide) (by decide), eo 7 (by decide) (by decide) (by decide), eo 9 (by decide) (by decide) (by decide)]
    exact c1
  · rw [e25 9 (by decide) (by decide) (by decide)]; exact k9
  · rw [e25 5 (by decide) (by decide) (by decide)]; exact k5
  · rw [e25 6 (by decide) (by decide) (by decide)]; exact k6
  · rw [e25 7 (by decide) (by decide) (by decide)]; exact k7
  · rw [e25 8 (by decide) (by decide) (by decide)]; exact k8
  · rw [e25 10 (by decide) (by decide) (by decide)]; exact k10
  · rw [e25 11 (by decide) (by decide) (by decide)]; exact k11
  · rw [e25 4 (by decide) (by decide) (by decide)]; exact k4
  · rw [eo 31 (by decide) (by decide) (by decide)]; exact c3
  · rw [eo 31 (by decide) (by decide) (by decide)]; exact c4
  · rw [eo 33 (by decide) (by decide) (by decide)]; exact c5
  · rw [eo 35 (by decide) (by decide) (by decide)]; exact c6
abbrev C_b (v : Nat → Int) (bo ot : Int) (G S : Nat → Int) (n1 n2 : Nat) (w wi : Nat → Nat → Int) : Prop := C_m v 0 bo ot G S n1 n2 wi ∧ c_fr w wi ∧ wi 41 = w 41
theorem s_bo {n : Nat} {im : Nat → Option Nat} {w u : Nat → Nat → Int} {v : Nat → Int} {bo ot : Int} {G S : Nat → Int} {n1 n2 : Nat} (hw : a_wf v) (hR : R_ok v G S n1 n2) (s4 : 0 ≤ bo ∧ bo < v 6) (s5 : 0 ≤ ot ∧ ot < v 6) : ∀ (f e : Nat) (i : Nat) (a : Int) (m : Nat) (x b : Int) (wi : Nat → Nat → Int), f ≤ 21 → i ≤ n1 → (0 ≤ a ∧ a ≤ 7 * (21 - (f : Int))) → (0 ≤ b ∧ b ≤ 7 * (21 - (f : Int))) → m < 2 ^ n2 → (x = -1 ∨ (0 ≤ x ∧ x < v 7)) → C_b v bo ot G S n1 n2 w wi → ∃ w', (z_F (e + 2 * f + 6)).1 k_Contest_beatenOrders [.ref 31, .int (Int32.ofInt (i : Int)), .int (Int32.ofInt a), .int (Int32.ofInt ((m : Nat) : Int)), .int (Int32.ofInt x), .int (Int32.ofInt b), .int (Int32.ofInt (21 - (f : Int)))] (n, z_q im, jM wi, jL u) = some (Int32.ofInt (K_b v bo ot G n1 S f i a m x b), jM w', jL u) ∧ C_b v bo ot G S n1 n2 w w'
  | 0, e, i, a, m, x, b, wi, hf, hi, ha, hb, hm, hx, hC => by
    have h5 := hR.1
    refine ⟨wi, q_Contest_beatenOrders ?_, hC⟩
    have e5 : ((jM wi, jL u) : zD).1 31 5 = Int32.ofInt (n1 : Int) := by rw [← hC.1.2.2.1]; rfl
    rw [e5]
    by_cases q : n1 ≤ i
    · rw [if_pos (ji_le_p (by omega) (by omega) (by omega))]; rfl
    · rw [if_neg (ji_le_n (by omega) (by omega) (by omega)), if_neg (ji_le_n (by omega) (by decide) (by omega))]; rfl
  | f + 1, e, i, a, m, x, b, wi, hf, hi, ha, hb, hm, hx, hC => by
    have h5 := hR.1
    have f7 := hw.2.2.2.2.2.2.2.1
    have hm32 : m < 32 := by have := k_bit5 n2 (by omega); omega
    have e5 : ((jM wi, jL u) : zD).1 31 5 = Int32.ofInt (n1 : Int) := by rw [← hC.1.2.2.1]; rfl
    simp only [K_b]
    by_cases q : n1 ≤ i
    · rw [if_pos q]
      refine ⟨wi, q_Contest_beatenOrders (e := e + 2 * f + 7) ?_, hC⟩
      rw [e5, if_pos (ji_le_p (by omega) (by omega) (by omega))]
    · rw [if_neg q]
      by_cases h2 : x = -1
      · rw [if_pos h2]
        by_cases h3 : m = 0
        · rw [if_pos h3]
          refine ⟨wi, q_Contest_beatenOrders (e := e + 2 * f + 7) ?_, hC⟩
          rw [e5, if_neg (ji_le_n (by omega) (by omega) (by omega)), if_pos (ji_le_p (by omega) (by decide) (by omega)), if_pos (ji_eq_p (by omega) (by decide) h2), if_pos (ji_eq0_p (by omega) (by omega))]
        · rw [if_neg h3]
          -- he who comes
          obtain ⟨t9, ht9, wf, q7, rfl, i1⟩ := z_for (o := z_F (e + 2 * f + 6)) (cd := cd_Contest_beatenByComing) (P := fun k s => ∃ wk q7, s = (5, [some (.ref 31), some (.int (Int32.ofInt (i : Int))), some (.int (Int32.ofInt a)), some (.int (Int32.ofInt ((m : Nat) : Int))), some (.int (Int32.ofInt (21 - ((f + 1 : Nat) : Int)))), some (.int (Int32.ofInt (s_n (fun k => if b_has m k then K_b v bo ot G n1 S f i a (k_del m k) (S k) 0 else 0) k))), some (.int (Int32.ofInt (k : Int))), q7], (n, z_q im, jM wk, jL u)) ∧ C_b v bo ot G S n1 n2 w wk) n2 (s := (5, [some (.ref 31), some (.int (Int32.ofInt (i : Int))), some (.int (Int32.ofInt a)), some (.int (Int32.ofInt ((m : Nat) : Int))), some (.int (Int32.ofInt (21 - ((f + 1 : Nat) : Int)))), some (.int (Int32.ofInt 0)), some (.int (Int32.ofInt 0)), none], (n, z_q im, jM wi, jL u))) ⟨wi, none, rfl, hC⟩ (fun k s hk hs => by
            obtain ⟨wk, q7, rfl, i1⟩ := hs
            have e6 : ((jM wk, jL u) : zD).1 31 6 = Int32.ofInt (n2 : Int) := by rw [← i1.1.2.2.2.1]; rfl
            have sk := hR.2.2.1 k hk
            have hstep : s_n (fun k => if b_has m k then K_b v bo ot G n1 S f i a (k_del m k) (S k) 0 else 0) (k + 1) = s_n (fun k => if b_has m k then K_b v bo ot G n1 S f i a (k_del m k) (S k) 0 else 0) k + (if b_has m k then K_b v bo ot G n1 S f i a (k_del m k) (S k) 0 else 0) := rfl
            by_cases hb2 : b_has m k = true
            · obtain ⟨w2, r1, r2⟩ := s_bo hw hR s4 s5 f e i a (k_del m k) (S k) 0 wk (by omega) hi (by omega) (by omega) (Nat.lt_of_le_of_lt (Nat.sub_le _ _) hm) (Or.inr sk) i1
              rw [if_pos hb2] at hstep
              refine ⟨(5, [some (.ref 31), some (.int (Int32.ofInt (i : Int))), some (.int (Int32.ofInt a)), some (.int (Int32.ofInt ((m : Nat) : Int))), some (.int (Int32.ofInt (21 - ((f + 1 : Nat) : Int)))), some (.int (Int32.ofInt (s_n (fun k => if b_has m k then K_b v bo ot G n1 S f i a (k_del m k) (S k) 0 else 0) (k + 1)))), some (.int (Int32.ofInt ((k : Int) + 1))), some (.int (Int32.ofInt ((k_del m k : Nat) : Int)))], (n, z_q im, jM w2, jL u)), z_To_1 ((e_Contest_beatenByComing_5 ..).trans ?_), w2, _, rfl, r2⟩
              rw [e6, if_neg (ji_le_n (by omega) (by omega) (by omega)), if_pos ((k_bit1 m hm32 k (by omega)).mpr hb2), s_at_34 (by omega), z_oI_s, if_pos (by omega), show ((k : Int)).toNat = k by omega, i1.1.2.2.2.2.2 k hk, k_bit2 m hm32 k (by omega) hb2, ji_add, show (21 : Int) - ((f + 1 : Nat) : Int) + 1 = 21 - (f : Int) by omega]
              change z_oI ((z_F (e + 2 * f + 6)).1 k_Contest_beatenOrders [.ref 31, .int (Int32.ofInt (i : Int)), .int (Int32.ofInt a), .int (Int32.ofInt ((k_del m k : Nat) : Int)), .int (Int32.ofInt (S k)), .int (Int32.ofInt 0), .int (Int32.ofInt (21 - (f : Int)))] _) _ _ = _
              rw [r1, z_oI_s, hstep, ji_add, ji_add]
            · rw [if_neg hb2, Int.add_zero] at hstep
              refine ⟨(5, [some (.ref 31), some (.int (Int32.ofInt (i : Int))), some (.int (Int32.ofInt a)), some (.int (Int32.ofInt ((m : Nat) : Int))), some (.int (Int32.ofInt (21 - ((f + 1 : Nat) : Int)))), some (.int (Int32.ofInt (s_n (fun k => if b_has m k then K_b v bo ot G n1 S f i a (k_del m k) (S k) 0 else 0) (k + 1)))), some (.int (Int32.ofInt ((k : Int) + 1))), q7], (n, z_q im, jM wk, jL u)), z_To_1 ((e_Contest_beatenByComing_5 ..).trans ?_), wk, _, rfl, i1⟩
              rw [e6, if_neg (ji_le_n (by omega) (by omega) (by omega)), if_neg (fun z => hb2 ((k_bit1 m hm32 k (by omega)).mp z)), hstep, ji_add])
          have e6 : ((jM wf, jL u) : zD).1 31 6 = Int32.ofInt (n2 : Int) := by rw [← i1.1.2.2.2.1]; rfl
          have hfin : s_n (fun k => if b_has m k then K_b v bo ot G n1 S f i a (k_del m k) (S k) 0 else 0) n2 = s_n (fun k => if b_has m k then K_b v bo ot G n1 S f i a (k_del m k) (S k) 0 else 0) 5 := by
            have hz : s_n (fun k => if k < 5 then (if b_has m k then K_b v bo ot G n1 S f i a (k_del m k) (S k) 0 else 0) else 0) (n2 + (5 - n2)) = s_n (fun k => if k < 5 then (if b_has m k then K_b v bo ot G n1 S f i a (k_del m k) (S k) 0 else 0) else 0) n2 := s_n_z (5 - n2) (fun j hj => by
              by_cases q5 : j < 5
              · rw [if_pos q5, if_neg (fun z => by have := k_bit4 n2 (by omega) m hm32 hm j q5 z; omega)]
              · rw [if_neg q5])
            rw [show n2 + (5 - n2) = 5 by omega] at hz
            rw [s_n_cg (t := fun k => if b_has m k then K_b v bo ot G n1 S f i a (k_del m k) (S k) 0 else 0) (t' := fun k => if k < 5 then (if b_has m k then K_b v bo ot G n1 S f i a (k_del m k) (S k) 0 else 0) else 0) 5 (fun j hj => (if_pos hj).symm), s_n_cg (t := fun k => if b_has m k then K_b v bo ot G n1 S f i a (k_del m k) (S k) 0 else 0) (t' := fun k => if k < 5 then (if b_has m k then K_b v bo ot G n1 S f i a (k_del m k) (S k) 0 else 0) else 0) n2 (fun j hj => (if_pos (show j < 5 by omega)).symm)]
            exact hz.symm
          have hcall : (z_F (e + 2 * f + 6 + 1)).1 k_Contest_beatenByComing [.ref 31, .int (Int32.ofInt (i : Int)), .int (Int32.ofInt a), .int (Int32.ofInt ((m : Nat) : Int)), .int (Int32.ofInt (21 - ((f + 1 : Nat) : Int)))] (n, z_q im, jM wi, jL u) = some (Int32.ofInt (s_n (fun k => if b_has m k then K_b v bo ot G n1 S f i a (k_del m k) (S k) 0 else 0) 5), jM wf, jL u) := by
            refine n_Contest_beatenByComing (z_go (e_Contest_beatenByComing_0 ..) (ht9 _ (z_ret ((e_Contest_beatenByComing_5 ..).trans ?_))))
            rw [e6, if_pos (ji_le_p (by omega) (by omega) (by omega)), hfin]
          refine ⟨wf, q_Contest_beatenOrders (e := e + 2 * f + 7) ?_, i1⟩
          rw [e5, if_neg (ji_le_n (by omega) (by omega) (by omega)), if_pos (ji_le_p (by omega) (by decide) (by omega)), if_pos (ji_eq_p (by omega) (by decide) h2), if_neg (ji_eq0_n (by omega) (by omega)), hcall, z_oI_s]
      · rw [if_neg h2]
        have gi := hR.2.1 i (by omega)
        have hxx : 0 ≤ x ∧ x < v 7 := by omega
        have hfi := s_fight (e := e + 2 * f + 2) (n := n) (im := im) (u := u) (a := G i) (b := x) (p := a) (p2 := b) hw hC.1.1 hC.1.2.1 (Or.inl rfl) gi hxx s4 s5 (by omega) (by omega) (fun z => absurd rfl z)
        rw [B_o_x, a_X_0, zu_self] at hfi
        have hbb := B_o_b hw 0 0 (G i) x bo ot a b
        generalize hr : B_o v 0 0 (G i) x bo ot a b = r at hfi hbb
        have hC2 : C_b v bo ot G S n1 n2 w (MB (c_ld (c_ld wi 26 (G i)) 27 x) r.1 r.2.1 r.2.2) := by
          refine ⟨C_m_MB hC.1, c_fr_tr hC.2.1 (fun c hc => ?_), ?_⟩
          · rw [MB_ne (fun z => by subst z; simp at hc), c_ld_ne (fun z => by subst z; simp at hc), c_ld_ne (fun z => by subst z; simp at hc)]
          · rw [MB_ne (by decide), c_ld_ne (by decide), c_ld_ne (by decide)]; exact hC.2.2
        have e12 : ((jM (MB (c_ld (c_ld wi 26 (G i)) 27 x) r.1 r.2.1 r.2.2), jL u) : zD).1 25 12 = Int32.ofInt r.1 := rfl
        have e13 : ((jM (MB (c_ld (c_ld wi 26 (G i)) 27 x) r.1 r.2.1 r.2.2), jL u) : zD).1 25 13 = Int32.ofInt (r.2.1 : Int) := rfl
        generalize MB (c_ld (c_ld wi 26 (G i)) 27 x) r.1 r.2.1 r.2.2 = w1 at hfi hC2 e12 e13
        have pre : ∀ {V : Int} {w2 : Nat → Nat → Int}, (if Int32.ofInt r.1 = Int32.ofInt 1 then z_oI ((z_F (e + 2 * f + 7)).1 k_Contest_beatenOrders [.ref 31, .int (Int32.ofInt ((i : Int) + 1)), .int (Int32.ofInt 0), .int (Int32.ofInt ((m : Nat) : Int)), .int (Int32.ofInt x), .int (Int32.ofInt (b + (r.2.1 : Int))), .int (Int32.ofInt (21 - (f : Int)))] (n, z_q im, jM w1, jL u)) none (fun v9 d8 => (some (Sum.inl (some (Value.int v9), (n, z_q im, d8))) : Option (Sum (Option Value × zM) (Nat × zL × List Value × zM)))) else if Int32.ofInt r.1 = Int32.ofInt 2 then z_oI ((z_F (e + 2 * f + 7)).1 k_Contest_beatenOrders [.ref 31, .int (Int32.ofInt (i : Int)), .int (Int32.ofInt (a + (r.2.1 : Int))), .int (Int32.ofInt ((m : Nat) : Int)), .int (Int32.ofInt (-1)), .int (Int32.ofInt 0), .int (Int32.ofInt (21 - (f : Int)))] (n, z_q im, jM w1, jL u)) none (fun v9 d8 => (some (Sum.inl (some (Value.int v9), (n, z_q im, d8))) : Option (Sum (Option Value × zM) (Nat × zL × List Value × zM)))) else z_oI ((z_F (e + 2 * f + 7)).1 k_Contest_beatenOrders [.ref 31, .int (Int32.ofInt ((i : Int) + 1)), .int (Int32.ofInt 0), .int (Int32.ofInt ((m : Nat) : Int)), .int (Int32.ofInt (-1)), .int (Int32.ofInt 0), .int (Int32.ofInt (21 - (f : Int)))] (n, z_q im, jM w1, jL u)) none (fun v9 d8 => (some (Sum.inl (some (Value.int v9), (n, z_q im, d8))) : Option (Sum (Option Value × zM) (Nat × zL × List Value × zM))))) = some (.inl (some (.int (Int32.ofInt V)), (n, z_q im, jM w2, jL u))) → (z_F (e + 2 * f + 8)).1 k_Contest_beatenOrders [.ref 31, .int (Int32.ofInt (i : Int)), .int (Int32.ofInt a), .int (Int32.ofInt ((m : Nat) : Int)), .int (Int32.ofInt x), .int (Int32.ofInt b), .int (Int32.ofInt (21 - ((f + 1 : Nat) : Int)))] (n, z_q im, jM wi, jL u) = some (Int32.ofInt V, jM w2, jL u) := fun {V w2} hh => by
          refine q_Contest_beatenOrders (e := e + 2 * f + 7) ?_
          rw [e5, if_neg (ji_le_n (by omega) (by omega) (by omega)), if_pos (ji_le_p (by omega) (by decide) (by omega)), if_neg (ji_eq_n (by omega) (by decide) h2), s_at_32 (by omega), z_oI_s, if_pos (c := 0 ≤ (i : Int) ∧ (i : Int) < 5) (by omega), show ((i : Int)).toNat = i by omega, hC.1.2.2.2.2.1 i (by omega), hfi, z_oV_s, e12, e13, ji_add, ji_add, ji_add, ji_add, show (21 : Int) - ((f + 1 : Nat) : Int) + 1 = 21 - (f : Int) by omega]
          exact hh
        by_cases c1 : r.1 = 1
        · rw [if_pos c1]
          obtain ⟨w2, r1, r2⟩ := s_bo hw hR s4 s5 f (e + 1) (i + 1) 0 m x (b + (r.2.1 : Int)) w1 (by omega) (by omega) (by omega) (by omega) hm (Or.inr hxx) hC2
          refine ⟨w2, pre ?_, r2⟩
          rw [if_pos (ji_eq_p (by omega) (by decide) c1)]
          rw [show e + 1 + 2 * f + 6 = e + 2 * f + 7 by omega] at r1
          change z_oI ((z_F (e + 2 * f + 7)).1 k_Contest_beatenOrders [.ref 31, .int (Int32.ofInt ((i + 1 : Nat) : Int)), .int (Int32.ofInt 0), .int (Int32.ofInt ((m : Nat) : Int)), .int (Int32.ofInt x), .int (Int32.ofInt (b + (r.2.1 : Int))), .int (Int32.ofInt (21 - (f : Int)))] _) _ _ = _
          rw [r1, z_oI_s]
        · rw [if_neg c1]
          by_cases c2 : r.1 = 2
          · rw [if_pos c2]
            obtain ⟨w2, r1, r2⟩ := s_bo hw hR s4 s5 f (e + 1) i (a + (r.2.1 : Int)) m (-1) 0 w1 (by omega) hi (by omega) (by omega) hm (Or.inl rfl) hC2
            refine ⟨w2, pre ?_, r2⟩
            rw [if_neg (ji_eq_n (by omega) (by decide) c1), if_pos (ji_eq_p (by omega) (by decide) c2)]
            rw [show e + 1 + 2 * f + 6 = e + 2 * f + 7 by omega] at r1
            rw [r1, z_oI_s]
          · rw [if_neg c2]
            obtain ⟨w2, r1, r2⟩ := s_bo hw hR s4 s5 f (e + 1) (i + 1) 0 m (-1) 0 w1 (by omega) (by omega) (by omega) (by omega) hm (Or.inl rfl) hC2
            refine ⟨w2, pre ?_, r2⟩
            rw [if_neg (ji_eq_n (by omega) (by decide) c1), if_neg (ji_eq_n (by omega) (by decide) c2)]
            rw [show e + 1 + 2 * f + 6 = e + 2 * f + 7 by omega] at r1
            change z_oI ((z_F (e + 2 * f + 7)).1 k_Contest_beatenOrders [.ref 31, .int (Int32.ofInt ((i + 1 : Nat) : Int)), .int (Int32.ofInt 0), .int (Int32.ofInt ((m : Nat) : Int)), .int (Int32.ofInt (-1)), .int (Int32.ofInt 0), .int (Int32.ofInt (21 - (f : Int)))] _) _ _ = _
            rw [r1, z_oI_s]
