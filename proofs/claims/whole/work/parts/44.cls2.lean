/-! the class: the harbour's getters, speed, a duel laid out, a pass -/
theorem jM_at (w : Nat → Nat → Int) (c j : Nat) : jM w c j = Int32.ofInt (w c j) := rfl
theorem jL_at (w : Nat → Nat → Int) (c j : Nat) : jL w c j = Int64.ofInt (w c j) := rfl
theorem s_hasBoat_3 {e n : Nat} {im : Nat → Option Nat} {w u : Nat → Nat → Int} {a : Int} (ha : jR a) (hf : jR (w 3 7)) : (z_F (e + 1)).1 k_Harbour_hasBoat [.ref 3, .int (Int32.ofInt a)] (n, z_q im, jM w, jL u) = some (Int32.ofInt (if 0 ≤ a ∧ a < w 3 7 then 1 else 0), jM w, jL u) := by
  refine q_Harbour_hasBoat_3 ?_
  simp (disch := omega) only [jM, ji_lt0, ji_le, z_fI]
  refine z_lf ?_
  (repeat' split) <;> omega
theorem s_hasMan_3 {e n : Nat} {im : Nat → Option Nat} {w u : Nat → Nat → Int} {a : Int} (ha : jR a) (hf : jR (w 3 8)) : (z_F (e + 1)).1 k_Harbour_hasMan [.ref 3, .int (Int32.ofInt a)] (n, z_q im, jM w, jL u) = some (Int32.ofInt (if 0 ≤ a ∧ a < w 3 8 then 1 else 0), jM w, jL u) := by
  refine q_Harbour_hasMan_3 ?_
  simp (disch := omega) only [jM, ji_lt0, ji_le, z_fI]
  refine z_lf ?_
  (repeat' split) <;> omega
theorem s_hasMan_10 {e n : Nat} {im : Nat → Option Nat} {w u : Nat → Nat → Int} {a : Int} (ha : jR a) (hf : jR (w 10 8)) : (z_F (e + 1)).1 k_Harbour_hasMan [.ref 10, .int (Int32.ofInt a)] (n, z_q im, jM w, jL u) = some (Int32.ofInt (if 0 ≤ a ∧ a < w 10 8 then 1 else 0), jM w, jL u) := by
  refine q_Harbour_hasMan_10 ?_
  simp (disch := omega) only [jM, ji_lt0, ji_le, z_fI]
  refine z_lf ?_
  (repeat' split) <;> omega
theorem s_hasTeam_3 {e n : Nat} {im : Nat → Option Nat} {w u : Nat → Nat → Int} {a : Int} (ha : jR a) (hf : jR (w 3 9)) : (z_F (e + 1)).1 k_Harbour_hasTeam [.ref 3, .int (Int32.ofInt a)] (n, z_q im, jM w, jL u) = some (Int32.ofInt (if 0 ≤ a ∧ a < w 3 9 then 1 else 0), jM w, jL u) := by
  refine q_Harbour_hasTeam_3 ?_
  simp (disch := omega) only [jM, ji_lt0, ji_le, z_fI]
  refine z_lf ?_
  (repeat' split) <;> omega
theorem s_hasBoats {e n : Nat} {im : Nat → Option Nat} {w u : Nat → Nat → Int} {a b : Int} (ha : jR a) (hb : jR b) (hf : jR (w 3 7)) : (z_F (e + 2)).1 k_Harbour_hasBoats [.ref 3, .int (Int32.ofInt a), .int (Int32.ofInt b)] (n, z_q im, jM w, jL u) = some (Int32.ofInt (if (0 ≤ a ∧ a < w 3 7) ∧ (0 ≤ b ∧ b < w 3 7) then 1 else 0), jM w, jL u) := by
  refine q_Harbour_hasBoats_3 ?_
  simp (disch := omega) only [s_hasBoat_3, z_oI_s, ji_b, z_fI]
  refine z_lf ?_
  (repeat' split) <;> omega
theorem s_gear_0 {e n : Nat} {im : Nat → Option Nat} {w u : Nat → Nat → Int} {a : Int} (h0 : 0 ≤ a) (h9 : a ≤ 3) : (z_F (e + 2)).1 k_Harbour_gear [.ref 3, .int (Int32.ofInt a), .int (Int32.ofInt 0)] (n, z_q im, jM w, jL u) = some (Int32.ofInt (w 5 (2 * a.toNat + 0)), jM w, jL u) := by
  refine q_Harbour_gear_3 ?_
  have e1 : (a * 2 + 0).toNat = 2 * a.toNat + 0 := by omega
  simp (disch := omega) only [ji_mul, ji_add, s_at_4, z_oI_s, e1]
  rw [if_pos (by omega)]
theorem s_gear_1 {e n : Nat} {im : Nat → Option Nat} {w u : Nat → Nat → Int} {a : Int} (h0 : 0 ≤ a) (h9 : a ≤ 3) : (z_F (e + 2)).1 k_Harbour_gear [.ref 3, .int (Int32.ofInt a), .int (Int32.ofInt 1)] (n, z_q im, jM w, jL u) = some (Int32.ofInt (w 5 (2 * a.toNat + 1)), jM w, jL u) := by
  refine q_Harbour_gear_3 ?_
  have e1 : (a * 2 + 1).toNat = 2 * a.toNat + 1 := by omega
  simp (disch := omega) only [ji_mul, ji_add, s_at_4, z_oI_s, e1]
  rw [if_pos (by omega)]
theorem s_trait_0 {e n : Nat} {im : Nat → Option Nat} {w u : Nat → Nat → Int} {a : Int} (h0 : 0 ≤ a) (h9 : a ≤ 9) : (z_F (e + 2)).1 k_Harbour_trait [.ref 3, .int (Int32.ofInt a), .int (Int32.ofInt 0)] (n, z_q im, jM w, jL u) = some (Int32.ofInt (w 7 (6 * a.toNat + 0)), jM w, jL u) := by
  refine q_Harbour_trait_3 ?_
  have e1 : (a * 6 + 0).toNat = 6 * a.toNat + 0 := by omega
  simp (disch := omega) only [ji_mul, ji_add, s_at_6, z_oI_s, e1]
  rw [if_pos (by omega)]
theorem s_trait_1 {e n : Nat} {im : Nat → Option Nat} {w u : Nat → Nat → Int} {a : Int} (h0 : 0 ≤ a) (h9 : a ≤ 9) : (z_F (e + 2)).1 k_Harbour_trait [.ref 3, .int (Int32.ofInt a), .int (Int32.ofInt 1)] (n, z_q im, jM w, jL u) = some (Int32.ofInt (w 7 (6 * a.toNat + 1)), jM w, jL u) := by
  refine q_Harbour_trait_3 ?_
  have e1 : (a * 6 + 1).toNat = 6 * a.toNat + 1 := by omega
  simp (disch := omega) only [ji_mul, ji_add, s_at_6, z_oI_s, e1]
  rw [if_pos (by omega)]
theorem s_trait_2 {e n : Nat} {im : Nat → Option Nat} {w u : Nat → Nat → Int} {a : Int} (h0 : 0 ≤ a) (h9 : a ≤ 9) : (z_F (e + 2)).1 k_Harbour_trait [.ref 3, .int (Int32.ofInt a), .int (Int32.ofInt 2)] (n, z_q im, jM w, jL u) = some (Int32.ofInt (w 7 (6 * a.toNat + 2)), jM w, jL u) := by
  refine q_Harbour_trait_3 ?_
  have e1 : (a * 6 + 2).toNat = 6 * a.toNat + 2 := by omega
  simp (disch := omega) only [ji_mul, ji_add, s_at_6, z_oI_s, e1]
  rw [if_pos (by omega)]
theorem s_trait_3 {e n : Nat} {im : Nat → Option Nat} {w u : Nat → Nat → Int} {a : Int} (h0 : 0 ≤ a) (h9 : a ≤ 9) : (z_F (e + 2)).1 k_Harbour_trait [.ref 3, .int (Int32.ofInt a), .int (Int32.ofInt 3)] (n, z_q im, jM w, jL u) = some (Int32.ofInt (w 7 (6 * a.toNat + 3)), jM w, jL u) := by
  refine q_Harbour_trait_3 ?_
  have e1 : (a * 6 + 3).toNat = 6 * a.toNat + 3 := by omega
  simp (disch := omega) only [ji_mul, ji_add, s_at_6, z_oI_s, e1]
  rw [if_pos (by omega)]
theorem s_trait_4 {e n : Nat} {im : Nat → Option Nat} {w u : Nat → Nat → Int} {a : Int} (h0 : 0 ≤ a) (h9 : a ≤ 9) : (z_F (e + 2)).1 k_Harbour_trait [.ref 3, .int (Int32.ofInt a), .int (Int32.ofInt 4)] (n, z_q im, jM w, jL u) = some (Int32.ofInt (w 7 (6 * a.toNat + 4)), jM w, jL u) := by
  refine q_Harbour_trait_3 ?_
  have e1 : (a * 6 + 4).toNat = 6 * a.toNat + 4 := by omega
  simp (disch := omega) only [ji_mul, ji_add, s_at_6, z_oI_s, e1]
  rw [if_pos (by omega)]
theorem s_trait_5 {e n : Nat} {im : Nat → Option Nat} {w u : Nat → Nat → Int} {a : Int} (h0 : 0 ≤ a) (h9 : a ≤ 9) : (z_F (e + 2)).1 k_Harbour_trait [.ref 3, .int (Int32.ofInt a), .int (Int32.ofInt 5)] (n, z_q im, jM w, jL u) = some (Int32.ofInt (w 7 (6 * a.toNat + 5)), jM w, jL u) := by
  refine q_Harbour_trait_3 ?_
  have e1 : (a * 6 + 5).toNat = 6 * a.toNat + 5 := by omega
  simp (disch := omega) only [ji_mul, ji_add, s_at_6, z_oI_s, e1]
  rw [if_pos (by omega)]
theorem s_boatOf_3 {e n : Nat} {im : Nat → Option Nat} {w u : Nat → Nat → Int} {a : Int} (h0 : 0 ≤ a) (h9 : a ≤ 3) : (z_F (e + 2)).1 k_Harbour_boatOf [.ref 3, .int (Int32.ofInt a)] (n, z_q im, jM w, jL u) = some (Int32.ofInt (w 9 (7 * a.toNat)), jM w, jL u) := by
  refine q_Harbour_boatOf_3 ?_
  have e1 : (a * 7).toNat = 7 * a.toNat := by omega
  simp (disch := omega) only [ji_mul, ji_add, s_at_8, z_oI_s, e1]
  rw [if_pos (by omega)]
theorem s_sizeOf_3 {e n : Nat} {im : Nat → Option Nat} {w u : Nat → Nat → Int} {a : Int} (h0 : 0 ≤ a) (h9 : a ≤ 3) : (z_F (e + 2)).1 k_Harbour_sizeOf [.ref 3, .int (Int32.ofInt a)] (n, z_q im, jM w, jL u) = some (Int32.ofInt (w 9 (7 * a.toNat + 1)), jM w, jL u) := by
  refine q_Harbour_sizeOf_3 ?_
  have e1 : (a * 7 + 1).toNat = 7 * a.toNat + 1 := by omega
  simp (disch := omega) only [ji_mul, ji_add, s_at_8, z_oI_s, e1]
  rw [if_pos (by omega)]
theorem s_mate_3 {e n : Nat} {im : Nat → Option Nat} {w u : Nat → Nat → Int} {a i : Int} (h0 : 0 ≤ a) (h9 : a ≤ 3) (h1 : 0 ≤ i) (h2 : i ≤ 4) : (z_F (e + 2)).1 k_Harbour_mate [.ref 3, .int (Int32.ofInt a), .int (Int32.ofInt i)] (n, z_q im, jM w, jL u) = some (Int32.ofInt (w 9 (7 * a.toNat + 2 + i.toNat)), jM w, jL u) := by
  refine q_Harbour_mate_3 ?_
  have e1 : (a * 7 + 2 + i).toNat = 7 * a.toNat + 2 + i.toNat := by omega
  simp (disch := omega) only [ji_mul, ji_add, s_at_8, z_oI_s, e1]
  rw [if_pos (by omega)]
/-- SPEED, if a boat had so many oars -/
def c_sw (w : Nat → Nat → Int) (b x o : Int) : Int := a_mx (x + (if o = b then x else w 5 (2 * o.toNat)) - w 3 1)
theorem s_speedWith {e n : Nat} {im : Nat → Option Nat} {w u : Nat → Nat → Int} {b x o : Int} (h0 : 0 ≤ b) (h9 : b ≤ 3) (h1 : 0 ≤ o) (h2 : o ≤ 3) (hx : 0 ≤ x ∧ x ≤ 12) (ho : 0 ≤ w 5 (2 * o.toNat) ∧ w 5 (2 * o.toNat) ≤ 12) (hs : 0 ≤ w 3 1 ∧ w 3 1 ≤ 9) : (z_F (e + 2)).1 k_Harbour_speedWith [.ref 3, .int (Int32.ofInt b), .int (Int32.ofInt x), .int (Int32.ofInt o)] (n, z_q im, jM w, jL u) = some (Int32.ofInt (c_sw w b x o), jM w, jL u) := by
  refine q_Harbour_speedWith_3 ?_
  have e1 : (o * 2).toNat = 2 * o.toNat := by omega
  have e2 : (0 ≤ o * 2 ∧ o * 2 < 8) := by omega
  simp (disch := omega) only [jM, ji_mul, s_at_4, z_oI_s, e1, if_pos e2, ji_add, ji_sub, ji_le, ji_eq, z_fI]
  refine z_lf ?_
  unfold c_sw a_mx
  (repeat' split) <;> omega
theorem s_speedOf_3 {e n : Nat} {im : Nat → Option Nat} {w u : Nat → Nat → Int} {b o : Int} (h0 : 0 ≤ b) (h9 : b ≤ 3) (h1 : 0 ≤ o) (h2 : o ≤ 3) (hb : 0 ≤ w 5 (2 * b.toNat) ∧ w 5 (2 * b.toNat) ≤ 12) (ho : 0 ≤ w 5 (2 * o.toNat) ∧ w 5 (2 * o.toNat) ≤ 12) (hs : 0 ≤ w 3 1 ∧ w 3 1 ≤ 9) : (z_F (e + 3)).1 k_Harbour_speedOf [.ref 3, .int (Int32.ofInt b), .int (Int32.ofInt o)] (n, z_q im, jM w, jL u) = some (Int32.ofInt (c_sw w b (w 5 (2 * b.toNat)) o), jM w, jL u) := by
  refine q_Harbour_speedOf_3 ?_
  have e1 : (b * 2).toNat = 2 * b.toNat := by omega
  have e2 : (0 ≤ b * 2 ∧ b * 2 < 8) := by omega
  simp (disch := omega) only [ji_mul, s_at_4, z_oI_s, e1, if_pos e2]
  rw [s_speedWith h0 h9 h1 h2 hb ho hs, z_oI_s]
def c_ld (w : Nat → Nat → Int) (k : Nat) (a : Int) : Nat → Nat → Int := z_u (z_u (z_u (z_u (z_u (z_u w k 0 (w 7 (6 * a.toNat + 0))) k 1 (w 7 (6 * a.toNat + 1))) k 2 (w 7 (6 * a.toNat + 2))) k 3 (w 7 (6 * a.toNat + 3))) k 4 (w 7 (6 * a.toNat + 4))) k 5 (w 7 (6 * a.toNat + 5))
theorem s_load_26 {e n : Nat} {im : Nat → Option Nat} {w u : Nat → Nat → Int} {a : Int} (h0 : 0 ≤ a) (h9 : a ≤ 9) : (z_F (e + 3)).2.2.1 k_Fighter_load [.ref 26, .ref 3, .int (Int32.ofInt a)] (n, z_q im, jM w, jL u) = some (jM (c_ld w 26 a), jL u) := by
  refine q_Fighter_load_26 ?_
  simp (disch := omega) only [s_trait_0, s_trait_1, s_trait_2, s_trait_3, s_trait_4, s_trait_5, z_oI_s, jM_u, z_u_ne]
  rfl
theorem s_load_27 {e n : Nat} {im : Nat → Option Nat} {w u : Nat → Nat → Int} {a : Int} (h0 : 0 ≤ a) (h9 : a ≤ 9) : (z_F (e + 3)).2.2.1 k_Fighter_load [.ref 27, .ref 3, .int (Int32.ofInt a)] (n, z_q im, jM w, jL u) = some (jM (c_ld w 27 a), jL u) := by
  refine q_Fighter_load_27 ?_
  simp (disch := omega) only [s_trait_0, s_trait_1, s_trait_2, s_trait_3, s_trait_4, s_trait_5, z_oI_s, jM_u, z_u_ne]
  rfl
theorem c_ld_ne {w : Nat → Nat → Int} {k c : Nat} {a : Int} (h : c ≠ k) : c_ld w k a c = w c := by
  unfold c_ld
  simp only [z_u_ne h]
theorem c_ld_at {w : Nat → Nat → Int} {k j : Nat} {a : Int} (hj : j < 6) : c_ld w k a k j = w 7 (6 * a.toNat + j) := by
  unfold c_ld
  match j, hj with
  | 0, _ => simp [z_u_at]
  | 1, _ => simp [z_u_at]
  | 2, _ => simp [z_u_at]
  | 3, _ => simp [z_u_at]
  | 4, _ => simp [z_u_at]
  | 5, _ => simp [z_u_at]
def c_pl (w : Nat → Nat → Int) (b o : Int) : Nat → Nat → Int := z_u (z_u (z_u (z_u (z_u (z_u (z_u (z_u w 25 9 (c_sw w b (w 5 (2 * b.toNat)) o)) 25 5 (w 5 (2 * b.toNat + 1))) 25 6 (w 5 (2 * o.toNat + 1))) 25 7 (w 3 4)) 25 8 (w 3 5)) 25 10 (w 3 2)) 25 11 (w 3 3)) 25 4 0
theorem s_place {e n : Nat} {im : Nat → Option Nat} {w u : Nat → Nat → Int} {b o : Int} (h0 : 0 ≤ b) (h9 : b ≤ 3) (h1 : 0 ≤ o) (h2 : o ≤ 3) (hb : 0 ≤ w 5 (2 * b.toNat) ∧ w 5 (2 * b.toNat) ≤ 12) (ho : 0 ≤ w 5 (2 * o.toNat) ∧ w 5 (2 * o.toNat) ≤ 12) (hs : 0 ≤ w 3 1 ∧ w 3 1 ≤ 9) : (z_F (e + 4)).2.2.1 k_Duel_place [.ref 25, .ref 3, .int (Int32.ofInt b), .int (Int32.ofInt o)] (n, z_q im, jM w, jL u) = some (jM (c_pl w b o), jL u) := by
  refine q_Duel_place ?_
  rw [s_speedOf_3 h0 h9 h1 h2 hb ho hs, z_oI_s]
  simp (disch := omega) only [jM_u, s_gear_1, z_oI_s, z_u_ne, jM_at]
  rfl
theorem c_pl_ne {w : Nat → Nat → Int} {c : Nat} {b o : Int} (h : c ≠ 25) : c_pl w b o c = w c := by
  unfold c_pl
  simp only [z_u_ne h]
/-- a duel laid out: two men in two boats -/
def c_D (w w' : Nat → Nat → Int) (a b bo ot : Int) : Prop :=
  (∀ j, j < 6 → w' 26 j = w 7 (6 * a.toNat + j)) ∧ (∀ j, j < 6 → w' 27 j = w 7 (6 * b.toNat + j)) ∧ w' 25 9 = c_sw w bo (w 5 (2 * bo.toNat)) ot ∧ w' 25 5 = w 5 (2 * bo.toNat + 1) ∧ w' 25 6 = w 5 (2 * ot.toNat + 1) ∧ w' 25 7 = w 3 4 ∧ w' 25 8 = w 3 5 ∧ w' 25 10 = w 3 2 ∧ w' 25 11 = w 3 3 ∧ w' 25 4 = 0 ∧ ∀ c, c ≠ 25 → c ≠ 26 → c ≠ 27 → w' c = w c
theorem c_D_of (w : Nat → Nat → Int) (a b bo ot : Int) : c_D w (c_ld (c_ld (c_pl w bo ot) 26 a) 27 b) a b bo ot := by
  refine ⟨fun j hj => ?_, fun j hj => ?_, ?_, ?_, ?_, ?_, ?_, ?_, ?_, ?_, fun c h1 h2 h3 => ?_⟩
  · rw [c_ld_ne (by decide), c_ld_at hj, c_pl_ne (by decide)]
  · rw [c_ld_at hj, c_ld_ne (by decide), c_pl_ne (by decide)]
  all_goals first | (rw [c_ld_ne (by decide), c_ld_ne (by decide)]; unfold c_pl; simp [z_u_at]; done) | (rw [c_ld_ne h3, c_ld_ne h2, c_pl_ne h1])
theorem s_dkind {e n : Nat} {im : Nat → Option Nat} {w u : Nat → Nat → Int} {g : Int} (hg : jR g) (hl : jR (w 25 7)) (hh : jR (w 25 8)) : (z_F (e + 1)).1 k_Duel_kindOf [.ref 25, .int (Int32.ofInt g)] (n, z_q im, jM w, jL u) = some (Int32.ofInt (a_kd (w 25 7) (w 25 8) g), jM w, jL u) := by
  refine q_Duel_kindOf ?_
  simp (disch := omega) only [jM, ji_le, z_fI]
  refine z_lf ?_
  unfold a_kd
  (repeat' split) <;> omega
theorem s_fate_26 {e n : Nat} {im : Nat → Option Nat} {w u : Nat → Nat → Int} {k p po : Int} (hk : 0 ≤ k ∧ k ≤ 2) (ht : a_tr (w 26)) (hf : a_tr (w 27)) (h1 : 0 ≤ w 25 9 ∧ w 25 9 ≤ 100) (h2 : 0 ≤ p ∧ p ≤ 1000) (h3 : 0 ≤ po ∧ po ≤ 1000) : (z_F (e + 2)).1 k_Duel_fateOf [.ref 25, .int (Int32.ofInt k), .ref 26, .int (Int32.ofInt p), .ref 27, .int (Int32.ofInt po)] (n, z_q im, jM w, jL u) = some (Int32.ofInt (a_ft k (w 26) (w 27) (w 25 9) p po), jM w, jL u) := by
  have t4 := ht.2.2.2.2.1
  have t5 := ht.2.2.2.2.2
  have f5 := hf.2.2.2.2.2
  have k1 := a_fo_b (sp := w 25 9) (p := po) hf h1 h3.1
  have k2 := a_st_b (fa := w 27 5) (sp := w 25 9) (p := p) ht h1 h2.1
  refine q_Duel_fateOf_26 ?_
  have e1 : jM w 25 9 = Int32.ofInt (w 25 9) := rfl
  have e2 : jM w 27 5 = Int32.ofInt (w 27 5) := rfl
  simp only [e1, e2]
  rw [s_thrust_27 hf h1 h3, z_oI_s]
  simp only [e1, e2]
  rw [s_hold_26 ht h1 h2 f5, z_oI_s]
  simp (disch := omega) only [jM, ji_eq0, ji_eq, ji_le, z_fI]
  refine z_lf ?_
  unfold a_ft
  (repeat' split) <;> omega
theorem s_fate_27 {e n : Nat} {im : Nat → Option Nat} {w u : Nat → Nat → Int} {k p po : Int} (hk : 0 ≤ k ∧ k ≤ 2) (ht : a_tr (w 27)) (hf : a_tr (w 26)) (h1 : 0 ≤ w 25 9 ∧ w 25 9 ≤ 100) (h2 : 0 ≤ p ∧ p ≤ 1000) (h3 : 0 ≤ po ∧ po ≤ 1000) : (z_F (e + 2)).1 k_Duel_fateOf [.ref 25, .int (Int32.ofInt k), .ref 27, .int (Int32.ofInt p), .ref 26, .int (Int32.ofInt po)] (n, z_q im, jM w, jL u) = some (Int32.ofInt (a_ft k (w 27) (w 26) (w 25 9) p po), jM w, jL u) := by
  have t4 := ht.2.2.2.2.1
  have t5 := ht.2.2.2.2.2
  have f5 := hf.2.2.2.2.2
  have k1 := a_fo_b (sp := w 25 9) (p := po) hf h1 h3.1
  have k2 := a_st_b (fa := w 26 5) (sp := w 25 9) (p := p) ht h1 h2.1
  refine q_Duel_fateOf_27 ?_
  have e1 : jM w 25 9 = Int32.ofInt (w 25 9) := rfl
  have e2 : jM w 26 5 = Int32.ofInt (w 26 5) := rfl
  simp only [e1, e2]
  rw [s_thrust_26 hf h1 h3, z_oI_s]
  simp only [e1, e2]
  rw [s_hold_27 ht h1 h2 f5, z_oI_s]
  simp (disch := omega) only [jM, ji_eq0, ji_eq, ji_le, z_fI]
  refine z_lf ?_
  unfold a_ft
  (repeat' split) <;> omega
theorem s_fateOne {e n : Nat} {im : Nat → Option Nat} {w u : Nat → Nat → Int} {k p po : Int} (hk : 0 ≤ k ∧ k ≤ 2) (ht : a_tr (w 26)) (hf : a_tr (w 27)) (h1 : 0 ≤ w 25 9 ∧ w 25 9 ≤ 100) (h2 : 0 ≤ p ∧ p ≤ 1000) (h3 : 0 ≤ po ∧ po ≤ 1000) : (z_F (e + 3)).1 k_Duel_fateOfOne [.ref 25, .int (Int32.ofInt k), .int (Int32.ofInt p), .int (Int32.ofInt po)] (n, z_q im, jM w, jL u) = some (Int32.ofInt (a_ft k (w 26) (w 27) (w 25 9) p po), jM w, jL u) := by
  refine q_Duel_fateOfOne ?_
  rw [s_fate_26 hk ht hf h1 h2 h3, z_oI_s]
theorem s_dres {e n : Nat} {im : Nat → Option Nat} {w u : Nat → Nat → Int} {k p po : Int} (hk : 0 ≤ k ∧ k ≤ 2) (ht : a_tr (w 26)) (hf : a_tr (w 27)) (h1 : 0 ≤ w 25 9 ∧ w 25 9 ≤ 100) (h2 : 0 ≤ p ∧ p ≤ 1000) (h3 : 0 ≤ po ∧ po ≤ 1000) : (z_F (e + 3)).1 k_Duel_resultOf [.ref 25, .int (Int32.ofInt k), .int (Int32.ofInt p), .int (Int32.ofInt po)] (n, z_q im, jM w, jL u) = some (Int32.ofInt (a_rs k (w 26) (w 27) (w 25 9) p po), jM w, jL u) := by
  have k1 := a_ft_b k (w 26) (w 27) (w 25 9) p po
  have k2 := a_ft_b k (w 27) (w 26) (w 25 9) po p
  refine q_Duel_resultOf ?_
  simp only [s_fate_26 hk ht hf h1 h2 h3, s_fate_27 hk hf ht h1 h3 h2, z_oI_s]
  simp (disch := omega) only [ji_eq0, ji_add, z_fI]
  refine z_lf ?_
  unfold a_rs
  (repeat' split) <;> omega
/-- now's counts, streams and the like, as told -/
def c_ok (w : Nat → Nat → Int) : Prop := (0 ≤ w 3 7 ∧ w 3 7 ≤ 4) ∧ (0 ≤ w 3 8 ∧ w 3 8 ≤ 10) ∧ (0 ≤ w 3 9 ∧ w 3 9 ≤ 4) ∧ (0 ≤ w 3 1 ∧ w 3 1 ≤ 9) ∧ (∀ b : Int, 0 ≤ b → b < w 3 7 → (2 ≤ w 5 (2 * b.toNat) ∧ w 5 (2 * b.toNat) ≤ 12) ∧ (0 ≤ w 5 (2 * b.toNat + 1) ∧ w 5 (2 * b.toNat + 1) ≤ 4)) ∧ ∀ a : Int, 0 ≤ a → a < w 3 8 → a_tr (fun j => w 7 (6 * a.toNat + j))
def c_so (w : Nat → Nat → Int) (a b bo ot : Int) : Prop := a ≠ b ∧ (0 ≤ a ∧ a < w 3 8) ∧ (0 ≤ b ∧ b < w 3 8) ∧ (0 ≤ bo ∧ bo < w 3 7) ∧ (0 ≤ ot ∧ ot < w 3 7)
theorem s_faces_y {e n : Nat} {im : Nat → Option Nat} {w u : Nat → Nat → Int} {a b bo ot : Int} (hw : c_ok w) (h : c_so w a b bo ot) : ∃ w', (z_F (e + 5)).1 k_LongBoats_faces [.ref 0, .int (Int32.ofInt a), .int (Int32.ofInt b), .int (Int32.ofInt bo), .int (Int32.ofInt ot)] (n, z_q im, jM w, jL u) = some (Int32.ofInt 1, jM w', jL u) ∧ c_D w w' a b bo ot := by
  obtain ⟨n1, n2, n3, n4, n5, n6⟩ := hw
  obtain ⟨g1, g2, g3, g4, g5⟩ := h
  refine ⟨_, ?_, c_D_of w a b bo ot⟩
  have b1 := (n5 bo g4.1 g4.2).1
  have o1 := (n5 ot g5.1 g5.2).1
  refine q_LongBoats_faces ?_
  have c1 : (0 ≤ a ∧ a < w 3 8) := g2
  have c2 : (0 ≤ b ∧ b < w 3 8) := g3
  have c3 : ((0 ≤ bo ∧ bo < w 3 7) ∧ (0 ≤ ot ∧ ot < w 3 7)) := ⟨g4, g5⟩
  simp (disch := omega) only [s_hasMan_3, s_hasBoats, z_oI_s, ji_b, ji_eq, if_neg g1, c1, c2, c3, and_self, not_true_eq_false, if_false]
  rw [s_place (by omega) (by omega) (by omega) (by omega) (by omega) (by omega) n4, z_oV_s, s_load_26 (by omega) (by omega), z_oV_s, s_load_27 (by omega) (by omega), z_oV_s]
theorem s_faces_n {e n : Nat} {im : Nat → Option Nat} {w u : Nat → Nat → Int} {a b bo ot : Int} (hw : c_ok w) (ha : jR a) (hb : jR b) (hbo : jR bo) (hot : jR ot) (h : ¬ c_so w a b bo ot) : (z_F (e + 5)).1 k_LongBoats_faces [.ref 0, .int (Int32.ofInt a), .int (Int32.ofInt b), .int (Int32.ofInt bo), .int (Int32.ofInt ot)] (n, z_q im, jM w, jL u) = some (Int32.ofInt 0, jM w, jL u) := by
  obtain ⟨n1, n2, n3, n4, n5, n6⟩ := hw
  unfold c_so at h
  refine q_LongBoats_faces ?_
  simp (disch := omega) only [s_hasMan_3, s_hasBoats, z_oI_s, ji_b, ji_eq]
  by_cases g1 : a = b
  · rw [if_pos g1]
  · rw [if_neg g1]
    by_cases g2 : ¬ (0 ≤ a ∧ a < w 3 8)
    · rw [if_pos g2]
    · rw [if_neg g2]
      by_cases g3 : ¬ (0 ≤ b ∧ b < w 3 8)
      · rw [if_pos g3]
      · rw [if_neg g3, if_pos (by omega)]
