/-! matches: what they mean; the class's run -/
abbrev zT : Type := Nat × Nat × (Nat → Int) × Int × Nat × (Nat → Int)
def M_B (v : Nat → Int) (dr bo ot : Int) (F S : Nat → Int) (T : zT) : Int × Nat × Int := B_o v dr T.2.2.2.1 (F T.1) (S T.2.1) bo ot (T.2.2.1 (F T.1).toNat) (T.2.2.1 (S T.2.1).toNat)
def M_s (v : Nat → Int) (dr bo ot : Int) (F S : Nat → Int) (T : zT) : zT := (if (M_B v dr bo ot F S T).1 = 2 then T.1 else T.1 + 1, if (M_B v dr bo ot F S T).1 = 1 then T.2.1 else T.2.1 + 1, a_up (a_up T.2.2.1 (F T.1).toNat (T.2.2.1 (F T.1).toNat + ((M_B v dr bo ot F S T).2.1 : Int))) (S T.2.1).toNat (T.2.2.1 (S T.2.1).toNat + ((M_B v dr bo ot F S T).2.1 : Int)), a_X dr T.2.2.2.1 (M_B v dr bo ot F S T).2.1, T.2.2.2.2.1 + 1, fun j => if j = 4 * T.2.2.2.2.1 + 3 then ((M_B v dr bo ot F S T).2.1 : Int) else if j = 4 * T.2.2.2.2.1 + 2 then (M_B v dr bo ot F S T).1 else if j = 4 * T.2.2.2.2.1 + 1 then S T.2.1 else if j = 4 * T.2.2.2.2.1 then F T.1 else T.2.2.2.2.2 j)
def M_f (v : Nat → Int) (dr bo ot : Int) (F S : Nat → Int) (n1 n2 : Nat) : Nat → zT → zT
  | 0, T => T
  | m + 1, T => if T.1 < n1 ∧ T.2.1 < n2 then M_f v dr bo ot F S n1 n2 m (M_s v dr bo ot F S T) else T
def M_0 (x : Int) : zT := (0, 0, fun _ => 0, x, 0, fun _ => 0)
/-- the rows: MEN of both TEAMS, unlike -/
def R_ok (v : Nat → Int) (F S : Nat → Int) (n1 n2 : Nat) : Prop := (n1 ≤ 5 ∧ n2 ≤ 5) ∧ (∀ i, i < n1 → 0 ≤ F i ∧ F i < v 7) ∧ (∀ i, i < n2 → 0 ≤ S i ∧ S i < v 7) ∧ ∀ i k, i < n1 → k < n2 → F i ≠ S k
def T_ok (dr : Int) (n1 n2 : Nat) (T : zT) : Prop := T.1 ≤ n1 ∧ T.2.1 ≤ n2 ∧ (∀ j, j < 10 → 0 ≤ T.2.2.1 j ∧ T.2.2.1 j ≤ 7 * (T.2.2.2.2.1 : Int)) ∧ T.2.2.2.2.1 ≤ T.1 + T.2.1 ∧ (dr ≠ 0 → 0 ≤ T.2.2.2.1 ∧ T.2.2.2.1 < 2147483648)
theorem T_ok_0 {dr x : Int} {n1 n2 : Nat} (hx : dr ≠ 0 → 0 ≤ x ∧ x < 2147483648) : T_ok dr n1 n2 (M_0 x) := ⟨Nat.zero_le _, Nat.zero_le _, fun j _ => ⟨Int.le_refl _, Int.le_refl _⟩, Nat.le_refl _, hx⟩
theorem T_ok_s {v : Nat → Int} {dr bo ot : Int} {F S : Nat → Int} {n1 n2 : Nat} {T : zT} (hw : a_wf v) (hR : R_ok v F S n1 n2) (h : T_ok dr n1 n2 T) (h1 : T.1 < n1) (h2 : T.2.1 < n2) : T_ok dr n1 n2 (M_s v dr bo ot F S T) := by
  obtain ⟨g1, g2, g3, g4, g5⟩ := h
  have hb := B_o_b hw dr T.2.2.2.1 (F T.1) (S T.2.1) bo ot (T.2.2.1 (F T.1).toNat) (T.2.2.1 (S T.2.1).toNat)
  change (0 ≤ (M_B v dr bo ot F S T).1 ∧ (M_B v dr bo ot F S T).1 ≤ 3) ∧ (M_B v dr bo ot F S T).2.1 ≤ 7 ∧ _ at hb
  have f7 := hw.2.2.2.2.2.2.2.1
  have r1 := hR.2.1 T.1 h1
  have r2 := hR.2.2.1 T.2.1 h2
  have a1 := g3 (F T.1).toNat (by omega)
  have a2 := g3 (S T.2.1).toNat (by omega)
  refine ⟨?_, ?_, fun j hj => ?_, ?_, fun hd => a_X_b g5 _ hd⟩
  · show (if (M_B v dr bo ot F S T).1 = 2 then T.1 else T.1 + 1) ≤ n1
    split <;> omega
  · show (if (M_B v dr bo ot F S T).1 = 1 then T.2.1 else T.2.1 + 1) ≤ n2
    split <;> omega
  · have g := g3 j hj
    show 0 ≤ a_up _ _ _ j ∧ a_up _ _ _ j ≤ 7 * ((T.2.2.2.2.1 + 1 : Nat) : Int)
    unfold a_up
    (repeat' split) <;> omega
  · show T.2.2.2.2.1 + 1 ≤ (if (M_B v dr bo ot F S T).1 = 2 then T.1 else T.1 + 1) + (if (M_B v dr bo ot F S T).1 = 1 then T.2.1 else T.2.1 + 1)
    (repeat' split) <;> omega
theorem M_f_ok {v : Nat → Int} {dr bo ot : Int} {F S : Nat → Int} {n1 n2 : Nat} (hw : a_wf v) (hR : R_ok v F S n1 n2) : ∀ (m : Nat) {T : zT}, T_ok dr n1 n2 T → T_ok dr n1 n2 (M_f v dr bo ot F S n1 n2 m T)
  | 0, _, h => h
  | m + 1, T, h => by
    simp only [M_f]
    split
    · rename_i hc
      exact M_f_ok hw hR m (T_ok_s hw hR h hc.1 hc.2)
    · exact h
theorem M_f_end {v : Nat → Int} {dr bo ot : Int} {F S : Nat → Int} {n1 n2 : Nat} : ∀ (m : Nat) {T : zT}, n1 + n2 ≤ T.1 + T.2.1 + m → ¬ ((M_f v dr bo ot F S n1 n2 m T).1 < n1 ∧ (M_f v dr bo ot F S n1 n2 m T).2.1 < n2)
  | 0, T, h => by simp only [M_f]; omega
  | m + 1, T, h => by
    simp only [M_f]
    split
    · refine M_f_end m ?_
      show n1 + n2 ≤ (if (M_B v dr bo ot F S T).1 = 2 then T.1 else T.1 + 1) + (if (M_B v dr bo ot F S T).1 = 1 then T.2.1 else T.2.1 + 1) + m
      (repeat' split) <;> omega
    · assumption
/-- without draws the number drawn from matters not -/
theorem M_s_x {v : Nat → Int} {bo ot : Int} {F S : Nat → Int} {T : zT} (x : Int) : M_s v 0 bo ot F S (T.1, T.2.1, T.2.2.1, x, T.2.2.2.2) = ((M_s v 0 bo ot F S T).1, (M_s v 0 bo ot F S T).2.1, (M_s v 0 bo ot F S T).2.2.1, x, (M_s v 0 bo ot F S T).2.2.2.2) := by
  have hB : M_B v 0 bo ot F S (T.1, T.2.1, T.2.2.1, x, T.2.2.2.2) = M_B v 0 bo ot F S T := by
    unfold M_B
    rw [B_o_x, B_o_x v T.2.2.2.1]
  unfold M_s
  rw [hB]
  simp only [a_X_0]
theorem M_f_x {v : Nat → Int} {bo ot : Int} {F S : Nat → Int} {n1 n2 : Nat} (x : Int) : ∀ (m : Nat) (T : zT), M_f v 0 bo ot F S n1 n2 m (T.1, T.2.1, T.2.2.1, x, T.2.2.2.2) = ((M_f v 0 bo ot F S n1 n2 m T).1, (M_f v 0 bo ot F S n1 n2 m T).2.1, (M_f v 0 bo ot F S n1 n2 m T).2.2.1, x, (M_f v 0 bo ot F S n1 n2 m T).2.2.2.2)
  | 0, T => rfl
  | m + 1, T => by
    simp only [M_f]
    by_cases h : T.1 < n1 ∧ T.2.1 < n2
    · rw [if_pos h, if_pos h, M_s_x x]
      exact M_f_x x m _
    · rw [if_neg h, if_neg h]
/-- the class's contest laid out -/
def C_m (v : Nat → Int) (dr bo ot : Int) (F S : Nat → Int) (n1 n2 : Nat) (w : Nat → Nat → Int) : Prop := c_v w v ∧ (w 25 9 = a_sp v bo ot ∧ w 25 5 = v (10 + 2 * bo.toNat + 1) ∧ w 25 6 = v (10 + 2 * ot.toNat + 1) ∧ w 25 7 = v 3 ∧ w 25 8 = v 4 ∧ w 25 10 = v 1 ∧ w 25 11 = v 2 ∧ w 25 4 = dr) ∧ w 31 5 = (n1 : Int) ∧ w 31 6 = (n2 : Int) ∧ (∀ i, i < n1 → w 33 i = F i) ∧ ∀ i, i < n2 → w 35 i = S i
theorem s_fight {e n : Nat} {im : Nat → Option Nat} {w u : Nat → Nat → Int} {v : Nat → Int} {dr bo ot a b p p2 : Int} (hw : a_wf v) (hv : c_v w v) (hk : w 25 9 = a_sp v bo ot ∧ w 25 5 = v (10 + 2 * bo.toNat + 1) ∧ w 25 6 = v (10 + 2 * ot.toNat + 1) ∧ w 25 7 = v 3 ∧ w 25 8 = v 4 ∧ w 25 10 = v 1 ∧ w 25 11 = v 2 ∧ w 25 4 = dr) (hdr : dr = 0 ∨ dr = 1) (s1 : 0 ≤ a ∧ a < v 7) (s2 : 0 ≤ b ∧ b < v 7) (s4 : 0 ≤ bo ∧ bo < v 6) (s5 : 0 ≤ ot ∧ ot < v 6) (hp : 0 ≤ p ∧ p ≤ 900) (hq : 0 ≤ p2 ∧ p2 ≤ 900) (hx : dr ≠ 0 → 0 ≤ u 30 0 ∧ u 30 0 < 2147483648) : (z_F (e + 5)).2.2.1 k_Contest_fight [.ref 31, .int (Int32.ofInt a), .int (Int32.ofInt p), .int (Int32.ofInt b), .int (Int32.ofInt p2)] (n, z_q im, jM w, jL u) = some (jM (MB (c_ld (c_ld w 26 a) 27 b) (B_o v dr (u 30 0) a b bo ot p p2).1 (B_o v dr (u 30 0) a b bo ot p p2).2.1 (B_o v dr (u 30 0) a b bo ot p p2).2.2), jL (z_u u 30 0 (a_X dr (u 30 0) (B_o v dr (u 30 0) a b bo ot p p2).2.1))) := by
  obtain ⟨f0, f1, f2, f3, f4, f5, f6, f7, f8, f9, f10, f11, f12⟩ := id hw
  obtain ⟨k9, k5, k6, k7, k8, k10, k11, k4⟩ := hk
  have b1 := f10 bo s4.1 s4.2
  have b2 := f10 ot s5.1 s5.2
  have spb := a_sp_b b1 b2 f0
  have e25 : c_ld (c_ld w 26 a) 27 b 25 = w 25 := by rw [c_ld_ne (by decide), c_ld_ne (by decide)]
  have d1 : ∀ j, j < 6 → c_ld (c_ld w 26 a) 27 b 26 j = a_T v a j := fun j hj => by
    rw [c_ld_ne (by decide), c_ld_at hj]
    exact c_T hv s1.1 (by omega) j hj
  have d2 : ∀ j, j < 6 → c_ld (c_ld w 26 a) 27 b 27 j = a_T v b j := fun j hj => by
    rw [c_ld_at hj, c_ld_ne (by decide)]
    exact c_T hv s2.1 (by omega) j hj
  have hS := D_bo (w' := c_ld (c_ld w 26 a) 27 b) (v := v) (a := a) (b := b) (bo := bo) (ot := ot) d1 d2 (by rw [e25]; exact k9) (by rw [e25]; exact k5) (by rw [e25]; exact k6) (by rw [e25]; exact k7) (by rw [e25]; exact k8) (by rw [e25]; exact k10) (by rw [e25]; exact k11) dr (u 30 0) p p2
  refine q_Contest_fight ?_
  rw [s_load_26 (by omega) (by omega), z_oV_s, s_load_27 (by omega) (by omega), z_oV_s, s_runBout (a_tr_cg d1 (f11 a s1.1 s1.2)) (a_tr_cg d2 (f11 b s2.1 s2.2)) (by rw [e25, k9]; omega) (by rw [e25]; exact k4) hdr (by rw [e25, k5]; exact b1.2) (by rw [e25, k6]; exact b2.2) (by rw [e25, k7]; exact f3) (by rw [e25, k8]; exact f4) (by rw [e25, k10]; exact f1) (by rw [e25, k11]; exact f2) hp hq hx hS, z_oV_s]
def w_nt (w : Nat → Nat → Int) (a b : Int) (c : Nat) : Nat → Nat → Int := z_u (z_u (z_u (z_u (z_u (z_u (z_u w 39 a.toNat (w 39 a.toNat + w 25 13)) 39 b.toNat (z_u w 39 a.toNat (w 39 a.toNat + w 25 13) 39 b.toNat + w 25 13)) 37 (4 * c) a) 37 (4 * c + 1) b) 37 (4 * c + 2) (w 25 12)) 37 (4 * c + 3) (w 25 13)) 31 11 ((c : Int) + 1)
theorem s_note {e n : Nat} {im : Nat → Option Nat} {w u : Nat → Nat → Int} {a b : Int} {c : Nat} (ha : 0 ≤ a ∧ a ≤ 9) (hb : 0 ≤ b ∧ b ≤ 9) (hc : w 31 11 = (c : Int)) (hc9 : c ≤ 9) : (z_F (e + 2)).2.2.1 k_Contest_note [.ref 31, .int (Int32.ofInt a), .int (Int32.ofInt b)] (n, z_q im, jM w, jL u) = some (jM (w_nt w a b c), jL u) := by
  refine q_Contest_note ?_
  rw [s_at_38 (by omega), z_oI_s, if_pos (by omega)]
  simp only [jM_at, ji_add]
  rw [s_set_38 (by omega) (by omega), z_oV_s, s_at_38 (by omega), z_oI_s, if_pos (by omega)]
  simp only [jM_at, ji_add]
  rw [s_set_38 (by omega) (by omega), z_oV_s]
  have e31 : ∀ (w1 : Nat → Nat → Int) (j : Nat) (x : Int), z_u w1 39 j x 31 11 = w1 31 11 := fun _ _ _ => rfl
  have e32 : ∀ (w1 : Nat → Nat → Int) (j : Nat) (x : Int), z_u w1 37 j x 31 11 = w1 31 11 := fun _ _ _ => rfl
  have e33 : ∀ (w1 : Nat → Nat → Int) (j : Nat) (x : Int), z_u w1 39 j x 25 = w1 25 := fun _ _ _ => rfl
  have e34 : ∀ (w1 : Nat → Nat → Int) (j : Nat) (x : Int), z_u w1 37 j x 25 = w1 25 := fun _ _ _ => rfl
  simp only [jM_at, e31, hc, ji_mul]
  rw [s_set_36 (by omega) (by omega), z_oV_s]
  simp only [jM_at, e31, e32, hc, ji_mul, ji_add]
  rw [s_set_36 (by omega) (by omega), z_oV_s]
  simp only [jM_at, e31, e32, e33, e34, hc, ji_mul, ji_add]
  rw [s_set_36 (by omega) (by omega), z_oV_s]
  simp only [jM_at, e31, e32, e33, e34, hc, ji_mul, ji_add]
  rw [s_set_36 (by omega) (by omega), z_oV_s]
  simp only [jM_at, e31, e32, e33, e34, hc, ji_add, jM_u]
  rw [show ((c : Int) * 4).toNat = 4 * c by omega, show ((c : Int) * 4 + 1).toNat = 4 * c + 1 by omega, show ((c : Int) * 4 + 2).toNat = 4 * c + 2 by omega, show ((c : Int) * 4 + 3).toNat = 4 * c + 3 by omega]
  rfl
theorem w_nt_ne {w : Nat → Nat → Int} {a b : Int} {c d : Nat} (h1 : d ≠ 31) (h2 : d ≠ 37) (h3 : d ≠ 39) : w_nt w a b c d = w d := by
  unfold w_nt
  rw [z_u_ne h1, z_u_ne h2, z_u_ne h2, z_u_ne h2, z_u_ne h2, z_u_ne h3, z_u_ne h3]
theorem w_nt_31 {w : Nat → Nat → Int} {a b : Int} {c j : Nat} : w_nt w a b c 31 j = if j = 11 then (c : Int) + 1 else w 31 j := by
  unfold w_nt
  rw [z_u_at, z_u_ne (by decide), z_u_ne (by decide), z_u_ne (by decide), z_u_ne (by decide), z_u_ne (by decide), z_u_ne (by decide)]
theorem w_nt_37 {w : Nat → Nat → Int} {a b : Int} {c j : Nat} : w_nt w a b c 37 j = if j = 4 * c + 3 then w 25 13 else if j = 4 * c + 2 then w 25 12 else if j = 4 * c + 1 then b else if j = 4 * c then a else w 37 j := by
  unfold w_nt
  rw [z_u_ne (by decide), z_u_at, z_u_at, z_u_at, z_u_at, z_u_ne (by decide), z_u_ne (by decide)]
theorem w_nt_39 {w : Nat → Nat → Int} {a b : Int} {c j : Nat} (hab : a.toNat ≠ b.toNat) : w_nt w a b c 39 j = if j = b.toNat then w 39 b.toNat + w 25 13 else if j = a.toNat then w 39 a.toNat + w 25 13 else w 39 j := by
  unfold w_nt
  rw [z_u_ne (by decide), z_u_ne (by decide), z_u_ne (by decide), z_u_ne (by decide), z_u_ne (by decide), z_u_at]
  by_cases h : j = b.toNat
  · rw [if_pos h, if_pos h, z_u_at, if_neg (fun q => hab q.symm)]
  · rw [if_neg h, if_neg h, z_u_at]
/-- the class's memory in a match -/
def I_r (w : Nat → Nat → Int) (T : zT) (wi : Nat → Nat → Int) : Prop := (∀ c, c ∉ [25, 26, 27, 31, 37, 39] → wi c = w c) ∧ (∀ j, j ≠ 12 → j ≠ 13 → j ≠ 14 → wi 25 j = w 25 j) ∧ (∀ j, j ≠ 7 → j ≠ 8 → j ≠ 11 → wi 31 j = w 31 j) ∧ wi 31 11 = (T.2.2.2.2.1 : Int) ∧ (∀ j, j < 10 → wi 39 j = T.2.2.1 j) ∧ ∀ j, j < 4 * T.2.2.2.2.1 → wi 37 j = T.2.2.2.2.2 j
theorem I_r_C {v : Nat → Int} {dr bo ot : Int} {F S : Nat → Int} {n1 n2 : Nat} {w wi : Nat → Nat → Int} {T : zT} (hC : C_m v dr bo ot F S n1 n2 w) (h : I_r w T wi) : C_m v dr bo ot F S n1 n2 wi := by
  obtain ⟨c1, ⟨k9, k5, k6, k7, k8, k10, k11, k4⟩, c3, c4, c5, c6⟩ := hC
  obtain ⟨i1, i2, i3, i4, i5, i6⟩ := h
  refine ⟨?_, ⟨?_, ?_, ?_, ?_, ?_, ?_, ?_, ?_⟩, ?_, ?_, fun i hi => ?_, fun i hi => ?_⟩
  · unfold c_v
    rw [i1 3 (by decide), i1 5 (by decide), i1 7 (by decide), i1 9 (by decide)]
    exact c1
  · rw [i2 9 (by decide) (by decide) (by decide)]; exact k9
  · rw [i2 5 (by decide) (by decide) (by decide)]; exact k5
  · rw [i2 6 (by decide) (by decide) (by decide)]; exact k6
  · rw [i2 7 (by decide) (by decide) (by decide)]; exact k7
  · rw [i2 8 (by decide) (by decide) (by decide)]; exact k8
  · rw [i2 10 (by decide) (by decide) (by decide)]; exact k10
  · rw [i2 11 (by decide) (by decide) (by decide)]; exact k11
  · rw [i2 4 (by decide) (by decide) (by decide)]; exact k4
  · rw [i3 5 (by decide) (by decide) (by decide)]; exact c3
  · rw [i3 6 (by decide) (by decide) (by decide)]; exact c4
  · rw [i1 33 (by decide)]; exact c5 i hi
  · rw [i1 35 (by decide)]; exact c6 i hi
theorem l_run {e n : Nat} {im : Nat → Option Nat} {w u : Nat → Nat → Int} {v : Nat → Int} {dr bo ot : Int} {F S : Nat → Int} {n1 n2 : Nat} (hw : a_wf v) (hC : C_m v dr bo ot F S n1 n2 w) (hR : R_ok v F S n1 n2) (hdr : dr = 0 ∨ dr = 1) (s4 : 0 ≤ bo ∧ bo < v 6) (s5 : 0 ≤ ot ∧ ot < v 6) : ∀ (m : Nat) (T : zT) (wi : Nat → Nat → Int) (q3 q4 : Option Value), T_ok dr n1 n2 T → n1 + n2 ≤ T.1 + T.2.1 + m → I_r w T wi → ∃ wf, z_Rn (z_F (e + 5)) cd_Contest_run 12 [some (.ref 31), some (.int (Int32.ofInt (T.1 : Int))), some (.int (Int32.ofInt (T.2.1 : Int))), q3, q4] (n, z_q im, jM wi, jL (z_u u 30 0 T.2.2.2.1)) (none, (n, z_q im, jM wf, jL (z_u u 30 0 (M_f v dr bo ot F S n1 n2 m T).2.2.2.1))) ∧ I_r w (M_f v dr bo ot F S n1 n2 m T) wf ∧ wf 31 7 = (n1 : Int) - ((M_f v dr bo ot F S n1 n2 m T).1 : Int) ∧ wf 31 8 = (n2 : Int) - ((M_f v dr bo ot F S n1 n2 m T).2.1 : Int) := by
  have hend : ∀ (T : zT) (wi : Nat → Nat → Int) (q3 q4 : Option Value), T_ok dr n1 n2 T → ¬ (T.1 < n1 ∧ T.2.1 < n2) → I_r w T wi → ∃ wf, z_Rn (z_F (e + 5)) cd_Contest_run 12 [some (.ref 31), some (.int (Int32.ofInt (T.1 : Int))), some (.int (Int32.ofInt (T.2.1 : Int))), q3, q4] (n, z_q im, jM wi, jL (z_u u 30 0 T.2.2.2.1)) (none, (n, z_q im, jM wf, jL (z_u u 30 0 T.2.2.2.1))) ∧ I_r w T wf ∧ wf 31 7 = (n1 : Int) - (T.1 : Int) ∧ wf 31 8 = (n2 : Int) - (T.2.1 : Int) := by
    intro T wi q3 q4 hT hn hI
    have hCi := I_r_C hC hI
    obtain ⟨c1, c2, c3, c4, c5, c6⟩ := hCi
    obtain ⟨i1, i2, i3, i4, i5, i6⟩ := id hI
    obtain ⟨g1, g2, g3, g4, g5⟩ := hT
    have hn5 := hR.1
    refine ⟨z_u (z_u wi 31 7 ((n1 : Int) - (T.1 : Int))) 31 8 ((n2 : Int) - (T.2.1 : Int)), z_ret ((e_Contest_run_12 ..).trans ?_), ⟨fun c hc => ?_, fun j j1 j2 j3 => ?_, fun j j1 j2 j3 => ?_, ?_, fun j hj => ?_, fun j hj => ?_⟩, ?_, ?_⟩
    · simp (disch := omega) only [jM_at, c3, c4, ji_le, ji_sub, jM_u]
      by_cases h1 : (n1 : Int) ≤ (T.1 : Int)
      · rw [if_pos h1]
      · rw [if_neg h1, if_pos (by omega)]
    · rw [z_u_ne (fun q => by subst q; simp at hc), z_u_ne (fun q => by subst q; simp at hc)]; exact i1 c hc
    · rw [z_u_ne (by decide), z_u_ne (by decide)]; exact i2 j j1 j2 j3
    · rw [z_u_at, if_neg j2, z_u_at, if_neg j1]; exact i3 j j1 j2 j3
    · rw [z_u_at, if_neg (by decide), z_u_at, if_neg (by decide)]; exact i4
    · rw [z_u_ne (by decide), z_u_ne (by decide)]; exact i5 j hj
    · rw [z_u_ne (by decide), z_u_ne (by decide)]; exact i6 j hj
    · rw [z_u_at, if_neg (by decide), z_u_at, if_pos rfl]
    · rw [z_u_at, if_pos rfl]
  intro m
  induction m with
  | zero =>
    intro T wi q3 q4 hT hm hI
    exact hend T wi q3 q4 hT (by omega) hI
  | succ m ih =>
    intro T wi q3 q4 hT hm hI
    simp only [M_f]
    by_cases hc : T.1 < n1 ∧ T.2.1 < n2
    · rw [if_pos hc]
      have hCi := I_r_C hC hI
      obtain ⟨c1, c2, c3, c4, c5, c6⟩ := hCi
      obtain ⟨i1, i2, i3, i4, i5, i6⟩ := id hI
      obtain ⟨g1, g2, g3, g4, g5⟩ := id hT
      have hn5 := hR.1
      have f7 := hw.2.2.2.2.2.2.2.1
      have r1 := hR.2.1 T.1 hc.1
      have r2 := hR.2.2.1 T.2.1 hc.2
      have r3 := hR.2.2.2 T.1 T.2.1 hc.1 hc.2
      have a1 := g3 (F T.1).toNat (by omega)
      have a2 := g3 (S T.2.1).toNat (by omega)
      have hfi := s_fight (e := e) (n := n) (im := im) (u := z_u u 30 0 T.2.2.2.1) (a := F T.1) (b := S T.2.1) (p := T.2.2.1 (F T.1).toNat) (p2 := T.2.2.1 (S T.2.1).toNat) hw c1 c2 hdr r1 r2 s4 s5 (by omega) (by omega) g5
      rw [zu_zu] at hfi
      have hBdef : B_o v dr (z_u u 30 0 T.2.2.2.1 30 0) (F T.1) (S T.2.1) bo ot (T.2.2.1 (F T.1).toNat) (T.2.2.1 (S T.2.1).toNat) = M_B v dr bo ot F S T := rfl
      rw [hBdef] at hfi
      have hxx : a_X dr (z_u u 30 0 T.2.2.2.1 30 0) (M_B v dr bo ot F S T).2.1 = (M_s v dr bo ot F S T).2.2.2.1 := rfl
      rw [hxx] at hfi
      have hb := B_o_b hw dr T.2.2.2.1 (F T.1) (S T.2.1) bo ot (T.2.2.1 (F T.1).toNat) (T.2.2.1 (S T.2.1).toNat)
      change (0 ≤ (M_B v dr bo ot F S T).1 ∧ (M_B v dr bo ot F S T).1 ≤ 3) ∧ (M_B v dr bo ot F S T).2.1 ≤ 7 ∧ _ at hb
      have e39 : MB (c_ld (c_ld wi 26 (F T.1)) 27 (S T.2.1)) (M_B v dr bo ot F S T).1 (M_B v dr bo ot F S T).2.1 (M_B v dr bo ot F S T).2.2 39 = wi 39 := by rw [MB_c39, c_ld_ne (by decide), c_ld_ne (by decide)]
      have e37 : MB (c_ld (c_ld wi 26 (F T.1)) 27 (S T.2.1)) (M_B v dr bo ot F S T).1 (M_B v dr bo ot F S T).2.1 (M_B v dr bo ot F S T).2.2 37 = wi 37 := by rw [MB_c37, c_ld_ne (by decide), c_ld_ne (by decide)]
      have e31 : MB (c_ld (c_ld wi 26 (F T.1)) 27 (S T.2.1)) (M_B v dr bo ot F S T).1 (M_B v dr bo ot F S T).2.1 (M_B v dr bo ot F S T).2.2 31 = wi 31 := by rw [MB_c31, c_ld_ne (by decide), c_ld_ne (by decide)]
      have e12 : MB (c_ld (c_ld wi 26 (F T.1)) 27 (S T.2.1)) (M_B v dr bo ot F S T).1 (M_B v dr bo ot F S T).2.1 (M_B v dr bo ot F S T).2.2 25 12 = (M_B v dr bo ot F S T).1 := rfl
      have e13 : MB (c_ld (c_ld wi 26 (F T.1)) 27 (S T.2.1)) (M_B v dr bo ot F S T).1 (M_B v dr bo ot F S T).2.1 (M_B v dr bo ot F S T).2.2 25 13 = ((M_B v dr bo ot F S T).2.1 : Int) := rfl
      have e25 : ∀ j, j ≠ 12 → j ≠ 13 → j ≠ 14 → MB (c_ld (c_ld wi 26 (F T.1)) 27 (S T.2.1)) (M_B v dr bo ot F S T).1 (M_B v dr bo ot F S T).2.1 (M_B v dr bo ot F S T).2.2 25 j = wi 25 j := fun j j1 j2 j3 => by
        simp only [MB, if_true, if_neg j1, if_neg j2, if_neg j3]
        rw [c_ld_ne (by decide), c_ld_ne (by decide)]
      have eoth : ∀ c, c ≠ 25 → c ≠ 26 → c ≠ 27 → MB (c_ld (c_ld wi 26 (F T.1)) 27 (S T.2.1)) (M_B v dr bo ot F S T).1 (M_B v dr bo ot F S T).2.1 (M_B v dr bo ot F S T).2.2 c = wi c := fun c q1 q2 q3 => by rw [MB_ne q1, c_ld_ne q3, c_ld_ne q2]
      generalize hw1 : MB (c_ld (c_ld wi 26 (F T.1)) 27 (S T.2.1)) (M_B v dr bo ot F S T).1 (M_B v dr bo ot F S T).2.1 (M_B v dr bo ot F S T).2.2 = w1 at hfi e39 e37 e31 e12 e13 e25 eoth
      have hI' : I_r w (M_s v dr bo ot F S T) (w_nt w1 (F T.1) (S T.2.1) T.2.2.2.2.1) := by
        refine ⟨fun c hc9 => ?_, fun j j1 j2 j3 => ?_, fun j j1 j2 j3 => ?_, ?_, fun j hj => ?_, fun j hj => ?_⟩
        · rw [w_nt_ne (fun q => by subst q; simp at hc9) (fun q => by subst q; simp at hc9) (fun q => by subst q; simp at hc9), eoth c (fun q => by subst q; simp at hc9) (fun q => by subst q; simp at hc9) (fun q => by subst q; simp at hc9)]
          exact i1 c hc9
        · rw [w_nt_ne (by decide) (by decide) (by decide), e25 j j1 j2 j3]; exact i2 j j1 j2 j3
        · rw [w_nt_31, if_neg j3, e31]; exact i3 j j1 j2 j3
        · rw [w_nt_31, if_pos rfl]; rfl
        · rw [w_nt_39 (by omega), e39, e13, i5 _ (by omega), i5 _ (by omega), i5 _ hj]
          rfl
        · rw [w_nt_37, e13, e12, e37]
          have hMs : (M_s v dr bo ot F S T).2.2.2.2.2 j = if j = 4 * T.2.2.2.2.1 + 3 then ((M_B v dr bo ot F S T).2.1 : Int) else if j = 4 * T.2.2.2.2.1 + 2 then (M_B v dr bo ot F S T).1 else if j = 4 * T.2.2.2.2.1 + 1 then S T.2.1 else if j = 4 * T.2.2.2.2.1 then F T.1 else T.2.2.2.2.2 j := rfl
          change j < 4 * (T.2.2.2.2.1 + 1) at hj
          rw [hMs]
          (repeat' split) <;> first | rfl | exact i6 j (by omega)
      obtain ⟨wf, k1, k2, k3, k4⟩ := ih (M_s v dr bo ot F S T) _ (some (.int (Int32.ofInt (F T.1)))) (some (.int (Int32.ofInt (S T.2.1)))) (T_ok_s hw hR hT hc.1 hc.2) (by
        show n1 + n2 ≤ (if (M_B v dr bo ot F S T).1 = 2 then T.1 else T.1 + 1) + (if (M_B v dr bo ot F S T).1 = 1 then T.2.1 else T.2.1 + 1) + m
        (repeat' split) <;> omega) hI'
      refine ⟨wf, z_go ((e_Contest_run_12 ..).trans ?_) k1, k2, k3, k4⟩
      have hMi : (M_s v dr bo ot F S T).1 = if (M_B v dr bo ot F S T).1 = 2 then T.1 else T.1 + 1 := rfl
      have hMk : (M_s v dr bo ot F S T).2.1 = if (M_B v dr bo ot F S T).1 = 1 then T.2.1 else T.2.1 + 1 := rfl
      have ent : w_nt w1 (F T.1) (S T.2.1) T.2.2.2.2.1 25 12 = (M_B v dr bo ot F S T).1 := by rw [w_nt_ne (by decide) (by decide) (by decide)]; exact e12
      simp (disch := omega) only [jM_at, c3, c4, i4, ji_le]
      rw [if_neg (by omega), if_neg (by omega), if_neg (by omega), s_at_32 (by omega), z_oI_s, if_pos (by omega), s_at_34 (by omega), z_oI_s, if_pos (by omega), show ((T.1 : Int)).toNat = T.1 by omega, show ((T.2.1 : Int)).toNat = T.2.1 by omega, c5 _ hc.1, c6 _ hc.2, s_at_38 (by omega), z_oI_s, if_pos (by omega), s_at_38 (by omega), z_oI_s, if_pos (by omega), i5 _ (by omega), i5 _ (by omega), hfi, z_oV_s, s_note (c := T.2.2.2.2.1) (by omega) (by omega) (by rw [e31]; exact i4) (by omega), z_oV_s]
      simp (disch := omega) only [jM_at, ent, ji_eq, ji_add]
      rw [hMi, hMk]
      by_cases h2 : (M_B v dr bo ot F S T).1 = 2
      · rw [if_pos h2, if_neg (by omega), if_pos h2, if_neg (c := (M_B v dr bo ot F S T).1 = 1) (by omega)]
        rfl
      · rw [if_neg h2, if_neg h2]
        by_cases h3 : (M_B v dr bo ot F S T).1 = 1
        · rw [if_pos h3, if_pos h3]
          rfl
        · rw [if_neg h3, if_neg h3]
          rfl
    · rw [if_neg hc]
      exact hend T wi q3 q4 hT hc hI
