/-! slips: comes, odds, part, steer -/
theorem a_sum_b {f : Int → Int} {B : Int} (hB : 0 ≤ B) (h : ∀ x, 0 ≤ f x ∧ f x ≤ B) : ∀ (m : Nat) (x : Int), 0 ≤ a_sum f x m ∧ a_sum f x m ≤ B * m
  | 0, _ => by simp [a_sum]
  | m + 1, x => by
    have h1 := h x
    have h2 := a_sum_b hB h m (x + 1)
    have h3 : B * ((m + 1 : Nat) : Int) = B * m + B := by rw [Int.natCast_add, Int.mul_add]; simp
    rw [h3]
    simp only [a_sum]
    omega
theorem a_sl_b {f : Int → Int → Int} {s1 s2 : Int} (h : ∀ x y, 0 ≤ f x y ∧ f x y ≤ 1) (h1 : 0 ≤ s1 ∧ s1 ≤ 4) (h2 : 0 ≤ s2 ∧ s2 ≤ 4) : 0 ≤ a_sl s1 s2 f ∧ a_sl s1 s2 f ≤ 81 := by
  have hin : ∀ x, 0 ≤ a_sum (fun y => f x y) (-s2) (2 * s2 + 1).toNat ∧ a_sum (fun y => f x y) (-s2) (2 * s2 + 1).toNat ≤ 9 := fun x => by
    have := a_sum_b (f := fun y => f x y) (B := 1) (by decide) (h x) (2 * s2 + 1).toNat (-s2)
    omega
  have ho := a_sum_b (B := 9) (by decide) hin (2 * s1 + 1).toNat (-s1)
  exact ⟨ho.1, Int.le_trans ho.2 (by omega)⟩
theorem a_cm_b {lo hi g s1 s2 k : Int} (h1 : 0 ≤ s1 ∧ s1 ≤ 4) (h2 : 0 ≤ s2 ∧ s2 ≤ 4) : 0 ≤ a_cm lo hi g s1 s2 k ∧ a_cm lo hi g s1 s2 k ≤ 81 := a_sl_b (fun x y => by split <;> omega) h1 h2
def a_pp (s1 s2 : Int) : Int := (2 * s1 + 1) * (2 * s2 + 1)
theorem a_mul_b {x y X Y : Int} (hx : 0 ≤ x ∧ x ≤ X) (hy : 0 ≤ y ∧ y ≤ Y) : 0 ≤ x * y ∧ x * y ≤ X * Y := ⟨Int.mul_nonneg hx.1 hy.1, Int.mul_le_mul hx.2 hy.2 hy.1 (by omega)⟩
theorem a_pp_b {s1 s2 : Int} (h1 : 0 ≤ s1 ∧ s1 ≤ 4) (h2 : 0 ≤ s2 ∧ s2 ≤ 4) : 1 ≤ a_pp s1 s2 ∧ a_pp s1 s2 ≤ 81 := by
  unfold a_pp
  have h3 := a_mul_b (x := 2 * s1 + 1) (y := 2 * s2 + 1) (X := 9) (Y := 9) (by omega) (by omega)
  have h4 : 1 * 1 ≤ (2 * s1 + 1) * (2 * s2 + 1) := Int.mul_le_mul (by omega) (by omega) (by decide) (by omega)
  omega
theorem a_lw_b {a b k : Int} (ha : 0 ≤ a ∧ a ≤ 1000) (hb : 0 < b ∧ b ≤ 1000) : 0 ≤ a_lw a b k ∧ a_lw a b k ≤ 1000 := by
  unfold a_lw
  have hp := a_gcd_pos ha.1 hb.1
  split
  · exact ⟨Int.ediv_nonneg ha.1 (by omega), Int.le_trans (Int.ediv_le_self _ ha.1) ha.2⟩
  · exact ⟨Int.ediv_nonneg (by omega) (by omega), Int.le_trans (Int.ediv_le_self _ (by omega)) hb.2⟩
/-- a duel laid out, its pairs of slips counted -/
def c_E (v : Nat → Int) (w : Nat → Nat → Int) (a b bo ot : Int) : Prop := a_D v w a b bo ot ∧ c_v w v ∧ ∀ k : Nat, k < 3 → w 29 k = a_cm (v 3) (v 4) (v 1) (v (10 + 2 * bo.toNat + 1)) (v (10 + 2 * ot.toNat + 1)) k
theorem x_cs {e n : Nat} {im : Nat → Option Nat} {w u : Nat → Nat → Int} {v : Nat → Int} {bo ot g : Int} (hw : a_wf v) (s4 : 0 ≤ bo ∧ bo < v 6) (s5 : 0 ≤ ot ∧ ot < v 6) (hg : -100 ≤ g ∧ g ≤ 100) (k5 : w 25 5 = (v (10 + 2 * bo.toNat + 1))) (k6 : w 25 6 = (v (10 + 2 * ot.toNat + 1))) (k7 : w 25 7 = v 3) (k8 : w 25 8 = v 4) : ∃ w', (z_F (e + 2)).2.2.1 k_Duel_countSlips [.ref 25, .int (Int32.ofInt g)] (n, z_q im, jM w, jL u) = some (jM w', jL u) ∧ (∀ c, c ≠ 29 → w' c = w c) ∧ ∀ k : Nat, k < 3 → w' 29 k = a_cm (v 3) (v 4) g (v (10 + 2 * bo.toNat + 1)) (v (10 + 2 * ot.toNat + 1)) k := by
  obtain ⟨f0, f1, f2, f3, f4, f5, f6, f7, f8, f9, f10, f11, f12⟩ := id hw
  have b1 := (f10 bo s4.1 s4.2).2
  have b2 := (f10 ot s5.1 s5.2).2
  obtain ⟨w2, q1, q2, q3⟩ := s_countSlips (e := e) (n := n) (im := im) (w := w) (u := u) (g := g) (by omega) (by omega) hg (by omega) (by omega)
  refine ⟨w2, q1, q2, fun k hk => ?_⟩
  rw [q3 k hk, k5, k6, k7, k8]
  rfl
theorem x_slips {e n : Nat} {im : Nat → Option Nat} {w u : Nat → Nat → Int} {v : Nat → Int} {a b bo ot : Int} (hv : c_v w v) (hw : a_wf v) (h : a_so v a b bo ot) : ∃ w1 w2, (z_F (e + 5)).1 k_LongBoats_faces [.ref 0, .int (Int32.ofInt a), .int (Int32.ofInt b), .int (Int32.ofInt bo), .int (Int32.ofInt ot)] (n, z_q im, jM w, jL u) = some (Int32.ofInt 1, jM w1, jL u) ∧ (z_F (e + 5)).2.2.1 k_Duel_countSlips [.ref 25, .int (Int32.ofInt (w1 25 10))] (n, z_q im, jM w1, jL u) = some (jM w2, jL u) ∧ c_E v w2 a b bo ot ∧ c_fr w w2 ∧ a_tr (w2 26) ∧ a_tr (w2 27) ∧ (0 ≤ w2 25 9 ∧ w2 25 9 ≤ 100) := by
  obtain ⟨w1, f1, f2, f3, f4, f5, f6, f7⟩ := x_faces_y (e := e) (n := n) (im := im) (u := u) hv hw h
  obtain ⟨d1, d2, d3, d4, d5, d6, d7, d8, d9, d10⟩ := id f2
  obtain ⟨s1, s2, s3, s4, s5⟩ := id h
  obtain ⟨-, m1, -⟩ := id hw
  obtain ⟨w2, q1, q2, q3⟩ := x_cs (e := e + 3) (n := n) (im := im) (u := u) (g := w1 25 10) hw s4 s5 (by omega) d4 d5 d6 d7
  have hv2 : c_v w2 v := by
    unfold c_v
    rw [q2 3 (by decide), q2 5 (by decide), q2 7 (by decide), q2 9 (by decide)]
    exact f3
  refine ⟨w1, w2, f1, q1, ⟨?_, hv2, fun k hk => by rw [q3 k hk, d8]⟩, fun c hc => ?_, ?_, ?_, ?_⟩
  · unfold a_D
    rw [q2 25 (by decide), q2 26 (by decide), q2 27 (by decide)]
    exact f2
  · rw [q2 c (fun q => by subst q; simp at hc)]
    exact f4 c hc
  · rw [q2 26 (by decide)]; exact f5
  · rw [q2 27 (by decide)]; exact f6
  · rw [q2 25 (by decide)]; exact f7
theorem c_po_eq {w : Nat → Nat → Int} {v : Nat → Int} {a b bo ot : Int} (h : c_E v w a b bo ot) (r p : Int) : c_po w r p = a_rn v a b bo ot p r := by
  obtain ⟨⟨d1, d2, d3, d4, d5, d6, d7, d8, d9, d10⟩, -, h3⟩ := h
  rw [a_rn_eq]
  unfold c_po
  rw [h3 0 (by decide), h3 1 (by decide), h3 2 (by decide), a_rs_cg d1 d2, a_rs_cg d1 d2, a_rs_cg d1 d2, d3]
  rfl
/-- gain out of kinds counted -/
def a_gk (c0 c1 c2 : Int) (t f : Nat → Int) (sp : Int) : Int := a_gb (a_rs 0 t f sp 0 0) * c0 + a_gb (a_rs 1 t f sp 0 0) * c1 + a_gb (a_rs 2 t f sp 0 0) * c2
theorem a_gk_cg {t t' f f' : Nat → Int} (h : ∀ j, j < 6 → t j = t' j) (h2 : ∀ j, j < 6 → f j = f' j) (c0 c1 c2 sp : Int) : a_gk c0 c1 c2 t f sp = a_gk c0 c1 c2 t' f' sp := by
  unfold a_gk
  rw [a_rs_cg h h2, a_rs_cg h h2, a_rs_cg h h2]
def a_gn (v : Nat → Int) (t f : Nat → Int) (sp bo ot : Int) : Int := a_gk (a_cm (v 3) (v 4) (v 1) (v (10 + 2 * bo.toNat + 1)) (v (10 + 2 * ot.toNat + 1)) 0) (a_cm (v 3) (v 4) (v 1) (v (10 + 2 * bo.toNat + 1)) (v (10 + 2 * ot.toNat + 1)) 1) (a_cm (v 3) (v 4) (v 1) (v (10 + 2 * bo.toNat + 1)) (v (10 + 2 * ot.toNat + 1)) 2) t f sp
theorem a_gb_b (r : Int) : -1 ≤ a_gb r ∧ a_gb r ≤ 1 := by
  unfold a_gb
  (repeat' split) <;> omega
theorem a_gbm {r c : Int} (hc : 0 ≤ c ∧ c ≤ 81) : -81 ≤ a_gb r * c ∧ a_gb r * c ≤ 81 := by
  unfold a_gb
  (repeat' split) <;> omega
theorem a_gk_b {c0 c1 c2 : Int} {t f : Nat → Int} {sp : Int} (h0 : 0 ≤ c0 ∧ c0 ≤ 81) (h1 : 0 ≤ c1 ∧ c1 ≤ 81) (h2 : 0 ≤ c2 ∧ c2 ≤ 81) : -243 ≤ a_gk c0 c1 c2 t f sp ∧ a_gk c0 c1 c2 t f sp ≤ 243 := by
  unfold a_gk
  have q0 := a_gbm (r := a_rs 0 t f sp 0 0) h0
  have q1 := a_gbm (r := a_rs 1 t f sp 0 0) h1
  have q2 := a_gbm (r := a_rs 2 t f sp 0 0) h2
  omega
theorem a_gn_b {v : Nat → Int} {t f : Nat → Int} {sp bo ot : Int} (hb : a_bo v bo) (ho : a_bo v ot) : -243 ≤ a_gn v t f sp bo ot ∧ a_gn v t f sp bo ot ≤ 243 := a_gk_b (a_cm_b hb.2 ho.2) (a_cm_b hb.2 ho.2) (a_cm_b hb.2 ho.2)
theorem rn_gn (v : Nat → Int) (a b bo ot : Int) : a_rn v a b bo ot 0 2 - a_rn v a b bo ot 0 1 = a_gn v (a_T v a) (a_T v b) (a_sp v bo ot) bo ot := by
  rw [a_rn_eq, a_rn_eq]
  unfold a_gn a_gk
  have hh : ∀ r c : Int, (if r = 2 then c else 0) - (if r = 1 then c else 0) = a_gb r * c := by
    intro r c
    unfold a_gb
    (repeat' split) <;> omega
  rw [← hh, ← hh, ← hh]
  omega
theorem c_ga_eq {w : Nat → Nat → Int} {v : Nat → Int} {a b bo ot : Int} (h : ∀ k : Nat, k < 3 → w 29 k = a_cm (v 3) (v 4) (v 1) (v (10 + 2 * bo.toNat + 1)) (v (10 + 2 * ot.toNat + 1)) k) : c_ga w = a_gn v (w 26) (w 27) (w 25 9) bo ot := by
  unfold c_ga a_gn a_gk
  rw [h 0 (by decide), h 1 (by decide), h 2 (by decide)]
  rfl
/-- comes -/
def V_comes (v : Nat → Int) (bo ot g k q : Int) : Int := if ((0 ≤ bo ∧ bo < v 6) ∧ (0 ≤ ot ∧ ot < v 6)) ∧ (0 ≤ g ∧ g ≤ 12) ∧ (0 ≤ k ∧ k ≤ 2) ∧ (0 ≤ q ∧ q ≤ 1) then a_lw (a_cm (v 3) (v 4) g (v (10 + 2 * bo.toNat + 1)) (v (10 + 2 * ot.toNat + 1)) k) (a_pp (v (10 + 2 * bo.toNat + 1)) (v (10 + 2 * ot.toNat + 1))) q else -2
theorem x_comes {e n : Nat} {im : Nat → Option Nat} {w u : Nat → Nat → Int} {v : Nat → Int} {bo ot g k q : Int} (hv : c_v w v) (hw : a_wf v) (hbo : jR bo) (hot : jR ot) (hg : jR g) (hk : jR k) (hq : jR q) : ∃ w', (z_F (e + 20)).1 k_LongBoats_comes [.ref 0, .int (Int32.ofInt bo), .int (Int32.ofInt ot), .int (Int32.ofInt g), .int (Int32.ofInt k), .int (Int32.ofInt q)] (n, z_q im, jM w, jL u) = some (Int32.ofInt (V_comes v bo ot g k q), jM w', jL u) ∧ c_fr w w' := by
  obtain ⟨g0, g1, g2, g3, g4, g5, g6, g7, g8, g9, h5, h7, h9⟩ := id hv
  obtain ⟨f0, f1, f2, f3, f4, f5, f6, f7, f8, f9, f10, f11, f12⟩ := id hw
  unfold V_comes
  by_cases h : ((0 ≤ bo ∧ bo < v 6) ∧ (0 ≤ ot ∧ ot < v 6)) ∧ (0 ≤ g ∧ g ≤ 12) ∧ (0 ≤ k ∧ k ≤ 2) ∧ (0 ≤ q ∧ q ≤ 1)
  · obtain ⟨d1, d2, d3, d4, d5, d6, d7, d8, d9⟩ := pl_D hv hw h.1.1 h.1.2
    obtain ⟨w2, q1, q2, q3⟩ := x_cs (e := e + 17) (n := n) (im := im) (u := u) (g := g) hw h.1.1 h.1.2 (by omega) d2 d3 d4 d5
    have b1 := (f10 bo h.1.1.1 h.1.1.2).2
    have b2 := (f10 ot h.1.2.1 h.1.2.2).2
    have cb := a_cm_b (lo := v 3) (hi := v 4) (g := g) (k := k) b1 b2
    have pb := a_pp_b b1 b2
    refine ⟨w2, q_LongBoats_comes ?_, fun c hc => ?_⟩
    · simp (disch := omega) only [s_hasBoats, s_within, z_oI_s, ji_b, g7]
      rw [if_neg (by omega), if_neg (by omega), if_neg (by omega), if_neg (by omega), if_pos h, x_place hv hw h.1.1 h.1.2, z_oV_s, q1, z_oV_s, s_at_28 (by omega), z_oI_s, if_pos (by omega), s_allPairs, z_oI_s, q2 25 (by decide), d2, d3, q3 k.toNat (by omega), Int.toNat_of_nonneg h.2.2.1.1]
      change z_oJ ((z_F (e + 19)).2.1 k_LongBoats_lowest [.long (Int32.toInt64 _), .long (Int32.toInt64 (Int32.ofInt (a_pp _ _))), _] _) _ _ = _
      rw [jl_of (by omega), jl_of (by omega), s_lowest (by omega) (by omega) (by omega) (by omega) hq, z_oJ_s, jl_to]
    · rw [q2 c (fun q => by subst q; simp at hc)]
      exact pl_fr c hc
  · refine ⟨w, q_LongBoats_comes ?_, c_fr_rf w⟩
    rw [if_neg h]
    simp (disch := omega) only [s_hasBoats, s_within, z_oI_s, ji_b, g7]
    (repeat' split) <;> first | rfl | (exfalso; omega)
theorem s_cm {e n : Nat} {im : Nat → Option Nat} {w u : Nat → Nat → Int} {b c g k : Int} (hb0 : 0 ≤ b) (hb3 : b ≤ 3) (hc0 : 0 ≤ c) (hc3 : c ≤ 3) (hb : a_bo (w 46) b) (hc : a_bo (w 46) c) (hg : -100 ≤ g ∧ g ≤ 100) (hk : 0 ≤ k ∧ k ≤ 2) (hl : jR (w 46 3)) (hh : jR (w 46 4)) : (z_F (e + 2)).1 k_Model_comingOf [.ref 45, .int (Int32.ofInt b), .int (Int32.ofInt c), .int (Int32.ofInt g), .int (Int32.ofInt k)] (n, z_q im, jM w, jL u) = some (Int32.ofInt (a_cm (w 46 3) (w 46 4) g (w 46 (10 + 2 * b.toNat + 1)) (w 46 (10 + 2 * c.toNat + 1)) k), jM w, jL u) := s_comingOf hb0 hb3 hc0 hc3 hb hc hg hk hl hh
theorem s_pp {e n : Nat} {im : Nat → Option Nat} {w u : Nat → Nat → Int} {b c : Int} (h0 : 0 ≤ b) (h9 : b ≤ 3) (h1 : 0 ≤ c) (h2 : c ≤ 3) : (z_F (e + 2)).1 k_Model_pairsOf [.ref 45, .int (Int32.ofInt b), .int (Int32.ofInt c)] (n, z_q im, jM w, jL u) = some (Int32.ofInt (a_pp (w 46 (10 + 2 * b.toNat + 1)) (w 46 (10 + 2 * c.toNat + 1))), jM w, jL u) := s_pairsOf h0 h9 h1 h2
theorem m_comes {e n : Nat} {im : Nat → Option Nat} {w u : Nat → Nat → Int} {bo ot g k q : Int} (hw : a_wf (w 46)) (hbo : jR bo) (hot : jR ot) (hg : jR g) (hk : jR k) (hq : jR q) : (z_F (e + 20)).1 k_Model_comes [.ref 45, .int (Int32.ofInt bo), .int (Int32.ofInt ot), .int (Int32.ofInt g), .int (Int32.ofInt k), .int (Int32.ofInt q)] (n, z_q im, jM w, jL u) = some (Int32.ofInt (V_comes (w 46) bo ot g k q), jM w, jL u) := by
  obtain ⟨f0, f1, f2, f3, f4, f5, f6, f7, f8, f9, f10, f11, f12⟩ := id hw
  unfold V_comes
  refine q_Model_comes ?_
  simp (disch := omega) only [jl_of, kl_0, kl_1, kl_5, kl_17, s_isBoat, s_in, z_oI_s, ji_b]
  by_cases h : ((0 ≤ bo ∧ bo < w 46 6) ∧ (0 ≤ ot ∧ ot < w 46 6)) ∧ (0 ≤ g ∧ g ≤ 12) ∧ (0 ≤ k ∧ k ≤ 2) ∧ (0 ≤ q ∧ q ≤ 1)
  · have b1 := f10 bo h.1.1.1 h.1.1.2
    have b2 := f10 ot h.1.2.1 h.1.2.2
    have cb := a_cm_b (lo := w 46 3) (hi := w 46 4) (g := g) (k := k) b1.2 b2.2
    have pb := a_pp_b b1.2 b2.2
    rw [if_neg (by omega), if_neg (by omega), if_neg (by omega), if_neg (by omega), if_neg (by omega), if_pos h, s_cm (by omega) (by omega) (by omega) (by omega) b1 b2 (by omega) (by omega) (by omega) (by omega), z_oI_s, s_pp (by omega) (by omega) (by omega) (by omega), z_oI_s, jl_of (by omega), jl_of (by omega), s_part0 (by omega) (by omega) (by omega) (by omega) hq, z_oJ_s, jl_to]
  · rw [if_neg h]
    (repeat' split) <;> first | rfl | (exfalso; omega)
/-- odds -/
def V_odds (v : Nat → Int) (a b bo ot r q : Int) : Int := if a_so v a b bo ot ∧ (0 ≤ r ∧ r ≤ 3) ∧ (0 ≤ q ∧ q ≤ 1) then a_lw (a_rn v a b bo ot 0 r) (a_pp (v (10 + 2 * bo.toNat + 1)) (v (10 + 2 * ot.toNat + 1))) q else -2
theorem a_rn_b {v : Nat → Int} {a b bo ot p r : Int} (h1 : a_bo v bo) (h2 : a_bo v ot) : 0 ≤ a_rn v a b bo ot p r ∧ a_rn v a b bo ot p r ≤ 81 := a_sl_b (fun x y => by split <;> omega) h1.2 h2.2
theorem x_odds {e n : Nat} {im : Nat → Option Nat} {w u : Nat → Nat → Int} {v : Nat → Int} {a b bo ot r q : Int} (hv : c_v w v) (hw : a_wf v) (ha : jR a) (hb : jR b) (hbo : jR bo) (hot : jR ot) (hr : jR r) (hq : jR q) : ∃ w', (z_F (e + 20)).1 k_LongBoats_odds [.ref 0, .int (Int32.ofInt a), .int (Int32.ofInt b), .int (Int32.ofInt bo), .int (Int32.ofInt ot), .int (Int32.ofInt r), .int (Int32.ofInt q)] (n, z_q im, jM w, jL u) = some (Int32.ofInt (V_odds v a b bo ot r q), jM w', jL u) ∧ c_fr w w' := by
  obtain ⟨f0, f1, f2, f3, f4, f5, f6, f7, f8, f9, f10, f11, f12⟩ := id hw
  unfold V_odds
  by_cases h : a_so v a b bo ot ∧ (0 ≤ r ∧ r ≤ 3) ∧ (0 ≤ q ∧ q ≤ 1)
  · obtain ⟨w1, w2, q1, q2, q3, q4, q5, q6, q7⟩ := x_slips (e := e + 14) (n := n) (im := im) (u := u) hv hw h.1
    obtain ⟨s1, s2, s3, s4, s5⟩ := id h.1
    have b1 := f10 bo s4.1 s4.2
    have b2 := f10 ot s5.1 s5.2
    have cb := a_rn_b (a := a) (b := b) (p := 0) (r := r) b1 b2
    have pb := a_pp_b b1.2 b2.2
    refine ⟨w2, q_LongBoats_odds ?_, q4⟩
    simp (disch := omega) only [s_within, z_oI_s, ji_b, q1, jM_at]
    rw [if_neg (by omega), if_neg (by omega), if_neg jc_1, if_pos h, q2, z_oV_s, s_dpairs q5 q6 q7 (by omega) (by omega), z_oI_s, s_allPairs, z_oI_s, c_po_eq q3]
    obtain ⟨⟨d1, d2, d3, d4, d5, d6, d7, d8, d9, d10⟩, -, h3⟩ := q3
    rw [d4, d5]
    change z_oJ ((z_F (e + 19)).2.1 k_LongBoats_lowest [.long (Int32.toInt64 _), .long (Int32.toInt64 (Int32.ofInt (a_pp _ _))), _] _) _ _ = _
    rw [jl_of (by omega), jl_of (by omega), s_lowest (by omega) (by omega) (by omega) (by omega) hq, z_oJ_s, jl_to]
  · refine ⟨?_, q_LongBoats_odds ?_, ?_⟩
    · exact if a_so v a b bo ot ∧ (0 ≤ r ∧ r ≤ 3) ∧ (0 ≤ q ∧ q ≤ 1) then w else w
    · rw [if_neg h, if_neg h]
      simp (disch := omega) only [s_within, z_oI_s, ji_b]
      split
      · rfl
      · split
        · rfl
        · rw [x_faces_n hv hw ha hb hbo hot (fun q => h ⟨q, by omega, by omega⟩), z_oI_s]
          rfl
    · rw [if_neg h]
      exact c_fr_rf w
theorem m_odds {e n : Nat} {im : Nat → Option Nat} {w u : Nat → Nat → Int} {a b bo ot r q : Int} (hw : a_wf (w 46)) (ha : jR a) (hb : jR b) (hbo : jR bo) (hot : jR ot) (hr : jR r) (hq : jR q) : (z_F (e + 20)).1 k_Model_odds [.ref 45, .int (Int32.ofInt a), .int (Int32.ofInt b), .int (Int32.ofInt bo), .int (Int32.ofInt ot), .int (Int32.ofInt r), .int (Int32.ofInt q)] (n, z_q im, jM w, jL u) = some (Int32.ofInt (V_odds (w 46) a b bo ot r q), jM w, jL u) := by
  obtain ⟨f0, f1, f2, f3, f4, f5, f6, f7, f8, f9, f10, f11, f12⟩ := id hw
  unfold V_odds
  refine q_Model_odds ?_
  simp (disch := omega) only [jl_of, kl_0, kl_1, kl_4, s_areSo, s_in, z_oI_s, ji_b]
  by_cases h : a_so (w 46) a b bo ot ∧ (0 ≤ r ∧ r ≤ 3) ∧ (0 ≤ q ∧ q ≤ 1)
  · obtain ⟨s1, s2, s3, s4, s5⟩ := id h.1
    have b1 := f10 bo s4.1 s4.2
    have b2 := f10 ot s5.1 s5.2
    have cb := a_rn_b (a := a) (b := b) (p := 0) (r := r) b1 b2
    have pb := a_pp_b b1.2 b2.2
    rw [if_neg (by omega), if_neg (by omega), if_neg (by omega), if_pos h, s_resultsOf (by omega) (by omega) (by omega) (by omega) (f11 a s1.1 s1.2) (f11 b s2.1 s2.2) (by omega) (by omega) (by omega) (by omega) b1 b2 f0 (by omega) (by omega) f1 (by omega) (by omega), z_oI_s, s_pp (by omega) (by omega) (by omega) (by omega), z_oI_s, jl_of (by omega), jl_of (by omega), s_part0 (by omega) (by omega) (by omega) (by omega) hq, z_oJ_s, jl_to]
  · rw [if_neg h]
    (repeat' split) <;> first | rfl | (exfalso; omega)
/-- part -/
def V_part (v : Nat → Int) (a b bo ot : Int) : Int := if a_so v a b bo ot then a_gn v (a_T v a) (a_T v b) (a_sp v bo ot) bo ot - a_pp (v (10 + 2 * bo.toNat + 1)) (v (10 + 2 * ot.toNat + 1)) * a_gb (a_rs (a_kd (v 3) (v 4) (v 1)) (a_T v a) (a_T v b) (a_sp v bo ot) 0 0) else -1000
theorem x_part {e n : Nat} {im : Nat → Option Nat} {w u : Nat → Nat → Int} {v : Nat → Int} {a b bo ot : Int} (hv : c_v w v) (hw : a_wf v) (ha : jR a) (hb : jR b) (hbo : jR bo) (hot : jR ot) : ∃ w', (z_F (e + 20)).1 k_LongBoats_part [.ref 0, .int (Int32.ofInt a), .int (Int32.ofInt b), .int (Int32.ofInt bo), .int (Int32.ofInt ot)] (n, z_q im, jM w, jL u) = some (Int32.ofInt (V_part v a b bo ot), jM w', jL u) ∧ c_fr w w' := by
  obtain ⟨f0, f1, f2, f3, f4, f5, f6, f7, f8, f9, f10, f11, f12⟩ := id hw
  unfold V_part
  by_cases h : a_so v a b bo ot
  · obtain ⟨w1, w2, q1, q2, q3, q4, q5, q6, q7⟩ := x_slips (e := e + 14) (n := n) (im := im) (u := u) hv hw h
    refine ⟨w2, q_LongBoats_part ?_, q4⟩
    have hga := c_ga_eq (a := a) (b := b) q3.2.2
    obtain ⟨⟨d1, d2, d3, d4, d5, d6, d7, d8, d9, d10⟩, -, h3⟩ := q3
    simp (disch := omega) only [z_oI_s, q1, jM_at]
    rw [if_neg jc_1, if_pos h, q2, z_oV_s]
    simp only [jM_at]
    have rb := a_rs_b (a_kd (w2 25 7) (w2 25 8) (w2 25 10)) (w2 26) (w2 27) (w2 25 9) 0 0
    rw [s_dkind (by omega) (by omega) (by omega), z_oI_s, s_dres (a_kd_b _ _ _) q5 q6 q7 (by decide) (by decide), z_oI_s, s_gain q5 q6 q7, z_oI_s, s_allPairs, z_oI_s, s_gainBy (by omega), z_oI_s, ji_mul, ji_sub]
    refine z_lf ?_
    rw [hga, a_rs_cg d1 d2, d3, d4, d5, d6, d7, d8]
    unfold a_gn
    rw [a_gk_cg d1 d2]
    rfl
  · refine ⟨w, q_LongBoats_part ?_, c_fr_rf w⟩
    rw [if_neg h, x_faces_n hv hw ha hb hbo hot h, z_oI_s]
    rfl
theorem s_firstPass {e n : Nat} {im : Nat → Option Nat} {w u : Nat → Nat → Int} {a b bo ot : Int} (hw : a_wf (w 46)) (s1 : 0 ≤ a ∧ a < w 46 7) (s2 : 0 ≤ b ∧ b < w 46 7) (s4 : 0 ≤ bo ∧ bo < w 46 6) (s5 : 0 ≤ ot ∧ ot < w 46 6) : (z_F (e + 6)).1 k_Model_firstPass [.ref 45, .int (Int32.ofInt a), .int (Int32.ofInt b), .int (Int32.ofInt bo), .int (Int32.ofInt ot)] (n, z_q im, jM w, jL u) = some (Int32.ofInt (a_rs (a_kd (w 46 3) (w 46 4) (w 46 1)) (a_T (w 46) a) (a_T (w 46) b) (a_sp (w 46) bo ot) 0 0), jM w, jL u) := by
  obtain ⟨f0, f1, f2, f3, f4, f5, f6, f7, f8, f9, f10, f11, f12⟩ := id hw
  have b1 := f10 bo s4.1 s4.2
  have b2 := f10 ot s5.1 s5.2
  have hs := a_sp_b b1 b2 f0
  refine q_Model_firstPass ?_
  rw [s_speedOf (by omega) (by omega) (by omega) (by omega) b1 b2 f0, z_oI_s]
  simp only [jM_at]
  rw [s_resultOf (by omega) (by omega) (by omega) (by omega) (f11 a s1.1 s1.2) (f11 b s2.1 s2.2) (by omega) (by omega) (by omega) (by omega) (by omega) (by omega), z_oI_s]
theorem s_gn {e n : Nat} {im : Nat → Option Nat} {w u : Nat → Nat → Int} {a b bo ot : Int} (hw : a_wf (w 46)) (s1 : 0 ≤ a ∧ a < w 46 7) (s2 : 0 ≤ b ∧ b < w 46 7) (s4 : 0 ≤ bo ∧ bo < w 46 6) (s5 : 0 ≤ ot ∧ ot < w 46 6) : (z_F (e + 7)).1 k_Model_gainOf [.ref 45, .int (Int32.ofInt a), .int (Int32.ofInt b), .int (Int32.ofInt bo), .int (Int32.ofInt ot)] (n, z_q im, jM w, jL u) = some (Int32.ofInt (a_gn (w 46) (a_T (w 46) a) (a_T (w 46) b) (a_sp (w 46) bo ot) bo ot), jM w, jL u) := by
  obtain ⟨f0, f1, f2, f3, f4, f5, f6, f7, f8, f9, f10, f11, f12⟩ := id hw
  have b1 := f10 bo s4.1 s4.2
  have b2 := f10 ot s5.1 s5.2
  rw [s_gainOf (by omega) (by omega) (by omega) (by omega) (f11 a s1.1 s1.2) (f11 b s2.1 s2.2) (by omega) (by omega) (by omega) (by omega) b1 b2 f0 f1 (by omega) (by omega), rn_gn]
theorem m_part {e n : Nat} {im : Nat → Option Nat} {w u : Nat → Nat → Int} {a b bo ot : Int} (hw : a_wf (w 46)) (ha : jR a) (hb : jR b) (hbo : jR bo) (hot : jR ot) : (z_F (e + 20)).1 k_Model_part_1 [.ref 45, .int (Int32.ofInt a), .int (Int32.ofInt b), .int (Int32.ofInt bo), .int (Int32.ofInt ot)] (n, z_q im, jM w, jL u) = some (Int32.ofInt (V_part (w 46) a b bo ot), jM w, jL u) := by
  obtain ⟨f0, f1, f2, f3, f4, f5, f6, f7, f8, f9, f10, f11, f12⟩ := id hw
  unfold V_part
  refine q_Model_part_1 ?_
  simp (disch := omega) only [s_areSo, z_oI_s, ji_b]
  by_cases h : a_so (w 46) a b bo ot
  · obtain ⟨s1, s2, s3, s4, s5⟩ := id h
    have rb := a_rs_b (a_kd (w 46 3) (w 46 4) (w 46 1)) (a_T (w 46) a) (a_T (w 46) b) (a_sp (w 46) bo ot) 0 0
    rw [if_neg (fun q => q h), if_pos h, s_firstPass hw s1 s2 s4 s5, z_oI_s]
    simp (disch := omega) only [s_gn hw s1 s2 s4 s5, s_pp, z_oI_s, ji_eq, ji_mul, ji_sub]
    unfold a_gb
    (repeat' split) <;> exact z_lf (by omega)
  · rw [if_neg h, if_pos h]
