/-! the world's row v: as told; where the class has it; calls without slips -/
def a_te (v : Nat → Int) (t : Int) : Prop := (0 ≤ v (78 + 7 * t.toNat) ∧ v (78 + 7 * t.toNat) < v 6) ∧ (1 ≤ v (78 + 7 * t.toNat + 1) ∧ v (78 + 7 * t.toNat + 1) ≤ 5) ∧ (∀ i : Int, 0 ≤ i → i < v (78 + 7 * t.toNat + 1) → 0 ≤ v (78 + 7 * t.toNat + 2 + i.toNat) ∧ v (78 + 7 * t.toNat + 2 + i.toNat) < v 7) ∧ ∀ i j : Int, 0 ≤ i → i < j → j < v (78 + 7 * t.toNat + 1) → v (78 + 7 * t.toNat + 2 + i.toNat) ≠ v (78 + 7 * t.toNat + 2 + j.toNat)
def a_wf (v : Nat → Int) : Prop := (0 ≤ v 0 ∧ v 0 ≤ 9) ∧ (0 ≤ v 1 ∧ v 1 ≤ 12) ∧ (0 ≤ v 2 ∧ v 2 ≤ 7) ∧ (0 ≤ v 3 ∧ v 3 ≤ 12) ∧ (0 ≤ v 4 ∧ v 4 ≤ 12) ∧ (0 ≤ v 5 ∧ v 5 ≤ 50) ∧ (0 ≤ v 6 ∧ v 6 ≤ 4) ∧ (0 ≤ v 7 ∧ v 7 ≤ 10) ∧ (0 ≤ v 8 ∧ v 8 ≤ 4) ∧ (0 ≤ v 9 ∧ v 9 ≤ 1200) ∧ (∀ b : Int, 0 ≤ b → b < v 6 → a_bo v b) ∧ (∀ a : Int, 0 ≤ a → a < v 7 → a_tr (a_T v a)) ∧ ∀ t : Int, 0 ≤ t → t < v 8 → a_te v t
/-- the class has v -/
def c_v (w : Nat → Nat → Int) (v : Nat → Int) : Prop := w 3 0 = v 9 ∧ w 3 1 = v 0 ∧ w 3 2 = v 1 ∧ w 3 3 = v 2 ∧ w 3 4 = v 3 ∧ w 3 5 = v 4 ∧ w 3 6 = v 5 ∧ w 3 7 = v 6 ∧ w 3 8 = v 7 ∧ w 3 9 = v 8 ∧ (∀ j, j < 8 → w 5 j = v (10 + j)) ∧ (∀ j, j < 60 → w 7 j = v (18 + j)) ∧ ∀ j, j < 28 → w 9 j = v (78 + j)
/-- the reference has v -/
def m_v (w : Nat → Nat → Int) (v : Nat → Int) : Prop := ∀ j, j < 106 → w 46 j = v j
/-- what the class' calls may change that no later call sees -/
def c_fr (w w' : Nat → Nat → Int) : Prop := ∀ c, c ∉ [25, 26, 27, 29, 30, 31, 33, 35, 37, 39, 41, 44] → w' c = w c
theorem c_fr_rf (w : Nat → Nat → Int) : c_fr w w := fun _ _ => rfl
abbrev a_so (v : Nat → Int) (a b bo ot : Int) : Prop := (0 ≤ a ∧ a < v 7) ∧ (0 ≤ b ∧ b < v 7) ∧ a ≠ b ∧ (0 ≤ bo ∧ bo < v 6) ∧ (0 ≤ ot ∧ ot < v 6)
theorem a_fo_cg {t t' : Nat → Int} (h : ∀ j, j < 6 → t j = t' j) (sp p : Int) : a_fo t sp p = a_fo t' sp p := by
  unfold a_fo
  rw [h 2 (by decide), h 3 (by decide), h 4 (by decide), h 5 (by decide)]
theorem a_st_cg {t t' : Nat → Int} (h : ∀ j, j < 6 → t j = t' j) (fa sp p : Int) : a_st t fa sp p = a_st t' fa sp p := by
  unfold a_st
  rw [h 0 (by decide), h 1 (by decide), h 3 (by decide), h 4 (by decide)]
theorem a_ft_cg {t t' f f' : Nat → Int} (h : ∀ j, j < 6 → t j = t' j) (h2 : ∀ j, j < 6 → f j = f' j) (k sp p po : Int) : a_ft k t f sp p po = a_ft k t' f' sp p po := by
  unfold a_ft
  rw [h 4 (by decide), h 5 (by decide), h2 5 (by decide), a_st_cg h, a_fo_cg h2]
theorem a_rs_cg {t t' f f' : Nat → Int} (h : ∀ j, j < 6 → t j = t' j) (h2 : ∀ j, j < 6 → f j = f' j) (k sp p po : Int) : a_rs k t f sp p po = a_rs k t' f' sp p po := by
  unfold a_rs
  rw [a_ft_cg h h2, a_ft_cg h2 h]
theorem a_tr_cg {t t' : Nat → Int} (h : ∀ j, j < 6 → t j = t' j) (ht : a_tr t') : a_tr t := by
  unfold a_tr at ht ⊢
  rw [h 0 (by decide), h 1 (by decide), h 2 (by decide), h 3 (by decide), h 4 (by decide), h 5 (by decide)]
  exact ht
theorem c_T {w : Nat → Nat → Int} {v : Nat → Int} {a : Int} (hv : c_v w v) (h0 : 0 ≤ a) (h9 : a ≤ 9) : ∀ j, j < 6 → w 7 (6 * a.toNat + j) = a_T v a j := by
  obtain ⟨-, -, -, -, -, -, -, -, -, -, -, h7, -⟩ := hv
  intro j hj
  rw [h7 _ (by omega)]
  unfold a_T
  congr 1
  omega
theorem m_T {w : Nat → Nat → Int} {v : Nat → Int} {a : Int} (hv : m_v w v) (h0 : 0 ≤ a) (h9 : a ≤ 9) : ∀ j, j < 6 → a_T (w 46) a j = a_T v a j := by
  intro j hj
  unfold a_T
  exact hv _ (by omega)
theorem c_ok_of {w : Nat → Nat → Int} {v : Nat → Int} (hv : c_v w v) (hw : a_wf v) : c_ok w := by
  have hT := fun a h0 h9 => c_T (a := a) hv h0 h9
  obtain ⟨g0, g1, g2, g3, g4, g5, g6, g7, g8, g9, h5, h7, h9⟩ := hv
  obtain ⟨f0, f1, f2, f3, f4, f5, f6, f7, f8, f9, f10, f11, f12⟩ := hw
  refine ⟨by omega, by omega, by omega, by omega, fun b hb hb2 => ?_, fun a ha ha2 => ?_⟩
  · have hb3 := f10 b hb (by omega)
    rw [h5 (2 * b.toNat) (by omega), h5 (2 * b.toNat + 1) (by omega)]
    exact hb3
  · exact a_tr_cg (hT a ha (by omega)) (f11 a ha (by omega))
theorem c_so_of {w : Nat → Nat → Int} {v : Nat → Int} {a b bo ot : Int} (hv : c_v w v) : c_so w a b bo ot ↔ a_so v a b bo ot := by
  obtain ⟨g0, g1, g2, g3, g4, g5, g6, g7, g8, g9, h5, h7, h9⟩ := hv
  unfold c_so a_so
  rw [g7, g8]
  omega
theorem c_sw_eq {w : Nat → Nat → Int} {v : Nat → Int} {b o : Int} (hv : c_v w v) (h0 : 0 ≤ b) (h9 : b ≤ 3) (h1 : 0 ≤ o) (h2 : o ≤ 3) : c_sw w b (w 5 (2 * b.toNat)) o = a_sp v b o := by
  obtain ⟨g0, g1, g2, g3, g4, g5, g6, g7, g8, g9, h5, h7, h9⟩ := hv
  unfold c_sw a_sp
  rw [h5 (2 * b.toNat) (by omega), h5 (2 * o.toNat) (by omega), g1]
  by_cases h : o = b
  · rw [if_pos h, h]
  · rw [if_neg h]
/-- a duel laid out, in v's words -/
def a_D (v : Nat → Int) (w' : Nat → Nat → Int) (a b bo ot : Int) : Prop := (∀ j, j < 6 → w' 26 j = a_T v a j) ∧ (∀ j, j < 6 → w' 27 j = a_T v b j) ∧ w' 25 9 = a_sp v bo ot ∧ w' 25 5 = v (10 + 2 * bo.toNat + 1) ∧ w' 25 6 = v (10 + 2 * ot.toNat + 1) ∧ w' 25 7 = v 3 ∧ w' 25 8 = v 4 ∧ w' 25 10 = v 1 ∧ w' 25 11 = v 2 ∧ w' 25 4 = 0
theorem s_within {e n : Nat} {im : Nat → Option Nat} {d : zD} {a b c : Int} (ha : jR a) (hb : jR b) (hc : jR c) : (z_F (e + 1)).1 k_LongBoats_within [.int (Int32.ofInt a), .int (Int32.ofInt b), .int (Int32.ofInt c)] (n, z_q im, d) = some (Int32.ofInt (if b ≤ a ∧ a ≤ c then 1 else 0), d) := by
  refine q_LongBoats_within ?_
  simp (disch := omega) only [ji_lt, z_fI]
  refine z_lf ?_
  (repeat' split) <;> omega
theorem x_faces_y {e n : Nat} {im : Nat → Option Nat} {w u : Nat → Nat → Int} {v : Nat → Int} {a b bo ot : Int} (hv : c_v w v) (hw : a_wf v) (h : a_so v a b bo ot) : ∃ w', (z_F (e + 5)).1 k_LongBoats_faces [.ref 0, .int (Int32.ofInt a), .int (Int32.ofInt b), .int (Int32.ofInt bo), .int (Int32.ofInt ot)] (n, z_q im, jM w, jL u) = some (Int32.ofInt 1, jM w', jL u) ∧ a_D v w' a b bo ot ∧ c_v w' v ∧ c_fr w w' ∧ a_tr (w' 26) ∧ a_tr (w' 27) ∧ (0 ≤ w' 25 9 ∧ w' 25 9 ≤ 100) := by
  obtain ⟨w', f1, f2⟩ := s_faces_y (e := e) (n := n) (im := im) (u := u) (c_ok_of hv hw) ((c_so_of hv).mpr h)
  obtain ⟨d1, d2, d3, d4, d5, d6, d7, d8, d9, d10, d11⟩ := f2
  obtain ⟨f0, -, -, -, -, -, f6, f7, -, -, f10, f11, -⟩ := id hw
  obtain ⟨s1, s2, s3, s4, s5⟩ := id h
  obtain ⟨g0, g1, g2, g3, g4, g5, g6, g7, g8, g9, h5, h7, h9⟩ := id hv
  have t1 : ∀ j, j < 6 → w' 26 j = a_T v a j := fun j hj => (d1 j hj).trans (c_T hv s1.1 (by omega) j hj)
  have t2 : ∀ j, j < 6 → w' 27 j = a_T v b j := fun j hj => (d2 j hj).trans (c_T hv s2.1 (by omega) j hj)
  have sp : w' 25 9 = a_sp v bo ot := d3.trans (c_sw_eq hv s4.1 (by omega) s5.1 (by omega))
  have hsp := a_sp_b (f10 bo s4.1 s4.2) (f10 ot s5.1 s5.2) f0
  refine ⟨w', f1, ⟨t1, t2, sp, ?_, ?_, ?_, ?_, ?_, ?_, d10⟩, ?_, ?_, a_tr_cg t1 (f11 a s1.1 s1.2), a_tr_cg t2 (f11 b s2.1 s2.2), by omega⟩
  · rw [d4, h5 _ (by omega)]; congr 1
  · rw [d5, h5 _ (by omega)]; congr 1
  · rw [d6, g4]
  · rw [d7, g5]
  · rw [d8, g2]
  · rw [d9, g3]
  · unfold c_v
    rw [d11 3 (by decide) (by decide) (by decide), d11 5 (by decide) (by decide) (by decide), d11 7 (by decide) (by decide) (by decide), d11 9 (by decide) (by decide) (by decide)]
    exact hv
  · intro c hc
    simp only [List.mem_cons, not_or] at hc
    exact d11 c hc.1 hc.2.1 hc.2.2.1
theorem x_faces_n {e n : Nat} {im : Nat → Option Nat} {w u : Nat → Nat → Int} {v : Nat → Int} {a b bo ot : Int} (hv : c_v w v) (hw : a_wf v) (ha : jR a) (hb : jR b) (hbo : jR bo) (hot : jR ot) (h : ¬ a_so v a b bo ot) : (z_F (e + 5)).1 k_LongBoats_faces [.ref 0, .int (Int32.ofInt a), .int (Int32.ofInt b), .int (Int32.ofInt bo), .int (Int32.ofInt ot)] (n, z_q im, jM w, jL u) = some (Int32.ofInt 0, jM w, jL u) := s_faces_n (c_ok_of hv hw) ha hb hbo hot (fun q => h ((c_so_of hv).mp q))
theorem jb_t {c : Prop} {dc : Decidable c} (h : c) : Int32.ofInt (@ite Int c dc 1 0) = Int32.ofInt 1 := by rw [if_pos h]
theorem jb_f {c : Prop} {dc : Decidable c} (h : ¬ c) : Int32.ofInt (@ite Int c dc 1 0) = Int32.ofInt 0 := by rw [if_neg h]
theorem jc_1 : ¬ Int32.ofInt 1 = 0 := by decide
theorem jc_0 : (Int32.ofInt 0 = 0) ↔ True := by decide
def V_pass (v : Nat → Int) (a b bo ot p g : Int) : Int := if a_so v a b bo ot ∧ (0 ≤ p ∧ p ≤ 99) ∧ (0 ≤ g ∧ g ≤ 20) then a_rs (a_kd (v 3) (v 4) g) (a_T v a) (a_T v b) (a_sp v bo ot) p p else -2
theorem a_kd_b (lo hi g : Int) : 0 ≤ a_kd lo hi g ∧ a_kd lo hi g ≤ 2 := by
  unfold a_kd
  (repeat' split) <;> omega
theorem x_pass {e n : Nat} {im : Nat → Option Nat} {w u : Nat → Nat → Int} {v : Nat → Int} {a b bo ot p g : Int} (hv : c_v w v) (hw : a_wf v) (ha : jR a) (hb : jR b) (hbo : jR bo) (hot : jR ot) (hp : jR p) (hg : jR g) : ∃ w', (z_F (e + 20)).1 k_LongBoats_pass [.ref 0, .int (Int32.ofInt a), .int (Int32.ofInt b), .int (Int32.ofInt bo), .int (Int32.ofInt ot), .int (Int32.ofInt p), .int (Int32.ofInt g)] (n, z_q im, jM w, jL u) = some (Int32.ofInt (V_pass v a b bo ot p g), jM w', jL u) ∧ c_fr w w' := by
  unfold V_pass
  by_cases h1 : 0 ≤ p ∧ p ≤ 99
  · by_cases h2 : 0 ≤ g ∧ g ≤ 20
    · by_cases h3 : a_so v a b bo ot
      · obtain ⟨w', f1, f2, f3, f4, f5, f6, f7⟩ := x_faces_y (e := e + 14) (n := n) (im := im) (u := u) hv hw h3
        obtain ⟨d1, d2, d3, d4, d5, d6, d7, d8, d9, d10⟩ := f2
        obtain ⟨-, -, -, m3, m4, -⟩ := hw
        refine ⟨w', ?_, f4⟩
        refine q_LongBoats_pass ?_
        simp (disch := omega) only [s_within, z_oI_s, jb_t h1, jb_t h2, jc_1, if_false, f1]
        rw [s_dkind hg (by omega) (by omega), z_oI_s, s_dres (a_kd_b _ _ _) f5 f6 f7 (by omega) (by omega), z_oI_s, if_pos ⟨h3, h1, h2⟩]
        exact z_lf (by rw [a_rs_cg d1 d2, d3, d6, d7])
      · refine ⟨w, ?_, c_fr_rf w⟩
        refine q_LongBoats_pass ?_
        simp (disch := omega) only [s_within, z_oI_s, jb_t h1, jb_t h2, jc_1, if_false, x_faces_n hv hw ha hb hbo hot h3, jc_0, if_true]
        rw [if_neg (fun q => h3 q.1)]
    · refine ⟨w, ?_, c_fr_rf w⟩
      refine q_LongBoats_pass ?_
      simp (disch := omega) only [s_within, z_oI_s, jb_t h1, jb_f h2, jc_1, if_false, jc_0, if_true]
      rw [if_neg (fun q => h2 q.2.2)]
  · refine ⟨w, ?_, c_fr_rf w⟩
    refine q_LongBoats_pass ?_
    simp (disch := omega) only [s_within, z_oI_s, jb_f h1, jc_0, if_true]
    rw [if_neg (fun q => h1 q.2.1)]
theorem s_arePasses {e n : Nat} {im : Nat → Option Nat} {d : zD} {a : Int} (ha : jR a) : (z_F (e + 2)).1 k_Model_arePasses [.int (Int32.ofInt a)] (n, z_q im, d) = some (Int32.ofInt (if 0 ≤ a ∧ a ≤ 99 then 1 else 0), d) := by
  refine q_Model_arePasses ?_
  simp (disch := omega) only [jl_of, kl_0, kl_11, s_in, z_oI_s, ji_bb, if_true]
theorem m_pass {e n : Nat} {im : Nat → Option Nat} {w u : Nat → Nat → Int} {v : Nat → Int} {a b bo ot p g : Int} (hv : m_v w v) (hw : a_wf v) (ha : jR a) (hb : jR b) (hbo : jR bo) (hot : jR ot) (hp : jR p) (hg : jR g) : (z_F (e + 20)).1 k_Model_pass [.ref 45, .int (Int32.ofInt a), .int (Int32.ofInt b), .int (Int32.ofInt bo), .int (Int32.ofInt ot), .int (Int32.ofInt p), .int (Int32.ofInt g)] (n, z_q im, jM w, jL u) = some (Int32.ofInt (V_pass v a b bo ot p g), jM w, jL u) := by
  have hT := fun a h0 h9 => m_T (a := a) hv h0 h9
  have e0 := hv 0 (by decide)
  have e3 := hv 3 (by decide)
  have e4 := hv 4 (by decide)
  have e6 := hv 6 (by decide)
  have e7 := hv 7 (by decide)
  obtain ⟨f0, f1, f2, f3, f4, f5, f6, f7, f8, f9, f10, f11, f12⟩ := hw
  unfold V_pass
  refine q_Model_pass ?_
  simp (disch := omega) only [s_areSo, s_arePasses, jl_of, kl_0, kl_12, s_in, z_oI_s, ji_b, e6, e7]
  by_cases h3 : a_so v a b bo ot
  · rw [if_neg (fun q => q h3)]
    by_cases h1 : 0 ≤ p ∧ p ≤ 99
    · rw [if_neg (fun q => q h1)]
      by_cases h2 : 0 ≤ g ∧ g ≤ 20
      · rw [if_neg (fun q => q h2)]
        obtain ⟨s1, s2, s3, s4, s5⟩ := id h3
        have bb : a_bo (w 46) bo := by
          unfold a_bo
          rw [hv _ (by omega), hv _ (by omega)]
          exact f10 bo s4.1 s4.2
        have oo : a_bo (w 46) ot := by
          unfold a_bo
          rw [hv _ (by omega), hv _ (by omega)]
          exact f10 ot s5.1 s5.2
        have hs := a_sp_b bb oo (by omega)
        rw [s_speedOf s4.1 (by omega) s5.1 (by omega) bb oo (by omega), z_oI_s, s_resultOf s1.1 (by omega) s2.1 (by omega) (a_tr_cg (hT a s1.1 (by omega)) (f11 a s1.1 s1.2)) (a_tr_cg (hT b s2.1 (by omega)) (f11 b s2.1 s2.2)) (by omega) (by omega) (by omega) hg (by omega) (by omega), z_oI_s, if_pos ⟨h3, h1, h2⟩]
        have esp : a_sp (w 46) bo ot = a_sp v bo ot := by
          unfold a_sp
          rw [hv _ (by omega), hv _ (by omega), e0]
        exact z_lf (by rw [a_rs_cg (hT a s1.1 (by omega)) (hT b s2.1 (by omega)), e3, e4, esp])
      · rw [if_pos h2, if_neg (fun q => h2 q.2.2)]
    · rw [if_pos h1, if_neg (fun q => h1 q.2.1)]
  · rw [if_pos h3, if_neg (fun q => h3 q.1)]
