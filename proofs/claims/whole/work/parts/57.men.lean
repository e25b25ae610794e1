/-! one by one: weary, beaten, feared, champion, ring -/
theorem ic (i : Nat) : ((i + 1 : Nat) : Int) = (i : Int) + 1 := rfl
theorem ji_le_n {a b : Int} (ha : jR a) (hb : jR b) (h : ¬ a ≤ b) : ¬ Int32.ofInt a ≤ Int32.ofInt b := fun q => h ((ji_le ha hb).mp q)
theorem ji_le_p {a b : Int} (ha : jR a) (hb : jR b) (h : a ≤ b) : Int32.ofInt a ≤ Int32.ofInt b := (ji_le ha hb).mpr h
theorem ji_lt_n {a b : Int} (ha : jR a) (hb : jR b) (h : ¬ a < b) : ¬ Int32.ofInt a < Int32.ofInt b := fun q => h ((ji_lt ha hb).mp q)
theorem ji_lt_p {a b : Int} (ha : jR a) (hb : jR b) (h : a < b) : Int32.ofInt a < Int32.ofInt b := (ji_lt ha hb).mpr h
theorem ji_eq_n {a b : Int} (ha : jR a) (hb : jR b) (h : ¬ a = b) : ¬ Int32.ofInt a = Int32.ofInt b := fun q => h ((ji_eq ha hb).mp q)
theorem ji_eq_p {a b : Int} (ha : jR a) (hb : jR b) (h : a = b) : Int32.ofInt a = Int32.ofInt b := (ji_eq ha hb).mpr h
theorem ji_eq0_n {a : Int} (ha : jR a) (h : ¬ a = 0) : ¬ Int32.ofInt a = 0 := fun q => h ((ji_eq0 ha).mp q)
theorem ji_eq0_p {a : Int} (ha : jR a) (h : a = 0) : Int32.ofInt a = 0 := (ji_eq0 ha).mpr h
theorem ji_b_n {c : Prop} {dc : Decidable c} (h : c) : ¬ Int32.ofInt (@ite Int c dc 1 0) = 0 := fun q => (ji_b c).mp q h
theorem ji_b_p {c : Prop} {dc : Decidable c} (h : ¬ c) : Int32.ofInt (@ite Int c dc 1 0) = 0 := (ji_b c).mpr h
theorem c_fr_tr {w w1 w2 : Nat → Nat → Int} (h1 : c_fr w w1) (h2 : c_fr w1 w2) : c_fr w w2 := fun c hc => (h2 c hc).trans (h1 c hc)
def a_cnt (f : Nat → Int) : Nat → Int
  | 0 => 0
  | i + 1 => a_cnt f i + f i
theorem a_cnt_b {f : Nat → Int} (h : ∀ i, 0 ≤ f i ∧ f i ≤ 1) : ∀ i, 0 ≤ a_cnt f i ∧ a_cnt f i ≤ i
  | 0 => by simp [a_cnt]
  | i + 1 => by
    have h1 := a_cnt_b h i
    have h2 := h i
    simp only [a_cnt, ic]
    omega
def a_it {α : Type} (F : Nat → α → α) (s : α) : Nat → α
  | 0 => s
  | i + 1 => F i (a_it F s i)
/-- the first that is not -1 -/
def a_f1 (p : Nat → Int) : Nat → Nat → Int
  | _, 0 => -1
  | x, m + 1 => if p x = -1 then a_f1 p (x + 1) m else p x
theorem a_f1_cg {p q : Nat → Int} : ∀ (m x : Nat), (∀ y, x ≤ y → y < x + m → p y = q y) → a_f1 p x m = a_f1 q x m
  | 0, _, _ => rfl
  | m + 1, x, h => by
    simp only [a_f1]
    rw [h x (by omega) (by omega), a_f1_cg m (x + 1) (fun y h1 h2 => h y (by omega) (by omega))]
theorem a_f1_b {p : Nat → Int} {B : Int} : ∀ (m x : Nat), (∀ y, x ≤ y → y < x + m → p y = -1 ∨ (0 ≤ p y ∧ p y ≤ B)) → a_f1 p x m = -1 ∨ (0 ≤ a_f1 p x m ∧ a_f1 p x m ≤ B)
  | 0, _, _ => Or.inl rfl
  | m + 1, x, h => by
    simp only [a_f1]
    split
    · exact a_f1_b m (x + 1) (fun y h1 h2 => h y (by omega) (by omega))
    · exact h x (by omega) (by omega)
theorem a_f1_if {q : Nat → Prop} [∀ y, Decidable (q y)] {f : Nat → Int} : ∀ (m x : Nat), (∀ y, x ≤ y → y < x + m → f y ≠ -1) → a_f1 (fun y => if q y then f y else -1) x m = if a_f1 (fun y => if q y then (y : Int) else -1) x m = -1 then -1 else f (a_f1 (fun y => if q y then (y : Int) else -1) x m).toNat
  | 0, _, _ => rfl
  | m + 1, x, h => by
    simp only [a_f1]
    by_cases hq : q x
    · rw [if_pos hq, if_pos hq, if_neg (h x (by omega) (by omega)), if_neg (by omega), if_neg (by omega)]
      rfl
    · rw [if_neg hq, if_neg hq, if_pos rfl, if_pos rfl]
      exact a_f1_if m (x + 1) (fun y h1 h2 => h y (by omega) (by omega))
theorem z_fnd {o : zO} {cd : List zI} {P : Nat → Nat × zL × zM → Prop} {Q : Int → Option Value × zM → Prop} {p : Nat → Int} : ∀ (N lo : Nat) (s : Nat × zL × zM), P lo s → (∀ x s, lo ≤ x → x < lo + N → P x s → (p x = -1 → ∃ t, z_To o cd s t ∧ P (x + 1) t) ∧ (p x ≠ -1 → ∃ r, z_Rn o cd s.1 s.2.1 s.2.2 r ∧ Q (p x) r)) → (a_f1 p lo N = -1 ∧ ∃ t, z_To o cd s t ∧ P (lo + N) t) ∨ (a_f1 p lo N ≠ -1 ∧ ∃ r, z_Rn o cd s.1 s.2.1 s.2.2 r ∧ Q (a_f1 p lo N) r)
  | 0, lo, s, h, _ => Or.inl ⟨rfl, s, z_To_rf s, h⟩
  | N + 1, lo, s, h, st => by
    simp only [a_f1]
    by_cases hp : p lo = -1
    · rw [if_pos hp]
      obtain ⟨t, h1, h2⟩ := (st lo s (by omega) (by omega) h).1 hp
      rcases z_fnd N (lo + 1) t h2 (fun x s' a b c => st x s' (by omega) (by omega) c) with ⟨h3, t2, h4, h5⟩ | ⟨h3, r, h4, h5⟩
      · exact Or.inl ⟨h3, t2, z_To_tr h1 h4, by rw [show lo + (N + 1) = lo + 1 + N by omega]; exact h5⟩
      · exact Or.inr ⟨h3, r, h1 r h4, h5⟩
    · rw [if_neg hp]
      exact Or.inr ⟨hp, (st lo s (by omega) (by omega) h).2 hp⟩
/-- in a first pass at the gap told -/
def a_f0 (v : Nat → Int) (a b bo ot : Int) : Int := a_ft (a_kd (v 3) (v 4) (v 1)) (a_T v a) (a_T v b) (a_sp v bo ot) 0 0
def a_r0 (v : Nat → Int) (a b bo ot : Int) : Int := a_rs (a_kd (v 3) (v 4) (v 1)) (a_T v a) (a_T v b) (a_sp v bo ot) 0 0
abbrev a_ho (v : Nat → Int) (a b bo ot : Int) : Prop := a ≠ b ∧ a_r0 v a b bo ot = 2
theorem x_firstFate {e n : Nat} {im : Nat → Option Nat} {w u : Nat → Nat → Int} {v : Nat → Int} {a b bo ot : Int} (hv : c_v w v) (hw : a_wf v) (s1 : 0 ≤ a ∧ a < v 7) (s2 : 0 ≤ b ∧ b < v 7) (s4 : 0 ≤ bo ∧ bo < v 6) (s5 : 0 ≤ ot ∧ ot < v 6) : ∃ w', (z_F (e + 6)).1 k_LongBoats_firstFate [.ref 0, .int (Int32.ofInt a), .int (Int32.ofInt b), .int (Int32.ofInt bo), .int (Int32.ofInt ot)] (n, z_q im, jM w, jL u) = some (Int32.ofInt (if a = b then 0 else a_f0 v a b bo ot), jM w', jL u) ∧ c_v w' v ∧ c_fr w w' := by
  obtain ⟨f0, f1, f2, f3, f4, f5, f6, f7, f8, f9, f10, f11, f12⟩ := id hw
  by_cases h : a = b
  · refine ⟨w, q_LongBoats_firstFate ?_, hv, c_fr_rf w⟩
    rw [if_pos h, x_faces_n hv hw (by omega) (by omega) (by omega) (by omega) (fun q => q.2.2.1 h), z_oI_s]
    rfl
  · obtain ⟨w', q1, q2, q3, q4, q5, q6, q7⟩ := x_faces_y (e := e) (n := n) (im := im) (u := u) hv hw ⟨s1, s2, h, s4, s5⟩
    obtain ⟨d1, d2, d3, d4, d5, d6, d7, d8, d9, d10⟩ := q2
    refine ⟨w', q_LongBoats_firstFate ?_, q3, q4⟩
    rw [if_neg h, q1, z_oI_s, if_neg jc_1]
    simp only [jM_at]
    rw [s_dkind (by omega) (by omega) (by omega), z_oI_s, s_fateOne (a_kd_b _ _ _) q5 q6 q7 (by decide) (by decide), z_oI_s]
    exact z_lf (by rw [a_ft_cg d1 d2, d3, d6, d7, d8]; rfl)
theorem x_hasOut {e n : Nat} {im : Nat → Option Nat} {w u : Nat → Nat → Int} {v : Nat → Int} {a b bo ot : Int} (hv : c_v w v) (hw : a_wf v) (s1 : 0 ≤ a ∧ a < v 7) (s2 : 0 ≤ b ∧ b < v 7) (s4 : 0 ≤ bo ∧ bo < v 6) (s5 : 0 ≤ ot ∧ ot < v 6) : ∃ w', (z_F (e + 6)).1 k_LongBoats_hasOut [.ref 0, .int (Int32.ofInt a), .int (Int32.ofInt b), .int (Int32.ofInt bo), .int (Int32.ofInt ot)] (n, z_q im, jM w, jL u) = some (Int32.ofInt (if a_ho v a b bo ot then 1 else 0), jM w', jL u) ∧ c_v w' v ∧ c_fr w w' := by
  obtain ⟨f0, f1, f2, f3, f4, f5, f6, f7, f8, f9, f10, f11, f12⟩ := id hw
  by_cases h : a = b
  · refine ⟨w, q_LongBoats_hasOut ?_, hv, c_fr_rf w⟩
    rw [if_neg (fun q => q.1 h), x_faces_n hv hw (by omega) (by omega) (by omega) (by omega) (fun q => q.2.2.1 h), z_oI_s]
    rfl
  · obtain ⟨w', q1, q2, q3, q4, q5, q6, q7⟩ := x_faces_y (e := e) (n := n) (im := im) (u := u) hv hw ⟨s1, s2, h, s4, s5⟩
    obtain ⟨d1, d2, d3, d4, d5, d6, d7, d8, d9, d10⟩ := q2
    refine ⟨w', q_LongBoats_hasOut ?_, q3, q4⟩
    have hr : a_rs (a_kd (w' 25 7) (w' 25 8) (w' 25 10)) (w' 26) (w' 27) (w' 25 9) 0 0 = a_r0 v a b bo ot := by rw [a_rs_cg d1 d2, d3, d6, d7, d8]; rfl
    have hb := a_rs_b (a_kd (v 3) (v 4) (v 1)) (a_T v a) (a_T v b) (a_sp v bo ot) 0 0
    change 0 ≤ a_r0 v a b bo ot ∧ a_r0 v a b bo ot ≤ 3 at hb
    rw [q1, z_oI_s, if_neg jc_1]
    simp only [jM_at]
    rw [s_dkind (by omega) (by omega) (by omega), z_oI_s, s_dres (a_kd_b _ _ _) q5 q6 q7 (by decide) (by decide), z_oI_s, hr]
    simp (disch := omega) only [ji_eq]
    by_cases h2 : a_r0 v a b bo ot = 2
    · rw [if_pos h2, if_pos ⟨h, h2⟩]
    · rw [if_neg h2, if_neg (fun q => h2 q.2)]
theorem s_fp {e n : Nat} {im : Nat → Option Nat} {w u : Nat → Nat → Int} {a b bo ot : Int} (hw : a_wf (w 46)) (s1 : 0 ≤ a ∧ a < w 46 7) (s2 : 0 ≤ b ∧ b < w 46 7) (s4 : 0 ≤ bo ∧ bo < w 46 6) (s5 : 0 ≤ ot ∧ ot < w 46 6) : (z_F (e + 6)).1 k_Model_firstPass [.ref 45, .int (Int32.ofInt a), .int (Int32.ofInt b), .int (Int32.ofInt bo), .int (Int32.ofInt ot)] (n, z_q im, jM w, jL u) = some (Int32.ofInt (a_r0 (w 46) a b bo ot), jM w, jL u) := by
  obtain ⟨f0, f1, f2, f3, f4, f5, f6, f7, f8, f9, f10, f11, f12⟩ := id hw
  have b1 := f10 bo s4.1 s4.2
  have b2 := f10 ot s5.1 s5.2
  have spb := a_sp_b b1 b2 f0
  refine q_Model_firstPass ?_
  rw [s_speedOf (by omega) (by omega) (by omega) (by omega) b1 b2 f0, z_oI_s]
  simp only [jM_at]
  rw [s_resultOf (by omega) (by omega) (by omega) (by omega) (f11 a s1.1 s1.2) (f11 b s2.1 s2.2) (by omega) (by decide) (by decide) (by omega) (by omega) (by omega), z_oI_s]
  rfl
theorem s_mhasOut {e n : Nat} {im : Nat → Option Nat} {w u : Nat → Nat → Int} {a b bo ot : Int} (hw : a_wf (w 46)) (s1 : 0 ≤ a ∧ a < w 46 7) (s2 : 0 ≤ b ∧ b < w 46 7) (s4 : 0 ≤ bo ∧ bo < w 46 6) (s5 : 0 ≤ ot ∧ ot < w 46 6) : (z_F (e + 7)).1 k_Model_hasOut [.ref 45, .int (Int32.ofInt a), .int (Int32.ofInt b), .int (Int32.ofInt bo), .int (Int32.ofInt ot)] (n, z_q im, jM w, jL u) = some (Int32.ofInt (if a_ho (w 46) a b bo ot then 1 else 0), jM w, jL u) := by
  obtain ⟨f0, f1, f2, f3, f4, f5, f6, f7, f8, f9, f10, f11, f12⟩ := id hw
  have hb := a_rs_b (a_kd (w 46 3) (w 46 4) (w 46 1)) (a_T (w 46) a) (a_T (w 46) b) (a_sp (w 46) bo ot) 0 0
  change 0 ≤ a_r0 (w 46) a b bo ot ∧ a_r0 (w 46) a b bo ot ≤ 3 at hb
  refine q_Model_hasOut ?_
  rw [s_fp hw s1 s2 s4 s5, z_oI_s]
  simp (disch := omega) only [ji_eq]
  by_cases h : a = b
  · rw [if_pos h, if_neg (fun q => q.1 h)]
  · rw [if_neg h]
    by_cases h2 : a_r0 (w 46) a b bo ot = 2
    · rw [if_pos h2, if_pos ⟨h, h2⟩]
    · rw [if_neg h2, if_neg (fun q => h2 q.2)]
abbrev a_mb (v : Nat → Int) (a bo ot : Int) : Prop := (0 ≤ a ∧ a < v 7) ∧ ((0 ≤ bo ∧ bo < v 6) ∧ (0 ≤ ot ∧ ot < v 6))
def C_bea (v : Nat → Int) (a bo ot : Int) : Nat → Int := a_cnt (fun i => if a ≠ (i : Int) ∧ a_f0 v a i bo ot = 3 then 1 else 0)
def V_beaten (v : Nat → Int) (a bo ot : Int) : Int := if a_mb v a bo ot then C_bea v a bo ot (v 7).toNat else -2
theorem x_beaten {e n : Nat} {im : Nat → Option Nat} {w u : Nat → Nat → Int} {v : Nat → Int} {a bo ot : Int} (hv : c_v w v) (hw : a_wf v) (ha : jR a) (hbo : jR bo) (hot : jR ot) : ∃ w', (z_F (e + 20)).1 k_LongBoats_beaten [.ref 0, .int (Int32.ofInt a), .int (Int32.ofInt bo), .int (Int32.ofInt ot)] (n, z_q im, jM w, jL u) = some (Int32.ofInt (V_beaten v a bo ot), jM w', jL u) ∧ c_fr w w' := by
  obtain ⟨f0, f1, f2, f3, f4, f5, f6, f7, f8, f9, f10, f11, f12⟩ := id hw
  obtain ⟨g0, g1, g2, g3, g4, g5, g6, g7, g8, g9, h5, h7, h9⟩ := id hv
  unfold V_beaten
  by_cases h : a_mb v a bo ot
  · rw [if_pos h]
    obtain ⟨s1, s4, s5⟩ := id h
    obtain ⟨t, ht, wf, rfl, hvf, hff⟩ := z_for (o := z_F (e + 19)) (cd := cd_LongBoats_beaten) (P := fun i s => ∃ wi, s = (18, [some (.ref 0), some (.int (Int32.ofInt a)), some (.int (Int32.ofInt bo)), some (.int (Int32.ofInt ot)), some (.int (Int32.ofInt (C_bea v a bo ot i))), some (.int (Int32.ofInt (i : Int)))], (n, z_q im, jM wi, jL u)) ∧ c_v wi v ∧ c_fr w wi) (v 7).toNat (s := (18, [some (.ref 0), some (.int (Int32.ofInt a)), some (.int (Int32.ofInt bo)), some (.int (Int32.ofInt ot)), some (.int (Int32.ofInt 0)), some (.int (Int32.ofInt 0))], (n, z_q im, jM w, jL u))) ⟨w, rfl, hv, c_fr_rf w⟩ (fun i s hi hs => by
      obtain ⟨wi, rfl, hvi, hfi⟩ := hs
      obtain ⟨w2, q1, q2, q3⟩ := x_firstFate (e := e + 13) (n := n) (im := im) (u := u) (b := (i : Int)) hvi hw s1 (by omega) s4 s5
      refine ⟨(18, [some (.ref 0), some (.int (Int32.ofInt a)), some (.int (Int32.ofInt bo)), some (.int (Int32.ofInt ot)), some (.int (Int32.ofInt (C_bea v a bo ot (i + 1)))), some (.int (Int32.ofInt ((i : Int) + 1)))], (n, z_q im, jM w2, jL u)), z_To_1 ((e_LongBoats_beaten_18 ..).trans ?_), w2, rfl, q2, c_fr_tr hfi q3⟩
      have hi8 := hvi.2.2.2.2.2.2.2.2.1
      have hfb := a_ft_b (a_kd (v 3) (v 4) (v 1)) (a_T v a) (a_T v (i : Int)) (a_sp v bo ot) 0 0
      change 0 ≤ a_f0 v a i bo ot ∧ a_f0 v a i bo ot ≤ 3 at hfb
      simp only [jM_at, hi8, q1, z_oI_s]
      have hx : C_bea v a bo ot (i + 1) = C_bea v a bo ot i + (if a ≠ (i : Int) ∧ a_f0 v a i bo ot = 3 then 1 else 0) := rfl
      rw [hx]
      by_cases h1 : a = (i : Int)
      · rw [if_pos h1, if_neg (c := a ≠ (i : Int) ∧ _) (fun q => q.1 h1)]
        simp (disch := omega) only [ji_le, ji_eq, ji_add]
        rw [if_neg (by omega), if_neg (by decide)]
      · rw [if_neg h1]
        simp (disch := omega) only [ji_le, ji_eq, ji_add]
        rw [if_neg (by omega)]
        by_cases h2 : a_f0 v a i bo ot = 3
        · rw [if_pos h2, if_pos ⟨h1, h2⟩]
        · rw [if_neg h2, if_neg (fun q => h2 q.2)])
    refine ⟨wf, n_LongBoats_beaten (z_go ((e_LongBoats_beaten_0 ..).trans ?_) (ht _ (z_ret ((e_LongBoats_beaten_18 ..).trans ?_)))), hff⟩
    · simp (disch := omega) only [s_hasMan_3, s_hasBoats, z_oI_s, ji_b, g7, g8]
      rw [if_neg (by omega), if_neg (by omega)]
    · simp (disch := omega) only [jM_at, hvf.2.2.2.2.2.2.2.2.1, ji_le]
      rw [if_pos (by omega)]
  · refine ⟨w, n_LongBoats_beaten (z_ret ((e_LongBoats_beaten_0 ..).trans ?_)), c_fr_rf w⟩
    rw [if_neg h]
    simp (disch := omega) only [s_hasMan_3, s_hasBoats, z_oI_s, ji_b, g7, g8]
    (repeat' split) <;> first | rfl | (exfalso; omega)
theorem m_beaten {e n : Nat} {im : Nat → Option Nat} {w u : Nat → Nat → Int} {a bo ot : Int} (hw : a_wf (w 46)) (ha : jR a) (hbo : jR bo) (hot : jR ot) : (z_F (e + 20)).1 k_Model_beaten [.ref 45, .int (Int32.ofInt a), .int (Int32.ofInt bo), .int (Int32.ofInt ot)] (n, z_q im, jM w, jL u) = some (Int32.ofInt (V_beaten (w 46) a bo ot), jM w, jL u) := by
  obtain ⟨f0, f1, f2, f3, f4, f5, f6, f7, f8, f9, f10, f11, f12⟩ := id hw
  unfold V_beaten
  by_cases h : a_mb (w 46) a bo ot
  · rw [if_pos h]
    obtain ⟨s1, s4, s5⟩ := id h
    have b1 := f10 bo s4.1 s4.2
    have b2 := f10 ot s5.1 s5.2
    have spb := a_sp_b b1 b2 f0
    obtain ⟨t, ht, rfl⟩ := z_for (o := z_F (e + 19)) (cd := cd_Model_beaten) (P := fun i s => s = (20, [some (.ref 45), some (.int (Int32.ofInt a)), some (.int (Int32.ofInt bo)), some (.int (Int32.ofInt ot)), some (.int (Int32.ofInt (C_bea (w 46) a bo ot i))), some (.int (Int32.ofInt (i : Int)))], (n, z_q im, jM w, jL u))) (w 46 7).toNat (s := (20, [some (.ref 45), some (.int (Int32.ofInt a)), some (.int (Int32.ofInt bo)), some (.int (Int32.ofInt ot)), some (.int (Int32.ofInt 0)), some (.int (Int32.ofInt 0))], (n, z_q im, jM w, jL u))) rfl (fun i s hi hs => by
      subst hs
      refine ⟨(20, [some (.ref 45), some (.int (Int32.ofInt a)), some (.int (Int32.ofInt bo)), some (.int (Int32.ofInt ot)), some (.int (Int32.ofInt (C_bea (w 46) a bo ot (i + 1)))), some (.int (Int32.ofInt ((i : Int) + 1)))], (n, z_q im, jM w, jL u)), z_To_1 ((e_Model_beaten_20 ..).trans ?_), rfl⟩
      have hfb := a_ft_b (a_kd (w 46 3) (w 46 4) (w 46 1)) (a_T (w 46) a) (a_T (w 46) (i : Int)) (a_sp (w 46) bo ot) 0 0
      change 0 ≤ a_f0 (w 46) a i bo ot ∧ a_f0 (w 46) a i bo ot ≤ 3 at hfb
      have hx : C_bea (w 46) a bo ot (i + 1) = C_bea (w 46) a bo ot i + (if a ≠ (i : Int) ∧ a_f0 (w 46) a i bo ot = 3 then 1 else 0) := rfl
      rw [hx, s_speedOf (by omega) (by omega) (by omega) (by omega) b1 b2 f0, z_oI_s]
      simp only [jM_at]
      rw [s_whyOf (by omega) (by omega) (by omega) (by omega) (f11 a s1.1 s1.2) (f11 i (by omega) (by omega)) (by omega) (by decide) (by decide) (by omega) (by omega) (by omega), z_oI_s]
      change (if _ then _ else if _ then _ else if Int32.ofInt (a_f0 (w 46) a i bo ot) = _ then _ else _) = _
      simp (disch := omega) only [ji_le, ji_eq, ji_add]
      rw [if_neg (by omega)]
      by_cases h1 : a = (i : Int)
      · rw [if_pos h1.symm, if_neg (fun q => q.1 h1)]
      · rw [if_neg (fun q => h1 q.symm)]
        by_cases h2 : a_f0 (w 46) a i bo ot = 3
        · rw [if_pos h2, if_pos ⟨h1, h2⟩]
        · rw [if_neg h2, if_neg (fun q => h2 q.2)])
    refine n_Model_beaten (z_go ((e_Model_beaten_0 ..).trans ?_) (ht _ (z_ret ((e_Model_beaten_20 ..).trans ?_))))
    · simp (disch := omega) only [jl_of, s_isMan, s_isBoat, z_oI_s, ji_b]
      rw [if_neg (by omega), if_neg (by omega), if_neg (by omega)]
    · simp (disch := omega) only [ji_le, jM_at]
      rw [if_pos (by omega)]
  · refine n_Model_beaten (z_ret ((e_Model_beaten_0 ..).trans ?_))
    rw [if_neg h]
    simp (disch := omega) only [jl_of, s_isMan, s_isBoat, z_oI_s, ji_b]
    (repeat' split) <;> first | rfl | (exfalso; omega)

def p_wea (v : Nat → Int) (a b bo ot : Int) (k : Nat) : Int := if a_fo (a_T v a) (a_sp v bo ot) k ≤ a_st (a_T v b) (a_T v a 5) (a_sp v bo ot) 0 then (k : Int) else -1
def V_weary (v : Nat → Int) (a b bo ot : Int) : Int := if a_so v a b bo ot then a_f1 (p_wea v a b bo ot) 0 100 else -2
theorem x_weary {e n : Nat} {im : Nat → Option Nat} {w u : Nat → Nat → Int} {v : Nat → Int} {a b bo ot : Int} (hv : c_v w v) (hw : a_wf v) (ha : jR a) (hb : jR b) (hbo : jR bo) (hot : jR ot) : ∃ w', (z_F (e + 20)).1 k_LongBoats_weary [.ref 0, .int (Int32.ofInt a), .int (Int32.ofInt b), .int (Int32.ofInt bo), .int (Int32.ofInt ot)] (n, z_q im, jM w, jL u) = some (Int32.ofInt (V_weary v a b bo ot), jM w', jL u) ∧ c_fr w w' := by
  obtain ⟨f0, f1, f2, f3, f4, f5, f6, f7, f8, f9, f10, f11, f12⟩ := id hw
  unfold V_weary
  by_cases h : a_so v a b bo ot
  · rw [if_pos h]
    obtain ⟨w2, q1, q2, q3, q4, q5, q6, q7⟩ := x_faces_y (e := e + 14) (n := n) (im := im) (u := u) hv hw h
    obtain ⟨d1, d2, d3, d4, d5, d6, d7, d8, d9, d10⟩ := q2
    have t5 := q5.2.2.2.2.2
    have hb := a_st_b (fa := w2 26 5) (p := 0) q6 q7 (by decide)
    have hS : a_st (w2 27) (w2 26 5) (w2 25 9) 0 = a_st (a_T v b) (a_T v a 5) (a_sp v bo ot) 0 := by rw [a_st_cg d2, d3, d1 5 (by decide)]
    have hF : ∀ k : Int, a_fo (w2 26) (w2 25 9) k = a_fo (a_T v a) (a_sp v bo ot) k := fun k => by rw [a_fo_cg d1, d3]
    refine ⟨w2, ?_, q4⟩
    have key := z_fnd (o := z_F (e + 19)) (cd := cd_LongBoats_weary) (p := p_wea v a b bo ot) (P := fun k s => s = (25, [some (.ref 0), some (.int (Int32.ofInt a)), some (.int (Int32.ofInt b)), some (.int (Int32.ofInt bo)), some (.int (Int32.ofInt ot)), some (.int (Int32.ofInt (a_st (w2 27) (w2 26 5) (w2 25 9) 0))), some (.int (Int32.ofInt (k : Int)))], (n, z_q im, jM w2, jL u))) (Q := fun x r => r = (some (.int (Int32.ofInt x)), (n, z_q im, jM w2, jL u))) 100 0 (25, [some (.ref 0), some (.int (Int32.ofInt a)), some (.int (Int32.ofInt b)), some (.int (Int32.ofInt bo)), some (.int (Int32.ofInt ot)), some (.int (Int32.ofInt (a_st (w2 27) (w2 26 5) (w2 25 9) 0))), some (.int (Int32.ofInt 0))], (n, z_q im, jM w2, jL u)) rfl (fun k s hk1 hk2 hs => by
      subst hs
      have hf := a_fo_b (p := (k : Int)) q5 q7 (by omega)
      have hx : z_ex none (z_F (e + 19)) cd_LongBoats_weary 4000 (cd_LongBoats_weary.drop 25) 25 [some (.ref 0), some (.int (Int32.ofInt a)), some (.int (Int32.ofInt b)), some (.int (Int32.ofInt bo)), some (.int (Int32.ofInt ot)), some (.int (Int32.ofInt (a_st (w2 27) (w2 26 5) (w2 25 9) 0))), some (.int (Int32.ofInt (k : Int)))] [] (n, z_q im, jM w2, jL u) = if a_st (w2 27) (w2 26 5) (w2 25 9) 0 < a_fo (w2 26) (w2 25 9) k then some (.inr (25, [some (.ref 0), some (.int (Int32.ofInt a)), some (.int (Int32.ofInt b)), some (.int (Int32.ofInt bo)), some (.int (Int32.ofInt ot)), some (.int (Int32.ofInt (a_st (w2 27) (w2 26 5) (w2 25 9) 0))), some (.int (Int32.ofInt ((k : Int) + 1)))], [], (n, z_q im, jM w2, jL u))) else some (.inl (some (.int (Int32.ofInt k)), (n, z_q im, jM w2, jL u))) := by
        refine (e_LongBoats_weary_25 ..).trans ?_
        simp only [jM_at]
        rw [s_thrust_26 q5 q7 (by omega), z_oI_s]
        simp (disch := omega) only [ji_lt, ji_add]
        rw [if_neg (by omega)]
      refine ⟨fun hp => ⟨(25, [some (.ref 0), some (.int (Int32.ofInt a)), some (.int (Int32.ofInt b)), some (.int (Int32.ofInt bo)), some (.int (Int32.ofInt ot)), some (.int (Int32.ofInt (a_st (w2 27) (w2 26 5) (w2 25 9) 0))), some (.int (Int32.ofInt ((k : Int) + 1)))], (n, z_q im, jM w2, jL u)), z_To_1 ?_, rfl⟩, fun hp => ⟨(some (.int (Int32.ofInt k)), (n, z_q im, jM w2, jL u)), z_ret ?_, ?_⟩⟩
      · rw [hx, if_pos]
        unfold p_wea at hp
        rw [hS, hF]
        split at hp <;> omega
      · rw [hx, if_neg]
        unfold p_wea at hp
        rw [hS, hF]
        split at hp <;> omega
      · unfold p_wea at hp ⊢
        split at hp
        · rename_i h9
          rw [if_pos h9]
        · omega)
    refine n_LongBoats_weary (z_go (ip' := 25) (lv' := [some (.ref 0), some (.int (Int32.ofInt a)), some (.int (Int32.ofInt b)), some (.int (Int32.ofInt bo)), some (.int (Int32.ofInt ot)), some (.int (Int32.ofInt (a_st (w2 27) (w2 26 5) (w2 25 9) 0))), some (.int (Int32.ofInt 0))]) (m' := (n, z_q im, jM w2, jL u)) ((e_LongBoats_weary_0 ..).trans ?_) ?_)
    · rw [q1, z_oI_s, if_neg jc_1]
      simp only [jM_at]
      rw [s_hold_27 q6 q7 (by decide) (by omega), z_oI_s]
    · rcases key with ⟨k1, t, k2, rfl⟩ | ⟨k1, r, k2, rfl⟩
      · refine k2 _ (z_ret ((e_LongBoats_weary_25 ..).trans ?_))
        rw [k1]
        rfl
      · exact k2
  · refine ⟨w, n_LongBoats_weary (z_ret ((e_LongBoats_weary_0 ..).trans ?_)), c_fr_rf w⟩
    rw [if_neg h, x_faces_n hv hw ha hb hbo hot h, z_oI_s]
    rfl
theorem m_weary {e n : Nat} {im : Nat → Option Nat} {w u : Nat → Nat → Int} {a b bo ot : Int} (hw : a_wf (w 46)) (ha : jR a) (hb : jR b) (hbo : jR bo) (hot : jR ot) : (z_F (e + 20)).1 k_Model_weary [.ref 45, .int (Int32.ofInt a), .int (Int32.ofInt b), .int (Int32.ofInt bo), .int (Int32.ofInt ot)] (n, z_q im, jM w, jL u) = some (Int32.ofInt (V_weary (w 46) a b bo ot), jM w, jL u) := by
  obtain ⟨f0, f1, f2, f3, f4, f5, f6, f7, f8, f9, f10, f11, f12⟩ := id hw
  unfold V_weary
  by_cases h : a_so (w 46) a b bo ot
  · rw [if_pos h]
    obtain ⟨s1, s2, s3, s4, s5⟩ := id h
    have b1 := f10 bo s4.1 s4.2
    have b2 := f10 ot s5.1 s5.2
    have spb := a_sp_b b1 b2 f0
    have ta := f11 a s1.1 s1.2
    have tb := f11 b s2.1 s2.2
    have hb := a_st_b (fa := a_T (w 46) a 5) (sp := a_sp (w 46) bo ot) (p := 0) tb (by omega) (by decide)
    have key := z_fnd (o := z_F (e + 19)) (cd := cd_Model_weary) (p := p_wea (w 46) a b bo ot) (P := fun k s => s = (12, [some (.ref 45), some (.int (Int32.ofInt a)), some (.int (Int32.ofInt b)), some (.int (Int32.ofInt bo)), some (.int (Int32.ofInt ot)), some (.int (Int32.ofInt (k : Int)))], (n, z_q im, jM w, jL u))) (Q := fun x r => r = (some (.int (Int32.ofInt x)), (n, z_q im, jM w, jL u))) 100 0 (12, [some (.ref 45), some (.int (Int32.ofInt a)), some (.int (Int32.ofInt b)), some (.int (Int32.ofInt bo)), some (.int (Int32.ofInt ot)), some (.int (Int32.ofInt 0))], (n, z_q im, jM w, jL u)) rfl (fun k s hk1 hk2 hs => by
      subst hs
      have hf := a_fo_b (sp := a_sp (w 46) bo ot) (p := (k : Int)) ta (by omega) (by omega)
      have hx : z_ex none (z_F (e + 19)) cd_Model_weary 4000 (cd_Model_weary.drop 12) 12 [some (.ref 45), some (.int (Int32.ofInt a)), some (.int (Int32.ofInt b)), some (.int (Int32.ofInt bo)), some (.int (Int32.ofInt ot)), some (.int (Int32.ofInt (k : Int)))] [] (n, z_q im, jM w, jL u) = if 0 < a_fo (a_T (w 46) a) (a_sp (w 46) bo ot) k - a_st (a_T (w 46) b) (a_T (w 46) a 5) (a_sp (w 46) bo ot) 0 then some (.inr (12, [some (.ref 45), some (.int (Int32.ofInt a)), some (.int (Int32.ofInt b)), some (.int (Int32.ofInt bo)), some (.int (Int32.ofInt ot)), some (.int (Int32.ofInt ((k : Int) + 1)))], [], (n, z_q im, jM w, jL u))) else some (.inl (some (.int (Int32.ofInt k)), (n, z_q im, jM w, jL u))) := by
        refine (e_Model_weary_12 ..).trans ?_
        rw [s_speedOf (by omega) (by omega) (by omega) (by omega) b1 b2 f0, z_oI_s, s_marginOf (by omega) (by omega) (by omega) (by omega) ta tb (by omega) (by omega) (by decide), z_oI_s]
        simp (disch := omega) only [ji_le, ji_0lt, ji_add]
        rw [if_neg (by omega)]
      refine ⟨fun hp => ⟨(12, [some (.ref 45), some (.int (Int32.ofInt a)), some (.int (Int32.ofInt b)), some (.int (Int32.ofInt bo)), some (.int (Int32.ofInt ot)), some (.int (Int32.ofInt ((k : Int) + 1)))], (n, z_q im, jM w, jL u)), z_To_1 ?_, rfl⟩, fun hp => ⟨(some (.int (Int32.ofInt k)), (n, z_q im, jM w, jL u)), z_ret ?_, ?_⟩⟩
      · rw [hx, if_pos]
        unfold p_wea at hp
        split at hp <;> omega
      · rw [hx, if_neg]
        unfold p_wea at hp
        split at hp <;> omega
      · unfold p_wea at hp ⊢
        split at hp
        · rename_i h9
          rw [if_pos h9]
        · omega)
    refine n_Model_weary (z_go (ip' := 12) (lv' := [some (.ref 45), some (.int (Int32.ofInt a)), some (.int (Int32.ofInt b)), some (.int (Int32.ofInt bo)), some (.int (Int32.ofInt ot)), some (.int (Int32.ofInt 0))]) (m' := (n, z_q im, jM w, jL u)) ((e_Model_weary_0 ..).trans ?_) ?_)
    · simp (disch := omega) only [s_areSo, z_oI_s, ji_b]
      rw [if_neg (not_not_intro h)]
    · rcases key with ⟨k1, t, k2, rfl⟩ | ⟨k1, r, k2, rfl⟩
      · refine k2 _ (z_ret ((e_Model_weary_12 ..).trans ?_))
        rw [k1]
        rfl
      · exact k2
  · refine n_Model_weary (z_ret ((e_Model_weary_0 ..).trans ?_))
    rw [if_neg h]
    simp (disch := omega) only [s_areSo, z_oI_s, ji_b]
    rw [if_pos h]
