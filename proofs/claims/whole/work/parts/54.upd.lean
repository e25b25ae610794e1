/-! the world's row changed in a place; the first of the best -/
def a_up (v : Nat → Int) (k : Nat) (x : Int) : Nat → Int := fun i => if i = k then x else v i
theorem a_up_ne {v : Nat → Int} {k i : Nat} {x : Int} (h : i ≠ k) : a_up v k x i = v i := if_neg h
theorem a_up_eq {v : Nat → Int} {k : Nat} {x : Int} : a_up v k x k = x := if_pos rfl
theorem zu_row (w : Nat → Nat → Int) (c k : Nat) (x : Int) : z_u w c k x c = a_up (w c) k x := funext fun i => z_u_at w c k i x
theorem zu_self (w : Nat → Nat → Int) (c k : Nat) : z_u w c k (w c k) = w := by
  funext a b
  simp only [z_u]
  split
  · split
    · rename_i h1 h2; rw [h1, h2]
    · rfl
  · rfl
/-- alike but in a row's places -/
def a_ag (w wi : Nat → Nat → Int) (c : Nat) (K : Nat → Prop) : Prop := (∀ d, d ≠ c → wi d = w d) ∧ ∀ k, ¬ K k → wi c k = w c k
theorem a_ag_rf (w : Nat → Nat → Int) (c : Nat) (K : Nat → Prop) : a_ag w w c K := ⟨fun _ _ => rfl, fun _ _ => rfl⟩
theorem a_ag_u {w wi : Nat → Nat → Int} {c k : Nat} {K : Nat → Prop} (h : a_ag w wi c K) (hk : K k) (x : Int) : a_ag w (z_u wi c k x) c K := by
  refine ⟨fun d hd => by rw [z_u_ne hd]; exact h.1 d hd, fun j hj => ?_⟩
  rw [z_u_at, if_neg (fun q => hj (by rw [q]; exact hk))]
  exact h.2 j hj
theorem zz1 {w wi : Nat → Nat → Int} {c k : Nat} (h : a_ag w wi c (fun j => j = k)) (x : Int) : z_u wi c k x = z_u w c k x := by
  funext a b
  simp only [z_u]
  split
  · rename_i ha
    split
    · rfl
    · rename_i hb
      rw [ha]; exact h.2 b hb
  · rename_i ha
    rw [h.1 a ha]
theorem zz2 {w wi : Nat → Nat → Int} {c k l : Nat} (h : a_ag w wi c (fun j => j = k ∨ j = l)) (x y : Int) : z_u (z_u wi c k x) c l y = z_u (z_u w c k x) c l y := by
  funext a b
  simp only [z_u]
  split
  · rename_i ha
    split
    · rfl
    · rename_i hb
      split
      · rfl
      · rename_i hb2
        rw [ha]; exact h.2 b (by omega)
  · rename_i ha
    rw [h.1 a ha]
def a_s1 (t : Nat → Int) (j : Nat) (x : Int) : Nat → Int := fun i => if i = j then x else t i
theorem T_up {v : Nat → Int} {a : Int} {j : Nat} {x : Int} (i : Nat) : a_T (a_up v (18 + 6 * a.toNat + j) x) a i = a_s1 (a_T v a) j x i := by
  unfold a_T a_up a_s1
  by_cases h : i = j
  · rw [if_pos (by omega), if_pos h]
  · rw [if_neg (by omega), if_neg h]
theorem T_up_ne {v : Nat → Int} {a b : Int} {j : Nat} {x : Int} (ha : 0 ≤ a) (hb : 0 ≤ b) (hab : a ≠ b) (hj : j < 6) : ∀ i, i < 6 → a_T (a_up v (18 + 6 * a.toNat + j) x) b i = a_T v b i := by
  intro i hi
  unfold a_T
  exact a_up_ne (by omega)
theorem wf_tr {v : Nat → Int} {a : Int} {j : Nat} {x : Int} (hw : a_wf v) (h0 : 0 ≤ a) (h1 : a < v 7) (hj : j < 6) (hx : a_tr (a_s1 (a_T v a) j x)) : a_wf (a_up v (18 + 6 * a.toNat + j) x) := by
  obtain ⟨f0, f1, f2, f3, f4, f5, f6, f7, f8, f9, f10, f11, f12⟩ := id hw
  have lo : ∀ i, i < 18 → a_up v (18 + 6 * a.toNat + j) x i = v i := fun i hi => a_up_ne (by omega)
  have hi : ∀ i, 78 ≤ i → a_up v (18 + 6 * a.toNat + j) x i = v i := fun i hi => a_up_ne (by omega)
  unfold a_wf
  rw [lo 0 (by decide), lo 1 (by decide), lo 2 (by decide), lo 3 (by decide), lo 4 (by decide), lo 5 (by decide), lo 6 (by decide), lo 7 (by decide), lo 8 (by decide), lo 9 (by decide)]
  refine ⟨f0, f1, f2, f3, f4, f5, f6, f7, f8, f9, fun b hb hb2 => ?_, fun c hc hc2 => ?_, fun t ht ht2 => ?_⟩
  · unfold a_bo
    rw [lo _ (by omega), lo _ (by omega)]
    exact f10 b hb hb2
  · by_cases hca : a = c
    · subst hca
      exact a_tr_cg (fun i _ => T_up i) hx
    · exact a_tr_cg (T_up_ne h0 hc hca hj) (f11 c hc hc2)
  · have := f12 t ht ht2
    unfold a_te at this ⊢
    simp only [hi (78 + 7 * t.toNat) (by omega), hi (78 + 7 * t.toNat + 1) (by omega), lo 6 (by decide), lo 7 (by decide), fun i : Int => hi (78 + 7 * t.toNat + 2 + i.toNat) (by omega)]
    exact this
theorem wf_bo {v : Nat → Int} {b : Int} {j : Nat} {x : Int} (hw : a_wf v) (h0 : 0 ≤ b) (h1 : b < v 6) (hj : j < 2) (hx : if j = 0 then 2 ≤ x ∧ x ≤ 12 else 0 ≤ x ∧ x ≤ 4) : a_wf (a_up v (10 + 2 * b.toNat + j) x) := by
  obtain ⟨f0, f1, f2, f3, f4, f5, f6, f7, f8, f9, f10, f11, f12⟩ := id hw
  have lo : ∀ i, i < 10 → a_up v (10 + 2 * b.toNat + j) x i = v i := fun i hi => a_up_ne (by omega)
  have hi : ∀ i, 18 ≤ i → a_up v (10 + 2 * b.toNat + j) x i = v i := fun i hi => a_up_ne (by omega)
  unfold a_wf
  rw [lo 0 (by decide), lo 1 (by decide), lo 2 (by decide), lo 3 (by decide), lo 4 (by decide), lo 5 (by decide), lo 6 (by decide), lo 7 (by decide), lo 8 (by decide), lo 9 (by decide)]
  refine ⟨f0, f1, f2, f3, f4, f5, f6, f7, f8, f9, fun c hc hc2 => ?_, fun c hc hc2 => ?_, fun t ht ht2 => ?_⟩
  · have q := f10 c hc hc2
    unfold a_bo at q ⊢
    by_cases hcb : c = b
    · subst hcb
      by_cases hj0 : j = 0
      · subst hj0
        simp only [Nat.add_zero, a_up_eq]
        rw [a_up_ne (by omega)]
        exact ⟨hx, q.2⟩
      · have : j = 1 := by omega
        subst this
        rw [a_up_eq, a_up_ne (by omega)]
        exact ⟨q.1, hx⟩
    · rw [a_up_ne (by omega), a_up_ne (by omega)]
      exact q
  · exact a_tr_cg (fun i _ => by unfold a_T; exact hi _ (by omega)) (f11 c hc hc2)
  · have := f12 t ht ht2
    unfold a_te at this ⊢
    simp only [hi (78 + 7 * t.toNat) (by omega), hi (78 + 7 * t.toNat + 1) (by omega), lo 6 (by decide), lo 7 (by decide), fun i : Int => hi (78 + 7 * t.toNat + 2 + i.toNat) (by omega)]
    exact this
theorem a_gn_cg {v v' : Nat → Int} {t t' f f' : Nat → Int} {sp bo ot : Int} (h3 : v' 3 = v 3) (h4 : v' 4 = v 4) (h1 : v' 1 = v 1) (hb : v' (10 + 2 * bo.toNat + 1) = (v (10 + 2 * bo.toNat + 1))) (ho : v' (10 + 2 * ot.toNat + 1) = (v (10 + 2 * ot.toNat + 1))) (h : ∀ j, j < 6 → t' j = t j) (h2 : ∀ j, j < 6 → f' j = f j) : a_gn v' t' f' sp bo ot = a_gn v t f sp bo ot := by
  unfold a_gn
  rw [h3, h4, h1, hb, ho]
  exact a_gk_cg h h2 _ _ _ _
theorem a_sp_cg {v v' : Nat → Int} {bo ot : Int} (h0 : v' 0 = v 0) (hb : v' (10 + 2 * bo.toNat) = v (10 + 2 * bo.toNat)) (ho : v' (10 + 2 * ot.toNat) = v (10 + 2 * ot.toNat)) : a_sp v' bo ot = a_sp v bo ot := by
  unfold a_sp
  rw [h0, hb, ho]
theorem a_sum_c (c : Int) : ∀ (m : Nat) (x : Int), a_sum (fun _ => c) x m = c * m
  | 0, _ => by simp [a_sum]
  | m + 1, x => by
    simp only [a_sum]
    rw [a_sum_c c m (x + 1), Int.natCast_add, Int.mul_add]
    simp; omega
theorem a_cm_s {lo hi g s1 s2 : Int} (h1 : 0 ≤ s1) (h2 : 0 ≤ s2) : a_cm lo hi g s1 s2 0 + a_cm lo hi g s1 s2 1 + a_cm lo hi g s1 s2 2 = a_pp s1 s2 := by
  unfold a_cm
  rw [← a_sl_add, ← a_sl_add]
  have : a_sl s1 s2 (fun x y => (if a_kd lo hi (g + x - y) = 0 then 1 else 0) + (if a_kd lo hi (g + x - y) = 1 then 1 else 0) + (if a_kd lo hi (g + x - y) = 2 then 1 else 0)) = a_sl s1 s2 (fun _ _ => 1) := a_sl_cg (fun x y => by
    have := a_kd_b lo hi (g + x - y)
    (repeat' split) <;> omega) s1 s2
  rw [this]
  unfold a_sl a_pp
  rw [a_sum_cg (fun x => a_sum_c 1 _ _), a_sum_c, Int.mul_comm]
  have e1 : ((2 * s1 + 1).toNat : Int) = 2 * s1 + 1 := by omega
  have e2 : ((2 * s2 + 1).toNat : Int) = 2 * s2 + 1 := by omega
  rw [e1, e2, Int.one_mul]
theorem a_gn_l {v : Nat → Int} {t f : Nat → Int} {sp bo ot : Int} (hb : a_bo v bo) (ho : a_bo v ot) : -a_pp (v (10 + 2 * bo.toNat + 1)) (v (10 + 2 * ot.toNat + 1)) ≤ a_gn v t f sp bo ot := by
  have h := a_cm_s (lo := v 3) (hi := v 4) (g := v 1) hb.2.1 ho.2.1
  have c0 := a_cm_b (lo := v 3) (hi := v 4) (g := v 1) (k := 0) hb.2 ho.2
  have c1 := a_cm_b (lo := v 3) (hi := v 4) (g := v 1) (k := 1) hb.2 ho.2
  have c2 := a_cm_b (lo := v 3) (hi := v 4) (g := v 1) (k := 2) hb.2 ho.2
  have hm : ∀ r c : Int, 0 ≤ c → -c ≤ a_gb r * c := by
    intro r c hc
    unfold a_gb
    (repeat' split) <;> omega
  unfold a_gn a_gk
  have q0 := hm (a_rs 0 t f sp 0 0) _ c0.1
  have q1 := hm (a_rs 1 t f sp 0 0) _ c1.1
  have q2 := hm (a_rs 2 t f sp 0 0) _ c2.1
  omega
def a_am (F : Int → Int) (lo b m : Int) : Nat → Int × Int
  | 0 => (b, m)
  | i + 1 => if (a_am F lo b m i).2 < F (lo + i) then (lo + i, F (lo + i)) else a_am F lo b m i
theorem a_am_eq {F : Int → Int} {lo b m b' m' : Int} (h : m < F lo) (h' : m' < F lo) : ∀ i, a_am F lo b m (i + 1) = a_am F lo b' m' (i + 1)
  | 0 => by
    have e : lo + ((0 : Nat) : Int) = lo := by simp
    simp only [a_am, e]
    rw [if_pos h, if_pos h']
  | i + 1 => by
    rw [a_am, a_am_eq h h' i]
    rfl
theorem a_am_r {F : Int → Int} {lo b m : Int} (hF : ∀ x, -1000 ≤ F x ∧ F x ≤ 1000) (hm : -1000000 ≤ m ∧ m ≤ 1000) (hl : 0 ≤ lo ∧ lo ≤ 1000) (hb : -1 ≤ b ∧ b ≤ 1000) : ∀ i, (-1000000 ≤ (a_am F lo b m i).2 ∧ (a_am F lo b m i).2 ≤ 1000) ∧ (-1 ≤ (a_am F lo b m i).1 ∧ (a_am F lo b m i).1 ≤ 1000 + i)
  | 0 => by simp only [a_am]; omega
  | i + 1 => by
    have := a_am_r hF hm hl hb i
    have h2 := hF (lo + i)
    simp only [a_am]
    split
    · dsimp only; omega
    · omega
/-- a man's choice -/
def a_ch (t : Nat → Int) (c : Int) : Nat → Int := a_s1 (a_s1 t 4 (c / 2)) 5 (c % 2)
theorem ch_tr {t : Nat → Int} {c : Int} (ht : a_tr t) (h0 : 0 ≤ c) (h9 : c ≤ 9) : a_tr (a_ch t c) := by
  unfold a_tr at *
  simp [a_ch, a_s1]
  omega
theorem ch_tr4 {t : Nat → Int} {c : Int} (ht : a_tr t) (h0 : 0 ≤ c) (h9 : c ≤ 9) : a_tr (a_s1 t 4 (c / 2)) := by
  unfold a_tr at *
  simp [a_s1]
  omega
theorem we_tr {t : Nat → Int} {c : Int} (ht : a_tr t) (h0 : 40 ≤ c) (h9 : c ≤ 200) : a_tr (a_s1 t 0 c) := by
  unfold a_tr at *
  simp [a_s1]
  omega
theorem ji_m2 {c : Int} (h0 : 0 ≤ c) (h9 : c ≤ 1000) : Int32.ofInt c - Int32.ofInt c / Int32.ofInt 2 * Int32.ofInt 2 = Int32.ofInt (c % 2) := by
  rw [ji_ediv h0 (by omega) (by decide) (by decide), ji_mul, ji_sub]
  congr 1
  omega
theorem s_choose_26 {e n : Nat} {im : Nat → Option Nat} {w u : Nat → Nat → Int} {c : Int} (h0 : 0 ≤ c) (h9 : c ≤ 9) : (z_F (e + 1)).2.2.1 k_Fighter_choose [.ref 26, .int (Int32.ofInt c)] (n, z_q im, jM w, jL u) = some (jM (z_u (z_u w 26 4 (c / 2)) 26 5 (c % 2)), jL u) := by
  refine q_Fighter_choose_26 ?_
  rw [ji_m2 h0 (by omega)]
  simp (disch := omega) only [ji_ediv, jM_u, ji_eq0]
  split
  · rename_i h; rw [h]
  · have : c % 2 = 1 := by omega
    rw [this]
theorem s_choose_27 {e n : Nat} {im : Nat → Option Nat} {w u : Nat → Nat → Int} {c : Int} (h0 : 0 ≤ c) (h9 : c ≤ 9) : (z_F (e + 1)).2.2.1 k_Fighter_choose [.ref 27, .int (Int32.ofInt c)] (n, z_q im, jM w, jL u) = some (jM (z_u (z_u w 27 4 (c / 2)) 27 5 (c % 2)), jL u) := by
  refine q_Fighter_choose_27 ?_
  rw [ji_m2 h0 (by omega)]
  simp (disch := omega) only [ji_ediv, jM_u, ji_eq0]
  split
  · rename_i h; rw [h]
  · have : c % 2 = 1 := by omega
    rw [this]
theorem s_mset {e n : Nat} {im : Nat → Option Nat} {w u : Nat → Nat → Int} {a x : Int} {j : Nat} (h0 : 0 ≤ a) (h9 : a ≤ 9) (hj : j < 6) : (z_F (e + 1)).2.2.1 k_Model_set [.ref 45, .int (Int32.ofInt a), .int (Int32.ofInt j), .int (Int32.ofInt x)] (n, z_q im, jM w, jL u) = some (jM (z_u w 46 (18 + 6 * a.toNat + j) x), jL u) := by
  refine q_Model_set ?_
  simp (disch := omega) only [ji_mul, ji_add, ji_lt0, ji_nat, jM_u]
  rw [if_neg (by omega)]
  have : (18 + 6 * a + (j : Int)).toNat = 18 + 6 * a.toNat + j := by omega
  rw [this]
theorem s_mset_0 {e n : Nat} {im : Nat → Option Nat} {w u : Nat → Nat → Int} {a x : Int} (h0 : 0 ≤ a) (h9 : a ≤ 9) : (z_F (e + 1)).2.2.1 k_Model_set [.ref 45, .int (Int32.ofInt a), .int (Int32.ofInt 0), .int (Int32.ofInt x)] (n, z_q im, jM w, jL u) = some (jM (z_u w 46 (18 + 6 * a.toNat + 0) x), jL u) := s_mset (j := 0) h0 h9 (by decide)
theorem s_mset_4 {e n : Nat} {im : Nat → Option Nat} {w u : Nat → Nat → Int} {a x : Int} (h0 : 0 ≤ a) (h9 : a ≤ 9) : (z_F (e + 1)).2.2.1 k_Model_set [.ref 45, .int (Int32.ofInt a), .int (Int32.ofInt 4), .int (Int32.ofInt x)] (n, z_q im, jM w, jL u) = some (jM (z_u w 46 (18 + 6 * a.toNat + 4) x), jL u) := s_mset (j := 4) h0 h9 (by decide)
theorem s_mset_5 {e n : Nat} {im : Nat → Option Nat} {w u : Nat → Nat → Int} {a x : Int} (h0 : 0 ≤ a) (h9 : a ≤ 9) : (z_F (e + 1)).2.2.1 k_Model_set [.ref 45, .int (Int32.ofInt a), .int (Int32.ofInt 5), .int (Int32.ofInt x)] (n, z_q im, jM w, jL u) = some (jM (z_u w 46 (18 + 6 * a.toNat + 5) x), jL u) := s_mset (j := 5) h0 h9 (by decide)
theorem s_mchoose {e n : Nat} {im : Nat → Option Nat} {w u : Nat → Nat → Int} {a c : Int} (h0 : 0 ≤ a) (h9 : a ≤ 9) (c0 : 0 ≤ c) (c9 : c ≤ 9) : (z_F (e + 2)).2.2.1 k_Model_choose [.ref 45, .int (Int32.ofInt a), .int (Int32.ofInt c)] (n, z_q im, jM w, jL u) = some (jM (z_u (z_u w 46 (18 + 6 * a.toNat + 4) (c / 2)) 46 (18 + 6 * a.toNat + 5) (c % 2)), jL u) := by
  refine q_Model_choose ?_
  rw [ji_m2 c0 (by omega)]
  simp (disch := omega) only [ji_ediv]
  rw [s_mset_4 h0 h9, z_oV_s, s_mset_5 h0 h9, z_oV_s]
/-- the world with a man's choice -/
def v_ch (v : Nat → Int) (a c : Int) : Nat → Int := a_up (a_up v (18 + 6 * a.toNat + 4) (c / 2)) (18 + 6 * a.toNat + 5) (c % 2)
theorem v_ch_lo {v : Nat → Int} {a c : Int} {i : Nat} (h : i < 18) : v_ch v a c i = v i := by
  unfold v_ch
  rw [a_up_ne (by omega), a_up_ne (by omega)]
theorem v_ch_T {v : Nat → Int} {a c : Int} (i : Nat) : a_T (v_ch v a c) a i = a_ch (a_T v a) c i := by
  unfold v_ch
  rw [T_up]
  unfold a_ch a_s1
  split
  · rfl
  · exact T_up i
theorem v_ch_Tn {v : Nat → Int} {a b c : Int} (ha : 0 ≤ a) (hb : 0 ≤ b) (hab : a ≠ b) : ∀ i, i < 6 → a_T (v_ch v a c) b i = a_T v b i := by
  intro i hi
  unfold v_ch
  rw [T_up_ne ha hb hab (by decide) i hi, T_up_ne ha hb hab (by decide) i hi]
theorem v_ch_wf {v : Nat → Int} {a c : Int} (hw : a_wf v) (h0 : 0 ≤ a) (h1 : a < v 7) (c0 : 0 ≤ c) (c9 : c ≤ 9) : a_wf (v_ch v a c) := by
  have hw0 := id hw
  obtain ⟨f0, f1, f2, f3, f4, f5, f6, f7, f8, f9, f10, f11, f12⟩ := id hw
  have ht := f11 a h0 h1
  have w1 := wf_tr hw0 h0 h1 (j := 4) (by decide) (ch_tr4 ht c0 c9)
  unfold v_ch
  refine wf_tr w1 h0 (by rw [a_up_ne (by omega)]; exact h1) (by decide) (a_tr_cg (fun i _ => ?_) (ch_tr ht c0 c9))
  unfold a_ch
  simp only [a_s1]
  split
  · rfl
  · exact T_up i
