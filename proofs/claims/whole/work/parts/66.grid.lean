/-! the game: its grid filled -/
def G_g (v : Nat → Int) (a b bo ot : Int) (x y : Nat) : Int := a_gn v (a_ch (a_T v a) x) (a_ch (a_T v b) y) (a_sp v bo ot) bo ot
theorem G_g_b {v : Nat → Int} {a b bo ot : Int} (h1 : a_bo v bo) (h2 : a_bo v ot) (x y : Nat) : -1000 ≤ G_g v a b bo ot x y ∧ G_g v a b bo ot x y ≤ 1000 := by
  have := a_gn_b (t := a_ch (a_T v a) x) (f := a_ch (a_T v b) y) (sp := a_sp v bo ot) h1 h2
  unfold G_g
  omega
def I_f (w2 : Nat → Nat → Int) (g : Nat → Nat → Int) (k : Nat) (wi : Nat → Nat → Int) : Prop := (∀ c, c ≠ 26 → c ≠ 27 → c ≠ 44 → wi c = w2 c) ∧ (∀ j, j ≠ 4 → j ≠ 5 → wi 26 j = w2 26 j) ∧ (∀ j, j ≠ 4 → j ≠ 5 → wi 27 j = w2 27 j) ∧ ∀ m, m < k → wi 44 m = g (m / 10) (m % 10)
theorem I_f_26 {w2 : Nat → Nat → Int} {g : Nat → Nat → Int} {k : Nat} {wi : Nat → Nat → Int} (h : I_f w2 g k wi) (x y : Int) : I_f w2 g k (z_u (z_u wi 26 4 x) 26 5 y) := by
  obtain ⟨h1, h2, h3, h4⟩ := h
  refine ⟨fun c c1 c2 c3 => ?_, fun j j1 j2 => ?_, fun j j1 j2 => ?_, fun m hm => ?_⟩
  · rw [z_u_ne c1, z_u_ne c1]; exact h1 c c1 c2 c3
  · rw [z_u_at, if_neg j2, z_u_at, if_neg j1]; exact h2 j j1 j2
  · rw [z_u_ne (by decide), z_u_ne (by decide)]; exact h3 j j1 j2
  · rw [z_u_ne (by decide), z_u_ne (by decide)]; exact h4 m hm
theorem I_f_27 {w2 : Nat → Nat → Int} {g : Nat → Nat → Int} {k : Nat} {wi : Nat → Nat → Int} (h : I_f w2 g k wi) (x y : Int) : I_f w2 g k (z_u (z_u wi 27 4 x) 27 5 y) := by
  obtain ⟨h1, h2, h3, h4⟩ := h
  refine ⟨fun c c1 c2 c3 => ?_, fun j j1 j2 => ?_, fun j j1 j2 => ?_, fun m hm => ?_⟩
  · rw [z_u_ne c2, z_u_ne c2]; exact h1 c c1 c2 c3
  · rw [z_u_ne (by decide), z_u_ne (by decide)]; exact h2 j j1 j2
  · rw [z_u_at, if_neg j2, z_u_at, if_neg j1]; exact h3 j j1 j2
  · rw [z_u_ne (by decide), z_u_ne (by decide)]; exact h4 m hm
theorem I_f_44 {w2 : Nat → Nat → Int} {g : Nat → Nat → Int} {k : Nat} {wi : Nat → Nat → Int} {x : Int} (h : I_f w2 g k wi) (hx : x = g (k / 10) (k % 10)) : I_f w2 g (k + 1) (z_u wi 44 k x) := by
  obtain ⟨h1, h2, h3, h4⟩ := h
  refine ⟨fun c c1 c2 c3 => ?_, fun j j1 j2 => ?_, fun j j1 j2 => ?_, fun m hm => ?_⟩
  · rw [z_u_ne c3]; exact h1 c c1 c2 c3
  · rw [z_u_ne (by decide)]; exact h2 j j1 j2
  · rw [z_u_ne (by decide)]; exact h3 j j1 j2
  · rw [z_u_at]
    split
    · rename_i hm2; rw [hm2]; exact hx
    · exact h4 m (by omega)
theorem x_fillFrom {e n : Nat} {im : Nat → Option Nat} {w u : Nat → Nat → Int} {v : Nat → Int} {a b bo ot : Int} (hw : a_wf v) (hs : a_so v a b bo ot) (hD : a_D v w a b bo ot) (hv : c_v w v) : ∃ w', (z_F (e + 6)).2.2.1 k_Grid_fillFrom [.ref 42, .ref 25] (n, z_q im, jM w, jL u) = some (jM w', jL u) ∧ c_fr w w' ∧ ∀ m, m < 100 → w' 44 m = G_g v a b bo ot (m / 10) (m % 10) := by
  obtain ⟨f0, f1, f2, f3, f4, f5, f6, f7, f8, f9, f10, f11, f12⟩ := id hw
  obtain ⟨d1, d2, d3, d4, d5, d6, d7, d8, d9, d10⟩ := id hD
  obtain ⟨s1, s2, s3, s4, s5⟩ := id hs
  have b1 := f10 bo s4.1 s4.2
  have b2 := f10 ot s5.1 s5.2
  have ta := f11 a s1.1 s1.2
  have tb := f11 b s2.1 s2.2
  have spb := a_sp_b b1 b2 f0
  obtain ⟨w2, q1, q2, q3⟩ := x_cs (e := e + 3) (n := n) (im := im) (w := w) (u := u) (g := w 25 10) hw s4 s5 (by omega) d4 d5 d6 d7
  rw [d8] at q3
  obtain ⟨t, ht, wf, qf, rfl, hf⟩ := z_for (o := z_F (e + 5)) (cd := cd_Grid_fillFrom) (P := fun x s => ∃ wi q, s = (7, [some (.ref 42), some (.ref 25), some (.int (Int32.ofInt (x : Int))), q], (n, z_q im, jM wi, jL u)) ∧ I_f w2 (G_g v a b bo ot) (10 * x) wi) 10 (s := (7, [some (.ref 42), some (.ref 25), some (.int (Int32.ofInt 0)), none], (n, z_q im, jM w2, jL u))) ⟨w2, none, rfl, fun _ _ _ _ => rfl, fun _ _ _ => rfl, fun _ _ _ => rfl, fun m hm => absurd hm (by omega)⟩ (fun x s hx hs => by
    obtain ⟨wi, q, rfl, hi⟩ := hs
    obtain ⟨t, ht, wk, rfl, hk, e4, e5⟩ := z_for (o := z_F (e + 5)) (cd := cd_Grid_fillFrom) (P := fun y s => ∃ wk, s = (17, [some (.ref 42), some (.ref 25), some (.int (Int32.ofInt (x : Int))), some (.int (Int32.ofInt (y : Int)))], (n, z_q im, jM wk, jL u)) ∧ I_f w2 (G_g v a b bo ot) (10 * x + y) wk ∧ wk 26 4 = (x : Int) / 2 ∧ wk 26 5 = (x : Int) % 2) 10 (s := (17, [some (.ref 42), some (.ref 25), some (.int (Int32.ofInt (x : Int))), some (.int (Int32.ofInt 0))], (n, z_q im, jM (z_u (z_u wi 26 4 ((x : Int) / 2)) 26 5 ((x : Int) % 2)), jL u))) ⟨_, rfl, I_f_26 hi _ _, rfl, rfl⟩ (fun y s hy hs => by
      obtain ⟨wk, rfl, hk, e4, e5⟩ := hs
      have hk2 := I_f_27 hk ((y : Int) / 2) ((y : Int) % 2)
      obtain ⟨i1, i2, i3, i4⟩ := id hk2
      have tt : ∀ j, j < 6 → z_u (z_u wk 27 4 ((y : Int) / 2)) 27 5 ((y : Int) % 2) 26 j = a_ch (a_T v a) x j := fun j hj => by
        rw [z_u_ne (by decide), z_u_ne (by decide)]
        simp only [a_ch, a_s1]
        by_cases j5 : j = 5
        · rw [if_pos j5, j5]; exact e5
        · rw [if_neg j5]
          by_cases j4 : j = 4
          · rw [if_pos j4, j4]; exact e4
          · rw [if_neg j4, hk.2.1 j j4 j5, q2 26 (by decide)]; exact d1 j hj
      have tf : ∀ j, j < 6 → z_u (z_u wk 27 4 ((y : Int) / 2)) 27 5 ((y : Int) % 2) 27 j = a_ch (a_T v b) y j := fun j hj => by
        rw [z_u_at, z_u_at]
        simp only [a_ch, a_s1]
        by_cases j5 : j = 5
        · rw [if_pos j5, if_pos j5]
        · rw [if_neg j5, if_neg j5]
          by_cases j4 : j = 4
          · rw [if_pos j4, if_pos j4]
          · rw [if_neg j4, if_neg j4, hk.2.2.1 j j4 j5, q2 27 (by decide)]; exact d2 j hj
      generalize hwk3 : z_u (z_u wk 27 4 ((y : Int) / 2)) 27 5 ((y : Int) % 2) = w3 at hk2 i1 tt tf
      have t5 : w3 25 = w 25 := (i1 25 (by decide) (by decide) (by decide)).trans (q2 25 (by decide))
      have t9 : w3 29 = w2 29 := i1 29 (by decide) (by decide) (by decide)
      have hval : c_ga w3 = G_g v a b bo ot x y := by
        rw [c_ga_eq (v := v) (a := a) (b := b) (bo := bo) (ot := ot) (by rw [t9]; exact q3), t5, d3]
        exact a_gn_cg rfl rfl rfl rfl rfl tt tf
      refine ⟨(17, [some (.ref 42), some (.ref 25), some (.int (Int32.ofInt (x : Int))), some (.int (Int32.ofInt ((y : Int) + 1)))], (n, z_q im, jM (z_u w3 44 (10 * x + y) (G_g v a b bo ot x y)), jL u)), z_To_1 ((e_Grid_fillFrom_17 ..).trans ?_), _, rfl, I_f_44 (k := 10 * x + y) hk2 (by rw [show (10 * x + y) / 10 = x by omega, show (10 * x + y) % 10 = y by omega]), ?_, ?_⟩
      · simp (disch := omega) only [ji_le]
        rw [if_neg (by omega), s_choose_27 (by omega) (by omega), z_oV_s, hwk3, s_gain (a_tr_cg tt (ch_tr ta (by omega) (by omega))) (a_tr_cg tf (ch_tr tb (by omega) (by omega))) (by rw [t5, d3]; omega), z_oI_s, hval, ji_mul, ji_add, s_set_43 (by omega) (by omega), z_oV_s, ji_add, show ((x : Int) * 10 + (y : Int)).toNat = 10 * x + y by omega]
      · rw [z_u_ne (by decide), ← hwk3, z_u_ne (by decide), z_u_ne (by decide)]; exact e4
      · rw [z_u_ne (by decide), ← hwk3, z_u_ne (by decide), z_u_ne (by decide)]; exact e5)
    refine ⟨(7, [some (.ref 42), some (.ref 25), some (.int (Int32.ofInt ((x : Int) + 1))), some (.int (Int32.ofInt ((10 : Nat) : Int)))], (n, z_q im, jM wk, jL u)), z_To_tr (z_To_1 ((e_Grid_fillFrom_7 ..).trans ?_)) (z_To_tr ht (z_To_1 ((e_Grid_fillFrom_17 ..).trans ?_))), wk, _, rfl, by rw [show 10 * (x + 1) = 10 * x + 10 by omega]; exact hk⟩
    · simp (disch := omega) only [ji_le]
      rw [if_neg (by omega), s_choose_26 (by omega) (by omega), z_oV_s]
    · simp (disch := omega) only [ji_le, ji_add]
      rw [if_pos (by decide)])
  refine ⟨wf, n_Grid_fillFrom (z_go ((e_Grid_fillFrom_0 ..).trans ?_) (ht _ (z_ret ((e_Grid_fillFrom_7 ..).trans ?_)))), fun c hc => ?_, hf.2.2.2⟩
  · simp only [jM_at]
    rw [q1, z_oV_s]
  · simp (disch := omega) only [ji_le]
    rw [if_pos (by decide)]
  · rw [hf.1 c (fun q => by subst q; simp at hc) (fun q => by subst q; simp at hc) (fun q => by subst q; simp at hc), q2 c (fun q => by subst q; simp at hc)]
/-- four numbers of the world are changed while the grid is laid -/
abbrev K4 (a b : Int) (i : Nat) : Prop := i = 18 + 6 * a.toNat + 4 ∨ i = 18 + 6 * a.toNat + 5 ∨ i = 18 + 6 * b.toNat + 4 ∨ i = 18 + 6 * b.toNat + 5
def I_l (w : Nat → Nat → Int) (a b : Int) (g : Nat → Nat → Int) (k : Nat) (wi : Nat → Nat → Int) : Prop := (∀ c, c ≠ 46 → c ≠ 52 → wi c = w c) ∧ (∀ i, ¬ K4 a b i → wi 46 i = w 46 i) ∧ a_wf (wi 46) ∧ ∀ m, m < k → wi 52 m = g (m / 10) (m % 10)
theorem s_lay {e n : Nat} {im : Nat → Option Nat} {w u : Nat → Nat → Int} {a b bo ot : Int} (hw : a_wf (w 46)) (hs : a_so (w 46) a b bo ot) : ∃ w', (z_F (e + 9)).2.2.1 k_Model_lay [.ref 45, .int (Int32.ofInt a), .int (Int32.ofInt b), .int (Int32.ofInt bo), .int (Int32.ofInt ot)] (n, z_q im, jM w, jL u) = some (jM w', jL u) ∧ (∀ c, c ≠ 52 → w' c = w c) ∧ ∀ m, m < 100 → w' 52 m = G_g (w 46) a b bo ot (m / 10) (m % 10) := by
  obtain ⟨f0, f1, f2, f3, f4, f5, f6, f7, f8, f9, f10, f11, f12⟩ := id hw
  obtain ⟨s1, s2, s3, s4, s5⟩ := id hs
  obtain ⟨t, ht, wf, qf, rfl, hf⟩ := z_for (o := z_F (e + 8)) (cd := cd_Model_lay) (P := fun x s => ∃ wi q, s = (23, [some (.ref 45), some (.int (Int32.ofInt a)), some (.int (Int32.ofInt b)), some (.int (Int32.ofInt bo)), some (.int (Int32.ofInt ot)), some (.int (Int32.ofInt (a_T (w 46) a 4))), some (.int (Int32.ofInt (a_T (w 46) a 5))), some (.int (Int32.ofInt (a_T (w 46) b 4))), some (.int (Int32.ofInt (a_T (w 46) b 5))), some (.int (Int32.ofInt (x : Int))), q], (n, z_q im, jM wi, jL u)) ∧ I_l w a b (G_g (w 46) a b bo ot) (10 * x) wi) 10 (s := (23, [some (.ref 45), some (.int (Int32.ofInt a)), some (.int (Int32.ofInt b)), some (.int (Int32.ofInt bo)), some (.int (Int32.ofInt ot)), some (.int (Int32.ofInt (a_T (w 46) a 4))), some (.int (Int32.ofInt (a_T (w 46) a 5))), some (.int (Int32.ofInt (a_T (w 46) b 4))), some (.int (Int32.ofInt (a_T (w 46) b 5))), some (.int (Int32.ofInt 0)), none], (n, z_q im, jM w, jL u))) ⟨w, none, rfl, fun _ _ _ => rfl, fun _ _ => rfl, hw, fun m hm => absurd hm (by omega)⟩ (fun x s hx hs => by
    obtain ⟨wi, q, rfl, hi⟩ := hs
    obtain ⟨t, ht, wk, rfl, hk⟩ := z_for (o := z_F (e + 8)) (cd := cd_Model_lay) (P := fun y s => ∃ wk, s = (29, [some (.ref 45), some (.int (Int32.ofInt a)), some (.int (Int32.ofInt b)), some (.int (Int32.ofInt bo)), some (.int (Int32.ofInt ot)), some (.int (Int32.ofInt (a_T (w 46) a 4))), some (.int (Int32.ofInt (a_T (w 46) a 5))), some (.int (Int32.ofInt (a_T (w 46) b 4))), some (.int (Int32.ofInt (a_T (w 46) b 5))), some (.int (Int32.ofInt (x : Int))), some (.int (Int32.ofInt (y : Int)))], (n, z_q im, jM wk, jL u)) ∧ I_l w a b (G_g (w 46) a b bo ot) (10 * x + y) wk) 10 (s := (29, [some (.ref 45), some (.int (Int32.ofInt a)), some (.int (Int32.ofInt b)), some (.int (Int32.ofInt bo)), some (.int (Int32.ofInt ot)), some (.int (Int32.ofInt (a_T (w 46) a 4))), some (.int (Int32.ofInt (a_T (w 46) a 5))), some (.int (Int32.ofInt (a_T (w 46) b 4))), some (.int (Int32.ofInt (a_T (w 46) b 5))), some (.int (Int32.ofInt (x : Int))), some (.int (Int32.ofInt 0))], (n, z_q im, jM wi, jL u))) ⟨wi, rfl, hi⟩ (fun y s hy hs => by
      obtain ⟨wk, rfl, i1, i2, i3, i4⟩ := hs
      have lo : ∀ i, i < 18 → wk 46 i = w 46 i := fun i hi => i2 i (by omega)
      have e6 := lo 6 (by decide)
      have e7 := lo 7 (by decide)
      have u1 : a_wf (v_ch (wk 46) a x) := v_ch_wf i3 s1.1 (by omega) (by omega) (by omega)
      have u7 : v_ch (wk 46) a x 7 = w 46 7 := (v_ch_lo (by decide)).trans e7
      have u2 : a_wf (v_ch (v_ch (wk 46) a x) b y) := v_ch_wf u1 s2.1 (by omega) (by omega) (by omega)
      have row : z_u (z_u (z_u (z_u wk 46 (18 + 6 * a.toNat + 4) ((x : Int) / 2)) 46 (18 + 6 * a.toNat + 5) ((x : Int) % 2)) 46 (18 + 6 * b.toNat + 4) ((y : Int) / 2)) 46 (18 + 6 * b.toNat + 5) ((y : Int) % 2) 46 = v_ch (v_ch (wk 46) a x) b y := by rw [zu_row, zu_row, zu_row, zu_row]; rfl
      have oth : ∀ c, c ≠ 46 → z_u (z_u (z_u (z_u wk 46 (18 + 6 * a.toNat + 4) ((x : Int) / 2)) 46 (18 + 6 * a.toNat + 5) ((x : Int) % 2)) 46 (18 + 6 * b.toNat + 4) ((y : Int) / 2)) 46 (18 + 6 * b.toNat + 5) ((y : Int) % 2) c = wk c := fun c hc => by rw [z_u_ne hc, z_u_ne hc, z_u_ne hc, z_u_ne hc]
      have vlo : ∀ i, i < 18 → v_ch (v_ch (wk 46) a x) b y i = w 46 i := fun i hi => by rw [v_ch_lo hi, v_ch_lo hi]; exact lo i hi
      have hne : b ≠ a := fun q => s3 q.symm
      have Ta : ∀ j, j < 6 → a_T (v_ch (v_ch (wk 46) a x) b y) a j = a_ch (a_T (w 46) a) x j := fun j hj => by
        rw [v_ch_Tn s2.1 s1.1 hne j hj, v_ch_T]
        simp only [a_ch, a_s1]
        by_cases j5 : j = 5
        · rw [if_pos j5, if_pos j5]
        · rw [if_neg j5, if_neg j5]
          by_cases j4 : j = 4
          · rw [if_pos j4, if_pos j4]
          · rw [if_neg j4, if_neg j4]
            exact i2 _ (by omega)
      have Tb : ∀ j, j < 6 → a_T (v_ch (v_ch (wk 46) a x) b y) b j = a_ch (a_T (w 46) b) y j := fun j hj => by
        rw [v_ch_T]
        simp only [a_ch, a_s1]
        by_cases j5 : j = 5
        · rw [if_pos j5, if_pos j5]
        · rw [if_neg j5, if_neg j5]
          by_cases j4 : j = 4
          · rw [if_pos j4, if_pos j4]
          · rw [if_neg j4, if_neg j4, v_ch_Tn s1.1 s2.1 s3 j hj]
            exact i2 _ (by omega)
      generalize hw3 : z_u (z_u (z_u (z_u wk 46 (18 + 6 * a.toNat + 4) ((x : Int) / 2)) 46 (18 + 6 * a.toNat + 5) ((x : Int) % 2)) 46 (18 + 6 * b.toNat + 4) ((y : Int) / 2)) 46 (18 + 6 * b.toNat + 5) ((y : Int) % 2) = w3 at row oth
      generalize hV : v_ch (v_ch (wk 46) a x) b y = V at row u2 vlo Ta Tb
      have hval : a_gn V (a_T V a) (a_T V b) (a_sp V bo ot) bo ot = G_g (w 46) a b bo ot x y := by
        rw [a_sp_cg (v := w 46) (v' := V) (vlo 0 (by decide)) (vlo _ (by omega)) (vlo _ (by omega))]
        exact a_gn_cg (vlo 3 (by decide)) (vlo 4 (by decide)) (vlo 1 (by decide)) (vlo _ (by omega)) (vlo _ (by omega)) Ta Tb
      have hgn := s_gn_v (e := e + 1) (n := n) (im := im) (u := u) (a := a) (b := b) (bo := bo) (ot := ot) row u2 (by rw [vlo 7 (by decide)]; exact s1) (by rw [vlo 7 (by decide)]; exact s2) (by rw [vlo 6 (by decide)]; exact s4) (by rw [vlo 6 (by decide)]; exact s5)
      rw [hval] at hgn
      refine ⟨(29, [some (.ref 45), some (.int (Int32.ofInt a)), some (.int (Int32.ofInt b)), some (.int (Int32.ofInt bo)), some (.int (Int32.ofInt ot)), some (.int (Int32.ofInt (a_T (w 46) a 4))), some (.int (Int32.ofInt (a_T (w 46) a 5))), some (.int (Int32.ofInt (a_T (w 46) b 4))), some (.int (Int32.ofInt (a_T (w 46) b 5))), some (.int (Int32.ofInt (x : Int))), some (.int (Int32.ofInt ((y : Int) + 1)))], (n, z_q im, jM (z_u w3 52 (10 * x + y) (G_g (w 46) a b bo ot x y)), jL u)), z_To_1 ((e_Model_lay_29 ..).trans ?_), _, rfl, fun c c1 c2 => ?_, fun i hi => ?_, ?_, fun m hm => ?_⟩
      · simp (disch := omega) only [ji_le]
        rw [if_neg (by omega), s_mchoose (by omega) (by omega) (by omega) (by omega), z_oV_s, s_mchoose (by omega) (by omega) (by omega) (by omega), z_oV_s, hw3, hgn, z_oI_s]
        simp (disch := omega) only [ji_mul, ji_add, ji_lt0, ji_nat, jM_u]
        rw [if_neg (by omega), show (10 * (x : Int) + (y : Int)).toNat = 10 * x + y by omega]
      · rw [z_u_ne c2, oth c c1]; exact i1 c c1 c2
      · rw [z_u_ne (by decide), row, ← hV]
        unfold v_ch
        rw [a_up_ne (by omega), a_up_ne (by omega), a_up_ne (by omega), a_up_ne (by omega)]
        exact i2 i hi
      · rw [z_u_ne (by decide), row]; exact u2
      · rw [z_u_at]
        split
        · rename_i hm2; rw [hm2, show (10 * x + y) / 10 = x by omega, show (10 * x + y) % 10 = y by omega]
        · rw [oth 52 (by decide)]; exact i4 m (by omega))
    refine ⟨(23, [some (.ref 45), some (.int (Int32.ofInt a)), some (.int (Int32.ofInt b)), some (.int (Int32.ofInt bo)), some (.int (Int32.ofInt ot)), some (.int (Int32.ofInt (a_T (w 46) a 4))), some (.int (Int32.ofInt (a_T (w 46) a 5))), some (.int (Int32.ofInt (a_T (w 46) b 4))), some (.int (Int32.ofInt (a_T (w 46) b 5))), some (.int (Int32.ofInt ((x : Int) + 1))), some (.int (Int32.ofInt ((10 : Nat) : Int)))], (n, z_q im, jM wk, jL u)), z_To_tr (z_To_1 ((e_Model_lay_23 ..).trans ?_)) (z_To_tr ht (z_To_1 ((e_Model_lay_29 ..).trans ?_))), wk, _, rfl, by rw [show 10 * (x + 1) = 10 * x + 10 by omega]; exact hk⟩
    · simp (disch := omega) only [ji_le]
      rw [if_neg (by omega)]
    · simp (disch := omega) only [ji_le, ji_add]
      rw [if_pos (by decide)])
  obtain ⟨i1, i2, i3, i4⟩ := hf
  refine ⟨z_u (z_u (z_u (z_u wf 46 (18 + 6 * a.toNat + 4) (a_T (w 46) a 4)) 46 (18 + 6 * a.toNat + 5) (a_T (w 46) a 5)) 46 (18 + 6 * b.toNat + 4) (a_T (w 46) b 4)) 46 (18 + 6 * b.toNat + 5) (a_T (w 46) b 5), n_Model_lay (z_go ((e_Model_lay_0 ..).trans ?_) (ht _ (z_ret ((e_Model_lay_23 ..).trans ?_)))), fun c hc => ?_, fun m hm => ?_⟩
  · rw [s_of_4 (by omega) (by omega), z_oI_s, s_of_5 (by omega) (by omega), z_oI_s, s_of_4 (by omega) (by omega), z_oI_s, s_of_5 (by omega) (by omega), z_oI_s]
  · simp (disch := omega) only [ji_le]
    rw [if_pos (by decide), s_mset_4 (by omega) (by omega), z_oV_s, s_mset_5 (by omega) (by omega), z_oV_s, s_mset_4 (by omega) (by omega), z_oV_s, s_mset_5 (by omega) (by omega), z_oV_s]
  · by_cases h46 : c = 46
    · subst h46
      rw [zu_row, zu_row, zu_row, zu_row]
      funext i
      simp only [a_up, a_T]
      by_cases e1 : i = 18 + 6 * b.toNat + 5
      · rw [if_pos e1, e1]
      · rw [if_neg e1]
        by_cases e2 : i = 18 + 6 * b.toNat + 4
        · rw [if_pos e2, e2]
        · rw [if_neg e2]
          by_cases e3 : i = 18 + 6 * a.toNat + 5
          · rw [if_pos e3, e3]
          · rw [if_neg e3]
            by_cases e4 : i = 18 + 6 * a.toNat + 4
            · rw [if_pos e4, e4]
            · rw [if_neg e4]; exact i2 i (by omega)
    · rw [z_u_ne h46, z_u_ne h46, z_u_ne h46, z_u_ne h46]; exact i1 c h46 hc
  · rw [z_u_ne (by decide), z_u_ne (by decide), z_u_ne (by decide), z_u_ne (by decide)]; exact i4 m hm
