/-! feared, champion -/
def ov_f (v : Nat → Int) (a bo ot z : Int) : Int := a_fo (a_T v z) (a_sp v bo ot) 0 - a_st (a_T v a) (a_T v z 5) (a_sp v bo ot) 0
def S_fea (v : Nat → Int) (a bo ot : Int) : Nat → Int × Int
  | 0 => (-1, 0)
  | i + 1 => if a ≠ (i : Int) ∧ a_T v i 5 ≠ 2 ∧ ((S_fea v a bo ot i).1 = -1 ∨ (S_fea v a bo ot i).2 < ov_f v a bo ot i) then ((i : Int), ov_f v a bo ot i) else S_fea v a bo ot i
theorem ov_f_b {v : Nat → Int} {a bo ot z : Int} (ta : a_tr (a_T v a)) (tz : a_tr (a_T v z)) (hs : 0 ≤ a_sp v bo ot ∧ a_sp v bo ot ≤ 100) : -100 ≤ ov_f v a bo ot z ∧ ov_f v a bo ot z ≤ 200 := by
  have h1 := a_fo_b (p := 0) tz hs (by decide)
  have h2 := a_st_b (fa := a_T v z 5) (p := 0) ta hs (by decide)
  unfold ov_f
  omega
theorem S_fea_b {v : Nat → Int} {a bo ot : Int} (N : Nat) (h : ∀ i : Nat, i < N → -100 ≤ ov_f v a bo ot i ∧ ov_f v a bo ot i ≤ 200) : ∀ i, i ≤ N → (-1 ≤ (S_fea v a bo ot i).1 ∧ (S_fea v a bo ot i).1 ≤ i) ∧ (-100 ≤ (S_fea v a bo ot i).2 ∧ (S_fea v a bo ot i).2 ≤ 200)
  | 0, _ => by simp [S_fea]
  | i + 1, hi => by
    have h1 := S_fea_b N h i (by omega)
    have h2 := h i (by omega)
    simp only [S_fea, ic]
    split <;> (try simp only) <;> omega
def V_feared (v : Nat → Int) (a bo ot : Int) : Int := if a_mb v a bo ot then (S_fea v a bo ot (v 7).toNat).1 else -2
theorem x_feared {e n : Nat} {im : Nat → Option Nat} {w u : Nat → Nat → Int} {v : Nat → Int} {a bo ot : Int} (hv : c_v w v) (hw : a_wf v) (ha : jR a) (hbo : jR bo) (hot : jR ot) : ∃ w', (z_F (e + 20)).1 k_LongBoats_feared [.ref 0, .int (Int32.ofInt a), .int (Int32.ofInt bo), .int (Int32.ofInt ot)] (n, z_q im, jM w, jL u) = some (Int32.ofInt (V_feared v a bo ot), jM w', jL u) ∧ c_fr w w' := by
  obtain ⟨f0, f1, f2, f3, f4, f5, f6, f7, f8, f9, f10, f11, f12⟩ := id hw
  obtain ⟨g0, g1, g2, g3, g4, g5, g6, g7, g8, g9, h5, h7, h9⟩ := id hv
  unfold V_feared
  by_cases h : a_mb v a bo ot
  · rw [if_pos h]
    obtain ⟨s1, s4, s5⟩ := id h
    have b1 := f10 bo s4.1 s4.2
    have b2 := f10 ot s5.1 s5.2
    have spb := a_sp_b b1 b2 f0
    have hob : ∀ i : Nat, i < (v 7).toNat → -100 ≤ ov_f v a bo ot i ∧ ov_f v a bo ot i ≤ 200 := fun i hi => ov_f_b (f11 a s1.1 s1.2) (f11 i (by omega) (by omega)) (by omega)
    obtain ⟨t, ht, wf, q, rfl, hvf, hff⟩ := z_for (o := z_F (e + 19)) (cd := cd_LongBoats_feared) (P := fun i s => ∃ wi q, s = (20, [some (.ref 0), some (.int (Int32.ofInt a)), some (.int (Int32.ofInt bo)), some (.int (Int32.ofInt ot)), some (.int (Int32.ofInt (S_fea v a bo ot i).1)), some (.int (Int32.ofInt (S_fea v a bo ot i).2)), some (.int (Int32.ofInt (i : Int))), q], (n, z_q im, jM wi, jL u)) ∧ c_v wi v ∧ c_fr w wi) (v 7).toNat (s := (20, [some (.ref 0), some (.int (Int32.ofInt a)), some (.int (Int32.ofInt bo)), some (.int (Int32.ofInt ot)), some (.int (Int32.ofInt (-1))), some (.int (Int32.ofInt 0)), some (.int (Int32.ofInt 0)), none], (n, z_q im, jM w, jL u))) ⟨w, none, rfl, hv, c_fr_rf w⟩ (fun i s hi hs => by
      obtain ⟨wi, q, rfl, hvi, hfi⟩ := hs
      have hi8 := hvi.2.2.2.2.2.2.2.2.1
      have hsb := S_fea_b _ hob i (by omega)
      have hoi := hob i hi
      have hx : S_fea v a bo ot (i + 1) = if a ≠ (i : Int) ∧ a_T v i 5 ≠ 2 ∧ ((S_fea v a bo ot i).1 = -1 ∨ (S_fea v a bo ot i).2 < ov_f v a bo ot i) then ((i : Int), ov_f v a bo ot i) else S_fea v a bo ot i := rfl
      by_cases h1 : a = (i : Int)
      · refine ⟨(20, [some (.ref 0), some (.int (Int32.ofInt a)), some (.int (Int32.ofInt bo)), some (.int (Int32.ofInt ot)), some (.int (Int32.ofInt (S_fea v a bo ot (i + 1)).1)), some (.int (Int32.ofInt (S_fea v a bo ot (i + 1)).2)), some (.int (Int32.ofInt ((i : Int) + 1))), q], (n, z_q im, jM wi, jL u)), z_To_1 ((e_LongBoats_feared_20 ..).trans ?_), wi, q, rfl, hvi, hfi⟩
        simp only [jM_at, hi8]
        rw [x_faces_n hvi hw (by omega) (by omega) (by omega) (by omega) (fun q => q.2.2.1 h1), z_oI_s, hx, if_neg (c := a ≠ (i : Int) ∧ _) (fun q => q.1 h1)]
        simp (disch := omega) only [ji_le, ji_add]
        rw [if_neg (by omega)]
        rfl
      · obtain ⟨w2, q1, q2, q3, q4, q5, q6, q7⟩ := x_faces_y (e := e + 14) (n := n) (im := im) (u := u) hvi hw (a := a) (b := (i : Int)) ⟨s1, by omega, h1, s4, s5⟩
        obtain ⟨d1, d2, d3, d4, d5, d6, d7, d8, d9, d10⟩ := q2
        have t5 := q6.2.2.2.2.2
        have e5 : w2 27 5 = a_T v i 5 := d2 5 (by decide)
        by_cases h2 : a_T v i 5 = 2
        · refine ⟨(20, [some (.ref 0), some (.int (Int32.ofInt a)), some (.int (Int32.ofInt bo)), some (.int (Int32.ofInt ot)), some (.int (Int32.ofInt (S_fea v a bo ot (i + 1)).1)), some (.int (Int32.ofInt (S_fea v a bo ot (i + 1)).2)), some (.int (Int32.ofInt ((i : Int) + 1))), q], (n, z_q im, jM w2, jL u)), z_To_1 ((e_LongBoats_feared_20 ..).trans ?_), w2, q, rfl, q3, c_fr_tr hfi q4⟩
          simp only [jM_at, hi8]
          rw [q1, z_oI_s, hx, if_neg (c := a ≠ (i : Int) ∧ _) (fun q => q.2.1 h2), if_neg jc_1]
          simp only [jM_at]
          simp (disch := omega) only [ji_le, ji_add, ji_eq]
          rw [if_neg (by omega), if_pos (by omega)]
        · have hO : a_fo (w2 27) (w2 25 9) 0 - a_st (w2 26) (w2 27 5) (w2 25 9) 0 = ov_f v a bo ot i := by
            rw [a_fo_cg d2, a_st_cg d1, d3, e5]
            rfl
          refine ⟨(20, [some (.ref 0), some (.int (Int32.ofInt a)), some (.int (Int32.ofInt bo)), some (.int (Int32.ofInt ot)), some (.int (Int32.ofInt (S_fea v a bo ot (i + 1)).1)), some (.int (Int32.ofInt (S_fea v a bo ot (i + 1)).2)), some (.int (Int32.ofInt ((i : Int) + 1))), some (.int (Int32.ofInt (ov_f v a bo ot i)))], (n, z_q im, jM w2, jL u)), z_To_1 ((e_LongBoats_feared_20 ..).trans ?_), w2, _, rfl, q3, c_fr_tr hfi q4⟩
          simp only [jM_at, hi8]
          rw [q1, z_oI_s, hx, if_neg jc_1]
          simp only [jM_at]
          rw [s_thrust_27 q6 q7 (by decide), z_oI_s]
          simp only [jM_at]
          rw [s_hold_26 q5 q7 (by decide) t5, z_oI_s, ji_sub, hO]
          simp (disch := omega) only [ji_le, ji_add, ji_eq]
          rw [if_neg (by omega), if_neg (by omega)]
          by_cases h3 : (S_fea v a bo ot i).1 = -1
          · rw [if_pos h3, if_pos (c := a ≠ (i : Int) ∧ _) ⟨h1, h2, Or.inl h3⟩]
          · rw [if_neg h3]
            by_cases h4 : (S_fea v a bo ot i).2 < ov_f v a bo ot i
            · rw [if_neg (by omega), if_pos (c := a ≠ (i : Int) ∧ _) ⟨h1, h2, Or.inr h4⟩]
            · rw [if_pos (by omega), if_neg (c := a ≠ (i : Int) ∧ _) (fun q => q.2.2.elim h3 h4)])
    refine ⟨wf, n_LongBoats_feared (z_go ((e_LongBoats_feared_0 ..).trans ?_) (ht _ (z_ret ((e_LongBoats_feared_20 ..).trans ?_)))), hff⟩
    · simp (disch := omega) only [s_hasMan_3, s_hasBoats, z_oI_s, ji_b, g7, g8]
      rw [if_neg (by omega), if_neg (by omega)]
    · simp only [jM_at, hvf.2.2.2.2.2.2.2.2.1]
      simp (disch := omega) only [ji_le]
      rw [if_pos (by omega)]
  · refine ⟨w, n_LongBoats_feared (z_ret ((e_LongBoats_feared_0 ..).trans ?_)), c_fr_rf w⟩
    rw [if_neg h]
    simp (disch := omega) only [s_hasMan_3, s_hasBoats, z_oI_s, ji_b, g7, g8]
    (repeat' split) <;> first | rfl | (exfalso; omega)
theorem m_feared {e n : Nat} {im : Nat → Option Nat} {w u : Nat → Nat → Int} {a bo ot : Int} (hw : a_wf (w 46)) (ha : jR a) (hbo : jR bo) (hot : jR ot) : (z_F (e + 20)).1 k_Model_feared [.ref 45, .int (Int32.ofInt a), .int (Int32.ofInt bo), .int (Int32.ofInt ot)] (n, z_q im, jM w, jL u) = some (Int32.ofInt (V_feared (w 46) a bo ot), jM w, jL u) := by
  obtain ⟨f0, f1, f2, f3, f4, f5, f6, f7, f8, f9, f10, f11, f12⟩ := id hw
  unfold V_feared
  by_cases h : a_mb (w 46) a bo ot
  · rw [if_pos h]
    obtain ⟨s1, s4, s5⟩ := id h
    have b1 := f10 bo s4.1 s4.2
    have b2 := f10 ot s5.1 s5.2
    have spb := a_sp_b b1 b2 f0
    have hob : ∀ i : Nat, i < (w 46 7).toNat → -100 ≤ ov_f (w 46) a bo ot i ∧ ov_f (w 46) a bo ot i ≤ 200 := fun i hi => ov_f_b (f11 a s1.1 s1.2) (f11 i (by omega) (by omega)) (by omega)
    obtain ⟨t, ht, rfl⟩ := z_for (o := z_F (e + 19)) (cd := cd_Model_feared) (P := fun i s => s = (22, [some (.ref 45), some (.int (Int32.ofInt a)), some (.int (Int32.ofInt bo)), some (.int (Int32.ofInt ot)), some (.int (Int32.ofInt (S_fea (w 46) a bo ot i).1)), some (.int (Int32.ofInt (if (S_fea (w 46) a bo ot i).1 = -1 then -1000000 else (S_fea (w 46) a bo ot i).2))), some (.int (Int32.ofInt (i : Int)))], (n, z_q im, jM w, jL u))) (w 46 7).toNat (s := (22, [some (.ref 45), some (.int (Int32.ofInt a)), some (.int (Int32.ofInt bo)), some (.int (Int32.ofInt ot)), some (.int (Int32.ofInt (-1))), some (.int (Int32.ofInt (-1000000))), some (.int (Int32.ofInt 0))], (n, z_q im, jM w, jL u))) rfl (fun i s hi hs => by
      subst hs
      have hsb := S_fea_b _ hob i (by omega)
      have hoi := hob i hi
      have t5 := (f11 i (by omega) (by omega)).2.2.2.2.2
      refine ⟨(22, [some (.ref 45), some (.int (Int32.ofInt a)), some (.int (Int32.ofInt bo)), some (.int (Int32.ofInt ot)), some (.int (Int32.ofInt (S_fea (w 46) a bo ot (i + 1)).1)), some (.int (Int32.ofInt (if (S_fea (w 46) a bo ot (i + 1)).1 = -1 then -1000000 else (S_fea (w 46) a bo ot (i + 1)).2))), some (.int (Int32.ofInt ((i : Int) + 1)))], (n, z_q im, jM w, jL u)), z_To_1 ((e_Model_feared_22 ..).trans ?_), rfl⟩
      have hx : S_fea (w 46) a bo ot (i + 1) = if a ≠ (i : Int) ∧ a_T (w 46) i 5 ≠ 2 ∧ ((S_fea (w 46) a bo ot i).1 = -1 ∨ (S_fea (w 46) a bo ot i).2 < ov_f (w 46) a bo ot i) then ((i : Int), ov_f (w 46) a bo ot i) else S_fea (w 46) a bo ot i := rfl
      have hG : (z_F (e + 19)).1 k_Model_marginOf [.ref 45, .int (Int32.ofInt (i : Int)), .int (Int32.ofInt a), .int (Int32.ofInt (a_sp (w 46) bo ot)), .int (Int32.ofInt 0), .int (Int32.ofInt 0)] (n, z_q im, jM w, jL u) = some (Int32.ofInt (ov_f (w 46) a bo ot i), jM w, jL u) := s_marginOf (by omega) (by omega) (by omega) (by omega) (f11 i (by omega) (by omega)) (f11 a s1.1 s1.2) (by omega) (by decide) (by decide)
      have hm : jR (if (S_fea (w 46) a bo ot i).1 = -1 then -1000000 else (S_fea (w 46) a bo ot i).2) := by split <;> omega
      simp only [jM_at]
      rw [s_of_5 (by omega) (by omega), z_oI_s]
      simp only [s_speedOf s4.1 (show bo ≤ 3 by omega) s5.1 (show ot ≤ 3 by omega) b1 b2 f0, z_oI_s, hG]
      simp (disch := omega) only [ji_le, ji_add, ji_eq, ji_lt hm]
      rw [if_neg (by omega)]
      by_cases h1 : a = (i : Int)
      · rw [if_pos h1.symm, hx, if_neg (c := a ≠ (i : Int) ∧ _) (fun q => q.1 h1)]
      · rw [if_neg (fun q => h1 q.symm)]
        by_cases h2 : a_T (w 46) i 5 = 2
        · rw [if_pos h2, hx, if_neg (c := a ≠ (i : Int) ∧ _) (fun q => q.2.1 h2)]
        · rw [if_neg h2]
          by_cases h3 : (S_fea (w 46) a bo ot i).1 = -1
          · rw [if_pos (by rw [if_pos h3]; omega), hx, if_pos (c := a ≠ (i : Int) ∧ _) ⟨h1, h2, Or.inl h3⟩]
            simp only
            rw [if_neg (by omega)]
          · by_cases h4 : (S_fea (w 46) a bo ot i).2 < ov_f (w 46) a bo ot i
            · rw [if_pos (by rw [if_neg h3]; omega), hx, if_pos (c := a ≠ (i : Int) ∧ _) ⟨h1, h2, Or.inr h4⟩]
              simp only
              rw [if_neg (by omega)]
            · rw [if_neg (by rw [if_neg h3]; omega), hx, if_neg (c := a ≠ (i : Int) ∧ _) (fun q => q.2.2.elim h3 h4)])
    refine n_Model_feared (z_go ((e_Model_feared_0 ..).trans ?_) (ht _ (z_ret ((e_Model_feared_22 ..).trans ?_))))
    · simp (disch := omega) only [jl_of, s_isMan, s_isBoat, z_oI_s, ji_b]
      rw [if_neg (by omega), if_neg (by omega), if_neg (by omega)]
    · simp (disch := omega) only [ji_le, jM_at]
      rw [if_pos (by omega)]
  · refine n_Model_feared (z_ret ((e_Model_feared_0 ..).trans ?_))
    rw [if_neg h]
    simp (disch := omega) only [jl_of, s_isMan, s_isBoat, z_oI_s, ji_b]
    (repeat' split) <;> first | rfl | (exfalso; omega)
/-- the least, the first of several -/
def a_mn (f : Nat → Int) (b l : Int) : Nat → Int × Int
  | 0 => (b, l)
  | i + 1 => if f i < (a_mn f b l i).2 then ((i : Int), f i) else a_mn f b l i
theorem a_mn_eq {f : Nat → Int} {b l b' l' : Int} (h : f 0 < l) (h' : f 0 < l') : ∀ i, a_mn f b l (i + 1) = a_mn f b' l' (i + 1)
  | 0 => by
    show (if f 0 < l then (((0 : Nat) : Int), f 0) else (b, l)) = if f 0 < l' then (((0 : Nat) : Int), f 0) else (b', l')
    rw [if_pos h, if_pos h']
  | i + 1 => by
    have e1 : a_mn f b l (i + 1 + 1) = if f (i + 1) < (a_mn f b l (i + 1)).2 then (((i + 1 : Nat) : Int), f (i + 1)) else a_mn f b l (i + 1) := rfl
    rw [e1, a_mn_eq (b' := b') (l' := l') h h' i]
    rfl
theorem a_mn_b {f : Nat → Int} {b l : Int} (hf : ∀ i, 0 ≤ f i ∧ f i ≤ 1000) (hb : -1 ≤ b ∧ b ≤ 0) (hl : 0 ≤ l ∧ l ≤ 1000000) : ∀ i, (-1 ≤ (a_mn f b l i).1 ∧ (a_mn f b l i).1 ≤ i) ∧ (0 ≤ (a_mn f b l i).2 ∧ (a_mn f b l i).2 ≤ 1000000)
  | 0 => by simp only [a_mn]; omega
  | i + 1 => by
    have h1 := a_mn_b hf hb hl i
    have h2 := hf i
    simp only [a_mn, ic]
    split <;> (try simp only) <;> omega
def o_ch (v : Nat → Int) (bo ot : Int) (m i : Nat) : Int := if (m : Int) ≠ (i : Int) ∧ a_f0 v m i bo ot ≠ 0 then 1 else 0
def O_ch (v : Nat → Int) (bo ot : Int) (m : Nat) : Nat → Int := a_cnt (o_ch v bo ot m)
theorem O_ch_b (v : Nat → Int) (bo ot : Int) (m i : Nat) : 0 ≤ O_ch v bo ot m i ∧ O_ch v bo ot m i ≤ i := a_cnt_b (fun i => by unfold o_ch; split <;> omega) i
theorem O_ch_l (v : Nat → Int) (bo ot : Int) : ∀ i : Nat, O_ch v bo ot 0 (i + 1) ≤ i
  | 0 => by simp [O_ch, a_cnt, o_ch]
  | i + 1 => by
    have h := O_ch_l v bo ot i
    have h2 : o_ch v bo ot 0 (i + 1) ≤ 1 := by unfold o_ch; split <;> omega
    have h3 : O_ch v bo ot 0 (i + 1 + 1) = O_ch v bo ot 0 (i + 1) + o_ch v bo ot 0 (i + 1) := rfl
    rw [h3, ic]
    omega
def V_champion (v : Nat → Int) (bo ot : Int) : Int := if (0 ≤ bo ∧ bo < v 6) ∧ (0 ≤ ot ∧ ot < v 6) then (if v 7 < 2 then -1 else (a_mn (fun m => O_ch v bo ot m (v 7).toNat) (-1) 1000000 (v 7).toNat).1) else -2
theorem x_champion {e n : Nat} {im : Nat → Option Nat} {w u : Nat → Nat → Int} {v : Nat → Int} {bo ot : Int} (hv : c_v w v) (hw : a_wf v) (hbo : jR bo) (hot : jR ot) : ∃ w', (z_F (e + 20)).1 k_LongBoats_champion [.ref 0, .int (Int32.ofInt bo), .int (Int32.ofInt ot)] (n, z_q im, jM w, jL u) = some (Int32.ofInt (V_champion v bo ot), jM w', jL u) ∧ c_fr w w' := by
  obtain ⟨f0, f1, f2, f3, f4, f5, f6, f7, f8, f9, f10, f11, f12⟩ := id hw
  obtain ⟨g0, g1, g2, g3, g4, g5, g6, g7, g8, g9, h5, h7, h9⟩ := id hv
  unfold V_champion
  by_cases h : (0 ≤ bo ∧ bo < v 6) ∧ (0 ≤ ot ∧ ot < v 6)
  · rw [if_pos h]
    obtain ⟨s4, s5⟩ := id h
    have he : z_ex none (z_F (e + 19)) cd_LongBoats_champion 4000 (cd_LongBoats_champion.drop 0) 0 [some (.ref 0), some (.int (Int32.ofInt bo)), some (.int (Int32.ofInt ot)), none, none, none, none, none] [] (n, z_q im, jM w, jL u) = some (.inr (15, [some (.ref 0), some (.int (Int32.ofInt bo)), some (.int (Int32.ofInt ot)), some (.int (Int32.ofInt (-1))), some (.int (Int32.ofInt 10)), some (.int (Int32.ofInt 0)), none, none], [], (n, z_q im, jM w, jL u))) := by
      refine (e_LongBoats_champion_0 ..).trans ?_
      simp (disch := omega) only [s_hasBoats, z_oI_s, ji_b, g7]
      rw [if_neg (by omega)]
    by_cases h2 : v 7 < 2
    · rw [if_pos h2]
      refine ⟨w, n_LongBoats_champion (z_go he (z_ret ((e_LongBoats_champion_15 ..).trans ?_))), c_fr_rf w⟩
      simp only [jM_at, g8]
      simp (disch := omega) only [ji_le]
      rw [if_pos (c := v 7 ≤ 1) (by omega)]
      split <;> rfl
    · rw [if_neg h2]
      have hb := fun i => a_mn_b (f := fun m => O_ch v bo ot m (v 7).toNat) (b := -1) (l := 10) (fun m => by have := O_ch_b v bo ot m (v 7).toNat; omega) (by decide) (by decide) i
      obtain ⟨t, ht, wf, q, q', rfl, hvf, hff⟩ := z_for (o := z_F (e + 19)) (cd := cd_LongBoats_champion) (P := fun i s => ∃ wi q q', s = (15, [some (.ref 0), some (.int (Int32.ofInt bo)), some (.int (Int32.ofInt ot)), some (.int (Int32.ofInt (a_mn (fun m => O_ch v bo ot m (v 7).toNat) (-1) 10 i).1)), some (.int (Int32.ofInt (a_mn (fun m => O_ch v bo ot m (v 7).toNat) (-1) 10 i).2)), some (.int (Int32.ofInt (i : Int))), q, q'], (n, z_q im, jM wi, jL u)) ∧ c_v wi v ∧ c_fr w wi) (v 7).toNat (s := (15, [some (.ref 0), some (.int (Int32.ofInt bo)), some (.int (Int32.ofInt ot)), some (.int (Int32.ofInt (-1))), some (.int (Int32.ofInt 10)), some (.int (Int32.ofInt 0)), none, none], (n, z_q im, jM w, jL u))) ⟨w, none, none, rfl, hv, c_fr_rf w⟩ (fun i s hi hs => by
        obtain ⟨wi, q, q', rfl, hvi, hfi⟩ := hs
        have hi8 := hvi.2.2.2.2.2.2.2.2.1
        obtain ⟨t, ht, wf, rfl, hvf, hff⟩ := z_for (o := z_F (e + 19)) (cd := cd_LongBoats_champion) (P := fun k s => ∃ wk, s = (30, [some (.ref 0), some (.int (Int32.ofInt bo)), some (.int (Int32.ofInt ot)), some (.int (Int32.ofInt (a_mn (fun m => O_ch v bo ot m (v 7).toNat) (-1) 10 i).1)), some (.int (Int32.ofInt (a_mn (fun m => O_ch v bo ot m (v 7).toNat) (-1) 10 i).2)), some (.int (Int32.ofInt (i : Int))), some (.int (Int32.ofInt (O_ch v bo ot i k))), some (.int (Int32.ofInt (k : Int)))], (n, z_q im, jM wk, jL u)) ∧ c_v wk v ∧ c_fr w wk) (v 7).toNat (s := (30, [some (.ref 0), some (.int (Int32.ofInt bo)), some (.int (Int32.ofInt ot)), some (.int (Int32.ofInt (a_mn (fun m => O_ch v bo ot m (v 7).toNat) (-1) 10 i).1)), some (.int (Int32.ofInt (a_mn (fun m => O_ch v bo ot m (v 7).toNat) (-1) 10 i).2)), some (.int (Int32.ofInt (i : Int))), some (.int (Int32.ofInt 0)), some (.int (Int32.ofInt 0))], (n, z_q im, jM wi, jL u))) ⟨wi, rfl, hvi, hfi⟩ (fun k s hk hs => by
          obtain ⟨wk, rfl, hvk, hfk⟩ := hs
          obtain ⟨w2, q1, q2, q3⟩ := x_firstFate (e := e + 13) (n := n) (im := im) (u := u) (a := (i : Int)) (b := (k : Int)) hvk hw (by omega) (by omega) s4 s5
          refine ⟨(30, [some (.ref 0), some (.int (Int32.ofInt bo)), some (.int (Int32.ofInt ot)), some (.int (Int32.ofInt (a_mn (fun m => O_ch v bo ot m (v 7).toNat) (-1) 10 i).1)), some (.int (Int32.ofInt (a_mn (fun m => O_ch v bo ot m (v 7).toNat) (-1) 10 i).2)), some (.int (Int32.ofInt (i : Int))), some (.int (Int32.ofInt (O_ch v bo ot i (k + 1)))), some (.int (Int32.ofInt ((k : Int) + 1)))], (n, z_q im, jM w2, jL u)), z_To_1 ((e_LongBoats_champion_30 ..).trans ?_), w2, rfl, q2, c_fr_tr hfk q3⟩
          have hfb := a_ft_b (a_kd (v 3) (v 4) (v 1)) (a_T v (i : Int)) (a_T v (k : Int)) (a_sp v bo ot) 0 0
          change 0 ≤ a_f0 v i k bo ot ∧ a_f0 v i k bo ot ≤ 3 at hfb
          simp only [jM_at, hvk.2.2.2.2.2.2.2.2.1, q1, z_oI_s]
          have hx : O_ch v bo ot i (k + 1) = O_ch v bo ot i k + (if (i : Int) ≠ (k : Int) ∧ a_f0 v i k bo ot ≠ 0 then 1 else 0) := rfl
          rw [hx]
          have hz : jR (if (i : Int) = (k : Int) then 0 else a_f0 v i k bo ot) := by split <;> omega
          simp (disch := omega) only [ji_le, ji_eq0 hz, ji_add]
          rw [if_neg (by omega)]
          by_cases h1 : (i : Int) = (k : Int)
          · rw [if_pos (by rw [if_pos h1]), if_neg (c := (i : Int) ≠ (k : Int) ∧ _) (fun q => q.1 h1)]
          · by_cases h2 : a_f0 v i k bo ot = 0
            · rw [if_pos (by rw [if_neg h1]; exact h2), if_neg (c := (i : Int) ≠ (k : Int) ∧ _) (fun q => absurd h2 q.2)]
            · rw [if_neg (by rw [if_neg h1]; exact h2), if_pos (c := (i : Int) ≠ (k : Int) ∧ _) ⟨h1, h2⟩])
        have hbi := hb i
        have hob := O_ch_b v bo ot i (v 7).toNat
        have hx : a_mn (fun m => O_ch v bo ot m (v 7).toNat) (-1) 10 (i + 1) = if O_ch v bo ot i (v 7).toNat < (a_mn (fun m => O_ch v bo ot m (v 7).toNat) (-1) 10 i).2 then ((i : Int), O_ch v bo ot i (v 7).toNat) else a_mn (fun m => O_ch v bo ot m (v 7).toNat) (-1) 10 i := rfl
        refine ⟨(15, [some (.ref 0), some (.int (Int32.ofInt bo)), some (.int (Int32.ofInt ot)), some (.int (Int32.ofInt (a_mn (fun m => O_ch v bo ot m (v 7).toNat) (-1) 10 (i + 1)).1)), some (.int (Int32.ofInt (a_mn (fun m => O_ch v bo ot m (v 7).toNat) (-1) 10 (i + 1)).2)), some (.int (Int32.ofInt ((i : Int) + 1))), some (.int (Int32.ofInt (O_ch v bo ot i (v 7).toNat))), some (.int (Int32.ofInt ((v 7).toNat : Int)))], (n, z_q im, jM wf, jL u)), z_To_tr (z_To_1 ((e_LongBoats_champion_15 ..).trans ?_)) (z_To_tr ht (z_To_1 ((e_LongBoats_champion_30 ..).trans ?_))), wf, _, _, rfl, hvf, hff⟩
        · simp only [jM_at, hi8]
          simp (disch := omega) only [ji_le]
          rw [if_neg (by omega), if_neg (by omega)]
        · simp only [jM_at, hvf.2.2.2.2.2.2.2.2.1]
          rw [hx]
          simp (disch := omega) only [ji_le, ji_add]
          rw [if_pos (by omega)]
          by_cases h3 : O_ch v bo ot i (v 7).toNat < (a_mn (fun m => O_ch v bo ot m (v 7).toNat) (-1) 10 i).2
          · rw [if_neg (by omega), if_pos h3]
          · rw [if_pos (by omega), if_neg h3])
      refine ⟨wf, n_LongBoats_champion (z_go he (ht _ (z_ret ((e_LongBoats_champion_15 ..).trans ?_)))), hff⟩
      simp only [jM_at, hvf.2.2.2.2.2.2.2.2.1]
      simp (disch := omega) only [ji_le]
      rw [if_pos (by omega)]
      refine z_lf ?_
      obtain ⟨k, hk⟩ : ∃ k, (v 7).toNat = k + 1 := ⟨(v 7).toNat - 1, by omega⟩
      have hl := O_ch_l v bo ot k
      rw [hk]
      rw [a_mn_eq (f := fun m => O_ch v bo ot m (k + 1)) (l := 10) (l' := 1000000) (b' := -1) (by show O_ch v bo ot 0 (k + 1) < 10; omega) (by show O_ch v bo ot 0 (k + 1) < 1000000; omega) k]
  · refine ⟨w, n_LongBoats_champion (z_ret ((e_LongBoats_champion_0 ..).trans ?_)), c_fr_rf w⟩
    rw [if_neg h]
    simp (disch := omega) only [s_hasBoats, z_oI_s, ji_b, g7]
    rw [if_pos (by omega)]
theorem a_r0_m (v : Nat → Int) (a b bo ot : Int) : a_r0 v a b bo ot % 2 = if a_f0 v a b bo ot = 0 then 0 else 1 := by
  unfold a_r0 a_rs
  change ((if a_f0 v a b bo ot = 0 then 0 else 1) + _) % 2 = _
  (repeat' split) <;> omega
theorem m_champion {e n : Nat} {im : Nat → Option Nat} {w u : Nat → Nat → Int} {bo ot : Int} (hw : a_wf (w 46)) (hbo : jR bo) (hot : jR ot) : (z_F (e + 20)).1 k_Model_champion [.ref 45, .int (Int32.ofInt bo), .int (Int32.ofInt ot)] (n, z_q im, jM w, jL u) = some (Int32.ofInt (V_champion (w 46) bo ot), jM w, jL u) := by
  obtain ⟨f0, f1, f2, f3, f4, f5, f6, f7, f8, f9, f10, f11, f12⟩ := id hw
  unfold V_champion
  by_cases h : (0 ≤ bo ∧ bo < w 46 6) ∧ (0 ≤ ot ∧ ot < w 46 6)
  · rw [if_pos h]
    obtain ⟨s4, s5⟩ := id h
    by_cases h2 : w 46 7 < 2
    · rw [if_pos h2]
      refine n_Model_champion (z_ret ((e_Model_champion_0 ..).trans ?_))
      simp (disch := omega) only [s_isBoat, z_oI_s, ji_b, jM_at, ji_le]
      rw [if_neg (by omega), if_neg (by omega), if_neg (by omega)]
    · rw [if_neg h2]
      have hb := fun i => a_mn_b (f := fun m => O_ch (w 46) bo ot m (w 46 7).toNat) (b := -1) (l := 1000000) (fun m => by have := O_ch_b (w 46) bo ot m (w 46 7).toNat; omega) (by decide) (by decide) i
      obtain ⟨t, ht, q, q', rfl⟩ := z_for (o := z_F (e + 19)) (cd := cd_Model_champion) (P := fun i s => ∃ q q', s = (25, [some (.ref 45), some (.int (Int32.ofInt bo)), some (.int (Int32.ofInt ot)), some (.int (Int32.ofInt (a_mn (fun m => O_ch (w 46) bo ot m (w 46 7).toNat) (-1) 1000000 i).1)), some (.int (Int32.ofInt (a_mn (fun m => O_ch (w 46) bo ot m (w 46 7).toNat) (-1) 1000000 i).2)), some (.int (Int32.ofInt (i : Int))), q, q'], (n, z_q im, jM w, jL u))) (w 46 7).toNat (s := (25, [some (.ref 45), some (.int (Int32.ofInt bo)), some (.int (Int32.ofInt ot)), some (.int (Int32.ofInt (-1))), some (.int (Int32.ofInt 1000000)), some (.int (Int32.ofInt 0)), none, none], (n, z_q im, jM w, jL u))) ⟨none, none, rfl⟩ (fun i s hi hs => by
        obtain ⟨q, q', rfl⟩ := hs
        obtain ⟨t, ht, rfl⟩ := z_for (o := z_F (e + 19)) (cd := cd_Model_champion) (P := fun k s => s = (36, [some (.ref 45), some (.int (Int32.ofInt bo)), some (.int (Int32.ofInt ot)), some (.int (Int32.ofInt (a_mn (fun m => O_ch (w 46) bo ot m (w 46 7).toNat) (-1) 1000000 i).1)), some (.int (Int32.ofInt (a_mn (fun m => O_ch (w 46) bo ot m (w 46 7).toNat) (-1) 1000000 i).2)), some (.int (Int32.ofInt (i : Int))), some (.int (Int32.ofInt (O_ch (w 46) bo ot i k))), some (.int (Int32.ofInt (k : Int)))], (n, z_q im, jM w, jL u))) (w 46 7).toNat (s := (36, [some (.ref 45), some (.int (Int32.ofInt bo)), some (.int (Int32.ofInt ot)), some (.int (Int32.ofInt (a_mn (fun m => O_ch (w 46) bo ot m (w 46 7).toNat) (-1) 1000000 i).1)), some (.int (Int32.ofInt (a_mn (fun m => O_ch (w 46) bo ot m (w 46 7).toNat) (-1) 1000000 i).2)), some (.int (Int32.ofInt (i : Int))), some (.int (Int32.ofInt 0)), some (.int (Int32.ofInt 0))], (n, z_q im, jM w, jL u))) rfl (fun k s hk hs => by
          subst hs
          refine ⟨(36, [some (.ref 45), some (.int (Int32.ofInt bo)), some (.int (Int32.ofInt ot)), some (.int (Int32.ofInt (a_mn (fun m => O_ch (w 46) bo ot m (w 46 7).toNat) (-1) 1000000 i).1)), some (.int (Int32.ofInt (a_mn (fun m => O_ch (w 46) bo ot m (w 46 7).toNat) (-1) 1000000 i).2)), some (.int (Int32.ofInt (i : Int))), some (.int (Int32.ofInt (O_ch (w 46) bo ot i (k + 1)))), some (.int (Int32.ofInt ((k : Int) + 1)))], (n, z_q im, jM w, jL u)), z_To_1 ((e_Model_champion_36 ..).trans ?_), rfl⟩
          have hrb := a_rs_b (a_kd (w 46 3) (w 46 4) (w 46 1)) (a_T (w 46) (i : Int)) (a_T (w 46) (k : Int)) (a_sp (w 46) bo ot) 0 0
          change 0 ≤ a_r0 (w 46) i k bo ot ∧ a_r0 (w 46) i k bo ot ≤ 3 at hrb
          have hx : O_ch (w 46) bo ot i (k + 1) = O_ch (w 46) bo ot i k + (if (i : Int) ≠ (k : Int) ∧ a_f0 (w 46) i k bo ot ≠ 0 then 1 else 0) := rfl
          rw [hx, s_fp hw (by omega) (by omega) s4 s5, z_oI_s, ji_m2 hrb.1 (by omega), a_r0_m]
          simp only [jM_at]
          simp (disch := omega) only [ji_le, ji_add, ji_eq]
          rw [if_neg (by omega)]
          by_cases h1 : (i : Int) = (k : Int)
          · rw [if_pos h1.symm, if_neg (c := (i : Int) ≠ (k : Int) ∧ _) (fun q => q.1 h1)]
          · rw [if_neg (fun q => h1 q.symm)]
            by_cases h2 : a_f0 (w 46) i k bo ot = 0
            · rw [if_pos h2, if_neg (c := (i : Int) ≠ (k : Int) ∧ _) (fun q => absurd h2 q.2)]
            · rw [if_neg h2, if_pos (c := (i : Int) ≠ (k : Int) ∧ _) ⟨h1, h2⟩])
        have hbi := hb i
        have hob := O_ch_b (w 46) bo ot i (w 46 7).toNat
        have hx : a_mn (fun m => O_ch (w 46) bo ot m (w 46 7).toNat) (-1) 1000000 (i + 1) = if O_ch (w 46) bo ot i (w 46 7).toNat < (a_mn (fun m => O_ch (w 46) bo ot m (w 46 7).toNat) (-1) 1000000 i).2 then ((i : Int), O_ch (w 46) bo ot i (w 46 7).toNat) else a_mn (fun m => O_ch (w 46) bo ot m (w 46 7).toNat) (-1) 1000000 i := rfl
        refine ⟨(25, [some (.ref 45), some (.int (Int32.ofInt bo)), some (.int (Int32.ofInt ot)), some (.int (Int32.ofInt (a_mn (fun m => O_ch (w 46) bo ot m (w 46 7).toNat) (-1) 1000000 (i + 1)).1)), some (.int (Int32.ofInt (a_mn (fun m => O_ch (w 46) bo ot m (w 46 7).toNat) (-1) 1000000 (i + 1)).2)), some (.int (Int32.ofInt ((i : Int) + 1))), some (.int (Int32.ofInt (O_ch (w 46) bo ot i (w 46 7).toNat))), some (.int (Int32.ofInt ((w 46 7).toNat : Int)))], (n, z_q im, jM w, jL u)), z_To_tr (z_To_1 ((e_Model_champion_25 ..).trans ?_)) (z_To_tr ht (z_To_1 ((e_Model_champion_36 ..).trans ?_))), _, _, rfl⟩
        · simp (disch := omega) only [ji_le, jM_at]
          rw [if_neg (by omega)]
        · rw [hx]
          simp (disch := omega) only [ji_le, ji_lt, ji_add, jM_at]
          rw [if_pos (by omega)]
          by_cases h3 : O_ch (w 46) bo ot i (w 46 7).toNat < (a_mn (fun m => O_ch (w 46) bo ot m (w 46 7).toNat) (-1) 1000000 i).2
          · rw [if_pos h3, if_pos h3]
          · rw [if_neg h3, if_neg h3])
      refine n_Model_champion (z_go ((e_Model_champion_0 ..).trans ?_) (ht _ (z_ret ((e_Model_champion_25 ..).trans ?_))))
      · simp (disch := omega) only [s_isBoat, z_oI_s, ji_b, jM_at, ji_le]
        rw [if_neg (by omega), if_neg (by omega), if_pos (by omega)]
      · simp (disch := omega) only [ji_le, jM_at]
        rw [if_pos (by omega)]
  · refine n_Model_champion (z_ret ((e_Model_champion_0 ..).trans ?_))
    rw [if_neg h]
    simp (disch := omega) only [s_isBoat, z_oI_s, ji_b, jM_at, ji_le]
    (repeat' split) <;> first | rfl | (exfalso; omega)
