/-! the start, and the whole run -/
def i_rl : List (Nat × Nat × Nat) := [(1, 0, 2), (0, 0, 1), (4, 0, 5), (3, 10, 4), (6, 0, 7), (3, 11, 6), (8, 0, 9), (3, 12, 8), (0, 2, 3), (11, 0, 12), (10, 10, 11), (13, 0, 14), (10, 11, 13), (15, 0, 16), (10, 12, 15), (0, 3, 10), (17, 0, 1), (17, 1, 10), (0, 1, 17), (0, 4, 18), (19, 0, 20), (21, 0, 22), (19, 1, 21), (23, 0, 24), (19, 2, 23), (0, 5, 19), (25, 0, 26), (25, 1, 27), (28, 0, 29), (25, 2, 28), (25, 3, 30), (0, 6, 25), (32, 0, 33), (31, 2, 32), (34, 0, 35), (31, 3, 34), (36, 0, 37), (31, 4, 36), (38, 0, 39), (31, 9, 38), (40, 0, 41), (31, 10, 40), (31, 0, 3), (31, 1, 25), (0, 7, 31), (43, 0, 44), (42, 0, 43), (0, 8, 42), (45, 1, 46), (45, 2, 47), (45, 3, 48), (45, 4, 49), (45, 6, 50), (45, 14, 51), (45, 19, 52), (45, 20, 53), (45, 21, 54), (45, 24, 55), (45, 25, 56), (45, 26, 57), (45, 27, 58), (45, 28, 59), (45, 32, 60), (45, 35, 61), (45, 36, 62), (45, 37, 63), (45, 38, 64)]
def i_st (g : Nat → Nat → Option Nat) (x : Nat × Nat × Nat) : Nat → Nat → Option Nat := z_u g x.1 x.2.1 (some x.2.2)
theorem i_fo : ∀ (l : List (Nat × Nat × Nat)) (g : Nat → Nat → Option Nat) (a b : Nat), (∀ x ∈ l, ¬ (x.1 = a ∧ x.2.1 = b)) → l.foldl i_st g a b = g a b
  | [], _, _, _, _ => rfl
  | x :: l, g, a, b, h => by
    show l.foldl i_st (i_st g x) a b = g a b
    rw [i_fo l _ a b (fun y hy => h y (List.mem_cons_of_mem _ hy))]
    have := h x List.mem_cons_self
    unfold i_st
    simp only [z_u]
    by_cases h1 : a = x.1
    · rw [if_pos h1]
      by_cases h2 : b = x.2.1
      · exact absurd ⟨h1.symm, h2.symm⟩ this
      · rw [if_neg h2]
    · rw [if_neg h1]
theorem i_dec : ∀ a, a < 65 → ∀ b, b < 40 → i_rl.foldl i_st (fun _ _ => none) a b = z_q (fun _ => none) a b := by decide +kernel
theorem i_bd : ∀ x ∈ i_rl, x.1 < 65 ∧ x.2.1 < 40 := by decide +kernel
theorem i_rw : ∀ l ∈ z_rt, l.length ≤ 40 := by decide +kernel
theorem i_rn : z_rt.length ≤ 86 := by decide +kernel
theorem i_zq {a b : Nat} (h : ¬ (a < 65 ∧ b < 40)) : z_q (fun _ => none) a b = none := by
  unfold z_q
  cases hc : (a.beq 18 || (Nat.ble 65 a && Nat.ble a 85)) with
  | true => rfl
  | false =>
    show (z_rt.getD a []).getD b none = none
    by_cases ha : a < z_rt.length
    · have h1 : z_rt.getD a [] = z_rt[a] := by simp [List.getD, List.getElem?_eq_getElem ha]
      have h2 := i_rw z_rt[a] (List.getElem_mem ha)
      have hn := i_rn
      rw [h1]
      have hb : z_rt[a].length ≤ b := by
        have h65 : a < 65 ∨ 86 ≤ a ∨ (65 ≤ a ∧ a ≤ 85) := by omega
        rcases h65 with q | q | q
        · omega
        · omega
        · exfalso
          rw [Nat.ble_eq_true_of_le q.1, Nat.ble_eq_true_of_le q.2] at hc
          simp at hc
      simp [List.getD, List.getElem?_eq_none hb]
    · have h1 : z_rt.getD a [] = [] := by simp [List.getD, List.getElem?_eq_none (Nat.le_of_not_lt ha)]
      rw [h1]; rfl
theorem i_refs : (z_u (z_u (z_u (z_u (z_u (z_u (z_u (z_u (z_u (z_u (z_u (z_u (z_u (z_u (z_u (z_u (z_u (z_u (z_u (z_u (z_u (z_u (z_u (z_u (z_u (z_u (z_u (z_u (z_u (z_u (z_u (z_u (z_u (z_u (z_u (z_u (z_u (z_u (z_u (z_u (z_u (z_u (z_u (z_u (z_u (z_u (z_u (z_u (z_u (z_u (z_u (z_u (z_u (z_u (z_u (z_u (z_u (z_u (z_u (z_u (z_u (z_u (z_u (z_u (z_u (z_u (z_u (fun _ _ => none) 1 0 (some 2)) 0 0 (some 1)) 4 0 (some 5)) 3 10 (some 4)) 6 0 (some 7)) 3 11 (some 6)) 8 0 (some 9)) 3 12 (some 8)) 0 2 (some 3)) 11 0 (some 12)) 10 10 (some 11)) 13 0 (some 14)) 10 11 (some 13)) 15 0 (some 16)) 10 12 (some 15)) 0 3 (some 10)) 17 0 (some 1)) 17 1 (some 10)) 0 1 (some 17)) 0 4 (some 18)) 19 0 (some 20)) 21 0 (some 22)) 19 1 (some 21)) 23 0 (some 24)) 19 2 (some 23)) 0 5 (some 19)) 25 0 (some 26)) 25 1 (some 27)) 28 0 (some 29)) 25 2 (some 28)) 25 3 (some 30)) 0 6 (some 25)) 32 0 (some 33)) 31 2 (some 32)) 34 0 (some 35)) 31 3 (some 34)) 36 0 (some 37)) 31 4 (some 36)) 38 0 (some 39)) 31 9 (some 38)) 40 0 (some 41)) 31 10 (some 40)) 31 0 (some 3)) 31 1 (some 25)) 0 7 (some 31)) 43 0 (some 44)) 42 0 (some 43)) 0 8 (some 42)) 45 1 (some 46)) 45 2 (some 47)) 45 3 (some 48)) 45 4 (some 49)) 45 6 (some 50)) 45 14 (some 51)) 45 19 (some 52)) 45 20 (some 53)) 45 21 (some 54)) 45 24 (some 55)) 45 25 (some 56)) 45 26 (some 57)) 45 27 (some 58)) 45 28 (some 59)) 45 32 (some 60)) 45 35 (some 61)) 45 36 (some 62)) 45 37 (some 63)) 45 38 (some 64)) = z_q (fun _ => none) := by
  show i_rl.foldl i_st (fun _ _ => none) = _
  funext a b
  by_cases h : a < 65 ∧ b < 40
  · exact i_dec a h.1 b h.2
  · rw [i_zq h, i_fo _ _ a b (fun x hx q => h (by have := i_bd x hx; omega))]
def i_w : Nat → Nat → Int := (z_u (z_u (z_u (z_u (z_u (z_u (z_u (z_u (z_u (z_u (z_u (z_u (z_u (z_u (z_u (z_u (z_u (fun _ _ => (0 : Int)) 1 1 0) 17 2 0) 17 3 0) 17 4 0) 17 5 0) 17 6 0) 17 7 (-1)) 24 0 (-1)) 24 1 (-1)) 24 2 (-1)) 24 3 (-1)) 25 4 0) 45 13 (-1)) 61 0 (-1)) 61 1 (-1)) 61 2 (-1)) 61 3 (-1))
theorem i_ints : (z_u (z_u (z_u (z_u (z_u (z_u (z_u (z_u (z_u (z_u (z_u (z_u (z_u (z_u (z_u (z_u (z_u (fun _ _ => 0) 1 1 (Int32.ofInt 0)) 17 2 (Int32.ofInt 0)) 17 3 (Int32.ofInt 0)) 17 4 (Int32.ofInt 0)) 17 5 (Int32.ofInt 0)) 17 6 (Int32.ofInt 0)) 17 7 (Int32.ofInt (-1))) 24 0 (Int32.ofInt (-1))) 24 1 (Int32.ofInt (-1))) 24 2 (Int32.ofInt (-1))) 24 3 (Int32.ofInt (-1))) 25 4 (Int32.ofInt 0)) 45 13 (Int32.ofInt (-1))) 61 0 (Int32.ofInt (-1))) 61 1 (Int32.ofInt (-1))) 61 2 (Int32.ofInt (-1))) 61 3 (Int32.ofInt (-1))) = jM i_w := by
  unfold i_w
  simp only [← jM_u]
  rfl
theorem i_longs : (z_u (fun _ _ => 0) 30 0 (z_kl 0)) = jL (z_u (fun _ _ => 0) 30 0 0) := by
  rw [k_0, ← jL_u]
  rfl
theorem J_0 : J_a 65 (fun _ => none) i_w (z_u (fun _ _ => 0) 30 0 0) := by
  refine ⟨⟨⟨rfl, rfl, rfl, rfl, rfl, rfl, rfl, rfl, rfl, rfl, fun j hj => rfl, fun j hj => rfl, fun j hj => rfl⟩, ?_, ?_⟩, ⟨fun _ => -1, fun _ => 0, fun _ _ => 0, fun s hs => ⟨?_, rfl, fun i hi => ?_⟩, fun s hs => ⟨?_, rfl, fun i hi => ?_⟩, fun s hs => ⟨by dsimp only; omega, by dsimp only; omega, fun i hi => ?_⟩⟩, ⟨0, fun _ => 0, ⟨rfl, fun j hj => by omega⟩, ⟨rfl, fun j hj => by omega⟩, by omega, fun j hj => by omega⟩, ⟨rfl, rfl⟩, ⟨fun _ => false, fun _ _ => 0, fun _ => 0, fun k hk => ⟨rfl, fun q => absurd q Bool.false_ne_true⟩, rfl, fun k hk q => absurd q Bool.false_ne_true, fun k hk _ => rfl, fun i j _ _ _ q => absurd q Bool.false_ne_true⟩⟩
  · exact a_wf_cg W_0.1 (fun j _ => rfl)
  · exact fun q => absurd q (by decide)
  · match s, hs with
    | 0, _ => rfl
    | 1, _ => rfl
    | 2, _ => rfl
    | 3, _ => rfl
    | s + 4, h => omega
  · exact absurd hi (by dsimp only; omega)
  · match s, hs with
    | 0, _ => rfl
    | 1, _ => rfl
    | 2, _ => rfl
    | 3, _ => rfl
    | s + 4, h => omega
  · exact absurd hi (by dsimp only; omega)
  · exact absurd hi (by dsimp only; omega)
set_option maxRecDepth 40000 in
theorem e_law_0 (o : zO) (L : Nat) (xs : Nat → Int32) (r : Nat → Nat → Option Nat) (f : Nat → Nat → Int32) (g : Nat → Nat → Int64) : z_ex (some (L, xs)) o cd_Law_law 4000 (cd_Law_law.drop 0) 0 [some (.ref z_sb), none, none, none] [] (0, r, f, g) = z_oN (o.2.2.2.1 k_LongBoats_init [.ref 0] (1, r, f, g)) none (fun m2 => z_ex (some (L, xs)) o cd_Law_law 3997 (cd_Law_law.drop 3) 3 [some (.ref z_sb), none, none, none] [.ref 0] m2) := by rfl
set_option maxRecDepth 40000 in
theorem e_law_3 (o : zO) (L : Nat) (xs : Nat → Int32) (r : Nat → Nat → Option Nat) (f : Nat → Nat → Int32) (g : Nat → Nat → Int64) : z_ex (some (L, xs)) o cd_Law_law 3997 (cd_Law_law.drop 3) 3 [some (.ref z_sb), none, none, none] [.ref 0] (45, r, f, g) = z_oN (o.2.2.2.1 k_Model_init [.ref 45] (46, r, f, g)) none (fun m2 => z_ex (some (L, xs)) o cd_Law_law 3993 (cd_Law_law.drop 7) 7 [some (.ref z_sb), some (.ref 0), none, none] [.ref 45] m2) := by rfl
set_option maxRecDepth 40000 in
theorem e_law_7 (o : zO) (L : Nat) (xs : Nat → Int32) (r : Nat → Nat → Option Nat) (f : Nat → Nat → Int32) (g : Nat → Nat → Int64) : z_ex (some (L, xs)) o cd_Law_law 3993 (cd_Law_law.drop 7) 7 [some (.ref z_sb), some (.ref 0), none, none] [.ref 45] (65, r, f, g) = some (.inr (11, [some (.ref z_sb), some (.ref 0), some (.ref 45), some (.int (Int32.ofInt 0))], [], (65, r, f, g))) := by rfl
theorem lw_start (L : Nat) (xs : Nat → Int32) : z_ex (some (L, xs)) (z_F 100) cd_Law_law 4000 (cd_Law_law.drop 0) 0 [some (.ref z_sb), none, none, none] [] z_m0 = some (.inr (11, [some (.ref z_sb), some (.ref 0), some (.ref 45), some (.int (Int32.ofInt 0))], [], (65, z_q (fun _ => none), jM i_w, jL (z_u (fun _ _ => 0) 30 0 0)))) := by
  unfold z_m0
  rw [e_law_0, s_ini_LongBoats_0 (e := 97), z_oN_s, e_law_3, s_ini_Model_45 (e := 99), z_oN_s, e_law_7, i_refs, i_ints, i_longs]
theorem b_63 (y : Int32) : 0 ≤ (y &&& Int32.ofInt 63).toInt ∧ (y &&& Int32.ofInt 63).toInt ≤ 63 := by
  have h1 : (y &&& Int32.ofInt 63).toBitVec.toNat ≤ 63 := by
    rw [Int32.toBitVec_and, BitVec.toNat_and]
    exact Nat.and_le_right
  have h2 : (y &&& Int32.ofInt 63).toInt = ((y &&& Int32.ofInt 63).toBitVec.toNat : Int) := BitVec.toInt_eq_toNat_of_lt (by omega)
  omega
theorem lw_step {L T n : Nat} {im : Nat → Option Nat} {w u : Nat → Nat → Int} {ys : Nat → Int} (hy : ∀ q, jR (ys q)) (hL : L ≤ 4096) (hT : T + 8 ≤ L) (hJ : J_a n im w u) : ∃ n' im' w' u', z_ex (some (L, fun q => Int32.ofInt (ys q))) (z_F 100) cd_Law_law 4000 (cd_Law_law.drop 11) 11 [some (.ref z_sb), some (.ref 0), some (.ref 45), some (.int (Int32.ofInt (T : Int)))] [] (n, z_q im, jM w, jL u) = some (.inr (11, [some (.ref z_sb), some (.ref 0), some (.ref 45), some (.int (Int32.ofInt ((T + 8 : Nat) : Int)))], [], (n', z_q im', jM w', jL u'))) ∧ J_a n' im' w' u' := by
  have hb := b_63 (Int32.ofInt (ys T))
  have h1 : ¬ (Int32.ofNat L - Int32.ofInt 8 < Int32.ofInt (T : Int)) := by
    rw [ji_oN, ji_sub]
    exact ji_lt_n (by omega) (by omega) (by omega)
  have h2 : (Int32.ofInt (T : Int)).toNatClampNeg = T := by rw [ji_nat (by omega)]; omega
  have h3 : ¬ (Int32.ofInt (T : Int) < 0 ∨ L ≤ T) := fun q => q.elim (ji_lt_n (b := 0) (by omega) (by decide) (by omega)) (by omega)
  have key : ∀ R, z_tsw (Int32.ofInt (ys T) &&& Int32.ofInt 63).toInt 0 lw_tg (fun t => z_ex (some (L, fun q => Int32.ofInt (ys q))) (z_F 100) cd_Law_law 3988 (cd_Law_law.drop t.toNat) t.toNat [some (.ref z_sb), some (.ref 0), some (.ref 45), some (.int (Int32.ofInt (T : Int)))] [] (n, z_q im, jM w, jL u)) (z_ex (some (L, fun q => Int32.ofInt (ys q))) (z_F 100) cd_Law_law 3988 (cd_Law_law.drop 2611) 2611 [some (.ref z_sb), some (.ref 0), some (.ref 45), some (.int (Int32.ofInt (T : Int)))] [] (n, z_q im, jM w, jL u)) = R → z_ex (some (L, fun q => Int32.ofInt (ys q))) (z_F 100) cd_Law_law 4000 (cd_Law_law.drop 11) 11 [some (.ref z_sb), some (.ref 0), some (.ref 45), some (.int (Int32.ofInt (T : Int)))] [] (n, z_q im, jM w, jL u) = R := fun R hR => by
    refine (e_law_11 ..).trans ?_
    rw [if_neg h1, h2, if_neg h3]
    exact hR
  generalize (Int32.ofInt (ys T) &&& Int32.ofInt 63).toInt = x at hb key
  have hx : x = 0 ∨ x = 1 ∨ x = 2 ∨ x = 3 ∨ x = 4 ∨ x = 5 ∨ x = 6 ∨ x = 7 ∨ x = 8 ∨ x = 9 ∨ x = 10 ∨ x = 11 ∨ x = 12 ∨ x = 13 ∨ x = 14 ∨ x = 15 ∨ x = 16 ∨ x = 17 ∨ x = 18 ∨ x = 19 ∨ x = 20 ∨ x = 21 ∨ x = 22 ∨ x = 23 ∨ x = 24 ∨ x = 25 ∨ x = 26 ∨ x = 27 ∨ x = 28 ∨ x = 29 ∨ x = 30 ∨ x = 31 ∨ x = 32 ∨ x = 33 ∨ x = 34 ∨ x = 35 ∨ x = 36 ∨ x = 37 ∨ x = 38 ∨ x = 39 ∨ x = 40 ∨ x = 41 ∨ x = 42 ∨ x = 43 ∨ x = 44 ∨ x = 45 ∨ x = 46 ∨ x = 47 ∨ x = 48 ∨ x = 49 ∨ x = 50 ∨ x = 51 ∨ x = 52 ∨ x = 53 ∨ x = 54 ∨ x = 55 ∨ x = 56 ∨ x = 57 ∨ x = 58 ∨ x = 59 ∨ x = 60 ∨ x = 61 ∨ x = 62 ∨ x = 63 := by omega
  rcases hx with rfl | rfl | rfl | rfl | rfl | rfl | rfl | rfl | rfl | rfl | rfl | rfl | rfl | rfl | rfl | rfl | rfl | rfl | rfl | rfl | rfl | rfl | rfl | rfl | rfl | rfl | rfl | rfl | rfl | rfl | rfl | rfl | rfl | rfl | rfl | rfl | rfl | rfl | rfl | rfl | rfl | rfl | rfl | rfl | rfl | rfl | rfl | rfl | rfl | rfl | rfl | rfl | rfl | rfl | rfl | rfl | rfl | rfl | rfl | rfl | rfl | rfl | rfl | rfl
  · obtain ⟨n', im', w', u', k1, k2⟩ := cs_0 hy hL hT hJ
    exact ⟨n', im', w', u', key _ ((lw_t0 _ _).trans k1), k2⟩
  · obtain ⟨n', im', w', u', k1, k2⟩ := cs_1 hy hL hT hJ
    exact ⟨n', im', w', u', key _ ((lw_t1 _ _).trans k1), k2⟩
  · obtain ⟨n', im', w', u', k1, k2⟩ := cs_2 hy hL hT hJ
    exact ⟨n', im', w', u', key _ ((lw_t2 _ _).trans k1), k2⟩
  · obtain ⟨n', im', w', u', k1, k2⟩ := cs_3 hy hL hT hJ
    exact ⟨n', im', w', u', key _ ((lw_t3 _ _).trans k1), k2⟩
  · obtain ⟨n', im', w', u', k1, k2⟩ := cs_4 hy hL hT hJ
    exact ⟨n', im', w', u', key _ ((lw_t4 _ _).trans k1), k2⟩
  · obtain ⟨n', im', w', u', k1, k2⟩ := cs_5 hy hL hT hJ
    exact ⟨n', im', w', u', key _ ((lw_t5 _ _).trans k1), k2⟩
  · obtain ⟨n', im', w', u', k1, k2⟩ := cs_6 hy hL hT hJ
    exact ⟨n', im', w', u', key _ ((lw_t6 _ _).trans k1), k2⟩
  · obtain ⟨n', im', w', u', k1, k2⟩ := cs_7 hy hL hT hJ
    exact ⟨n', im', w', u', key _ ((lw_t7 _ _).trans k1), k2⟩
  · obtain ⟨n', im', w', u', k1, k2⟩ := cs_8 hy hL hT hJ
    exact ⟨n', im', w', u', key _ ((lw_t8 _ _).trans k1), k2⟩
  · obtain ⟨n', im', w', u', k1, k2⟩ := cs_9 hy hL hT hJ
    exact ⟨n', im', w', u', key _ ((lw_t9 _ _).trans k1), k2⟩
  · obtain ⟨n', im', w', u', k1, k2⟩ := cs_10 hy hL hT hJ
    exact ⟨n', im', w', u', key _ ((lw_t10 _ _).trans k1), k2⟩
  · obtain ⟨n', im', w', u', k1, k2⟩ := cs_11 hy hL hT hJ
    exact ⟨n', im', w', u', key _ ((lw_t11 _ _).trans k1), k2⟩
  · obtain ⟨n', im', w', u', k1, k2⟩ := cs_12 hy hL hT hJ
    exact ⟨n', im', w', u', key _ ((lw_t12 _ _).trans k1), k2⟩
  · obtain ⟨n', im', w', u', k1, k2⟩ := cs_13 hy hL hT hJ
    exact ⟨n', im', w', u', key _ ((lw_t13 _ _).trans k1), k2⟩
  · obtain ⟨n', im', w', u', k1, k2⟩ := cs_14 hy hL hT hJ
    exact ⟨n', im', w', u', key _ ((lw_t14 _ _).trans k1), k2⟩
  · obtain ⟨n', im', w', u', k1, k2⟩ := cs_15 hy hL hT hJ
    exact ⟨n', im', w', u', key _ ((lw_t15 _ _).trans k1), k2⟩
  · obtain ⟨n', im', w', u', k1, k2⟩ := cs_16 hy hL hT hJ
    exact ⟨n', im', w', u', key _ ((lw_t16 _ _).trans k1), k2⟩
  · obtain ⟨n', im', w', u', k1, k2⟩ := cs_17 hy hL hT hJ
    exact ⟨n', im', w', u', key _ ((lw_t17 _ _).trans k1), k2⟩
  · obtain ⟨n', im', w', u', k1, k2⟩ := cs_18 hy hL hT hJ
    exact ⟨n', im', w', u', key _ ((lw_t18 _ _).trans k1), k2⟩
  · obtain ⟨n', im', w', u', k1, k2⟩ := cs_19 hy hL hT hJ
    exact ⟨n', im', w', u', key _ ((lw_t19 _ _).trans k1), k2⟩
  · obtain ⟨n', im', w', u', k1, k2⟩ := cs_20 hy hL hT hJ
    exact ⟨n', im', w', u', key _ ((lw_t20 _ _).trans k1), k2⟩
  · obtain ⟨n', im', w', u', k1, k2⟩ := cs_21 hy hL hT hJ
    exact ⟨n', im', w', u', key _ ((lw_t21 _ _).trans k1), k2⟩
  · obtain ⟨n', im', w', u', k1, k2⟩ := cs_22 hy hL hT hJ
    exact ⟨n', im', w', u', key _ ((lw_t22 _ _).trans k1), k2⟩
  · obtain ⟨n', im', w', u', k1, k2⟩ := cs_23 hy hL hT hJ
    exact ⟨n', im', w', u', key _ ((lw_t23 _ _).trans k1), k2⟩
  · obtain ⟨n', im', w', u', k1, k2⟩ := cs_24 hy hL hT hJ
    exact ⟨n', im', w', u', key _ ((lw_t24 _ _).trans k1), k2⟩
  · obtain ⟨n', im', w', u', k1, k2⟩ := cs_25 hy hL hT hJ
    exact ⟨n', im', w', u', key _ ((lw_t25 _ _).trans k1), k2⟩
  · obtain ⟨n', im', w', u', k1, k2⟩ := cs_26 hy hL hT hJ
    exact ⟨n', im', w', u', key _ ((lw_t26 _ _).trans k1), k2⟩
  · obtain ⟨n', im', w', u', k1, k2⟩ := cs_27 hy hL hT hJ
    exact ⟨n', im', w', u', key _ ((lw_t27 _ _).trans k1), k2⟩
  · obtain ⟨n', im', w', u', k1, k2⟩ := cs_28 hy hL hT hJ
    exact ⟨n', im', w', u', key _ ((lw_t28 _ _).trans k1), k2⟩
  · obtain ⟨n', im', w', u', k1, k2⟩ := cs_29 hy hL hT hJ
    exact ⟨n', im', w', u', key _ ((lw_t29 _ _).trans k1), k2⟩
  · obtain ⟨n', im', w', u', k1, k2⟩ := cs_30 hy hL hT hJ
    exact ⟨n', im', w', u', key _ ((lw_t30 _ _).trans k1), k2⟩
  · obtain ⟨n', im', w', u', k1, k2⟩ := cs_31 hy hL hT hJ
    exact ⟨n', im', w', u', key _ ((lw_t31 _ _).trans k1), k2⟩
  · obtain ⟨n', im', w', u', k1, k2⟩ := cs_32 hy hL hT hJ
    exact ⟨n', im', w', u', key _ ((lw_t32 _ _).trans k1), k2⟩
  · obtain ⟨n', im', w', u', k1, k2⟩ := cs_33 hy hL hT hJ
    exact ⟨n', im', w', u', key _ ((lw_t33 _ _).trans k1), k2⟩
  · obtain ⟨n', im', w', u', k1, k2⟩ := cs_34 hy hL hT hJ
    exact ⟨n', im', w', u', key _ ((lw_t34 _ _).trans k1), k2⟩
  · obtain ⟨n', im', w', u', k1, k2⟩ := cs_35 hy hL hT hJ
    exact ⟨n', im', w', u', key _ ((lw_t35 _ _).trans k1), k2⟩
  · obtain ⟨n', im', w', u', k1, k2⟩ := cs_36 hy hL hT hJ
    exact ⟨n', im', w', u', key _ ((lw_t36 _ _).trans k1), k2⟩
  · obtain ⟨n', im', w', u', k1, k2⟩ := cs_37 hy hL hT hJ
    exact ⟨n', im', w', u', key _ ((lw_t37 _ _).trans k1), k2⟩
  · obtain ⟨n', im', w', u', k1, k2⟩ := cs_38 hy hL hT hJ
    exact ⟨n', im', w', u', key _ ((lw_t38 _ _).trans k1), k2⟩
  · obtain ⟨n', im', w', u', k1, k2⟩ := cs_39 hy hL hT hJ
    exact ⟨n', im', w', u', key _ ((lw_t39 _ _).trans k1), k2⟩
  · obtain ⟨n', im', w', u', k1, k2⟩ := cs_40 hy hL hT hJ
    exact ⟨n', im', w', u', key _ ((lw_t40 _ _).trans k1), k2⟩
  · obtain ⟨n', im', w', u', k1, k2⟩ := cs_41 hy hL hT hJ
    exact ⟨n', im', w', u', key _ ((lw_t41 _ _).trans k1), k2⟩
  · obtain ⟨n', im', w', u', k1, k2⟩ := cs_42 hy hL hT hJ
    exact ⟨n', im', w', u', key _ ((lw_t42 _ _).trans k1), k2⟩
  · obtain ⟨n', im', w', u', k1, k2⟩ := cs_43 hy hL hT hJ
    exact ⟨n', im', w', u', key _ ((lw_t43 _ _).trans k1), k2⟩
  · obtain ⟨n', im', w', u', k1, k2⟩ := cs_44 hy hL hT hJ
    exact ⟨n', im', w', u', key _ ((lw_t44 _ _).trans k1), k2⟩
  · obtain ⟨n', im', w', u', k1, k2⟩ := cs_45 hy hL hT hJ
    exact ⟨n', im', w', u', key _ ((lw_t45 _ _).trans k1), k2⟩
  · obtain ⟨n', im', w', u', k1, k2⟩ := cs_46 hy hL hT hJ
    exact ⟨n', im', w', u', key _ ((lw_t46 _ _).trans k1), k2⟩
  · obtain ⟨n', im', w', u', k1, k2⟩ := cs_47 hy hL hT hJ
    exact ⟨n', im', w', u', key _ ((lw_t47 _ _).trans k1), k2⟩
  · obtain ⟨n', im', w', u', k1, k2⟩ := cs_48 hy hL hT hJ
    exact ⟨n', im', w', u', key _ ((lw_t48 _ _).trans k1), k2⟩
  · obtain ⟨n', im', w', u', k1, k2⟩ := cs_49 hy hL hT hJ
    exact ⟨n', im', w', u', key _ ((lw_t49 _ _).trans k1), k2⟩
  · obtain ⟨n', im', w', u', k1, k2⟩ := cs_50 hy hL hT hJ
    exact ⟨n', im', w', u', key _ ((lw_t50 _ _).trans k1), k2⟩
  · obtain ⟨n', im', w', u', k1, k2⟩ := cs_51 hy hL hT hJ
    exact ⟨n', im', w', u', key _ ((lw_t51 _ _).trans k1), k2⟩
  · obtain ⟨n', im', w', u', k1, k2⟩ := cs_52 hy hL hT hJ
    exact ⟨n', im', w', u', key _ ((lw_t52 _ _).trans k1), k2⟩
  · obtain ⟨n', im', w', u', k1, k2⟩ := cs_53 hy hL hT hJ
    exact ⟨n', im', w', u', key _ ((lw_t53 _ _).trans k1), k2⟩
  · obtain ⟨n', im', w', u', k1, k2⟩ := cs_54 hy hL hT hJ
    exact ⟨n', im', w', u', key _ ((lw_t54 _ _).trans k1), k2⟩
  · obtain ⟨n', im', w', u', k1, k2⟩ := cs_55 hy hL hT hJ
    exact ⟨n', im', w', u', key _ ((lw_t55 _ _).trans k1), k2⟩
  · obtain ⟨n', im', w', u', k1, k2⟩ := cs_56 hy hL hT hJ
    exact ⟨n', im', w', u', key _ ((lw_t56 _ _).trans k1), k2⟩
  · obtain ⟨n', im', w', u', k1, k2⟩ := cs_57 hy hL hT hJ
    exact ⟨n', im', w', u', key _ ((lw_t57 _ _).trans k1), k2⟩
  · obtain ⟨n', im', w', u', k1, k2⟩ := cs_58 hy hL hT hJ
    exact ⟨n', im', w', u', key _ ((lw_t58 _ _).trans k1), k2⟩
  · obtain ⟨n', im', w', u', k1, k2⟩ := cs_59 hy hL hT hJ
    exact ⟨n', im', w', u', key _ ((lw_t59 _ _).trans k1), k2⟩
  · obtain ⟨n', im', w', u', k1, k2⟩ := cs_60 hy hL hT hJ
    exact ⟨n', im', w', u', key _ ((lw_t60 _ _).trans k1), k2⟩
  · obtain ⟨n', im', w', u', k1, k2⟩ := cs_61 hy hL hT hJ
    exact ⟨n', im', w', u', key _ ((lw_t61 _ _).trans k1), k2⟩
  · obtain ⟨n', im', w', u', k1, k2⟩ := cs_62 hy hL hT hJ
    exact ⟨n', im', w', u', key _ ((lw_t62 _ _).trans k1), k2⟩
  · obtain ⟨n', im', w', u', k1, k2⟩ := cs_63 hy hL hT hJ
    exact ⟨n', im', w', u', key _ ((lw_t63 _ _).trans k1), k2⟩
theorem lw_loop {L : Nat} {ys : Nat → Int} (hy : ∀ q, jR (ys q)) (hL : L ≤ 4096) : ∀ (f T n : Nat) (im : Nat → Option Nat) (w u : Nat → Nat → Int), L < T + 8 * (f + 1) → T ≤ L → J_a n im w u → ∃ (N : Nat) (mf : zM), z_run (some (L, fun q => Int32.ofInt (ys q))) (z_F 100) cd_Law_law N (11, [some (.ref z_sb), some (.ref 0), some (.ref 45), some (.int (Int32.ofInt (T : Int)))], [], (n, z_q im, jM w, jL u)) = some (some (.int (Int32.ofInt 1)), mf) ∧ mf.1 ≤ 86
  | f, T, n, im, w, u, hf, hTL, hJ => by
    by_cases hT : T + 8 ≤ L
    · obtain ⟨g, rfl⟩ : ∃ g, f = g + 1 := ⟨f - 1, by omega⟩
      obtain ⟨n', im', w', u', k1, k2⟩ := lw_step hy hL hT hJ
      obtain ⟨N, mf, l1, l2⟩ := lw_loop hy hL g (T + 8) n' im' w' u' (by omega) hT k2
      refine ⟨N + 1, mf, ?_, l2⟩
      simp only [z_run]
      rw [k1]
      exact l1
    · refine ⟨1, (n, z_q im, jM w, jL u), ?_, ?_⟩
      · have h1 : Int32.ofNat L - Int32.ofInt 8 < Int32.ofInt (T : Int) := by
          rw [ji_oN, ji_sub]
          exact ji_lt_p (by omega) (by omega) (by omega)
        have e : z_ex (some (L, fun q => Int32.ofInt (ys q))) (z_F 100) cd_Law_law 4000 (cd_Law_law.drop 11) 11 [some (.ref z_sb), some (.ref 0), some (.ref 45), some (.int (Int32.ofInt (T : Int)))] [] (n, z_q im, jM w, jL u) = some (.inl (some (.int (Int32.ofInt 1)), (n, z_q im, jM w, jL u))) := by
          refine (e_law_11 ..).trans ?_
          rw [if_pos h1]
        simp only [z_run]
        rw [e]
      · obtain ⟨hs, iv, a, b1, b2, b3⟩ := hJ.2.2.2.2
        have := i_cn_b hs
        show n ≤ 86
        omega
termination_by f => f
theorem z_law (L : Nat) (hL : L ≤ 4096) (xs : Nat → Int32) : ∃ (N : Nat) (mf : zM), z_run (some (L, xs)) (z_F 100) cd_Law_law N (0, [some (.ref z_sb), none, none, none], [], z_m0) = some (some (.int 1), mf) ∧ mf.1 ≤ 86 := by
  have hxs : xs = fun q => Int32.ofInt ((fun q => (xs q).toInt) q) := by
    funext q
    exact (Int32.ofInt_toInt (xs q)).symm
  have hy : ∀ q, jR ((fun q => (xs q).toInt) q) := fun q => ⟨Int32.le_toInt (xs q), Int32.toInt_lt (xs q)⟩
  rw [hxs]
  obtain ⟨N, mf, l1, l2⟩ := lw_loop hy hL (L / 8) 0 65 (fun _ => none) i_w (z_u (fun _ _ => 0) 30 0 0) (by omega) (Nat.zero_le L) J_0
  refine ⟨N + 1, mf, ?_, l2⟩
  simp only [z_run]
  rw [lw_start]
  exact l1
