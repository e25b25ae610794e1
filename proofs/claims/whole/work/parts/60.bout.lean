/-! draws; a bout -/
def a_nx (x : Int) : Int := (1103515245 * x + 12345) % 2147483648
def a_slp (x s : Int) : Int := a_nx x / 65536 % (2 * s + 1) - s
theorem a_nx_b (x : Int) : 0 ≤ a_nx x ∧ a_nx x < 2147483648 := ⟨Int.emod_nonneg _ (by decide), Int.emod_lt_of_pos _ (by decide)⟩
theorem a_slp_b {x s : Int} (hs : 0 ≤ s) : -s ≤ a_slp x s ∧ a_slp x s ≤ s := by
  have h1 := Int.emod_nonneg (a_nx x / 65536) (show 2 * s + 1 ≠ 0 by omega)
  have h2 := Int.emod_lt_of_pos (a_nx x / 65536) (show 0 < 2 * s + 1 by omega)
  unfold a_slp
  omega
theorem jl_nat (m : Nat) : (Int64.ofInt (m : Int)).toBitVec.toNat = m % 18446744073709551616 := by
  rw [Int64.toBitVec_ofInt, BitVec.toNat_ofInt]
  show (((m : Int) % ((18446744073709551616 : Nat) : Int))).toNat = _
  omega
theorem jl_and31 {a : Int} (h0 : 0 ≤ a) (h1 : a < 9223372036854775808) : Int64.ofInt a &&& Int64.ofInt 2147483647 = Int64.ofInt (a % 2147483648) := by
  obtain ⟨k, rfl⟩ := Int.eq_ofNat_of_zero_le h0
  apply Int64.toBitVec.inj
  apply BitVec.eq_of_toNat_eq
  rw [Int64.toBitVec_and, BitVec.toNat_and]
  have e2 : (Int64.ofInt 2147483647).toBitVec.toNat = 2 ^ 31 - 1 := by decide
  have e3 : ((k : Int) % 2147483648) = ((k % 2147483648 : Nat) : Int) := by omega
  rw [e2, e3, jl_nat, jl_nat, Nat.and_two_pow_sub_one_eq_mod]
  omega
theorem zu_zu {w : Nat → Nat → Int} {c j : Nat} {x y : Int} : z_u (z_u w c j x) c j y = z_u w c j y := by
  funext a b
  simp only [z_u]
  split
  · split <;> rfl
  · rfl
theorem jl_rem2 (a b : Int) : Int64.ofInt a - Int64.ofInt (a / b) * Int64.ofInt b = Int64.ofInt (a % b) := by
  rw [jl_mul, jl_sub, Int.emod_def, Int.mul_comm b]
theorem s_dslip {e n : Nat} {im : Nat → Option Nat} {w u : Nat → Nat → Int} {s : Int} (hs : 0 ≤ s ∧ s ≤ 4) (hx : 0 ≤ u 30 0 ∧ u 30 0 < 2147483648) : (z_F (e + 1)).1 k_Draws_slip [.ref 30, .int (Int32.ofInt s)] (n, z_q im, jM w, jL u) = some (Int32.ofInt (a_slp (u 30 0) s), jM w, jL (z_u u 30 0 (a_nx (u 30 0)))) := by
  refine q_Draws_slip ?_
  have hn := a_nx_b (u 30 0)
  have hd : 0 ≤ a_nx (u 30 0) / 65536 ∧ a_nx (u 30 0) / 65536 < 2147483648 := by omega
  have hm1 := Int.emod_nonneg (a_nx (u 30 0) / 65536) (show 2 * s + 1 ≠ 0 by omega)
  have hm2 := Int.emod_lt_of_pos (a_nx (u 30 0) / 65536) (show 0 < 2 * s + 1 by omega)
  have hk : z_kl 13 * jL u 30 0 + z_kl 14 = Int64.ofInt (1103515245 * u 30 0 + 12345) := by rw [kl_13, kl_14, jL_at, jl_mul, jl_add]
  have hk2 : Int64.ofInt (1103515245 * u 30 0 + 12345) &&& z_kl 28 = Int64.ofInt (a_nx (u 30 0)) := by rw [kl_28, jl_and31 (by omega) (by omega)]; rfl
  simp only [hk, hk2, kl_16, ji_mul, ji_add, jL_u]
  rw [jl_of (by omega)]
  simp (disch := omega) only [jl_div, jl_rem2, jl_eq0, ji_le0, jl_to, ji_sub]
  rw [if_neg (by omega), if_neg (by omega)]
  rfl
theorem s_drawnGap {e n : Nat} {im : Nat → Option Nat} {w u : Nat → Nat → Int} (h5 : 0 ≤ w 25 5 ∧ w 25 5 ≤ 4) (h6 : 0 ≤ w 25 6 ∧ w 25 6 ≤ 4) (hx : 0 ≤ u 30 0 ∧ u 30 0 < 2147483648) : (z_F (e + 2)).1 k_Duel_drawnGap [.ref 25] (n, z_q im, jM w, jL u) = some (Int32.ofInt (w 25 10 + a_slp (u 30 0) (w 25 5) - a_slp (a_nx (u 30 0)) (w 25 6)), jM w, jL (z_u u 30 0 (a_nx (a_nx (u 30 0))))) := by
  refine q_Duel_drawnGap ?_
  simp only [jM_at]
  have hu : z_u u 30 0 (a_nx (u 30 0)) 30 0 = a_nx (u 30 0) := rfl
  rw [s_dslip h5 hx, z_oI_s]
  simp only [jM_at]
  rw [s_dslip h6 (by rw [hu]; exact a_nx_b _), z_oI_s, hu, zu_zu]
  simp only [jM_at, ji_add, ji_sub]
/-- the draws' number behind so many passes; the gap in the pass with so many ahead -/
def a_X (dr x : Int) : Nat → Int
  | 0 => x
  | k + 1 => if dr = 0 then a_X dr x k else a_nx (a_nx (a_X dr x k))
def a_G (dr x gp s1 s2 : Int) (k : Nat) : Int := if dr = 0 then gp else gp + a_slp (a_X dr x k) s1 - a_slp (a_nx (a_X dr x k)) s2
theorem a_X_b {dr x : Int} (hx : dr ≠ 0 → 0 ≤ x ∧ x < 2147483648) : ∀ k, dr ≠ 0 → 0 ≤ a_X dr x k ∧ a_X dr x k < 2147483648
  | 0, h => hx h
  | k + 1, h => by
    simp only [a_X, if_neg h]
    exact a_nx_b _
theorem a_X_0 {x : Int} : ∀ k, a_X 0 x k = x
  | 0 => rfl
  | k + 1 => by simp only [a_X, if_true]; exact a_X_0 k
def a_b1 (G : Nat → Int) (lo hi sp : Int) (t f : Nat → Int) (p q : Int) (S : Int × Nat × Int) : Int × Nat × Int := if S.1 = 0 then (a_rs (a_kd lo hi (G S.2.1)) t f sp (p + (S.2.1 : Int)) (q + (S.2.1 : Int)), S.2.1 + 1, S.2.2 + (if a_kd lo hi (G S.2.1) = 0 then 1 else 0)) else S
def a_bi (G : Nat → Int) (lo hi sp : Int) (t f : Nat → Int) (p q : Int) : Nat → Int × Nat × Int → Int × Nat × Int
  | 0, S => S
  | m + 1, S => a_bi G lo hi sp t f p q m (a_b1 G lo hi sp t f p q S)
theorem a_bi_n {G : Nat → Int} {lo hi sp : Int} {t f : Nat → Int} {p q : Int} : ∀ (m : Nat) {S : Int × Nat × Int}, S.1 ≠ 0 → a_bi G lo hi sp t f p q m S = S
  | 0, _, _ => rfl
  | m + 1, S, h => by
    have h1 : a_b1 G lo hi sp t f p q S = S := if_neg h
    simp only [a_bi, h1]
    exact a_bi_n m h
theorem a_bi_cg {G G' : Nat → Int} {lo hi sp : Int} {t f t' f' : Nat → Int} {p q : Int} (hG : ∀ k, G k = G' k) (h1 : ∀ j, j < 6 → t j = t' j) (h2 : ∀ j, j < 6 → f j = f' j) : ∀ (m : Nat) (S : Int × Nat × Int), a_bi G lo hi sp t f p q m S = a_bi G' lo hi sp t' f' p q m S
  | 0, _ => rfl
  | m + 1, S => by
    have h3 : a_b1 G lo hi sp t f p q S = a_b1 G' lo hi sp t' f' p q S := by
      unfold a_b1
      rw [hG, a_rs_cg h1 h2]
    simp only [a_bi, h3]
    exact a_bi_cg hG h1 h2 m _
theorem a_bi_b {G : Nat → Int} {lo hi sp : Int} {t f : Nat → Int} {p q : Int} : ∀ (m : Nat) {S : Int × Nat × Int}, 0 ≤ S.1 ∧ S.1 ≤ 3 → 0 ≤ S.2.2 → (0 ≤ (a_bi G lo hi sp t f p q m S).1 ∧ (a_bi G lo hi sp t f p q m S).1 ≤ 3) ∧ (S.2.1 ≤ (a_bi G lo hi sp t f p q m S).2.1 ∧ (a_bi G lo hi sp t f p q m S).2.1 ≤ S.2.1 + m) ∧ (0 ≤ (a_bi G lo hi sp t f p q m S).2.2 ∧ (a_bi G lo hi sp t f p q m S).2.2 ≤ S.2.2 + m)
  | 0, S, h, h2 => by simp only [a_bi]; omega
  | m + 1, S, h, h2 => by
    simp only [a_bi]
    by_cases h0 : S.1 = 0
    · have h1 : a_b1 G lo hi sp t f p q S = (a_rs (a_kd lo hi (G S.2.1)) t f sp (p + (S.2.1 : Int)) (q + (S.2.1 : Int)), S.2.1 + 1, S.2.2 + (if a_kd lo hi (G S.2.1) = 0 then 1 else 0)) := if_pos h0
      rw [h1]
      have := a_bi_b m (G := G) (lo := lo) (hi := hi) (sp := sp) (t := t) (f := f) (p := p) (q := q) (S := (a_rs (a_kd lo hi (G S.2.1)) t f sp (p + (S.2.1 : Int)) (q + (S.2.1 : Int)), S.2.1 + 1, S.2.2 + (if a_kd lo hi (G S.2.1) = 0 then 1 else 0))) (a_rs_b _ _ _ _ _ _) (by show 0 ≤ S.2.2 + _; split <;> omega)
      have hs : S.2.2 + (if a_kd lo hi (G S.2.1) = 0 then 1 else 0) ≤ S.2.2 + 1 := by split <;> omega
      simp only at this
      omega
    · have h1 : a_b1 G lo hi sp t f p q S = S := if_neg h0
      rw [h1]
      have := a_bi_b m (G := G) (lo := lo) (hi := hi) (sp := sp) (t := t) (f := f) (p := p) (q := q) h h2
      omega
/-- a bout out, in it there is a pass (where there may be one) -/
theorem a_bi_p {G : Nat → Int} {lo hi sp : Int} {t f : Nat → Int} {p q : Int} (m : Nat) : 1 ≤ (a_bi G lo hi sp t f p q (m + 1) (0, 0, 0)).2.1 := by
  have h := (a_bi_b m (G := G) (lo := lo) (hi := hi) (sp := sp) (t := t) (f := f) (p := p) (q := q) (S := a_b1 G lo hi sp t f p q (0, 0, 0)) (a_rs_b _ _ _ _ _ _) (by show 0 ≤ (0 : Int) + _; split <;> omega)).2.1.1
  exact h
def MB (w : Nat → Nat → Int) (r : Int) (k : Nat) (c : Int) : Nat → Nat → Int := fun a b => if a = 25 then (if b = 12 then r else if b = 13 then (k : Int) else if b = 14 then c else w 25 b) else w a b
theorem MB_12 {w : Nat → Nat → Int} {r : Int} {k : Nat} {c : Int} : MB w r k c 25 12 = r := rfl
theorem MB_13 {w : Nat → Nat → Int} {r : Int} {k : Nat} {c : Int} : MB w r k c 25 13 = (k : Int) := rfl
theorem MB_14 {w : Nat → Nat → Int} {r : Int} {k : Nat} {c : Int} : MB w r k c 25 14 = c := rfl
theorem MB_4 {w : Nat → Nat → Int} {r : Int} {k : Nat} {c : Int} : MB w r k c 25 4 = w 25 4 := rfl
theorem MB_5 {w : Nat → Nat → Int} {r : Int} {k : Nat} {c : Int} : MB w r k c 25 5 = w 25 5 := rfl
theorem MB_6 {w : Nat → Nat → Int} {r : Int} {k : Nat} {c : Int} : MB w r k c 25 6 = w 25 6 := rfl
theorem MB_7 {w : Nat → Nat → Int} {r : Int} {k : Nat} {c : Int} : MB w r k c 25 7 = w 25 7 := rfl
theorem MB_8 {w : Nat → Nat → Int} {r : Int} {k : Nat} {c : Int} : MB w r k c 25 8 = w 25 8 := rfl
theorem MB_9 {w : Nat → Nat → Int} {r : Int} {k : Nat} {c : Int} : MB w r k c 25 9 = w 25 9 := rfl
theorem MB_10 {w : Nat → Nat → Int} {r : Int} {k : Nat} {c : Int} : MB w r k c 25 10 = w 25 10 := rfl
theorem MB_11 {w : Nat → Nat → Int} {r : Int} {k : Nat} {c : Int} : MB w r k c 25 11 = w 25 11 := rfl
theorem MB_c3 {w : Nat → Nat → Int} {r : Int} {k : Nat} {c : Int} : MB w r k c 3 = w 3 := rfl
theorem MB_c5 {w : Nat → Nat → Int} {r : Int} {k : Nat} {c : Int} : MB w r k c 5 = w 5 := rfl
theorem MB_c7 {w : Nat → Nat → Int} {r : Int} {k : Nat} {c : Int} : MB w r k c 7 = w 7 := rfl
theorem MB_c9 {w : Nat → Nat → Int} {r : Int} {k : Nat} {c : Int} : MB w r k c 9 = w 9 := rfl
theorem MB_c26 {w : Nat → Nat → Int} {r : Int} {k : Nat} {c : Int} : MB w r k c 26 = w 26 := rfl
theorem MB_c27 {w : Nat → Nat → Int} {r : Int} {k : Nat} {c : Int} : MB w r k c 27 = w 27 := rfl
theorem MB_c29 {w : Nat → Nat → Int} {r : Int} {k : Nat} {c : Int} : MB w r k c 29 = w 29 := rfl
theorem MB_c31 {w : Nat → Nat → Int} {r : Int} {k : Nat} {c : Int} : MB w r k c 31 = w 31 := rfl
theorem MB_c33 {w : Nat → Nat → Int} {r : Int} {k : Nat} {c : Int} : MB w r k c 33 = w 33 := rfl
theorem MB_c35 {w : Nat → Nat → Int} {r : Int} {k : Nat} {c : Int} : MB w r k c 35 = w 35 := rfl
theorem MB_c37 {w : Nat → Nat → Int} {r : Int} {k : Nat} {c : Int} : MB w r k c 37 = w 37 := rfl
theorem MB_c39 {w : Nat → Nat → Int} {r : Int} {k : Nat} {c : Int} : MB w r k c 39 = w 39 := rfl
theorem MB_c41 {w : Nat → Nat → Int} {r : Int} {k : Nat} {c : Int} : MB w r k c 41 = w 41 := rfl
theorem MB_c44 {w : Nat → Nat → Int} {r : Int} {k : Nat} {c : Int} : MB w r k c 44 = w 44 := rfl
theorem MB_c46 {w : Nat → Nat → Int} {r : Int} {k : Nat} {c : Int} : MB w r k c 46 = w 46 := rfl
theorem MB_ne {w : Nat → Nat → Int} {r : Int} {k : Nat} {c : Int} {a : Nat} (h : a ≠ 25) : MB w r k c a = w a := by funext b; simp only [MB, if_neg h]
theorem MB_u12 {w : Nat → Nat → Int} {r x : Int} {k : Nat} {c : Int} : z_u (MB w r k c) 25 12 x = MB w x k c := by
  funext a b
  simp only [z_u, MB]
  (repeat' split) <;> first | rfl | omega
theorem MB_u13 {w : Nat → Nat → Int} {r : Int} {k k' : Nat} {c : Int} : z_u (MB w r k c) 25 13 (k' : Int) = MB w r k' c := by
  funext a b
  simp only [z_u, MB]
  (repeat' split) <;> first | rfl | omega
theorem MB_u14 {w : Nat → Nat → Int} {r x : Int} {k : Nat} {c : Int} : z_u (MB w r k c) 25 14 x = MB w r k x := by
  funext a b
  simp only [z_u, MB]
  (repeat' split) <;> first | rfl | omega
theorem MB_i (w : Nat → Nat → Int) : z_u (z_u (z_u w 25 12 0) 25 13 0) 25 14 0 = MB w 0 0 0 := by
  funext a b
  simp only [z_u, MB]
  by_cases h : a = 25
  · subst h
    simp only [if_true]
    (repeat' split) <;> first | rfl | omega
  · simp only [if_neg h]
theorem s_runBout {e n : Nat} {im : Nat → Option Nat} {w u : Nat → Nat → Int} {p p2 dr : Int} (ta : a_tr (w 26)) (tb : a_tr (w 27)) (h9 : 0 ≤ w 25 9 ∧ w 25 9 ≤ 100) (h4 : w 25 4 = dr) (hdr : dr = 0 ∨ dr = 1) (h5 : 0 ≤ w 25 5 ∧ w 25 5 ≤ 4) (h6 : 0 ≤ w 25 6 ∧ w 25 6 ≤ 4) (h7 : 0 ≤ w 25 7 ∧ w 25 7 ≤ 12) (h8 : 0 ≤ w 25 8 ∧ w 25 8 ≤ 12) (h10 : 0 ≤ w 25 10 ∧ w 25 10 ≤ 12) (h11 : 0 ≤ w 25 11 ∧ w 25 11 ≤ 7) (hp : 0 ≤ p ∧ p ≤ 900) (hq : 0 ≤ p2 ∧ p2 ≤ 900) (hx : dr ≠ 0 → 0 ≤ u 30 0 ∧ u 30 0 < 2147483648) {S : Int × Nat × Int} (hS : a_bi (a_G dr (u 30 0) (w 25 10) (w 25 5) (w 25 6)) (w 25 7) (w 25 8) (w 25 9) (w 26) (w 27) p p2 (w 25 11).toNat (0, 0, 0) = S) : (z_F (e + 4)).2.2.1 k_Duel_runBout [.ref 25, .int (Int32.ofInt p), .int (Int32.ofInt p2)] (n, z_q im, jM w, jL u) = some (jM (MB w S.1 S.2.1 S.2.2), jL (z_u u 30 0 (a_X dr (u 30 0) S.2.1))) := by
  subst hS
  have hl : ∀ (m : Nat) (r : Int) (k : Nat) (c : Int) (q3 : Option Value), k + m = (w 25 11).toNat → (0 ≤ r ∧ r ≤ 3) → z_Rn (z_F (e + 3)) cd_Duel_runBout 10 [some (.ref 25), some (.int (Int32.ofInt p)), some (.int (Int32.ofInt p2)), q3] (n, z_q im, jM (MB w r k c), jL (z_u u 30 0 (a_X dr (u 30 0) k))) (none, (n, z_q im, jM (MB w (a_bi (a_G dr (u 30 0) (w 25 10) (w 25 5) (w 25 6)) (w 25 7) (w 25 8) (w 25 9) (w 26) (w 27) p p2 m (r, k, c)).1 (a_bi (a_G dr (u 30 0) (w 25 10) (w 25 5) (w 25 6)) (w 25 7) (w 25 8) (w 25 9) (w 26) (w 27) p p2 m (r, k, c)).2.1 (a_bi (a_G dr (u 30 0) (w 25 10) (w 25 5) (w 25 6)) (w 25 7) (w 25 8) (w 25 9) (w 26) (w 27) p p2 m (r, k, c)).2.2), jL (z_u u 30 0 (a_X dr (u 30 0) (a_bi (a_G dr (u 30 0) (w 25 10) (w 25 5) (w 25 6)) (w 25 7) (w 25 8) (w 25 9) (w 26) (w 27) p p2 m (r, k, c)).2.1)))) := by
    intro m
    induction m with
    | zero =>
      intro r k c q3 hk hr
      refine z_ret ((e_Duel_runBout_10 ..).trans ?_)
      simp (disch := omega) only [jM_at, MB_11, MB_13, ji_le]
      rw [if_pos (by omega)]
      rfl
    | succ m ih =>
      intro r k c q3 hk hr
      by_cases h0 : r = 0
      · subst h0
        have hbi : a_bi (a_G dr (u 30 0) (w 25 10) (w 25 5) (w 25 6)) (w 25 7) (w 25 8) (w 25 9) (w 26) (w 27) p p2 (m + 1) (0, k, c) = a_bi (a_G dr (u 30 0) (w 25 10) (w 25 5) (w 25 6)) (w 25 7) (w 25 8) (w 25 9) (w 26) (w 27) p p2 m (a_rs (a_kd (w 25 7) (w 25 8) (a_G dr (u 30 0) (w 25 10) (w 25 5) (w 25 6) k)) (w 26) (w 27) (w 25 9) (p + (k : Int)) (p2 + (k : Int)), k + 1, c + (if a_kd (w 25 7) (w 25 8) (a_G dr (u 30 0) (w 25 10) (w 25 5) (w 25 6) k) = 0 then 1 else 0)) := rfl
        rw [hbi]
        have hgb : -100 ≤ a_G dr (u 30 0) (w 25 10) (w 25 5) (w 25 6) k ∧ a_G dr (u 30 0) (w 25 10) (w 25 5) (w 25 6) k ≤ 100 := by
          have b1 := a_slp_b (x := a_X dr (u 30 0) k) h5.1
          have b2 := a_slp_b (x := a_nx (a_X dr (u 30 0) k)) h6.1
          unfold a_G
          split <;> omega
        generalize hg : a_G dr (u 30 0) (w 25 10) (w 25 5) (w 25 6) k = g at hgb ⊢
        have hkb := a_kd_b (w 25 7) (w 25 8) g
        refine z_go ((e_Duel_runBout_10 ..).trans ?_) (ih _ (k + 1) _ (some (.int (Int32.ofInt (a_kd (w 25 7) (w 25 8) g)))) (by omega) (a_rs_b _ _ _ _ _ _))
        have hrun : ∀ (ux : Nat → Nat → Int) (c9 : Int), (z_F (e + 3)).1 k_Duel_resultOf [.ref 25, .int (Int32.ofInt (a_kd (w 25 7) (w 25 8) g)), .int (Int32.ofInt (p + (k : Int))), .int (Int32.ofInt (p2 + (k : Int)))] (n, z_q im, jM (MB w 0 k c9), jL ux) = some (Int32.ofInt (a_rs (a_kd (w 25 7) (w 25 8) g) (w 26) (w 27) (w 25 9) (p + (k : Int)) (p2 + (k : Int))), jM (MB w 0 k c9), jL ux) := fun ux c9 => s_dres (w := MB w 0 k c9) hkb ta tb h9 (by omega) (by omega)
        have hkd : ∀ ux : Nat → Nat → Int, (z_F (e + 3)).1 k_Duel_kindOf [.ref 25, .int (Int32.ofInt g)] (n, z_q im, jM (MB w 0 k c), jL ux) = some (Int32.ofInt (a_kd (w 25 7) (w 25 8) g), jM (MB w 0 k c), jL ux) := fun ux => s_dkind (w := MB w 0 k c) (by omega) (show jR (w 25 7) by omega) (show jR (w 25 8) by omega)
        simp (disch := omega) only [jM_at, MB_11, MB_13, MB_12, MB_4, MB_10, h4, ji_le, ji_eq0, if_true]
        rw [if_neg (by omega)]
        by_cases hd : dr = 0
        · have hgg : g = w 25 10 := by rw [← hg]; exact if_pos hd
          rw [if_pos hd, ← hgg, hkd, z_oI_s]
          have hX : a_X dr (u 30 0) (k + 1) = a_X dr (u 30 0) k := if_pos hd
          rw [hX]
          simp (disch := omega) only [ji_eq0, jM_at, MB_13, MB_14, ji_add, jM_u, MB_u14, hrun, z_oI_s, MB_u12, ← ic, MB_u13]
          by_cases hz : a_kd (w 25 7) (w 25 8) g = 0
          · rw [if_pos hz, if_pos hz]
          · rw [if_neg hz, if_neg hz]
        · have hxx := a_X_b hx k hd
          have hgg : g = w 25 10 + a_slp (a_X dr (u 30 0) k) (w 25 5) - a_slp (a_nx (a_X dr (u 30 0) k)) (w 25 6) := by rw [← hg]; exact if_neg hd
          have hdg : (z_F (e + 3)).1 k_Duel_drawnGap [.ref 25] (n, z_q im, jM (MB w 0 k c), jL (z_u u 30 0 (a_X dr (u 30 0) k))) = some (Int32.ofInt g, jM (MB w 0 k c), jL (z_u u 30 0 (a_nx (a_nx (a_X dr (u 30 0) k))))) := by
            have h := s_drawnGap (e := e + 1) (n := n) (im := im) (w := MB w 0 k c) (u := z_u u 30 0 (a_X dr (u 30 0) k)) h5 h6 (show 0 ≤ z_u u 30 0 (a_X dr (u 30 0) k) 30 0 ∧ _ from hxx)
            rw [zu_zu] at h
            rw [hgg]
            exact h
          rw [if_neg hd, hdg, z_oI_s, hkd, z_oI_s]
          have hX : a_X dr (u 30 0) (k + 1) = a_nx (a_nx (a_X dr (u 30 0) k)) := if_neg hd
          rw [hX]
          simp (disch := omega) only [ji_eq0, jM_at, MB_13, MB_14, ji_add, jM_u, MB_u14, hrun, z_oI_s, MB_u12, ← ic, MB_u13]
          by_cases hz : a_kd (w 25 7) (w 25 8) g = 0
          · rw [if_pos hz, if_pos hz]
          · rw [if_neg hz, if_neg hz]
      · rw [a_bi_n (m + 1) (S := (r, k, c)) h0]
        refine z_ret ((e_Duel_runBout_10 ..).trans ?_)
        simp (disch := omega) only [jM_at, MB_11, MB_13, MB_12, ji_le, ji_eq0]
        rw [if_neg (by omega), if_neg h0]
  have hl0 := hl (w 25 11).toNat 0 0 0 none (by omega) (by decide)
  refine n_Duel_runBout (z_go ((e_Duel_runBout_0 ..).trans ?_) hl0)
  simp only [jM_u, MB_i]
  rw [show a_X dr (u 30 0) 0 = u 30 0 from rfl, zu_self]
def MG (w : Nat → Nat → Int) (r : Int) (k : Nat) (c : Int) : Nat → Nat → Int := fun a b => if a = 45 then (if b = 15 then r else if b = 16 then (k : Int) else if b = 17 then c else w 45 b) else w a b
theorem MG_15 {w : Nat → Nat → Int} {r : Int} {k : Nat} {c : Int} : MG w r k c 45 15 = r := rfl
theorem MG_16 {w : Nat → Nat → Int} {r : Int} {k : Nat} {c : Int} : MG w r k c 45 16 = (k : Int) := rfl
theorem MG_17 {w : Nat → Nat → Int} {r : Int} {k : Nat} {c : Int} : MG w r k c 45 17 = c := rfl
theorem MG_5 {w : Nat → Nat → Int} {r : Int} {k : Nat} {c : Int} : MG w r k c 45 5 = w 45 5 := rfl
theorem MG_12 {w : Nat → Nat → Int} {r : Int} {k : Nat} {c : Int} : MG w r k c 45 12 = w 45 12 := rfl
theorem MG_13 {w : Nat → Nat → Int} {r : Int} {k : Nat} {c : Int} : MG w r k c 45 13 = w 45 13 := rfl
theorem MG_22 {w : Nat → Nat → Int} {r : Int} {k : Nat} {c : Int} : MG w r k c 45 22 = w 45 22 := rfl
theorem MG_23 {w : Nat → Nat → Int} {r : Int} {k : Nat} {c : Int} : MG w r k c 45 23 = w 45 23 := rfl
theorem MG_29 {w : Nat → Nat → Int} {r : Int} {k : Nat} {c : Int} : MG w r k c 45 29 = w 45 29 := rfl
theorem MG_30 {w : Nat → Nat → Int} {r : Int} {k : Nat} {c : Int} : MG w r k c 45 30 = w 45 30 := rfl
theorem MG_31 {w : Nat → Nat → Int} {r : Int} {k : Nat} {c : Int} : MG w r k c 45 31 = w 45 31 := rfl
theorem MG_33 {w : Nat → Nat → Int} {r : Int} {k : Nat} {c : Int} : MG w r k c 45 33 = w 45 33 := rfl
theorem MG_34 {w : Nat → Nat → Int} {r : Int} {k : Nat} {c : Int} : MG w r k c 45 34 = w 45 34 := rfl
theorem MG_c46 {w : Nat → Nat → Int} {r : Int} {k : Nat} {c : Int} : MG w r k c 46 = w 46 := rfl
theorem MG_c53 {w : Nat → Nat → Int} {r : Int} {k : Nat} {c : Int} : MG w r k c 53 = w 53 := rfl
theorem MG_c54 {w : Nat → Nat → Int} {r : Int} {k : Nat} {c : Int} : MG w r k c 54 = w 54 := rfl
theorem MG_c55 {w : Nat → Nat → Int} {r : Int} {k : Nat} {c : Int} : MG w r k c 55 = w 55 := rfl
theorem MG_c56 {w : Nat → Nat → Int} {r : Int} {k : Nat} {c : Int} : MG w r k c 56 = w 56 := rfl
theorem MG_c57 {w : Nat → Nat → Int} {r : Int} {k : Nat} {c : Int} : MG w r k c 57 = w 57 := rfl
theorem MG_c58 {w : Nat → Nat → Int} {r : Int} {k : Nat} {c : Int} : MG w r k c 58 = w 58 := rfl
theorem MG_c59 {w : Nat → Nat → Int} {r : Int} {k : Nat} {c : Int} : MG w r k c 59 = w 59 := rfl
theorem MG_c60 {w : Nat → Nat → Int} {r : Int} {k : Nat} {c : Int} : MG w r k c 60 = w 60 := rfl
theorem MG_ne {w : Nat → Nat → Int} {r : Int} {k : Nat} {c : Int} {a : Nat} (h : a ≠ 45) : MG w r k c a = w a := by funext b; simp only [MG, if_neg h]
theorem MG_u15 {w : Nat → Nat → Int} {r x : Int} {k : Nat} {c : Int} : z_u (MG w r k c) 45 15 x = MG w x k c := by
  funext a b
  simp only [z_u, MG]
  (repeat' split) <;> first | rfl | omega
theorem MG_u16 {w : Nat → Nat → Int} {r : Int} {k k' : Nat} {c : Int} : z_u (MG w r k c) 45 16 (k' : Int) = MG w r k' c := by
  funext a b
  simp only [z_u, MG]
  (repeat' split) <;> first | rfl | omega
theorem MG_u17 {w : Nat → Nat → Int} {r x : Int} {k : Nat} {c : Int} : z_u (MG w r k c) 45 17 x = MG w r k x := by
  funext a b
  simp only [z_u, MG]
  (repeat' split) <;> first | rfl | omega
theorem MG_i (w : Nat → Nat → Int) : z_u (z_u w 45 15 0) 45 16 0 = MG w 0 0 (w 45 17) := by
  funext a b
  simp only [z_u, MG]
  by_cases h : a = 45
  · subst h
    simp only [if_true]
    (repeat' split) <;> first | rfl | omega | simp_all
  · simp only [if_neg h]
theorem s_draw {e n : Nat} {im : Nat → Option Nat} {w u : Nat → Nat → Int} {s : Int} (hs : 1 ≤ s ∧ s ≤ 9) (hx : 0 ≤ u 45 18 ∧ u 45 18 < 2147483648) : (z_F (e + 1)).1 k_Model_draw [.ref 45, .int (Int32.ofInt s)] (n, z_q im, jM w, jL u) = some (Int32.ofInt (a_nx (u 45 18) / 65536 % s), jM w, jL (z_u u 45 18 (a_nx (u 45 18)))) := by
  refine q_Model_draw ?_
  have hn := a_nx_b (u 45 18)
  have hd : 0 ≤ a_nx (u 45 18) / 65536 ∧ a_nx (u 45 18) / 65536 < 2147483648 := by omega
  have hk : z_kl 13 * jL u 45 18 + z_kl 14 = Int64.ofInt (1103515245 * u 45 18 + 12345) := by rw [kl_13, kl_14, jL_at, jl_mul, jl_add]
  have hk2 : Int64.ofInt (1103515245 * u 45 18 + 12345) - Int64.ofInt (1103515245 * u 45 18 + 12345) / z_kl 15 * z_kl 15 = Int64.ofInt (a_nx (u 45 18)) := by rw [kl_15, jl_rem (by omega) (by omega) (by omega) (by omega)]; rfl
  simp only [hk, hk2, kl_16, jL_u]
  rw [jl_of (by omega)]
  simp (disch := omega) only [jl_div, jl_rem2, jl_eq0, jl_to]
  rw [if_neg (by omega)]
theorem s_slipDrawn {e n : Nat} {im : Nat → Option Nat} {w u : Nat → Nat → Int} {b : Int} (h0 : 0 ≤ b) (h3 : b ≤ 3) (hs : 0 ≤ w 46 (10 + 2 * b.toNat + 1) ∧ w 46 (10 + 2 * b.toNat + 1) ≤ 4) (hx : 0 ≤ u 45 18 ∧ u 45 18 < 2147483648) : (z_F (e + 2)).1 k_Model_slipDrawn [.ref 45, .int (Int32.ofInt b)] (n, z_q im, jM w, jL u) = some (Int32.ofInt (a_slp (u 45 18) (w 46 (10 + 2 * b.toNat + 1))), jM w, jL (z_u u 45 18 (a_nx (u 45 18)))) := by
  refine q_Model_slipDrawn ?_
  rw [s_slipOf h0 h3, z_oI_s, ji_mul, ji_add, s_draw (by omega) hx, z_oI_s, s_slipOf h0 h3, z_oI_s, ji_sub]
  rfl
theorem s_goes {e n : Nat} {im : Nat → Option Nat} {w u : Nat → Nat → Int} {a b bo ot p p2 dr : Int} (hw : a_wf (w 46)) (s1 : 0 ≤ a ∧ a < w 46 7) (s2 : 0 ≤ b ∧ b < w 46 7) (s4 : 0 ≤ bo ∧ bo < w 46 6) (s5 : 0 ≤ ot ∧ ot < w 46 6) (hdr : dr = 0 ∨ dr = 1) (hp : 0 ≤ p ∧ p ≤ 900) (hq : 0 ≤ p2 ∧ p2 ≤ 900) (hx : dr ≠ 0 → 0 ≤ u 45 18 ∧ u 45 18 < 2147483648) {S : Int × Nat × Int} (hS : a_bi (a_G dr (u 45 18) (w 46 1) (w 46 (10 + 2 * bo.toNat + 1)) (w 46 (10 + 2 * ot.toNat + 1))) (w 46 3) (w 46 4) (a_sp (w 46) bo ot) (a_T (w 46) a) (a_T (w 46) b) p p2 (w 46 2).toNat (0, 0, 0) = S) : (z_F (e + 6)).2.2.1 k_Model_goes [.ref 45, .int (Int32.ofInt a), .int (Int32.ofInt b), .int (Int32.ofInt bo), .int (Int32.ofInt ot), .int (Int32.ofInt p), .int (Int32.ofInt p2), .int (Int32.ofInt dr)] (n, z_q im, jM w, jL u) = some (jM (MG w S.1 S.2.1 (w 45 17 + S.2.2)), jL (z_u u 45 18 (a_X dr (u 45 18) S.2.1))) := by
  subst hS
  obtain ⟨f0, f1, f2, f3, f4, f5, f6, f7, f8, f9, f10, f11, f12⟩ := id hw
  have b1 := f10 bo s4.1 s4.2
  have b2 := f10 ot s5.1 s5.2
  have spb := a_sp_b b1 b2 f0
  have ta := f11 a s1.1 s1.2
  have tb := f11 b s2.1 s2.2
  generalize hGG : a_G dr (u 45 18) (w 46 1) (w 46 (10 + 2 * bo.toNat + 1)) (w 46 (10 + 2 * ot.toNat + 1)) = GG
  have hl : ∀ (m : Nat) (r : Int) (k : Nat) (c : Int) (q3 : Option Value), k + m = (w 46 2).toNat → (0 ≤ r ∧ r ≤ 3) → z_Rn (z_F (e + 5)) cd_Model_goes 7 [some (.ref 45), some (.int (Int32.ofInt a)), some (.int (Int32.ofInt b)), some (.int (Int32.ofInt bo)), some (.int (Int32.ofInt ot)), some (.int (Int32.ofInt p)), some (.int (Int32.ofInt p2)), some (.int (Int32.ofInt dr)), q3] (n, z_q im, jM (MG w r k (w 45 17 + c)), jL (z_u u 45 18 (a_X dr (u 45 18) k))) (none, (n, z_q im, jM (MG w (a_bi GG (w 46 3) (w 46 4) (a_sp (w 46) bo ot) (a_T (w 46) a) (a_T (w 46) b) p p2 m (r, k, c)).1 (a_bi GG (w 46 3) (w 46 4) (a_sp (w 46) bo ot) (a_T (w 46) a) (a_T (w 46) b) p p2 m (r, k, c)).2.1 (w 45 17 + (a_bi GG (w 46 3) (w 46 4) (a_sp (w 46) bo ot) (a_T (w 46) a) (a_T (w 46) b) p p2 m (r, k, c)).2.2)), jL (z_u u 45 18 (a_X dr (u 45 18) (a_bi GG (w 46 3) (w 46 4) (a_sp (w 46) bo ot) (a_T (w 46) a) (a_T (w 46) b) p p2 m (r, k, c)).2.1)))) := by
    intro m
    induction m with
    | zero =>
      intro r k c q3 hk hr
      refine z_ret ((e_Model_goes_7 ..).trans ?_)
      simp (disch := omega) only [jM_at, MG_c46, MG_15, MG_16, ji_le]
      rw [if_pos (c := w 46 2 ≤ (k : Int)) (by omega)]
      split <;> rfl
    | succ m ih =>
      intro r k c q3 hk hr
      by_cases h0 : r = 0
      · subst h0
        have hbi : a_bi GG (w 46 3) (w 46 4) (a_sp (w 46) bo ot) (a_T (w 46) a) (a_T (w 46) b) p p2 (m + 1) (0, k, c) = a_bi GG (w 46 3) (w 46 4) (a_sp (w 46) bo ot) (a_T (w 46) a) (a_T (w 46) b) p p2 m (a_rs (a_kd (w 46 3) (w 46 4) (GG k)) (a_T (w 46) a) (a_T (w 46) b) (a_sp (w 46) bo ot) (p + (k : Int)) (p2 + (k : Int)), k + 1, c + (if a_kd (w 46 3) (w 46 4) (GG k) = 0 then 1 else 0)) := rfl
        rw [hbi]
        have hgb : -100 ≤ GG k ∧ GG k ≤ 100 := by
          have c1 := a_slp_b (x := a_X dr (u 45 18) k) b1.2.1
          have c2 := a_slp_b (x := a_nx (a_X dr (u 45 18) k)) b2.2.1
          have c3 := b1.2.2
          have c4 := b2.2.2
          rw [← hGG]
          unfold a_G
          split <;> omega
        have hg : a_G dr (u 45 18) (w 46 1) (w 46 (10 + 2 * bo.toNat + 1)) (w 46 (10 + 2 * ot.toNat + 1)) k = GG k := by rw [hGG]
        generalize GG k = g at hgb hg ⊢
        have hkz : a_kd (w 46 3) (w 46 4) g = 0 ↔ ¬ w 46 3 ≤ g := by
          unfold a_kd
          (repeat' split) <;> omega
        have hrun : ∀ (ux : Nat → Nat → Int) (c9 : Int), (z_F (e + 5)).1 k_Model_resultOf [.ref 45, .int (Int32.ofInt a), .int (Int32.ofInt b), .int (Int32.ofInt (a_sp (w 46) bo ot)), .int (Int32.ofInt (p + (k : Int))), .int (Int32.ofInt (p2 + (k : Int))), .int (Int32.ofInt g)] (n, z_q im, jM (MG w 0 k c9), jL ux) = some (Int32.ofInt (a_rs (a_kd (w 46 3) (w 46 4) g) (a_T (w 46) a) (a_T (w 46) b) (a_sp (w 46) bo ot) (p + (k : Int)) (p2 + (k : Int))), jM (MG w 0 k c9), jL ux) := fun ux c9 => s_resultOf (w := MG w 0 k c9) (by omega) (by omega) (by omega) (by omega) ta tb (by omega) (by omega) (by omega) (by omega) (show jR (w 46 3) by omega) (show jR (w 46 4) by omega)
        have hsp : ∀ (ux : Nat → Nat → Int) (c9 : Int), (z_F (e + 5)).1 k_Model_speedOf [.ref 45, .int (Int32.ofInt bo), .int (Int32.ofInt ot)] (n, z_q im, jM (MG w 0 k c9), jL ux) = some (Int32.ofInt (a_sp (w 46) bo ot), jM (MG w 0 k c9), jL ux) := fun ux c9 => s_speedOf (w := MG w 0 k c9) (by omega) (by omega) (by omega) (by omega) b1 b2 f0
        refine z_go ((e_Model_goes_7 ..).trans ?_) (ih _ (k + 1) _ (some (.int (Int32.ofInt g))) (by omega) (a_rs_b _ _ _ _ _ _))
        simp (disch := omega) only [jM_at, MG_c46, MG_15, MG_16, MG_17, ji_eq0, ji_le, if_true]
        rw [if_neg (c := w 46 2 ≤ (k : Int)) (by omega)]
        by_cases hd : dr = 0
        · have hgg : g = w 46 1 := by rw [← hg]; exact if_pos hd
          have hX : a_X dr (u 45 18) (k + 1) = a_X dr (u 45 18) k := if_pos hd
          rw [if_pos hd, ← hgg, hX]
          simp (disch := omega) only [ji_le, jM_at, MG_16, MG_17, ji_add, jM_u, MG_u17, hsp, hrun, z_oI_s, MG_u15, ← ic, MG_u16]
          by_cases hz : w 46 3 ≤ g
          · rw [if_pos hz, if_neg (c := a_kd (w 46 3) (w 46 4) g = 0) (fun q => (hkz.mp q) hz), Int.add_assoc]
          · rw [if_neg hz, if_pos (c := a_kd (w 46 3) (w 46 4) g = 0) (hkz.mpr hz), Int.add_assoc]
        · have hxx := a_X_b hx k hd
          have hgg : w 46 1 + a_slp (a_X dr (u 45 18) k) (w 46 (10 + 2 * bo.toNat + 1)) - a_slp (a_nx (a_X dr (u 45 18) k)) (w 46 (10 + 2 * ot.toNat + 1)) = g := by rw [← hg]; exact (if_neg hd).symm
          have hX : a_X dr (u 45 18) (k + 1) = a_nx (a_nx (a_X dr (u 45 18) k)) := if_neg hd
          have hd1 : (z_F (e + 5)).1 k_Model_slipDrawn [.ref 45, .int (Int32.ofInt bo)] (n, z_q im, jM (MG w 0 k (w 45 17 + c)), jL (z_u u 45 18 (a_X dr (u 45 18) k))) = some (Int32.ofInt (a_slp (a_X dr (u 45 18) k) (w 46 (10 + 2 * bo.toNat + 1))), jM (MG w 0 k (w 45 17 + c)), jL (z_u u 45 18 (a_nx (a_X dr (u 45 18) k)))) := by
            have h := s_slipDrawn (e := e + 3) (n := n) (im := im) (w := MG w 0 k (w 45 17 + c)) (u := z_u u 45 18 (a_X dr (u 45 18) k)) s4.1 (show bo ≤ 3 by omega) b1.2 (show 0 ≤ z_u u 45 18 (a_X dr (u 45 18) k) 45 18 ∧ _ from hxx)
            rw [zu_zu] at h
            exact h
          have hd2 : (z_F (e + 5)).1 k_Model_slipDrawn [.ref 45, .int (Int32.ofInt ot)] (n, z_q im, jM (MG w 0 k (w 45 17 + c)), jL (z_u u 45 18 (a_nx (a_X dr (u 45 18) k)))) = some (Int32.ofInt (a_slp (a_nx (a_X dr (u 45 18) k)) (w 46 (10 + 2 * ot.toNat + 1))), jM (MG w 0 k (w 45 17 + c)), jL (z_u u 45 18 (a_nx (a_nx (a_X dr (u 45 18) k))))) := by
            have h := s_slipDrawn (e := e + 3) (n := n) (im := im) (w := MG w 0 k (w 45 17 + c)) (u := z_u u 45 18 (a_nx (a_X dr (u 45 18) k))) s5.1 (show ot ≤ 3 by omega) b2.2 (show 0 ≤ z_u u 45 18 (a_nx (a_X dr (u 45 18) k)) 45 18 ∧ _ from a_nx_b _)
            rw [zu_zu] at h
            exact h
          rw [if_neg hd, hd1, z_oI_s, hd2, z_oI_s, hX]
          simp (disch := omega) only [ji_sub, hgg, ji_le, jM_at, MG_c46, MG_16, MG_17, ji_add, jM_u, MG_u17, hsp, hrun, z_oI_s, MG_u15, ← ic, MG_u16]
          by_cases hz : w 46 3 ≤ g
          · rw [if_pos hz, if_neg (c := a_kd (w 46 3) (w 46 4) g = 0) (fun q => (hkz.mp q) hz), Int.add_assoc]
          · rw [if_neg hz, if_pos (c := a_kd (w 46 3) (w 46 4) g = 0) (hkz.mpr hz), Int.add_assoc]
      · rw [a_bi_n (m + 1) (S := (r, k, c)) h0]
        refine z_ret ((e_Model_goes_7 ..).trans ?_)
        simp (disch := omega) only [jM_at, MG_15, ji_eq0]
        rw [if_neg h0]
  have hl0 := hl (w 46 2).toNat 0 0 0 none (by omega) (by decide)
  refine n_Model_goes (z_go ((e_Model_goes_0 ..).trans ?_) hl0)
  simp only [jM_u, MG_i]
  rw [show a_X dr (u 45 18) 0 = u 45 18 from rfl, zu_self, Int.add_zero]
