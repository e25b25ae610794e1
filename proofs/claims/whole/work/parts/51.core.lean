/-! reaching, loops, longs, fractions in lowest terms -/
def z_To (o : zO) (cd : List zI) (s t : Nat × zL × zM) : Prop := ∀ r, z_Rn o cd t.1 t.2.1 t.2.2 r → z_Rn o cd s.1 s.2.1 s.2.2 r
theorem z_To_rf {o : zO} {cd : List zI} (s : Nat × zL × zM) : z_To o cd s s := fun _ h => h
theorem z_To_tr {o : zO} {cd : List zI} {s t x : Nat × zL × zM} (h1 : z_To o cd s t) (h2 : z_To o cd t x) : z_To o cd s x := fun r h => h1 r (h2 r h)
theorem z_To_1 {o : zO} {cd : List zI} {ip ip' : Nat} {lv lv' : zL} {m m' : zM} (h : z_ex none o cd 4000 (cd.drop ip) ip lv [] m = some (.inr (ip', lv', [], m'))) : z_To o cd (ip, lv, m) (ip', lv', m') := fun _ k => z_go h k
theorem z_for_ {o : zO} {cd : List zI} {P : Nat → Nat × zL × zM → Prop} (N : Nat) (step : ∀ i s, i < N → P i s → ∃ t, z_To o cd s t ∧ P (i + 1) t) : ∀ k i s, i + k = N → P i s → ∃ t, z_To o cd s t ∧ P N t
  | 0, i, s, hk, h => ⟨s, z_To_rf s, by rw [← hk]; exact h⟩
  | k + 1, i, s, hk, h => by
    obtain ⟨t, h1, h2⟩ := step i s (by omega) h
    obtain ⟨x, h3, h4⟩ := z_for_ N step k (i + 1) t (by omega) h2
    exact ⟨x, z_To_tr h1 h3, h4⟩
theorem z_for {o : zO} {cd : List zI} {P : Nat → Nat × zL × zM → Prop} (N : Nat) {s : Nat × zL × zM} (h : P 0 s) (step : ∀ i s, i < N → P i s → ∃ t, z_To o cd s t ∧ P (i + 1) t) : ∃ t, z_To o cd s t ∧ P N t := z_for_ N step N 0 s (by omega) h
theorem z_forx_ {o : zO} {cd : List zI} {P : Nat → Nat × zL × zM → Prop} {Q : Option Value × zM → Prop} (N : Nat) (last : ∀ s, P N s → ∃ r, z_Rn o cd s.1 s.2.1 s.2.2 r ∧ Q r) (step : ∀ i s, i < N → P i s → (∃ t, z_To o cd s t ∧ P (i + 1) t) ∨ ∃ r, z_Rn o cd s.1 s.2.1 s.2.2 r ∧ Q r) : ∀ k i s, i + k = N → P i s → ∃ r, z_Rn o cd s.1 s.2.1 s.2.2 r ∧ Q r
  | 0, i, s, hk, h => last s (by rw [← hk]; exact h)
  | k + 1, i, s, hk, h => by
    rcases step i s (by omega) h with ⟨t, h1, h2⟩ | hr
    · obtain ⟨r, h3, h4⟩ := z_forx_ N last step k (i + 1) t (by omega) h2
      exact ⟨r, h1 r h3, h4⟩
    · exact hr
theorem z_forx {o : zO} {cd : List zI} {P : Nat → Nat × zL × zM → Prop} {Q : Option Value × zM → Prop} (N : Nat) {s : Nat × zL × zM} (h : P 0 s) (step : ∀ i s, i < N → P i s → (∃ t, z_To o cd s t ∧ P (i + 1) t) ∨ ∃ r, z_Rn o cd s.1 s.2.1 s.2.2 r ∧ Q r) (last : ∀ s, P N s → ∃ r, z_Rn o cd s.1 s.2.1 s.2.2 r ∧ Q r) : ∃ r, z_Rn o cd s.1 s.2.1 s.2.2 r ∧ Q r := z_forx_ N last step N 0 s (by omega) h
theorem jl_add (a b : Int) : Int64.ofInt a + Int64.ofInt b = Int64.ofInt (a + b) := (Int64.ofInt_add _ _).symm
theorem jl_sub (a b : Int) : Int64.ofInt a - Int64.ofInt b = Int64.ofInt (a - b) := (Int64.ofInt_sub _ _).symm
theorem jl_mul (a b : Int) : Int64.ofInt a * Int64.ofInt b = Int64.ofInt (a * b) := (Int64.ofInt_mul _ _).symm
theorem jl_div {a b : Int} (ha : 0 ≤ a) (ha2 : a < 9223372036854775808) (hb : 0 < b) (hb2 : b < 9223372036854775808) : Int64.ofInt a / Int64.ofInt b = Int64.ofInt (a / b) := by
  apply Int64.toInt.inj
  have h1 : 0 ≤ a / b := Int.ediv_nonneg ha (by omega)
  have h2 : a / b ≤ a := Int.ediv_le_self b ha
  rw [Int64.toInt_div, jl_toInt ⟨by omega, ha2⟩, jl_toInt ⟨by omega, hb2⟩, Int.tdiv_eq_ediv_of_nonneg ha, jl_toInt ⟨by omega, by omega⟩, Int.bmod_eq_of_le (by omega) (by omega)]
theorem jl_rem {a b : Int} (ha : 0 ≤ a) (ha2 : a < 9223372036854775808) (hb : 0 < b) (hb2 : b < 9223372036854775808) : Int64.ofInt a - Int64.ofInt a / Int64.ofInt b * Int64.ofInt b = Int64.ofInt (a % b) := by
  rw [jl_div ha ha2 hb hb2, jl_mul, jl_sub, Int.emod_def, Int.mul_comm b]
theorem jl_to (a : Int) : Int64.toInt32 (Int64.ofInt a) = Int32.ofInt a := by
  apply Int32.toInt.inj
  simp
theorem lc_eq (x y : Int64) : lg_cmp x y = 0 ↔ x = y := by
  unfold lg_cmp
  by_cases h1 : x > y
  · rw [if_pos h1]
    have : ¬ x = y := fun q => by rw [q] at h1; exact Int64.lt_irrefl h1
    simp only [this, iff_false]; decide
  · rw [if_neg h1]
    by_cases h2 : x = y
    · rw [if_pos h2]; simp only [h2]
    · rw [if_neg h2]; simp only [h2, iff_false]; decide
theorem jl_eq0 {a : Int} (ha : jQ a) : Int64.ofInt a = 0 ↔ a = 0 := jl_eq ha (b := 0) ⟨by decide, by decide⟩
/-- one side of a fraction in lowest terms -/
def a_gcd (a b : Int) : Int := (Nat.gcd a.toNat b.toNat : Int)
def a_lw (a b k : Int) : Int := (if k = 0 then a else b) / a_gcd a b
theorem a_gcd_st {a b : Int} (ha : 0 ≤ a) (hb : 0 < b) : a_gcd b (a % b) = a_gcd a b := by
  unfold a_gcd
  have : (a % b).toNat = a.toNat % b.toNat := by
    obtain ⟨x, rfl⟩ := Int.eq_ofNat_of_zero_le ha
    obtain ⟨y, rfl⟩ := Int.eq_ofNat_of_zero_le (Int.le_of_lt hb)
    rfl
  rw [this, Nat.gcd_comm, ← Nat.gcd_rec, Nat.gcd_comm]
theorem a_gcd_0 {a : Int} (ha : 0 ≤ a) : a_gcd a 0 = a := by
  unfold a_gcd
  simp [Int.toNat_of_nonneg ha]
theorem a_gcd_pos {a b : Int} (ha : 0 ≤ a) (hb : 0 < b) : 0 < a_gcd a b := by
  unfold a_gcd
  have : 0 < Nat.gcd a.toNat b.toNat := Nat.gcd_pos_of_pos_right _ (by omega)
  omega
theorem a_gcd_le {a b : Int} (ha : 0 ≤ a) (hb : 0 < b) : a_gcd a b ≤ b := by
  unfold a_gcd
  have : Nat.gcd a.toNat b.toNat ≤ b.toNat := Nat.gcd_le_right _ (by omega)
  omega
theorem l_low {e n : Nat} {im : Nat → Option Nat} {dd : zD} {a b k : Int} (ha : 0 ≤ a) (ha2 : a < 9223372036854775808) (hb : 0 < b) (hb2 : b < 9223372036854775808) (hk : jR k) : ∀ (K : Nat) (i : Int) (d r : Int) (q : Option Value), 0 ≤ i → i + 2 * K ≤ 200 → 0 ≤ d → d < 9223372036854775808 → 0 ≤ r → r < 2 ^ K → r < 9223372036854775808 → a_gcd d r = a_gcd a b →
    z_Rn (z_F e) cd_LongBoats_lowest 7 [some (.long (Int64.ofInt a)), none, some (.long (Int64.ofInt b)), none, some (.int (Int32.ofInt k)), some (.long (Int64.ofInt d)), none, some (.long (Int64.ofInt r)), none, some (.int (Int32.ofInt i)), q, none] (n, z_q im, dd) (some (.long (Int64.ofInt (a_lw a b k))), (n, z_q im, dd)) := by
  have hz : ∀ (i : Int) (d : Int) (q : Option Value), 0 ≤ i → i ≤ 200 → 0 ≤ d → d < 9223372036854775808 → a_gcd d 0 = a_gcd a b → z_Rn (z_F e) cd_LongBoats_lowest 7 [some (.long (Int64.ofInt a)), none, some (.long (Int64.ofInt b)), none, some (.int (Int32.ofInt k)), some (.long (Int64.ofInt d)), none, some (.long (Int64.ofInt 0)), none, some (.int (Int32.ofInt i)), q, none] (n, z_q im, dd) (some (.long (Int64.ofInt (a_lw a b k))), (n, z_q im, dd)) := by
    intro i d q hi hi2 hd hd2 hg
    rw [a_gcd_0 hd] at hg
    have hp := a_gcd_pos ha hb
    have hle := a_gcd_le ha hb
    refine z_ret (e_LongBoats_lowest_7 _ _ _ _ _ _ _ _ _ _ _ |>.trans ?_)
    simp (disch := omega) only [kl_0, lc_eq, jl_eq, ji_le, ji_eq0, jl_eq0]
    unfold a_lw
    rw [← hg]
    by_cases h0 : k = 0
    · simp (disch := omega) only [h0, if_true, jl_div]
      (repeat' split) <;> first | rfl | omega
    · simp (disch := omega) only [h0, if_true, if_false, jl_div]
      (repeat' split) <;> first | rfl | omega
  intro K
  induction K with
  | zero =>
    intro i d r q hi hi2 hd hd2 hr hrk hr2 hg
    have h0 : r = 0 := by simp at hrk; omega
    subst h0
    exact hz i d q hi (by omega) hd hd2 hg
  | succ K ih =>
    intro i d r q hi hi2 hd hd2 hr hrk hr2 hg
    by_cases h0 : r = 0
    · subst h0
      exact hz i d q hi (by omega) hd hd2 hg
    · have hm := Int.emod_nonneg d h0
      have hm2 := Int.emod_lt_of_pos d (show 0 < r by omega)
      refine z_go (ip' := 7) (lv' := [some (.long (Int64.ofInt a)), none, some (.long (Int64.ofInt b)), none, some (.int (Int32.ofInt k)), some (.long (Int64.ofInt r)), none, some (.long (Int64.ofInt (d % r))), none, some (.int (Int32.ofInt (i + 1))), some (.long (Int64.ofInt (d % r))), none]) (m' := (n, z_q im, dd)) (e_LongBoats_lowest_7 _ _ _ _ _ _ _ _ _ _ _ |>.trans ?_) ?_
      · simp (disch := omega) only [kl_0, lc_eq, jl_eq, ji_le, ji_eq0, jl_eq0, jl_rem, ji_add]
        rw [if_neg (by omega), if_neg h0, if_neg h0]
      · have hg2 : a_gcd r (d % r) = a_gcd a b := (a_gcd_st hd (by omega)).trans hg
        by_cases h1 : d % r = 0
        · rw [h1] at hg2 ⊢
          exact hz (i + 1) r _ (by omega) (by omega) hr hr2 hg2
        · have hn := Int.emod_nonneg r h1
          have hn2 := Int.emod_lt_of_pos r (show 0 < d % r by omega)
          have hq : r = (d % r) * (r / (d % r)) + r % (d % r) := (Int.mul_ediv_add_emod r (d % r)).symm
          have hq1 : 1 ≤ r / (d % r) := Int.le_ediv_of_mul_le (by omega) (by omega)
          have hq2 : (d % r) * 1 ≤ (d % r) * (r / (d % r)) := Int.mul_le_mul_of_nonneg_left hq1 hm
          have hpow : (2 : Int) ^ (K + 1) = 2 * 2 ^ K := by rw [Int.pow_succ]; omega
          refine z_go (ip' := 7) (lv' := [some (.long (Int64.ofInt a)), none, some (.long (Int64.ofInt b)), none, some (.int (Int32.ofInt k)), some (.long (Int64.ofInt (d % r))), none, some (.long (Int64.ofInt (r % (d % r)))), none, some (.int (Int32.ofInt (i + 1 + 1))), some (.long (Int64.ofInt (r % (d % r)))), none]) (m' := (n, z_q im, dd)) (e_LongBoats_lowest_7 _ _ _ _ _ _ _ _ _ _ _ |>.trans ?_) ?_
          · simp (disch := omega) only [kl_0, lc_eq, jl_eq, ji_le, ji_eq0, jl_eq0, jl_rem, ji_add]
            rw [if_neg (by omega), if_neg h1, if_neg h1]
          · refine ih (i + 1 + 1) (d % r) (r % (d % r)) _ (by omega) (by omega) hm (by omega) hn (by omega) (by omega) ?_
            exact (a_gcd_st hr (by omega)).trans hg2
theorem s_lowest {e n : Nat} {im : Nat → Option Nat} {dd : zD} {a b k : Int} (ha : 0 ≤ a) (ha2 : a < 9223372036854775808) (hb : 0 < b) (hb2 : b < 9223372036854775808) (hk : jR k) : (z_F (e + 1)).2.1 k_LongBoats_lowest [.long (Int64.ofInt a), .long (Int64.ofInt b), .int (Int32.ofInt k)] (n, z_q im, dd) = some (Int64.ofInt (a_lw a b k), dd) :=
  n_LongBoats_lowest (z_go (e_LongBoats_lowest_0 _ _ _ _ _ _ _) (l_low ha ha2 hb hb2 hk 63 0 a b none (by decide) (by decide) ha ha2 (by omega) (by omega) hb2 rfl))
theorem l_dvs {e n : Nat} {im : Nat → Option Nat} {dd : zD} {a b : Int} : ∀ (K : Nat) (d r : Int) (q : Option Value), r.toNat ≤ K → 0 ≤ d → d < 9223372036854775808 → 0 ≤ r → r < 9223372036854775808 →
    z_Rn (z_F e) cd_Model_divisor 5 [some (.long (Int64.ofInt a)), none, some (.long (Int64.ofInt b)), none, some (.long (Int64.ofInt d)), none, some (.long (Int64.ofInt r)), none, q, none] (n, z_q im, dd) (some (.long (Int64.ofInt (a_gcd d r))), (n, z_q im, dd)) := by
  intro K
  induction K with
  | zero =>
    intro d r q hr0 hd hd2 hr hr2
    have h0 : r = 0 := by omega
    subst h0
    refine z_ret (e_Model_divisor_5 _ _ _ _ _ _ _ _ _ |>.trans ?_)
    simp (disch := omega) only [kl_0, lc_eq, if_true]
    rw [a_gcd_0 hd]
  | succ K ih =>
    intro d r q hr0 hd hd2 hr hr2
    by_cases h0 : r = 0
    · subst h0
      refine z_ret (e_Model_divisor_5 _ _ _ _ _ _ _ _ _ |>.trans ?_)
      simp (disch := omega) only [kl_0, lc_eq, if_true]
      rw [a_gcd_0 hd]
    · have hm := Int.emod_nonneg d h0
      have hm2 := Int.emod_lt_of_pos d (show 0 < r by omega)
      rw [← a_gcd_st hd (show 0 < r by omega)]
      refine z_go (e_Model_divisor_5 _ _ _ _ _ _ _ _ _ |>.trans ?_) (ih r (d % r) (some (.long (Int64.ofInt (d % r)))) (by omega) hr hr2 hm (by omega))
      simp (disch := omega) only [kl_0, lc_eq, jl_eq, jl_eq0, jl_rem]
      rw [if_neg h0, if_neg h0]
theorem s_divisor {e n : Nat} {im : Nat → Option Nat} {dd : zD} {a b : Int} (ha : 0 ≤ a) (ha2 : a < 9223372036854775808) (hb : 0 < b) (hb2 : b < 9223372036854775808) : (z_F (e + 1)).2.1 k_Model_divisor [.long (Int64.ofInt a), .long (Int64.ofInt b)] (n, z_q im, dd) = some (Int64.ofInt (a_gcd a b), dd) :=
  n_Model_divisor (z_go (e_Model_divisor_0 _ _ _ _ _ _) (l_dvs b.toNat a b none (by omega) ha ha2 (by omega) hb2))
theorem s_part0 {e n : Nat} {im : Nat → Option Nat} {dd : zD} {a b k : Int} (ha : 0 ≤ a) (ha2 : a < 9223372036854775808) (hb : 0 < b) (hb2 : b < 9223372036854775808) (hk : jR k) : (z_F (e + 2)).2.1 k_Model_part_0 [.long (Int64.ofInt a), .long (Int64.ofInt b), .int (Int32.ofInt k)] (n, z_q im, dd) = some (Int64.ofInt (a_lw a b k), dd) := by
  have hp := a_gcd_pos ha hb
  have hle := a_gcd_le ha hb
  refine q_Model_part_0 ?_
  unfold a_lw
  simp (disch := omega) only [s_divisor, z_oJ_s, ji_eq0, jl_eq0, jl_div]
  (repeat' split) <;> first | rfl | omega
