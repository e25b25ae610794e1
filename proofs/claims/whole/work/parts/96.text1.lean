/-! the text read: its signs -/
/-- the sign at a place, -1 behind the end -/
def t_at (U : Nat) (tp : Nat → Int) (p : Int) : Int := if 0 ≤ p ∧ p < (U : Int) then tp p.toNat else -1
/-- its kind: 0 none, 1 blank, 2 letter, 3 digit, 4 the sign ;, 5 another -/
def t_kd (x : Int) : Int := if x = 32 ∨ x = 10 then 1 else if 97 ≤ x ∧ x ≤ 122 then 2 else if 48 ≤ x ∧ x ≤ 57 then 3 else if x = 59 then 4 else 5
theorem t_at_b {U : Nat} {tp : Nat → Int} (h : T_w U tp) (p : Int) : -128 ≤ t_at U tp p ∧ t_at U tp p ≤ 127 := by
  unfold t_at
  split
  · rename_i q; exact h.2 _ (by omega)
  · omega
theorem s_tlen {e n : Nat} {im : Nat → Option Nat} {w u : Nat → Nat → Int} {U : Nat} {tp : Nat → Int} (hT : T_c w U tp) : (z_F (e + 1)).1 k_Tape_length [.ref 1] (n, z_q im, jM w, jL u) = some (Int32.ofInt (U : Int), jM w, jL u) := by
  refine q_Tape_length ?_
  have e1 : ((jM w, jL u) : zD).1 1 1 = Int32.ofInt (U : Int) := by rw [← hT.1]; rfl
  rw [e1]
theorem s_tat {e n : Nat} {im : Nat → Option Nat} {w u : Nat → Nat → Int} {U : Nat} {tp : Nat → Int} {p : Int} (hT : T_c w U tp) (hw : T_w U tp) (hp : jR p) : (z_F (e + 1)).1 k_Tape_at [.ref 1, .int (Int32.ofInt p)] (n, z_q im, jM w, jL u) = some (Int32.ofInt (t_at U tp p), jM w, jL u) := by
  have hU := hw.1
  refine q_Tape_at ?_
  have e1 : ((jM w, jL u) : zD).1 1 1 = Int32.ofInt (U : Int) := by rw [← hT.1]; rfl
  unfold t_at
  rw [e1]
  by_cases h0 : p < 0
  · rw [if_pos (show Int32.ofInt p < 0 from ji_lt_p (b := 0) hp (by decide) h0), if_neg (by omega)]
  · have g0 : ¬ Int32.ofInt p < 0 := ji_lt_n (b := 0) hp (by decide) h0
    rw [if_neg g0]
    by_cases h1 : (U : Int) ≤ p
    · rw [if_pos (ji_le_p (by omega) hp h1), if_neg (by omega)]
    · have e2 : ((jM w, jL u) : zD).1 2 p.toNat = Int32.ofInt (tp p.toNat) := by rw [← hT.2 _ (by omega)]; rfl
      rw [if_neg (ji_le_n (by omega) hp h1), show Int32.ofNat 1200 = Int32.ofInt 1200 from rfl, if_neg (ji_le_n (by decide) hp (by omega)), ji_nat (by omega), if_neg (fun q => q.elim g0 (by omega)), e2, if_pos (by omega)]
theorem s_isBlank {e n : Nat} {im : Nat → Option Nat} {w u : Nat → Nat → Int} {x : Int} (hx : jR x) : (z_F (e + 1)).1 k_Reader_isBlank [.int (Int32.ofInt x)] (n, z_q im, jM w, jL u) = some (Int32.ofInt (if x = 32 ∨ x = 10 then 1 else 0), jM w, jL u) := by
  refine q_Reader_isBlank ?_
  by_cases h1 : x = 32
  · rw [if_pos (ji_eq_p hx (by decide) h1), if_pos (Or.inl h1)]
  · rw [if_neg (ji_eq_n hx (by decide) h1)]
    by_cases h2 : x = 10
    · rw [if_pos (ji_eq_p hx (by decide) h2), if_pos (Or.inr h2)]
    · rw [if_neg (ji_eq_n hx (by decide) h2), if_neg (by omega)]
theorem s_isLetter {e n : Nat} {im : Nat → Option Nat} {w u : Nat → Nat → Int} {x : Int} (hx : jR x) : (z_F (e + 1)).1 k_Reader_isLetter [.int (Int32.ofInt x)] (n, z_q im, jM w, jL u) = some (Int32.ofInt (if 97 ≤ x ∧ x ≤ 122 then 1 else 0), jM w, jL u) := by
  refine q_Reader_isLetter ?_
  by_cases h1 : x < 97
  · rw [if_pos (ji_lt_p hx (by decide) h1), if_neg (by omega)]
  · rw [if_neg (ji_lt_n hx (by decide) h1)]
    by_cases h2 : 122 < x
    · rw [if_pos (ji_lt_p (by decide) hx h2), if_neg (by omega)]
    · rw [if_neg (ji_lt_n (by decide) hx h2), if_pos (by omega)]
theorem s_isDigit {e n : Nat} {im : Nat → Option Nat} {w u : Nat → Nat → Int} {x : Int} (hx : jR x) : (z_F (e + 1)).1 k_Reader_isDigit [.int (Int32.ofInt x)] (n, z_q im, jM w, jL u) = some (Int32.ofInt (if 48 ≤ x ∧ x ≤ 57 then 1 else 0), jM w, jL u) := by
  refine q_Reader_isDigit ?_
  by_cases h1 : x < 48
  · rw [if_pos (ji_lt_p hx (by decide) h1), if_neg (by omega)]
  · rw [if_neg (ji_lt_n hx (by decide) h1)]
    by_cases h2 : 57 < x
    · rw [if_pos (ji_lt_p (by decide) hx h2), if_neg (by omega)]
    · rw [if_neg (ji_lt_n (by decide) hx h2), if_pos (by omega)]
