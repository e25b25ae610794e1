/-! the text read: the reference's signs -/
theorem b_255 : ∀ n, n < 256 → Int32.ofInt ((n : Nat) - 128 : Int) &&& Int32.ofInt 255 = Int32.ofInt (((n : Nat) - 128 : Int) % 256) := by decide +kernel
theorem ji_255 {x : Int} (h : -128 ≤ x ∧ x ≤ 127) : Int32.ofInt x &&& Int32.ofInt 255 = Int32.ofInt (x % 256) := by
  have := b_255 (x + 128).toNat (by omega)
  rw [show (((x + 128).toNat : Nat) : Int) - 128 = x by omega] at this
  exact this
/-- the sign as the reference sees it -/
def t_se (U : Nat) (tp : Nat → Int) (p : Int) : Int := if p < (U : Int) then tp p.toNat % 256 else -1
theorem s_see {e n : Nat} {im : Nat → Option Nat} {w u : Nat → Nat → Int} {U : Nat} {tp : Nat → Int} {p : Int} (h7 : w 45 7 = (U : Int)) (hT : ∀ j, j < U → w 49 j = tp j) (hw : T_w U tp) (hp : 0 ≤ p ∧ p ≤ 2000) : (z_F (e + 1)).1 k_Model_see [.ref 45, .int (Int32.ofInt p)] (n, z_q im, jM w, jL u) = some (Int32.ofInt (t_se U tp p), jM w, jL u) := by
  have hU := hw.1
  refine q_Model_see ?_
  have e1 : ((jM w, jL u) : zD).1 45 7 = Int32.ofInt (U : Int) := by rw [← h7]; rfl
  unfold t_se
  rw [e1]
  by_cases h1 : (U : Int) ≤ p
  · rw [if_pos (ji_le_p (by omega) (by omega) h1), if_neg (by omega)]
  · have e2 : ((jM w, jL u) : zD).1 49 p.toNat = Int32.ofInt (tp p.toNat) := by rw [← hT _ (by omega)]; rfl
    have g0 : ¬ Int32.ofInt p < 0 := ji_lt_n (b := 0) (by omega) (by decide) (by omega)
    rw [if_neg (ji_le_n (by omega) (by omega) h1), ji_nat (by omega), if_neg (fun q => q.elim g0 (by omega)), e2, ji_255 (hw.2 _ (by omega)), if_pos (by omega)]
/-- both see the same kinds -/
theorem t_se_at {U : Nat} {tp : Nat → Int} {p : Int} (hw : T_w U tp) (hp : 0 ≤ p) : ((t_se U tp p = 32 ↔ t_at U tp p = 32) ∧ (t_se U tp p = 10 ↔ t_at U tp p = 10) ∧ (t_se U tp p = 59 ↔ t_at U tp p = 59)) ∧ ((97 ≤ t_se U tp p ∧ t_se U tp p ≤ 122) ↔ (97 ≤ t_at U tp p ∧ t_at U tp p ≤ 122)) ∧ ((48 ≤ t_se U tp p ∧ t_se U tp p ≤ 57) ↔ (48 ≤ t_at U tp p ∧ t_at U tp p ≤ 57)) ∧ (t_se U tp p = -1 ↔ (U : Int) ≤ p) ∧ ((48 ≤ t_at U tp p ∧ t_at U tp p ≤ 57) → t_se U tp p = t_at U tp p) := by
  unfold t_se t_at
  by_cases h : p < (U : Int)
  · have hb := hw.2 p.toNat (by omega)
    rw [if_pos h, if_pos ⟨hp, h⟩]
    generalize tp p.toNat = x at hb
    omega
  · rw [if_neg h, if_neg (by omega)]
    omega
