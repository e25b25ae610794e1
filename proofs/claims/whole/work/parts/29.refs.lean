/-! the refs: the images' cells have theirs once they are made -/
def z_q (im : Nat → Option Nat) (k f : Nat) : Option Nat := cond (k.beq 18 || (Nat.ble 65 k && Nat.ble k 85)) (im (200 * f + k)) ((z_rt.getD k []).getD f none)
def z_v (im : Nat → Option Nat) (q x : Nat) : Nat → Option Nat := fun p => cond (p.beq q) (some x) (im p)
/-- a harbour's refs -/
def z_h (h : Nat) (im : Nat → Option Nat) : Nat → Option Nat := z_v (z_v (z_v (z_v (z_v (z_v im (h + 1) (h + 2)) (2000 + h) (h + 1)) (h + 3) (h + 4)) (2200 + h) (h + 3)) (h + 5) (h + 6)) (2400 + h) (h + 5)
theorem z_v_self {im : Nat → Option Nat} {q x : Nat} (h : im q = some x) : z_v im q x = im := by
  funext p
  unfold z_v
  cases hb : p.beq q with
  | false => rfl
  | true => rw [Nat.eq_of_beq_eq_true hb]; exact h.symm
theorem z_v_at {im : Nat → Option Nat} {q x p : Nat} : z_v im q x p = if p = q then some x else im p := by
  unfold z_v
  cases hb : p.beq q with
  | false =>
    rw [if_neg (fun h => by subst h; rw [Nat.beq_refl] at hb; exact Bool.noConfusion hb)]
    rfl
  | true => rw [if_pos (Nat.eq_of_beq_eq_true hb)]; rfl
theorem z_qu {im : Nat → Option Nat} {k f x : Nat} (h : (k.beq 18 || (Nat.ble 65 k && Nat.ble k 85)) = true) (hk : k < 200) : z_u (z_q im) k f (some x) = z_q (z_v im (200 * f + k) x) := by
  funext a b
  simp only [z_u]
  by_cases ha : a = k
  · subst ha
    rw [if_pos rfl]
    unfold z_q
    rw [h]
    show (if b = f then some x else im (200 * b + a)) = z_v im (200 * f + a) x (200 * b + a)
    rw [z_v_at]
    by_cases hb : b = f
    · rw [if_pos hb, if_pos (by omega)]
    · rw [if_neg hb, if_neg (by omega)]
  · rw [if_neg ha]
    unfold z_q
    cases hc : (a.beq 18 || (Nat.ble 65 a && Nat.ble a 85)) with
    | false => rfl
    | true =>
      show im (200 * b + a) = z_v im (200 * f + k) x (200 * b + a)
      have ha2 : a < 200 := by
        simp only [Bool.or_eq_true, Bool.and_eq_true] at hc
        rcases hc with hc | hc
        · have := Nat.eq_of_beq_eq_true hc; omega
        · have := Nat.le_of_ble_eq_true hc.2; omega
      rw [z_v_at, if_neg (by omega)]
