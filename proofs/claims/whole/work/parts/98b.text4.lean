/-! the text read: numbers, the class -/
def t_cp (cap x : Int) : Int := if x < cap then x else cap
def t_va (cap : Int) (U : Nat) (tp : Nat → Int) : Nat → Nat → Int → Int
  | 0, _, x => x
  | f + 1, p, x => if p < U ∧ 48 ≤ tp p ∧ tp p ≤ 57 then t_va cap U tp f (p + 1) (t_cp cap (10 * x + tp p - 48)) else x
theorem l_numb {e n : Nat} {im : Nat → Option Nat} {u : Nat → Nat → Int} {U : Nat} {tp : Nat → Int} (hw : T_w U tp) : ∀ (f p : Nat) (x : Int) (w : Nat → Nat → Int), U ≤ p + f → p ≤ U → (0 ≤ x ∧ x ≤ 100000) → T_c w U tp → w 17 2 = (p : Int) → w 17 5 = x → z_Rn (z_F (e + 1)) cd_Reader_nextToken 84 [some (.ref 17)] (n, z_q im, jM w, jL u) (none, (n, z_q im, jM (z_u (z_u w 17 5 (t_va 100000 U tp f p x)) 17 2 ((t_go 48 57 U tp f p : Nat) : Int)), jL u))
  | 0, p, x, w, hf, hp, hx, hT, h2, h5 => by
    have hU := hw.1
    have e2 : ((jM w, jL u) : zD).1 17 2 = Int32.ofInt (p : Int) := by rw [← h2]; rfl
    have hs : z_u (z_u w 17 5 (t_va 100000 U tp 0 p x)) 17 2 ((t_go 48 57 U tp 0 p : Nat) : Int) = w := by
      show z_u (z_u w 17 5 x) 17 2 (p : Int) = w
      rw [← h5, zu_self, ← h2, zu_self]
    rw [hs]
    refine z_ret ((e_Reader_nextToken_84 ..).trans ?_)
    rw [s_tlen hT, z_oI_s, e2, if_pos (ji_le_p (by omega) (by omega) (by omega))]
  | f + 1, p, x, w, hf, hp, hx, hT, h2, h5 => by
    have hU := hw.1
    have e2 : ((jM w, jL u) : zD).1 17 2 = Int32.ofInt (p : Int) := by rw [← h2]; rfl
    have e5 : ((jM w, jL u) : zD).1 17 5 = Int32.ofInt x := by rw [← h5]; rfl
    simp only [t_go, t_va]
    by_cases hc : p < U ∧ 48 ≤ tp p ∧ tp p ≤ 57
    · rw [if_pos hc, if_pos hc]
      have hcb : 0 ≤ t_cp 100000 (10 * x + tp p - 48) ∧ t_cp 100000 (10 * x + tp p - 48) ≤ 100000 := by
        unfold t_cp; split <;> omega
      have ih := l_numb (e := e) (n := n) (im := im) (u := u) hw f (p + 1) (t_cp 100000 (10 * x + tp p - 48)) (z_u (z_u w 17 5 (t_cp 100000 (10 * x + tp p - 48))) 17 2 ((p + 1 : Nat) : Int)) (by omega) (by omega) hcb (T_c_17 (T_c_17 hT)) rfl rfl
      have hm : ∀ a b : Int, z_u (z_u (z_u (z_u w 17 5 (t_cp 100000 (10 * x + tp p - 48))) 17 2 ((p + 1 : Nat) : Int)) 17 5 a) 17 2 b = z_u (z_u w 17 5 a) 17 2 b := fun a b => by
        funext c j
        simp only [z_u]
        (repeat' split) <;> first | rfl | omega
      rw [hm] at ih
      have ta : t_at U tp (p : Int) = tp p := by unfold t_at; rw [if_pos (by omega), show ((p : Int)).toNat = p by omega]
      refine z_go ((e_Reader_nextToken_84 ..).trans ?_) ih
      rw [s_tlen hT, z_oI_s, e2, if_neg (ji_le_n (by omega) (by omega) (by omega)), s_tat hT hw (by omega), z_oI_s, ta, s_isDigit (by omega), z_oI_s, if_neg (ji_b_n hc.2), e2, s_tat hT hw (by omega), z_oI_s, ta, e2, e5, ji_mul, ji_add, ji_sub, ji_add]
      have hcp : (if Int32.ofInt (10 * x + tp p - 48) < Int32.ofInt 100000 then Int32.ofInt (10 * x + tp p - 48) else Int32.ofInt 100000) = Int32.ofInt (t_cp 100000 (10 * x + tp p - 48)) := by
        unfold t_cp
        by_cases q : 10 * x + tp p - 48 < 100000
        · rw [if_pos (ji_lt_p (by omega) (by decide) q), if_pos q]
        · rw [if_neg (ji_lt_n (by omega) (by decide) q), if_neg q]
      rw [hcp, jM_u, jM_u]
      rfl
    · rw [if_neg hc, if_neg hc, ← h5, zu_self, ← h2, zu_self]
      refine z_ret ((e_Reader_nextToken_84 ..).trans ?_)
      rw [s_tlen hT, z_oI_s, e2]
      by_cases h1 : p < U
      · have hb := hw.2 p h1
        have ta : t_at U tp (p : Int) = tp p := by unfold t_at; rw [if_pos (by omega), show ((p : Int)).toNat = p by omega]
        rw [if_neg (ji_le_n (by omega) (by omega) (by omega)), s_tat hT hw (by omega), z_oI_s, ta, s_isDigit (by omega), z_oI_s, if_pos (ji_b_p (fun q => hc ⟨h1, q⟩))]
      · rw [if_pos (ji_le_p (by omega) (by omega) (by omega))]
