/-! the text read: words and numbers, the class -/
/-- how far signs of a kind go -/
def t_go (lo hi : Int) (U : Nat) (tp : Nat → Int) : Nat → Nat → Nat
  | 0, p => p
  | f + 1, p => if p < U ∧ lo ≤ tp p ∧ tp p ≤ hi then t_go lo hi U tp f (p + 1) else p
theorem T_c_17 {w : Nat → Nat → Int} {U : Nat} {tp : Nat → Int} {j : Nat} {x : Int} (h : T_c w U tp) : T_c (z_u w 17 j x) U tp := ⟨h.1, h.2⟩
theorem l_word {e n : Nat} {im : Nat → Option Nat} {u : Nat → Nat → Int} {U : Nat} {tp : Nat → Int} (hw : T_w U tp) : ∀ (f p : Nat) (w : Nat → Nat → Int), U ≤ p + f → p ≤ U → T_c w U tp → w 17 2 = (p : Int) → z_Rn (z_F (e + 1)) cd_Reader_nextToken 53 [some (.ref 17)] (n, z_q im, jM w, jL u) (none, (n, z_q im, jM (z_u w 17 2 ((t_go 97 122 U tp f p : Nat) : Int)), jL u))
  | 0, p, w, hf, hp, hT, h2 => by
    have hU := hw.1
    have e2 : ((jM w, jL u) : zD).1 17 2 = Int32.ofInt (p : Int) := by rw [← h2]; rfl
    have hs : z_u w 17 2 ((t_go 97 122 U tp 0 p : Nat) : Int) = w := by
      show z_u w 17 2 (p : Int) = w
      rw [← h2]; exact zu_self w 17 2
    rw [hs]
    refine z_ret ((e_Reader_nextToken_53 ..).trans ?_)
    rw [s_tlen hT, z_oI_s, e2, if_pos (ji_le_p (by omega) (by omega) (by omega))]
  | f + 1, p, w, hf, hp, hT, h2 => by
    have hU := hw.1
    have e2 : ((jM w, jL u) : zD).1 17 2 = Int32.ofInt (p : Int) := by rw [← h2]; rfl
    have hself : z_u w 17 2 (p : Int) = w := by rw [← h2]; exact zu_self w 17 2
    simp only [t_go]
    by_cases hc : p < U ∧ 97 ≤ tp p ∧ tp p ≤ 122
    · rw [if_pos hc]
      have ih := l_word (e := e) (n := n) (im := im) (u := u) hw f (p + 1) (z_u w 17 2 ((p + 1 : Nat) : Int)) (by omega) (by omega) (T_c_17 hT) rfl
      rw [zu_zu] at ih
      have ta : t_at U tp (p : Int) = tp p := by unfold t_at; rw [if_pos (by omega), show ((p : Int)).toNat = p by omega]
      refine z_go ((e_Reader_nextToken_53 ..).trans ?_) ih
      rw [s_tlen hT, z_oI_s, e2, if_neg (ji_le_n (by omega) (by omega) (by omega)), s_tat hT hw (by omega), z_oI_s, ta, s_isLetter (by omega), z_oI_s, if_neg (ji_b_n hc.2), e2, ji_add, jM_u]
      rfl
    · rw [if_neg hc, hself]
      refine z_ret ((e_Reader_nextToken_53 ..).trans ?_)
      rw [s_tlen hT, z_oI_s, e2]
      by_cases h1 : p < U
      · have hb := hw.2 p h1
        have ta : t_at U tp (p : Int) = tp p := by unfold t_at; rw [if_pos (by omega), show ((p : Int)).toNat = p by omega]
        rw [if_neg (ji_le_n (by omega) (by omega) (by omega)), s_tat hT hw (by omega), z_oI_s, ta, s_isLetter (by omega), z_oI_s, if_pos (ji_b_p (fun q => hc ⟨h1, q⟩))]
      · rw [if_pos (ji_le_p (by omega) (by omega) (by omega))]
