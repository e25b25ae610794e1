/-! the text read: tokens -/
abbrev zK := Nat × Nat × Int × Int
/-- blanks passed over -/
def t_bl (U : Nat) (tp : Nat → Int) : Nat → Nat → Nat
  | 0, p => p
  | f + 1, p => if p < U ∧ (tp p = 32 ∨ tp p = 10) then t_bl U tp f (p + 1) else p
/-- the token that begins at q: where it ends, where it begins, its kind, its value -/
def t_tk (U : Nat) (tp : Nat → Int) (q : Nat) : zK :=
  if U ≤ q then (q, q, 0, 0)
  else if 97 ≤ tp q ∧ tp q ≤ 122 then (t_go 97 122 U tp U q, q, 1, 0)
  else if 48 ≤ tp q ∧ tp q ≤ 57 then (t_go 48 57 U tp U q, q, 2, t_va 100000 U tp U q 0)
  else (q + 1, q, if tp q = 59 then 3 else 4, 0)
def t_nx (U : Nat) (tp : Nat → Int) (p : Nat) : zK := t_tk U tp (t_bl U tp U p)
def t_ok (U : Nat) (t : zK) : Prop := t.2.1 ≤ t.1 ∧ t.1 ≤ U ∧ (0 ≤ t.2.2.1 ∧ t.2.2.1 ≤ 4) ∧ (0 ≤ t.2.2.2 ∧ t.2.2.2 ≤ 100000) ∧ (t.2.2.1 ≠ 0 → t.2.1 < t.1)
theorem t_bl_b (U : Nat) (tp : Nat → Int) : ∀ f p, p ≤ U → p ≤ t_bl U tp f p ∧ t_bl U tp f p ≤ U
  | 0, p, h => ⟨Nat.le_refl _, h⟩
  | f + 1, p, h => by
    simp only [t_bl]
    split
    · have := t_bl_b U tp f (p + 1) (by omega); omega
    · omega
theorem t_bl_n (U : Nat) (tp : Nat → Int) : ∀ f p, U ≤ p + f → ¬ (t_bl U tp f p < U ∧ (tp (t_bl U tp f p) = 32 ∨ tp (t_bl U tp f p) = 10))
  | 0, p, h => by simp only [t_bl]; omega
  | f + 1, p, h => by
    simp only [t_bl]
    split
    · exact t_bl_n U tp f (p + 1) (by omega)
    · assumption
theorem t_go_b (lo hi : Int) (U : Nat) (tp : Nat → Int) : ∀ f p, p ≤ U → p ≤ t_go lo hi U tp f p ∧ t_go lo hi U tp f p ≤ U
  | 0, p, h => ⟨Nat.le_refl _, h⟩
  | f + 1, p, h => by
    simp only [t_go]
    split
    · have := t_go_b lo hi U tp f (p + 1) (by omega); omega
    · omega
theorem t_go_s {lo hi : Int} {U : Nat} {tp : Nat → Int} {p : Nat} (h : p < U) (k : lo ≤ tp p ∧ tp p ≤ hi) : p < t_go lo hi U tp U p := by
  cases U with
  | zero => omega
  | succ f =>
    simp only [t_go]
    rw [if_pos ⟨h, k⟩]
    have := t_go_b lo hi (f + 1) tp f (p + 1) (by omega); omega
theorem t_va_b (U : Nat) (tp : Nat → Int) : ∀ f p x, (0 ≤ x ∧ x ≤ 100000) → 0 ≤ t_va 100000 U tp f p x ∧ t_va 100000 U tp f p x ≤ 100000
  | 0, p, x, h => h
  | f + 1, p, x, h => by
    simp only [t_va]
    split
    · refine t_va_b U tp f (p + 1) _ ?_
      unfold t_cp; split <;> omega
    · exact h
theorem t_tk_ok {U : Nat} {tp : Nat → Int} {q : Nat} (h : q ≤ U) : t_ok U (t_tk U tp q) ∧ (t_tk U tp q).2.1 = q ∧ ((t_tk U tp q).2.2.1 = 3 → (t_tk U tp q).1 = q + 1) ∧ ((t_tk U tp q).2.2.1 = 0 ↔ U ≤ q) := by
  unfold t_tk t_ok
  split
  · exact ⟨⟨Nat.le_refl _, h, by dsimp only; omega, by dsimp only; omega, by dsimp only; omega⟩, rfl, by dsimp only; omega, by dsimp only; omega⟩
  · split
    · rename_i h1 h2
      have a := t_go_b 97 122 U tp U q h
      have b := t_go_s (U := U) (by omega) h2
      exact ⟨⟨a.1, a.2, by dsimp only; omega, by dsimp only; omega, by dsimp only; omega⟩, rfl, by dsimp only; omega, by dsimp only; omega⟩
    · split
      · rename_i h1 h2 h3
        have a := t_go_b 48 57 U tp U q h
        have b := t_go_s (U := U) (by omega) h3
        exact ⟨⟨a.1, a.2, by dsimp only; omega, t_va_b U tp U q 0 (by omega), by dsimp only; omega⟩, rfl, by dsimp only; omega, by dsimp only; omega⟩
      · refine ⟨⟨by dsimp only; omega, by dsimp only; omega, ?_, by dsimp only; omega, by dsimp only; omega⟩, rfl, by dsimp only; omega, ?_⟩
        · dsimp only; split <;> omega
        · dsimp only; split <;> omega
theorem t_nx_ok {U : Nat} {tp : Nat → Int} {p : Nat} (h : p ≤ U) : t_ok U (t_nx U tp p) ∧ p ≤ (t_nx U tp p).2.1 ∧ ((t_nx U tp p).2.2.1 = 3 → (t_nx U tp p).1 = (t_nx U tp p).2.1 + 1) := by
  have b := t_bl_b U tp U p h
  have k := t_tk_ok (tp := tp) b.2
  unfold t_nx
  exact ⟨k.1, by rw [k.2.1]; exact b.1, fun q => by rw [k.2.1]; exact k.2.2.1 q⟩
/-- the class's reader: a token laid down -/
def c_tk (w : Nat → Nat → Int) (t : zK) : Nat → Nat → Int := z_u (z_u (z_u (z_u w 17 2 (t.1 : Int)) 17 3 t.2.2.1) 17 4 (t.2.1 : Int)) 17 5 t.2.2.2
theorem l_tok {e n : Nat} {im : Nat → Option Nat} {u : Nat → Nat → Int} {U : Nat} {tp : Nat → Int} (hw : T_w U tp) {q : Nat} {w : Nat → Nat → Int} (hq : q ≤ U) (hT : T_c w U tp) (h2 : w 17 2 = (q : Int)) (hb : ¬ (q < U ∧ (tp q = 32 ∨ tp q = 10))) : z_Rn (z_F (e + 1)) cd_Reader_nextToken 5 [some (.ref 17)] (n, z_q im, jM w, jL u) (none, (n, z_q im, jM (c_tk w (t_tk U tp q)), jL u)) := by
  have hU := hw.1
  have e2 : ((jM w, jL u) : zD).1 17 2 = Int32.ofInt (q : Int) := by rw [← h2]; rfl
  have hw2 : z_u w 17 2 (q : Int) = w := by rw [← h2]; exact zu_self w 17 2
  have hm : z_u (z_u (jM w) 17 4 (Int32.ofInt (q : Int))) 17 5 (Int32.ofInt 0) = jM (z_u (z_u w 17 4 (q : Int)) 17 5 0) := by rw [jM_u, jM_u]
  have hT' : T_c (z_u (z_u w 17 4 (q : Int)) 17 5 0) U tp := T_c_17 (T_c_17 hT)
  have e2' : ((jM (z_u (z_u w 17 4 (q : Int)) 17 5 0), jL u) : zD).1 17 2 = Int32.ofInt (q : Int) := by rw [← h2]; rfl
  by_cases h1 : U ≤ q
  · have hk : t_tk U tp q = (q, q, 0, 0) := by unfold t_tk; rw [if_pos h1]
    rw [hk]
    refine z_ret ((e_Reader_nextToken_5 ..).trans ?_)
    rw [s_tlen hT, z_oI_s, e2, if_pos (ji_le_p (by omega) (by omega) (by omega)), hm, s_tlen hT', z_oI_s, if_neg (ji_lt_n (by omega) (by omega) (by omega)), jM_u]
    have : z_u (z_u (z_u w 17 4 (q : Int)) 17 5 0) 17 3 0 = c_tk w (q, q, 0, 0) := by
      unfold c_tk
      rw [hw2]
      funext c j
      simp only [z_u]
      (repeat' split) <;> first | rfl | omega
    rw [← this]
  · have hb1 := hw.2 q (by omega)
    have ta : t_at U tp (q : Int) = tp q := by unfold t_at; rw [if_pos (by omega), show ((q : Int)).toNat = q by omega]
    by_cases hl : 97 ≤ tp q ∧ tp q ≤ 122
    · have hk : t_tk U tp q = (t_go 97 122 U tp U q, q, 1, 0) := by unfold t_tk; rw [if_neg h1, if_pos hl]
      rw [hk]
      have k := l_word (e := e) (n := n) (im := im) (u := u) hw U q (z_u (z_u (z_u w 17 4 (q : Int)) 17 5 0) 17 3 1) (by omega) hq (T_c_17 hT') h2
      have : c_tk w (t_go 97 122 U tp U q, q, 1, 0) = z_u (z_u (z_u (z_u w 17 4 (q : Int)) 17 5 0) 17 3 1) 17 2 ((t_go 97 122 U tp U q : Nat) : Int) := by
        unfold c_tk
        funext c j
        simp only [z_u]
        (repeat' split) <;> first | rfl | omega
      rw [this]
      refine z_go ((e_Reader_nextToken_5 ..).trans ?_) k
      rw [s_tlen hT, z_oI_s, e2, if_neg (ji_le_n (by omega) (by omega) (by omega)), s_tat hT hw (by omega), z_oI_s, ta, s_isBlank (by omega), z_oI_s, if_pos (ji_b_p (fun k => hb ⟨by omega, k⟩)), e2, hm, s_tlen hT', z_oI_s, if_pos (ji_lt_p (by omega) (by omega) (by omega)), e2', s_tat hT' hw (by omega), z_oI_s, ta, s_isLetter (by omega), z_oI_s, if_neg (ji_b_n hl), jM_u]
    · by_cases hd : 48 ≤ tp q ∧ tp q ≤ 57
      · have hk : t_tk U tp q = (t_go 48 57 U tp U q, q, 2, t_va 100000 U tp U q 0) := by unfold t_tk; rw [if_neg h1, if_neg hl, if_pos hd]
        rw [hk]
        have k := l_numb (e := e) (n := n) (im := im) (u := u) hw U q 0 (z_u (z_u (z_u w 17 4 (q : Int)) 17 5 0) 17 3 2) (by omega) hq (by omega) (T_c_17 hT') h2 rfl
        have : c_tk w (t_go 48 57 U tp U q, q, 2, t_va 100000 U tp U q 0) = z_u (z_u (z_u (z_u (z_u w 17 4 (q : Int)) 17 5 0) 17 3 2) 17 5 (t_va 100000 U tp U q 0)) 17 2 ((t_go 48 57 U tp U q : Nat) : Int) := by
          unfold c_tk
          funext c j
          simp only [z_u]
          (repeat' split) <;> first | rfl | omega
        rw [this]
        refine z_go ((e_Reader_nextToken_5 ..).trans ?_) k
        rw [s_tlen hT, z_oI_s, e2, if_neg (ji_le_n (by omega) (by omega) (by omega)), s_tat hT hw (by omega), z_oI_s, ta, s_isBlank (by omega), z_oI_s, if_pos (ji_b_p (fun k => hb ⟨by omega, k⟩)), e2, hm, s_tlen hT', z_oI_s, if_pos (ji_lt_p (by omega) (by omega) (by omega)), e2', s_tat hT' hw (by omega), z_oI_s, ta, s_isLetter (by omega), z_oI_s, if_pos (ji_b_p hl), e2', s_tat hT' hw (by omega), z_oI_s, ta, s_isDigit (by omega), z_oI_s, if_neg (ji_b_n hd), jM_u]
      · have hk : t_tk U tp q = (q + 1, q, if tp q = 59 then 3 else 4, 0) := by unfold t_tk; rw [if_neg h1, if_neg hl, if_neg hd]
        rw [hk]
        refine z_ret ((e_Reader_nextToken_5 ..).trans ?_)
        rw [s_tlen hT, z_oI_s, e2, if_neg (ji_le_n (by omega) (by omega) (by omega)), s_tat hT hw (by omega), z_oI_s, ta, s_isBlank (by omega), z_oI_s, if_pos (ji_b_p (fun k => hb ⟨by omega, k⟩)), e2, hm, s_tlen hT', z_oI_s, if_pos (ji_lt_p (by omega) (by omega) (by omega)), e2', s_tat hT' hw (by omega), z_oI_s, ta, s_isLetter (by omega), z_oI_s, if_pos (ji_b_p hl), e2', s_tat hT' hw (by omega), z_oI_s, ta, s_isDigit (by omega), z_oI_s, if_pos (ji_b_p hd), e2', s_tat hT' hw (by omega), z_oI_s, ta, e2', ji_add]
        have hx : ∀ x : Int, z_u (z_u (jM (z_u (z_u w 17 4 (q : Int)) 17 5 0)) 17 3 (Int32.ofInt x)) 17 2 (Int32.ofInt ((q : Int) + 1)) = jM (c_tk w (q + 1, q, x, 0)) := fun x => by
          rw [jM_u, jM_u]
          congr 1
          unfold c_tk
          funext c j
          simp only [z_u]
          (repeat' split) <;> first | rfl | omega
        by_cases h59 : tp q = 59
        · rw [if_pos (ji_eq_p (by omega) (by decide) h59), hx, if_pos h59]
        · rw [if_neg (ji_eq_n (by omega) (by decide) h59), hx, if_neg h59]
theorem l_blank {e n : Nat} {im : Nat → Option Nat} {u : Nat → Nat → Int} {U : Nat} {tp : Nat → Int} (hw : T_w U tp) : ∀ (f p : Nat) (w : Nat → Nat → Int), U ≤ p + f → p ≤ U → T_c w U tp → w 17 2 = (p : Int) → z_Rn (z_F (e + 1)) cd_Reader_nextToken 5 [some (.ref 17)] (n, z_q im, jM w, jL u) (none, (n, z_q im, jM (c_tk w (t_tk U tp (t_bl U tp f p))), jL u))
  | 0, p, w, hf, hp, hT, h2 => l_tok (q := p) hw hp hT h2 (by omega)
  | f + 1, p, w, hf, hp, hT, h2 => by
    have hU := hw.1
    have e2 : ((jM w, jL u) : zD).1 17 2 = Int32.ofInt (p : Int) := by rw [← h2]; rfl
    simp only [t_bl]
    by_cases hc : p < U ∧ (tp p = 32 ∨ tp p = 10)
    · rw [if_pos hc]
      have ih := l_blank (e := e) (n := n) (im := im) (u := u) hw f (p + 1) (z_u w 17 2 ((p + 1 : Nat) : Int)) (by omega) (by omega) (T_c_17 hT) rfl
      have hx : c_tk (z_u w 17 2 ((p + 1 : Nat) : Int)) (t_tk U tp (t_bl U tp f (p + 1))) = c_tk w (t_tk U tp (t_bl U tp f (p + 1))) := by
        unfold c_tk; rw [zu_zu]
      rw [hx] at ih
      have ta : t_at U tp (p : Int) = tp p := by unfold t_at; rw [if_pos (by omega), show ((p : Int)).toNat = p by omega]
      have hb1 := hw.2 p hc.1
      refine z_go ((e_Reader_nextToken_5 ..).trans ?_) ih
      rw [s_tlen hT, z_oI_s, e2, if_neg (ji_le_n (by omega) (by omega) (by omega)), s_tat hT hw (by omega), z_oI_s, ta, s_isBlank (by omega), z_oI_s, if_neg (ji_b_n hc.2), e2, ji_add, jM_u]
      rfl
    · rw [if_neg hc]
      exact l_tok hw hp hT h2 hc
