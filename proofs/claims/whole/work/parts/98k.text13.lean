/-! the text read: the reference's tokens -/
theorem T_m_u {w : Nat → Nat → Int} {U : Nat} {tp : Nat → Int} {j : Nat} {x : Int} (h : ∀ i, i < U → w 49 i = tp i) : ∀ i, i < U → z_u w 45 j x 49 i = tp i := fun i hi => h i hi
theorem k_97 : z_kl 6 = Int64.ofInt 97 := by decide
theorem k_122 : z_kl 7 = Int64.ofInt 122 := by decide
theorem k_48 : z_kl 8 = Int64.ofInt 48 := by decide
theorem k_57 : z_kl 9 = Int64.ofInt 57 := by decide
theorem t_se_b {U : Nat} {tp : Nat → Int} {p : Int} (hw : T_w U tp) : -1 ≤ t_se U tp p ∧ t_se U tp p ≤ 255 := by
  unfold t_se
  split <;> omega
theorem t_at_n {U : Nat} {tp : Nat → Int} {p : Nat} (h : p < U) : t_at U tp (p : Int) = tp p := by unfold t_at; rw [if_pos (by omega), show ((p : Int)).toNat = p by omega]
theorem t_at_e {U : Nat} {tp : Nat → Int} {p : Nat} (h : ¬ p < U) : t_at U tp (p : Int) = -1 := by unfold t_at; rw [if_neg (by omega)]
theorem l_mword {e n : Nat} {im : Nat → Option Nat} {u : Nat → Nat → Int} {U : Nat} {tp : Nat → Int} (hw : T_w U tp) {x : Int32} : ∀ (f p : Nat) (w : Nat → Nat → Int), U ≤ p + f → p ≤ U → w 45 7 = (U : Int) → (∀ j, j < U → w 49 j = tp j) → w 45 8 = (p : Int) → z_Rn (z_F (e + 1)) cd_Model_advance 43 [some (.ref 45), some (.int x)] (n, z_q im, jM w, jL u) (none, (n, z_q im, jM (z_u (z_u w 45 8 ((t_go 97 122 U tp f p : Nat) : Int)) 45 10 1), jL u))
  | f, p, w, hf, hp, h7, hT, h8 => by
    have hU := hw.1
    have e8 : ((jM w, jL u) : zD).1 45 8 = Int32.ofInt (p : Int) := by rw [← h8]; rfl
    have hb := t_se_b (p := (p : Int)) hw
    have hk := (t_se_at (p := (p : Int)) hw (by omega)).2.1
    by_cases hc : p < U ∧ 97 ≤ tp p ∧ tp p ≤ 122
    · obtain ⟨g, rfl⟩ : ∃ g, f = g + 1 := ⟨f - 1, by omega⟩
      have E : t_go 97 122 U tp (g + 1) p = t_go 97 122 U tp g (p + 1) := by simp only [t_go]; rw [if_pos hc]
      rw [E]
      have ih := l_mword (e := e) (n := n) (im := im) (u := u) hw (x := x) g (p + 1) (z_u w 45 8 ((p + 1 : Nat) : Int)) (by omega) (by omega) h7 (T_m_u hT) rfl
      rw [zu_zu] at ih
      have hl : 97 ≤ t_se U tp (p : Int) ∧ t_se U tp (p : Int) ≤ 122 := hk.mpr (by rw [t_at_n hc.1]; exact hc.2)
      refine z_go ((e_Model_advance_43 ..).trans ?_) ih
      rw [e8, s_see h7 hT hw (by omega), z_oI_s, jl_of (by omega), k_97, k_122, s_in (by omega) (by decide) (by decide), z_oI_s, if_neg (ji_b_n hl), e8, ji_add, jM_u]
      rfl
    · have E : t_go 97 122 U tp f p = p := by
        cases f with
        | zero => rfl
        | succ g => simp only [t_go]; rw [if_neg hc]
      rw [E]
      have hs : z_u w 45 8 (p : Int) = w := by rw [← h8]; exact zu_self w 45 8
      rw [hs]
      have hl : ¬ (97 ≤ t_se U tp (p : Int) ∧ t_se U tp (p : Int) ≤ 122) := fun q => by
        have q' := hk.mp q
        by_cases h1 : p < U
        · rw [t_at_n h1] at q'; exact hc ⟨h1, q'⟩
        · rw [t_at_e h1] at q'; omega
      refine z_ret ((e_Model_advance_43 ..).trans ?_)
      rw [e8, s_see h7 hT hw (by omega), z_oI_s, jl_of (by omega), k_97, k_122, s_in (by omega) (by decide) (by decide), z_oI_s, if_pos (ji_b_p hl), jM_u]
termination_by f => f
theorem l_mnumb {e n : Nat} {im : Nat → Option Nat} {u : Nat → Nat → Int} {U : Nat} {tp : Nat → Int} (hw : T_w U tp) {x : Int32} : ∀ (f p : Nat) (y : Int) (w : Nat → Nat → Int), U ≤ p + f → p ≤ U → (0 ≤ y ∧ y ≤ 99999) → w 45 7 = (U : Int) → (∀ j, j < U → w 49 j = tp j) → w 45 8 = (p : Int) → w 45 11 = y → z_Rn (z_F (e + 1)) cd_Model_advance 73 [some (.ref 45), some (.int x)] (n, z_q im, jM w, jL u) (none, (n, z_q im, jM (z_u (z_u (z_u w 45 11 (t_va 99999 U tp f p y)) 45 8 ((t_go 48 57 U tp f p : Nat) : Int)) 45 10 2), jL u))
  | f, p, y, w, hf, hp, hy, h7, hT, h8, h11 => by
    have hU := hw.1
    have e8 : ((jM w, jL u) : zD).1 45 8 = Int32.ofInt (p : Int) := by rw [← h8]; rfl
    have e11 : ((jM w, jL u) : zD).1 45 11 = Int32.ofInt y := by rw [← h11]; rfl
    have hb := t_se_b (p := (p : Int)) hw
    have hk := (t_se_at (p := (p : Int)) hw (by omega)).2.2.1
    have hk2 := (t_se_at (p := (p : Int)) hw (by omega)).2.2.2.2
    by_cases hc : p < U ∧ 48 ≤ tp p ∧ tp p ≤ 57
    · obtain ⟨g, rfl⟩ : ∃ g, f = g + 1 := ⟨f - 1, by omega⟩
      have E : t_go 48 57 U tp (g + 1) p = t_go 48 57 U tp g (p + 1) := by simp only [t_go]; rw [if_pos hc]
      have E2 : t_va 99999 U tp (g + 1) p y = t_va 99999 U tp g (p + 1) (t_cp 99999 (10 * y + tp p - 48)) := by simp only [t_va]; rw [if_pos hc]
      rw [E, E2]
      have hse : t_se U tp (p : Int) = tp p := (hk2 (by rw [t_at_n hc.1]; exact hc.2)).trans (t_at_n hc.1)
      have hcb : 0 ≤ t_cp 99999 (10 * y + tp p - 48) ∧ t_cp 99999 (10 * y + tp p - 48) ≤ 99999 := by unfold t_cp; split <;> omega
      have ih := l_mnumb (e := e) (n := n) (im := im) (u := u) hw (x := x) g (p + 1) (t_cp 99999 (10 * y + tp p - 48)) (z_u (z_u w 45 11 (t_cp 99999 (10 * y + tp p - 48))) 45 8 ((p + 1 : Nat) : Int)) (by omega) (by omega) hcb h7 (T_m_u (T_m_u hT)) rfl rfl
      have hm : ∀ a b c : Int, z_u (z_u (z_u (z_u (z_u w 45 11 (t_cp 99999 (10 * y + tp p - 48))) 45 8 ((p + 1 : Nat) : Int)) 45 11 a) 45 8 b) 45 10 c = z_u (z_u (z_u w 45 11 a) 45 8 b) 45 10 c := fun a b c => by
        congr 1
        funext c j
        simp only [z_u]
        (repeat' split) <;> first | rfl | omega
      rw [hm] at ih
      have hl : 48 ≤ t_se U tp (p : Int) ∧ t_se U tp (p : Int) ≤ 57 := by rw [hse]; exact hc.2
      have hcp : (if Int32.ofInt (10 * y + tp p - 48) < Int32.ofInt 99999 then Int32.ofInt (10 * y + tp p - 48) else Int32.ofInt 99999) = Int32.ofInt (t_cp 99999 (10 * y + tp p - 48)) := by
        unfold t_cp
        by_cases q : 10 * y + tp p - 48 < 99999
        · rw [if_pos (ji_lt_p (by omega) (by decide) q), if_pos q]
        · rw [if_neg (ji_lt_n (by omega) (by decide) q), if_neg q]
      refine z_go ((e_Model_advance_73 ..).trans ?_) ih
      rw [e8, s_see h7 hT hw (by omega), z_oI_s, jl_of (by omega), k_48, k_57, s_in (by omega) (by decide) (by decide), z_oI_s, if_neg (ji_b_n hl), e8, s_see h7 hT hw (by omega), z_oI_s, e11, e8, hse, ji_mul, ji_add, ji_sub, hcp, ji_add, jM_u, jM_u]
      rfl
    · have E : t_go 48 57 U tp f p = p := by
        cases f with
        | zero => rfl
        | succ g => simp only [t_go]; rw [if_neg hc]
      have E2 : t_va 99999 U tp f p y = y := by
        cases f with
        | zero => rfl
        | succ g => simp only [t_va]; rw [if_neg hc]
      rw [E, E2]
      have hs : z_u (z_u w 45 11 y) 45 8 (p : Int) = w := by rw [← h11, zu_self, ← h8, zu_self]
      rw [hs]
      have hl : ¬ (48 ≤ t_se U tp (p : Int) ∧ t_se U tp (p : Int) ≤ 57) := fun q => by
        have q' := hk.mp q
        by_cases h1 : p < U
        · rw [t_at_n h1] at q'; exact hc ⟨h1, q'⟩
        · rw [t_at_e h1] at q'; omega
      refine z_ret ((e_Model_advance_73 ..).trans ?_)
      rw [e8, s_see h7 hT hw (by omega), z_oI_s, jl_of (by omega), k_48, k_57, s_in (by omega) (by decide) (by decide), z_oI_s, if_pos (ji_b_p hl), jM_u]
termination_by f => f
theorem t_va_2 {U : Nat} {tp : Nat → Int} : ∀ f p x, 0 ≤ x → t_va 99999 U tp f p (t_cp 99999 x) = t_cp 99999 (t_va 100000 U tp f p (t_cp 100000 x))
  | 0, p, x, _ => by simp only [t_va]; unfold t_cp; (repeat' split) <;> omega
  | f + 1, p, x, hx => by
    simp only [t_va]
    by_cases h : p < U ∧ 48 ≤ tp p ∧ tp p ≤ 57
    · rw [if_pos h, if_pos h]
      have h1 : t_cp 99999 (10 * t_cp 99999 x + tp p - 48) = t_cp 99999 (10 * t_cp 100000 x + tp p - 48) := by unfold t_cp; (repeat' split) <;> omega
      rw [h1]
      exact t_va_2 f (p + 1) (10 * t_cp 100000 x + tp p - 48) (by unfold t_cp; split <;> omega)
    · rw [if_neg h, if_neg h]
      unfold t_cp; (repeat' split) <;> omega
theorem t_va_3 {U : Nat} {tp : Nat → Int} (f p : Nat) : t_va 99999 U tp f p 0 = t_cp 99999 (t_va 100000 U tp f p 0) := t_va_2 f p 0 (by decide)
/-- the reference: a token laid down -/
def m_tk (w w' : Nat → Nat → Int) (t : zK) : Prop := (∀ c, c ≠ 45 → w' c = w c) ∧ (∀ j, (j < 8 ∨ 11 < j) → w' 45 j = w 45 j) ∧ w' 45 8 = (t.1 : Int) ∧ w' 45 9 = (t.2.1 : Int) ∧ w' 45 10 = t.2.2.1 ∧ (t.2.2.1 = 2 → w' 45 11 = t_cp 99999 t.2.2.2)
theorem l_mtok {e n : Nat} {im : Nat → Option Nat} {u : Nat → Nat → Int} {U : Nat} {tp : Nat → Int} (hw : T_w U tp) {q : Nat} {w : Nat → Nat → Int} (hq : q ≤ U) (h7 : w 45 7 = (U : Int)) (hT : ∀ j, j < U → w 49 j = tp j) (h8 : w 45 8 = (q : Int)) (hb : ¬ (q < U ∧ (tp q = 32 ∨ tp q = 10))) : ∃ w', z_Rn (z_F (e + 1)) cd_Model_advance 1 [some (.ref 45), none] (n, z_q im, jM w, jL u) (none, (n, z_q im, jM w', jL u)) ∧ m_tk w w' (t_tk U tp q) := by
  have hU := hw.1
  have e8 : ((jM w, jL u) : zD).1 45 8 = Int32.ofInt (q : Int) := by rw [← h8]; rfl
  have hsb := t_se_b (p := (q : Int)) hw
  obtain ⟨⟨k32, k10, k59⟩, kl, kd, ke, kv⟩ := t_se_at (p := (q : Int)) hw (by omega)
  have n32 : ¬ t_se U tp (q : Int) = 32 := fun k => by
    have k' := k32.mp k
    by_cases h1 : q < U
    · rw [t_at_n h1] at k'; exact hb ⟨h1, Or.inl k'⟩
    · rw [t_at_e h1] at k'; omega
  have n10 : ¬ t_se U tp (q : Int) = 10 := fun k => by
    have k' := k10.mp k
    by_cases h1 : q < U
    · rw [t_at_n h1] at k'; exact hb ⟨h1, Or.inr k'⟩
    · rw [t_at_e h1] at k'; omega
  have h7' : z_u w 45 9 (q : Int) 45 7 = (U : Int) := h7
  have hT' : ∀ j, j < U → z_u w 45 9 (q : Int) 49 j = tp j := hT
  have e8' : ((jM (z_u w 45 9 (q : Int)), jL u) : zD).1 45 8 = Int32.ofInt (q : Int) := by rw [← h8]; rfl
  by_cases h1 : U ≤ q
  · have hk : t_tk U tp q = (q, q, 0, 0) := by unfold t_tk; rw [if_pos h1]
    rw [hk]
    refine ⟨z_u (z_u w 45 9 (q : Int)) 45 10 0, z_ret ((e_Model_advance_1 ..).trans ?_), fun c hc => by rw [z_u_ne hc, z_u_ne hc], fun j hj => ?_, h8, rfl, rfl, fun k => by dsimp only at k; omega⟩
    · rw [e8, s_see h7 hT hw (by omega), z_oI_s, if_neg (ji_eq_n (by omega) (by decide) n32), e8, s_see h7 hT hw (by omega), z_oI_s, if_neg (ji_eq_n (by omega) (by decide) n10), e8, jM_u, s_see h7' hT' hw (by omega), z_oI_s, if_pos (ji_eq_p (by omega) (by decide) (ke.mpr (by omega))), jM_u]
    · rw [z_u_at, if_neg (by omega), z_u_at, if_neg (by omega)]
  · have hne : ¬ t_se U tp (q : Int) = -1 := fun k => by have := ke.mp k; omega
    have hlt : q < U := by omega
    rw [t_at_n hlt] at k59 kl kd kv
    by_cases hl : 97 ≤ tp q ∧ tp q ≤ 122
    · have hk : t_tk U tp q = (t_go 97 122 U tp U q, q, 1, 0) := by unfold t_tk; rw [if_neg h1, if_pos hl]
      rw [hk]
      have k := l_mword (e := e) (n := n) (im := im) (u := u) hw (x := Int32.ofInt (t_se U tp (q : Int))) U q (z_u w 45 9 (q : Int)) (by omega) hq h7' hT' h8
      refine ⟨z_u (z_u (z_u w 45 9 (q : Int)) 45 8 ((t_go 97 122 U tp U q : Nat) : Int)) 45 10 1, z_go ((e_Model_advance_1 ..).trans ?_) k, fun c hc => by rw [z_u_ne hc, z_u_ne hc, z_u_ne hc], fun j hj => ?_, rfl, rfl, rfl, fun k => by dsimp only at k; omega⟩
      · rw [e8, s_see h7 hT hw (by omega), z_oI_s, if_neg (ji_eq_n (by omega) (by decide) n32), e8, s_see h7 hT hw (by omega), z_oI_s, if_neg (ji_eq_n (by omega) (by decide) n10), e8, jM_u, s_see h7' hT' hw (by omega), z_oI_s, if_neg (ji_eq_n (by omega) (by decide) hne), jl_of (by omega), k_97, k_122, s_in (by omega) (by decide) (by decide), z_oI_s, if_neg (ji_b_n (kl.mpr hl))]
      · rw [z_u_at, if_neg (by omega), z_u_at, if_neg (by omega), z_u_at, if_neg (by omega)]
    · by_cases hd : 48 ≤ tp q ∧ tp q ≤ 57
      · have hk : t_tk U tp q = (t_go 48 57 U tp U q, q, 2, t_va 100000 U tp U q 0) := by unfold t_tk; rw [if_neg h1, if_neg hl, if_pos hd]
        rw [hk]
        have k := l_mnumb (e := e) (n := n) (im := im) (u := u) hw (x := Int32.ofInt (t_se U tp (q : Int))) U q 0 (z_u (z_u w 45 9 (q : Int)) 45 11 0) (by omega) hq (by decide) h7' hT' h8 rfl
        refine ⟨z_u (z_u (z_u (z_u (z_u w 45 9 (q : Int)) 45 11 0) 45 11 (t_va 99999 U tp U q 0)) 45 8 ((t_go 48 57 U tp U q : Nat) : Int)) 45 10 2, z_go ((e_Model_advance_1 ..).trans ?_) k, fun c hc => by rw [z_u_ne hc, z_u_ne hc, z_u_ne hc, z_u_ne hc, z_u_ne hc], fun j hj => ?_, rfl, rfl, rfl, fun _ => t_va_3 U q⟩
        · rw [e8, s_see h7 hT hw (by omega), z_oI_s, if_neg (ji_eq_n (by omega) (by decide) n32), e8, s_see h7 hT hw (by omega), z_oI_s, if_neg (ji_eq_n (by omega) (by decide) n10), e8, jM_u, s_see h7' hT' hw (by omega), z_oI_s, if_neg (ji_eq_n (by omega) (by decide) hne), jl_of (by omega), k_97, k_122, s_in (by omega) (by decide) (by decide), z_oI_s, if_pos (ji_b_p (fun k => hl (kl.mp k))), k_48, k_57, s_in (by omega) (by decide) (by decide), z_oI_s, if_neg (ji_b_n (kd.mpr hd)), jM_u]
        · rw [z_u_at, if_neg (by omega), z_u_at, if_neg (by omega), z_u_at, if_neg (by omega), z_u_at, if_neg (by omega), z_u_at, if_neg (by omega)]
      · have hk : t_tk U tp q = (q + 1, q, if tp q = 59 then 3 else 4, 0) := by unfold t_tk; rw [if_neg h1, if_neg hl, if_neg hd]
        rw [hk]
        refine ⟨z_u (z_u (z_u w 45 9 (q : Int)) 45 10 (if tp q = 59 then 3 else 4)) 45 8 ((q + 1 : Nat) : Int), z_ret ((e_Model_advance_1 ..).trans ?_), fun c hc => by rw [z_u_ne hc, z_u_ne hc, z_u_ne hc], fun j hj => ?_, rfl, rfl, rfl, fun k => ?_⟩
        · rw [e8, s_see h7 hT hw (by omega), z_oI_s, if_neg (ji_eq_n (by omega) (by decide) n32), e8, s_see h7 hT hw (by omega), z_oI_s, if_neg (ji_eq_n (by omega) (by decide) n10), e8, jM_u, s_see h7' hT' hw (by omega), z_oI_s, if_neg (ji_eq_n (by omega) (by decide) hne), jl_of (by omega), k_97, k_122, s_in (by omega) (by decide) (by decide), z_oI_s, if_pos (ji_b_p (fun k => hl (kl.mp k))), k_48, k_57, s_in (by omega) (by decide) (by decide), z_oI_s, if_pos (ji_b_p (fun k => hd (kd.mp k))), e8', ji_add]
          by_cases h59 : tp q = 59
          · rw [if_pos (ji_eq_p (by omega) (by decide) (k59.mpr h59)), if_pos h59, jM_u, jM_u]
            rfl
          · rw [if_neg (ji_eq_n (by omega) (by decide) (fun k => h59 (k59.mp k))), if_neg h59, jM_u, jM_u]
            rfl
        · rw [z_u_at, if_neg (by omega), z_u_at, if_neg (by omega), z_u_at, if_neg (by omega)]
        · exfalso
          dsimp only at k
          split at k <;> omega
theorem l_mblank {e n : Nat} {im : Nat → Option Nat} {u : Nat → Nat → Int} {U : Nat} {tp : Nat → Int} (hw : T_w U tp) : ∀ (f p : Nat) (w : Nat → Nat → Int), U ≤ p + f → p ≤ U → w 45 7 = (U : Int) → (∀ j, j < U → w 49 j = tp j) → w 45 8 = (p : Int) → ∃ w', z_Rn (z_F (e + 1)) cd_Model_advance 1 [some (.ref 45), none] (n, z_q im, jM w, jL u) (none, (n, z_q im, jM w', jL u)) ∧ m_tk w w' (t_tk U tp (t_bl U tp f p))
  | f, p, w, hf, hp, h7, hT, h8 => by
    have hU := hw.1
    have e8 : ((jM w, jL u) : zD).1 45 8 = Int32.ofInt (p : Int) := by rw [← h8]; rfl
    have hsb := t_se_b (p := (p : Int)) hw
    obtain ⟨⟨k32, k10, k59⟩, kl, kd, ke, kv⟩ := t_se_at (p := (p : Int)) hw (by omega)
    by_cases hc : p < U ∧ (tp p = 32 ∨ tp p = 10)
    · obtain ⟨g, rfl⟩ : ∃ g, f = g + 1 := ⟨f - 1, by omega⟩
      have E : t_bl U tp (g + 1) p = t_bl U tp g (p + 1) := by simp only [t_bl]; rw [if_pos hc]
      rw [E]
      obtain ⟨w', i1, i2, i3, i4⟩ := l_mblank (e := e) (n := n) (im := im) (u := u) hw g (p + 1) (z_u w 45 8 ((p + 1 : Nat) : Int)) (by omega) (by omega) h7 (T_m_u hT) rfl
      rw [t_at_n hc.1] at k32 k10
      refine ⟨w', z_go ((e_Model_advance_1 ..).trans ?_) i1, fun c h => (i2 c h).trans (z_u_ne h), fun j hj => by rw [i3 j hj, z_u_at, if_neg (by omega)], i4⟩
      rw [e8, s_see h7 hT hw (by omega), z_oI_s]
      by_cases h32 : tp p = 32
      · rw [if_pos (ji_eq_p (by omega) (by decide) (k32.mpr h32)), e8, ji_add, jM_u]
        rfl
      · have h10 : tp p = 10 := hc.2.resolve_left h32
        rw [if_neg (ji_eq_n (by omega) (by decide) (fun k => h32 (k32.mp k))), e8, s_see h7 hT hw (by omega), z_oI_s, if_pos (ji_eq_p (by omega) (by decide) (k10.mpr h10)), e8, ji_add, jM_u]
        rfl
    · have E : t_bl U tp f p = p := by
        cases f with
        | zero => rfl
        | succ g => simp only [t_bl]; rw [if_neg hc]
      rw [E]
      exact l_mtok hw hp h7 hT h8 hc
termination_by f => f
theorem m_adv {e n : Nat} {im : Nat → Option Nat} {w u : Nat → Nat → Int} {U : Nat} {tp : Nat → Int} {p : Nat} (hw : T_w U tp) (hp : p ≤ U) (h7 : w 45 7 = (U : Int)) (hT : ∀ j, j < U → w 49 j = tp j) (h8 : w 45 8 = (p : Int)) : ∃ w', (z_F (e + 2)).2.2.1 k_Model_advance [.ref 45] (n, z_q im, jM w, jL u) = some (jM w', jL u) ∧ m_tk w w' (t_nx U tp p) := by
  obtain ⟨w', i1, i2⟩ := l_mblank (e := e) (n := n) (im := im) (u := u) hw U p w (by omega) hp h7 hT h8
  exact ⟨w', n_Model_advance (z_go (e_Model_advance_0 ..) i1), i2⟩
