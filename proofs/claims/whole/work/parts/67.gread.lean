/-! the game: its grid read; game, reply, safe, rests, rest, vain -/
abbrev g_b (g : Nat → Nat → Int) : Prop := ∀ x y, -1000 ≤ g x y ∧ g x y ≤ 1000
def G_w (g : Nat → Nat → Int) (x : Nat) : Nat → Nat
  | 0 => 0
  | i + 1 => if g x (i + 1) < g x (G_w g x i) then i + 1 else G_w g x i
def G_b (g : Nat → Nat → Int) (y : Nat) : Nat → Nat
  | 0 => 0
  | i + 1 => if g (G_b g y i) y < g (i + 1) y then i + 1 else G_b g y i
theorem G_w_b (g : Nat → Nat → Int) (x : Nat) : ∀ i, G_w g x i ≤ i
  | 0 => Nat.le_refl _
  | i + 1 => by
    have := G_w_b g x i
    simp only [G_w]
    split <;> omega
theorem G_b_b (g : Nat → Nat → Int) (y : Nat) : ∀ i, G_b g y i ≤ i
  | 0 => Nat.le_refl _
  | i + 1 => by
    have := G_b_b g y i
    simp only [G_b]
    split <;> omega
def G_lo (g : Nat → Nat → Int) (x : Nat) : Int := g x (G_w g x 9)
def G_hi (g : Nat → Nat → Int) (y : Nat) : Int := g (G_b g y 9) y
def G_sc (g : Nat → Nat → Int) : Nat → Nat
  | 0 => 0
  | i + 1 => if G_lo g (G_sc g i) < G_lo g (i + 1) then i + 1 else G_sc g i
def G_sr (g : Nat → Nat → Int) : Nat → Nat
  | 0 => 0
  | i + 1 => if G_hi g (i + 1) < G_hi g (G_sr g i) then i + 1 else G_sr g i
theorem G_sc_b (g : Nat → Nat → Int) : ∀ i, G_sc g i ≤ i
  | 0 => Nat.le_refl _
  | i + 1 => by
    have := G_sc_b g i
    simp only [G_sc]
    split <;> omega
theorem G_sr_b (g : Nat → Nat → Int) : ∀ i, G_sr g i ≤ i
  | 0 => Nat.le_refl _
  | i + 1 => by
    have := G_sr_b g i
    simp only [G_sr]
    split <;> omega
abbrev G_rs (g : Nat → Nat → Int) (x y : Nat) : Prop := g x y = G_hi g y ∧ g x y = G_lo g x
/-- never better in the first so many replies, and sometimes worse -/
def G_nb (g : Nat → Nat → Int) (x o : Nat) (k : Nat) : Prop := ∀ y, y < k → g x y ≤ g o y
def G_wo (g : Nat → Nat → Int) (x o : Nat) (k : Nat) : Prop := ∃ y, y < k ∧ g x y < g o y

theorem s_at_c {e n : Nat} {im : Nat → Option Nat} {w u : Nat → Nat → Int} {g : Nat → Nat → Int} (hg : ∀ m, m < 100 → w 44 m = g (m / 10) (m % 10)) {x y : Nat} (hx : x < 10) (hy : y < 10) : (z_F (e + 2)).1 k_Grid_at [.ref 42, .int (Int32.ofInt (x : Int)), .int (Int32.ofInt (y : Int))] (n, z_q im, jM w, jL u) = some (Int32.ofInt (g x y), jM w, jL u) := by
  refine q_Grid_at ?_
  rw [ji_mul, ji_add, s_at_43 (by omega), z_oI_s, if_pos (by omega), show ((x : Int) * 10 + (y : Int)).toNat = 10 * x + y by omega, hg _ (by omega), show (10 * x + y) / 10 = x by omega, show (10 * x + y) % 10 = y by omega]
theorem s_wr_c {e n : Nat} {im : Nat → Option Nat} {w u : Nat → Nat → Int} {g : Nat → Nat → Int} (hg : ∀ m, m < 100 → w 44 m = g (m / 10) (m % 10)) (hb : g_b g) {x : Nat} (hx : x < 10) : (z_F (e + 3)).1 k_Grid_worstReply [.ref 42, .int (Int32.ofInt (x : Int))] (n, z_q im, jM w, jL u) = some (Int32.ofInt (G_w g x 9 : Nat), jM w, jL u) := by
  obtain ⟨t, ht, rfl⟩ := z_for (o := z_F (e + 2)) (cd := cd_Grid_worstReply) (P := fun i s => s = (5, [some (.ref 42), some (.int (Int32.ofInt (x : Int))), some (.int (Int32.ofInt (G_w g x i : Nat))), some (.int (Int32.ofInt ((i : Int) + 1)))], (n, z_q im, jM w, jL u))) 9 (s := (5, [some (.ref 42), some (.int (Int32.ofInt (x : Int))), some (.int (Int32.ofInt 0)), some (.int (Int32.ofInt 1))], (n, z_q im, jM w, jL u))) rfl (fun i s hi hs => by
    subst hs
    have hwb := G_w_b g x i
    refine ⟨(5, [some (.ref 42), some (.int (Int32.ofInt (x : Int))), some (.int (Int32.ofInt (G_w g x (i + 1) : Nat))), some (.int (Int32.ofInt ((i : Int) + 1 + 1)))], (n, z_q im, jM w, jL u)), z_To_1 ((e_Grid_worstReply_5 ..).trans ?_), rfl⟩
    have h1 := s_at_c (e := e) (n := n) (im := im) (u := u) hg hx (show i + 1 < 10 by omega)
    have h2 := s_at_c (e := e) (n := n) (im := im) (u := u) hg hx (show G_w g x i < 10 by omega)
    rw [ic] at h1
    have b1 := hb x (i + 1)
    have b2 := hb x (G_w g x i)
    rw [h1, z_oI_s, h2, z_oI_s]
    simp (disch := omega) only [ji_le, ji_add]
    rw [if_neg (by omega)]
    simp only [G_w]
    by_cases h : g x (i + 1) < g x (G_w g x i)
    · rw [if_neg (by omega), if_pos h]
      rfl
    · rw [if_pos (by omega), if_neg h])
  refine n_Grid_worstReply (z_go (e_Grid_worstReply_0 ..) (ht _ (z_ret ((e_Grid_worstReply_5 ..).trans ?_))))
  simp (disch := omega) only [ji_le]
  rw [if_pos (by decide)]
theorem s_bc_c {e n : Nat} {im : Nat → Option Nat} {w u : Nat → Nat → Int} {g : Nat → Nat → Int} (hg : ∀ m, m < 100 → w 44 m = g (m / 10) (m % 10)) (hb : g_b g) {y : Nat} (hy : y < 10) : (z_F (e + 3)).1 k_Grid_bestChoice [.ref 42, .int (Int32.ofInt (y : Int))] (n, z_q im, jM w, jL u) = some (Int32.ofInt (G_b g y 9 : Nat), jM w, jL u) := by
  obtain ⟨t, ht, rfl⟩ := z_for (o := z_F (e + 2)) (cd := cd_Grid_bestChoice) (P := fun i s => s = (5, [some (.ref 42), some (.int (Int32.ofInt (y : Int))), some (.int (Int32.ofInt (G_b g y i : Nat))), some (.int (Int32.ofInt ((i : Int) + 1)))], (n, z_q im, jM w, jL u))) 9 (s := (5, [some (.ref 42), some (.int (Int32.ofInt (y : Int))), some (.int (Int32.ofInt 0)), some (.int (Int32.ofInt 1))], (n, z_q im, jM w, jL u))) rfl (fun i s hi hs => by
    subst hs
    have hwb := G_b_b g y i
    refine ⟨(5, [some (.ref 42), some (.int (Int32.ofInt (y : Int))), some (.int (Int32.ofInt (G_b g y (i + 1) : Nat))), some (.int (Int32.ofInt ((i : Int) + 1 + 1)))], (n, z_q im, jM w, jL u)), z_To_1 ((e_Grid_bestChoice_5 ..).trans ?_), rfl⟩
    have h1 := s_at_c (e := e) (n := n) (im := im) (u := u) hg (show i + 1 < 10 by omega) hy
    have h2 := s_at_c (e := e) (n := n) (im := im) (u := u) hg (show G_b g y i < 10 by omega) hy
    rw [ic] at h1
    have b1 := hb (i + 1) y
    have b2 := hb (G_b g y i) y
    rw [h1, z_oI_s, h2, z_oI_s]
    simp (disch := omega) only [ji_le, ji_add]
    rw [if_neg (by omega)]
    simp only [G_b]
    by_cases h : g (G_b g y i) y < g (i + 1) y
    · rw [if_neg (by omega), if_pos h]
      rfl
    · rw [if_pos (by omega), if_neg h])
  refine n_Grid_bestChoice (z_go (e_Grid_bestChoice_0 ..) (ht _ (z_ret ((e_Grid_bestChoice_5 ..).trans ?_))))
  simp (disch := omega) only [ji_le]
  rw [if_pos (by decide)]
theorem s_lo_c {e n : Nat} {im : Nat → Option Nat} {w u : Nat → Nat → Int} {g : Nat → Nat → Int} (hg : ∀ m, m < 100 → w 44 m = g (m / 10) (m % 10)) {x : Nat} (hx : x < 10) : (z_F (e + 2)).1 k_Grid_at [.ref 42, .int (Int32.ofInt (x : Int)), .int (Int32.ofInt (G_w g x 9 : Nat))] (n, z_q im, jM w, jL u) = some (Int32.ofInt (G_lo g x), jM w, jL u) := s_at_c hg hx (by have := G_w_b g x 9; omega)
theorem s_hi_c {e n : Nat} {im : Nat → Option Nat} {w u : Nat → Nat → Int} {g : Nat → Nat → Int} (hg : ∀ m, m < 100 → w 44 m = g (m / 10) (m % 10)) {y : Nat} (hy : y < 10) : (z_F (e + 2)).1 k_Grid_at [.ref 42, .int (Int32.ofInt (G_b g y 9 : Nat)), .int (Int32.ofInt (y : Int))] (n, z_q im, jM w, jL u) = some (Int32.ofInt (G_hi g y), jM w, jL u) := s_at_c hg (by have := G_b_b g y 9; omega) hy
theorem s_rs_c {e n : Nat} {im : Nat → Option Nat} {w u : Nat → Nat → Int} {g : Nat → Nat → Int} (hg : ∀ m, m < 100 → w 44 m = g (m / 10) (m % 10)) (hb : g_b g) {x y : Nat} (hx : x < 10) (hy : y < 10) : (z_F (e + 4)).1 k_Grid_isRest [.ref 42, .int (Int32.ofInt (x : Int)), .int (Int32.ofInt (y : Int))] (n, z_q im, jM w, jL u) = some (Int32.ofInt (if G_rs g x y then 1 else 0), jM w, jL u) := by
  have b1 := hb x y
  have b2 : -1000 ≤ G_hi g y ∧ G_hi g y ≤ 1000 := hb _ _
  have b3 : -1000 ≤ G_lo g x ∧ G_lo g x ≤ 1000 := hb _ _
  refine q_Grid_isRest ?_
  rw [s_at_c hg hx hy, z_oI_s]
  rw [s_bc_c hg hb hy, z_oI_s, s_hi_c hg hy, z_oI_s]
  by_cases h1 : g x y = G_hi g y
  · rw [if_pos (ji_eq_p (by omega) (by omega) h1), s_at_c hg hx hy, z_oI_s, s_wr_c hg hb hx, z_oI_s, s_lo_c hg hx, z_oI_s]
    by_cases h2 : g x y = G_lo g x
    · rw [if_pos (ji_eq_p (by omega) (by omega) h2), if_pos ⟨h1, h2⟩]
    · rw [if_neg (ji_eq_n (by omega) (by omega) h2), if_neg (fun q => h2 q.2)]
  · rw [if_neg (ji_eq_n (by omega) (by omega) h1), if_neg (fun q => h1 q.1)]
theorem s_bt_c {e n : Nat} {im : Nat → Option Nat} {w u : Nat → Nat → Int} {g : Nat → Nat → Int} (hg : ∀ m, m < 100 → w 44 m = g (m / 10) (m % 10)) (hb : g_b g) {x o : Nat} (hx : x < 10) (ho : o < 10) : (G_nb g x o 10 ∧ G_wo g x o 10 → (z_F (e + 4)).1 k_Grid_isBeatenBy [.ref 42, .int (Int32.ofInt (x : Int)), .int (Int32.ofInt (o : Int))] (n, z_q im, jM w, jL u) = some (Int32.ofInt 1, jM w, jL u)) ∧ (¬ (G_nb g x o 10 ∧ G_wo g x o 10) → (z_F (e + 4)).1 k_Grid_isBeatenBy [.ref 42, .int (Int32.ofInt (x : Int)), .int (Int32.ofInt (o : Int))] (n, z_q im, jM w, jL u) = some (Int32.ofInt 0, jM w, jL u)) := by
  have key := z_forx (o := z_F (e + 3)) (cd := cd_Grid_isBeatenBy) (P := fun k s => G_nb g x o k ∧ ((G_wo g x o k ∧ s = (5, [some (.ref 42), some (.int (Int32.ofInt (x : Int))), some (.int (Int32.ofInt (o : Int))), some (.int (Int32.ofInt 1)), some (.int (Int32.ofInt (k : Int)))], (n, z_q im, jM w, jL u))) ∨ (¬ G_wo g x o k ∧ s = (5, [some (.ref 42), some (.int (Int32.ofInt (x : Int))), some (.int (Int32.ofInt (o : Int))), some (.int (Int32.ofInt 0)), some (.int (Int32.ofInt (k : Int)))], (n, z_q im, jM w, jL u))))) (Q := fun r => (G_nb g x o 10 ∧ G_wo g x o 10 ∧ r = (some (.int (Int32.ofInt 1)), (n, z_q im, jM w, jL u))) ∨ (¬ (G_nb g x o 10 ∧ G_wo g x o 10) ∧ r = (some (.int (Int32.ofInt 0)), (n, z_q im, jM w, jL u)))) 10 (s := (5, [some (.ref 42), some (.int (Int32.ofInt (x : Int))), some (.int (Int32.ofInt (o : Int))), some (.int (Int32.ofInt 0)), some (.int (Int32.ofInt 0))], (n, z_q im, jM w, jL u))) ⟨fun y hy => absurd hy (by omega), Or.inr ⟨fun q => by obtain ⟨y, hy, -⟩ := q; omega, rfl⟩⟩ (fun k s hk hP => by
    obtain ⟨hnb, hP⟩ := hP
    have b1 := hb x k
    have b2 := hb o k
    have h1 := s_at_c (e := e + 1) (n := n) (im := im) (u := u) hg hx hk
    have h2 := s_at_c (e := e + 1) (n := n) (im := im) (u := u) hg ho hk
    have hnb2 : g x k ≤ g o k → G_nb g x o (k + 1) := fun hle y hy => by
      by_cases hyk : y = k
      · rw [hyk]; exact hle
      · exact hnb y (by omega)
    rcases hP with ⟨hwo, rfl⟩ | ⟨hwo, rfl⟩
    · have hx9 : z_ex none (z_F (e + 3)) cd_Grid_isBeatenBy 4000 (cd_Grid_isBeatenBy.drop 5) 5 [some (.ref 42), some (.int (Int32.ofInt (x : Int))), some (.int (Int32.ofInt (o : Int))), some (.int (Int32.ofInt 1)), some (.int (Int32.ofInt (k : Int)))] [] (n, z_q im, jM w, jL u) = if g x k ≤ g o k then some (.inr (5, [some (.ref 42), some (.int (Int32.ofInt (x : Int))), some (.int (Int32.ofInt (o : Int))), some (.int (Int32.ofInt 1)), some (.int (Int32.ofInt ((k : Int) + 1)))], [], (n, z_q im, jM w, jL u))) else some (.inl (some (.int (Int32.ofInt 0)), (n, z_q im, jM w, jL u))) := by
        refine (e_Grid_isBeatenBy_5 ..).trans ?_
        rw [h1, z_oI_s, h2, z_oI_s, if_neg (ji_le_n (by omega) (by omega) (by omega)), if_neg (show ¬ Int32.ofInt 1 = 0 by decide)]
        simp (disch := omega) only [ji_le, ji_add]
      by_cases hle : g x k ≤ g o k
      · obtain ⟨y, hy1, hy2⟩ := hwo
        exact Or.inl ⟨(5, [some (.ref 42), some (.int (Int32.ofInt (x : Int))), some (.int (Int32.ofInt (o : Int))), some (.int (Int32.ofInt 1)), some (.int (Int32.ofInt ((k : Int) + 1)))], (n, z_q im, jM w, jL u)), z_To_1 (hx9.trans (if_pos hle)), hnb2 hle, Or.inl ⟨⟨y, by omega, hy2⟩, rfl⟩⟩
      · exact Or.inr ⟨_, z_ret (hx9.trans (if_neg hle)), Or.inr ⟨fun q => hle (q.1 k hk), rfl⟩⟩
    · have hx9 : z_ex none (z_F (e + 3)) cd_Grid_isBeatenBy 4000 (cd_Grid_isBeatenBy.drop 5) 5 [some (.ref 42), some (.int (Int32.ofInt (x : Int))), some (.int (Int32.ofInt (o : Int))), some (.int (Int32.ofInt 0)), some (.int (Int32.ofInt (k : Int)))] [] (n, z_q im, jM w, jL u) = if g x k ≤ g o k then (if g o k ≤ g x k then some (.inr (5, [some (.ref 42), some (.int (Int32.ofInt (x : Int))), some (.int (Int32.ofInt (o : Int))), some (.int (Int32.ofInt 0)), some (.int (Int32.ofInt ((k : Int) + 1)))], [], (n, z_q im, jM w, jL u))) else some (.inr (5, [some (.ref 42), some (.int (Int32.ofInt (x : Int))), some (.int (Int32.ofInt (o : Int))), some (.int (Int32.ofInt 1)), some (.int (Int32.ofInt ((k : Int) + 1)))], [], (n, z_q im, jM w, jL u)))) else some (.inl (some (.int (Int32.ofInt 0)), (n, z_q im, jM w, jL u))) := by
        refine (e_Grid_isBeatenBy_5 ..).trans ?_
        rw [h1, z_oI_s, h2, z_oI_s, if_neg (ji_le_n (by omega) (by omega) (by omega)), if_pos (show Int32.ofInt 0 = 0 from rfl)]
        simp (disch := omega) only [ji_le, ji_add, h1, h2, z_oI_s]
      by_cases hle : g x k ≤ g o k
      · by_cases hge : g o k ≤ g x k
        · exact Or.inl ⟨(5, [some (.ref 42), some (.int (Int32.ofInt (x : Int))), some (.int (Int32.ofInt (o : Int))), some (.int (Int32.ofInt 0)), some (.int (Int32.ofInt ((k : Int) + 1)))], (n, z_q im, jM w, jL u)), z_To_1 (hx9.trans (by rw [if_pos hle, if_pos hge])), hnb2 hle, Or.inr ⟨fun q => by
            obtain ⟨y, hy1, hy2⟩ := q
            by_cases hyk : y = k
            · subst hyk; omega
            · exact hwo ⟨y, by omega, hy2⟩, rfl⟩⟩
        · exact Or.inl ⟨(5, [some (.ref 42), some (.int (Int32.ofInt (x : Int))), some (.int (Int32.ofInt (o : Int))), some (.int (Int32.ofInt 1)), some (.int (Int32.ofInt ((k : Int) + 1)))], (n, z_q im, jM w, jL u)), z_To_1 (hx9.trans (by rw [if_pos hle, if_neg hge])), hnb2 hle, Or.inl ⟨⟨k, by omega, by omega⟩, rfl⟩⟩
      · exact Or.inr ⟨_, z_ret (hx9.trans (if_neg hle)), Or.inr ⟨fun q => hle (q.1 k hk), rfl⟩⟩) (fun s hP => by
    obtain ⟨hnb, hP⟩ := hP
    rcases hP with ⟨hwo, rfl⟩ | ⟨hwo, rfl⟩
    · refine ⟨(some (.int (Int32.ofInt 1)), (n, z_q im, jM w, jL u)), z_ret ((e_Grid_isBeatenBy_5 ..).trans ?_), Or.inl ⟨hnb, hwo, rfl⟩⟩
      rw [if_pos (ji_le_p (by decide) (by decide) (by decide)), if_pos (show Int32.ofInt 1 = 0 ∨ Int32.ofInt 1 = 1 from Or.inr rfl)]
    · refine ⟨(some (.int (Int32.ofInt 0)), (n, z_q im, jM w, jL u)), z_ret ((e_Grid_isBeatenBy_5 ..).trans ?_), Or.inr ⟨fun q => hwo q.2, rfl⟩⟩
      rw [if_pos (ji_le_p (by decide) (by decide) (by decide)), if_pos (show Int32.ofInt 0 = 0 ∨ Int32.ofInt 0 = 1 from Or.inl rfl)])
  obtain ⟨r, k1, k2⟩ := key
  have hgo := z_go (e_Grid_isBeatenBy_0 (z_F (e + 3)) n im (jM w, jL u) (Int32.ofInt (x : Int)) (Int32.ofInt (o : Int))) k1
  constructor
  · intro h
    rcases k2 with ⟨-, -, rfl⟩ | ⟨h2, -⟩
    · exact n_Grid_isBeatenBy hgo
    · exact absurd h h2
  · intro h
    rcases k2 with ⟨h1, h2, -⟩ | ⟨-, rfl⟩
    · exact absurd ⟨h1, h2⟩ h
    · exact n_Grid_isBeatenBy hgo

theorem s_at_m {e n : Nat} {im : Nat → Option Nat} {w u : Nat → Nat → Int} {g : Nat → Nat → Int} (hg : ∀ m, m < 100 → w 52 m = g (m / 10) (m % 10)) {x y : Nat} (hx : x < 10) (hy : y < 10) : (z_F (e + 2)).1 k_Model_gameOf [.ref 45, .int (Int32.ofInt (x : Int)), .int (Int32.ofInt (y : Int))] (n, z_q im, jM w, jL u) = some (Int32.ofInt (g x y), jM w, jL u) := by
  refine q_Model_gameOf ?_
  simp (disch := omega) only [ji_mul, ji_add, ji_lt0, ji_nat, jM_at]
  rw [if_neg (by omega), show (10 * (x : Int) + (y : Int)).toNat = 10 * x + y by omega, hg _ (by omega), show (10 * x + y) / 10 = x by omega, show (10 * x + y) % 10 = y by omega]
theorem s_wr_m {e n : Nat} {im : Nat → Option Nat} {w u : Nat → Nat → Int} {g : Nat → Nat → Int} (hg : ∀ m, m < 100 → w 52 m = g (m / 10) (m % 10)) (hb : g_b g) {x : Nat} (hx : x < 10) : (z_F (e + 3)).1 k_Model_replyTo [.ref 45, .int (Int32.ofInt (x : Int))] (n, z_q im, jM w, jL u) = some (Int32.ofInt (G_w g x 9 : Nat), jM w, jL u) := by
  obtain ⟨t, ht, rfl⟩ := z_for (o := z_F (e + 2)) (cd := cd_Model_replyTo) (P := fun i s => s = (5, [some (.ref 45), some (.int (Int32.ofInt (x : Int))), some (.int (Int32.ofInt (G_w g x i : Nat))), some (.int (Int32.ofInt ((i : Int) + 1)))], (n, z_q im, jM w, jL u))) 9 (s := (5, [some (.ref 45), some (.int (Int32.ofInt (x : Int))), some (.int (Int32.ofInt 0)), some (.int (Int32.ofInt 1))], (n, z_q im, jM w, jL u))) rfl (fun i s hi hs => by
    subst hs
    have hwb := G_w_b g x i
    refine ⟨(5, [some (.ref 45), some (.int (Int32.ofInt (x : Int))), some (.int (Int32.ofInt (G_w g x (i + 1) : Nat))), some (.int (Int32.ofInt ((i : Int) + 1 + 1)))], (n, z_q im, jM w, jL u)), z_To_1 ((e_Model_replyTo_5 ..).trans ?_), rfl⟩
    have h1 := s_at_m (e := e) (n := n) (im := im) (u := u) hg hx (show i + 1 < 10 by omega)
    have h2 := s_at_m (e := e) (n := n) (im := im) (u := u) hg hx (show G_w g x i < 10 by omega)
    rw [ic] at h1
    have b1 := hb x (i + 1)
    have b2 := hb x (G_w g x i)
    rw [h1, z_oI_s, h2, z_oI_s]
    simp (disch := omega) only [ji_le, ji_add]
    rw [if_neg (by omega)]
    simp only [G_w]
    by_cases h : g x (i + 1) < g x (G_w g x i)
    · rw [if_neg (by omega), if_pos h]
      rfl
    · rw [if_pos (by omega), if_neg h])
  refine n_Model_replyTo (z_go (e_Model_replyTo_0 ..) (ht _ (z_ret ((e_Model_replyTo_5 ..).trans ?_))))
  simp (disch := omega) only [ji_le]
  rw [if_pos (by decide)]
theorem s_bc_m {e n : Nat} {im : Nat → Option Nat} {w u : Nat → Nat → Int} {g : Nat → Nat → Int} (hg : ∀ m, m < 100 → w 52 m = g (m / 10) (m % 10)) (hb : g_b g) {y : Nat} (hy : y < 10) : (z_F (e + 3)).1 k_Model_bestTo [.ref 45, .int (Int32.ofInt (y : Int))] (n, z_q im, jM w, jL u) = some (Int32.ofInt (G_b g y 9 : Nat), jM w, jL u) := by
  obtain ⟨t, ht, rfl⟩ := z_for (o := z_F (e + 2)) (cd := cd_Model_bestTo) (P := fun i s => s = (5, [some (.ref 45), some (.int (Int32.ofInt (y : Int))), some (.int (Int32.ofInt (G_b g y i : Nat))), some (.int (Int32.ofInt ((i : Int) + 1)))], (n, z_q im, jM w, jL u))) 9 (s := (5, [some (.ref 45), some (.int (Int32.ofInt (y : Int))), some (.int (Int32.ofInt 0)), some (.int (Int32.ofInt 1))], (n, z_q im, jM w, jL u))) rfl (fun i s hi hs => by
    subst hs
    have hwb := G_b_b g y i
    refine ⟨(5, [some (.ref 45), some (.int (Int32.ofInt (y : Int))), some (.int (Int32.ofInt (G_b g y (i + 1) : Nat))), some (.int (Int32.ofInt ((i : Int) + 1 + 1)))], (n, z_q im, jM w, jL u)), z_To_1 ((e_Model_bestTo_5 ..).trans ?_), rfl⟩
    have h1 := s_at_m (e := e) (n := n) (im := im) (u := u) hg (show i + 1 < 10 by omega) hy
    have h2 := s_at_m (e := e) (n := n) (im := im) (u := u) hg (show G_b g y i < 10 by omega) hy
    rw [ic] at h1
    have b1 := hb (i + 1) y
    have b2 := hb (G_b g y i) y
    rw [h1, z_oI_s, h2, z_oI_s]
    simp (disch := omega) only [ji_le, ji_add]
    rw [if_neg (by omega)]
    simp only [G_b]
    by_cases h : g (G_b g y i) y < g (i + 1) y
    · rw [if_neg (by omega), if_pos h]
      rfl
    · rw [if_pos (by omega), if_neg h])
  refine n_Model_bestTo (z_go (e_Model_bestTo_0 ..) (ht _ (z_ret ((e_Model_bestTo_5 ..).trans ?_))))
  simp (disch := omega) only [ji_le]
  rw [if_pos (by decide)]
theorem s_lo_m {e n : Nat} {im : Nat → Option Nat} {w u : Nat → Nat → Int} {g : Nat → Nat → Int} (hg : ∀ m, m < 100 → w 52 m = g (m / 10) (m % 10)) {x : Nat} (hx : x < 10) : (z_F (e + 2)).1 k_Model_gameOf [.ref 45, .int (Int32.ofInt (x : Int)), .int (Int32.ofInt (G_w g x 9 : Nat))] (n, z_q im, jM w, jL u) = some (Int32.ofInt (G_lo g x), jM w, jL u) := s_at_m hg hx (by have := G_w_b g x 9; omega)
theorem s_hi_m {e n : Nat} {im : Nat → Option Nat} {w u : Nat → Nat → Int} {g : Nat → Nat → Int} (hg : ∀ m, m < 100 → w 52 m = g (m / 10) (m % 10)) {y : Nat} (hy : y < 10) : (z_F (e + 2)).1 k_Model_gameOf [.ref 45, .int (Int32.ofInt (G_b g y 9 : Nat)), .int (Int32.ofInt (y : Int))] (n, z_q im, jM w, jL u) = some (Int32.ofInt (G_hi g y), jM w, jL u) := s_at_m hg (by have := G_b_b g y 9; omega) hy
theorem s_rs_m {e n : Nat} {im : Nat → Option Nat} {w u : Nat → Nat → Int} {g : Nat → Nat → Int} (hg : ∀ m, m < 100 → w 52 m = g (m / 10) (m % 10)) (hb : g_b g) {x y : Nat} (hx : x < 10) (hy : y < 10) : (z_F (e + 4)).1 k_Model_isRest [.ref 45, .int (Int32.ofInt (x : Int)), .int (Int32.ofInt (y : Int))] (n, z_q im, jM w, jL u) = some (Int32.ofInt (if G_rs g x y then 1 else 0), jM w, jL u) := by
  have b1 := hb x y
  have b2 : -1000 ≤ G_hi g y ∧ G_hi g y ≤ 1000 := hb _ _
  have b3 : -1000 ≤ G_lo g x ∧ G_lo g x ≤ 1000 := hb _ _
  refine q_Model_isRest ?_
  rw [s_at_m hg hx hy, z_oI_s]
  rw [s_wr_m hg hb hx, z_oI_s, s_lo_m hg hx, z_oI_s]
  by_cases h1 : g x y = G_lo g x
  · rw [if_pos (ji_eq_p (by omega) (by omega) h1), s_at_m hg hx hy, z_oI_s, s_bc_m hg hb hy, z_oI_s, s_hi_m hg hy, z_oI_s]
    by_cases h2 : g x y = G_hi g y
    · rw [if_pos (ji_eq_p (by omega) (by omega) h2), if_pos ⟨h2, h1⟩]
    · rw [if_neg (ji_eq_n (by omega) (by omega) h2), if_neg (fun q => h2 q.1)]
  · rw [if_neg (ji_eq_n (by omega) (by omega) h1), if_neg (fun q => h1 q.2)]
theorem s_bt_m {e n : Nat} {im : Nat → Option Nat} {w u : Nat → Nat → Int} {g : Nat → Nat → Int} (hg : ∀ m, m < 100 → w 52 m = g (m / 10) (m % 10)) (hb : g_b g) {x o : Nat} (hx : x < 10) (ho : o < 10) : (G_nb g x o 10 ∧ G_wo g x o 10 → (z_F (e + 4)).1 k_Model_isVain [.ref 45, .int (Int32.ofInt (x : Int)), .int (Int32.ofInt (o : Int))] (n, z_q im, jM w, jL u) = some (Int32.ofInt 1, jM w, jL u)) ∧ (¬ (G_nb g x o 10 ∧ G_wo g x o 10) → (z_F (e + 4)).1 k_Model_isVain [.ref 45, .int (Int32.ofInt (x : Int)), .int (Int32.ofInt (o : Int))] (n, z_q im, jM w, jL u) = some (Int32.ofInt 0, jM w, jL u)) := by
  have key := z_forx (o := z_F (e + 3)) (cd := cd_Model_isVain) (P := fun k s => G_nb g x o k ∧ ((G_wo g x o k ∧ s = (5, [some (.ref 45), some (.int (Int32.ofInt (x : Int))), some (.int (Int32.ofInt (o : Int))), some (.int (Int32.ofInt 1)), some (.int (Int32.ofInt (k : Int)))], (n, z_q im, jM w, jL u))) ∨ (¬ G_wo g x o k ∧ s = (5, [some (.ref 45), some (.int (Int32.ofInt (x : Int))), some (.int (Int32.ofInt (o : Int))), some (.int (Int32.ofInt 0)), some (.int (Int32.ofInt (k : Int)))], (n, z_q im, jM w, jL u))))) (Q := fun r => (G_nb g x o 10 ∧ G_wo g x o 10 ∧ r = (some (.int (Int32.ofInt 1)), (n, z_q im, jM w, jL u))) ∨ (¬ (G_nb g x o 10 ∧ G_wo g x o 10) ∧ r = (some (.int (Int32.ofInt 0)), (n, z_q im, jM w, jL u)))) 10 (s := (5, [some (.ref 45), some (.int (Int32.ofInt (x : Int))), some (.int (Int32.ofInt (o : Int))), some (.int (Int32.ofInt 0)), some (.int (Int32.ofInt 0))], (n, z_q im, jM w, jL u))) ⟨fun y hy => absurd hy (by omega), Or.inr ⟨fun q => by obtain ⟨y, hy, -⟩ := q; omega, rfl⟩⟩ (fun k s hk hP => by
    obtain ⟨hnb, hP⟩ := hP
    have b1 := hb x k
    have b2 := hb o k
    have h1 := s_at_m (e := e + 1) (n := n) (im := im) (u := u) hg hx hk
    have h2 := s_at_m (e := e + 1) (n := n) (im := im) (u := u) hg ho hk
    have hnb2 : g x k ≤ g o k → G_nb g x o (k + 1) := fun hle y hy => by
      by_cases hyk : y = k
      · rw [hyk]; exact hle
      · exact hnb y (by omega)
    rcases hP with ⟨hwo, rfl⟩ | ⟨hwo, rfl⟩
    · have hx9 : z_ex none (z_F (e + 3)) cd_Model_isVain 4000 (cd_Model_isVain.drop 5) 5 [some (.ref 45), some (.int (Int32.ofInt (x : Int))), some (.int (Int32.ofInt (o : Int))), some (.int (Int32.ofInt 1)), some (.int (Int32.ofInt (k : Int)))] [] (n, z_q im, jM w, jL u) = if g x k ≤ g o k then some (.inr (5, [some (.ref 45), some (.int (Int32.ofInt (x : Int))), some (.int (Int32.ofInt (o : Int))), some (.int (Int32.ofInt 1)), some (.int (Int32.ofInt ((k : Int) + 1)))], [], (n, z_q im, jM w, jL u))) else some (.inl (some (.int (Int32.ofInt 0)), (n, z_q im, jM w, jL u))) := by
        refine (e_Model_isVain_5 ..).trans ?_
        rw [h1, z_oI_s, h2, z_oI_s, if_neg (ji_le_n (by omega) (by omega) (by omega)), if_neg (show ¬ Int32.ofInt 1 = 0 by decide)]
        simp (disch := omega) only [ji_le, ji_add]
      by_cases hle : g x k ≤ g o k
      · obtain ⟨y, hy1, hy2⟩ := hwo
        exact Or.inl ⟨(5, [some (.ref 45), some (.int (Int32.ofInt (x : Int))), some (.int (Int32.ofInt (o : Int))), some (.int (Int32.ofInt 1)), some (.int (Int32.ofInt ((k : Int) + 1)))], (n, z_q im, jM w, jL u)), z_To_1 (hx9.trans (if_pos hle)), hnb2 hle, Or.inl ⟨⟨y, by omega, hy2⟩, rfl⟩⟩
      · exact Or.inr ⟨_, z_ret (hx9.trans (if_neg hle)), Or.inr ⟨fun q => hle (q.1 k hk), rfl⟩⟩
    · have hx9 : z_ex none (z_F (e + 3)) cd_Model_isVain 4000 (cd_Model_isVain.drop 5) 5 [some (.ref 45), some (.int (Int32.ofInt (x : Int))), some (.int (Int32.ofInt (o : Int))), some (.int (Int32.ofInt 0)), some (.int (Int32.ofInt (k : Int)))] [] (n, z_q im, jM w, jL u) = if g x k ≤ g o k then (if g o k ≤ g x k then some (.inr (5, [some (.ref 45), some (.int (Int32.ofInt (x : Int))), some (.int (Int32.ofInt (o : Int))), some (.int (Int32.ofInt 0)), some (.int (Int32.ofInt ((k : Int) + 1)))], [], (n, z_q im, jM w, jL u))) else some (.inr (5, [some (.ref 45), some (.int (Int32.ofInt (x : Int))), some (.int (Int32.ofInt (o : Int))), some (.int (Int32.ofInt 1)), some (.int (Int32.ofInt ((k : Int) + 1)))], [], (n, z_q im, jM w, jL u)))) else some (.inl (some (.int (Int32.ofInt 0)), (n, z_q im, jM w, jL u))) := by
        refine (e_Model_isVain_5 ..).trans ?_
        rw [h1, z_oI_s, h2, z_oI_s, if_neg (ji_le_n (by omega) (by omega) (by omega)), if_pos (show Int32.ofInt 0 = 0 from rfl)]
        simp (disch := omega) only [ji_le, ji_add, h1, h2, z_oI_s]
      by_cases hle : g x k ≤ g o k
      · by_cases hge : g o k ≤ g x k
        · exact Or.inl ⟨(5, [some (.ref 45), some (.int (Int32.ofInt (x : Int))), some (.int (Int32.ofInt (o : Int))), some (.int (Int32.ofInt 0)), some (.int (Int32.ofInt ((k : Int) + 1)))], (n, z_q im, jM w, jL u)), z_To_1 (hx9.trans (by rw [if_pos hle, if_pos hge])), hnb2 hle, Or.inr ⟨fun q => by
            obtain ⟨y, hy1, hy2⟩ := q
            by_cases hyk : y = k
            · subst hyk; omega
            · exact hwo ⟨y, by omega, hy2⟩, rfl⟩⟩
        · exact Or.inl ⟨(5, [some (.ref 45), some (.int (Int32.ofInt (x : Int))), some (.int (Int32.ofInt (o : Int))), some (.int (Int32.ofInt 1)), some (.int (Int32.ofInt ((k : Int) + 1)))], (n, z_q im, jM w, jL u)), z_To_1 (hx9.trans (by rw [if_pos hle, if_neg hge])), hnb2 hle, Or.inl ⟨⟨k, by omega, by omega⟩, rfl⟩⟩
      · exact Or.inr ⟨_, z_ret (hx9.trans (if_neg hle)), Or.inr ⟨fun q => hle (q.1 k hk), rfl⟩⟩) (fun s hP => by
    obtain ⟨hnb, hP⟩ := hP
    rcases hP with ⟨hwo, rfl⟩ | ⟨hwo, rfl⟩
    · refine ⟨(some (.int (Int32.ofInt 1)), (n, z_q im, jM w, jL u)), z_ret ((e_Model_isVain_5 ..).trans ?_), Or.inl ⟨hnb, hwo, rfl⟩⟩
      rw [if_pos (ji_le_p (by decide) (by decide) (by decide)), if_pos (show Int32.ofInt 1 = 0 ∨ Int32.ofInt 1 = 1 from Or.inr rfl)]
    · refine ⟨(some (.int (Int32.ofInt 0)), (n, z_q im, jM w, jL u)), z_ret ((e_Model_isVain_5 ..).trans ?_), Or.inr ⟨fun q => hwo q.2, rfl⟩⟩
      rw [if_pos (ji_le_p (by decide) (by decide) (by decide)), if_pos (show Int32.ofInt 0 = 0 ∨ Int32.ofInt 0 = 1 from Or.inl rfl)])
  obtain ⟨r, k1, k2⟩ := key
  have hgo := z_go (e_Model_isVain_0 (z_F (e + 3)) n im (jM w, jL u) (Int32.ofInt (x : Int)) (Int32.ofInt (o : Int))) k1
  constructor
  · intro h
    rcases k2 with ⟨-, -, rfl⟩ | ⟨h2, -⟩
    · exact n_Model_isVain hgo
    · exact absurd h h2
  · intro h
    rcases k2 with ⟨h1, h2, -⟩ | ⟨-, rfl⟩
    · exact absurd ⟨h1, h2⟩ h
    · exact n_Model_isVain hgo
