/-! the second row in all its orders: sums -/
def b_has (m k : Nat) : Bool := decide (m / 2 ^ k % 2 = 1)
def k_del (m k : Nat) : Nat := m - 2 ^ k
def b_pc (m : Nat) : Nat := m % 2 + m / 2 % 2 + m / 4 % 2 + m / 8 % 2 + m / 16 % 2
def s_n (t : Nat → Int) : Nat → Int
  | 0 => 0
  | k + 1 => s_n t k + t k
def sm : List Int → Int
  | [] => 0
  | x :: l => x + sm l
def Or : Nat → Nat → List (List Nat)
  | 0, _ => [[]]
  | g + 1, m => (List.range 5).flatMap (fun k => if b_has m k then (Or g (k_del m k)).map (fun l => k :: l) else [])
theorem sm_ap : ∀ l l' : List Int, sm (l ++ l') = sm l + sm l'
  | [], l' => (Int.zero_add _).symm
  | x :: l, l' => by
    show x + sm (l ++ l') = x + sm l + sm l'
    rw [sm_ap l l', Int.add_assoc]
theorem sm_0 {α : Type} (φ : α → Int) (h : ∀ x, φ x = 0) : ∀ l : List α, sm (l.map φ) = 0
  | [] => rfl
  | x :: l => by
    show φ x + sm (l.map φ) = 0
    rw [h x, sm_0 φ h l]
    rfl
theorem sm_cg {α : Type} {φ ψ : α → Int} : ∀ l : List α, (∀ x, x ∈ l → φ x = ψ x) → sm (l.map φ) = sm (l.map ψ)
  | [], _ => rfl
  | x :: l, h => by
    show φ x + sm (l.map φ) = ψ x + sm (l.map ψ)
    rw [h x (List.mem_cons_self ..), sm_cg l (fun y hy => h y (List.mem_cons_of_mem _ hy))]
theorem sm_mm {α β : Type} (φ : β → Int) (g : α → β) : ∀ l : List α, sm ((l.map g).map φ) = sm (l.map (fun x => φ (g x)))
  | [] => rfl
  | x :: l => by
    show φ (g x) + sm ((l.map g).map φ) = φ (g x) + sm (l.map (fun x => φ (g x)))
    rw [sm_mm φ g l]
theorem sm_pm {l l' : List Int} (h : l.Perm l') : sm l = sm l' := by
  induction h with
  | nil => rfl
  | cons x _ ih => show x + sm _ = x + sm _; rw [ih]
  | swap x y l => show y + (x + sm l) = x + (y + sm l); omega
  | trans _ _ i1 i2 => exact i1.trans i2
theorem sm_fm {α β : Type} (φ : β → Int) (h : α → List β) : ∀ l : List α, sm ((l.flatMap h).map φ) = sm (l.map (fun x => sm ((h x).map φ)))
  | [] => rfl
  | x :: l => by
    rw [List.flatMap_cons, List.map_append, sm_ap, sm_fm φ h l]
    rfl
theorem sm_rg (t : Nat → Int) : ∀ k, sm ((List.range k).map t) = s_n t k
  | 0 => rfl
  | k + 1 => by
    rw [List.range_succ, List.map_append, sm_ap, sm_rg t k]
    show s_n t k + (t k + 0) = s_n t k + t k
    omega
theorem s_n_cg {t t' : Nat → Int} : ∀ k, (∀ j, j < k → t j = t' j) → s_n t k = s_n t' k
  | 0, _ => rfl
  | k + 1, h => by
    show s_n t k + t k = s_n t' k + t' k
    rw [s_n_cg k (fun j hj => h j (by omega)), h k (by omega)]
theorem s_n_z {t : Nat → Int} {m : Nat} : ∀ k, (∀ j, m ≤ j → t j = 0) → s_n t (m + k) = s_n t m
  | 0, _ => rfl
  | k + 1, h => by
    show s_n t (m + k) + t (m + k) = s_n t m
    rw [s_n_z k h, h (m + k) (by omega), Int.add_zero]
/-- what becomes of the first row, if the foes come so -/
def K_r (v : Nat → Int) (bo ot : Int) (G : Nat → Int) (n1 : Nat) : Nat → Nat → Int → Int → Int → List Int → Int
  | 0, _, _, _, _, _ => 0
  | f + 1, i, a, x, b, l => if n1 ≤ i then 0 else if x = -1 then (match l with | [] => 1 | y :: l' => K_r v bo ot G n1 f i a y 0 l') else if (B_o v 0 0 (G i) x bo ot a b).1 = 1 then K_r v bo ot G n1 f (i + 1) 0 x (b + ((B_o v 0 0 (G i) x bo ot a b).2.1 : Int)) l else if (B_o v 0 0 (G i) x bo ot a b).1 = 2 then K_r v bo ot G n1 f i (a + ((B_o v 0 0 (G i) x bo ot a b).2.1 : Int)) (-1) 0 l else K_r v bo ot G n1 f (i + 1) 0 (-1) 0 l
def K_b (v : Nat → Int) (bo ot : Int) (G : Nat → Int) (n1 : Nat) (S : Nat → Int) : Nat → Nat → Int → Nat → Int → Int → Int
  | 0, _, _, _, _, _ => 0
  | f + 1, i, a, m, x, b => if n1 ≤ i then 0 else if x = -1 then (if m = 0 then 1 else s_n (fun k => if b_has m k then K_b v bo ot G n1 S f i a (k_del m k) (S k) 0 else 0) 5) else if (B_o v 0 0 (G i) x bo ot a b).1 = 1 then K_b v bo ot G n1 S f (i + 1) 0 m x (b + ((B_o v 0 0 (G i) x bo ot a b).2.1 : Int)) else if (B_o v 0 0 (G i) x bo ot a b).1 = 2 then K_b v bo ot G n1 S f i (a + ((B_o v 0 0 (G i) x bo ot a b).2.1 : Int)) m (-1) 0 else K_b v bo ot G n1 S f (i + 1) 0 m (-1) 0
theorem b_fa : ∀ m, m < 32 → (b_pc m = 0 → m = 0) ∧ ∀ k, k < 5 → b_has m k = true → b_pc m = b_pc (k_del m k) + 1 ∧ k_del m k < 32 := by decide +kernel
theorem B_eq {v : Nat → Int} {bo ot : Int} {G : Nat → Int} {n1 : Nat} {S : Nat → Int} : ∀ (f : Nat) (i : Nat) (a : Int) (m : Nat) (x b : Int), m < 32 → K_b v bo ot G n1 S f i a m x b = sm ((Or (b_pc m) m).map (fun l => K_r v bo ot G n1 f i a x b (l.map S)))
  | 0, i, a, m, x, b, _ => (sm_0 _ (fun _ => rfl) _).symm
  | f + 1, i, a, m, x, b, hm => by
    simp only [K_b]
    by_cases h1 : n1 ≤ i
    · rw [if_pos h1]
      exact (sm_0 _ (fun l => by simp only [K_r]; rw [if_pos h1]) _).symm
    · rw [if_neg h1]
      by_cases h2 : x = -1
      · rw [if_pos h2]
        by_cases h3 : m = 0
        · rw [if_pos h3, h3]
          show (1 : Int) = K_r v bo ot G n1 (f + 1) i a x b [] + 0
          simp only [K_r]
          rw [if_neg h1, if_pos h2]
          rfl
        · rw [if_neg h3]
          obtain ⟨g, hg⟩ : ∃ g, b_pc m = g + 1 := ⟨b_pc m - 1, by
            have := (b_fa m hm).1
            by_cases q : b_pc m = 0
            · exact absurd (this q) h3
            · omega⟩
          rw [hg]
          simp only [Or]
          rw [sm_fm, sm_rg]
          refine s_n_cg 5 (fun k hk => ?_)
          by_cases hb : b_has m k = true
          · obtain ⟨q1, q2⟩ := (b_fa m hm).2 k hk hb
            rw [if_pos hb, if_pos hb, B_eq f i a (k_del m k) (S k) 0 q2, sm_mm, show b_pc (k_del m k) = g by omega]
            refine sm_cg _ (fun l _ => ?_)
            simp only [K_r, List.map_cons]
            rw [if_neg h1, if_pos h2]
          · rw [if_neg hb, if_neg hb]
            rfl
      · rw [if_neg h2]
        by_cases h3 : (B_o v 0 0 (G i) x bo ot a b).1 = 1
        · rw [if_pos h3, B_eq f _ _ m _ _ hm]
          refine sm_cg _ (fun l _ => ?_)
          simp only [K_r]
          rw [if_neg h1, if_neg h2, if_pos h3]
        · rw [if_neg h3]
          by_cases h4 : (B_o v 0 0 (G i) x bo ot a b).1 = 2
          · rw [if_pos h4, B_eq f _ _ m _ _ hm]
            refine sm_cg _ (fun l _ => ?_)
            simp only [K_r]
            rw [if_neg h1, if_neg h2, if_neg h3, if_pos h4]
          · rw [if_neg h4, B_eq f _ _ m _ _ hm]
            refine sm_cg _ (fun l _ => ?_)
            simp only [K_r]
            rw [if_neg h1, if_neg h2, if_neg h3, if_neg h4]
/-- the row from its k-th on -/
def rl (X : Nat → Int) : Nat → Nat → List Int
  | _, 0 => []
  | k, c + 1 => X k :: rl X (k + 1) c
def M_w (n1 : Nat) (T : zT) : Int := if T.1 < n1 then 1 else 0
theorem M_f_st {v : Nat → Int} {dr bo ot : Int} {F S : Nat → Int} {n1 n2 : Nat} {T : zT} (h : ¬ (T.1 < n1 ∧ T.2.1 < n2)) : ∀ m, M_f v dr bo ot F S n1 n2 m T = T
  | 0 => rfl
  | m + 1 => by simp only [M_f]; rw [if_neg h]
theorem R_M {v : Nat → Int} {bo ot : Int} {G X : Nat → Int} {n1 n2 : Nat} (hR : R_ok v G X n1 n2) (hG : ∀ i j, i < j → j < n1 → G i ≠ G j) (hX : ∀ i j, i < j → j < n2 → X i ≠ X j) : ∀ (f : Nat) (T : zT) (m : Nat) (a b : Int), T.2.1 ≤ n2 → n1 + n2 ≤ T.1 + T.2.1 + m → (T.1 < n1 → T.2.2.1 (G T.1).toNat = a) → (∀ j, T.1 < j → j < n1 → T.2.2.1 (G j).toNat = 0) → (∀ j, T.2.1 < j → j < n2 → T.2.2.1 (X j).toNat = 0) → ((T.2.1 < n2 → T.2.2.1 (X T.2.1).toNat = 0) → n1 - T.1 + 2 * (n2 - T.2.1) + 1 ≤ f → K_r v bo ot G n1 f T.1 a (-1) 0 (rl X T.2.1 (n2 - T.2.1)) = M_w n1 (M_f v 0 bo ot G X n1 n2 m T)) ∧ (T.2.1 < n2 → T.2.2.1 (X T.2.1).toNat = b → n1 - T.1 + 2 * (n2 - T.2.1) ≤ f → K_r v bo ot G n1 f T.1 a (X T.2.1) b (rl X (T.2.1 + 1) (n2 - T.2.1 - 1)) = M_w n1 (M_f v 0 bo ot G X n1 n2 m T))
  | 0, T, m, a, b, hk, hm, h1, h2, h3 => ⟨fun _ q => by omega, fun _ _ q => by omega⟩
  | f + 1, T, m, a, b, hk, hm, h1, h2, h3 => by
    have ih := R_M (bo := bo) (ot := ot) hR hG hX f
    refine ⟨fun h4 hf => ?_, fun h4 h5 hf => ?_⟩
    · simp only [K_r]
      by_cases hi : n1 ≤ T.1
      · rw [if_pos hi, M_f_st (by omega)]
        exact (if_neg (by omega)).symm
      · rw [if_neg hi, if_pos trivial]
        by_cases hk2 : T.2.1 < n2
        · rw [show n2 - T.2.1 = (n2 - T.2.1 - 1) + 1 by omega]
          show K_r v bo ot G n1 f T.1 a (X T.2.1) 0 (rl X (T.2.1 + 1) (n2 - T.2.1 - 1)) = _
          exact (ih T m a 0 hk hm h1 h2 h3).2 hk2 (h4 hk2) (by omega)
        · rw [show n2 - T.2.1 = 0 by omega, M_f_st (by omega)]
          exact (if_pos (show T.1 < n1 by omega)).symm
    · simp only [K_r]
      by_cases hi : n1 ≤ T.1
      · rw [if_pos hi, M_f_st (by omega)]
        exact (if_neg (by omega)).symm
      · have xk := hR.2.2.1 T.2.1 h4
        have gi := hR.2.1 T.1 (by omega)
        rw [if_neg hi, if_neg (show ¬ X T.2.1 = -1 by omega)]
        obtain ⟨m', rfl⟩ : ∃ m', m = m' + 1 := ⟨m - 1, by omega⟩
        have hMf : M_f v 0 bo ot G X n1 n2 (m' + 1) T = M_f v 0 bo ot G X n1 n2 m' (M_s v 0 bo ot G X T) := by
          simp only [M_f]; rw [if_pos ⟨by omega, h4⟩]
        rw [hMf]
        have ha := h1 (by omega)
        have hB : B_o v 0 0 (G T.1) (X T.2.1) bo ot a b = M_B v 0 bo ot G X T := by
          unfold M_B
          rw [B_o_x v T.2.2.2.1, ha, h5]
        rw [hB]
        have hne := hR.2.2.2 T.1 T.2.1 (by omega) h4
        have gin := fun j (hj1 : T.1 < j) (hj : j < n1) => (⟨hR.2.1 j hj, hG T.1 j hj1 hj, hR.2.2.2 j T.2.1 hj h4⟩ : (0 ≤ G j ∧ G j < v 7) ∧ G T.1 ≠ G j ∧ G j ≠ X T.2.1)
        have xin := fun j (hj1 : T.2.1 < j) (hj : j < n2) => (⟨hR.2.2.1 j hj, hX T.2.1 j hj1 hj, hR.2.2.2 T.1 j (by omega) hj⟩ : (0 ≤ X j ∧ X j < v 7) ∧ X T.2.1 ≠ X j ∧ G T.1 ≠ X j)
        generalize hr : M_B v 0 bo ot G X T = r
        have e1 : (M_s v 0 bo ot G X T).1 = if r.1 = 2 then T.1 else T.1 + 1 := by rw [← hr]; rfl
        have e2 : (M_s v 0 bo ot G X T).2.1 = if r.1 = 1 then T.2.1 else T.2.1 + 1 := by rw [← hr]; rfl
        have e3 : (M_s v 0 bo ot G X T).2.2.1 = a_up (a_up T.2.2.1 (G T.1).toNat (a + (r.2.1 : Int))) (X T.2.1).toNat (b + (r.2.1 : Int)) := by rw [← hr, ← ha, ← h5]; rfl
        have u1 : a_up (a_up T.2.2.1 (G T.1).toNat (a + (r.2.1 : Int))) (X T.2.1).toNat (b + (r.2.1 : Int)) (G T.1).toNat = a + (r.2.1 : Int) := by
          rw [a_up_ne (by omega)]; unfold a_up; rw [if_pos rfl]
        have u2 : a_up (a_up T.2.2.1 (G T.1).toNat (a + (r.2.1 : Int))) (X T.2.1).toNat (b + (r.2.1 : Int)) (X T.2.1).toNat = b + (r.2.1 : Int) := by
          unfold a_up; rw [if_pos rfl]
        have u3 : ∀ j, T.1 < j → j < n1 → a_up (a_up T.2.2.1 (G T.1).toNat (a + (r.2.1 : Int))) (X T.2.1).toNat (b + (r.2.1 : Int)) (G j).toNat = 0 := fun j q1 q2 => by
          have := gin j q1 q2
          rw [a_up_ne (by omega), a_up_ne (by omega)]; exact h2 j q1 q2
        have u4 : ∀ j, T.2.1 < j → j < n2 → a_up (a_up T.2.2.1 (G T.1).toNat (a + (r.2.1 : Int))) (X T.2.1).toNat (b + (r.2.1 : Int)) (X j).toNat = 0 := fun j q1 q2 => by
          have := xin j q1 q2
          rw [a_up_ne (by omega), a_up_ne (by omega)]; exact h3 j q1 q2
        by_cases c1 : r.1 = 1
        · rw [if_pos c1]
          rw [if_neg (by omega)] at e1
          rw [if_pos c1] at e2
          have := (ih (M_s v 0 bo ot G X T) m' 0 (b + (r.2.1 : Int)) (by rw [e2]; exact hk) (by rw [e1, e2]; omega) (by rw [e1, e3]; exact fun q => u3 _ (by omega) q) (by rw [e1, e3]; exact fun j q1 q2 => u3 j (by omega) q2) (by rw [e2, e3]; exact u4)).2 (by rw [e2]; exact h4) (by rw [e2, e3]; exact u2) (by rw [e1, e2]; omega)
          rw [e1, e2] at this
          exact this
        · rw [if_neg c1]
          rw [if_neg c1] at e2
          by_cases c2 : r.1 = 2
          · rw [if_pos c2]
            rw [if_pos c2] at e1
            have := (ih (M_s v 0 bo ot G X T) m' (a + (r.2.1 : Int)) 0 (by rw [e2]; omega) (by rw [e1, e2]; omega) (by rw [e1, e3]; exact fun q => u1) (by rw [e1, e3]; exact u3) (by rw [e2, e3]; exact fun j q1 q2 => u4 j (by omega) q2)).1 (by rw [e2, e3]; exact fun q => u4 _ (by omega) q) (by rw [e1, e2]; omega)
            rw [e1, e2] at this
            rw [show n2 - T.2.1 - 1 = n2 - (T.2.1 + 1) by omega]
            exact this
          · rw [if_neg c2]
            rw [if_neg c2] at e1
            have := (ih (M_s v 0 bo ot G X T) m' 0 0 (by rw [e2]; omega) (by rw [e1, e2]; omega) (by rw [e1, e3]; exact fun q => u3 _ (by omega) q) (by rw [e1, e3]; exact fun j q1 q2 => u3 j (by omega) q2) (by rw [e2, e3]; exact fun j q1 q2 => u4 j (by omega) q2)).1 (by rw [e2, e3]; exact fun q => u4 _ (by omega) q) (by rw [e1, e2]; omega)
            rw [e1, e2] at this
            rw [show n2 - T.2.1 - 1 = n2 - (T.2.1 + 1) by omega]
            exact this
