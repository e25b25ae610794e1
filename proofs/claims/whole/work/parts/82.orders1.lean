/-! rows in all their orders -/
def a_sw (C : Nat → Int) (a b : Nat) : Nat → Int := a_up (a_up C a (C b)) b (C a)
def q_in : (Nat → Int) → Nat → (Nat → Int)
  | C, 0 => C
  | C, k + 1 => if C k ≤ C (k + 1) then C else q_in (a_sw C k (k + 1)) k
def q_so (C : Nat → Int) : Nat → (Nat → Int)
  | 0 => C
  | i + 1 => q_in (q_so C i) i
def q_pv (F : Nat → Int) : Nat → Int
  | 0 => -1
  | k + 1 => if F k ≤ F (k + 1) then (k : Int) else q_pv F k
def q_y (F : Nat → Int) (p : Nat) : Nat → Nat
  | 0 => 0
  | y + 1 => if F p ≤ F (y + 1) then y + 1 else q_y F p y
def q_rv : Nat → (Nat → Int) → Nat → Nat → (Nat → Int)
  | 0, F, _, _ => F
  | m + 1, F, a, b => if b ≤ a then F else q_rv m (a_sw F a b) (a + 1) (b - 1)
def q_nx (F : Nat → Int) (n : Nat) : Nat → Int := if q_pv F (n - 1) = -1 then F else q_rv 5 (a_sw F (q_pv F (n - 1)).toNat (q_y F (q_pv F (n - 1)).toNat (n - 1))) ((q_pv F (n - 1)).toNat + 1) (n - 1)
def q_it (n : Nat) (F : Nat → Int) : Nat → (Nat → Int)
  | 0 => F
  | k + 1 => q_nx (q_it n F k) n
theorem a_sw_at {C : Nat → Int} {a b j : Nat} : a_sw C a b j = if j = b then C a else if j = a then C b else C j := by
  unfold a_sw a_up
  rfl
theorem q_pv_b (F : Nat → Int) : ∀ k, q_pv F k = -1 ∨ (0 ≤ q_pv F k ∧ q_pv F k < k)
  | 0 => Or.inl rfl
  | k + 1 => by
    simp only [q_pv]
    have := q_pv_b F k
    split <;> omega
theorem q_y_b (F : Nat → Int) (p : Nat) : ∀ k, q_y F p k ≤ k
  | 0 => Nat.le_refl _
  | k + 1 => by
    simp only [q_y]
    have := q_y_b F p k
    split <;> omega
/-- made of the same men -/
def q_pm (n : Nat) (F G : Nat → Int) : Prop := (∀ j, j < n → ∃ i, i < n ∧ G j = F i) ∧ ((∀ i j, i < j → j < n → F i ≠ F j) → ∀ i j, i < j → j < n → G i ≠ G j)
theorem q_pm_rf (n : Nat) (F : Nat → Int) : q_pm n F F := ⟨fun j hj => ⟨j, hj, rfl⟩, id⟩
theorem q_pm_tr {n : Nat} {F G H : Nat → Int} (h1 : q_pm n F G) (h2 : q_pm n G H) : q_pm n F H := ⟨fun j hj => by
    obtain ⟨i, a1, a2⟩ := h2.1 j hj
    obtain ⟨k, b1, b2⟩ := h1.1 i a1
    exact ⟨k, b1, a2.trans b2⟩, fun h => h2.2 (h1.2 h)⟩
theorem q_pm_sw {n : Nat} {F : Nat → Int} {a b : Nat} (ha : a < n) (hb : b < n) : q_pm n F (a_sw F a b) := by
  refine ⟨fun j hj => ?_, fun h i j hi hj => ?_⟩
  · rw [a_sw_at]
    by_cases q1 : j = b
    · exact ⟨a, ha, by rw [if_pos q1]⟩
    · by_cases q2 : j = a
      · exact ⟨b, hb, by rw [if_neg q1, if_pos q2]⟩
      · exact ⟨j, hj, by rw [if_neg q1, if_neg q2]⟩
  · have h' : ∀ x y, x ≠ y → x < n → y < n → F x ≠ F y := fun x y q h1 h2 => by
      by_cases q2 : x < y
      · exact h x y q2 h2
      · exact fun q3 => h y x (by omega) h1 q3.symm
    rw [a_sw_at, a_sw_at]
    by_cases i1 : i = b
    · by_cases j1 : j = b
      · omega
      · rw [if_pos i1, if_neg j1]
        by_cases j2 : j = a
        · rw [if_pos j2]; exact h' _ _ (by omega) ha hb
        · rw [if_neg j2]; exact h' _ _ (by omega) ha hj
    · rw [if_neg i1]
      by_cases i2 : i = a
      · rw [if_pos i2]
        by_cases j1 : j = b
        · rw [if_pos j1]; exact h' _ _ (by omega) hb ha
        · rw [if_neg j1]
          by_cases j2 : j = a
          · omega
          · rw [if_neg j2]; exact h' _ _ (by omega) hb hj
      · rw [if_neg i2]
        by_cases j1 : j = b
        · rw [if_pos j1]; exact h' _ _ (by omega) (by omega) ha
        · rw [if_neg j1]
          by_cases j2 : j = a
          · rw [if_pos j2]; exact h' _ _ (by omega) (by omega) hb
          · rw [if_neg j2]; exact h' _ _ (by omega) (by omega) hj
theorem q_pm_in {n : Nat} : ∀ (k : Nat) (C : Nat → Int), k < n → q_pm n C (q_in C k)
  | 0, C, _ => q_pm_rf n C
  | k + 1, C, h => by
    simp only [q_in]
    split
    · exact q_pm_rf n C
    · exact q_pm_tr (q_pm_sw (by omega) h) (q_pm_in k _ (by omega))
theorem q_pm_so {n : Nat} {C : Nat → Int} : ∀ (k : Nat), k ≤ n → q_pm n C (q_so C k)
  | 0, _ => q_pm_rf n C
  | k + 1, h => q_pm_tr (q_pm_so k (by omega)) (q_pm_in k _ (by omega))
theorem q_pm_rv {n : Nat} : ∀ (m : Nat) (F : Nat → Int) (a b : Nat), b < n → q_pm n F (q_rv m F a b)
  | 0, F, _, _, _ => q_pm_rf n F
  | m + 1, F, a, b, h => by
    simp only [q_rv]
    split
    · exact q_pm_rf n F
    · exact q_pm_tr (q_pm_sw (by omega) h) (q_pm_rv m _ _ _ (by omega))
theorem q_pm_nx {n : Nat} (F : Nat → Int) (hn : 1 ≤ n) : q_pm n F (q_nx F n) := by
  unfold q_nx
  have h1 := q_pv_b F (n - 1)
  have h2 := q_y_b F (q_pv F (n - 1)).toNat (n - 1)
  split
  · exact q_pm_rf n F
  · exact q_pm_tr (q_pm_sw (by omega) (by omega)) (q_pm_rv 5 _ _ _ (by omega))
theorem q_pm_it {n : Nat} (F : Nat → Int) (hn : 1 ≤ n) : ∀ k, q_pm n F (q_it n F k)
  | 0 => q_pm_rf n F
  | k + 1 => q_pm_tr (q_pm_it F hn k) (q_pm_nx _ hn)
/-- sorted -/
theorem q_in_s {m : Nat} : ∀ (k : Nat) (C : Nat → Int), k ≤ m → (∀ a b, a < b → b ≤ m → a ≠ k → b ≠ k → C a ≤ C b) → (∀ b, k < b → b ≤ m → C k ≤ C b) → ∀ a b, a < b → b ≤ m → q_in C k a ≤ q_in C k b
  | 0, C, _, h1, h2, a, b, hab, hb => by
    simp only [q_in]
    by_cases q : a = 0
    · rw [q]; exact h2 b (by omega) hb
    · exact h1 a b hab hb q (by omega)
  | k + 1, C, hk, h1, h2, a, b, hab, hb => by
    simp only [q_in]
    by_cases q : C k ≤ C (k + 1)
    · rw [if_pos q]
      by_cases qa : a = k + 1
      · rw [qa]; exact h2 b (by omega) hb
      · by_cases qb : b = k + 1
        · rw [qb]
          by_cases qk : a = k
          · rw [qk]; exact q
          · exact Int.le_trans (h1 a k (by omega) (by omega) qa (by omega)) q
        · exact h1 a b hab hb qa qb
    · rw [if_neg q]
      refine q_in_s k _ (by omega) (fun a b hab hb ha hb2 => ?_) (fun b hb1 hb2 => ?_) a b hab hb
      · rw [a_sw_at, a_sw_at]
        by_cases qa : a = k + 1
        · rw [if_pos qa, if_neg (by omega), if_neg hb2]
          exact h1 k b (by omega) hb (by omega) (by omega)
        · rw [if_neg qa, if_neg ha]
          by_cases qb : b = k + 1
          · rw [if_pos qb]; exact h1 a k (by omega) (by omega) qa (by omega)
          · rw [if_neg qb, if_neg hb2]; exact h1 a b hab hb qa qb
      · rw [a_sw_at, a_sw_at, if_neg (by omega), if_pos rfl]
        by_cases qb : b = k + 1
        · rw [if_pos qb]; omega
        · rw [if_neg qb, if_neg (by omega)]; exact h2 b (by omega) hb2
theorem q_so_s (C : Nat → Int) : ∀ (k a b : Nat), a < b → b < k → q_so C k a ≤ q_so C k b
  | 0, a, b, _, h => by omega
  | k + 1, a, b, hab, hb => q_in_s k (q_so C k) (Nat.le_refl k) (fun a b hab hb _ hb2 => q_so_s C k a b hab (by omega)) (fun b h1 h2 => by omega) a b hab (by omega)
/-- told apart alike -/
def q_rl (n : Nat) (F H : Nat → Int) : Prop := ∀ a b, a < n → b < n → (F a ≤ F b ↔ H a ≤ H b)
theorem q_rl_sw {n : Nat} {F H : Nat → Int} (h : q_rl n F H) {x y : Nat} (hx : x < n) (hy : y < n) : q_rl n (a_sw F x y) (a_sw H x y) := by
  intro a b ha hb
  have key : ∀ j, j < n → ∃ i, i < n ∧ a_sw F x y j = F i ∧ a_sw H x y j = H i := fun j hj => by
    rw [a_sw_at, a_sw_at]
    by_cases q1 : j = y
    · exact ⟨x, hx, by rw [if_pos q1], by rw [if_pos q1]⟩
    · by_cases q2 : j = x
      · exact ⟨y, hy, by rw [if_neg q1, if_pos q2], by rw [if_neg q1, if_pos q2]⟩
      · exact ⟨j, hj, by rw [if_neg q1, if_neg q2], by rw [if_neg q1, if_neg q2]⟩
  obtain ⟨i, i1, i2, i3⟩ := key a ha
  obtain ⟨k, k1, k2, k3⟩ := key b hb
  rw [i2, i3, k2, k3]
  exact h i k i1 k1
theorem q_rl_pv {n : Nat} {F H : Nat → Int} (h : q_rl n F H) : ∀ k, k < n → q_pv F k = q_pv H k
  | 0, _ => rfl
  | k + 1, hk => by
    simp only [q_pv]
    rw [q_rl_pv h k (by omega)]
    have := h k (k + 1) (by omega) hk
    by_cases q : F k ≤ F (k + 1)
    · rw [if_pos q, if_pos (this.mp q)]
    · rw [if_neg q, if_neg (fun z => q (this.mpr z))]
theorem q_rl_y {n : Nat} {F H : Nat → Int} (h : q_rl n F H) {p : Nat} (hp : p < n) : ∀ k, k < n → q_y F p k = q_y H p k
  | 0, _ => rfl
  | k + 1, hk => by
    simp only [q_y]
    rw [q_rl_y h hp k (by omega)]
    have := h p (k + 1) hp hk
    by_cases q : F p ≤ F (k + 1)
    · rw [if_pos q, if_pos (this.mp q)]
    · rw [if_neg q, if_neg (fun z => q (this.mpr z))]
theorem q_rl_rv {n : Nat} : ∀ (m : Nat) (F H : Nat → Int) (a b : Nat), b < n → q_rl n F H → q_rl n (q_rv m F a b) (q_rv m H a b)
  | 0, _, _, _, _, _, h => h
  | m + 1, F, H, a, b, hb, h => by
    simp only [q_rv]
    split
    · exact h
    · exact q_rl_rv m _ _ _ _ (by omega) (q_rl_sw h (by omega) hb)
theorem q_rl_nx {n : Nat} {F H : Nat → Int} (hn : 1 ≤ n) (h : q_rl n F H) : q_rl n (q_nx F n) (q_nx H n) := by
  have e1 := q_rl_pv h (n - 1) (by omega)
  have h1 := q_pv_b H (n - 1)
  have h2 := q_y_b H (q_pv H (n - 1)).toNat (n - 1)
  unfold q_nx
  rw [e1]
  by_cases q : q_pv H (n - 1) = -1
  · rw [if_pos q, if_pos q]; exact h
  · rw [if_neg q, if_neg q, q_rl_y h (show (q_pv H (n - 1)).toNat < n by omega) (n - 1) (by omega)]
    exact q_rl_rv 5 _ _ _ _ (by omega) (q_rl_sw h (by omega) (by omega))
def q_dc (c j : Nat) : Int := ((c / 10 ^ j % 10 : Nat) : Int)
def q_st (n c d : Nat) : Bool := decide (q_pv (q_dc c) (n - 1) ≠ -1) && (List.range n).all (fun j => decide (q_nx (q_dc c) n j = q_dc d j))
def q_ch (n : Nat) : List Nat → Bool
  | [] => false
  | [c] => decide (q_pv (q_dc c) (n - 1) = -1)
  | c :: d :: l => q_st n c d && q_ch n (d :: l)
theorem q_it_s (n : Nat) (F : Nat → Int) : ∀ k, q_it n F (k + 1) = q_it n (q_nx F n) k
  | 0 => rfl
  | k + 1 => by
    show q_nx (q_it n F (k + 1)) n = q_nx (q_it n (q_nx F n) k) n
    rw [q_it_s n F k]
theorem q_ch_ok {n : Nat} (hn : 1 ≤ n) : ∀ (l : List Nat) (F : Nat → Int), q_ch n l = true → (∀ c, l.head? = some c → q_rl n F (q_dc c)) → 1 ≤ l.length ∧ (∀ k, k + 1 < l.length → q_pv (q_it n F k) (n - 1) ≠ -1) ∧ q_pv (q_it n F (l.length - 1)) (n - 1) = -1
  | [], F, h, _ => by simp [q_ch] at h
  | [c], F, h, hr => by
    have h1 := of_decide_eq_true h
    have e := q_rl_pv (hr c rfl) (n - 1) (by omega)
    exact ⟨Nat.le_refl _, fun k hk => absurd hk (by simp), by show q_pv F (n - 1) = -1; rw [e]; exact h1⟩
  | c :: d :: l, F, h, hr => by
    simp only [q_ch, q_st, Bool.and_eq_true, decide_eq_true_eq, List.all_eq_true, List.mem_range] at h
    obtain ⟨⟨h1, h2⟩, h3⟩ := h
    have hrc := hr c rfl
    have e := q_rl_pv hrc (n - 1) (by omega)
    have hx := q_rl_nx hn hrc
    have ih := q_ch_ok hn (d :: l) (q_nx F n) h3 (fun c' hc' => by
      have : d = c' := by simpa using hc'
      subst this
      intro a b ha hb
      rw [← h2 a ha, ← h2 b hb]
      exact hx a b ha hb)
    obtain ⟨i1, i2, i3⟩ := ih
    refine ⟨by simp, fun k hk => ?_, ?_⟩
    · cases k with
      | zero => show q_pv F (n - 1) ≠ -1; rw [e]; exact h1
      | succ k => rw [q_it_s]; exact i2 k (by simp at hk ⊢; omega)
    · show q_pv (q_it n F ((d :: l).length)) (n - 1) = -1
      rw [show (d :: l).length = ((d :: l).length - 1) + 1 by simp, q_it_s]
      exact i3
def q_L (n : Nat) : List Nat := if n = 1 then [0] else if n = 2 then [10, 1] else if n = 3 then [210, 120, 201, 21, 102, 12] else if n = 4 then [3210, 2310, 3120, 1320, 2130, 1230, 3201, 2301, 3021, 321, 2031, 231, 3102, 1302, 3012, 312, 1032, 132, 2103, 1203, 2013, 213, 1023, 123] else [43210, 34210, 42310, 24310, 32410, 23410, 43120, 34120, 41320, 14320, 31420, 13420, 42130, 24130, 41230, 14230, 21430, 12430, 32140, 23140, 31240, 13240, 21340, 12340, 43201, 34201, 42301, 24301, 32401, 23401, 43021, 34021, 40321, 4321, 30421, 3421, 42031, 24031, 40231, 4231, 20431, 2431, 32041, 23041, 30241, 3241, 20341, 2341, 43102, 34102, 41302, 14302, 31402, 13402, 43012, 34012, 40312, 4312, 30412, 3412, 41032, 14032, 40132, 4132, 10432, 1432, 31042, 13042, 30142, 3142, 10342, 1342, 42103, 24103, 41203, 14203, 21403, 12403, 42013, 24013, 40213, 4213, 20413, 2413, 41023, 14023, 40123, 4123, 10423, 1423, 21043, 12043, 20143, 2143, 10243, 1243, 32104, 23104, 31204, 13204, 21304, 12304, 32014, 23014, 30214, 3214, 20314, 2314, 31024, 13024, 30124, 3124, 10324, 1324, 21034, 12034, 20134, 2134, 10234, 1234]
theorem q_L_1 : q_ch 1 (q_L 1) = true := by decide +kernel
theorem q_L_2 : q_ch 2 (q_L 2) = true := by decide +kernel
theorem q_L_3 : q_ch 3 (q_L 3) = true := by decide +kernel
theorem q_L_4 : q_ch 4 (q_L 4) = true := by decide +kernel
theorem q_L_5 : q_ch 5 (q_L 5) = true := by decide +kernel
def q_len (n : Nat) : Nat := (q_L n).length
theorem q_len_b {n : Nat} (h : 1 ≤ n ∧ n ≤ 5) : 1 ≤ q_len n ∧ q_len n ≤ 120 := by
  rcases (show n = 1 ∨ n = 2 ∨ n = 3 ∨ n = 4 ∨ n = 5 by omega) with rfl | rfl | rfl | rfl | rfl <;> decide +kernel
theorem q_hd {n : Nat} (h : 1 ≤ n ∧ n ≤ 5) {c : Nat} (hc : (q_L n).head? = some c) : ∀ j, j < n → q_dc c j = (j : Int) := by
  have key : ∀ m c, (q_L m).head? = some c → (List.range m).all (fun j => decide (q_dc c j = (j : Int))) = true → ∀ j, j < m → q_dc c j = (j : Int) := fun m c _ h j hj => by
    simp only [List.all_eq_true, List.mem_range, decide_eq_true_eq] at h
    exact h j hj
  rcases (show n = 1 ∨ n = 2 ∨ n = 3 ∨ n = 4 ∨ n = 5 by omega) with rfl | rfl | rfl | rfl | rfl
  · have : 0 = c := by simpa [q_L] using hc
    subst this; exact key 1 _ rfl (by decide +kernel)
  · have : 10 = c := by simpa [q_L] using hc
    subst this; exact key 2 _ rfl (by decide +kernel)
  · have : 210 = c := by simpa [q_L] using hc
    subst this; exact key 3 _ rfl (by decide +kernel)
  · have : 3210 = c := by simpa [q_L] using hc
    subst this; exact key 4 _ rfl (by decide +kernel)
  · have : 43210 = c := by simpa [q_L] using hc
    subst this; exact key 5 _ rfl (by decide +kernel)
theorem q_all {n : Nat} (hn : 1 ≤ n ∧ n ≤ 5) {F : Nat → Int} (hF : ∀ i j, i < j → j < n → F i ≠ F j) : (∀ k, k + 1 < q_len n → q_pv (q_it n (q_so F n) k) (n - 1) ≠ -1) ∧ q_pv (q_it n (q_so F n) (q_len n - 1)) (n - 1) = -1 := by
  have hd := (q_pm_so (C := F) n (Nat.le_refl n)).2 hF
  have hs : ∀ a b, a < b → b < n → q_so F n a < q_so F n b := fun a b h1 h2 => by
    have x1 := q_so_s F n a b h1 h2
    have x2 := hd a b h1 h2
    omega
  have hr : ∀ c, (q_L n).head? = some c → q_rl n (q_so F n) (q_dc c) := fun c hc a b ha hb => by
    rw [q_hd hn hc a ha, q_hd hn hc b hb]
    by_cases q : a = b
    · rw [q]; exact ⟨fun _ => Int.le_refl _, fun _ => Int.le_refl _⟩
    · by_cases q2 : a < b
      · have := hs a b q2 hb; omega
      · have := hs b a (by omega) ha; omega
  have hc : q_ch n (q_L n) = true := by
    rcases (show n = 1 ∨ n = 2 ∨ n = 3 ∨ n = 4 ∨ n = 5 by omega) with rfl | rfl | rfl | rfl | rfl
    · exact q_L_1
    · exact q_L_2
    · exact q_L_3
    · exact q_L_4
    · exact q_L_5
  exact (q_ch_ok hn.1 (q_L n) (q_so F n) hc hr).2
