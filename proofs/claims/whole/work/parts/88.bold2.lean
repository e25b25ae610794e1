/-! the sum over all orders of the second row -/
def k_cf (S : Nat → Int) (c : Nat) : Nat → Int := fun j => S (q_dc c j).toNat
noncomputable def W_f (v : Nat → Int) (bo ot : Int) (G : Nat → Int) (n1 n2 : Nat) (X : Nat → Int) : Int := M_w n1 (M_F v 0 0 bo ot G X n1 n2)
noncomputable def K_w (v : Nat → Int) (bo ot : Int) (G S : Nat → Int) (n1 n2 : Nat) : Int := sm ((q_L n2).map (fun c => W_f v bo ot G n1 n2 (k_cf S c)))
/-- a match looks at no more of the rows than their men -/
theorem M_B_cg {v : Nat → Int} {dr bo ot : Int} {F S S' : Nat → Int} {T : zT} (h : S T.2.1 = S' T.2.1) : M_B v dr bo ot F S T = M_B v dr bo ot F S' T := by
  unfold M_B
  rw [h]
theorem M_s_cg {v : Nat → Int} {dr bo ot : Int} {F S S' : Nat → Int} {T : zT} (h : S T.2.1 = S' T.2.1) : M_s v dr bo ot F S T = M_s v dr bo ot F S' T := by
  unfold M_s
  rw [M_B_cg h, h]
theorem M_f_cg {v : Nat → Int} {dr bo ot : Int} {F S S' : Nat → Int} {n1 n2 : Nat} (h : ∀ j, j < n2 → S j = S' j) : ∀ (m : Nat) (T : zT), M_f v dr bo ot F S n1 n2 m T = M_f v dr bo ot F S' n1 n2 m T
  | 0, _ => rfl
  | m + 1, T => by
    simp only [M_f]
    by_cases q : T.1 < n1 ∧ T.2.1 < n2
    · rw [if_pos q, if_pos q, M_s_cg (h _ q.2)]
      exact M_f_cg h m _
    · rw [if_neg q, if_neg q]
theorem W_f_cg {v : Nat → Int} {bo ot : Int} {G X X' : Nat → Int} {n1 n2 : Nat} (h : ∀ j, j < n2 → X j = X' j) : W_f v bo ot G n1 n2 X = W_f v bo ot G n1 n2 X' := by
  unfold W_f M_F
  rw [M_f_cg h]
theorem W_f_b {v : Nat → Int} {bo ot : Int} {G X : Nat → Int} {n1 n2 : Nat} : W_f v bo ot G n1 n2 X = 0 ∨ W_f v bo ot G n1 n2 X = 1 := by
  unfold W_f M_w
  split
  · exact Or.inr rfl
  · exact Or.inl rfl
theorem sm_b {φ : Nat → Int} (h : ∀ c, φ c = 0 ∨ φ c = 1) : ∀ l : List Nat, 0 ≤ sm (l.map φ) ∧ sm (l.map φ) ≤ l.length
  | [] => ⟨Int.le_refl _, Int.le_refl _⟩
  | x :: l => by
    have ih := sm_b h l
    have hx := h x
    show 0 ≤ φ x + sm (l.map φ) ∧ φ x + sm (l.map φ) ≤ ((l.length + 1 : Nat) : Int)
    omega
theorem K_w_b {v : Nat → Int} {bo ot : Int} {G S : Nat → Int} {n1 n2 : Nat} (h : 1 ≤ n2 ∧ n2 ≤ 5) : 0 ≤ K_w v bo ot G S n1 n2 ∧ K_w v bo ot G S n1 n2 ≤ 120 := by
  have h1 := sm_b (φ := fun c => W_f v bo ot G n1 n2 (k_cf S c)) (fun _ => W_f_b) (q_L n2)
  have h2 := q_len_b h
  unfold q_len at h2
  unfold K_w
  omega
/-- every code is a row of unlike numbers -/
def k_gd (n c : Nat) : Bool := (List.range n).all (fun j => decide (0 ≤ q_dc c j ∧ q_dc c j < (n : Int)) && (List.range n).all (fun i => decide (i < j → q_dc c i ≠ q_dc c j)))
theorem k_gd_a : ∀ n, n < 6 → (q_L n).all (k_gd n) = true := by decide +kernel
theorem k_gd_ok {n c : Nat} (hn : n ≤ 5) (hc : c ∈ q_L n) : (∀ j, j < n → 0 ≤ q_dc c j ∧ q_dc c j < (n : Int)) ∧ ∀ i j, i < j → j < n → q_dc c i ≠ q_dc c j := by
  have h := List.all_eq_true.mp (k_gd_a n (by omega)) c hc
  unfold k_gd at h
  simp only [List.all_eq_true, List.mem_range, Bool.and_eq_true, decide_eq_true_eq] at h
  exact ⟨fun j hj => (h j hj).1, fun i j hij hj => (h j hj).2 i (by omega) hij⟩
theorem k_cf_pm {n c : Nat} {S : Nat → Int} (hn : n ≤ 5) (hc : c ∈ q_L n) : q_pm n S (k_cf S c) := by
  obtain ⟨h1, h2⟩ := k_gd_ok hn hc
  refine ⟨fun j hj => ⟨(q_dc c j).toNat, by have := h1 j hj; omega, rfl⟩, fun hS i j hij hj => ?_⟩
  have a1 := h1 i (by omega)
  have a2 := h1 j hj
  have a3 := h2 i j hij hj
  show S (q_dc c i).toNat ≠ S (q_dc c j).toNat
  by_cases q : (q_dc c i).toNat < (q_dc c j).toNat
  · exact hS _ _ q (by omega)
  · exact fun z => hS (q_dc c j).toNat (q_dc c i).toNat (by omega) (by omega) z.symm
/-- the codes are the orders of the whole mask -/
theorem Or_L : ∀ n, n < 6 → 1 ≤ n → b_pc (2 ^ n - 1) = n ∧ Or n (2 ^ n - 1) = (q_L n).map (fun c => (List.range n).map (fun j => (q_dc c j).toNat)) := by decide +kernel
theorem rl_rg (X : Nat → Int) : ∀ c k, rl X k c = (List.range c).map (fun j => X (k + j))
  | 0, _ => rfl
  | c + 1, k => by
    rw [List.range_succ_eq_map, List.map_cons, List.map_map]
    show X k :: rl X (k + 1) c = _
    rw [rl_rg X c (k + 1)]
    refine congrArg (List.cons _) (List.map_congr_left (fun j _ => ?_))
    show X (k + 1 + j) = X (k + (j + 1))
    rw [show k + 1 + j = k + (j + 1) by omega]
theorem W_cls {v : Nat → Int} {bo ot : Int} {G S : Nat → Int} {n1 n2 : Nat} (h1 : 1 ≤ n1 ∧ n1 ≤ 5) (h2 : 1 ≤ n2 ∧ n2 ≤ 5) (hR : R_ok v G S n1 n2) (hG : ∀ i j, i < j → j < n1 → G i ≠ G j) (hS : ∀ i j, i < j → j < n2 → S i ≠ S j) : K_b v bo ot G n1 S 21 0 0 (2 ^ n2 - 1) (-1) 0 = K_w v bo ot G S n1 n2 := by
  obtain ⟨o1, o2⟩ := Or_L n2 (by omega) h2.1
  have hm : 2 ^ n2 - 1 < 32 := by
    rcases (show n2 = 1 ∨ n2 = 2 ∨ n2 = 3 ∨ n2 = 4 ∨ n2 = 5 by omega) with rfl | rfl | rfl | rfl | rfl <;> decide
  rw [B_eq 21 0 0 _ (-1) 0 hm, o1, o2, sm_mm]
  unfold K_w
  refine sm_cg _ (fun c hc => ?_)
  have hp := k_cf_pm (S := S) h2.2 hc
  have hR' : R_ok v G (k_cf S c) n1 n2 := by
    obtain ⟨r1, r2, r3, r4⟩ := hR
    refine ⟨r1, r2, fun i hi => ?_, fun i k hi hk => ?_⟩
    · obtain ⟨j, j1, j2⟩ := hp.1 i hi
      rw [j2]; exact r3 j j1
    · obtain ⟨j, j1, j2⟩ := hp.1 k hk
      rw [j2]; exact r4 i j hi j1
  have key := (R_M (bo := bo) (ot := ot) hR' hG (hp.2 hS) 21 (M_0 0) (n1 + n2) 0 0 (Nat.zero_le _) (by show n1 + n2 ≤ 0 + 0 + (n1 + n2); omega) (fun _ => rfl) (fun _ _ _ => rfl) (fun _ _ _ => rfl)).1 (fun _ => rfl) (by show n1 - 0 + 2 * (n2 - 0) + 1 ≤ 21; omega)
  change K_r v bo ot G n1 21 0 0 (-1) 0 (rl (k_cf S c) 0 n2) = W_f v bo ot G n1 n2 (k_cf S c) at key
  rw [← key, rl_rg, List.map_map]
  refine congrArg _ (List.map_congr_left (fun j _ => ?_))
  show S (q_dc c j).toNat = k_cf S c (0 + j)
  rw [Nat.zero_add]
  rfl
/-- rows made of one another: told by the same numbers -/
def q_cm (n : Nat) (F0 F H : Nat → Int) : Prop := ∀ j, j < n → F j = F0 (H j).toNat
theorem q_cm_sw {n : Nat} {F0 F H : Nat → Int} (h : q_cm n F0 F H) {a b : Nat} (ha : a < n) (hb : b < n) : q_cm n F0 (a_sw F a b) (a_sw H a b) := by
  intro j hj
  rw [a_sw_at, a_sw_at]
  by_cases q1 : j = b
  · rw [if_pos q1, if_pos q1]; exact h a ha
  · rw [if_neg q1, if_neg q1]
    by_cases q2 : j = a
    · rw [if_pos q2, if_pos q2]; exact h b hb
    · rw [if_neg q2, if_neg q2]; exact h j hj
theorem q_cm_rv {n : Nat} {F0 : Nat → Int} : ∀ (m : Nat) (F H : Nat → Int) (a b : Nat), b < n → q_cm n F0 F H → q_cm n F0 (q_rv m F a b) (q_rv m H a b)
  | 0, _, _, _, _, _, h => h
  | m + 1, F, H, a, b, hb, h => by
    simp only [q_rv]
    split
    · exact h
    · exact q_cm_rv m _ _ _ _ (by omega) (q_cm_sw h (by omega) hb)
theorem q_cm_nx {n : Nat} {F0 F H : Nat → Int} (hn : 1 ≤ n) (hr : q_rl n F H) (h : q_cm n F0 F H) : q_cm n F0 (q_nx F n) (q_nx H n) := by
  have e1 := q_rl_pv hr (n - 1) (by omega)
  have h1 := q_pv_b H (n - 1)
  have h2 := q_y_b H (q_pv H (n - 1)).toNat (n - 1)
  unfold q_nx
  rw [e1]
  by_cases q : q_pv H (n - 1) = -1
  · rw [if_pos q, if_pos q]; exact h
  · rw [if_neg q, if_neg q, q_rl_y hr (show (q_pv H (n - 1)).toNat < n by omega) (n - 1) (by omega)]
    exact q_cm_rv 5 _ _ _ _ (by omega) (q_cm_sw h (by omega) (by omega))
theorem q_ch_cm {n : Nat} (hn : 1 ≤ n) {F0 : Nat → Int} : ∀ (l : List Nat) (F : Nat → Int), q_ch n l = true → (∀ c, l.head? = some c → q_rl n F (q_dc c) ∧ q_cm n F0 F (q_dc c)) → ∀ k c, l[k]? = some c → q_cm n F0 (q_it n F k) (q_dc c)
  | [], F, h, _, k, c, hc => by simp at hc
  | [d], F, h, hr, k, c, hc => by
    cases k with
    | zero =>
      have : d = c := by simpa using hc
      subst this
      exact (hr d rfl).2
    | succ k => simp at hc
  | d :: d2 :: l, F, h, hr, k, c, hc => by
    simp only [q_ch, q_st, Bool.and_eq_true, decide_eq_true_eq, List.all_eq_true, List.mem_range] at h
    obtain ⟨⟨h1, h2⟩, h3⟩ := h
    obtain ⟨hrc, hcm⟩ := hr d rfl
    cases k with
    | zero =>
      have : d = c := by simpa using hc
      subst this
      exact hcm
    | succ k =>
      rw [q_it_s]
      refine q_ch_cm hn (d2 :: l) (q_nx F n) h3 (fun c' hc' => ?_) k c (by simpa using hc)
      have : d2 = c' := by simpa using hc'
      subst this
      have x1 := q_rl_nx hn hrc
      have x2 := q_cm_nx hn hrc hcm
      refine ⟨fun a b ha hb => ?_, fun j hj => ?_⟩
      · rw [← h2 a ha, ← h2 b hb]; exact x1 a b ha hb
      · rw [← h2 j hj]; exact x2 j hj
theorem q_L_c {n : Nat} (hn : 1 ≤ n ∧ n ≤ 5) : q_ch n (q_L n) = true := by
  rcases (show n = 1 ∨ n = 2 ∨ n = 3 ∨ n = 4 ∨ n = 5 by omega) with rfl | rfl | rfl | rfl | rfl
  · exact q_L_1
  · exact q_L_2
  · exact q_L_3
  · exact q_L_4
  · exact q_L_5
theorem q_it_cm {n : Nat} (hn : 1 ≤ n ∧ n ≤ 5) {F : Nat → Int} (hF : ∀ i j, i < j → j < n → F i ≠ F j) {k c : Nat} (hc : (q_L n)[k]? = some c) : ∀ j, j < n → q_it n (q_so F n) k j = k_cf (q_so F n) c j := by
  have hd := (q_pm_so (C := F) n (Nat.le_refl n)).2 hF
  have hs : ∀ a b, a < b → b < n → q_so F n a < q_so F n b := fun a b h1 h2 => by
    have x1 := q_so_s F n a b h1 h2
    have x2 := hd a b h1 h2
    omega
  refine q_ch_cm hn.1 (q_L n) (q_so F n) (q_L_c hn) (fun c hc => ⟨fun a b ha hb => ?_, fun j hj => ?_⟩) k c hc
  · rw [q_hd hn hc a ha, q_hd hn hc b hb]
    by_cases q : a = b
    · rw [q]; exact ⟨fun _ => Int.le_refl _, fun _ => Int.le_refl _⟩
    · by_cases q2 : a < b
      · have := hs a b q2 hb; omega
      · have := hs b a (by omega) ha; omega
  · rw [q_hd hn hc j hj]
    rfl
theorem s_n_l (φ : Nat → Int) (t : Nat → Int) : ∀ l : List Nat, (∀ k c, l[k]? = some c → t k = φ c) → s_n t l.length = sm (l.map φ) := by
  intro l h
  rw [← sm_rg]
  refine congrArg sm (List.ext_getElem (by simp) (fun i h1 h2 => ?_))
  simp only [List.getElem_map, List.getElem_range]
  exact h i _ (by simp at h1 h2 ⊢)
/-- the sum over the orders that the reference goes through -/
theorem W_ref {v : Nat → Int} {bo ot : Int} {G S : Nat → Int} {n1 n2 : Nat} (h2 : 1 ≤ n2 ∧ n2 ≤ 5) (hS : ∀ i j, i < j → j < n2 → S i ≠ S j) : s_n (fun k => W_f v bo ot G n1 n2 (q_it n2 (q_so S n2) k)) (q_len n2) = K_w v bo ot G (q_so S n2) n1 n2 := by
  unfold K_w q_len
  exact s_n_l _ _ _ (fun k c hc => W_f_cg (q_it_cm h2 hS hc))
/-- the sum is the same whatever order the row was told in -/
def k_tr (n a b c : Nat) : Nat := ((List.range n).map (fun j => (if c / 10 ^ j % 10 = b then a else if c / 10 ^ j % 10 = a then b else c / 10 ^ j % 10) * 10 ^ j)).foldr (fun x y => x + y) 0
def k_tk (n a b : Nat) : Bool := ((q_L n).map (k_tr n a b)).isPerm (q_L n) && (q_L n).all (fun c => (List.range n).all (fun j => decide (k_tr n a b c / 10 ^ j % 10 = (if c / 10 ^ j % 10 = b then a else if c / 10 ^ j % 10 = a then b else c / 10 ^ j % 10))))
theorem k_tk_a : ∀ n, n < 6 → ∀ a, a < n → ∀ b, b < n → k_tk n a b = true := by decide +kernel
theorem W_sw {v : Nat → Int} {bo ot : Int} {G S : Nat → Int} {n1 n2 a b : Nat} (h2 : n2 ≤ 5) (ha : a < n2) (hb : b < n2) : K_w v bo ot G (a_sw S a b) n1 n2 = K_w v bo ot G S n1 n2 := by
  have hk := k_tk_a n2 (by omega) a ha b hb
  unfold k_tk at hk
  simp only [Bool.and_eq_true, List.all_eq_true, List.mem_range, decide_eq_true_eq] at hk
  obtain ⟨k1, k2⟩ := hk
  have hp := (List.isPerm_iff.mp k1).map (fun c => W_f v bo ot G n1 n2 (k_cf S c))
  unfold K_w
  rw [← sm_pm hp, sm_mm]
  refine sm_cg _ (fun c hc => W_f_cg (fun j hj => ?_))
  have h := k2 c hc j hj
  show a_sw S a b (q_dc c j).toNat = S (q_dc (k_tr n2 a b c) j).toNat
  unfold q_dc
  rw [h, a_sw_at, show (((c / 10 ^ j % 10 : Nat) : Int)).toNat = c / 10 ^ j % 10 from Int.toNat_natCast _]
  (repeat' split) <;> rw [Int.toNat_natCast]
theorem W_in {v : Nat → Int} {bo ot : Int} {G : Nat → Int} {n1 n2 : Nat} (h2 : n2 ≤ 5) : ∀ (k : Nat) (S : Nat → Int), k < n2 → K_w v bo ot G (q_in S k) n1 n2 = K_w v bo ot G S n1 n2
  | 0, _, _ => rfl
  | k + 1, S, hk => by
    simp only [q_in]
    split
    · rfl
    · rw [W_in h2 k _ (by omega), W_sw h2 (by omega) hk]
theorem W_so {v : Nat → Int} {bo ot : Int} {G S : Nat → Int} {n1 n2 : Nat} (h2 : n2 ≤ 5) : ∀ (k : Nat), k ≤ n2 → K_w v bo ot G (q_so S k) n1 n2 = K_w v bo ot G S n1 n2
  | 0, _ => rfl
  | k + 1, hk => by
    show K_w v bo ot G (q_in (q_so S k) k) n1 n2 = _
    rw [W_in h2 k _ (by omega), W_so h2 k (by omega)]
theorem W_rv {v : Nat → Int} {bo ot : Int} {G : Nat → Int} {n1 n2 : Nat} (h2 : n2 ≤ 5) : ∀ (m : Nat) (S : Nat → Int) (a b : Nat), b < n2 → K_w v bo ot G (q_rv m S a b) n1 n2 = K_w v bo ot G S n1 n2
  | 0, _, _, _, _ => rfl
  | m + 1, S, a, b, hb => by
    simp only [q_rv]
    split
    · rfl
    · rw [W_rv h2 m _ _ _ (by omega), W_sw h2 (by omega) hb]
theorem W_nx {v : Nat → Int} {bo ot : Int} {G S : Nat → Int} {n1 n2 : Nat} (h2 : 1 ≤ n2 ∧ n2 ≤ 5) : K_w v bo ot G (q_nx S n2) n1 n2 = K_w v bo ot G S n1 n2 := by
  have h1 := q_pv_b S (n2 - 1)
  have h3 := q_y_b S (q_pv S (n2 - 1)).toNat (n2 - 1)
  unfold q_nx
  split
  · rfl
  · rw [W_rv h2.2 5 _ _ _ (by omega), W_sw h2.2 (by omega) (by omega)]
theorem W_it {v : Nat → Int} {bo ot : Int} {G S : Nat → Int} {n1 n2 : Nat} (h2 : 1 ≤ n2 ∧ n2 ≤ 5) : ∀ k, K_w v bo ot G (q_it n2 S k) n1 n2 = K_w v bo ot G S n1 n2
  | 0 => rfl
  | k + 1 => by
    show K_w v bo ot G (q_nx (q_it n2 S k) n2) n1 n2 = _
    rw [W_nx h2, W_it h2 k]
