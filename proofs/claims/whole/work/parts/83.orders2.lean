/-! sorting and the next order: the class, and the reference -/
def k_Q (c : Nat) (w : Nat → Nat → Int) (m : Nat) (F : Nat → Int) (wi : Nat → Nat → Int) : Prop := (∀ d, d ≠ c → wi d = w d) ∧ (∀ j, j < m → wi c j = F j) ∧ ∀ j, j < m → 0 ≤ F j ∧ F j ≤ 9
theorem q_vr_sw {m a b : Nat} {F : Nat → Int} (h : ∀ j, j < m → 0 ≤ F j ∧ F j ≤ 9) (ha : a < m) (hb : b < m) : ∀ j, j < m → 0 ≤ a_sw F a b j ∧ a_sw F a b j ≤ 9 := by
  intro j hj
  rw [a_sw_at]
  (repeat' split) <;> first | exact h _ ha | exact h _ hb | exact h _ hj
theorem k_Q_u {c m a b : Nat} {w wi : Nat → Nat → Int} {F : Nat → Int} (h : k_Q c w m F wi) (ha : a < m) (hb : b < m) : k_Q c w m (a_sw F a b) (z_u (z_u wi c a (wi c b)) c b (wi c a)) := by
  refine ⟨fun d hd => by rw [z_u_ne hd, z_u_ne hd]; exact h.1 d hd, fun j hj => ?_, q_vr_sw h.2.2 ha hb⟩
  rw [z_u_at, z_u_at, a_sw_at, h.2.1 a ha, h.2.1 b hb, h.2.1 j hj]
theorem s_exchange {e n : Nat} {im : Nat → Option Nat} {w u : Nat → Nat → Int} {wi : Nat → Nat → Int} {F : Nat → Int} {m a b : Nat} (hm : m ≤ 5) (h : k_Q 33 w m F wi) (ha : a < m) (hb : b < m) : ∃ w', (z_F (e + 2)).2.2.1 k_Contest_exchange [.ref 31, .int (Int32.ofInt (a : Int)), .int (Int32.ofInt (b : Int))] (n, z_q im, jM wi, jL u) = some (jM w', jL u) ∧ k_Q 33 w m (a_sw F a b) w' := by
  refine ⟨_, q_Contest_exchange ?_, k_Q_u h ha hb⟩
  rw [s_at_32 (by omega), z_oI_s, s_at_32 (by omega), z_oI_s, if_pos (by omega), if_pos (by omega), s_set_32 (by omega) (by omega), z_oV_s, s_set_32 (by omega) (by omega), z_oV_s]
  rfl
theorem l_sort1 {e n : Nat} {im : Nat → Option Nat} {w u : Nat → Nat → Int} {m i : Nat} (hm : m ≤ 5) : ∀ (k : Nat) (F : Nat → Int) (wi : Nat → Nat → Int), k < m → k_Q 33 w m F wi → ∃ w' q, z_To (z_F (e + 2)) cd_Contest_sortFirsts (10, [some (.ref 31), some (.int (Int32.ofInt (i : Int))), some (.int (Int32.ofInt (k : Int)))], (n, z_q im, jM wi, jL u)) (3, [some (.ref 31), some (.int (Int32.ofInt ((i : Int) + 1))), q], (n, z_q im, jM w', jL u)) ∧ k_Q 33 w m (q_in F k) w'
  | 0, F, wi, hk, h => by
    refine ⟨wi, some (.int (Int32.ofInt ((0 : Nat) : Int))), z_To_1 ((e_Contest_sortFirsts_10 ..).trans ?_), h⟩
    rw [show (0 : Int32) = Int32.ofInt 0 from rfl, if_pos (ji_le_p (by decide) (by decide) (by decide)), ji_add]
  | k + 1, F, wi, hk, h => by
    simp only [q_in]
    have b1 := h.2.1 k (by omega)
    have b2 := h.2.1 (k + 1) hk
    have v1 := h.2.2 k (by omega)
    have v2 := h.2.2 (k + 1) hk
    have hx : z_ex none (z_F (e + 2)) cd_Contest_sortFirsts 4000 (cd_Contest_sortFirsts.drop 10) 10 [some (.ref 31), some (.int (Int32.ofInt (i : Int))), some (.int (Int32.ofInt ((k + 1 : Nat) : Int)))] [] (n, z_q im, jM wi, jL u) = if Int32.ofInt (F k) ≤ Int32.ofInt (F (k + 1)) then some (.inr (3, [some (.ref 31), some (.int (Int32.ofInt ((i : Int) + 1))), some (.int (Int32.ofInt ((k + 1 : Nat) : Int)))], [], (n, z_q im, jM wi, jL u))) else (z_oV ((z_F (e + 2)).2.2.1 k_Contest_exchange [.ref 31, .int (Int32.ofInt (k : Int)), .int (Int32.ofInt ((k + 1 : Nat) : Int))] (n, z_q im, jM wi, jL u)) none (fun d5 => some (.inr (10, [some (.ref 31), some (.int (Int32.ofInt (i : Int))), some (.int (Int32.ofInt (k : Int)))], [], (n, z_q im, d5))))) := by
      refine (e_Contest_sortFirsts_10 ..).trans ?_
      rw [show (0 : Int32) = Int32.ofInt 0 from rfl, if_neg (ji_le_n (by omega) (by decide) (by omega)), ji_add, ji_add, ji_sub, s_at_32 (by omega), z_oI_s, s_at_32 (by omega), z_oI_s, if_pos (c := 0 ≤ ((k + 1 : Nat) : Int) - 1 ∧ ((k + 1 : Nat) : Int) - 1 < 5) (by omega), if_pos (c := 0 ≤ ((k + 1 : Nat) : Int) ∧ ((k + 1 : Nat) : Int) < 5) (by omega), show (((k + 1 : Nat) : Int) - 1).toNat = k by omega, show (((k + 1 : Nat) : Int)).toNat = k + 1 by omega, b1, b2, show ((k + 1 : Nat) : Int) - 1 = (k : Int) by omega, show ((k + 1 : Nat) : Int) + -1 = (k : Int) by omega]
    by_cases q : F k ≤ F (k + 1)
    · rw [if_pos (ji_le_p (by omega) (by omega) q)] at hx
      rw [if_pos q]
      exact ⟨wi, _, z_To_1 hx, h⟩
    · rw [if_neg (ji_le_n (by omega) (by omega) (by omega))] at hx
      rw [if_neg q]
      obtain ⟨w1, k1, k2⟩ := s_exchange (e := e) (n := n) (im := im) (u := u) (a := k) (b := k + 1) hm h (by omega) hk
      rw [k1, z_oV_s] at hx
      obtain ⟨w', q', k3, k4⟩ := l_sort1 (e := e) (n := n) (im := im) (u := u) (i := i) hm k _ w1 (by omega) k2
      exact ⟨w', q', z_To_tr (z_To_1 hx) k3, k4⟩
theorem s_sortFirsts {e n : Nat} {im : Nat → Option Nat} {w u : Nat → Nat → Int} {F : Nat → Int} {m : Nat} (hm : 1 ≤ m ∧ m ≤ 5) (h5 : w 31 5 = (m : Int)) (h : ∀ j, j < m → w 33 j = F j) (hF : ∀ j, j < m → 0 ≤ F j ∧ F j ≤ 9) : ∃ w', (z_F (e + 3)).2.2.1 k_Contest_sortFirsts [.ref 31] (n, z_q im, jM w, jL u) = some (jM w', jL u) ∧ k_Q 33 w m (q_so F m) w' := by
  obtain ⟨t9, ht9, wf, q, rfl, i1⟩ := z_for (o := z_F (e + 2)) (cd := cd_Contest_sortFirsts) (P := fun i s => ∃ wi q, s = (3, [some (.ref 31), some (.int (Int32.ofInt ((i : Int) + 1))), q], (n, z_q im, jM wi, jL u)) ∧ k_Q 33 w m (q_so F (i + 1)) wi) (m - 1) (s := (3, [some (.ref 31), some (.int (Int32.ofInt 1)), none], (n, z_q im, jM w, jL u))) ⟨w, none, rfl, fun _ _ => rfl, h, hF⟩ (fun i s hi hs => by
    obtain ⟨wi, q, rfl, i1⟩ := hs
    have e5 : ((jM wi, jL u) : zD).1 31 5 = Int32.ofInt (m : Int) := by rw [← h5, ← i1.1 31 (by decide)]; rfl
    obtain ⟨w', q', k3, k4⟩ := l_sort1 (e := e) (n := n) (im := im) (u := u) (i := i + 1) hm.2 (i + 1) _ wi (by omega) i1
    refine ⟨_, z_To_tr (z_To_1 ((e_Contest_sortFirsts_3 ..).trans ?_)) k3, w', q', rfl, k4⟩
    rw [e5, if_neg (ji_le_n (by omega) (by omega) (by omega))]
    rfl)
  refine ⟨wf, n_Contest_sortFirsts (z_go (e_Contest_sortFirsts_0 ..) (ht9 _ (z_ret ((e_Contest_sortFirsts_3 ..).trans ?_)))), ?_⟩
  · have e5 : ((jM wf, jL u) : zD).1 31 5 = Int32.ofInt (m : Int) := by rw [← h5, ← i1.1 31 (by decide)]; rfl
    rw [e5, if_pos (ji_le_p (by omega) (by omega) (by omega))]
  · rw [show m - 1 + 1 = m by omega] at i1
    exact i1
theorem l_pv {e n : Nat} {im : Nat → Option Nat} {w u : Nat → Nat → Int} {F : Nat → Int} {m : Nat} {wi : Nat → Nat → Int} (hm : m ≤ 5) (h5 : w 31 5 = (m : Int)) (h : k_Q 33 w m F wi) : ∀ (k : Nat), k < m → (q_pv F k = -1 → z_Rn (z_F (e + 2)) cd_Contest_nextOrder 6 [some (.ref 31), some (.int (Int32.ofInt ((k : Int) - 1))), none, none, none] (n, z_q im, jM wi, jL u) (some (.int (Int32.ofInt 0)), (n, z_q im, jM wi, jL u))) ∧ (q_pv F k ≠ -1 → z_To (z_F (e + 2)) cd_Contest_nextOrder (6, [some (.ref 31), some (.int (Int32.ofInt ((k : Int) - 1))), none, none, none], (n, z_q im, jM wi, jL u)) (31, [some (.ref 31), some (.int (Int32.ofInt (q_pv F k))), some (.int (Int32.ofInt ((m : Int) - 1))), none, none], (n, z_q im, jM wi, jL u)))
  | 0, hk => by
    refine ⟨fun _ => z_ret ((e_Contest_nextOrder_6 ..).trans ?_), fun q => absurd rfl q⟩
    rw [show (0 : Int32) = Int32.ofInt 0 from rfl, if_pos (ji_lt_p (by decide) (by decide) (by decide)), if_neg (ji_le_n (by decide) (by decide) (by decide))]
  | k + 1, hk => by
    have ih := l_pv (e := e) (n := n) (im := im) (u := u) hm h5 h k (by omega)
    have b1 := h.2.1 k (by omega)
    have b2 := h.2.1 (k + 1) hk
    have v1 := h.2.2 k (by omega)
    have v2 := h.2.2 (k + 1) hk
    have e5 : ((jM wi, jL u) : zD).1 31 5 = Int32.ofInt (m : Int) := by rw [← h5, ← h.1 31 (by decide)]; rfl
    have hx : z_ex none (z_F (e + 2)) cd_Contest_nextOrder 4000 (cd_Contest_nextOrder.drop 6) 6 [some (.ref 31), some (.int (Int32.ofInt (((k + 1 : Nat) : Int) - 1))), none, none, none] [] (n, z_q im, jM wi, jL u) = if F k ≤ F (k + 1) then some (.inr (31, [some (.ref 31), some (.int (Int32.ofInt (k : Int))), some (.int (Int32.ofInt ((m : Int) - 1))), none, none], [], (n, z_q im, jM wi, jL u))) else some (.inr (6, [some (.ref 31), some (.int (Int32.ofInt ((k : Int) - 1))), none, none, none], [], (n, z_q im, jM wi, jL u))) := by
      refine (e_Contest_nextOrder_6 ..).trans ?_
      rw [show ((k + 1 : Nat) : Int) - 1 = (k : Int) by omega, show (0 : Int32) = Int32.ofInt 0 from rfl, if_neg (ji_lt_n (by omega) (by decide) (by omega)), ji_add, ji_add, s_at_32 (by omega), z_oI_s, s_at_32 (by omega), z_oI_s, if_pos (c := 0 ≤ (k : Int) ∧ (k : Int) < 5) (by omega), if_pos (c := 0 ≤ (k : Int) + 1 ∧ (k : Int) + 1 < 5) (by omega), show ((k : Int)).toNat = k by omega, show ((k : Int) + 1).toNat = k + 1 by omega, b1, b2, e5, ji_sub, show (k : Int) + -1 = (k : Int) - 1 by omega]
      by_cases q : F k ≤ F (k + 1)
      · rw [if_pos (ji_le_p (by omega) (by omega) q), if_pos q, if_pos (ji_le_p (by decide) (by omega) (by omega))]
      · rw [if_neg (ji_le_n (by omega) (by omega) (by omega)), if_neg q]
    simp only [q_pv]
    by_cases q : F k ≤ F (k + 1)
    · rw [if_pos q] at hx ⊢
      exact ⟨fun q2 => by omega, fun _ => z_To_1 hx⟩
    · rw [if_neg q] at hx ⊢
      exact ⟨fun q2 => z_go hx (ih.1 q2), fun q2 => z_To_tr (z_To_1 hx) (ih.2 q2)⟩
theorem l_y {e n : Nat} {im : Nat → Option Nat} {w u : Nat → Nat → Int} {F : Nat → Int} {m p : Nat} {wi : Nat → Nat → Int} (hm : m ≤ 5) (h5 : w 31 5 = (m : Int)) (h : k_Q 33 w m F wi) : ∀ (y : Nat), y < m → p ≤ y → ∃ w', z_To (z_F (e + 2)) cd_Contest_nextOrder (31, [some (.ref 31), some (.int (Int32.ofInt (p : Int))), some (.int (Int32.ofInt (y : Int))), none, none], (n, z_q im, jM wi, jL u)) (59, [some (.ref 31), some (.int (Int32.ofInt (p : Int))), some (.int (Int32.ofInt ((q_y F p y : Nat) : Int))), some (.int (Int32.ofInt ((p : Int) + 1))), some (.int (Int32.ofInt ((m : Int) - 1)))], (n, z_q im, jM w', jL u)) ∧ k_Q 33 w m (a_sw F p (q_y F p y)) w' := by
  intro y
  have stop : ∀ y : Nat, y < m → p ≤ y → (y = p ∨ F p ≤ F y) → ∃ w', z_To (z_F (e + 2)) cd_Contest_nextOrder (31, [some (.ref 31), some (.int (Int32.ofInt (p : Int))), some (.int (Int32.ofInt (y : Int))), none, none], (n, z_q im, jM wi, jL u)) (59, [some (.ref 31), some (.int (Int32.ofInt (p : Int))), some (.int (Int32.ofInt (y : Int))), some (.int (Int32.ofInt ((p : Int) + 1))), some (.int (Int32.ofInt ((m : Int) - 1)))], (n, z_q im, jM w', jL u)) ∧ k_Q 33 w m (a_sw F p y) w' := fun y hy hpy hs => by
    have b1 := h.2.1 p (by omega)
    have b2 := h.2.1 y hy
    have v1 := h.2.2 p (by omega)
    have v2 := h.2.2 y hy
    obtain ⟨w1, k1, k2⟩ := s_exchange (e := e) (n := n) (im := im) (u := u) (a := p) (b := y) hm h (by omega) hy
    have e5 : ((jM w1, jL u) : zD).1 31 5 = Int32.ofInt (m : Int) := by rw [← h5, ← k2.1 31 (by decide)]; rfl
    refine ⟨w1, z_To_1 ((e_Contest_nextOrder_31 ..).trans ?_), k2⟩
    rw [s_at_32 (by omega), z_oI_s, s_at_32 (by omega), z_oI_s, if_pos (c := 0 ≤ (y : Int) ∧ (y : Int) < 5) (by omega), if_pos (c := 0 ≤ (p : Int) ∧ (p : Int) < 5) (by omega), show ((p : Int)).toNat = p by omega, show ((y : Int)).toNat = y by omega, b1, b2, k1, z_oV_s, e5, ji_sub, ji_add]
    by_cases q : y = p
    · rw [if_pos (ji_le_p (by omega) (by omega) (by omega))]
    · rw [if_neg (ji_le_n (by omega) (by omega) (by omega)), if_pos (ji_le_p (by omega) (by omega) (by omega))]
  induction y with
  | zero => intro hy hp; exact stop 0 hy hp (Or.inl (by omega))
  | succ y ih =>
    intro hy hp
    simp only [q_y]
    by_cases q : F p ≤ F (y + 1)
    · rw [if_pos q]; exact stop (y + 1) hy hp (Or.inr q)
    · rw [if_neg q]
      have hpy : p ≠ y + 1 := fun z => q (by rw [z]; exact Int.le_refl _)
      have b1 := h.2.1 p (by omega)
      have b2 := h.2.1 (y + 1) hy
      have v1 := h.2.2 p (by omega)
      have v2 := h.2.2 (y + 1) hy
      obtain ⟨w', k1, k2⟩ := ih (by omega) (by omega)
      refine ⟨w', z_To_tr (z_To_1 ((e_Contest_nextOrder_31 ..).trans ?_)) k1, k2⟩
      rw [if_neg (ji_le_n (by omega) (by omega) (by omega)), s_at_32 (by omega), z_oI_s, s_at_32 (by omega), z_oI_s, if_pos (c := 0 ≤ ((y + 1 : Nat) : Int) ∧ ((y + 1 : Nat) : Int) < 5) (by omega), if_pos (c := 0 ≤ (p : Int) ∧ (p : Int) < 5) (by omega), show ((p : Int)).toNat = p by omega, show (((y + 1 : Nat) : Int)).toNat = y + 1 by omega, b1, b2, if_neg (ji_le_n (by omega) (by omega) (by omega)), ji_add, show ((y + 1 : Nat) : Int) + -1 = (y : Int) by omega]
theorem l_rv {e n : Nat} {im : Nat → Option Nat} {w u : Nat → Nat → Int} {m : Nat} {x1 x2 : Int32} (hm : m ≤ 5) : ∀ (f : Nat) (F : Nat → Int) (wi : Nat → Nat → Int) (a b : Nat), b < m → a ≤ m → b ≤ a + 2 * f → k_Q 33 w m F wi → ∃ w', z_Rn (z_F (e + 2)) cd_Contest_nextOrder 59 [some (.ref 31), some (.int x1), some (.int x2), some (.int (Int32.ofInt (a : Int))), some (.int (Int32.ofInt (b : Int)))] (n, z_q im, jM wi, jL u) (some (.int (Int32.ofInt 1)), (n, z_q im, jM w', jL u)) ∧ k_Q 33 w m (q_rv f F a b) w'
  | 0, F, wi, a, b, hb, ha, hf, h => by
    refine ⟨wi, z_ret ((e_Contest_nextOrder_59 ..).trans ?_), h⟩
    rw [if_pos (ji_le_p (by omega) (by omega) (by omega))]
  | f + 1, F, wi, a, b, hb, ha, hf, h => by
    simp only [q_rv]
    by_cases q : b ≤ a
    · rw [if_pos q]
      refine ⟨wi, z_ret ((e_Contest_nextOrder_59 ..).trans ?_), h⟩
      rw [if_pos (ji_le_p (by omega) (by omega) (by omega))]
    · rw [if_neg q]
      obtain ⟨w1, k1, k2⟩ := s_exchange (e := e) (n := n) (im := im) (u := u) (a := a) (b := b) hm h (by omega) hb
      obtain ⟨w', r1, r2⟩ := l_rv (e := e) (n := n) (im := im) (u := u) (x1 := x1) (x2 := x2) hm f _ w1 (a + 1) (b - 1) (by omega) (by omega) (by omega) k2
      refine ⟨w', z_go ((e_Contest_nextOrder_59 ..).trans ?_) r1, r2⟩
      rw [if_neg (ji_le_n (by omega) (by omega) (by omega)), k1, z_oV_s, ji_add, ji_add, show (b : Int) + -1 = ((b - 1 : Nat) : Int) by omega]
      rfl
theorem s_nextOrder {e n : Nat} {im : Nat → Option Nat} {w u : Nat → Nat → Int} {F : Nat → Int} {m : Nat} {wi : Nat → Nat → Int} (hm : 1 ≤ m ∧ m ≤ 5) (h5 : w 31 5 = (m : Int)) (h : k_Q 33 w m F wi) : ∃ w', (z_F (e + 3)).1 k_Contest_nextOrder [.ref 31] (n, z_q im, jM wi, jL u) = some (Int32.ofInt (if q_pv F (m - 1) = -1 then 0 else 1), jM w', jL u) ∧ k_Q 33 w m (q_nx F m) w' := by
  have e5 : ((jM wi, jL u) : zD).1 31 5 = Int32.ofInt (m : Int) := by rw [← h5, ← h.1 31 (by decide)]; rfl
  have he : z_ex none (z_F (e + 2)) cd_Contest_nextOrder 4000 (cd_Contest_nextOrder.drop 0) 0 [some (.ref 31), none, none, none, none] [] (n, z_q im, jM wi, jL u) = some (.inr (6, [some (.ref 31), some (.int (Int32.ofInt (((m - 1 : Nat) : Int) - 1))), none, none, none], [], (n, z_q im, jM wi, jL u))) := by
    refine (e_Contest_nextOrder_0 ..).trans ?_
    rw [e5, ji_sub, show (m : Int) - 2 = ((m - 1 : Nat) : Int) - 1 by omega]
  have hp := l_pv (e := e) (n := n) (im := im) (u := u) hm.2 h5 h (m - 1) (by omega)
  have hpb := q_pv_b F (m - 1)
  unfold q_nx
  by_cases q : q_pv F (m - 1) = -1
  · rw [if_pos q, if_pos q]
    exact ⟨wi, n_Contest_nextOrder (z_go he (hp.1 q)), h⟩
  · rw [if_neg q, if_neg q]
    obtain ⟨P, hP⟩ : ∃ P : Nat, q_pv F (m - 1) = (P : Int) := ⟨(q_pv F (m - 1)).toNat, by omega⟩
    have hp2 := hp.2 q
    rw [hP] at hp2 hpb ⊢
    rw [show ((P : Int)).toNat = P by omega]
    obtain ⟨w1, y1, y2⟩ := l_y (e := e) (n := n) (im := im) (u := u) (p := P) hm.2 h5 h (m - 1) (by omega) (by omega)
    have hyb := q_y_b F P (m - 1)
    obtain ⟨w', r1, r2⟩ := l_rv (e := e) (n := n) (im := im) (u := u) (x1 := Int32.ofInt (P : Int)) (x2 := Int32.ofInt ((q_y F P (m - 1) : Nat) : Int)) hm.2 5 _ w1 (P + 1) (m - 1) (by omega) (by omega) (by omega) y2
    refine ⟨w', n_Contest_nextOrder (z_go he (hp2 _ ?_)), r2⟩
    rw [show (m : Int) - 1 = ((m - 1 : Nat) : Int) by omega] at y1 ⊢
    exact y1 _ r1
