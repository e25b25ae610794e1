/-! what holds between two calls -/
def H_i (h : Nat) (im : Nat → Option Nat) : Prop := im (h + 1) = some (h + 2) ∧ im (2000 + h) = some (h + 1) ∧ im (h + 3) = some (h + 4) ∧ im (2200 + h) = some (h + 3) ∧ im (h + 5) = some (h + 6) ∧ im (2400 + h) = some (h + 5)
theorem H_i_h {h : Nat} {im : Nat → Option Nat} (k : H_i h im) : z_h h im = im := by
  unfold z_h
  rw [z_v_self k.1, z_v_self k.2.1, z_v_self k.2.2.1, z_v_self k.2.2.2.1, z_v_self k.2.2.2.2.1, z_v_self k.2.2.2.2.2]
def i_cn (hs : Nat → Bool) : Nat := (if hs 0 then 1 else 0) + (if hs 1 then 1 else 0) + (if hs 2 then 1 else 0)
def J_i (n : Nat) (im : Nat → Option Nat) (w : Nat → Nat → Int) : Prop := ∃ (hs : Nat → Bool) (iv : Nat → Nat → Int) (a : Nat → Nat), I_m w hs iv ∧ n = 65 + 7 * i_cn hs ∧ (∀ k, k < 3 → hs k = true → a k < i_cn hs ∧ im (200 * k + 18) = some (65 + 7 * a k) ∧ H_i (65 + 7 * a k) im ∧ c_h w (65 + 7 * a k) (iv k) ∧ a_wf (iv k) ∧ a_p1 (iv k)) ∧ (∀ k, k < 3 → hs k = false → im (200 * k + 18) = none) ∧ ∀ i j, i < 3 → j < 3 → i ≠ j → hs i = true → hs j = true → a i ≠ a j
def J_v (w : Nat → Nat → Int) : Prop := c_v w (w 46) ∧ a_wf (w 46) ∧ a_p1 (w 46)
def J_s (w u : Nat → Nat → Int) : Prop := ∃ z wd nm, c_s w u z wd nm ∧ m_s w u z wd nm ∧ w_s z wd nm
def J_t (w : Nat → Nat → Int) : Prop := ∃ U tp, T_c w U tp ∧ T_m w U tp ∧ T_w U tp
def Jf_ (w : Nat → Nat → Int) : Prop := w 17 6 = w 45 12 ∧ w 17 7 = w 45 13
def J_a (n : Nat) (im : Nat → Option Nat) (w u : Nat → Nat → Int) : Prop := J_v w ∧ J_s w u ∧ J_t w ∧ Jf_ w ∧ J_i n im w
theorem J_v_fr {w w' : Nat → Nat → Int} (h : J_v w) (h3 : w' 3 = w 3) (h5 : w' 5 = w 5) (h7 : w' 7 = w 7) (h9 : w' 9 = w 9) (h46 : w' 46 = w 46) : J_v w' := by
  unfold J_v c_v at *
  rw [h3, h5, h7, h9, h46]
  exact h
theorem c_s_f {w u w' u' : Nat → Nat → Int} {z wd : Nat → Int} {nm : Nat → Nat → Int64} (h : c_s w u z wd nm) (h1 : w' 24 = w 24) (h2 : w' 22 = w 22) (h3 : u' 20 = u 20) : c_s w' u' z wd nm := fun s hs => by
  have := h s hs
  unfold jL at this ⊢
  rw [h1, h2, h3]
  exact this
theorem m_s_f {w u w' u' : Nat → Nat → Int} {z wd : Nat → Int} {nm : Nat → Nat → Int64} (h : m_s w u z wd nm) (h1 : w' 61 = w 61) (h2 : w' 62 = w 62) (h3 : u' 63 = u 63) : m_s w' u' z wd nm := fun s hs => by
  have := h s hs
  unfold jL at this ⊢
  rw [h1, h2, h3]
  exact this
theorem J_s_fr {w u w' u' : Nat → Nat → Int} (h : J_s w u) (h1 : w' 24 = w 24) (h2 : w' 22 = w 22) (h3 : u' 20 = u 20) (h4 : w' 61 = w 61) (h5 : w' 62 = w 62) (h6 : u' 63 = u 63) : J_s w' u' := by
  obtain ⟨z, wd, nm, a, b, c⟩ := h
  exact ⟨z, wd, nm, c_s_f a h1 h2 h3, m_s_f b h4 h5 h6, c⟩
theorem T_c_fr {w w' : Nat → Nat → Int} {U : Nat} {tp : Nat → Int} (h : T_c w U tp) (h1 : w' 1 = w 1) (h2 : w' 2 = w 2) : T_c w' U tp := ⟨by rw [h1]; exact h.1, fun j hj => by rw [h2]; exact h.2 j hj⟩
theorem T_m_fr {w w' : Nat → Nat → Int} {U : Nat} {tp : Nat → Int} (h : T_m w U tp) (h1 : w' 45 5 = w 45 5) (h2 : w' 49 = w 49) : T_m w' U tp := ⟨by rw [h1]; exact h.1, fun j hj => by rw [h2]; exact h.2 j hj⟩
theorem J_t_fr {w w' : Nat → Nat → Int} (h : J_t w) (h1 : w' 1 = w 1) (h2 : w' 2 = w 2) (h3 : w' 45 5 = w 45 5) (h4 : w' 49 = w 49) : J_t w' := by
  obtain ⟨U, tp, a, b, c⟩ := h
  exact ⟨U, tp, T_c_fr a h1 h2, T_m_fr b h3 h4, c⟩
theorem Jf_fr {w w' : Nat → Nat → Int} (h : Jf_ w) (h1 : w' 17 = w 17) (h2 : w' 45 12 = w 45 12) (h3 : w' 45 13 = w 45 13) : Jf_ w' := by
  unfold Jf_ at *
  rw [h1, h2, h3]
  exact h
theorem I_m_fr {w w' : Nat → Nat → Int} {hs : Nat → Bool} {iv : Nat → Nat → Int} (h : I_m w hs iv) (h1 : w' 47 = w 47) (h2 : w' 48 = w 48) : I_m w' hs iv := by
  unfold I_m at *
  rw [h1, h2]
  exact h
theorem J_i_fr {n : Nat} {im : Nat → Option Nat} {w w' : Nat → Nat → Int} (h : J_i n im w) (h1 : w' 47 = w 47) (h2 : w' 48 = w 48) (h3 : ∀ c, 65 ≤ c → w' c = w c) : J_i n im w' := by
  obtain ⟨hs, iv, a, b1, b2, b3, b4, b5⟩ := h
  refine ⟨hs, iv, a, I_m_fr b1 h1 h2, b2, fun k hk ht => ?_, b4, b5⟩
  obtain ⟨d1, d2, d3, d4, d5⟩ := b3 k hk ht
  exact ⟨d1, d2, d3, c_h_cg d4 (h3 _ (by omega)) (h3 _ (by omega)) (h3 _ (by omega)) (h3 _ (by omega)), d5⟩
theorem J_q {n : Nat} {im : Nat → Option Nat} {w w1 w2 u u2 : Nat → Nat → Int} (hJ : J_a n im w u) (hc : c_fr w w1) (hm : m_fr w1 w2) (hu : ∀ c, c ≠ 30 → c ≠ 45 → u2 c = u c) : J_a n im w2 u2 := by
  obtain ⟨j1, j2, j3, j4, j5⟩ := hJ
  have k : ∀ c, c ∉ [25, 26, 27, 29, 30, 31, 33, 35, 37, 39, 41, 44] → c ∉ [45, 52, 53, 54, 55, 56, 57, 58, 59, 60] → w2 c = w c := fun c h1 h2 => (hm.1 c h2).trans (hc c h1)
  have k45 : ∀ j, j < 15 → w2 45 j = w 45 j := fun j hj => by rw [hm.2 j hj, hc 45 (by decide)]
  refine ⟨J_v_fr j1 (k 3 (by decide) (by decide)) (k 5 (by decide) (by decide)) (k 7 (by decide) (by decide)) (k 9 (by decide) (by decide)) (k 46 (by decide) (by decide)), J_s_fr j2 (k 24 (by decide) (by decide)) (k 22 (by decide) (by decide)) (hu 20 (by decide) (by decide)) (k 61 (by decide) (by decide)) (k 62 (by decide) (by decide)) (hu 63 (by decide) (by decide)), J_t_fr j3 (k 1 (by decide) (by decide)) (k 2 (by decide) (by decide)) (k45 5 (by decide)) (k 49 (by decide) (by decide)), Jf_fr j4 (k 17 (by decide) (by decide)) (k45 12 (by decide)) (k45 13 (by decide)), J_i_fr j5 (k 47 (by decide) (by decide)) (k 48 (by decide) (by decide)) (fun c hc => k c (fun h => ?_) (fun h => ?_))⟩
  · simp only [List.mem_cons, List.not_mem_nil, or_false] at h; omega
  · simp only [List.mem_cons, List.not_mem_nil, or_false] at h; omega
theorem J_set {n : Nat} {im : Nat → Option Nat} {w w1 w2 u : Nat → Nat → Int} {v' : Nat → Int} (hJ : J_a n im w u) (h1 : c_v w1 v') (h2 : c_fr2 w w1) (h3 : w2 46 = v') (h4 : ∀ c, c ≠ 46 → w2 c = w1 c) (h5 : a_wf v') (h6 : a_p1 v') : J_a n im w2 u := by
  obtain ⟨j1, j2, j3, j4, j5⟩ := hJ
  have k : ∀ c, c ∉ [3, 5, 7, 9] → c ≠ 46 → w2 c = w c := fun c g1 g2 => (h4 c g2).trans (h2 c g1)
  refine ⟨?_, J_s_fr j2 (k 24 (by decide) (by decide)) (k 22 (by decide) (by decide)) rfl (k 61 (by decide) (by decide)) (k 62 (by decide) (by decide)) rfl, J_t_fr j3 (k 1 (by decide) (by decide)) (k 2 (by decide) (by decide)) (by rw [k 45 (by decide) (by decide)]) (k 49 (by decide) (by decide)), Jf_fr j4 (k 17 (by decide) (by decide)) (by rw [k 45 (by decide) (by decide)]) (by rw [k 45 (by decide) (by decide)]), J_i_fr j5 (k 47 (by decide) (by decide)) (k 48 (by decide) (by decide)) (fun c hc => k c (fun h => ?_) (by omega))⟩
  · unfold J_v
    rw [h3]
    refine ⟨?_, h5, h6⟩
    unfold c_v at h1 ⊢
    rw [h4 3 (by decide), h4 5 (by decide), h4 7 (by decide), h4 9 (by decide)]
    exact h1
  · simp only [List.mem_cons, List.not_mem_nil, or_false] at h; omega
