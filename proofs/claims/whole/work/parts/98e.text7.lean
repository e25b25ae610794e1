/-! the text read: the class's draft -/
abbrev zS := zR × (Nat → Int)
def fD (w w' : Nat → Nat → Int) : Prop := ∀ c, (c < 10 ∨ 17 < c) → w' c = w c
theorem fD_rf (w : Nat → Nat → Int) : fD w w := fun _ _ => rfl
theorem fD_tr {a b c : Nat → Nat → Int} (h : fD a b) (k : fD b c) : fD a c := fun d hd => (k d hd).trans (h d hd)
theorem fD_17 {w w' : Nat → Nat → Int} (h : f17 w w') : fD w w' := fun c hc => h c (by omega)
theorem fD_u {w : Nat → Nat → Int} {c j : Nat} {x : Int} (h : 10 ≤ c ∧ c ≤ 17) : fD w (z_u w c j x) := fun d hd => z_u_ne (by omega)
def S_c (w : Nat → Nat → Int) (U : Nat) (tp : Nat → Int) (s : zS) : Prop := Q_c w U tp s.1 ∧ c_h w 10 s.2
theorem c_h_17 {w w' : Nat → Nat → Int} {v : Nat → Int} (h : f17 w w') (k : c_h w 10 v) : c_h w' 10 v := c_h_cg k (h _ (by decide)) (h _ (by decide)) (h _ (by decide)) (h _ (by decide))
theorem Q_c_u {w : Nat → Nat → Int} {U : Nat} {tp : Nat → Int} {r : zR} {c j : Nat} {x : Int} (hc : 10 ≤ c ∧ c ≤ 16) (h : Q_c w U tp r) : Q_c (z_u w c j x) U tp r := by
  obtain ⟨⟨h1, h2⟩, h3, h4, h5⟩ := h
  refine ⟨⟨by rw [z_u_ne (by omega)]; exact h1, fun i hi => by rw [z_u_ne (by omega)]; exact h2 i hi⟩, ?_, ?_, h5⟩
  · rw [z_u_ne (by omega)]; exact h3
  · rw [z_u_ne (by omega)]; exact h4
theorem d_f0 {w : Nat → Nat → Int} {v : Nat → Int} {x : Int} (hv : c_h w 10 v) : c_h (z_u w 10 0 x) 10 (a_up v 9 x) := by
  obtain ⟨g0, g1, g2, g3, g4, g5, g6, g7, g8, g9, h5, h7, h9⟩ := id hv
  exact ⟨rfl, g1, g2, g3, g4, g5, g6, g7, g8, g9, fun j hj => by rw [a_up_ne (by omega)]; exact h5 j hj, fun j hj => by rw [a_up_ne (by omega)]; exact h7 j hj, fun j hj => by rw [a_up_ne (by omega)]; exact h9 j hj⟩
theorem S_f0 {w : Nat → Nat → Int} {U : Nat} {tp : Nat → Int} {r : zR} {v : Nat → Int} {x : Int} (h : S_c w U tp (r, v)) : S_c (z_u w 10 0 x) U tp (r, a_up v 9 x) := ⟨Q_c_u (by decide) h.1, d_f0 h.2⟩
theorem d_f1 {w : Nat → Nat → Int} {v : Nat → Int} {x : Int} (hv : c_h w 10 v) : c_h (z_u w 10 1 x) 10 (a_up v 0 x) := by
  obtain ⟨g0, g1, g2, g3, g4, g5, g6, g7, g8, g9, h5, h7, h9⟩ := id hv
  exact ⟨g0, rfl, g2, g3, g4, g5, g6, g7, g8, g9, fun j hj => by rw [a_up_ne (by omega)]; exact h5 j hj, fun j hj => by rw [a_up_ne (by omega)]; exact h7 j hj, fun j hj => by rw [a_up_ne (by omega)]; exact h9 j hj⟩
theorem S_f1 {w : Nat → Nat → Int} {U : Nat} {tp : Nat → Int} {r : zR} {v : Nat → Int} {x : Int} (h : S_c w U tp (r, v)) : S_c (z_u w 10 1 x) U tp (r, a_up v 0 x) := ⟨Q_c_u (by decide) h.1, d_f1 h.2⟩
theorem d_f2 {w : Nat → Nat → Int} {v : Nat → Int} {x : Int} (hv : c_h w 10 v) : c_h (z_u w 10 2 x) 10 (a_up v 1 x) := by
  obtain ⟨g0, g1, g2, g3, g4, g5, g6, g7, g8, g9, h5, h7, h9⟩ := id hv
  exact ⟨g0, g1, rfl, g3, g4, g5, g6, g7, g8, g9, fun j hj => by rw [a_up_ne (by omega)]; exact h5 j hj, fun j hj => by rw [a_up_ne (by omega)]; exact h7 j hj, fun j hj => by rw [a_up_ne (by omega)]; exact h9 j hj⟩
theorem S_f2 {w : Nat → Nat → Int} {U : Nat} {tp : Nat → Int} {r : zR} {v : Nat → Int} {x : Int} (h : S_c w U tp (r, v)) : S_c (z_u w 10 2 x) U tp (r, a_up v 1 x) := ⟨Q_c_u (by decide) h.1, d_f2 h.2⟩
theorem d_f3 {w : Nat → Nat → Int} {v : Nat → Int} {x : Int} (hv : c_h w 10 v) : c_h (z_u w 10 3 x) 10 (a_up v 2 x) := by
  obtain ⟨g0, g1, g2, g3, g4, g5, g6, g7, g8, g9, h5, h7, h9⟩ := id hv
  exact ⟨g0, g1, g2, rfl, g4, g5, g6, g7, g8, g9, fun j hj => by rw [a_up_ne (by omega)]; exact h5 j hj, fun j hj => by rw [a_up_ne (by omega)]; exact h7 j hj, fun j hj => by rw [a_up_ne (by omega)]; exact h9 j hj⟩
theorem S_f3 {w : Nat → Nat → Int} {U : Nat} {tp : Nat → Int} {r : zR} {v : Nat → Int} {x : Int} (h : S_c w U tp (r, v)) : S_c (z_u w 10 3 x) U tp (r, a_up v 2 x) := ⟨Q_c_u (by decide) h.1, d_f3 h.2⟩
theorem d_f4 {w : Nat → Nat → Int} {v : Nat → Int} {x : Int} (hv : c_h w 10 v) : c_h (z_u w 10 4 x) 10 (a_up v 3 x) := by
  obtain ⟨g0, g1, g2, g3, g4, g5, g6, g7, g8, g9, h5, h7, h9⟩ := id hv
  exact ⟨g0, g1, g2, g3, rfl, g5, g6, g7, g8, g9, fun j hj => by rw [a_up_ne (by omega)]; exact h5 j hj, fun j hj => by rw [a_up_ne (by omega)]; exact h7 j hj, fun j hj => by rw [a_up_ne (by omega)]; exact h9 j hj⟩
theorem S_f4 {w : Nat → Nat → Int} {U : Nat} {tp : Nat → Int} {r : zR} {v : Nat → Int} {x : Int} (h : S_c w U tp (r, v)) : S_c (z_u w 10 4 x) U tp (r, a_up v 3 x) := ⟨Q_c_u (by decide) h.1, d_f4 h.2⟩
theorem d_f5 {w : Nat → Nat → Int} {v : Nat → Int} {x : Int} (hv : c_h w 10 v) : c_h (z_u w 10 5 x) 10 (a_up v 4 x) := by
  obtain ⟨g0, g1, g2, g3, g4, g5, g6, g7, g8, g9, h5, h7, h9⟩ := id hv
  exact ⟨g0, g1, g2, g3, g4, rfl, g6, g7, g8, g9, fun j hj => by rw [a_up_ne (by omega)]; exact h5 j hj, fun j hj => by rw [a_up_ne (by omega)]; exact h7 j hj, fun j hj => by rw [a_up_ne (by omega)]; exact h9 j hj⟩
theorem S_f5 {w : Nat → Nat → Int} {U : Nat} {tp : Nat → Int} {r : zR} {v : Nat → Int} {x : Int} (h : S_c w U tp (r, v)) : S_c (z_u w 10 5 x) U tp (r, a_up v 4 x) := ⟨Q_c_u (by decide) h.1, d_f5 h.2⟩
theorem d_f6 {w : Nat → Nat → Int} {v : Nat → Int} {x : Int} (hv : c_h w 10 v) : c_h (z_u w 10 6 x) 10 (a_up v 5 x) := by
  obtain ⟨g0, g1, g2, g3, g4, g5, g6, g7, g8, g9, h5, h7, h9⟩ := id hv
  exact ⟨g0, g1, g2, g3, g4, g5, rfl, g7, g8, g9, fun j hj => by rw [a_up_ne (by omega)]; exact h5 j hj, fun j hj => by rw [a_up_ne (by omega)]; exact h7 j hj, fun j hj => by rw [a_up_ne (by omega)]; exact h9 j hj⟩
theorem S_f6 {w : Nat → Nat → Int} {U : Nat} {tp : Nat → Int} {r : zR} {v : Nat → Int} {x : Int} (h : S_c w U tp (r, v)) : S_c (z_u w 10 6 x) U tp (r, a_up v 5 x) := ⟨Q_c_u (by decide) h.1, d_f6 h.2⟩
theorem d_f7 {w : Nat → Nat → Int} {v : Nat → Int} {x : Int} (hv : c_h w 10 v) : c_h (z_u w 10 7 x) 10 (a_up v 6 x) := by
  obtain ⟨g0, g1, g2, g3, g4, g5, g6, g7, g8, g9, h5, h7, h9⟩ := id hv
  exact ⟨g0, g1, g2, g3, g4, g5, g6, rfl, g8, g9, fun j hj => by rw [a_up_ne (by omega)]; exact h5 j hj, fun j hj => by rw [a_up_ne (by omega)]; exact h7 j hj, fun j hj => by rw [a_up_ne (by omega)]; exact h9 j hj⟩
theorem S_f7 {w : Nat → Nat → Int} {U : Nat} {tp : Nat → Int} {r : zR} {v : Nat → Int} {x : Int} (h : S_c w U tp (r, v)) : S_c (z_u w 10 7 x) U tp (r, a_up v 6 x) := ⟨Q_c_u (by decide) h.1, d_f7 h.2⟩
theorem d_f8 {w : Nat → Nat → Int} {v : Nat → Int} {x : Int} (hv : c_h w 10 v) : c_h (z_u w 10 8 x) 10 (a_up v 7 x) := by
  obtain ⟨g0, g1, g2, g3, g4, g5, g6, g7, g8, g9, h5, h7, h9⟩ := id hv
  exact ⟨g0, g1, g2, g3, g4, g5, g6, g7, rfl, g9, fun j hj => by rw [a_up_ne (by omega)]; exact h5 j hj, fun j hj => by rw [a_up_ne (by omega)]; exact h7 j hj, fun j hj => by rw [a_up_ne (by omega)]; exact h9 j hj⟩
theorem S_f8 {w : Nat → Nat → Int} {U : Nat} {tp : Nat → Int} {r : zR} {v : Nat → Int} {x : Int} (h : S_c w U tp (r, v)) : S_c (z_u w 10 8 x) U tp (r, a_up v 7 x) := ⟨Q_c_u (by decide) h.1, d_f8 h.2⟩
theorem d_f9 {w : Nat → Nat → Int} {v : Nat → Int} {x : Int} (hv : c_h w 10 v) : c_h (z_u w 10 9 x) 10 (a_up v 8 x) := by
  obtain ⟨g0, g1, g2, g3, g4, g5, g6, g7, g8, g9, h5, h7, h9⟩ := id hv
  exact ⟨g0, g1, g2, g3, g4, g5, g6, g7, g8, rfl, fun j hj => by rw [a_up_ne (by omega)]; exact h5 j hj, fun j hj => by rw [a_up_ne (by omega)]; exact h7 j hj, fun j hj => by rw [a_up_ne (by omega)]; exact h9 j hj⟩
theorem S_f9 {w : Nat → Nat → Int} {U : Nat} {tp : Nat → Int} {r : zR} {v : Nat → Int} {x : Int} (h : S_c w U tp (r, v)) : S_c (z_u w 10 9 x) U tp (r, a_up v 8 x) := ⟨Q_c_u (by decide) h.1, d_f9 h.2⟩
theorem d_12 {w : Nat → Nat → Int} {v : Nat → Int} {k q : Nat} {x : Int} (hv : c_h w 10 v) (hk : k < 8) (hq : q = 10 + k) : c_h (z_u w 12 k x) 10 (a_up v q x) := by
  subst hq
  obtain ⟨g0, g1, g2, g3, g4, g5, g6, g7, g8, g9, h5, h7, h9⟩ := id hv
  unfold c_h
  have n3 : ∀ j, z_u w 12 k x 10 j = w 10 j := fun j => rfl
  have lo : ∀ i, i < 10 → a_up v (10 + k) x i = v i := fun i hi => a_up_ne (by omega)
  rw [n3, n3, n3, n3, n3, n3, n3, n3, n3, n3, lo 0 (by decide), lo 1 (by decide), lo 2 (by decide), lo 3 (by decide), lo 4 (by decide), lo 5 (by decide), lo 6 (by decide), lo 7 (by decide), lo 8 (by decide), lo 9 (by decide)]
  refine ⟨g0, g1, g2, g3, g4, g5, g6, g7, g8, g9, fun j hj => ?_, fun j hj => ?_, fun j hj => ?_⟩
  · show z_u w 12 k x 12 j = _
    rw [z_u_at]
    unfold a_up
    by_cases h : j = k
    · rw [if_pos h, if_pos (by omega)]
    · rw [if_neg h, if_neg (by omega)]; exact h5 j hj
  · rw [z_u_ne (by decide), a_up_ne (by omega)]; exact h7 j hj
  · rw [z_u_ne (by decide), a_up_ne (by omega)]; exact h9 j hj
theorem S_12 {w : Nat → Nat → Int} {U : Nat} {tp : Nat → Int} {r : zR} {v : Nat → Int} {k q : Nat} {x : Int} (h : S_c w U tp (r, v)) (hk : k < 8) (hq : q = 10 + k) : S_c (z_u w 12 k x) U tp (r, a_up v q x) := ⟨Q_c_u (by decide) h.1, d_12 h.2 hk hq⟩
theorem d_14 {w : Nat → Nat → Int} {v : Nat → Int} {k q : Nat} {x : Int} (hv : c_h w 10 v) (hk : k < 60) (hq : q = 18 + k) : c_h (z_u w 14 k x) 10 (a_up v q x) := by
  subst hq
  obtain ⟨g0, g1, g2, g3, g4, g5, g6, g7, g8, g9, h5, h7, h9⟩ := id hv
  unfold c_h
  have n3 : ∀ j, z_u w 14 k x 10 j = w 10 j := fun j => rfl
  have lo : ∀ i, i < 10 → a_up v (18 + k) x i = v i := fun i hi => a_up_ne (by omega)
  rw [n3, n3, n3, n3, n3, n3, n3, n3, n3, n3, lo 0 (by decide), lo 1 (by decide), lo 2 (by decide), lo 3 (by decide), lo 4 (by decide), lo 5 (by decide), lo 6 (by decide), lo 7 (by decide), lo 8 (by decide), lo 9 (by decide)]
  refine ⟨g0, g1, g2, g3, g4, g5, g6, g7, g8, g9, fun j hj => ?_, fun j hj => ?_, fun j hj => ?_⟩
  · rw [z_u_ne (by decide), a_up_ne (by omega)]; exact h5 j hj
  · show z_u w 14 k x 14 j = _
    rw [z_u_at]
    unfold a_up
    by_cases h : j = k
    · rw [if_pos h, if_pos (by omega)]
    · rw [if_neg h, if_neg (by omega)]; exact h7 j hj
  · rw [z_u_ne (by decide), a_up_ne (by omega)]; exact h9 j hj
theorem S_14 {w : Nat → Nat → Int} {U : Nat} {tp : Nat → Int} {r : zR} {v : Nat → Int} {k q : Nat} {x : Int} (h : S_c w U tp (r, v)) (hk : k < 60) (hq : q = 18 + k) : S_c (z_u w 14 k x) U tp (r, a_up v q x) := ⟨Q_c_u (by decide) h.1, d_14 h.2 hk hq⟩
theorem d_16 {w : Nat → Nat → Int} {v : Nat → Int} {k q : Nat} {x : Int} (hv : c_h w 10 v) (hk : k < 28) (hq : q = 78 + k) : c_h (z_u w 16 k x) 10 (a_up v q x) := by
  subst hq
  obtain ⟨g0, g1, g2, g3, g4, g5, g6, g7, g8, g9, h5, h7, h9⟩ := id hv
  unfold c_h
  have n3 : ∀ j, z_u w 16 k x 10 j = w 10 j := fun j => rfl
  have lo : ∀ i, i < 10 → a_up v (78 + k) x i = v i := fun i hi => a_up_ne (by omega)
  rw [n3, n3, n3, n3, n3, n3, n3, n3, n3, n3, lo 0 (by decide), lo 1 (by decide), lo 2 (by decide), lo 3 (by decide), lo 4 (by decide), lo 5 (by decide), lo 6 (by decide), lo 7 (by decide), lo 8 (by decide), lo 9 (by decide)]
  refine ⟨g0, g1, g2, g3, g4, g5, g6, g7, g8, g9, fun j hj => ?_, fun j hj => ?_, fun j hj => ?_⟩
  · rw [z_u_ne (by decide), a_up_ne (by omega)]; exact h5 j hj
  · rw [z_u_ne (by decide), a_up_ne (by omega)]; exact h7 j hj
  · show z_u w 16 k x 16 j = _
    rw [z_u_at]
    unfold a_up
    by_cases h : j = k
    · rw [if_pos h, if_pos (by omega)]
    · rw [if_neg h, if_neg (by omega)]; exact h9 j hj
theorem S_16 {w : Nat → Nat → Int} {U : Nat} {tp : Nat → Int} {r : zR} {v : Nat → Int} {k q : Nat} {x : Int} (h : S_c w U tp (r, v)) (hk : k < 28) (hq : q = 78 + k) : S_c (z_u w 16 k x) U tp (r, a_up v q x) := ⟨Q_c_u (by decide) h.1, d_16 h.2 hk hq⟩
theorem S_nx {e n : Nat} {im : Nat → Option Nat} {w u : Nat → Nat → Int} {U : Nat} {tp : Nat → Int} {r : zR} {v : Nat → Int} (hw : T_w U tp) (hQ : S_c w U tp (r, v)) : ∃ w', (z_F (e + 2)).2.2.1 k_Reader_nextToken [.ref 17] (n, z_q im, jM w, jL u) = some (jM w', jL u) ∧ S_c w' U tp (A_nx U tp r, v) ∧ fD w w' := by
  obtain ⟨w1, k1, k2, k3⟩ := s_nx (e := e) (n := n) (im := im) (u := u) hw hQ.1
  exact ⟨w1, k1, ⟨k2, c_h_17 k3 hQ.2⟩, fD_17 k3⟩
theorem S_fl {e n : Nat} {im : Nat → Option Nat} {w u : Nat → Nat → Int} {U : Nat} {tp : Nat → Int} {r : zR} {v : Nat → Int} {k : Int} (hk : 1 ≤ k ∧ k ≤ 3) (hQ : S_c w U tp (r, v)) : ∃ w', (z_F (e + 1)).2.2.1 k_Reader_fail [.ref 17, .int (Int32.ofInt k)] (n, z_q im, jM w, jL u) = some (jM w', jL u) ∧ S_c w' U tp (A_fl k r, v) ∧ fD w w' := by
  obtain ⟨w1, k1, k2, k3⟩ := s_fl (e := e) (n := n) (im := im) (u := u) hk hQ.1
  exact ⟨w1, k1, ⟨k2, c_h_17 k3 hQ.2⟩, fD_17 k3⟩
theorem S_wo {e n : Nat} {im : Nat → Option Nat} {w u : Nat → Nat → Int} {U : Nat} {tp : Nat → Int} {r : zR} {v : Nat → Int} (s : Nat) (hs : 1 ≤ s) (hl : (z_tx s).length ≤ 100) (hw : T_w U tp) (hQ : S_c w U tp (r, v)) : ∃ w', (z_F (e + 3)).2.2.1 k_Reader_word [.ref 17, .ref (z_sb + s)] (n, z_q im, jM w, jL u) = some (jM w', jL u) ∧ S_c w' U tp (A_wo U tp (z_tx s) r, v) ∧ fD w w' := by
  obtain ⟨w1, k1, k2, k3⟩ := s_wo (e := e) (n := n) (im := im) (u := u) hs hl hw hQ.1
  exact ⟨w1, k1, ⟨k2, c_h_17 k3 hQ.2⟩, fD_17 k3⟩
theorem S_si {e n : Nat} {im : Nat → Option Nat} {w u : Nat → Nat → Int} {U : Nat} {tp : Nat → Int} {r : zR} {v : Nat → Int} (hw : T_w U tp) (hQ : S_c w U tp (r, v)) : ∃ w', (z_F (e + 3)).2.2.1 k_Reader_sign [.ref 17] (n, z_q im, jM w, jL u) = some (jM w', jL u) ∧ S_c w' U tp (A_si U tp r, v) ∧ fD w w' := by
  obtain ⟨w1, k1, k2, k3⟩ := s_si (e := e) (n := n) (im := im) (u := u) hw hQ.1
  exact ⟨w1, k1, ⟨k2, c_h_17 k3 hQ.2⟩, fD_17 k3⟩
theorem S_nu {e n : Nat} {im : Nat → Option Nat} {w u : Nat → Nat → Int} {U : Nat} {tp : Nat → Int} {r : zR} {v : Nat → Int} (lo hi : Int) (hlo : jR lo) (hhi : jR hi) (hw : T_w U tp) (hQ : S_c w U tp (r, v)) : ∃ w', (z_F (e + 3)).1 k_Reader_number [.ref 17, .int (Int32.ofInt lo), .int (Int32.ofInt hi)] (n, z_q im, jM w, jL u) = some (Int32.ofInt (A_vl lo hi r), jM w', jL u) ∧ S_c w' U tp (A_nu U tp lo hi r, v) ∧ fD w w' := by
  obtain ⟨w1, k1, k2, k3⟩ := s_nu (e := e) (n := n) (im := im) (u := u) hlo hhi hw hQ.1
  exact ⟨w1, k1, ⟨k2, c_h_17 k3 hQ.2⟩, fD_17 k3⟩
/-- a word, then a number, told into a place -/
def A_to (U : Nat) (tp : Nat → Int) (nm : List Int32) (lo hi : Int) (j : Nat) (s : zS) : zS := (A_nu U tp lo hi (A_wo U tp nm s.1), a_up s.2 j (A_vl lo hi (A_wo U tp nm s.1)))
theorem S_to {e n : Nat} {im : Nat → Option Nat} {w u : Nat → Nat → Int} {U : Nat} {tp : Nat → Int} {r : zR} {v : Nat → Int} (s : Nat) (hs : 1 ≤ s) (hl : (z_tx s).length ≤ 100) (lo hi : Int) (hlo : jR lo) (hhi : jR hi) (hw : T_w U tp) (hQ : S_c w U tp (r, v)) : ∃ w1 w2, (z_F (e + 3)).2.2.1 k_Reader_word [.ref 17, .ref (z_sb + s)] (n, z_q im, jM w, jL u) = some (jM w1, jL u) ∧ (z_F (e + 3)).1 k_Reader_number [.ref 17, .int (Int32.ofInt lo), .int (Int32.ofInt hi)] (n, z_q im, jM w1, jL u) = some (Int32.ofInt (A_vl lo hi (A_wo U tp (z_tx s) r)), jM w2, jL u) ∧ S_c w2 U tp (A_nu U tp lo hi (A_wo U tp (z_tx s) r), v) ∧ fD w w2 ∧ c_h w1 10 v := by
  obtain ⟨w1, k1, k2, k3⟩ := S_wo (e := e) (n := n) (im := im) (u := u) s hs hl hw hQ
  obtain ⟨w2, l1, l2, l3⟩ := S_nu (e := e) (n := n) (im := im) (u := u) lo hi hlo hhi hw k2
  exact ⟨w1, w2, k1, l1, l2, fD_tr k3 l3, k2.2⟩
theorem s_setGear_10 {e n : Nat} {im : Nat → Option Nat} {w u : Nat → Nat → Int} {a j x : Int} (h0 : 0 ≤ a) (h9 : a ≤ 3) (j0 : 0 ≤ j) (j5 : j ≤ 1) : (z_F (e + 2)).2.2.1 k_Harbour_setGear [.ref 10, .int (Int32.ofInt a), .int (Int32.ofInt j), .int (Int32.ofInt x)] (n, z_q im, jM w, jL u) = some (jM (z_u w 12 (2 * a.toNat + j.toNat) x), jL u) := by
  refine q_Harbour_setGear_10 ?_
  rw [ji_mul, ji_add, s_set_11 (by omega) (by omega), z_oV_s, show (a * 2 + j).toNat = 2 * a.toNat + j.toNat by omega]
theorem s_setTrait_10 {e n : Nat} {im : Nat → Option Nat} {w u : Nat → Nat → Int} {a j x : Int} (h0 : 0 ≤ a) (h9 : a ≤ 9) (j0 : 0 ≤ j) (j5 : j ≤ 5) : (z_F (e + 2)).2.2.1 k_Harbour_setTrait [.ref 10, .int (Int32.ofInt a), .int (Int32.ofInt j), .int (Int32.ofInt x)] (n, z_q im, jM w, jL u) = some (jM (z_u w 14 (6 * a.toNat + j.toNat) x), jL u) := by
  refine q_Harbour_setTrait_10 ?_
  rw [ji_mul, ji_add, s_set_13 (by omega) (by omega), z_oV_s, show (a * 6 + j).toNat = 6 * a.toNat + j.toNat by omega]
theorem s_setMate_10 {e n : Nat} {im : Nat → Option Nat} {w u : Nat → Nat → Int} {a j x : Int} (h0 : 0 ≤ a) (h9 : a ≤ 3) (j0 : 0 ≤ j) (j5 : j ≤ 4) : (z_F (e + 2)).2.2.1 k_Harbour_setMate [.ref 10, .int (Int32.ofInt a), .int (Int32.ofInt j), .int (Int32.ofInt x)] (n, z_q im, jM w, jL u) = some (jM (z_u w 16 (7 * a.toNat + 2 + j.toNat) x), jL u) := by
  refine q_Harbour_setMate_10 ?_
  rw [ji_mul, ji_add, ji_add, s_set_15 (by omega) (by omega), z_oV_s, show (a * 7 + 2 + j).toNat = 7 * a.toNat + 2 + j.toNat by omega]
theorem s_setBoatOf_10 {e n : Nat} {im : Nat → Option Nat} {w u : Nat → Nat → Int} {a x : Int} (h0 : 0 ≤ a) (h9 : a ≤ 3) : (z_F (e + 2)).2.2.1 k_Harbour_setBoatOf [.ref 10, .int (Int32.ofInt a), .int (Int32.ofInt x)] (n, z_q im, jM w, jL u) = some (jM (z_u w 16 (7 * a.toNat) x), jL u) := by
  refine q_Harbour_setBoatOf_10 ?_
  rw [ji_mul, s_set_15 (by omega) (by omega), z_oV_s, show (a * 7).toNat = 7 * a.toNat by omega]
theorem s_sizeOf_10 {e n : Nat} {im : Nat → Option Nat} {w u : Nat → Nat → Int} {a : Int} (h0 : 0 ≤ a) (h9 : a ≤ 3) : (z_F (e + 2)).1 k_Harbour_sizeOf [.ref 10, .int (Int32.ofInt a)] (n, z_q im, jM w, jL u) = some (Int32.ofInt (w 16 (7 * a.toNat + 1)), jM w, jL u) := by
  refine q_Harbour_sizeOf_10 ?_
  rw [ji_mul, ji_add, s_at_15 (by omega), z_oI_s, if_pos (by omega), show (a * 7 + 1).toNat = 7 * a.toNat + 1 by omega]
theorem s_mate_10 {e n : Nat} {im : Nat → Option Nat} {w u : Nat → Nat → Int} {a i : Int} (h0 : 0 ≤ a) (h9 : a ≤ 3) (h1 : 0 ≤ i) (h2 : i ≤ 4) : (z_F (e + 2)).1 k_Harbour_mate [.ref 10, .int (Int32.ofInt a), .int (Int32.ofInt i)] (n, z_q im, jM w, jL u) = some (Int32.ofInt (w 16 (7 * a.toNat + 2 + i.toNat)), jM w, jL u) := by
  refine q_Harbour_mate_10 ?_
  rw [ji_mul, ji_add, ji_add, s_at_15 (by omega), z_oI_s, if_pos (by omega), show (a * 7 + 2 + i).toNat = 7 * a.toNat + 2 + i.toNat by omega]
theorem s_addMate_10 {e n : Nat} {im : Nat → Option Nat} {w u : Nat → Nat → Int} {a x k : Int} (h0 : 0 ≤ a) (h9 : a ≤ 3) (hk : w 16 (7 * a.toNat + 1) = k) (k0 : 0 ≤ k) (k4 : k ≤ 4) : (z_F (e + 3)).2.2.1 k_Harbour_addMate [.ref 10, .int (Int32.ofInt a), .int (Int32.ofInt x)] (n, z_q im, jM w, jL u) = some (jM (z_u (z_u w 16 (7 * a.toNat + 2 + k.toNat) x) 16 (7 * a.toNat + 1) (k + 1)), jL u) := by
  refine q_Harbour_addMate_10 ?_
  rw [s_sizeOf_10 h0 h9, z_oI_s, hk, s_setMate_10 h0 h9 k0 k4, z_oV_s, ji_mul, ji_add, ji_add, s_set_15 (by omega) (by omega), z_oV_s, show (a * 7 + 1).toNat = 7 * a.toNat + 1 by omega]
/-- is a man told of in the team that is being told -/
def t_im (v : Nat → Int) (x : Int) : Bool := decide (∃ i, i < (v (78 + 7 * (v 8).toNat + 1)).toNat ∧ v (78 + 7 * (v 8).toNat + 2 + i) = x)
theorem l_im {e n : Nat} {im : Nat → Option Nat} {w u : Nat → Nat → Int} {v : Nat → Int} {x : Int} (hv : c_h w 10 v) (h8 : 0 ≤ v 8 ∧ v 8 ≤ 3) (hk : 0 ≤ v (78 + 7 * (v 8).toNat + 1) ∧ v (78 + 7 * (v 8).toNat + 1) ≤ 5) (hm : ∀ i : Nat, (i : Int) < v (78 + 7 * (v 8).toNat + 1) → jR (v (78 + 7 * (v 8).toNat + 2 + i))) (hx : jR x) : ∀ (f i : Nat), (i : Int) + (f : Int) = v (78 + 7 * (v 8).toNat + 1) → (∀ j, j < i → ¬ v (78 + 7 * (v 8).toNat + 2 + j) = x) → z_Rn (z_F (e + 2)) cd_Harbour_isMate 3 [some (.ref 10), some (.int (Int32.ofInt (v 8))), some (.int (Int32.ofInt x)), some (.int (Int32.ofInt (i : Int)))] (n, z_q im, jM w, jL u) (some (.int (Int32.ofInt (if t_im v x = true then 1 else 0))), (n, z_q im, jM w, jL u))
  | 0, i, hi, hj => by
    have h9 := hv.2.2.2.2.2.2.2.2.2.2.2.2 (7 * (v 8).toNat + 1) (by omega)
    have hno : ¬ t_im v x = true := fun q => by
      obtain ⟨i', h1, h2⟩ := of_decide_eq_true q
      exact hj i' (by omega) h2
    refine z_ret ((e_Harbour_isMate_10_3 ..).trans ?_)
    rw [s_sizeOf_10 (by omega) (by omega), z_oI_s, h9, show 78 + (7 * (v 8).toNat + 1) = 78 + 7 * (v 8).toNat + 1 by omega, if_pos (ji_le_p (by omega) (by omega) (by omega)), if_neg hno]
  | f + 1, i, hi, hj => by
    have h9 := hv.2.2.2.2.2.2.2.2.2.2.2.2 (7 * (v 8).toNat + 1) (by omega)
    have h9' := hv.2.2.2.2.2.2.2.2.2.2.2.2 (7 * (v 8).toNat + 2 + i) (by omega)
    have hmi := hm i (by omega)
    by_cases hc : v (78 + 7 * (v 8).toNat + 2 + i) = x
    · have hy : t_im v x = true := decide_eq_true ⟨i, by omega, hc⟩
      refine z_ret ((e_Harbour_isMate_10_3 ..).trans ?_)
      rw [s_sizeOf_10 (by omega) (by omega), z_oI_s, h9, show 78 + (7 * (v 8).toNat + 1) = 78 + 7 * (v 8).toNat + 1 by omega, if_neg (ji_le_n (by omega) (by omega) (by omega)), s_mate_10 (by omega) (by omega) (by omega) (by omega), z_oI_s, show ((i : Int)).toNat = i by omega, h9', show 78 + (7 * (v 8).toNat + 2 + i) = 78 + 7 * (v 8).toNat + 2 + i by omega, if_pos (ji_eq_p hmi hx hc), if_pos hy]
    · refine z_go ((e_Harbour_isMate_10_3 ..).trans ?_) (l_im hv h8 hk hm hx f (i + 1) (by omega) (fun j hj' => ?_))
      · rw [s_sizeOf_10 (by omega) (by omega), z_oI_s, h9, show 78 + (7 * (v 8).toNat + 1) = 78 + 7 * (v 8).toNat + 1 by omega, if_neg (ji_le_n (by omega) (by omega) (by omega)), s_mate_10 (by omega) (by omega) (by omega) (by omega), z_oI_s, show ((i : Int)).toNat = i by omega, h9', show 78 + (7 * (v 8).toNat + 2 + i) = 78 + 7 * (v 8).toNat + 2 + i by omega, if_neg (ji_eq_n hmi hx hc), ji_add]
        rfl
      · by_cases h : j = i
        · rw [h]; exact hc
        · exact hj j (by omega)
theorem s_im {e n : Nat} {im : Nat → Option Nat} {w u : Nat → Nat → Int} {v : Nat → Int} {x : Int} (hv : c_h w 10 v) (h8 : 0 ≤ v 8 ∧ v 8 ≤ 3) (hk : 0 ≤ v (78 + 7 * (v 8).toNat + 1) ∧ v (78 + 7 * (v 8).toNat + 1) ≤ 5) (hm : ∀ i : Nat, (i : Int) < v (78 + 7 * (v 8).toNat + 1) → jR (v (78 + 7 * (v 8).toNat + 2 + i))) (hx : jR x) : (z_F (e + 3)).1 k_Harbour_isMate [.ref 10, .int (Int32.ofInt (v 8)), .int (Int32.ofInt x)] (n, z_q im, jM w, jL u) = some (Int32.ofInt (if t_im v x = true then 1 else 0), jM w, jL u) :=
  n_Harbour_isMate_10 (z_go (e_Harbour_isMate_10_0 ..) (l_im hv h8 hk hm hx (v (78 + 7 * (v 8).toNat + 1)).toNat 0 (by omega) (fun j hj => by omega)))
