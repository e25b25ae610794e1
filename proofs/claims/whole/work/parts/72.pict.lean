/-! pictures -/
theorem lc_ge (x y : Int64) : 0 ≤ lg_cmp x y ↔ ¬ x < y := by rw [← lc_lt, Int32.not_lt]
def n_A (nm : Nat → Nat → Int64) (s : Int) (i : Nat) : Int := (nm s.toNat i).toInt
theorem n_A_q (nm : Nat → Nat → Int64) (s : Int) (i : Nat) : jQ (n_A nm s i) := ⟨Int64.le_toInt _, Int64.toInt_lt _⟩
theorem n_A_e (nm : Nat → Nat → Int64) (s : Int) (i : Nat) : nm s.toNat i = Int64.ofInt (n_A nm s i) := (jl_self _).symm
abbrev P_ok (v : Nat → Int) (nm : Nat → Nat → Int64) (s : Int) (p : Nat) : Prop := (0 ≤ (n_A nm s (3 * p)) ∧ (n_A nm s (3 * p)) < v 7) ∧ (0 ≤ (n_A nm s (3 * p + 1)) ∧ (n_A nm s (3 * p + 1)) < v 7) ∧ (0 ≤ (n_A nm s (3 * p + 2)) ∧ (n_A nm s (3 * p + 2)) ≤ 3) ∧ (n_A nm s (3 * p)) ≠ (n_A nm s (3 * p + 1))
def p_f (v : Nat → Int) (nm : Nat → Nat → Int64) (s : Int) (p : Nat) : Int := if P_ok v nm s p then -1 else 0
def F_p (v z : Nat → Int) (nm : Nat → Nat → Int64) (s : Int) : Int := if (0 ≤ s ∧ s ≤ 3) ∧ 2 ≤ v 6 then (if z s.toNat = -1 then -6 else if z s.toNat % 3 = 0 then (if a_f1 (p_f v nm s) 0 (z s.toNat / 3).toNat = -1 then 0 else -2) else -2) else -2
theorem F_p_b (v z : Nat → Int) (nm : Nat → Nat → Int64) (s : Int) : -6 ≤ F_p v z nm s ∧ F_p v z nm s ≤ 0 := by
  unfold F_p
  (repeat' split) <;> decide
theorem a_f1_n {p : Nat → Int} : ∀ (m x : Nat), a_f1 p x m = -1 → ∀ y, x ≤ y → y < x + m → p y = -1
  | 0, x, _, y, h1, h2 => by omega
  | m + 1, x, h, y, h1, h2 => by
    rw [a_f1_s] at h
    by_cases hp : p x = -1
    · rw [if_pos hp] at h
      by_cases hy : y = x
      · rw [hy]; exact hp
      · exact a_f1_n m (x + 1) h y (by omega) (by omega)
    · rw [if_neg hp] at h; exact absurd h hp
theorem F_p_0 {v z : Nat → Int} {nm : Nat → Nat → Int64} {s : Int} {wd : Nat → Int} (hws : w_s z wd nm) (h : F_p v z nm s = 0) : (0 ≤ s ∧ s ≤ 3) ∧ 2 ≤ v 6 ∧ ∃ N : Nat, N ≤ 20 ∧ z s.toNat = 3 * (N : Int) ∧ ∀ p, p < N → P_ok v nm s p := by
  unfold F_p at h
  by_cases h1 : (0 ≤ s ∧ s ≤ 3) ∧ 2 ≤ v 6
  · rw [if_pos h1] at h
    have hz := (hws s.toNat (by omega)).1
    by_cases h2 : z s.toNat = -1
    · rw [if_pos h2] at h; omega
    · rw [if_neg h2] at h
      by_cases h3 : z s.toNat % 3 = 0
      · rw [if_pos h3] at h
        by_cases h4 : a_f1 (p_f v nm s) 0 (z s.toNat / 3).toNat = -1
        · refine ⟨h1.1, h1.2, (z s.toNat / 3).toNat, by omega, by omega, fun p hp => ?_⟩
          have h5 := a_f1_n _ _ h4 p (by omega) (by omega)
          unfold p_f at h5
          by_cases h6 : P_ok v nm s p
          · exact h6
          · rw [if_neg h6] at h5; omega
        · rw [if_neg h4] at h; omega
      · rw [if_neg h3] at h; omega
  · rw [if_neg h1] at h; omega
theorem s_cat {e n : Nat} {im : Nat → Option Nat} {w u : Nat → Nat → Int} {z wd : Nat → Int} {nm : Nat → Nat → Int64} {s i : Int} (hs : c_s w u z wd nm) (hws : w_s z wd nm) (h1 : 0 ≤ s ∧ s ≤ 3) (hi : 0 ≤ i ∧ i < z s.toNat) : (z_F (e + 3)).2.1 k_Shelf_at [.ref 19, .int (Int32.ofInt s), .int (Int32.ofInt i)] (n, z_q im, jM w, jL u) = some (Int64.ofInt (n_A nm s i.toNat), jM w, jL u) := by
  have hz := (hws s.toNat (by omega)).1
  rw [s_shat h1 (by omega), (hs s.toNat (by omega)).2.2 i.toNat (by omega), n_A_e nm s i.toNat]
theorem s_mat {e n : Nat} {im : Nat → Option Nat} {w u : Nat → Nat → Int} {z wd : Nat → Int} {nm : Nat → Nat → Int64} {s i : Int} (hs : m_s w u z wd nm) (hws : w_s z wd nm) (h1 : 0 ≤ s ∧ s ≤ 3) (hi : 0 ≤ i ∧ i < z s.toNat) : (z_F (e + 1)).2.1 k_Model_numberAt [.ref 45, .int (Int32.ofInt s), .int (Int32.ofInt i)] (n, z_q im, jM w, jL u) = some (Int64.ofInt (n_A nm s i.toNat), jM w, jL u) := by
  have hz := (hws s.toNat (by omega)).1
  refine q_Model_numberAt ?_
  simp (disch := omega) only [ji_mul, ji_add, ji_lt0, ji_nat]
  rw [if_neg (by omega), show (60 * s + i).toNat = 60 * s.toNat + i.toNat by omega, (hs s.toNat (by omega)).2.2 i.toNat (by omega), n_A_e nm s i.toNat]
theorem ji_m3 {c : Int} (h0 : 0 ≤ c) (h9 : c ≤ 1000) : Int32.ofInt c - Int32.ofInt c / Int32.ofInt 3 * Int32.ofInt 3 = Int32.ofInt (c % 3) := by
  rw [ji_ediv h0 (by omega) (by decide) (by decide), ji_mul, ji_sub]
  congr 1
  omega
theorem x_pf {e n : Nat} {im : Nat → Option Nat} {w u : Nat → Nat → Int} {v z wd : Nat → Int} {nm : Nat → Nat → Int64} {s : Int} (hv : c_v w v) (hw : a_wf v) (hs : c_s w u z wd nm) (hws : w_s z wd nm) (hss : jR s) : (z_F (e + 4)).1 k_LongBoats_pictureFault [.ref 0, .int (Int32.ofInt s)] (n, z_q im, jM w, jL u) = some (Int32.ofInt (F_p v z nm s), jM w, jL u) := by
  obtain ⟨g0, g1, g2, g3, g4, g5, g6, g7, g8, g9, h5, h7, h9⟩ := id hv
  obtain ⟨f0, f1, f2, f3, f4, f5, f6, f7, f8, f9, f10, f11, f12⟩ := id hw
  unfold F_p
  have g37 : ((jM w, jL u) : zD).1 3 7 = Int32.ofInt (v 6) := by
    show Int32.ofInt (w 3 7) = _
    rw [g7]
  by_cases h1 : 0 ≤ s ∧ s ≤ 3
  · obtain ⟨o1, o2, o3⟩ := hs s.toNat (by omega)
    obtain ⟨p1, p2, p3⟩ := hws s.toNat (by omega)
    by_cases h2 : 2 ≤ v 6
    · rw [if_pos ⟨h1, h2⟩]
      have hE : (z_F (e + 3)).1 k_Shelf_isSlot [.int (Int32.ofInt s)] (n, z_q im, jM w, jL u) = some (Int32.ofInt (if 0 ≤ s ∧ s ≤ 3 then 1 else 0), jM w, jL u) := s_isSlot hss
      by_cases h3 : z s.toNat = -1
      · rw [if_pos h3]
        refine n_LongBoats_pictureFault (z_ret ((e_LongBoats_pictureFault_0 ..).trans ?_))
        rw [hE, z_oI_s, if_neg (ji_b_n h1), g37, if_pos (ji_le_p (by decide) (by omega) h2), s_hasRow h1 (by omega), z_oI_s, if_pos (ji_b_p (by rw [o1]; exact not_not_intro h3))]
      · rw [if_neg h3]
        by_cases h4 : z s.toNat % 3 = 0
        · rw [if_pos h4]
          have key := z_fnd (o := z_F (e + 3)) (cd := cd_LongBoats_pictureFault) (p := p_f v nm s) (P := fun p t => ∃ q3 q5 q7, t = (29, [some (.ref 0), some (.int (Int32.ofInt s)), some (.int (Int32.ofInt (3 * (p : Int)))), q3, none, q5, none, q7, none], (n, z_q im, jM w, jL u))) (Q := fun x r => r = (some (.int (Int32.ofInt (-2))), (n, z_q im, jM w, jL u))) (z s.toNat / 3).toNat 0 (29, [some (.ref 0), some (.int (Int32.ofInt s)), some (.int (Int32.ofInt (3 * ((0 : Nat) : Int)))), none, none, none, none, none, none], (n, z_q im, jM w, jL u)) ⟨none, none, none, rfl⟩ (fun p t hp1 hp2 hP => by
            obtain ⟨q3, q5, q7, rfl⟩ := hP
            have jA := n_A_q nm s (3 * p)
            have jB := n_A_q nm s (3 * p + 1)
            have jC := n_A_q nm s (3 * p + 2)
            have hx : z_ex none (z_F (e + 3)) cd_LongBoats_pictureFault 4000 (cd_LongBoats_pictureFault.drop 29) 29 [some (.ref 0), some (.int (Int32.ofInt s)), some (.int (Int32.ofInt (3 * (p : Int)))), q3, none, q5, none, q7, none] [] (n, z_q im, jM w, jL u) = if P_ok v nm s p then some (.inr (29, [some (.ref 0), some (.int (Int32.ofInt s)), some (.int (Int32.ofInt (3 * (p : Int) + 3))), some (.long (Int64.ofInt (n_A nm s (3 * p)))), none, some (.long (Int64.ofInt (n_A nm s (3 * p + 1)))), none, some (.long (Int64.ofInt (n_A nm s (3 * p + 2)))), none], [], (n, z_q im, jM w, jL u))) else some (.inl (some (.int (Int32.ofInt (-2))), (n, z_q im, jM w, jL u))) := by
              refine (e_LongBoats_pictureFault_29 ..).trans ?_
              rw [s_ssize h1, z_oI_s, o1, if_neg (ji_le_n (by omega) (by omega) (by omega)), s_cat hs hws h1 (by omega), z_oJ_s]
              simp only [ji_add]
              rw [s_cat hs hws h1 (by omega), z_oJ_s, s_cat hs hws h1 (by omega), z_oJ_s, show (3 * (p : Int)).toNat = 3 * p by omega, show (3 * (p : Int) + 1).toNat = 3 * p + 1 by omega, show (3 * (p : Int) + 2).toNat = 3 * p + 2 by omega]
              simp (disch := omega) only [jM_at, g8, kl_0, kl_4, jl_of, lc_lt, lc_ge, lc_gt, lc_eq, jl_lt, jl_eq]
              by_cases hok : P_ok v nm s p
              · rw [if_pos hok, if_neg (by omega), if_neg (by omega), if_neg (by omega), if_neg (by omega), if_neg (by omega), if_neg (by omega), if_neg (by omega)]
              · rw [if_neg hok]
                (repeat' split) <;> first | rfl | (exfalso; omega)
            by_cases hok : P_ok v nm s p
            · have hpe : p_f v nm s p = -1 := if_pos hok
              refine ⟨fun _ => ⟨(29, [some (.ref 0), some (.int (Int32.ofInt s)), some (.int (Int32.ofInt (3 * ((p + 1 : Nat) : Int)))), some (.long (Int64.ofInt (n_A nm s (3 * p)))), none, some (.long (Int64.ofInt (n_A nm s (3 * p + 1)))), none, some (.long (Int64.ofInt (n_A nm s (3 * p + 2)))), none], (n, z_q im, jM w, jL u)), z_To_1 (hx.trans ?_), _, _, _, rfl⟩, fun q => absurd hpe q⟩
              rw [if_pos hok, ic, Int.mul_add]
              rfl
            · have hpe : p_f v nm s p = 0 := if_neg hok
              rw [hpe]
              exact ⟨fun q => by omega, fun _ => ⟨_, z_ret (hx.trans (if_neg hok)), rfl⟩⟩)
          have he : z_ex none (z_F (e + 3)) cd_LongBoats_pictureFault 4000 (cd_LongBoats_pictureFault.drop 0) 0 [some (.ref 0), some (.int (Int32.ofInt s)), none, none, none, none, none, none, none] [] (n, z_q im, jM w, jL u) = some (.inr (29, [some (.ref 0), some (.int (Int32.ofInt s)), some (.int (Int32.ofInt (3 * ((0 : Nat) : Int)))), none, none, none, none, none, none], [], (n, z_q im, jM w, jL u))) := by
            refine (e_LongBoats_pictureFault_0 ..).trans ?_
            rw [hE, z_oI_s, if_neg (ji_b_n h1), g37, if_pos (ji_le_p (by decide) (by omega) h2), s_hasRow h1 (by omega), z_oI_s, if_neg (ji_b_n (by rw [o1]; exact h3)), s_ssize h1, z_oI_s, o1, ji_m3 (by omega) (by omega), if_pos (ji_eq0_p (by omega) h4)]
            rfl
          refine n_LongBoats_pictureFault (z_go he ?_)
          rcases key with ⟨k1, t, k2, q3, q5, q7, rfl⟩ | ⟨k1, r, k2, rfl⟩
          · refine k2 _ (z_ret ((e_LongBoats_pictureFault_29 ..).trans ?_))
            rw [if_pos k1, s_ssize h1, z_oI_s, o1, if_pos (ji_le_p (by omega) (by omega) (by omega))]
          · rw [if_neg k1]; exact k2
        · rw [if_neg h4]
          refine n_LongBoats_pictureFault (z_ret ((e_LongBoats_pictureFault_0 ..).trans ?_))
          rw [hE, z_oI_s, if_neg (ji_b_n h1), g37, if_pos (ji_le_p (by decide) (by omega) h2), s_hasRow h1 (by omega), z_oI_s, if_neg (ji_b_n (by rw [o1]; exact h3)), s_ssize h1, z_oI_s, o1, ji_m3 (by omega) (by omega), if_neg (ji_eq0_n (by omega) h4)]
    · rw [if_neg (fun q => h2 q.2)]
      refine n_LongBoats_pictureFault (z_ret ((e_LongBoats_pictureFault_0 ..).trans ?_))
      rw [s_isSlot hss, z_oI_s, if_neg (ji_b_n h1), g37, if_neg (ji_le_n (by decide) (by omega) h2)]
  · rw [if_neg (fun q => h1 q.1)]
    refine n_LongBoats_pictureFault (z_ret ((e_LongBoats_pictureFault_0 ..).trans ?_))
    rw [s_isSlot hss, z_oI_s, if_pos (ji_b_p h1)]
theorem m_pf {e n : Nat} {im : Nat → Option Nat} {w u : Nat → Nat → Int} {z wd : Nat → Int} {nm : Nat → Nat → Int64} {s b : Int} (hw : a_wf (w 46)) (hs : m_s w u z wd nm) (hws : w_s z wd nm) (hss : jR s) (hb : b = 0 ∨ b = 1) : (z_F (e + 4)).1 k_Model_asksPictures [.ref 45, .int (Int32.ofInt s), .int (Int32.ofInt b)] (n, z_q im, jM w, jL u) = some (Int32.ofInt (if b = 0 then -2 else F_p (w 46) z nm s), jM w, jL u) := by
  obtain ⟨f0, f1, f2, f3, f4, f5, f6, f7, f8, f9, f10, f11, f12⟩ := id hw
  unfold F_p
  have g37 : ((jM w, jL u) : zD).1 46 6 = Int32.ofInt (w 46 6) := rfl
  have hE : (z_F (e + 3)).1 k_Model_isSlot [.int (Int32.ofInt s)] (n, z_q im, jM w, jL u) = some (Int32.ofInt (if 0 ≤ s ∧ s ≤ 3 then 1 else 0), jM w, jL u) := s_misSlot hss
  by_cases h1 : 0 ≤ s ∧ s ≤ 3
  · obtain ⟨o1, o2, o3⟩ := hs s.toNat (by omega)
    obtain ⟨p1, p2, p3⟩ := hws s.toNat (by omega)
    have gs : ¬ (Int32.ofInt s < 0 ∨ 4 ≤ (Int32.ofInt s).toNatClampNeg) := by
      rw [ji_lt0 hss, ji_nat hss]
      omega
    have g61s : ((jM w, jL u) : zD).1 61 (Int32.ofInt s).toNatClampNeg = Int32.ofInt (z s.toNat) := by
      rw [ji_nat hss, ← o1]
      rfl
    by_cases h2 : 2 ≤ w 46 6
    · rw [if_pos (c := (0 ≤ s ∧ s ≤ 3) ∧ 2 ≤ w 46 6) ⟨h1, h2⟩]
      by_cases h0 : b = 0
      · rw [if_pos h0]
        refine n_Model_asksPictures (z_ret ((e_Model_asksPictures_0 ..).trans ?_))
        rw [hE, z_oI_s, if_neg (ji_b_n h1), g37, if_neg (ji_lt_n (by omega) (by decide) (by omega)), if_pos (ji_eq0_p (by omega) h0)]
      · rw [if_neg h0]
        by_cases h3 : z s.toNat = -1
        · rw [if_pos h3]
          refine n_Model_asksPictures (z_ret ((e_Model_asksPictures_0 ..).trans ?_))
          rw [hE, z_oI_s, if_neg (ji_b_n h1), g37, if_neg (ji_lt_n (by omega) (by decide) (by omega)), if_neg (ji_eq0_n (by omega) h0), if_neg gs, g61s, if_pos (ji_eq_p (by omega) (by decide) h3)]
        · rw [if_neg h3]
          by_cases h4 : z s.toNat % 3 = 0
          · rw [if_pos h4]
            have key := z_fnd (o := z_F (e + 3)) (cd := cd_Model_asksPictures) (p := p_f (w 46) nm s) (P := fun p t => t = (33, [some (.ref 45), some (.int (Int32.ofInt s)), some (.int (Int32.ofInt b)), some (.int (Int32.ofInt (3 * (p : Int))))], (n, z_q im, jM w, jL u))) (Q := fun x r => r = (some (.int (Int32.ofInt (-2))), (n, z_q im, jM w, jL u))) (z s.toNat / 3).toNat 0 (33, [some (.ref 45), some (.int (Int32.ofInt s)), some (.int (Int32.ofInt b)), some (.int (Int32.ofInt (3 * ((0 : Nat) : Int))))], (n, z_q im, jM w, jL u)) rfl (fun p t hp1 hp2 hP => by
              subst hP
              have jA := n_A_q nm s (3 * p)
              have jB := n_A_q nm s (3 * p + 1)
              have jC := n_A_q nm s (3 * p + 2)
              have r1 := s_mat (e := e + 2) (n := n) (im := im) (w := w) (u := u) (i := 3 * (p : Int)) hs hws h1 (by omega)
              have r2 := s_mat (e := e + 2) (n := n) (im := im) (w := w) (u := u) (i := 3 * (p : Int) + 1) hs hws h1 (by omega)
              have r3 := s_mat (e := e + 2) (n := n) (im := im) (w := w) (u := u) (i := 3 * (p : Int) + 2) hs hws h1 (by omega)
              rw [show (3 * (p : Int)).toNat = 3 * p by omega] at r1
              rw [show (3 * (p : Int) + 1).toNat = 3 * p + 1 by omega] at r2
              rw [show (3 * (p : Int) + 2).toNat = 3 * p + 2 by omega] at r3
              have hx : z_ex none (z_F (e + 3)) cd_Model_asksPictures 4000 (cd_Model_asksPictures.drop 33) 33 [some (.ref 45), some (.int (Int32.ofInt s)), some (.int (Int32.ofInt b)), some (.int (Int32.ofInt (3 * (p : Int))))] [] (n, z_q im, jM w, jL u) = if P_ok (w 46) nm s p then some (.inr (33, [some (.ref 45), some (.int (Int32.ofInt s)), some (.int (Int32.ofInt b)), some (.int (Int32.ofInt (3 * (p : Int) + 3)))], [], (n, z_q im, jM w, jL u))) else some (.inl (some (.int (Int32.ofInt (-2))), (n, z_q im, jM w, jL u))) := by
                refine (e_Model_asksPictures_33 ..).trans ?_
                rw [if_neg gs, g61s, if_neg (ji_le_n (by omega) (by omega) (by omega))]
                simp only [ji_add]
                rw [r1, z_oJ_s, s_isMan jA f7, z_oI_s]
                by_cases k1 : 0 ≤ (n_A nm s (3 * p)) ∧ (n_A nm s (3 * p)) < w 46 7
                · rw [if_neg (ji_b_n k1), r2, z_oJ_s, s_isMan jB f7, z_oI_s]
                  by_cases k2 : 0 ≤ (n_A nm s (3 * p + 1)) ∧ (n_A nm s (3 * p + 1)) < w 46 7
                  · rw [if_neg (ji_b_n k2), r1, z_oJ_s, r2, z_oJ_s]
                    by_cases k3 : (n_A nm s (3 * p)) = (n_A nm s (3 * p + 1))
                    · rw [if_pos ((lc_eq _ _).mpr ((jl_eq jA jB).mpr k3)), if_neg (fun q => q.2.2.2 k3)]
                    · rw [if_neg (fun q => k3 ((jl_eq jA jB).mp ((lc_eq _ _).mp q))), r3, z_oJ_s, kl_0, kl_4, s_in jC (by decide) (by decide), z_oI_s]
                      by_cases k4 : 0 ≤ (n_A nm s (3 * p + 2)) ∧ (n_A nm s (3 * p + 2)) ≤ 3
                      · rw [if_neg (ji_b_n k4), if_pos ⟨k1, k2, k4, k3⟩]
                      · rw [if_pos (ji_b_p k4), if_neg (fun q => k4 q.2.2.1)]
                  · rw [if_pos (ji_b_p k2), if_neg (fun q => k2 q.2.1)]
                · rw [if_pos (ji_b_p k1), if_neg (fun q => k1 q.1)]
              by_cases hok : P_ok (w 46) nm s p
              · have hpe : p_f (w 46) nm s p = -1 := if_pos hok
                refine ⟨fun _ => ⟨(33, [some (.ref 45), some (.int (Int32.ofInt s)), some (.int (Int32.ofInt b)), some (.int (Int32.ofInt (3 * ((p + 1 : Nat) : Int))))], (n, z_q im, jM w, jL u)), z_To_1 (hx.trans ?_), rfl⟩, fun q => absurd hpe q⟩
                rw [if_pos hok, ic, Int.mul_add]
                rfl
              · have hpe : p_f (w 46) nm s p = 0 := if_neg hok
                rw [hpe]
                exact ⟨fun q => by omega, fun _ => ⟨_, z_ret (hx.trans (if_neg hok)), rfl⟩⟩)
            have he : z_ex none (z_F (e + 3)) cd_Model_asksPictures 4000 (cd_Model_asksPictures.drop 0) 0 [some (.ref 45), some (.int (Int32.ofInt s)), some (.int (Int32.ofInt b)), none] [] (n, z_q im, jM w, jL u) = some (.inr (33, [some (.ref 45), some (.int (Int32.ofInt s)), some (.int (Int32.ofInt b)), some (.int (Int32.ofInt (3 * ((0 : Nat) : Int))))], [], (n, z_q im, jM w, jL u))) := by
              refine (e_Model_asksPictures_0 ..).trans ?_
              rw [hE, z_oI_s, if_neg (ji_b_n h1), g37, if_neg (ji_lt_n (by omega) (by decide) (by omega)), if_neg (ji_eq0_n (by omega) h0), if_neg gs, g61s, if_neg (ji_eq_n (by omega) (by decide) h3), if_neg gs, ji_m3 (by omega) (by omega), if_pos (ji_eq0_p (by omega) h4)]
              rfl
            refine n_Model_asksPictures (z_go he ?_)
            rcases key with ⟨k1, t, k2, rfl⟩ | ⟨k1, r, k2, rfl⟩
            · refine k2 _ (z_ret ((e_Model_asksPictures_33 ..).trans ?_))
              rw [if_pos k1, if_neg gs, g61s, if_pos (ji_le_p (by omega) (by omega) (by omega))]
            · rw [if_neg k1]; exact k2
          · rw [if_neg h4]
            refine n_Model_asksPictures (z_ret ((e_Model_asksPictures_0 ..).trans ?_))
            rw [hE, z_oI_s, if_neg (ji_b_n h1), g37, if_neg (ji_lt_n (by omega) (by decide) (by omega)), if_neg (ji_eq0_n (by omega) h0), if_neg gs, g61s, if_neg (ji_eq_n (by omega) (by decide) h3), if_neg gs, ji_m3 (by omega) (by omega), if_neg (ji_eq0_n (by omega) h4)]
    · rw [if_neg (c := (0 ≤ s ∧ s ≤ 3) ∧ 2 ≤ w 46 6) (fun q => h2 q.2)]
      refine n_Model_asksPictures (z_ret ((e_Model_asksPictures_0 ..).trans ?_))
      rw [hE, z_oI_s, if_neg (ji_b_n h1), g37, if_pos (ji_lt_p (by omega) (by decide) (by omega))]
      exact z_lf (by split <;> rfl)
  · rw [if_neg (c := (0 ≤ s ∧ s ≤ 3) ∧ 2 ≤ w 46 6) (fun q => h1 q.1)]
    refine n_Model_asksPictures (z_ret ((e_Model_asksPictures_0 ..).trans ?_))
    rw [hE, z_oI_s, if_pos (ji_b_p h1)]
    exact z_lf (by split <;> rfl)
