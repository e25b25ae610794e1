/-! slots: rows of numbers -/
def J_cut (wd : Int) (x : Int64) : Int64 := if wd = 0 then Int32.toInt64 (Int8.toInt32 (Int32.toInt8 (Int64.toInt32 x))) else if wd = 1 then Int32.toInt64 (Int16.toInt32 (Int32.toInt16 (Int64.toInt32 x))) else if wd = 2 then Int32.toInt64 (Int64.toInt32 x) else x
theorem J_cut_i (wd : Int) (x : Int64) : J_cut wd (J_cut wd x) = J_cut wd x := by
  unfold J_cut
  (repeat' split) <;> simp
theorem J_cut_0 (wd : Int) : J_cut wd 0 = 0 := by
  unfold J_cut
  (repeat' split) <;> rfl
def c_s (w u : Nat → Nat → Int) (z wd : Nat → Int) (nm : Nat → Nat → Int64) : Prop := ∀ s : Nat, s < 4 → w 24 s = z s ∧ w 22 s = wd s ∧ ∀ i : Nat, (i : Int) < z s → jL u 20 (60 * s + i) = nm s i
def m_s (w u : Nat → Nat → Int) (z wd : Nat → Int) (nm : Nat → Nat → Int64) : Prop := ∀ s : Nat, s < 4 → w 61 s = z s ∧ w 62 s = wd s ∧ ∀ i : Nat, (i : Int) < z s → jL u 63 (60 * s + i) = nm s i
def w_s (z wd : Nat → Int) (nm : Nat → Nat → Int64) : Prop := ∀ s : Nat, s < 4 → (-1 ≤ z s ∧ z s ≤ 60) ∧ (0 ≤ wd s ∧ wd s ≤ 3) ∧ ∀ i : Nat, (i : Int) < z s → J_cut (wd s) (nm s i) = nm s i
theorem s_cutTo {e n : Nat} {im : Nat → Option Nat} {d : zD} {wd : Int} {x : Int64} (hw : jR wd) : (z_F (e + 1)).2.1 k_Shelf_cutTo [.int (Int32.ofInt wd), .long x] (n, z_q im, d) = some (J_cut wd x, d) := by
  refine q_Shelf_cutTo ?_
  unfold J_cut
  rw [ji_toInt hw]
  (repeat' split) <;> rfl
theorem s_isSlot {e n : Nat} {im : Nat → Option Nat} {d : zD} {s : Int} (hs : jR s) : (z_F (e + 1)).1 k_Shelf_isSlot [.int (Int32.ofInt s)] (n, z_q im, d) = some (Int32.ofInt (if 0 ≤ s ∧ s ≤ 3 then 1 else 0), d) := by
  refine q_Shelf_isSlot ?_
  simp (disch := omega) only [ji_lt0, ji_le]
  (repeat' split) <;> first | rfl | (exfalso; omega)
theorem s_misSlot {e n : Nat} {im : Nat → Option Nat} {d : zD} {s : Int} (hs : jR s) : (z_F (e + 2)).1 k_Model_isSlot [.int (Int32.ofInt s)] (n, z_q im, d) = some (Int32.ofInt (if 0 ≤ s ∧ s ≤ 3 then 1 else 0), d) := by
  refine q_Model_isSlot ?_
  rw [jl_of hs, kl_0, kl_4, s_in (by omega) (by decide) (by decide), z_oI_s, if_pos ((ji_bb _).mpr trivial)]
theorem s_ssize {e n : Nat} {im : Nat → Option Nat} {w u : Nat → Nat → Int} {s : Int} (hs : 0 ≤ s ∧ s ≤ 3) : (z_F (e + 2)).1 k_Shelf_size [.ref 19, .int (Int32.ofInt s)] (n, z_q im, jM w, jL u) = some (Int32.ofInt (w 24 s.toNat), jM w, jL u) := by
  refine q_Shelf_size ?_
  rw [s_at_23 (by omega), z_oI_s, if_pos (by omega)]
theorem s_swidth {e n : Nat} {im : Nat → Option Nat} {w u : Nat → Nat → Int} {s : Int} (hs : 0 ≤ s ∧ s ≤ 3) : (z_F (e + 2)).1 k_Shelf_width [.ref 19, .int (Int32.ofInt s)] (n, z_q im, jM w, jL u) = some (Int32.ofInt (w 22 s.toNat), jM w, jL u) := by
  refine q_Shelf_width ?_
  rw [s_at_21 (by omega), z_oI_s, if_pos (by omega)]
theorem s_hasRow {e n : Nat} {im : Nat → Option Nat} {w u : Nat → Nat → Int} {s : Int} (hs : 0 ≤ s ∧ s ≤ 3) (hz : jR (w 24 s.toNat)) : (z_F (e + 2)).1 k_Shelf_hasRow [.ref 19, .int (Int32.ofInt s)] (n, z_q im, jM w, jL u) = some (Int32.ofInt (if w 24 s.toNat ≠ -1 then 1 else 0), jM w, jL u) := by
  refine q_Shelf_hasRow ?_
  rw [s_isSlot (by omega), z_oI_s, if_neg (ji_b_n hs), s_at_23 (by omega), z_oI_s, if_pos (c := 0 ≤ s ∧ s < 4) (by omega)]
  by_cases h : w 24 s.toNat = -1
  · rw [if_pos (ji_eq_p hz (by decide) h), if_neg (not_not_intro h)]
  · rw [if_neg (ji_eq_n hz (by decide) h), if_pos h]
theorem s_isPlace {e n : Nat} {im : Nat → Option Nat} {d : zD} {s i : Int} (hs : 0 ≤ s ∧ s ≤ 3) (hi : 0 ≤ i ∧ i ≤ 59) : (z_F (e + 2)).1 k_Shelf_isPlace [.int (Int32.ofInt s), .int (Int32.ofInt i)] (n, z_q im, d) = some (Int32.ofInt 1, d) := by
  refine q_Shelf_isPlace ?_
  rw [s_isSlot (by omega), z_oI_s, if_neg (ji_b_n hs)]
  simp (disch := omega) only [ji_lt0, ji_le]
  rw [if_neg (by omega), if_neg (by omega)]
theorem s_shat {e n : Nat} {im : Nat → Option Nat} {w u : Nat → Nat → Int} {s i : Int} (hs : 0 ≤ s ∧ s ≤ 3) (hi : 0 ≤ i ∧ i ≤ 59) : (z_F (e + 3)).2.1 k_Shelf_at [.ref 19, .int (Int32.ofInt s), .int (Int32.ofInt i)] (n, z_q im, jM w, jL u) = some (jL u 20 (60 * s.toNat + i.toNat), jM w, jL u) := by
  refine q_Shelf_at ?_
  rw [s_isPlace hs hi, z_oI_s, if_neg jc_1]
  simp (disch := omega) only [ji_mul, ji_add, ji_lt0, ji_nat]
  rw [if_neg (by omega), show (s * 60 + i).toNat = 60 * s.toNat + i.toNat by omega]
theorem jl_self (x : Int64) : Int64.ofInt x.toInt = x := Int64.ofInt_toInt x
theorem s_shset {e n : Nat} {im : Nat → Option Nat} {w u : Nat → Nat → Int} {s i : Int} {x : Int64} (hs : 0 ≤ s ∧ s ≤ 3) (hi : 0 ≤ i ∧ i ≤ 59) (hwd : 0 ≤ w 22 s.toNat ∧ w 22 s.toNat ≤ 3) : (z_F (e + 3)).2.2.1 k_Shelf_set [.ref 19, .int (Int32.ofInt s), .int (Int32.ofInt i), .long x] (n, z_q im, jM w, jL u) = some (jM w, jL (z_u u 20 (60 * s.toNat + i.toNat) (J_cut (w 22 s.toNat) x).toInt)) := by
  refine q_Shelf_set ?_
  rw [s_isPlace hs hi, z_oI_s, if_neg jc_1, s_swidth hs, z_oI_s, s_cutTo (by omega), z_oJ_s]
  simp (disch := omega) only [ji_mul, ji_add, ji_lt0, ji_nat]
  rw [if_neg (by omega), show (s * 60 + i).toNat = 60 * s.toNat + i.toNat by omega, ← jL_u, jl_self]
theorem jL_z (u : Nat → Nat → Int) (k j m : Nat) (x : Int64) : jL (z_u u k j x.toInt) k m = if m = j then x else jL u k m := by
  show Int64.ofInt (z_u u k j x.toInt k m) = _
  rw [z_u_at]
  split
  · exact jl_self x
  · rfl
def V_row (s w n : Int) : Int := if (0 ≤ s ∧ s ≤ 3) ∧ (0 ≤ w ∧ w ≤ 3) ∧ n ≤ 60 then (if 0 ≤ n then 0 else -3) else -2
abbrev a_rwc (s w n : Int) : Prop := (0 ≤ s ∧ s ≤ 3) ∧ (0 ≤ w ∧ w ≤ 3) ∧ (0 ≤ n ∧ n ≤ 60)
def Z_row (z : Nat → Int) (s w n : Int) : Nat → Int := if a_rwc s w n then a_up z s.toNat n else z
def W_row (wd : Nat → Int) (s w n : Int) : Nat → Int := if a_rwc s w n then a_up wd s.toNat w else wd
def N_row (nm : Nat → Nat → Int64) (s w n : Int) : Nat → Nat → Int64 := if a_rwc s w n then (fun t i => if t = s.toNat then 0 else nm t i) else nm
theorem w_row {z wd : Nat → Int} {nm : Nat → Nat → Int64} (h : w_s z wd nm) (s w n : Int) : w_s (Z_row z s w n) (W_row wd s w n) (N_row nm s w n) := by
  unfold Z_row W_row N_row
  by_cases hc : a_rwc s w n
  · rw [if_pos hc, if_pos hc, if_pos hc]
    intro t ht
    obtain ⟨h1, h2, h3⟩ := h t ht
    unfold a_up
    by_cases hts : t = s.toNat
    · simp only [if_pos hts]
      exact ⟨by omega, by omega, fun i _ => J_cut_0 _⟩
    · simp only [if_neg hts]
      exact ⟨h1, h2, h3⟩
  · rw [if_neg hc, if_neg hc, if_neg hc]
    exact h
def u_fr (k : Nat) (u u' : Nat → Nat → Int) : Prop := ∀ c, c ≠ k → u' c = u c
theorem x_row {e n : Nat} {im : Nat → Option Nat} {w u : Nat → Nat → Int} {z wd : Nat → Int} {nm : Nat → Nat → Int64} {s k m : Int} (hs : c_s w u z wd nm) (hw : w_s z wd nm) (hk : jR k) (hm : jR m) (hss : jR s) : ∃ w' u', (z_F (e + 20)).1 k_LongBoats_row [.ref 0, .int (Int32.ofInt s), .int (Int32.ofInt k), .int (Int32.ofInt m)] (n, z_q im, jM w, jL u) = some (Int32.ofInt (V_row s k m), jM w', jL u') ∧ c_s w' u' (Z_row z s k m) (W_row wd s k m) (N_row nm s k m) ∧ (∀ c, c ≠ 22 → c ≠ 24 → w' c = w c) ∧ u_fr 20 u u' := by
  unfold V_row Z_row W_row N_row
  by_cases h1 : 0 ≤ s ∧ s ≤ 3
  · by_cases h2 : 0 ≤ k ∧ k ≤ 3
    · by_cases h3 : m ≤ 60
      · by_cases h4 : 0 ≤ m
        · have hc : a_rwc s k m := ⟨h1, h2, h4, h3⟩
          rw [if_pos ⟨h1, h2, h3⟩, if_pos h4, if_pos hc, if_pos hc, if_pos hc]
          have hwd : 0 ≤ z_u (z_u w 22 s.toNat k) 24 s.toNat m 22 s.toNat ∧ z_u (z_u w 22 s.toNat k) 24 s.toNat m 22 s.toNat ≤ 3 := by
            rw [z_u_ne (by decide), z_u_at, if_pos rfl]
            exact h2
          obtain ⟨t, ht, uf, rfl, i1, i2, i3⟩ := z_for (o := z_F (e + 18)) (cd := cd_Shelf_lay) (P := fun i t => ∃ ui, t = (13, [some (.ref 19), some (.int (Int32.ofInt s)), some (.int (Int32.ofInt k)), some (.int (Int32.ofInt m)), some (.int (Int32.ofInt (i : Int)))], (n, z_q im, jM (z_u (z_u w 22 s.toNat k) 24 s.toNat m), jL ui)) ∧ u_fr 20 u ui ∧ (∀ q : Nat, q < 60 * s.toNat ∨ 60 * s.toNat + 60 ≤ q → ui 20 q = u 20 q) ∧ ∀ j : Nat, j < i → jL ui 20 (60 * s.toNat + j) = 0) m.toNat (s := (13, [some (.ref 19), some (.int (Int32.ofInt s)), some (.int (Int32.ofInt k)), some (.int (Int32.ofInt m)), some (.int (Int32.ofInt 0))], (n, z_q im, jM (z_u (z_u w 22 s.toNat k) 24 s.toNat m), jL u))) ⟨u, rfl, fun _ _ => rfl, fun _ _ => rfl, fun j hj => absurd hj (by omega)⟩ (fun i t hi hP => by
            obtain ⟨ui, rfl, i1, i2, i3⟩ := hP
            refine ⟨(13, [some (.ref 19), some (.int (Int32.ofInt s)), some (.int (Int32.ofInt k)), some (.int (Int32.ofInt m)), some (.int (Int32.ofInt ((i : Int) + 1)))], (n, z_q im, jM (z_u (z_u w 22 s.toNat k) 24 s.toNat m), jL (z_u ui 20 (60 * s.toNat + (i : Int).toNat) (J_cut (z_u (z_u w 22 s.toNat k) 24 s.toNat m 22 s.toNat) 0).toInt))), z_To_1 ((e_Shelf_lay_13 ..).trans ?_), _, rfl, fun c hc => ?_, fun q hq => ?_, fun j hj => ?_⟩
            · rw [if_neg (ji_le_n hm (by omega) (by omega)), kl_0, show Int64.ofInt 0 = (0 : Int64) from rfl, s_shset h1 (by omega) hwd, z_oV_s, ji_add]
            · rw [z_u_ne hc]; exact i1 c hc
            · rw [z_u_at, if_neg (by omega)]; exact i2 q hq
            · rw [jL_z, J_cut_0]
              split
              · rfl
              · exact i3 j (by omega))
          have hl : (z_F (e + 19)).2.2.1 k_Shelf_lay [.ref 19, .int (Int32.ofInt s), .int (Int32.ofInt k), .int (Int32.ofInt m)] (n, z_q im, jM w, jL u) = some (jM (z_u (z_u w 22 s.toNat k) 24 s.toNat m), jL uf) := by
            refine n_Shelf_lay (z_go ((e_Shelf_lay_0 ..).trans ?_) (ht _ (z_ret ((e_Shelf_lay_13 ..).trans ?_))))
            · rw [s_set_21 (by omega) (by omega), z_oV_s, s_set_23 (by omega) (by omega), z_oV_s]
            · rw [if_pos (ji_le_p hm (by omega) (by omega))]
          refine ⟨z_u (z_u w 22 s.toNat k) 24 s.toNat m, uf, q_LongBoats_row ?_, fun t ht => ?_, fun c c1 c2 => ?_, i1⟩
          · rw [s_isSlot hss, z_oI_s, if_neg (ji_b_n h1), s_within hk (by decide) (by decide), z_oI_s, if_neg (ji_b_n h2), if_pos (ji_le_p hm (by decide) h3), if_pos ((ji_0le hm).mpr h4), hl, z_oV_s]
          · obtain ⟨o1, o2, o3⟩ := hs t ht
            obtain ⟨p1, p2, p3⟩ := hw t ht
            have e1 : z_u (z_u w 22 s.toNat k) 24 s.toNat m 24 t = if t = s.toNat then m else w 24 t := by rw [z_u_at, z_u_ne (by decide)]
            have e2 : z_u (z_u w 22 s.toNat k) 24 s.toNat m 22 t = if t = s.toNat then k else w 22 t := by rw [z_u_ne (by decide), z_u_at]
            rw [e1, e2]
            unfold a_up
            by_cases hts : t = s.toNat
            · simp only [if_pos hts]
              refine ⟨by first | rfl | trivial, by first | rfl | trivial, fun i hi => ?_⟩
              rw [hts]
              exact i3 i (by omega)
            · simp only [if_neg hts]
              refine ⟨o1, o2, fun i hi => ?_⟩
              rw [← o3 i hi]
              show Int64.ofInt (uf 20 (60 * t + i)) = Int64.ofInt (u 20 (60 * t + i))
              rw [i2 _ (by omega)]
          · rw [z_u_ne c2, z_u_ne c1]
        · have hc : ¬ a_rwc s k m := fun q => h4 q.2.2.1
          rw [if_pos ⟨h1, h2, h3⟩, if_neg h4, if_neg hc, if_neg hc, if_neg hc]
          refine ⟨w, u, q_LongBoats_row ?_, hs, fun _ _ _ => rfl, fun _ _ => rfl⟩
          rw [s_isSlot hss, z_oI_s, if_neg (ji_b_n h1), s_within hk (by decide) (by decide), z_oI_s, if_neg (ji_b_n h2), if_pos (ji_le_p hm (by decide) h3), if_neg (fun q => h4 ((ji_0le hm).mp q))]
      · have hc : ¬ a_rwc s k m := fun q => h3 q.2.2.2
        rw [if_neg (fun q => h3 q.2.2), if_neg hc, if_neg hc, if_neg hc]
        refine ⟨w, u, q_LongBoats_row ?_, hs, fun _ _ _ => rfl, fun _ _ => rfl⟩
        rw [s_isSlot hss, z_oI_s, if_neg (ji_b_n h1), s_within hk (by decide) (by decide), z_oI_s, if_neg (ji_b_n h2), if_neg (ji_le_n hm (by decide) h3)]
    · have hc : ¬ a_rwc s k m := fun q => h2 q.2.1
      rw [if_neg (fun q => h2 q.2.1), if_neg hc, if_neg hc, if_neg hc]
      refine ⟨w, u, q_LongBoats_row ?_, hs, fun _ _ _ => rfl, fun _ _ => rfl⟩
      rw [s_isSlot hss, z_oI_s, if_neg (ji_b_n h1), s_within hk (by decide) (by decide), z_oI_s, if_pos (ji_b_p h2)]
  · have hc : ¬ a_rwc s k m := fun q => h1 q.1
    rw [if_neg (fun q => h1 q.1), if_neg hc, if_neg hc, if_neg hc]
    refine ⟨w, u, q_LongBoats_row ?_, hs, fun _ _ _ => rfl, fun _ _ => rfl⟩
    rw [s_isSlot hss, z_oI_s, if_pos (ji_b_p h1)]
def u_fr2 (u u' : Nat → Nat → Int) : Prop := ∀ c, c ≠ 63 → c ≠ 64 → u' c = u c
theorem m_row {e n : Nat} {im : Nat → Option Nat} {w u : Nat → Nat → Int} {z wd : Nat → Int} {nm : Nat → Nat → Int64} {s k m : Int} (hs : m_s w u z wd nm) (hw : w_s z wd nm) (hk : jR k) (hm : jR m) (hss : jR s) : ∃ w' u', (z_F (e + 20)).1 k_Model_row [.ref 45, .int (Int32.ofInt s), .int (Int32.ofInt k), .int (Int32.ofInt m)] (n, z_q im, jM w, jL u) = some (Int32.ofInt (V_row s k m), jM w', jL u') ∧ m_s w' u' (Z_row z s k m) (W_row wd s k m) (N_row nm s k m) ∧ (∀ c, c ≠ 61 → c ≠ 62 → w' c = w c) ∧ u_fr2 u u' := by
  unfold V_row Z_row W_row N_row
  by_cases h1 : 0 ≤ s ∧ s ≤ 3
  · by_cases h2 : 0 ≤ k ∧ k ≤ 3
    · by_cases h3 : m ≤ 60
      · by_cases h4 : 0 ≤ m
        · have hc : a_rwc s k m := ⟨h1, h2, h4, h3⟩
          rw [if_pos ⟨h1, h2, h3⟩, if_pos h4, if_pos hc, if_pos hc, if_pos hc]
          obtain ⟨t, ht, uf, rfl, i1, i2, i3⟩ := z_for (o := z_F (e + 19)) (cd := cd_Model_row) (P := fun i t => ∃ ui, t = (31, [some (.ref 45), some (.int (Int32.ofInt s)), some (.int (Int32.ofInt k)), some (.int (Int32.ofInt m)), some (.int (Int32.ofInt (i : Int)))], (n, z_q im, jM (z_u (z_u w 61 s.toNat m) 62 s.toNat k), jL ui)) ∧ u_fr2 u ui ∧ (∀ q : Nat, q < 60 * s.toNat ∨ 60 * s.toNat + 60 ≤ q → ui 63 q = u 63 q) ∧ ∀ j : Nat, j < i → ui 63 (60 * s.toNat + j) = 0) 60 (s := (31, [some (.ref 45), some (.int (Int32.ofInt s)), some (.int (Int32.ofInt k)), some (.int (Int32.ofInt m)), some (.int (Int32.ofInt 0))], (n, z_q im, jM (z_u (z_u w 61 s.toNat m) 62 s.toNat k), jL u))) ⟨u, rfl, fun _ _ _ => rfl, fun _ _ => rfl, fun j hj => absurd hj (by omega)⟩ (fun i t hi hP => by
            obtain ⟨ui, rfl, i1, i2, i3⟩ := hP
            refine ⟨(31, [some (.ref 45), some (.int (Int32.ofInt s)), some (.int (Int32.ofInt k)), some (.int (Int32.ofInt m)), some (.int (Int32.ofInt ((i : Int) + 1)))], (n, z_q im, jM (z_u (z_u w 61 s.toNat m) 62 s.toNat k), jL (z_u ui 63 (60 * s.toNat + i) 0))), z_To_1 ((e_Model_row_31 ..).trans ?_), _, rfl, fun c c1 c2 => ?_, fun q hq => ?_, fun j hj => ?_⟩
            · simp (disch := omega) only [ji_le, ji_mul, ji_add, ji_lt0, ji_nat, kl_0, jL_u]
              rw [if_neg (by omega), if_neg (by omega), show (60 * s + (i : Int)).toNat = 60 * s.toNat + i by omega]
            · rw [z_u_ne c1]; exact i1 c c1 c2
            · rw [z_u_at, if_neg (by omega)]; exact i2 q hq
            · rw [z_u_at]
              split
              · rfl
              · exact i3 j (by omega))
          refine ⟨z_u (z_u w 61 s.toNat m) 62 s.toNat k, uf, n_Model_row (z_go ((e_Model_row_0 ..).trans ?_) (ht _ (z_ret ((e_Model_row_31 ..).trans ?_)))), fun t ht => ?_, fun c c1 c2 => ?_, i1⟩
          · rw [s_misSlot hss, z_oI_s, if_neg (ji_b_n h1), jl_of hk, kl_0, kl_4, s_in (by omega) (by decide) (by decide), z_oI_s, if_neg (ji_b_n h2), if_pos (ji_le_p hm (by decide) h3), if_pos ((ji_0le hm).mpr h4)]
            simp (disch := omega) only [ji_lt0, ji_nat, jM_u]
            rw [if_neg (by omega), if_neg (by omega)]
          · rw [if_pos (ji_le_p (by decide) (by decide) (by decide))]
          · obtain ⟨o1, o2, o3⟩ := hs t ht
            obtain ⟨p1, p2, p3⟩ := hw t ht
            have e1 : z_u (z_u w 61 s.toNat m) 62 s.toNat k 61 t = if t = s.toNat then m else w 61 t := by rw [z_u_ne (by decide), z_u_at]
            have e2 : z_u (z_u w 61 s.toNat m) 62 s.toNat k 62 t = if t = s.toNat then k else w 62 t := by rw [z_u_at, z_u_ne (by decide)]
            rw [e1, e2]
            unfold a_up
            by_cases hts : t = s.toNat
            · simp only [if_pos hts]
              refine ⟨by first | rfl | trivial, by first | rfl | trivial, fun i hi => ?_⟩
              show Int64.ofInt (uf 63 (60 * t + i)) = 0
              rw [hts, i3 i (by omega)]
              rfl
            · simp only [if_neg hts]
              refine ⟨o1, o2, fun i hi => ?_⟩
              rw [← o3 i hi]
              show Int64.ofInt (uf 63 (60 * t + i)) = Int64.ofInt (u 63 (60 * t + i))
              rw [i2 _ (by omega)]
          · rw [z_u_ne c2, z_u_ne c1]
        · have hc : ¬ a_rwc s k m := fun q => h4 q.2.2.1
          rw [if_pos ⟨h1, h2, h3⟩, if_neg h4, if_neg hc, if_neg hc, if_neg hc]
          refine ⟨w, u, n_Model_row (z_ret ((e_Model_row_0 ..).trans ?_)), hs, fun _ _ _ => rfl, fun _ _ _ => rfl⟩
          rw [s_misSlot hss, z_oI_s, if_neg (ji_b_n h1), jl_of hk, kl_0, kl_4, s_in (by omega) (by decide) (by decide), z_oI_s, if_neg (ji_b_n h2), if_pos (ji_le_p hm (by decide) h3), if_neg (fun q => h4 ((ji_0le hm).mp q))]
      · have hc : ¬ a_rwc s k m := fun q => h3 q.2.2.2
        rw [if_neg (fun q => h3 q.2.2), if_neg hc, if_neg hc, if_neg hc]
        refine ⟨w, u, n_Model_row (z_ret ((e_Model_row_0 ..).trans ?_)), hs, fun _ _ _ => rfl, fun _ _ _ => rfl⟩
        rw [s_misSlot hss, z_oI_s, if_neg (ji_b_n h1), jl_of hk, kl_0, kl_4, s_in (by omega) (by decide) (by decide), z_oI_s, if_neg (ji_b_n h2), if_neg (ji_le_n hm (by decide) h3)]
    · have hc : ¬ a_rwc s k m := fun q => h2 q.2.1
      rw [if_neg (fun q => h2 q.2.1), if_neg hc, if_neg hc, if_neg hc]
      refine ⟨w, u, n_Model_row (z_ret ((e_Model_row_0 ..).trans ?_)), hs, fun _ _ _ => rfl, fun _ _ _ => rfl⟩
      rw [s_misSlot hss, z_oI_s, if_neg (ji_b_n h1), jl_of hk, kl_0, kl_4, s_in (by omega) (by decide) (by decide), z_oI_s, if_pos (ji_b_p h2)]
  · have hc : ¬ a_rwc s k m := fun q => h1 q.1
    rw [if_neg (fun q => h1 q.1), if_neg hc, if_neg hc, if_neg hc]
    refine ⟨w, u, n_Model_row (z_ret ((e_Model_row_0 ..).trans ?_)), hs, fun _ _ _ => rfl, fun _ _ _ => rfl⟩
    rw [s_misSlot hss, z_oI_s, if_pos (ji_b_p h1)]
