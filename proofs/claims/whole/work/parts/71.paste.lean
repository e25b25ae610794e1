/-! write, paste -/
theorem t_c8 (x : Int64) : x <<< 56 >>> 56 = Int32.toInt64 (Int8.toInt32 (Int32.toInt8 (Int64.toInt32 x))) := by
  apply Int64.toBitVec.inj
  apply BitVec.eq_of_getLsbD_eq
  intro i hi
  simp [Int64.toBitVec_shiftRight, Int64.toBitVec_shiftLeft, BitVec.getLsbD_sshiftRight, BitVec.getLsbD_signExtend]
  by_cases h : i < 8
  · have h2 : 56 + i < 64 := by omega
    have h3 : ¬ 64 ≤ i := by omega
    simp [h, h2, h3, hi]
  · have h2 : ¬ 56 + i < 64 := by omega
    have h3 : ¬ 64 ≤ i := by omega
    simp [h, h2, h3, hi]
    rw [BitVec.getMsbD_eq_getLsbD, BitVec.msb_eq_getLsbD_last, BitVec.getLsbD_signExtend]
    simp
theorem t_c16 (x : Int64) : x <<< 48 >>> 48 = Int32.toInt64 (Int16.toInt32 (Int32.toInt16 (Int64.toInt32 x))) := by
  apply Int64.toBitVec.inj
  apply BitVec.eq_of_getLsbD_eq
  intro i hi
  simp [Int64.toBitVec_shiftRight, Int64.toBitVec_shiftLeft, BitVec.getLsbD_sshiftRight, BitVec.getLsbD_signExtend]
  by_cases h : i < 16
  · have h2 : 48 + i < 64 := by omega
    have h3 : ¬ 64 ≤ i := by omega
    simp [h, h2, h3, hi]
  · have h2 : ¬ 48 + i < 64 := by omega
    have h3 : ¬ 64 ≤ i := by omega
    simp [h, h2, h3, hi]
    rw [BitVec.getMsbD_eq_getLsbD, BitVec.msb_eq_getLsbD_last, BitVec.getLsbD_signExtend]
    simp
theorem t_c32 (x : Int64) : x <<< 32 >>> 32 = Int32.toInt64 (Int64.toInt32 x) := by
  apply Int64.toBitVec.inj
  apply BitVec.eq_of_getLsbD_eq
  intro i hi
  simp [Int64.toBitVec_shiftRight, Int64.toBitVec_shiftLeft, BitVec.getLsbD_sshiftRight, BitVec.getLsbD_signExtend]
  by_cases h : i < 32
  · have h2 : 32 + i < 64 := by omega
    have h3 : ¬ 64 ≤ i := by omega
    simp [h, h2, h3, hi]
  · have h2 : ¬ 32 + i < 64 := by omega
    have h3 : ¬ 64 ≤ i := by omega
    simp [h, h2, h3, hi]
    rw [BitVec.getMsbD_eq_getLsbD, BitVec.msb_eq_getLsbD_last, BitVec.getLsbD_signExtend]
    simp
theorem t_c64 (x : Int64) : x <<< 0 >>> 0 = x := by simp
theorem s_mcut {e n : Nat} {im : Nat → Option Nat} {d : zD} {wd : Int} {x : Int64} (hw : 0 ≤ wd ∧ wd ≤ 3) : (z_F (e + 1)).2.1 k_Model_cut [.long x, .int (Int32.ofInt wd)] (n, z_q im, d) = some (J_cut wd x, d) := by
  refine q_Model_cut ?_
  have : wd = 0 ∨ wd = 1 ∨ wd = 2 ∨ wd = 3 := by omega
  rcases this with rfl | rfl | rfl | rfl
  · rw [show (Int32.toInt64 (Int32.ofInt 64 - (Int32.ofInt 8 <<< (Int32.ofInt 0 &&& 31))) &&& 63) = 56 by decide, t_c8]; rfl
  · rw [show (Int32.toInt64 (Int32.ofInt 64 - (Int32.ofInt 8 <<< (Int32.ofInt 1 &&& 31))) &&& 63) = 48 by decide, t_c16]; rfl
  · rw [show (Int32.toInt64 (Int32.ofInt 64 - (Int32.ofInt 8 <<< (Int32.ofInt 2 &&& 31))) &&& 63) = 32 by decide, t_c32]; rfl
  · rw [show (Int32.toInt64 (Int32.ofInt 64 - (Int32.ofInt 8 <<< (Int32.ofInt 3 &&& 31))) &&& 63) = 0 by decide, t_c64]; rfl
def V_write (z : Nat → Int) (s i : Int) : Int := if 0 ≤ s ∧ s ≤ 3 then (if z s.toNat = -1 then -6 else if 0 ≤ i ∧ i < z s.toNat then 0 else -7) else -2
abbrev a_wrc (z : Nat → Int) (s i : Int) : Prop := (0 ≤ s ∧ s ≤ 3) ∧ (0 ≤ i ∧ i < z s.toNat)
def N_write (z wd : Nat → Int) (nm : Nat → Nat → Int64) (s i : Int) (x : Int64) : Nat → Nat → Int64 := if a_wrc z s i then (fun t j => if t = s.toNat ∧ j = i.toNat then J_cut (wd s.toNat) x else nm t j) else nm
theorem w_write {z wd : Nat → Int} {nm : Nat → Nat → Int64} (h : w_s z wd nm) (s i : Int) (x : Int64) : w_s z wd (N_write z wd nm s i x) := by
  unfold N_write
  by_cases hc : a_wrc z s i
  · rw [if_pos hc]
    intro t ht
    obtain ⟨h1, h2, h3⟩ := h t ht
    refine ⟨h1, h2, fun j hj => ?_⟩
    by_cases hts : t = s.toNat ∧ j = i.toNat
    · simp only [if_pos hts]
      rw [hts.1]
      exact J_cut_i _ _
    · simp only [if_neg hts]
      exact h3 j hj
  · rw [if_neg hc]
    exact h
theorem x_write {e n : Nat} {im : Nat → Option Nat} {w u : Nat → Nat → Int} {z wd : Nat → Int} {nm : Nat → Nat → Int64} {s i : Int} {x : Int64} (hs : c_s w u z wd nm) (hw : w_s z wd nm) (hi : jR i) (hss : jR s) : ∃ u', (z_F (e + 20)).1 k_LongBoats_write [.ref 0, .int (Int32.ofInt s), .int (Int32.ofInt i), .long x] (n, z_q im, jM w, jL u) = some (Int32.ofInt (V_write z s i), jM w, jL u') ∧ c_s w u' z wd (N_write z wd nm s i x) ∧ u_fr 20 u u' := by
  unfold V_write N_write
  by_cases h1 : 0 ≤ s ∧ s ≤ 3
  · obtain ⟨o1, o2, o3⟩ := hs s.toNat (by omega)
    obtain ⟨p1, p2, p3⟩ := hw s.toNat (by omega)
    rw [if_pos h1]
    by_cases h2 : z s.toNat = -1
    · have hc : ¬ a_wrc z s i := fun q => by have := q.2; omega
      rw [if_pos h2, if_neg hc]
      refine ⟨u, q_LongBoats_write ?_, hs, fun _ _ => rfl⟩
      rw [s_isSlot hss, z_oI_s, if_neg (ji_b_n h1), s_hasRow h1 (by omega), z_oI_s, if_pos (ji_b_p (by rw [o1]; exact not_not_intro h2))]
    · rw [if_neg h2]
      by_cases h3 : 0 ≤ i ∧ i < z s.toNat
      · have hc : a_wrc z s i := ⟨h1, h3⟩
        rw [if_pos h3, if_pos hc]
        refine ⟨_, q_LongBoats_write ?_, fun t ht => ?_, fun c hc => z_u_ne hc (v := (J_cut (w 22 s.toNat) x).toInt) (j := 60 * s.toNat + i.toNat)⟩
        · rw [s_isSlot hss, z_oI_s, if_neg (ji_b_n h1), s_hasRow h1 (by omega), z_oI_s, if_neg (ji_b_n (by rw [o1]; exact h2)), s_ssize h1, z_oI_s, o1, ji_sub, s_within hi (by decide) (by omega), z_oI_s, if_neg (ji_b_n (by omega)), s_shset h1 (by omega) (by omega), z_oV_s]
        · obtain ⟨r1, r2, r3⟩ := hs t ht
          obtain ⟨k1, k2, k3⟩ := hw t ht
          refine ⟨r1, r2, fun j hj => ?_⟩
          rw [jL_z, o2]
          by_cases hts : t = s.toNat ∧ j = i.toNat
          · rw [if_pos (by omega)]
            exact (if_pos hts).symm
          · rw [if_neg (by omega)]
            exact (r3 j hj).trans (if_neg hts).symm
      · have hc : ¬ a_wrc z s i := fun q => h3 q.2
        rw [if_neg h3, if_neg hc]
        refine ⟨u, q_LongBoats_write ?_, hs, fun _ _ => rfl⟩
        rw [s_isSlot hss, z_oI_s, if_neg (ji_b_n h1), s_hasRow h1 (by omega), z_oI_s, if_neg (ji_b_n (by rw [o1]; exact h2)), s_ssize h1, z_oI_s, o1, ji_sub, s_within hi (by decide) (by omega), z_oI_s, if_pos (ji_b_p (by omega))]
  · have hc : ¬ a_wrc z s i := fun q => h1 q.1
    rw [if_neg h1, if_neg hc]
    refine ⟨u, q_LongBoats_write ?_, hs, fun _ _ => rfl⟩
    rw [s_isSlot hss, z_oI_s, if_pos (ji_b_p h1)]
theorem m_write {e n : Nat} {im : Nat → Option Nat} {w u : Nat → Nat → Int} {z wd : Nat → Int} {nm : Nat → Nat → Int64} {s i : Int} {x : Int64} (hs : m_s w u z wd nm) (hw : w_s z wd nm) (hi : jR i) (hss : jR s) : ∃ u', (z_F (e + 20)).1 k_Model_write [.ref 45, .int (Int32.ofInt s), .int (Int32.ofInt i), .long x] (n, z_q im, jM w, jL u) = some (Int32.ofInt (V_write z s i), jM w, jL u') ∧ m_s w u' z wd (N_write z wd nm s i x) ∧ u_fr2 u u' := by
  unfold V_write N_write
  by_cases h1 : 0 ≤ s ∧ s ≤ 3
  · obtain ⟨o1, o2, o3⟩ := hs s.toNat (by omega)
    obtain ⟨p1, p2, p3⟩ := hw s.toNat (by omega)
    have g1 : ¬ (Int32.ofInt s < 0 ∨ 4 ≤ (Int32.ofInt s).toNatClampNeg) := by
      rw [ji_lt0 hss, ji_nat hss]
      omega
    have g61 : ((jM w, jL u) : zD).1 61 (Int32.ofInt s).toNatClampNeg = Int32.ofInt (z s.toNat) := by
      rw [ji_nat hss, ← o1]
      rfl
    have g62 : ((jM w, jL u) : zD).1 62 (Int32.ofInt s).toNatClampNeg = Int32.ofInt (wd s.toNat) := by
      rw [ji_nat hss, ← o2]
      rfl
    rw [if_pos h1]
    by_cases h2 : z s.toNat = -1
    · have hc : ¬ a_wrc z s i := fun q => by have := q.2; omega
      rw [if_pos h2, if_neg hc]
      refine ⟨u, q_Model_write ?_, hs, fun _ _ _ => rfl⟩
      rw [s_misSlot hss, z_oI_s, if_neg (ji_b_n h1), if_neg g1, g61, if_pos (ji_eq_p (by omega) (by decide) h2)]
    · rw [if_neg h2]
      by_cases h3 : 0 ≤ i ∧ i < z s.toNat
      · have hc : a_wrc z s i := ⟨h1, h3⟩
        rw [if_pos h3, if_pos hc]
        refine ⟨z_u u 63 (60 * s.toNat + i.toNat) (J_cut (wd s.toNat) x).toInt, q_Model_write ?_, fun t ht => ?_, fun c c1 c2 => z_u_ne c1⟩
        · rw [s_misSlot hss, z_oI_s, if_neg (ji_b_n h1), if_neg g1, g61, if_neg (ji_eq_n (by omega) (by decide) h2), if_neg g1, ji_sub, jl_of hi, jl_of (by omega), kl_0, s_in (by omega) (by decide) (by omega), z_oI_s, if_neg (ji_b_n (by omega)), if_neg g1, g62, s_mcut p2, z_oJ_s]
          simp (disch := omega) only [ji_mul, ji_add, ji_lt0, ji_nat]
          rw [if_neg (by omega), show (60 * s + i).toNat = 60 * s.toNat + i.toNat by omega, ← jL_u, jl_self]
        · obtain ⟨r1, r2, r3⟩ := hs t ht
          obtain ⟨k1, k2, k3⟩ := hw t ht
          refine ⟨r1, r2, fun j hj => ?_⟩
          rw [jL_z]
          by_cases hts : t = s.toNat ∧ j = i.toNat
          · rw [if_pos (by omega)]
            exact (if_pos hts).symm
          · rw [if_neg (by omega)]
            exact (r3 j hj).trans (if_neg hts).symm
      · have hc : ¬ a_wrc z s i := fun q => h3 q.2
        rw [if_neg h3, if_neg hc]
        refine ⟨u, q_Model_write ?_, hs, fun _ _ _ => rfl⟩
        rw [s_misSlot hss, z_oI_s, if_neg (ji_b_n h1), if_neg g1, g61, if_neg (ji_eq_n (by omega) (by decide) h2), if_neg g1, ji_sub, jl_of hi, jl_of (by omega), kl_0, s_in (by omega) (by decide) (by omega), z_oI_s, if_pos (ji_b_p (by omega))]
  · have hc : ¬ a_wrc z s i := fun q => h1 q.1
    rw [if_neg h1, if_neg hc]
    refine ⟨u, q_Model_write ?_, hs, fun _ _ _ => rfl⟩
    rw [s_misSlot hss, z_oI_s, if_pos (ji_b_p h1)]
abbrev a_pok (z : Nat → Int) (s i t k m : Int) : Prop := 0 ≤ m ∧ (0 ≤ i ∧ i + m ≤ z s.toNat) ∧ (0 ≤ k ∧ k + m ≤ z t.toNat)
def V_paste (z wd : Nat → Int) (s i t k m : Int) : Int := if (0 ≤ s ∧ s ≤ 3) ∧ (0 ≤ t ∧ t ≤ 3) then (if z s.toNat = -1 ∨ z t.toNat = -1 then -6 else if wd s.toNat = wd t.toNat then (if a_pok z s i t k m then 0 else -7) else -8) else -2
abbrev a_pac (z wd : Nat → Int) (s i t k m : Int) : Prop := ((0 ≤ s ∧ s ≤ 3) ∧ (0 ≤ t ∧ t ≤ 3)) ∧ ¬ (z s.toNat = -1 ∨ z t.toNat = -1) ∧ wd s.toNat = wd t.toNat ∧ a_pok z s i t k m
def N_paste (z wd : Nat → Int) (nm : Nat → Nat → Int64) (s i t k m : Int) : Nat → Nat → Int64 := if a_pac z wd s i t k m then (fun a j => if a = t.toNat ∧ k.toNat ≤ j ∧ j < k.toNat + m.toNat then nm s.toNat (i.toNat + (j - k.toNat)) else nm a j) else nm
theorem w_paste {z wd : Nat → Int} {nm : Nat → Nat → Int64} (h : w_s z wd nm) (s i t k m : Int) : w_s z wd (N_paste z wd nm s i t k m) := by
  unfold N_paste
  by_cases hc : a_pac z wd s i t k m
  · rw [if_pos hc]
    obtain ⟨⟨h1, h2⟩, h3, h4, h5⟩ := hc
    intro a ha
    obtain ⟨g1, g2, g3⟩ := h a ha
    refine ⟨g1, g2, fun j hj => ?_⟩
    by_cases hts : a = t.toNat ∧ k.toNat ≤ j ∧ j < k.toNat + m.toNat
    · simp only [if_pos hts]
      rw [hts.1, ← h4]
      exact (h s.toNat (by omega)).2.2 _ (by omega)
    · simp only [if_neg hts]
      exact g3 j hj
  · rw [if_neg hc]
    exact h
theorem s_copy0 {e n : Nat} {im : Nat → Option Nat} {w u : Nat → Nat → Int} {z wd : Nat → Int} {nm : Nat → Nat → Int64} {s i t k m : Int} (hs : c_s w u z wd nm) (hw : w_s z wd nm) (hc : a_pac z wd s i t k m) (hf : ¬ (s = t ∧ i < k)) : ∃ u', (z_F (e + 4)).2.2.1 k_Shelf_copyOver [.ref 19, .int (Int32.ofInt s), .int (Int32.ofInt i), .int (Int32.ofInt t), .int (Int32.ofInt k), .int (Int32.ofInt m)] (n, z_q im, jM w, jL u) = some (jM w, jL u') ∧ u_fr 20 u u' ∧ (∀ q : Nat, ¬ (60 * t.toNat + k.toNat ≤ q ∧ q < 60 * t.toNat + k.toNat + m.toNat) → jL u' 20 q = jL u 20 q) ∧ ∀ j : Nat, j < m.toNat → jL u' 20 (60 * t.toNat + k.toNat + j) = jL u 20 (60 * s.toNat + i.toNat + j) := by
  obtain ⟨⟨h1, h2⟩, h3, h4, h5⟩ := id hc
  obtain ⟨o1, o2, o3⟩ := hs s.toNat (by omega)
  obtain ⟨p1, p2, p3⟩ := hw s.toNat (by omega)
  obtain ⟨o1', o2', o3'⟩ := hs t.toNat (by omega)
  obtain ⟨p1', p2', p3'⟩ := hw t.toNat (by omega)
  have hwd : 0 ≤ w 22 t.toNat ∧ w 22 t.toNat ≤ 3 := by omega
  obtain ⟨y, hy, uf, q8, rfl, i1, i2, i3⟩ := z_for (o := z_F (e + 3)) (cd := cd_Shelf_copyOver) (P := fun st y => ∃ ui q8, y = (13, [some (.ref 19), some (.int (Int32.ofInt s)), some (.int (Int32.ofInt i)), some (.int (Int32.ofInt t)), some (.int (Int32.ofInt k)), some (.int (Int32.ofInt m)), some (.int (Int32.ofInt 0)), some (.int (Int32.ofInt (st : Int))), q8], (n, z_q im, jM w, jL ui)) ∧ u_fr 20 u ui ∧ (∀ q : Nat, (∀ j : Nat, j < m.toNat → j < st → q ≠ 60 * t.toNat + k.toNat + j) → jL ui 20 q = jL u 20 q) ∧ ∀ j : Nat, j < m.toNat → j < st → jL ui 20 (60 * t.toNat + k.toNat + j) = jL u 20 (60 * s.toNat + i.toNat + j)) m.toNat (s := (13, [some (.ref 19), some (.int (Int32.ofInt s)), some (.int (Int32.ofInt i)), some (.int (Int32.ofInt t)), some (.int (Int32.ofInt k)), some (.int (Int32.ofInt m)), some (.int (Int32.ofInt 0)), some (.int (Int32.ofInt 0)), none], (n, z_q im, jM w, jL u))) ⟨u, none, rfl, fun _ _ => rfl, fun _ _ => rfl, fun j h h' => absurd h' (by omega)⟩ (fun st y hst hP => by
    obtain ⟨ui, q8, rfl, i1, i2, i3⟩ := hP
    have hread : jL ui 20 (60 * s.toNat + (i + (st : Int)).toNat) = nm s.toNat (i.toNat + st) := by
      rw [i2 _ (fun j hj hD => by omega), show 60 * s.toNat + (i + (st : Int)).toNat = 60 * s.toNat + (i.toNat + st) by omega]
      exact o3 _ (by omega)
    have hcut : J_cut (w 22 t.toNat) (nm s.toNat (i.toNat + st)) = nm s.toNat (i.toNat + st) := by
      rw [o2', ← h4]
      exact p3 _ (by omega)
    have hold : jL u 20 (60 * s.toNat + i.toNat + st) = nm s.toNat (i.toNat + st) := by
      rw [Nat.add_assoc]
      exact o3 _ (by omega)
    refine ⟨(13, [some (.ref 19), some (.int (Int32.ofInt s)), some (.int (Int32.ofInt i)), some (.int (Int32.ofInt t)), some (.int (Int32.ofInt k)), some (.int (Int32.ofInt m)), some (.int (Int32.ofInt 0)), some (.int (Int32.ofInt ((st : Int) + 1))), some (.int (Int32.ofInt (st : Int)))], (n, z_q im, jM w, jL (z_u ui 20 (60 * t.toNat + (k + (st : Int)).toNat) (nm s.toNat (i.toNat + st)).toInt))), z_To_1 ((e_Shelf_copyOver_13 ..).trans ?_), _, _, rfl, fun c hc => ?_, fun q hq => ?_, fun j hj hD => ?_⟩
    · rw [if_neg (ji_le_n (by omega) (by omega) (by omega)), if_pos (show Int32.ofInt 0 = 0 from rfl)]
      simp only [ji_add, ji_sub]
      rw [s_shat h1 (by omega), z_oJ_s, hread, s_shset h2 (by omega) hwd, z_oV_s, hcut]
    · rw [z_u_ne hc]; exact i1 c hc
    · rw [jL_z, if_neg (fun h9 => hq st (by omega) (by omega) (by omega))]
      exact i2 q (fun j hj hD => hq j hj (by omega))
    · rw [jL_z]
      by_cases hjj : j = st
      · rw [if_pos (by omega), hjj, hold]
      · rw [if_neg (by omega)]
        exact i3 j hj (by omega))
  refine ⟨uf, n_Shelf_copyOver (z_go ((e_Shelf_copyOver_0 ..).trans ?_) (hy _ (z_ret ((e_Shelf_copyOver_13 ..).trans ?_)))), i1, fun q hq => i2 q (fun j hj _ => by omega), fun j hj => i3 j hj (by omega)⟩
  · by_cases hst : s = t
    · rw [if_pos (ji_eq_p (by omega) (by omega) hst), if_pos (ji_le_p (by omega) (by omega) (by omega))]
    · rw [if_neg (ji_eq_n (by omega) (by omega) hst)]
  · rw [if_pos (ji_le_p (by omega) (by omega) (by omega))]
theorem s_copy1 {e n : Nat} {im : Nat → Option Nat} {w u : Nat → Nat → Int} {z wd : Nat → Int} {nm : Nat → Nat → Int64} {s i t k m : Int} (hs : c_s w u z wd nm) (hw : w_s z wd nm) (hc : a_pac z wd s i t k m) (hf : s = t ∧ i < k) : ∃ u', (z_F (e + 4)).2.2.1 k_Shelf_copyOver [.ref 19, .int (Int32.ofInt s), .int (Int32.ofInt i), .int (Int32.ofInt t), .int (Int32.ofInt k), .int (Int32.ofInt m)] (n, z_q im, jM w, jL u) = some (jM w, jL u') ∧ u_fr 20 u u' ∧ (∀ q : Nat, ¬ (60 * t.toNat + k.toNat ≤ q ∧ q < 60 * t.toNat + k.toNat + m.toNat) → jL u' 20 q = jL u 20 q) ∧ ∀ j : Nat, j < m.toNat → jL u' 20 (60 * t.toNat + k.toNat + j) = jL u 20 (60 * s.toNat + i.toNat + j) := by
  obtain ⟨⟨h1, h2⟩, h3, h4, h5⟩ := id hc
  obtain ⟨o1, o2, o3⟩ := hs s.toNat (by omega)
  obtain ⟨p1, p2, p3⟩ := hw s.toNat (by omega)
  obtain ⟨o1', o2', o3'⟩ := hs t.toNat (by omega)
  obtain ⟨p1', p2', p3'⟩ := hw t.toNat (by omega)
  have hwd : 0 ≤ w 22 t.toNat ∧ w 22 t.toNat ≤ 3 := by omega
  obtain ⟨y, hy, uf, q8, rfl, i1, i2, i3⟩ := z_for (o := z_F (e + 3)) (cd := cd_Shelf_copyOver) (P := fun st y => ∃ ui q8, y = (13, [some (.ref 19), some (.int (Int32.ofInt s)), some (.int (Int32.ofInt i)), some (.int (Int32.ofInt t)), some (.int (Int32.ofInt k)), some (.int (Int32.ofInt m)), some (.int (Int32.ofInt 1)), some (.int (Int32.ofInt (st : Int))), q8], (n, z_q im, jM w, jL ui)) ∧ u_fr 20 u ui ∧ (∀ q : Nat, (∀ j : Nat, j < m.toNat → (m.toNat - st ≤ j ∧ j < m.toNat) → q ≠ 60 * t.toNat + k.toNat + j) → jL ui 20 q = jL u 20 q) ∧ ∀ j : Nat, j < m.toNat → (m.toNat - st ≤ j ∧ j < m.toNat) → jL ui 20 (60 * t.toNat + k.toNat + j) = jL u 20 (60 * s.toNat + i.toNat + j)) m.toNat (s := (13, [some (.ref 19), some (.int (Int32.ofInt s)), some (.int (Int32.ofInt i)), some (.int (Int32.ofInt t)), some (.int (Int32.ofInt k)), some (.int (Int32.ofInt m)), some (.int (Int32.ofInt 1)), some (.int (Int32.ofInt 0)), none], (n, z_q im, jM w, jL u))) ⟨u, none, rfl, fun _ _ => rfl, fun _ _ => rfl, fun j h h' => absurd h' (by omega)⟩ (fun st y hst hP => by
    obtain ⟨ui, q8, rfl, i1, i2, i3⟩ := hP
    have hread : jL ui 20 (60 * s.toNat + (i + (m - 1 - (st : Int))).toNat) = nm s.toNat (i.toNat + (m.toNat - 1 - st)) := by
      rw [i2 _ (fun j hj hD => by omega), show 60 * s.toNat + (i + (m - 1 - (st : Int))).toNat = 60 * s.toNat + (i.toNat + (m.toNat - 1 - st)) by omega]
      exact o3 _ (by omega)
    have hcut : J_cut (w 22 t.toNat) (nm s.toNat (i.toNat + (m.toNat - 1 - st))) = nm s.toNat (i.toNat + (m.toNat - 1 - st)) := by
      rw [o2', ← h4]
      exact p3 _ (by omega)
    have hold : jL u 20 (60 * s.toNat + i.toNat + (m.toNat - 1 - st)) = nm s.toNat (i.toNat + (m.toNat - 1 - st)) := by
      rw [Nat.add_assoc]
      exact o3 _ (by omega)
    refine ⟨(13, [some (.ref 19), some (.int (Int32.ofInt s)), some (.int (Int32.ofInt i)), some (.int (Int32.ofInt t)), some (.int (Int32.ofInt k)), some (.int (Int32.ofInt m)), some (.int (Int32.ofInt 1)), some (.int (Int32.ofInt ((st : Int) + 1))), some (.int (Int32.ofInt (m - 1 - (st : Int))))], (n, z_q im, jM w, jL (z_u ui 20 (60 * t.toNat + (k + (m - 1 - (st : Int))).toNat) (nm s.toNat (i.toNat + (m.toNat - 1 - st))).toInt))), z_To_1 ((e_Shelf_copyOver_13 ..).trans ?_), _, _, rfl, fun c hc => ?_, fun q hq => ?_, fun j hj hD => ?_⟩
    · rw [if_neg (ji_le_n (by omega) (by omega) (by omega)), if_neg (show ¬ Int32.ofInt 1 = 0 by decide)]
      simp only [ji_add, ji_sub]
      rw [s_shat h1 (by omega), z_oJ_s, hread, s_shset h2 (by omega) hwd, z_oV_s, hcut]
    · rw [z_u_ne hc]; exact i1 c hc
    · rw [jL_z, if_neg (fun h9 => hq (m.toNat - 1 - st) (by omega) (by omega) (by omega))]
      exact i2 q (fun j hj hD => hq j hj (by omega))
    · rw [jL_z]
      by_cases hjj : j = (m.toNat - 1 - st)
      · rw [if_pos (by omega), hjj, hold]
      · rw [if_neg (by omega)]
        exact i3 j hj (by omega))
  refine ⟨uf, n_Shelf_copyOver (z_go ((e_Shelf_copyOver_0 ..).trans ?_) (hy _ (z_ret ((e_Shelf_copyOver_13 ..).trans ?_)))), i1, fun q hq => i2 q (fun j hj _ => by omega), fun j hj => i3 j hj (by omega)⟩
  · rw [if_pos (ji_eq_p (by omega) (by omega) hf.1), if_neg (ji_le_n (by omega) (by omega) (by omega))]
  · rw [if_pos (ji_le_p (by omega) (by omega) (by omega))]
theorem s_copy {e n : Nat} {im : Nat → Option Nat} {w u : Nat → Nat → Int} {z wd : Nat → Int} {nm : Nat → Nat → Int64} {s i t k m : Int} (hs : c_s w u z wd nm) (hw : w_s z wd nm) (hc : a_pac z wd s i t k m) : ∃ u', (z_F (e + 4)).2.2.1 k_Shelf_copyOver [.ref 19, .int (Int32.ofInt s), .int (Int32.ofInt i), .int (Int32.ofInt t), .int (Int32.ofInt k), .int (Int32.ofInt m)] (n, z_q im, jM w, jL u) = some (jM w, jL u') ∧ u_fr 20 u u' ∧ (∀ q : Nat, ¬ (60 * t.toNat + k.toNat ≤ q ∧ q < 60 * t.toNat + k.toNat + m.toNat) → jL u' 20 q = jL u 20 q) ∧ ∀ j : Nat, j < m.toNat → jL u' 20 (60 * t.toNat + k.toNat + j) = jL u 20 (60 * s.toNat + i.toNat + j) := by
  by_cases hf : s = t ∧ i < k
  · exact s_copy1 hs hw hc hf
  · exact s_copy0 hs hw hc hf
/-- the rows behind a paste -/
theorem p_nm {J J' : Nat → Int64} {z wd : Nat → Int} {nm : Nat → Nat → Int64} {s i t k m : Int} (hw : w_s z wd nm) (hJ : ∀ a : Nat, a < 4 → ∀ j : Nat, (j : Int) < z a → J (60 * a + j) = nm a j) (hc : a_pac z wd s i t k m) (h1 : ∀ q : Nat, ¬ (60 * t.toNat + k.toNat ≤ q ∧ q < 60 * t.toNat + k.toNat + m.toNat) → J' q = J q) (h2 : ∀ j : Nat, j < m.toNat → J' (60 * t.toNat + k.toNat + j) = J (60 * s.toNat + i.toNat + j)) : ∀ a : Nat, a < 4 → ∀ j : Nat, (j : Int) < z a → J' (60 * a + j) = N_paste z wd nm s i t k m a j := by
  obtain ⟨⟨c1, c2⟩, c3, c4, c5⟩ := id hc
  intro a ha j hj
  have p1 := (hw a ha).1
  have p2 := (hw t.toNat (by omega)).1
  unfold N_paste
  rw [if_pos hc]
  by_cases hts : a = t.toNat ∧ k.toNat ≤ j ∧ j < k.toNat + m.toNat
  · rw [if_pos hts, show 60 * a + j = 60 * t.toNat + k.toNat + (j - k.toNat) by omega, h2 _ (by omega), Nat.add_assoc, hJ s.toNat (by omega) _ (by omega)]
  · rw [if_neg hts, h1 _ (by omega)]
    exact hJ a ha j hj
theorem x_paste {e n : Nat} {im : Nat → Option Nat} {w u : Nat → Nat → Int} {z wd : Nat → Int} {nm : Nat → Nat → Int64} {s i t k m : Int} (hs : c_s w u z wd nm) (hw : w_s z wd nm) (hi : jR i) (ht : jR t) (hk : jR k) (hm : jR m) (hss : jR s) : ∃ u', (z_F (e + 20)).1 k_LongBoats_paste [.ref 0, .int (Int32.ofInt s), .int (Int32.ofInt i), .int (Int32.ofInt t), .int (Int32.ofInt k), .int (Int32.ofInt m)] (n, z_q im, jM w, jL u) = some (Int32.ofInt (V_paste z wd s i t k m), jM w, jL u') ∧ c_s w u' z wd (N_paste z wd nm s i t k m) ∧ u_fr 20 u u' := by
  unfold V_paste
  by_cases h1 : 0 ≤ s ∧ s ≤ 3
  · by_cases h2 : 0 ≤ t ∧ t ≤ 3
    · obtain ⟨o1, o2, o3⟩ := hs s.toNat (by omega)
      obtain ⟨p1, p2, p3⟩ := hw s.toNat (by omega)
      obtain ⟨o1', o2', o3'⟩ := hs t.toNat (by omega)
      obtain ⟨p1', p2', p3'⟩ := hw t.toNat (by omega)
      rw [if_pos ⟨h1, h2⟩]
      by_cases h3 : z s.toNat = -1
      · have hn : N_paste z wd nm s i t k m = nm := if_neg (fun q => q.2.1 (Or.inl h3))
        rw [if_pos (Or.inl h3), hn]
        refine ⟨u, q_LongBoats_paste ?_, hs, fun _ _ => rfl⟩
        rw [s_isSlot hss, z_oI_s, if_neg (ji_b_n h1), s_isSlot ht, z_oI_s, if_neg (ji_b_n h2), s_hasRow h1 (by omega), z_oI_s, if_pos (ji_b_p (by rw [o1]; exact not_not_intro h3))]
      · by_cases h4 : z t.toNat = -1
        · have hn : N_paste z wd nm s i t k m = nm := if_neg (fun q => q.2.1 (Or.inr h4))
          rw [if_pos (Or.inr h4), hn]
          refine ⟨u, q_LongBoats_paste ?_, hs, fun _ _ => rfl⟩
          rw [s_isSlot hss, z_oI_s, if_neg (ji_b_n h1), s_isSlot ht, z_oI_s, if_neg (ji_b_n h2), s_hasRow h1 (by omega), z_oI_s, if_neg (ji_b_n (by rw [o1]; exact h3)), s_hasRow h2 (by omega), z_oI_s, if_pos (ji_b_p (by rw [o1']; exact not_not_intro h4))]
        · rw [if_neg (fun q => q.elim h3 h4)]
          by_cases h5 : wd s.toNat = wd t.toNat
          · rw [if_pos h5]
            by_cases h6 : a_pok z s i t k m
            · have hc : a_pac z wd s i t k m := ⟨⟨h1, h2⟩, fun q => q.elim h3 h4, h5, h6⟩
              obtain ⟨u', k1, k2, k3, k4⟩ := s_copy (e := e + 15) (n := n) (im := im) hs hw hc
              rw [if_pos h6]
              refine ⟨u', q_LongBoats_paste ?_, fun a ha => ⟨(hs a ha).1, (hs a ha).2.1, fun j hj => p_nm hw (fun a ha => (hs a ha).2.2) hc k3 k4 a ha j hj⟩, k2⟩
              rw [s_isSlot hss, z_oI_s, if_neg (ji_b_n h1), s_isSlot ht, z_oI_s, if_neg (ji_b_n h2), s_hasRow h1 (by omega), z_oI_s, if_neg (ji_b_n (by rw [o1]; exact h3)), s_hasRow h2 (by omega), z_oI_s, if_neg (ji_b_n (by rw [o1']; exact h4)), s_swidth h1, z_oI_s, s_swidth h2, z_oI_s, if_pos (ji_eq_p (by omega) (by omega) (by omega)), if_neg (fun q => absurd ((ji_lt0 hm).mp q) (by omega)), s_ssize h1, z_oI_s, ji_sub, s_within hi (by decide) (by omega), z_oI_s, if_neg (ji_b_n (by omega)), s_ssize h2, z_oI_s, ji_sub, s_within hk (by decide) (by omega), z_oI_s, if_neg (ji_b_n (by omega)), k1, z_oV_s]
            · have hn : N_paste z wd nm s i t k m = nm := if_neg (fun q => h6 q.2.2.2)
              rw [if_neg h6, hn]
              refine ⟨u, q_LongBoats_paste ?_, hs, fun _ _ => rfl⟩
              rw [s_isSlot hss, z_oI_s, if_neg (ji_b_n h1), s_isSlot ht, z_oI_s, if_neg (ji_b_n h2), s_hasRow h1 (by omega), z_oI_s, if_neg (ji_b_n (by rw [o1]; exact h3)), s_hasRow h2 (by omega), z_oI_s, if_neg (ji_b_n (by rw [o1']; exact h4)), s_swidth h1, z_oI_s, s_swidth h2, z_oI_s, if_pos (ji_eq_p (by omega) (by omega) (by omega))]
              by_cases h7 : m < 0
              · rw [if_pos ((ji_lt0 hm).mpr h7)]
              · rw [if_neg (fun q => h7 ((ji_lt0 hm).mp q)), s_ssize h1, z_oI_s, ji_sub, s_within hi (by decide) (by omega), z_oI_s]
                by_cases h8 : 0 ≤ i ∧ i ≤ w 24 s.toNat - m
                · rw [if_neg (ji_b_n h8), s_ssize h2, z_oI_s, ji_sub, s_within hk (by decide) (by omega), z_oI_s, if_pos (ji_b_p (fun q => h6 (by omega)))]
                · rw [if_pos (ji_b_p h8)]
          · have hn : N_paste z wd nm s i t k m = nm := if_neg (fun q => h5 q.2.2.1)
            rw [if_neg h5, hn]
            refine ⟨u, q_LongBoats_paste ?_, hs, fun _ _ => rfl⟩
            rw [s_isSlot hss, z_oI_s, if_neg (ji_b_n h1), s_isSlot ht, z_oI_s, if_neg (ji_b_n h2), s_hasRow h1 (by omega), z_oI_s, if_neg (ji_b_n (by rw [o1]; exact h3)), s_hasRow h2 (by omega), z_oI_s, if_neg (ji_b_n (by rw [o1']; exact h4)), s_swidth h1, z_oI_s, s_swidth h2, z_oI_s, if_neg (ji_eq_n (by omega) (by omega) (by omega))]
    · have hn : N_paste z wd nm s i t k m = nm := if_neg (fun q => h2 q.1.2)
      rw [if_neg (fun q => h2 q.2), hn]
      refine ⟨u, q_LongBoats_paste ?_, hs, fun _ _ => rfl⟩
      rw [s_isSlot hss, z_oI_s, if_neg (ji_b_n h1), s_isSlot ht, z_oI_s, if_pos (ji_b_p h2)]
  · have hn : N_paste z wd nm s i t k m = nm := if_neg (fun q => h1 q.1.1)
    rw [if_neg (fun q => h1 q.1), hn]
    refine ⟨u, q_LongBoats_paste ?_, hs, fun _ _ => rfl⟩
    rw [s_isSlot hss, z_oI_s, if_pos (ji_b_p h1)]
theorem m_paste {e n : Nat} {im : Nat → Option Nat} {w u : Nat → Nat → Int} {z wd : Nat → Int} {nm : Nat → Nat → Int64} {s i t k m : Int} (hs : m_s w u z wd nm) (hw : w_s z wd nm) (hi : jR i) (ht : jR t) (hk : jR k) (hm : jR m) (hss : jR s) : ∃ u', (z_F (e + 20)).1 k_Model_paste [.ref 45, .int (Int32.ofInt s), .int (Int32.ofInt i), .int (Int32.ofInt t), .int (Int32.ofInt k), .int (Int32.ofInt m)] (n, z_q im, jM w, jL u) = some (Int32.ofInt (V_paste z wd s i t k m), jM w, jL u') ∧ m_s w u' z wd (N_paste z wd nm s i t k m) ∧ u_fr2 u u' := by
  unfold V_paste
  by_cases h1 : 0 ≤ s ∧ s ≤ 3
  · by_cases h2 : 0 ≤ t ∧ t ≤ 3
    · obtain ⟨o1, o2, o3⟩ := hs s.toNat (by omega)
      obtain ⟨p1, p2, p3⟩ := hw s.toNat (by omega)
      obtain ⟨o1', o2', o3'⟩ := hs t.toNat (by omega)
      obtain ⟨p1', p2', p3'⟩ := hw t.toNat (by omega)
      have gs : ¬ (Int32.ofInt s < 0 ∨ 4 ≤ (Int32.ofInt s).toNatClampNeg) := by
        rw [ji_lt0 hss, ji_nat hss]
        omega
      have gt : ¬ (Int32.ofInt t < 0 ∨ 4 ≤ (Int32.ofInt t).toNatClampNeg) := by
        rw [ji_lt0 ht, ji_nat ht]
        omega
      have g61s : ((jM w, jL u) : zD).1 61 (Int32.ofInt s).toNatClampNeg = Int32.ofInt (z s.toNat) := by
        rw [ji_nat hss, ← o1]
        rfl
      have g62s : ((jM w, jL u) : zD).1 62 (Int32.ofInt s).toNatClampNeg = Int32.ofInt (wd s.toNat) := by
        rw [ji_nat hss, ← o2]
        rfl
      have g61t : ((jM w, jL u) : zD).1 61 (Int32.ofInt t).toNatClampNeg = Int32.ofInt (z t.toNat) := by
        rw [ji_nat ht, ← o1']
        rfl
      have g62t : ((jM w, jL u) : zD).1 62 (Int32.ofInt t).toNatClampNeg = Int32.ofInt (wd t.toNat) := by
        rw [ji_nat ht, ← o2']
        rfl
      rw [if_pos ⟨h1, h2⟩]
      by_cases h3 : z s.toNat = -1
      · have hn : N_paste z wd nm s i t k m = nm := if_neg (fun q => q.2.1 (Or.inl h3))
        rw [if_pos (Or.inl h3), hn]
        refine ⟨u, n_Model_paste (z_ret ((e_Model_paste_0 ..).trans ?_)), hs, fun _ _ _ => rfl⟩
        rw [s_misSlot hss, z_oI_s, if_neg (ji_b_n h1), s_misSlot ht, z_oI_s, if_neg (ji_b_n h2), if_neg gs, g61s, if_pos (ji_eq_p (by omega) (by decide) h3)]
      · by_cases h4 : z t.toNat = -1
        · have hn : N_paste z wd nm s i t k m = nm := if_neg (fun q => q.2.1 (Or.inr h4))
          rw [if_pos (Or.inr h4), hn]
          refine ⟨u, n_Model_paste (z_ret ((e_Model_paste_0 ..).trans ?_)), hs, fun _ _ _ => rfl⟩
          rw [s_misSlot hss, z_oI_s, if_neg (ji_b_n h1), s_misSlot ht, z_oI_s, if_neg (ji_b_n h2), if_neg gs, g61s, if_neg (ji_eq_n (by omega) (by decide) h3), if_neg gt, g61t, if_pos (ji_eq_p (by omega) (by decide) h4)]
        · rw [if_neg (fun q => q.elim h3 h4)]
          by_cases h5 : wd s.toNat = wd t.toNat
          · rw [if_pos h5]
            by_cases h6 : a_pok z s i t k m
            · have hc : a_pac z wd s i t k m := ⟨⟨h1, h2⟩, fun q => q.elim h3 h4, h5, h6⟩
              rw [if_pos h6]
              obtain ⟨y, hy, ua, rfl, i1, i2⟩ := z_for (o := z_F (e + 19)) (cd := cd_Model_paste) (P := fun x y => ∃ ui, y = (68, [some (.ref 45), some (.int (Int32.ofInt s)), some (.int (Int32.ofInt i)), some (.int (Int32.ofInt t)), some (.int (Int32.ofInt k)), some (.int (Int32.ofInt m)), some (.int (Int32.ofInt (x : Int)))], (n, z_q im, jM w, jL ui)) ∧ (∀ c, c ≠ 64 → ui c = u c) ∧ ∀ j : Nat, j < x → ui 64 j = u 63 (60 * s.toNat + i.toNat + j)) m.toNat (s := (68, [some (.ref 45), some (.int (Int32.ofInt s)), some (.int (Int32.ofInt i)), some (.int (Int32.ofInt t)), some (.int (Int32.ofInt k)), some (.int (Int32.ofInt m)), some (.int (Int32.ofInt 0))], (n, z_q im, jM w, jL u))) ⟨u, rfl, fun _ _ => rfl, fun j hj => absurd hj (by omega)⟩ (fun x y hx hP => by
                obtain ⟨ui, rfl, i1, i2⟩ := hP
                refine ⟨(68, [some (.ref 45), some (.int (Int32.ofInt s)), some (.int (Int32.ofInt i)), some (.int (Int32.ofInt t)), some (.int (Int32.ofInt k)), some (.int (Int32.ofInt m)), some (.int (Int32.ofInt ((x : Int) + 1)))], (n, z_q im, jM w, jL (z_u ui 64 x (ui 63 (60 * s.toNat + i.toNat + x))))), z_To_1 ((e_Model_paste_68 ..).trans ?_), _, rfl, fun c hc => ?_, fun j hj => ?_⟩
                · simp (disch := omega) only [ji_le, ji_mul, ji_add, ji_lt0, ji_nat, jL_at, jL_u]
                  rw [if_neg (by omega), if_neg (by omega), if_neg (by omega), show (60 * s + i + (x : Int)).toNat = 60 * s.toNat + i.toNat + x by omega]
                  rfl
                · rw [z_u_ne hc]; exact i1 c hc
                · rw [z_u_at]
                  by_cases hjx : j = x
                  · rw [if_pos hjx, i1 63 (by decide), hjx]
                  · rw [if_neg hjx]; exact i2 j (by omega))
              obtain ⟨y, hy', ub, rfl, r1, r2, r3, r4⟩ := z_for (o := z_F (e + 19)) (cd := cd_Model_paste) (P := fun x y => ∃ ui, y = (90, [some (.ref 45), some (.int (Int32.ofInt s)), some (.int (Int32.ofInt i)), some (.int (Int32.ofInt t)), some (.int (Int32.ofInt k)), some (.int (Int32.ofInt m)), some (.int (Int32.ofInt (x : Int)))], (n, z_q im, jM w, jL ui)) ∧ (∀ c, c ≠ 63 → c ≠ 64 → ui c = u c) ∧ ui 64 = ua 64 ∧ (∀ q : Nat, ¬ (60 * t.toNat + k.toNat ≤ q ∧ q < 60 * t.toNat + k.toNat + x) → ui 63 q = u 63 q) ∧ ∀ j : Nat, j < x → ui 63 (60 * t.toNat + k.toNat + j) = u 63 (60 * s.toNat + i.toNat + j)) m.toNat (s := (90, [some (.ref 45), some (.int (Int32.ofInt s)), some (.int (Int32.ofInt i)), some (.int (Int32.ofInt t)), some (.int (Int32.ofInt k)), some (.int (Int32.ofInt m)), some (.int (Int32.ofInt 0))], (n, z_q im, jM w, jL ua))) ⟨ua, rfl, fun c c1 c2 => i1 c c2, rfl, fun q _ => by rw [i1 63 (by decide)], fun j hj => absurd hj (by omega)⟩ (fun x y hx hP => by
                obtain ⟨ui, rfl, r1, r2, r3, r4⟩ := hP
                refine ⟨(90, [some (.ref 45), some (.int (Int32.ofInt s)), some (.int (Int32.ofInt i)), some (.int (Int32.ofInt t)), some (.int (Int32.ofInt k)), some (.int (Int32.ofInt m)), some (.int (Int32.ofInt ((x : Int) + 1)))], (n, z_q im, jM w, jL (z_u ui 63 (60 * t.toNat + k.toNat + x) (ui 64 x)))), z_To_1 ((e_Model_paste_90 ..).trans ?_), _, rfl, fun c c1 c2 => ?_, ?_, fun q hq => ?_, fun j hj => ?_⟩
                · simp (disch := omega) only [ji_le, ji_mul, ji_add, ji_lt0, ji_nat, jL_at, jL_u]
                  rw [if_neg (by omega), if_neg (by omega), if_neg (by omega), show (60 * t + k + (x : Int)).toNat = 60 * t.toNat + k.toNat + x by omega]
                  rfl
                · rw [z_u_ne c1]; exact r1 c c1 c2
                · rw [z_u_ne (by decide)]; exact r2
                · rw [z_u_at, if_neg (by omega)]; exact r3 q (by omega)
                · rw [z_u_at]
                  by_cases hjx : j = x
                  · rw [if_pos (by omega), r2, hjx]; exact i2 x hx
                  · rw [if_neg (by omega)]; exact r4 j (by omega))
              refine ⟨ub, n_Model_paste (z_go ((e_Model_paste_0 ..).trans ?_) (hy _ (z_go ((e_Model_paste_68 ..).trans ?_) (hy' _ (z_ret ((e_Model_paste_90 ..).trans ?_)))))), fun a ha => ⟨(hs a ha).1, (hs a ha).2.1, fun j hj => p_nm (J := jL u 63) (J' := jL ub 63) hw (fun a ha => (hs a ha).2.2) hc (fun q hq => ?_) (fun j hj => ?_) a ha j hj⟩, r1⟩
              · rw [s_misSlot hss, z_oI_s, if_neg (ji_b_n h1), s_misSlot ht, z_oI_s, if_neg (ji_b_n h2), if_neg gs, g61s, if_neg (ji_eq_n (by omega) (by decide) h3), if_neg gt, g61t, if_neg (ji_eq_n (by omega) (by decide) h4), if_neg gs, if_neg gt, g62s, g62t, if_pos (ji_eq_p (by omega) (by omega) h5), if_neg (fun q => absurd ((ji_lt0 hi).mp q) (by omega)), if_neg (fun q => absurd ((ji_lt0 hk).mp q) (by omega)), if_neg (fun q => absurd ((ji_lt0 hm).mp q) (by omega)), if_neg gs]
                simp (disch := omega) only [jl_of, jl_add, lc_gt, lc_le, jl_lt]
                rw [if_neg (by omega), if_neg gt, if_pos (by omega)]
              · rw [if_pos (ji_le_p hm (by omega) (by omega))]
              · rw [if_pos (ji_le_p hm (by omega) (by omega))]
              · show Int64.ofInt (ub 63 q) = Int64.ofInt (u 63 q)
                rw [r3 q hq]
              · show Int64.ofInt (ub 63 _) = Int64.ofInt (u 63 _)
                rw [r4 j hj]
            · have hn : N_paste z wd nm s i t k m = nm := if_neg (fun q => h6 q.2.2.2)
              rw [if_neg h6, hn]
              refine ⟨u, n_Model_paste (z_ret ((e_Model_paste_0 ..).trans ?_)), hs, fun _ _ _ => rfl⟩
              rw [s_misSlot hss, z_oI_s, if_neg (ji_b_n h1), s_misSlot ht, z_oI_s, if_neg (ji_b_n h2), if_neg gs, g61s, if_neg (ji_eq_n (by omega) (by decide) h3), if_neg gt, g61t, if_neg (ji_eq_n (by omega) (by decide) h4), if_neg gs, if_neg gt, g62s, g62t, if_pos (ji_eq_p (by omega) (by omega) h5)]
              by_cases j1 : i < 0
              · rw [if_pos ((ji_lt0 hi).mpr j1)]
              · rw [if_neg (fun q => j1 ((ji_lt0 hi).mp q))]
                by_cases j2 : k < 0
                · rw [if_pos ((ji_lt0 hk).mpr j2)]
                · rw [if_neg (fun q => j2 ((ji_lt0 hk).mp q))]
                  by_cases j3 : m < 0
                  · rw [if_pos ((ji_lt0 hm).mpr j3)]
                  · rw [if_neg (fun q => j3 ((ji_lt0 hm).mp q)), if_neg gs]
                    simp (disch := omega) only [jl_of, jl_add, lc_gt, lc_le, jl_lt]
                    by_cases j4 : z s.toNat < i + m
                    · rw [if_pos j4]
                    · rw [if_neg j4, if_neg gt, if_neg (fun q => h6 (by omega))]
          · have hn : N_paste z wd nm s i t k m = nm := if_neg (fun q => h5 q.2.2.1)
            rw [if_neg h5, hn]
            refine ⟨u, n_Model_paste (z_ret ((e_Model_paste_0 ..).trans ?_)), hs, fun _ _ _ => rfl⟩
            rw [s_misSlot hss, z_oI_s, if_neg (ji_b_n h1), s_misSlot ht, z_oI_s, if_neg (ji_b_n h2), if_neg gs, g61s, if_neg (ji_eq_n (by omega) (by decide) h3), if_neg gt, g61t, if_neg (ji_eq_n (by omega) (by decide) h4), if_neg gs, if_neg gt, g62s, g62t, if_neg (ji_eq_n (by omega) (by omega) h5)]
    · have hn : N_paste z wd nm s i t k m = nm := if_neg (fun q => h2 q.1.2)
      rw [if_neg (fun q => h2 q.2), hn]
      refine ⟨u, n_Model_paste (z_ret ((e_Model_paste_0 ..).trans ?_)), hs, fun _ _ _ => rfl⟩
      rw [s_misSlot hss, z_oI_s, if_neg (ji_b_n h1), s_misSlot ht, z_oI_s, if_pos (ji_b_p h2)]
  · have hn : N_paste z wd nm s i t k m = nm := if_neg (fun q => h1 q.1.1)
    rw [if_neg (fun q => h1 q.1), hn]
    refine ⟨u, n_Model_paste (z_ret ((e_Model_paste_0 ..).trans ?_)), hs, fun _ _ _ => rfl⟩
    rw [s_misSlot hss, z_oI_s, if_pos (ji_b_p h1)]
