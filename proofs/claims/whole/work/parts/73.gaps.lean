/-! gaps, himself, odd -/
def so_ (v : Nat → Int) (nm : Nat → Nat → Int64) (s : Int) (i : Nat) (g : Int) : Bool := decide (a_rs (a_kd (v 3) (v 4) g) (a_T v (n_A nm s (3 * i))) (a_T v (n_A nm s (3 * i + 1))) (a_sp v 0 1) 0 0 = n_A nm s (3 * i + 2))
def sB (v : Nat → Int) (nm : Nat → Nat → Int64) (s : Int) : Nat → Nat → Bool
  | 0, _ => true
  | i + 1, g => sB v nm s i g && so_ v nm s i g
theorem sB_m {v : Nat → Int} {nm : Nat → Nat → Int64} {s : Int} {i g : Nat} (h : sB v nm s i g = false) : ∀ m, sB v nm s (i + m) g = false
  | 0 => h
  | m + 1 => by
    have e1 : sB v nm s (i + (m + 1)) g = (sB v nm s (i + m) g && so_ v nm s (i + m) g) := rfl
    rw [e1, sB_m h m]
    rfl
def b_set (S : Nat → Bool) : Nat → Int32
  | 0 => Int32.ofInt 0
  | g + 1 => if S g then b_set S g ||| b_mk g else b_set S g
theorem b_cg {S S' : Nat → Bool} : ∀ n, (∀ x, x < n → S x = S' x) → b_set S n = b_set S' n
  | 0, _ => rfl
  | n + 1, h => by
    simp only [b_set]
    rw [b_cg n (fun x hx => h x (by omega)), h n (by omega)]
theorem b_mk_n : ∀ n ∈ List.range 21, ∀ g ∈ List.range 21, b_mk n &&& (b_mk g ^^^ Int32.ofInt (-1)) = if n = g then Int32.ofInt 0 else b_mk n := by decide +kernel
theorem j_oa (a b c : Int32) : (a ||| b) &&& c = (a &&& c) ||| (b &&& c) := by
  apply Int32.toBitVec_inj.1
  rw [Int32.toBitVec_and, Int32.toBitVec_or, Int32.toBitVec_or, Int32.toBitVec_and, Int32.toBitVec_and]
  apply BitVec.eq_of_getLsbD_eq
  intro i hi
  simp only [BitVec.getLsbD_and, BitVec.getLsbD_or]
  exact Bool.and_or_distrib_right _ _ _
theorem b_del {S : Nat → Bool} {g : Nat} (hg : g < 21) : ∀ n, n ≤ 21 → b_set S n &&& (b_mk g ^^^ Int32.ofInt (-1)) = b_set (fun x => S x && !decide (x = g)) n
  | 0, _ => by
    show Int32.ofInt 0 &&& _ = Int32.ofInt 0
    rw [show Int32.ofInt 0 = (0 : Int32) from rfl, Int32.zero_and]
  | n + 1, h => by
    have h1 := b_mk_n n (List.mem_range.mpr (by omega)) g (List.mem_range.mpr hg)
    have h2 := b_del (S := S) hg n (by omega)
    simp only [b_set]
    by_cases hS : S n = true
    · by_cases hng : n = g
      · rw [if_pos hng] at h1
        rw [if_pos hS, j_oa, h1, h2, show Int32.ofInt 0 = (0 : Int32) from rfl, Int32.or_zero, if_neg (by simp [hng])]
      · rw [if_neg hng] at h1
        rw [if_pos hS, j_oa, h1, h2, if_pos (by simp [hS, hng])]
    · rw [if_neg hS, h2, if_neg (by simp [hS])]
theorem b_full : b_set (fun _ => true) 21 = Int32.ofInt 2097151 := by decide +kernel
def B_g (v : Nat → Int) (nm : Nat → Nat → Int64) (s : Int) (N : Nat) : Int32 := b_set (sB v nm s N) 21
theorem c_s_fr {w w' u : Nat → Nat → Int} {z wd : Nat → Int} {nm : Nat → Nat → Int64} (h : c_s w u z wd nm) (hf : c_fr w w') : c_s w' u z wd nm := fun s hs => by
  rw [hf 24 (by decide), hf 22 (by decide)]
  exact h s hs
theorem x_show {e n : Nat} {im : Nat → Option Nat} {w u : Nat → Nat → Int} {v z wd : Nat → Int} {nm : Nat → Nat → Int64} {s : Int} {N i : Nat} (hv : c_v w v) (hw : a_wf v) (hs : c_s w u z wd nm) (hws : w_s z wd nm) (h1 : 0 ≤ s ∧ s ≤ 3) (h6 : 2 ≤ v 6) (hz : z s.toNat = 3 * (N : Int)) (hok : ∀ p, p < N → P_ok v nm s p) (hi : i < N) : ∃ w', (z_F (e + 6)).2.2.1 k_LongBoats_showPicture [.ref 0, .int (Int32.ofInt s), .int (Int32.ofInt (3 * (i : Int)))] (n, z_q im, jM w, jL u) = some (jM w', jL u) ∧ a_D v w' (n_A nm s (3 * i)) (n_A nm s (3 * i + 1)) 0 1 ∧ c_v w' v ∧ c_fr w w' ∧ a_tr (w' 26) ∧ a_tr (w' 27) ∧ (0 ≤ w' 25 9 ∧ w' 25 9 ≤ 100) := by
  obtain ⟨k1, k2, k3, k4⟩ := hok i hi
  have hzb := (hws s.toNat (by omega)).1
  obtain ⟨w', q1, q2, q3, q4, q5, q6, q7⟩ := x_faces_y (e := e) (n := n) (im := im) (u := u) (a := n_A nm s (3 * i)) (b := n_A nm s (3 * i + 1)) (bo := 0) (ot := 1) hv hw ⟨k1, k2, k4, by omega, by omega⟩
  refine ⟨w', q_LongBoats_showPicture ?_, q2, q3, q4, q5, q6, q7⟩
  simp only [ji_add]
  rw [s_cat hs hws h1 (by omega), z_oJ_s, s_cat hs hws h1 (by omega), z_oJ_s, show (3 * (i : Int)).toNat = 3 * i by omega, show (3 * (i : Int) + 1).toNat = 3 * i + 1 by omega, jl_to, jl_to, q1, z_oI_s]
/-- the result of a shown picture at a gap -/
theorem x_shr {e n : Nat} {im : Nat → Option Nat} {w u : Nat → Nat → Int} {v : Nat → Int} {a b g : Int} (hw : a_wf v) (hD : a_D v w a b 0 1) (t1 : a_tr (w 26)) (t2 : a_tr (w 27)) (h9 : 0 ≤ w 25 9 ∧ w 25 9 ≤ 100) (hg : 0 ≤ g ∧ g ≤ 20) : (z_F (e + 3)).1 k_Duel_kindOf [.ref 25, .int (Int32.ofInt g)] (n, z_q im, jM w, jL u) = some (Int32.ofInt (a_kd (v 3) (v 4) g), jM w, jL u) ∧ (z_F (e + 3)).1 k_Duel_resultOf [.ref 25, .int (Int32.ofInt (a_kd (v 3) (v 4) g)), .int (Int32.ofInt 0), .int (Int32.ofInt 0)] (n, z_q im, jM w, jL u) = some (Int32.ofInt (a_rs (a_kd (v 3) (v 4) g) (a_T v a) (a_T v b) (a_sp v 0 1) 0 0), jM w, jL u) ∧ (z_F (e + 3)).1 k_Duel_fateOfOne [.ref 25, .int (Int32.ofInt (a_kd (v 3) (v 4) g)), .int (Int32.ofInt 0), .int (Int32.ofInt 0)] (n, z_q im, jM w, jL u) = some (Int32.ofInt (a_ft (a_kd (v 3) (v 4) g) (a_T v a) (a_T v b) (a_sp v 0 1) 0 0), jM w, jL u) := by
  obtain ⟨f0, f1, f2, f3, f4, f5, f6, f7, f8, f9, f10, f11, f12⟩ := id hw
  obtain ⟨d1, d2, d3, d4, d5, d6, d7, d8, d9, d10⟩ := hD
  refine ⟨?_, ?_, ?_⟩
  · rw [s_dkind (by omega) (by omega) (by omega), d6, d7]
  · rw [s_dres (a_kd_b _ _ _) t1 t2 h9 (by decide) (by decide), a_rs_cg d1 d2, d3]
  · rw [s_fateOne (a_kd_b _ _ _) t1 t2 h9 (by decide) (by decide), a_ft_cg d1 d2, d3]
theorem x_gapBits {e n : Nat} {im : Nat → Option Nat} {w u : Nat → Nat → Int} {v z wd : Nat → Int} {nm : Nat → Nat → Int64} {s : Int} {N : Nat} (hv : c_v w v) (hw : a_wf v) (hs : c_s w u z wd nm) (hws : w_s z wd nm) (h1 : 0 ≤ s ∧ s ≤ 3) (h6 : 2 ≤ v 6) (hN : N ≤ 20) (hz : z s.toNat = 3 * (N : Int)) (hok : ∀ p, p < N → P_ok v nm s p) : ∃ w', (z_F (e + 7)).1 k_LongBoats_gapBits [.ref 0, .int (Int32.ofInt s)] (n, z_q im, jM w, jL u) = some (B_g v nm s N, jM w', jL u) ∧ c_v w' v ∧ c_fr w w' := by
  obtain ⟨t, ht, wf, q, rfl, hvf, hff⟩ := z_for (o := z_F (e + 6)) (cd := cd_LongBoats_gapBits) (P := fun i t => ∃ wi q, t = (5, [some (.ref 0), some (.int (Int32.ofInt s)), some (.int (b_set (sB v nm s i) 21)), some (.int (Int32.ofInt (3 * (i : Int)))), q], (n, z_q im, jM wi, jL u)) ∧ c_v wi v ∧ c_fr w wi) N (s := (5, [some (.ref 0), some (.int (Int32.ofInt s)), some (.int (Int32.ofInt 2097151)), some (.int (Int32.ofInt 0)), none], (n, z_q im, jM w, jL u))) ⟨w, none, by rw [show b_set (sB v nm s 0) 21 = Int32.ofInt 2097151 from b_full]; rfl, hv, c_fr_rf w⟩ (fun i t hi hP => by
    obtain ⟨wi, q, rfl, hvi, hfi⟩ := hP
    have hsi := c_s_fr hs hfi
    obtain ⟨o1, o2, o3⟩ := hsi s.toNat (by omega)
    obtain ⟨w2, q1, q2, q3, q4, q5, q6, q7⟩ := x_show (e := e) (n := n) (im := im) (u := u) hvi hw hsi hws h1 h6 hz hok hi
    have hs2 := c_s_fr hsi q4
    obtain ⟨t, ht, rfl⟩ := z_for (o := z_F (e + 6)) (cd := cd_LongBoats_gapBits) (P := fun g t => t = (20, [some (.ref 0), some (.int (Int32.ofInt s)), some (.int (b_set (fun x => if x < g then sB v nm s (i + 1) x else sB v nm s i x) 21)), some (.int (Int32.ofInt (3 * (i : Int)))), some (.int (Int32.ofInt (g : Int)))], (n, z_q im, jM w2, jL u))) 21 (s := (20, [some (.ref 0), some (.int (Int32.ofInt s)), some (.int (b_set (sB v nm s i) 21)), some (.int (Int32.ofInt (3 * (i : Int)))), some (.int (Int32.ofInt 0))], (n, z_q im, jM w2, jL u))) (by rw [show b_set (sB v nm s i) 21 = b_set (fun x => if x < 0 then sB v nm s (i + 1) x else sB v nm s i x) 21 from b_cg _ (fun x _ => by rw [if_neg (Nat.not_lt_zero x)])]; rfl) (fun g t hg hP => by
      subst hP
      obtain ⟨r1, r2, r3⟩ := x_shr (e := e + 3) (n := n) (im := im) (u := u) (g := (g : Int)) hw q2 q5 q6 q7 (by omega)
      have r4 := s_cat (e := e + 3) (n := n) (im := im) (i := 3 * (i : Int) + 2) hs2 hws h1 (by omega)
      rw [show (3 * (i : Int) + 2).toNat = 3 * i + 2 by omega] at r4
      have jC := n_A_q nm s (3 * i + 2)
      have hrb := a_rs_b (a_kd (v 3) (v 4) g) (a_T v (n_A nm s (3 * i))) (a_T v (n_A nm s (3 * i + 1))) (a_sp v 0 1) 0 0
      refine ⟨(20, [some (.ref 0), some (.int (Int32.ofInt s)), some (.int (b_set (fun x => if x < g + 1 then sB v nm s (i + 1) x else sB v nm s i x) 21)), some (.int (Int32.ofInt (3 * (i : Int)))), some (.int (Int32.ofInt ((g : Int) + 1)))], (n, z_q im, jM w2, jL u)), z_To_1 ((e_LongBoats_gapBits_20 ..).trans ?_), rfl⟩
      rw [if_neg (ji_lt_n (by decide) (by omega) (by omega)), r1, z_oI_s, r2, z_oI_s]
      simp only [ji_add]
      rw [r4, z_oJ_s, jl_of (by omega)]
      have hsb : sB v nm s (i + 1) g = (sB v nm s i g && so_ v nm s i g) := rfl
      by_cases hh : a_rs (a_kd (v 3) (v 4) g) (a_T v (n_A nm s (3 * i))) (a_T v (n_A nm s (3 * i + 1))) (a_sp v 0 1) 0 0 = n_A nm s (3 * i + 2)
      · rw [if_pos ((lc_eq _ _).mpr ((jl_eq (by omega) jC).mpr hh))]
        have hso : so_ v nm s i g = true := decide_eq_true hh
        rw [show b_set (fun x => if x < g + 1 then sB v nm s (i + 1) x else sB v nm s i x) 21 = b_set (fun x => if x < g then sB v nm s (i + 1) x else sB v nm s i x) 21 from b_cg _ (fun x _ => by
          by_cases hx : x = g
          · rw [if_pos (by omega), if_neg (by omega), hx, hsb, hso, Bool.and_true]
          · by_cases hx2 : x < g
            · rw [if_pos (by omega), if_pos hx2]
            · rw [if_neg (by omega), if_neg hx2])]
      · rw [if_neg (fun q => hh ((jl_eq (by omega) jC).mp ((lc_eq _ _).mp q)))]
        have hso : so_ v nm s i g = false := decide_eq_false hh
        have hbd := b_del (S := fun x => if x < g then sB v nm s (i + 1) x else sB v nm s i x) hg 21 (by decide)
        have hbe : b_set (fun x => if x < g + 1 then sB v nm s (i + 1) x else sB v nm s i x) 21 = b_set (fun x => if x < g then sB v nm s (i + 1) x else sB v nm s i x) 21 &&& (b_mk g ^^^ Int32.ofInt (-1)) := by
          rw [hbd]
          refine b_cg _ (fun x _ => ?_)
          by_cases hx : x = g
          · rw [if_pos (by omega), hx, hsb, hso]; simp
          · by_cases hx2 : x < g
            · rw [if_pos (by omega), if_pos hx2]; simp [hx]
            · rw [if_neg (by omega), if_neg hx2]; simp [hx]
        rw [hbe]
        rfl)
    refine ⟨(5, [some (.ref 0), some (.int (Int32.ofInt s)), some (.int (b_set (sB v nm s (i + 1)) 21)), some (.int (Int32.ofInt (3 * ((i + 1 : Nat) : Int)))), some (.int (Int32.ofInt ((21 : Nat) : Int)))], (n, z_q im, jM w2, jL u)), z_To_tr (z_To_1 ((e_LongBoats_gapBits_5 ..).trans ?_)) (z_To_tr ht (z_To_1 ((e_LongBoats_gapBits_20 ..).trans ?_))), w2, _, rfl, q3, c_fr_tr hfi q4⟩
    · rw [s_ssize h1, z_oI_s, o1, ji_add, if_neg (ji_le_n (by omega) (by omega) (by omega)), q1, z_oV_s]
    · rw [if_pos (ji_lt_p (by decide) (by decide) (by decide)), ji_add, show 3 * ((i + 1 : Nat) : Int) = 3 * (i : Int) + 3 by omega, show b_set (sB v nm s (i + 1)) 21 = b_set (fun x => if x < 21 then sB v nm s (i + 1) x else sB v nm s i x) 21 from b_cg _ (fun x hx => by rw [if_pos hx])])
  refine ⟨wf, n_LongBoats_gapBits (z_go (e_LongBoats_gapBits_0 ..) (ht _ (z_ret ((e_LongBoats_gapBits_5 ..).trans ?_)))), hvf, hff⟩
  have hsf := c_s_fr hs hff
  rw [s_ssize h1, z_oI_s, (hsf s.toNat (by omega)).1, ji_add, if_pos (ji_le_p (by omega) (by omega) (by omega))]
  rfl
theorem m_isSo {e n : Nat} {im : Nat → Option Nat} {w u : Nat → Nat → Int} {z wd : Nat → Int} {nm : Nat → Nat → Int64} {s g : Int} {N i : Nat} (hw : a_wf (w 46)) (hs : m_s w u z wd nm) (hws : w_s z wd nm) (h1 : 0 ≤ s ∧ s ≤ 3) (h6 : 2 ≤ w 46 6) (hz : z s.toNat = 3 * (N : Int)) (hok : ∀ p, p < N → P_ok (w 46) nm s p) (hi : i < N) (hg : 0 ≤ g ∧ g ≤ 20) : (z_F (e + 6)).1 k_Model_isSo [.ref 45, .int (Int32.ofInt s), .int (Int32.ofInt (3 * (i : Int))), .int (Int32.ofInt g)] (n, z_q im, jM w, jL u) = some (Int32.ofInt (if so_ (w 46) nm s i g = true then 1 else 0), jM w, jL u) := by
  obtain ⟨f0, f1, f2, f3, f4, f5, f6, f7, f8, f9, f10, f11, f12⟩ := id hw
  obtain ⟨k1, k2, k3, k4⟩ := hok i hi
  have hzb := (hws s.toNat (by omega)).1
  have b1 := f10 0 (by decide) (by omega)
  have b2 := f10 1 (by decide) (by omega)
  have spb := a_sp_b b1 b2 f0
  have jC := n_A_q nm s (3 * i + 2)
  have hrb := a_rs_b (a_kd (w 46 3) (w 46 4) g) (a_T (w 46) (n_A nm s (3 * i))) (a_T (w 46) (n_A nm s (3 * i + 1))) (a_sp (w 46) 0 1) 0 0
  refine q_Model_isSo ?_
  simp only [ji_add]
  rw [s_mat hs hws h1 (by omega), z_oJ_s, s_mat hs hws h1 (by omega), z_oJ_s, show (3 * (i : Int)).toNat = 3 * i by omega, show (3 * (i : Int) + 1).toNat = 3 * i + 1 by omega, jl_to, jl_to, s_speedOf (by decide) (by decide) (by decide) (by decide) b1 b2 f0, z_oI_s, s_resultOf (by omega) (by omega) (by omega) (by omega) (f11 _ k1.1 k1.2) (f11 _ k2.1 k2.2) (by omega) (by decide) (by decide) (by omega) (by omega) (by omega), z_oI_s, s_mat hs hws h1 (by omega), z_oJ_s, show (3 * (i : Int) + 2).toNat = 3 * i + 2 by omega, jl_of (by omega)]
  by_cases hh : a_rs (a_kd (w 46 3) (w 46 4) g) (a_T (w 46) (n_A nm s (3 * i))) (a_T (w 46) (n_A nm s (3 * i + 1))) (a_sp (w 46) 0 1) 0 0 = n_A nm s (3 * i + 2)
  · rw [if_pos ((lc_eq _ _).mpr ((jl_eq (by omega) jC).mpr hh)), if_pos (show so_ (w 46) nm s i g = true from decide_eq_true hh)]
  · rw [if_neg (fun q => hh ((jl_eq (by omega) jC).mp ((lc_eq _ _).mp q))), if_neg (fun q : so_ (w 46) nm s i g = true => hh (of_decide_eq_true q))]
theorem m_gapsOf {e n : Nat} {im : Nat → Option Nat} {w u : Nat → Nat → Int} {z wd : Nat → Int} {nm : Nat → Nat → Int64} {s : Int} {N : Nat} (hw : a_wf (w 46)) (hs : m_s w u z wd nm) (hws : w_s z wd nm) (h1 : 0 ≤ s ∧ s ≤ 3) (h6 : 2 ≤ w 46 6) (hN : N ≤ 20) (hz : z s.toNat = 3 * (N : Int)) (hok : ∀ p, p < N → P_ok (w 46) nm s p) : (z_F (e + 7)).1 k_Model_gapsOf [.ref 45, .int (Int32.ofInt s)] (n, z_q im, jM w, jL u) = some (B_g (w 46) nm s N, jM w, jL u) := by
  have gs : ¬ (Int32.ofInt s < 0 ∨ 4 ≤ (Int32.ofInt s).toNatClampNeg) := by
    rw [ji_lt0 (by omega), ji_nat (by omega)]
    omega
  have g61s : ((jM w, jL u) : zD).1 61 (Int32.ofInt s).toNatClampNeg = Int32.ofInt (z s.toNat) := by
    rw [ji_nat (by omega), ← (hs s.toNat (by omega)).1]
    rfl
  obtain ⟨t, ht, q4, q5, rfl⟩ := z_for (o := z_F (e + 6)) (cd := cd_Model_gapsOf) (P := fun g t => ∃ q4 q5, t = (5, [some (.ref 45), some (.int (Int32.ofInt s)), some (.int (b_set (sB (w 46) nm s N) g)), some (.int (Int32.ofInt (g : Int))), q4, q5], (n, z_q im, jM w, jL u))) 21 (s := (5, [some (.ref 45), some (.int (Int32.ofInt s)), some (.int (Int32.ofInt 0)), some (.int (Int32.ofInt 0)), none, none], (n, z_q im, jM w, jL u))) ⟨none, none, rfl⟩ (fun g t hg hP => by
    obtain ⟨q4, q5, rfl⟩ := hP
    have hl : ∀ (m i : Nat), i + m = N → ∃ q4 q5, z_To (z_F (e + 6)) cd_Model_gapsOf (13, [some (.ref 45), some (.int (Int32.ofInt s)), some (.int (b_set (sB (w 46) nm s N) g)), some (.int (Int32.ofInt (g : Int))), some (.int (Int32.ofInt (if sB (w 46) nm s i g = true then 1 else 0))), some (.int (Int32.ofInt (3 * (i : Int))))], (n, z_q im, jM w, jL u)) (5, [some (.ref 45), some (.int (Int32.ofInt s)), some (.int (b_set (sB (w 46) nm s N) (g + 1))), some (.int (Int32.ofInt ((g : Int) + 1))), q4, q5], (n, z_q im, jM w, jL u)) := by
      intro m
      induction m with
      | zero =>
        intro i hi
        have hiN : i = N := by omega
        subst hiN
        refine ⟨some (.int (Int32.ofInt (if sB (w 46) nm s i g = true then 1 else 0))), some (.int (Int32.ofInt (3 * (i : Int)))), z_To_1 ((e_Model_gapsOf_13 ..).trans ?_)⟩
        · rw [if_neg gs, g61s, if_pos (ji_le_p (by omega) (by omega) (by omega)), ji_add]
          simp only [b_set]
          by_cases hh : sB (w 46) nm s i g = true
          · rw [if_neg (ji_b_n hh), if_pos (c := sB (w 46) nm s i g = true) (t := b_set (sB (w 46) nm s i) g ||| b_mk g) hh]
            rfl
          · rw [if_pos (ji_b_p hh), if_neg (c := sB (w 46) nm s i g = true) (t := b_set (sB (w 46) nm s i) g ||| b_mk g) hh, show Int32.ofInt 0 = (0 : Int32) from rfl, Int32.or_zero]
      | succ m ih =>
        intro i hi
        by_cases hh : sB (w 46) nm s i g = true
        · obtain ⟨q4, q5, hto⟩ := ih (i + 1) (by omega)
          refine ⟨q4, q5, z_To_tr (z_To_1 ((e_Model_gapsOf_13 ..).trans ?_)) hto⟩
          have hsb : sB (w 46) nm s (i + 1) g = (sB (w 46) nm s i g && so_ (w 46) nm s i g) := rfl
          rw [if_neg gs, g61s, if_neg (ji_le_n (by omega) (by omega) (by omega)), if_neg (ji_b_n hh), m_isSo hw hs hws h1 h6 hz hok (by omega) (by omega), z_oI_s, ji_add, hsb, hh, Bool.true_and, ic, Int.mul_add]
          rfl
        · have hhf : sB (w 46) nm s i g = false := by simpa using hh
          have hNf : sB (w 46) nm s N g = false := by rw [← hi]; exact sB_m hhf (m + 1)
          refine ⟨some (.int (Int32.ofInt (if sB (w 46) nm s i g = true then 1 else 0))), some (.int (Int32.ofInt (3 * (i : Int)))), z_To_1 ((e_Model_gapsOf_13 ..).trans ?_)⟩
          · rw [if_neg gs, g61s, if_neg (ji_le_n (by omega) (by omega) (by omega)), if_pos (ji_b_p hh), if_pos (ji_b_p hh), ji_add]
            simp only [b_set]
            rw [if_neg (c := sB (w 46) nm s N g = true) (by rw [hNf]; decide), show Int32.ofInt 0 = (0 : Int32) from rfl, Int32.or_zero]
    obtain ⟨q4', q5', hto⟩ := hl N 0 (by omega)
    refine ⟨_, z_To_tr (z_To_1 ((e_Model_gapsOf_5 ..).trans ?_)) hto, q4', q5', rfl⟩
    rw [if_neg (ji_lt_n (by decide) (by omega) (by omega))]
    rfl)
  refine n_Model_gapsOf (z_go (e_Model_gapsOf_0 ..) (ht _ (z_ret ((e_Model_gapsOf_5 ..).trans ?_))))
  rw [if_pos (ji_lt_p (by decide) (by decide) (by decide))]
  rfl
def V_gaps (v z : Nat → Int) (nm : Nat → Nat → Int64) (s : Int) : Int := if F_p v z nm s = 0 then (B_g v nm s (z s.toNat / 3).toNat).toInt else F_p v z nm s
theorem x_gaps {e n : Nat} {im : Nat → Option Nat} {w u : Nat → Nat → Int} {v z wd : Nat → Int} {nm : Nat → Nat → Int64} {s : Int} (hv : c_v w v) (hw : a_wf v) (hs : c_s w u z wd nm) (hws : w_s z wd nm) (hss : jR s) : ∃ w', (z_F (e + 20)).1 k_LongBoats_gaps [.ref 0, .int (Int32.ofInt s)] (n, z_q im, jM w, jL u) = some (Int32.ofInt (V_gaps v z nm s), jM w', jL u) ∧ c_fr w w' := by
  unfold V_gaps
  have hb := F_p_b v z nm s
  by_cases h0 : F_p v z nm s = 0
  · obtain ⟨h1, h6, N, hN, hz, hok⟩ := F_p_0 hws h0
    obtain ⟨w', q1, q2, q3⟩ := x_gapBits (e := e + 12) (n := n) (im := im) (u := u) hv hw hs hws h1 h6 hN hz hok
    refine ⟨w', q_LongBoats_gaps ?_, q3⟩
    rw [if_pos h0, Int32.ofInt_toInt, x_pf hv hw hs hws hss, z_oI_s, if_pos (ji_eq0_p (by omega) h0), q1, z_oI_s, show (z s.toNat / 3).toNat = N by omega]
  · refine ⟨w, q_LongBoats_gaps ?_, c_fr_rf w⟩
    rw [if_neg h0, x_pf hv hw hs hws hss, z_oI_s, if_neg (ji_eq0_n (by omega) h0)]
theorem m_gaps {e n : Nat} {im : Nat → Option Nat} {w u : Nat → Nat → Int} {z wd : Nat → Int} {nm : Nat → Nat → Int64} {s : Int} (hw : a_wf (w 46)) (hs : m_s w u z wd nm) (hws : w_s z wd nm) (hss : jR s) : (z_F (e + 20)).1 k_Model_gaps [.ref 45, .int (Int32.ofInt s)] (n, z_q im, jM w, jL u) = some (Int32.ofInt (V_gaps (w 46) z nm s), jM w, jL u) := by
  unfold V_gaps
  have hb := F_p_b (w 46) z nm s
  have hpf := m_pf (e := e + 15) (n := n) (im := im) (b := 1) hw hs hws hss (Or.inr rfl)
  rw [if_neg (by decide)] at hpf
  refine q_Model_gaps ?_
  rw [hpf, z_oI_s]
  by_cases h0 : F_p (w 46) z nm s = 0
  · obtain ⟨h1, h6, N, hN, hz, hok⟩ := F_p_0 hws h0
    rw [if_pos h0, Int32.ofInt_toInt, if_pos ((ji_0le (by omega)).mpr (by omega)), m_gapsOf hw hs hws h1 h6 hN hz hok, z_oI_s, show (z s.toNat / 3).toNat = N by omega]
  · rw [if_neg h0, if_neg (fun q => h0 (by have := (ji_0le (a := F_p (w 46) z nm s) (by omega)).mp q; omega))]
