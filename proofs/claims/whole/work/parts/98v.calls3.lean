/-! image and back in pairs -/
theorem zh_ne {h p : Nat} {im : Nat → Option Nat} (h1 : p ≠ h + 1) (h2 : p ≠ 2000 + h) (h3 : p ≠ h + 3) (h4 : p ≠ 2200 + h) (h5 : p ≠ h + 5) (h6 : p ≠ 2400 + h) : z_h h im p = im p := by
  unfold z_h
  rw [z_v_at, if_neg h6, z_v_at, if_neg h5, z_v_at, if_neg h4, z_v_at, if_neg h3, z_v_at, if_neg h2, z_v_at, if_neg h1]
theorem zv_ne {q x p : Nat} {im : Nat → Option Nat} (h : p ≠ q) : z_v im q x p = im p := by rw [z_v_at, if_neg h]
theorem H_i_zh {h : Nat} {im : Nat → Option Nat} (hh : h < 200) : H_i h (z_h h im) := by
  unfold z_h
  refine ⟨?_, ?_, ?_, ?_, ?_, ?_⟩
  · rw [z_v_at, if_neg (by omega), z_v_at, if_neg (by omega), z_v_at, if_neg (by omega), z_v_at, if_neg (by omega), z_v_at, if_neg (by omega), z_v_at, if_pos rfl]
  · rw [z_v_at, if_neg (by omega), z_v_at, if_neg (by omega), z_v_at, if_neg (by omega), z_v_at, if_neg (by omega), z_v_at, if_pos rfl]
  · rw [z_v_at, if_neg (by omega), z_v_at, if_neg (by omega), z_v_at, if_neg (by omega), z_v_at, if_pos rfl]
  · rw [z_v_at, if_neg (by omega), z_v_at, if_neg (by omega), z_v_at, if_pos rfl]
  · rw [z_v_at, if_neg (by omega), z_v_at, if_pos rfl]
  · rw [z_v_at, if_pos rfl]
theorem H_i_cg {h : Nat} {im im' : Nat → Option Nat} (k : H_i h im) (e : ∀ p, (p = h + 1 ∨ p = 2000 + h ∨ p = h + 3 ∨ p = 2200 + h ∨ p = h + 5 ∨ p = 2400 + h) → im' p = im p) : H_i h im' := by
  obtain ⟨k1, k2, k3, k4, k5, k6⟩ := k
  exact ⟨(e _ (by omega)).trans k1, (e _ (by omega)).trans k2, (e _ (by omega)).trans k3, (e _ (by omega)).trans k4, (e _ (by omega)).trans k5, (e _ (by omega)).trans k6⟩
theorem x_im_new {im : Nat → Option Nat} {w u : Nat → Nat → Int} {v : Nat → Int} : ∀ k c : Nat, k < 3 → c < 3 → im (200 * k + 18) = none → c_v w v → ∃ w', (z_F 100).2.2.2.2 k_LongBoats_image [.ref 0, .int (Int32.ofInt (k : Int))] (65 + 7 * c, z_q im, jM w, jL u) = some (Int32.ofInt 0, (65 + 7 * (c + 1), z_q (z_v (z_h (65 + 7 * c) im) (200 * k + 18) (65 + 7 * c)), jM w', jL u)) ∧ c_h w' (65 + 7 * c) v ∧ ∀ x, x ≠ 65 + 7 * c → x ≠ 65 + 7 * c + 2 → x ≠ 65 + 7 * c + 4 → x ≠ 65 + 7 * c + 6 → w' x = w x
  | 0, 0, _, _, h0, hv => x_imn_0_65 (e := 80) h0 hv
  | 0, 1, _, _, h0, hv => x_imn_0_72 (e := 80) h0 hv
  | 0, 2, _, _, h0, hv => x_imn_0_79 (e := 80) h0 hv
  | 1, 0, _, _, h0, hv => x_imn_1_65 (e := 80) h0 hv
  | 1, 1, _, _, h0, hv => x_imn_1_72 (e := 80) h0 hv
  | 1, 2, _, _, h0, hv => x_imn_1_79 (e := 80) h0 hv
  | 2, 0, _, _, h0, hv => x_imn_2_65 (e := 80) h0 hv
  | 2, 1, _, _, h0, hv => x_imn_2_72 (e := 80) h0 hv
  | 2, 2, _, _, h0, hv => x_imn_2_79 (e := 80) h0 hv
  | k + 3, _, h, _, _, _ => absurd h (by omega)
  | _, c + 3, _, h, _, _ => absurd h (by omega)
theorem x_im_old {n : Nat} {im : Nat → Option Nat} {w u : Nat → Nat → Int} {v : Nat → Int} : ∀ k c : Nat, k < 3 → c < 3 → im (200 * k + 18) = some (65 + 7 * c) → H_i (65 + 7 * c) im → c_v w v → ∃ w', (z_F 100).2.2.2.2 k_LongBoats_image [.ref 0, .int (Int32.ofInt (k : Int))] (n, z_q im, jM w, jL u) = some (Int32.ofInt 0, (n, z_q im, jM w', jL u)) ∧ c_h w' (65 + 7 * c) v ∧ ∀ x, x ≠ 65 + 7 * c → x ≠ 65 + 7 * c + 2 → x ≠ 65 + 7 * c + 4 → x ≠ 65 + 7 * c + 6 → w' x = w x
  | 0, 0, _, _, h0, hH, hv => by
    have him : z_h 65 (z_v im 18 65) = im := by rw [z_v_self h0, H_i_h hH]
    obtain ⟨w1, k1, k2, k3⟩ := x_img_0_65 (e := 80) (n := n) (im := im) (u := u) hv
    rw [him] at k1
    exact ⟨w1, k1, k2, k3⟩
  | 0, 1, _, _, h0, hH, hv => by
    have him : z_h 72 (z_v im 18 72) = im := by rw [z_v_self h0, H_i_h hH]
    obtain ⟨w1, k1, k2, k3⟩ := x_img_0_72 (e := 80) (n := n) (im := im) (u := u) hv
    rw [him] at k1
    exact ⟨w1, k1, k2, k3⟩
  | 0, 2, _, _, h0, hH, hv => by
    have him : z_h 79 (z_v im 18 79) = im := by rw [z_v_self h0, H_i_h hH]
    obtain ⟨w1, k1, k2, k3⟩ := x_img_0_79 (e := 80) (n := n) (im := im) (u := u) hv
    rw [him] at k1
    exact ⟨w1, k1, k2, k3⟩
  | 1, 0, _, _, h0, hH, hv => by
    have him : z_h 65 (z_v im 218 65) = im := by rw [z_v_self h0, H_i_h hH]
    obtain ⟨w1, k1, k2, k3⟩ := x_img_1_65 (e := 80) (n := n) (im := im) (u := u) hv
    rw [him] at k1
    exact ⟨w1, k1, k2, k3⟩
  | 1, 1, _, _, h0, hH, hv => by
    have him : z_h 72 (z_v im 218 72) = im := by rw [z_v_self h0, H_i_h hH]
    obtain ⟨w1, k1, k2, k3⟩ := x_img_1_72 (e := 80) (n := n) (im := im) (u := u) hv
    rw [him] at k1
    exact ⟨w1, k1, k2, k3⟩
  | 1, 2, _, _, h0, hH, hv => by
    have him : z_h 79 (z_v im 218 79) = im := by rw [z_v_self h0, H_i_h hH]
    obtain ⟨w1, k1, k2, k3⟩ := x_img_1_79 (e := 80) (n := n) (im := im) (u := u) hv
    rw [him] at k1
    exact ⟨w1, k1, k2, k3⟩
  | 2, 0, _, _, h0, hH, hv => by
    have him : z_h 65 (z_v im 418 65) = im := by rw [z_v_self h0, H_i_h hH]
    obtain ⟨w1, k1, k2, k3⟩ := x_img_2_65 (e := 80) (n := n) (im := im) (u := u) hv
    rw [him] at k1
    exact ⟨w1, k1, k2, k3⟩
  | 2, 1, _, _, h0, hH, hv => by
    have him : z_h 72 (z_v im 418 72) = im := by rw [z_v_self h0, H_i_h hH]
    obtain ⟨w1, k1, k2, k3⟩ := x_img_2_72 (e := 80) (n := n) (im := im) (u := u) hv
    rw [him] at k1
    exact ⟨w1, k1, k2, k3⟩
  | 2, 2, _, _, h0, hH, hv => by
    have him : z_h 79 (z_v im 418 79) = im := by rw [z_v_self h0, H_i_h hH]
    obtain ⟨w1, k1, k2, k3⟩ := x_img_2_79 (e := 80) (n := n) (im := im) (u := u) hv
    rw [him] at k1
    exact ⟨w1, k1, k2, k3⟩
  | k + 3, _, h, _, _, _, _ => absurd h (by omega)
  | _, c + 3, _, h, _, _, _ => absurd h (by omega)
theorem x_bk_old {n : Nat} {im : Nat → Option Nat} {w u : Nat → Nat → Int} {v : Nat → Int} : ∀ k c : Nat, k < 3 → c < 3 → im (200 * k + 18) = some (65 + 7 * c) → H_i (65 + 7 * c) im → c_h w (65 + 7 * c) v → ∃ w', (z_F 100).1 k_LongBoats_back [.ref 0, .int (Int32.ofInt (k : Int))] (n, z_q im, jM w, jL u) = some (Int32.ofInt 0, jM w', jL u) ∧ c_v w' v ∧ ∀ x, x ≠ 3 → x ≠ 5 → x ≠ 7 → x ≠ 9 → w' x = w x
  | 0, 0, _, _, h0, hH, hv => by
    have him : z_h 65 (z_v im 18 65) = im := by rw [z_v_self h0, H_i_h hH]
    obtain ⟨w1, k1, k2, k3⟩ := x_bck_0_65 (e := 80) (n := n) (im := im) (u := u) hv
    rw [him] at k1
    exact ⟨w1, k1, k2, k3⟩
  | 0, 1, _, _, h0, hH, hv => by
    have him : z_h 72 (z_v im 18 72) = im := by rw [z_v_self h0, H_i_h hH]
    obtain ⟨w1, k1, k2, k3⟩ := x_bck_0_72 (e := 80) (n := n) (im := im) (u := u) hv
    rw [him] at k1
    exact ⟨w1, k1, k2, k3⟩
  | 0, 2, _, _, h0, hH, hv => by
    have him : z_h 79 (z_v im 18 79) = im := by rw [z_v_self h0, H_i_h hH]
    obtain ⟨w1, k1, k2, k3⟩ := x_bck_0_79 (e := 80) (n := n) (im := im) (u := u) hv
    rw [him] at k1
    exact ⟨w1, k1, k2, k3⟩
  | 1, 0, _, _, h0, hH, hv => by
    have him : z_h 65 (z_v im 218 65) = im := by rw [z_v_self h0, H_i_h hH]
    obtain ⟨w1, k1, k2, k3⟩ := x_bck_1_65 (e := 80) (n := n) (im := im) (u := u) hv
    rw [him] at k1
    exact ⟨w1, k1, k2, k3⟩
  | 1, 1, _, _, h0, hH, hv => by
    have him : z_h 72 (z_v im 218 72) = im := by rw [z_v_self h0, H_i_h hH]
    obtain ⟨w1, k1, k2, k3⟩ := x_bck_1_72 (e := 80) (n := n) (im := im) (u := u) hv
    rw [him] at k1
    exact ⟨w1, k1, k2, k3⟩
  | 1, 2, _, _, h0, hH, hv => by
    have him : z_h 79 (z_v im 218 79) = im := by rw [z_v_self h0, H_i_h hH]
    obtain ⟨w1, k1, k2, k3⟩ := x_bck_1_79 (e := 80) (n := n) (im := im) (u := u) hv
    rw [him] at k1
    exact ⟨w1, k1, k2, k3⟩
  | 2, 0, _, _, h0, hH, hv => by
    have him : z_h 65 (z_v im 418 65) = im := by rw [z_v_self h0, H_i_h hH]
    obtain ⟨w1, k1, k2, k3⟩ := x_bck_2_65 (e := 80) (n := n) (im := im) (u := u) hv
    rw [him] at k1
    exact ⟨w1, k1, k2, k3⟩
  | 2, 1, _, _, h0, hH, hv => by
    have him : z_h 72 (z_v im 418 72) = im := by rw [z_v_self h0, H_i_h hH]
    obtain ⟨w1, k1, k2, k3⟩ := x_bck_2_72 (e := 80) (n := n) (im := im) (u := u) hv
    rw [him] at k1
    exact ⟨w1, k1, k2, k3⟩
  | 2, 2, _, _, h0, hH, hv => by
    have him : z_h 79 (z_v im 418 79) = im := by rw [z_v_self h0, H_i_h hH]
    obtain ⟨w1, k1, k2, k3⟩ := x_bck_2_79 (e := 80) (n := n) (im := im) (u := u) hv
    rw [him] at k1
    exact ⟨w1, k1, k2, k3⟩
  | k + 3, _, h, _, _, _, _ => absurd h (by omega)
  | _, c + 3, _, h, _, _, _ => absurd h (by omega)
theorem x_bk_no {n : Nat} {im : Nat → Option Nat} {w u : Nat → Nat → Int} : ∀ k : Nat, k < 3 → im (200 * k + 18) = none → (z_F 100).1 k_LongBoats_back [.ref 0, .int (Int32.ofInt (k : Int))] (n, z_q im, jM w, jL u) = some (Int32.ofInt (-6), jM w, jL u)
  | 0, _, h0 => x_bck_e_0 (e := 80) h0
  | 1, _, h0 => x_bck_e_1 (e := 80) h0
  | 2, _, h0 => x_bck_e_2 (e := 80) h0
  | k + 3, h, _ => absurd h (by omega)
theorem i_cn_b (hs : Nat → Bool) : i_cn hs ≤ 3 := by
  unfold i_cn
  (repeat' split) <;> omega
theorem lq_back {n : Nat} {im : Nat → Option Nat} {w u : Nat → Nat → Int} {k : Int} (hJ : J_a n im w u) (hj_k : jR k) : ∃ V d1 w2 u2, (z_F 100).1 k_LongBoats_back [.ref 0, .int (Int32.ofInt k)] (n, z_q im, jM w, jL u) = some (V, d1) ∧ (z_F 100).1 k_Model_back [.ref 45, .int (Int32.ofInt k)] (n, z_q im, d1) = some (V, jM w2, jL u2) ∧ J_a n im w2 u2 := by
  obtain ⟨⟨hv, hw, hp⟩, ⟨z, wd, nm, hs0, hms, hws⟩, ⟨U, tp, hT, hTm, hTw⟩, hf, hs, iv, a, b1, b2, b3, b4, b5⟩ := id hJ
  have hcn := i_cn_b hs
  by_cases hk : 0 ≤ k ∧ k ≤ 2
  · obtain ⟨q, rfl⟩ : ∃ q : Nat, k = (q : Int) := ⟨k.toNat, by omega⟩
    have hq : q < 3 := by omega
    cases hh : hs q with
    | true =>
      obtain ⟨d1, d2, d3, d4, d5, d6⟩ := b3 q hq hh
      obtain ⟨w1, k1, k2, k3⟩ := x_bk_old (n := n) (u := u) q (a q) hq (by omega) d2 d3 d4
      obtain ⟨w2, l1, l2, l3, l4⟩ := m_back (e := 80) (n := n) (im := im) (w := w1) (u := u) (I_m_fr b1 (k3 47 (by decide) (by decide) (by decide) (by decide)) (k3 48 (by decide) (by decide) (by decide) (by decide))) hj_k
      have hb : a_bk hs (q : Int) := ⟨hk, by rw [show ((q : Int)).toNat = q by omega]; exact hh⟩
      have hm : ∀ j, j < 106 → w2 46 j = iv q j := fun j hj => by rw [l2 hb j hj, show ((q : Int)).toNat = q by omega]
      have hV : V_back hs (q : Int) = 0 := by unfold V_back; rw [if_pos hk, if_pos hb.2]
      rw [hV] at l1
      have kc : ∀ c, c ≠ 3 → c ≠ 5 → c ≠ 7 → c ≠ 9 → c ≠ 46 → w2 c = w c := fun c h1 h2 h3 h4 h5 => (l4 c h5).trans (k3 c h1 h2 h3 h4)
      refine ⟨_, _, w2, u, k1, l1, ⟨c_v_cg (c_v_fr4 k2 (l4 3 (by decide)) (l4 5 (by decide)) (l4 7 (by decide)) (l4 9 (by decide))) hm, a_wf_cg d5 hm, p1_cg d6 hm⟩, J_s_fr ⟨z, wd, nm, hs0, hms, hws⟩ (kc 24 (by decide) (by decide) (by decide) (by decide) (by decide)) (kc 22 (by decide) (by decide) (by decide) (by decide) (by decide)) rfl (kc 61 (by decide) (by decide) (by decide) (by decide) (by decide)) (kc 62 (by decide) (by decide) (by decide) (by decide) (by decide)) rfl, J_t_fr ⟨U, tp, hT, hTm, hTw⟩ (kc 1 (by decide) (by decide) (by decide) (by decide) (by decide)) (kc 2 (by decide) (by decide) (by decide) (by decide) (by decide)) (by rw [kc 45 (by decide) (by decide) (by decide) (by decide) (by decide)]) (kc 49 (by decide) (by decide) (by decide) (by decide) (by decide)), Jf_fr hf (kc 17 (by decide) (by decide) (by decide) (by decide) (by decide)) (by rw [kc 45 (by decide) (by decide) (by decide) (by decide) (by decide)]) (by rw [kc 45 (by decide) (by decide) (by decide) (by decide) (by decide)]), J_i_fr ⟨hs, iv, a, b1, b2, b3, b4, b5⟩ (kc 47 (by decide) (by decide) (by decide) (by decide) (by decide)) (kc 48 (by decide) (by decide) (by decide) (by decide) (by decide)) (fun c hc => kc c (by omega) (by omega) (by omega) (by omega) (by omega))⟩
    | false =>
      have k1 := x_bk_no (n := n) (w := w) (u := u) q hq (b4 q hq hh)
      obtain ⟨w2, l1, l2, l3, l4⟩ := m_back (e := 80) (n := n) (im := im) (w := w) (u := u) b1 hj_k
      have hb : ¬ hs ((q : Int)).toNat = true := by rw [show ((q : Int)).toNat = q by omega, hh]; decide
      have hV : V_back hs (q : Int) = -6 := by unfold V_back; rw [if_pos hk, if_neg hb]
      rw [hV, l3 (fun q => hb q.2)] at l1
      exact ⟨_, _, w, u, k1, l1, hJ⟩
  · have k1 := x_bck_out (e := 80) (n := n) (im := im) (w := w) (u := u) hj_k hk
    obtain ⟨w2, l1, l2, l3, l4⟩ := m_back (e := 80) (n := n) (im := im) (w := w) (u := u) b1 hj_k
    have hV : V_back hs k = -2 := by unfold V_back; rw [if_neg hk]
    rw [hV, l3 (fun q => hk q.1)] at l1
    exact ⟨_, _, w, u, k1, l1, hJ⟩
theorem H_im {hs : Nat → Bool} {q s : Nat} (hq : q < 3) : H_image hs (q : Int) s = if s = q then true else hs s := by
  unfold H_image
  by_cases h : s = q
  · rw [if_pos ⟨by omega, by omega, by omega⟩, if_pos h]
  · rw [if_neg (fun k => h (by omega)), if_neg h]
theorem J_im {iv : Nat → Nat → Int} {v : Nat → Int} {q s : Nat} (hq : q < 3) : J_image iv v (q : Int) s = if s = q then v else iv s := by
  unfold J_image
  by_cases h : s = q
  · rw [if_pos ⟨by omega, by omega, by omega⟩, if_pos h]
  · rw [if_neg (fun k => h (by omega)), if_neg h]
theorem i_cn_y {hs : Nat → Bool} {q : Nat} (hq : q < 3) (h : hs q = true) : i_cn (H_image hs (q : Int)) = i_cn hs := by
  have e : H_image hs (q : Int) = hs := by
    funext s
    rw [H_im hq]
    by_cases k : s = q
    · rw [if_pos k, k, h]
    · rw [if_neg k]
  rw [e]
theorem i_cn_n {hs : Nat → Bool} : ∀ {q : Nat}, q < 3 → hs q = false → i_cn (H_image hs (q : Int)) = i_cn hs + 1
  | 0, hq, h => by
    unfold i_cn
    rw [H_im (by decide), H_im (by decide), H_im (by decide), h]
    simp
    omega
  | 1, hq, h => by
    unfold i_cn
    rw [H_im (by decide), H_im (by decide), H_im (by decide), h]
    simp
    omega
  | 2, hq, h => by
    unfold i_cn
    rw [H_im (by decide), H_im (by decide), H_im (by decide), h]
    simp
  | q + 3, hq, _ => absurd hq (by omega)
theorem i_cn_l {hs : Nat → Bool} {q : Nat} (hq : q < 3) (h : hs q = false) : i_cn hs < 3 := by
  have a := i_cn_n hq h
  have b := i_cn_b (H_image hs (q : Int))
  omega
theorem lq_image {n : Nat} {im : Nat → Option Nat} {w u : Nat → Nat → Int} {k : Int} (hJ : J_a n im w u) (hj_k : jR k) : ∃ V n' im' d1 w2 u2, (z_F 100).2.2.2.2 k_LongBoats_image [.ref 0, .int (Int32.ofInt k)] (n, z_q im, jM w, jL u) = some (V, (n', z_q im', d1)) ∧ (z_F 100).1 k_Model_image [.ref 45, .int (Int32.ofInt k)] (n', z_q im', d1) = some (V, jM w2, jL u2) ∧ J_a n' im' w2 u2 := by
  obtain ⟨⟨hv, hw, hp⟩, ⟨z, wd, nm, hs0, hms, hws⟩, ⟨U, tp, hT, hTm, hTw⟩, hf, hs, iv, a, b1, b2, b3, b4, b5⟩ := id hJ
  have hcn := i_cn_b hs
  by_cases hk : 0 ≤ k ∧ k ≤ 2
  · obtain ⟨q, rfl⟩ : ∃ q : Nat, k = (q : Int) := ⟨k.toNat, by omega⟩
    have hq : q < 3 := by omega
    have hVi : V_image (q : Int) = 0 := if_pos hk
    have key : ∀ (n' : Nat) (im' : Nat → Option Nat) (w1 : Nat → Nat → Int) (cc : Nat) (a' : Nat → Nat), cc < 3 → (z_F 100).2.2.2.2 k_LongBoats_image [.ref 0, .int (Int32.ofInt (q : Int))] (n, z_q im, jM w, jL u) = some (Int32.ofInt 0, (n', z_q im', jM w1, jL u)) → (∀ x, x ≠ 65 + 7 * cc → x ≠ 65 + 7 * cc + 2 → x ≠ 65 + 7 * cc + 4 → x ≠ 65 + 7 * cc + 6 → w1 x = w x) → (∀ w2, I_m w2 (H_image hs (q : Int)) (J_image iv (w1 46) (q : Int)) → (∀ c, c ≠ 47 → c ≠ 48 → w2 c = w1 c) → J_i n' im' w2) → ∃ V n' im' d1 w2 u2, (z_F 100).2.2.2.2 k_LongBoats_image [.ref 0, .int (Int32.ofInt (q : Int))] (n, z_q im, jM w, jL u) = some (V, (n', z_q im', d1)) ∧ (z_F 100).1 k_Model_image [.ref 45, .int (Int32.ofInt (q : Int))] (n', z_q im', d1) = some (V, jM w2, jL u2) ∧ J_a n' im' w2 u2 := fun n' im' w1 cc a' hcc k1 k3 hJi => by
      obtain ⟨w2, l1, l2, l3⟩ := m_image (e := 80) (n := n') (im := im') (w := w1) (u := u) (I_m_fr b1 (k3 47 (by omega) (by omega) (by omega) (by omega)) (k3 48 (by omega) (by omega) (by omega) (by omega))) hj_k
      rw [hVi] at l1
      have kc : ∀ c, c < 65 → c ≠ 47 → c ≠ 48 → w2 c = w c := fun c h1 h2 h3 => (l3 c h2 h3).trans (k3 c (by omega) (by omega) (by omega) (by omega))
      exact ⟨_, n', im', _, w2, u, k1, l1, J_v_fr ⟨hv, hw, hp⟩ (kc 3 (by decide) (by decide) (by decide)) (kc 5 (by decide) (by decide) (by decide)) (kc 7 (by decide) (by decide) (by decide)) (kc 9 (by decide) (by decide) (by decide)) (kc 46 (by decide) (by decide) (by decide)), J_s_fr ⟨z, wd, nm, hs0, hms, hws⟩ (kc 24 (by decide) (by decide) (by decide)) (kc 22 (by decide) (by decide) (by decide)) rfl (kc 61 (by decide) (by decide) (by decide)) (kc 62 (by decide) (by decide) (by decide)) rfl, J_t_fr ⟨U, tp, hT, hTm, hTw⟩ (kc 1 (by decide) (by decide) (by decide)) (kc 2 (by decide) (by decide) (by decide)) (by rw [kc 45 (by decide) (by decide) (by decide)]) (kc 49 (by decide) (by decide) (by decide)), Jf_fr hf (kc 17 (by decide) (by decide) (by decide)) (by rw [kc 45 (by decide) (by decide) (by decide)]) (by rw [kc 45 (by decide) (by decide) (by decide)]), hJi w2 l2 l3⟩
    cases hh : hs q with
    | true =>
      obtain ⟨d1, d2, d3, d4, d5, d6⟩ := b3 q hq hh
      obtain ⟨w1, k1, k2, k3⟩ := x_im_old (n := n) (u := u) q (a q) hq (by omega) d2 d3 hv
      refine key n im w1 (a q) a (by omega) k1 k3 (fun w2 l2 l3 => ⟨H_image hs (q : Int), J_image iv (w1 46) (q : Int), a, l2, by rw [i_cn_y hq hh]; exact b2, fun j hj ht => ?_, fun j hj ht => ?_, fun i j hi hj hij t1 t2 => ?_⟩)
      · rw [i_cn_y hq hh, J_im hq]
        rw [H_im hq] at ht
        by_cases hjq : j = q
        · subst hjq
          rw [if_pos rfl]
          have h46 : w1 46 = w 46 := k3 46 (by omega) (by omega) (by omega) (by omega)
          rw [h46]
          exact ⟨d1, d2, d3, c_h_cg k2 (l3 _ (by omega) (by omega)) (l3 _ (by omega) (by omega)) (l3 _ (by omega) (by omega)) (l3 _ (by omega) (by omega)), hw, hp⟩
        · rw [if_neg hjq] at ht ⊢
          obtain ⟨g1, g2, g3, g4, g5, g6⟩ := b3 j hj ht
          have hne := b5 j q hj hq hjq ht hh
          have kk : ∀ i, i ≤ 6 → w2 (65 + 7 * a j + i) = w (65 + 7 * a j + i) := fun i hi => (l3 _ (by omega) (by omega)).trans (k3 _ (by omega) (by omega) (by omega) (by omega))
          exact ⟨g1, g2, g3, c_h_cg g4 (kk 0 (by decide)) (kk 2 (by decide)) (kk 4 (by decide)) (kk 6 (by decide)), g5, g6⟩
      · rw [H_im hq] at ht
        by_cases hjq : j = q
        · rw [if_pos hjq] at ht; exact absurd ht (by decide)
        · rw [if_neg hjq] at ht; exact b4 j hj ht
      · rw [H_im hq] at t1 t2
        have t1' : hs i = true := by
          by_cases h : i = q
          · rw [h]; exact hh
          · rw [if_neg h] at t1; exact t1
        have t2' : hs j = true := by
          by_cases h : j = q
          · rw [h]; exact hh
          · rw [if_neg h] at t2; exact t2
        exact b5 i j hi hj hij t1' t2'
    | false =>
      have hlt := i_cn_l hq hh
      subst b2
      obtain ⟨w1, k1, k2, k3⟩ := x_im_new (u := u) q (i_cn hs) hq hlt (b4 q hq hh) hv
      refine key _ _ w1 (i_cn hs) a hlt k1 k3 (fun w2 l2 l3 => ⟨H_image hs (q : Int), J_image iv (w1 46) (q : Int), fun s => if s = q then i_cn hs else a s, l2, by rw [i_cn_n hq hh], fun j hj ht => ?_, fun j hj ht => ?_, fun i j hi hj hij t1 t2 => ?_⟩)
      · rw [i_cn_n hq hh, J_im hq]
        rw [H_im hq] at ht
        by_cases hjq : j = q
        · subst hjq
          simp only [if_pos]
          have h46 : w1 46 = w 46 := k3 46 (by omega) (by omega) (by omega) (by omega)
          rw [h46]
          refine ⟨by omega, by rw [z_v_at, if_pos rfl], H_i_cg (H_i_zh (im := im) (by omega)) (fun p hp => zv_ne (by omega)), c_h_cg k2 (l3 _ (by omega) (by omega)) (l3 _ (by omega) (by omega)) (l3 _ (by omega) (by omega)) (l3 _ (by omega) (by omega)), hw, hp⟩
        · simp only [if_neg hjq] at ht ⊢
          obtain ⟨g1, g2, g3, g4, g5, g6⟩ := b3 j hj ht
          have kk : ∀ i, i ≤ 6 → w2 (65 + 7 * a j + i) = w (65 + 7 * a j + i) := fun i hi => (l3 _ (by omega) (by omega)).trans (k3 _ (by omega) (by omega) (by omega) (by omega))
          refine ⟨by omega, ?_, H_i_cg g3 (fun p hp => ?_), c_h_cg g4 (kk 0 (by decide)) (kk 2 (by decide)) (kk 4 (by decide)) (kk 6 (by decide)), g5, g6⟩
          · rw [zv_ne (by omega), zh_ne (by omega) (by omega) (by omega) (by omega) (by omega) (by omega)]; exact g2
          · rw [zv_ne (by omega), zh_ne (by omega) (by omega) (by omega) (by omega) (by omega) (by omega)]
      · rw [H_im hq] at ht
        by_cases hjq : j = q
        · rw [if_pos hjq] at ht; exact absurd ht (by decide)
        · rw [if_neg hjq] at ht
          rw [zv_ne (by omega), zh_ne (by omega) (by omega) (by omega) (by omega) (by omega) (by omega)]
          exact b4 j hj ht
      · rw [H_im hq] at t1 t2
        dsimp only
        by_cases hiq : i = q
        · have hjq : ¬ j = q := fun h => hij (hiq.trans h.symm)
          rw [if_neg hjq] at t2
          have := (b3 j hj t2).1
          rw [if_pos hiq, if_neg hjq]; omega
        · rw [if_neg hiq] at t1
          have := (b3 i hi t1).1
          by_cases hjq : j = q
          · rw [if_neg hiq, if_pos hjq]; omega
          · rw [if_neg hjq] at t2
            rw [if_neg hiq, if_neg hjq]; exact b5 i j hi hj hij t1 t2
  · have k1 := x_img_out (e := 80) (n := n) (im := im) (w := w) (u := u) hj_k hk
    obtain ⟨w2, l1, l2, l3⟩ := m_image (e := 80) (n := n) (im := im) (w := w) (u := u) b1 hj_k
    have hV : V_image k = -2 := if_neg hk
    rw [hV] at l1
    have e1 : H_image hs k = hs := by
      funext s
      unfold H_image
      rw [if_neg (fun q => hk ⟨q.1, q.2.1⟩)]
    have e2 : J_image iv (w 46) k = iv := by
      funext s
      unfold J_image
      rw [if_neg (fun q => hk ⟨q.1, q.2.1⟩)]
    rw [e1, e2] at l2
    refine ⟨_, n, im, _, w2, u, k1, l1, J_v_fr ⟨hv, hw, hp⟩ (l3 3 (by decide) (by decide)) (l3 5 (by decide) (by decide)) (l3 7 (by decide) (by decide)) (l3 9 (by decide) (by decide)) (l3 46 (by decide) (by decide)), J_s_fr ⟨z, wd, nm, hs0, hms, hws⟩ (l3 24 (by decide) (by decide)) (l3 22 (by decide) (by decide)) rfl (l3 61 (by decide) (by decide)) (l3 62 (by decide) (by decide)) rfl, J_t_fr ⟨U, tp, hT, hTm, hTw⟩ (l3 1 (by decide) (by decide)) (l3 2 (by decide) (by decide)) (by rw [l3 45 (by decide) (by decide)]) (l3 49 (by decide) (by decide)), Jf_fr hf (l3 17 (by decide) (by decide)) (by rw [l3 45 (by decide) (by decide)]) (by rw [l3 45 (by decide) (by decide)]), hs, iv, a, l2, b2, fun j hj ht => ?_, b4, b5⟩
    obtain ⟨g1, g2, g3, g4, g5, g6⟩ := b3 j hj ht
    exact ⟨g1, g2, g3, c_h_cg g4 (l3 _ (by omega) (by omega)) (l3 _ (by omega) (by omega)) (l3 _ (by omega) (by omega)) (l3 _ (by omega) (by omega)), g5, g6⟩
