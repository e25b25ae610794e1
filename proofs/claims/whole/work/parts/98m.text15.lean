/-! the text read: the reference's lines -/
theorem Q_m_v {w : Nat → Nat → Int} {U : Nat} {tp : Nat → Int} {r : zR} {v v' : Nat → Int} (hQ : Q_m w U tp (r, v)) (h : r.1 = 0 → ∀ j, j < 106 → v' j = v j) : Q_m w U tp (r, v') := ⟨hQ.1, hQ.2.1, hQ.2.2.1, hQ.2.2.2.1, fun q => ⟨(hQ.2.2.2.2 q).1, fun j hj => ((hQ.2.2.2.2 q).2 j hj).trans (h q j hj).symm⟩⟩
theorem t_is_inj {tp : Nat → Int} {a b : List Int32} {t : zK} (ha : t_is tp a t = true) (hb : t_is tp b t = true) : a = b := by
  unfold t_is t_mt at ha hb
  rw [Bool.and_eq_true, Bool.and_eq_true] at ha hb
  have l1 := of_decide_eq_true ha.2.1
  have l2 := of_decide_eq_true hb.2.1
  have m1 := of_decide_eq_true ha.2.2
  have m2 := of_decide_eq_true hb.2.2
  have hl : a.length = b.length := by omega
  refine List.ext_getElem hl (fun i h1 h2 => ?_)
  have e1 := m1 i h1
  have e2 := m2 i h2
  rw [e1] at e2
  have ga : a.getD i 0 = a[i] := by simp [List.getD, List.getElem?_eq_getElem h1]
  have gb : b.getD i 0 = b[i] := by simp [List.getD, List.getElem?_eq_getElem h2]
  rw [← ga, ← gb]
  exact e2
theorem t_is_x {tp : Nat → Int} {a b : List Int32} {t : zK} (ha : t_is tp a t = true) (h : ¬ a = b) : ¬ t_is tp b t = true := fun hb => h (t_is_inj ha hb)
theorem m_rreach {e n : Nat} {im : Nat → Option Nat} {w u : Nat → Nat → Int} {U : Nat} {tp : Nat → Int} {r : zR} {v : Nat → Int} (hw : T_w U tp) (hQ : Q_m w U tp (A_nx U tp r, v)) : ∃ w', (z_F (e + 6)).2.2.1 k_Model_readReach [.ref 45] (n, z_q im, jM w, jL u) = some (jM w', jL u) ∧ Q_m w' U tp (A_re U tp (r, v)) ∧ fM w w' := by
  obtain ⟨w1, k1, k2, k3⟩ := m_number (e := e + 2) (n := n) (im := im) (u := u) 0 12 (by decide) (by decide) hw hQ
  have hb := A_vl_r (lo := 0) (hi := 12) hQ.2.2.2.1
  dsimp only at hb
  obtain ⟨w2, l1, l2, l3⟩ := m_told (e := e) (n := n) (im := im) (u := u) 10 (by decide) (by decide) (A_vl 0 12 (A_nx U tp r)) 12 (by omega) (by decide) hw k2
  have hE : A_re U tp (r, v) = (A_nu U tp (A_vl 0 12 (A_nx U tp r)) 12 (A_wo U tp (z_tx 10) (A_nu U tp 0 12 (A_nx U tp r))), a_up (a_up v 3 (A_vl 0 12 (A_nx U tp r))) 4 (A_vl (A_vl 0 12 (A_nx U tp r)) 12 (A_wo U tp (z_tx 10) (A_nu U tp 0 12 (A_nx U tp r))))) := rfl
  rw [hE]
  by_cases h : (A_nu U tp (A_vl 0 12 (A_nx U tp r)) 12 (A_wo U tp (z_tx 10) (A_nu U tp 0 12 (A_nx U tp r)))).1 = 0
  · refine ⟨_, q_Model_readReach ?_, Q_m_u (Q_m_u l2), fM_tr (fN_M k3) (fM_tr (fN_M l3) (fM_tr fM_51 fM_51))⟩
    rw [k1, z_oI_s, l1, z_oI_s, m_good l2, z_oI_s, if_neg (ji_b_n h), jM_u, jM_u]
  · refine ⟨w2, q_Model_readReach ?_, Q_m_f l2 h, fM_tr (fN_M k3) (fN_M l3)⟩
    rw [k1, z_oI_s, l1, z_oI_s, m_good l2, z_oI_s, if_pos (ji_b_p h)]
theorem j_ix {a : Int} (h : 0 ≤ a ∧ a < 106) : ¬ (Int32.ofInt a < 0 ∨ 106 ≤ (Int32.ofInt a).toNatClampNeg) := fun q => by
  rw [ji_nat (by omega)] at q
  exact q.elim (ji_lt_n (b := 0) (by omega) (by decide) (by omega)) (by omega)
theorem m_rman {e n : Nat} {im : Nat → Option Nat} {w u : Nat → Nat → Int} {U : Nat} {tp : Nat → Int} {r : zR} {v : Nat → Int} {m : Nat} (hw : T_w U tp) (hQ : Q_m w U tp (r, v)) (hr : r.1 = 0) (h7 : v 7 = (m : Int)) (hm : m ≤ 9) : ∃ w', (z_F (e + 6)).2.2.1 k_Model_readMan [.ref 45] (n, z_q im, jM w, jL u) = some (jM w', jL u) ∧ Q_m w' U tp (A_ai U tp (A_wo U tp (z_tx 39) (A_m5 U tp m (r, v)).1), a_up (a_up (A_m5 U tp m (r, v)).2 (18 + 6 * m + 5) (A_av tp (A_wo U tp (z_tx 39) (A_m5 U tp m (r, v)).1))) 7 (v 7 + 1)) ∧ fM w w' := by
  have q7 : w 51 7 = (m : Int) := ((hQ.2.2.2.2 hr).2 7 (by decide)).trans h7
  have e7 : ((jM w, jL u) : zD).1 51 7 = Int32.ofInt (m : Int) := by rw [← q7]; rfl
  obtain ⟨w1, a1, a2, a3⟩ := m_told (e := e) (n := n) (im := im) (u := u) 1 (by decide) (by decide) 40 200 (by decide) (by decide) hw hQ
  have a4 := Q_m_u (k := 18 + 6 * m) (x := A_vl 40 200 (A_wo U tp (z_tx 1) r)) a2
  obtain ⟨w2, b1, b2, b3⟩ := m_told (e := e) (n := n) (im := im) (u := u) 2 (by decide) (by decide) 0 30 (by decide) (by decide) hw a4
  have b4 := Q_m_u (k := 18 + 6 * m + 1) (x := A_vl 0 30 (A_wo U tp (z_tx 2) (A_nu U tp 40 200 (A_wo U tp (z_tx 1) r)))) b2
  obtain ⟨w3, c1, c2, c3⟩ := m_told (e := e) (n := n) (im := im) (u := u) 3 (by decide) (by decide) 0 30 (by decide) (by decide) hw b4
  have c4 := Q_m_u (k := 18 + 6 * m + 2) (x := A_vl 0 30 (A_wo U tp (z_tx 3) (A_nu U tp 0 30 (A_wo U tp (z_tx 2) (A_nu U tp 40 200 (A_wo U tp (z_tx 1) r)))))) c2
  obtain ⟨w4, d1, d2, d3⟩ := m_told (e := e) (n := n) (im := im) (u := u) 4 (by decide) (by decide) 0 9 (by decide) (by decide) hw c4
  have d4 := Q_m_u (k := 18 + 6 * m + 3) (x := A_vl 0 9 (A_wo U tp (z_tx 4) (A_nu U tp 0 30 (A_wo U tp (z_tx 3) (A_nu U tp 0 30 (A_wo U tp (z_tx 2) (A_nu U tp 40 200 (A_wo U tp (z_tx 1) r)))))))) d2
  obtain ⟨w5, f1, f2, f3⟩ := m_told (e := e) (n := n) (im := im) (u := u) 5 (by decide) (by decide) 0 4 (by decide) (by decide) hw d4
  have f4 := Q_m_u (k := 18 + 6 * m + 4) (x := A_vl 0 4 (A_wo U tp (z_tx 5) (A_nu U tp 0 9 (A_wo U tp (z_tx 4) (A_nu U tp 0 30 (A_wo U tp (z_tx 3) (A_nu U tp 0 30 (A_wo U tp (z_tx 2) (A_nu U tp 40 200 (A_wo U tp (z_tx 1) r)))))))))) f2
  have i0 : Int32.ofInt (18 + 6 * (m : Int) + 0) = Int32.ofInt ((18 + 6 * m : Nat) : Int) := by congr 1
  have i1 : Int32.ofInt (18 + 6 * (m : Int) + 1) = Int32.ofInt ((18 + 6 * m + 1 : Nat) : Int) := by congr 1
  have i2 : Int32.ofInt (18 + 6 * (m : Int) + 2) = Int32.ofInt ((18 + 6 * m + 2 : Nat) : Int) := by congr 1
  have i3 : Int32.ofInt (18 + 6 * (m : Int) + 3) = Int32.ofInt ((18 + 6 * m + 3 : Nat) : Int) := by congr 1
  have i4 : Int32.ofInt (18 + 6 * (m : Int) + 4) = Int32.ofInt ((18 + 6 * m + 4 : Nat) : Int) := by congr 1
  have i5 : Int32.ofInt (18 + 6 * (m : Int) + 5) = Int32.ofInt ((18 + 6 * m + 5 : Nat) : Int) := by congr 1
  have tn : ∀ k : Nat, k < 106 → (Int32.ofInt (k : Int)).toNatClampNeg = k := fun k hk => by rw [ji_nat (by omega)]; omega
  have f5 : Q_m (z_u w5 51 (18 + 6 * m + 4) (A_vl 0 4 (A_wo U tp (z_tx 5) (A_nu U tp 0 9 (A_wo U tp (z_tx 4) (A_nu U tp 0 30 (A_wo U tp (z_tx 3) (A_nu U tp 0 30 (A_wo U tp (z_tx 2) (A_nu U tp 40 200 (A_wo U tp (z_tx 1) r))))))))))) U tp ((A_m5 U tp m (r, v)).1, (A_m5 U tp m (r, v)).2) := f4
  have hv7 : (A_m5 U tp m (r, v)).2 7 = v 7 := ((((A_to_lo (by omega)).trans (A_to_lo (by omega))).trans (A_to_lo (by omega))).trans (A_to_lo (by omega))).trans (A_to_lo (by omega))
  generalize A_m5 U tp m (r, v) = s5 at f5 hv7
  obtain ⟨w6, g1, g2, g3⟩ := m_needs (e := e + 1) (n := n) (im := im) (u := u) 6 (by decide) (by decide) hw f5
  have g2' : Q_m w6 U tp (A_wo U tp (z_tx 39) s5.1, s5.2) := g2
  generalize hr6 : A_wo U tp (z_tx 39) s5.1 = r6 at g2'
  have fr : fM w w6 := fM_tr (fN_M a3) (fM_tr fM_51 (fM_tr (fN_M b3) (fM_tr fM_51 (fM_tr (fN_M c3) (fM_tr fM_51 (fM_tr (fN_M d3) (fM_tr fM_51 (fM_tr (fN_M f3) (fM_tr fM_51 (fN_M g3))))))))))
  obtain ⟨w7, p1, p2, p3⟩ := m_takes (e := e + 2) (n := n) (im := im) (u := u) 7 (by decide) (by decide) hw g2'
  have fin : ∀ (wx : Nat → Nat → Int) (rx : zR) (x : Int), Q_m wx U tp (rx, s5.2) → (rx.1 = 0 → x = A_av tp r6) → Q_m (z_u (z_u wx 51 (18 + 6 * m + 5) x) 51 7 (z_u wx 51 (18 + 6 * m + 5) x 51 7 + 1)) U tp (rx, a_up (a_up s5.2 (18 + 6 * m + 5) (A_av tp r6)) 7 (v 7 + 1)) := fun wx rx x hx hy => by
    refine Q_m_v (Q_m_u (Q_m_u hx)) (fun q j hj => ?_)
    have z7 : z_u wx 51 (18 + 6 * m + 5) x 51 7 = v 7 := by
      rw [z_u_at, if_neg (by omega), (hx.2.2.2.2 q).2 7 (by decide)]; exact hv7
    rw [z7, hy q]
  have pre : ∀ wx : Nat → Nat → Int, fN w6 wx → ∀ x : Int, fM w (z_u (z_u wx 51 (18 + 6 * m + 5) x) 51 7 (z_u wx 51 (18 + 6 * m + 5) x 51 7 + 1)) := fun wx hx x => fM_tr fr (fM_tr (fN_M hx) (fM_tr fM_51 fM_51))
  have rd : ∀ (wx : Nat → Nat → Int) (x : Int), (z_u ((jM wx, jL u) : zD).1 51 (18 + 6 * m + 5) (Int32.ofInt x)) 51 7 = Int32.ofInt (z_u wx 51 (18 + 6 * m + 5) x 51 7) := fun wx x => by
    show z_u (jM wx) 51 (18 + 6 * m + 5) (Int32.ofInt x) 51 7 = _
    rw [jM_u]; rfl
  by_cases h1 : r6.1 = 0 ∧ t_is tp (z_tx 7) r6.2.2 = true
  · rw [if_pos h1] at p2
    have n1 : ¬ t_is tp (z_tx 40) r6.2.2 = true := t_is_x h1.2 (by decide)
    have n2 : ¬ t_is tp (z_tx 41) r6.2.2 = true := t_is_x h1.2 (by decide)
    have E1 : A_ai U tp r6 = A_nx U tp r6 := by unfold A_ai; rw [if_neg n1, if_neg n2, if_pos (show t_is tp (z_tx 42) r6.2.2 = true from h1.2)]
    have E2 : A_av tp r6 = 0 := by unfold A_av; rw [if_neg n1, if_neg n2]
    rw [E1]
    refine ⟨_, q_Model_readMan ?_, fin w7 _ 0 p2 (fun _ => E2.symm), pre w7 p3 0⟩
    rw [a1, z_oI_s, e7, ji_mul, ji_add, ji_add, i0, if_neg (j_ix (by omega)), tn _ (by omega), jM_u, b1, z_oI_s, ji_add, i1, if_neg (j_ix (by omega)), tn _ (by omega), jM_u, c1, z_oI_s, ji_add, i2, if_neg (j_ix (by omega)), tn _ (by omega), jM_u, d1, z_oI_s, ji_add, i3, if_neg (j_ix (by omega)), tn _ (by omega), jM_u, f1, z_oI_s, ji_add, i4, if_neg (j_ix (by omega)), tn _ (by omega), jM_u, g1, z_oV_s, p1, z_oI_s, if_neg (ji_b_n h1), ji_add, i5, if_neg (j_ix (by omega)), tn _ (by omega), rd, ji_add, jM_u, jM_u]
  · rw [if_neg h1] at p2
    obtain ⟨w8, y1, y2, y3⟩ := m_takes (e := e + 2) (n := n) (im := im) (u := u) 8 (by decide) (by decide) hw p2
    by_cases h2 : r6.1 = 0 ∧ t_is tp (z_tx 8) r6.2.2 = true
    · rw [if_pos h2] at y2
      have h2' : t_is tp (z_tx 40) r6.2.2 = true := h2.2
      have E1 : A_ai U tp r6 = A_nx U tp r6 := by unfold A_ai; rw [if_pos h2']
      have E2 : A_av tp r6 = 1 := by unfold A_av; rw [if_pos h2']
      rw [E1]
      refine ⟨_, q_Model_readMan ?_, fin w8 _ 1 y2 (fun _ => E2.symm), pre w8 (fN_tr p3 y3) 1⟩
      rw [a1, z_oI_s, e7, ji_mul, ji_add, ji_add, i0, if_neg (j_ix (by omega)), tn _ (by omega), jM_u, b1, z_oI_s, ji_add, i1, if_neg (j_ix (by omega)), tn _ (by omega), jM_u, c1, z_oI_s, ji_add, i2, if_neg (j_ix (by omega)), tn _ (by omega), jM_u, d1, z_oI_s, ji_add, i3, if_neg (j_ix (by omega)), tn _ (by omega), jM_u, f1, z_oI_s, ji_add, i4, if_neg (j_ix (by omega)), tn _ (by omega), jM_u, g1, z_oV_s, p1, z_oI_s, if_pos (ji_b_p h1), y1, z_oI_s, if_neg (ji_b_n h2), ji_add, i5, if_neg (j_ix (by omega)), tn _ (by omega), rd, ji_add, jM_u, jM_u]
    · rw [if_neg h2] at y2
      obtain ⟨w9, x1, x2, x3⟩ := m_needs (e := e + 1) (n := n) (im := im) (u := u) 9 (by decide) (by decide) hw y2
      have x2' : Q_m w9 U tp (A_wo U tp (z_tx 41) r6, s5.2) := x2
      have hE : A_ai U tp r6 = A_wo U tp (z_tx 41) r6 ∧ ((A_wo U tp (z_tx 41) r6).1 = 0 → 2 = A_av tp r6) := by
        by_cases h0 : r6.1 = 0
        · have n1 : ¬ t_is tp (z_tx 40) r6.2.2 = true := fun q => h2 ⟨h0, q⟩
          have n3 : ¬ t_is tp (z_tx 42) r6.2.2 = true := fun q => h1 ⟨h0, q⟩
          unfold A_ai A_wo A_av
          rw [if_neg n1, if_neg n3, if_neg n1]
          by_cases h3 : t_is tp (z_tx 41) r6.2.2 = true
          · rw [if_pos h3, if_pos h3]; exact ⟨rfl, fun _ => rfl⟩
          · rw [if_neg h3]
            exact ⟨rfl, fun q => absurd ((A_nx_1 U tp _).symm.trans q) (A_fl_n0 (by decide))⟩
        · have f0 : ∀ k, A_fl k r6 = r6 := fun k => A_fl_b h0
          have e1 : A_ai U tp r6 = r6 := by unfold A_ai; rw [f0]; rw [show (if t_is tp (z_tx 40) r6.2.2 = true then r6 else if t_is tp (z_tx 41) r6.2.2 = true then r6 else if t_is tp (z_tx 42) r6.2.2 = true then r6 else r6) = r6 by (repeat' split) <;> rfl]; exact A_nx_b h0
          have e2 : A_wo U tp (z_tx 41) r6 = r6 := by unfold A_wo; rw [f0]; rw [show (if t_is tp (z_tx 41) r6.2.2 = true then r6 else r6) = r6 by split <;> rfl]; exact A_nx_b h0
          rw [e1, e2]
          exact ⟨rfl, fun q => absurd q h0⟩
      rw [hE.1]
      refine ⟨_, q_Model_readMan ?_, fin w9 _ 2 x2' hE.2, pre w9 (fN_tr p3 (fN_tr y3 x3)) 2⟩
      rw [a1, z_oI_s, e7, ji_mul, ji_add, ji_add, i0, if_neg (j_ix (by omega)), tn _ (by omega), jM_u, b1, z_oI_s, ji_add, i1, if_neg (j_ix (by omega)), tn _ (by omega), jM_u, c1, z_oI_s, ji_add, i2, if_neg (j_ix (by omega)), tn _ (by omega), jM_u, d1, z_oI_s, ji_add, i3, if_neg (j_ix (by omega)), tn _ (by omega), jM_u, f1, z_oI_s, ji_add, i4, if_neg (j_ix (by omega)), tn _ (by omega), jM_u, g1, z_oV_s, p1, z_oI_s, if_pos (ji_b_p h1), y1, z_oI_s, if_pos (ji_b_p h2), x1, z_oV_s, ji_add, i5, if_neg (j_ix (by omega)), tn _ (by omega), rd, ji_add, jM_u, jM_u]
