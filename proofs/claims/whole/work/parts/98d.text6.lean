/-! the text read: the class's reader -/
abbrev zR := Int × Int × zK
def A_nx (U : Nat) (tp : Nat → Int) (r : zR) : zR := if r.1 = 0 then (r.1, r.2.1, t_nx U tp r.2.2.1) else r
def A_fl (k : Int) (r : zR) : zR := if r.1 = 0 then (k, (r.2.2.2.1 : Int), r.2.2) else r
def t_mt (tp : Nat → Int) (nm : List Int32) (st : Nat) : Bool := decide (∀ i, i < nm.length → Int32.ofInt (tp (st + i)) = nm.getD i 0)
def t_is (tp : Nat → Int) (nm : List Int32) (t : zK) : Bool := decide (t.2.2.1 = 1) && (decide (t.1 = t.2.1 + nm.length) && t_mt tp nm t.2.1)
def A_wo (U : Nat) (tp : Nat → Int) (nm : List Int32) (r : zR) : zR := A_nx U tp (if t_is tp nm r.2.2 = true then r else A_fl 1 r)
def A_si (U : Nat) (tp : Nat → Int) (r : zR) : zR := A_nx U tp (if r.2.2.2.2.1 = 3 then r else A_fl 1 r)
def A_nt (lo hi : Int) (r : zR) : zR := if r.2.2.2.2.1 = 2 then (if lo ≤ r.2.2.2.2.2 ∧ r.2.2.2.2.2 ≤ hi then r else A_fl 2 r) else A_fl 1 r
def A_nu (U : Nat) (tp : Nat → Int) (lo hi : Int) (r : zR) : zR := A_nx U tp (A_nt lo hi r)
def A_vl (lo hi : Int) (r : zR) : Int := if (A_nt lo hi r).1 = 0 then r.2.2.2.2.2 else 0
def r_ok (U : Nat) (r : zR) : Prop := t_ok U r.2.2 ∧ 0 ≤ r.1 ∧ r.1 ≤ 3
def Q_c (w : Nat → Nat → Int) (U : Nat) (tp : Nat → Int) (r : zR) : Prop := T_c w U tp ∧ (w 17 2 = (r.2.2.1 : Int) ∧ w 17 3 = r.2.2.2.2.1 ∧ w 17 4 = (r.2.2.2.1 : Int) ∧ w 17 5 = r.2.2.2.2.2) ∧ (w 17 6 = r.1 ∧ w 17 7 = r.2.1) ∧ r_ok U r
def f17 (w w' : Nat → Nat → Int) : Prop := ∀ c, c ≠ 17 → w' c = w c
theorem f17_rf (w : Nat → Nat → Int) : f17 w w := fun _ _ => rfl
theorem f17_tr {a b c : Nat → Nat → Int} (h : f17 a b) (k : f17 b c) : f17 a c := fun d hd => (k d hd).trans (h d hd)
theorem f17_u {w : Nat → Nat → Int} {j : Nat} {x : Int} : f17 w (z_u w 17 j x) := fun d hd => z_u_ne hd
theorem A_nx_1 (U : Nat) (tp : Nat → Int) (r : zR) : (A_nx U tp r).1 = r.1 := by unfold A_nx; split <;> rfl
theorem A_nx_2 (U : Nat) (tp : Nat → Int) (r : zR) : (A_nx U tp r).2.1 = r.2.1 := by unfold A_nx; split <;> rfl
theorem A_fl_t (k : Int) (r : zR) : (A_fl k r).2.2 = r.2.2 := by unfold A_fl; split <;> rfl
theorem A_nt_t (lo hi : Int) (r : zR) : (A_nt lo hi r).2.2 = r.2.2 := by
  unfold A_nt
  (repeat' split) <;> first | rfl | exact A_fl_t _ _
theorem A_nx_b {U : Nat} {tp : Nat → Int} {r : zR} (h : ¬ r.1 = 0) : A_nx U tp r = r := by unfold A_nx; rw [if_neg h]
theorem A_fl_b {k : Int} {r : zR} (h : ¬ r.1 = 0) : A_fl k r = r := by unfold A_fl; rw [if_neg h]
theorem A_nx_ok {U : Nat} {tp : Nat → Int} {r : zR} (h : r_ok U r) : r_ok U (A_nx U tp r) := by
  unfold A_nx
  split
  · exact ⟨(t_nx_ok h.1.2.1).1, h.2⟩
  · exact h
theorem A_fl_ok {U : Nat} {r : zR} {k : Int} (hk : 1 ≤ k ∧ k ≤ 3) (h : r_ok U r) : r_ok U (A_fl k r) := by
  unfold A_fl
  split
  · exact ⟨h.1, by dsimp only; omega⟩
  · exact h
theorem s_nx {e n : Nat} {im : Nat → Option Nat} {w u : Nat → Nat → Int} {U : Nat} {tp : Nat → Int} {r : zR} (hw : T_w U tp) (hQ : Q_c w U tp r) : ∃ w', (z_F (e + 2)).2.2.1 k_Reader_nextToken [.ref 17] (n, z_q im, jM w, jL u) = some (jM w', jL u) ∧ Q_c w' U tp (A_nx U tp r) ∧ f17 w w' := by
  obtain ⟨hT, ⟨q2, q3, q4, q5⟩, ⟨q6, q7⟩, hr⟩ := id hQ
  obtain ⟨ht, hf⟩ := id hr
  have e6 : ((jM w, jL u) : zD).1 17 6 = Int32.ofInt r.1 := by rw [← q6]; rfl
  by_cases h : r.1 = 0
  · have k := t_nx_ok (tp := tp) ht.2.1
    have E : A_nx U tp r = (r.1, r.2.1, t_nx U tp r.2.2.1) := by unfold A_nx; rw [if_pos h]
    refine ⟨c_tk w (t_nx U tp r.2.2.1), n_Reader_nextToken (z_go ((e_Reader_nextToken_0 ..).trans ?_) (l_blank hw U r.2.2.1 w (by omega) ht.2.1 hT q2)), ?_, ?_⟩
    · rw [e6, if_pos (ji_eq0_p (by omega) h)]
    · rw [E]; exact ⟨⟨hT.1, hT.2⟩, ⟨rfl, rfl, rfl, rfl⟩, ⟨q6, q7⟩, k.1, hf⟩
    · intro c hc; unfold c_tk; rw [z_u_ne hc, z_u_ne hc, z_u_ne hc, z_u_ne hc]
  · refine ⟨w, n_Reader_nextToken (z_ret ((e_Reader_nextToken_0 ..).trans ?_)), ?_, f17_rf w⟩
    · rw [e6, if_neg (ji_eq0_n (by omega) h)]
    · rw [A_nx_b h]; exact hQ
theorem s_fl {e n : Nat} {im : Nat → Option Nat} {w u : Nat → Nat → Int} {U : Nat} {tp : Nat → Int} {r : zR} {k : Int} (hk : 1 ≤ k ∧ k ≤ 3) (hQ : Q_c w U tp r) : ∃ w', (z_F (e + 1)).2.2.1 k_Reader_fail [.ref 17, .int (Int32.ofInt k)] (n, z_q im, jM w, jL u) = some (jM w', jL u) ∧ Q_c w' U tp (A_fl k r) ∧ f17 w w' := by
  obtain ⟨hT, ⟨q2, q3, q4, q5⟩, ⟨q6, q7⟩, hr⟩ := id hQ
  obtain ⟨ht, hf⟩ := id hr
  have e6 : ((jM w, jL u) : zD).1 17 6 = Int32.ofInt r.1 := by rw [← q6]; rfl
  have e4 : ((jM w, jL u) : zD).1 17 4 = Int32.ofInt (r.2.2.2.1 : Int) := by rw [← q4]; rfl
  by_cases h : r.1 = 0
  · have E : A_fl k r = (k, (r.2.2.2.1 : Int), r.2.2) := by unfold A_fl; rw [if_pos h]
    refine ⟨z_u (z_u w 17 6 k) 17 7 (r.2.2.2.1 : Int), q_Reader_fail ?_, ?_, f17_tr f17_u f17_u⟩
    · rw [e6, if_pos (ji_eq0_p (by omega) h), e4, jM_u, jM_u]
    · rw [E]; exact ⟨⟨hT.1, hT.2⟩, ⟨q2, q3, q4, q5⟩, ⟨rfl, rfl⟩, ht, by dsimp only; omega⟩
  · refine ⟨w, q_Reader_fail ?_, ?_, f17_rf w⟩
    · rw [e6, if_neg (ji_eq0_n (by omega) h)]
    · rw [A_fl_b h]; exact hQ
theorem z_sbt {s : Nat} (h : 1 ≤ s) : (Nat.ble 1 8 && z_sb.blt (z_sb + s)) = true := by
  have : z_sb.blt (z_sb + s) = true := Nat.ble_eq_true_of_le (by omega)
  rw [this]; rfl
theorem z_sbs (s : Nat) : z_sb + s - z_sb = s := by omega
theorem ji_oN (k : Nat) : Int32.ofNat k = Int32.ofInt (k : Int) := rfl
theorem l_isw {e n : Nat} {im : Nat → Option Nat} {w u : Nat → Nat → Int} {U : Nat} {tp : Nat → Int} (hw : T_w U tp) {s st : Nat} (hs : 1 ≤ s) (hl : (z_tx s).length ≤ 100) (hst : st + (z_tx s).length ≤ U) (hT : T_c w U tp) (h4 : w 17 4 = (st : Int)) : ∀ (f i : Nat), i + f = (z_tx s).length → (∀ j, j < i → Int32.ofInt (tp (st + j)) = (z_tx s).getD j 0) → z_Rn (z_F (e + 1)) cd_Reader_isWord 17 [some (.ref 17), some (.ref (z_sb + s)), some (.int (Int32.ofInt (i : Int)))] (n, z_q im, jM w, jL u) (some (.int (Int32.ofInt (if t_mt tp (z_tx s) st = true then 1 else 0))), (n, z_q im, jM w, jL u))
  | 0, i, hi, hj => by
    have hm : t_mt tp (z_tx s) st = true := decide_eq_true (fun j hj' => hj j (by omega))
    refine z_ret ((e_Reader_isWord_17 ..).trans ?_)
    rw [z_sbt hs, cond_true, z_sbs, ji_oN, if_pos (ji_le_p (by omega) (by omega) (by omega)), if_pos hm]
  | f + 1, i, hi, hj => by
    have hU := hw.1
    have e4 : ((jM w, jL u) : zD).1 17 4 = Int32.ofInt (st : Int) := by rw [← h4]; rfl
    have ta : t_at U tp ((st : Int) + (i : Int)) = tp (st + i) := by unfold t_at; rw [if_pos (by omega), show ((st : Int) + (i : Int)).toNat = st + i by omega]
    have g0 : ¬ Int32.ofInt (i : Int) < 0 := ji_lt_n (b := 0) (by omega) (by decide) (by omega)
    by_cases hc : Int32.ofInt (tp (st + i)) = (z_tx s).getD i 0
    · refine z_go ((e_Reader_isWord_17 ..).trans ?_) (l_isw hw hs hl hst hT h4 f (i + 1) (by omega) (fun j hj' => ?_))
      · rw [z_sbt hs, cond_true, z_sbs, ji_oN, if_neg (ji_le_n (by omega) (by omega) (by omega)), e4, ji_add, s_tat hT hw (by omega), z_oI_s, cond_true, ji_nat (by omega), show ((i : Int)).toNat = i by omega, if_neg (fun q => q.elim g0 (by omega)), ta, if_pos hc, ji_add]
        rfl
      · by_cases h : j = i
        · rw [h]; exact hc
        · exact hj j (by omega)
    · have hm : ¬ t_mt tp (z_tx s) st = true := fun q => hc (of_decide_eq_true q i (by omega))
      refine z_ret ((e_Reader_isWord_17 ..).trans ?_)
      rw [z_sbt hs, cond_true, z_sbs, ji_oN, if_neg (ji_le_n (by omega) (by omega) (by omega)), e4, ji_add, s_tat hT hw (by omega), z_oI_s, cond_true, ji_nat (by omega), show ((i : Int)).toNat = i by omega, if_neg (fun q => q.elim g0 (by omega)), ta, if_neg hc, if_neg hm]
theorem t_is_n1 {tp : Nat → Int} {nm : List Int32} {t : zK} (h : ¬ t.2.2.1 = 1) : ¬ t_is tp nm t = true := by
  unfold t_is; rw [decide_eq_false h]; intro q; exact absurd q (by simp)
theorem t_is_n2 {tp : Nat → Int} {nm : List Int32} {t : zK} (h : ¬ t.1 = t.2.1 + nm.length) : ¬ t_is tp nm t = true := by
  unfold t_is; rw [decide_eq_false h]; intro q; simp at q
theorem t_is_y {tp : Nat → Int} {nm : List Int32} {t : zK} (h1 : t.2.2.1 = 1) (h2 : t.1 = t.2.1 + nm.length) : t_is tp nm t = t_mt tp nm t.2.1 := by
  unfold t_is; rw [decide_eq_true h1, decide_eq_true h2]; rfl
theorem s_isw {e n : Nat} {im : Nat → Option Nat} {w u : Nat → Nat → Int} {U : Nat} {tp : Nat → Int} {r : zR} {s : Nat} (hs : 1 ≤ s) (hl : (z_tx s).length ≤ 100) (hw : T_w U tp) (hQ : Q_c w U tp r) : (z_F (e + 2)).1 k_Reader_isWord [.ref 17, .ref (z_sb + s)] (n, z_q im, jM w, jL u) = some (Int32.ofInt (if t_is tp (z_tx s) r.2.2 = true then 1 else 0), jM w, jL u) := by
  obtain ⟨hT, ⟨q2, q3, q4, q5⟩, ⟨q6, q7⟩, hr⟩ := id hQ
  obtain ⟨ht, hf⟩ := id hr
  obtain ⟨t1, t2, t3, t4, t5⟩ := id ht
  have hU := hw.1
  have e3 : ((jM w, jL u) : zD).1 17 3 = Int32.ofInt r.2.2.2.2.1 := by rw [← q3]; rfl
  have e2 : ((jM w, jL u) : zD).1 17 2 = Int32.ofInt (r.2.2.1 : Int) := by rw [← q2]; rfl
  have e4 : ((jM w, jL u) : zD).1 17 4 = Int32.ofInt (r.2.2.2.1 : Int) := by rw [← q4]; rfl
  by_cases h1 : r.2.2.2.2.1 = 1
  · by_cases h2 : r.2.2.1 = r.2.2.2.1 + (z_tx s).length
    · rw [t_is_y h1 h2]
      refine n_Reader_isWord (z_go ((e_Reader_isWord_0 ..).trans ?_) (l_isw hw hs hl (by omega) hT q4 (z_tx s).length 0 (by omega) (fun j hj => by omega)))
      rw [e3, if_pos (ji_eq_p (by omega) (by decide) h1), z_sbt hs, cond_true, z_sbs, ji_oN, e2, e4, ji_sub, if_pos (ji_eq_p (by omega) (by omega) (by omega))]
      rfl
    · rw [if_neg (t_is_n2 h2)]
      refine n_Reader_isWord (z_ret ((e_Reader_isWord_0 ..).trans ?_))
      rw [e3, if_pos (ji_eq_p (by omega) (by decide) h1), z_sbt hs, cond_true, z_sbs, ji_oN, e2, e4, ji_sub, if_neg (ji_eq_n (by omega) (by omega) (by omega))]
  · rw [if_neg (t_is_n1 h1)]
    refine n_Reader_isWord (z_ret ((e_Reader_isWord_0 ..).trans ?_))
    rw [e3, if_neg (ji_eq_n (by omega) (by decide) h1)]
theorem s_wo {e n : Nat} {im : Nat → Option Nat} {w u : Nat → Nat → Int} {U : Nat} {tp : Nat → Int} {r : zR} {s : Nat} (hs : 1 ≤ s) (hl : (z_tx s).length ≤ 100) (hw : T_w U tp) (hQ : Q_c w U tp r) : ∃ w', (z_F (e + 3)).2.2.1 k_Reader_word [.ref 17, .ref (z_sb + s)] (n, z_q im, jM w, jL u) = some (jM w', jL u) ∧ Q_c w' U tp (A_wo U tp (z_tx s) r) ∧ f17 w w' := by
  unfold A_wo
  by_cases h : t_is tp (z_tx s) r.2.2 = true
  · rw [if_pos h]
    obtain ⟨w1, k1, k2, k3⟩ := s_nx (e := e) (n := n) (im := im) (u := u) hw hQ
    refine ⟨w1, q_Reader_word ?_, k2, k3⟩
    rw [s_isw hs hl hw hQ, z_oI_s, if_neg (ji_b_n h), k1, z_oV_s]
  · rw [if_neg h]
    obtain ⟨w1, k1, k2, k3⟩ := s_fl (e := e + 1) (n := n) (im := im) (u := u) (k := 1) (by decide) hQ
    obtain ⟨w2, l1, l2, l3⟩ := s_nx (e := e) (n := n) (im := im) (u := u) hw k2
    refine ⟨w2, q_Reader_word ?_, l2, f17_tr k3 l3⟩
    rw [s_isw hs hl hw hQ, z_oI_s, if_pos (ji_b_p h), k1, z_oV_s, l1, z_oV_s]
theorem s_si {e n : Nat} {im : Nat → Option Nat} {w u : Nat → Nat → Int} {U : Nat} {tp : Nat → Int} {r : zR} (hw : T_w U tp) (hQ : Q_c w U tp r) : ∃ w', (z_F (e + 3)).2.2.1 k_Reader_sign [.ref 17] (n, z_q im, jM w, jL u) = some (jM w', jL u) ∧ Q_c w' U tp (A_si U tp r) ∧ f17 w w' := by
  have e3 : ((jM w, jL u) : zD).1 17 3 = Int32.ofInt r.2.2.2.2.1 := by rw [← hQ.2.1.2.1]; rfl
  have t3 := hQ.2.2.2.1.2.2.1
  unfold A_si
  by_cases h : r.2.2.2.2.1 = 3
  · rw [if_pos h]
    obtain ⟨w1, k1, k2, k3⟩ := s_nx (e := e) (n := n) (im := im) (u := u) hw hQ
    refine ⟨w1, q_Reader_sign ?_, k2, k3⟩
    rw [e3, if_pos (ji_eq_p (by omega) (by decide) h), k1, z_oV_s]
  · rw [if_neg h]
    obtain ⟨w1, k1, k2, k3⟩ := s_fl (e := e + 1) (n := n) (im := im) (u := u) (k := 1) (by decide) hQ
    obtain ⟨w2, l1, l2, l3⟩ := s_nx (e := e) (n := n) (im := im) (u := u) hw k2
    refine ⟨w2, q_Reader_sign ?_, l2, f17_tr k3 l3⟩
    rw [e3, if_neg (ji_eq_n (by omega) (by decide) h), k1, z_oV_s, l1, z_oV_s]
theorem l_nu {e n : Nat} {im : Nat → Option Nat} {w u : Nat → Nat → Int} {U : Nat} {tp : Nat → Int} {r : zR} (hw : T_w U tp) (hQ : Q_c w U tp r) : ∃ w', (z_oV ((z_F (e + 2)).2.2.1 k_Reader_nextToken [.ref 17] (n, z_q im, jM w, jL u)) none (fun d3 => (if (d3.1 17 6) = 0 then some (.inl (some (.int (((jM w, jL u) : zD).1 17 5)), (n, z_q im, d3))) else some (.inl (some (.int (Int32.ofInt 0)), (n, z_q im, d3))))) : zRs) = some (.inl (some (.int (Int32.ofInt (if r.1 = 0 then r.2.2.2.2.2 else 0))), (n, z_q im, jM w', jL u))) ∧ Q_c w' U tp (A_nx U tp r) ∧ f17 w w' := by
  obtain ⟨w1, k1, k2, k3⟩ := s_nx (e := e) (n := n) (im := im) (u := u) hw hQ
  have e5 : ((jM w, jL u) : zD).1 17 5 = Int32.ofInt r.2.2.2.2.2 := by rw [← hQ.2.1.2.2.2]; rfl
  have e6 : ((jM w1, jL u) : zD).1 17 6 = Int32.ofInt r.1 := by rw [← A_nx_1 U tp r, ← k2.2.2.1.1]; rfl
  have hf := hQ.2.2.2.2
  refine ⟨w1, ?_, k2, k3⟩
  rw [k1, z_oV_s, e5, e6]
  by_cases h : r.1 = 0
  · rw [if_pos (ji_eq0_p (by omega) h), if_pos h]
  · rw [if_neg (ji_eq0_n (by omega) h), if_neg h]
theorem s_nu {e n : Nat} {im : Nat → Option Nat} {w u : Nat → Nat → Int} {U : Nat} {tp : Nat → Int} {r : zR} {lo hi : Int} (hlo : jR lo) (hhi : jR hi) (hw : T_w U tp) (hQ : Q_c w U tp r) : ∃ w', (z_F (e + 3)).1 k_Reader_number [.ref 17, .int (Int32.ofInt lo), .int (Int32.ofInt hi)] (n, z_q im, jM w, jL u) = some (Int32.ofInt (A_vl lo hi r), jM w', jL u) ∧ Q_c w' U tp (A_nu U tp lo hi r) ∧ f17 w w' := by
  have e3 : ((jM w, jL u) : zD).1 17 3 = Int32.ofInt r.2.2.2.2.1 := by rw [← hQ.2.1.2.1]; rfl
  have e5 : ((jM w, jL u) : zD).1 17 5 = Int32.ofInt r.2.2.2.2.2 := by rw [← hQ.2.1.2.2.2]; rfl
  obtain ⟨t1, t2, t3, t4, t5⟩ := id hQ.2.2.2.1
  have hv : A_vl lo hi r = (if (A_nt lo hi r).1 = 0 then (A_nt lo hi r).2.2.2.2.2 else 0) := by unfold A_vl; rw [A_nt_t]
  rw [hv]
  unfold A_nu
  by_cases h : r.2.2.2.2.1 = 2
  · by_cases h2 : lo ≤ r.2.2.2.2.2 ∧ r.2.2.2.2.2 ≤ hi
    · have E : A_nt lo hi r = r := by unfold A_nt; rw [if_pos h, if_pos h2]
      rw [E]
      obtain ⟨w1, k1, k2, k3⟩ := l_nu (e := e) (n := n) (im := im) (u := u) hw hQ
      refine ⟨w1, q_Reader_number ?_, k2, k3⟩
      rw [e3, if_pos (ji_eq_p (by omega) (by decide) h), e5, s_within (by omega) hlo hhi, z_oI_s, if_neg (ji_b_n h2)]
      exact k1
    · have E : A_nt lo hi r = A_fl 2 r := by unfold A_nt; rw [if_pos h, if_neg h2]
      rw [E]
      obtain ⟨w0, j1, j2, j3⟩ := s_fl (e := e + 1) (n := n) (im := im) (u := u) (k := 2) (by decide) hQ
      obtain ⟨w1, k1, k2, k3⟩ := l_nu (e := e) (n := n) (im := im) (u := u) hw j2
      refine ⟨w1, q_Reader_number ?_, k2, f17_tr j3 k3⟩
      rw [e3, if_pos (ji_eq_p (by omega) (by decide) h), e5, s_within (by omega) hlo hhi, z_oI_s, if_pos (ji_b_p h2), j1, z_oV_s]
      exact k1
  · have E : A_nt lo hi r = A_fl 1 r := by unfold A_nt; rw [if_neg h]
    rw [E]
    obtain ⟨w0, j1, j2, j3⟩ := s_fl (e := e + 1) (n := n) (im := im) (u := u) (k := 1) (by decide) hQ
    obtain ⟨w1, k1, k2, k3⟩ := l_nu (e := e) (n := n) (im := im) (u := u) hw j2
    refine ⟨w1, q_Reader_number ?_, k2, f17_tr j3 k3⟩
    rw [e3, if_neg (ji_eq_n (by omega) (by decide) h), j1, z_oV_s]
    exact k1
