/-! a run gives the method's contract -/
def z_OK : Prop := ∀ k, k < z_nm → z_okM k = true ∧ z_hd k = true
theorem z_lo_mem {ad sa : Nat → Nat} : ∀ {as : List Value} {b k : Nat} {v : Value}, z_at (z_lo as) k = some v → (b + k, z_tr ad sa v) ∈ lv_args b (as.map (z_tr ad sa))
  | [], b, k, v, h => by simp [z_lo, z_at] at h
  | w :: t, b, k, v, h => by
    have hc : (z_tr ad sa w).category = w.category := z_tr_cat ad sa w
    cases hL : z_isL (some w) with
    | true =>
      simp only [z_lo, hL, cond_true] at h
      have hcat : w.category = 2 := by cases w <;> first | rfl | cases hL
      show (b + k, z_tr ad sa v) ∈ (b, z_tr ad sa w) :: lv_args (if (z_tr ad sa w).category = 2 then b + 2 else b + 1) (t.map (z_tr ad sa))
      rw [hc, if_pos hcat]
      match k, h with
      | 0, h => simp only [z_at] at h; cases h; exact List.mem_cons_self
      | 1, h => simp [z_at] at h
      | k + 2, h =>
        have h2 : z_at (z_lo t) k = some v := h
        have := z_lo_mem (ad := ad) (sa := sa) (as := t) (b := b + 2) h2
        rw [show b + (k + 2) = b + 2 + k by omega]
        exact List.mem_cons_of_mem _ this
    | false =>
      simp only [z_lo, hL, cond_false] at h
      have hcat : ¬ w.category = 2 := by cases w <;> first | (simp [z_isL] at hL; done) | (intro q; cases q; done)
      show (b + k, z_tr ad sa v) ∈ (b, z_tr ad sa w) :: lv_args (if (z_tr ad sa w).category = 2 then b + 2 else b + 1) (t.map (z_tr ad sa))
      rw [hc, if_neg hcat]
      match k, h with
      | 0, h => simp only [z_at] at h; cases h; exact List.mem_cons_self
      | k + 1, h =>
        have h2 : z_at (z_lo t) k = some v := h
        have := z_lo_mem (ad := ad) (sa := sa) (as := t) (b := b + 1) h2
        rw [show b + (k + 1) = b + 1 + k by omega]
        exact List.mem_cons_of_mem _ this
theorem z_lo_sl {ad sa : Nat → Nat} : ∀ (as : List Value), (lg_sl (as.map (z_tr ad sa))).length = (z_lo as).length
  | [] => rfl
  | w :: t => by
    have ih := z_lo_sl (ad := ad) (sa := sa) t
    cases w <;> simp [lg_sl, z_lo, z_isL, z_tr, Value.category] at ih ⊢ <;> omega
theorem z_at_app {a b : zL} {k : Nat} {v : Value} (h : z_at (a ++ b) k = some v) (hb : ∀ j, z_at b j = none) : z_at a k = some v := by
  rw [z_at_eq] at h ⊢
  rcases Nat.lt_or_ge k a.length with g | g
  · rw [List.getElem?_append_left g] at h; exact h
  · rw [List.getElem?_append_right g] at h
    have := hb (k - a.length)
    rw [z_at_eq] at this
    rw [this] at h; cases h
theorem z_at_rep (n j : Nat) : z_at (List.replicate n none) j = none := by
  rw [z_at_eq, List.getElem?_replicate]
  split <;> rfl
theorem z_lvi_at {n k : Nat} {as : List Value} {v : Value} (h : z_at (z_lvi n as) k = some v) : z_at (z_lo as) k = some v := z_at_app h (z_at_rep _)
theorem z_lo_ok {n : Nat} : ∀ {as : List Value}, (∀ v ∈ as, z_okv n v) → ∀ k v, z_at (z_lo as) k = some v → z_okv n v
  | [], _, k, v, h => by simp [z_lo, z_at] at h
  | w :: t, ho, k, v, h => by
    have ih := z_lo_ok (n := n) (as := t) (fun v hv => ho v (List.mem_cons_of_mem _ hv))
    cases hL : z_isL (some w) with
    | true =>
      simp only [z_lo, hL, cond_true] at h
      match k, h with
      | 0, h => simp only [z_at] at h; cases h; exact ho _ List.mem_cons_self
      | 1, h => simp [z_at] at h
      | k + 2, h => exact ih k v h
    | false =>
      simp only [z_lo, hL, cond_false] at h
      match k, h with
      | 0, h => simp only [z_at] at h; cases h; exact ho _ List.mem_cons_self
      | k + 1, h => exact ih k v h
section ZS
variable {p : Program} {l : Launch} {e : Env} {R : Room} {s : State} {mt : MethodId} {args : Array Value} {below : List Frame} {meth : Method} {c : Code} {Q : State → Prop} {D : va_G} {A : Nat → Prop} {sa sv ad0 : Nat → Nat} {n0 nf nL : Nat} {cd : List zI} {own : String} {cc : ByteArray} {ini : Bool} {rt : Option FieldType}
theorem z_run_sound (C : z_Cx p s mt args meth c own cc nL ini rt) (En : z_En sa sv A s s.heap) (hA : ∀ q, s.heap.size ≤ q → A q) (hR : z_Rm R n0 nf) {d : Nat} (hRf : d + 9 ≤ R.frames) (hRl : 60 * d + 460 ≤ R.locals) (hWD : z_WD) {o : zO} (hO : z_OS l d o) {sc : Option (Nat × (Nat → Int32))} (hsc : ∀ L xs, sc = some (L, xs) → va_X (sa 0) L xs s s.heap ∧ sa 0 < s.heap.size ∧ ¬ A (sa 0)) {Rt : Option Value → zM → Prop}
    (hRt : ∀ v m, Rt v m → m.1 ≤ nf ∧ ∀ (ad : Nat → Nat) (ac : Nat → ClassId) (tys : List (ClassId × FieldType)) (H : Heap) (locs : List Loc) (ls : Array Slot) (pc : Nat) (ins : Instr), z_St D A s ad0 n0 m ad ac tys H locs → z_rin rt v ins → decode cc pc = .ok (ins, 1) → W p l e R s mt args below meth c H locs (m.1 - n0) (z_sl m.1 - z_sl n0) Q (F0 mt pc ls v.toList))
    (hok : z_okL own cc nL ini rt cd 0 cd = true) : ∀ (n : Nat) (q : Nat × zL × List Value × zM) (r : Option Value × zM), z_run sc o cd n q = some r → Rt r.1 r.2 → z_G p l e R s mt args below meth c Q D A sa ad0 n0 nf nL (z_pc cd) q.1 q.2.1 q.2.2.1 q.2.2.2 := by
  intro n
  induction n with
  | zero => intro q r h; simp [z_run] at h
  | succ n ih =>
    intro q r h hr
    refine z_ex_sound C En hA hR hRf hRl hWD hO hsc hRt hok 4000 _ q.1 q.2.1 q.2.2.1 q.2.2.2 rfl ?_
    simp only [z_run] at h
    split at h
    · cases h
    · rename_i heq
      cases h
      rw [heq]
      exact hr
    · rename_i heq
      rw [heq]
      exact ih _ _ h hr
end ZS
theorem z_met {l : Launch} {d k : Nat} {as : List Value} {m m' : zM} {v : Option Value} (hWD : z_WD) (hOK : z_OK) (hO : z_OS l d (z_F d)) (hvk : v = none ∨ (∃ x, v = some (.int x)) ∨ ∃ x, v = some (.long x)) (h : z_R (z_F d) k as m (v, m')) : z_Met l (d + 1) k as m v m' := by
  obtain ⟨hk, hlen, n, hrun⟩ := h
  have hwd := hWD k hk
  have hwd2 := hwd
  simp only [z_wdM, Bool.and_eq_true, decide_eq_true_eq] at hwd2
  have hle : m.1 ≤ m'.1 := z_run_le ⟨fun k as m r h9 => (hO.2.2.2.1 k as m r h9).1, fun k as m r h9 => (hO.2.2.2.2 k as m r h9).1⟩ hrun
  refine ⟨hle, fun D sa sv ad ac tys sz => ?_⟩
  refine Met.ofW (cc := z_by k) (maxL := z_ml k) (ret := z_rty k) hwd2.1.2 rfl ?_
  intro p e s mt args below meth c s₁ B hml hv
  obtain ⟨rfl, hsz, hP, hK, hD0, hty, hw, ho, hE⟩ := hv
  subst hsz
  have hts := atoms_spec (ws := z_ws0 k) B.pre
  have hown : s.vm.findClass (z_y k).cls = some mt.cls := findClass_of_methodNamed B.named
  have hnm := (name_of_methodNamed B.named B.method).1
  have C : z_Cx p s mt (as.map (z_tr ad sa)).toArray meth c (z_y k).cls (z_by k) (z_ml k) (decide ((z_y k).name = "<init>")) (z_rty k) := ⟨B.exec, B.bytes, B.returns, hml, hown, fun w h9 => hts w (List.mem_cons_of_mem _ h9), B.notSynchronized, fun h9 => hnm.trans (of_decide_eq_true h9)⟩
  have hD : va_D (va_A (z_ws ad ac m) s.heap.size) (z_ws ad ac m) := hD0.self (sz := s.heap.size)
  have hA : ∀ q : Nat, s.heap.size ≤ q → va_A (z_ws ad ac m) s.heap.size q := fun q h9 => Or.inr h9
  have hS : va_S (va_A (z_ws ad ac m) s.heap.size) s.heap s.heap [] := va_S.rf
  have hRm : z_Rm (headSpec (z_ws0 k) (z_rm (d + 1) (m'.1 - m.1) (z_sl m'.1 - z_sl m.1))).room m.1 m'.1 := ⟨Nat.le_refl _, Nat.le_refl _, (by show 8 ≤ d + 1 + 8; omega), (by show 400 ≤ 60 * (d + 1) + 400; omega)⟩
  have key := z_run_sound (l := l) (e := e) (below := below) (R := (headSpec (z_ws0 k) (z_rm (d + 1) (m'.1 - m.1) (z_sl m'.1 - z_sl m.1))).room) (D := D) (ad0 := ad) (n0 := m.1) (nf := m'.1) (Q := MQ below (z_Qc D ad m.1 v m' (va_A (z_ws ad ac m) s.heap.size)) (as.map (z_tr ad sa)).toArray s (m'.1 - m.1) (z_sl m'.1 - z_sl m.1) (va_A (z_ws ad ac m) s.heap.size)) C hE hA hRm (d := d) (by show d + 9 ≤ d + 1 + 8; omega) (by show 60 * d + 460 ≤ 60 * (d + 1) + 400; omega) hWD hO (sc := none) (fun L xs h9 => by cases h9) (Rt := fun v9 m9 => v9 = v ∧ m9 = m') ?_ (hOK k hk).1 n _ (v, m') hrun ⟨rfl, rfl⟩
  · have hl := lv_entry (as.map (z_tr ad sa)) (n := z_ml k) (by rw [z_lo_sl]; exact hlen)
    rw [lg_entry_eq]
    generalize (lg_sl (as.map (z_tr ad sa)) ++ List.replicate (z_ml k - (lg_sl (as.map (z_tr ad sa))).length) Slot.unset).toArray = ls at hl ⊢
    have h2 := key.2 ad ac tys s.heap [] ls ⟨hK, hP, hD, hS, hty, hw, Nat.le_refl _, fun _ _ => rfl⟩ ⟨hl.1, hl.2.1, by simp only [z_lvi, List.length_append, List.length_replicate]; omega, fun j w h9 => by
      have h8 := z_lo_mem (ad := ad) (sa := sa) (b := 0) (z_lvi_at h9)
      rw [Nat.zero_add] at h8
      exact hl.2.2 _ h8⟩ (fun w h9 => absurd h9 List.not_mem_nil) (fun j w h9 => z_lo_ok ho j w (z_lvi_at h9))
    have e0 : z_pc (z_cd k) 0 = 0 := of_decide_eq_true (hOK k hk).2
    simp only [Nat.sub_self] at h2
    rw [e0] at h2
    exact h2
  · rintro v9 m9 ⟨rfl, rfl⟩
    refine ⟨Nat.le_refl _, fun ad' ac' tys' H locs ls pc ins hSt hri hdg => ?_⟩
    obtain ⟨k1, p1, d1, s1, t1, w1, n1, a1⟩ := hSt
    rcases hvk with rfl | ⟨x, rfl⟩ | ⟨x, rfl⟩
    · obtain ⟨rfl, hrt⟩ := hri
      exact W.vret C.1 C.2.1 (B.returns.trans hrt) (fun t ht hW => ⟨⟨(), rfl, rfl, ad', ac', tys', va_K.moved hW.alike k1, by rw [ht]; exact p1, d1, t1, w1, a1⟩, s1.F ht⟩) s1.2.2 hdg
    · obtain ⟨rfl, hrt⟩ := hri
      have hq : ∀ t : State, t.heap = H → s.WarmedH t.vm → z_Qc D ad m.1 (some (.int x)) m9 (va_A (z_ws ad ac m) s.heap.size) (as.map (z_tr ad sa)).toArray s (.returned (some (.int x))) t := fun t ht hW => ⟨⟨x, (), rfl, rfl, ad', ac', tys', va_K.moved hW.alike k1, by rw [ht]; exact p1, d1, t1, w1, a1⟩, s1.F ht⟩
      rcases hrt with hrt | ⟨hrt, hx⟩
      · exact W.zret C.1 C.2.1 (B.returns.trans hrt) rfl hq s1.2.2 hdg
      · exact W.zret C.1 C.2.1 (B.returns.trans hrt) (by rcases hx with rfl | rfl <;> rfl) hq s1.2.2 hdg
    · obtain ⟨rfl, hrt⟩ := hri
      exact W.lret C.1 C.2.1 (B.returns.trans hrt) (fun t ht hW => ⟨⟨x, (), rfl, rfl, ad', ac', tys', va_K.moved hW.alike k1, by rw [ht]; exact p1, d1, t1, w1, a1⟩, s1.F ht⟩) s1.2.2 hdg
theorem z_FS (l : Launch) (hWD : z_WD) (hOK : z_OK) : ∀ d, z_OS l d (z_F d) := by
  intro d
  induction d with
  | zero => exact ⟨fun k as m r h => (by cases h), fun k as m r h => (by cases h), fun k as m r h => (by cases h), fun k as m r h => (by cases h), fun k as m r h => (by cases h)⟩
  | succ d ih =>
    refine ⟨fun k as m r h => ?_, fun k as m r h => ?_, fun k as m r h => ?_, fun k as m r h => ?_, fun k as m r h => ?_⟩
    · exact z_met hWD hOK ih (Or.inr (Or.inl ⟨_, rfl⟩)) (z_ch_spec (P := fun r : Int32 × zD => z_R (z_F d) k as m (some (.int r.1), (m.1, m.2.1, r.2))) h)
    · exact z_met hWD hOK ih (Or.inr (Or.inr ⟨_, rfl⟩)) (z_ch_spec (P := fun r : Int64 × zD => z_R (z_F d) k as m (some (.long r.1), (m.1, m.2.1, r.2))) h)
    · exact z_met hWD hOK ih (Or.inl rfl) (z_ch_spec (P := fun r : zD => z_R (z_F d) k as m (none, (m.1, m.2.1, r))) h)
    · exact z_met hWD hOK ih (Or.inl rfl) (z_ch_spec (P := fun r : zM => z_R (z_F d) k as m (none, r)) h)
    · exact z_met hWD hOK ih (Or.inr (Or.inl ⟨_, rfl⟩)) (z_ch_spec (P := fun r : Int32 × zM => z_R (z_F d) k as m (some (.int r.1), r.2)) h)
theorem z_wd : z_WD := fun k hk => by
  have h := z_wkk k hk
  simp only [Bool.and_eq_true] at h
  exact h.1
theorem z_ok : z_OK := fun k hk => by
  have h := z_wkk k hk
  simp only [Bool.and_eq_true] at h
  exact ⟨z_okk k hk, h.2⟩
