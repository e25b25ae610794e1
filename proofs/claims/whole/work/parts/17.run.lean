/-! RUNS, and what calls give, by depth; a run gives the method's contract -/
def z_run (sc : Option (Nat × (Nat → Int32))) (o : zO) (cd : List zI) : Nat → Nat × zL × List Value × zM → Option (Option Value × zM)
  | 0, _ => none
  | n + 1, q => match z_ex sc o cd 4000 (cd.drop q.1) q.1 q.2.1 q.2.2.1 q.2.2.2 with
    | none => none
    | some (.inl r) => some r
    | some (.inr s) => z_run sc o cd n s
def z_lo : List Value → zL
  | [] => []
  | v :: t => cond (z_isL (some v)) (some v :: none :: z_lo t) (some v :: z_lo t)
def z_lvi (n : Nat) (as : List Value) : zL := z_lo as ++ List.replicate (n - (z_lo as).length) none
def z_R (o : zO) (k : Nat) (as : List Value) (m : zM) (r : Option Value × zM) : Prop := k < z_nm ∧ (z_lo as).length ≤ z_ml k ∧ ∃ n, z_run none o (z_cd k) n (0, z_lvi (z_ml k) as, [], m) = some r
theorem z_run_det {sc : Option (Nat × (Nat → Int32))} {o : zO} {cd : List zI} : ∀ {n n' : Nat} {q : Nat × zL × List Value × zM} {r r' : Option Value × zM}, z_run sc o cd n q = some r → z_run sc o cd n' q = some r' → r = r'
  | 0, _, _, _, _, h, _ => by simp [z_run] at h
  | _ + 1, 0, _, _, _, _, h => by simp [z_run] at h
  | n + 1, n' + 1, q, r, r', h, h' => by
    simp only [z_run] at h h'
    split at h
    · cases h
    · rename_i heq
      rw [heq] at h'
      cases h; cases h'; rfl
    · rename_i heq
      rw [heq] at h'
      exact z_run_det h h'
theorem z_R_det {o : zO} {k : Nat} {as : List Value} {m : zM} {r r' : Option Value × zM} (h : z_R o k as m r) (h' : z_R o k as m r') : r = r' := by
  obtain ⟨-, -, n, hn⟩ := h
  obtain ⟨-, -, n', hn'⟩ := h'
  exact z_run_det hn hn'
noncomputable def z_ch {α : Type} (P : α → Prop) : Option α := @dite _ (∃ a, P a) (Classical.propDecidable _) (fun h => some h.choose) (fun _ => none)
theorem z_ch_spec {α : Type} {P : α → Prop} {a : α} (h : z_ch P = some a) : P a := by
  unfold z_ch at h
  by_cases hx : ∃ a, P a
  · rw [dif_pos hx] at h
    cases h
    exact hx.choose_spec
  · rw [dif_neg hx] at h
    cases h
theorem z_ch_some {α : Type} {P : α → Prop} {a : α} (h : P a) (hu : ∀ b, P b → b = a) : z_ch P = some a := by
  have hx : ∃ a, P a := ⟨a, h⟩
  unfold z_ch
  rw [dif_pos hx, hu _ hx.choose_spec]
noncomputable def z_F : Nat → zO
  | 0 => (fun _ _ _ => none, fun _ _ _ => none, fun _ _ _ => none, fun _ _ _ => none, fun _ _ _ => none)
  | d + 1 => (fun k as m => z_ch (fun r : Int32 × zD => z_R (z_F d) k as m (some (.int r.1), (m.1, m.2.1, r.2))),
      fun k as m => z_ch (fun r : Int64 × zD => z_R (z_F d) k as m (some (.long r.1), (m.1, m.2.1, r.2))),
      fun k as m => z_ch (fun r : zD => z_R (z_F d) k as m (none, (m.1, m.2.1, r))),
      fun k as m => z_ch (fun r : zM => z_R (z_F d) k as m (none, r)),
      fun k as m => z_ch (fun r : Int32 × zM => z_R (z_F d) k as m (some (.int r.1), r.2)))
theorem z_FI {d k : Nat} {as : List Value} {m : zM} {v : Int32} {dd : zD} (h : z_R (z_F d) k as m (some (.int v), (m.1, m.2.1, dd))) : (z_F (d + 1)).1 k as m = some (v, dd) :=
  z_ch_some (P := fun r : Int32 × zD => z_R (z_F d) k as m (some (.int r.1), (m.1, m.2.1, r.2))) (a := (v, dd)) h (fun b hb => by
    have := z_R_det hb h
    obtain ⟨b1, b2⟩ := b
    simp at this
    rw [this.1, this.2])
theorem z_FJ {d k : Nat} {as : List Value} {m : zM} {v : Int64} {dd : zD} (h : z_R (z_F d) k as m (some (.long v), (m.1, m.2.1, dd))) : (z_F (d + 1)).2.1 k as m = some (v, dd) :=
  z_ch_some (P := fun r : Int64 × zD => z_R (z_F d) k as m (some (.long r.1), (m.1, m.2.1, r.2))) (a := (v, dd)) h (fun b hb => by
    have := z_R_det hb h
    obtain ⟨b1, b2⟩ := b
    simp at this
    rw [this.1, this.2])
theorem z_FV {d k : Nat} {as : List Value} {m : zM} {dd : zD} (h : z_R (z_F d) k as m (none, (m.1, m.2.1, dd))) : (z_F (d + 1)).2.2.1 k as m = some dd :=
  z_ch_some (P := fun r : zD => z_R (z_F d) k as m (none, (m.1, m.2.1, r))) (a := dd) h (fun b hb => by
    have := z_R_det hb h
    simp at this
    exact this)
theorem z_FN {d k : Nat} {as : List Value} {m m2 : zM} (h : z_R (z_F d) k as m (none, m2)) : (z_F (d + 1)).2.2.2.1 k as m = some m2 :=
  z_ch_some (P := fun r : zM => z_R (z_F d) k as m (none, r)) (a := m2) h (fun b hb => by
    have := z_R_det hb h
    simp only [Prod.mk.injEq, true_and] at this
    exact this)
theorem z_FX {d k : Nat} {as : List Value} {m m2 : zM} {v : Int32} (h : z_R (z_F d) k as m (some (.int v), m2)) : (z_F (d + 1)).2.2.2.2 k as m = some (v, m2) :=
  z_ch_some (P := fun r : Int32 × zM => z_R (z_F d) k as m (some (.int r.1), r.2)) (a := (v, m2)) h (fun b hb => by
    have h9 := z_R_det hb h
    obtain ⟨b1, b2⟩ := b
    have e1 : (some (Value.int b1) : Option Value) = some (.int v) := congrArg Prod.fst h9
    have e2 : b2 = m2 := congrArg Prod.snd h9
    cases e1
    rw [e2])
/-- the number of cells never falls -/
def z_OM (o : zO) : Prop := (∀ k as m r, o.2.2.2.1 k as m = some r → m.1 ≤ r.1) ∧ ∀ k as m r, o.2.2.2.2 k as m = some r → m.1 ≤ r.2.1
theorem z_ps_le {sc : Option (Nat × (Nat → Int32))} {o : zO} {ins : Instr} {lv : zL} {st : List Value} {m : zM} {nf : Nat} (hO : z_OM o) (h : z_ps sc o ins lv st m False (fun _ _ m => m.1 ≤ nf) (fun _ _ _ m => m.1 ≤ nf) (fun _ m => m.1 ≤ nf)) : m.1 ≤ nf := by
  cases ins with
  | new ci =>
    simp only [z_ps] at h
    cases hb : ((z_tk m.1).beq 0 && (z_tn m.1).beq ci) with
    | false => rw [hb] at h; exact h.elim
    | true => rw [hb] at h; exact Nat.le_of_succ_le h
  | invokespecial q =>
    simp only [z_ps] at h
    split at h
    · rename_i as r _
      cases hb : ((z_cs r).ble 8 && z_ref0 (q / 64000) as) with
      | false => rw [hb] at h; exact h.elim
      | true =>
        rw [hb] at h
        simp only [cond_true] at h
        cases ho : o.2.2.2.1 (q / 64 % 1000) as m with
        | none => rw [ho] at h; exact h.elim
        | some m2 => rw [ho] at h; exact Nat.le_trans (hO.1 _ _ _ _ ho) h
    · exact h.elim
  | invokeinterface q q2 =>
    simp only [z_ps] at h
    split at h
    · rename_i as r _
      cases hb : ((z_cs r).ble 8 && z_ref0 (q / 64000) as) with
      | false => rw [hb] at h; exact h.elim
      | true =>
        rw [hb] at h
        simp only [cond_true] at h
        cases ho : o.2.2.2.2 (q / 64 % 1000) as m with
        | none => rw [ho] at h; exact h.elim
        | some m2 => obtain ⟨v, m2⟩ := m2; rw [ho] at h; exact Nat.le_trans (hO.2 _ _ _ _ ho) h
    · exact h.elim
  | newarray t =>
    simp only [z_ps] at h
    split at h
    · cases hb : (z_tk m.1).beq (z_ar t) with
      | false => rw [hb] at h; exact h.elim
      | true =>
        rw [hb] at h
        simp only [cond_true] at h
        split at h
        · exact Nat.le_of_succ_le h
        · exact h.elim
    · exact h.elim
  | anewarray t =>
    simp only [z_ps] at h
    split at h
    · cases hb : (z_tk m.1).beq 5 with
      | false => rw [hb] at h; exact h.elim
      | true =>
        rw [hb] at h
        simp only [cond_true] at h
        split at h
        · exact Nat.le_of_succ_le h
        · exact h.elim
    · exact h.elim
  | tableswitch dd lo hi ts =>
    simp only [z_ps] at h
    split at h
    · rename_i x r
      generalize ts.toList = l at h
      induction l generalizing lo with
      | nil => exact h
      | cons t l ih =>
        simp only [z_tsw] at h
        split at h
        · exact h
        · exact ih (lo + 1) h
    · exact h.elim
  | _ =>
    simp only [z_ps, cond_eq_ite, z_oI, z_oJ, z_oV] at h
    repeat' first | exact h | exact h.elim | split at h
theorem z_ex_le {sc : Option (Nat × (Nat → Int32))} {o : zO} {cd : List zI} {nf : Nat} (hO : z_OM o) : ∀ (f : Nat) (rest : List zI) (ip : Nat) (lv : zL) (st : List Value) (m : zM), z_Kt (fun _ _ _ m => m.1 ≤ nf) (fun _ m => m.1 ≤ nf) (z_ex sc o cd f rest ip lv st m) → m.1 ≤ nf := by
  intro f
  induction f with
  | zero => intro rest ip lv st m h; exact h.elim
  | succ f ih =>
    intro rest ip lv st m h
    cases rest with
    | nil => exact h.elim
    | cons q rest =>
      obtain ⟨pc, pl, ins⟩ := q
      by_cases hnop : ins = .nop
      · subst hnop
        exact h
      · rw [z_ex_cons hnop, z_ps_map (z_Kt (fun _ _ _ m => m.1 ≤ nf) (fun _ m => m.1 ≤ nf))] at h
        exact z_ps_le hO (z_ps_mono (fun a b c h9 => ih _ _ a b c h9) (fun t a b c h9 => ih _ _ a b c h9) h)
theorem z_run_le {sc : Option (Nat × (Nat → Int32))} {o : zO} {cd : List zI} (hO : z_OM o) : ∀ {n : Nat} {q : Nat × zL × List Value × zM} {r : Option Value × zM}, z_run sc o cd n q = some r → q.2.2.2.1 ≤ r.2.1
  | 0, _, _, h => by simp [z_run] at h
  | n + 1, q, r, h => by
    simp only [z_run] at h
    refine z_ex_le (sc := sc) (cd := cd) hO 4000 (cd.drop q.1) q.1 q.2.1 q.2.2.1 q.2.2.2 ?_
    split at h
    · cases h
    · rename_i heq
      cases h
      rw [heq]
      exact Nat.le_refl _
    · rename_i heq
      rw [heq]
      exact z_run_le hO h
