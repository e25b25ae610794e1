/-! fields put, arrays, new cells -/
theorem z_u_ne {α : Type} {f : Nat → Nat → α} {k j a : Nat} {v : α} (h : a ≠ k) : z_u f k j v a = f a := by
  funext b
  simp [z_u, h]
theorem z_u_at {α : Type} (f : Nat → Nat → α) (k j b : Nat) (v : α) : z_u f k j v k b = if b = j then v else f k b := by simp [z_u]
theorem z_cell_ni {ad : Nat → Nat} {ac : Nat → ClassId} {m : zM} {k f j : Nat} {x : Int32} (h : j ≠ k) : z_cell ad ac (m.1, m.2.1, z_u m.2.2.1 k f x, m.2.2.2) j = z_cell ad ac m j := by
  simp only [z_cell, z_fs, z_fv, z_u_ne h]
theorem z_cell_nl {ad : Nat → Nat} {ac : Nat → ClassId} {m : zM} {k f j : Nat} {x : Int64} (h : j ≠ k) : z_cell ad ac (m.1, m.2.1, m.2.2.1, z_u m.2.2.2 k f x) j = z_cell ad ac m j := by
  simp only [z_cell, z_fs, z_fv, z_u_ne h]
theorem z_cell_nr {ad : Nat → Nat} {ac : Nat → ClassId} {m : zM} {k f j : Nat} {x : Option Nat} (h : j ≠ k) : z_cell ad ac (m.1, z_u m.2.1 k f x, m.2.2.1, m.2.2.2) j = z_cell ad ac m j := by
  simp only [z_cell, z_fs, z_fv, z_u_ne h]
theorem z_cell_a1 {ad : Nat → Nat} {ac : Nat → ClassId} {m : zM} {k : Nat} (h : z_tk k = 1) : z_cell ad ac m k = .inl (ac k, z_tn k, .inl (m.2.2.1 k)) := by
  simp only [z_cell, h]
theorem z_cell_a2 {ad : Nat → Nat} {ac : Nat → ClassId} {m : zM} {k : Nat} (h : z_tk k = 2) : z_cell ad ac m k = .inl (ac k, z_tn k, .inl (m.2.2.1 k)) := by
  simp only [z_cell, h]
theorem z_cell_a3 {ad : Nat → Nat} {ac : Nat → ClassId} {m : zM} {k : Nat} (h : z_tk k = 3) : z_cell ad ac m k = .inl (ac k, z_tn k, .inl (m.2.2.1 k)) := by
  simp only [z_cell, h]
theorem z_cell_a4 {ad : Nat → Nat} {ac : Nat → ClassId} {m : zM} {k : Nat} (h : z_tk k = 4) : z_cell ad ac m k = .inl (ac k, z_tn k, .inr (.inl (m.2.2.2 k))) := by
  simp only [z_cell, h]
theorem z_cell_a5 {ad : Nat → Nat} {ac : Nat → ClassId} {m : zM} {k : Nat} (h : z_tk k = 5) : z_cell ad ac m k = .inl (ac k, z_tn k, .inr (.inr (.inr (.inr (fun j => (m.2.1 k j).map ad))))) := by
  simp only [z_cell, h]
theorem z_wf_i {m : zM} {k f : Nat} {x : Int32} (hk : k < m.1) (h : z_wf m) : z_wf (m.1, m.2.1, z_u m.2.2.1 k f x, m.2.2.2) :=
  ⟨h.1, fun j hj g => ⟨(h.2.1 j hj g).1, by have h9 : m.1 ≤ j := hj; have : j ≠ k := (by omega); show z_u m.2.2.1 k f x j g = 0; rw [z_u_ne this]; exact (h.2.1 j hj g).2.1, (h.2.1 j hj g).2.2⟩, h.2.2⟩
theorem z_wf_l {m : zM} {k f : Nat} {x : Int64} (hk : k < m.1) (h : z_wf m) : z_wf (m.1, m.2.1, m.2.2.1, z_u m.2.2.2 k f x) :=
  ⟨h.1, fun j hj g => ⟨(h.2.1 j hj g).1, (h.2.1 j hj g).2.1, by have h9 : m.1 ≤ j := hj; have : j ≠ k := (by omega); show z_u m.2.2.2 k f x j g = 0; rw [z_u_ne this]; exact (h.2.1 j hj g).2.2⟩, h.2.2⟩
theorem z_wf_r {m : zM} {k f x : Nat} (hk : k < m.1) (hx : x < m.1) (h : z_wf m) : z_wf (m.1, z_u m.2.1 k f (some x), m.2.2.1, m.2.2.2) := by
  refine ⟨fun a b j hj => ?_, fun j hj g => ⟨?_, (h.2.1 j hj g).2.1, (h.2.1 j hj g).2.2⟩, h.2.2⟩
  · have hj : z_u m.2.1 k f (some x) a b = some j := hj
    show j < m.1
    by_cases q : a = k
    · subst q
      rw [z_u_at] at hj
      by_cases q2 : b = f
      · rw [if_pos q2] at hj; cases hj; exact hx
      · rw [if_neg q2] at hj; exact h.1 a b j hj
    · rw [z_u_ne q] at hj
      exact h.1 a b j hj
  · have h9 : m.1 ≤ j := hj
    have : j ≠ k := (by omega)
    show z_u m.2.1 k f (some x) j g = none
    rw [z_u_ne this]
    exact (h.2.1 j hj g).1
section ZS

variable {p : Program} {l : Launch} {e : Env} {R : Room} {s : State} {mt : MethodId} {args : Array Value} {below : List Frame} {meth : Method} {c : Code} {Q : State → Prop} {D : va_G} {A : Nat → Prop} {sa sv ad0 : Nat → Nat} {n0 nf nL : Nat} {cd : List zI} {own : String} {cc : ByteArray} {ini : Bool} {rt : Option FieldType}

theorem zs_puti (C : z_Cx p s mt args meth c own cc nL ini rt) {ip i pl q k : Nat} {lv : zL} {r : List Value} {m : zM} {x : Int32} (hd : decode cc (z_pc cd ip) = .ok (.putfield i, 3)) (hn : z_pc cd (ip + 1) = z_pc cd ip + 3) (hf : z_fld own i pl q = true) (hfin : z_fin own ini q = true) (ht : z_tk k = 0) (hc : z_tn k = q / 4096) (hk9 : (z_fk (q / 4096) (q / 4 % 1024) = 0 ∧ z_fty q = some .int) ∨ (z_fk (q / 4096) (q / 4 % 1024) = 3 ∧ z_fty q = some .boolean ∧ (x = 0 ∨ x = 1)))
    (h : z_G p l e R s mt args below meth c Q D A sa ad0 n0 nf nL (z_pc cd) (ip + 1) lv r (m.1, m.2.1, z_u m.2.2.1 k (q / 4 % 1024) x, m.2.2.2)) : z_G p l e R s mt args below meth c Q D A sa ad0 n0 nf nL (z_pc cd) ip lv (.int x :: .ref k :: r) m := by
  have key : ∀ ad : Nat → Nat, z_fk (q / 4096) (q / 4 % 1024) = 0 ∨ z_fk (q / 4096) (q / 4 % 1024) = 3 → (z_fs ad m k (q / 4096)).set (q / 4 % 1024) (z_tr ad sa (.int x)) = z_fs ad (m.1, m.2.1, z_u m.2.2.1 k (q / 4 % 1024) x, m.2.2.2) k (q / 4096) := by
    intro ad h0
    refine z_fs_set ?_ (fun j hj => ?_)
    · rcases h0 with h0 | h0 <;> (rw [h0]; show Value.int (z_u m.2.2.1 k (q / 4 % 1024) x k (q / 4 % 1024)) = .int x; rw [z_u_at, if_pos rfl])
    · simp only [z_fv, z_u_at, if_neg hj]
  rcases hk9 with ⟨h0, ty⟩ | ⟨h0, ty, hx⟩
  · exact zs_putf (m' := (m.1, m.2.1, z_u m.2.2.1 k (q / 4 % 1024) x, m.2.2.2)) C hd hn hf hfin ht hc ty (fun _ => rfl) (fun _ => rfl) rfl (fun ad _ _ => key ad (Or.inl h0)) (fun ad ac j hj => z_cell_ni hj) (fun _ hk hw => z_wf_i hk hw) h
  · exact zs_putf (m' := (m.1, m.2.1, z_u m.2.2.1 k (q / 4 % 1024) x, m.2.2.2)) C hd hn hf hfin ht hc ty (fun _ => by rcases hx with rfl | rfl <;> rfl) (fun _ => by rcases hx with rfl | rfl <;> rfl) rfl (fun ad _ _ => key ad (Or.inr h0)) (fun ad ac j hj => z_cell_ni hj) (fun _ hk hw => z_wf_i hk hw) h
theorem zs_putl (C : z_Cx p s mt args meth c own cc nL ini rt) {ip i pl q k : Nat} {lv : zL} {r : List Value} {m : zM} {x : Int64} (hd : decode cc (z_pc cd ip) = .ok (.putfield i, 3)) (hn : z_pc cd (ip + 1) = z_pc cd ip + 3) (hf : z_fld own i pl q = true) (hfin : z_fin own ini q = true) (ht : z_tk k = 0) (hc : z_tn k = q / 4096) (h0 : z_fk (q / 4096) (q / 4 % 1024) = 1) (ty : z_fty q = some .long)
    (h : z_G p l e R s mt args below meth c Q D A sa ad0 n0 nf nL (z_pc cd) (ip + 1) lv r (m.1, m.2.1, m.2.2.1, z_u m.2.2.2 k (q / 4 % 1024) x)) : z_G p l e R s mt args below meth c Q D A sa ad0 n0 nf nL (z_pc cd) ip lv (.long x :: .ref k :: r) m := by
  refine zs_putf (m' := (m.1, m.2.1, m.2.2.1, z_u m.2.2.2 k (q / 4 % 1024) x)) C hd hn hf hfin ht hc ty (fun _ => rfl) (fun _ => rfl) rfl (fun ad _ _ => ?_) (fun ad ac j hj => z_cell_nl hj) (fun _ hk hw => z_wf_l hk hw) h
  refine z_fs_set ?_ (fun j hj => ?_)
  · rw [h0]; show Value.long (z_u m.2.2.2 k (q / 4 % 1024) x k (q / 4 % 1024)) = .long x; rw [z_u_at, if_pos rfl]
  · simp only [z_fv, z_u_at, if_neg hj]
theorem zs_putr (C : z_Cx p s mt args meth c own cc nL ini rt) {ip i pl q k : Nat} {lv : zL} {r : List Value} {m : zM} {x : Nat} (hd : decode cc (z_pc cd ip) = .ok (.putfield i, 3)) (hn : z_pc cd (ip + 1) = z_pc cd ip + 3) (hf : z_fld own i pl q = true) (hfin : z_fin own ini q = true) (ht : z_tk k = 0) (hc : z_tn k = q / 4096) (h0 : z_fk (q / 4096) (q / 4 % 1024) = 2) (ty : z_isR (z_fty q) = true) (hx : x < z_sb)
    (h : z_G p l e R s mt args below meth c Q D A sa ad0 n0 nf nL (z_pc cd) (ip + 1) lv r (m.1, z_u m.2.1 k (q / 4 % 1024) (some x), m.2.2.1, m.2.2.2)) : z_G p l e R s mt args below meth c Q D A sa ad0 n0 nf nL (z_pc cd) ip lv (.ref x :: .ref k :: r) m := by
  have hxl : z_okv m.1 (.ref x) → x < m.1 := fun g => by
    rcases g with g | g
    · exact g
    · omega
  have key : ∀ ad : Nat → Nat, z_okv m.1 (.ref x) → z_wf m → (z_fs ad m k (q / 4096)).set (q / 4 % 1024) (z_tr ad sa (.ref x)) = z_fs ad (m.1, z_u m.2.1 k (q / 4 % 1024) (some x), m.2.2.1, m.2.2.2) k (q / 4096) := by
    intro ad ho hw
    have := hxl ho
    have h3 := hw.2.2
    refine z_fs_set ?_ (fun j hj => ?_)
    · rw [h0, z_tr_ref (by omega)]
      show va_rf ((z_u m.2.1 k (q / 4 % 1024) (some x) k (q / 4 % 1024)).map ad) = .ref (ad x)
      rw [z_u_at, if_pos rfl]; rfl
    · simp only [z_fv, z_u_at, if_neg hj]
  have isr : ∀ t : FieldType, z_isR (some t) = true → (∀ ad : Nat → Nat, narrow t (z_tr ad sa (.ref x)) = z_tr ad sa (.ref x)) ∧ ∀ ad : Nat → Nat, fits t (z_tr ad sa (.ref x)) = true := by
    intro t ht2
    cases t <;> first | exact ⟨fun _ => rfl, fun _ => rfl⟩ | cases ht2
  cases hty : z_fty q with
  | none => rw [hty] at ty; cases ty
  | some t =>
    rw [hty] at ty
    exact zs_putf (m' := (m.1, z_u m.2.1 k (q / 4 % 1024) (some x), m.2.2.1, m.2.2.2)) C hd hn hf hfin ht hc hty (isr t ty).1 (isr t ty).2 rfl key (fun ad ac j hj => z_cell_nr hj) (fun ho hk hw => z_wf_r hk (hxl ho) hw) h
theorem zs_iald (C : z_Cx p s mt args meth c own cc nL ini rt) {ip k : Nat} {lv : zL} {r : List Value} {m : zM} {j : Int32} (hd : decode cc (z_pc cd ip) = .ok (.iaload, 1)) (hn : z_pc cd (ip + 1) = z_pc cd ip + 1) (ht : z_tk k = 1) (hj : ¬ (j < 0 ∨ z_tn k ≤ j.toNatClampNeg)) (h : z_G p l e R s mt args below meth c Q D A sa ad0 n0 nf nL (z_pc cd) (ip + 1) lv (.int (m.2.2.1 k j.toNatClampNeg) :: r) m) : z_G p l e R s mt args below meth c Q D A sa ad0 n0 nf nL (z_pc cd) ip lv (.int j :: .ref k :: r) m := by
  refine ⟨h.1, fun ad ac tys H locs ls hSt hl ho hvv => ?_⟩
  obtain ⟨hK, hP, hD, hS, hty, hw, hn0, had⟩ := id hSt
  have hk : k < m.1 := z_k_lt (ho _ (List.mem_cons_of_mem _ List.mem_cons_self)) (by rw [ht]; decide)
  have h200 : k < 200 := Nat.lt_of_lt_of_le hk hw.2.2
  have h2 := h.2 ad ac tys H locs ls hSt hl (fun w hw2 => by
    rcases List.mem_cons.mp hw2 with rfl | g
    · exact by simp [z_okv]
    · exact ho w (List.mem_cons_of_mem _ (List.mem_cons_of_mem _ g))) hvv
  rw [hn] at h2
  obtain ⟨t0, ht0⟩ := List.mem_iff_getElem?.mp (hty k (.int) hk (by rw [ht]; rfl))
  show W p l e R s mt args below meth c H locs _ _ Q (F0 mt _ ls (.int j :: z_tr ad sa (.ref k) :: r.map (z_tr ad sa)))
  rw [z_tr_ref h200]
  refine va_iald C.1 C.2.1 hK hP k t0 ((z_ws_at hk).trans (by rw [z_cell_a1 ht])) ht0 hj hd ?_
  exact h2
theorem zs_bald (C : z_Cx p s mt args meth c own cc nL ini rt) {ip k : Nat} {lv : zL} {r : List Value} {m : zM} {j : Int32} (hd : decode cc (z_pc cd ip) = .ok (.baload, 1)) (hn : z_pc cd (ip + 1) = z_pc cd ip + 1) (ht : z_tk k = 2) (hj : ¬ (j < 0 ∨ z_tn k ≤ j.toNatClampNeg)) (h : z_G p l e R s mt args below meth c Q D A sa ad0 n0 nf nL (z_pc cd) (ip + 1) lv (.int (m.2.2.1 k j.toNatClampNeg) :: r) m) : z_G p l e R s mt args below meth c Q D A sa ad0 n0 nf nL (z_pc cd) ip lv (.int j :: .ref k :: r) m := by
  refine ⟨h.1, fun ad ac tys H locs ls hSt hl ho hvv => ?_⟩
  obtain ⟨hK, hP, hD, hS, hty, hw, hn0, had⟩ := id hSt
  have hk : k < m.1 := z_k_lt (ho _ (List.mem_cons_of_mem _ List.mem_cons_self)) (by rw [ht]; decide)
  have h200 : k < 200 := Nat.lt_of_lt_of_le hk hw.2.2
  have h2 := h.2 ad ac tys H locs ls hSt hl (fun w hw2 => by
    rcases List.mem_cons.mp hw2 with rfl | g
    · exact by simp [z_okv]
    · exact ho w (List.mem_cons_of_mem _ (List.mem_cons_of_mem _ g))) hvv
  rw [hn] at h2
  obtain ⟨t0, ht0⟩ := List.mem_iff_getElem?.mp (hty k (.byte) hk (by rw [ht]; rfl))
  show W p l e R s mt args below meth c H locs _ _ Q (F0 mt _ ls (.int j :: z_tr ad sa (.ref k) :: r.map (z_tr ad sa)))
  rw [z_tr_ref h200]
  refine va_bald C.1 C.2.1 hK hP k t0 ((z_ws_at hk).trans (by rw [z_cell_a2 ht])) ht0 hj hd ?_
  exact h2
theorem zs_zald (C : z_Cx p s mt args meth c own cc nL ini rt) {ip k : Nat} {lv : zL} {r : List Value} {m : zM} {j : Int32} (hd : decode cc (z_pc cd ip) = .ok (.baload, 1)) (hn : z_pc cd (ip + 1) = z_pc cd ip + 1) (ht : z_tk k = 3) (hj : ¬ (j < 0 ∨ z_tn k ≤ j.toNatClampNeg)) (h : z_G p l e R s mt args below meth c Q D A sa ad0 n0 nf nL (z_pc cd) (ip + 1) lv (.int (m.2.2.1 k j.toNatClampNeg) :: r) m) : z_G p l e R s mt args below meth c Q D A sa ad0 n0 nf nL (z_pc cd) ip lv (.int j :: .ref k :: r) m := by
  refine ⟨h.1, fun ad ac tys H locs ls hSt hl ho hvv => ?_⟩
  obtain ⟨hK, hP, hD, hS, hty, hw, hn0, had⟩ := id hSt
  have hk : k < m.1 := z_k_lt (ho _ (List.mem_cons_of_mem _ List.mem_cons_self)) (by rw [ht]; decide)
  have h200 : k < 200 := Nat.lt_of_lt_of_le hk hw.2.2
  have h2 := h.2 ad ac tys H locs ls hSt hl (fun w hw2 => by
    rcases List.mem_cons.mp hw2 with rfl | g
    · exact by simp [z_okv]
    · exact ho w (List.mem_cons_of_mem _ (List.mem_cons_of_mem _ g))) hvv
  rw [hn] at h2
  obtain ⟨t0, ht0⟩ := List.mem_iff_getElem?.mp (hty k (.boolean) hk (by rw [ht]; rfl))
  show W p l e R s mt args below meth c H locs _ _ Q (F0 mt _ ls (.int j :: z_tr ad sa (.ref k) :: r.map (z_tr ad sa)))
  rw [z_tr_ref h200]
  refine va_zald C.1 C.2.1 hK hP k t0 ((z_ws_at hk).trans (by rw [z_cell_a3 ht])) ht0 hj hd ?_
  exact h2
theorem zs_lald (C : z_Cx p s mt args meth c own cc nL ini rt) {ip k : Nat} {lv : zL} {r : List Value} {m : zM} {j : Int32} (hd : decode cc (z_pc cd ip) = .ok (.laload, 1)) (hn : z_pc cd (ip + 1) = z_pc cd ip + 1) (ht : z_tk k = 4) (hj : ¬ (j < 0 ∨ z_tn k ≤ j.toNatClampNeg)) (h : z_G p l e R s mt args below meth c Q D A sa ad0 n0 nf nL (z_pc cd) (ip + 1) lv (.long (m.2.2.2 k j.toNatClampNeg) :: r) m) : z_G p l e R s mt args below meth c Q D A sa ad0 n0 nf nL (z_pc cd) ip lv (.int j :: .ref k :: r) m := by
  refine ⟨h.1, fun ad ac tys H locs ls hSt hl ho hvv => ?_⟩
  obtain ⟨hK, hP, hD, hS, hty, hw, hn0, had⟩ := id hSt
  have hk : k < m.1 := z_k_lt (ho _ (List.mem_cons_of_mem _ List.mem_cons_self)) (by rw [ht]; decide)
  have h200 : k < 200 := Nat.lt_of_lt_of_le hk hw.2.2
  have h2 := h.2 ad ac tys H locs ls hSt hl (fun w hw2 => by
    rcases List.mem_cons.mp hw2 with rfl | g
    · exact by simp [z_okv]
    · exact ho w (List.mem_cons_of_mem _ (List.mem_cons_of_mem _ g))) hvv
  rw [hn] at h2
  obtain ⟨t0, ht0⟩ := List.mem_iff_getElem?.mp (hty k (.long) hk (by rw [ht]; rfl))
  show W p l e R s mt args below meth c H locs _ _ Q (F0 mt _ ls (.int j :: z_tr ad sa (.ref k) :: r.map (z_tr ad sa)))
  rw [z_tr_ref h200]
  refine va_lald C.1 C.2.1 hK hP k t0 ((z_ws_at hk).trans (by rw [z_cell_a4 ht])) ht0 hj hd ?_
  exact h2
theorem zs_aald (C : z_Cx p s mt args meth c own cc nL ini rt) {ip k : Nat} {lv : zL} {r : List Value} {m : zM} {j : Int32} (hd : decode cc (z_pc cd ip) = .ok (.aaload, 1)) (hn : z_pc cd (ip + 1) = z_pc cd ip + 1) (ht : z_tk k = 5) (hj : ¬ (j < 0 ∨ z_tn k ≤ j.toNatClampNeg)) (h : z_G p l e R s mt args below meth c Q D A sa ad0 n0 nf nL (z_pc cd) (ip + 1) lv (z_rv (m.2.1 k j.toNatClampNeg) :: r) m) : z_G p l e R s mt args below meth c Q D A sa ad0 n0 nf nL (z_pc cd) ip lv (.int j :: .ref k :: r) m := by
  refine ⟨h.1, fun ad ac tys H locs ls hSt hl ho hvv => ?_⟩
  obtain ⟨hK, hP, hD, hS, hty, hw, hn0, had⟩ := id hSt
  have hk : k < m.1 := z_k_lt (ho _ (List.mem_cons_of_mem _ List.mem_cons_self)) (by rw [ht]; decide)
  have h200 : k < 200 := Nat.lt_of_lt_of_le hk hw.2.2
  have h2 := h.2 ad ac tys H locs ls hSt hl (fun w hw2 => by
    rcases List.mem_cons.mp hw2 with rfl | g
    · exact z_ok_rv hw _ _
    · exact ho w (List.mem_cons_of_mem _ (List.mem_cons_of_mem _ g))) hvv
  rw [hn] at h2
  obtain ⟨t0, ht0⟩ := List.mem_iff_getElem?.mp (hty k (.object "LongBoats$Harbour") hk (by rw [ht]; rfl))
  show W p l e R s mt args below meth c H locs _ _ Q (F0 mt _ ls (.int j :: z_tr ad sa (.ref k) :: r.map (z_tr ad sa)))
  rw [z_tr_ref h200]
  refine va_aldq C.1 C.2.1 hK hP k t0 ((z_ws_at hk).trans (by rw [z_cell_a5 ht])) ht0 hj hd ?_
  rw [← z_tr_rv (sa := sa) hw]
  exact h2
theorem zs_iast (C : z_Cx p s mt args meth c own cc nL ini rt) {ip k : Nat} {lv : zL} {r : List Value} {m : zM} {j : Int32} {x : Int32} (hd : decode cc (z_pc cd ip) = .ok (.iastore, 1)) (hn : z_pc cd (ip + 1) = z_pc cd ip + 1) (ht : z_tk k = 1) (hj : ¬ (j < 0 ∨ z_tn k ≤ j.toNatClampNeg)) (h : z_G p l e R s mt args below meth c Q D A sa ad0 n0 nf nL (z_pc cd) (ip + 1) lv r (m.1, m.2.1, z_u m.2.2.1 k j.toNatClampNeg x, m.2.2.2)) : z_G p l e R s mt args below meth c Q D A sa ad0 n0 nf nL (z_pc cd) ip lv (.int x :: .int j :: .ref k :: r) m := by
  refine ⟨h.1, fun ad ac tys H locs ls hSt hl ho hvv => ?_⟩
  obtain ⟨hK, hP, hD, hS, hty, hw, hn0, had⟩ := id hSt
  have hk : k < m.1 := z_k_lt (ho _ (List.mem_cons_of_mem _ (List.mem_cons_of_mem _ List.mem_cons_self))) (by rw [ht]; decide)
  have h200 : k < 200 := Nat.lt_of_lt_of_le hk hw.2.2
  obtain ⟨t0, ht0⟩ := List.mem_iff_getElem?.mp (hty k (.int) hk (by rw [ht]; rfl))
  show W p l e R s mt args below meth c H locs _ _ Q (F0 mt _ ls (.int x :: .int j :: z_tr ad sa (.ref k) :: r.map (z_tr ad sa)))
  rw [z_tr_ref h200]
  refine va_iast C.1 C.2.1 hK hP hD hS k t0 ((z_ws_at hk).trans (by rw [z_cell_a1 ht])) ht0 hj hd (fun H1 locs1 p1 d1 s1 => ?_)
  rw [z_ws_set (ad := ad) (ac := ac) (m := m) (m' := (m.1, m.2.1, z_u m.2.2.1 k j.toNatClampNeg x, m.2.2.2)) rfl ((z_cell_a1 ht).trans (by congr 4; funext b; simp only [z_u_at, upd])) (fun q hq => z_cell_ni hq)] at p1 d1
  have h2 := h.2 ad ac tys H1 locs1 ls ⟨hK, p1, d1, s1, hty, z_wf_i hk hw, hn0, had⟩ hl (fun w g => ho w (List.mem_cons_of_mem _ (List.mem_cons_of_mem _ (List.mem_cons_of_mem _ g)))) hvv
  rw [hn] at h2
  exact h2
theorem zs_bast (C : z_Cx p s mt args meth c own cc nL ini rt) {ip k : Nat} {lv : zL} {r : List Value} {m : zM} {j : Int32} {x : Int32} (hd : decode cc (z_pc cd ip) = .ok (.bastore, 1)) (hn : z_pc cd (ip + 1) = z_pc cd ip + 1) (ht : z_tk k = 2) (hj : ¬ (j < 0 ∨ z_tn k ≤ j.toNatClampNeg)) (h : z_G p l e R s mt args below meth c Q D A sa ad0 n0 nf nL (z_pc cd) (ip + 1) lv r (m.1, m.2.1, z_u m.2.2.1 k j.toNatClampNeg x.toInt8.toInt32, m.2.2.2)) : z_G p l e R s mt args below meth c Q D A sa ad0 n0 nf nL (z_pc cd) ip lv (.int x :: .int j :: .ref k :: r) m := by
  refine ⟨h.1, fun ad ac tys H locs ls hSt hl ho hvv => ?_⟩
  obtain ⟨hK, hP, hD, hS, hty, hw, hn0, had⟩ := id hSt
  have hk : k < m.1 := z_k_lt (ho _ (List.mem_cons_of_mem _ (List.mem_cons_of_mem _ List.mem_cons_self))) (by rw [ht]; decide)
  have h200 : k < 200 := Nat.lt_of_lt_of_le hk hw.2.2
  obtain ⟨t0, ht0⟩ := List.mem_iff_getElem?.mp (hty k (.byte) hk (by rw [ht]; rfl))
  show W p l e R s mt args below meth c H locs _ _ Q (F0 mt _ ls (.int x :: .int j :: z_tr ad sa (.ref k) :: r.map (z_tr ad sa)))
  rw [z_tr_ref h200]
  refine va_bast C.1 C.2.1 hK hP hD hS k t0 ((z_ws_at hk).trans (by rw [z_cell_a2 ht])) ht0 hj hd (fun H1 locs1 p1 d1 s1 => ?_)
  rw [z_ws_set (ad := ad) (ac := ac) (m := m) (m' := (m.1, m.2.1, z_u m.2.2.1 k j.toNatClampNeg x.toInt8.toInt32, m.2.2.2)) rfl ((z_cell_a2 ht).trans (by congr 4; funext b; simp only [z_u_at, upd, vp_nar_byte])) (fun q hq => z_cell_ni hq)] at p1 d1
  have h2 := h.2 ad ac tys H1 locs1 ls ⟨hK, p1, d1, s1, hty, z_wf_i hk hw, hn0, had⟩ hl (fun w g => ho w (List.mem_cons_of_mem _ (List.mem_cons_of_mem _ (List.mem_cons_of_mem _ g)))) hvv
  rw [hn] at h2
  exact h2
theorem zs_zast (C : z_Cx p s mt args meth c own cc nL ini rt) {ip k : Nat} {lv : zL} {r : List Value} {m : zM} {j : Int32} {x : Int32} (hd : decode cc (z_pc cd ip) = .ok (.bastore, 1)) (hn : z_pc cd (ip + 1) = z_pc cd ip + 1) (ht : z_tk k = 3) (hj : ¬ (j < 0 ∨ z_tn k ≤ j.toNatClampNeg)) (h : z_G p l e R s mt args below meth c Q D A sa ad0 n0 nf nL (z_pc cd) (ip + 1) lv r (m.1, m.2.1, z_u m.2.2.1 k j.toNatClampNeg (x &&& 1), m.2.2.2)) : z_G p l e R s mt args below meth c Q D A sa ad0 n0 nf nL (z_pc cd) ip lv (.int x :: .int j :: .ref k :: r) m := by
  refine ⟨h.1, fun ad ac tys H locs ls hSt hl ho hvv => ?_⟩
  obtain ⟨hK, hP, hD, hS, hty, hw, hn0, had⟩ := id hSt
  have hk : k < m.1 := z_k_lt (ho _ (List.mem_cons_of_mem _ (List.mem_cons_of_mem _ List.mem_cons_self))) (by rw [ht]; decide)
  have h200 : k < 200 := Nat.lt_of_lt_of_le hk hw.2.2
  obtain ⟨t0, ht0⟩ := List.mem_iff_getElem?.mp (hty k (.boolean) hk (by rw [ht]; rfl))
  show W p l e R s mt args below meth c H locs _ _ Q (F0 mt _ ls (.int x :: .int j :: z_tr ad sa (.ref k) :: r.map (z_tr ad sa)))
  rw [z_tr_ref h200]
  refine va_zast C.1 C.2.1 hK hP hD hS k t0 ((z_ws_at hk).trans (by rw [z_cell_a3 ht])) ht0 hj hd (fun H1 locs1 p1 d1 s1 => ?_)
  rw [z_ws_set (ad := ad) (ac := ac) (m := m) (m' := (m.1, m.2.1, z_u m.2.2.1 k j.toNatClampNeg (x &&& 1), m.2.2.2)) rfl ((z_cell_a3 ht).trans (by congr 4; funext b; simp only [z_u_at, upd]; rfl)) (fun q hq => z_cell_ni hq)] at p1 d1
  have h2 := h.2 ad ac tys H1 locs1 ls ⟨hK, p1, d1, s1, hty, z_wf_i hk hw, hn0, had⟩ hl (fun w g => ho w (List.mem_cons_of_mem _ (List.mem_cons_of_mem _ (List.mem_cons_of_mem _ g)))) hvv
  rw [hn] at h2
  exact h2
theorem zs_last (C : z_Cx p s mt args meth c own cc nL ini rt) {ip k : Nat} {lv : zL} {r : List Value} {m : zM} {j : Int32} {x : Int64} (hd : decode cc (z_pc cd ip) = .ok (.lastore, 1)) (hn : z_pc cd (ip + 1) = z_pc cd ip + 1) (ht : z_tk k = 4) (hj : ¬ (j < 0 ∨ z_tn k ≤ j.toNatClampNeg)) (h : z_G p l e R s mt args below meth c Q D A sa ad0 n0 nf nL (z_pc cd) (ip + 1) lv r (m.1, m.2.1, m.2.2.1, z_u m.2.2.2 k j.toNatClampNeg x)) : z_G p l e R s mt args below meth c Q D A sa ad0 n0 nf nL (z_pc cd) ip lv (.long x :: .int j :: .ref k :: r) m := by
  refine ⟨h.1, fun ad ac tys H locs ls hSt hl ho hvv => ?_⟩
  obtain ⟨hK, hP, hD, hS, hty, hw, hn0, had⟩ := id hSt
  have hk : k < m.1 := z_k_lt (ho _ (List.mem_cons_of_mem _ (List.mem_cons_of_mem _ List.mem_cons_self))) (by rw [ht]; decide)
  have h200 : k < 200 := Nat.lt_of_lt_of_le hk hw.2.2
  obtain ⟨t0, ht0⟩ := List.mem_iff_getElem?.mp (hty k (.long) hk (by rw [ht]; rfl))
  show W p l e R s mt args below meth c H locs _ _ Q (F0 mt _ ls (.long x :: .int j :: z_tr ad sa (.ref k) :: r.map (z_tr ad sa)))
  rw [z_tr_ref h200]
  refine va_last C.1 C.2.1 hK hP hD hS k t0 ((z_ws_at hk).trans (by rw [z_cell_a4 ht])) ht0 hj hd (fun H1 locs1 p1 d1 s1 => ?_)
  rw [z_ws_set (ad := ad) (ac := ac) (m := m) (m' := (m.1, m.2.1, m.2.2.1, z_u m.2.2.2 k j.toNatClampNeg x)) rfl ((z_cell_a4 ht).trans (by congr 5; funext b; simp only [z_u_at, vp_updL])) (fun q hq => z_cell_nl hq)] at p1 d1
  have h2 := h.2 ad ac tys H1 locs1 ls ⟨hK, p1, d1, s1, hty, z_wf_l hk hw, hn0, had⟩ hl (fun w g => ho w (List.mem_cons_of_mem _ (List.mem_cons_of_mem _ (List.mem_cons_of_mem _ g)))) hvv
  rw [hn] at h2
  exact h2
theorem zs_aast (C : z_Cx p s mt args meth c own cc nL ini rt) {ip k : Nat} {lv : zL} {r : List Value} {m : zM} {j : Int32} {x : Nat} (hd : decode cc (z_pc cd ip) = .ok (.aastore, 1)) (hn : z_pc cd (ip + 1) = z_pc cd ip + 1) (ht : z_tk k = 5) (hx0 : z_tk x = 0) (hx1 : z_tn x = z_hc) (hj : ¬ (j < 0 ∨ z_tn k ≤ j.toNatClampNeg)) (h : z_G p l e R s mt args below meth c Q D A sa ad0 n0 nf nL (z_pc cd) (ip + 1) lv r (m.1, z_u m.2.1 k j.toNatClampNeg (some x), m.2.2.1, m.2.2.2)) : z_G p l e R s mt args below meth c Q D A sa ad0 n0 nf nL (z_pc cd) ip lv (.ref x :: .int j :: .ref k :: r) m := by
  refine ⟨h.1, fun ad ac tys H locs ls hSt hl ho hvv => ?_⟩
  obtain ⟨hK, hP, hD, hS, hty, hw, hn0, had⟩ := id hSt
  have hk : k < m.1 := z_k_lt (ho _ (List.mem_cons_of_mem _ (List.mem_cons_of_mem _ List.mem_cons_self))) (by rw [ht]; decide)
  have hx : x < m.1 := z_k_lt (ho _ List.mem_cons_self) (by rw [hx0]; decide)
  have h200 : k < 200 := Nat.lt_of_lt_of_le hk hw.2.2
  have hx200 : x < 200 := Nat.lt_of_lt_of_le hx hw.2.2
  obtain ⟨t0, ht0⟩ := List.mem_iff_getElem?.mp (hty k (.object "LongBoats$Harbour") hk (by rw [ht]; rfl))
  show W p l e R s mt args below meth c H locs _ _ Q (F0 mt _ ls (z_tr ad sa (.ref x) :: .int j :: z_tr ad sa (.ref k) :: r.map (z_tr ad sa)))
  rw [z_tr_ref h200, z_tr_ref hx200]
  refine va_astq C.1 C.2.1 hK hP hD hS k t0 x z_hc ((z_ws_at hk).trans (by rw [z_cell_a5 ht])) ht0 ((z_ws_at hx).trans (by rw [z_cell_o hx0 hx1])) (by rfl) hj hd (fun H1 locs1 p1 d1 s1 => ?_)
  rw [z_ws_set (ad := ad) (ac := ac) (m := m) (m' := (m.1, z_u m.2.1 k j.toNatClampNeg (some x), m.2.2.1, m.2.2.2)) rfl ((z_cell_a5 ht).trans (by congr 8; funext b; simp only [z_u_at, va_up]; split <;> rfl)) (fun q hq => z_cell_nr hq)] at p1 d1
  have h2 := h.2 ad ac tys H1 locs1 ls ⟨hK, p1, d1, s1, hty, z_wf_r hk hx hw, hn0, had⟩ hl (fun w g => ho w (List.mem_cons_of_mem _ (List.mem_cons_of_mem _ (List.mem_cons_of_mem _ g)))) hvv
  rw [hn] at h2
  exact h2
theorem zs_alen (C : z_Cx p s mt args meth c own cc nL ini rt) {ip k : Nat} {lv : zL} {r : List Value} {m : zM} (hd : decode cc (z_pc cd ip) = .ok (.arraylength, 1)) (hn : z_pc cd (ip + 1) = z_pc cd ip + 1) (ht : 0 < z_tk k ∧ z_tk k < 6) (h : z_G p l e R s mt args below meth c Q D A sa ad0 n0 nf nL (z_pc cd) (ip + 1) lv (.int (Int32.ofNat (z_tn k)) :: r) m) : z_G p l e R s mt args below meth c Q D A sa ad0 n0 nf nL (z_pc cd) ip lv (.ref k :: r) m := by
  refine ⟨h.1, fun ad ac tys H locs ls hSt hl ho hvv => ?_⟩
  obtain ⟨hK, hP, hD, hS, hty, hw, hn0, had⟩ := id hSt
  have hk : k < m.1 := z_k_lt (ho _ List.mem_cons_self) (by omega)
  have h200 : k < 200 := Nat.lt_of_lt_of_le hk hw.2.2
  have h2 := h.2 ad ac tys H locs ls hSt hl (fun w hw2 => by
    rcases List.mem_cons.mp hw2 with rfl | g
    · simp [z_okv]
    · exact ho w (List.mem_cons_of_mem _ g)) hvv
  rw [hn] at h2
  show W p l e R s mt args below meth c H locs _ _ Q (F0 mt _ ls (z_tr ad sa (.ref k) :: r.map (z_tr ad sa)))
  rw [z_tr_ref h200]
  obtain ⟨t1, t2⟩ := ht
  have hcs : z_tk k = 1 ∨ z_tk k = 2 ∨ z_tk k = 3 ∨ z_tk k = 4 ∨ z_tk k = 5 := by omega
  rcases hcs with g | g | g | g | g
  · obtain ⟨t0, ht0⟩ := List.mem_iff_getElem?.mp (hty k .int hk (by rw [g]; rfl))
    exact va_alen (x := (z_tn k, .inl (m.2.2.1 k))) C.1 C.2.1 hK hP k t0 ((z_ws_at hk).trans (by rw [z_cell_a1 g])) ht0 rfl hd h2
  · obtain ⟨t0, ht0⟩ := List.mem_iff_getElem?.mp (hty k .byte hk (by rw [g]; rfl))
    exact va_alen (x := (z_tn k, .inl (m.2.2.1 k))) C.1 C.2.1 hK hP k t0 ((z_ws_at hk).trans (by rw [z_cell_a2 g])) ht0 rfl hd h2
  · obtain ⟨t0, ht0⟩ := List.mem_iff_getElem?.mp (hty k .boolean hk (by rw [g]; rfl))
    exact va_alen (x := (z_tn k, .inl (m.2.2.1 k))) C.1 C.2.1 hK hP k t0 ((z_ws_at hk).trans (by rw [z_cell_a3 g])) ht0 rfl hd h2
  · obtain ⟨t0, ht0⟩ := List.mem_iff_getElem?.mp (hty k .long hk (by rw [g]; rfl))
    exact va_alen (x := (z_tn k, .inr (.inl (m.2.2.2 k)))) C.1 C.2.1 hK hP k t0 ((z_ws_at hk).trans (by rw [z_cell_a4 g])) ht0 rfl hd h2
  · obtain ⟨t0, ht0⟩ := List.mem_iff_getElem?.mp (hty k (.object "LongBoats$Harbour") hk (by rw [g]; rfl))
    exact va_alen (x := (z_tn k, .inr (.inr (.inr (.inr (fun j => (m.2.1 k j).map ad)))))) C.1 C.2.1 hK hP k t0 ((z_ws_at hk).trans (by rw [z_cell_a5 g])) ht0 rfl hd h2
end ZS
