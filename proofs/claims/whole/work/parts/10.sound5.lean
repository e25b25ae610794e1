/-! new cells, Object's constructor, the script, Math, strings' places, returns -/
theorem z_sl_succ (n : Nat) : z_sl (n + 1) = z_sl n + z_sz n := rfl
theorem z_sl_mono {a b : Nat} (h : a ≤ b) : z_sl a ≤ z_sl b := by
  induction b with
  | zero => have : a = 0 := by omega
            subst this; exact Nat.le_refl _
  | succ b ih =>
    rcases Nat.lt_or_ge a (b + 1) with g | g
    · exact Nat.le_trans (ih (by omega)) (by rw [z_sl_succ]; exact Nat.le_add_right _ _)
    · have : a = b + 1 := by omega
      subst this; exact Nat.le_refl _
def z_Rm (R : Room) (n0 nf : Nat) : Prop := nf - n0 ≤ R.cells ∧ z_sl nf - z_sl n0 ≤ R.slots ∧ 8 ≤ R.frames ∧ 400 ≤ R.locals
def z_ad (ad : Nat → Nat) (n q : Nat) : Nat → Nat := fun k => if k = n then q else ad k
def z_ac (ac : Nat → ClassId) (n : Nat) (cA : ClassId) : Nat → ClassId := fun k => if k = n then cA else ac k
theorem z_ad_lt {ad : Nat → Nat} {n q k : Nat} (h : k < n) : z_ad ad n q k = ad k := by
  have : k ≠ n := by omega
  simp [z_ad, this]
theorem z_map_lt {ad : Nat → Nat} {n q : Nat} {r : Option Nat} (h : ∀ j, r = some j → j < n) : r.map (z_ad ad n q) = r.map ad := by
  cases r with
  | none => rfl
  | some j => simp [z_ad_lt (h j rfl)]
theorem z_cell_new {ad : Nat → Nat} {ac : Nat → ClassId} {m : zM} {k q : Nat} {cA : ClassId} (hw : z_wf m) (hk : k < m.1) : z_cell (z_ad ad m.1 q) (z_ac ac m.1 cA) (m.1 + 1, m.2) k = z_cell ad ac m k := by
  have hne : k ≠ m.1 := by omega
  have e1 : ∀ f, (m.2.1 k f).map (z_ad ad m.1 q) = (m.2.1 k f).map ad := fun f => z_map_lt (fun j hj => hw.1 k f j hj)
  simp only [z_cell, z_fs, z_fv, e1, z_ac, if_neg hne]
theorem z_ws_new {ad : Nat → Nat} {ac : Nat → ClassId} {m : zM} {q : Nat} {cA : ClassId} {ce : va_E} (hw : z_wf m) (hc : z_cell (z_ad ad m.1 q) (z_ac ac m.1 cA) (m.1 + 1, m.2) m.1 = ce) : z_ws ad ac m ++ [(q, ce)] = z_ws (z_ad ad m.1 q) (z_ac ac m.1 cA) (m.1 + 1, m.2) := by
  have h1 : z_ws (z_ad ad m.1 q) (z_ac ac m.1 cA) (m.1 + 1, m.2) = (List.range (m.1 + 1)).map (fun k => (z_ad ad m.1 q k, z_cell (z_ad ad m.1 q) (z_ac ac m.1 cA) (m.1 + 1, m.2) k)) := rfl
  rw [h1, List.range_succ, List.map_append]
  congr 1
  · apply List.map_congr_left
    intro k hk
    have := List.mem_range.mp hk
    rw [z_ad_lt this, z_cell_new hw this]
  · simp [z_ad, hc]
theorem z_wf_new {m : zM} (hw : z_wf m) (h : m.1 < 200) : z_wf (m.1 + 1, m.2) :=
  ⟨fun k f j hj => Nat.lt_succ_of_lt (hw.1 k f j hj), fun k hk f => hw.2.1 k (by have : m.1 + 1 ≤ k := hk; omega) f, h⟩
theorem z_tr_new {ad sa : Nat → Nat} {n q : Nat} {v : Value} (hn : n < 200) (h : z_okv n v) : z_tr (z_ad ad n q) sa v = z_tr ad sa v := by
  cases v with
  | ref k =>
    have h2 : z_sb = 1000000 := rfl
    simp only [z_tr]
    rcases h with h | h
    · rw [z_ad_lt h]
    · rw [if_neg (Nat.not_lt.mpr h.1), if_neg (Nat.not_lt.mpr h.1)]
  | _ => rfl
theorem z_okv_mono {a b : Nat} (h : a ≤ b) {v : Value} (hv : z_okv a v) : z_okv b v := by
  cases v with
  | ref k =>
    rcases hv with g | g
    · exact Or.inl (Nat.lt_of_lt_of_le g h)
    · exact Or.inr g
  | _ => trivial
section ZS

variable {p : Program} {l : Launch} {e : Env} {R : Room} {s : State} {mt : MethodId} {args : Array Value} {below : List Frame} {meth : Method} {c : Code} {Q : State → Prop} {D : va_G} {A : Nat → Prop} {sa sv ad0 : Nat → Nat} {n0 nf nL : Nat} {cd : List zI} {own : String} {cc : ByteArray} {ini : Bool} {rt : Option FieldType}

theorem zs_pushed (C : z_Cx p s mt args meth c own cc nL ini rt) {ip : Nat} {lv : zL} {r : List Value} {m : zM} (h : z_G p l e R s mt args below meth c Q D A sa ad0 n0 nf nL (z_pc cd) (ip + 1) lv (.ref m.1 :: r) (m.1 + 1, m.2)) (hm : m.1 < 200) {ad : Nat → Nat} {ac : Nat → ClassId} {tys tys' : List (ClassId × FieldType)} {H H1 : Heap} {locs : List Loc} {ls : Array Slot} {q : Nat} {cA : ClassId} {ce : va_E} (hSt : z_St D A s ad0 n0 m ad ac tys H locs) (hl : z_lv ad sa nL ls lv) (ho : ∀ v ∈ r, z_okv m.1 v) (hvv : ∀ k v, z_at lv k = some v → z_okv m.1 v)
    (hc : z_cell (z_ad ad m.1 q) (z_ac ac m.1 cA) (m.1 + 1, m.2) m.1 = ce) (hK : va_K D zC tys' s) (hP : va_P D zC (z_ws ad ac m ++ [(q, ce)]) H1) (hD : va_D A (z_ws ad ac m ++ [(q, ce)])) (hS : va_S A s.heap H1 locs) (hsub : ∀ x ∈ tys, x ∈ tys') (hnew : ∀ ty, z_aty (z_tk m.1) = some ty → (cA, ty) ∈ tys') {sz : Nat} (hsz : z_sz m.1 = sz) :
    W p l e R s mt args below meth c H1 locs (m.1 - n0 + 1) (z_sl m.1 - z_sl n0 + sz) Q (F0 mt (z_pc cd (ip + 1)) ls (.ref q :: r.map (z_tr ad sa))) := by
  obtain ⟨-, -, -, -, hty, hw, hn0, had⟩ := hSt
  rw [z_ws_new hw hc] at hP hD
  have e1 : m.1 - n0 + 1 = m.1 + 1 - n0 := by omega
  have e2 : z_sl m.1 - z_sl n0 + sz = z_sl (m.1 + 1) - z_sl n0 := by
    have := z_sl_mono hn0
    rw [z_sl_succ, hsz]
    omega
  have e3 : r.map (z_tr (z_ad ad m.1 q) sa) = r.map (z_tr ad sa) := List.map_congr_left (fun v hv => z_tr_new hm (ho v hv))
  have h2 := h.2 (z_ad ad m.1 q) (z_ac ac m.1 cA) tys' H1 locs ls ⟨hK, hP, hD, hS, fun k ty hk h9 => ?_, z_wf_new hw hm, (by show n0 ≤ m.1 + 1; omega), fun k hk => (z_ad_lt (by omega)).trans (had k hk)⟩ ⟨hl.1, hl.2.1, hl.2.2.1, fun k v hk => by rw [z_tr_new hm (hvv k v hk)]; exact hl.2.2.2 k v hk⟩ (fun v hv => ?_) (fun k v hk => z_okv_mono (Nat.le_succ _) (hvv k v hk))
  · have e4 : z_tr (z_ad ad m.1 q) sa (.ref m.1) = .ref q := by rw [z_tr_ref hm]; simp [z_ad]
    rw [List.map_cons, e3, e4] at h2
    rw [e1, e2]
    exact h2
  · by_cases hkm : k = m.1
    · subst hkm
      simp only [z_ac, if_pos rfl]
      exact hnew ty h9
    · have hk2 : k < m.1 + 1 := hk
      simp only [z_ac, if_neg hkm]
      exact hsub _ (hty k ty (by omega) h9)
  · rcases List.mem_cons.mp hv with rfl | g
    · exact Or.inl (Nat.lt_succ_self _)
    · exact z_okv_mono (Nat.le_succ _) (ho v g)
theorem zs_new (C : z_Cx p s mt args meth c own cc nL ini rt) (hR : z_Rm R n0 nf) (hA : ∀ q, s.heap.size ≤ q → A q) {ip i pl ci : Nat} {cr : vw_C} {lv : zL} {r : List Value} {m : zM} (hd : decode cc (z_pc cd ip) = .ok (.new i, 3)) (hn : z_pc cd (ip + 1) = z_pc cd ip + 3) (hcr : zC[ci]? = some cr) (hlk : Cond.classLink own i cr.1 ∈ z_tb) (ht : z_tk m.1 = 0) (hc : z_tn m.1 = ci)
    (h : z_G p l e R s mt args below meth c Q D A sa ad0 n0 nf nL (z_pc cd) (ip + 1) lv (.ref m.1 :: r) (m.1 + 1, m.2)) : z_G p l e R s mt args below meth c Q D A sa ad0 n0 nf nL (z_pc cd) ip lv r m := by
  have hle : m.1 + 1 ≤ nf := h.1
  refine ⟨by omega, fun ad ac tys H locs ls hSt hl ho hvv => ?_⟩
  obtain ⟨hK, hP, hD, hS, hty, hw, hn0, had⟩ := id hSt
  have hm : m.1 < 200 := z_tk_lt (by rw [ht]; decide)
  obtain ⟨c1, ⟨ty0, c2, c3⟩, c4, c5, c6, c7⟩ := z_ck _ _ hcr
  have hsz : z_sz m.1 = cr.2.2 := by simp only [z_sz, ht, hc, c7]
  have hs1 := z_sl_mono hle
  rw [z_sl_succ, hsz] at hs1
  have hs2 := z_sl_mono hn0
  obtain ⟨r1, r2, r3, r4⟩ := hR
  refine va_new (D := D) (ci := ci) (C := cr.1) (T := cr.2.1) (N := cr.2.2) (fs := z_fs ad m m.1 ci) C.1 C.2.1 C.2.2.2.2.2.1 c1 ty0 c2 C.2.2.2.2.1 (C.2.2.2.2.2.1 _ hlk) (C.2.2.2.2.2.1 _ c5) (C.2.2.2.2.2.1 _ c6) hK hP hD hS hA hcr (fun j hj => ?_) (by omega) (by omega) hd (fun q H1 p1 d1 s1 => ?_)
  · have hb := hw.2.1 m.1 (Nat.le_refl _) j
    have hkt := c3 j hj
    have hj2 : j < z_nf ci := by rw [← c7]; exact hj
    show defaultValue (ty0 j) = (z_fs ad m m.1 ci).getD j .null
    rw [List.getD_eq_getElem?_getD, z_fs_at hj2]
    show defaultValue (ty0 j) = z_fv ad m m.1 (z_fk ci j) j
    generalize z_fk ci j = kd at hkt ⊢
    generalize ty0 j = ty at hkt ⊢
    match kd, ty, hkt with
    | 0, .int, _ => simp only [z_fv, hb.2.1]; rfl
    | 1, .long, _ => simp only [z_fv, hb.2.2]; rfl
    | 2, .object _, _ => simp only [z_fv, hb.1]; rfl
    | 2, .array _, _ => simp only [z_fv, hb.1]; rfl
    | 3, .boolean, _ => simp only [z_fv, hb.2.1]; rfl
  · rw [← hn]
    refine zs_pushed (cA := ac 0) C h hm hSt hl ho hvv (by rw [z_cell_o ht hc]) hK (ce := .inr (ci, z_fs (z_ad ad m.1 q) (m.1 + 1, m.2) m.1 ci)) ?_ ?_ s1 (fun x hx => hx) (fun ty h9 => by rw [ht] at h9; cases h9) hsz
    all_goals
      have e : z_fs (z_ad ad m.1 q) (m.1 + 1, m.2) m.1 ci = z_fs ad m m.1 ci := by
        simp only [z_fs, z_fv, (fun f => (hw.2.1 m.1 (Nat.le_refl _) f).1)]
        rfl
      rw [e]
      assumption
theorem z_w_arr_int : Cond.arrayClass (newarray.typeOf .int) ∈ z_tb := z_word (q := 160) (by decide +kernel)
theorem zs_newa_int (C : z_Cx p s mt args meth c own cc nL ini rt) (hR : z_Rm R n0 nf) (hA : ∀ q, s.heap.size ≤ q → A q) {ip : Nat} {lv : zL} {r : List Value} {m : zM} (hd : decode cc (z_pc cd ip) = .ok (.newarray .int, 2)) (hn : z_pc cd (ip + 1) = z_pc cd ip + 2) (ht : z_tk m.1 = 1) (hlen : z_tn m.1 ≤ 2000)
    (h : z_G p l e R s mt args below meth c Q D A sa ad0 n0 nf nL (z_pc cd) (ip + 1) lv (.ref m.1 :: r) (m.1 + 1, m.2)) : z_G p l e R s mt args below meth c Q D A sa ad0 n0 nf nL (z_pc cd) ip lv (.int (Int32.ofNat (z_tn m.1)) :: r) m := by
  have hle : m.1 + 1 ≤ nf := h.1
  refine ⟨by omega, fun ad ac tys H locs ls hSt hl ho hvv => ?_⟩
  obtain ⟨hK, hP, hD, hS, hty, hw, hn0, had⟩ := id hSt
  have hm : m.1 < 200 := z_tk_lt (by rw [ht]; decide)
  have hsz : z_sz m.1 = z_tn m.1 := by simp only [z_sz, ht]
  have hs1 := z_sl_mono hle
  rw [z_sl_succ, hsz] at hs1
  have hs2 := z_sl_mono hn0
  obtain ⟨r1, r2, r3, r4⟩ := hR
  have hl31 : z_tn m.1 < 2 ^ 31 := by omega
  refine va_newa (atype := .int) (ty := .int) (D := D) (N' := z_tn m.1) (a0 := (z_tn m.1, .inl (m.2.2.1 m.1))) C.1 C.2.1 (C.2.2.2.2.2.1 _ z_w_arr_int) rfl hK hP hD hS hA (fun cA => ?_) (nI_pos hl31) (nI_clamp hl31) (by simp only [componentBytes]; omega) (by omega) (by omega) hd (fun q cA H1 k1 p1 d1 s1 => ?_)
  · rw [vp_cell_i]
    congr 1
    funext j
    rw [(hw.2.1 m.1 (Nat.le_refl _) j).2.1]
    rfl
  · rw [← hn]
    exact zs_pushed (cA := cA) C h hm hSt hl (fun v hv => ho v (List.mem_cons_of_mem _ hv)) hvv (by rw [z_cell_a1 ht]; simp [z_ac]) k1 p1 d1 s1 (fun x hx => List.mem_append_left _ hx) (fun ty h9 => by rw [ht] at h9; cases h9; exact List.mem_append_right _ List.mem_cons_self) hsz
theorem z_w_arr_byte : Cond.arrayClass (newarray.typeOf .byte) ∈ z_tb := z_word (q := 143) (by decide +kernel)
theorem zs_newa_byte (C : z_Cx p s mt args meth c own cc nL ini rt) (hR : z_Rm R n0 nf) (hA : ∀ q, s.heap.size ≤ q → A q) {ip : Nat} {lv : zL} {r : List Value} {m : zM} (hd : decode cc (z_pc cd ip) = .ok (.newarray .byte, 2)) (hn : z_pc cd (ip + 1) = z_pc cd ip + 2) (ht : z_tk m.1 = 2) (hlen : z_tn m.1 ≤ 2000)
    (h : z_G p l e R s mt args below meth c Q D A sa ad0 n0 nf nL (z_pc cd) (ip + 1) lv (.ref m.1 :: r) (m.1 + 1, m.2)) : z_G p l e R s mt args below meth c Q D A sa ad0 n0 nf nL (z_pc cd) ip lv (.int (Int32.ofNat (z_tn m.1)) :: r) m := by
  have hle : m.1 + 1 ≤ nf := h.1
  refine ⟨by omega, fun ad ac tys H locs ls hSt hl ho hvv => ?_⟩
  obtain ⟨hK, hP, hD, hS, hty, hw, hn0, had⟩ := id hSt
  have hm : m.1 < 200 := z_tk_lt (by rw [ht]; decide)
  have hsz : z_sz m.1 = z_tn m.1 := by simp only [z_sz, ht]
  have hs1 := z_sl_mono hle
  rw [z_sl_succ, hsz] at hs1
  have hs2 := z_sl_mono hn0
  obtain ⟨r1, r2, r3, r4⟩ := hR
  have hl31 : z_tn m.1 < 2 ^ 31 := by omega
  refine va_newa (atype := .byte) (ty := .byte) (D := D) (N' := z_tn m.1) (a0 := (z_tn m.1, .inl (m.2.2.1 m.1))) C.1 C.2.1 (C.2.2.2.2.2.1 _ z_w_arr_byte) rfl hK hP hD hS hA (fun cA => ?_) (nI_pos hl31) (nI_clamp hl31) (by simp only [componentBytes]; omega) (by omega) (by omega) hd (fun q cA H1 k1 p1 d1 s1 => ?_)
  · rw [vp_cell_i]
    congr 1
    funext j
    rw [(hw.2.1 m.1 (Nat.le_refl _) j).2.1]
    rfl
  · rw [← hn]
    exact zs_pushed (cA := cA) C h hm hSt hl (fun v hv => ho v (List.mem_cons_of_mem _ hv)) hvv (by rw [z_cell_a2 ht]; simp [z_ac]) k1 p1 d1 s1 (fun x hx => List.mem_append_left _ hx) (fun ty h9 => by rw [ht] at h9; cases h9; exact List.mem_append_right _ List.mem_cons_self) hsz
theorem z_w_arr_boolean : Cond.arrayClass (newarray.typeOf .boolean) ∈ z_tb := z_word (q := 1472) (by decide +kernel)
theorem zs_newa_boolean (C : z_Cx p s mt args meth c own cc nL ini rt) (hR : z_Rm R n0 nf) (hA : ∀ q, s.heap.size ≤ q → A q) {ip : Nat} {lv : zL} {r : List Value} {m : zM} (hd : decode cc (z_pc cd ip) = .ok (.newarray .boolean, 2)) (hn : z_pc cd (ip + 1) = z_pc cd ip + 2) (ht : z_tk m.1 = 3) (hlen : z_tn m.1 ≤ 2000)
    (h : z_G p l e R s mt args below meth c Q D A sa ad0 n0 nf nL (z_pc cd) (ip + 1) lv (.ref m.1 :: r) (m.1 + 1, m.2)) : z_G p l e R s mt args below meth c Q D A sa ad0 n0 nf nL (z_pc cd) ip lv (.int (Int32.ofNat (z_tn m.1)) :: r) m := by
  have hle : m.1 + 1 ≤ nf := h.1
  refine ⟨by omega, fun ad ac tys H locs ls hSt hl ho hvv => ?_⟩
  obtain ⟨hK, hP, hD, hS, hty, hw, hn0, had⟩ := id hSt
  have hm : m.1 < 200 := z_tk_lt (by rw [ht]; decide)
  have hsz : z_sz m.1 = z_tn m.1 := by simp only [z_sz, ht]
  have hs1 := z_sl_mono hle
  rw [z_sl_succ, hsz] at hs1
  have hs2 := z_sl_mono hn0
  obtain ⟨r1, r2, r3, r4⟩ := hR
  have hl31 : z_tn m.1 < 2 ^ 31 := by omega
  refine va_newa (atype := .boolean) (ty := .boolean) (D := D) (N' := z_tn m.1) (a0 := (z_tn m.1, .inl (m.2.2.1 m.1))) C.1 C.2.1 (C.2.2.2.2.2.1 _ z_w_arr_boolean) rfl hK hP hD hS hA (fun cA => ?_) (nI_pos hl31) (nI_clamp hl31) (by simp only [componentBytes]; omega) (by omega) (by omega) hd (fun q cA H1 k1 p1 d1 s1 => ?_)
  · rw [vp_cell_i]
    congr 1
    funext j
    rw [(hw.2.1 m.1 (Nat.le_refl _) j).2.1]
    rfl
  · rw [← hn]
    exact zs_pushed (cA := cA) C h hm hSt hl (fun v hv => ho v (List.mem_cons_of_mem _ hv)) hvv (by rw [z_cell_a3 ht]; simp [z_ac]) k1 p1 d1 s1 (fun x hx => List.mem_append_left _ hx) (fun ty h9 => by rw [ht] at h9; cases h9; exact List.mem_append_right _ List.mem_cons_self) hsz
theorem z_w_arr_long : Cond.arrayClass (newarray.typeOf .long) ∈ z_tb := z_word (q := 281) (by decide +kernel)
theorem zs_newa_long (C : z_Cx p s mt args meth c own cc nL ini rt) (hR : z_Rm R n0 nf) (hA : ∀ q, s.heap.size ≤ q → A q) {ip : Nat} {lv : zL} {r : List Value} {m : zM} (hd : decode cc (z_pc cd ip) = .ok (.newarray .long, 2)) (hn : z_pc cd (ip + 1) = z_pc cd ip + 2) (ht : z_tk m.1 = 4) (hlen : z_tn m.1 ≤ 2000)
    (h : z_G p l e R s mt args below meth c Q D A sa ad0 n0 nf nL (z_pc cd) (ip + 1) lv (.ref m.1 :: r) (m.1 + 1, m.2)) : z_G p l e R s mt args below meth c Q D A sa ad0 n0 nf nL (z_pc cd) ip lv (.int (Int32.ofNat (z_tn m.1)) :: r) m := by
  have hle : m.1 + 1 ≤ nf := h.1
  refine ⟨by omega, fun ad ac tys H locs ls hSt hl ho hvv => ?_⟩
  obtain ⟨hK, hP, hD, hS, hty, hw, hn0, had⟩ := id hSt
  have hm : m.1 < 200 := z_tk_lt (by rw [ht]; decide)
  have hsz : z_sz m.1 = z_tn m.1 := by simp only [z_sz, ht]
  have hs1 := z_sl_mono hle
  rw [z_sl_succ, hsz] at hs1
  have hs2 := z_sl_mono hn0
  obtain ⟨r1, r2, r3, r4⟩ := hR
  have hl31 : z_tn m.1 < 2 ^ 31 := by omega
  refine va_newa (atype := .long) (ty := .long) (D := D) (N' := z_tn m.1) (a0 := (z_tn m.1, .inr (.inl (m.2.2.2 m.1)))) C.1 C.2.1 (C.2.2.2.2.2.1 _ z_w_arr_long) rfl hK hP hD hS hA (fun cA => ?_) (nI_pos hl31) (nI_clamp hl31) (by simp only [componentBytes]; omega) (by omega) (by omega) hd (fun q cA H1 k1 p1 d1 s1 => ?_)
  · rw [vp_cell_l]
    congr 1
    funext j
    rw [(hw.2.1 m.1 (Nat.le_refl _) j).2.2]
    rfl
  · rw [← hn]
    exact zs_pushed (cA := cA) C h hm hSt hl (fun v hv => ho v (List.mem_cons_of_mem _ hv)) hvv (by rw [z_cell_a4 ht]; simp [z_ac]) k1 p1 d1 s1 (fun x hx => List.mem_append_left _ hx) (fun ty h9 => by rw [ht] at h9; cases h9; exact List.mem_append_right _ List.mem_cons_self) hsz
theorem zs_anewa (C : z_Cx p s mt args meth c own cc nL ini rt) (hover : va_AO "LongBoats$Harbour" s) (hR : z_Rm R n0 nf) (hA : ∀ q, s.heap.size ≤ q → A q) {ip i : Nat} {lv : zL} {r : List Value} {m : zM} (hd : decode cc (z_pc cd ip) = .ok (.anewarray i, 3)) (hn : z_pc cd (ip + 1) = z_pc cd ip + 3) (hlk : Cond.classLink own i "LongBoats$Harbour" ∈ z_tb) (ht : z_tk m.1 = 5) (hlen : z_tn m.1 ≤ 2000)
    (h : z_G p l e R s mt args below meth c Q D A sa ad0 n0 nf nL (z_pc cd) (ip + 1) lv (.ref m.1 :: r) (m.1 + 1, m.2)) : z_G p l e R s mt args below meth c Q D A sa ad0 n0 nf nL (z_pc cd) ip lv (.int (Int32.ofNat (z_tn m.1)) :: r) m := by
  have hle : m.1 + 1 ≤ nf := h.1
  refine ⟨by omega, fun ad ac tys H locs ls hSt hl ho hvv => ?_⟩
  obtain ⟨hK, hP, hD, hS, hty, hw, hn0, had⟩ := id hSt
  have hm : m.1 < 200 := z_tk_lt (by rw [ht]; decide)
  have hsz : z_sz m.1 = z_tn m.1 := by simp only [z_sz, ht]
  have hs1 := z_sl_mono hle
  rw [z_sl_succ, hsz] at hs1
  have hs2 := z_sl_mono hn0
  obtain ⟨r1, r2, r3, r4⟩ := hR
  have hl31 : z_tn m.1 < 2 ^ 31 := by omega
  refine va_newq (C := "LongBoats$Harbour") (D := D) (N' := z_tn m.1) C.1 C.2.1 C.2.2.2.2.1 (C.2.2.2.2.2.1 _ hlk) hover hK hP hD hS hA (nI_pos hl31) (nI_clamp hl31) (by omega) (by omega) (by omega) hd (fun q cA H1 k1 p1 d1 s1 => ?_)
  rw [← hn]
  exact zs_pushed (cA := cA) C h hm hSt hl (fun v hv => ho v (List.mem_cons_of_mem _ hv)) hvv (by rw [z_cell_a5 ht]; simp [z_ac, (fun f => (hw.2.1 m.1 (Nat.le_refl _) f).1)]) k1 p1 d1 s1 (fun x hx => List.mem_append_left _ hx) (fun ty h9 => by rw [ht] at h9; cases h9; exact List.mem_append_right _ List.mem_cons_self) hsz
end ZS
