/-! CALLS: a method's contract out of the pure machine, and its use -/
def z_ws0 (k : Nat) : List Cond := .code (z_y k) (z_by k) (z_ml k) (z_rty k) :: z_tb
def z_rm (d mc ms : Nat) : Room := { frames := d + 8, cells := mc, slots := ms, locals := 60 * d + 400 }
def z_Pc (D : va_G) (sa sv ad : Nat → Nat) (ac : Nat → ClassId) (tys : List (ClassId × FieldType)) (m : zM) (as : List Value) (sz : Nat) : Array Value → State → Prop := va_Pc (as.map (z_tr ad sa)) (fun U => U.heap.size = sz ∧ va_P D zC (z_ws ad ac m) U.heap ∧ va_K D zC tys U ∧ va_D (fun _ => True) (z_ws ad ac m) ∧ (∀ k ty, k < m.1 → z_aty (z_tk k) = some ty → (ac k, ty) ∈ tys) ∧ z_wf m ∧ (∀ v ∈ as, z_okv m.1 v) ∧ z_En sa sv (va_A (z_ws ad ac m) sz) U U.heap)
def z_B (D : va_G) (ad : Nat → Nat) (n0 : Nat) (m' : zM) (A : Nat → Prop) : Unit → State → Prop := fun _ t => ∃ (ad' : Nat → Nat) (ac' : Nat → ClassId) (tys' : List (ClassId × FieldType)), va_K D zC tys' t ∧ va_P D zC (z_ws ad' ac' m') t.heap ∧ va_D A (z_ws ad' ac' m') ∧ (∀ k ty, k < m'.1 → z_aty (z_tk k) = some ty → (ac' k, ty) ∈ tys') ∧ z_wf m' ∧ ∀ k, k < n0 → ad' k = ad k
def z_Qc (D : va_G) (ad : Nat → Nat) (n0 : Nat) (v : Option Value) (m' : zM) (A : Nat → Prop) : Array Value → State → Outcome → State → Prop := match v with
  | some (.int x) => va_Qi (fun r (_ : Unit) => r = x) (z_B D ad n0 m' A) A
  | some (.long x) => va_Ql (fun r (_ : Unit) => r = x) (z_B D ad n0 m' A) A
  | _ => va_Qv (fun (_ : Unit) => v = none) (z_B D ad n0 m' A) A
def z_Met (l : Launch) (d k : Nat) (as : List Value) (m : zM) (v : Option Value) (m' : zM) : Prop := m.1 ≤ m'.1 ∧ ∀ (D : va_G) (sa sv ad : Nat → Nat) (ac : Nat → ClassId) (tys : List (ClassId × FieldType)) (sz : Nat),
  Met l (z_y k) (z_ws0 k) (z_rm d (m'.1 - m.1) (z_sl m'.1 - z_sl m.1)) (z_Pc D sa sv ad ac tys m as sz) (z_Qc D ad m.1 v m' (va_A (z_ws ad ac m) sz)) (m'.1 - m.1) (z_sl m'.1 - z_sl m.1) (va_A (z_ws ad ac m) sz)
theorem z_blind {D : va_G} {sa sv ad : Nat → Nat} {ac : Nat → ClassId} {tys : List (ClassId × FieldType)} {m : zM} {as : List Value} {sz : Nat} : FrameBlind (z_Pc D sa sv ad ac tys m as sz) := fun a U g mk q => by
  obtain ⟨q0, q1, qP, qK, qD, qt, qw, qo, qE⟩ := q
  exact ⟨q0, q1, qP, va_K.moved (u := U) (U := U.calling g mk a) (Vm.Alike.refl U.vm) qK, qD, qt, qw, qo, z_En_call qE⟩
theorem z_take_spec : ∀ {n : Nat} {st acc as r : List Value}, z_take n st acc = some (as, r) → ∃ bs : List Value, bs.length = n ∧ st = bs ++ r ∧ as = bs.reverse ++ acc
  | 0, st, acc, as, r, h => by
    simp only [z_take, Option.some.injEq, Prod.mk.injEq] at h
    exact ⟨[], rfl, h.2, h.1.symm⟩
  | n + 1, [], acc, as, r, h => by simp [z_take] at h
  | n + 1, v :: st, acc, as, r, h => by
    obtain ⟨bs, h1, h2, h3⟩ := z_take_spec (n := n) (st := st) (acc := v :: acc) h
    exact ⟨v :: bs, by simp [h1], by simp [h2], by simp [h3]⟩
theorem z_tr_ag {ad ad' sa : Nat → Nat} {n : Nat} (hn : n ≤ 200) (h : ∀ k, k < n → ad' k = ad k) {v : Value} (hv : z_okv n v) : z_tr ad' sa v = z_tr ad sa v := by
  cases v with
  | ref k =>
    simp only [z_tr]
    rcases hv with g | g
    · rw [h k g]
    · rw [if_neg (Nat.not_lt.mpr g.1), if_neg (Nat.not_lt.mpr g.1)]
  | _ => rfl
theorem z_goodIn {k : Nat} (hw : z_wdM k = true) : GoodIn z_tb (z_ws0 k) := by
  simp only [z_wdM, Bool.and_eq_true] at hw
  intro w h
  have hm : w ∈ z_tb := by
    rcases List.mem_cons.mp h with rfl | g
    · exact z_word hw.1.1.1.1.1.1
    · exact g
  exact ⟨hm, good_of_word (List.mem_filter.mp hm).2⟩
section ZS

variable {p : Program} {l : Launch} {e : Env} {R : Room} {s : State} {mt : MethodId} {args : Array Value} {below : List Frame} {meth : Method} {c : Code} {Q : State → Prop} {D : va_G} {A : Nat → Prop} {sa sv ad0 : Nat → Nat} {n0 nf nL : Nat} {cd : List zI} {own : String} {cc : ByteArray} {ini : Bool} {rt : Option FieldType}

theorem zs_after (C : z_Cx p s mt args meth c own cc nL ini rt) {ip : Nat} {lv : zL} {r : List Value} {m m' : zM} {vs : List Value} (hvs : ∀ v ∈ vs, z_okv 0 v) (hvt : ∀ ad' : Nat → Nat, vs.map (z_tr ad' sa) = vs) (hmm : m.1 ≤ m'.1) (h : z_G p l e R s mt args below meth c Q D A sa ad0 n0 nf nL (z_pc cd) (ip + 1) lv (vs ++ r) m') {ad : Nat → Nat} {ac : Nat → ClassId} {tys : List (ClassId × FieldType)} {H H1 : Heap} {locs locs1 : List Loc} {ls : Array Slot} (hSt : z_St D A s ad0 n0 m ad ac tys H locs) (hl : z_lv ad sa nL ls lv) (ho : ∀ v ∈ r, z_okv m.1 v) (hvv : ∀ k v, z_at lv k = some v → z_okv m.1 v)
    (hAA : ∀ q, va_A (z_ws ad ac m) H.size q → A q) {t : State} (ht : t.heap = H1) (hvm : s.vm.Alike t.vm) (hB : z_B D ad m.1 m' (va_A (z_ws ad ac m) H.size) () t) (hS1 : va_S A s.heap H1 locs1) :
    W p l e R s mt args below meth c H1 locs1 (m.1 - n0 + (m'.1 - m.1)) (z_sl m.1 - z_sl n0 + (z_sl m'.1 - z_sl m.1)) Q (F0 mt (z_pc cd (ip + 1)) ls (vs ++ r.map (z_tr ad sa))) := by
  obtain ⟨-, -, -, -, hty, hw, hn0, had⟩ := hSt
  obtain ⟨ad', ac', tys', k1, p1, d1, t1, w1, a1⟩ := hB
  rw [ht] at p1
  have hag : ∀ v, z_okv m.1 v → z_tr ad' sa v = z_tr ad sa v := fun v hv => z_tr_ag hw.2.2 a1 hv
  have h2 := h.2 ad' ac' tys' H1 locs1 ls ⟨va_K.moved hvm.symm k1, p1, ⟨d1.1, fun k q hq => hAA _ (d1.2 k q hq)⟩, hS1, t1, w1, Nat.le_trans hn0 hmm, fun k hk => (a1 k (Nat.lt_of_lt_of_le hk hn0)).trans (had k hk)⟩ ⟨hl.1, hl.2.1, hl.2.2.1, fun k v hk => by rw [hag v (hvv k v hk)]; exact hl.2.2.2 k v hk⟩ (fun v hv => ?_) (fun k v hk => z_okv_mono hmm (hvv k v hk))
  · have s1 := z_sl_mono hmm
    have s2 := z_sl_mono hn0
    have e1 : m.1 - n0 + (m'.1 - m.1) = m'.1 - n0 := by omega
    have e2 : z_sl m.1 - z_sl n0 + (z_sl m'.1 - z_sl m.1) = z_sl m'.1 - z_sl n0 := by omega
    have e3 : r.map (z_tr ad' sa) = r.map (z_tr ad sa) := List.map_congr_left (fun v hv => hag v (ho v hv))
    rw [List.map_append, e3, hvt] at h2
    rw [e1, e2]
    exact h2
  · rcases List.mem_append.mp hv with g | g
    · exact z_okv_mono (Nat.zero_le _) (hvs v g)
    · exact z_okv_mono hmm (ho v g)
/-- what comes behind a call, for each kind of answer -/
theorem zs_back (C : z_Cx p s mt args meth c own cc nL ini rt) (hA : ∀ q, s.heap.size ≤ q → A q) {ip : Nat} {lv : zL} {r : List Value} {m m' : zM} {v : Option Value} (hvk : v = none ∨ (∃ x, v = some (.int x)) ∨ ∃ x, v = some (.long x)) (hmm : m.1 ≤ m'.1) (hn : z_pc cd (ip + 1) = z_pc cd ip + 3) (h : z_G p l e R s mt args below meth c Q D A sa ad0 n0 nf nL (z_pc cd) (ip + 1) lv (v.toList ++ r) m') {ad : Nat → Nat} {ac : Nat → ClassId} {tys : List (ClassId × FieldType)} {H : Heap} {locs : List Loc} {ls : Array Slot} {st0 : List Value} {a : Array Value} (hSt : z_St D A s ad0 n0 m ad ac tys H locs) (hl : z_lv ad sa nL ls lv) (ho : ∀ v ∈ r, z_okv m.1 v) (hvv : ∀ k v, z_at lv k = some v → z_okv m.1 v)
    (hr : va_Run p l e R s mt args below meth c H locs (m.1 - n0) (z_sl m.1 - z_sl n0) (m'.1 - m.1) (z_sl m'.1 - z_sl m.1) (F0 mt (z_pc cd ip) ls st0) (r.map (z_tr ad sa)) (z_Qc D ad m.1 v m' (va_A (z_ws ad ac m) H.size) a) (va_A (z_ws ad ac m) H.size)) :
    W p l e R s mt args below meth c H locs (m.1 - n0) (z_sl m.1 - z_sl n0) Q (F0 mt (z_pc cd ip) ls st0) := by
  have hS := hSt.2.2.2.1
  have hAA : ∀ q, va_A (z_ws ad ac m) H.size q → A q := by
    intro q hq
    rcases hq with ⟨k, e9, hk⟩ | hq
    · exact hSt.2.2.1.2 k _ hk
    · exact hA q (Nat.le_trans hS.1 hq)
  rcases hvk with rfl | ⟨x, rfl⟩ | ⟨x, rfl⟩
  · refine va_callv (a := a) hr hS (fun q _ => hAA q) hAA (fun u t H1 locs1 ht hvm hpost hB hz hk hS1 => ?_)
    rw [← hn]
    exact zs_after (vs := []) C (fun v hv => absurd hv List.not_mem_nil) (fun _ => rfl) hmm h hSt hl ho hvv hAA ht hvm hB hS1
  · refine va_calli (a := a) hr hS (fun q _ => hAA q) hAA (fun y u t H1 locs1 ht hvm hpost hB hz hk hS1 => ?_)
    subst hpost
    rw [← hn]
    exact zs_after (vs := [.int y]) C (fun v hv => by have g := List.mem_singleton.mp hv; subst g; trivial) (fun _ => rfl) hmm h hSt hl ho hvv hAA ht hvm hB hS1
  · refine va_calll (a := a) hr hS (fun q _ => hAA q) hAA (fun y u t H1 locs1 ht hvm hpost hB hz hk hS1 => ?_)
    subst hpost
    rw [← hn]
    exact zs_after (vs := [.long y]) C (fun v hv => by have g := List.mem_singleton.mp hv; subst g; trivial) (fun _ => rfl) hmm h hSt hl ho hvv hAA ht hvm hB hS1
theorem zs_pre (C : z_Cx p s mt args meth c own cc nL ini rt) (En : z_En sa sv A s s.heap) (hA : ∀ q, s.heap.size ≤ q → A q) {as : List Value} {m : zM} {ad : Nat → Nat} {ac : Nat → ClassId} {tys : List (ClassId × FieldType)} {H : Heap} {locs : List Loc} (hSt : z_St D A s ad0 n0 m ad ac tys H locs) (ho : ∀ v ∈ as, z_okv m.1 v) : ∀ U : State, U.heap = H → s.WarmedH U.vm → z_Pc D sa sv ad ac tys m as H.size (as.map (z_tr ad sa)).toArray U := by
  intro U hU hW
  obtain ⟨hK, hP, hD, hS, hty, hw, hn0, had⟩ := hSt
  have hAA : ∀ q, va_A (z_ws ad ac m) H.size q → A q := by
    intro q hq
    rcases hq with ⟨k, e9, hk⟩ | hq
    · exact hD.2 k _ hk
    · exact hA q (Nat.le_trans hS.1 hq)
  exact ⟨rfl, by rw [hU], by rw [hU]; exact hP, va_K.moved hW.alike hK, hD.weaken (fun _ _ _ _ => trivial), hty, hw, ho, z_En_move En hW hU hS.2.1 hAA⟩
set_option maxRecDepth 8000 in
/-- the room a caller at depth d has -/
theorem z_roomC {R : Room} {d k mc ms : Nat} (hw : z_wdM k = true) (hf : d + 9 ≤ R.frames) (hl : 60 * d + 460 ≤ R.locals) : (z_rm d mc ms).frames + 1 ≤ R.frames ∧ 8 + (z_ml k + 11) + (z_rm d mc ms).locals ≤ R.locals := by
  simp only [z_wdM, Bool.and_eq_true, decide_eq_true_eq] at hw
  have h40 : z_ml k ≤ 40 := hw.2
  clear hw
  generalize z_ml k = q at h40 ⊢
  constructor
  · show d + 8 + 1 ≤ R.frames
    omega
  · show 8 + (q + 11) + (60 * d + 400) ≤ R.locals
    omega
theorem zs_callV (C : z_Cx p s mt args meth c own cc nL ini rt) (En : z_En sa sv A s s.heap) (hA : ∀ q, s.heap.size ≤ q → A q) (hR : z_Rm R n0 nf) {d : Nat} (hRf : d + 9 ≤ R.frames) (hRl : 60 * d + 460 ≤ R.locals) {ip i k : Nat} {lv : zL} {as r : List Value} {m m' : zM} {v : Option Value} (hwd : z_wdM k = true) (hvk : v = none ∨ (∃ x, v = some (.int x)) ∨ ∃ x, v = some (.long x)) (hM : z_Met l d k as m v m') (hn : z_pc cd (ip + 1) = z_pc cd ip + 3) (hcs : z_cs r ≤ 8) (hd : decode cc (z_pc cd ip) = .ok (.invokevirtual i, 3)) {rc ci : Nat} {as' : List Value} {cr : vw_C} (has : as = .ref rc :: as') (ht : z_tk rc = 0) (hc : z_tn rc = ci) (hcr : zC[ci]? = some cr) (hcy : cr.1 = (z_y k).cls) (hst : z_stc k = false) (hni : (z_y k).name ≠ "<init>") (hnp : (parseMethodDescriptor (z_y k).desc).map (fun d => d.parameters.length) = some as'.length) (hlk : Cond.methodLink own i (z_y k) ∈ z_tb)
    (h : z_G p l e R s mt args below meth c Q D A sa ad0 n0 nf nL (z_pc cd) (ip + 1) lv (v.toList ++ r) m') : z_G p l e R s mt args below meth c Q D A sa ad0 n0 nf nL (z_pc cd) ip lv (as.reverse ++ r) m := by
  refine ⟨Nat.le_trans hM.1 h.1, fun ad ac tys H locs ls hSt hl ho hvv => ?_⟩
  have hor : ∀ v ∈ r, z_okv m.1 v := fun v hv => ho v (List.mem_append_right _ hv)
  have hoa : ∀ v ∈ as, z_okv m.1 v := fun v hv => ho v (List.mem_append_left _ (List.mem_reverse.mpr hv))
  have hwd2 := hwd
  simp only [z_wdM, Bool.and_eq_true, decide_eq_true_eq] at hwd2
  obtain ⟨⟨⟨⟨⟨⟨w1, w2⟩, w3⟩, w4⟩, w5⟩, w6⟩, w7⟩ := hwd2
  obtain ⟨r1, r2, r3, r4⟩ := hR
  have hn0 := hSt.2.2.2.2.2.2.1
  have hle := h.1
  have hmm := hM.1
  have s1 := z_sl_mono hmm
  have s2 := z_sl_mono hn0
  have s3 := z_sl_mono hle
  have hk : rc < m.1 := z_k_lt (hoa _ (by rw [has]; exact List.mem_cons_self)) (by rw [ht]; decide)
  have hP := hSt.2.1
  have e5 : (as.reverse ++ r).map (z_tr ad sa) = (as'.map (z_tr ad sa)).reverse ++ .ref (ad rc) :: r.map (z_tr ad sa) := by
    rw [has, List.reverse_cons, List.append_assoc, List.map_append, List.map_reverse]
    show _ ++ (z_tr ad sa (.ref rc) :: r.map (z_tr ad sa)) = _
    rw [z_tr_ref (Nat.lt_of_lt_of_le hk hSt.2.2.2.2.2.1.2.2)]
  rw [e5]
  have hw4 : Cond.selects (z_y k).cls (z_y k) (z_y k) ∈ z_tb := by
    simp only [Bool.or_eq_true, decide_eq_true_eq] at w4
    rcases w4 with (g | g) | g
    · rw [hst] at g; cases g
    · exact absurd g hni
    · exact z_word g
  have hw2 : Cond.instanceMethod (z_y k) ∈ z_tb := by
    rw [hst] at w2
    exact z_word w2
  have pre := zs_pre C En hA hSt hoa
  have e6 : (as.map (z_tr ad sa)).toArray = (Value.ref (ad rc) :: as'.map (z_tr ad sa)).toArray := by
    rw [has, List.map_cons, z_tr_ref (Nat.lt_of_lt_of_le hk hSt.2.2.2.2.2.1.2.2)]
  rw [e6] at pre
  refine zs_back C hA hvk hmm hn h hSt hl hor hvv (va_runV (cc := cc) (nL := nL) (Ts := z_tb) (own := own) (C := (z_y k).cls) (As := as'.map (z_tr ad sa)) (b := ad rc) (rest := r.map (z_tr ad sa)) (n := as'.length) (index := i) ⟨C.1, C.2.1, C.2.2.2.1, C.2.2.2.2.1, C.2.2.2.2.2.1⟩ (hM.2 D sa sv ad ac tys H.size) ⟨callB_of as'.length C.2.2.2.2.2.1 (z_goodIn hwd) rfl rfl rfl (C.2.2.2.2.2.1 _ (z_word w3)) (C.2.2.2.2.2.1 _ hlk) ⟨w5.1, w5.2, hnp⟩ (z_roomC hwd hRf hRl), C.2.2.2.2.2.1 _ hw2, C.2.2.2.2.2.1 _ hw4⟩ ⟨z_blind, ?_, pre⟩ rfl (by simp) hl.1 rfl (lv_room (by rw [z_cs_tr]; exact hcs)) hd ⟨by omega, by omega⟩)
  have hrv := va_recv hSt.1 hP hcr ((z_ws_at hk).trans (by rw [z_cell_o ht hc]))
  rw [hcy] at hrv
  exact hrv
theorem zs_callS (C : z_Cx p s mt args meth c own cc nL ini rt) (En : z_En sa sv A s s.heap) (hA : ∀ q, s.heap.size ≤ q → A q) (hR : z_Rm R n0 nf) {d : Nat} (hRf : d + 9 ≤ R.frames) (hRl : 60 * d + 460 ≤ R.locals) {ip i k : Nat} {lv : zL} {as r : List Value} {m m' : zM} {v : Option Value} (hwd : z_wdM k = true) (hvk : v = none ∨ (∃ x, v = some (.int x)) ∨ ∃ x, v = some (.long x)) (hM : z_Met l d k as m v m') (hn : z_pc cd (ip + 1) = z_pc cd ip + 3) (hcs : z_cs r ≤ 8) (hd : decode cc (z_pc cd ip) = .ok (.invokestatic i, 3)) (hst : z_stc k = true) (hnp : (parseMethodDescriptor (z_y k).desc).map (fun d => d.parameters.length) = some as.length) (hlk : Cond.methodLink own i (z_y k) ∈ z_tb ∨ Cond.methodLinkNest own i (z_y k) "LongBoats" ∈ z_nw)
    (h : z_G p l e R s mt args below meth c Q D A sa ad0 n0 nf nL (z_pc cd) (ip + 1) lv (v.toList ++ r) m') : z_G p l e R s mt args below meth c Q D A sa ad0 n0 nf nL (z_pc cd) ip lv (as.reverse ++ r) m := by
  refine ⟨Nat.le_trans hM.1 h.1, fun ad ac tys H locs ls hSt hl ho hvv => ?_⟩
  have hor : ∀ v ∈ r, z_okv m.1 v := fun v hv => ho v (List.mem_append_right _ hv)
  have hoa : ∀ v ∈ as, z_okv m.1 v := fun v hv => ho v (List.mem_append_left _ (List.mem_reverse.mpr hv))
  have hwd2 := hwd
  simp only [z_wdM, Bool.and_eq_true, decide_eq_true_eq] at hwd2
  obtain ⟨⟨⟨⟨⟨⟨w1, w2⟩, w3⟩, w4⟩, w5⟩, w6⟩, w7⟩ := hwd2
  obtain ⟨r1, r2, r3, r4⟩ := hR
  have hn0 := hSt.2.2.2.2.2.2.1
  have hle := h.1
  have hmm := hM.1
  have s1 := z_sl_mono hmm
  have s2 := z_sl_mono hn0
  have s3 := z_sl_mono hle
  have e5 : (as.reverse ++ r).map (z_tr ad sa) = (as.map (z_tr ad sa)).reverse ++ r.map (z_tr ad sa) := by
    rw [List.map_append, List.map_reverse]
  rw [e5]
  have hw2 : Cond.static (z_y k) ∈ z_tb := by
    rw [hst] at w2
    exact z_word w2
  have pre := zs_pre C En hA hSt hoa
  rcases hlk with hlk | hlk
  · exact zs_back C hA hvk hmm hn h hSt hl hor hvv (va_runS (cc := cc) (nL := nL) (Ts := z_tb) (own := own) (As := as.map (z_tr ad sa)) (rest := r.map (z_tr ad sa)) (n := as.length) (index := i) ⟨C.1, C.2.1, C.2.2.2.1, C.2.2.2.2.1, C.2.2.2.2.2.1⟩ (hM.2 D sa sv ad ac tys H.size) ⟨callB_of as.length C.2.2.2.2.2.1 (z_goodIn hwd) rfl rfl rfl (C.2.2.2.2.2.1 _ (z_word w3)) (C.2.2.2.2.2.1 _ hlk) ⟨w5.1, w5.2, hnp⟩ (z_roomC hwd hRf hRl), C.2.2.2.2.2.1 _ hw2⟩ ⟨z_blind, pre⟩ rfl (by simp) hl.1 rfl (lv_room (by rw [z_cs_tr]; exact hcs)) hd ⟨by omega, by omega⟩)
  · exact zs_back C hA hvk hmm hn h hSt hl hor hvv (va_runSN (cc := cc) (nL := nL) (Ts := z_tb) (own := own) (host := "LongBoats") (As := as.map (z_tr ad sa)) (rest := r.map (z_tr ad sa)) (n := as.length) (index := i) ⟨C.1, C.2.1, C.2.2.2.1, C.2.2.2.2.1, C.2.2.2.2.2.1⟩ (hM.2 D sa sv ad ac tys H.size) ⟨va_cnB as.length C.2.2.2.2.2.1 (z_goodIn hwd) rfl rfl rfl (En.2.2.2.1 _ hlk) (C.2.2.2.2.2.1 _ (z_word w3)) ⟨w5.1, w5.2, hnp⟩ (z_roomC hwd hRf hRl), C.2.2.2.2.2.1 _ hw2, trivial⟩ ⟨z_blind, pre⟩ rfl (by simp) hl.1 rfl (lv_room (by rw [z_cs_tr]; exact hcs)) hd ⟨by omega, by omega⟩)
theorem zs_callI (C : z_Cx p s mt args meth c own cc nL ini rt) (En : z_En sa sv A s s.heap) (hA : ∀ q, s.heap.size ≤ q → A q) (hR : z_Rm R n0 nf) {d : Nat} (hRf : d + 9 ≤ R.frames) (hRl : 60 * d + 460 ≤ R.locals) {ip i k : Nat} {lv : zL} {as r : List Value} {m m' : zM} {v : Option Value} (hwd : z_wdM k = true) (hvk : v = none ∨ (∃ x, v = some (.int x)) ∨ ∃ x, v = some (.long x)) (hM : z_Met l d k as m v m') (hn : z_pc cd (ip + 1) = z_pc cd ip + 3) (hcs : z_cs r ≤ 8) (hd : decode cc (z_pc cd ip) = .ok (.invokespecial i, 3)) {rc : Nat} {as' : List Value} (has : as = .ref rc :: as') (ht : z_tk rc = 0) (hst : z_stc k = false) (hni : (z_y k).name = "<init>") (hrt : z_rty k = none) (hnp : (parseMethodDescriptor (z_y k).desc).map (fun d => d.parameters.length) = some as'.length) (hlk : Cond.methodLink own i (z_y k) ∈ z_tb ∨ Cond.methodLinkNest own i (z_y k) "LongBoats" ∈ z_nw)
    (h : z_G p l e R s mt args below meth c Q D A sa ad0 n0 nf nL (z_pc cd) (ip + 1) lv (v.toList ++ r) m') : z_G p l e R s mt args below meth c Q D A sa ad0 n0 nf nL (z_pc cd) ip lv (as.reverse ++ r) m := by
  refine ⟨Nat.le_trans hM.1 h.1, fun ad ac tys H locs ls hSt hl ho hvv => ?_⟩
  have hor : ∀ v ∈ r, z_okv m.1 v := fun v hv => ho v (List.mem_append_right _ hv)
  have hoa : ∀ v ∈ as, z_okv m.1 v := fun v hv => ho v (List.mem_append_left _ (List.mem_reverse.mpr hv))
  have hwd2 := hwd
  simp only [z_wdM, Bool.and_eq_true, decide_eq_true_eq] at hwd2
  obtain ⟨⟨⟨⟨⟨⟨w1, w2⟩, w3⟩, w4⟩, w5⟩, w6⟩, w7⟩ := hwd2
  obtain ⟨r1, r2, r3, r4⟩ := hR
  have hn0 := hSt.2.2.2.2.2.2.1
  have hle := h.1
  have hmm := hM.1
  have s1 := z_sl_mono hmm
  have s2 := z_sl_mono hn0
  have s3 := z_sl_mono hle
  have hk : rc < m.1 := z_k_lt (hoa _ (by rw [has]; exact List.mem_cons_self)) (by rw [ht]; decide)
  have e5 : (as.reverse ++ r).map (z_tr ad sa) = (as'.map (z_tr ad sa)).reverse ++ .ref (ad rc) :: r.map (z_tr ad sa) := by
    rw [has, List.reverse_cons, List.append_assoc, List.map_append, List.map_reverse]
    show _ ++ (z_tr ad sa (.ref rc) :: r.map (z_tr ad sa)) = _
    rw [z_tr_ref (Nat.lt_of_lt_of_le hk hSt.2.2.2.2.2.1.2.2)]
  rw [e5]
  have hw2 : Cond.instanceMethod (z_y k) ∈ z_tb := by
    rw [hst] at w2
    exact z_word w2
  have hws : z_ws0 k = .code (z_y k) (z_by k) (z_ml k) none :: z_tb := by rw [z_ws0, hrt]
  have pre := zs_pre C En hA hSt hoa
  have e6 : (as.map (z_tr ad sa)).toArray = (Value.ref (ad rc) :: as'.map (z_tr ad sa)).toArray := by
    rw [has, List.map_cons, z_tr_ref (Nat.lt_of_lt_of_le hk hSt.2.2.2.2.2.1.2.2)]
  rw [e6] at pre
  rcases hlk with hlk | hlk
  · exact zs_back C hA hvk hmm hn h hSt hl hor hvv (va_runI (cc := cc) (nL := nL) (Ts := z_tb) (own := own) (As := as'.map (z_tr ad sa)) (b := ad rc) (rest := r.map (z_tr ad sa)) (n := as'.length) (index := i) ⟨C.1, C.2.1, C.2.2.2.1, C.2.2.2.2.1, C.2.2.2.2.2.1⟩ (hM.2 D sa sv ad ac tys H.size) ⟨callB_of as'.length C.2.2.2.2.2.1 (z_goodIn hwd) hws rfl rfl (C.2.2.2.2.2.1 _ (z_word w3)) (C.2.2.2.2.2.1 _ hlk) ⟨w5.1, w5.2, hnp⟩ (z_roomC hwd hRf hRl), hni, C.2.2.2.2.2.1 _ hw2⟩ ⟨z_blind, pre⟩ rfl (by simp) hl.1 rfl (lv_room (by rw [z_cs_tr]; exact hcs)) hd ⟨by omega, by omega⟩)
  · exact zs_back C hA hvk hmm hn h hSt hl hor hvv (va_runIN (cc := cc) (nL := nL) (Ts := z_tb) (own := own) (host := "LongBoats") (As := as'.map (z_tr ad sa)) (b := ad rc) (rest := r.map (z_tr ad sa)) (n := as'.length) (index := i) ⟨C.1, C.2.1, C.2.2.2.1, C.2.2.2.2.1, C.2.2.2.2.2.1⟩ (hM.2 D sa sv ad ac tys H.size) ⟨va_cnB as'.length C.2.2.2.2.2.1 (z_goodIn hwd) hws rfl rfl (En.2.2.2.1 _ hlk) (C.2.2.2.2.2.1 _ (z_word w3)) ⟨w5.1, w5.2, hnp⟩ (z_roomC hwd hRf hRl), hni, C.2.2.2.2.2.1 _ hw2⟩ ⟨z_blind, pre⟩ rfl (by simp) hl.1 rfl (lv_room (by rw [z_cs_tr]; exact hcs)) hd ⟨by omega, by omega⟩)
end ZS
