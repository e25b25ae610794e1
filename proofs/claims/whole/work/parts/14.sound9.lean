/-! ONE INSTRUCTION, whichever it is -/
def z_OS (l : Launch) (d : Nat) (o : zO) : Prop := (∀ k as m r, o.1 k as m = some r → z_Met l d k as m (some (.int r.1)) (m.1, m.2.1, r.2)) ∧ (∀ k as m r, o.2.1 k as m = some r → z_Met l d k as m (some (.long r.1)) (m.1, m.2.1, r.2)) ∧ (∀ k as m r, o.2.2.1 k as m = some r → z_Met l d k as m none (m.1, m.2.1, r)) ∧ (∀ k as m r, o.2.2.2.1 k as m = some r → z_Met l d k as m none r) ∧ ∀ k as m r, o.2.2.2.2 k as m = some r → z_Met l d k as m (some (.int r.1)) r.2
def z_rin (rt : Option FieldType) (v : Option Value) (ins : Instr) : Prop := match v with
  | some (.int x) => ins = .ireturn ∧ (rt = some .int ∨ (rt = some .boolean ∧ (x = 0 ∨ x = 1)))
  | some (.long _) => ins = .lreturn ∧ rt = some .long
  | none => ins = .return_ ∧ rt = none
  | _ => False
def z_WD : Prop := ∀ k, k < z_nm → z_wdM k = true
theorem z_sig_na {q n : Nat} (h : z_sig q n = true) : q / 4 % 16 = n ∧ q / 64 % 1000 < z_nm := by
  simp only [z_sig, Bool.and_eq_true, decide_eq_true_eq] at h
  exact h.1
theorem z_ref0_spec {ci : Nat} {as : List Value} (h : z_ref0 ci as = true) : ∃ rc as', as = .ref rc :: as' ∧ z_tk rc = 0 ∧ z_tn rc = ci := by
  match as, h with
  | .ref k :: t, h =>
    simp only [z_ref0, Bool.and_eq_true, Nat.beq_eq] at h
    exact ⟨k, t, rfl, h.1, h.2⟩
theorem z_cls_spec {q : Nat} (h : z_cls q = true) : ∃ cr, zC[q / 64000]? = some cr ∧ cr.1 = (z_y (q / 64 % 1000)).cls := by
  simp only [z_cls] at h
  cases hc : zC[q / 64000]? with
  | none => rw [hc] at h; cases h
  | some r => rw [hc] at h; exact ⟨r, rfl, of_decide_eq_true h⟩
theorem z_lnk_spec {own : String} {i pl q : Nat} (h : z_lnk own i pl q = true) : Cond.methodLink own i (z_y (q / 64 % 1000)) ∈ z_tb ∨ Cond.methodLinkNest own i (z_y (q / 64 % 1000)) "LongBoats" ∈ z_nw := by
  simp only [z_lnk, Bool.or_eq_true] at h
  rcases h with h | h
  · exact Or.inl (z_word h)
  · exact Or.inr (z_wordN h)
section ZS

variable {p : Program} {l : Launch} {e : Env} {R : Room} {s : State} {mt : MethodId} {args : Array Value} {below : List Frame} {meth : Method} {c : Code} {Q : State → Prop} {D : va_G} {A : Nat → Prop} {sa sv ad0 : Nat → Nat} {n0 nf nL : Nat} {cd : List zI} {own : String} {cc : ByteArray} {ini : Bool} {rt : Option FieldType}

theorem zq_iadd (C : z_Cx p s mt args meth c own cc nL ini rt) (En : z_En sa sv A s s.heap) (hA : ∀ q, s.heap.size ≤ q → A q) (hR : z_Rm R n0 nf) {d : Nat} (hRf : d + 9 ≤ R.frames) (hRl : 60 * d + 460 ≤ R.locals) (hWD : z_WD) {o : zO} (hO : z_OS l d o) {sc : Option (Nat × (Nat → Int32))} (hsc : ∀ L xs, sc = some (L, xs) → va_X (sa 0) L xs s s.heap ∧ sa 0 < s.heap.size ∧ ¬ A (sa 0)) {ip pl len : Nat} {raw : Instr} (hdec : decode cc (z_pc cd ip) = .ok (raw, len)) {Rt : Option Value → zM → Prop}
    {lv : zL} {st : List Value} {m : zM}  (hI : z_okI own nL ini rt cd ip (z_pc cd ip) pl (.iadd) raw len = true) (h : z_ps sc o (.iadd) lv st m False (fun lv st m => z_G p l e R s mt args below meth c Q D A sa ad0 n0 nf nL (z_pc cd) (ip + 1) lv st m) (fun t lv st m => z_G p l e R s mt args below meth c Q D A sa ad0 n0 nf nL (z_pc cd) t lv st m) Rt) : z_G p l e R s mt args below meth c Q D A sa ad0 n0 nf nL (z_pc cd) ip lv st m := by
  obtain ⟨rfl, rfl, hn⟩ := of_decide_eq_true hI
  simp only [z_ps] at h
  split at h
  · exact zs_iadd C hdec hn h
  · exact h.elim
theorem zq_isub (C : z_Cx p s mt args meth c own cc nL ini rt) (En : z_En sa sv A s s.heap) (hA : ∀ q, s.heap.size ≤ q → A q) (hR : z_Rm R n0 nf) {d : Nat} (hRf : d + 9 ≤ R.frames) (hRl : 60 * d + 460 ≤ R.locals) (hWD : z_WD) {o : zO} (hO : z_OS l d o) {sc : Option (Nat × (Nat → Int32))} (hsc : ∀ L xs, sc = some (L, xs) → va_X (sa 0) L xs s s.heap ∧ sa 0 < s.heap.size ∧ ¬ A (sa 0)) {ip pl len : Nat} {raw : Instr} (hdec : decode cc (z_pc cd ip) = .ok (raw, len)) {Rt : Option Value → zM → Prop}
    {lv : zL} {st : List Value} {m : zM}  (hI : z_okI own nL ini rt cd ip (z_pc cd ip) pl (.isub) raw len = true) (h : z_ps sc o (.isub) lv st m False (fun lv st m => z_G p l e R s mt args below meth c Q D A sa ad0 n0 nf nL (z_pc cd) (ip + 1) lv st m) (fun t lv st m => z_G p l e R s mt args below meth c Q D A sa ad0 n0 nf nL (z_pc cd) t lv st m) Rt) : z_G p l e R s mt args below meth c Q D A sa ad0 n0 nf nL (z_pc cd) ip lv st m := by
  obtain ⟨rfl, rfl, hn⟩ := of_decide_eq_true hI
  simp only [z_ps] at h
  split at h
  · exact zs_isub C hdec hn h
  · exact h.elim
theorem zq_imul (C : z_Cx p s mt args meth c own cc nL ini rt) (En : z_En sa sv A s s.heap) (hA : ∀ q, s.heap.size ≤ q → A q) (hR : z_Rm R n0 nf) {d : Nat} (hRf : d + 9 ≤ R.frames) (hRl : 60 * d + 460 ≤ R.locals) (hWD : z_WD) {o : zO} (hO : z_OS l d o) {sc : Option (Nat × (Nat → Int32))} (hsc : ∀ L xs, sc = some (L, xs) → va_X (sa 0) L xs s s.heap ∧ sa 0 < s.heap.size ∧ ¬ A (sa 0)) {ip pl len : Nat} {raw : Instr} (hdec : decode cc (z_pc cd ip) = .ok (raw, len)) {Rt : Option Value → zM → Prop}
    {lv : zL} {st : List Value} {m : zM}  (hI : z_okI own nL ini rt cd ip (z_pc cd ip) pl (.imul) raw len = true) (h : z_ps sc o (.imul) lv st m False (fun lv st m => z_G p l e R s mt args below meth c Q D A sa ad0 n0 nf nL (z_pc cd) (ip + 1) lv st m) (fun t lv st m => z_G p l e R s mt args below meth c Q D A sa ad0 n0 nf nL (z_pc cd) t lv st m) Rt) : z_G p l e R s mt args below meth c Q D A sa ad0 n0 nf nL (z_pc cd) ip lv st m := by
  obtain ⟨rfl, rfl, hn⟩ := of_decide_eq_true hI
  simp only [z_ps] at h
  split at h
  · exact zs_imul C hdec hn h
  · exact h.elim
theorem zq_iand (C : z_Cx p s mt args meth c own cc nL ini rt) (En : z_En sa sv A s s.heap) (hA : ∀ q, s.heap.size ≤ q → A q) (hR : z_Rm R n0 nf) {d : Nat} (hRf : d + 9 ≤ R.frames) (hRl : 60 * d + 460 ≤ R.locals) (hWD : z_WD) {o : zO} (hO : z_OS l d o) {sc : Option (Nat × (Nat → Int32))} (hsc : ∀ L xs, sc = some (L, xs) → va_X (sa 0) L xs s s.heap ∧ sa 0 < s.heap.size ∧ ¬ A (sa 0)) {ip pl len : Nat} {raw : Instr} (hdec : decode cc (z_pc cd ip) = .ok (raw, len)) {Rt : Option Value → zM → Prop}
    {lv : zL} {st : List Value} {m : zM}  (hI : z_okI own nL ini rt cd ip (z_pc cd ip) pl (.iand) raw len = true) (h : z_ps sc o (.iand) lv st m False (fun lv st m => z_G p l e R s mt args below meth c Q D A sa ad0 n0 nf nL (z_pc cd) (ip + 1) lv st m) (fun t lv st m => z_G p l e R s mt args below meth c Q D A sa ad0 n0 nf nL (z_pc cd) t lv st m) Rt) : z_G p l e R s mt args below meth c Q D A sa ad0 n0 nf nL (z_pc cd) ip lv st m := by
  obtain ⟨rfl, rfl, hn⟩ := of_decide_eq_true hI
  simp only [z_ps] at h
  split at h
  · exact zs_iand C hdec hn h
  · exact h.elim
theorem zq_ior (C : z_Cx p s mt args meth c own cc nL ini rt) (En : z_En sa sv A s s.heap) (hA : ∀ q, s.heap.size ≤ q → A q) (hR : z_Rm R n0 nf) {d : Nat} (hRf : d + 9 ≤ R.frames) (hRl : 60 * d + 460 ≤ R.locals) (hWD : z_WD) {o : zO} (hO : z_OS l d o) {sc : Option (Nat × (Nat → Int32))} (hsc : ∀ L xs, sc = some (L, xs) → va_X (sa 0) L xs s s.heap ∧ sa 0 < s.heap.size ∧ ¬ A (sa 0)) {ip pl len : Nat} {raw : Instr} (hdec : decode cc (z_pc cd ip) = .ok (raw, len)) {Rt : Option Value → zM → Prop}
    {lv : zL} {st : List Value} {m : zM}  (hI : z_okI own nL ini rt cd ip (z_pc cd ip) pl (.ior) raw len = true) (h : z_ps sc o (.ior) lv st m False (fun lv st m => z_G p l e R s mt args below meth c Q D A sa ad0 n0 nf nL (z_pc cd) (ip + 1) lv st m) (fun t lv st m => z_G p l e R s mt args below meth c Q D A sa ad0 n0 nf nL (z_pc cd) t lv st m) Rt) : z_G p l e R s mt args below meth c Q D A sa ad0 n0 nf nL (z_pc cd) ip lv st m := by
  obtain ⟨rfl, rfl, hn⟩ := of_decide_eq_true hI
  simp only [z_ps] at h
  split at h
  · exact zs_ior C hdec hn h
  · exact h.elim
theorem zq_ixor (C : z_Cx p s mt args meth c own cc nL ini rt) (En : z_En sa sv A s s.heap) (hA : ∀ q, s.heap.size ≤ q → A q) (hR : z_Rm R n0 nf) {d : Nat} (hRf : d + 9 ≤ R.frames) (hRl : 60 * d + 460 ≤ R.locals) (hWD : z_WD) {o : zO} (hO : z_OS l d o) {sc : Option (Nat × (Nat → Int32))} (hsc : ∀ L xs, sc = some (L, xs) → va_X (sa 0) L xs s s.heap ∧ sa 0 < s.heap.size ∧ ¬ A (sa 0)) {ip pl len : Nat} {raw : Instr} (hdec : decode cc (z_pc cd ip) = .ok (raw, len)) {Rt : Option Value → zM → Prop}
    {lv : zL} {st : List Value} {m : zM}  (hI : z_okI own nL ini rt cd ip (z_pc cd ip) pl (.ixor) raw len = true) (h : z_ps sc o (.ixor) lv st m False (fun lv st m => z_G p l e R s mt args below meth c Q D A sa ad0 n0 nf nL (z_pc cd) (ip + 1) lv st m) (fun t lv st m => z_G p l e R s mt args below meth c Q D A sa ad0 n0 nf nL (z_pc cd) t lv st m) Rt) : z_G p l e R s mt args below meth c Q D A sa ad0 n0 nf nL (z_pc cd) ip lv st m := by
  obtain ⟨rfl, rfl, hn⟩ := of_decide_eq_true hI
  simp only [z_ps] at h
  split at h
  · exact zs_ixor C hdec hn h
  · exact h.elim
theorem zq_ishl (C : z_Cx p s mt args meth c own cc nL ini rt) (En : z_En sa sv A s s.heap) (hA : ∀ q, s.heap.size ≤ q → A q) (hR : z_Rm R n0 nf) {d : Nat} (hRf : d + 9 ≤ R.frames) (hRl : 60 * d + 460 ≤ R.locals) (hWD : z_WD) {o : zO} (hO : z_OS l d o) {sc : Option (Nat × (Nat → Int32))} (hsc : ∀ L xs, sc = some (L, xs) → va_X (sa 0) L xs s s.heap ∧ sa 0 < s.heap.size ∧ ¬ A (sa 0)) {ip pl len : Nat} {raw : Instr} (hdec : decode cc (z_pc cd ip) = .ok (raw, len)) {Rt : Option Value → zM → Prop}
    {lv : zL} {st : List Value} {m : zM}  (hI : z_okI own nL ini rt cd ip (z_pc cd ip) pl (.ishl) raw len = true) (h : z_ps sc o (.ishl) lv st m False (fun lv st m => z_G p l e R s mt args below meth c Q D A sa ad0 n0 nf nL (z_pc cd) (ip + 1) lv st m) (fun t lv st m => z_G p l e R s mt args below meth c Q D A sa ad0 n0 nf nL (z_pc cd) t lv st m) Rt) : z_G p l e R s mt args below meth c Q D A sa ad0 n0 nf nL (z_pc cd) ip lv st m := by
  obtain ⟨rfl, rfl, hn⟩ := of_decide_eq_true hI
  simp only [z_ps] at h
  split at h
  · exact zs_ishl C hdec hn h
  · exact h.elim
theorem zq_ishr (C : z_Cx p s mt args meth c own cc nL ini rt) (En : z_En sa sv A s s.heap) (hA : ∀ q, s.heap.size ≤ q → A q) (hR : z_Rm R n0 nf) {d : Nat} (hRf : d + 9 ≤ R.frames) (hRl : 60 * d + 460 ≤ R.locals) (hWD : z_WD) {o : zO} (hO : z_OS l d o) {sc : Option (Nat × (Nat → Int32))} (hsc : ∀ L xs, sc = some (L, xs) → va_X (sa 0) L xs s s.heap ∧ sa 0 < s.heap.size ∧ ¬ A (sa 0)) {ip pl len : Nat} {raw : Instr} (hdec : decode cc (z_pc cd ip) = .ok (raw, len)) {Rt : Option Value → zM → Prop}
    {lv : zL} {st : List Value} {m : zM}  (hI : z_okI own nL ini rt cd ip (z_pc cd ip) pl (.ishr) raw len = true) (h : z_ps sc o (.ishr) lv st m False (fun lv st m => z_G p l e R s mt args below meth c Q D A sa ad0 n0 nf nL (z_pc cd) (ip + 1) lv st m) (fun t lv st m => z_G p l e R s mt args below meth c Q D A sa ad0 n0 nf nL (z_pc cd) t lv st m) Rt) : z_G p l e R s mt args below meth c Q D A sa ad0 n0 nf nL (z_pc cd) ip lv st m := by
  obtain ⟨rfl, rfl, hn⟩ := of_decide_eq_true hI
  simp only [z_ps] at h
  split at h
  · exact zs_ishr C hdec hn h
  · exact h.elim
theorem zq_ladd (C : z_Cx p s mt args meth c own cc nL ini rt) (En : z_En sa sv A s s.heap) (hA : ∀ q, s.heap.size ≤ q → A q) (hR : z_Rm R n0 nf) {d : Nat} (hRf : d + 9 ≤ R.frames) (hRl : 60 * d + 460 ≤ R.locals) (hWD : z_WD) {o : zO} (hO : z_OS l d o) {sc : Option (Nat × (Nat → Int32))} (hsc : ∀ L xs, sc = some (L, xs) → va_X (sa 0) L xs s s.heap ∧ sa 0 < s.heap.size ∧ ¬ A (sa 0)) {ip pl len : Nat} {raw : Instr} (hdec : decode cc (z_pc cd ip) = .ok (raw, len)) {Rt : Option Value → zM → Prop}
    {lv : zL} {st : List Value} {m : zM}  (hI : z_okI own nL ini rt cd ip (z_pc cd ip) pl (.ladd) raw len = true) (h : z_ps sc o (.ladd) lv st m False (fun lv st m => z_G p l e R s mt args below meth c Q D A sa ad0 n0 nf nL (z_pc cd) (ip + 1) lv st m) (fun t lv st m => z_G p l e R s mt args below meth c Q D A sa ad0 n0 nf nL (z_pc cd) t lv st m) Rt) : z_G p l e R s mt args below meth c Q D A sa ad0 n0 nf nL (z_pc cd) ip lv st m := by
  obtain ⟨rfl, rfl, hn⟩ := of_decide_eq_true hI
  simp only [z_ps] at h
  split at h
  · exact zs_ladd C hdec hn h
  · exact h.elim
theorem zq_lsub (C : z_Cx p s mt args meth c own cc nL ini rt) (En : z_En sa sv A s s.heap) (hA : ∀ q, s.heap.size ≤ q → A q) (hR : z_Rm R n0 nf) {d : Nat} (hRf : d + 9 ≤ R.frames) (hRl : 60 * d + 460 ≤ R.locals) (hWD : z_WD) {o : zO} (hO : z_OS l d o) {sc : Option (Nat × (Nat → Int32))} (hsc : ∀ L xs, sc = some (L, xs) → va_X (sa 0) L xs s s.heap ∧ sa 0 < s.heap.size ∧ ¬ A (sa 0)) {ip pl len : Nat} {raw : Instr} (hdec : decode cc (z_pc cd ip) = .ok (raw, len)) {Rt : Option Value → zM → Prop}
    {lv : zL} {st : List Value} {m : zM}  (hI : z_okI own nL ini rt cd ip (z_pc cd ip) pl (.lsub) raw len = true) (h : z_ps sc o (.lsub) lv st m False (fun lv st m => z_G p l e R s mt args below meth c Q D A sa ad0 n0 nf nL (z_pc cd) (ip + 1) lv st m) (fun t lv st m => z_G p l e R s mt args below meth c Q D A sa ad0 n0 nf nL (z_pc cd) t lv st m) Rt) : z_G p l e R s mt args below meth c Q D A sa ad0 n0 nf nL (z_pc cd) ip lv st m := by
  obtain ⟨rfl, rfl, hn⟩ := of_decide_eq_true hI
  simp only [z_ps] at h
  split at h
  · exact zs_lsub C hdec hn h
  · exact h.elim
theorem zq_lmul (C : z_Cx p s mt args meth c own cc nL ini rt) (En : z_En sa sv A s s.heap) (hA : ∀ q, s.heap.size ≤ q → A q) (hR : z_Rm R n0 nf) {d : Nat} (hRf : d + 9 ≤ R.frames) (hRl : 60 * d + 460 ≤ R.locals) (hWD : z_WD) {o : zO} (hO : z_OS l d o) {sc : Option (Nat × (Nat → Int32))} (hsc : ∀ L xs, sc = some (L, xs) → va_X (sa 0) L xs s s.heap ∧ sa 0 < s.heap.size ∧ ¬ A (sa 0)) {ip pl len : Nat} {raw : Instr} (hdec : decode cc (z_pc cd ip) = .ok (raw, len)) {Rt : Option Value → zM → Prop}
    {lv : zL} {st : List Value} {m : zM}  (hI : z_okI own nL ini rt cd ip (z_pc cd ip) pl (.lmul) raw len = true) (h : z_ps sc o (.lmul) lv st m False (fun lv st m => z_G p l e R s mt args below meth c Q D A sa ad0 n0 nf nL (z_pc cd) (ip + 1) lv st m) (fun t lv st m => z_G p l e R s mt args below meth c Q D A sa ad0 n0 nf nL (z_pc cd) t lv st m) Rt) : z_G p l e R s mt args below meth c Q D A sa ad0 n0 nf nL (z_pc cd) ip lv st m := by
  obtain ⟨rfl, rfl, hn⟩ := of_decide_eq_true hI
  simp only [z_ps] at h
  split at h
  · exact zs_lmul C hdec hn h
  · exact h.elim
theorem zq_land (C : z_Cx p s mt args meth c own cc nL ini rt) (En : z_En sa sv A s s.heap) (hA : ∀ q, s.heap.size ≤ q → A q) (hR : z_Rm R n0 nf) {d : Nat} (hRf : d + 9 ≤ R.frames) (hRl : 60 * d + 460 ≤ R.locals) (hWD : z_WD) {o : zO} (hO : z_OS l d o) {sc : Option (Nat × (Nat → Int32))} (hsc : ∀ L xs, sc = some (L, xs) → va_X (sa 0) L xs s s.heap ∧ sa 0 < s.heap.size ∧ ¬ A (sa 0)) {ip pl len : Nat} {raw : Instr} (hdec : decode cc (z_pc cd ip) = .ok (raw, len)) {Rt : Option Value → zM → Prop}
    {lv : zL} {st : List Value} {m : zM}  (hI : z_okI own nL ini rt cd ip (z_pc cd ip) pl (.land) raw len = true) (h : z_ps sc o (.land) lv st m False (fun lv st m => z_G p l e R s mt args below meth c Q D A sa ad0 n0 nf nL (z_pc cd) (ip + 1) lv st m) (fun t lv st m => z_G p l e R s mt args below meth c Q D A sa ad0 n0 nf nL (z_pc cd) t lv st m) Rt) : z_G p l e R s mt args below meth c Q D A sa ad0 n0 nf nL (z_pc cd) ip lv st m := by
  obtain ⟨rfl, rfl, hn⟩ := of_decide_eq_true hI
  simp only [z_ps] at h
  split at h
  · exact zs_land C hdec hn h
  · exact h.elim
theorem zq_lor (C : z_Cx p s mt args meth c own cc nL ini rt) (En : z_En sa sv A s s.heap) (hA : ∀ q, s.heap.size ≤ q → A q) (hR : z_Rm R n0 nf) {d : Nat} (hRf : d + 9 ≤ R.frames) (hRl : 60 * d + 460 ≤ R.locals) (hWD : z_WD) {o : zO} (hO : z_OS l d o) {sc : Option (Nat × (Nat → Int32))} (hsc : ∀ L xs, sc = some (L, xs) → va_X (sa 0) L xs s s.heap ∧ sa 0 < s.heap.size ∧ ¬ A (sa 0)) {ip pl len : Nat} {raw : Instr} (hdec : decode cc (z_pc cd ip) = .ok (raw, len)) {Rt : Option Value → zM → Prop}
    {lv : zL} {st : List Value} {m : zM}  (hI : z_okI own nL ini rt cd ip (z_pc cd ip) pl (.lor) raw len = true) (h : z_ps sc o (.lor) lv st m False (fun lv st m => z_G p l e R s mt args below meth c Q D A sa ad0 n0 nf nL (z_pc cd) (ip + 1) lv st m) (fun t lv st m => z_G p l e R s mt args below meth c Q D A sa ad0 n0 nf nL (z_pc cd) t lv st m) Rt) : z_G p l e R s mt args below meth c Q D A sa ad0 n0 nf nL (z_pc cd) ip lv st m := by
  obtain ⟨rfl, rfl, hn⟩ := of_decide_eq_true hI
  simp only [z_ps] at h
  split at h
  · exact zs_lor C hdec hn h
  · exact h.elim
theorem zq_lshl (C : z_Cx p s mt args meth c own cc nL ini rt) (En : z_En sa sv A s s.heap) (hA : ∀ q, s.heap.size ≤ q → A q) (hR : z_Rm R n0 nf) {d : Nat} (hRf : d + 9 ≤ R.frames) (hRl : 60 * d + 460 ≤ R.locals) (hWD : z_WD) {o : zO} (hO : z_OS l d o) {sc : Option (Nat × (Nat → Int32))} (hsc : ∀ L xs, sc = some (L, xs) → va_X (sa 0) L xs s s.heap ∧ sa 0 < s.heap.size ∧ ¬ A (sa 0)) {ip pl len : Nat} {raw : Instr} (hdec : decode cc (z_pc cd ip) = .ok (raw, len)) {Rt : Option Value → zM → Prop}
    {lv : zL} {st : List Value} {m : zM}  (hI : z_okI own nL ini rt cd ip (z_pc cd ip) pl (.lshl) raw len = true) (h : z_ps sc o (.lshl) lv st m False (fun lv st m => z_G p l e R s mt args below meth c Q D A sa ad0 n0 nf nL (z_pc cd) (ip + 1) lv st m) (fun t lv st m => z_G p l e R s mt args below meth c Q D A sa ad0 n0 nf nL (z_pc cd) t lv st m) Rt) : z_G p l e R s mt args below meth c Q D A sa ad0 n0 nf nL (z_pc cd) ip lv st m := by
  obtain ⟨rfl, rfl, hn⟩ := of_decide_eq_true hI
  simp only [z_ps] at h
  split at h
  · exact zs_lshl C hdec hn h
  · exact h.elim
theorem zq_lshr (C : z_Cx p s mt args meth c own cc nL ini rt) (En : z_En sa sv A s s.heap) (hA : ∀ q, s.heap.size ≤ q → A q) (hR : z_Rm R n0 nf) {d : Nat} (hRf : d + 9 ≤ R.frames) (hRl : 60 * d + 460 ≤ R.locals) (hWD : z_WD) {o : zO} (hO : z_OS l d o) {sc : Option (Nat × (Nat → Int32))} (hsc : ∀ L xs, sc = some (L, xs) → va_X (sa 0) L xs s s.heap ∧ sa 0 < s.heap.size ∧ ¬ A (sa 0)) {ip pl len : Nat} {raw : Instr} (hdec : decode cc (z_pc cd ip) = .ok (raw, len)) {Rt : Option Value → zM → Prop}
    {lv : zL} {st : List Value} {m : zM}  (hI : z_okI own nL ini rt cd ip (z_pc cd ip) pl (.lshr) raw len = true) (h : z_ps sc o (.lshr) lv st m False (fun lv st m => z_G p l e R s mt args below meth c Q D A sa ad0 n0 nf nL (z_pc cd) (ip + 1) lv st m) (fun t lv st m => z_G p l e R s mt args below meth c Q D A sa ad0 n0 nf nL (z_pc cd) t lv st m) Rt) : z_G p l e R s mt args below meth c Q D A sa ad0 n0 nf nL (z_pc cd) ip lv st m := by
  obtain ⟨rfl, rfl, hn⟩ := of_decide_eq_true hI
  simp only [z_ps] at h
  split at h
  · exact zs_lshr C hdec hn h
  · exact h.elim
theorem zq_lcmp (C : z_Cx p s mt args meth c own cc nL ini rt) (En : z_En sa sv A s s.heap) (hA : ∀ q, s.heap.size ≤ q → A q) (hR : z_Rm R n0 nf) {d : Nat} (hRf : d + 9 ≤ R.frames) (hRl : 60 * d + 460 ≤ R.locals) (hWD : z_WD) {o : zO} (hO : z_OS l d o) {sc : Option (Nat × (Nat → Int32))} (hsc : ∀ L xs, sc = some (L, xs) → va_X (sa 0) L xs s s.heap ∧ sa 0 < s.heap.size ∧ ¬ A (sa 0)) {ip pl len : Nat} {raw : Instr} (hdec : decode cc (z_pc cd ip) = .ok (raw, len)) {Rt : Option Value → zM → Prop}
    {lv : zL} {st : List Value} {m : zM}  (hI : z_okI own nL ini rt cd ip (z_pc cd ip) pl (.lcmp) raw len = true) (h : z_ps sc o (.lcmp) lv st m False (fun lv st m => z_G p l e R s mt args below meth c Q D A sa ad0 n0 nf nL (z_pc cd) (ip + 1) lv st m) (fun t lv st m => z_G p l e R s mt args below meth c Q D A sa ad0 n0 nf nL (z_pc cd) t lv st m) Rt) : z_G p l e R s mt args below meth c Q D A sa ad0 n0 nf nL (z_pc cd) ip lv st m := by
  obtain ⟨rfl, rfl, hn⟩ := of_decide_eq_true hI
  simp only [z_ps] at h
  split at h
  · exact zs_lcmp C hdec hn h
  · exact h.elim
theorem zq_ineg (C : z_Cx p s mt args meth c own cc nL ini rt) (En : z_En sa sv A s s.heap) (hA : ∀ q, s.heap.size ≤ q → A q) (hR : z_Rm R n0 nf) {d : Nat} (hRf : d + 9 ≤ R.frames) (hRl : 60 * d + 460 ≤ R.locals) (hWD : z_WD) {o : zO} (hO : z_OS l d o) {sc : Option (Nat × (Nat → Int32))} (hsc : ∀ L xs, sc = some (L, xs) → va_X (sa 0) L xs s s.heap ∧ sa 0 < s.heap.size ∧ ¬ A (sa 0)) {ip pl len : Nat} {raw : Instr} (hdec : decode cc (z_pc cd ip) = .ok (raw, len)) {Rt : Option Value → zM → Prop}
    {lv : zL} {st : List Value} {m : zM}  (hI : z_okI own nL ini rt cd ip (z_pc cd ip) pl (.ineg) raw len = true) (h : z_ps sc o (.ineg) lv st m False (fun lv st m => z_G p l e R s mt args below meth c Q D A sa ad0 n0 nf nL (z_pc cd) (ip + 1) lv st m) (fun t lv st m => z_G p l e R s mt args below meth c Q D A sa ad0 n0 nf nL (z_pc cd) t lv st m) Rt) : z_G p l e R s mt args below meth c Q D A sa ad0 n0 nf nL (z_pc cd) ip lv st m := by
  obtain ⟨rfl, rfl, hn⟩ := of_decide_eq_true hI
  simp only [z_ps] at h
  split at h
  · exact zs_ineg C hdec hn h
  · exact h.elim
theorem zq_i2l (C : z_Cx p s mt args meth c own cc nL ini rt) (En : z_En sa sv A s s.heap) (hA : ∀ q, s.heap.size ≤ q → A q) (hR : z_Rm R n0 nf) {d : Nat} (hRf : d + 9 ≤ R.frames) (hRl : 60 * d + 460 ≤ R.locals) (hWD : z_WD) {o : zO} (hO : z_OS l d o) {sc : Option (Nat × (Nat → Int32))} (hsc : ∀ L xs, sc = some (L, xs) → va_X (sa 0) L xs s s.heap ∧ sa 0 < s.heap.size ∧ ¬ A (sa 0)) {ip pl len : Nat} {raw : Instr} (hdec : decode cc (z_pc cd ip) = .ok (raw, len)) {Rt : Option Value → zM → Prop}
    {lv : zL} {st : List Value} {m : zM}  (hI : z_okI own nL ini rt cd ip (z_pc cd ip) pl (.i2l) raw len = true) (h : z_ps sc o (.i2l) lv st m False (fun lv st m => z_G p l e R s mt args below meth c Q D A sa ad0 n0 nf nL (z_pc cd) (ip + 1) lv st m) (fun t lv st m => z_G p l e R s mt args below meth c Q D A sa ad0 n0 nf nL (z_pc cd) t lv st m) Rt) : z_G p l e R s mt args below meth c Q D A sa ad0 n0 nf nL (z_pc cd) ip lv st m := by
  obtain ⟨rfl, rfl, hn⟩ := of_decide_eq_true hI
  simp only [z_ps] at h
  split at h
  · exact zs_i2l C hdec hn h
  · exact h.elim
theorem zq_l2i (C : z_Cx p s mt args meth c own cc nL ini rt) (En : z_En sa sv A s s.heap) (hA : ∀ q, s.heap.size ≤ q → A q) (hR : z_Rm R n0 nf) {d : Nat} (hRf : d + 9 ≤ R.frames) (hRl : 60 * d + 460 ≤ R.locals) (hWD : z_WD) {o : zO} (hO : z_OS l d o) {sc : Option (Nat × (Nat → Int32))} (hsc : ∀ L xs, sc = some (L, xs) → va_X (sa 0) L xs s s.heap ∧ sa 0 < s.heap.size ∧ ¬ A (sa 0)) {ip pl len : Nat} {raw : Instr} (hdec : decode cc (z_pc cd ip) = .ok (raw, len)) {Rt : Option Value → zM → Prop}
    {lv : zL} {st : List Value} {m : zM}  (hI : z_okI own nL ini rt cd ip (z_pc cd ip) pl (.l2i) raw len = true) (h : z_ps sc o (.l2i) lv st m False (fun lv st m => z_G p l e R s mt args below meth c Q D A sa ad0 n0 nf nL (z_pc cd) (ip + 1) lv st m) (fun t lv st m => z_G p l e R s mt args below meth c Q D A sa ad0 n0 nf nL (z_pc cd) t lv st m) Rt) : z_G p l e R s mt args below meth c Q D A sa ad0 n0 nf nL (z_pc cd) ip lv st m := by
  obtain ⟨rfl, rfl, hn⟩ := of_decide_eq_true hI
  simp only [z_ps] at h
  split at h
  · exact zs_l2i C hdec hn h
  · exact h.elim
theorem zq_i2b (C : z_Cx p s mt args meth c own cc nL ini rt) (En : z_En sa sv A s s.heap) (hA : ∀ q, s.heap.size ≤ q → A q) (hR : z_Rm R n0 nf) {d : Nat} (hRf : d + 9 ≤ R.frames) (hRl : 60 * d + 460 ≤ R.locals) (hWD : z_WD) {o : zO} (hO : z_OS l d o) {sc : Option (Nat × (Nat → Int32))} (hsc : ∀ L xs, sc = some (L, xs) → va_X (sa 0) L xs s s.heap ∧ sa 0 < s.heap.size ∧ ¬ A (sa 0)) {ip pl len : Nat} {raw : Instr} (hdec : decode cc (z_pc cd ip) = .ok (raw, len)) {Rt : Option Value → zM → Prop}
    {lv : zL} {st : List Value} {m : zM}  (hI : z_okI own nL ini rt cd ip (z_pc cd ip) pl (.i2b) raw len = true) (h : z_ps sc o (.i2b) lv st m False (fun lv st m => z_G p l e R s mt args below meth c Q D A sa ad0 n0 nf nL (z_pc cd) (ip + 1) lv st m) (fun t lv st m => z_G p l e R s mt args below meth c Q D A sa ad0 n0 nf nL (z_pc cd) t lv st m) Rt) : z_G p l e R s mt args below meth c Q D A sa ad0 n0 nf nL (z_pc cd) ip lv st m := by
  obtain ⟨rfl, rfl, hn⟩ := of_decide_eq_true hI
  simp only [z_ps] at h
  split at h
  · exact zs_i2b C hdec hn h
  · exact h.elim
theorem zq_i2s (C : z_Cx p s mt args meth c own cc nL ini rt) (En : z_En sa sv A s s.heap) (hA : ∀ q, s.heap.size ≤ q → A q) (hR : z_Rm R n0 nf) {d : Nat} (hRf : d + 9 ≤ R.frames) (hRl : 60 * d + 460 ≤ R.locals) (hWD : z_WD) {o : zO} (hO : z_OS l d o) {sc : Option (Nat × (Nat → Int32))} (hsc : ∀ L xs, sc = some (L, xs) → va_X (sa 0) L xs s s.heap ∧ sa 0 < s.heap.size ∧ ¬ A (sa 0)) {ip pl len : Nat} {raw : Instr} (hdec : decode cc (z_pc cd ip) = .ok (raw, len)) {Rt : Option Value → zM → Prop}
    {lv : zL} {st : List Value} {m : zM}  (hI : z_okI own nL ini rt cd ip (z_pc cd ip) pl (.i2s) raw len = true) (h : z_ps sc o (.i2s) lv st m False (fun lv st m => z_G p l e R s mt args below meth c Q D A sa ad0 n0 nf nL (z_pc cd) (ip + 1) lv st m) (fun t lv st m => z_G p l e R s mt args below meth c Q D A sa ad0 n0 nf nL (z_pc cd) t lv st m) Rt) : z_G p l e R s mt args below meth c Q D A sa ad0 n0 nf nL (z_pc cd) ip lv st m := by
  obtain ⟨rfl, rfl, hn⟩ := of_decide_eq_true hI
  simp only [z_ps] at h
  split at h
  · exact zs_i2s C hdec hn h
  · exact h.elim
theorem zq_idiv (C : z_Cx p s mt args meth c own cc nL ini rt) (En : z_En sa sv A s s.heap) (hA : ∀ q, s.heap.size ≤ q → A q) (hR : z_Rm R n0 nf) {d : Nat} (hRf : d + 9 ≤ R.frames) (hRl : 60 * d + 460 ≤ R.locals) (hWD : z_WD) {o : zO} (hO : z_OS l d o) {sc : Option (Nat × (Nat → Int32))} (hsc : ∀ L xs, sc = some (L, xs) → va_X (sa 0) L xs s s.heap ∧ sa 0 < s.heap.size ∧ ¬ A (sa 0)) {ip pl len : Nat} {raw : Instr} (hdec : decode cc (z_pc cd ip) = .ok (raw, len)) {Rt : Option Value → zM → Prop}
    {lv : zL} {st : List Value} {m : zM}  (hI : z_okI own nL ini rt cd ip (z_pc cd ip) pl (.idiv) raw len = true) (h : z_ps sc o (.idiv) lv st m False (fun lv st m => z_G p l e R s mt args below meth c Q D A sa ad0 n0 nf nL (z_pc cd) (ip + 1) lv st m) (fun t lv st m => z_G p l e R s mt args below meth c Q D A sa ad0 n0 nf nL (z_pc cd) t lv st m) Rt) : z_G p l e R s mt args below meth c Q D A sa ad0 n0 nf nL (z_pc cd) ip lv st m := by
  obtain ⟨rfl, rfl, hn⟩ := of_decide_eq_true hI
  simp only [z_ps] at h
  split at h
  · rename_i y x r
    by_cases hy : y = 0
    · rw [if_pos hy] at h; exact h.elim
    · rw [if_neg hy] at h
      exact zs_idiv C hy hdec hn h
  · exact h.elim
theorem zq_irem (C : z_Cx p s mt args meth c own cc nL ini rt) (En : z_En sa sv A s s.heap) (hA : ∀ q, s.heap.size ≤ q → A q) (hR : z_Rm R n0 nf) {d : Nat} (hRf : d + 9 ≤ R.frames) (hRl : 60 * d + 460 ≤ R.locals) (hWD : z_WD) {o : zO} (hO : z_OS l d o) {sc : Option (Nat × (Nat → Int32))} (hsc : ∀ L xs, sc = some (L, xs) → va_X (sa 0) L xs s s.heap ∧ sa 0 < s.heap.size ∧ ¬ A (sa 0)) {ip pl len : Nat} {raw : Instr} (hdec : decode cc (z_pc cd ip) = .ok (raw, len)) {Rt : Option Value → zM → Prop}
    {lv : zL} {st : List Value} {m : zM}  (hI : z_okI own nL ini rt cd ip (z_pc cd ip) pl (.irem) raw len = true) (h : z_ps sc o (.irem) lv st m False (fun lv st m => z_G p l e R s mt args below meth c Q D A sa ad0 n0 nf nL (z_pc cd) (ip + 1) lv st m) (fun t lv st m => z_G p l e R s mt args below meth c Q D A sa ad0 n0 nf nL (z_pc cd) t lv st m) Rt) : z_G p l e R s mt args below meth c Q D A sa ad0 n0 nf nL (z_pc cd) ip lv st m := by
  obtain ⟨rfl, rfl, hn⟩ := of_decide_eq_true hI
  simp only [z_ps] at h
  split at h
  · rename_i y x r
    by_cases hy : y = 0
    · rw [if_pos hy] at h; exact h.elim
    · rw [if_neg hy] at h
      exact zs_irem C hy hdec hn h
  · exact h.elim
theorem zq_ldiv (C : z_Cx p s mt args meth c own cc nL ini rt) (En : z_En sa sv A s s.heap) (hA : ∀ q, s.heap.size ≤ q → A q) (hR : z_Rm R n0 nf) {d : Nat} (hRf : d + 9 ≤ R.frames) (hRl : 60 * d + 460 ≤ R.locals) (hWD : z_WD) {o : zO} (hO : z_OS l d o) {sc : Option (Nat × (Nat → Int32))} (hsc : ∀ L xs, sc = some (L, xs) → va_X (sa 0) L xs s s.heap ∧ sa 0 < s.heap.size ∧ ¬ A (sa 0)) {ip pl len : Nat} {raw : Instr} (hdec : decode cc (z_pc cd ip) = .ok (raw, len)) {Rt : Option Value → zM → Prop}
    {lv : zL} {st : List Value} {m : zM}  (hI : z_okI own nL ini rt cd ip (z_pc cd ip) pl (.ldiv) raw len = true) (h : z_ps sc o (.ldiv) lv st m False (fun lv st m => z_G p l e R s mt args below meth c Q D A sa ad0 n0 nf nL (z_pc cd) (ip + 1) lv st m) (fun t lv st m => z_G p l e R s mt args below meth c Q D A sa ad0 n0 nf nL (z_pc cd) t lv st m) Rt) : z_G p l e R s mt args below meth c Q D A sa ad0 n0 nf nL (z_pc cd) ip lv st m := by
  obtain ⟨rfl, rfl, hn⟩ := of_decide_eq_true hI
  simp only [z_ps] at h
  split at h
  · rename_i y x r
    by_cases hy : y = 0
    · rw [if_pos hy] at h; exact h.elim
    · rw [if_neg hy] at h
      exact zs_ldiv C hy hdec hn h
  · exact h.elim
theorem zq_lrem (C : z_Cx p s mt args meth c own cc nL ini rt) (En : z_En sa sv A s s.heap) (hA : ∀ q, s.heap.size ≤ q → A q) (hR : z_Rm R n0 nf) {d : Nat} (hRf : d + 9 ≤ R.frames) (hRl : 60 * d + 460 ≤ R.locals) (hWD : z_WD) {o : zO} (hO : z_OS l d o) {sc : Option (Nat × (Nat → Int32))} (hsc : ∀ L xs, sc = some (L, xs) → va_X (sa 0) L xs s s.heap ∧ sa 0 < s.heap.size ∧ ¬ A (sa 0)) {ip pl len : Nat} {raw : Instr} (hdec : decode cc (z_pc cd ip) = .ok (raw, len)) {Rt : Option Value → zM → Prop}
    {lv : zL} {st : List Value} {m : zM}  (hI : z_okI own nL ini rt cd ip (z_pc cd ip) pl (.lrem) raw len = true) (h : z_ps sc o (.lrem) lv st m False (fun lv st m => z_G p l e R s mt args below meth c Q D A sa ad0 n0 nf nL (z_pc cd) (ip + 1) lv st m) (fun t lv st m => z_G p l e R s mt args below meth c Q D A sa ad0 n0 nf nL (z_pc cd) t lv st m) Rt) : z_G p l e R s mt args below meth c Q D A sa ad0 n0 nf nL (z_pc cd) ip lv st m := by
  obtain ⟨rfl, rfl, hn⟩ := of_decide_eq_true hI
  simp only [z_ps] at h
  split at h
  · rename_i y x r
    by_cases hy : y = 0
    · rw [if_pos hy] at h; exact h.elim
    · rw [if_neg hy] at h
      exact zs_lrem C hy hdec hn h
  · exact h.elim
theorem zq_dup (C : z_Cx p s mt args meth c own cc nL ini rt) (En : z_En sa sv A s s.heap) (hA : ∀ q, s.heap.size ≤ q → A q) (hR : z_Rm R n0 nf) {d : Nat} (hRf : d + 9 ≤ R.frames) (hRl : 60 * d + 460 ≤ R.locals) (hWD : z_WD) {o : zO} (hO : z_OS l d o) {sc : Option (Nat × (Nat → Int32))} (hsc : ∀ L xs, sc = some (L, xs) → va_X (sa 0) L xs s s.heap ∧ sa 0 < s.heap.size ∧ ¬ A (sa 0)) {ip pl len : Nat} {raw : Instr} (hdec : decode cc (z_pc cd ip) = .ok (raw, len)) {Rt : Option Value → zM → Prop}
    {lv : zL} {st : List Value} {m : zM}  (hI : z_okI own nL ini rt cd ip (z_pc cd ip) pl (.dup) raw len = true) (h : z_ps sc o (.dup) lv st m False (fun lv st m => z_G p l e R s mt args below meth c Q D A sa ad0 n0 nf nL (z_pc cd) (ip + 1) lv st m) (fun t lv st m => z_G p l e R s mt args below meth c Q D A sa ad0 n0 nf nL (z_pc cd) t lv st m) Rt) : z_G p l e R s mt args below meth c Q D A sa ad0 n0 nf nL (z_pc cd) ip lv st m := by
  obtain ⟨rfl, rfl, hn⟩ := of_decide_eq_true hI
  simp only [z_ps] at h
  split at h
  · exact zs_dup C rfl hdec hn h
  · exact zs_dup C rfl hdec hn h
  · exact h.elim
theorem zq_dup2 (C : z_Cx p s mt args meth c own cc nL ini rt) (En : z_En sa sv A s s.heap) (hA : ∀ q, s.heap.size ≤ q → A q) (hR : z_Rm R n0 nf) {d : Nat} (hRf : d + 9 ≤ R.frames) (hRl : 60 * d + 460 ≤ R.locals) (hWD : z_WD) {o : zO} (hO : z_OS l d o) {sc : Option (Nat × (Nat → Int32))} (hsc : ∀ L xs, sc = some (L, xs) → va_X (sa 0) L xs s s.heap ∧ sa 0 < s.heap.size ∧ ¬ A (sa 0)) {ip pl len : Nat} {raw : Instr} (hdec : decode cc (z_pc cd ip) = .ok (raw, len)) {Rt : Option Value → zM → Prop}
    {lv : zL} {st : List Value} {m : zM}  (hI : z_okI own nL ini rt cd ip (z_pc cd ip) pl (.dup2) raw len = true) (h : z_ps sc o (.dup2) lv st m False (fun lv st m => z_G p l e R s mt args below meth c Q D A sa ad0 n0 nf nL (z_pc cd) (ip + 1) lv st m) (fun t lv st m => z_G p l e R s mt args below meth c Q D A sa ad0 n0 nf nL (z_pc cd) t lv st m) Rt) : z_G p l e R s mt args below meth c Q D A sa ad0 n0 nf nL (z_pc cd) ip lv st m := by
  obtain ⟨rfl, rfl, hn⟩ := of_decide_eq_true hI
  simp only [z_ps] at h
  split at h
  · exact zs_dup2 C rfl rfl hdec hn h
  · exact zs_dup2 C rfl rfl hdec hn h
  · exact h.elim
theorem zq_iconst (C : z_Cx p s mt args meth c own cc nL ini rt) (En : z_En sa sv A s s.heap) (hA : ∀ q, s.heap.size ≤ q → A q) (hR : z_Rm R n0 nf) {d : Nat} (hRf : d + 9 ≤ R.frames) (hRl : 60 * d + 460 ≤ R.locals) (hWD : z_WD) {o : zO} (hO : z_OS l d o) {sc : Option (Nat × (Nat → Int32))} (hsc : ∀ L xs, sc = some (L, xs) → va_X (sa 0) L xs s s.heap ∧ sa 0 < s.heap.size ∧ ¬ A (sa 0)) {ip pl len : Nat} {raw : Instr} (hdec : decode cc (z_pc cd ip) = .ok (raw, len)) {Rt : Option Value → zM → Prop}
    {lv : zL} {st : List Value} {m : zM} {n : Int} (hI : z_okI own nL ini rt cd ip (z_pc cd ip) pl (.iconst n) raw len = true) (h : z_ps sc o (.iconst n) lv st m False (fun lv st m => z_G p l e R s mt args below meth c Q D A sa ad0 n0 nf nL (z_pc cd) (ip + 1) lv st m) (fun t lv st m => z_G p l e R s mt args below meth c Q D A sa ad0 n0 nf nL (z_pc cd) t lv st m) Rt) : z_G p l e R s mt args below meth c Q D A sa ad0 n0 nf nL (z_pc cd) ip lv st m := by
  simp only [z_ps] at h
  exact zs_iconst C hdec hI h
theorem zq_ldc2_w (C : z_Cx p s mt args meth c own cc nL ini rt) (En : z_En sa sv A s s.heap) (hA : ∀ q, s.heap.size ≤ q → A q) (hR : z_Rm R n0 nf) {d : Nat} (hRf : d + 9 ≤ R.frames) (hRl : 60 * d + 460 ≤ R.locals) (hWD : z_WD) {o : zO} (hO : z_OS l d o) {sc : Option (Nat × (Nat → Int32))} (hsc : ∀ L xs, sc = some (L, xs) → va_X (sa 0) L xs s s.heap ∧ sa 0 < s.heap.size ∧ ¬ A (sa 0)) {ip pl len : Nat} {raw : Instr} (hdec : decode cc (z_pc cd ip) = .ok (raw, len)) {Rt : Option Value → zM → Prop}
    {lv : zL} {st : List Value} {m : zM} {k : Nat} (hI : z_okI own nL ini rt cd ip (z_pc cd ip) pl (.ldc2_w k) raw len = true) (h : z_ps sc o (.ldc2_w k) lv st m False (fun lv st m => z_G p l e R s mt args below meth c Q D A sa ad0 n0 nf nL (z_pc cd) (ip + 1) lv st m) (fun t lv st m => z_G p l e R s mt args below meth c Q D A sa ad0 n0 nf nL (z_pc cd) t lv st m) Rt) : z_G p l e R s mt args below meth c Q D A sa ad0 n0 nf nL (z_pc cd) ip lv st m := by
  simp only [z_ps] at h
  exact zs_lconst C hdec hI h
theorem zq_ldc (C : z_Cx p s mt args meth c own cc nL ini rt) (En : z_En sa sv A s s.heap) (hA : ∀ q, s.heap.size ≤ q → A q) (hR : z_Rm R n0 nf) {d : Nat} (hRf : d + 9 ≤ R.frames) (hRl : 60 * d + 460 ≤ R.locals) (hWD : z_WD) {o : zO} (hO : z_OS l d o) {sc : Option (Nat × (Nat → Int32))} (hsc : ∀ L xs, sc = some (L, xs) → va_X (sa 0) L xs s s.heap ∧ sa 0 < s.heap.size ∧ ¬ A (sa 0)) {ip pl len : Nat} {raw : Instr} (hdec : decode cc (z_pc cd ip) = .ok (raw, len)) {Rt : Option Value → zM → Prop}
    {lv : zL} {st : List Value} {m : zM} {k : Nat} (hI : z_okI own nL ini rt cd ip (z_pc cd ip) pl (.ldc k) raw len = true) (h : z_ps sc o (.ldc k) lv st m False (fun lv st m => z_G p l e R s mt args below meth c Q D A sa ad0 n0 nf nL (z_pc cd) (ip + 1) lv st m) (fun t lv st m => z_G p l e R s mt args below meth c Q D A sa ad0 n0 nf nL (z_pc cd) t lv st m) Rt) : z_G p l e R s mt args below meth c Q D A sa ad0 n0 nf nL (z_pc cd) ip lv st m := by
  simp only [z_ps] at h
  simp only [z_okI, Bool.and_eq_true, decide_eq_true_eq] at hI
  obtain ⟨hn, hr⟩ := hI
  cases raw <;> simp only [Bool.false_eq_true, decide_eq_true_eq] at hr
  obtain ⟨rfl, h0, h43, h1, h2⟩ := hr
  exact zs_ldcs C En hdec hn h0 h43 h1 h2 h
theorem zq_iload (C : z_Cx p s mt args meth c own cc nL ini rt) (En : z_En sa sv A s s.heap) (hA : ∀ q, s.heap.size ≤ q → A q) (hR : z_Rm R n0 nf) {d : Nat} (hRf : d + 9 ≤ R.frames) (hRl : 60 * d + 460 ≤ R.locals) (hWD : z_WD) {o : zO} (hO : z_OS l d o) {sc : Option (Nat × (Nat → Int32))} (hsc : ∀ L xs, sc = some (L, xs) → va_X (sa 0) L xs s s.heap ∧ sa 0 < s.heap.size ∧ ¬ A (sa 0)) {ip pl len : Nat} {raw : Instr} (hdec : decode cc (z_pc cd ip) = .ok (raw, len)) {Rt : Option Value → zM → Prop}
    {lv : zL} {st : List Value} {m : zM} {k : Nat} (hI : z_okI own nL ini rt cd ip (z_pc cd ip) pl (.iload k) raw len = true) (h : z_ps sc o (.iload k) lv st m False (fun lv st m => z_G p l e R s mt args below meth c Q D A sa ad0 n0 nf nL (z_pc cd) (ip + 1) lv st m) (fun t lv st m => z_G p l e R s mt args below meth c Q D A sa ad0 n0 nf nL (z_pc cd) t lv st m) Rt) : z_G p l e R s mt args below meth c Q D A sa ad0 n0 nf nL (z_pc cd) ip lv st m := by
  simp only [z_ps] at h
  simp only [z_okI, Bool.and_eq_true, decide_eq_true_eq] at hI
  obtain ⟨hn, hr⟩ := hI
  have hr2 : (raw = .iload k ∧ len = 2) ∨ ∃ i : Fin 4, raw = .iload_n i ∧ (i : Nat) = k ∧ len = 1 := by
    cases raw <;> simp only [Bool.false_eq_true, decide_eq_true_eq] at hr
    · exact Or.inl ⟨by rw [hr.2], hr.1⟩
    · exact Or.inr ⟨_, rfl, hr.2, hr.1⟩
  split at h
  · rename_i hx
    exact zs_iload C hdec hn hr2 hx h
  · exact h.elim
theorem zq_lload (C : z_Cx p s mt args meth c own cc nL ini rt) (En : z_En sa sv A s s.heap) (hA : ∀ q, s.heap.size ≤ q → A q) (hR : z_Rm R n0 nf) {d : Nat} (hRf : d + 9 ≤ R.frames) (hRl : 60 * d + 460 ≤ R.locals) (hWD : z_WD) {o : zO} (hO : z_OS l d o) {sc : Option (Nat × (Nat → Int32))} (hsc : ∀ L xs, sc = some (L, xs) → va_X (sa 0) L xs s s.heap ∧ sa 0 < s.heap.size ∧ ¬ A (sa 0)) {ip pl len : Nat} {raw : Instr} (hdec : decode cc (z_pc cd ip) = .ok (raw, len)) {Rt : Option Value → zM → Prop}
    {lv : zL} {st : List Value} {m : zM} {k : Nat} (hI : z_okI own nL ini rt cd ip (z_pc cd ip) pl (.lload k) raw len = true) (h : z_ps sc o (.lload k) lv st m False (fun lv st m => z_G p l e R s mt args below meth c Q D A sa ad0 n0 nf nL (z_pc cd) (ip + 1) lv st m) (fun t lv st m => z_G p l e R s mt args below meth c Q D A sa ad0 n0 nf nL (z_pc cd) t lv st m) Rt) : z_G p l e R s mt args below meth c Q D A sa ad0 n0 nf nL (z_pc cd) ip lv st m := by
  simp only [z_ps] at h
  simp only [z_okI, Bool.and_eq_true, decide_eq_true_eq] at hI
  obtain ⟨hn, hr⟩ := hI
  have hr2 : (raw = .lload k ∧ len = 2) ∨ ∃ i : Fin 4, raw = .lload_n i ∧ (i : Nat) = k ∧ len = 1 := by
    cases raw <;> simp only [Bool.false_eq_true, decide_eq_true_eq] at hr
    · exact Or.inl ⟨by rw [hr.2], hr.1⟩
    · exact Or.inr ⟨_, rfl, hr.2, hr.1⟩
  split at h
  · rename_i hx
    exact zs_lload C hdec hn hr2 hx h
  · exact h.elim
theorem zq_aload (C : z_Cx p s mt args meth c own cc nL ini rt) (En : z_En sa sv A s s.heap) (hA : ∀ q, s.heap.size ≤ q → A q) (hR : z_Rm R n0 nf) {d : Nat} (hRf : d + 9 ≤ R.frames) (hRl : 60 * d + 460 ≤ R.locals) (hWD : z_WD) {o : zO} (hO : z_OS l d o) {sc : Option (Nat × (Nat → Int32))} (hsc : ∀ L xs, sc = some (L, xs) → va_X (sa 0) L xs s s.heap ∧ sa 0 < s.heap.size ∧ ¬ A (sa 0)) {ip pl len : Nat} {raw : Instr} (hdec : decode cc (z_pc cd ip) = .ok (raw, len)) {Rt : Option Value → zM → Prop}
    {lv : zL} {st : List Value} {m : zM} {k : Nat} (hI : z_okI own nL ini rt cd ip (z_pc cd ip) pl (.aload k) raw len = true) (h : z_ps sc o (.aload k) lv st m False (fun lv st m => z_G p l e R s mt args below meth c Q D A sa ad0 n0 nf nL (z_pc cd) (ip + 1) lv st m) (fun t lv st m => z_G p l e R s mt args below meth c Q D A sa ad0 n0 nf nL (z_pc cd) t lv st m) Rt) : z_G p l e R s mt args below meth c Q D A sa ad0 n0 nf nL (z_pc cd) ip lv st m := by
  simp only [z_ps] at h
  simp only [z_okI, Bool.and_eq_true, decide_eq_true_eq] at hI
  obtain ⟨hn, hr⟩ := hI
  have hr2 : (raw = .aload k ∧ len = 2) ∨ ∃ i : Fin 4, raw = .aload_n i ∧ (i : Nat) = k ∧ len = 1 := by
    cases raw <;> simp only [Bool.false_eq_true, decide_eq_true_eq] at hr
    · exact Or.inl ⟨by rw [hr.2], hr.1⟩
    · exact Or.inr ⟨_, rfl, hr.2, hr.1⟩
  split at h
  · rename_i hx
    exact zs_aload C hdec hn hr2 hx h
  · rename_i hx
    exact zs_aloadN C hdec hn hr2 hx h
  · exact h.elim
theorem zq_istore (C : z_Cx p s mt args meth c own cc nL ini rt) (En : z_En sa sv A s s.heap) (hA : ∀ q, s.heap.size ≤ q → A q) (hR : z_Rm R n0 nf) {d : Nat} (hRf : d + 9 ≤ R.frames) (hRl : 60 * d + 460 ≤ R.locals) (hWD : z_WD) {o : zO} (hO : z_OS l d o) {sc : Option (Nat × (Nat → Int32))} (hsc : ∀ L xs, sc = some (L, xs) → va_X (sa 0) L xs s s.heap ∧ sa 0 < s.heap.size ∧ ¬ A (sa 0)) {ip pl len : Nat} {raw : Instr} (hdec : decode cc (z_pc cd ip) = .ok (raw, len)) {Rt : Option Value → zM → Prop}
    {lv : zL} {st : List Value} {m : zM} {k : Nat} (hI : z_okI own nL ini rt cd ip (z_pc cd ip) pl (.istore k) raw len = true) (h : z_ps sc o (.istore k) lv st m False (fun lv st m => z_G p l e R s mt args below meth c Q D A sa ad0 n0 nf nL (z_pc cd) (ip + 1) lv st m) (fun t lv st m => z_G p l e R s mt args below meth c Q D A sa ad0 n0 nf nL (z_pc cd) t lv st m) Rt) : z_G p l e R s mt args below meth c Q D A sa ad0 n0 nf nL (z_pc cd) ip lv st m := by
  simp only [z_ps] at h
  simp only [z_okI, Bool.and_eq_true, decide_eq_true_eq] at hI
  obtain ⟨⟨hn, hk⟩, hr⟩ := hI
  have hr2 : (raw = .istore k ∧ len = 2) ∨ ∃ i : Fin 4, raw = .istore_n i ∧ (i : Nat) = k ∧ len = 1 := by
    cases raw <;> simp only [Bool.false_eq_true, decide_eq_true_eq] at hr
    · exact Or.inl ⟨by rw [hr.2], hr.1⟩
    · exact Or.inr ⟨_, rfl, hr.2, hr.1⟩
  split at h
  · exact zs_istore C hdec hn hk hr2 h
  · exact h.elim
theorem zq_lstore (C : z_Cx p s mt args meth c own cc nL ini rt) (En : z_En sa sv A s s.heap) (hA : ∀ q, s.heap.size ≤ q → A q) (hR : z_Rm R n0 nf) {d : Nat} (hRf : d + 9 ≤ R.frames) (hRl : 60 * d + 460 ≤ R.locals) (hWD : z_WD) {o : zO} (hO : z_OS l d o) {sc : Option (Nat × (Nat → Int32))} (hsc : ∀ L xs, sc = some (L, xs) → va_X (sa 0) L xs s s.heap ∧ sa 0 < s.heap.size ∧ ¬ A (sa 0)) {ip pl len : Nat} {raw : Instr} (hdec : decode cc (z_pc cd ip) = .ok (raw, len)) {Rt : Option Value → zM → Prop}
    {lv : zL} {st : List Value} {m : zM} {k : Nat} (hI : z_okI own nL ini rt cd ip (z_pc cd ip) pl (.lstore k) raw len = true) (h : z_ps sc o (.lstore k) lv st m False (fun lv st m => z_G p l e R s mt args below meth c Q D A sa ad0 n0 nf nL (z_pc cd) (ip + 1) lv st m) (fun t lv st m => z_G p l e R s mt args below meth c Q D A sa ad0 n0 nf nL (z_pc cd) t lv st m) Rt) : z_G p l e R s mt args below meth c Q D A sa ad0 n0 nf nL (z_pc cd) ip lv st m := by
  simp only [z_ps] at h
  simp only [z_okI, Bool.and_eq_true, decide_eq_true_eq] at hI
  obtain ⟨⟨hn, hk⟩, hr⟩ := hI
  have hr2 : (raw = .lstore k ∧ len = 2) ∨ ∃ i : Fin 4, raw = .lstore_n i ∧ (i : Nat) = k ∧ len = 1 := by
    cases raw <;> simp only [Bool.false_eq_true, decide_eq_true_eq] at hr
    · exact Or.inl ⟨by rw [hr.2], hr.1⟩
    · exact Or.inr ⟨_, rfl, hr.2, hr.1⟩
  split at h
  · exact zs_lstore C hdec hn hk hr2 h
  · exact h.elim
theorem zq_astore (C : z_Cx p s mt args meth c own cc nL ini rt) (En : z_En sa sv A s s.heap) (hA : ∀ q, s.heap.size ≤ q → A q) (hR : z_Rm R n0 nf) {d : Nat} (hRf : d + 9 ≤ R.frames) (hRl : 60 * d + 460 ≤ R.locals) (hWD : z_WD) {o : zO} (hO : z_OS l d o) {sc : Option (Nat × (Nat → Int32))} (hsc : ∀ L xs, sc = some (L, xs) → va_X (sa 0) L xs s s.heap ∧ sa 0 < s.heap.size ∧ ¬ A (sa 0)) {ip pl len : Nat} {raw : Instr} (hdec : decode cc (z_pc cd ip) = .ok (raw, len)) {Rt : Option Value → zM → Prop}
    {lv : zL} {st : List Value} {m : zM} {k : Nat} (hI : z_okI own nL ini rt cd ip (z_pc cd ip) pl (.astore k) raw len = true) (h : z_ps sc o (.astore k) lv st m False (fun lv st m => z_G p l e R s mt args below meth c Q D A sa ad0 n0 nf nL (z_pc cd) (ip + 1) lv st m) (fun t lv st m => z_G p l e R s mt args below meth c Q D A sa ad0 n0 nf nL (z_pc cd) t lv st m) Rt) : z_G p l e R s mt args below meth c Q D A sa ad0 n0 nf nL (z_pc cd) ip lv st m := by
  simp only [z_ps] at h
  simp only [z_okI, Bool.and_eq_true, decide_eq_true_eq] at hI
  obtain ⟨⟨hn, hk⟩, hr⟩ := hI
  have hr2 : (raw = .astore k ∧ len = 2) ∨ ∃ i : Fin 4, raw = .astore_n i ∧ (i : Nat) = k ∧ len = 1 := by
    cases raw <;> simp only [Bool.false_eq_true, decide_eq_true_eq] at hr
    · exact Or.inl ⟨by rw [hr.2], hr.1⟩
    · exact Or.inr ⟨_, rfl, hr.2, hr.1⟩
  split at h
  · exact zs_astore C hdec hn hk hr2 h
  · exact zs_astoreN C hdec hn hk hr2 h
  · exact h.elim
theorem zq_iinc (C : z_Cx p s mt args meth c own cc nL ini rt) (En : z_En sa sv A s s.heap) (hA : ∀ q, s.heap.size ≤ q → A q) (hR : z_Rm R n0 nf) {d : Nat} (hRf : d + 9 ≤ R.frames) (hRl : 60 * d + 460 ≤ R.locals) (hWD : z_WD) {o : zO} (hO : z_OS l d o) {sc : Option (Nat × (Nat → Int32))} (hsc : ∀ L xs, sc = some (L, xs) → va_X (sa 0) L xs s s.heap ∧ sa 0 < s.heap.size ∧ ¬ A (sa 0)) {ip pl len : Nat} {raw : Instr} (hdec : decode cc (z_pc cd ip) = .ok (raw, len)) {Rt : Option Value → zM → Prop}
    {lv : zL} {st : List Value} {m : zM} {k : Nat} {n : Int} (hI : z_okI own nL ini rt cd ip (z_pc cd ip) pl (.iinc k n) raw len = true) (h : z_ps sc o (.iinc k n) lv st m False (fun lv st m => z_G p l e R s mt args below meth c Q D A sa ad0 n0 nf nL (z_pc cd) (ip + 1) lv st m) (fun t lv st m => z_G p l e R s mt args below meth c Q D A sa ad0 n0 nf nL (z_pc cd) t lv st m) Rt) : z_G p l e R s mt args below meth c Q D A sa ad0 n0 nf nL (z_pc cd) ip lv st m := by
  obtain ⟨rfl, rfl, hn, hk⟩ := of_decide_eq_true hI
  simp only [z_ps] at h
  split at h
  · rename_i hx
    exact zs_iinc C hdec hn hk hx h
  · exact h.elim
theorem zq_pop (C : z_Cx p s mt args meth c own cc nL ini rt) (En : z_En sa sv A s s.heap) (hA : ∀ q, s.heap.size ≤ q → A q) (hR : z_Rm R n0 nf) {d : Nat} (hRf : d + 9 ≤ R.frames) (hRl : 60 * d + 460 ≤ R.locals) (hWD : z_WD) {o : zO} (hO : z_OS l d o) {sc : Option (Nat × (Nat → Int32))} (hsc : ∀ L xs, sc = some (L, xs) → va_X (sa 0) L xs s s.heap ∧ sa 0 < s.heap.size ∧ ¬ A (sa 0)) {ip pl len : Nat} {raw : Instr} (hdec : decode cc (z_pc cd ip) = .ok (raw, len)) {Rt : Option Value → zM → Prop}
    {lv : zL} {st : List Value} {m : zM}  (hI : z_okI own nL ini rt cd ip (z_pc cd ip) pl (.pop) raw len = true) (h : z_ps sc o (.pop) lv st m False (fun lv st m => z_G p l e R s mt args below meth c Q D A sa ad0 n0 nf nL (z_pc cd) (ip + 1) lv st m) (fun t lv st m => z_G p l e R s mt args below meth c Q D A sa ad0 n0 nf nL (z_pc cd) t lv st m) Rt) : z_G p l e R s mt args below meth c Q D A sa ad0 n0 nf nL (z_pc cd) ip lv st m := by
  obtain ⟨rfl, rfl, hn⟩ := of_decide_eq_true hI
  simp only [z_ps] at h
  split at h
  · rename_i k r
    cases hb : (z_cs r).ble 8 with
    | false => rw [hb] at h; exact h.elim
    | true =>
      rw [hb] at h
      exact zs_popv C rfl hdec hn h
  · exact h.elim
theorem zq_pop2 (C : z_Cx p s mt args meth c own cc nL ini rt) (En : z_En sa sv A s s.heap) (hA : ∀ q, s.heap.size ≤ q → A q) (hR : z_Rm R n0 nf) {d : Nat} (hRf : d + 9 ≤ R.frames) (hRl : 60 * d + 460 ≤ R.locals) (hWD : z_WD) {o : zO} (hO : z_OS l d o) {sc : Option (Nat × (Nat → Int32))} (hsc : ∀ L xs, sc = some (L, xs) → va_X (sa 0) L xs s s.heap ∧ sa 0 < s.heap.size ∧ ¬ A (sa 0)) {ip pl len : Nat} {raw : Instr} (hdec : decode cc (z_pc cd ip) = .ok (raw, len)) {Rt : Option Value → zM → Prop}
    {lv : zL} {st : List Value} {m : zM}  (hI : z_okI own nL ini rt cd ip (z_pc cd ip) pl (.pop2) raw len = true) (h : z_ps sc o (.pop2) lv st m False (fun lv st m => z_G p l e R s mt args below meth c Q D A sa ad0 n0 nf nL (z_pc cd) (ip + 1) lv st m) (fun t lv st m => z_G p l e R s mt args below meth c Q D A sa ad0 n0 nf nL (z_pc cd) t lv st m) Rt) : z_G p l e R s mt args below meth c Q D A sa ad0 n0 nf nL (z_pc cd) ip lv st m := by
  simp only [z_ps] at h
  simp only [z_okI, Bool.and_eq_true, decide_eq_true_eq] at hI
  obtain ⟨⟨rfl, hn⟩, hr⟩ := hI
  cases raw <;> simp only [Bool.false_eq_true] at hr
  split at h
  · rename_i k r
    cases hb : (z_cs r).ble 8 with
    | false => rw [hb] at h; exact h.elim
    | true =>
      rw [hb] at h
      exact zs_oinit C hR (Nat.ble_eq.mp hb) hdec hn (z_word hr) h
  · exact h.elim
theorem zq_if_icmp (C : z_Cx p s mt args meth c own cc nL ini rt) (En : z_En sa sv A s s.heap) (hA : ∀ q, s.heap.size ≤ q → A q) (hR : z_Rm R n0 nf) {d : Nat} (hRf : d + 9 ≤ R.frames) (hRl : 60 * d + 460 ≤ R.locals) (hWD : z_WD) {o : zO} (hO : z_OS l d o) {sc : Option (Nat × (Nat → Int32))} (hsc : ∀ L xs, sc = some (L, xs) → va_X (sa 0) L xs s s.heap ∧ sa 0 < s.heap.size ∧ ¬ A (sa 0)) {ip pl len : Nat} {raw : Instr} (hdec : decode cc (z_pc cd ip) = .ok (raw, len)) {Rt : Option Value → zM → Prop}
    {lv : zL} {st : List Value} {m : zM} {cn : ClassFile.Cond} {t : Int} (hI : z_okI own nL ini rt cd ip (z_pc cd ip) pl (.if_icmp cn t) raw len = true) (h : z_ps sc o (.if_icmp cn t) lv st m False (fun lv st m => z_G p l e R s mt args below meth c Q D A sa ad0 n0 nf nL (z_pc cd) (ip + 1) lv st m) (fun t lv st m => z_G p l e R s mt args below meth c Q D A sa ad0 n0 nf nL (z_pc cd) t lv st m) Rt) : z_G p l e R s mt args below meth c Q D A sa ad0 n0 nf nL (z_pc cd) ip lv st m := by
  simp only [z_ps] at h
  simp only [z_okI, Bool.and_eq_true, decide_eq_true_eq] at hI
  obtain ⟨⟨rfl, hn⟩, hr⟩ := hI
  cases raw <;> simp only [Bool.false_eq_true, Bool.and_eq_true, decide_eq_true_eq] at hr
  obtain ⟨hcn, hj⟩ := hr
  split at h
  · cases cn
    · subst hcn; exact zs_icmp_eq C hdec hj hn h
    · subst hcn; exact zs_icmp_ne C hdec hj hn h
    · subst hcn; exact zs_icmp_lt C hdec hj hn h
    · subst hcn; exact zs_icmp_ge C hdec hj hn h
    · subst hcn; exact zs_icmp_gt C hdec hj hn h
    · subst hcn; exact zs_icmp_le C hdec hj hn h
  · exact h.elim
theorem zq_ifCond (C : z_Cx p s mt args meth c own cc nL ini rt) (En : z_En sa sv A s s.heap) (hA : ∀ q, s.heap.size ≤ q → A q) (hR : z_Rm R n0 nf) {d : Nat} (hRf : d + 9 ≤ R.frames) (hRl : 60 * d + 460 ≤ R.locals) (hWD : z_WD) {o : zO} (hO : z_OS l d o) {sc : Option (Nat × (Nat → Int32))} (hsc : ∀ L xs, sc = some (L, xs) → va_X (sa 0) L xs s s.heap ∧ sa 0 < s.heap.size ∧ ¬ A (sa 0)) {ip pl len : Nat} {raw : Instr} (hdec : decode cc (z_pc cd ip) = .ok (raw, len)) {Rt : Option Value → zM → Prop}
    {lv : zL} {st : List Value} {m : zM} {cn : ClassFile.Cond} {t : Int} (hI : z_okI own nL ini rt cd ip (z_pc cd ip) pl (.ifCond cn t) raw len = true) (h : z_ps sc o (.ifCond cn t) lv st m False (fun lv st m => z_G p l e R s mt args below meth c Q D A sa ad0 n0 nf nL (z_pc cd) (ip + 1) lv st m) (fun t lv st m => z_G p l e R s mt args below meth c Q D A sa ad0 n0 nf nL (z_pc cd) t lv st m) Rt) : z_G p l e R s mt args below meth c Q D A sa ad0 n0 nf nL (z_pc cd) ip lv st m := by
  simp only [z_ps] at h
  simp only [z_okI, Bool.and_eq_true, decide_eq_true_eq] at hI
  obtain ⟨⟨rfl, hn⟩, hr⟩ := hI
  cases raw <;> simp only [Bool.false_eq_true, Bool.and_eq_true, decide_eq_true_eq] at hr
  obtain ⟨hcn, hj⟩ := hr
  split at h
  · cases cn
    · subst hcn; exact zs_if_eq C hdec hj hn h
    · subst hcn; exact zs_if_ne C hdec hj hn h
    · subst hcn; exact zs_if_lt C hdec hj hn h
    · subst hcn; exact zs_if_ge C hdec hj hn h
    · subst hcn; exact zs_if_gt C hdec hj hn h
    · subst hcn; exact zs_if_le C hdec hj hn h
  · exact h.elim
theorem zq_ifnonnull (C : z_Cx p s mt args meth c own cc nL ini rt) (En : z_En sa sv A s s.heap) (hA : ∀ q, s.heap.size ≤ q → A q) (hR : z_Rm R n0 nf) {d : Nat} (hRf : d + 9 ≤ R.frames) (hRl : 60 * d + 460 ≤ R.locals) (hWD : z_WD) {o : zO} (hO : z_OS l d o) {sc : Option (Nat × (Nat → Int32))} (hsc : ∀ L xs, sc = some (L, xs) → va_X (sa 0) L xs s s.heap ∧ sa 0 < s.heap.size ∧ ¬ A (sa 0)) {ip pl len : Nat} {raw : Instr} (hdec : decode cc (z_pc cd ip) = .ok (raw, len)) {Rt : Option Value → zM → Prop}
    {lv : zL} {st : List Value} {m : zM} {t : Int} (hI : z_okI own nL ini rt cd ip (z_pc cd ip) pl (.ifnonnull t) raw len = true) (h : z_ps sc o (.ifnonnull t) lv st m False (fun lv st m => z_G p l e R s mt args below meth c Q D A sa ad0 n0 nf nL (z_pc cd) (ip + 1) lv st m) (fun t lv st m => z_G p l e R s mt args below meth c Q D A sa ad0 n0 nf nL (z_pc cd) t lv st m) Rt) : z_G p l e R s mt args below meth c Q D A sa ad0 n0 nf nL (z_pc cd) ip lv st m := by
  simp only [z_ps] at h
  simp only [z_okI, Bool.and_eq_true, decide_eq_true_eq] at hI
  obtain ⟨⟨rfl, hn⟩, hr⟩ := hI
  cases raw <;> simp only [Bool.false_eq_true] at hr
  split at h
  · exact zs_ifnn C hdec hr h
  · exact zs_ifnnN C hdec hn h
  · exact h.elim
theorem zq_goto (C : z_Cx p s mt args meth c own cc nL ini rt) (En : z_En sa sv A s s.heap) (hA : ∀ q, s.heap.size ≤ q → A q) (hR : z_Rm R n0 nf) {d : Nat} (hRf : d + 9 ≤ R.frames) (hRl : 60 * d + 460 ≤ R.locals) (hWD : z_WD) {o : zO} (hO : z_OS l d o) {sc : Option (Nat × (Nat → Int32))} (hsc : ∀ L xs, sc = some (L, xs) → va_X (sa 0) L xs s s.heap ∧ sa 0 < s.heap.size ∧ ¬ A (sa 0)) {ip pl len : Nat} {raw : Instr} (hdec : decode cc (z_pc cd ip) = .ok (raw, len)) {Rt : Option Value → zM → Prop}
    {lv : zL} {st : List Value} {m : zM} {t : Int} (hI : z_okI own nL ini rt cd ip (z_pc cd ip) pl (.goto t) raw len = true) (h : z_ps sc o (.goto t) lv st m False (fun lv st m => z_G p l e R s mt args below meth c Q D A sa ad0 n0 nf nL (z_pc cd) (ip + 1) lv st m) (fun t lv st m => z_G p l e R s mt args below meth c Q D A sa ad0 n0 nf nL (z_pc cd) t lv st m) Rt) : z_G p l e R s mt args below meth c Q D A sa ad0 n0 nf nL (z_pc cd) ip lv st m := by
  simp only [z_ps] at h
  simp only [z_okI, Bool.and_eq_true, decide_eq_true_eq] at hI
  obtain ⟨rfl, hr⟩ := hI
  cases raw <;> simp only [Bool.false_eq_true] at hr
  exact zs_goto C hdec hr h
theorem zq_tableswitch (C : z_Cx p s mt args meth c own cc nL ini rt) (En : z_En sa sv A s s.heap) (hA : ∀ q, s.heap.size ≤ q → A q) (hR : z_Rm R n0 nf) {d : Nat} (hRf : d + 9 ≤ R.frames) (hRl : 60 * d + 460 ≤ R.locals) (hWD : z_WD) {o : zO} (hO : z_OS l d o) {sc : Option (Nat × (Nat → Int32))} (hsc : ∀ L xs, sc = some (L, xs) → va_X (sa 0) L xs s s.heap ∧ sa 0 < s.heap.size ∧ ¬ A (sa 0)) {ip pl len : Nat} {raw : Instr} (hdec : decode cc (z_pc cd ip) = .ok (raw, len)) {Rt : Option Value → zM → Prop}
    {lv : zL} {st : List Value} {m : zM} {dd lo hi : Int} {ts : Array Int} (hI : z_okI own nL ini rt cd ip (z_pc cd ip) pl (.tableswitch dd lo hi ts) raw len = true) (h : z_ps sc o (.tableswitch dd lo hi ts) lv st m False (fun lv st m => z_G p l e R s mt args below meth c Q D A sa ad0 n0 nf nL (z_pc cd) (ip + 1) lv st m) (fun t lv st m => z_G p l e R s mt args below meth c Q D A sa ad0 n0 nf nL (z_pc cd) t lv st m) Rt) : z_G p l e R s mt args below meth c Q D A sa ad0 n0 nf nL (z_pc cd) ip lv st m := by
  simp only [z_ps] at h
  simp only [z_okI] at hI
  cases raw <;> simp only [Bool.false_eq_true, Bool.and_eq_true, decide_eq_true_eq, List.all_eq_true, List.mem_range] at hI
  obtain ⟨⟨⟨rfl, rfl, hsz, hhi⟩, hj⟩, hall⟩ := hI
  split at h
  · refine zs_table C hdec hsz hhi hj (fun i hi a b ha hb => ?_) h
    have := hall i hi
    rw [ha, hb] at this
    exact this
  · exact h.elim
end ZS
