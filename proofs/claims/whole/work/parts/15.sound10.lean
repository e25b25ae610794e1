/-! ONE INSTRUCTION, whichever it is: fields, arrays, calls, ends -/
section ZS
variable {p : Program} {l : Launch} {e : Env} {R : Room} {s : State} {mt : MethodId} {args : Array Value} {below : List Frame} {meth : Method} {c : Code} {Q : State → Prop} {D : va_G} {A : Nat → Prop} {sa sv ad0 : Nat → Nat} {n0 nf nL : Nat} {cd : List zI} {own : String} {cc : ByteArray} {ini : Bool} {rt : Option FieldType}

theorem zq_getfield (C : z_Cx p s mt args meth c own cc nL ini rt) (En : z_En sa sv A s s.heap) (hA : ∀ q, s.heap.size ≤ q → A q) (hR : z_Rm R n0 nf) {d : Nat} (hRf : d + 9 ≤ R.frames) (hRl : 60 * d + 460 ≤ R.locals) (hWD : z_WD) {o : zO} (hO : z_OS l d o) {sc : Option (Nat × (Nat → Int32))} (hsc : ∀ L xs, sc = some (L, xs) → va_X (sa 0) L xs s s.heap ∧ sa 0 < s.heap.size ∧ ¬ A (sa 0)) {ip pl len : Nat} {raw : Instr} (hdec : decode cc (z_pc cd ip) = .ok (raw, len)) {Rt : Option Value → zM → Prop}
    {lv : zL} {st : List Value} {m : zM} {q : Nat} (hI : z_okI own nL ini rt cd ip (z_pc cd ip) pl (.getfield q) raw len = true) (h : z_ps sc o (.getfield q) lv st m False (fun lv st m => z_G p l e R s mt args below meth c Q D A sa ad0 n0 nf nL (z_pc cd) (ip + 1) lv st m) (fun t lv st m => z_G p l e R s mt args below meth c Q D A sa ad0 n0 nf nL (z_pc cd) t lv st m) Rt) : z_G p l e R s mt args below meth c Q D A sa ad0 n0 nf nL (z_pc cd) ip lv st m := by
  simp only [z_ps] at h
  simp only [z_okI, Bool.and_eq_true, decide_eq_true_eq] at hI
  obtain ⟨⟨rfl, hn⟩, hr⟩ := hI
  cases raw <;> simp only [Bool.false_eq_true, Bool.and_eq_true] at hr
  obtain ⟨hf, hkd⟩ := hr
  split at h
  · rename_i k r
    cases hb : ((z_tk k).beq 0 && (z_tn k).beq (q / 4096)) with
    | false => rw [hb] at h; exact h.elim
    | true =>
      rw [hb] at h
      simp only [Bool.and_eq_true, Nat.beq_eq] at hb
      simp only [cond_true] at h
      generalize hq4 : q % 4 = q4 at h hkd
      generalize hfk : z_fk (q / 4096) (q / 4 % 1024) = fk at hkd
      match q4, fk, hkd with
      | 0, 0, _ => exact zs_getf (v := .int (m.2.2.1 k (q / 4 % 1024))) C hdec hn hf hb.1 hb.2 (fun ad hw => by rw [hfk]; rfl) (fun _ => trivial) h
      | 0, 3, _ => exact zs_getf (v := .int (m.2.2.1 k (q / 4 % 1024))) C hdec hn hf hb.1 hb.2 (fun ad hw => by rw [hfk]; rfl) (fun _ => trivial) h
      | 1, 1, _ => exact zs_getf (v := .long (m.2.2.2 k (q / 4 % 1024))) C hdec hn hf hb.1 hb.2 (fun ad hw => by rw [hfk]; rfl) (fun _ => trivial) h
      | 2, 2, _ => exact zs_getf C hdec hn hf hb.1 hb.2 (fun ad hw => by rw [hfk]; exact z_tr_rv hw _ _) (fun hw => z_ok_rv hw _ _) h
  · exact h.elim
theorem zq_putfield (C : z_Cx p s mt args meth c own cc nL ini rt) (En : z_En sa sv A s s.heap) (hA : ∀ q, s.heap.size ≤ q → A q) (hR : z_Rm R n0 nf) {d : Nat} (hRf : d + 9 ≤ R.frames) (hRl : 60 * d + 460 ≤ R.locals) (hWD : z_WD) {o : zO} (hO : z_OS l d o) {sc : Option (Nat × (Nat → Int32))} (hsc : ∀ L xs, sc = some (L, xs) → va_X (sa 0) L xs s s.heap ∧ sa 0 < s.heap.size ∧ ¬ A (sa 0)) {ip pl len : Nat} {raw : Instr} (hdec : decode cc (z_pc cd ip) = .ok (raw, len)) {Rt : Option Value → zM → Prop}
    {lv : zL} {st : List Value} {m : zM} {q : Nat} (hI : z_okI own nL ini rt cd ip (z_pc cd ip) pl (.putfield q) raw len = true) (h : z_ps sc o (.putfield q) lv st m False (fun lv st m => z_G p l e R s mt args below meth c Q D A sa ad0 n0 nf nL (z_pc cd) (ip + 1) lv st m) (fun t lv st m => z_G p l e R s mt args below meth c Q D A sa ad0 n0 nf nL (z_pc cd) t lv st m) Rt) : z_G p l e R s mt args below meth c Q D A sa ad0 n0 nf nL (z_pc cd) ip lv st m := by
  simp only [z_ps] at h
  simp only [z_okI, Bool.and_eq_true, decide_eq_true_eq] at hI
  obtain ⟨⟨rfl, hn⟩, hr⟩ := hI
  cases raw <;> simp only [Bool.false_eq_true, Bool.and_eq_true] at hr
  obtain ⟨⟨hf, hfin⟩, hkd⟩ := hr
  split at h
  · rename_i x k r
    cases hb : ((z_tk k).beq 0 && (z_tn k).beq (q / 4096)) with
    | false => rw [hb] at h; exact h.elim
    | true =>
      rw [hb] at h
      simp only [Bool.and_eq_true, Nat.beq_eq] at hb
      simp only [cond_true] at h
      generalize hq4 : q % 4 = q4 at h hkd
      generalize hfk : z_fk (q / 4096) (q / 4 % 1024) = fk at hkd
      match q4, fk, hkd with
      | 0, 0, hkd => exact zs_puti C hdec hn hf hfin hb.1 hb.2 (Or.inl ⟨hfk, of_decide_eq_true hkd⟩) h
      | 3, 3, hkd =>
        by_cases hx : x = 0 ∨ x = 1
        · rw [if_pos hx] at h
          exact zs_puti C hdec hn hf hfin hb.1 hb.2 (Or.inr ⟨hfk, of_decide_eq_true hkd, hx⟩) h
        · rw [if_neg hx] at h; exact h.elim
      | 1, 1, hkd => exact h.elim
      | 2, 2, hkd => exact h.elim
  · rename_i x k r
    cases hb : ((z_tk k).beq 0 && (z_tn k).beq (q / 4096)) with
    | false => rw [hb] at h; exact h.elim
    | true =>
      rw [hb] at h
      simp only [Bool.and_eq_true, Nat.beq_eq] at hb
      simp only [cond_true] at h
      generalize hq4 : q % 4 = q4 at h hkd
      generalize hfk : z_fk (q / 4096) (q / 4 % 1024) = fk at hkd
      match q4, fk, hkd with
      | 0, 0, hkd => exact h.elim
      | 3, 3, hkd => exact h.elim
      | 1, 1, hkd => exact zs_putl C hdec hn hf hfin hb.1 hb.2 hfk (of_decide_eq_true hkd) h
      | 2, 2, hkd => exact h.elim
  · rename_i x k r
    cases hb : ((z_tk k).beq 0 && (z_tn k).beq (q / 4096) && x.blt z_sb) with
    | false => rw [hb] at h; exact h.elim
    | true =>
      rw [hb] at h
      simp only [Bool.and_eq_true, Nat.beq_eq, Nat.blt_eq] at hb
      simp only [cond_true] at h
      generalize hq4 : q % 4 = q4 at h hkd
      generalize hfk : z_fk (q / 4096) (q / 4 % 1024) = fk at hkd
      match q4, fk, hkd with
      | 0, 0, hkd => exact h.elim
      | 3, 3, hkd => exact h.elim
      | 1, 1, hkd => exact h.elim
      | 2, 2, hkd => exact zs_putr C hdec hn hf hfin hb.1.1 hb.1.2 hfk hkd hb.2 h
  · exact h.elim
theorem zq_arraylength (C : z_Cx p s mt args meth c own cc nL ini rt) (En : z_En sa sv A s s.heap) (hA : ∀ q, s.heap.size ≤ q → A q) (hR : z_Rm R n0 nf) {d : Nat} (hRf : d + 9 ≤ R.frames) (hRl : 60 * d + 460 ≤ R.locals) (hWD : z_WD) {o : zO} (hO : z_OS l d o) {sc : Option (Nat × (Nat → Int32))} (hsc : ∀ L xs, sc = some (L, xs) → va_X (sa 0) L xs s s.heap ∧ sa 0 < s.heap.size ∧ ¬ A (sa 0)) {ip pl len : Nat} {raw : Instr} (hdec : decode cc (z_pc cd ip) = .ok (raw, len)) {Rt : Option Value → zM → Prop}
    {lv : zL} {st : List Value} {m : zM}  (hI : z_okI own nL ini rt cd ip (z_pc cd ip) pl (.arraylength) raw len = true) (h : z_ps sc o (.arraylength) lv st m False (fun lv st m => z_G p l e R s mt args below meth c Q D A sa ad0 n0 nf nL (z_pc cd) (ip + 1) lv st m) (fun t lv st m => z_G p l e R s mt args below meth c Q D A sa ad0 n0 nf nL (z_pc cd) t lv st m) Rt) : z_G p l e R s mt args below meth c Q D A sa ad0 n0 nf nL (z_pc cd) ip lv st m := by
  obtain ⟨rfl, rfl, hn⟩ := of_decide_eq_true hI
  simp only [z_ps] at h
  split at h
  · rename_i k r
    cases hb : k.beq z_sb with
    | true =>
      rw [hb] at h
      have hk := Nat.beq_eq.mp hb
      subst hk
      match sc, hsc, h with
      | some (L, xs), hsc, h =>
        obtain ⟨h1, h2, h3⟩ := hsc L xs rfl
        exact zs_slen C h1 h2 h3 hdec hn h
      | none, hsc, h => exact h.elim
    | false =>
      rw [hb] at h
      cases hb2 : (Nat.blt 0 (z_tk k) && (z_tk k).blt 6) with
      | false => rw [hb2] at h; exact h.elim
      | true =>
        rw [hb2] at h
        simp only [Bool.and_eq_true, Nat.blt_eq] at hb2
        exact zs_alen C hdec hn hb2 h
  · exact h.elim
theorem zq_iaload (C : z_Cx p s mt args meth c own cc nL ini rt) (En : z_En sa sv A s s.heap) (hA : ∀ q, s.heap.size ≤ q → A q) (hR : z_Rm R n0 nf) {d : Nat} (hRf : d + 9 ≤ R.frames) (hRl : 60 * d + 460 ≤ R.locals) (hWD : z_WD) {o : zO} (hO : z_OS l d o) {sc : Option (Nat × (Nat → Int32))} (hsc : ∀ L xs, sc = some (L, xs) → va_X (sa 0) L xs s s.heap ∧ sa 0 < s.heap.size ∧ ¬ A (sa 0)) {ip pl len : Nat} {raw : Instr} (hdec : decode cc (z_pc cd ip) = .ok (raw, len)) {Rt : Option Value → zM → Prop}
    {lv : zL} {st : List Value} {m : zM}  (hI : z_okI own nL ini rt cd ip (z_pc cd ip) pl (.iaload) raw len = true) (h : z_ps sc o (.iaload) lv st m False (fun lv st m => z_G p l e R s mt args below meth c Q D A sa ad0 n0 nf nL (z_pc cd) (ip + 1) lv st m) (fun t lv st m => z_G p l e R s mt args below meth c Q D A sa ad0 n0 nf nL (z_pc cd) t lv st m) Rt) : z_G p l e R s mt args below meth c Q D A sa ad0 n0 nf nL (z_pc cd) ip lv st m := by
  obtain ⟨rfl, rfl, hn⟩ := of_decide_eq_true hI
  simp only [z_ps] at h
  split at h
  · rename_i j k r
    cases hb0 : k.beq z_sb with
    | true =>
      rw [hb0] at h
      have hk := Nat.beq_eq.mp hb0
      subst hk
      match sc, hsc, h with
      | some (L, xs), hsc, h =>
        obtain ⟨h1, h2, h3⟩ := hsc L xs rfl
        by_cases hj : j < 0 ∨ L ≤ j.toNatClampNeg
        · simp only [cond_true, if_pos hj] at h
        · simp only [cond_true, if_neg hj] at h
          exact zs_sld C h1 h2 h3 hj hdec hn h
      | none, hsc, h => exact h.elim
    | false =>
      rw [hb0] at h
      simp only [cond_false] at h
      cases hb : (z_tk k).beq 1 with
      | false => rw [hb] at h; exact h.elim
      | true =>
        rw [hb] at h
        simp only [cond_true] at h
        by_cases hj : j < 0 ∨ z_tn k ≤ j.toNatClampNeg
        · rw [if_pos hj] at h; exact h.elim
        · rw [if_neg hj] at h
          exact zs_iald C hdec hn (Nat.beq_eq.mp hb) hj h
  · exact h.elim
theorem zq_baload (C : z_Cx p s mt args meth c own cc nL ini rt) (En : z_En sa sv A s s.heap) (hA : ∀ q, s.heap.size ≤ q → A q) (hR : z_Rm R n0 nf) {d : Nat} (hRf : d + 9 ≤ R.frames) (hRl : 60 * d + 460 ≤ R.locals) (hWD : z_WD) {o : zO} (hO : z_OS l d o) {sc : Option (Nat × (Nat → Int32))} (hsc : ∀ L xs, sc = some (L, xs) → va_X (sa 0) L xs s s.heap ∧ sa 0 < s.heap.size ∧ ¬ A (sa 0)) {ip pl len : Nat} {raw : Instr} (hdec : decode cc (z_pc cd ip) = .ok (raw, len)) {Rt : Option Value → zM → Prop}
    {lv : zL} {st : List Value} {m : zM}  (hI : z_okI own nL ini rt cd ip (z_pc cd ip) pl (.baload) raw len = true) (h : z_ps sc o (.baload) lv st m False (fun lv st m => z_G p l e R s mt args below meth c Q D A sa ad0 n0 nf nL (z_pc cd) (ip + 1) lv st m) (fun t lv st m => z_G p l e R s mt args below meth c Q D A sa ad0 n0 nf nL (z_pc cd) t lv st m) Rt) : z_G p l e R s mt args below meth c Q D A sa ad0 n0 nf nL (z_pc cd) ip lv st m := by
  obtain ⟨rfl, rfl, hn⟩ := of_decide_eq_true hI
  simp only [z_ps] at h
  split at h
  · rename_i j k r
    cases hb : ((z_tk k).beq 2 || (z_tk k).beq 3) with
    | false => rw [hb] at h; exact h.elim
    | true =>
      rw [hb] at h
      simp only [cond_true] at h
      simp only [Bool.or_eq_true, Nat.beq_eq] at hb
      by_cases hj : j < 0 ∨ z_tn k ≤ j.toNatClampNeg
      · rw [if_pos hj] at h; exact h.elim
      · rw [if_neg hj] at h
        rcases hb with hb | hb
        · exact zs_bald C hdec hn hb hj h
        · exact zs_zald C hdec hn hb hj h
  · exact h.elim
theorem zq_laload (C : z_Cx p s mt args meth c own cc nL ini rt) (En : z_En sa sv A s s.heap) (hA : ∀ q, s.heap.size ≤ q → A q) (hR : z_Rm R n0 nf) {d : Nat} (hRf : d + 9 ≤ R.frames) (hRl : 60 * d + 460 ≤ R.locals) (hWD : z_WD) {o : zO} (hO : z_OS l d o) {sc : Option (Nat × (Nat → Int32))} (hsc : ∀ L xs, sc = some (L, xs) → va_X (sa 0) L xs s s.heap ∧ sa 0 < s.heap.size ∧ ¬ A (sa 0)) {ip pl len : Nat} {raw : Instr} (hdec : decode cc (z_pc cd ip) = .ok (raw, len)) {Rt : Option Value → zM → Prop}
    {lv : zL} {st : List Value} {m : zM}  (hI : z_okI own nL ini rt cd ip (z_pc cd ip) pl (.laload) raw len = true) (h : z_ps sc o (.laload) lv st m False (fun lv st m => z_G p l e R s mt args below meth c Q D A sa ad0 n0 nf nL (z_pc cd) (ip + 1) lv st m) (fun t lv st m => z_G p l e R s mt args below meth c Q D A sa ad0 n0 nf nL (z_pc cd) t lv st m) Rt) : z_G p l e R s mt args below meth c Q D A sa ad0 n0 nf nL (z_pc cd) ip lv st m := by
  obtain ⟨rfl, rfl, hn⟩ := of_decide_eq_true hI
  simp only [z_ps] at h
  split at h
  · rename_i j k r
    cases hb : (z_tk k).beq 4 with
    | false => rw [hb] at h; exact h.elim
    | true =>
      rw [hb] at h
      simp only [cond_true] at h
      by_cases hj : j < 0 ∨ z_tn k ≤ j.toNatClampNeg
      · rw [if_pos hj] at h; exact h.elim
      · rw [if_neg hj] at h
        exact zs_lald C hdec hn (Nat.beq_eq.mp hb) hj h
  · exact h.elim
theorem zq_aaload (C : z_Cx p s mt args meth c own cc nL ini rt) (En : z_En sa sv A s s.heap) (hA : ∀ q, s.heap.size ≤ q → A q) (hR : z_Rm R n0 nf) {d : Nat} (hRf : d + 9 ≤ R.frames) (hRl : 60 * d + 460 ≤ R.locals) (hWD : z_WD) {o : zO} (hO : z_OS l d o) {sc : Option (Nat × (Nat → Int32))} (hsc : ∀ L xs, sc = some (L, xs) → va_X (sa 0) L xs s s.heap ∧ sa 0 < s.heap.size ∧ ¬ A (sa 0)) {ip pl len : Nat} {raw : Instr} (hdec : decode cc (z_pc cd ip) = .ok (raw, len)) {Rt : Option Value → zM → Prop}
    {lv : zL} {st : List Value} {m : zM}  (hI : z_okI own nL ini rt cd ip (z_pc cd ip) pl (.aaload) raw len = true) (h : z_ps sc o (.aaload) lv st m False (fun lv st m => z_G p l e R s mt args below meth c Q D A sa ad0 n0 nf nL (z_pc cd) (ip + 1) lv st m) (fun t lv st m => z_G p l e R s mt args below meth c Q D A sa ad0 n0 nf nL (z_pc cd) t lv st m) Rt) : z_G p l e R s mt args below meth c Q D A sa ad0 n0 nf nL (z_pc cd) ip lv st m := by
  obtain ⟨rfl, rfl, hn⟩ := of_decide_eq_true hI
  simp only [z_ps] at h
  split at h
  · rename_i j k r
    cases hb : (z_tk k).beq 5 with
    | false => rw [hb] at h; exact h.elim
    | true =>
      rw [hb] at h
      simp only [cond_true] at h
      by_cases hj : j < 0 ∨ z_tn k ≤ j.toNatClampNeg
      · rw [if_pos hj] at h; exact h.elim
      · rw [if_neg hj] at h
        exact zs_aald C hdec hn (Nat.beq_eq.mp hb) hj h
  · exact h.elim
theorem zq_iastore (C : z_Cx p s mt args meth c own cc nL ini rt) (En : z_En sa sv A s s.heap) (hA : ∀ q, s.heap.size ≤ q → A q) (hR : z_Rm R n0 nf) {d : Nat} (hRf : d + 9 ≤ R.frames) (hRl : 60 * d + 460 ≤ R.locals) (hWD : z_WD) {o : zO} (hO : z_OS l d o) {sc : Option (Nat × (Nat → Int32))} (hsc : ∀ L xs, sc = some (L, xs) → va_X (sa 0) L xs s s.heap ∧ sa 0 < s.heap.size ∧ ¬ A (sa 0)) {ip pl len : Nat} {raw : Instr} (hdec : decode cc (z_pc cd ip) = .ok (raw, len)) {Rt : Option Value → zM → Prop}
    {lv : zL} {st : List Value} {m : zM}  (hI : z_okI own nL ini rt cd ip (z_pc cd ip) pl (.iastore) raw len = true) (h : z_ps sc o (.iastore) lv st m False (fun lv st m => z_G p l e R s mt args below meth c Q D A sa ad0 n0 nf nL (z_pc cd) (ip + 1) lv st m) (fun t lv st m => z_G p l e R s mt args below meth c Q D A sa ad0 n0 nf nL (z_pc cd) t lv st m) Rt) : z_G p l e R s mt args below meth c Q D A sa ad0 n0 nf nL (z_pc cd) ip lv st m := by
  obtain ⟨rfl, rfl, hn⟩ := of_decide_eq_true hI
  simp only [z_ps] at h
  split at h
  · rename_i x j k r
    cases hb : (z_tk k).beq 1 with
    | false => rw [hb] at h; exact h.elim
    | true =>
      rw [hb] at h
      simp only [cond_true] at h
      by_cases hj : j < 0 ∨ z_tn k ≤ j.toNatClampNeg
      · rw [if_pos hj] at h; exact h.elim
      · rw [if_neg hj] at h
        exact zs_iast C hdec hn (Nat.beq_eq.mp hb) hj h
  · exact h.elim
theorem zq_lastore (C : z_Cx p s mt args meth c own cc nL ini rt) (En : z_En sa sv A s s.heap) (hA : ∀ q, s.heap.size ≤ q → A q) (hR : z_Rm R n0 nf) {d : Nat} (hRf : d + 9 ≤ R.frames) (hRl : 60 * d + 460 ≤ R.locals) (hWD : z_WD) {o : zO} (hO : z_OS l d o) {sc : Option (Nat × (Nat → Int32))} (hsc : ∀ L xs, sc = some (L, xs) → va_X (sa 0) L xs s s.heap ∧ sa 0 < s.heap.size ∧ ¬ A (sa 0)) {ip pl len : Nat} {raw : Instr} (hdec : decode cc (z_pc cd ip) = .ok (raw, len)) {Rt : Option Value → zM → Prop}
    {lv : zL} {st : List Value} {m : zM}  (hI : z_okI own nL ini rt cd ip (z_pc cd ip) pl (.lastore) raw len = true) (h : z_ps sc o (.lastore) lv st m False (fun lv st m => z_G p l e R s mt args below meth c Q D A sa ad0 n0 nf nL (z_pc cd) (ip + 1) lv st m) (fun t lv st m => z_G p l e R s mt args below meth c Q D A sa ad0 n0 nf nL (z_pc cd) t lv st m) Rt) : z_G p l e R s mt args below meth c Q D A sa ad0 n0 nf nL (z_pc cd) ip lv st m := by
  obtain ⟨rfl, rfl, hn⟩ := of_decide_eq_true hI
  simp only [z_ps] at h
  split at h
  · rename_i x j k r
    cases hb : (z_tk k).beq 4 with
    | false => rw [hb] at h; exact h.elim
    | true =>
      rw [hb] at h
      simp only [cond_true] at h
      by_cases hj : j < 0 ∨ z_tn k ≤ j.toNatClampNeg
      · rw [if_pos hj] at h; exact h.elim
      · rw [if_neg hj] at h
        exact zs_last C hdec hn (Nat.beq_eq.mp hb) hj h
  · exact h.elim
theorem zq_bastore (C : z_Cx p s mt args meth c own cc nL ini rt) (En : z_En sa sv A s s.heap) (hA : ∀ q, s.heap.size ≤ q → A q) (hR : z_Rm R n0 nf) {d : Nat} (hRf : d + 9 ≤ R.frames) (hRl : 60 * d + 460 ≤ R.locals) (hWD : z_WD) {o : zO} (hO : z_OS l d o) {sc : Option (Nat × (Nat → Int32))} (hsc : ∀ L xs, sc = some (L, xs) → va_X (sa 0) L xs s s.heap ∧ sa 0 < s.heap.size ∧ ¬ A (sa 0)) {ip pl len : Nat} {raw : Instr} (hdec : decode cc (z_pc cd ip) = .ok (raw, len)) {Rt : Option Value → zM → Prop}
    {lv : zL} {st : List Value} {m : zM}  (hI : z_okI own nL ini rt cd ip (z_pc cd ip) pl (.bastore) raw len = true) (h : z_ps sc o (.bastore) lv st m False (fun lv st m => z_G p l e R s mt args below meth c Q D A sa ad0 n0 nf nL (z_pc cd) (ip + 1) lv st m) (fun t lv st m => z_G p l e R s mt args below meth c Q D A sa ad0 n0 nf nL (z_pc cd) t lv st m) Rt) : z_G p l e R s mt args below meth c Q D A sa ad0 n0 nf nL (z_pc cd) ip lv st m := by
  obtain ⟨rfl, rfl, hn⟩ := of_decide_eq_true hI
  simp only [z_ps] at h
  split at h
  · rename_i x j k r
    cases hb2 : (z_tk k).beq 2 with
    | true =>
      rw [hb2] at h
      simp only [cond_true] at h
      by_cases hj : j < 0 ∨ z_tn k ≤ j.toNatClampNeg
      · rw [if_pos hj] at h; exact h.elim
      · rw [if_neg hj] at h
        exact zs_bast C hdec hn (Nat.beq_eq.mp hb2) hj h
    | false =>
      rw [hb2] at h
      simp only [cond_false] at h
      cases hb : (z_tk k).beq 3 with
      | false => rw [hb] at h; exact h.elim
      | true =>
        rw [hb] at h
        simp only [cond_true] at h
        by_cases hj : j < 0 ∨ z_tn k ≤ j.toNatClampNeg
        · rw [if_pos hj] at h; exact h.elim
        · rw [if_neg hj] at h
          exact zs_zast C hdec hn (Nat.beq_eq.mp hb) hj h
  · exact h.elim
theorem zq_aastore (C : z_Cx p s mt args meth c own cc nL ini rt) (En : z_En sa sv A s s.heap) (hA : ∀ q, s.heap.size ≤ q → A q) (hR : z_Rm R n0 nf) {d : Nat} (hRf : d + 9 ≤ R.frames) (hRl : 60 * d + 460 ≤ R.locals) (hWD : z_WD) {o : zO} (hO : z_OS l d o) {sc : Option (Nat × (Nat → Int32))} (hsc : ∀ L xs, sc = some (L, xs) → va_X (sa 0) L xs s s.heap ∧ sa 0 < s.heap.size ∧ ¬ A (sa 0)) {ip pl len : Nat} {raw : Instr} (hdec : decode cc (z_pc cd ip) = .ok (raw, len)) {Rt : Option Value → zM → Prop}
    {lv : zL} {st : List Value} {m : zM}  (hI : z_okI own nL ini rt cd ip (z_pc cd ip) pl (.aastore) raw len = true) (h : z_ps sc o (.aastore) lv st m False (fun lv st m => z_G p l e R s mt args below meth c Q D A sa ad0 n0 nf nL (z_pc cd) (ip + 1) lv st m) (fun t lv st m => z_G p l e R s mt args below meth c Q D A sa ad0 n0 nf nL (z_pc cd) t lv st m) Rt) : z_G p l e R s mt args below meth c Q D A sa ad0 n0 nf nL (z_pc cd) ip lv st m := by
  obtain ⟨rfl, rfl, hn⟩ := of_decide_eq_true hI
  simp only [z_ps] at h
  split at h
  · rename_i x j k r
    cases hb : ((z_tk k).beq 5 && x.blt z_sb && (z_tk x).beq 0 && (z_tn x).beq z_hc) with
    | false => rw [hb] at h; exact h.elim
    | true =>
      rw [hb] at h
      simp only [cond_true] at h
      simp only [Bool.and_eq_true, Nat.beq_eq] at hb
      by_cases hj : j < 0 ∨ z_tn k ≤ j.toNatClampNeg
      · rw [if_pos hj] at h; exact h.elim
      · rw [if_neg hj] at h
        exact zs_aast C hdec hn hb.1.1.1 hb.1.2 hb.2 hj h
  · exact h.elim
theorem zq_new (C : z_Cx p s mt args meth c own cc nL ini rt) (En : z_En sa sv A s s.heap) (hA : ∀ q, s.heap.size ≤ q → A q) (hR : z_Rm R n0 nf) {d : Nat} (hRf : d + 9 ≤ R.frames) (hRl : 60 * d + 460 ≤ R.locals) (hWD : z_WD) {o : zO} (hO : z_OS l d o) {sc : Option (Nat × (Nat → Int32))} (hsc : ∀ L xs, sc = some (L, xs) → va_X (sa 0) L xs s s.heap ∧ sa 0 < s.heap.size ∧ ¬ A (sa 0)) {ip pl len : Nat} {raw : Instr} (hdec : decode cc (z_pc cd ip) = .ok (raw, len)) {Rt : Option Value → zM → Prop}
    {lv : zL} {st : List Value} {m : zM} {ci : Nat} (hI : z_okI own nL ini rt cd ip (z_pc cd ip) pl (.new ci) raw len = true) (h : z_ps sc o (.new ci) lv st m False (fun lv st m => z_G p l e R s mt args below meth c Q D A sa ad0 n0 nf nL (z_pc cd) (ip + 1) lv st m) (fun t lv st m => z_G p l e R s mt args below meth c Q D A sa ad0 n0 nf nL (z_pc cd) t lv st m) Rt) : z_G p l e R s mt args below meth c Q D A sa ad0 n0 nf nL (z_pc cd) ip lv st m := by
  simp only [z_ps] at h
  simp only [z_okI, Bool.and_eq_true, decide_eq_true_eq] at hI
  obtain ⟨⟨rfl, hn⟩, hr⟩ := hI
  cases hb : ((z_tk m.1).beq 0 && (z_tn m.1).beq ci) with
  | false => rw [hb] at h; exact h.elim
  | true =>
    rw [hb] at h
    simp only [Bool.and_eq_true, Nat.beq_eq] at hb
    cases hc : zC[ci]? with
    | none => rw [hc] at hr; cases raw <;> simp only [Bool.false_eq_true] at hr
    | some cr =>
      rw [hc] at hr
      cases raw <;> simp only [Bool.false_eq_true] at hr
      exact zs_new (pl := pl) C hR hA hdec hn hc (z_word hr) hb.1 hb.2 h
theorem z_tns_le : ∀ k, z_tn k ≤ 2000 := by
  intro k
  have h : ∀ x ∈ z_tns, x ≤ 2000 := by decide +kernel
  rcases Nat.lt_or_ge k z_tns.length with g | g
  · have e : z_tn k = z_tns[k] := by simp [z_tn, g]
    rw [e]
    exact h _ (List.getElem_mem g)
  · simp [z_tn, g]
theorem zq_newarray (C : z_Cx p s mt args meth c own cc nL ini rt) (En : z_En sa sv A s s.heap) (hA : ∀ q, s.heap.size ≤ q → A q) (hR : z_Rm R n0 nf) {d : Nat} (hRf : d + 9 ≤ R.frames) (hRl : 60 * d + 460 ≤ R.locals) (hWD : z_WD) {o : zO} (hO : z_OS l d o) {sc : Option (Nat × (Nat → Int32))} (hsc : ∀ L xs, sc = some (L, xs) → va_X (sa 0) L xs s s.heap ∧ sa 0 < s.heap.size ∧ ¬ A (sa 0)) {ip pl len : Nat} {raw : Instr} (hdec : decode cc (z_pc cd ip) = .ok (raw, len)) {Rt : Option Value → zM → Prop}
    {lv : zL} {st : List Value} {m : zM} {t : ArrayType} (hI : z_okI own nL ini rt cd ip (z_pc cd ip) pl (.newarray t) raw len = true) (h : z_ps sc o (.newarray t) lv st m False (fun lv st m => z_G p l e R s mt args below meth c Q D A sa ad0 n0 nf nL (z_pc cd) (ip + 1) lv st m) (fun t lv st m => z_G p l e R s mt args below meth c Q D A sa ad0 n0 nf nL (z_pc cd) t lv st m) Rt) : z_G p l e R s mt args below meth c Q D A sa ad0 n0 nf nL (z_pc cd) ip lv st m := by
  obtain ⟨rfl, rfl, hn, ht⟩ := of_decide_eq_true hI
  simp only [z_ps] at h
  split at h
  · rename_i x r
    cases hb : (z_tk m.1).beq (z_ar t) with
    | false => rw [hb] at h; exact h.elim
    | true =>
      rw [hb] at h
      simp only [cond_true] at h
      have hb := Nat.beq_eq.mp hb
      by_cases hx : x = Int32.ofNat (z_tn m.1)
      · rw [if_pos hx] at h
        subst hx
        rcases ht with rfl | rfl | rfl | rfl
        · exact zs_newa_int C hR hA hdec hn hb (z_tns_le _) h
        · exact zs_newa_byte C hR hA hdec hn hb (z_tns_le _) h
        · exact zs_newa_boolean C hR hA hdec hn hb (z_tns_le _) h
        · exact zs_newa_long C hR hA hdec hn hb (z_tns_le _) h
      · rw [if_neg hx] at h; exact h.elim
  · exact h.elim
theorem zq_anewarray (C : z_Cx p s mt args meth c own cc nL ini rt) (En : z_En sa sv A s s.heap) (hA : ∀ q, s.heap.size ≤ q → A q) (hR : z_Rm R n0 nf) {d : Nat} (hRf : d + 9 ≤ R.frames) (hRl : 60 * d + 460 ≤ R.locals) (hWD : z_WD) {o : zO} (hO : z_OS l d o) {sc : Option (Nat × (Nat → Int32))} (hsc : ∀ L xs, sc = some (L, xs) → va_X (sa 0) L xs s s.heap ∧ sa 0 < s.heap.size ∧ ¬ A (sa 0)) {ip pl len : Nat} {raw : Instr} (hdec : decode cc (z_pc cd ip) = .ok (raw, len)) {Rt : Option Value → zM → Prop}
    {lv : zL} {st : List Value} {m : zM} {ci : Nat} (hI : z_okI own nL ini rt cd ip (z_pc cd ip) pl (.anewarray ci) raw len = true) (h : z_ps sc o (.anewarray ci) lv st m False (fun lv st m => z_G p l e R s mt args below meth c Q D A sa ad0 n0 nf nL (z_pc cd) (ip + 1) lv st m) (fun t lv st m => z_G p l e R s mt args below meth c Q D A sa ad0 n0 nf nL (z_pc cd) t lv st m) Rt) : z_G p l e R s mt args below meth c Q D A sa ad0 n0 nf nL (z_pc cd) ip lv st m := by
  simp only [z_ps] at h
  simp only [z_okI, Bool.and_eq_true, decide_eq_true_eq] at hI
  obtain ⟨⟨rfl, hn⟩, hr⟩ := hI
  cases raw <;> simp only [Bool.false_eq_true] at hr
  split at h
  · rename_i x r
    cases hb : (z_tk m.1).beq 5 with
    | false => rw [hb] at h; exact h.elim
    | true =>
      rw [hb] at h
      simp only [cond_true] at h
      have hb := Nat.beq_eq.mp hb
      by_cases hx : x = Int32.ofNat (z_tn m.1)
      · rw [if_pos hx] at h
        subst hx
        exact zs_anewa C En.1 hR hA hdec hn (z_word hr) hb (z_tns_le _) h
      · rw [if_neg hx] at h; exact h.elim
  · exact h.elim
theorem zq_invokevirtual (C : z_Cx p s mt args meth c own cc nL ini rt) (En : z_En sa sv A s s.heap) (hA : ∀ q, s.heap.size ≤ q → A q) (hR : z_Rm R n0 nf) {d : Nat} (hRf : d + 9 ≤ R.frames) (hRl : 60 * d + 460 ≤ R.locals) (hWD : z_WD) {o : zO} (hO : z_OS l d o) {sc : Option (Nat × (Nat → Int32))} (hsc : ∀ L xs, sc = some (L, xs) → va_X (sa 0) L xs s s.heap ∧ sa 0 < s.heap.size ∧ ¬ A (sa 0)) {ip pl len : Nat} {raw : Instr} (hdec : decode cc (z_pc cd ip) = .ok (raw, len)) {Rt : Option Value → zM → Prop}
    {lv : zL} {st : List Value} {m : zM} {q : Nat} (hI : z_okI own nL ini rt cd ip (z_pc cd ip) pl (.invokevirtual q) raw len = true) (h : z_ps sc o (.invokevirtual q) lv st m False (fun lv st m => z_G p l e R s mt args below meth c Q D A sa ad0 n0 nf nL (z_pc cd) (ip + 1) lv st m) (fun t lv st m => z_G p l e R s mt args below meth c Q D A sa ad0 n0 nf nL (z_pc cd) t lv st m) Rt) : z_G p l e R s mt args below meth c Q D A sa ad0 n0 nf nL (z_pc cd) ip lv st m := by
  simp only [z_ps] at h
  simp only [z_okI, Bool.and_eq_true, decide_eq_true_eq] at hI
  obtain ⟨⟨rfl, hn⟩, hr⟩ := hI
  cases hnp : z_np q with
  | none => rw [hnp] at hr; cases raw <;> simp only [Bool.false_eq_true] at hr
  | some n =>
  rw [hnp] at hr
  cases raw <;> simp only [Bool.false_eq_true, Bool.and_eq_true, decide_eq_true_eq] at hr
  obtain ⟨⟨⟨hs0, hcl⟩, hst⟩, hlk⟩ := hr
  have hs := z_sig_na hs0
  obtain ⟨cr, hcr, hcy⟩ := z_cls_spec hcl
  cases htk : z_take (q / 4 % 16) st [] with
  | none => rw [htk] at h; exact h.elim
  | some ar =>
    obtain ⟨as, r⟩ := ar
    rw [htk] at h
    obtain ⟨bs, b1, b2, b3⟩ := z_take_spec htk
    rw [List.append_nil] at b3
    have e1 : bs = as.reverse := by rw [b3, List.reverse_reverse]
    have e2 : as.length = q / 4 % 16 := by rw [b3, List.length_reverse, b1]
    subst b2
    subst e1
    simp only at h
    cases hb : ((z_cs r).ble 8 && z_ref0 (q / 64000) as) with
    | false => rw [hb] at h; exact h.elim
    | true =>
      rw [hb] at h
      simp only [cond_true] at h
      simp only [Bool.and_eq_true] at hb
      obtain ⟨rc, as', has, ht, hc⟩ := z_ref0_spec hb.2
      have hnq : (parseMethodDescriptor (z_y (q / 64 % 1000)).desc).map (fun d => d.parameters.length) = some as'.length := by
        have e3 := e2.trans hs.1
        rw [has, List.length_cons] at e3
        exact hnp.trans (congrArg some (by omega))
      split at h
      · cases ho : o.2.2.1 (q / 64 % 1000) as m with
        | none => rw [ho] at h; exact h.elim
        | some vd =>
          rw [ho] at h
          exact zs_callV C En hA hR hRf hRl (hWD _ hs.2) (Or.inl rfl) (hO.2.2.1 _ _ _ _ ho) hn (Nat.ble_eq.mp hb.1) hdec has ht hc hcr hcy hst.1 hst.2 hnq (z_word hlk) h
      · cases ho : o.1 (q / 64 % 1000) as m with
        | none => rw [ho] at h; exact h.elim
        | some vd =>
          obtain ⟨vx, dd⟩ := vd
          rw [ho] at h
          exact zs_callV C En hA hR hRf hRl (hWD _ hs.2) (Or.inr (Or.inl ⟨_, rfl⟩)) (hO.1 _ _ _ _ ho) hn (Nat.ble_eq.mp hb.1) hdec has ht hc hcr hcy hst.1 hst.2 hnq (z_word hlk) h
      · cases ho : o.2.1 (q / 64 % 1000) as m with
        | none => rw [ho] at h; exact h.elim
        | some vd =>
          obtain ⟨vx, dd⟩ := vd
          rw [ho] at h
          exact zs_callV C En hA hR hRf hRl (hWD _ hs.2) (Or.inr (Or.inr ⟨_, rfl⟩)) (hO.2.1 _ _ _ _ ho) hn (Nat.ble_eq.mp hb.1) hdec has ht hc hcr hcy hst.1 hst.2 hnq (z_word hlk) h
theorem zq_invokeinterface (C : z_Cx p s mt args meth c own cc nL ini rt) (En : z_En sa sv A s s.heap) (hA : ∀ q, s.heap.size ≤ q → A q) (hR : z_Rm R n0 nf) {d : Nat} (hRf : d + 9 ≤ R.frames) (hRl : 60 * d + 460 ≤ R.locals) (hWD : z_WD) {o : zO} (hO : z_OS l d o) {sc : Option (Nat × (Nat → Int32))} (hsc : ∀ L xs, sc = some (L, xs) → va_X (sa 0) L xs s s.heap ∧ sa 0 < s.heap.size ∧ ¬ A (sa 0)) {ip pl len : Nat} {raw : Instr} (hdec : decode cc (z_pc cd ip) = .ok (raw, len)) {Rt : Option Value → zM → Prop}
    {lv : zL} {st : List Value} {m : zM} {q q2 : Nat} (hI : z_okI own nL ini rt cd ip (z_pc cd ip) pl (.invokeinterface q q2) raw len = true) (h : z_ps sc o (.invokeinterface q q2) lv st m False (fun lv st m => z_G p l e R s mt args below meth c Q D A sa ad0 n0 nf nL (z_pc cd) (ip + 1) lv st m) (fun t lv st m => z_G p l e R s mt args below meth c Q D A sa ad0 n0 nf nL (z_pc cd) t lv st m) Rt) : z_G p l e R s mt args below meth c Q D A sa ad0 n0 nf nL (z_pc cd) ip lv st m := by
  simp only [z_ps] at h
  simp only [z_okI, Bool.and_eq_true, decide_eq_true_eq] at hI
  obtain ⟨⟨rfl, hn, hq1⟩, hr⟩ := hI
  cases hnp : z_np q with
  | none => rw [hnp] at hr; cases raw <;> simp only [Bool.false_eq_true] at hr
  | some n =>
  rw [hnp] at hr
  cases raw <;> simp only [Bool.false_eq_true, Bool.and_eq_true, decide_eq_true_eq] at hr
  obtain ⟨⟨⟨hs0, hcl⟩, hst⟩, hlk⟩ := hr
  have hs := z_sig_na hs0
  obtain ⟨cr, hcr, hcy⟩ := z_cls_spec hcl
  cases htk : z_take (q / 4 % 16) st [] with
  | none => rw [htk] at h; exact h.elim
  | some ar =>
    obtain ⟨as, r⟩ := ar
    rw [htk] at h
    obtain ⟨bs, b1, b2, b3⟩ := z_take_spec htk
    rw [List.append_nil] at b3
    have e1 : bs = as.reverse := by rw [b3, List.reverse_reverse]
    have e2 : as.length = q / 4 % 16 := by rw [b3, List.length_reverse, b1]
    subst b2
    subst e1
    simp only at h
    cases hb : ((z_cs r).ble 8 && z_ref0 (q / 64000) as) with
    | false => rw [hb] at h; exact h.elim
    | true =>
      rw [hb] at h
      simp only [cond_true] at h
      simp only [Bool.and_eq_true] at hb
      obtain ⟨rc, as', has, ht, hc⟩ := z_ref0_spec hb.2
      have hnq : (parseMethodDescriptor (z_y (q / 64 % 1000)).desc).map (fun d => d.parameters.length) = some as'.length := by
        have e3 := e2.trans hs.1
        rw [has, List.length_cons] at e3
        exact hnp.trans (congrArg some (by omega))
      cases ho : o.2.2.2.2 (q / 64 % 1000) as m with
      | none => rw [ho] at h; exact h.elim
      | some vd =>
        obtain ⟨vx, dd⟩ := vd
        rw [ho] at h
        exact zs_callV C En hA hR hRf hRl (hWD _ hs.2) (Or.inr (Or.inl ⟨_, rfl⟩)) (hO.2.2.2.2 _ _ _ _ ho) hn (Nat.ble_eq.mp hb.1) hdec has ht hc hcr hcy hst.1 hst.2 hnq (z_word hlk) h
theorem zq_invokestatic (C : z_Cx p s mt args meth c own cc nL ini rt) (En : z_En sa sv A s s.heap) (hA : ∀ q, s.heap.size ≤ q → A q) (hR : z_Rm R n0 nf) {d : Nat} (hRf : d + 9 ≤ R.frames) (hRl : 60 * d + 460 ≤ R.locals) (hWD : z_WD) {o : zO} (hO : z_OS l d o) {sc : Option (Nat × (Nat → Int32))} (hsc : ∀ L xs, sc = some (L, xs) → va_X (sa 0) L xs s s.heap ∧ sa 0 < s.heap.size ∧ ¬ A (sa 0)) {ip pl len : Nat} {raw : Instr} (hdec : decode cc (z_pc cd ip) = .ok (raw, len)) {Rt : Option Value → zM → Prop}
    {lv : zL} {st : List Value} {m : zM} {q : Nat} (hI : z_okI own nL ini rt cd ip (z_pc cd ip) pl (.invokestatic q) raw len = true) (h : z_ps sc o (.invokestatic q) lv st m False (fun lv st m => z_G p l e R s mt args below meth c Q D A sa ad0 n0 nf nL (z_pc cd) (ip + 1) lv st m) (fun t lv st m => z_G p l e R s mt args below meth c Q D A sa ad0 n0 nf nL (z_pc cd) t lv st m) Rt) : z_G p l e R s mt args below meth c Q D A sa ad0 n0 nf nL (z_pc cd) ip lv st m := by
  simp only [z_ps] at h
  simp only [z_okI, Bool.and_eq_true, decide_eq_true_eq] at hI
  obtain ⟨⟨rfl, hn⟩, hr⟩ := hI
  cases hnp : z_np q with
  | none => rw [hnp] at hr; cases raw <;> simp only [Bool.false_eq_true] at hr
  | some n =>
  rw [hnp] at hr
  cases raw <;> simp only [Bool.false_eq_true, Bool.and_eq_true, decide_eq_true_eq] at hr
  obtain ⟨⟨hs0, hst⟩, hlk⟩ := hr
  have hs := z_sig_na hs0
  cases htk : z_take (q / 4 % 16) st [] with
  | none => rw [htk] at h; exact h.elim
  | some ar =>
    obtain ⟨as, r⟩ := ar
    rw [htk] at h
    obtain ⟨bs, b1, b2, b3⟩ := z_take_spec htk
    rw [List.append_nil] at b3
    have e1 : bs = as.reverse := by rw [b3, List.reverse_reverse]
    have e2 : as.length = q / 4 % 16 := by rw [b3, List.length_reverse, b1]
    subst b2
    subst e1
    simp only at h
    cases hb : (z_cs r).ble 8 with
    | false => rw [hb] at h; exact h.elim
    | true =>
      rw [hb] at h
      simp only [cond_true] at h
      have hnq : (parseMethodDescriptor (z_y (q / 64 % 1000)).desc).map (fun d => d.parameters.length) = some as.length := hnp.trans (congrArg some (e2.trans hs.1).symm)
      split at h
      · cases ho : o.2.2.1 (q / 64 % 1000) as m with
        | none => rw [ho] at h; exact h.elim
        | some vd =>
          rw [ho] at h
          exact zs_callS C En hA hR hRf hRl (hWD _ hs.2) (Or.inl rfl) (hO.2.2.1 _ _ _ _ ho) hn (Nat.ble_eq.mp hb) hdec hst hnq (z_lnk_spec hlk) h
      · cases ho : o.1 (q / 64 % 1000) as m with
        | none => rw [ho] at h; exact h.elim
        | some vd =>
          obtain ⟨vx, dd⟩ := vd
          rw [ho] at h
          exact zs_callS C En hA hR hRf hRl (hWD _ hs.2) (Or.inr (Or.inl ⟨_, rfl⟩)) (hO.1 _ _ _ _ ho) hn (Nat.ble_eq.mp hb) hdec hst hnq (z_lnk_spec hlk) h
      · cases ho : o.2.1 (q / 64 % 1000) as m with
        | none => rw [ho] at h; exact h.elim
        | some vd =>
          obtain ⟨vx, dd⟩ := vd
          rw [ho] at h
          exact zs_callS C En hA hR hRf hRl (hWD _ hs.2) (Or.inr (Or.inr ⟨_, rfl⟩)) (hO.2.1 _ _ _ _ ho) hn (Nat.ble_eq.mp hb) hdec hst hnq (z_lnk_spec hlk) h
theorem zq_invokespecial (C : z_Cx p s mt args meth c own cc nL ini rt) (En : z_En sa sv A s s.heap) (hA : ∀ q, s.heap.size ≤ q → A q) (hR : z_Rm R n0 nf) {d : Nat} (hRf : d + 9 ≤ R.frames) (hRl : 60 * d + 460 ≤ R.locals) (hWD : z_WD) {o : zO} (hO : z_OS l d o) {sc : Option (Nat × (Nat → Int32))} (hsc : ∀ L xs, sc = some (L, xs) → va_X (sa 0) L xs s s.heap ∧ sa 0 < s.heap.size ∧ ¬ A (sa 0)) {ip pl len : Nat} {raw : Instr} (hdec : decode cc (z_pc cd ip) = .ok (raw, len)) {Rt : Option Value → zM → Prop}
    {lv : zL} {st : List Value} {m : zM} {q : Nat} (hI : z_okI own nL ini rt cd ip (z_pc cd ip) pl (.invokespecial q) raw len = true) (h : z_ps sc o (.invokespecial q) lv st m False (fun lv st m => z_G p l e R s mt args below meth c Q D A sa ad0 n0 nf nL (z_pc cd) (ip + 1) lv st m) (fun t lv st m => z_G p l e R s mt args below meth c Q D A sa ad0 n0 nf nL (z_pc cd) t lv st m) Rt) : z_G p l e R s mt args below meth c Q D A sa ad0 n0 nf nL (z_pc cd) ip lv st m := by
  simp only [z_ps] at h
  simp only [z_okI, Bool.and_eq_true, decide_eq_true_eq] at hI
  obtain ⟨⟨rfl, hn⟩, hr⟩ := hI
  cases hnp : z_np q with
  | none => rw [hnp] at hr; cases raw <;> simp only [Bool.false_eq_true] at hr
  | some n =>
  rw [hnp] at hr
  cases raw <;> simp only [Bool.false_eq_true, Bool.and_eq_true, decide_eq_true_eq] at hr
  obtain ⟨⟨⟨hs0, hcl⟩, hst⟩, hlk⟩ := hr
  have hs := z_sig_na hs0
  cases htk : z_take (q / 4 % 16) st [] with
  | none => rw [htk] at h; exact h.elim
  | some ar =>
    obtain ⟨as, r⟩ := ar
    rw [htk] at h
    obtain ⟨bs, b1, b2, b3⟩ := z_take_spec htk
    rw [List.append_nil] at b3
    have e1 : bs = as.reverse := by rw [b3, List.reverse_reverse]
    have e2 : as.length = q / 4 % 16 := by rw [b3, List.length_reverse, b1]
    subst b2
    subst e1
    simp only at h
    cases hb : ((z_cs r).ble 8 && z_ref0 (q / 64000) as) with
    | false => rw [hb] at h; exact h.elim
    | true =>
      rw [hb] at h
      simp only [cond_true] at h
      simp only [Bool.and_eq_true] at hb
      obtain ⟨rc, as', has, ht, hc⟩ := z_ref0_spec hb.2
      have hnq : (parseMethodDescriptor (z_y (q / 64 % 1000)).desc).map (fun d => d.parameters.length) = some as'.length := by
        have e3 := e2.trans hs.1
        rw [has, List.length_cons] at e3
        exact hnp.trans (congrArg some (by omega))
      cases ho : o.2.2.2.1 (q / 64 % 1000) as m with
      | none => rw [ho] at h; exact h.elim
      | some vd =>
        rw [ho] at h
        exact zs_callI C En hA hR hRf hRl (hWD _ hs.2) (Or.inl rfl) (hO.2.2.2.1 _ _ _ _ ho) hn (Nat.ble_eq.mp hb.1) hdec has ht hst.1 hst.2.1 hst.2.2 hnq (z_lnk_spec hlk) h
theorem zq_ireturn (C : z_Cx p s mt args meth c own cc nL ini rt) (En : z_En sa sv A s s.heap) (hA : ∀ q, s.heap.size ≤ q → A q) (hR : z_Rm R n0 nf) {d : Nat} (hRf : d + 9 ≤ R.frames) (hRl : 60 * d + 460 ≤ R.locals) (hWD : z_WD) {o : zO} (hO : z_OS l d o) {sc : Option (Nat × (Nat → Int32))} (hsc : ∀ L xs, sc = some (L, xs) → va_X (sa 0) L xs s s.heap ∧ sa 0 < s.heap.size ∧ ¬ A (sa 0)) {ip pl len : Nat} {raw : Instr} (hdec : decode cc (z_pc cd ip) = .ok (raw, len)) {Rt : Option Value → zM → Prop}
    {lv : zL} {st : List Value} {m : zM} (hRt : ∀ v m, Rt v m → m.1 ≤ nf ∧ ∀ (ad : Nat → Nat) (ac : Nat → ClassId) (tys : List (ClassId × FieldType)) (H : Heap) (locs : List Loc) (ls : Array Slot) (pc : Nat) (ins : Instr), z_St D A s ad0 n0 m ad ac tys H locs → z_rin rt v ins → decode cc pc = .ok (ins, 1) → W p l e R s mt args below meth c H locs (m.1 - n0) (z_sl m.1 - z_sl n0) Q (F0 mt pc ls v.toList)) (hI : z_okI own nL ini rt cd ip (z_pc cd ip) pl (.ireturn) raw len = true) (h : z_ps sc o (.ireturn) lv st m False (fun lv st m => z_G p l e R s mt args below meth c Q D A sa ad0 n0 nf nL (z_pc cd) (ip + 1) lv st m) (fun t lv st m => z_G p l e R s mt args below meth c Q D A sa ad0 n0 nf nL (z_pc cd) t lv st m) Rt) : z_G p l e R s mt args below meth c Q D A sa ad0 n0 nf nL (z_pc cd) ip lv st m := by
  obtain ⟨rfl, rfl, hrt⟩ := of_decide_eq_true hI
  simp only [z_ps] at h
  split at h
  · obtain ⟨h1, h2⟩ := hRt _ _ h
    exact ⟨h1, fun ad ac tys H locs ls hSt hl ho hvv => h2 ad ac tys H locs ls _ _ hSt ⟨rfl, Or.inl hrt⟩ hdec⟩
  · exact h.elim
theorem zq_lreturn (C : z_Cx p s mt args meth c own cc nL ini rt) (En : z_En sa sv A s s.heap) (hA : ∀ q, s.heap.size ≤ q → A q) (hR : z_Rm R n0 nf) {d : Nat} (hRf : d + 9 ≤ R.frames) (hRl : 60 * d + 460 ≤ R.locals) (hWD : z_WD) {o : zO} (hO : z_OS l d o) {sc : Option (Nat × (Nat → Int32))} (hsc : ∀ L xs, sc = some (L, xs) → va_X (sa 0) L xs s s.heap ∧ sa 0 < s.heap.size ∧ ¬ A (sa 0)) {ip pl len : Nat} {raw : Instr} (hdec : decode cc (z_pc cd ip) = .ok (raw, len)) {Rt : Option Value → zM → Prop}
    {lv : zL} {st : List Value} {m : zM} (hRt : ∀ v m, Rt v m → m.1 ≤ nf ∧ ∀ (ad : Nat → Nat) (ac : Nat → ClassId) (tys : List (ClassId × FieldType)) (H : Heap) (locs : List Loc) (ls : Array Slot) (pc : Nat) (ins : Instr), z_St D A s ad0 n0 m ad ac tys H locs → z_rin rt v ins → decode cc pc = .ok (ins, 1) → W p l e R s mt args below meth c H locs (m.1 - n0) (z_sl m.1 - z_sl n0) Q (F0 mt pc ls v.toList)) (hI : z_okI own nL ini rt cd ip (z_pc cd ip) pl (.lreturn) raw len = true) (h : z_ps sc o (.lreturn) lv st m False (fun lv st m => z_G p l e R s mt args below meth c Q D A sa ad0 n0 nf nL (z_pc cd) (ip + 1) lv st m) (fun t lv st m => z_G p l e R s mt args below meth c Q D A sa ad0 n0 nf nL (z_pc cd) t lv st m) Rt) : z_G p l e R s mt args below meth c Q D A sa ad0 n0 nf nL (z_pc cd) ip lv st m := by
  obtain ⟨rfl, rfl, hrt⟩ := of_decide_eq_true hI
  simp only [z_ps] at h
  split at h
  · obtain ⟨h1, h2⟩ := hRt _ _ h
    exact ⟨h1, fun ad ac tys H locs ls hSt hl ho hvv => h2 ad ac tys H locs ls _ _ hSt ⟨rfl, hrt⟩ hdec⟩
  · exact h.elim
theorem zq_return_ (C : z_Cx p s mt args meth c own cc nL ini rt) (En : z_En sa sv A s s.heap) (hA : ∀ q, s.heap.size ≤ q → A q) (hR : z_Rm R n0 nf) {d : Nat} (hRf : d + 9 ≤ R.frames) (hRl : 60 * d + 460 ≤ R.locals) (hWD : z_WD) {o : zO} (hO : z_OS l d o) {sc : Option (Nat × (Nat → Int32))} (hsc : ∀ L xs, sc = some (L, xs) → va_X (sa 0) L xs s s.heap ∧ sa 0 < s.heap.size ∧ ¬ A (sa 0)) {ip pl len : Nat} {raw : Instr} (hdec : decode cc (z_pc cd ip) = .ok (raw, len)) {Rt : Option Value → zM → Prop}
    {lv : zL} {st : List Value} {m : zM} (hRt : ∀ v m, Rt v m → m.1 ≤ nf ∧ ∀ (ad : Nat → Nat) (ac : Nat → ClassId) (tys : List (ClassId × FieldType)) (H : Heap) (locs : List Loc) (ls : Array Slot) (pc : Nat) (ins : Instr), z_St D A s ad0 n0 m ad ac tys H locs → z_rin rt v ins → decode cc pc = .ok (ins, 1) → W p l e R s mt args below meth c H locs (m.1 - n0) (z_sl m.1 - z_sl n0) Q (F0 mt pc ls v.toList)) (hI : z_okI own nL ini rt cd ip (z_pc cd ip) pl (.return_) raw len = true) (h : z_ps sc o (.return_) lv st m False (fun lv st m => z_G p l e R s mt args below meth c Q D A sa ad0 n0 nf nL (z_pc cd) (ip + 1) lv st m) (fun t lv st m => z_G p l e R s mt args below meth c Q D A sa ad0 n0 nf nL (z_pc cd) t lv st m) Rt) : z_G p l e R s mt args below meth c Q D A sa ad0 n0 nf nL (z_pc cd) ip lv st m := by
  obtain ⟨rfl, rfl, hrt⟩ := of_decide_eq_true hI
  simp only [z_ps] at h
  split at h
  · obtain ⟨h1, h2⟩ := hRt _ _ h
    exact ⟨h1, fun ad ac tys H locs ls hSt hl ho hvv => h2 ad ac tys H locs ls _ _ hSt ⟨rfl, hrt⟩ hdec⟩
  · exact h.elim
theorem zq_areturn (C : z_Cx p s mt args meth c own cc nL ini rt) (En : z_En sa sv A s s.heap) (hA : ∀ q, s.heap.size ≤ q → A q) (hR : z_Rm R n0 nf) {d : Nat} (hRf : d + 9 ≤ R.frames) (hRl : 60 * d + 460 ≤ R.locals) (hWD : z_WD) {o : zO} (hO : z_OS l d o) {sc : Option (Nat × (Nat → Int32))} (hsc : ∀ L xs, sc = some (L, xs) → va_X (sa 0) L xs s s.heap ∧ sa 0 < s.heap.size ∧ ¬ A (sa 0)) {ip pl len : Nat} {raw : Instr} (hdec : decode cc (z_pc cd ip) = .ok (raw, len)) {Rt : Option Value → zM → Prop}
    {lv : zL} {st : List Value} {m : zM} (hRt : ∀ v m, Rt v m → m.1 ≤ nf ∧ ∀ (ad : Nat → Nat) (ac : Nat → ClassId) (tys : List (ClassId × FieldType)) (H : Heap) (locs : List Loc) (ls : Array Slot) (pc : Nat) (ins : Instr), z_St D A s ad0 n0 m ad ac tys H locs → z_rin rt v ins → decode cc pc = .ok (ins, 1) → W p l e R s mt args below meth c H locs (m.1 - n0) (z_sl m.1 - z_sl n0) Q (F0 mt pc ls v.toList)) (hI : z_okI own nL ini rt cd ip (z_pc cd ip) pl (.areturn) raw len = true) (h : z_ps sc o (.areturn) lv st m False (fun lv st m => z_G p l e R s mt args below meth c Q D A sa ad0 n0 nf nL (z_pc cd) (ip + 1) lv st m) (fun t lv st m => z_G p l e R s mt args below meth c Q D A sa ad0 n0 nf nL (z_pc cd) t lv st m) Rt) : z_G p l e R s mt args below meth c Q D A sa ad0 n0 nf nL (z_pc cd) ip lv st m := by
  obtain ⟨rfl, rfl, hrt⟩ := of_decide_eq_true hI
  simp only [z_ps] at h
  split at h
  · rename_i x
    by_cases hx : x = 0 ∨ x = 1
    · rw [if_pos hx] at h
      obtain ⟨h1, h2⟩ := hRt _ _ h
      exact ⟨h1, fun ad ac tys H locs ls hSt hl ho hvv => h2 ad ac tys H locs ls _ _ hSt ⟨rfl, Or.inr ⟨hrt, hx⟩⟩ hdec⟩
    · rw [if_neg hx] at h; exact h.elim
  · exact h.elim
end ZS
