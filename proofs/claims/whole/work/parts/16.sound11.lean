/-! any instruction; a stretch of them; a run; a method's contract -/
section ZS
variable {p : Program} {l : Launch} {e : Env} {R : Room} {s : State} {mt : MethodId} {args : Array Value} {below : List Frame} {meth : Method} {c : Code} {Q : State → Prop} {D : va_G} {A : Nat → Prop} {sa sv ad0 : Nat → Nat} {n0 nf nL : Nat} {cd : List zI} {own : String} {cc : ByteArray} {ini : Bool} {rt : Option FieldType}

theorem zq_invokedynamic (C : z_Cx p s mt args meth c own cc nL ini rt) (En : z_En sa sv A s s.heap) (hA : ∀ q, s.heap.size ≤ q → A q) (hR : z_Rm R n0 nf) {d : Nat} (hRf : d + 9 ≤ R.frames) (hRl : 60 * d + 460 ≤ R.locals) (hWD : z_WD) {o : zO} (hO : z_OS l d o) {sc : Option (Nat × (Nat → Int32))} (hsc : ∀ L xs, sc = some (L, xs) → va_X (sa 0) L xs s s.heap ∧ sa 0 < s.heap.size ∧ ¬ A (sa 0)) {ip pl len : Nat} {raw : Instr} (hdec : decode cc (z_pc cd ip) = .ok (raw, len)) {Rt : Option Value → zM → Prop}
    {lv : zL} {st : List Value} {m : zM} {q : Nat} (hI : z_okI own nL ini rt cd ip (z_pc cd ip) pl (.invokedynamic q) raw len = true) (h : z_ps sc o (.invokedynamic q) lv st m False (fun lv st m => z_G p l e R s mt args below meth c Q D A sa ad0 n0 nf nL (z_pc cd) (ip + 1) lv st m) (fun t lv st m => z_G p l e R s mt args below meth c Q D A sa ad0 n0 nf nL (z_pc cd) t lv st m) Rt) : z_G p l e R s mt args below meth c Q D A sa ad0 n0 nf nL (z_pc cd) ip lv st m := by
  simp only [z_okI, Bool.and_eq_true, decide_eq_true_eq] at hI
  obtain ⟨⟨rfl, hn⟩, hr⟩ := hI
  match q, hr, h with
  | 0, hr, h =>
    cases raw <;> simp only [Bool.false_eq_true] at hr
    simp only [z_ps] at h
    split at h
    · rename_i y x r _
      cases hb : (z_cs r).ble 8 with
      | false => rw [hb] at h; exact h.elim
      | true =>
        rw [hb] at h
        simp only [cond_true] at h
        exact zs_min C hR (Nat.ble_eq.mp hb) hdec hn (z_word hr) h
    · exact h.elim
  | 1, hr, h =>
    cases raw <;> simp only [Bool.false_eq_true] at hr
    simp only [z_ps] at h
    split at h
    · rename_i y x r _
      cases hb : (z_cs r).ble 8 with
      | false => rw [hb] at h; exact h.elim
      | true =>
        rw [hb] at h
        simp only [cond_true] at h
        exact zs_max C hR (Nat.ble_eq.mp hb) hdec hn (z_word hr) h
    · exact h.elim
  | 2, hr, h =>
    cases raw <;> simp only [Bool.false_eq_true] at hr
    simp only [z_ps] at h
    split at h
    · rename_i x r _
      cases hb : (z_cs r).ble 8 with
      | false => rw [hb] at h; exact h.elim
      | true =>
        rw [hb] at h
        simp only [cond_true] at h
        exact zs_abs C hR (Nat.ble_eq.mp hb) hdec hn (z_word hr) h
    · exact h.elim
  | 3, hr, h =>
    cases raw <;> simp only [Bool.false_eq_true] at hr
    simp only [z_ps] at h
    split at h
    · rename_i k r _
      cases hb : ((z_cs r).ble 8 && z_sb.blt k) with
      | false => rw [hb] at h; exact h.elim
      | true =>
        rw [hb] at h
        simp only [cond_true] at h
        simp only [Bool.and_eq_true, Nat.blt_eq] at hb
        exact zs_strlen C En hA hR (Nat.ble_eq.mp hb.1) hdec hn hb.2 (z_word hr) h
    · exact h.elim
  | 4, hr, h =>
    cases raw <;> simp only [Bool.false_eq_true] at hr
    simp only [z_ps] at h
    split at h
    · rename_i j k r _
      cases hb : ((z_cs r).ble 8 && z_sb.blt k) with
      | false => rw [hb] at h; exact h.elim
      | true =>
        rw [hb] at h
        simp only [cond_true] at h
        simp only [Bool.and_eq_true, Nat.blt_eq] at hb
        by_cases hj : j < 0 ∨ (z_tx (k - z_sb)).length ≤ j.toNatClampNeg
        · rw [if_pos hj] at h; exact h.elim
        · rw [if_neg hj] at h
          exact zs_charat C En hA hR (Nat.ble_eq.mp hb.1) hdec hn hb.2 (z_word hr) hj h
    · exact h.elim
  | q + 5, hr, h => cases raw <;> simp only [Bool.false_eq_true] at hr
theorem zq_any (C : z_Cx p s mt args meth c own cc nL ini rt) (En : z_En sa sv A s s.heap) (hA : ∀ q, s.heap.size ≤ q → A q) (hR : z_Rm R n0 nf) {d : Nat} (hRf : d + 9 ≤ R.frames) (hRl : 60 * d + 460 ≤ R.locals) (hWD : z_WD) {o : zO} (hO : z_OS l d o) {sc : Option (Nat × (Nat → Int32))} (hsc : ∀ L xs, sc = some (L, xs) → va_X (sa 0) L xs s s.heap ∧ sa 0 < s.heap.size ∧ ¬ A (sa 0)) {ip pl len : Nat} {raw : Instr} (hdec : decode cc (z_pc cd ip) = .ok (raw, len)) {Rt : Option Value → zM → Prop}
    {lv : zL} {st : List Value} {m : zM} {ins : Instr} (hRt : ∀ v m, Rt v m → m.1 ≤ nf ∧ ∀ (ad : Nat → Nat) (ac : Nat → ClassId) (tys : List (ClassId × FieldType)) (H : Heap) (locs : List Loc) (ls : Array Slot) (pc : Nat) (ins : Instr), z_St D A s ad0 n0 m ad ac tys H locs → z_rin rt v ins → decode cc pc = .ok (ins, 1) → W p l e R s mt args below meth c H locs (m.1 - n0) (z_sl m.1 - z_sl n0) Q (F0 mt pc ls v.toList)) (hI : z_okI own nL ini rt cd ip (z_pc cd ip) pl (ins) raw len = true) (h : z_ps sc o (ins) lv st m False (fun lv st m => z_G p l e R s mt args below meth c Q D A sa ad0 n0 nf nL (z_pc cd) (ip + 1) lv st m) (fun t lv st m => z_G p l e R s mt args below meth c Q D A sa ad0 n0 nf nL (z_pc cd) t lv st m) Rt) : z_G p l e R s mt args below meth c Q D A sa ad0 n0 nf nL (z_pc cd) ip lv st m := by
  cases ins with
  | iadd => exact zq_iadd C En hA hR hRf hRl hWD hO hsc hdec hI h
  | isub => exact zq_isub C En hA hR hRf hRl hWD hO hsc hdec hI h
  | imul => exact zq_imul C En hA hR hRf hRl hWD hO hsc hdec hI h
  | iand => exact zq_iand C En hA hR hRf hRl hWD hO hsc hdec hI h
  | ior => exact zq_ior C En hA hR hRf hRl hWD hO hsc hdec hI h
  | ixor => exact zq_ixor C En hA hR hRf hRl hWD hO hsc hdec hI h
  | ishl => exact zq_ishl C En hA hR hRf hRl hWD hO hsc hdec hI h
  | ishr => exact zq_ishr C En hA hR hRf hRl hWD hO hsc hdec hI h
  | ladd => exact zq_ladd C En hA hR hRf hRl hWD hO hsc hdec hI h
  | lsub => exact zq_lsub C En hA hR hRf hRl hWD hO hsc hdec hI h
  | lmul => exact zq_lmul C En hA hR hRf hRl hWD hO hsc hdec hI h
  | land => exact zq_land C En hA hR hRf hRl hWD hO hsc hdec hI h
  | lor => exact zq_lor C En hA hR hRf hRl hWD hO hsc hdec hI h
  | lshl => exact zq_lshl C En hA hR hRf hRl hWD hO hsc hdec hI h
  | lshr => exact zq_lshr C En hA hR hRf hRl hWD hO hsc hdec hI h
  | lcmp => exact zq_lcmp C En hA hR hRf hRl hWD hO hsc hdec hI h
  | ineg => exact zq_ineg C En hA hR hRf hRl hWD hO hsc hdec hI h
  | i2l => exact zq_i2l C En hA hR hRf hRl hWD hO hsc hdec hI h
  | l2i => exact zq_l2i C En hA hR hRf hRl hWD hO hsc hdec hI h
  | i2b => exact zq_i2b C En hA hR hRf hRl hWD hO hsc hdec hI h
  | i2s => exact zq_i2s C En hA hR hRf hRl hWD hO hsc hdec hI h
  | idiv => exact zq_idiv C En hA hR hRf hRl hWD hO hsc hdec hI h
  | irem => exact zq_irem C En hA hR hRf hRl hWD hO hsc hdec hI h
  | ldiv => exact zq_ldiv C En hA hR hRf hRl hWD hO hsc hdec hI h
  | lrem => exact zq_lrem C En hA hR hRf hRl hWD hO hsc hdec hI h
  | dup => exact zq_dup C En hA hR hRf hRl hWD hO hsc hdec hI h
  | dup2 => exact zq_dup2 C En hA hR hRf hRl hWD hO hsc hdec hI h
  | iconst => exact zq_iconst C En hA hR hRf hRl hWD hO hsc hdec hI h
  | ldc2_w => exact zq_ldc2_w C En hA hR hRf hRl hWD hO hsc hdec hI h
  | ldc => exact zq_ldc C En hA hR hRf hRl hWD hO hsc hdec hI h
  | iload => exact zq_iload C En hA hR hRf hRl hWD hO hsc hdec hI h
  | lload => exact zq_lload C En hA hR hRf hRl hWD hO hsc hdec hI h
  | aload => exact zq_aload C En hA hR hRf hRl hWD hO hsc hdec hI h
  | istore => exact zq_istore C En hA hR hRf hRl hWD hO hsc hdec hI h
  | lstore => exact zq_lstore C En hA hR hRf hRl hWD hO hsc hdec hI h
  | astore => exact zq_astore C En hA hR hRf hRl hWD hO hsc hdec hI h
  | iinc => exact zq_iinc C En hA hR hRf hRl hWD hO hsc hdec hI h
  | pop => exact zq_pop C En hA hR hRf hRl hWD hO hsc hdec hI h
  | pop2 => exact zq_pop2 C En hA hR hRf hRl hWD hO hsc hdec hI h
  | if_icmp => exact zq_if_icmp C En hA hR hRf hRl hWD hO hsc hdec hI h
  | ifCond => exact zq_ifCond C En hA hR hRf hRl hWD hO hsc hdec hI h
  | ifnonnull => exact zq_ifnonnull C En hA hR hRf hRl hWD hO hsc hdec hI h
  | goto => exact zq_goto C En hA hR hRf hRl hWD hO hsc hdec hI h
  | tableswitch => exact zq_tableswitch C En hA hR hRf hRl hWD hO hsc hdec hI h
  | getfield => exact zq_getfield C En hA hR hRf hRl hWD hO hsc hdec hI h
  | putfield => exact zq_putfield C En hA hR hRf hRl hWD hO hsc hdec hI h
  | arraylength => exact zq_arraylength C En hA hR hRf hRl hWD hO hsc hdec hI h
  | iaload => exact zq_iaload C En hA hR hRf hRl hWD hO hsc hdec hI h
  | baload => exact zq_baload C En hA hR hRf hRl hWD hO hsc hdec hI h
  | laload => exact zq_laload C En hA hR hRf hRl hWD hO hsc hdec hI h
  | aaload => exact zq_aaload C En hA hR hRf hRl hWD hO hsc hdec hI h
  | iastore => exact zq_iastore C En hA hR hRf hRl hWD hO hsc hdec hI h
  | lastore => exact zq_lastore C En hA hR hRf hRl hWD hO hsc hdec hI h
  | bastore => exact zq_bastore C En hA hR hRf hRl hWD hO hsc hdec hI h
  | aastore => exact zq_aastore C En hA hR hRf hRl hWD hO hsc hdec hI h
  | new => exact zq_new C En hA hR hRf hRl hWD hO hsc hdec hI h
  | newarray => exact zq_newarray C En hA hR hRf hRl hWD hO hsc hdec hI h
  | anewarray => exact zq_anewarray C En hA hR hRf hRl hWD hO hsc hdec hI h
  | invokevirtual => exact zq_invokevirtual C En hA hR hRf hRl hWD hO hsc hdec hI h
  | invokeinterface => exact zq_invokeinterface C En hA hR hRf hRl hWD hO hsc hdec hI h
  | invokestatic => exact zq_invokestatic C En hA hR hRf hRl hWD hO hsc hdec hI h
  | invokespecial => exact zq_invokespecial C En hA hR hRf hRl hWD hO hsc hdec hI h
  | invokedynamic => exact zq_invokedynamic C En hA hR hRf hRl hWD hO hsc hdec hI h
  | ireturn => exact zq_ireturn C En hA hR hRf hRl hWD hO hsc hdec hRt hI h
  | lreturn => exact zq_lreturn C En hA hR hRf hRl hWD hO hsc hdec hRt hI h
  | return_ => exact zq_return_ C En hA hR hRf hRl hWD hO hsc hdec hRt hI h
  | areturn => exact zq_areturn C En hA hR hRf hRl hWD hO hsc hdec hRt hI h
  | _ => exact absurd (show false = true from hI) (by decide)
def z_Kt (K : Nat → zL → List Value → zM → Prop) (Rt : Option Value → zM → Prop) (x : Option ((Option Value × zM) ⊕ (Nat × zL × List Value × zM))) : Prop := match x with
  | none => False
  | some (.inl r) => Rt r.1 r.2
  | some (.inr q) => K q.1 q.2.1 q.2.2.1 q.2.2.2
theorem z_ps_mono {sc : Option (Nat × (Nat → Int32))} {o : zO} {ins : Instr} {lv : zL} {st : List Value} {m : zM} {kn kn' : zL → List Value → zM → Prop} {kj kj' : Nat → zL → List Value → zM → Prop} {kr : Option Value → zM → Prop} (h1 : ∀ a b c, kn a b c → kn' a b c) (h2 : ∀ t a b c, kj t a b c → kj' t a b c) (h : z_ps sc o ins lv st m False kn kj kr) : z_ps sc o ins lv st m False kn' kj' kr := by
  have e1 := z_ps_map (α := {x : Prop × Prop // x.1 → x.2}) (fun x => x.1.1) sc o ins lv st m ⟨(False, False), id⟩ (fun a b c => ⟨(kn a b c, kn' a b c), h1 a b c⟩) (fun t a b c => ⟨(kj t a b c, kj' t a b c), h2 t a b c⟩) (fun v c => ⟨(kr v c, kr v c), id⟩)
  have e2 := z_ps_map (α := {x : Prop × Prop // x.1 → x.2}) (fun x => x.1.2) sc o ins lv st m ⟨(False, False), id⟩ (fun a b c => ⟨(kn a b c, kn' a b c), h1 a b c⟩) (fun t a b c => ⟨(kj t a b c, kj' t a b c), h2 t a b c⟩) (fun v c => ⟨(kr v c, kr v c), id⟩)
  rw [← e2]
  rw [← e1] at h
  exact (z_ps sc o ins lv st m (⟨(False, False), id⟩ : {x : Prop × Prop // x.1 → x.2}) _ _ _).2 h
theorem z_okL_at {own : String} {cc : ByteArray} {nL : Nat} {ini : Bool} {rt : Option FieldType} {cd : List zI} : ∀ {l : List zI} {b : Nat}, z_okL own cc nL ini rt cd b l = true → ∀ {i : Nat} {q : zI}, l[i]? = some q → z_ok1 own cc nL ini rt cd (b + i) q = true
  | [], b, _, i, q, h => by simp at h
  | x :: t, b, hk, 0, q, h => by
    simp only [z_okL, Bool.and_eq_true] at hk
    simp at h
    subst h
    exact hk.1
  | x :: t, b, hk, i + 1, q, h => by
    simp only [z_okL, Bool.and_eq_true] at hk
    have := z_okL_at (l := t) (b := b + 1) hk.2 (i := i) (q := q) (by simpa using h)
    rw [show b + (i + 1) = b + 1 + i by omega]
    exact this
theorem z_ex_cons {sc : Option (Nat × (Nat → Int32))} {o : zO} {cd : List zI} {f ip pc pl : Nat} {ins : Instr} {rest : List zI} {lv : zL} {st : List Value} {m : zM} (h : ins ≠ .nop) : z_ex sc o cd (f + 1) ((pc, pl, ins) :: rest) ip lv st m = z_ps sc o ins lv st m none (fun lv st m => z_ex sc o cd f rest (ip + 1) lv st m) (fun t lv st m => z_ex sc o cd f (cd.drop t) t lv st m) (fun v m => some (.inl (v, m))) := by
  cases ins <;> first | rfl | exact absurd rfl h
theorem z_ex_sound (C : z_Cx p s mt args meth c own cc nL ini rt) (En : z_En sa sv A s s.heap) (hA : ∀ q, s.heap.size ≤ q → A q) (hR : z_Rm R n0 nf) {d : Nat} (hRf : d + 9 ≤ R.frames) (hRl : 60 * d + 460 ≤ R.locals) (hWD : z_WD) {o : zO} (hO : z_OS l d o) {sc : Option (Nat × (Nat → Int32))} (hsc : ∀ L xs, sc = some (L, xs) → va_X (sa 0) L xs s s.heap ∧ sa 0 < s.heap.size ∧ ¬ A (sa 0)) {Rt : Option Value → zM → Prop} (hRt : ∀ v m, Rt v m → m.1 ≤ nf ∧ ∀ (ad : Nat → Nat) (ac : Nat → ClassId) (tys : List (ClassId × FieldType)) (H : Heap) (locs : List Loc) (ls : Array Slot) (pc : Nat) (ins : Instr), z_St D A s ad0 n0 m ad ac tys H locs → z_rin rt v ins → decode cc pc = .ok (ins, 1) → W p l e R s mt args below meth c H locs (m.1 - n0) (z_sl m.1 - z_sl n0) Q (F0 mt pc ls v.toList)) (hok : z_okL own cc nL ini rt cd 0 cd = true) : ∀ (f : Nat) (rest : List zI) (ip : Nat) (lv : zL) (st : List Value) (m : zM), rest = cd.drop ip → z_Kt (fun ip lv st m => z_G p l e R s mt args below meth c Q D A sa ad0 n0 nf nL (z_pc cd) ip lv st m) Rt (z_ex sc o cd f rest ip lv st m) → z_G p l e R s mt args below meth c Q D A sa ad0 n0 nf nL (z_pc cd) ip lv st m := by
  intro f
  induction f with
  | zero => intro rest ip lv st m _ h; exact h.elim
  | succ f ih =>
    intro rest ip lv st m hrest h
    cases rest with
    | nil => exact h.elim
    | cons q rest =>
      have hq : cd[ip]? = some q := by
        have := congrArg (fun l => l[0]?) hrest
        simp at this
        exact this.symm
      have hrest2 : rest = cd.drop (ip + 1) := by
        have := congrArg List.tail hrest
        simp at this
        exact this
      have hpc : z_pc cd ip = q.1 := by simp only [z_pc, hq]
      have ho1 := z_okL_at hok hq
      rw [Nat.zero_add] at ho1
      obtain ⟨pc, pl, ins⟩ := q
      by_cases hnop : ins = .nop
      · subst hnop
        have hn : z_pc cd (ip + 1) = pc := of_decide_eq_true ho1
        have h2 : z_G p l e R s mt args below meth c Q D A sa ad0 n0 nf nL (z_pc cd) (ip + 1) lv st m := h
        refine ⟨h2.1, fun ad ac tys H locs ls hSt hl hov hvv => ?_⟩
        have h3 := h2.2 ad ac tys H locs ls hSt hl hov hvv
        rw [hn] at h3
        rw [hpc]
        exact h3
      · rw [z_ex_cons hnop] at h
        rw [z_ps_map (z_Kt (fun ip lv st m => z_G p l e R s mt args below meth c Q D A sa ad0 n0 nf nL (z_pc cd) ip lv st m) Rt)] at h
        have hd2 : z_ok1 own cc nL ini rt cd ip (pc, pl, ins) = match decode cc pc with
          | .ok (raw, len) => z_okI own nL ini rt cd ip pc pl ins raw len
          | .error _ => false := by
          cases ins <;> first | rfl | exact absurd rfl hnop
        rw [hd2] at ho1
        cases hdec : decode cc pc with
        | error e9 => rw [hdec] at ho1; cases ho1
        | ok rl =>
          obtain ⟨raw, len⟩ := rl
          rw [hdec] at ho1
          rw [show pc = z_pc cd ip from hpc.symm] at hdec ho1
          exact zq_any C En hA hR hRf hRl hWD hO hsc hdec hRt ho1 (z_ps_mono (fun a b c h9 => ih rest (ip + 1) a b c hrest2 h9) (fun t a b c h9 => ih _ t a b c rfl h9) h)
end ZS
