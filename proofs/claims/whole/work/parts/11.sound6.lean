/-! Object's constructor, the script, Math, strings' places, returns -/
/-- what is known of the start beside the words: strings, and the like -/
def z_En (sa sv : Nat → Nat) (A : Nat → Prop) (U : State) (H : Heap) : Prop :=
  va_AO "LongBoats$Harbour" U ∧ (∀ k : Nat, 0 < k → k < 43 → vk_R (z_sk k).1 (z_sk k).2.1 (z_sk k).2.2 (sa k) U ∧ va_O "java/lang/String" (sa k) A U H ∧ va_OF "java/lang/String" "coder" "B" (.int 0) (sa k) A U H ∧ va_OF "java/lang/String" "value" "[B" (.ref (sv k)) (sa k) A U H ∧ va_T .byte (sv k) (z_tx k).length (fun j => .int ((z_tx k).getD j 0)) A U H) ∧ va_Z "java/lang/String" "COMPACT_STRINGS" "Z" (.int 1) A U H ∧ (∀ w ∈ z_nw, va_Nw w U) ∧ va_Zq "jdk/internal/util/Preconditions" "SIOOBE_FORMATTER" "Ljava/util/function/BiFunction;" A U H
theorem z_wordN {q : Nat} {w : Cond} (h : z_atN q w = true) : w ∈ z_nw := by
  simp only [z_atN, Bool.and_eq_true, decide_eq_true_eq] at h
  exact List.mem_filter.mpr ⟨List.mem_of_getElem? h.1, h.2⟩
theorem z_En_move {sa sv : Nat → Nat} {A B : Nat → Prop} {s U : State} {H : Heap} (En : z_En sa sv A s s.heap) (hW : s.WarmedH U.vm) (hU : U.heap = H) (hk : ∀ q : Nat, q < s.heap.size → ¬ A q → H[q]? = s.heap[q]?) (hAB : ∀ q, B q → A q) : z_En sa sv B U U.heap := by
  rw [hU]
  have ha := hW.alike
  refine ⟨En.1.moved ha, fun k h0 h1 => ?_, ((En.2.2.1.kept hk).moved ha).narrow hAB, fun w hw => ?_, ((En.2.2.2.2.kept hk).moved ha).narrow hAB⟩
  · obtain ⟨e1, e2, e3, e4, e5⟩ := En.2.1 k h0 h1
    exact ⟨vk_R.warm hW e1, ((e2.kept hk).moved ha).narrow hAB, ((e3.kept hk).moved ha).narrow hAB, ((e4.kept hk).moved ha).narrow hAB, ((e5.kept hk).moved ha).narrow hAB⟩
  · have h1 := (List.mem_filter.mp hw).2
    have h2 := En.2.2.2.1 w hw
    cases w <;> first | exact va_Nw.warmM hW h2 | cases h1
theorem z_En_call {sa sv : Nat → Nat} {A : Nat → Prop} {U : State} {g : JFrame} {mk : MethodId} {a : Array Value} (En : z_En sa sv A U U.heap) : z_En sa sv A (U.calling g mk a) (U.calling g mk a).heap := by
  have ha : U.vm.Alike (U.calling g mk a).vm := Vm.Alike.refl U.vm
  refine ⟨En.1.moved ha, fun k h0 h1 => ?_, En.2.2.1.moved ha, fun w hw => ?_, En.2.2.2.2.moved ha⟩
  · obtain ⟨e1, e2, e3, e4, e5⟩ := En.2.1 k h0 h1
    exact ⟨vk_R.same (u := U) rfl e1, e2.moved ha, e3.moved ha, e4.moved ha, e5.moved ha⟩
  · have h1 := (List.mem_filter.mp hw).2
    have h2 := En.2.2.2.1 w hw
    cases w <;> first | exact va_Nw.same (u := U) rfl rfl h2 | cases h1
theorem z_cs_eq (st : List Value) : z_cs st = (st.map fun v => v.category).sum := by
  induction st with
  | nil => rfl
  | cons v t ih => simp only [z_cs, ih, List.map_cons, List.sum_cons]; cases v <;> rfl
theorem z_cs_tr (ad sa : Nat → Nat) (st : List Value) : ((st.map (z_tr ad sa)).map fun v => v.category).sum = z_cs st := by
  rw [z_cs_eq]
  congr 1
  rw [List.map_map]
  apply List.map_congr_left
  intro v _
  exact z_tr_cat ad sa v
theorem z_w_oi : Cond.instanceMethod objectInit ∈ z_tb := z_word (q := 128) (by decide +kernel)
theorem z_w_oc : Cond.code objectInit ⟨#[0xb1]⟩ 1 none ∈ z_tb := z_word (q := 129) (by decide +kernel)
theorem z_w_min_s : Cond.static Lib.Math.min.name ∈ z_tb := z_word (q := 539) (by decide +kernel)
theorem z_w_min_c : Cond.code Lib.Math.min.name Lib.Math.min.code 2 (some .int) ∈ z_tb := z_word (q := 540) (by decide +kernel)
theorem z_w_max_s : Cond.static Lib.Math.max.name ∈ z_tb := z_word (q := 1640) (by decide +kernel)
theorem z_w_max_c : Cond.code Lib.Math.max.name Lib.Math.max.code 2 (some .int) ∈ z_tb := z_word (q := 1641) (by decide +kernel)
theorem z_w_abs_s : Cond.static Lib.Math.abs.name ∈ z_tb := z_word (q := 1048) (by decide +kernel)
theorem z_w_abs_c : Cond.code Lib.Math.abs.name Lib.Math.abs.code 1 (some .int) ∈ z_tb := z_word (q := 1049) (by decide +kernel)
theorem z_w_math : Cond.initialized "java/lang/Math" ∈ z_tb := z_word (q := 117) (by decide +kernel)
section ZS
variable {p : Program} {l : Launch} {e : Env} {R : Room} {s : State} {mt : MethodId} {args : Array Value} {below : List Frame} {meth : Method} {c : Code} {Q : State → Prop} {D : va_G} {A : Nat → Prop} {sa sv ad0 : Nat → Nat} {n0 nf nL : Nat} {cd : List zI} {own : String} {cc : ByteArray} {ini : Bool} {rt : Option FieldType}

theorem zs_oinit (C : z_Cx p s mt args meth c own cc nL ini rt) (hR : z_Rm R n0 nf) {ip i k : Nat} {lv : zL} {r : List Value} {m : zM} (hcs : z_cs r ≤ 8) (hd : decode cc (z_pc cd ip) = .ok (.invokespecial i, 3)) (hn : z_pc cd (ip + 1) = z_pc cd ip + 3) (hlk : Cond.methodLink own i objectInit ∈ z_tb) (h : z_G p l e R s mt args below meth c Q D A sa ad0 n0 nf nL (z_pc cd) (ip + 1) lv r m) : z_G p l e R s mt args below meth c Q D A sa ad0 n0 nf nL (z_pc cd) ip lv (.ref k :: r) m := by
  refine zs_step (fun ho hv w q => ho w (List.mem_cons_of_mem _ q)) (fun ad H locs ls hl kk => ?_) h
  rw [hn] at kk
  refine W.objInit C.1 C.2.1 C.2.2.2.2.1 (C.2.2.2.2.2.1 _ hlk) (C.2.2.2.2.2.1 _ z_w_oi) (C.2.2.2.2.2.1 _ z_w_oc) rfl (hl.1.trans C.2.2.2.1.symm) rfl hd (by have := hR.2.2.1; omega) ?_ kk
  have h4 := hR.2.2.2
  have h5 : (F0 mt (z_pc cd ip) ls ((z_tr ad sa (.ref k)) :: r.map (z_tr ad sa))).monitorRoom = 0 := rfl
  show 2 * (F0 mt (z_pc cd ip) ls ((z_tr ad sa (.ref k)) :: r.map (z_tr ad sa))).monitorRoom + ((r.map (z_tr ad sa)).map fun v => v.category).sum + 12 ≤ R.locals
  rw [z_cs_tr, h5]
  omega
theorem zs_min (C : z_Cx p s mt args meth c own cc nL ini rt) (hR : z_Rm R n0 nf) {ip i : Nat} {lv : zL} {r : List Value} {m : zM} {y x : Int32} (hcs : z_cs r ≤ 8) (hd : decode cc (z_pc cd ip) = .ok (.invokestatic i, 3)) (hn : z_pc cd (ip + 1) = z_pc cd ip + 3) (hlk : Cond.methodLink own i Lib.Math.min.name ∈ z_tb) (h : z_G p l e R s mt args below meth c Q D A sa ad0 n0 nf nL (z_pc cd) (ip + 1) lv (.int (if y < x then y else x) :: r) m) : z_G p l e R s mt args below meth c Q D A sa ad0 n0 nf nL (z_pc cd) ip lv (.int y :: .int x :: r) m := by
  refine ⟨h.1, fun ad ac tys H locs ls hSt hl ho hvv => ?_⟩
  have h2 := h.2 ad ac tys H locs ls hSt hl (fun v hv => by
    rcases List.mem_cons.mp hv with rfl | g
    · simp [z_okv]
    · exact ho v (List.mem_cons_of_mem _ (List.mem_cons_of_mem _ g))) hvv
  rw [hn] at h2
  obtain ⟨r1, r2, r3, r4⟩ := hR
  have h1 := h.1
  have hn0 := hSt.2.2.2.2.2.2.1
  have hs1 := z_sl_mono h1
  refine va_mmin C.1 C.2.1 (C.2.2.2.1.trans hl.1.symm) C.2.2.2.2.1 (C.2.2.2.2.2.1 _ hlk) (C.2.2.2.2.2.1 _ z_w_min_s) (C.2.2.2.2.2.1 _ z_w_math) (C.2.2.2.2.2.1 _ z_w_min_c) (by omega) (by rw [z_cs_tr]; omega) (by omega) (by omega) hd h2
theorem zs_max (C : z_Cx p s mt args meth c own cc nL ini rt) (hR : z_Rm R n0 nf) {ip i : Nat} {lv : zL} {r : List Value} {m : zM} {y x : Int32} (hcs : z_cs r ≤ 8) (hd : decode cc (z_pc cd ip) = .ok (.invokestatic i, 3)) (hn : z_pc cd (ip + 1) = z_pc cd ip + 3) (hlk : Cond.methodLink own i Lib.Math.max.name ∈ z_tb) (h : z_G p l e R s mt args below meth c Q D A sa ad0 n0 nf nL (z_pc cd) (ip + 1) lv (.int (if x < y then y else x) :: r) m) : z_G p l e R s mt args below meth c Q D A sa ad0 n0 nf nL (z_pc cd) ip lv (.int y :: .int x :: r) m := by
  refine ⟨h.1, fun ad ac tys H locs ls hSt hl ho hvv => ?_⟩
  have h2 := h.2 ad ac tys H locs ls hSt hl (fun v hv => by
    rcases List.mem_cons.mp hv with rfl | g
    · simp [z_okv]
    · exact ho v (List.mem_cons_of_mem _ (List.mem_cons_of_mem _ g))) hvv
  rw [hn] at h2
  obtain ⟨r1, r2, r3, r4⟩ := hR
  have h1 := h.1
  have hn0 := hSt.2.2.2.2.2.2.1
  have hs1 := z_sl_mono h1
  refine va_mmax C.1 C.2.1 (C.2.2.2.1.trans hl.1.symm) C.2.2.2.2.1 (C.2.2.2.2.2.1 _ hlk) (C.2.2.2.2.2.1 _ z_w_max_s) (C.2.2.2.2.2.1 _ z_w_math) (C.2.2.2.2.2.1 _ z_w_max_c) (by omega) (by rw [z_cs_tr]; omega) (by omega) (by omega) hd h2
theorem zs_abs (C : z_Cx p s mt args meth c own cc nL ini rt) (hR : z_Rm R n0 nf) {ip i : Nat} {lv : zL} {r : List Value} {m : zM} {x : Int32} (hcs : z_cs r ≤ 8) (hd : decode cc (z_pc cd ip) = .ok (.invokestatic i, 3)) (hn : z_pc cd (ip + 1) = z_pc cd ip + 3) (hlk : Cond.methodLink own i Lib.Math.abs.name ∈ z_tb) (h : z_G p l e R s mt args below meth c Q D A sa ad0 n0 nf nL (z_pc cd) (ip + 1) lv (.int (if 0 ≤ x then x else 0 - x) :: r) m) : z_G p l e R s mt args below meth c Q D A sa ad0 n0 nf nL (z_pc cd) ip lv (.int x :: r) m := by
  refine ⟨h.1, fun ad ac tys H locs ls hSt hl ho hvv => ?_⟩
  have h2 := h.2 ad ac tys H locs ls hSt hl (fun v hv => by
    rcases List.mem_cons.mp hv with rfl | g
    · simp [z_okv]
    · exact ho v (List.mem_cons_of_mem _ g)) hvv
  rw [hn] at h2
  obtain ⟨r1, r2, r3, r4⟩ := hR
  have h1 := h.1
  have hn0 := hSt.2.2.2.2.2.2.1
  have hs1 := z_sl_mono h1
  refine va_mabs C.1 C.2.1 (C.2.2.2.1.trans hl.1.symm) C.2.2.2.2.1 (C.2.2.2.2.2.1 _ hlk) (C.2.2.2.2.2.1 _ z_w_abs_s) (C.2.2.2.2.2.1 _ z_w_math) (C.2.2.2.2.2.1 _ z_w_abs_c) (by omega) (by rw [z_cs_tr]; omega) (by omega) (by omega) hd h2
theorem zs_ldcs (C : z_Cx p s mt args meth c own cc nL ini rt) (En : z_En sa sv A s s.heap) {ip i k : Nat} {lv : zL} {st : List Value} {m : zM} (hd : decode cc (z_pc cd ip) = .ok (.ldc i, 2)) (hn : z_pc cd (ip + 1) = z_pc cd ip + 2) (h0 : 0 < k) (h43 : k < 43) (ho1 : (z_sk k).1 = own) (hi : (z_sk k).2.1 = i) (h : z_G p l e R s mt args below meth c Q D A sa ad0 n0 nf nL (z_pc cd) (ip + 1) lv (.ref (z_sb + k) :: st) m) : z_G p l e R s mt args below meth c Q D A sa ad0 n0 nf nL (z_pc cd) ip lv st m := by
  refine zs_step (fun ho hv v hv2 => ?_) (fun ad H locs ls hl kk => ?_) h
  · rcases List.mem_cons.mp hv2 with rfl | g
    · exact Or.inr ⟨Nat.le_add_right _ _, Nat.add_lt_add_left h43 _⟩
    · exact ho v g
  · rw [hn] at kk
    have e : z_tr ad sa (.ref (z_sb + k)) = .ref (sa k) := by
      simp only [z_tr]
      rw [if_neg (Nat.not_lt.mpr (Nat.le_add_right _ _)), Nat.add_sub_cancel_left]
    rw [List.map_cons, e] at kk
    have hz := (En.2.1 k h0 h43).1
    rw [ho1, hi] at hz
    exact va_ldcS C.1 C.2.1 C.2.2.2.2.1 hz hd kk
theorem zs_slen (C : z_Cx p s mt args meth c own cc nL ini rt) {L : Nat} {xs : Nat → Int32} (hX : va_X (sa 0) L xs s s.heap) (hb : sa 0 < s.heap.size) (hA : ¬ A (sa 0)) {ip : Nat} {lv : zL} {r : List Value} {m : zM} (hd : decode cc (z_pc cd ip) = .ok (.arraylength, 1)) (hn : z_pc cd (ip + 1) = z_pc cd ip + 1) (h : z_G p l e R s mt args below meth c Q D A sa ad0 n0 nf nL (z_pc cd) (ip + 1) lv (.int (Int32.ofNat L) :: r) m) : z_G p l e R s mt args below meth c Q D A sa ad0 n0 nf nL (z_pc cd) ip lv (.ref z_sb :: r) m := by
  refine ⟨h.1, fun ad ac tys H locs ls hSt hl ho hvv => ?_⟩
  have h2 := h.2 ad ac tys H locs ls hSt hl (fun v hv => by
    rcases List.mem_cons.mp hv with rfl | g
    · simp [z_okv]
    · exact ho v (List.mem_cons_of_mem _ g)) hvv
  rw [hn] at h2
  have e9 : z_tr ad sa (.ref z_sb) = .ref (sa 0) := by
    simp only [z_tr]
    rw [if_neg (Nat.lt_irrefl _), Nat.sub_self]
  show W p l e R s mt args below meth c H locs _ _ Q (F0 mt _ ls (z_tr ad sa (.ref z_sb) :: r.map (z_tr ad sa)))
  rw [e9]
  exact va_slen C.1 C.2.1 hX hb hA hSt.2.2.2.1 hd h2
theorem zs_sld (C : z_Cx p s mt args meth c own cc nL ini rt) {L : Nat} {xs : Nat → Int32} (hX : va_X (sa 0) L xs s s.heap) (hb : sa 0 < s.heap.size) (hA : ¬ A (sa 0)) {ip : Nat} {lv : zL} {r : List Value} {m : zM} {j : Int32} (hj : ¬ (j < 0 ∨ L ≤ j.toNatClampNeg)) (hd : decode cc (z_pc cd ip) = .ok (.iaload, 1)) (hn : z_pc cd (ip + 1) = z_pc cd ip + 1) (h : z_G p l e R s mt args below meth c Q D A sa ad0 n0 nf nL (z_pc cd) (ip + 1) lv (.int (xs j.toNatClampNeg) :: r) m) : z_G p l e R s mt args below meth c Q D A sa ad0 n0 nf nL (z_pc cd) ip lv (.int j :: .ref z_sb :: r) m := by
  refine ⟨h.1, fun ad ac tys H locs ls hSt hl ho hvv => ?_⟩
  have h2 := h.2 ad ac tys H locs ls hSt hl (fun v hv => by
    rcases List.mem_cons.mp hv with rfl | g
    · simp [z_okv]
    · exact ho v (List.mem_cons_of_mem _ (List.mem_cons_of_mem _ g))) hvv
  rw [hn] at h2
  have e9 : z_tr ad sa (.ref z_sb) = .ref (sa 0) := by
    simp only [z_tr]
    rw [if_neg (Nat.lt_irrefl _), Nat.sub_self]
  show W p l e R s mt args below meth c H locs _ _ Q (F0 mt _ ls (.int j :: z_tr ad sa (.ref z_sb) :: r.map (z_tr ad sa)))
  rw [e9]
  exact va_sld C.1 C.2.1 hX hb hA hSt.2.2.2.1 hj hd h2
end ZS
