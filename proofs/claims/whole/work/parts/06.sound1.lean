/-! ONE INSTRUCTION OF THE PURE MACHINE IS ONE OF THE MACHINE'S: stack, locals, branches. -/
def z_Cx (p : Program) (s : State) (mt : MethodId) (args : Array Value) (meth : Method) (c : Code) (own : String) (cc : ByteArray) (nL : Nat) (ini : Bool) (rt : Option FieldType) : Prop :=
  p.tables.exec = Jvm.exec ∧ c.code = cc ∧ meth.sig.returnType = rt ∧ c.maxLocals = nL ∧ s.vm.findClass own = some mt.cls ∧ (∀ w ∈ z_tb, w.before args s = true) ∧ meth.locks = false ∧ (ini = true → meth.name = "<init>")
theorem z_word {q : Nat} {w : Cond} (h : z_at1 q w = true) : w ∈ z_tb := by
  simp only [z_at1, Bool.and_eq_true, decide_eq_true_eq] at h
  exact List.mem_filter.mpr ⟨List.mem_of_getElem? h.1, h.2⟩
theorem z_jp_eq {cd : List zI} {pc : Nat} {off t : Int} (h : z_jp cd pc off t = true) : (pc : Int) + off = ((z_pc cd t.toNat : Nat) : Int) := of_decide_eq_true h
def z_ll (ad sa : Nat → Nat) (lv : zL) : List (Nat × Value) := (List.range lv.length).filterMap (fun k => (z_at lv k).map (fun v => (k, z_tr ad sa v)))
theorem z_at_lt {lv : zL} {k : Nat} {v : Value} (h : z_at lv k = some v) : k < lv.length := by
  rw [z_at_eq] at h
  rcases Nat.lt_or_ge k lv.length with g | g
  · exact g
  · rw [List.getElem?_eq_none g] at h; cases h
theorem z_ll_mem {ad sa : Nat → Nat} {lv : zL} {k : Nat} {v : Value} (h : z_at lv k = some v) : (k, z_tr ad sa v) ∈ z_ll ad sa lv :=
  List.mem_filterMap.mpr ⟨k, List.mem_range.mpr (z_at_lt h), by simp [h]⟩
theorem z_ll_has {ad sa : Nat → Nat} {nL : Nat} {ls : Array Slot} {lv : zL} (h : z_lv ad sa nL ls lv) : lv_has ls nL (z_ll ad sa lv) := by
  refine ⟨h.1, h.2.1, fun q hq => ?_⟩
  obtain ⟨k, -, hk⟩ := List.mem_filterMap.mp hq
  cases hz : z_at lv k with
  | none => simp [hz] at hk
  | some v =>
    simp [hz] at hk
    subst hk
    exact h.2.2.2 k v hz
theorem z_tr_cat (ad sa : Nat → Nat) (v : Value) : (z_tr ad sa v).category = v.category := by cases v <;> rfl
theorem z_s1_len (lv : zL) (k : Nat) (v : Value) : (z_s1 lv k v).length = lv.length := by simp [z_s1, z_kill_len]
theorem z_s2_len (lv : zL) (k : Nat) (v : Value) : (z_s2 lv k v).length = lv.length := by simp [z_s2, z_kill_len]
theorem z_s1_at {lv : zL} {i k : Nat} {v w : Value} (hi : i < lv.length) (h : z_at (z_s1 lv i v) k = some w) : (k = i ∧ w = v) ∨ (k ≠ i ∧ z_at lv k = some w ∧ ¬ (k + 1 = i ∧ w.category = 2)) := by
  rw [z_s1, z_at_set] at h
  by_cases q : i = k
  · rw [if_pos ⟨q, by rw [z_kill_len]; exact hi⟩] at h
    exact Or.inl ⟨q.symm, by cases h; rfl⟩
  · rw [if_neg (fun z => q z.1)] at h
    exact Or.inr ⟨fun z => q z.symm, z_kill_at lv i k w h⟩
theorem z_s2_at {lv : zL} {i k : Nat} {v w : Value} (hi : i + 1 < lv.length) (h : z_at (z_s2 lv i v) k = some w) : (k = i ∧ w = v) ∨ (k ≠ i ∧ k ≠ i + 1 ∧ z_at lv k = some w ∧ ¬ (k + 1 = i ∧ w.category = 2)) := by
  rw [z_s2, z_at_set] at h
  by_cases q : i + 1 = k
  · rw [if_pos ⟨q, by simp [z_kill_len]; exact hi⟩] at h
    cases h
  · rw [if_neg (fun z => q z.1), z_at_set] at h
    by_cases q2 : i = k
    · rw [if_pos ⟨q2, by rw [z_kill_len]; omega⟩] at h
      exact Or.inl ⟨q2.symm, by cases h; rfl⟩
    · rw [if_neg (fun z => q2 z.1)] at h
      exact Or.inr ⟨fun z => q2 z.symm, fun z => q z.symm, z_kill_at lv i k w h⟩
theorem z_lv_s1 {ad sa : Nat → Nat} {nL i : Nat} {ls ls' : Array Slot} {lv : zL} {v : Value} (h : z_lv ad sa nL ls lv) (hi : i < nL) (h' : lv_has ls' nL ((i, z_tr ad sa v) :: (z_ll ad sa lv).filter (fun q => !(q.1 == i) && !(q.1 + 1 == i && q.2.category == 2)))) : z_lv ad sa nL ls' (z_s1 lv i v) := by
  refine ⟨h'.1, h'.2.1, by rw [z_s1_len]; exact h.2.2.1, fun k w hk => ?_⟩
  rcases z_s1_at (by rw [h.2.2.1]; exact hi) hk with ⟨rfl, rfl⟩ | ⟨h1, h2, h3⟩
  · exact h'.2.2 _ List.mem_cons_self
  · refine h'.2.2 (k, z_tr ad sa w) (List.mem_cons_of_mem _ (List.mem_filter.mpr ⟨z_ll_mem h2, ?_⟩))
    simp only [z_tr_cat]
    simp [h1]
    exact Classical.not_and_iff_not_or_not.mp h3
theorem z_lv_s2 {ad sa : Nat → Nat} {nL i : Nat} {ls ls' : Array Slot} {lv : zL} {v : Value} (h : z_lv ad sa nL ls lv) (hi : i + 1 < nL) (h' : lv_has ls' nL ((i, z_tr ad sa v) :: (z_ll ad sa lv).filter (fun q => !(q.1 == i) && (!(q.1 == i + 1) && !(q.1 + 1 == i && q.2.category == 2))))) : z_lv ad sa nL ls' (z_s2 lv i v) := by
  refine ⟨h'.1, h'.2.1, by rw [z_s2_len]; exact h.2.2.1, fun k w hk => ?_⟩
  rcases z_s2_at (by rw [h.2.2.1]; exact hi) hk with ⟨rfl, rfl⟩ | ⟨h1, h1b, h2, h3⟩
  · exact h'.2.2 _ List.mem_cons_self
  · refine h'.2.2 (k, z_tr ad sa w) (List.mem_cons_of_mem _ (List.mem_filter.mpr ⟨z_ll_mem h2, ?_⟩))
    simp only [z_tr_cat]
    simp [h1, h1b]
    exact Classical.not_and_iff_not_or_not.mp h3
theorem z_ok_s1 {n : Nat} {lv : zL} {i : Nat} {v : Value} (hi : i < lv.length) (hv : z_okv n v) (h : ∀ k w, z_at lv k = some w → z_okv n w) : ∀ k w, z_at (z_s1 lv i v) k = some w → z_okv n w := fun k w hk => by
  rcases z_s1_at hi hk with ⟨-, rfl⟩ | ⟨-, h2, -⟩
  · exact hv
  · exact h k w h2
theorem z_ok_s2 {n : Nat} {lv : zL} {i : Nat} {v : Value} (hi : i + 1 < lv.length) (hv : z_okv n v) (h : ∀ k w, z_at lv k = some w → z_okv n w) : ∀ k w, z_at (z_s2 lv i v) k = some w → z_okv n w := fun k w hk => by
  rcases z_s2_at hi hk with ⟨-, rfl⟩ | ⟨-, -, h2, -⟩
  · exact hv
  · exact h k w h2
section ZS

variable {p : Program} {l : Launch} {e : Env} {R : Room} {s : State} {mt : MethodId} {args : Array Value} {below : List Frame} {meth : Method} {c : Code} {Q : State → Prop} {D : va_G} {A : Nat → Prop} {sa sv ad0 : Nat → Nat} {n0 nf nL : Nat} {cd : List zI} {own : String} {cc : ByteArray} {ini : Bool} {rt : Option FieldType}

theorem zs_step {ip ip' : Nat} {lv : zL} {st st' : List Value} {m : zM} (hok : (∀ v ∈ st, z_okv m.1 v) → (∀ k v, z_at lv k = some v → z_okv m.1 v) → ∀ v ∈ st', z_okv m.1 v)
    (hs : ∀ (ad : Nat → Nat) (H : Heap) (locs : List Loc) (ls : Array Slot), z_lv ad sa nL ls lv → W p l e R s mt args below meth c H locs (m.1 - n0) (z_sl m.1 - z_sl n0) Q (F0 mt (z_pc cd ip') ls (st'.map (z_tr ad sa))) → W p l e R s mt args below meth c H locs (m.1 - n0) (z_sl m.1 - z_sl n0) Q (F0 mt (z_pc cd ip) ls (st.map (z_tr ad sa)))) (h : z_G p l e R s mt args below meth c Q D A sa ad0 n0 nf nL (z_pc cd) ip' lv st' m) : z_G p l e R s mt args below meth c Q D A sa ad0 n0 nf nL (z_pc cd) ip lv st m :=
  ⟨h.1, fun ad ac tys H locs ls hSt hl ho hv => hs ad H locs ls hl (h.2 ad ac tys H locs ls hSt hl (hok ho hv) hv)⟩
theorem zs_if {ip t : Nat} {lv : zL} {st st' : List Value} {m : zM} {P : Prop} {dP : Decidable P} (hok : (∀ v ∈ st, z_okv m.1 v) → ∀ v ∈ st', z_okv m.1 v)
    (hs : ∀ (ad : Nat → Nat) (H : Heap) (locs : List Loc) (ls : Array Slot), (P → W p l e R s mt args below meth c H locs (m.1 - n0) (z_sl m.1 - z_sl n0) Q (F0 mt (z_pc cd t) ls (st'.map (z_tr ad sa)))) → (¬ P → W p l e R s mt args below meth c H locs (m.1 - n0) (z_sl m.1 - z_sl n0) Q (F0 mt (z_pc cd (ip + 1)) ls (st'.map (z_tr ad sa)))) → W p l e R s mt args below meth c H locs (m.1 - n0) (z_sl m.1 - z_sl n0) Q (F0 mt (z_pc cd ip) ls (st.map (z_tr ad sa)))) (h : @ite Prop P dP (z_G p l e R s mt args below meth c Q D A sa ad0 n0 nf nL (z_pc cd) t lv st' m) (z_G p l e R s mt args below meth c Q D A sa ad0 n0 nf nL (z_pc cd) (ip + 1) lv st' m)) : z_G p l e R s mt args below meth c Q D A sa ad0 n0 nf nL (z_pc cd) ip lv st m := by
  by_cases hP : P
  · rw [if_pos hP] at h
    exact ⟨h.1, fun ad ac tys H locs ls hSt hl ho hv => hs ad H locs ls (fun _ => h.2 ad ac tys H locs ls hSt hl (hok ho) hv) (fun q => absurd hP q)⟩
  · rw [if_neg hP] at h
    exact ⟨h.1, fun ad ac tys H locs ls hSt hl ho hv => hs ad H locs ls (fun q => absurd q hP) (fun _ => h.2 ad ac tys H locs ls hSt hl (hok ho) hv)⟩
theorem zs_ifN {ip t : Nat} {lv : zL} {st st' : List Value} {m : zM} {P : Prop} {dP : Decidable P} (hok : (∀ v ∈ st, z_okv m.1 v) → ∀ v ∈ st', z_okv m.1 v)
    (hs : ∀ (ad : Nat → Nat) (H : Heap) (locs : List Loc) (ls : Array Slot), (¬ P → W p l e R s mt args below meth c H locs (m.1 - n0) (z_sl m.1 - z_sl n0) Q (F0 mt (z_pc cd t) ls (st'.map (z_tr ad sa)))) → (P → W p l e R s mt args below meth c H locs (m.1 - n0) (z_sl m.1 - z_sl n0) Q (F0 mt (z_pc cd (ip + 1)) ls (st'.map (z_tr ad sa)))) → W p l e R s mt args below meth c H locs (m.1 - n0) (z_sl m.1 - z_sl n0) Q (F0 mt (z_pc cd ip) ls (st.map (z_tr ad sa)))) (h : @ite Prop P dP (z_G p l e R s mt args below meth c Q D A sa ad0 n0 nf nL (z_pc cd) (ip + 1) lv st' m) (z_G p l e R s mt args below meth c Q D A sa ad0 n0 nf nL (z_pc cd) t lv st' m)) : z_G p l e R s mt args below meth c Q D A sa ad0 n0 nf nL (z_pc cd) ip lv st m := by
  by_cases hP : P
  · rw [if_pos hP] at h
    exact ⟨h.1, fun ad ac tys H locs ls hSt hl ho hv => hs ad H locs ls (fun q => absurd hP q) (fun _ => h.2 ad ac tys H locs ls hSt hl (hok ho) hv)⟩
  · rw [if_neg hP] at h
    exact ⟨h.1, fun ad ac tys H locs ls hSt hl ho hv => hs ad H locs ls (fun _ => h.2 ad ac tys H locs ls hSt hl (hok ho) hv) (fun q => absurd q hP)⟩
theorem zs_iadd (C : z_Cx p s mt args meth c own cc nL ini rt) {ip : Nat} {lv : zL} {r : List Value} {m : zM} {y : Int32} {x : Int32} (hd : decode cc (z_pc cd ip) = .ok (.iadd, 1)) (hn : z_pc cd (ip + 1) = z_pc cd ip + 1) (h : z_G p l e R s mt args below meth c Q D A sa ad0 n0 nf nL (z_pc cd) (ip + 1) lv (.int (x + y) :: r) m) : z_G p l e R s mt args below meth c Q D A sa ad0 n0 nf nL (z_pc cd) ip lv (.int y :: .int x :: r) m := by
  refine zs_step (fun ho hv => ?_) (fun ad H locs ls hl k => ?_) h
  · simp [z_okv] at ho ⊢; exact ho
  · rw [hn] at k
    exact lv_iadd C.1 C.2.1 hd k
theorem zs_isub (C : z_Cx p s mt args meth c own cc nL ini rt) {ip : Nat} {lv : zL} {r : List Value} {m : zM} {y : Int32} {x : Int32} (hd : decode cc (z_pc cd ip) = .ok (.isub, 1)) (hn : z_pc cd (ip + 1) = z_pc cd ip + 1) (h : z_G p l e R s mt args below meth c Q D A sa ad0 n0 nf nL (z_pc cd) (ip + 1) lv (.int (x - y) :: r) m) : z_G p l e R s mt args below meth c Q D A sa ad0 n0 nf nL (z_pc cd) ip lv (.int y :: .int x :: r) m := by
  refine zs_step (fun ho hv => ?_) (fun ad H locs ls hl k => ?_) h
  · simp [z_okv] at ho ⊢; exact ho
  · rw [hn] at k
    exact lv_isub C.1 C.2.1 hd k
theorem zs_imul (C : z_Cx p s mt args meth c own cc nL ini rt) {ip : Nat} {lv : zL} {r : List Value} {m : zM} {y : Int32} {x : Int32} (hd : decode cc (z_pc cd ip) = .ok (.imul, 1)) (hn : z_pc cd (ip + 1) = z_pc cd ip + 1) (h : z_G p l e R s mt args below meth c Q D A sa ad0 n0 nf nL (z_pc cd) (ip + 1) lv (.int (x * y) :: r) m) : z_G p l e R s mt args below meth c Q D A sa ad0 n0 nf nL (z_pc cd) ip lv (.int y :: .int x :: r) m := by
  refine zs_step (fun ho hv => ?_) (fun ad H locs ls hl k => ?_) h
  · simp [z_okv] at ho ⊢; exact ho
  · rw [hn] at k
    exact lv_imul C.1 C.2.1 hd k
theorem zs_iand (C : z_Cx p s mt args meth c own cc nL ini rt) {ip : Nat} {lv : zL} {r : List Value} {m : zM} {y : Int32} {x : Int32} (hd : decode cc (z_pc cd ip) = .ok (.iand, 1)) (hn : z_pc cd (ip + 1) = z_pc cd ip + 1) (h : z_G p l e R s mt args below meth c Q D A sa ad0 n0 nf nL (z_pc cd) (ip + 1) lv (.int (x &&& y) :: r) m) : z_G p l e R s mt args below meth c Q D A sa ad0 n0 nf nL (z_pc cd) ip lv (.int y :: .int x :: r) m := by
  refine zs_step (fun ho hv => ?_) (fun ad H locs ls hl k => ?_) h
  · simp [z_okv] at ho ⊢; exact ho
  · rw [hn] at k
    exact lv_iand C.1 C.2.1 hd k
theorem zs_ior (C : z_Cx p s mt args meth c own cc nL ini rt) {ip : Nat} {lv : zL} {r : List Value} {m : zM} {y : Int32} {x : Int32} (hd : decode cc (z_pc cd ip) = .ok (.ior, 1)) (hn : z_pc cd (ip + 1) = z_pc cd ip + 1) (h : z_G p l e R s mt args below meth c Q D A sa ad0 n0 nf nL (z_pc cd) (ip + 1) lv (.int (x ||| y) :: r) m) : z_G p l e R s mt args below meth c Q D A sa ad0 n0 nf nL (z_pc cd) ip lv (.int y :: .int x :: r) m := by
  refine zs_step (fun ho hv => ?_) (fun ad H locs ls hl k => ?_) h
  · simp [z_okv] at ho ⊢; exact ho
  · rw [hn] at k
    exact lv_ior C.1 C.2.1 hd k
theorem zs_ixor (C : z_Cx p s mt args meth c own cc nL ini rt) {ip : Nat} {lv : zL} {r : List Value} {m : zM} {y : Int32} {x : Int32} (hd : decode cc (z_pc cd ip) = .ok (.ixor, 1)) (hn : z_pc cd (ip + 1) = z_pc cd ip + 1) (h : z_G p l e R s mt args below meth c Q D A sa ad0 n0 nf nL (z_pc cd) (ip + 1) lv (.int (x ^^^ y) :: r) m) : z_G p l e R s mt args below meth c Q D A sa ad0 n0 nf nL (z_pc cd) ip lv (.int y :: .int x :: r) m := by
  refine zs_step (fun ho hv => ?_) (fun ad H locs ls hl k => ?_) h
  · simp [z_okv] at ho ⊢; exact ho
  · rw [hn] at k
    exact lv_ixor C.1 C.2.1 hd k
theorem zs_ishl (C : z_Cx p s mt args meth c own cc nL ini rt) {ip : Nat} {lv : zL} {r : List Value} {m : zM} {y : Int32} {x : Int32} (hd : decode cc (z_pc cd ip) = .ok (.ishl, 1)) (hn : z_pc cd (ip + 1) = z_pc cd ip + 1) (h : z_G p l e R s mt args below meth c Q D A sa ad0 n0 nf nL (z_pc cd) (ip + 1) lv (.int (x <<< (y &&& 31)) :: r) m) : z_G p l e R s mt args below meth c Q D A sa ad0 n0 nf nL (z_pc cd) ip lv (.int y :: .int x :: r) m := by
  refine zs_step (fun ho hv => ?_) (fun ad H locs ls hl k => ?_) h
  · simp [z_okv] at ho ⊢; exact ho
  · rw [hn] at k
    exact lv_ishl C.1 C.2.1 hd k
theorem zs_ishr (C : z_Cx p s mt args meth c own cc nL ini rt) {ip : Nat} {lv : zL} {r : List Value} {m : zM} {y : Int32} {x : Int32} (hd : decode cc (z_pc cd ip) = .ok (.ishr, 1)) (hn : z_pc cd (ip + 1) = z_pc cd ip + 1) (h : z_G p l e R s mt args below meth c Q D A sa ad0 n0 nf nL (z_pc cd) (ip + 1) lv (.int (x >>> (y &&& 31)) :: r) m) : z_G p l e R s mt args below meth c Q D A sa ad0 n0 nf nL (z_pc cd) ip lv (.int y :: .int x :: r) m := by
  refine zs_step (fun ho hv => ?_) (fun ad H locs ls hl k => ?_) h
  · simp [z_okv] at ho ⊢; exact ho
  · rw [hn] at k
    exact lv_ishr C.1 C.2.1 hd k
theorem zs_ladd (C : z_Cx p s mt args meth c own cc nL ini rt) {ip : Nat} {lv : zL} {r : List Value} {m : zM} {y : Int64} {x : Int64} (hd : decode cc (z_pc cd ip) = .ok (.ladd, 1)) (hn : z_pc cd (ip + 1) = z_pc cd ip + 1) (h : z_G p l e R s mt args below meth c Q D A sa ad0 n0 nf nL (z_pc cd) (ip + 1) lv (.long (x + y) :: r) m) : z_G p l e R s mt args below meth c Q D A sa ad0 n0 nf nL (z_pc cd) ip lv (.long y :: .long x :: r) m := by
  refine zs_step (fun ho hv => ?_) (fun ad H locs ls hl k => ?_) h
  · simp [z_okv] at ho ⊢; exact ho
  · rw [hn] at k
    exact lv_ladd C.1 C.2.1 hd k
theorem zs_lsub (C : z_Cx p s mt args meth c own cc nL ini rt) {ip : Nat} {lv : zL} {r : List Value} {m : zM} {y : Int64} {x : Int64} (hd : decode cc (z_pc cd ip) = .ok (.lsub, 1)) (hn : z_pc cd (ip + 1) = z_pc cd ip + 1) (h : z_G p l e R s mt args below meth c Q D A sa ad0 n0 nf nL (z_pc cd) (ip + 1) lv (.long (x - y) :: r) m) : z_G p l e R s mt args below meth c Q D A sa ad0 n0 nf nL (z_pc cd) ip lv (.long y :: .long x :: r) m := by
  refine zs_step (fun ho hv => ?_) (fun ad H locs ls hl k => ?_) h
  · simp [z_okv] at ho ⊢; exact ho
  · rw [hn] at k
    exact lv_lsub C.1 C.2.1 hd k
theorem zs_lmul (C : z_Cx p s mt args meth c own cc nL ini rt) {ip : Nat} {lv : zL} {r : List Value} {m : zM} {y : Int64} {x : Int64} (hd : decode cc (z_pc cd ip) = .ok (.lmul, 1)) (hn : z_pc cd (ip + 1) = z_pc cd ip + 1) (h : z_G p l e R s mt args below meth c Q D A sa ad0 n0 nf nL (z_pc cd) (ip + 1) lv (.long (x * y) :: r) m) : z_G p l e R s mt args below meth c Q D A sa ad0 n0 nf nL (z_pc cd) ip lv (.long y :: .long x :: r) m := by
  refine zs_step (fun ho hv => ?_) (fun ad H locs ls hl k => ?_) h
  · simp [z_okv] at ho ⊢; exact ho
  · rw [hn] at k
    exact lv_lmul C.1 C.2.1 hd k
theorem zs_land (C : z_Cx p s mt args meth c own cc nL ini rt) {ip : Nat} {lv : zL} {r : List Value} {m : zM} {y : Int64} {x : Int64} (hd : decode cc (z_pc cd ip) = .ok (.land, 1)) (hn : z_pc cd (ip + 1) = z_pc cd ip + 1) (h : z_G p l e R s mt args below meth c Q D A sa ad0 n0 nf nL (z_pc cd) (ip + 1) lv (.long (x &&& y) :: r) m) : z_G p l e R s mt args below meth c Q D A sa ad0 n0 nf nL (z_pc cd) ip lv (.long y :: .long x :: r) m := by
  refine zs_step (fun ho hv => ?_) (fun ad H locs ls hl k => ?_) h
  · simp [z_okv] at ho ⊢; exact ho
  · rw [hn] at k
    exact lv_land C.1 C.2.1 hd k
theorem zs_lor (C : z_Cx p s mt args meth c own cc nL ini rt) {ip : Nat} {lv : zL} {r : List Value} {m : zM} {y : Int64} {x : Int64} (hd : decode cc (z_pc cd ip) = .ok (.lor, 1)) (hn : z_pc cd (ip + 1) = z_pc cd ip + 1) (h : z_G p l e R s mt args below meth c Q D A sa ad0 n0 nf nL (z_pc cd) (ip + 1) lv (.long (x ||| y) :: r) m) : z_G p l e R s mt args below meth c Q D A sa ad0 n0 nf nL (z_pc cd) ip lv (.long y :: .long x :: r) m := by
  refine zs_step (fun ho hv => ?_) (fun ad H locs ls hl k => ?_) h
  · simp [z_okv] at ho ⊢; exact ho
  · rw [hn] at k
    exact lv_lor C.1 C.2.1 hd k
theorem zs_lshl (C : z_Cx p s mt args meth c own cc nL ini rt) {ip : Nat} {lv : zL} {r : List Value} {m : zM} {y : Int32} {x : Int64} (hd : decode cc (z_pc cd ip) = .ok (.lshl, 1)) (hn : z_pc cd (ip + 1) = z_pc cd ip + 1) (h : z_G p l e R s mt args below meth c Q D A sa ad0 n0 nf nL (z_pc cd) (ip + 1) lv (.long (x <<< (y.toInt64 &&& 63)) :: r) m) : z_G p l e R s mt args below meth c Q D A sa ad0 n0 nf nL (z_pc cd) ip lv (.int y :: .long x :: r) m := by
  refine zs_step (fun ho hv => ?_) (fun ad H locs ls hl k => ?_) h
  · simp [z_okv] at ho ⊢; exact ho
  · rw [hn] at k
    exact lv_lshl C.1 C.2.1 hd rfl k
theorem zs_lshr (C : z_Cx p s mt args meth c own cc nL ini rt) {ip : Nat} {lv : zL} {r : List Value} {m : zM} {y : Int32} {x : Int64} (hd : decode cc (z_pc cd ip) = .ok (.lshr, 1)) (hn : z_pc cd (ip + 1) = z_pc cd ip + 1) (h : z_G p l e R s mt args below meth c Q D A sa ad0 n0 nf nL (z_pc cd) (ip + 1) lv (.long (x >>> (y.toInt64 &&& 63)) :: r) m) : z_G p l e R s mt args below meth c Q D A sa ad0 n0 nf nL (z_pc cd) ip lv (.int y :: .long x :: r) m := by
  refine zs_step (fun ho hv => ?_) (fun ad H locs ls hl k => ?_) h
  · simp [z_okv] at ho ⊢; exact ho
  · rw [hn] at k
    exact lv_lshr C.1 C.2.1 hd rfl k
theorem zs_lcmp (C : z_Cx p s mt args meth c own cc nL ini rt) {ip : Nat} {lv : zL} {r : List Value} {m : zM} {y : Int64} {x : Int64} (hd : decode cc (z_pc cd ip) = .ok (.lcmp, 1)) (hn : z_pc cd (ip + 1) = z_pc cd ip + 1) (h : z_G p l e R s mt args below meth c Q D A sa ad0 n0 nf nL (z_pc cd) (ip + 1) lv (.int (lg_cmp x y) :: r) m) : z_G p l e R s mt args below meth c Q D A sa ad0 n0 nf nL (z_pc cd) ip lv (.long y :: .long x :: r) m := by
  refine zs_step (fun ho hv => ?_) (fun ad H locs ls hl k => ?_) h
  · simp [z_okv] at ho ⊢; exact ho
  · rw [hn] at k
    exact W.lcmp C.1 C.2.1 hd k
theorem zs_idiv (C : z_Cx p s mt args meth c own cc nL ini rt) {ip : Nat} {lv : zL} {r : List Value} {m : zM} {y : Int32} {x : Int32} (hne : ¬ y = 0) (hd : decode cc (z_pc cd ip) = .ok (.idiv, 1)) (hn : z_pc cd (ip + 1) = z_pc cd ip + 1) (h : z_G p l e R s mt args below meth c Q D A sa ad0 n0 nf nL (z_pc cd) (ip + 1) lv (.int (x / y) :: r) m) : z_G p l e R s mt args below meth c Q D A sa ad0 n0 nf nL (z_pc cd) ip lv (.int y :: .int x :: r) m := by
  refine zs_step (fun ho hv => ?_) (fun ad H locs ls hl k => ?_) h
  · simp [z_okv] at ho ⊢; exact ho
  · rw [hn] at k
    exact lv_idiv C.1 C.2.1 hd hne k
theorem zs_irem (C : z_Cx p s mt args meth c own cc nL ini rt) {ip : Nat} {lv : zL} {r : List Value} {m : zM} {y : Int32} {x : Int32} (hne : ¬ y = 0) (hd : decode cc (z_pc cd ip) = .ok (.irem, 1)) (hn : z_pc cd (ip + 1) = z_pc cd ip + 1) (h : z_G p l e R s mt args below meth c Q D A sa ad0 n0 nf nL (z_pc cd) (ip + 1) lv (.int (x - x / y * y) :: r) m) : z_G p l e R s mt args below meth c Q D A sa ad0 n0 nf nL (z_pc cd) ip lv (.int y :: .int x :: r) m := by
  refine zs_step (fun ho hv => ?_) (fun ad H locs ls hl k => ?_) h
  · simp [z_okv] at ho ⊢; exact ho
  · rw [hn] at k
    exact lv_irem C.1 C.2.1 hd hne k
theorem zs_ldiv (C : z_Cx p s mt args meth c own cc nL ini rt) {ip : Nat} {lv : zL} {r : List Value} {m : zM} {y : Int64} {x : Int64} (hne : ¬ y = 0) (hd : decode cc (z_pc cd ip) = .ok (.ldiv, 1)) (hn : z_pc cd (ip + 1) = z_pc cd ip + 1) (h : z_G p l e R s mt args below meth c Q D A sa ad0 n0 nf nL (z_pc cd) (ip + 1) lv (.long (x / y) :: r) m) : z_G p l e R s mt args below meth c Q D A sa ad0 n0 nf nL (z_pc cd) ip lv (.long y :: .long x :: r) m := by
  refine zs_step (fun ho hv => ?_) (fun ad H locs ls hl k => ?_) h
  · simp [z_okv] at ho ⊢; exact ho
  · rw [hn] at k
    exact lv_ldiv C.1 C.2.1 hd hne k
theorem zs_lrem (C : z_Cx p s mt args meth c own cc nL ini rt) {ip : Nat} {lv : zL} {r : List Value} {m : zM} {y : Int64} {x : Int64} (hne : ¬ y = 0) (hd : decode cc (z_pc cd ip) = .ok (.lrem, 1)) (hn : z_pc cd (ip + 1) = z_pc cd ip + 1) (h : z_G p l e R s mt args below meth c Q D A sa ad0 n0 nf nL (z_pc cd) (ip + 1) lv (.long (x - x / y * y) :: r) m) : z_G p l e R s mt args below meth c Q D A sa ad0 n0 nf nL (z_pc cd) ip lv (.long y :: .long x :: r) m := by
  refine zs_step (fun ho hv => ?_) (fun ad H locs ls hl k => ?_) h
  · simp [z_okv] at ho ⊢; exact ho
  · rw [hn] at k
    exact lv_lrem C.1 C.2.1 hd hne k
theorem zs_ineg (C : z_Cx p s mt args meth c own cc nL ini rt) {ip : Nat} {lv : zL} {r : List Value} {m : zM} {x : Int32} (hd : decode cc (z_pc cd ip) = .ok (.ineg, 1)) (hn : z_pc cd (ip + 1) = z_pc cd ip + 1) (h : z_G p l e R s mt args below meth c Q D A sa ad0 n0 nf nL (z_pc cd) (ip + 1) lv (.int (-x) :: r) m) : z_G p l e R s mt args below meth c Q D A sa ad0 n0 nf nL (z_pc cd) ip lv (.int x :: r) m := by
  refine zs_step (fun ho hv => ?_) (fun ad H locs ls hl k => ?_) h
  · simp [z_okv] at ho ⊢; exact ho
  · rw [hn] at k
    exact lv_ineg C.1 C.2.1 hd k
theorem zs_i2l (C : z_Cx p s mt args meth c own cc nL ini rt) {ip : Nat} {lv : zL} {r : List Value} {m : zM} {x : Int32} (hd : decode cc (z_pc cd ip) = .ok (.i2l, 1)) (hn : z_pc cd (ip + 1) = z_pc cd ip + 1) (h : z_G p l e R s mt args below meth c Q D A sa ad0 n0 nf nL (z_pc cd) (ip + 1) lv (.long x.toInt64 :: r) m) : z_G p l e R s mt args below meth c Q D A sa ad0 n0 nf nL (z_pc cd) ip lv (.int x :: r) m := by
  refine zs_step (fun ho hv => ?_) (fun ad H locs ls hl k => ?_) h
  · simp [z_okv] at ho ⊢; exact ho
  · rw [hn] at k
    exact lv_i2l C.1 C.2.1 hd rfl k
theorem zs_l2i (C : z_Cx p s mt args meth c own cc nL ini rt) {ip : Nat} {lv : zL} {r : List Value} {m : zM} {x : Int64} (hd : decode cc (z_pc cd ip) = .ok (.l2i, 1)) (hn : z_pc cd (ip + 1) = z_pc cd ip + 1) (h : z_G p l e R s mt args below meth c Q D A sa ad0 n0 nf nL (z_pc cd) (ip + 1) lv (.int x.toInt32 :: r) m) : z_G p l e R s mt args below meth c Q D A sa ad0 n0 nf nL (z_pc cd) ip lv (.long x :: r) m := by
  refine zs_step (fun ho hv => ?_) (fun ad H locs ls hl k => ?_) h
  · simp [z_okv] at ho ⊢; exact ho
  · rw [hn] at k
    exact lv_l2i C.1 C.2.1 hd rfl k
theorem zs_i2b (C : z_Cx p s mt args meth c own cc nL ini rt) {ip : Nat} {lv : zL} {r : List Value} {m : zM} {x : Int32} (hd : decode cc (z_pc cd ip) = .ok (.i2b, 1)) (hn : z_pc cd (ip + 1) = z_pc cd ip + 1) (h : z_G p l e R s mt args below meth c Q D A sa ad0 n0 nf nL (z_pc cd) (ip + 1) lv (.int x.toInt8.toInt32 :: r) m) : z_G p l e R s mt args below meth c Q D A sa ad0 n0 nf nL (z_pc cd) ip lv (.int x :: r) m := by
  refine zs_step (fun ho hv => ?_) (fun ad H locs ls hl k => ?_) h
  · simp [z_okv] at ho ⊢; exact ho
  · rw [hn] at k
    exact lv_i2b C.1 C.2.1 hd rfl k
theorem zs_i2s (C : z_Cx p s mt args meth c own cc nL ini rt) {ip : Nat} {lv : zL} {r : List Value} {m : zM} {x : Int32} (hd : decode cc (z_pc cd ip) = .ok (.i2s, 1)) (hn : z_pc cd (ip + 1) = z_pc cd ip + 1) (h : z_G p l e R s mt args below meth c Q D A sa ad0 n0 nf nL (z_pc cd) (ip + 1) lv (.int x.toInt16.toInt32 :: r) m) : z_G p l e R s mt args below meth c Q D A sa ad0 n0 nf nL (z_pc cd) ip lv (.int x :: r) m := by
  refine zs_step (fun ho hv => ?_) (fun ad H locs ls hl k => ?_) h
  · simp [z_okv] at ho ⊢; exact ho
  · rw [hn] at k
    exact lv_i2s C.1 C.2.1 hd rfl k
theorem zs_icmp_eq (C : z_Cx p s mt args meth c own cc nL ini rt) {ip : Nat} {lv : zL} {r : List Value} {m : zM} {off t : Int} {y x : Int32} (hd : decode cc (z_pc cd ip) = .ok (.if_icmp .eq off, 3)) (hj : z_jp cd (z_pc cd ip) off t = true) (hn : z_pc cd (ip + 1) = z_pc cd ip + 3) (h : if x = y then z_G p l e R s mt args below meth c Q D A sa ad0 n0 nf nL (z_pc cd) t.toNat lv r m else z_G p l e R s mt args below meth c Q D A sa ad0 n0 nf nL (z_pc cd) (ip + 1) lv r m) : z_G p l e R s mt args below meth c Q D A sa ad0 n0 nf nL (z_pc cd) ip lv (.int y :: .int x :: r) m := by
  refine zs_if (st' := r) (fun ho => ?_) (fun ad H locs ls k1 k2 => ?_) h
  · simp [z_okv] at ho ⊢; exact ho
  · rw [hn] at k2
    exact lv_icmp_eq C.1 C.2.1 hd (z_jp_eq hj) (fun q => k1 q) (fun q => k2 q)
theorem zs_if_eq (C : z_Cx p s mt args meth c own cc nL ini rt) {ip : Nat} {lv : zL} {r : List Value} {m : zM} {off t : Int} {x : Int32} (hd : decode cc (z_pc cd ip) = .ok (.ifCond .eq off, 3)) (hj : z_jp cd (z_pc cd ip) off t = true) (hn : z_pc cd (ip + 1) = z_pc cd ip + 3) (h : if x = 0 then z_G p l e R s mt args below meth c Q D A sa ad0 n0 nf nL (z_pc cd) t.toNat lv r m else z_G p l e R s mt args below meth c Q D A sa ad0 n0 nf nL (z_pc cd) (ip + 1) lv r m) : z_G p l e R s mt args below meth c Q D A sa ad0 n0 nf nL (z_pc cd) ip lv (.int x :: r) m := by
  refine zs_if (st' := r) (fun ho => ?_) (fun ad H locs ls k1 k2 => ?_) h
  · simp [z_okv] at ho ⊢; exact ho
  · rw [hn] at k2
    exact lv_if_eq C.1 C.2.1 hd (z_jp_eq hj) (fun q => k1 q) (fun q => k2 q)
theorem zs_icmp_lt (C : z_Cx p s mt args meth c own cc nL ini rt) {ip : Nat} {lv : zL} {r : List Value} {m : zM} {off t : Int} {y x : Int32} (hd : decode cc (z_pc cd ip) = .ok (.if_icmp .lt off, 3)) (hj : z_jp cd (z_pc cd ip) off t = true) (hn : z_pc cd (ip + 1) = z_pc cd ip + 3) (h : if x < y then z_G p l e R s mt args below meth c Q D A sa ad0 n0 nf nL (z_pc cd) t.toNat lv r m else z_G p l e R s mt args below meth c Q D A sa ad0 n0 nf nL (z_pc cd) (ip + 1) lv r m) : z_G p l e R s mt args below meth c Q D A sa ad0 n0 nf nL (z_pc cd) ip lv (.int y :: .int x :: r) m := by
  refine zs_if (st' := r) (fun ho => ?_) (fun ad H locs ls k1 k2 => ?_) h
  · simp [z_okv] at ho ⊢; exact ho
  · rw [hn] at k2
    exact lv_icmp_lt C.1 C.2.1 hd (z_jp_eq hj) (fun q => k1 q) (fun q => k2 q)
theorem zs_if_lt (C : z_Cx p s mt args meth c own cc nL ini rt) {ip : Nat} {lv : zL} {r : List Value} {m : zM} {off t : Int} {x : Int32} (hd : decode cc (z_pc cd ip) = .ok (.ifCond .lt off, 3)) (hj : z_jp cd (z_pc cd ip) off t = true) (hn : z_pc cd (ip + 1) = z_pc cd ip + 3) (h : if x < 0 then z_G p l e R s mt args below meth c Q D A sa ad0 n0 nf nL (z_pc cd) t.toNat lv r m else z_G p l e R s mt args below meth c Q D A sa ad0 n0 nf nL (z_pc cd) (ip + 1) lv r m) : z_G p l e R s mt args below meth c Q D A sa ad0 n0 nf nL (z_pc cd) ip lv (.int x :: r) m := by
  refine zs_if (st' := r) (fun ho => ?_) (fun ad H locs ls k1 k2 => ?_) h
  · simp [z_okv] at ho ⊢; exact ho
  · rw [hn] at k2
    exact lv_if_lt C.1 C.2.1 hd (z_jp_eq hj) (fun q => k1 q) (fun q => k2 q)
theorem zs_icmp_ge (C : z_Cx p s mt args meth c own cc nL ini rt) {ip : Nat} {lv : zL} {r : List Value} {m : zM} {off t : Int} {y x : Int32} (hd : decode cc (z_pc cd ip) = .ok (.if_icmp .ge off, 3)) (hj : z_jp cd (z_pc cd ip) off t = true) (hn : z_pc cd (ip + 1) = z_pc cd ip + 3) (h : if y ≤ x then z_G p l e R s mt args below meth c Q D A sa ad0 n0 nf nL (z_pc cd) t.toNat lv r m else z_G p l e R s mt args below meth c Q D A sa ad0 n0 nf nL (z_pc cd) (ip + 1) lv r m) : z_G p l e R s mt args below meth c Q D A sa ad0 n0 nf nL (z_pc cd) ip lv (.int y :: .int x :: r) m := by
  refine zs_if (st' := r) (fun ho => ?_) (fun ad H locs ls k1 k2 => ?_) h
  · simp [z_okv] at ho ⊢; exact ho
  · rw [hn] at k2
    exact lv_icmp_ge C.1 C.2.1 hd (z_jp_eq hj) (fun q => k1 q) (fun q => k2 q)
theorem zs_if_ge (C : z_Cx p s mt args meth c own cc nL ini rt) {ip : Nat} {lv : zL} {r : List Value} {m : zM} {off t : Int} {x : Int32} (hd : decode cc (z_pc cd ip) = .ok (.ifCond .ge off, 3)) (hj : z_jp cd (z_pc cd ip) off t = true) (hn : z_pc cd (ip + 1) = z_pc cd ip + 3) (h : if 0 ≤ x then z_G p l e R s mt args below meth c Q D A sa ad0 n0 nf nL (z_pc cd) t.toNat lv r m else z_G p l e R s mt args below meth c Q D A sa ad0 n0 nf nL (z_pc cd) (ip + 1) lv r m) : z_G p l e R s mt args below meth c Q D A sa ad0 n0 nf nL (z_pc cd) ip lv (.int x :: r) m := by
  refine zs_if (st' := r) (fun ho => ?_) (fun ad H locs ls k1 k2 => ?_) h
  · simp [z_okv] at ho ⊢; exact ho
  · rw [hn] at k2
    exact lv_if_ge C.1 C.2.1 hd (z_jp_eq hj) (fun q => k1 q) (fun q => k2 q)
theorem zs_icmp_gt (C : z_Cx p s mt args meth c own cc nL ini rt) {ip : Nat} {lv : zL} {r : List Value} {m : zM} {off t : Int} {y x : Int32} (hd : decode cc (z_pc cd ip) = .ok (.if_icmp .gt off, 3)) (hj : z_jp cd (z_pc cd ip) off t = true) (hn : z_pc cd (ip + 1) = z_pc cd ip + 3) (h : if y < x then z_G p l e R s mt args below meth c Q D A sa ad0 n0 nf nL (z_pc cd) t.toNat lv r m else z_G p l e R s mt args below meth c Q D A sa ad0 n0 nf nL (z_pc cd) (ip + 1) lv r m) : z_G p l e R s mt args below meth c Q D A sa ad0 n0 nf nL (z_pc cd) ip lv (.int y :: .int x :: r) m := by
  refine zs_if (st' := r) (fun ho => ?_) (fun ad H locs ls k1 k2 => ?_) h
  · simp [z_okv] at ho ⊢; exact ho
  · rw [hn] at k2
    exact lv_icmp_gt C.1 C.2.1 hd (z_jp_eq hj) (fun q => k1 q) (fun q => k2 q)
theorem zs_if_gt (C : z_Cx p s mt args meth c own cc nL ini rt) {ip : Nat} {lv : zL} {r : List Value} {m : zM} {off t : Int} {x : Int32} (hd : decode cc (z_pc cd ip) = .ok (.ifCond .gt off, 3)) (hj : z_jp cd (z_pc cd ip) off t = true) (hn : z_pc cd (ip + 1) = z_pc cd ip + 3) (h : if 0 < x then z_G p l e R s mt args below meth c Q D A sa ad0 n0 nf nL (z_pc cd) t.toNat lv r m else z_G p l e R s mt args below meth c Q D A sa ad0 n0 nf nL (z_pc cd) (ip + 1) lv r m) : z_G p l e R s mt args below meth c Q D A sa ad0 n0 nf nL (z_pc cd) ip lv (.int x :: r) m := by
  refine zs_if (st' := r) (fun ho => ?_) (fun ad H locs ls k1 k2 => ?_) h
  · simp [z_okv] at ho ⊢; exact ho
  · rw [hn] at k2
    exact lv_if_gt C.1 C.2.1 hd (z_jp_eq hj) (fun q => k1 q) (fun q => k2 q)
theorem zs_icmp_le (C : z_Cx p s mt args meth c own cc nL ini rt) {ip : Nat} {lv : zL} {r : List Value} {m : zM} {off t : Int} {y x : Int32} (hd : decode cc (z_pc cd ip) = .ok (.if_icmp .le off, 3)) (hj : z_jp cd (z_pc cd ip) off t = true) (hn : z_pc cd (ip + 1) = z_pc cd ip + 3) (h : if x ≤ y then z_G p l e R s mt args below meth c Q D A sa ad0 n0 nf nL (z_pc cd) t.toNat lv r m else z_G p l e R s mt args below meth c Q D A sa ad0 n0 nf nL (z_pc cd) (ip + 1) lv r m) : z_G p l e R s mt args below meth c Q D A sa ad0 n0 nf nL (z_pc cd) ip lv (.int y :: .int x :: r) m := by
  refine zs_if (st' := r) (fun ho => ?_) (fun ad H locs ls k1 k2 => ?_) h
  · simp [z_okv] at ho ⊢; exact ho
  · rw [hn] at k2
    exact lv_icmp_le C.1 C.2.1 hd (z_jp_eq hj) (fun q => k1 q) (fun q => k2 q)
theorem zs_if_le (C : z_Cx p s mt args meth c own cc nL ini rt) {ip : Nat} {lv : zL} {r : List Value} {m : zM} {off t : Int} {x : Int32} (hd : decode cc (z_pc cd ip) = .ok (.ifCond .le off, 3)) (hj : z_jp cd (z_pc cd ip) off t = true) (hn : z_pc cd (ip + 1) = z_pc cd ip + 3) (h : if x ≤ 0 then z_G p l e R s mt args below meth c Q D A sa ad0 n0 nf nL (z_pc cd) t.toNat lv r m else z_G p l e R s mt args below meth c Q D A sa ad0 n0 nf nL (z_pc cd) (ip + 1) lv r m) : z_G p l e R s mt args below meth c Q D A sa ad0 n0 nf nL (z_pc cd) ip lv (.int x :: r) m := by
  refine zs_if (st' := r) (fun ho => ?_) (fun ad H locs ls k1 k2 => ?_) h
  · simp [z_okv] at ho ⊢; exact ho
  · rw [hn] at k2
    exact lv_if_le C.1 C.2.1 hd (z_jp_eq hj) (fun q => k1 q) (fun q => k2 q)
theorem zs_icmp_ne (C : z_Cx p s mt args meth c own cc nL ini rt) {ip : Nat} {lv : zL} {r : List Value} {m : zM} {off t : Int} {y x : Int32} (hd : decode cc (z_pc cd ip) = .ok (.if_icmp .ne off, 3)) (hj : z_jp cd (z_pc cd ip) off t = true) (hn : z_pc cd (ip + 1) = z_pc cd ip + 3) (h : if x = y then z_G p l e R s mt args below meth c Q D A sa ad0 n0 nf nL (z_pc cd) (ip + 1) lv r m else z_G p l e R s mt args below meth c Q D A sa ad0 n0 nf nL (z_pc cd) t.toNat lv r m) : z_G p l e R s mt args below meth c Q D A sa ad0 n0 nf nL (z_pc cd) ip lv (.int y :: .int x :: r) m := by
  refine zs_ifN (st' := r) (fun ho => ?_) (fun ad H locs ls k1 k2 => ?_) h
  · simp [z_okv] at ho ⊢; exact ho
  · rw [hn] at k2
    exact lv_icmp_ne C.1 C.2.1 hd (z_jp_eq hj) (fun q => k1 q) (fun q => k2 q)
theorem zs_if_ne (C : z_Cx p s mt args meth c own cc nL ini rt) {ip : Nat} {lv : zL} {r : List Value} {m : zM} {off t : Int} {x : Int32} (hd : decode cc (z_pc cd ip) = .ok (.ifCond .ne off, 3)) (hj : z_jp cd (z_pc cd ip) off t = true) (hn : z_pc cd (ip + 1) = z_pc cd ip + 3) (h : if x = 0 then z_G p l e R s mt args below meth c Q D A sa ad0 n0 nf nL (z_pc cd) (ip + 1) lv r m else z_G p l e R s mt args below meth c Q D A sa ad0 n0 nf nL (z_pc cd) t.toNat lv r m) : z_G p l e R s mt args below meth c Q D A sa ad0 n0 nf nL (z_pc cd) ip lv (.int x :: r) m := by
  refine zs_ifN (st' := r) (fun ho => ?_) (fun ad H locs ls k1 k2 => ?_) h
  · simp [z_okv] at ho ⊢; exact ho
  · rw [hn] at k2
    exact lv_if_ne C.1 C.2.1 hd (z_jp_eq hj) (fun q => k1 q) (fun q => k2 q)
end ZS
