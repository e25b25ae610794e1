/-! constants, locals, gotos, switches -/
section ZS

variable {p : Program} {l : Launch} {e : Env} {R : Room} {s : State} {mt : MethodId} {args : Array Value} {below : List Frame} {meth : Method} {c : Code} {Q : State → Prop} {D : va_G} {A : Nat → Prop} {sa sv ad0 : Nat → Nat} {n0 nf nL : Nat} {cd : List zI} {own : String} {cc : ByteArray} {ini : Bool} {rt : Option FieldType}

theorem zs_iload (C : z_Cx p s mt args meth c own cc nL ini rt) {ip k len : Nat} {raw : Instr} {lv : zL} {st : List Value} {m : zM} {x : Int32} (hd : decode cc (z_pc cd ip) = .ok (raw, len)) (hn : z_pc cd (ip + 1) = z_pc cd ip + len) (hr : (raw = .iload k ∧ len = 2) ∨ ∃ i : Fin 4, raw = .iload_n i ∧ (i : Nat) = k ∧ len = 1) (hx : z_at lv k = some (.int x)) (h : z_G p l e R s mt args below meth c Q D A sa ad0 n0 nf nL (z_pc cd) (ip + 1) lv (.int x :: st) m) : z_G p l e R s mt args below meth c Q D A sa ad0 n0 nf nL (z_pc cd) ip lv st m := by
  refine zs_step (fun ho hv => ?_) (fun ad H locs ls hl kk => ?_) h
  · simp [z_okv] at ho ⊢; exact ho
  · rw [hn] at kk
    rcases hr with ⟨rfl, rfl⟩ | ⟨i, rfl, hi, rfl⟩
    · exact lv_iload C.1 C.2.1 hd (hl.2.2.2 k _ hx) kk
    · exact lv_iload_n C.1 C.2.1 hd hi (hl.2.2.2 k _ hx) kk
theorem zs_lload (C : z_Cx p s mt args meth c own cc nL ini rt) {ip k len : Nat} {raw : Instr} {lv : zL} {st : List Value} {m : zM} {x : Int64} (hd : decode cc (z_pc cd ip) = .ok (raw, len)) (hn : z_pc cd (ip + 1) = z_pc cd ip + len) (hr : (raw = .lload k ∧ len = 2) ∨ ∃ i : Fin 4, raw = .lload_n i ∧ (i : Nat) = k ∧ len = 1) (hx : z_at lv k = some (.long x)) (h : z_G p l e R s mt args below meth c Q D A sa ad0 n0 nf nL (z_pc cd) (ip + 1) lv (.long x :: st) m) : z_G p l e R s mt args below meth c Q D A sa ad0 n0 nf nL (z_pc cd) ip lv st m := by
  refine zs_step (fun ho hv => ?_) (fun ad H locs ls hl kk => ?_) h
  · simp [z_okv] at ho ⊢; exact ho
  · rw [hn] at kk
    rcases hr with ⟨rfl, rfl⟩ | ⟨i, rfl, hi, rfl⟩
    · exact lv_lload C.1 C.2.1 hd (hl.2.2.2 k _ hx) kk
    · exact lv_lload_n C.1 C.2.1 hd hi (hl.2.2.2 k _ hx) kk
theorem zs_aload (C : z_Cx p s mt args meth c own cc nL ini rt) {ip k len : Nat} {raw : Instr} {lv : zL} {st : List Value} {m : zM} {x : Nat} (hd : decode cc (z_pc cd ip) = .ok (raw, len)) (hn : z_pc cd (ip + 1) = z_pc cd ip + len) (hr : (raw = .aload k ∧ len = 2) ∨ ∃ i : Fin 4, raw = .aload_n i ∧ (i : Nat) = k ∧ len = 1) (hx : z_at lv k = some (.ref x)) (h : z_G p l e R s mt args below meth c Q D A sa ad0 n0 nf nL (z_pc cd) (ip + 1) lv (.ref x :: st) m) : z_G p l e R s mt args below meth c Q D A sa ad0 n0 nf nL (z_pc cd) ip lv st m := by
  refine zs_step (fun ho hv => ?_) (fun ad H locs ls hl kk => ?_) h
  · intro v hv2
    rcases List.mem_cons.mp hv2 with rfl | q
    · exact hv k _ hx
    · exact ho v q
  · rw [hn] at kk
    rcases hr with ⟨rfl, rfl⟩ | ⟨i, rfl, hi, rfl⟩
    · exact lv_aload C.1 C.2.1 hd (hl.2.2.2 k _ hx) kk
    · exact lv_aload_n C.1 C.2.1 hd hi (hl.2.2.2 k _ hx) kk
theorem zs_aloadN (C : z_Cx p s mt args meth c own cc nL ini rt) {ip k len : Nat} {raw : Instr} {lv : zL} {st : List Value} {m : zM} (hd : decode cc (z_pc cd ip) = .ok (raw, len)) (hn : z_pc cd (ip + 1) = z_pc cd ip + len) (hr : (raw = .aload k ∧ len = 2) ∨ ∃ i : Fin 4, raw = .aload_n i ∧ (i : Nat) = k ∧ len = 1) (hx : z_at lv k = some .null) (h : z_G p l e R s mt args below meth c Q D A sa ad0 n0 nf nL (z_pc cd) (ip + 1) lv (.null :: st) m) : z_G p l e R s mt args below meth c Q D A sa ad0 n0 nf nL (z_pc cd) ip lv st m := by
  refine zs_step (fun ho hv => ?_) (fun ad H locs ls hl kk => ?_) h
  · simp [z_okv] at ho ⊢; exact ho
  · rw [hn] at kk
    rcases hr with ⟨rfl, rfl⟩ | ⟨i, rfl, hi, rfl⟩
    · exact lv_aloadN C.1 C.2.1 hd (hl.2.2.2 k _ hx) kk
    · exact lv_aload_nN C.1 C.2.1 hd hi (hl.2.2.2 k _ hx) kk
theorem zs_istore (C : z_Cx p s mt args meth c own cc nL ini rt) {ip k len : Nat} {raw : Instr} {lv : zL} {r : List Value} {m : zM} {x : Int32} (hd : decode cc (z_pc cd ip) = .ok (raw, len)) (hn : z_pc cd (ip + 1) = z_pc cd ip + len) (hk : k < nL) (hr : (raw = .istore k ∧ len = 2) ∨ ∃ i : Fin 4, raw = .istore_n i ∧ (i : Nat) = k ∧ len = 1) (h : z_G p l e R s mt args below meth c Q D A sa ad0 n0 nf nL (z_pc cd) (ip + 1) (z_s1 lv k (.int x)) r m) : z_G p l e R s mt args below meth c Q D A sa ad0 n0 nf nL (z_pc cd) ip lv (.int x :: r) m := by
  refine ⟨h.1, fun ad ac tys H locs ls hSt hl ho hv => ?_⟩
  have ho1 : ∀ v ∈ r, z_okv m.1 v := fun v q => ho v (List.mem_cons_of_mem _ q)
  have h1 := fun ls' hl' => h.2 ad ac tys H locs ls' hSt hl' ho1 (z_ok_s1 (by rw [hl.2.2.1]; exact hk) (ho _ List.mem_cons_self) hv)
  rw [hn] at h1
  rcases hr with ⟨rfl, rfl⟩ | ⟨i, rfl, hi, rfl⟩
  · exact lv_istore C.1 C.2.1 hd (z_ll_has hl) hk rfl (fun ls' hl' => h1 ls' (z_lv_s1 hl hk hl'))
  · exact lv_istore_n C.1 C.2.1 hd hi (z_ll_has hl) hk rfl (fun ls' hl' => h1 ls' (z_lv_s1 hl hk hl'))
theorem zs_lstore (C : z_Cx p s mt args meth c own cc nL ini rt) {ip k len : Nat} {raw : Instr} {lv : zL} {r : List Value} {m : zM} {x : Int64} (hd : decode cc (z_pc cd ip) = .ok (raw, len)) (hn : z_pc cd (ip + 1) = z_pc cd ip + len) (hk : k + 1 < nL) (hr : (raw = .lstore k ∧ len = 2) ∨ ∃ i : Fin 4, raw = .lstore_n i ∧ (i : Nat) = k ∧ len = 1) (h : z_G p l e R s mt args below meth c Q D A sa ad0 n0 nf nL (z_pc cd) (ip + 1) (z_s2 lv k (.long x)) r m) : z_G p l e R s mt args below meth c Q D A sa ad0 n0 nf nL (z_pc cd) ip lv (.long x :: r) m := by
  refine ⟨h.1, fun ad ac tys H locs ls hSt hl ho hv => ?_⟩
  have ho1 : ∀ v ∈ r, z_okv m.1 v := fun v q => ho v (List.mem_cons_of_mem _ q)
  have h1 := fun ls' hl' => h.2 ad ac tys H locs ls' hSt hl' ho1 (z_ok_s2 (by rw [hl.2.2.1]; exact hk) (ho _ List.mem_cons_self) hv)
  rw [hn] at h1
  rcases hr with ⟨rfl, rfl⟩ | ⟨i, rfl, hi, rfl⟩
  · exact lv_lstore C.1 C.2.1 hd (z_ll_has hl) hk rfl (fun ls' hl' => h1 ls' (z_lv_s2 hl hk hl'))
  · exact lv_lstore_n C.1 C.2.1 hd hi (z_ll_has hl) hk rfl (fun ls' hl' => h1 ls' (z_lv_s2 hl hk hl'))
theorem zs_astore (C : z_Cx p s mt args meth c own cc nL ini rt) {ip k len : Nat} {raw : Instr} {lv : zL} {r : List Value} {m : zM} {x : Nat} (hd : decode cc (z_pc cd ip) = .ok (raw, len)) (hn : z_pc cd (ip + 1) = z_pc cd ip + len) (hk : k < nL) (hr : (raw = .astore k ∧ len = 2) ∨ ∃ i : Fin 4, raw = .astore_n i ∧ (i : Nat) = k ∧ len = 1) (h : z_G p l e R s mt args below meth c Q D A sa ad0 n0 nf nL (z_pc cd) (ip + 1) (z_s1 lv k (.ref x)) r m) : z_G p l e R s mt args below meth c Q D A sa ad0 n0 nf nL (z_pc cd) ip lv (.ref x :: r) m := by
  refine ⟨h.1, fun ad ac tys H locs ls hSt hl ho hv => ?_⟩
  have ho1 : ∀ v ∈ r, z_okv m.1 v := fun v q => ho v (List.mem_cons_of_mem _ q)
  have h1 := fun ls' hl' => h.2 ad ac tys H locs ls' hSt hl' ho1 (z_ok_s1 (by rw [hl.2.2.1]; exact hk) (ho _ List.mem_cons_self) hv)
  rw [hn] at h1
  rcases hr with ⟨rfl, rfl⟩ | ⟨i, rfl, hi, rfl⟩
  · exact lv_astore C.1 C.2.1 hd (z_ll_has hl) hk rfl (fun ls' hl' => h1 ls' (z_lv_s1 hl hk hl'))
  · exact lv_astore_n C.1 C.2.1 hd hi (z_ll_has hl) hk rfl (fun ls' hl' => h1 ls' (z_lv_s1 hl hk hl'))
theorem zs_astoreN (C : z_Cx p s mt args meth c own cc nL ini rt) {ip k len : Nat} {raw : Instr} {lv : zL} {r : List Value} {m : zM}  (hd : decode cc (z_pc cd ip) = .ok (raw, len)) (hn : z_pc cd (ip + 1) = z_pc cd ip + len) (hk : k < nL) (hr : (raw = .astore k ∧ len = 2) ∨ ∃ i : Fin 4, raw = .astore_n i ∧ (i : Nat) = k ∧ len = 1) (h : z_G p l e R s mt args below meth c Q D A sa ad0 n0 nf nL (z_pc cd) (ip + 1) (z_s1 lv k (.null)) r m) : z_G p l e R s mt args below meth c Q D A sa ad0 n0 nf nL (z_pc cd) ip lv (.null :: r) m := by
  refine ⟨h.1, fun ad ac tys H locs ls hSt hl ho hv => ?_⟩
  have ho1 : ∀ v ∈ r, z_okv m.1 v := fun v q => ho v (List.mem_cons_of_mem _ q)
  have h1 := fun ls' hl' => h.2 ad ac tys H locs ls' hSt hl' ho1 (z_ok_s1 (by rw [hl.2.2.1]; exact hk) (ho _ List.mem_cons_self) hv)
  rw [hn] at h1
  rcases hr with ⟨rfl, rfl⟩ | ⟨i, rfl, hi, rfl⟩
  · exact lv_astoreN C.1 C.2.1 hd (z_ll_has hl) hk rfl (fun ls' hl' => h1 ls' (z_lv_s1 hl hk hl'))
  · exact lv_astore_nN C.1 C.2.1 hd hi (z_ll_has hl) hk rfl (fun ls' hl' => h1 ls' (z_lv_s1 hl hk hl'))
theorem zs_iinc (C : z_Cx p s mt args meth c own cc nL ini rt) {ip k : Nat} {n : Int} {lv : zL} {st : List Value} {m : zM} {x : Int32} (hd : decode cc (z_pc cd ip) = .ok (.iinc k n, 3)) (hn : z_pc cd (ip + 1) = z_pc cd ip + 3) (hk : k < nL) (hx : z_at lv k = some (.int x)) (h : z_G p l e R s mt args below meth c Q D A sa ad0 n0 nf nL (z_pc cd) (ip + 1) (z_s1 lv k (.int (x + Int32.ofInt n))) st m) : z_G p l e R s mt args below meth c Q D A sa ad0 n0 nf nL (z_pc cd) ip lv st m := by
  refine ⟨h.1, fun ad ac tys H locs ls hSt hl ho hv => ?_⟩
  have h1 := fun ls' hl' => h.2 ad ac tys H locs ls' hSt hl' ho (z_ok_s1 (by rw [hl.2.2.1]; exact hk) (by simp [z_okv]) hv)
  rw [hn] at h1
  have hm : (k, Value.int x) ∈ z_ll ad sa lv := z_ll_mem (ad := ad) (sa := sa) hx
  obtain ⟨q, hq⟩ := List.mem_iff_getElem?.mp hm
  exact lv_iinc C.1 C.2.1 hd (z_ll_has hl) hq rfl hk rfl (fun ls' hl' => h1 ls' (z_lv_s1 hl hk hl'))
theorem zs_iconst (C : z_Cx p s mt args meth c own cc nL ini rt) {ip len pl : Nat} {n : Int} {raw : Instr} {lv : zL} {st : List Value} {m : zM} (hd : decode cc (z_pc cd ip) = .ok (raw, len)) (hok : z_okI own nL ini rt cd ip (z_pc cd ip) pl (.iconst n) raw len = true) (h : z_G p l e R s mt args below meth c Q D A sa ad0 n0 nf nL (z_pc cd) (ip + 1) lv (.int (Int32.ofInt n) :: st) m) : z_G p l e R s mt args below meth c Q D A sa ad0 n0 nf nL (z_pc cd) ip lv st m := by
  refine zs_step (fun ho hv => ?_) (fun ad H locs ls hl kk => ?_) h
  · simp [z_okv] at ho ⊢; exact ho
  · simp only [z_okI, Bool.and_eq_true, decide_eq_true_eq] at hok
    obtain ⟨hn, hr⟩ := hok
    rw [hn] at kk
    cases raw <;> simp only [Bool.false_eq_true, Bool.and_eq_true, decide_eq_true_eq] at hr
    · obtain ⟨rfl, hv⟩ := hr; exact lv_bipush C.1 C.2.1 hd hv kk
    · obtain ⟨rfl, hv⟩ := hr; exact lv_iconst C.1 C.2.1 hd hv kk
    · obtain ⟨rfl, hv⟩ := hr; exact lv_ldc C.1 C.2.1 C.2.2.2.2.1 (C.2.2.2.2.2.1 _ (z_word hv)) hd kk
    · obtain ⟨rfl, hv⟩ := hr; exact lv_ldcw C.1 C.2.1 C.2.2.2.2.1 (C.2.2.2.2.2.1 _ (z_word hv)) hd kk
    · obtain ⟨rfl, hv⟩ := hr; exact lv_sipush C.1 C.2.1 hd hv kk
theorem zs_lconst (C : z_Cx p s mt args meth c own cc nL ini rt) {ip len pl k : Nat} {raw : Instr} {lv : zL} {st : List Value} {m : zM} (hd : decode cc (z_pc cd ip) = .ok (raw, len)) (hok : z_okI own nL ini rt cd ip (z_pc cd ip) pl (.ldc2_w k) raw len = true) (h : z_G p l e R s mt args below meth c Q D A sa ad0 n0 nf nL (z_pc cd) (ip + 1) lv (.long (z_kl k) :: st) m) : z_G p l e R s mt args below meth c Q D A sa ad0 n0 nf nL (z_pc cd) ip lv st m := by
  refine zs_step (fun ho hv => ?_) (fun ad H locs ls hl kk => ?_) h
  · simp [z_okv] at ho ⊢; exact ho
  · simp only [z_okI, Bool.and_eq_true, decide_eq_true_eq] at hok
    obtain ⟨hn, hr⟩ := hok
    rw [hn] at kk
    cases raw <;> simp only [Bool.false_eq_true, Bool.and_eq_true, decide_eq_true_eq] at hr
    · obtain ⟨rfl, hv⟩ := hr; exact lv_lconst C.1 C.2.1 hd hv kk
    · obtain ⟨rfl, hv⟩ := hr; exact lv_ldc2 C.1 C.2.1 C.2.2.2.2.1 (C.2.2.2.2.2.1 _ (z_word hv)) hd kk
theorem zs_goto (C : z_Cx p s mt args meth c own cc nL ini rt) {ip : Nat} {off t : Int} {lv : zL} {st : List Value} {m : zM} (hd : decode cc (z_pc cd ip) = .ok (.goto off, 3)) (hj : z_jp cd (z_pc cd ip) off t = true) (h : z_G p l e R s mt args below meth c Q D A sa ad0 n0 nf nL (z_pc cd) t.toNat lv st m) : z_G p l e R s mt args below meth c Q D A sa ad0 n0 nf nL (z_pc cd) ip lv st m :=
  zs_step (fun ho hv => ho) (fun ad H locs ls hl kk => lv_goto C.1 C.2.1 hd (z_jp_eq hj) kk) h
theorem zs_ifnn (C : z_Cx p s mt args meth c own cc nL ini rt) {ip : Nat} {off t : Int} {lv : zL} {r : List Value} {m : zM} {x : Nat} (hd : decode cc (z_pc cd ip) = .ok (.ifnonnull off, 3)) (hj : z_jp cd (z_pc cd ip) off t = true) (h : z_G p l e R s mt args below meth c Q D A sa ad0 n0 nf nL (z_pc cd) t.toNat lv r m) : z_G p l e R s mt args below meth c Q D A sa ad0 n0 nf nL (z_pc cd) ip lv (.ref x :: r) m :=
  zs_step (fun ho hv v q => ho v (List.mem_cons_of_mem _ q)) (fun ad H locs ls hl kk => lv_ifnonnull C.1 C.2.1 hd (z_jp_eq hj) kk) h
theorem zs_ifnnN (C : z_Cx p s mt args meth c own cc nL ini rt) {ip : Nat} {off : Int} {lv : zL} {r : List Value} {m : zM} (hd : decode cc (z_pc cd ip) = .ok (.ifnonnull off, 3)) (hn : z_pc cd (ip + 1) = z_pc cd ip + 3) (h : z_G p l e R s mt args below meth c Q D A sa ad0 n0 nf nL (z_pc cd) (ip + 1) lv r m) : z_G p l e R s mt args below meth c Q D A sa ad0 n0 nf nL (z_pc cd) ip lv (.null :: r) m :=
  zs_step (fun ho hv v q => ho v (List.mem_cons_of_mem _ q)) (fun ad H locs ls hl kk => lv_ifnonnullN C.1 C.2.1 hd (by rw [hn] at kk; exact kk)) h
theorem zs_dup (C : z_Cx p s mt args meth c own cc nL ini rt) {ip : Nat} {lv : zL} {r : List Value} {m : zM} {v : Value} (hc : v.category = 1) (hd : decode cc (z_pc cd ip) = .ok (.dup, 1)) (hn : z_pc cd (ip + 1) = z_pc cd ip + 1) (h : z_G p l e R s mt args below meth c Q D A sa ad0 n0 nf nL (z_pc cd) (ip + 1) lv (v :: v :: r) m) : z_G p l e R s mt args below meth c Q D A sa ad0 n0 nf nL (z_pc cd) ip lv (v :: r) m := by
  refine zs_step (fun ho hv => ?_) (fun ad H locs ls hl kk => ?_) h
  · intro w hw
    rcases List.mem_cons.mp hw with rfl | q
    · exact ho _ List.mem_cons_self
    · exact ho w q
  · rw [hn] at kk
    exact lv_dup C.1 C.2.1 hd (by rw [z_tr_cat]; exact hc) kk
theorem zs_dup2 (C : z_Cx p s mt args meth c own cc nL ini rt) {ip : Nat} {lv : zL} {r : List Value} {m : zM} {v w : Value} (hc : v.category = 1) (hc2 : w.category = 1) (hd : decode cc (z_pc cd ip) = .ok (.dup2, 1)) (hn : z_pc cd (ip + 1) = z_pc cd ip + 1) (h : z_G p l e R s mt args below meth c Q D A sa ad0 n0 nf nL (z_pc cd) (ip + 1) lv (v :: w :: v :: w :: r) m) : z_G p l e R s mt args below meth c Q D A sa ad0 n0 nf nL (z_pc cd) ip lv (v :: w :: r) m := by
  refine zs_step (fun ho hv => ?_) (fun ad H locs ls hl kk => ?_) h
  · intro u hu
    rcases List.mem_cons.mp hu with rfl | q
    · exact ho _ List.mem_cons_self
    · rcases List.mem_cons.mp q with rfl | q
      · exact ho _ (List.mem_cons_of_mem _ List.mem_cons_self)
      · exact ho u q
  · rw [hn] at kk
    exact lv_dup2_11 C.1 C.2.1 hd (by rw [z_tr_cat]; exact hc) (by rw [z_tr_cat]; exact hc2) kk
theorem zs_popv (C : z_Cx p s mt args meth c own cc nL ini rt) {ip : Nat} {lv : zL} {r : List Value} {m : zM} {v : Value} (hc : v.category = 1) (hd : decode cc (z_pc cd ip) = .ok (.pop, 1)) (hn : z_pc cd (ip + 1) = z_pc cd ip + 1) (h : z_G p l e R s mt args below meth c Q D A sa ad0 n0 nf nL (z_pc cd) (ip + 1) lv r m) : z_G p l e R s mt args below meth c Q D A sa ad0 n0 nf nL (z_pc cd) ip lv (v :: r) m := by
  refine zs_step (fun ho hv w q => ho w (List.mem_cons_of_mem _ q)) (fun ad H locs ls hl kk => ?_) h
  rw [hn] at kk
  exact lv_pop C.1 C.2.1 hd (by rw [z_tr_cat]; exact hc) kk
theorem z_tsw_out {x : Int} : ∀ {lo : Int} {ts : List Int} {k : Int → Prop} {d : Prop}, (x < lo ∨ lo + ts.length ≤ x) → z_tsw x lo ts k d → d
  | _, [], _, _, _, h => h
  | lo, t :: ts, k, d, hx, h => by
    simp only [List.length_cons] at hx
    simp only [z_tsw] at h
    have e : ¬ x = lo := by omega
    rw [if_neg e] at h
    exact z_tsw_out (lo := lo + 1) (by omega) h
theorem z_tsw_in {x : Int} : ∀ {lo : Int} {ts : List Int} {k : Int → Prop} {d : Prop} {t : Int}, lo ≤ x → ts[(x - lo).toNat]? = some t → z_tsw x lo ts k d → k t
  | lo, [], k, d, t, hx, ht, h => by simp at ht
  | lo, a :: ts, k, d, t, hx, ht, h => by
    simp only [z_tsw] at h
    by_cases e : x = lo
    · rw [if_pos e] at h
      have : (x - lo).toNat = 0 := by omega
      rw [this] at ht
      simp at ht
      subst ht
      exact h
    · rw [if_neg e] at h
      have : (x - lo).toNat = (x - (lo + 1)).toNat + 1 := by omega
      rw [this] at ht
      simp at ht
      exact z_tsw_in (lo := lo + 1) (by omega) ht h
theorem zs_table (C : z_Cx p s mt args meth c own cc nL ini rt) {ip len : Nat} {d lo hi d2 : Int} {ts os : Array Int} {lv : zL} {r : List Value} {m : zM} {x : Int32} (hd : decode cc (z_pc cd ip) = .ok (.tableswitch d2 lo hi os, len)) (hsz : os.size = ts.size) (hhi : hi + 1 = lo + ts.size) (hj : z_jp cd (z_pc cd ip) d2 d = true) (hall : ∀ i, i < ts.size → ∀ a b, os[i]? = some a → ts[i]? = some b → z_jp cd (z_pc cd ip) a b = true)
    (h : z_tsw x.toInt lo ts.toList (fun t => z_G p l e R s mt args below meth c Q D A sa ad0 n0 nf nL (z_pc cd) t.toNat lv r m) (z_G p l e R s mt args below meth c Q D A sa ad0 n0 nf nL (z_pc cd) d.toNat lv r m)) : z_G p l e R s mt args below meth c Q D A sa ad0 n0 nf nL (z_pc cd) ip lv (.int x :: r) m := by
  have hlen : (ts.toList.length : Int) = ts.size := by simp
  by_cases h1 : x.toInt < lo
  · exact zs_step (fun ho hv v q => ho v (List.mem_cons_of_mem _ q)) (fun ad H locs ls hl kk => lv_tableOut C.1 C.2.1 hd (Or.inl h1) (z_jp_eq hj) kk) (z_tsw_out (Or.inl h1) h)
  · by_cases h2 : hi < x.toInt
    · exact zs_step (fun ho hv v q => ho v (List.mem_cons_of_mem _ q)) (fun ad H locs ls hl kk => lv_tableOut C.1 C.2.1 hd (Or.inr h2) (z_jp_eq hj) kk) (z_tsw_out (Or.inr (by omega)) h)
    · have hi9 : (x.toInt - lo).toNat < ts.size := by omega
      have ht : ts[(x.toInt - lo).toNat]? = some ts[(x.toInt - lo).toNat] := Array.getElem?_eq_getElem hi9
      have hos : os[(x.toInt - lo).toNat]? = some os[(x.toInt - lo).toNat] := Array.getElem?_eq_getElem (by rw [hsz]; exact hi9)
      have ht2 : ts.toList[(x.toInt - lo).toNat]? = some ts[(x.toInt - lo).toNat] := by rw [Array.getElem?_toList]; exact ht
      exact zs_step (fun ho hv v q => ho v (List.mem_cons_of_mem _ q)) (fun ad H locs ls hl kk => lv_tableIn C.1 C.2.1 hd h1 h2 hos (z_jp_eq (hall _ hi9 _ _ hos ht)) kk) (z_tsw_in (by omega) ht2 h)
end ZS
