/-! String.length() and charAt() of constants: the JDK's own code, walked once -/
def zy_coder : MethodName := ⟨"java/lang/String", "coder", "()B"⟩
abbrev zb_coder : ByteArray := prog_15_method_152_code
def zw_coder : List Cond := .code zy_coder zb_coder 1 (some .byte) :: z_tb
theorem zg_coder : GoodIn z_tb zw_coder := by
  intro w h
  have hm : w ∈ z_tb := by
    rcases List.mem_cons.mp h with rfl | g
    · exact z_word (q := 565) (by decide +kernel)
    · exact g
  exact ⟨hm, good_of_word (List.mem_filter.mp hm).2⟩
def zy_len : MethodName := ⟨"java/lang/String", "length", "()I"⟩
abbrev zb_len : ByteArray := prog_15_method_54_code
def zw_len : List Cond := .code zy_len zb_len 1 (some .int) :: z_tb
theorem zg_len : GoodIn z_tb zw_len := by
  intro w h
  have hm : w ∈ z_tb := by
    rcases List.mem_cons.mp h with rfl | g
    · exact z_word (q := 561) (by decide +kernel)
    · exact g
  exact ⟨hm, good_of_word (List.mem_filter.mp hm).2⟩
def zy_lat : MethodName := ⟨"java/lang/String", "isLatin1", "()Z"⟩
abbrev zb_lat : ByteArray := prog_15_method_154_code
def zw_lat : List Cond := .code zy_lat zb_lat 1 (some .boolean) :: z_tb
theorem zg_lat : GoodIn z_tb zw_lat := by
  intro w h
  have hm : w ∈ z_tb := by
    rcases List.mem_cons.mp h with rfl | g
    · exact z_word (q := 575) (by decide +kernel)
    · exact g
  exact ⟨hm, good_of_word (List.mem_filter.mp hm).2⟩
def zy_pci : MethodName := ⟨"jdk/internal/util/Preconditions", "checkIndex", "(IILjava/util/function/BiFunction;)I"⟩
abbrev zb_pci : ByteArray := prog_18_method_11_code
def zw_pci : List Cond := .code zy_pci zb_pci 3 (some .int) :: z_tb
theorem zg_pci : GoodIn z_tb zw_pci := by
  intro w h
  have hm : w ∈ z_tb := by
    rcases List.mem_cons.mp h with rfl | g
    · exact z_word (q := 586) (by decide +kernel)
    · exact g
  exact ⟨hm, good_of_word (List.mem_filter.mp hm).2⟩
def zy_sci : MethodName := ⟨"java/lang/String", "checkIndex", "(II)V"⟩
abbrev zb_sci : ByteArray := prog_15_method_155_code
def zw_sci : List Cond := .code zy_sci zb_sci 2 (none) :: z_tb
theorem zg_sci : GoodIn z_tb zw_sci := by
  intro w h
  have hm : w ∈ z_tb := by
    rcases List.mem_cons.mp h with rfl | g
    · exact z_word (q := 581) (by decide +kernel)
    · exact g
  exact ⟨hm, good_of_word (List.mem_filter.mp hm).2⟩
def zy_lch : MethodName := ⟨"java/lang/StringLatin1", "charAt", "([BI)C"⟩
abbrev zb_lch : ByteArray := prog_16_method_2_code
def zw_lch : List Cond := .code zy_lch zb_lch 2 (some .char) :: z_tb
theorem zg_lch : GoodIn z_tb zw_lch := by
  intro w h
  have hm : w ∈ z_tb := by
    rcases List.mem_cons.mp h with rfl | g
    · exact z_word (q := 578) (by decide +kernel)
    · exact g
  exact ⟨hm, good_of_word (List.mem_filter.mp hm).2⟩
def zy_cha : MethodName := ⟨"java/lang/String", "charAt", "(I)C"⟩
abbrev zb_cha : ByteArray := prog_15_method_56_code
def zw_cha : List Cond := .code zy_cha zb_cha 2 (some .char) :: z_tb
theorem zg_cha : GoodIn z_tb zw_cha := by
  intro w h
  have hm : w ∈ z_tb := by
    rcases List.mem_cons.mp h with rfl | g
    · exact z_word (q := 571) (by decide +kernel)
    · exact g
  exact ⟨hm, good_of_word (List.mem_filter.mp hm).2⟩
theorem zx_coder_i : Cond.instanceMethod zy_coder ∈ z_tb := z_word (q := 563) (by decide +kernel)
theorem zx_coder_sel : Cond.selects "java/lang/String" zy_coder zy_coder ∈ z_tb := z_word (q := 564) (by decide +kernel)
theorem zx_len_i : Cond.instanceMethod zy_len ∈ z_tb := z_word (q := 559) (by decide +kernel)
theorem zx_len_sel : Cond.selects "java/lang/String" zy_len zy_len ∈ z_tb := z_word (q := 560) (by decide +kernel)
theorem zx_lat_i : Cond.instanceMethod zy_lat ∈ z_tb := z_word (q := 573) (by decide +kernel)
theorem zx_lat_sel : Cond.selects "java/lang/String" zy_lat zy_lat ∈ z_tb := z_word (q := 574) (by decide +kernel)
theorem zx_pci_s : Cond.static zy_pci ∈ z_tb := z_word (q := 585) (by decide +kernel)
theorem zx_sci_s : Cond.static zy_sci ∈ z_tb := z_word (q := 580) (by decide +kernel)
theorem zx_lch_s : Cond.static zy_lch ∈ z_tb := z_word (q := 577) (by decide +kernel)
theorem zx_cha_i : Cond.instanceMethod zy_cha ∈ z_tb := z_word (q := 569) (by decide +kernel)
theorem zx_cha_sel : Cond.selects "java/lang/String" zy_cha zy_cha ∈ z_tb := z_word (q := 570) (by decide +kernel)
theorem zx_iS : Cond.initialized "java/lang/String" ∈ z_tb := z_word (q := 118) (by decide +kernel)
theorem zx_iL : Cond.initialized "java/lang/StringLatin1" ∈ z_tb := z_word (q := 119) (by decide +kernel)
theorem zx_iP : Cond.initialized "jdk/internal/util/Preconditions" ∈ z_tb := z_word (q := 120) (by decide +kernel)
theorem zx_f38 : Cond.fieldLink "java/lang/String" 38 "java/lang/String" "COMPACT_STRINGS" "Z" ∈ z_tb := z_word (q := 566) (by decide +kernel)
theorem zx_f15 : Cond.fieldLink "java/lang/String" 15 "java/lang/String" "coder" "B" ∈ z_tb := z_word (q := 2094) (by decide +kernel)
theorem zx_f9 : Cond.fieldLink "java/lang/String" 9 "java/lang/String" "value" "[B" ∈ z_tb := z_word (q := 2093) (by decide +kernel)
theorem zx_f1053 : Cond.fieldLink "java/lang/String" 1053 "jdk/internal/util/Preconditions" "SIOOBE_FORMATTER" "Ljava/util/function/BiFunction;" ∈ z_tb := z_word (q := 582) (by decide +kernel)
theorem zx_m335 : Cond.methodLink "java/lang/String" 335 zy_coder ∈ z_tb := z_word (q := 562) (by decide +kernel)
theorem zx_m492 : Cond.methodLink "java/lang/String" 492 zy_lat ∈ z_tb := z_word (q := 572) (by decide +kernel)
theorem zx_m495 : Cond.methodLink "java/lang/String" 495 zy_lch ∈ z_tb := z_word (q := 576) (by decide +kernel)
theorem zx_m9 : Cond.methodLink "java/lang/StringLatin1" 9 zy_sci ∈ z_tb := z_word (q := 579) (by decide +kernel)
theorem zx_m1059 : Cond.methodLink "java/lang/String" 1059 zy_pci ∈ z_tb := z_word (q := 584) (by decide +kernel)
theorem zd_coder_0 : decode zb_coder 0 = .ok (.getstatic 38, 3) := by decide +kernel
theorem zd_coder_3 : decode zb_coder 3 = .ok (.ifCond .eq 10, 3) := by decide +kernel
theorem zd_coder_6 : decode zb_coder 6 = .ok (.aload_n 0, 1) := by decide +kernel
theorem zd_coder_7 : decode zb_coder 7 = .ok (.getfield 15, 3) := by decide +kernel
theorem zd_coder_10 : decode zb_coder 10 = .ok (.goto 4, 3) := by decide +kernel
theorem zd_coder_14 : decode zb_coder 14 = .ok (.ireturn, 1) := by decide +kernel
theorem zd_len_0 : decode zb_len 0 = .ok (.aload_n 0, 1) := by decide +kernel
theorem zd_len_1 : decode zb_len 1 = .ok (.getfield 9, 3) := by decide +kernel
theorem zd_len_4 : decode zb_len 4 = .ok (.arraylength, 1) := by decide +kernel
theorem zd_len_5 : decode zb_len 5 = .ok (.aload_n 0, 1) := by decide +kernel
theorem zd_len_6 : decode zb_len 6 = .ok (.invokevirtual 335, 3) := by decide +kernel
theorem zd_len_9 : decode zb_len 9 = .ok (.ishr, 1) := by decide +kernel
theorem zd_len_10 : decode zb_len 10 = .ok (.ireturn, 1) := by decide +kernel
theorem zd_lat_0 : decode zb_lat 0 = .ok (.getstatic 38, 3) := by decide +kernel
theorem zd_lat_3 : decode zb_lat 3 = .ok (.ifCond .eq 14, 3) := by decide +kernel
theorem zd_lat_6 : decode zb_lat 6 = .ok (.aload_n 0, 1) := by decide +kernel
theorem zd_lat_7 : decode zb_lat 7 = .ok (.getfield 15, 3) := by decide +kernel
theorem zd_lat_10 : decode zb_lat 10 = .ok (.ifCond .ne 7, 3) := by decide +kernel
theorem zd_lat_13 : decode zb_lat 13 = .ok (.iconst 1, 1) := by decide +kernel
theorem zd_lat_14 : decode zb_lat 14 = .ok (.goto 4, 3) := by decide +kernel
theorem zd_lat_18 : decode zb_lat 18 = .ok (.ireturn, 1) := by decide +kernel
theorem zd_pci_0 : decode zb_pci 0 = .ok (.iload_n 0, 1) := by decide +kernel
theorem zd_pci_1 : decode zb_pci 1 = .ok (.ifCond .lt 8, 3) := by decide +kernel
theorem zd_pci_4 : decode zb_pci 4 = .ok (.iload_n 0, 1) := by decide +kernel
theorem zd_pci_5 : decode zb_pci 5 = .ok (.iload_n 1, 1) := by decide +kernel
theorem zd_pci_6 : decode zb_pci 6 = .ok (.if_icmp .lt 10, 3) := by decide +kernel
theorem zd_pci_16 : decode zb_pci 16 = .ok (.iload_n 0, 1) := by decide +kernel
theorem zd_pci_17 : decode zb_pci 17 = .ok (.ireturn, 1) := by decide +kernel
theorem zd_sci_0 : decode zb_sci 0 = .ok (.iload_n 0, 1) := by decide +kernel
theorem zd_sci_1 : decode zb_sci 1 = .ok (.iload_n 1, 1) := by decide +kernel
theorem zd_sci_2 : decode zb_sci 2 = .ok (.getstatic 1053, 3) := by decide +kernel
theorem zd_sci_5 : decode zb_sci 5 = .ok (.invokestatic 1059, 3) := by decide +kernel
theorem zd_sci_8 : decode zb_sci 8 = .ok (.pop, 1) := by decide +kernel
theorem zd_sci_9 : decode zb_sci 9 = .ok (.return_, 1) := by decide +kernel
theorem zd_lch_0 : decode zb_lch 0 = .ok (.iload_n 1, 1) := by decide +kernel
theorem zd_lch_1 : decode zb_lch 1 = .ok (.aload_n 0, 1) := by decide +kernel
theorem zd_lch_2 : decode zb_lch 2 = .ok (.arraylength, 1) := by decide +kernel
theorem zd_lch_3 : decode zb_lch 3 = .ok (.invokestatic 9, 3) := by decide +kernel
theorem zd_lch_6 : decode zb_lch 6 = .ok (.aload_n 0, 1) := by decide +kernel
theorem zd_lch_7 : decode zb_lch 7 = .ok (.iload_n 1, 1) := by decide +kernel
theorem zd_lch_8 : decode zb_lch 8 = .ok (.baload, 1) := by decide +kernel
theorem zd_lch_9 : decode zb_lch 9 = .ok (.sipush 255, 3) := by decide +kernel
theorem zd_lch_12 : decode zb_lch 12 = .ok (.iand, 1) := by decide +kernel
theorem zd_lch_13 : decode zb_lch 13 = .ok (.i2c, 1) := by decide +kernel
theorem zd_lch_14 : decode zb_lch 14 = .ok (.ireturn, 1) := by decide +kernel
theorem zd_cha_0 : decode zb_cha 0 = .ok (.aload_n 0, 1) := by decide +kernel
theorem zd_cha_1 : decode zb_cha 1 = .ok (.invokevirtual 492, 3) := by decide +kernel
theorem zd_cha_4 : decode zb_cha 4 = .ok (.ifCond .eq 12, 3) := by decide +kernel
theorem zd_cha_7 : decode zb_cha 7 = .ok (.aload_n 0, 1) := by decide +kernel
theorem zd_cha_8 : decode zb_cha 8 = .ok (.getfield 9, 3) := by decide +kernel
theorem zd_cha_11 : decode zb_cha 11 = .ok (.iload_n 1, 1) := by decide +kernel
theorem zd_cha_12 : decode zb_cha 12 = .ok (.invokestatic 495, 3) := by decide +kernel
theorem zd_cha_15 : decode zb_cha 15 = .ok (.ireturn, 1) := by decide +kernel
def z_r1 (n : Nat) : Room := { frames := n, cells := 0, slots := 0, locals := 40 * n }
def z_No (_ : Nat) : Prop := False
def z_sF (a t : Nat) (tx : List Int32) (U : State) : Prop := va_O "java/lang/String" a z_No U U.heap ∧ va_OF "java/lang/String" "coder" "B" (.int 0) a z_No U U.heap ∧ va_OF "java/lang/String" "value" "[B" (.ref t) a z_No U U.heap ∧ va_T .byte t tx.length (fun j => .int (tx.getD j 0)) z_No U U.heap ∧ va_Z "java/lang/String" "COMPACT_STRINGS" "Z" (.int 1) z_No U U.heap ∧ va_Zq "jdk/internal/util/Preconditions" "SIOOBE_FORMATTER" "Ljava/util/function/BiFunction;" z_No U U.heap
theorem z_sF_al {a t : Nat} {tx : List Int32} {u U : State} (hvm : u.vm.Alike U.vm) (hh : U.heap = u.heap) (h : z_sF a t tx u) : z_sF a t tx U := by
  obtain ⟨h1, h2, h3, h4, h5, h6⟩ := h
  rw [← hh] at h1 h2 h3 h4 h5 h6
  exact ⟨h1.moved hvm, h2.moved hvm, h3.moved hvm, h4.moved hvm, h5.moved hvm, h6.moved hvm⟩
theorem z_sFb {av : List Value} {a t : Nat} {tx : List Int32} : FrameBlind (va_Pc av (z_sF a t tx)) := fun x U g mk q => ⟨q.1, z_sF_al (u := U) (Vm.Alike.refl U.vm) rfl q.2⟩
theorem z_trb {av : List Value} : FrameBlind (va_Pc av (fun _ => True)) := fun x U g mk q => ⟨q.1, trivial⟩
theorem z_callSv {p : Program} {l : Launch} {e : Env} {R : Room} {s : State} {m : MethodId} {args : Array Value} {below : List Frame} {meth : Method} {c : Code} {H : Heap} {locs : List Loc} {cells slots : Nat} {Q : State → Prop} {pc : Nat} {ls : Array Slot} {rest : List Value} {a : Array Value} {st0 : List Value} {post : Unit → Prop} (hr : CallRun p l e R s m args below meth c H locs cells slots 0 0 (F0 m pc ls st0) rest (va_Sv post a) z_No)
    (kk : W p l e R s m args below meth c H locs cells slots Q (F0 m (pc + 3) ls rest)) : W p l e R s m args below meth c H locs cells slots Q (F0 m pc ls st0) := by
  intro T hT X
  obtain ⟨v, st₀, t, T', L, h0, X', hL, e1, ⟨hv, hp, hh⟩, st⟩ := hr T hT X
  cases hv
  obtain ⟨t2, a1, b1⟩ := kk T' (by rw [e1, hh, h0]) (Stand.forget X' (fun q h => (hL q h).elim))
  exact ⟨t2, st t2 a1, b1⟩
theorem zc_coder (l : Launch) (a t : Nat) (tx : List Int32) : Met l zy_coder zw_coder (z_r1 1) (va_Pc [.ref a] (z_sF a t tx)) (vp_Si (fun r => r = 0)) 0 0 z_No := by
  refine Met.ofW (cc := zb_coder) (maxL := 1) (ret := (some .byte)) (by decide) rfl ?_
  intro p e s m args below meth c s₁ B hml hv
  obtain ⟨rfl, hF⟩ := hv
  have hx := B.exec
  have hb := B.bytes
  have hr := B.returns
  have hts0 := atoms_spec (ws := zw_coder) B.pre
  have hts : ∀ w ∈ z_tb, w.before [.ref a].toArray s = true := fun w h => hts0 w (List.mem_cons_of_mem _ h)
  have hown : s.vm.findClass "java/lang/String" = some m.cls := findClass_of_methodNamed B.named
  have hlocks := B.notSynchronized
  have hS : va_S z_No s.heap s.heap [] := va_S.rf
  have hl := lv_entry ([.ref a]) (n := 1) (Nat.le_of_ble_eq_true rfl)
  rw [lg_entry_eq]
  generalize (lg_sl ([.ref a]) ++ List.replicate (1 - (lg_sl ([.ref a])).length) Slot.unset).toArray = ls at hl ⊢
  have hl : lv_has ls 1 [(0, .ref a)] := hl
  obtain ⟨f1, f2, f3, f4, f5, f6⟩ := hF
  refine va_gets hx hb f5 hS hown (hts _ zx_f38) (fun _ h => h) zd_coder_0 ?_
  refine lv_if_eq (tgt := 13) hx hb zd_coder_3 (by decide) (fun h => absurd h (by decide)) (fun _ => ?_)
  refine lv_aload_n hx hb zd_coder_6 rfl (lv_at hl 0 rfl) ?_
  refine vk_getf hx hb f2 hS hown (hts _ zx_f15) (fun _ h => h) zd_coder_7 ?_
  refine lv_goto (tgt := 14) hx hb zd_coder_10 (by decide) ?_
  exact W.zret hx hb hr rfl (fun t ht hW => ⟨0, rfl, rfl, ht⟩) (fun q h => absurd h List.not_mem_nil) zd_coder_14
theorem zc_lat (l : Launch) (a t : Nat) (tx : List Int32) : Met l zy_lat zw_lat (z_r1 1) (va_Pc [.ref a] (z_sF a t tx)) (vp_Si (fun r => r = 1)) 0 0 z_No := by
  refine Met.ofW (cc := zb_lat) (maxL := 1) (ret := (some .boolean)) (by decide) rfl ?_
  intro p e s m args below meth c s₁ B hml hv
  obtain ⟨rfl, hF⟩ := hv
  have hx := B.exec
  have hb := B.bytes
  have hr := B.returns
  have hts0 := atoms_spec (ws := zw_lat) B.pre
  have hts : ∀ w ∈ z_tb, w.before [.ref a].toArray s = true := fun w h => hts0 w (List.mem_cons_of_mem _ h)
  have hown : s.vm.findClass "java/lang/String" = some m.cls := findClass_of_methodNamed B.named
  have hlocks := B.notSynchronized
  have hS : va_S z_No s.heap s.heap [] := va_S.rf
  have hl := lv_entry ([.ref a]) (n := 1) (Nat.le_of_ble_eq_true rfl)
  rw [lg_entry_eq]
  generalize (lg_sl ([.ref a]) ++ List.replicate (1 - (lg_sl ([.ref a])).length) Slot.unset).toArray = ls at hl ⊢
  have hl : lv_has ls 1 [(0, .ref a)] := hl
  obtain ⟨f1, f2, f3, f4, f5, f6⟩ := hF
  refine va_gets hx hb f5 hS hown (hts _ zx_f38) (fun _ h => h) zd_lat_0 ?_
  refine lv_if_eq (tgt := 17) hx hb zd_lat_3 (by decide) (fun h => absurd h (by decide)) (fun _ => ?_)
  refine lv_aload_n hx hb zd_lat_6 rfl (lv_at hl 0 rfl) ?_
  refine vk_getf hx hb f2 hS hown (hts _ zx_f15) (fun _ h => h) zd_lat_7 ?_
  refine lv_if_ne (tgt := 17) hx hb zd_lat_10 (by decide) (fun h => absurd rfl h) (fun _ => ?_)
  refine lv_iconst (v := 1) hx hb zd_lat_13 (by decide) ?_
  refine lv_goto (tgt := 18) hx hb zd_lat_14 (by decide) ?_
  exact W.zret hx hb hr rfl (fun t ht hW => ⟨1, rfl, rfl, ht⟩) (fun q h => absurd h List.not_mem_nil) zd_lat_18
theorem zc_len (l : Launch) (a t : Nat) (tx : List Int32) : Met l zy_len zw_len (z_r1 2) (va_Pc [.ref a] (z_sF a t tx)) (vp_Si (fun r => r = Int32.ofNat tx.length)) 0 0 z_No := by
  refine Met.ofW (cc := zb_len) (maxL := 1) (ret := (some .int)) (by decide) rfl ?_
  intro p e s m args below meth c s₁ B hml hv
  obtain ⟨rfl, hF⟩ := hv
  have hx := B.exec
  have hb := B.bytes
  have hr := B.returns
  have hts0 := atoms_spec (ws := zw_len) B.pre
  have hts : ∀ w ∈ z_tb, w.before [.ref a].toArray s = true := fun w h => hts0 w (List.mem_cons_of_mem _ h)
  have hown : s.vm.findClass "java/lang/String" = some m.cls := findClass_of_methodNamed B.named
  have hlocks := B.notSynchronized
  have hS : va_S z_No s.heap s.heap [] := va_S.rf
  have hl := lv_entry ([.ref a]) (n := 1) (Nat.le_of_ble_eq_true rfl)
  rw [lg_entry_eq]
  generalize (lg_sl ([.ref a]) ++ List.replicate (1 - (lg_sl ([.ref a])).length) Slot.unset).toArray = ls at hl ⊢
  have hl : lv_has ls 1 [(0, .ref a)] := hl
  obtain ⟨f1, f2, f3, f4, f5, f6⟩ := id hF
  refine lv_aload_n hx hb zd_len_0 rfl (lv_at hl 0 rfl) ?_
  refine vk_getf hx hb f3 hS hown (hts _ zx_f9) (fun _ h => h) zd_len_1 ?_
  refine va_tlen hx hb f4 hS rfl zd_len_4 ?_
  refine lv_aload_n hx hb zd_len_5 rfl (lv_at hl 0 rfl) ?_
  refine vp_callSi (W.runV (cc := zb_len) (nL := 1) (Ts := z_tb) (own := "java/lang/String") (C := "java/lang/String") (As := []) (b := a) (rest := [.int (Int32.ofNat tx.length)]) (n := 0) (index := 335) ⟨hx, hb, hml, hown, hts⟩ (zc_coder l a t tx) ⟨callB_of 0 hts zg_coder rfl rfl rfl (hts _ zx_iS) (hts _ zx_m335) (by decide +kernel) ⟨Nat.le_of_ble_eq_true rfl, Nat.le_of_ble_eq_true rfl⟩, hts _ zx_coder_i, hts _ zx_coder_sel⟩ ⟨z_sFb, (by
    obtain ⟨cell, q1, q2, q3, -⟩ := f1
    exact ⟨cell, q1, q2, q3⟩), fun U hU hW => ⟨rfl, z_sF_al hW.alike hU hF⟩⟩ rfl rfl hl.1 rfl (lv_room (Nat.le_of_ble_eq_true rfl)) zd_len_6 ⟨Nat.zero_le _, Nat.zero_le _⟩) (fun r hr9 => ?_)
  subst hr9
  refine lv_ishr hx hb zd_len_9 ?_
  have e0 : Int32.ofNat tx.length >>> ((0 : Int32) &&& 31) = Int32.ofNat tx.length := by
    rw [show ((0 : Int32) &&& 31) = 0 by decide]
    exact Int32.shiftRight_zero
  rw [e0]
  exact W.zret hx hb hr rfl (fun t ht hW => ⟨_, rfl, rfl, ht⟩) (fun q h => absurd h List.not_mem_nil) zd_len_10
theorem zc_pciN (l : Launch) (i n : Int32) (h0 : ¬ i < 0) (h1 : i < n) : Met l zy_pci zw_pci (z_r1 1) (va_Pc [.int i, .int n, .null] (fun _ => True)) (vp_Si (fun r => r = i)) 0 0 z_No := by
  refine Met.ofW (cc := zb_pci) (maxL := 3) (ret := (some .int)) (by decide) rfl ?_
  intro p e s m args below meth c s₁ B hml hv
  obtain ⟨rfl, hF⟩ := hv
  have hx := B.exec
  have hb := B.bytes
  have hr := B.returns
  have hts0 := atoms_spec (ws := zw_pci) B.pre
  have hts : ∀ w ∈ z_tb, w.before [.int i, .int n, .null].toArray s = true := fun w h => hts0 w (List.mem_cons_of_mem _ h)
  have hown : s.vm.findClass "jdk/internal/util/Preconditions" = some m.cls := findClass_of_methodNamed B.named
  have hlocks := B.notSynchronized
  have hS : va_S z_No s.heap s.heap [] := va_S.rf
  have hl := lv_entry ([.int i, .int n, .null]) (n := 3) (Nat.le_of_ble_eq_true rfl)
  rw [lg_entry_eq]
  generalize (lg_sl ([.int i, .int n, .null]) ++ List.replicate (3 - (lg_sl ([.int i, .int n, .null])).length) Slot.unset).toArray = ls at hl ⊢
  have hl : lv_has ls 3 [(0, .int i), (1, .int n), (2, .null)] := hl
  refine lv_iload_n hx hb zd_pci_0 rfl (lv_at hl 0 rfl) ?_
  refine lv_if_lt (tgt := 9) hx hb zd_pci_1 (by decide) (fun h => absurd h h0) (fun _ => ?_)
  refine lv_iload_n hx hb zd_pci_4 rfl (lv_at hl 0 rfl) ?_
  refine lv_iload_n hx hb zd_pci_5 rfl (lv_at hl 1 rfl) ?_
  refine lv_icmp_lt (tgt := 16) hx hb zd_pci_6 (by decide) (fun _ => ?_) (fun h => absurd h1 h)
  refine lv_iload_n hx hb zd_pci_16 rfl (lv_at hl 0 rfl) ?_
  exact W.zret hx hb hr rfl (fun t ht hW => ⟨i, rfl, rfl, ht⟩) (fun q h => absurd h List.not_mem_nil) zd_pci_17
theorem zc_pciR (l : Launch) (i n : Int32) (u : Nat) (h0 : ¬ i < 0) (h1 : i < n) : Met l zy_pci zw_pci (z_r1 1) (va_Pc [.int i, .int n, .ref u] (fun _ => True)) (vp_Si (fun r => r = i)) 0 0 z_No := by
  refine Met.ofW (cc := zb_pci) (maxL := 3) (ret := (some .int)) (by decide) rfl ?_
  intro p e s m args below meth c s₁ B hml hv
  obtain ⟨rfl, hF⟩ := hv
  have hx := B.exec
  have hb := B.bytes
  have hr := B.returns
  have hts0 := atoms_spec (ws := zw_pci) B.pre
  have hts : ∀ w ∈ z_tb, w.before [.int i, .int n, .ref u].toArray s = true := fun w h => hts0 w (List.mem_cons_of_mem _ h)
  have hown : s.vm.findClass "jdk/internal/util/Preconditions" = some m.cls := findClass_of_methodNamed B.named
  have hlocks := B.notSynchronized
  have hS : va_S z_No s.heap s.heap [] := va_S.rf
  have hl := lv_entry ([.int i, .int n, .ref u]) (n := 3) (Nat.le_of_ble_eq_true rfl)
  rw [lg_entry_eq]
  generalize (lg_sl ([.int i, .int n, .ref u]) ++ List.replicate (3 - (lg_sl ([.int i, .int n, .ref u])).length) Slot.unset).toArray = ls at hl ⊢
  have hl : lv_has ls 3 [(0, .int i), (1, .int n), (2, .ref u)] := hl
  refine lv_iload_n hx hb zd_pci_0 rfl (lv_at hl 0 rfl) ?_
  refine lv_if_lt (tgt := 9) hx hb zd_pci_1 (by decide) (fun h => absurd h h0) (fun _ => ?_)
  refine lv_iload_n hx hb zd_pci_4 rfl (lv_at hl 0 rfl) ?_
  refine lv_iload_n hx hb zd_pci_5 rfl (lv_at hl 1 rfl) ?_
  refine lv_icmp_lt (tgt := 16) hx hb zd_pci_6 (by decide) (fun _ => ?_) (fun h => absurd h1 h)
  refine lv_iload_n hx hb zd_pci_16 rfl (lv_at hl 0 rfl) ?_
  exact W.zret hx hb hr rfl (fun t ht hW => ⟨i, rfl, rfl, ht⟩) (fun q h => absurd h List.not_mem_nil) zd_pci_17
theorem zc_sci (l : Launch) (a t : Nat) (tx : List Int32) (i n : Int32) (h0 : ¬ i < 0) (h1 : i < n) : Met l zy_sci zw_sci (z_r1 2) (va_Pc [.int i, .int n] (z_sF a t tx)) (va_Sv (fun _ => True)) 0 0 z_No := by
  refine Met.ofW (cc := zb_sci) (maxL := 2) (ret := none) (by decide) rfl ?_
  intro p e s m args below meth c s₁ B hml hv
  obtain ⟨rfl, hF⟩ := hv
  have hx := B.exec
  have hb := B.bytes
  have hr := B.returns
  have hts0 := atoms_spec (ws := zw_sci) B.pre
  have hts : ∀ w ∈ z_tb, w.before [.int i, .int n].toArray s = true := fun w h => hts0 w (List.mem_cons_of_mem _ h)
  have hown : s.vm.findClass "java/lang/String" = some m.cls := findClass_of_methodNamed B.named
  have hlocks := B.notSynchronized
  have hS : va_S z_No s.heap s.heap [] := va_S.rf
  have hl := lv_entry ([.int i, .int n]) (n := 2) (Nat.le_of_ble_eq_true rfl)
  rw [lg_entry_eq]
  generalize (lg_sl ([.int i, .int n]) ++ List.replicate (2 - (lg_sl ([.int i, .int n])).length) Slot.unset).toArray = ls at hl ⊢
  have hl : lv_has ls 2 [(0, .int i), (1, .int n)] := hl
  obtain ⟨f1, f2, f3, f4, f5, f6⟩ := hF
  refine lv_iload_n hx hb zd_sci_0 rfl (lv_at hl 0 rfl) ?_
  refine lv_iload_n hx hb zd_sci_1 rfl (lv_at hl 1 rfl) ?_
  rcases f6 with f6 | ⟨u, f6⟩
  · refine va_gets hx hb f6 hS hown (hts _ zx_f1053) (fun _ h => h) zd_sci_2 ?_
    refine vp_callSi (W.runS (cc := zb_sci) (nL := 2) (Ts := z_tb) (own := "java/lang/String") (As := [.int i, .int n, .null]) (rest := []) (n := 3) (index := 1059) ⟨hx, hb, hml, hown, hts⟩ (zc_pciN l i n h0 h1) ⟨callB_of 3 hts zg_pci rfl rfl rfl (hts _ zx_iP) (hts _ zx_m1059) (by decide +kernel) ⟨Nat.le_of_ble_eq_true rfl, Nat.le_of_ble_eq_true rfl⟩, hts _ zx_pci_s⟩ ⟨z_trb, fun U hU hW => ⟨rfl, trivial⟩⟩ rfl rfl hl.1 rfl (lv_room (Nat.le_of_ble_eq_true rfl)) zd_sci_5 ⟨Nat.zero_le _, Nat.zero_le _⟩) (fun r hr9 => ?_)
    refine lv_pop hx hb zd_sci_8 rfl ?_
    exact W.vret hx hb hr (fun t ht hW => ⟨rfl, trivial, ht⟩) (fun q h => absurd h List.not_mem_nil) zd_sci_9
  · refine va_gets hx hb f6 hS hown (hts _ zx_f1053) (fun _ h => h) zd_sci_2 ?_
    refine vp_callSi (W.runS (cc := zb_sci) (nL := 2) (Ts := z_tb) (own := "java/lang/String") (As := [.int i, .int n, .ref u]) (rest := []) (n := 3) (index := 1059) ⟨hx, hb, hml, hown, hts⟩ (zc_pciR l i n u h0 h1) ⟨callB_of 3 hts zg_pci rfl rfl rfl (hts _ zx_iP) (hts _ zx_m1059) (by decide +kernel) ⟨Nat.le_of_ble_eq_true rfl, Nat.le_of_ble_eq_true rfl⟩, hts _ zx_pci_s⟩ ⟨z_trb, fun U hU hW => ⟨rfl, trivial⟩⟩ rfl rfl hl.1 rfl (lv_room (Nat.le_of_ble_eq_true rfl)) zd_sci_5 ⟨Nat.zero_le _, Nat.zero_le _⟩) (fun r hr9 => ?_)
    refine lv_pop hx hb zd_sci_8 rfl ?_
    exact W.vret hx hb hr (fun t ht hW => ⟨rfl, trivial, ht⟩) (fun q h => absurd h List.not_mem_nil) zd_sci_9
theorem zc_lch (l : Launch) (a t : Nat) (tx : List Int32) (j : Int32) (hj : ¬ (j < 0 ∨ tx.length ≤ j.toNatClampNeg)) (h31 : tx.length < 2 ^ 31) (hby : (tx.getD j.toNatClampNeg 0) &&& 255 = tx.getD j.toNatClampNeg 0) : Met l zy_lch zw_lch (z_r1 3) (va_Pc [.ref t, .int j] (z_sF a t tx)) (vp_Si (fun r => r = tx.getD j.toNatClampNeg 0)) 0 0 z_No := by
  refine Met.ofW (cc := zb_lch) (maxL := 2) (ret := (some .char)) (by decide) rfl ?_
  intro p e s m args below meth c s₁ B hml hv
  obtain ⟨rfl, hF⟩ := hv
  have hx := B.exec
  have hb := B.bytes
  have hr := B.returns
  have hts0 := atoms_spec (ws := zw_lch) B.pre
  have hts : ∀ w ∈ z_tb, w.before [.ref t, .int j].toArray s = true := fun w h => hts0 w (List.mem_cons_of_mem _ h)
  have hown : s.vm.findClass "java/lang/StringLatin1" = some m.cls := findClass_of_methodNamed B.named
  have hlocks := B.notSynchronized
  have hS : va_S z_No s.heap s.heap [] := va_S.rf
  have hl := lv_entry ([.ref t, .int j]) (n := 2) (Nat.le_of_ble_eq_true rfl)
  rw [lg_entry_eq]
  generalize (lg_sl ([.ref t, .int j]) ++ List.replicate (2 - (lg_sl ([.ref t, .int j])).length) Slot.unset).toArray = ls at hl ⊢
  have hl : lv_has ls 2 [(0, .ref t), (1, .int j)] := hl
  obtain ⟨f1, f2, f3, f4, f5, f6⟩ := id hF
  have hin : vp_in j tx.length := hj
  have h0 : ¬ j < 0 := fun h => hj (Or.inl h)
  have h1 : j < Int32.ofNat tx.length := by
    obtain ⟨q, hq, rfl⟩ := vp_in_of hin h31
    exact nI_lt hq h31
  refine lv_iload_n hx hb zd_lch_0 rfl (lv_at hl 1 rfl) ?_
  refine lv_aload_n hx hb zd_lch_1 rfl (lv_at hl 0 rfl) ?_
  refine va_tlen hx hb f4 hS rfl zd_lch_2 ?_
  refine z_callSv (W.runS (cc := zb_lch) (nL := 2) (Ts := z_tb) (own := "java/lang/StringLatin1") (As := [.int j, .int (Int32.ofNat tx.length)]) (rest := []) (n := 2) (index := 9) ⟨hx, hb, hml, hown, hts⟩ (zc_sci l a t tx j (Int32.ofNat tx.length) h0 h1) ⟨callB_of 2 hts zg_sci rfl rfl rfl (hts _ zx_iS) (hts _ zx_m9) (by decide +kernel) ⟨Nat.le_of_ble_eq_true rfl, Nat.le_of_ble_eq_true rfl⟩, hts _ zx_sci_s⟩ ⟨z_sFb, fun U hU hW => ⟨rfl, z_sF_al hW.alike hU hF⟩⟩ rfl rfl hl.1 rfl (lv_room (Nat.le_of_ble_eq_true rfl)) zd_lch_3 ⟨Nat.zero_le _, Nat.zero_le _⟩) ?_
  refine lv_aload_n hx hb zd_lch_6 rfl (lv_at hl 0 rfl) ?_
  refine lv_iload_n hx hb zd_lch_7 rfl (lv_at hl 1 rfl) ?_
  refine va_tb hx hb f4 hS hin rfl zd_lch_8 ?_
  refine lv_sipush (v := 255) hx hb zd_lch_9 (by decide) ?_
  refine lv_iand hx hb zd_lch_12 ?_
  refine lv_i2c hx hb zd_lch_13 (sc_c2 _) ?_
  rw [hby]
  exact W.zret hx hb hr (by rw [← hby]; exact sc_nar _) (fun t ht hW => ⟨_, rfl, rfl, ht⟩) (fun q h => absurd h List.not_mem_nil) zd_lch_14
theorem zc_cha (l : Launch) (a t : Nat) (tx : List Int32) (j : Int32) (hj : ¬ (j < 0 ∨ tx.length ≤ j.toNatClampNeg)) (h31 : tx.length < 2 ^ 31) (hby : (tx.getD j.toNatClampNeg 0) &&& 255 = tx.getD j.toNatClampNeg 0) : Met l zy_cha zw_cha (z_r1 4) (va_Pc [.ref a, .int j] (z_sF a t tx)) (vp_Si (fun r => r = tx.getD j.toNatClampNeg 0)) 0 0 z_No := by
  refine Met.ofW (cc := zb_cha) (maxL := 2) (ret := (some .char)) (by decide) rfl ?_
  intro p e s m args below meth c s₁ B hml hv
  obtain ⟨rfl, hF⟩ := hv
  have hx := B.exec
  have hb := B.bytes
  have hr := B.returns
  have hts0 := atoms_spec (ws := zw_cha) B.pre
  have hts : ∀ w ∈ z_tb, w.before [.ref a, .int j].toArray s = true := fun w h => hts0 w (List.mem_cons_of_mem _ h)
  have hown : s.vm.findClass "java/lang/String" = some m.cls := findClass_of_methodNamed B.named
  have hlocks := B.notSynchronized
  have hS : va_S z_No s.heap s.heap [] := va_S.rf
  have hl := lv_entry ([.ref a, .int j]) (n := 2) (Nat.le_of_ble_eq_true rfl)
  rw [lg_entry_eq]
  generalize (lg_sl ([.ref a, .int j]) ++ List.replicate (2 - (lg_sl ([.ref a, .int j])).length) Slot.unset).toArray = ls at hl ⊢
  have hl : lv_has ls 2 [(0, .ref a), (1, .int j)] := hl
  obtain ⟨f1, f2, f3, f4, f5, f6⟩ := id hF
  refine lv_aload_n hx hb zd_cha_0 rfl (lv_at hl 0 rfl) ?_
  refine vp_callSi (W.runV (cc := zb_cha) (nL := 2) (Ts := z_tb) (own := "java/lang/String") (C := "java/lang/String") (As := []) (b := a) (rest := []) (n := 0) (index := 492) ⟨hx, hb, hml, hown, hts⟩ (zc_lat l a t tx) ⟨callB_of 0 hts zg_lat rfl rfl rfl (hts _ zx_iS) (hts _ zx_m492) (by decide +kernel) ⟨Nat.le_of_ble_eq_true rfl, Nat.le_of_ble_eq_true rfl⟩, hts _ zx_lat_i, hts _ zx_lat_sel⟩ ⟨z_sFb, (by
    obtain ⟨cell, q1, q2, q3, -⟩ := f1
    exact ⟨cell, q1, q2, q3⟩), fun U hU hW => ⟨rfl, z_sF_al hW.alike hU hF⟩⟩ rfl rfl hl.1 rfl (lv_room (Nat.le_of_ble_eq_true rfl)) zd_cha_1 ⟨Nat.zero_le _, Nat.zero_le _⟩) (fun r hr9 => ?_)
  subst hr9
  refine lv_if_eq (tgt := 16) hx hb zd_cha_4 (by decide) (fun h => absurd h (by decide)) (fun _ => ?_)
  refine lv_aload_n hx hb zd_cha_7 rfl (lv_at hl 0 rfl) ?_
  refine vk_getf hx hb f3 hS hown (hts _ zx_f9) (fun _ h => h) zd_cha_8 ?_
  refine lv_iload_n hx hb zd_cha_11 rfl (lv_at hl 1 rfl) ?_
  refine vp_callSi (W.runS (cc := zb_cha) (nL := 2) (Ts := z_tb) (own := "java/lang/String") (As := [.ref t, .int j]) (rest := []) (n := 2) (index := 495) ⟨hx, hb, hml, hown, hts⟩ (zc_lch l a t tx j hj h31 hby) ⟨callB_of 2 hts zg_lch rfl rfl rfl (hts _ zx_iL) (hts _ zx_m495) (by decide +kernel) ⟨Nat.le_of_ble_eq_true rfl, Nat.le_of_ble_eq_true rfl⟩, hts _ zx_lch_s⟩ ⟨z_sFb, fun U hU hW => ⟨rfl, z_sF_al hW.alike hU hF⟩⟩ rfl rfl hl.1 rfl (lv_room (Nat.le_of_ble_eq_true rfl)) zd_cha_12 ⟨Nat.zero_le _, Nat.zero_le _⟩) (fun r hr9 => ?_)
  subst hr9
  exact W.zret hx hb hr (by rw [← hby]; exact sc_nar _) (fun t ht hW => ⟨_, rfl, rfl, ht⟩) (fun q h => absurd h List.not_mem_nil) zd_cha_15
theorem z_tx_ok : ∀ k : Nat, (z_tx k).length < 100 ∧ ∀ j : Nat, ((z_tx k).getD j 0) &&& 255 = (z_tx k).getD j 0 := by
  have h : ∀ l ∈ z_txs, l.length < 100 ∧ ∀ x ∈ l, x &&& 255 = x := by decide +kernel
  intro k
  rcases Nat.lt_or_ge k z_txs.length with g | g
  · have e : z_tx k = z_txs[k] := by simp [z_tx, g]
    rw [e]
    have h1 := h _ (List.getElem_mem g)
    refine ⟨h1.1, fun j => ?_⟩
    rcases Nat.lt_or_ge j z_txs[k].length with g2 | g2
    · rw [List.getD_eq_getElem?_getD, List.getElem?_eq_getElem g2]
      exact h1.2 _ (List.getElem_mem g2)
    · rw [List.getD_eq_getElem?_getD, List.getElem?_eq_none g2]
      rfl
  · have e : z_tx k = [] := by simp [z_tx, g]
    rw [e]
    exact ⟨by decide, fun j => by rw [List.getD_nil]; rfl⟩
section ZS
variable {p : Program} {l : Launch} {e : Env} {R : Room} {s : State} {mt : MethodId} {args : Array Value} {below : List Frame} {meth : Method} {c : Code} {Q : State → Prop} {D : va_G} {A : Nat → Prop} {sa sv ad0 : Nat → Nat} {n0 nf nL : Nat} {cd : List zI} {own : String} {cc : ByteArray} {ini : Bool} {rt : Option FieldType}

theorem zs_strlen (C : z_Cx p s mt args meth c own cc nL ini rt) (En : z_En sa sv A s s.heap) (hA : ∀ q, s.heap.size ≤ q → A q) (hR : z_Rm R n0 nf) {ip i k : Nat} {lv : zL} {r : List Value} {m : zM} (hcs : z_cs r ≤ 8) (hd : decode cc (z_pc cd ip) = .ok (.invokevirtual i, 3)) (hn : z_pc cd (ip + 1) = z_pc cd ip + 3) (hk : z_sb < k) (hlk : Cond.methodLink own i ⟨"java/lang/String", "length", "()I"⟩ ∈ z_tb) (h : z_G p l e R s mt args below meth c Q D A sa ad0 n0 nf nL (z_pc cd) (ip + 1) lv (.int (Int32.ofNat (z_tx (k - z_sb)).length) :: r) m) : z_G p l e R s mt args below meth c Q D A sa ad0 n0 nf nL (z_pc cd) ip lv (.ref k :: r) m := by
  refine ⟨h.1, fun ad ac tys H locs ls hSt hl ho hvv => ?_⟩
  have hk2 : k < z_sb + 43 := by
    have := ho (.ref k) List.mem_cons_self
    rcases this with g | g
    · have h3 := hSt.2.2.2.2.2.1.2.2
      have h4 : z_sb = 1000000 := rfl
      have g2 : k < m.1 := g
      omega
    · exact g.2
  have h2 := h.2 ad ac tys H locs ls hSt hl (fun v hv => by
    rcases List.mem_cons.mp hv with rfl | g
    · simp [z_okv]
    · exact ho v (List.mem_cons_of_mem _ g)) hvv
  rw [hn] at h2
  have hS := hSt.2.2.2.1
  have hs0 : 0 < k - z_sb := by omega
  have hs1 : k - z_sb < 43 := by omega
  obtain ⟨e1, e2, e3, e4, e5⟩ := En.2.1 (k - z_sb) hs0 hs1
  have hno : ∀ q, z_No q → A q := fun q h9 => h9.elim
  have e9 : z_tr ad sa (.ref k) = .ref (sa (k - z_sb)) := by
    simp only [z_tr]
    rw [if_neg (Nat.not_lt.mpr (Nat.le_of_lt hk))]
  have hsF : ∀ U : State, U.heap = H → s.WarmedH U.vm → z_sF (sa (k - z_sb)) (sv (k - z_sb)) (z_tx (k - z_sb)) U := by
    intro U hU hW
    have ha := hW.alike
    simp only [z_sF]
    rw [hU]
    exact ⟨((e2.kept hS.2.1).moved ha).narrow hno, ((e3.kept hS.2.1).moved ha).narrow hno, ((e4.kept hS.2.1).moved ha).narrow hno, ((e5.kept hS.2.1).moved ha).narrow hno, ((En.2.2.1.kept hS.2.1).moved ha).narrow hno, ((En.2.2.2.2.kept hS.2.1).moved ha).narrow hno⟩
  obtain ⟨r1, r2, r3, r4⟩ := hR
  have hle := h.1
  have hn0 := hSt.2.2.2.2.2.2.1
  have hsl := z_sl_mono hle
  show W p l e R s mt args below meth c H locs _ _ Q (F0 mt _ ls (z_tr ad sa (.ref k) :: r.map (z_tr ad sa)))
  rw [e9]
  refine vp_callSi (W.runV (cc := cc) (nL := nL) (Ts := z_tb) (own := own) (C := "java/lang/String") (As := []) (b := sa (k - z_sb)) (rest := r.map (z_tr ad sa)) (n := 0) (index := i) ⟨C.1, C.2.1, C.2.2.2.1, C.2.2.2.2.1, C.2.2.2.2.2.1⟩ (zc_len l _ _ _) ⟨callB_of 0 C.2.2.2.2.2.1 zg_len rfl rfl rfl (C.2.2.2.2.2.1 _ zx_iS) (C.2.2.2.2.2.1 _ hlk) (by decide +kernel) ⟨by show 2 + 1 ≤ R.frames; omega, by show 8 + (1 + 11) + 40 * 2 ≤ R.locals; omega⟩, C.2.2.2.2.2.1 _ zx_len_i, C.2.2.2.2.2.1 _ zx_len_sel⟩ ⟨z_sFb, (by
    obtain ⟨cell, q1, q2, q3, -⟩ := e2.kept hS.2.1
    exact ⟨cell, q1, q2, q3⟩), fun U hU hW => ⟨rfl, hsF U hU hW⟩⟩ rfl rfl hl.1 rfl (lv_room (by rw [z_cs_tr]; exact hcs)) hd ⟨by omega, by omega⟩) (fun x hx9 => ?_)
  rw [hx9]
  exact h2
theorem zs_charat (C : z_Cx p s mt args meth c own cc nL ini rt) (En : z_En sa sv A s s.heap) (hA : ∀ q, s.heap.size ≤ q → A q) (hR : z_Rm R n0 nf) {ip i k : Nat} {lv : zL} {r : List Value} {m : zM} (hcs : z_cs r ≤ 8) (hd : decode cc (z_pc cd ip) = .ok (.invokevirtual i, 3)) (hn : z_pc cd (ip + 1) = z_pc cd ip + 3) (hk : z_sb < k) {j : Int32} (hlk : Cond.methodLink own i ⟨"java/lang/String", "charAt", "(I)C"⟩ ∈ z_tb) (hj : ¬ (j < 0 ∨ (z_tx (k - z_sb)).length ≤ j.toNatClampNeg)) (h : z_G p l e R s mt args below meth c Q D A sa ad0 n0 nf nL (z_pc cd) (ip + 1) lv (.int ((z_tx (k - z_sb)).getD j.toNatClampNeg 0) :: r) m) : z_G p l e R s mt args below meth c Q D A sa ad0 n0 nf nL (z_pc cd) ip lv (.int j :: .ref k :: r) m := by
  refine ⟨h.1, fun ad ac tys H locs ls hSt hl ho hvv => ?_⟩
  have hk2 : k < z_sb + 43 := by
    have := ho (.ref k) (List.mem_cons_of_mem _ List.mem_cons_self)
    rcases this with g | g
    · have h3 := hSt.2.2.2.2.2.1.2.2
      have h4 : z_sb = 1000000 := rfl
      have g2 : k < m.1 := g
      omega
    · exact g.2
  have h2 := h.2 ad ac tys H locs ls hSt hl (fun v hv => by
    rcases List.mem_cons.mp hv with rfl | g
    · simp [z_okv]
    · exact ho v (List.mem_cons_of_mem _ (List.mem_cons_of_mem _ g))) hvv
  rw [hn] at h2
  have hS := hSt.2.2.2.1
  have hs0 : 0 < k - z_sb := by omega
  have hs1 : k - z_sb < 43 := by omega
  obtain ⟨e1, e2, e3, e4, e5⟩ := En.2.1 (k - z_sb) hs0 hs1
  have hno : ∀ q, z_No q → A q := fun q h9 => h9.elim
  have e9 : z_tr ad sa (.ref k) = .ref (sa (k - z_sb)) := by
    simp only [z_tr]
    rw [if_neg (Nat.not_lt.mpr (Nat.le_of_lt hk))]
  have hsF : ∀ U : State, U.heap = H → s.WarmedH U.vm → z_sF (sa (k - z_sb)) (sv (k - z_sb)) (z_tx (k - z_sb)) U := by
    intro U hU hW
    have ha := hW.alike
    simp only [z_sF]
    rw [hU]
    exact ⟨((e2.kept hS.2.1).moved ha).narrow hno, ((e3.kept hS.2.1).moved ha).narrow hno, ((e4.kept hS.2.1).moved ha).narrow hno, ((e5.kept hS.2.1).moved ha).narrow hno, ((En.2.2.1.kept hS.2.1).moved ha).narrow hno, ((En.2.2.2.2.kept hS.2.1).moved ha).narrow hno⟩
  obtain ⟨r1, r2, r3, r4⟩ := hR
  have hle := h.1
  have hn0 := hSt.2.2.2.2.2.2.1
  have hsl := z_sl_mono hle
  obtain ⟨t1, t2⟩ := z_tx_ok (k - z_sb)
  show W p l e R s mt args below meth c H locs _ _ Q (F0 mt _ ls (.int j :: z_tr ad sa (.ref k) :: r.map (z_tr ad sa)))
  rw [e9]
  refine vp_callSi (W.runV (cc := cc) (nL := nL) (Ts := z_tb) (own := own) (C := "java/lang/String") (As := [.int j]) (b := sa (k - z_sb)) (rest := r.map (z_tr ad sa)) (n := 1) (index := i) ⟨C.1, C.2.1, C.2.2.2.1, C.2.2.2.2.1, C.2.2.2.2.2.1⟩ (zc_cha l _ _ _ j hj (Nat.lt_trans t1 (by decide)) (t2 _)) ⟨callB_of 1 C.2.2.2.2.2.1 zg_cha rfl rfl rfl (C.2.2.2.2.2.1 _ zx_iS) (C.2.2.2.2.2.1 _ hlk) (by decide +kernel) ⟨by show 4 + 1 ≤ R.frames; omega, by show 8 + (2 + 11) + 40 * 4 ≤ R.locals; omega⟩, C.2.2.2.2.2.1 _ zx_cha_i, C.2.2.2.2.2.1 _ zx_cha_sel⟩ ⟨z_sFb, (by
    obtain ⟨cell, q1, q2, q3, -⟩ := e2.kept hS.2.1
    exact ⟨cell, q1, q2, q3⟩), fun U hU hW => ⟨rfl, hsF U hU hW⟩⟩ rfl rfl hl.1 rfl (lv_room (by rw [z_cs_tr]; exact hcs)) hd ⟨by omega, by omega⟩) (fun x hx9 => ?_)
  rw [hx9]
  exact h2
end ZS
