-- ===== end of PART A; then your names; then what follows =====
/-! THE CLAIM OUT OF ONE WALK OF THE LAW'S BODY. Your part is whole_start (and what it stands on); all else here is the same for every law, but numbers. -/
def R_law : String := "LongBoatsLaw"
def lw_P (b : Addr) (xs : List Int32) (args : Array Value) (s : State) : Prop := args = #[.ref b] ∧ s.IntsAt b xs ∧ xs.length ≤ 4096 ∧ (Jvm.Cond.and given_1 narrow_1).before args s = true
def lw_Q (_ : Array Value) (s : State) (o : Outcome) (t : State) : Prop := o = .returned (some (.int 1)) ∧ Framed s o t [] 600000 7302250
def lw_Z (below : List Frame) (a : Array Value) (s : State) : State → Prop := fun t => ∃ o, t.status = .running ∧ Ended t below o ∧ lw_Q a s o t
/-- the law's own end, with 1 on the stack, nothing written that was there before, its room as the claim has it -/
theorem lw_ret {p : Program} {l : Launch} {e : Env} {s : State} {m : MethodId} {below : List Frame} {meth : Method} {c : Code} {b : Nat} (hx : p.tables.exec = Jvm.exec) (hb : c.code = code) (hr : meth.sig.returnType = ret) (hlocks : meth.locks = false) {pc : Nat} {H : Heap} {ls : Array Slot} (hdg : decode code pc = .ok (.ireturn, 1)) : W p l e room_1 s m #[Value.ref b] below meth c H [] 600000 7302250 (lw_Z below #[Value.ref b] s) (F0 m pc ls [.int 1]) := by
  intro T hT X
  obtain ⟨fs, hret, hrun, hended, hW, hframe⟩ := X.leave (v := some (.int 1)) (hlocks := hlocks) (fun h => by rw [hr] at h; cases h)
  have hmeth' : T.vm.method? m = some meth := X.method'
  refine ⟨T.setFrames fs, ?_, .returned (some (.int 1)), hrun, hended, rfl, ⟨_, rfl⟩, hW, hframe⟩
  jvm_step X.here [X.here.top, hx, hb, hdg, hmeth', hr, ret, narrow_b1]
  (try refine ⟨rfl, ?_⟩); (try refine ⟨rfl, ?_⟩)
  first | (intro acts; rw [hret _ acts rfl rfl rfl]) | rw [hret _ _ rfl rfl rfl]
  exact Steps.refl _
/-- what holds at the law's entry: the machine, the code, the tables' words (any of lw_tbl by 'hts w (by decide +kernel)'), the script of L ints xs at the cell b, what the Statement gives of the start (any of its parts by flat_of_before) -/
def lw_At (p : Program) (s : State) (m : MethodId) (meth : Method) (c : Code) (b L : Nat) (xs : Nat → Int32) : Prop :=
  p.tables.exec = Jvm.exec ∧ c.code = code ∧ meth.sig.returnType = ret ∧ c.maxLocals = 4 ∧ s.vm.findClass R_law = some m.cls ∧ (∀ w ∈ lw_tbl, w.before #[Value.ref b] s = true) ∧ va_X b L xs s s.heap ∧ b < s.heap.size ∧ meth.locks = false ∧ (Jvm.Cond.and given_1 narrow_1).before #[Value.ref b] s = true
/-! the claim out of a pure run of the law -/
def z_spl : List Nat := [0, 1573, 1574, 1575, 1576, 1577, 1578, 1579, 1580, 1581, 1566, 1557, 1558, 1559, 1560, 1561, 1567, 1568, 1523, 1542, 1551, 1552, 618, 624, 639, 671, 713, 549, 610, 616, 617, 623, 629, 638, 644, 659, 660, 661, 662, 663, 668, 669, 670]
abbrev z_FC : List Cond := flatC (Jvm.Cond.and given_1 narrow_1)
def z_stm (k : Nat) : Term := .string (z_sk k).1 (z_sk k).2.1
theorem z_sp1 : ∀ k ∈ List.range 43, 0 < k → lw_tbl[z_spl.getD k 0]? = some (Cond.stringRef (z_sk k).1 (z_sk k).2.1 (z_sk k).2.2) := by decide +kernel
def z_SP (k : Nat) : Prop := Cond.exactly (z_stm k) "java/lang/String" ∈ z_FC ∧ Cond.eq (.field (z_stm k) "java/lang/String" "coder" "B") (.int 0) ∈ z_FC ∧ Cond.arrayOf (.field (z_stm k) "java/lang/String" "value" "[B") .byte ∈ z_FC ∧ Cond.eq (.length (.field (z_stm k) "java/lang/String" "value" "[B")) (.int (Int32.ofNat (z_tx k).length)) ∈ z_FC ∧ ∀ j : Nat, j < (z_tx k).length → Cond.eq (.elem (.field (z_stm k) "java/lang/String" "value" "[B") (.int (Int32.ofNat j))) (.int ((z_tx k).getD j 0)) ∈ z_FC
theorem z_sp2_1 : z_SP 1 := ⟨List.mem_of_getElem? (i := 303) (by decide +kernel), List.mem_of_getElem? (i := 304) (by decide +kernel), List.mem_of_getElem? (i := 305) (by decide +kernel), List.mem_of_getElem? (i := 306) (by decide +kernel), fun j hj => by
  match j, hj with
  | 0, _ => exact List.mem_of_getElem? (i := 307) (by decide +kernel)
  | 1, _ => exact List.mem_of_getElem? (i := 308) (by decide +kernel)
  | 2, _ => exact List.mem_of_getElem? (i := 309) (by decide +kernel)
  | 3, _ => exact List.mem_of_getElem? (i := 310) (by decide +kernel)
  | 4, _ => exact List.mem_of_getElem? (i := 311) (by decide +kernel)
  | 5, _ => exact List.mem_of_getElem? (i := 312) (by decide +kernel)
  | j + 6, hj => exact absurd hj (by show ¬ j + 6 < 6; omega)⟩
theorem z_sp2_2 : z_SP 2 := ⟨List.mem_of_getElem? (i := 314) (by decide +kernel), List.mem_of_getElem? (i := 315) (by decide +kernel), List.mem_of_getElem? (i := 316) (by decide +kernel), List.mem_of_getElem? (i := 317) (by decide +kernel), fun j hj => by
  match j, hj with
  | 0, _ => exact List.mem_of_getElem? (i := 318) (by decide +kernel)
  | 1, _ => exact List.mem_of_getElem? (i := 319) (by decide +kernel)
  | 2, _ => exact List.mem_of_getElem? (i := 320) (by decide +kernel)
  | 3, _ => exact List.mem_of_getElem? (i := 321) (by decide +kernel)
  | 4, _ => exact List.mem_of_getElem? (i := 322) (by decide +kernel)
  | j + 5, hj => exact absurd hj (by show ¬ j + 5 < 5; omega)⟩
theorem z_sp2_3 : z_SP 3 := ⟨List.mem_of_getElem? (i := 324) (by decide +kernel), List.mem_of_getElem? (i := 325) (by decide +kernel), List.mem_of_getElem? (i := 326) (by decide +kernel), List.mem_of_getElem? (i := 327) (by decide +kernel), fun j hj => by
  match j, hj with
  | 0, _ => exact List.mem_of_getElem? (i := 328) (by decide +kernel)
  | 1, _ => exact List.mem_of_getElem? (i := 329) (by decide +kernel)
  | 2, _ => exact List.mem_of_getElem? (i := 330) (by decide +kernel)
  | 3, _ => exact List.mem_of_getElem? (i := 331) (by decide +kernel)
  | 4, _ => exact List.mem_of_getElem? (i := 332) (by decide +kernel)
  | j + 5, hj => exact absurd hj (by show ¬ j + 5 < 5; omega)⟩
theorem z_sp2_4 : z_SP 4 := ⟨List.mem_of_getElem? (i := 334) (by decide +kernel), List.mem_of_getElem? (i := 335) (by decide +kernel), List.mem_of_getElem? (i := 336) (by decide +kernel), List.mem_of_getElem? (i := 337) (by decide +kernel), fun j hj => by
  match j, hj with
  | 0, _ => exact List.mem_of_getElem? (i := 338) (by decide +kernel)
  | 1, _ => exact List.mem_of_getElem? (i := 339) (by decide +kernel)
  | 2, _ => exact List.mem_of_getElem? (i := 340) (by decide +kernel)
  | 3, _ => exact List.mem_of_getElem? (i := 341) (by decide +kernel)
  | 4, _ => exact List.mem_of_getElem? (i := 342) (by decide +kernel)
  | j + 5, hj => exact absurd hj (by show ¬ j + 5 < 5; omega)⟩
theorem z_sp2_5 : z_SP 5 := ⟨List.mem_of_getElem? (i := 344) (by decide +kernel), List.mem_of_getElem? (i := 345) (by decide +kernel), List.mem_of_getElem? (i := 346) (by decide +kernel), List.mem_of_getElem? (i := 347) (by decide +kernel), fun j hj => by
  match j, hj with
  | 0, _ => exact List.mem_of_getElem? (i := 348) (by decide +kernel)
  | 1, _ => exact List.mem_of_getElem? (i := 349) (by decide +kernel)
  | 2, _ => exact List.mem_of_getElem? (i := 350) (by decide +kernel)
  | 3, _ => exact List.mem_of_getElem? (i := 351) (by decide +kernel)
  | 4, _ => exact List.mem_of_getElem? (i := 352) (by decide +kernel)
  | j + 5, hj => exact absurd hj (by show ¬ j + 5 < 5; omega)⟩
theorem z_sp2_6 : z_SP 6 := ⟨List.mem_of_getElem? (i := 354) (by decide +kernel), List.mem_of_getElem? (i := 355) (by decide +kernel), List.mem_of_getElem? (i := 356) (by decide +kernel), List.mem_of_getElem? (i := 357) (by decide +kernel), fun j hj => by
  match j, hj with
  | 0, _ => exact List.mem_of_getElem? (i := 358) (by decide +kernel)
  | 1, _ => exact List.mem_of_getElem? (i := 359) (by decide +kernel)
  | 2, _ => exact List.mem_of_getElem? (i := 360) (by decide +kernel)
  | 3, _ => exact List.mem_of_getElem? (i := 361) (by decide +kernel)
  | j + 4, hj => exact absurd hj (by show ¬ j + 4 < 4; omega)⟩
theorem z_sp2_7 : z_SP 7 := ⟨List.mem_of_getElem? (i := 363) (by decide +kernel), List.mem_of_getElem? (i := 364) (by decide +kernel), List.mem_of_getElem? (i := 365) (by decide +kernel), List.mem_of_getElem? (i := 366) (by decide +kernel), fun j hj => by
  match j, hj with
  | 0, _ => exact List.mem_of_getElem? (i := 367) (by decide +kernel)
  | 1, _ => exact List.mem_of_getElem? (i := 368) (by decide +kernel)
  | 2, _ => exact List.mem_of_getElem? (i := 369) (by decide +kernel)
  | 3, _ => exact List.mem_of_getElem? (i := 370) (by decide +kernel)
  | 4, _ => exact List.mem_of_getElem? (i := 371) (by decide +kernel)
  | 5, _ => exact List.mem_of_getElem? (i := 372) (by decide +kernel)
  | j + 6, hj => exact absurd hj (by show ¬ j + 6 < 6; omega)⟩
theorem z_sp2_8 : z_SP 8 := ⟨List.mem_of_getElem? (i := 374) (by decide +kernel), List.mem_of_getElem? (i := 375) (by decide +kernel), List.mem_of_getElem? (i := 376) (by decide +kernel), List.mem_of_getElem? (i := 377) (by decide +kernel), fun j hj => by
  match j, hj with
  | 0, _ => exact List.mem_of_getElem? (i := 378) (by decide +kernel)
  | 1, _ => exact List.mem_of_getElem? (i := 379) (by decide +kernel)
  | 2, _ => exact List.mem_of_getElem? (i := 380) (by decide +kernel)
  | 3, _ => exact List.mem_of_getElem? (i := 381) (by decide +kernel)
  | 4, _ => exact List.mem_of_getElem? (i := 382) (by decide +kernel)
  | 5, _ => exact List.mem_of_getElem? (i := 383) (by decide +kernel)
  | j + 6, hj => exact absurd hj (by show ¬ j + 6 < 6; omega)⟩
theorem z_sp2_9 : z_SP 9 := ⟨List.mem_of_getElem? (i := 385) (by decide +kernel), List.mem_of_getElem? (i := 386) (by decide +kernel), List.mem_of_getElem? (i := 387) (by decide +kernel), List.mem_of_getElem? (i := 388) (by decide +kernel), fun j hj => by
  match j, hj with
  | 0, _ => exact List.mem_of_getElem? (i := 389) (by decide +kernel)
  | 1, _ => exact List.mem_of_getElem? (i := 390) (by decide +kernel)
  | 2, _ => exact List.mem_of_getElem? (i := 391) (by decide +kernel)
  | 3, _ => exact List.mem_of_getElem? (i := 392) (by decide +kernel)
  | j + 4, hj => exact absurd hj (by show ¬ j + 4 < 4; omega)⟩
theorem z_sp2_10 : z_SP 10 := ⟨List.mem_of_getElem? (i := 278) (by decide +kernel), List.mem_of_getElem? (i := 279) (by decide +kernel), List.mem_of_getElem? (i := 280) (by decide +kernel), List.mem_of_getElem? (i := 281) (by decide +kernel), fun j hj => by
  match j, hj with
  | 0, _ => exact List.mem_of_getElem? (i := 282) (by decide +kernel)
  | 1, _ => exact List.mem_of_getElem? (i := 283) (by decide +kernel)
  | j + 2, hj => exact absurd hj (by show ¬ j + 2 < 2; omega)⟩
theorem z_sp2_11 : z_SP 11 := ⟨List.mem_of_getElem? (i := 233) (by decide +kernel), List.mem_of_getElem? (i := 234) (by decide +kernel), List.mem_of_getElem? (i := 235) (by decide +kernel), List.mem_of_getElem? (i := 236) (by decide +kernel), fun j hj => by
  match j, hj with
  | 0, _ => exact List.mem_of_getElem? (i := 237) (by decide +kernel)
  | 1, _ => exact List.mem_of_getElem? (i := 238) (by decide +kernel)
  | 2, _ => exact List.mem_of_getElem? (i := 239) (by decide +kernel)
  | 3, _ => exact List.mem_of_getElem? (i := 240) (by decide +kernel)
  | 4, _ => exact List.mem_of_getElem? (i := 241) (by decide +kernel)
  | j + 5, hj => exact absurd hj (by show ¬ j + 5 < 5; omega)⟩
theorem z_sp2_12 : z_SP 12 := ⟨List.mem_of_getElem? (i := 243) (by decide +kernel), List.mem_of_getElem? (i := 244) (by decide +kernel), List.mem_of_getElem? (i := 245) (by decide +kernel), List.mem_of_getElem? (i := 246) (by decide +kernel), fun j hj => by
  match j, hj with
  | 0, _ => exact List.mem_of_getElem? (i := 247) (by decide +kernel)
  | 1, _ => exact List.mem_of_getElem? (i := 248) (by decide +kernel)
  | 2, _ => exact List.mem_of_getElem? (i := 249) (by decide +kernel)
  | 3, _ => exact List.mem_of_getElem? (i := 250) (by decide +kernel)
  | j + 4, hj => exact absurd hj (by show ¬ j + 4 < 4; omega)⟩
theorem z_sp2_13 : z_SP 13 := ⟨List.mem_of_getElem? (i := 252) (by decide +kernel), List.mem_of_getElem? (i := 253) (by decide +kernel), List.mem_of_getElem? (i := 254) (by decide +kernel), List.mem_of_getElem? (i := 255) (by decide +kernel), fun j hj => by
  match j, hj with
  | 0, _ => exact List.mem_of_getElem? (i := 256) (by decide +kernel)
  | 1, _ => exact List.mem_of_getElem? (i := 257) (by decide +kernel)
  | 2, _ => exact List.mem_of_getElem? (i := 258) (by decide +kernel)
  | j + 3, hj => exact absurd hj (by show ¬ j + 3 < 3; omega)⟩
theorem z_sp2_14 : z_SP 14 := ⟨List.mem_of_getElem? (i := 260) (by decide +kernel), List.mem_of_getElem? (i := 261) (by decide +kernel), List.mem_of_getElem? (i := 262) (by decide +kernel), List.mem_of_getElem? (i := 263) (by decide +kernel), fun j hj => by
  match j, hj with
  | 0, _ => exact List.mem_of_getElem? (i := 264) (by decide +kernel)
  | 1, _ => exact List.mem_of_getElem? (i := 265) (by decide +kernel)
  | 2, _ => exact List.mem_of_getElem? (i := 266) (by decide +kernel)
  | 3, _ => exact List.mem_of_getElem? (i := 267) (by decide +kernel)
  | j + 4, hj => exact absurd hj (by show ¬ j + 4 < 4; omega)⟩
theorem z_sp2_15 : z_SP 15 := ⟨List.mem_of_getElem? (i := 269) (by decide +kernel), List.mem_of_getElem? (i := 270) (by decide +kernel), List.mem_of_getElem? (i := 271) (by decide +kernel), List.mem_of_getElem? (i := 272) (by decide +kernel), fun j hj => by
  match j, hj with
  | 0, _ => exact List.mem_of_getElem? (i := 273) (by decide +kernel)
  | 1, _ => exact List.mem_of_getElem? (i := 274) (by decide +kernel)
  | 2, _ => exact List.mem_of_getElem? (i := 275) (by decide +kernel)
  | 3, _ => exact List.mem_of_getElem? (i := 276) (by decide +kernel)
  | j + 4, hj => exact absurd hj (by show ¬ j + 4 < 4; omega)⟩
theorem z_sp2_16 : z_SP 16 := ⟨List.mem_of_getElem? (i := 285) (by decide +kernel), List.mem_of_getElem? (i := 286) (by decide +kernel), List.mem_of_getElem? (i := 287) (by decide +kernel), List.mem_of_getElem? (i := 288) (by decide +kernel), fun j hj => by
  match j, hj with
  | 0, _ => exact List.mem_of_getElem? (i := 289) (by decide +kernel)
  | 1, _ => exact List.mem_of_getElem? (i := 290) (by decide +kernel)
  | 2, _ => exact List.mem_of_getElem? (i := 291) (by decide +kernel)
  | 3, _ => exact List.mem_of_getElem? (i := 292) (by decide +kernel)
  | j + 4, hj => exact absurd hj (by show ¬ j + 4 < 4; omega)⟩
theorem z_sp2_17 : z_SP 17 := ⟨List.mem_of_getElem? (i := 294) (by decide +kernel), List.mem_of_getElem? (i := 295) (by decide +kernel), List.mem_of_getElem? (i := 296) (by decide +kernel), List.mem_of_getElem? (i := 297) (by decide +kernel), fun j hj => by
  match j, hj with
  | 0, _ => exact List.mem_of_getElem? (i := 298) (by decide +kernel)
  | 1, _ => exact List.mem_of_getElem? (i := 299) (by decide +kernel)
  | 2, _ => exact List.mem_of_getElem? (i := 300) (by decide +kernel)
  | 3, _ => exact List.mem_of_getElem? (i := 301) (by decide +kernel)
  | j + 4, hj => exact absurd hj (by show ¬ j + 4 < 4; omega)⟩
theorem z_sp2_18 : z_SP 18 := ⟨List.mem_of_getElem? (i := 191) (by decide +kernel), List.mem_of_getElem? (i := 192) (by decide +kernel), List.mem_of_getElem? (i := 193) (by decide +kernel), List.mem_of_getElem? (i := 194) (by decide +kernel), fun j hj => by
  match j, hj with
  | 0, _ => exact List.mem_of_getElem? (i := 195) (by decide +kernel)
  | 1, _ => exact List.mem_of_getElem? (i := 196) (by decide +kernel)
  | 2, _ => exact List.mem_of_getElem? (i := 197) (by decide +kernel)
  | 3, _ => exact List.mem_of_getElem? (i := 198) (by decide +kernel)
  | 4, _ => exact List.mem_of_getElem? (i := 199) (by decide +kernel)
  | 5, _ => exact List.mem_of_getElem? (i := 200) (by decide +kernel)
  | 6, _ => exact List.mem_of_getElem? (i := 201) (by decide +kernel)
  | j + 7, hj => exact absurd hj (by show ¬ j + 7 < 7; omega)⟩
theorem z_sp2_19 : z_SP 19 := ⟨List.mem_of_getElem? (i := 203) (by decide +kernel), List.mem_of_getElem? (i := 204) (by decide +kernel), List.mem_of_getElem? (i := 205) (by decide +kernel), List.mem_of_getElem? (i := 206) (by decide +kernel), fun j hj => by
  match j, hj with
  | 0, _ => exact List.mem_of_getElem? (i := 207) (by decide +kernel)
  | 1, _ => exact List.mem_of_getElem? (i := 208) (by decide +kernel)
  | 2, _ => exact List.mem_of_getElem? (i := 209) (by decide +kernel)
  | 3, _ => exact List.mem_of_getElem? (i := 210) (by decide +kernel)
  | 4, _ => exact List.mem_of_getElem? (i := 211) (by decide +kernel)
  | 5, _ => exact List.mem_of_getElem? (i := 212) (by decide +kernel)
  | j + 6, hj => exact absurd hj (by show ¬ j + 6 < 6; omega)⟩
theorem z_sp2_20 : z_SP 20 := ⟨List.mem_of_getElem? (i := 214) (by decide +kernel), List.mem_of_getElem? (i := 215) (by decide +kernel), List.mem_of_getElem? (i := 216) (by decide +kernel), List.mem_of_getElem? (i := 217) (by decide +kernel), fun j hj => by
  match j, hj with
  | 0, _ => exact List.mem_of_getElem? (i := 218) (by decide +kernel)
  | 1, _ => exact List.mem_of_getElem? (i := 219) (by decide +kernel)
  | 2, _ => exact List.mem_of_getElem? (i := 220) (by decide +kernel)
  | j + 3, hj => exact absurd hj (by show ¬ j + 3 < 3; omega)⟩
theorem z_sp2_21 : z_SP 21 := ⟨List.mem_of_getElem? (i := 222) (by decide +kernel), List.mem_of_getElem? (i := 223) (by decide +kernel), List.mem_of_getElem? (i := 224) (by decide +kernel), List.mem_of_getElem? (i := 225) (by decide +kernel), fun j hj => by
  match j, hj with
  | 0, _ => exact List.mem_of_getElem? (i := 226) (by decide +kernel)
  | 1, _ => exact List.mem_of_getElem? (i := 227) (by decide +kernel)
  | 2, _ => exact List.mem_of_getElem? (i := 228) (by decide +kernel)
  | 3, _ => exact List.mem_of_getElem? (i := 229) (by decide +kernel)
  | 4, _ => exact List.mem_of_getElem? (i := 230) (by decide +kernel)
  | 5, _ => exact List.mem_of_getElem? (i := 231) (by decide +kernel)
  | j + 6, hj => exact absurd hj (by show ¬ j + 6 < 6; omega)⟩
theorem z_sp2_22 : z_SP 22 := ⟨List.mem_of_getElem? (i := 47) (by decide +kernel), List.mem_of_getElem? (i := 48) (by decide +kernel), List.mem_of_getElem? (i := 49) (by decide +kernel), List.mem_of_getElem? (i := 50) (by decide +kernel), fun j hj => by
  match j, hj with
  | 0, _ => exact List.mem_of_getElem? (i := 51) (by decide +kernel)
  | 1, _ => exact List.mem_of_getElem? (i := 52) (by decide +kernel)
  | 2, _ => exact List.mem_of_getElem? (i := 53) (by decide +kernel)
  | 3, _ => exact List.mem_of_getElem? (i := 54) (by decide +kernel)
  | 4, _ => exact List.mem_of_getElem? (i := 55) (by decide +kernel)
  | j + 5, hj => exact absurd hj (by show ¬ j + 5 < 5; omega)⟩
theorem z_sp2_23 : z_SP 23 := ⟨List.mem_of_getElem? (i := 62) (by decide +kernel), List.mem_of_getElem? (i := 63) (by decide +kernel), List.mem_of_getElem? (i := 64) (by decide +kernel), List.mem_of_getElem? (i := 65) (by decide +kernel), fun j hj => by
  match j, hj with
  | 0, _ => exact List.mem_of_getElem? (i := 66) (by decide +kernel)
  | 1, _ => exact List.mem_of_getElem? (i := 67) (by decide +kernel)
  | 2, _ => exact List.mem_of_getElem? (i := 68) (by decide +kernel)
  | 3, _ => exact List.mem_of_getElem? (i := 69) (by decide +kernel)
  | j + 4, hj => exact absurd hj (by show ¬ j + 4 < 4; omega)⟩
theorem z_sp2_24 : z_SP 24 := ⟨List.mem_of_getElem? (i := 86) (by decide +kernel), List.mem_of_getElem? (i := 87) (by decide +kernel), List.mem_of_getElem? (i := 88) (by decide +kernel), List.mem_of_getElem? (i := 89) (by decide +kernel), fun j hj => by
  match j, hj with
  | 0, _ => exact List.mem_of_getElem? (i := 90) (by decide +kernel)
  | 1, _ => exact List.mem_of_getElem? (i := 91) (by decide +kernel)
  | 2, _ => exact List.mem_of_getElem? (i := 92) (by decide +kernel)
  | j + 3, hj => exact absurd hj (by show ¬ j + 3 < 3; omega)⟩
theorem z_sp2_25 : z_SP 25 := ⟨List.mem_of_getElem? (i := 175) (by decide +kernel), List.mem_of_getElem? (i := 176) (by decide +kernel), List.mem_of_getElem? (i := 177) (by decide +kernel), List.mem_of_getElem? (i := 178) (by decide +kernel), fun j hj => by
  match j, hj with
  | 0, _ => exact List.mem_of_getElem? (i := 179) (by decide +kernel)
  | 1, _ => exact List.mem_of_getElem? (i := 180) (by decide +kernel)
  | 2, _ => exact List.mem_of_getElem? (i := 181) (by decide +kernel)
  | 3, _ => exact List.mem_of_getElem? (i := 182) (by decide +kernel)
  | j + 4, hj => exact absurd hj (by show ¬ j + 4 < 4; omega)⟩
theorem z_sp2_26 : z_SP 26 := ⟨List.mem_of_getElem? (i := 183) (by decide +kernel), List.mem_of_getElem? (i := 184) (by decide +kernel), List.mem_of_getElem? (i := 185) (by decide +kernel), List.mem_of_getElem? (i := 186) (by decide +kernel), fun j hj => by
  match j, hj with
  | 0, _ => exact List.mem_of_getElem? (i := 187) (by decide +kernel)
  | 1, _ => exact List.mem_of_getElem? (i := 188) (by decide +kernel)
  | 2, _ => exact List.mem_of_getElem? (i := 189) (by decide +kernel)
  | 3, _ => exact List.mem_of_getElem? (i := 190) (by decide +kernel)
  | j + 4, hj => exact absurd hj (by show ¬ j + 4 < 4; omega)⟩
theorem z_sp2_27 : z_SP 27 := ⟨List.mem_of_getElem? (i := 9) (by decide +kernel), List.mem_of_getElem? (i := 10) (by decide +kernel), List.mem_of_getElem? (i := 11) (by decide +kernel), List.mem_of_getElem? (i := 12) (by decide +kernel), fun j hj => by
  match j, hj with
  | 0, _ => exact List.mem_of_getElem? (i := 13) (by decide +kernel)
  | 1, _ => exact List.mem_of_getElem? (i := 14) (by decide +kernel)
  | 2, _ => exact List.mem_of_getElem? (i := 15) (by decide +kernel)
  | 3, _ => exact List.mem_of_getElem? (i := 16) (by decide +kernel)
  | 4, _ => exact List.mem_of_getElem? (i := 17) (by decide +kernel)
  | 5, _ => exact List.mem_of_getElem? (i := 18) (by decide +kernel)
  | 6, _ => exact List.mem_of_getElem? (i := 19) (by decide +kernel)
  | j + 7, hj => exact absurd hj (by show ¬ j + 7 < 7; omega)⟩
theorem z_sp2_28 : z_SP 28 := ⟨List.mem_of_getElem? (i := 20) (by decide +kernel), List.mem_of_getElem? (i := 21) (by decide +kernel), List.mem_of_getElem? (i := 22) (by decide +kernel), List.mem_of_getElem? (i := 23) (by decide +kernel), fun j hj => by
  match j, hj with
  | 0, _ => exact List.mem_of_getElem? (i := 24) (by decide +kernel)
  | 1, _ => exact List.mem_of_getElem? (i := 25) (by decide +kernel)
  | 2, _ => exact List.mem_of_getElem? (i := 26) (by decide +kernel)
  | 3, _ => exact List.mem_of_getElem? (i := 27) (by decide +kernel)
  | 4, _ => exact List.mem_of_getElem? (i := 28) (by decide +kernel)
  | 5, _ => exact List.mem_of_getElem? (i := 29) (by decide +kernel)
  | j + 6, hj => exact absurd hj (by show ¬ j + 6 < 6; omega)⟩
theorem z_sp2_29 : z_SP 29 := ⟨List.mem_of_getElem? (i := 30) (by decide +kernel), List.mem_of_getElem? (i := 31) (by decide +kernel), List.mem_of_getElem? (i := 32) (by decide +kernel), List.mem_of_getElem? (i := 33) (by decide +kernel), fun j hj => by
  match j, hj with
  | 0, _ => exact List.mem_of_getElem? (i := 34) (by decide +kernel)
  | 1, _ => exact List.mem_of_getElem? (i := 35) (by decide +kernel)
  | 2, _ => exact List.mem_of_getElem? (i := 36) (by decide +kernel)
  | j + 3, hj => exact absurd hj (by show ¬ j + 3 < 3; omega)⟩
theorem z_sp2_30 : z_SP 30 := ⟨List.mem_of_getElem? (i := 37) (by decide +kernel), List.mem_of_getElem? (i := 38) (by decide +kernel), List.mem_of_getElem? (i := 39) (by decide +kernel), List.mem_of_getElem? (i := 40) (by decide +kernel), fun j hj => by
  match j, hj with
  | 0, _ => exact List.mem_of_getElem? (i := 41) (by decide +kernel)
  | 1, _ => exact List.mem_of_getElem? (i := 42) (by decide +kernel)
  | 2, _ => exact List.mem_of_getElem? (i := 43) (by decide +kernel)
  | 3, _ => exact List.mem_of_getElem? (i := 44) (by decide +kernel)
  | 4, _ => exact List.mem_of_getElem? (i := 45) (by decide +kernel)
  | 5, _ => exact List.mem_of_getElem? (i := 46) (by decide +kernel)
  | j + 6, hj => exact absurd hj (by show ¬ j + 6 < 6; omega)⟩
theorem z_sp2_31 : z_SP 31 := ⟨List.mem_of_getElem? (i := 56) (by decide +kernel), List.mem_of_getElem? (i := 57) (by decide +kernel), List.mem_of_getElem? (i := 58) (by decide +kernel), List.mem_of_getElem? (i := 59) (by decide +kernel), fun j hj => by
  match j, hj with
  | 0, _ => exact List.mem_of_getElem? (i := 60) (by decide +kernel)
  | 1, _ => exact List.mem_of_getElem? (i := 61) (by decide +kernel)
  | j + 2, hj => exact absurd hj (by show ¬ j + 2 < 2; omega)⟩
theorem z_sp2_32 : z_SP 32 := ⟨List.mem_of_getElem? (i := 70) (by decide +kernel), List.mem_of_getElem? (i := 71) (by decide +kernel), List.mem_of_getElem? (i := 72) (by decide +kernel), List.mem_of_getElem? (i := 73) (by decide +kernel), fun j hj => by
  match j, hj with
  | 0, _ => exact List.mem_of_getElem? (i := 74) (by decide +kernel)
  | 1, _ => exact List.mem_of_getElem? (i := 75) (by decide +kernel)
  | 2, _ => exact List.mem_of_getElem? (i := 76) (by decide +kernel)
  | 3, _ => exact List.mem_of_getElem? (i := 77) (by decide +kernel)
  | j + 4, hj => exact absurd hj (by show ¬ j + 4 < 4; omega)⟩
theorem z_sp2_33 : z_SP 33 := ⟨List.mem_of_getElem? (i := 78) (by decide +kernel), List.mem_of_getElem? (i := 79) (by decide +kernel), List.mem_of_getElem? (i := 80) (by decide +kernel), List.mem_of_getElem? (i := 81) (by decide +kernel), fun j hj => by
  match j, hj with
  | 0, _ => exact List.mem_of_getElem? (i := 82) (by decide +kernel)
  | 1, _ => exact List.mem_of_getElem? (i := 83) (by decide +kernel)
  | 2, _ => exact List.mem_of_getElem? (i := 84) (by decide +kernel)
  | 3, _ => exact List.mem_of_getElem? (i := 85) (by decide +kernel)
  | j + 4, hj => exact absurd hj (by show ¬ j + 4 < 4; omega)⟩
theorem z_sp2_34 : z_SP 34 := ⟨List.mem_of_getElem? (i := 93) (by decide +kernel), List.mem_of_getElem? (i := 94) (by decide +kernel), List.mem_of_getElem? (i := 95) (by decide +kernel), List.mem_of_getElem? (i := 96) (by decide +kernel), fun j hj => by
  match j, hj with
  | 0, _ => exact List.mem_of_getElem? (i := 97) (by decide +kernel)
  | 1, _ => exact List.mem_of_getElem? (i := 98) (by decide +kernel)
  | 2, _ => exact List.mem_of_getElem? (i := 99) (by decide +kernel)
  | 3, _ => exact List.mem_of_getElem? (i := 100) (by decide +kernel)
  | 4, _ => exact List.mem_of_getElem? (i := 101) (by decide +kernel)
  | 5, _ => exact List.mem_of_getElem? (i := 102) (by decide +kernel)
  | j + 6, hj => exact absurd hj (by show ¬ j + 6 < 6; omega)⟩
theorem z_sp2_35 : z_SP 35 := ⟨List.mem_of_getElem? (i := 103) (by decide +kernel), List.mem_of_getElem? (i := 104) (by decide +kernel), List.mem_of_getElem? (i := 105) (by decide +kernel), List.mem_of_getElem? (i := 106) (by decide +kernel), fun j hj => by
  match j, hj with
  | 0, _ => exact List.mem_of_getElem? (i := 107) (by decide +kernel)
  | 1, _ => exact List.mem_of_getElem? (i := 108) (by decide +kernel)
  | 2, _ => exact List.mem_of_getElem? (i := 109) (by decide +kernel)
  | 3, _ => exact List.mem_of_getElem? (i := 110) (by decide +kernel)
  | 4, _ => exact List.mem_of_getElem? (i := 111) (by decide +kernel)
  | j + 5, hj => exact absurd hj (by show ¬ j + 5 < 5; omega)⟩
theorem z_sp2_36 : z_SP 36 := ⟨List.mem_of_getElem? (i := 112) (by decide +kernel), List.mem_of_getElem? (i := 113) (by decide +kernel), List.mem_of_getElem? (i := 114) (by decide +kernel), List.mem_of_getElem? (i := 115) (by decide +kernel), fun j hj => by
  match j, hj with
  | 0, _ => exact List.mem_of_getElem? (i := 116) (by decide +kernel)
  | 1, _ => exact List.mem_of_getElem? (i := 117) (by decide +kernel)
  | 2, _ => exact List.mem_of_getElem? (i := 118) (by decide +kernel)
  | 3, _ => exact List.mem_of_getElem? (i := 119) (by decide +kernel)
  | 4, _ => exact List.mem_of_getElem? (i := 120) (by decide +kernel)
  | j + 5, hj => exact absurd hj (by show ¬ j + 5 < 5; omega)⟩
theorem z_sp2_37 : z_SP 37 := ⟨List.mem_of_getElem? (i := 121) (by decide +kernel), List.mem_of_getElem? (i := 122) (by decide +kernel), List.mem_of_getElem? (i := 123) (by decide +kernel), List.mem_of_getElem? (i := 124) (by decide +kernel), fun j hj => by
  match j, hj with
  | 0, _ => exact List.mem_of_getElem? (i := 125) (by decide +kernel)
  | 1, _ => exact List.mem_of_getElem? (i := 126) (by decide +kernel)
  | 2, _ => exact List.mem_of_getElem? (i := 127) (by decide +kernel)
  | 3, _ => exact List.mem_of_getElem? (i := 128) (by decide +kernel)
  | 4, _ => exact List.mem_of_getElem? (i := 129) (by decide +kernel)
  | j + 5, hj => exact absurd hj (by show ¬ j + 5 < 5; omega)⟩
theorem z_sp2_38 : z_SP 38 := ⟨List.mem_of_getElem? (i := 130) (by decide +kernel), List.mem_of_getElem? (i := 131) (by decide +kernel), List.mem_of_getElem? (i := 132) (by decide +kernel), List.mem_of_getElem? (i := 133) (by decide +kernel), fun j hj => by
  match j, hj with
  | 0, _ => exact List.mem_of_getElem? (i := 134) (by decide +kernel)
  | 1, _ => exact List.mem_of_getElem? (i := 135) (by decide +kernel)
  | 2, _ => exact List.mem_of_getElem? (i := 136) (by decide +kernel)
  | 3, _ => exact List.mem_of_getElem? (i := 137) (by decide +kernel)
  | 4, _ => exact List.mem_of_getElem? (i := 138) (by decide +kernel)
  | j + 5, hj => exact absurd hj (by show ¬ j + 5 < 5; omega)⟩
theorem z_sp2_39 : z_SP 39 := ⟨List.mem_of_getElem? (i := 139) (by decide +kernel), List.mem_of_getElem? (i := 140) (by decide +kernel), List.mem_of_getElem? (i := 141) (by decide +kernel), List.mem_of_getElem? (i := 142) (by decide +kernel), fun j hj => by
  match j, hj with
  | 0, _ => exact List.mem_of_getElem? (i := 143) (by decide +kernel)
  | 1, _ => exact List.mem_of_getElem? (i := 144) (by decide +kernel)
  | 2, _ => exact List.mem_of_getElem? (i := 145) (by decide +kernel)
  | 3, _ => exact List.mem_of_getElem? (i := 146) (by decide +kernel)
  | j + 4, hj => exact absurd hj (by show ¬ j + 4 < 4; omega)⟩
theorem z_sp2_40 : z_SP 40 := ⟨List.mem_of_getElem? (i := 147) (by decide +kernel), List.mem_of_getElem? (i := 148) (by decide +kernel), List.mem_of_getElem? (i := 149) (by decide +kernel), List.mem_of_getElem? (i := 150) (by decide +kernel), fun j hj => by
  match j, hj with
  | 0, _ => exact List.mem_of_getElem? (i := 151) (by decide +kernel)
  | 1, _ => exact List.mem_of_getElem? (i := 152) (by decide +kernel)
  | 2, _ => exact List.mem_of_getElem? (i := 153) (by decide +kernel)
  | 3, _ => exact List.mem_of_getElem? (i := 154) (by decide +kernel)
  | 4, _ => exact List.mem_of_getElem? (i := 155) (by decide +kernel)
  | 5, _ => exact List.mem_of_getElem? (i := 156) (by decide +kernel)
  | j + 6, hj => exact absurd hj (by show ¬ j + 6 < 6; omega)⟩
theorem z_sp2_41 : z_SP 41 := ⟨List.mem_of_getElem? (i := 157) (by decide +kernel), List.mem_of_getElem? (i := 158) (by decide +kernel), List.mem_of_getElem? (i := 159) (by decide +kernel), List.mem_of_getElem? (i := 160) (by decide +kernel), fun j hj => by
  match j, hj with
  | 0, _ => exact List.mem_of_getElem? (i := 161) (by decide +kernel)
  | 1, _ => exact List.mem_of_getElem? (i := 162) (by decide +kernel)
  | 2, _ => exact List.mem_of_getElem? (i := 163) (by decide +kernel)
  | 3, _ => exact List.mem_of_getElem? (i := 164) (by decide +kernel)
  | j + 4, hj => exact absurd hj (by show ¬ j + 4 < 4; omega)⟩
theorem z_sp2_42 : z_SP 42 := ⟨List.mem_of_getElem? (i := 165) (by decide +kernel), List.mem_of_getElem? (i := 166) (by decide +kernel), List.mem_of_getElem? (i := 167) (by decide +kernel), List.mem_of_getElem? (i := 168) (by decide +kernel), fun j hj => by
  match j, hj with
  | 0, _ => exact List.mem_of_getElem? (i := 169) (by decide +kernel)
  | 1, _ => exact List.mem_of_getElem? (i := 170) (by decide +kernel)
  | 2, _ => exact List.mem_of_getElem? (i := 171) (by decide +kernel)
  | 3, _ => exact List.mem_of_getElem? (i := 172) (by decide +kernel)
  | 4, _ => exact List.mem_of_getElem? (i := 173) (by decide +kernel)
  | 5, _ => exact List.mem_of_getElem? (i := 174) (by decide +kernel)
  | j + 6, hj => exact absurd hj (by show ¬ j + 6 < 6; omega)⟩
theorem z_sp2 : ∀ k : Nat, 0 < k → k < 43 → z_SP k := by
  intro k h0 h1
  match k, h0, h1 with
  | 1, _, _ => exact z_sp2_1
  | 2, _, _ => exact z_sp2_2
  | 3, _, _ => exact z_sp2_3
  | 4, _, _ => exact z_sp2_4
  | 5, _, _ => exact z_sp2_5
  | 6, _, _ => exact z_sp2_6
  | 7, _, _ => exact z_sp2_7
  | 8, _, _ => exact z_sp2_8
  | 9, _, _ => exact z_sp2_9
  | 10, _, _ => exact z_sp2_10
  | 11, _, _ => exact z_sp2_11
  | 12, _, _ => exact z_sp2_12
  | 13, _, _ => exact z_sp2_13
  | 14, _, _ => exact z_sp2_14
  | 15, _, _ => exact z_sp2_15
  | 16, _, _ => exact z_sp2_16
  | 17, _, _ => exact z_sp2_17
  | 18, _, _ => exact z_sp2_18
  | 19, _, _ => exact z_sp2_19
  | 20, _, _ => exact z_sp2_20
  | 21, _, _ => exact z_sp2_21
  | 22, _, _ => exact z_sp2_22
  | 23, _, _ => exact z_sp2_23
  | 24, _, _ => exact z_sp2_24
  | 25, _, _ => exact z_sp2_25
  | 26, _, _ => exact z_sp2_26
  | 27, _, _ => exact z_sp2_27
  | 28, _, _ => exact z_sp2_28
  | 29, _, _ => exact z_sp2_29
  | 30, _, _ => exact z_sp2_30
  | 31, _, _ => exact z_sp2_31
  | 32, _, _ => exact z_sp2_32
  | 33, _, _ => exact z_sp2_33
  | 34, _, _ => exact z_sp2_34
  | 35, _, _ => exact z_sp2_35
  | 36, _, _ => exact z_sp2_36
  | 37, _, _ => exact z_sp2_37
  | 38, _, _ => exact z_sp2_38
  | 39, _, _ => exact z_sp2_39
  | 40, _, _ => exact z_sp2_40
  | 41, _, _ => exact z_sp2_41
  | 42, _, _ => exact z_sp2_42
  | 0, h0, _ => exact absurd h0 (Nat.lt_irrefl 0)
  | k + 43, _, h1 => omega
theorem z_sp3 : Cond.eq (.static "java/lang/String" "COMPACT_STRINGS" "Z") (.int 1) ∈ z_FC ∧ Cond.isRef (.static "jdk/internal/util/Preconditions" "SIOOBE_FORMATTER" "Ljava/util/function/BiFunction;") ∈ z_FC := ⟨List.mem_of_getElem? (i := 4) (by decide +kernel), List.mem_of_getElem? (i := 5) (by decide +kernel)⟩
theorem z_sp4 : lw_tbl[567]? = some (Cond.laysStatic "java/lang/String" "COMPACT_STRINGS" "Z") ∧ lw_tbl[583]? = some (Cond.laysStatic "jdk/internal/util/Preconditions" "SIOOBE_FORMATTER" "Ljava/util/function/BiFunction;") ∧ lw_tbl[258]? = some (Cond.arrayOver (.object "LongBoats$Harbour")) := by decide +kernel
def z_m0 : zM := (0, fun _ _ => none, fun _ _ => 0, fun _ _ => 0)
