/-! the classes' words; fields and arrays; new cells -/
def z_ins (ps : List Nat) (ws : List Cond) : Bool := decide (ws.length ≤ ps.length) && (List.zip ps ws).all (fun q => z_at1 q.1 q.2)
theorem z_ins_mem : ∀ {ps : List Nat} {ws : List Cond}, z_ins ps ws = true → ∀ w ∈ ws, w ∈ z_tb
  | _, [], _ => fun w h => absurd h List.not_mem_nil
  | [], _ :: _, h => by simp [z_ins] at h
  | a :: ps, w0 :: ws, h => by
    simp only [z_ins, List.length_cons, List.zip_cons_cons, List.all_cons, Bool.and_eq_true, decide_eq_true_eq] at h
    intro w hw
    rcases List.mem_cons.mp hw with rfl | q
    · exact z_word h.2.1
    · exact z_ins_mem (ps := ps) (ws := ws) (by simp only [z_ins, Bool.and_eq_true, decide_eq_true_eq]; exact ⟨by omega, h.2.2⟩) w q
def z_kty (kd : Nat) (t : FieldType) : Bool := match kd, t with
  | 0, .int => true
  | 1, .long => true
  | 2, .object _ => true
  | 2, .array _ => true
  | 3, .boolean => true
  | _, _ => false
/-- what is known of a class of the worlds -/
def z_CK (ci : Nat) (r : vw_C) : Prop := (∀ w ∈ u_ws r.1 r.2.1 r.2.2, w ∈ z_tb) ∧ (∃ ty0 : Nat → FieldType, (∀ k, k < r.2.2 → parseFieldDescriptor (r.2.1 k).2.2.1 = some (ty0 k)) ∧ ∀ k, k < r.2.2 → z_kty (z_fk ci k) (ty0 k) = true) ∧ (∀ a, a < r.2.2 → ∀ b, b < r.2.2 → a ≠ b → (r.2.1 a).2.1 ≠ (r.2.1 b).2.1) ∧
  Cond.instantiable r.1 r.2.2 ∈ z_tb ∧ Cond.initialized r.1 ∈ z_tb ∧ r.2.2 = z_nf ci
theorem z_ck0 : z_CK 0 (zR0, zT0, 12) := ⟨z_ins_mem (ps := [414, 416, 418, 420, 422, 424, 426, 428, 430, 432, 434, 436]) (by decide +kernel), ⟨zY0, by decide +kernel, by decide +kernel⟩, by decide +kernel, z_word (q := 392) (by decide +kernel), z_word (q := 114) (by decide +kernel), by decide +kernel⟩
theorem z_ck1 : z_CK 1 (zR1, zT1, 1) := ⟨z_ins_mem (ps := [326]) (by decide +kernel), ⟨zY1, by decide +kernel, by decide +kernel⟩, by decide +kernel, z_word (q := 320) (by decide +kernel), z_word (q := 113) (by decide +kernel), by decide +kernel⟩
theorem z_ck2 : z_CK 2 (zR2, zT2, 15) := ⟨z_ins_mem (ps := [360, 362, 364, 366, 368, 370, 372, 374, 376, 378, 380, 382, 384, 386, 388]) (by decide +kernel), ⟨zY2, by decide +kernel, by decide +kernel⟩, by decide +kernel, z_word (q := 283) (by decide +kernel), z_word (q := 111) (by decide +kernel), by decide +kernel⟩
theorem z_ck3 : z_CK 3 (zR3, zT3, 6) := ⟨z_ins_mem (ps := [304, 306, 308, 310, 312, 314]) (by decide +kernel), ⟨zY3, by decide +kernel, by decide +kernel⟩, by decide +kernel, z_word (q := 289) (by decide +kernel), z_word (q := 112) (by decide +kernel), by decide +kernel⟩
theorem z_ck4 : z_CK 4 (zR4, zT4, 1) := ⟨z_ins_mem (ps := [448]) (by decide +kernel), ⟨zY4, by decide +kernel, by decide +kernel⟩, by decide +kernel, z_word (q := 440) (by decide +kernel), z_word (q := 115) (by decide +kernel), by decide +kernel⟩
theorem z_ck5 : z_CK 5 (zR5, zT5, 13) := ⟨z_ins_mem (ps := [198, 200, 202, 204, 206, 208, 210, 212, 214, 216, 218, 220, 222]) (by decide +kernel), ⟨zY5, by decide +kernel, by decide +kernel⟩, by decide +kernel, z_word (q := 145) (by decide +kernel), z_word (q := 107) (by decide +kernel), by decide +kernel⟩
theorem z_ck6 : z_CK 6 (zR6, zT6, 8) := ⟨z_ins_mem (ps := [241, 243, 245, 247, 249, 251, 253, 255]) (by decide +kernel), ⟨zY6, by decide +kernel, by decide +kernel⟩, by decide +kernel, z_word (q := 226) (by decide +kernel), z_word (q := 109) (by decide +kernel), by decide +kernel⟩
theorem z_ck7 : z_CK 7 (zR7, zT7, 1) := ⟨z_ins_mem (ps := [157]) (by decide +kernel), ⟨zY7, by decide +kernel, by decide +kernel⟩, by decide +kernel, z_word (q := 151) (by decide +kernel), z_word (q := 108) (by decide +kernel), by decide +kernel⟩
theorem z_ck8 : z_CK 8 (zR8, zT8, 3) := ⟨z_ins_mem (ps := [274, 276, 278]) (by decide +kernel), ⟨zY8, by decide +kernel, by decide +kernel⟩, by decide +kernel, z_word (q := 260) (by decide +kernel), z_word (q := 110) (by decide +kernel), by decide +kernel⟩
theorem z_ck9 : z_CK 9 (zR9, zT9, 2) := ⟨z_ins_mem (ps := [138, 140]) (by decide +kernel), ⟨zY9, by decide +kernel, by decide +kernel⟩, by decide +kernel, z_word (q := 131) (by decide +kernel), z_word (q := 106) (by decide +kernel), by decide +kernel⟩
theorem z_ck10 : z_CK 10 (zR10, zT10, 9) := ⟨z_ins_mem (ps := [460, 462, 464, 466, 468, 470, 472, 474, 476]) (by decide +kernel), ⟨zY10, by decide +kernel, by decide +kernel⟩, by decide +kernel, z_word (q := 123) (by decide +kernel), z_word (q := 105) (by decide +kernel), by decide +kernel⟩
theorem z_ck11 : z_CK 11 (zR11, zT11, 39) := ⟨z_ins_mem (ps := [1393, 1395, 1397, 1399, 1401, 1403, 1405, 1407, 1409, 1411, 1413, 1415, 1417, 1419, 1421, 1423, 1425, 1427, 1429, 1431, 1433, 1435, 1437, 1439, 1441, 1443, 1445, 1447, 1449, 1451, 1453, 1455, 1457, 1459, 1461, 1463, 1465, 1467, 1469]) (by decide +kernel), ⟨zY11, by decide +kernel, by decide +kernel⟩, by decide +kernel, z_word (q := 1350) (by decide +kernel), z_word (q := 116) (by decide +kernel), by decide +kernel⟩
theorem z_ck : ∀ (ci : Nat) (r : vw_C), zC[ci]? = some r → z_CK ci r := by
  intro ci r h
  match ci, h with
  | 0, h => cases h; exact z_ck0
  | 1, h => cases h; exact z_ck1
  | 2, h => cases h; exact z_ck2
  | 3, h => cases h; exact z_ck3
  | 4, h => cases h; exact z_ck4
  | 5, h => cases h; exact z_ck5
  | 6, h => cases h; exact z_ck6
  | 7, h => cases h; exact z_ck7
  | 8, h => cases h; exact z_ck8
  | 9, h => cases h; exact z_ck9
  | 10, h => cases h; exact z_ck10
  | 11, h => cases h; exact z_ck11
  | k + 12, h => simp [zC] at h
theorem z_tks_len : z_tks.length ≤ 200 := by decide +kernel
theorem z_tk_lt {k : Nat} (h : z_tk k ≠ 9) : k < 200 := by
  rcases Nat.lt_or_ge k z_tks.length with g | g
  · exact Nat.lt_of_lt_of_le g z_tks_len
  · exact absurd (by simp [z_tk, g]) h
theorem z_k_lt {n k : Nat} (h : z_okv n (.ref k)) (ht : z_tk k ≠ 9) : k < n := by
  rcases h with h | h
  · exact h
  · have := z_tk_lt ht
    have h2 : z_sb = 1000000 := rfl
    omega
theorem z_tr_ref {ad sa : Nat → Nat} {k : Nat} (h : k < 200) : z_tr ad sa (.ref k) = .ref (ad k) := by
  have h2 : z_sb = 1000000 := rfl
  have h3 : k < z_sb := by omega
  simp only [z_tr]
  rw [if_pos h3]
theorem z_tr_rv {ad sa : Nat → Nat} {m : zM} (hw : z_wf m) (k f : Nat) : z_tr ad sa (z_rv (m.2.1 k f)) = va_rf ((m.2.1 k f).map ad) := by
  cases h : m.2.1 k f with
  | none => rfl
  | some j =>
    have := hw.1 k f j h
    have h3 := hw.2.2
    exact z_tr_ref (by omega)
theorem z_ok_rv {m : zM} (hw : z_wf m) (k f : Nat) : z_okv m.1 (z_rv (m.2.1 k f)) := by
  cases h : m.2.1 k f with
  | none => simp [z_rv, z_okv]
  | some j => exact Or.inl (hw.1 k f j h)
theorem z_cell_o {ad : Nat → Nat} {ac : Nat → ClassId} {m : zM} {k ci : Nat} (h : z_tk k = 0) (hc : z_tn k = ci) : z_cell ad ac m k = .inr (ci, z_fs ad m k ci) := by
  simp only [z_cell, h, hc]
theorem z_fs_at {ad : Nat → Nat} {m : zM} {k ci f : Nat} (h : f < z_nf ci) : (z_fs ad m k ci)[f]? = some (z_fv ad m k (z_fk ci f) f) := by
  simp [z_fs, h]
theorem z_fs_len {ad : Nat → Nat} {m : zM} {k ci : Nat} : (z_fs ad m k ci).length = z_nf ci := by simp [z_fs]
theorem z_fs_set {ad : Nat → Nat} {m m' : zM} {k ci f : Nat} {v : Value} (hv : z_fv ad m' k (z_fk ci f) f = v) (ho : ∀ j, j ≠ f → z_fv ad m' k (z_fk ci j) j = z_fv ad m k (z_fk ci j) j) : (z_fs ad m k ci).set f v = z_fs ad m' k ci := by
  apply List.ext_getElem?
  intro j
  rw [List.getElem?_set]
  by_cases hj : f = j
  · subst hj
    by_cases hl : f < z_nf ci
    · rw [if_pos rfl, if_pos (by rw [z_fs_len]; exact hl), z_fs_at hl, hv]
    · rw [if_pos rfl, if_neg (by rw [z_fs_len]; exact hl), List.getElem?_eq_none (by rw [z_fs_len]; omega)]
  · rw [if_neg hj]
    by_cases hl : j < z_nf ci
    · rw [z_fs_at hl, z_fs_at hl, ho j (fun q => hj q.symm)]
    · rw [List.getElem?_eq_none (by rw [z_fs_len]; omega), List.getElem?_eq_none (by rw [z_fs_len]; omega)]
theorem z_fld_spec {own : String} {i pl q : Nat} (h : z_fld own i pl q = true) : ∃ r : vw_C, zC[q / 4096]? = some r ∧ q / 4 % 1024 < r.2.2 ∧ r.2.2 = z_nf (q / 4096) ∧ Cond.fieldLink own i (r.2.1 (q / 4 % 1024)).1 (r.2.1 (q / 4 % 1024)).2.1 (r.2.1 (q / 4 % 1024)).2.2.1 ∈ z_tb := by
  simp only [z_fld] at h
  cases hc : zC[q / 4096]? with
  | none => rw [hc] at h; cases h
  | some r =>
    rw [hc] at h
    simp only [Bool.and_eq_true, decide_eq_true_eq] at h
    exact ⟨r, rfl, h.1.1, h.1.2, z_word h.2⟩
section ZS

variable {p : Program} {l : Launch} {e : Env} {R : Room} {s : State} {mt : MethodId} {args : Array Value} {below : List Frame} {meth : Method} {c : Code} {Q : State → Prop} {D : va_G} {A : Nat → Prop} {sa sv ad0 : Nat → Nat} {n0 nf nL : Nat} {cd : List zI} {own : String} {cc : ByteArray} {ini : Bool} {rt : Option FieldType}

theorem zs_getf (C : z_Cx p s mt args meth c own cc nL ini rt) {ip i pl q k : Nat} {lv : zL} {r : List Value} {m : zM} {v : Value} (hd : decode cc (z_pc cd ip) = .ok (.getfield i, 3)) (hn : z_pc cd (ip + 1) = z_pc cd ip + 3) (hf : z_fld own i pl q = true) (ht : z_tk k = 0) (hc : z_tn k = q / 4096)
    (hv : ∀ ad, z_wf m → z_tr ad sa v = z_fv ad m k (z_fk (q / 4096) (q / 4 % 1024)) (q / 4 % 1024)) (hkv : z_wf m → z_okv m.1 v) (h : z_G p l e R s mt args below meth c Q D A sa ad0 n0 nf nL (z_pc cd) (ip + 1) lv (v :: r) m) : z_G p l e R s mt args below meth c Q D A sa ad0 n0 nf nL (z_pc cd) ip lv (.ref k :: r) m := by
  refine ⟨h.1, fun ad ac tys H locs ls hSt hl ho hvv => ?_⟩
  obtain ⟨hK, hP, hD, hS, hty, hw, hn0, had⟩ := id hSt
  have hk : k < m.1 := z_k_lt (ho _ List.mem_cons_self) (by rw [ht]; decide)
  have h2 := h.2 ad ac tys H locs ls hSt hl (fun w hw2 => by
    rcases List.mem_cons.mp hw2 with rfl | g
    · exact hkv hw
    · exact ho w (List.mem_cons_of_mem _ g)) hvv
  rw [hn] at h2
  obtain ⟨cr, hcr, hlt, hN, hwd⟩ := z_fld_spec hf
  obtain ⟨c1, ⟨ty0, c2, c3⟩, c4, c5, c6, c7⟩ := z_ck _ _ hcr
  have h200 : k < 200 := Nat.lt_of_lt_of_le hk hw.2.2
  show W p l e R s mt args below meth c H locs _ _ Q (F0 mt _ ls (z_tr ad sa (.ref k) :: r.map (z_tr ad sa)))
  rw [z_tr_ref h200]
  refine va_get (D := D) (ci := q / 4096) (C := cr.1) (T := cr.2.1) (N := cr.2.2) C.1 C.2.1 C.2.2.2.2.2.1 c1 C.2.2.2.2.1 hK hP k ((z_ws_at hk).trans (by rw [z_cell_o ht hc])) hcr (q / 4 % 1024) hlt (C.2.2.2.2.2.1 _ hwd) (fun _ h9 => h9) (z_fs_at (by rw [← hN]; exact hlt)) hd ?_
  rw [← hv ad hw]
  exact h2
theorem zs_putf (C : z_Cx p s mt args meth c own cc nL ini rt) {ip i pl q k : Nat} {lv : zL} {r : List Value} {m m' : zM} {v : Value} {ty : FieldType} (hd : decode cc (z_pc cd ip) = .ok (.putfield i, 3)) (hn : z_pc cd (ip + 1) = z_pc cd ip + 3) (hf : z_fld own i pl q = true) (hfin : z_fin own ini q = true) (ht : z_tk k = 0) (hc : z_tn k = q / 4096) (hty9 : z_fty q = some ty)
    (hna : ∀ ad, narrow ty (z_tr ad sa v) = z_tr ad sa v) (hfi : ∀ ad, fits ty (z_tr ad sa v) = true) (hm : m'.1 = m.1) (hfs : ∀ ad, z_okv m.1 v → z_wf m → (z_fs ad m k (q / 4096)).set (q / 4 % 1024) (z_tr ad sa v) = z_fs ad m' k (q / 4096)) (hoth : ∀ ad ac j, j ≠ k → z_cell ad ac m' j = z_cell ad ac m j) (hwf : z_okv m.1 v → k < m.1 → z_wf m → z_wf m')
    (h : z_G p l e R s mt args below meth c Q D A sa ad0 n0 nf nL (z_pc cd) (ip + 1) lv r m') : z_G p l e R s mt args below meth c Q D A sa ad0 n0 nf nL (z_pc cd) ip lv (v :: .ref k :: r) m := by
  refine ⟨by rw [← hm]; exact h.1, fun ad ac tys H locs ls hSt hl ho hvv => ?_⟩
  obtain ⟨hK, hP, hD, hS, hty, hw, hn0, had⟩ := id hSt
  have hov : z_okv m.1 v := ho _ List.mem_cons_self
  have hk : k < m.1 := z_k_lt (ho _ (List.mem_cons_of_mem _ List.mem_cons_self)) (by rw [ht]; decide)
  have h200 : k < 200 := Nat.lt_of_lt_of_le hk hw.2.2
  obtain ⟨cr, hcr, hlt, hN, hwd⟩ := z_fld_spec hf
  obtain ⟨c1, ⟨ty0, c2, c3⟩, c4, c5, c6, c7⟩ := z_ck _ _ hcr
  have hpd : parseFieldDescriptor (cr.2.1 (q / 4 % 1024)).2.2.1 = some ty := by
    simp only [z_fty, hcr] at hty9
    exact hty9
  have fin : ∀ (H1 : Heap) (locs1 : List Loc), va_P D zC ((z_ws ad ac m).set k (ad k, .inr (q / 4096, (z_fs ad m k (q / 4096)).set (q / 4 % 1024) (z_tr ad sa v)))) H1 → va_D A ((z_ws ad ac m).set k (ad k, .inr (q / 4096, (z_fs ad m k (q / 4096)).set (q / 4 % 1024) (z_tr ad sa v)))) → va_S A s.heap H1 locs1 → W p l e R s mt args below meth c H1 locs1 (m.1 - n0) (z_sl m.1 - z_sl n0) Q (F0 mt (z_pc cd ip + 3) ls (r.map (z_tr ad sa))) := by
    intro H1 locs1 p1 d1 s1
    rw [hfs ad hov hw, z_ws_set hm (z_cell_o ht hc) (hoth ad ac)] at p1 d1
    have h2 := h.2 ad ac tys H1 locs1 ls ⟨hK, p1, d1, s1, by rw [hm]; exact hty, hwf hov hk hw, by rw [hm]; exact hn0, had⟩ hl (fun w g => by rw [hm]; exact ho w (List.mem_cons_of_mem _ (List.mem_cons_of_mem _ g))) (by rw [hm]; exact hvv)
    rw [hn, hm] at h2
    exact h2
  show W p l e R s mt args below meth c H locs _ _ Q (F0 mt _ ls (z_tr ad sa v :: z_tr ad sa (.ref k) :: r.map (z_tr ad sa)))
  rw [z_tr_ref h200]
  simp only [z_fin, hcr, Bool.or_eq_true, Bool.not_eq_true', Bool.and_eq_true, decide_eq_true_eq] at hfin
  rcases hfin with hf0 | ⟨hf1, hf2⟩
  · exact va_put (D := D) (ci := q / 4096) (C := cr.1) (T := cr.2.1) (N := cr.2.2) C.1 C.2.1 C.2.2.2.2.2.1 c1 ty0 c2 c4 C.2.2.2.2.1 hK hP hD hS k ((z_ws_at hk).trans (by rw [z_cell_o ht hc])) hcr (q / 4 % 1024) hlt (C.2.2.2.2.2.1 _ hwd) (fun _ h9 => h9) hf0 hpd (hna ad) (hfi ad) (by rw [z_fs_len, ← hN]; exact hlt) hd fin
  · cases hfl : (cr.2.1 (q / 4 % 1024)).2.2.2 with
    | false => exact va_put (D := D) (ci := q / 4096) (C := cr.1) (T := cr.2.1) (N := cr.2.2) C.1 C.2.1 C.2.2.2.2.2.1 c1 ty0 c2 c4 C.2.2.2.2.1 hK hP hD hS k ((z_ws_at hk).trans (by rw [z_cell_o ht hc])) hcr (q / 4 % 1024) hlt (C.2.2.2.2.2.1 _ hwd) (fun _ h9 => h9) hfl hpd (hna ad) (hfi ad) (by rw [z_fs_len, ← hN]; exact hlt) hd fin
    | true => exact va_putF (D := D) (ci := q / 4096) (C := cr.1) (T := cr.2.1) (N := cr.2.2) C.1 C.2.1 C.2.2.2.2.2.1 c1 ty0 c2 c4 C.2.2.2.2.1 hK hP hD hS k ((z_ws_at hk).trans (by rw [z_cell_o ht hc])) hcr (q / 4 % 1024) hlt (C.2.2.2.2.2.1 _ hwd) (fun _ h9 => h9) hfl (C.2.2.2.2.2.2.2 hf1) hf2 hpd (hna ad) (hfi ad) (by rw [z_fs_len, ← hN]; exact hlt) hd fin
end ZS
