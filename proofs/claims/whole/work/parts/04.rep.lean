/-! HOW A PURE WORLD LIES IN THE HEAP: cell k at the address ad k, its array class ac k; strings (and the script, number 0) at sa. -/
def z_sz (k : Nat) : Nat := match z_tk k with
  | 0 => z_nf (z_tn k)
  | _ => z_tn k
def z_sl : Nat → Nat
  | 0 => 0
  | n + 1 => z_sl n + z_sz n
def z_tr (ad sa : Nat → Nat) (v : Value) : Value := match v with
  | .ref k => .ref (if k < z_sb then ad k else sa (k - z_sb))
  | v => v
def z_fv (ad : Nat → Nat) (m : zM) (k kd f : Nat) : Value := match kd with
  | 1 => .long (m.2.2.2 k f)
  | 2 => va_rf ((m.2.1 k f).map ad)
  | _ => .int (m.2.2.1 k f)
def z_fs (ad : Nat → Nat) (m : zM) (k ci : Nat) : List Value := (List.range (z_nf ci)).map (fun f => z_fv ad m k (z_fk ci f) f)
def z_cell (ad : Nat → Nat) (ac : Nat → ClassId) (m : zM) (k : Nat) : va_E := match z_tk k with
  | 0 => .inr (z_tn k, z_fs ad m k (z_tn k))
  | 4 => .inl (ac k, z_tn k, .inr (.inl (m.2.2.2 k)))
  | 5 => .inl (ac k, z_tn k, .inr (.inr (.inr (.inr (fun j => (m.2.1 k j).map ad)))))
  | _ => .inl (ac k, z_tn k, .inl (m.2.2.1 k))
def z_ws (ad : Nat → Nat) (ac : Nat → ClassId) (m : zM) : va_W := (List.range m.1).map (fun k => (ad k, z_cell ad ac m k))
theorem z_ws_at {ad : Nat → Nat} {ac : Nat → ClassId} {m : zM} {k : Nat} (h : k < m.1) : (z_ws ad ac m)[k]? = some (ad k, z_cell ad ac m k) := by
  simp [z_ws, h]
theorem z_ws_len {ad : Nat → Nat} {ac : Nat → ClassId} {m : zM} : (z_ws ad ac m).length = m.1 := by simp [z_ws]
theorem z_ws_set {ad : Nat → Nat} {ac : Nat → ClassId} {m m' : zM} {k : Nat} {e : va_E} (h1 : m'.1 = m.1) (he : z_cell ad ac m' k = e) (hj : ∀ j, j ≠ k → z_cell ad ac m' j = z_cell ad ac m j) : (z_ws ad ac m).set k (ad k, e) = z_ws ad ac m' := by
  apply List.ext_getElem?
  intro j
  rw [List.getElem?_set]
  by_cases hkj : k = j
  · subst hkj
    by_cases hl : k < m.1
    · rw [if_pos rfl, if_pos (by rw [z_ws_len]; exact hl), z_ws_at (by rw [h1]; exact hl), he]
    · rw [if_pos rfl, if_neg (by rw [z_ws_len]; exact hl)]
      rw [List.getElem?_eq_none (by rw [z_ws_len, h1]; omega)]
  · rw [if_neg hkj]
    by_cases hl : j < m.1
    · rw [z_ws_at hl, z_ws_at (by rw [h1]; exact hl), hj j (fun q => hkj q.symm)]
    · rw [List.getElem?_eq_none (by rw [z_ws_len]; omega), List.getElem?_eq_none (by rw [z_ws_len, h1]; omega)]
def z_aty (k : Nat) : Option FieldType := match k with
  | 1 => some .int
  | 2 => some .byte
  | 3 => some .boolean
  | 4 => some .long
  | 5 => some (.object "LongBoats$Harbour")
  | _ => none
/-- refs go to cells that there are; what isn't made yet is blank; no more cells than the tables have -/
def z_wf (m : zM) : Prop := (∀ k f j, m.2.1 k f = some j → j < m.1) ∧ (∀ k, m.1 ≤ k → ∀ f, m.2.1 k f = none ∧ m.2.2.1 k f = 0 ∧ m.2.2.2 k f = 0) ∧ m.1 ≤ 200
def z_okv (n : Nat) (v : Value) : Prop := match v with
  | .ref k => k < n ∨ (z_sb ≤ k ∧ k < z_sb + 43)
  | _ => True
/-- the locals -/
def z_lv (ad sa : Nat → Nat) (nL : Nat) (ls : Array Slot) (lv : zL) : Prop := ls.size = nL ∧ lv_wf ls ∧ lv.length = nL ∧ ∀ k v, z_at lv k = some v → ls[k]? = some (.val (z_tr ad sa v))
def z_St (D : va_G) (A : Nat → Prop) (s : State) (ad0 : Nat → Nat) (n0 : Nat) (m : zM) (ad : Nat → Nat) (ac : Nat → ClassId) (tys : List (ClassId × FieldType)) (H : Heap) (locs : List Loc) : Prop :=
  va_K D zC tys s ∧ va_P D zC (z_ws ad ac m) H ∧ va_D A (z_ws ad ac m) ∧ va_S A s.heap H locs ∧ (∀ k ty, k < m.1 → z_aty (z_tk k) = some ty → (ac k, ty) ∈ tys) ∧ z_wf m ∧ n0 ≤ m.1 ∧ ∀ k, k < n0 → ad k = ad0 k
def z_G (p : Program) (l : Launch) (e : Env) (R : Room) (s : State) (mt : MethodId) (args : Array Value) (below : List Frame) (meth : Method) (c : Code) (Q : State → Prop) (D : va_G) (A : Nat → Prop) (sa ad0 : Nat → Nat) (n0 nf nL : Nat) (pcs : Nat → Nat) (ip : Nat) (lv : zL) (st : List Value) (m : zM) : Prop :=
  m.1 ≤ nf ∧ ∀ (ad : Nat → Nat) (ac : Nat → ClassId) (tys : List (ClassId × FieldType)) (H : Heap) (locs : List Loc) (ls : Array Slot), z_St D A s ad0 n0 m ad ac tys H locs → z_lv ad sa nL ls lv → (∀ v ∈ st, z_okv m.1 v) → (∀ k v, z_at lv k = some v → z_okv m.1 v) →
    W p l e R s mt args below meth c H locs (m.1 - n0) (z_sl m.1 - z_sl n0) Q (F0 mt (pcs ip) ls (st.map (z_tr ad sa)))
theorem z_at_eq (lv : zL) (k : Nat) : z_at lv k = (lv[k]?).join := by
  induction lv generalizing k with
  | nil => simp [z_at]
  | cons x t ih => cases k with
    | zero => simp [z_at]
    | succ k => simp [z_at, ih]
theorem z_at_set (lv : zL) (i k : Nat) (x : Option Value) : z_at (lv.set i x) k = if i = k ∧ i < lv.length then x else z_at lv k := by
  rw [z_at_eq, z_at_eq, List.getElem?_set]
  by_cases h : i = k
  · subst h
    by_cases h2 : i < lv.length
    · simp [h2]
    · simp [h2, List.getElem?_eq_none (Nat.le_of_not_lt h2)]
  · simp [h]
theorem z_kill_len (lv : zL) (k : Nat) : (z_kill lv k).length = lv.length := by
  cases k with
  | zero => rfl
  | succ k => simp only [z_kill]; cases z_isL (z_at lv k) <;> simp
theorem z_kill_at (lv : zL) (i k : Nat) (v : Value) (h : z_at (z_kill lv i) k = some v) : z_at lv k = some v ∧ ¬ (k + 1 = i ∧ v.category = 2) := by
  cases i with
  | zero => exact ⟨h, fun q => by omega⟩
  | succ i =>
    simp only [z_kill] at h
    cases hl : z_isL (z_at lv i) with
    | false =>
      rw [hl] at h
      refine ⟨h, fun q => ?_⟩
      have : k = i := by omega
      subst this
      rw [show z_at lv k = some v from h] at hl
      exact absurd q.2 (by cases v <;> simp_all [z_isL, Value.category])
    | true =>
      rw [hl] at h
      simp only [cond_true] at h
      rw [z_at_set] at h
      by_cases q : i = k ∧ i < lv.length
      · rw [if_pos q] at h; cases h
      · rw [if_neg q] at h
        refine ⟨h, fun w => ?_⟩
        have e : k = i := by omega
        subst e
        rw [z_at_eq] at h
        have : k < lv.length := by
          rcases Nat.lt_or_ge k lv.length with g | g
          · exact g
          · rw [List.getElem?_eq_none g] at h; cases h
        exact q ⟨rfl, this⟩
