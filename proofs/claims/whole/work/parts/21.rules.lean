/-! PURE RUNS: rules; whole numbers behind the ints -/
abbrev zRs : Type := Option ((Option Value × zM) ⊕ (Nat × zL × List Value × zM))
def z_Rn (o : zO) (cd : List zI) (ip : Nat) (lv : zL) (m : zM) (r : Option Value × zM) : Prop := ∃ n, z_run none o cd n (ip, lv, [], m) = some r
theorem z_ret {o : zO} {cd : List zI} {ip : Nat} {lv : zL} {m : zM} {r : Option Value × zM} (h : z_ex none o cd 4000 (cd.drop ip) ip lv [] m = some (.inl r)) : z_Rn o cd ip lv m r := ⟨1, by simp only [z_run]; rw [h]⟩
theorem z_go {o : zO} {cd : List zI} {ip ip' : Nat} {lv lv' : zL} {m m' : zM} {r : Option Value × zM} (h : z_ex none o cd 4000 (cd.drop ip) ip lv [] m = some (.inr (ip', lv', [], m'))) (k : z_Rn o cd ip' lv' m' r) : z_Rn o cd ip lv m r := by
  obtain ⟨n, hn⟩ := k
  exact ⟨n + 1, by simp only [z_run]; rw [h]; exact hn⟩
theorem z_nI {d k : Nat} {as : List Value} {cd : List zI} {lv : zL} {m : zM} {v : Int32} {dd : zD} (hcd : z_cd k = cd) (hk : k < z_nm) (hl : (z_lo as).length ≤ z_ml k) (hlv : z_lvi (z_ml k) as = lv) (h : z_Rn (z_F d) cd 0 lv m (some (.int v), (m.1, m.2.1, dd))) : (z_F (d + 1)).1 k as m = some (v, dd) := by
  subst hcd; subst hlv
  exact z_FI ⟨hk, hl, h⟩
theorem z_nJ {d k : Nat} {as : List Value} {cd : List zI} {lv : zL} {m : zM} {v : Int64} {dd : zD} (hcd : z_cd k = cd) (hk : k < z_nm) (hl : (z_lo as).length ≤ z_ml k) (hlv : z_lvi (z_ml k) as = lv) (h : z_Rn (z_F d) cd 0 lv m (some (.long v), (m.1, m.2.1, dd))) : (z_F (d + 1)).2.1 k as m = some (v, dd) := by
  subst hcd; subst hlv
  exact z_FJ ⟨hk, hl, h⟩
theorem z_nV {d k : Nat} {as : List Value} {cd : List zI} {lv : zL} {m : zM} {dd : zD} (hcd : z_cd k = cd) (hk : k < z_nm) (hl : (z_lo as).length ≤ z_ml k) (hlv : z_lvi (z_ml k) as = lv) (h : z_Rn (z_F d) cd 0 lv m (none, (m.1, m.2.1, dd))) : (z_F (d + 1)).2.2.1 k as m = some dd := by
  subst hcd; subst hlv
  exact z_FV ⟨hk, hl, h⟩
/-- ints as whole numbers -/
def jM (w : Nat → Nat → Int) : Nat → Nat → Int32 := fun c j => Int32.ofInt (w c j)
def jL (u : Nat → Nat → Int) : Nat → Nat → Int64 := fun c j => Int64.ofInt (u c j)
theorem jM_u (w : Nat → Nat → Int) (k j : Nat) (v : Int) : z_u (jM w) k j (Int32.ofInt v) = jM (z_u w k j v) := by
  funext a b
  simp only [z_u, jM]
  split
  · split <;> rfl
  · rfl
theorem jL_u (w : Nat → Nat → Int) (k j : Nat) (v : Int) : z_u (jL w) k j (Int64.ofInt v) = jL (z_u w k j v) := by
  funext a b
  simp only [z_u, jL]
  split
  · split <;> rfl
  · rfl
theorem ji_add (a b : Int) : Int32.ofInt a + Int32.ofInt b = Int32.ofInt (a + b) := (Int32.ofInt_add _ _).symm
theorem ji_sub (a b : Int) : Int32.ofInt a - Int32.ofInt b = Int32.ofInt (a - b) := (Int32.ofInt_sub _ _).symm
theorem ji_mul (a b : Int) : Int32.ofInt a * Int32.ofInt b = Int32.ofInt (a * b) := (Int32.ofInt_mul _ _).symm
theorem ji_neg (a : Int) : -Int32.ofInt a = Int32.ofInt (-a) := Int32.neg_ofInt
abbrev jR (a : Int) : Prop := -2147483648 ≤ a ∧ a < 2147483648
theorem ji_toInt {a : Int} (h : jR a) : (Int32.ofInt a).toInt = a := Int32.toInt_ofInt_of_le h.1 h.2
theorem ji_lt {a b : Int} (ha : jR a) (hb : jR b) : Int32.ofInt a < Int32.ofInt b ↔ a < b := by rw [Int32.lt_iff_toInt_lt, ji_toInt ha, ji_toInt hb]
theorem ji_le {a b : Int} (ha : jR a) (hb : jR b) : Int32.ofInt a ≤ Int32.ofInt b ↔ a ≤ b := by rw [Int32.le_iff_toInt_le, ji_toInt ha, ji_toInt hb]
theorem ji_eq {a b : Int} (ha : jR a) (hb : jR b) : Int32.ofInt a = Int32.ofInt b ↔ a = b := by rw [← Int32.toInt_inj, ji_toInt ha, ji_toInt hb]
theorem ji_lt0 {a : Int} (ha : jR a) : Int32.ofInt a < 0 ↔ a < 0 := ji_lt ha (b := 0) ⟨by decide, by decide⟩
theorem ji_le0 {a : Int} (ha : jR a) : Int32.ofInt a ≤ 0 ↔ a ≤ 0 := ji_le ha (b := 0) ⟨by decide, by decide⟩
theorem ji_0lt {a : Int} (ha : jR a) : 0 < Int32.ofInt a ↔ 0 < a := ji_lt (a := 0) ⟨by decide, by decide⟩ ha
theorem ji_0le {a : Int} (ha : jR a) : 0 ≤ Int32.ofInt a ↔ 0 ≤ a := ji_le (a := 0) ⟨by decide, by decide⟩ ha
theorem ji_eq0 {a : Int} (ha : jR a) : Int32.ofInt a = 0 ↔ a = 0 := ji_eq ha (b := 0) ⟨by decide, by decide⟩
theorem ji_eq1 {a : Int} (ha : jR a) : Int32.ofInt a = 1 ↔ a = 1 := ji_eq ha (b := 1) ⟨by decide, by decide⟩
theorem ji_nat {a : Int} (h : jR a) : (Int32.ofInt a).toNatClampNeg = a.toNat := Int32.toNatClampNeg_ofInt_of_le h.1 h.2
theorem ji_of (x : Int32) : ∃ a : Int, jR a ∧ x = Int32.ofInt a := ⟨x.toInt, ⟨x.le_toInt, x.toInt_lt⟩, (Int32.ofInt_toInt x).symm⟩
theorem ji_div {a b : Int} (ha : jR a) (hb : 0 < b) (hb2 : b < 2147483648) : Int32.ofInt a / Int32.ofInt b = Int32.ofInt (a.tdiv b) := by
  apply Int32.toInt.inj
  rw [Int32.toInt_div, ji_toInt ha, ji_toInt ⟨by omega, hb2⟩, Int32.toInt_ofInt]
