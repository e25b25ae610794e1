/-! THE MEANING, in whole numbers: t, f are the six traits of two men (weight, skill, quick, tires, leans, aims) -/
def a_mx (a : Int) : Int := if 0 < a then a else 0
def a_fo (t : Nat → Int) (sp p : Int) : Int := a_mx (t 2 + sp + t 4 + (if t 5 = 0 then 4 else if t 5 = 1 then 2 else 0) - t 3 * p)
def a_ab (a : Int) : Int := if 0 ≤ a then a else -a
def a_st (t : Nat → Int) (fa sp p : Int) : Int := a_mx (t 1 + t 0 / 10 - sp / 2 - t 3 * p / 2 - 2 * a_ab (t 4 - 2) - (if fa = 1 then 3 else 0))
def a_kd (lo hi g : Int) : Int := if g < lo then 0 else if hi < g then 2 else 1
def a_ft (k : Int) (t f : Nat → Int) (sp p po : Int) : Int := if k = 0 then 0 else if k = 2 then (if t 4 = 4 then 1 else 0) else if t 5 = 2 then 2 else if f 5 = 2 then 0 else if a_st t (f 5) sp p < a_fo f sp po then 3 else 0
def a_rs (k : Int) (t f : Nat → Int) (sp p po : Int) : Int := (if a_ft k t f sp p po = 0 then 0 else 1) + (if a_ft k f t sp po p = 0 then 0 else 2)
/-- traits as told -/
def a_tr (t : Nat → Int) : Prop := (40 ≤ t 0 ∧ t 0 ≤ 200) ∧ (0 ≤ t 1 ∧ t 1 ≤ 30) ∧ (0 ≤ t 2 ∧ t 2 ≤ 30) ∧ (0 ≤ t 3 ∧ t 3 ≤ 9) ∧ (0 ≤ t 4 ∧ t 4 ≤ 4) ∧ (0 ≤ t 5 ∧ t 5 ≤ 2)
theorem a_ft_b (k : Int) (t f : Nat → Int) (sp p po : Int) : 0 ≤ a_ft k t f sp p po ∧ a_ft k t f sp p po ≤ 3 := by
  unfold a_ft
  repeat' split
  all_goals omega
theorem a_rs_b (k : Int) (t f : Nat → Int) (sp p po : Int) : 0 ≤ a_rs k t f sp p po ∧ a_rs k t f sp p po ≤ 3 := by
  unfold a_rs
  repeat' split
  all_goals omega
theorem z_oI_s {α : Sort _} (v : Int32) (d : zD) (er : α) (k : Int32 → zD → α) : z_oI (some (v, d)) er k = k v d := rfl
theorem z_oJ_s {α : Sort _} (v : Int64) (d : zD) (er : α) (k : Int64 → zD → α) : z_oJ (some (v, d)) er k = k v d := rfl
theorem z_oV_s {α : Sort _} (d : zD) (er : α) (k : zD → α) : z_oV (some d) er k = k d := rfl
theorem z_fI (c : Prop) {dc : Decidable c} (a b : Int) (m : zM) : (@ite zRs c dc (some (.inl (some (.int (Int32.ofInt a)), m))) (some (.inl (some (.int (Int32.ofInt b)), m)))) = some (.inl (some (.int (Int32.ofInt (@ite Int c dc a b))), m)) := by
  by_cases h : c <;> simp only [h, if_true, if_false]
theorem z_lf {a b : Int} {m : zM} (h : a = b) : (some (.inl (some (.int (Int32.ofInt a)), m)) : zRs) = some (.inl (some (.int (Int32.ofInt b)), m)) := by rw [h]
theorem z_lf2 {a b : Int} {m m' : zM} (h : a = b) (hm : m = m') : (some (.inl (some (.int (Int32.ofInt a)), m)) : zRs) = some (.inl (some (.int (Int32.ofInt b)), m')) := by rw [h, hm]
