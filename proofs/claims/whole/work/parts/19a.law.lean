/-! the law's own code, checked by the kernel in pieces -/
theorem z_okL_app {own : String} {cc : ByteArray} {nL : Nat} {ini : Bool} {rt : Option FieldType} {cd : List zI} : ∀ {l1 l2 : List zI} {b : Nat}, z_okL own cc nL ini rt cd b l1 = true → z_okL own cc nL ini rt cd (b + l1.length) l2 = true → z_okL own cc nL ini rt cd b (l1 ++ l2) = true
  | [], l2, b, _, h2 => h2
  | x :: t, l2, b, h1, h2 => by
    simp only [z_okL, Bool.and_eq_true] at h1
    simp only [List.cons_append, z_okL, Bool.and_eq_true]
    exact ⟨h1.1, z_okL_app h1.2 (by rw [List.length_cons] at h2; rw [show b + 1 + t.length = b + (t.length + 1) by omega]; exact h2)⟩
theorem z_lw_0 : z_okL "LongBoatsLaw" code 4 false (some .boolean) cd_Law_law 0 cd_Law_law_0 = true := by decide +kernel
theorem z_lw_1 : z_okL "LongBoatsLaw" code 4 false (some .boolean) cd_Law_law 100 cd_Law_law_1 = true := by decide +kernel
theorem z_lw_2 : z_okL "LongBoatsLaw" code 4 false (some .boolean) cd_Law_law 200 cd_Law_law_2 = true := by decide +kernel
theorem z_lw_3 : z_okL "LongBoatsLaw" code 4 false (some .boolean) cd_Law_law 300 cd_Law_law_3 = true := by decide +kernel
theorem z_lw_4 : z_okL "LongBoatsLaw" code 4 false (some .boolean) cd_Law_law 400 cd_Law_law_4 = true := by decide +kernel
