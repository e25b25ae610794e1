/-! what is made of what comes then may be made of it before -/
theorem z_ap_cond {α β : Sort _} (f : α → β) (b : Bool) (x y : α) : f (cond b x y) = cond b (f x) (f y) := by cases b <;> rfl
theorem z_ap_ite {α β : Sort _} (f : α → β) (c : Prop) {dc : Decidable c} (x y : α) : f (@ite α c dc x y) = @ite β c dc (f x) (f y) := by
  by_cases h : c <;> simp [h]
theorem z_ps_map {α β : Sort _} (f : α → β) (sc : Option (Nat × (Nat → Int32))) (o : zO) (ins : Instr) (lv : zL) (st : List Value) (m : zM) (er : α) (kn : zL → List Value → zM → α) (kj : Nat → zL → List Value → zM → α) (kr : Option Value → zM → α) :
    f (z_ps sc o ins lv st m er kn kj kr) = z_ps sc o ins lv st m (f er) (fun a b c => f (kn a b c)) (fun t a b c => f (kj t a b c)) (fun v c => f (kr v c)) := by
  cases ins <;> simp only [z_ps] <;> repeat' first | rfl | split | (simp only [z_ap_cond f, z_ap_ite f]; done) | (simp only [z_ap_cond f, z_ap_ite f])
