/-! what is made of what comes then may be made of it before -/
theorem z_ap_cond {α β : Sort _} (f : α → β) (b : Bool) (x y : α) : f (cond b x y) = cond b (f x) (f y) := by cases b <;> rfl
theorem z_ap_ite {α β : Sort _} (f : α → β) (c : Prop) {dc : Decidable c} (x y : α) : f (@ite α c dc x y) = @ite β c dc (f x) (f y) := by
  by_cases h : c <;> simp [h]
theorem z_ap_oI {α β : Sort _} (f : α → β) (x : Option (Int32 × zD)) (er : α) (k : Int32 → zD → α) : f (z_oI x er k) = z_oI x (f er) (fun v d => f (k v d)) := by cases x <;> rfl
theorem z_ap_oJ {α β : Sort _} (f : α → β) (x : Option (Int64 × zD)) (er : α) (k : Int64 → zD → α) : f (z_oJ x er k) = z_oJ x (f er) (fun v d => f (k v d)) := by cases x <;> rfl
theorem z_ap_oV {α β : Sort _} (f : α → β) (x : Option zD) (er : α) (k : zD → α) : f (z_oV x er k) = z_oV x (f er) (fun d => f (k d)) := by cases x <;> rfl
theorem z_ap_oN {α β : Sort _} (f : α → β) (x : Option zM) (er : α) (k : zM → α) : f (z_oN x er k) = z_oN x (f er) (fun d => f (k d)) := by cases x <;> rfl
theorem z_ap_oX {α β : Sort _} (f : α → β) (x : Option (Int32 × zM)) (er : α) (k : Int32 → zM → α) : f (z_oX x er k) = z_oX x (f er) (fun v d => f (k v d)) := by cases x <;> rfl
theorem z_ap_tsw {α β : Sort _} (f : α → β) (x : Int) : ∀ (lo : Int) (ts : List Int) (k : Int → α) (d : α), f (z_tsw x lo ts k d) = z_tsw x lo ts (fun t => f (k t)) (f d)
  | _, [], _, _ => rfl
  | lo, t :: ts, k, d => by
    simp only [z_tsw]
    rw [z_ap_ite f, z_ap_tsw f x (lo + 1) ts k d]
theorem z_ps_map {α β : Sort _} (f : α → β) (sc : Option (Nat × (Nat → Int32))) (o : zO) (ins : Instr) (lv : zL) (st : List Value) (m : zM) (er : α) (kn : zL → List Value → zM → α) (kj : Nat → zL → List Value → zM → α) (kr : Option Value → zM → α) :
    f (z_ps sc o ins lv st m er kn kj kr) = z_ps sc o ins lv st m (f er) (fun a b c => f (kn a b c)) (fun t a b c => f (kj t a b c)) (fun v c => f (kr v c)) := by
  cases ins <;> simp only [z_ps] <;> repeat' first | rfl | split | (simp only [z_ap_cond f, z_ap_ite f, z_ap_oI f, z_ap_oJ f, z_ap_oV f, z_ap_oN f, z_ap_oX f, z_ap_tsw f]; done) | (simp only [z_ap_cond f, z_ap_ite f, z_ap_oI f, z_ap_oJ f, z_ap_oV f, z_ap_oN f, z_ap_oX f, z_ap_tsw f])
