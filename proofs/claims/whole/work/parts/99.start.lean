theorem z_sl86 : ∀ k ∈ List.range 87, z_sl k ≤ 100000 := by decide +kernel
theorem whole_start {p : Program} {e : Env} {s : State} {m : MethodId} {below : List Frame} {meth : Method} {c : Code} (l : Launch) (hflags : l.flags = flags0) {b L : Nat} {xs : Nat → Int32} (hL : L ≤ 4096) (C0 : lw_At p s m meth c b L xs) : W p l e room_1 s m #[Value.ref b] below meth c s.heap [] 0 0 (lw_Z below #[Value.ref b] s) (entryFrame m ([Value.ref b] : List Value).toArray 4) := by
  obtain ⟨hx, hb, hr, hml, hown, hts, hX, hbl, hlocks, hgv⟩ := id C0
  obtain ⟨N, mf, hrun, hnf⟩ := z_law L hL xs
  have hfl := flat_of_before _ hgv
  have htb : ∀ w ∈ z_tb, w.before #[Value.ref b] s = true := fun w h => hts w (List.mem_filter.mp h).1
  have hA : ∀ q : Nat, s.heap.size ≤ q → (fun q : Nat => s.heap.size ≤ q) q := fun _ h => h
  have hAn : ∀ a : Nat, a < s.heap.size → ¬ (fun q : Nat => s.heap.size ≤ q) a := fun a h => Nat.not_le.mpr h
  have hkn : ∀ ci : Nat, ∃ q : ClassId × (Nat → Nat), ∀ r : vw_C, zC[ci]? = some r → u_Kn s r.1 r.2.1 r.2.2 q.1 q.2 := by
    intro ci
    cases hc : zC[ci]? with
    | none => exact ⟨(m.cls, fun _ => 0), fun r h => by cases h⟩
    | some r =>
      obtain ⟨c1, -, -, c5, -, -⟩ := z_ck ci r hc
      obtain ⟨cC, iS, h⟩ := u_known (n := r.2.2) htb c1 (htb _ c5)
      exact ⟨(cC, iS), fun r' h' => by cases h'; exact h⟩
  obtain ⟨dq, hdq⟩ := Classical.axiomOfChoice hkn
  have hstr : ∀ k : Nat, ∃ q : Nat × Nat, 0 < k → k < 43 → vk_R (z_sk k).1 (z_sk k).2.1 (z_sk k).2.2 q.1 s ∧ va_O "java/lang/String" q.1 (fun q : Nat => s.heap.size ≤ q) s s.heap ∧ va_OF "java/lang/String" "coder" "B" (.int 0) q.1 (fun q : Nat => s.heap.size ≤ q) s s.heap ∧ va_OF "java/lang/String" "value" "[B" (.ref q.2) q.1 (fun q : Nat => s.heap.size ≤ q) s s.heap ∧ va_T .byte q.2 (z_tx k).length (fun j => .int ((z_tx k).getD j 0)) (fun q : Nat => s.heap.size ≤ q) s s.heap := by
    intro k
    by_cases h0 : 0 < k ∧ k < 43
    · obtain ⟨h1, h2, h3, h4, h5⟩ := z_sp2 k h0.1 h0.2
      have h6 := z_sp1 k (List.mem_range.mpr h0.2) h0.1
      obtain ⟨adK, adV, hS, hev⟩ := vk_Sof (args := #[Value.ref b]) (s := s) (N := 1) (tm := fun _ => z_stm k) (len := [(z_tx k).length]) (byt := [z_tx k]) (A := fun q : Nat => s.heap.size ≤ q) (fun i hi => by
        have : i = 0 := by omega
        subst this
        exact Nat.lt_trans (z_tx_ok k).1 (by decide)) (fun i hi => hfl _ h1) (fun i hi => hfl _ h2) (fun i hi => hfl _ h3) (fun i hi => by
        have : i = 0 := by omega
        subst this
        exact hfl _ h4) (fun i hi j hj => by
        have : i = 0 := by omega
        subst this
        exact hfl _ (h5 j hj)) (fun i j hi hj hne => by omega) hAn
      have hs := hS.1 0 (by omega)
      have he := hev 0 (by omega)
      refine ⟨(adK 0, adV 0), fun _ _ => ⟨vk_R.of (A := #[Value.ref b]) (hts _ (List.mem_of_getElem? h6)) he, hs.1, hs.2.1, hs.2.2.1, hs.2.2.2⟩⟩
    · exact ⟨(0, 0), fun a b => absurd ⟨a, b⟩ h0⟩
  obtain ⟨sq, hsq⟩ := Classical.axiomOfChoice hstr
  have En : z_En (fun k => if k = 0 then b else (sq k).1) (fun k => (sq k).2) (fun q : Nat => s.heap.size ≤ q) s s.heap := by
    refine ⟨va_AO.of (hts _ (List.mem_of_getElem? z_sp4.2.2)), fun k h0 h1 => ?_, va_Zof (hts _ (List.mem_of_getElem? z_sp4.1)) (htb _ zx_iS) (va_eqt (hfl _ z_sp3.1)) hAn, fun w hw => ?_, va_Zqof (hts _ (List.mem_of_getElem? z_sp4.2.1)) (htb _ zx_iP) (hfl _ z_sp3.2) hAn⟩
    · have hk : ¬ k = 0 := by omega
      simp only [if_neg hk]
      exact hsq k h0 h1
    · have h1 := List.mem_filter.mp hw
      have h2 := hts w h1.1
      have h3 := h1.2
      cases w <;> first | exact va_Nw.of rfl h2 | cases h3
  have C : z_Cx p s m #[Value.ref b] meth c "LongBoatsLaw" code 4 false (some .boolean) := ⟨hx, hb, hr, hml, hown, htb, hlocks, fun h => by cases h⟩
  have hmono := z_run_le ⟨fun k as m r h9 => ((z_FS l z_wd z_ok 100).2.2.2.1 k as m r h9).1, fun k as m r h9 => ((z_FS l z_wd z_ok 100).2.2.2.2 k as m r h9).1⟩ hrun
  have hsl := z_sl86 mf.1 (List.mem_range.mpr (by omega))
  have hRm : z_Rm room_1 0 mf.1 := ⟨by show mf.1 - 0 ≤ 600000; omega, by show z_sl mf.1 - z_sl 0 ≤ 7302250; omega, by decide, by decide⟩
  have key := z_run_sound (l := l) (e := e) (below := below) (R := room_1) (D := (fun k => (dq k).1, fun k => (dq k).2)) (ad0 := fun _ => 0) (n0 := 0) (nf := mf.1) (Q := lw_Z below #[Value.ref b] s) (cd := cd_Law_law) C En hA hRm (d := 100) (by decide) (by decide) z_wd (z_FS l z_wd z_ok 100) (sc := some (L, xs)) (fun L' xs' h9 => by cases h9; exact ⟨hX, hbl, hAn _ hbl⟩) (Rt := fun v9 m9 => v9 = some (.int 1) ∧ m9 = mf) ?_ z_lw N _ (some (.int 1), mf) hrun ⟨rfl, rfl⟩
  · have hl := lv_entry ([Value.ref b] : List Value) (n := 4) (Nat.le_of_ble_eq_true rfl)
    rw [lg_entry_eq]
    generalize (lg_sl ([Value.ref b] : List Value) ++ List.replicate (4 - (lg_sl ([Value.ref b] : List Value)).length) Slot.unset).toArray = ls at hl ⊢
    have hl : lv_has ls 4 [(0, .ref b)] := hl
    have h2 := key.2 (fun _ => 0) (fun _ => m.cls) [] s.heap [] ls ⟨⟨fun k r h => hdq k r h, fun k q h => (by simp at h)⟩, fun k q h => (by simp [z_ws, z_m0] at h), ⟨fun i j p q h => (by simp [z_ws, z_m0] at h), fun k q h => (by simp [z_ws, z_m0] at h)⟩, va_S.rf, fun k ty h => absurd h (Nat.not_lt_zero _), ⟨fun k f j h => (by cases h), fun k _ f => ⟨rfl, rfl, rfl⟩, Nat.zero_le _⟩, Nat.le_refl _, fun _ _ => rfl⟩ ⟨hl.1, hl.2.1, rfl, fun k v h => ?_⟩ (fun v h => absurd h List.not_mem_nil) (fun k v h => ?_)
    · exact h2
    · match k, h with
      | 0, h =>
        cases h
        exact hl.2.2 _ List.mem_cons_self
      | 1, h => cases h
      | 2, h => cases h
      | 3, h => cases h
      | k + 4, h => simp [z_at] at h
    · match k, h with
      | 0, h =>
        cases h
        exact Or.inr ⟨Nat.le_refl _, by decide⟩
      | 1, h => cases h
      | 2, h => cases h
      | 3, h => cases h
      | k + 4, h => simp [z_at] at h
  · rintro v9 m9 ⟨rfl, rfl⟩
    refine ⟨Nat.le_refl _, fun ad' ac' tys' H locs ls pc ins hSt hri hdg => ?_⟩
    obtain ⟨rfl, hrt⟩ := hri
    refine va_forget (fun q hq => hSt.2.2.2.1.2.2 q hq) ?_
    refine W.widen (k := 600000) (n := 7302250) (by omega) (by omega) ?_
    exact lw_ret hx hb hr hlocks hdg
-- ===== YOUR PART ENDS =====
set_option maxHeartbeats 4000000 in
theorem lw_walk (l : Launch) (hflags : l.flags = flags0) (b : Addr) (xs : List Int32) : MetFree l x (headSpec (Jvm.Cond.code x code maxLocals ret :: tables_1) room_1) (lw_P b xs) (fun _ _ _ _ _ => True) lw_Q := by
  refine MetFree.of_bodyS (code := code) (maxLocals := maxLocals) (ret := ret) (by decide) ?_ ?_
  · intro args s m h hn
    obtain ⟨meth, c, h1, h2, h3, h4, h5, h6, -, -⟩ := Cond.code_spec hn (atoms_spec (ws := Jvm.Cond.code x code maxLocals ret :: tables_1) h _ List.mem_cons_self)
    exact ⟨meth, c, h1, h2, h3, h4, h5, h6⟩
  · intro p e s m args below meth c s₁ B hml0 hP _
    obtain ⟨rfl, hx, hbd, hgv⟩ := hP
    obtain ⟨scr, harrAt, hlist, hof, hsmall⟩ := hx
    obtain ⟨hcb, hkn, -, -⟩ := State.arrayAt?_spec harrAt
    have hown : s.vm.findClass R_law = some m.cls := findClass_of_methodNamed B.named
    have hts0 : ∀ c ∈ (Jvm.Cond.code x code maxLocals ret :: tables_1), c.before #[Value.ref b] s = true := atoms_spec (ws := Jvm.Cond.code x code maxLocals ret :: tables_1) B.pre
    have hts : ∀ w ∈ lw_tbl, w.before #[Value.ref b] s = true := k2_hts_sels lw_privs (fun w hw => hts0 w (List.mem_cons_of_mem _ hw)) lw_privs_ok
    have hml : c.maxLocals = 4 := B.maxLocals_eq (hts0 _ List.mem_cons_self)
    have X₀ : Stand p l e room_1 s m #[Value.ref b] below meth c s₁ [] 0 0 := Stand.of_body B
    have hh0 : s₁.heap = s.heap := by rw [B.state]; rfl
    have hsz : scr.slots.size = xs.length := by rw [← Array.length_toList, hlist, List.length_map]
    have hval : ∀ j : Nat, j < xs.length → scr.slots[j]? = some (.int (xs.getD j 0)) := fun j hj => by
      rw [← Array.getElem?_toList, hlist]
      simp [hj]
    have hbl : b < s.heap.size := (Array.getElem?_eq_some_iff.mp hcb).1
    have hX : va_X b xs.length (fun j => xs.getD j 0) s s.heap := ⟨scr, hcb, hof, hkn, hsz, hval⟩
    have K : W p l e room_1 s m #[Value.ref b] below meth c s₁.heap [] 0 0 (lw_Z below #[Value.ref b] s) (entryFrame m ([Value.ref b] : List Value).toArray 4) := by
      rw [hh0]
      exact whole_start l hflags hbd ⟨B.exec, B.bytes, B.returns, hml, hown, hts, hX, hbl, B.notSynchronized, hgv⟩
    obtain ⟨t, a1, o, b1, b2, b3⟩ := K s₁ rfl X₀
    exact ⟨t, o, a1, b1, b2, b3⟩
theorem lw_pre_spec {args : Array Value} {s : State} (h : (Jvm.Cond.and given_1 narrow_1).before args s = true) (hr : rest_1_c.before args s = true) : ∃ (b : Addr) (xs : List Int32), lw_P b xs args s := by
  have hs := flat_of_before _ h
  have hq := flat_of_before _ hr
  have hc : (Cond.count 1).before args s = true := hs _ (by decide +kernel)
  have harr : (Cond.arrayOf (.arg 0) .int).before args s = true := hs _ (by decide +kernel)
  have hle : (Cond.le (.length (.arg 0)) (.int 4096)).before args s = true := hs _ (by decide +kernel)
  have hlen : (Cond.isInt (.length (.arg 0))).before args s = true := hq _ (by decide +kernel)
  have hall : (Cond.all (.arg 0) (.isInt (.elem (.arg 0) (.index 0)))).before args s = true := hq _ (by decide +kernel)
  obtain ⟨b, xs, hb, hx⟩ := State.ints_of_pre rfl harr hlen hall
  have hsm : xs.length < 2 ^ 31 := hx.choose_spec.2.2.2
  have hev : (Term.length (.arg 0)).eval args s none [] s = some (.int xs.length.toInt32) := hx.length_eval hb
  have hv := Cond.le_ints hev (show (Term.int 4096).eval args s none [] s = some (.int 4096) from rfl)
  have hd : xs.length.toInt32 ≤ 4096 := by
    simpa [Cond.before, Cond.holds, hv] using hle
  have hN : xs.length ≤ 4096 := (Int32.ofNat_le_ofNat hsm (by decide)).mp (show Int32.ofNat xs.length ≤ Int32.ofNat 4096 from hd)
  exact ⟨b, xs, Cond.one_arg hc (show args[0]? = some (.ref b) from hb), hx, hN, h⟩
theorem lw_comes (l : Launch) (hflags : l.flags = flags0) : Comes l x (Jvm.Cond.code x code maxLocals ret :: tables_1) room_1 (fun tb e args s => Calls_1 tb e args s ∧ rest_1 tb e args s ∧ Pre_1 tb e args s)
    (fun _ _ args s o t => lw_Q args s o t) := by
  intro p e ha hc hk s m args below hf hfit hheap happ hpre
  obtain ⟨b, xs, hP⟩ := lw_pre_spec hpre.2.2 hpre.2.1
  obtain ⟨k, o, h1, h2, h3, hQ⟩ := lw_walk l hflags b xs p e ha hc hk s m args below hf ((Spec.applies_iff_loose hf).mp happ).1 hP trivial
  exact ⟨k, o, h1, h2, h3, hQ⟩
theorem lw_frame {s t : State} {o : Outcome} {args : Array Value} (h : Framed s o t [] 600000 7302250) :
    Framed s o t (fieldLocs frame_1_writes args s ++ arrayLocs frame_1_arrays args s ++ staticLocs frame_1_statics s) 600000 7302250 := h
theorem lw_limb (L : Cond) (hL : ∀ (args : Array Value) (s t : State), L.after args s (.returned (some (.int 1))) t = true) :
    ArmFor flags0 classFile x code maxLocals ret World_1 tables_1 room_1 Calls_1 rest_1 Pre_1
      (fun tb e a s o t => postC L tb e a s o t ∧ Framed s o t (fieldLocs frame_1_writes a s ++ arrayLocs frame_1_arrays a s ++ staticLocs frame_1_statics s) 600000 7302250) := by
  intro l hflags _ _ p e ha hc hk s m args below hf hfit hheap happ hpre
  obtain ⟨k, o, h1, h2, h3, rfl, hF⟩ := lw_comes l hflags p e ha hc hk s m args below hf hfit hheap happ hpre
  exact ⟨k, _, h1, h2, h3, hL args s _, lw_frame hF⟩
theorem i_vc : Claimed_1_1 ∧ Claimed_1_2 := ⟨lw_limb limb_1_1 (fun args s t => by simp [limb_1_1, Cond.after, Cond.holds, Cond.value]), lw_limb limb_1_2 (fun args s t => Cond.after_iff.mpr (by
  first | (rw [show limb_1_2 = Cond.eq .result (.int 1) from rfl, Cond.eq_ints (x := 1) (y := 1) rfl rfl]; simp; done) | (simp [limb_1_2, Cond.value, Term.eval]; done)))⟩
