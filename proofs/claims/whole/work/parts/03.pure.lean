/-! THE PURE MACHINE. A run of the system's methods over numbered cells: no heap, no launch. zM: how many cells there are; what refs, ints, longs they hold (by cell and place). -/
abbrev zD : Type := (Nat → Nat → Int32) × (Nat → Nat → Int64)
abbrev zM : Type := Nat × (Nat → Nat → Option Nat) × zD
abbrev zL : Type := List (Option Value)
/-- what calls give: an int, a long, nothing (the cells' ints and longs alone change); a maker's world, an int and a world -/
abbrev zO : Type := (Nat → List Value → zM → Option (Int32 × zD)) × (Nat → List Value → zM → Option (Int64 × zD)) × (Nat → List Value → zM → Option zD) × (Nat → List Value → zM → Option zM) × (Nat → List Value → zM → Option (Int32 × zM))
/-! z_tk, z_tn of a cell: its kind (0 an object, 1 int[], 2 byte[], 3 boolean[], 4 long[], 5 a row of refs; else none) and its class' number or its length -/
def z_u {α : Type} (f : Nat → Nat → α) (k j : Nat) (v : α) : Nat → Nat → α := fun a b => if a = k then (if b = j then v else f a b) else f a b
def z_rv (r : Option Nat) : Value := match r with
  | none => .null
  | some a => .ref a
def z_at : zL → Nat → Option Value
  | [], _ => none
  | x :: _, 0 => x
  | _ :: t, k + 1 => z_at t k
def z_isL : Option Value → Bool
  | some (.long _) => true
  | some (.double _) => true
  | _ => false
/-- a long that ends at place k is no more -/
def z_kill (lv : zL) : Nat → zL
  | 0 => lv
  | k + 1 => cond (z_isL (z_at lv k)) (lv.set k none) lv
def z_s1 (lv : zL) (k : Nat) (v : Value) : zL := (z_kill lv k).set k (some v)
def z_s2 (lv : zL) (k : Nat) (v : Value) : zL := ((z_kill lv k).set k (some v)).set (k + 1) none
def z_cat : Value → Nat
  | .long _ => 2
  | .double _ => 2
  | _ => 1
def z_cs : List Value → Nat
  | [] => 0
  | v :: t => z_cat v + z_cs t
def z_sb : Nat := 1000000
def z_ar (nt : ArrayType) : Nat := match nt with
  | .int => 1
  | .byte => 2
  | .boolean => 3
  | .long => 4
  | _ => 9
/-- the args of a call with n of them, what is below -/
def z_take : Nat → List Value → List Value → Option (List Value × List Value)
  | 0, st, acc => some (acc, st)
  | _ + 1, [], _ => none
  | n + 1, v :: st, acc => z_take n st (v :: acc)
def z_ref0 (ci : Nat) : List Value → Bool
  | .ref k :: _ => (z_tk k).beq 0 && (z_tn k).beq ci
  | _ => false
def z_oI {α : Sort _} (x : Option (Int32 × zD)) (er : α) (k : Int32 → zD → α) : α := match x with
  | some (v, d) => k v d
  | none => er
def z_oJ {α : Sort _} (x : Option (Int64 × zD)) (er : α) (k : Int64 → zD → α) : α := match x with
  | some (v, d) => k v d
  | none => er
def z_oV {α : Sort _} (x : Option zD) (er : α) (k : zD → α) : α := match x with
  | some d => k d
  | none => er
def z_oN {α : Sort _} (x : Option zM) (er : α) (k : zM → α) : α := match x with
  | some d => k d
  | none => er
def z_oX {α : Sort _} (x : Option (Int32 × zM)) (er : α) (k : Int32 → zM → α) : α := match x with
  | some (v, d) => k v d
  | none => er
/-- a table of jumps, one behind the other -/
def z_tsw {α : Sort _} (x : Int) : Int → List Int → (Int → α) → α → α
  | _, [], _, d => d
  | lo, t :: ts, k, d => if x = lo then k t else z_tsw x (lo + 1) ts k d
/-- one instruction (places of the tables already looked up, targets as places in the list), by what becomes then -/
def z_ps {α : Sort _} (sc : Option (Nat × (Nat → Int32))) (o : zO) (ins : Instr) (lv : zL) (st : List Value) (m : zM) (er : α)
    (kn : zL → List Value → zM → α) (kj : Nat → zL → List Value → zM → α) (kr : Option Value → zM → α) : α :=
  match ins with
  | .iconst n => kn lv (.int (Int32.ofInt n) :: st) m
  | .ldc2_w k => kn lv (.long (z_kl k) :: st) m
  | .ldc k => kn lv (.ref (z_sb + k) :: st) m
  | .iload k => match z_at lv k with
    | some (.int x) => kn lv (.int x :: st) m
    | _ => er
  | .lload k => match z_at lv k with
    | some (.long x) => kn lv (.long x :: st) m
    | _ => er
  | .aload k => match z_at lv k with
    | some (.ref x) => kn lv (.ref x :: st) m
    | some .null => kn lv (.null :: st) m
    | _ => er
  | .istore k => match st with
    | .int x :: r => kn (z_s1 lv k (.int x)) r m
    | _ => er
  | .lstore k => match st with
    | .long x :: r => kn (z_s2 lv k (.long x)) r m
    | _ => er
  | .astore k => match st with
    | .ref x :: r => kn (z_s1 lv k (.ref x)) r m
    | .null :: r => kn (z_s1 lv k .null) r m
    | _ => er
  | .iinc k n => match z_at lv k with
    | some (.int x) => kn (z_s1 lv k (.int (x + Int32.ofInt n))) st m
    | _ => er
  | .dup => match st with
    | .int x :: r => kn lv (.int x :: .int x :: r) m
    | .ref x :: r => kn lv (.ref x :: .ref x :: r) m
    | _ => er
  | .dup2 => match st with
    | .int x :: .int y :: r => kn lv (.int x :: .int y :: .int x :: .int y :: r) m
    | .int x :: .ref y :: r => kn lv (.int x :: .ref y :: .int x :: .ref y :: r) m
    | _ => er
  | .pop => match st with
    | .int _ :: r => cond ((z_cs r).ble 8) (kn lv r m) er
    | _ => er
  | .pop2 => match st with
    | .ref _ :: r => cond ((z_cs r).ble 8) (kn lv r m) er
    | _ => er
  | .iadd => match st with
    | .int y :: .int x :: r => kn lv (.int (x + y) :: r) m
    | _ => er
  | .isub => match st with
    | .int y :: .int x :: r => kn lv (.int (x - y) :: r) m
    | _ => er
  | .imul => match st with
    | .int y :: .int x :: r => kn lv (.int (x * y) :: r) m
    | _ => er
  | .idiv => match st with
    | .int y :: .int x :: r => if y = 0 then er else kn lv (.int (x / y) :: r) m
    | _ => er
  | .irem => match st with
    | .int y :: .int x :: r => if y = 0 then er else kn lv (.int (x - x / y * y) :: r) m
    | _ => er
  | .ineg => match st with
    | .int x :: r => kn lv (.int (-x) :: r) m
    | _ => er
  | .iand => match st with
    | .int y :: .int x :: r => kn lv (.int (x &&& y) :: r) m
    | _ => er
  | .ior => match st with
    | .int y :: .int x :: r => kn lv (.int (x ||| y) :: r) m
    | _ => er
  | .ixor => match st with
    | .int y :: .int x :: r => kn lv (.int (x ^^^ y) :: r) m
    | _ => er
  | .ishl => match st with
    | .int y :: .int x :: r => kn lv (.int (x <<< (y &&& 31)) :: r) m
    | _ => er
  | .ishr => match st with
    | .int y :: .int x :: r => kn lv (.int (x >>> (y &&& 31)) :: r) m
    | _ => er
  | .ladd => match st with
    | .long y :: .long x :: r => kn lv (.long (x + y) :: r) m
    | _ => er
  | .lsub => match st with
    | .long y :: .long x :: r => kn lv (.long (x - y) :: r) m
    | _ => er
  | .lmul => match st with
    | .long y :: .long x :: r => kn lv (.long (x * y) :: r) m
    | _ => er
  | .ldiv => match st with
    | .long y :: .long x :: r => if y = 0 then er else kn lv (.long (x / y) :: r) m
    | _ => er
  | .lrem => match st with
    | .long y :: .long x :: r => if y = 0 then er else kn lv (.long (x - x / y * y) :: r) m
    | _ => er
  | .land => match st with
    | .long y :: .long x :: r => kn lv (.long (x &&& y) :: r) m
    | _ => er
  | .lor => match st with
    | .long y :: .long x :: r => kn lv (.long (x ||| y) :: r) m
    | _ => er
  | .lshl => match st with
    | .int y :: .long x :: r => kn lv (.long (x <<< (y.toInt64 &&& 63)) :: r) m
    | _ => er
  | .lshr => match st with
    | .int y :: .long x :: r => kn lv (.long (x >>> (y.toInt64 &&& 63)) :: r) m
    | _ => er
  | .lcmp => match st with
    | .long y :: .long x :: r => kn lv (.int (lg_cmp x y) :: r) m
    | _ => er
  | .i2l => match st with
    | .int x :: r => kn lv (.long x.toInt64 :: r) m
    | _ => er
  | .l2i => match st with
    | .long x :: r => kn lv (.int x.toInt32 :: r) m
    | _ => er
  | .i2b => match st with
    | .int x :: r => kn lv (.int x.toInt8.toInt32 :: r) m
    | _ => er
  | .i2s => match st with
    | .int x :: r => kn lv (.int x.toInt16.toInt32 :: r) m
    | _ => er
  | .if_icmp c t => match st with
    | .int y :: .int x :: r => match c with
      | .eq => if x = y then kj t.toNat lv r m else kn lv r m
      | .ne => if x = y then kn lv r m else kj t.toNat lv r m
      | .lt => if x < y then kj t.toNat lv r m else kn lv r m
      | .ge => if y ≤ x then kj t.toNat lv r m else kn lv r m
      | .gt => if y < x then kj t.toNat lv r m else kn lv r m
      | .le => if x ≤ y then kj t.toNat lv r m else kn lv r m
    | _ => er
  | .ifCond c t => match st with
    | .int x :: r => match c with
      | .eq => if x = 0 then kj t.toNat lv r m else kn lv r m
      | .ne => if x = 0 then kn lv r m else kj t.toNat lv r m
      | .lt => if x < 0 then kj t.toNat lv r m else kn lv r m
      | .ge => if 0 ≤ x then kj t.toNat lv r m else kn lv r m
      | .gt => if 0 < x then kj t.toNat lv r m else kn lv r m
      | .le => if x ≤ 0 then kj t.toNat lv r m else kn lv r m
    | _ => er
  | .ifnonnull t => match st with
    | .ref _ :: r => kj t.toNat lv r m
    | .null :: r => kn lv r m
    | _ => er
  | .goto t => kj t.toNat lv st m
  | .tableswitch d lo hi ts => match st with
    | .int x :: r => z_tsw x.toInt lo ts.toList (fun t => kj t.toNat lv r m) (kj d.toNat lv r m)
    | _ => er
  | .getfield q => match st with
    | .ref k :: r => cond ((z_tk k).beq 0 && (z_tn k).beq (q / 4096)) (match q % 4 with
      | 0 => kn lv (.int (m.2.2.1 k (q / 4 % 1024)) :: r) m
      | 1 => kn lv (.long (m.2.2.2 k (q / 4 % 1024)) :: r) m
      | _ => kn lv (z_rv (m.2.1 k (q / 4 % 1024)) :: r) m) er
    | _ => er
  | .putfield q => match st with
    | .int x :: .ref k :: r => cond ((z_tk k).beq 0 && (z_tn k).beq (q / 4096)) (match q % 4 with
      | 0 => kn lv r (m.1, m.2.1, z_u m.2.2.1 k (q / 4 % 1024) x, m.2.2.2)
      | 3 => if x = 0 ∨ x = 1 then kn lv r (m.1, m.2.1, z_u m.2.2.1 k (q / 4 % 1024) x, m.2.2.2) else er
      | _ => er) er
    | .long x :: .ref k :: r => cond ((z_tk k).beq 0 && (z_tn k).beq (q / 4096)) (match q % 4 with
      | 1 => kn lv r (m.1, m.2.1, m.2.2.1, z_u m.2.2.2 k (q / 4 % 1024) x)
      | _ => er) er
    | .ref x :: .ref k :: r => cond ((z_tk k).beq 0 && (z_tn k).beq (q / 4096) && x.blt z_sb) (match q % 4 with
      | 2 => kn lv r (m.1, z_u m.2.1 k (q / 4 % 1024) (some x), m.2.2.1, m.2.2.2)
      | _ => er) er
    | _ => er
  | .arraylength => match st with
    | .ref k :: r => cond (k.beq z_sb) (match sc with
      | some (n, _) => kn lv (.int (Int32.ofNat n) :: r) m
      | none => er) (cond (Nat.blt 0 (z_tk k) && (z_tk k).blt 6) (kn lv (.int (Int32.ofNat (z_tn k)) :: r) m) er)
    | _ => er
  | .iaload => match st with
    | .int j :: .ref k :: r => cond (k.beq z_sb) (match sc with
        | some (n, f) => if j < 0 ∨ n ≤ j.toNatClampNeg then er else kn lv (.int (f j.toNatClampNeg) :: r) m
        | none => er)
        (cond ((z_tk k).beq 1) (if j < 0 ∨ z_tn k ≤ j.toNatClampNeg then er else kn lv (.int (m.2.2.1 k j.toNatClampNeg) :: r) m) er)
    | _ => er
  | .baload => match st with
    | .int j :: .ref k :: r => cond ((z_tk k).beq 2 || (z_tk k).beq 3) (if j < 0 ∨ z_tn k ≤ j.toNatClampNeg then er else kn lv (.int (m.2.2.1 k j.toNatClampNeg) :: r) m) er
    | _ => er
  | .laload => match st with
    | .int j :: .ref k :: r => cond ((z_tk k).beq 4) (if j < 0 ∨ z_tn k ≤ j.toNatClampNeg then er else kn lv (.long (m.2.2.2 k j.toNatClampNeg) :: r) m) er
    | _ => er
  | .aaload => match st with
    | .int j :: .ref k :: r => cond ((z_tk k).beq 5) (if j < 0 ∨ z_tn k ≤ j.toNatClampNeg then er else kn lv (z_rv (m.2.1 k j.toNatClampNeg) :: r) m) er
    | _ => er
  | .iastore => match st with
    | .int x :: .int j :: .ref k :: r => cond ((z_tk k).beq 1) (if j < 0 ∨ z_tn k ≤ j.toNatClampNeg then er else kn lv r (m.1, m.2.1, z_u m.2.2.1 k j.toNatClampNeg x, m.2.2.2)) er
    | _ => er
  | .bastore => match st with
    | .int x :: .int j :: .ref k :: r => cond ((z_tk k).beq 2) (if j < 0 ∨ z_tn k ≤ j.toNatClampNeg then er else kn lv r (m.1, m.2.1, z_u m.2.2.1 k j.toNatClampNeg x.toInt8.toInt32, m.2.2.2))
        (cond ((z_tk k).beq 3) (if j < 0 ∨ z_tn k ≤ j.toNatClampNeg then er else kn lv r (m.1, m.2.1, z_u m.2.2.1 k j.toNatClampNeg (x &&& 1), m.2.2.2)) er)
    | _ => er
  | .lastore => match st with
    | .long x :: .int j :: .ref k :: r => cond ((z_tk k).beq 4) (if j < 0 ∨ z_tn k ≤ j.toNatClampNeg then er else kn lv r (m.1, m.2.1, m.2.2.1, z_u m.2.2.2 k j.toNatClampNeg x)) er
    | _ => er
  | .aastore => match st with
    | .ref x :: .int j :: .ref k :: r => cond ((z_tk k).beq 5 && x.blt z_sb && (z_tk x).beq 0 && (z_tn x).beq z_hc) (if j < 0 ∨ z_tn k ≤ j.toNatClampNeg then er else kn lv r (m.1, z_u m.2.1 k j.toNatClampNeg (some x), m.2.2.1, m.2.2.2)) er
    | _ => er
  | .new ci => cond ((z_tk m.1).beq 0 && (z_tn m.1).beq ci) (kn lv (.ref m.1 :: st) (m.1 + 1, m.2)) er
  | .newarray t => match st with
    | .int x :: r => cond ((z_tk m.1).beq (z_ar t)) (if x = Int32.ofNat (z_tn m.1) then kn lv (.ref m.1 :: r) (m.1 + 1, m.2) else er) er
    | _ => er
  | .anewarray _ => match st with
    | .int x :: r => cond ((z_tk m.1).beq 5) (if x = Int32.ofNat (z_tn m.1) then kn lv (.ref m.1 :: r) (m.1 + 1, m.2) else er) er
    | _ => er
  | .invokedynamic q => match q with
    | 0 => match st with
      | .int y :: .int x :: r => cond ((z_cs r).ble 8) (kn lv (.int (if y < x then y else x) :: r) m) er
      | _ => er
    | 1 => match st with
      | .int y :: .int x :: r => cond ((z_cs r).ble 8) (kn lv (.int (if x < y then y else x) :: r) m) er
      | _ => er
    | 2 => match st with
      | .int x :: r => cond ((z_cs r).ble 8) (kn lv (.int (if 0 ≤ x then x else 0 - x) :: r) m) er
      | _ => er
    | 3 => match st with
      | .ref k :: r => cond ((z_cs r).ble 8 && z_sb.blt k) (kn lv (.int (Int32.ofNat (z_tx (k - z_sb)).length) :: r) m) er
      | _ => er
    | 4 => match st with
      | .int j :: .ref k :: r => cond ((z_cs r).ble 8 && z_sb.blt k) (if j < 0 ∨ (z_tx (k - z_sb)).length ≤ j.toNatClampNeg then er else kn lv (.int ((z_tx (k - z_sb)).getD j.toNatClampNeg 0) :: r) m) er
      | _ => er
    | _ => er
  | .invokevirtual q => match z_take (q / 4 % 16) st [] with
    | some (as, r) => cond ((z_cs r).ble 8 && z_ref0 (q / 64000) as) (match q % 4 with
      | 0 => z_oV (o.2.2.1 (q / 64 % 1000) as m) er (fun d => kn lv r (m.1, m.2.1, d))
      | 1 => z_oI (o.1 (q / 64 % 1000) as m) er (fun v d => kn lv (.int v :: r) (m.1, m.2.1, d))
      | _ => z_oJ (o.2.1 (q / 64 % 1000) as m) er (fun v d => kn lv (.long v :: r) (m.1, m.2.1, d))) er
    | none => er
  | .invokestatic q => match z_take (q / 4 % 16) st [] with
    | some (as, r) => cond ((z_cs r).ble 8) (match q % 4 with
      | 0 => z_oV (o.2.2.1 (q / 64 % 1000) as m) er (fun d => kn lv r (m.1, m.2.1, d))
      | 1 => z_oI (o.1 (q / 64 % 1000) as m) er (fun v d => kn lv (.int v :: r) (m.1, m.2.1, d))
      | _ => z_oJ (o.2.1 (q / 64 % 1000) as m) er (fun v d => kn lv (.long v :: r) (m.1, m.2.1, d))) er
    | none => er
  | .invokespecial q => match z_take (q / 4 % 16) st [] with
    | some (as, r) => cond ((z_cs r).ble 8 && z_ref0 (q / 64000) as) (z_oN (o.2.2.2.1 (q / 64 % 1000) as m) er (fun m2 => kn lv r m2)) er
    | none => er
  | .invokeinterface q _ => match z_take (q / 4 % 16) st [] with
    | some (as, r) => cond ((z_cs r).ble 8 && z_ref0 (q / 64000) as) (z_oX (o.2.2.2.2 (q / 64 % 1000) as m) er (fun v m2 => kn lv (.int v :: r) m2)) er
    | none => er
  | .ireturn => match st with
    | [.int x] => kr (some (.int x)) m
    | _ => er
  | .areturn => match st with
    | [.int x] => if x = 0 ∨ x = 1 then kr (some (.int x)) m else er
    | _ => er
  | .lreturn => match st with
    | [.long x] => kr (some (.long x)) m
    | _ => er
  | .return_ => match st with
    | [] => kr none m
    | _ => er
  | _ => er
/-- from one place of the list on, to the end or the next mark (nop) -/
def z_ex (sc : Option (Nat × (Nat → Int32))) (o : zO) (cd : List zI) : Nat → List zI → Nat → zL → List Value → zM → Option ((Option Value × zM) ⊕ (Nat × zL × List Value × zM))
  | 0, _, _, _, _, _ => none
  | _ + 1, [], _, _, _, _ => none
  | f + 1, (_, _, .nop) :: _, ip, lv, st, m => some (.inr (ip + 1, lv, st, m))
  | f + 1, (_, _, ins) :: rest, ip, lv, st, m => z_ps sc o ins lv st m none (fun lv st m => z_ex sc o cd f rest (ip + 1) lv st m) (fun t lv st m => z_ex sc o cd f (cd.drop t) t lv st m) (fun v m => some (.inl (v, m)))
