/-! WHAT IS CHECKED, by program, of each resolved instruction against the bytes and the tables' words. -/
def z_tb : List Cond := lw_tbl.filter goodWord
def z_pc (cd : List zI) (ip : Nat) : Nat := match cd[ip]? with
  | some q => q.1
  | none => 0
def z_jp (cd : List zI) (pc : Nat) (off t : Int) : Bool := decide ((pc : Int) + off = ((z_pc cd t.toNat : Nat) : Int))
def z_at1 (q : Nat) (w : Cond) : Bool := decide (lw_tbl[q]? = some w) && goodWord w
/-- the words of a field -/
def z_fld (own : String) (idx pl q : Nat) : Bool := match zC[q / 4096]? with
  | some r => decide (q / 4 % 1024 < r.2.2 ∧ r.2.2 = z_nf (q / 4096)) && z_at1 pl (.fieldLink own idx (r.2.1 (q / 4 % 1024)).1 (r.2.1 (q / 4 % 1024)).2.1 (r.2.1 (q / 4 % 1024)).2.2.1)
  | none => false
def z_fty (q : Nat) : Option FieldType := match zC[q / 4096]? with
  | some r => parseFieldDescriptor (r.2.1 (q / 4 % 1024)).2.2.1
  | none => none
def z_isR (t : Option FieldType) : Bool := match t with
  | some (.object _) => true
  | some (.array _) => true
  | _ => false
def z_fin (own : String) (ini : Bool) (q : Nat) : Bool := match zC[q / 4096]? with
  | some r => !(r.2.1 (q / 4 % 1024)).2.2.2 || (ini && decide ((r.2.1 (q / 4 % 1024)).1 = own))
  | none => false
/-- how many a call takes, of what kind its answer is -/
def z_sig (q na : Nat) : Bool := decide (q / 4 % 16 = na) && decide (q / 64 % 1000 < z_nm) && match z_rty (q / 64 % 1000), q % 4 with
  | none, 0 => true
  | some .int, 1 => true
  | some .boolean, 1 => true
  | some .long, 2 => true
  | _, _ => false
def z_np (q : Nat) : Option Nat := (parseMethodDescriptor (z_y (q / 64 % 1000)).desc).map (fun d => d.parameters.length)
def z_cls (q : Nat) : Bool := match zC[q / 64000]? with
  | some r => decide (r.1 = (z_y (q / 64 % 1000)).cls)
  | none => false
def z_isN : Cond → Bool
  | .methodLinkNest _ _ _ _ => true
  | _ => false
def z_nw : List Cond := lw_tbl.filter z_isN
def z_atN (q : Nat) (w : Cond) : Bool := decide (lw_tbl[q]? = some w) && z_isN w
def z_lnk (own : String) (idx pl q : Nat) : Bool := z_at1 pl (.methodLink own idx (z_y (q / 64 % 1000))) || z_atN pl (.methodLinkNest own idx (z_y (q / 64 % 1000)) "LongBoats")
def z_okI (own : String) (nL : Nat) (ini : Bool) (rt : Option FieldType) (cd : List zI) (ip pc pl : Nat) (ins raw : Instr) (len : Nat) : Bool := match ins with
  | .iadd => decide (raw = .iadd ∧ len = 1 ∧ z_pc cd (ip + 1) = pc + 1)
  | .isub => decide (raw = .isub ∧ len = 1 ∧ z_pc cd (ip + 1) = pc + 1)
  | .imul => decide (raw = .imul ∧ len = 1 ∧ z_pc cd (ip + 1) = pc + 1)
  | .idiv => decide (raw = .idiv ∧ len = 1 ∧ z_pc cd (ip + 1) = pc + 1)
  | .irem => decide (raw = .irem ∧ len = 1 ∧ z_pc cd (ip + 1) = pc + 1)
  | .ineg => decide (raw = .ineg ∧ len = 1 ∧ z_pc cd (ip + 1) = pc + 1)
  | .iand => decide (raw = .iand ∧ len = 1 ∧ z_pc cd (ip + 1) = pc + 1)
  | .ior => decide (raw = .ior ∧ len = 1 ∧ z_pc cd (ip + 1) = pc + 1)
  | .ixor => decide (raw = .ixor ∧ len = 1 ∧ z_pc cd (ip + 1) = pc + 1)
  | .ishl => decide (raw = .ishl ∧ len = 1 ∧ z_pc cd (ip + 1) = pc + 1)
  | .ishr => decide (raw = .ishr ∧ len = 1 ∧ z_pc cd (ip + 1) = pc + 1)
  | .ladd => decide (raw = .ladd ∧ len = 1 ∧ z_pc cd (ip + 1) = pc + 1)
  | .lsub => decide (raw = .lsub ∧ len = 1 ∧ z_pc cd (ip + 1) = pc + 1)
  | .lmul => decide (raw = .lmul ∧ len = 1 ∧ z_pc cd (ip + 1) = pc + 1)
  | .ldiv => decide (raw = .ldiv ∧ len = 1 ∧ z_pc cd (ip + 1) = pc + 1)
  | .lrem => decide (raw = .lrem ∧ len = 1 ∧ z_pc cd (ip + 1) = pc + 1)
  | .land => decide (raw = .land ∧ len = 1 ∧ z_pc cd (ip + 1) = pc + 1)
  | .lor => decide (raw = .lor ∧ len = 1 ∧ z_pc cd (ip + 1) = pc + 1)
  | .lshl => decide (raw = .lshl ∧ len = 1 ∧ z_pc cd (ip + 1) = pc + 1)
  | .lshr => decide (raw = .lshr ∧ len = 1 ∧ z_pc cd (ip + 1) = pc + 1)
  | .lcmp => decide (raw = .lcmp ∧ len = 1 ∧ z_pc cd (ip + 1) = pc + 1)
  | .i2l => decide (raw = .i2l ∧ len = 1 ∧ z_pc cd (ip + 1) = pc + 1)
  | .l2i => decide (raw = .l2i ∧ len = 1 ∧ z_pc cd (ip + 1) = pc + 1)
  | .i2b => decide (raw = .i2b ∧ len = 1 ∧ z_pc cd (ip + 1) = pc + 1)
  | .i2s => decide (raw = .i2s ∧ len = 1 ∧ z_pc cd (ip + 1) = pc + 1)
  | .dup => decide (raw = .dup ∧ len = 1 ∧ z_pc cd (ip + 1) = pc + 1)
  | .dup2 => decide (raw = .dup2 ∧ len = 1 ∧ z_pc cd (ip + 1) = pc + 1)
  | .arraylength => decide (raw = .arraylength ∧ len = 1 ∧ z_pc cd (ip + 1) = pc + 1)
  | .iaload => decide (raw = .iaload ∧ len = 1 ∧ z_pc cd (ip + 1) = pc + 1)
  | .baload => decide (raw = .baload ∧ len = 1 ∧ z_pc cd (ip + 1) = pc + 1)
  | .laload => decide (raw = .laload ∧ len = 1 ∧ z_pc cd (ip + 1) = pc + 1)
  | .aaload => decide (raw = .aaload ∧ len = 1 ∧ z_pc cd (ip + 1) = pc + 1)
  | .iastore => decide (raw = .iastore ∧ len = 1 ∧ z_pc cd (ip + 1) = pc + 1)
  | .bastore => decide (raw = .bastore ∧ len = 1 ∧ z_pc cd (ip + 1) = pc + 1)
  | .lastore => decide (raw = .lastore ∧ len = 1 ∧ z_pc cd (ip + 1) = pc + 1)
  | .aastore => decide (raw = .aastore ∧ len = 1 ∧ z_pc cd (ip + 1) = pc + 1)
  | .iconst n => decide (z_pc cd (ip + 1) = pc + len) && match raw with
    | .iconst i => decide (len = 1 ∧ Int32.ofInt i = Int32.ofInt n)
    | .bipush i => decide (len = 2 ∧ (Int8.ofInt i).toInt32 = Int32.ofInt n)
    | .sipush i => decide (len = 3 ∧ (Int16.ofInt i).toInt32 = Int32.ofInt n)
    | .ldc i => decide (len = 2) && z_at1 pl (.constant own i (Int32.ofInt n))
    | .ldc_w i => decide (len = 3) && z_at1 pl (.constant own i (Int32.ofInt n))
    | _ => false
  | .ldc2_w k => decide (z_pc cd (ip + 1) = pc + len) && match raw with
    | .lconst i => decide (len = 1 ∧ Int64.ofNat (i : Nat) = z_kl k)
    | .ldc2_w i => decide (len = 3) && z_at1 pl (.constantLong own i (z_kl k))
    | _ => false
  | .ldc k => decide (z_pc cd (ip + 1) = pc + len) && match raw with
    | .ldc i => decide (len = 2 ∧ 0 < k ∧ k < 43 ∧ (z_sk k).1 = own ∧ (z_sk k).2.1 = i)
    | _ => false
  | .iload k => decide (z_pc cd (ip + 1) = pc + len) && match raw with
    | .iload i => decide (len = 2 ∧ i = k)
    | .iload_n i => decide (len = 1 ∧ (i : Nat) = k)
    | _ => false
  | .lload k => decide (z_pc cd (ip + 1) = pc + len) && match raw with
    | .lload i => decide (len = 2 ∧ i = k)
    | .lload_n i => decide (len = 1 ∧ (i : Nat) = k)
    | _ => false
  | .aload k => decide (z_pc cd (ip + 1) = pc + len) && match raw with
    | .aload i => decide (len = 2 ∧ i = k)
    | .aload_n i => decide (len = 1 ∧ (i : Nat) = k)
    | _ => false
  | .istore k => decide (z_pc cd (ip + 1) = pc + len ∧ k < nL) && match raw with
    | .istore i => decide (len = 2 ∧ i = k)
    | .istore_n i => decide (len = 1 ∧ (i : Nat) = k)
    | _ => false
  | .lstore k => decide (z_pc cd (ip + 1) = pc + len ∧ k + 1 < nL) && match raw with
    | .lstore i => decide (len = 2 ∧ i = k)
    | .lstore_n i => decide (len = 1 ∧ (i : Nat) = k)
    | _ => false
  | .astore k => decide (z_pc cd (ip + 1) = pc + len ∧ k < nL) && match raw with
    | .astore i => decide (len = 2 ∧ i = k)
    | .astore_n i => decide (len = 1 ∧ (i : Nat) = k)
    | _ => false
  | .iinc k n => decide (raw = .iinc k n ∧ len = 3 ∧ z_pc cd (ip + 1) = pc + 3 ∧ k < nL)
  | .pop => decide (raw = .pop ∧ len = 1 ∧ z_pc cd (ip + 1) = pc + 1)
  | .pop2 => decide (len = 3 ∧ z_pc cd (ip + 1) = pc + 3) && match raw with
    | .invokespecial i => z_at1 pl (.methodLink own i objectInit)
    | _ => false
  | .if_icmp c t => decide (len = 3 ∧ z_pc cd (ip + 1) = pc + 3) && match raw with
    | .if_icmp c2 off => decide (c2 = c) && z_jp cd pc off t
    | _ => false
  | .ifCond c t => decide (len = 3 ∧ z_pc cd (ip + 1) = pc + 3) && match raw with
    | .ifCond c2 off => decide (c2 = c) && z_jp cd pc off t
    | _ => false
  | .ifnonnull t => decide (len = 3 ∧ z_pc cd (ip + 1) = pc + 3) && match raw with
    | .ifnonnull off => z_jp cd pc off t
    | _ => false
  | .goto t => decide (len = 3) && match raw with
    | .goto off => z_jp cd pc off t
    | _ => false
  | .tableswitch d lo hi ts => match raw with
    | .tableswitch d2 lo2 hi2 os => decide (lo2 = lo ∧ hi2 = hi ∧ os.size = ts.size ∧ hi + 1 = lo + ts.size) && z_jp cd pc d2 d && (List.range ts.size).all (fun i => match os[i]?, ts[i]? with
      | some a, some b => z_jp cd pc a b
      | _, _ => false)
    | _ => false
  | .getfield q => decide (len = 3 ∧ z_pc cd (ip + 1) = pc + 3) && match raw with
    | .getfield i => z_fld own i pl q && match q % 4, z_fk (q / 4096) (q / 4 % 1024) with
      | 0, 0 => true
      | 0, 3 => true
      | 1, 1 => true
      | 2, 2 => true
      | _, _ => false
    | _ => false
  | .putfield q => decide (len = 3 ∧ z_pc cd (ip + 1) = pc + 3) && match raw with
    | .putfield i => z_fld own i pl q && z_fin own ini q && match q % 4, z_fk (q / 4096) (q / 4 % 1024) with
      | 0, 0 => decide (z_fty q = some .int)
      | 3, 3 => decide (z_fty q = some .boolean)
      | 1, 1 => decide (z_fty q = some .long)
      | 2, 2 => z_isR (z_fty q)
      | _, _ => false
    | _ => false
  | .new ci => decide (len = 3 ∧ z_pc cd (ip + 1) = pc + 3) && match raw, zC[ci]? with
    | .new i, some r => z_at1 pl (.classLink own i r.1)
    | _, _ => false
  | .newarray t => decide (raw = .newarray t ∧ len = 2 ∧ z_pc cd (ip + 1) = pc + 2 ∧ (t = .int ∨ t = .byte ∨ t = .boolean ∨ t = .long))
  | .anewarray _ => decide (len = 3 ∧ z_pc cd (ip + 1) = pc + 3) && match raw with
    | .anewarray i => z_at1 pl (.classLink own i "LongBoats$Harbour")
    | _ => false
  | .invokedynamic q => decide (len = 3 ∧ z_pc cd (ip + 1) = pc + 3) && match q, raw with
    | 0, .invokestatic i => z_at1 pl (.methodLink own i Lib.Math.min.name)
    | 1, .invokestatic i => z_at1 pl (.methodLink own i Lib.Math.max.name)
    | 2, .invokestatic i => z_at1 pl (.methodLink own i Lib.Math.abs.name)
    | 3, .invokevirtual i => z_at1 pl (.methodLink own i ⟨"java/lang/String", "length", "()I"⟩)
    | 4, .invokevirtual i => z_at1 pl (.methodLink own i ⟨"java/lang/String", "charAt", "(I)C"⟩)
    | _, _ => false
  | .invokevirtual q => decide (len = 3 ∧ z_pc cd (ip + 1) = pc + 3) && match raw, z_np q with
    | .invokevirtual i, some n => z_sig q (n + 1) && z_cls q && decide (z_stc (q / 64 % 1000) = false ∧ (z_y (q / 64 % 1000)).name ≠ "<init>") && z_at1 pl (.methodLink own i (z_y (q / 64 % 1000)))
    | _, _ => false
  | .invokeinterface q _ => decide (len = 3 ∧ z_pc cd (ip + 1) = pc + 3 ∧ q % 4 = 1) && match raw, z_np q with
    | .invokevirtual i, some n => z_sig q (n + 1) && z_cls q && decide (z_stc (q / 64 % 1000) = false ∧ (z_y (q / 64 % 1000)).name ≠ "<init>") && z_at1 pl (.methodLink own i (z_y (q / 64 % 1000)))
    | _, _ => false
  | .invokestatic q => decide (len = 3 ∧ z_pc cd (ip + 1) = pc + 3) && match raw, z_np q with
    | .invokestatic i, some n => z_sig q n && decide (z_stc (q / 64 % 1000) = true) && z_lnk own i pl q
    | _, _ => false
  | .invokespecial q => decide (len = 3 ∧ z_pc cd (ip + 1) = pc + 3) && match raw, z_np q with
    | .invokespecial i, some n => z_sig q (n + 1) && z_cls q && decide (z_stc (q / 64 % 1000) = false ∧ (z_y (q / 64 % 1000)).name = "<init>" ∧ z_rty (q / 64 % 1000) = none) && z_lnk own i pl q
    | _, _ => false
  | .ireturn => decide (raw = .ireturn ∧ len = 1 ∧ rt = some .int)
  | .areturn => decide (raw = .ireturn ∧ len = 1 ∧ rt = some .boolean)
  | .lreturn => decide (raw = .lreturn ∧ len = 1 ∧ rt = some .long)
  | .return_ => decide (raw = .return_ ∧ len = 1 ∧ rt = none)
  | _ => false
/-- one place of a method's list -/
def z_ok1 (own : String) (cc : ByteArray) (nL : Nat) (ini : Bool) (rt : Option FieldType) (cd : List zI) (ip : Nat) (q : zI) : Bool := match q.2.2 with
  | .nop => decide (z_pc cd (ip + 1) = q.1)
  | ins => match decode cc q.1 with
    | .ok (raw, len) => z_okI own nL ini rt cd ip q.1 q.2.1 ins raw len
    | .error _ => false
def z_okL (own : String) (cc : ByteArray) (nL : Nat) (ini : Bool) (rt : Option FieldType) (cd : List zI) : Nat → List zI → Bool
  | _, [] => true
  | ip, q :: r => z_ok1 own cc nL ini rt cd ip q && z_okL own cc nL ini rt cd (ip + 1) r
/-- a method, by its number -/
def z_okM (k : Nat) : Bool := z_okL (z_y k).cls (z_by k) (z_ml k) (decide ((z_y k).name = "<init>")) (z_rty k) (z_cd k) 0 (z_cd k)
/-- the words of a method that any caller needs -/
def z_wdM (k : Nat) : Bool := z_at1 (z_pl k).1 (.code (z_y k) (z_by k) (z_ml k) (z_rty k)) && (bif z_stc k then z_at1 (z_pl k).2.1 (.static (z_y k)) else z_at1 (z_pl k).2.1 (.instanceMethod (z_y k))) && z_at1 (z_pl k).2.2.2 (.initialized (z_y k).cls) &&
  (z_stc k || decide ((z_y k).name = "<init>") || z_at1 (z_pl k).2.2.1 (.selects (z_y k).cls (z_y k) (z_y k))) && decide ((z_y k).cls ≠ "java/lang/invoke/MethodHandle" ∧ (z_y k).cls ≠ "java/lang/invoke/VarHandle") && plainName (z_y k).cls && decide (z_ml k ≤ 40)
/-- the pc of the first instruction is 0 -/
def z_hd (k : Nat) : Bool := decide (z_pc (z_cd k) 0 = 0)
