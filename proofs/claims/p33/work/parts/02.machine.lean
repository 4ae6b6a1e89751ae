/-! THE PURE MACHINE: configurations (pc, locals, stack, cells, how many cells and slots are new), a step of an instruction as a function, runs of several steps along given branches; 'mj_G': from this configuration the machine comes to its end. Locals are a dense list, mj_u where nothing is known. References are places in the list of cells. -/
abbrev mj_Cl : Type := (FieldType × vp_A) ⊕ (Nat × List Value)
abbrev mj_H : Type := List mj_Cl
abbrev mj_S : Type := Nat × List Value × List Value × mj_H × Nat × Nat
def mj_clr (L : List Value) (i : Nat) : List Value := match i with
  | 0 => L
  | k + 1 => match L[k]? with
    | some w => if w.category = 2 then L.set k mj_u else L
    | none => L
def mj_put1 (L : List Value) (i : Nat) (v : Value) : List Value := (mj_clr L i).set i v
def mj_put2 (L : List Value) (i : Nat) (v : Value) : List Value := ((mj_clr L i).set (i + 1) mj_u).set i v
def mj_isB : Instr → Bool
  | .ifCond _ _ => true
  | .if_icmp _ _ => true
  | _ => false
def mj_c1 : Jvm.ClassFile.Cond → Int32 → Prop
  | .eq, x => x = 0
  | .ne, x => ¬ x = 0
  | .lt, x => x < 0
  | .ge, x => 0 ≤ x
  | .gt, x => 0 < x
  | .le, x => x ≤ 0
def mj_c2 : Jvm.ClassFile.Cond → Int32 → Int32 → Prop
  | .eq, x, y => x = y
  | .ne, x, y => ¬ x = y
  | .lt, x, y => x < y
  | .ge, x, y => y ≤ x
  | .gt, x, y => y < x
  | .le, x, y => x ≤ y
def mj_step (RC RS : Nat) (i : mj_I) (d : Bool) (g : mj_S) : Option (Option Prop × mj_S) :=
  match g, i with
  | (pc, L, st, h, cc, cs), (ins, _, a, b, _, v) =>
  match ins with
  | .iconst _ => some (none, (pc + 1, L, v :: st, h, cc, cs))
  | .bipush _ => some (none, (pc + 2, L, v :: st, h, cc, cs))
  | .sipush _ => some (none, (pc + 3, L, v :: st, h, cc, cs))
  | .ldc _ => match v with | .int x => some (none, (pc + 2, L, .int x :: st, h, cc, cs)) | _ => none
  | .ldc2_w _ => some (none, (pc + 3, L, v :: st, h, cc, cs))
  | .lconst _ => some (none, (pc + 1, L, v :: st, h, cc, cs))
  | .dconst _ => some (none, (pc + 1, L, v :: st, h, cc, cs))
  | .i2d => match st with | .int x :: r => some (none, (pc + 1, L, .double (FP.i2d x) :: r, h, cc, cs)) | _ => none
  | .ddiv => match st with | .double y :: .double x :: r => some (some (vf_n64 (FP.ddiv x y)), (pc + 1, L, .double (FP.ddiv x y) :: r, h, cc, cs)) | _ => none
  | .dcmp op => match st with | .double y :: .double x :: r => some (none, (pc + 1, L, .int (Op.cmpValue (FP.dcmp x y) op) :: r, h, cc, cs)) | _ => none
  | .iload _ => match L[a]? with | some (.int x) => some (none, (pc + 2, L, .int x :: st, h, cc, cs)) | _ => none
  | .iload_n _ => match L[a]? with | some (.int x) => some (none, (pc + 1, L, .int x :: st, h, cc, cs)) | _ => none
  | .lload _ => match L[a]? with | some (.long x) => some (none, (pc + 2, L, .long x :: st, h, cc, cs)) | _ => none
  | .lload_n _ => match L[a]? with | some (.long x) => some (none, (pc + 1, L, .long x :: st, h, cc, cs)) | _ => none
  | .dload _ => match L[a]? with | some (.double x) => some (none, (pc + 2, L, .double x :: st, h, cc, cs)) | _ => none
  | .aload _ => match L[a]? with | some (.ref x) => some (none, (pc + 2, L, .ref x :: st, h, cc, cs)) | _ => none
  | .aload_n _ => match L[a]? with | some (.ref x) => some (none, (pc + 1, L, .ref x :: st, h, cc, cs)) | _ => none
  | .istore _ => match st with | .int x :: r => some (none, (pc + 2, mj_put1 L a (.int x), r, h, cc, cs)) | _ => none
  | .istore_n _ => match st with | .int x :: r => some (none, (pc + 1, mj_put1 L a (.int x), r, h, cc, cs)) | _ => none
  | .astore _ => match st with | .ref x :: r => some (none, (pc + 2, mj_put1 L a (.ref x), r, h, cc, cs)) | _ => none
  | .astore_n _ => match st with | .ref x :: r => some (none, (pc + 1, mj_put1 L a (.ref x), r, h, cc, cs)) | _ => none
  | .lstore _ => match st with | .long x :: r => some (none, (pc + 2, mj_put2 L a (.long x), r, h, cc, cs)) | _ => none
  | .lstore_n _ => match st with | .long x :: r => some (none, (pc + 1, mj_put2 L a (.long x), r, h, cc, cs)) | _ => none
  | .dstore _ => match st with | .double x :: r => some (none, (pc + 2, mj_put2 L a (.double x), r, h, cc, cs)) | _ => none
  | .iinc _ _ => match L[a]?, v with | some (.int x), .int n => some (none, (pc + 3, mj_put1 L a (.int (x + n)), st, h, cc, cs)) | _, _ => none
  | .iadd => match st with | .int y :: .int x :: r => some (none, (pc + 1, L, .int (x + y) :: r, h, cc, cs)) | _ => none
  | .isub => match st with | .int y :: .int x :: r => some (none, (pc + 1, L, .int (x - y) :: r, h, cc, cs)) | _ => none
  | .imul => match st with | .int y :: .int x :: r => some (none, (pc + 1, L, .int (x * y) :: r, h, cc, cs)) | _ => none
  | .iand => match st with | .int y :: .int x :: r => some (none, (pc + 1, L, .int (x &&& y) :: r, h, cc, cs)) | _ => none
  | .ixor => match st with | .int y :: .int x :: r => some (none, (pc + 1, L, .int (x ^^^ y) :: r, h, cc, cs)) | _ => none
  | .ishr => match st with | .int y :: .int x :: r => some (none, (pc + 1, L, .int (x >>> (y &&& 31)) :: r, h, cc, cs)) | _ => none
  | .idiv => match st with | .int y :: .int x :: r => some (some (¬ y = 0), (pc + 1, L, .int (x / y) :: r, h, cc, cs)) | _ => none
  | .irem => match st with | .int y :: .int x :: r => some (some (¬ y = 0), (pc + 1, L, .int (x - x / y * y) :: r, h, cc, cs)) | _ => none
  | .ineg => match st with | .int x :: r => some (none, (pc + 1, L, .int (-x) :: r, h, cc, cs)) | _ => none
  | .i2l => match st with | .int x :: r => some (none, (pc + 1, L, .long x.toInt64 :: r, h, cc, cs)) | _ => none
  | .ladd => match st with | .long y :: .long x :: r => some (none, (pc + 1, L, .long (x + y) :: r, h, cc, cs)) | _ => none
  | .lmul => match st with | .long y :: .long x :: r => some (none, (pc + 1, L, .long (x * y) :: r, h, cc, cs)) | _ => none
  | .lcmp => match st with | .long y :: .long x :: r => some (none, (pc + 1, L, .int (lg_cmp x y) :: r, h, cc, cs)) | _ => none
  | .dup => match st with
    | .int x :: r => some (none, (pc + 1, L, .int x :: .int x :: r, h, cc, cs))
    | .ref x :: r => some (none, (pc + 1, L, .ref x :: .ref x :: r, h, cc, cs))
    | _ => none
  | .dup2 => match st with
    | .int x :: .ref y :: r => some (none, (pc + 1, L, .int x :: .ref y :: .int x :: .ref y :: r, h, cc, cs))
    | _ => none
  | .pop => match st with
    | .int _ :: r => some (none, (pc + 1, L, r, h, cc, cs))
    | .ref _ :: r => some (none, (pc + 1, L, r, h, cc, cs))
    | _ => none
  | .ifCond c _ => match st with | .int x :: r => (match d with | true => some (some (mj_c1 c x), (a, L, r, h, cc, cs)) | false => some (some (¬ mj_c1 c x), (pc + 3, L, r, h, cc, cs))) | _ => none
  | .if_icmp c _ => match st with | .int y :: .int x :: r => (match d with | true => some (some (mj_c2 c x y), (a, L, r, h, cc, cs)) | false => some (some (¬ mj_c2 c x y), (pc + 3, L, r, h, cc, cs))) | _ => none
  | .goto _ => some (none, (a, L, st, h, cc, cs))
  | .iaload => match st with
    | .int x :: .ref q :: r => (match h[q]? with | some (.inl (.int, N, .inl f)) => some (some (vp_in x N), (pc + 1, L, .int (f x.toNatClampNeg) :: r, h, cc, cs)) | _ => none)
    | _ => none
  | .baload => match st with
    | .int x :: .ref q :: r => (match h[q]?, Nat.ble mj_NE q with | some (.inl (.boolean, N, .inl f)), true => some (some (vp_in x N), (pc + 1, L, .int (f x.toNatClampNeg) :: r, h, cc, cs)) | _, _ => none)
    | _ => none
  | .laload => match st with
    | .int x :: .ref q :: r => (match h[q]?, Nat.ble mj_NE q with | some (.inl (.long, N, .inr (.inl f))), true => some (some (vp_in x N), (pc + 1, L, .long (f x.toNatClampNeg) :: r, h, cc, cs)) | _, _ => none)
    | _ => none
  | .iastore => match st with
    | .int z :: .int x :: .ref q :: r => (match h[q]?, Nat.ble mj_NE q with | some (.inl (.int, N, .inl f)), true => some (some (vp_in x N), (pc + 1, L, r, h.set q (.inl (.int, N, .inl (upd f x.toNatClampNeg z))), cc, cs)) | _, _ => none)
    | _ => none
  | .bastore => match st with
    | .int z :: .int x :: .ref q :: r => (match h[q]?, Nat.ble mj_NE q with | some (.inl (.boolean, N, .inl f)), true => some (some (vp_in x N), (pc + 1, L, r, h.set q (.inl (.boolean, N, .inl (upd f x.toNatClampNeg (vp_nar .boolean z)))), cc, cs)) | _, _ => none)
    | _ => none
  | .lastore => match st with
    | .long z :: .int x :: .ref q :: r => (match h[q]?, Nat.ble mj_NE q with | some (.inl (.long, N, .inr (.inl f))), true => some (some (vp_in x N), (pc + 1, L, r, h.set q (.inl (.long, N, .inr (.inl (vp_updL f x.toNatClampNeg z)))), cc, cs)) | _, _ => none)
    | _ => none
  | .arraylength => match st with
    | .ref q :: r => (match h[q]? with | some (.inl (.int, N, .inl _)) => some (none, (pc + 1, L, .int (Int32.ofNat N) :: r, h, cc, cs)) | _ => none)
    | _ => none
  | .getstatic _ => some (none, (pc + 3, L, .ref a :: st, h, cc, cs))
  | .getfield _ => match st with
    | .ref q :: r => (match h[q]?, Nat.ble mj_NE q with
      | some (.inr (ci, fs)), true => (match Nat.beq ci a, fs[b]? with | true, some w => some (none, (pc + 3, L, w :: r, h, cc, cs)) | _, _ => none)
      | _, _ => none)
    | _ => none
  | .putfield _ => match st with
    | w :: .ref q :: r => (match h[q]?, Nat.ble mj_NE q with
      | some (.inr (ci, fs)), true => (match Nat.beq ci a, Nat.blt b fs.length, v, w with
        | true, true, .int _, .int y => some (none, (pc + 3, L, r, h.set q (.inr (ci, fs.set b (.int y))), cc, cs))
        | true, true, .null, .ref y => some (none, (pc + 3, L, r, h.set q (.inr (ci, fs.set b (.ref y))), cc, cs))
        | _, _, _, _ => none)
      | _, _ => none)
    | _ => none
  | .newarray ty => match st, ty with
    | .int n :: r, .int => some (some (¬ n < 0 ∧ n.toNatClampNeg ≤ 1000000 ∧ cc + 1 ≤ RC ∧ cs + n.toNatClampNeg ≤ RS), (pc + 2, L, .ref h.length :: r, h ++ [.inl (.int, n.toNatClampNeg, .inl (fun _ => 0))], cc + 1, cs + n.toNatClampNeg))
    | .int n :: r, .boolean => some (some (¬ n < 0 ∧ n.toNatClampNeg ≤ 1000000 ∧ cc + 1 ≤ RC ∧ cs + n.toNatClampNeg ≤ RS), (pc + 2, L, .ref h.length :: r, h ++ [.inl (.boolean, n.toNatClampNeg, .inl (fun _ => 0))], cc + 1, cs + n.toNatClampNeg))
    | .int n :: r, .long => some (some (¬ n < 0 ∧ n.toNatClampNeg ≤ 1000000 ∧ cc + 1 ≤ RC ∧ cs + n.toNatClampNeg ≤ RS), (pc + 2, L, .ref h.length :: r, h ++ [.inl (.long, n.toNatClampNeg, .inr (.inl (fun _ => 0)))], cc + 1, cs + n.toNatClampNeg))
    | _, _ => none
  | .new _ => match mj_df[a]? with
    | some fs => some (some (cc + 1 ≤ RC ∧ cs + fs.length ≤ RS), (pc + 3, L, .ref h.length :: st, h ++ [.inr (a, fs)], cc + 1, cs + fs.length))
    | none => none
  | _ => none
def mj_and : Option Prop → Prop → Prop
  | none, q => q
  | some p, q => p ∧ q
def mj_isE : Instr → Bool
  | .ireturn => true
  | .lreturn => true
  | .dreturn => true
  | .areturn => true
  | .return_ => true
  | .athrow => true
  | .invokevirtual _ => true
  | .invokespecial _ => true
  | .invokestatic _ => true
  | .tableswitch _ _ _ _ => true
  | _ => false
/-- come to the row 'stop', or, where that is 9999, to a call or a return -/
def mj_hit (C : Nat → Option mj_I) (stop pc : Nat) : Bool := match Nat.beq stop 9999 with
  | false => Nat.beq pc stop
  | true => (match C pc with | some i => mj_isE i.1 | none => false)
/-- as many steps as it takes to come to 'stop' along the branches ds -/
def mj_run (C : Nat → Option mj_I) (RC RS stop : Nat) : Nat → List Bool → mj_S → Option (Prop × mj_S)
  | 0, _, _ => none
  | n + 1, ds, g => match C g.1 with
    | none => none
    | some i => match mj_isB i.1, ds with
      | true, [] => none
      | true, d :: ds' => (match mj_step RC RS i d g with
        | none => none
        | some (p, g') => (match mj_hit C stop g'.1, ds' with
          | true, [] => some (mj_and p True, g')
          | _, _ => (match mj_run C RC RS stop n ds' g' with
            | none => none
            | some (q, g2) => some (mj_and p q, g2))))
      | false, ds => (match mj_step RC RS i true g with
        | none => none
        | some (p, g') => (match mj_hit C stop g'.1, ds with
          | true, [] => some (mj_and p True, g')
          | _, _ => (match mj_run C RC RS stop n ds g' with
            | none => none
            | some (q, g2) => some (mj_and p q, g2))))
/-- where an instruction's own words stand in the tables, and what its numbers mean -/
def mj_okI (own : String) (ini : Bool) (cc : ByteArray) (pc : Nat) (i : mj_I) : Bool := match i with
  | (ins, len, a, b, w, v) => decide (decode cc pc = .ok (ins, len)) && (match ins with
  | .iconst n => len == 1 && decide (v = .int (Int32.ofInt n))
  | .bipush n => len == 2 && decide (v = .int (Int8.ofInt n).toInt32)
  | .sipush n => len == 3 && decide (v = .int (Int16.ofInt n).toInt32)
  | .lconst n => len == 1 && decide (v = .long (Int64.ofNat (n : Nat)))
  | .dconst n => len == 1 && decide (n = 0 ∧ v = .double FP.dconst0)
  | .ldc idx => len == 2 && (match v with | .int x => decide (lw_tbl[w]? = some (Cond.constant own idx x)) | _ => true)
  | .ldc2_w idx => len == 3 && (match v with | .long x => decide (lw_tbl[w]? = some (Cond.constantLong own idx x)) | _ => false)
  | .iload k => len == 2 && a == k
  | .iload_n k => len == 1 && a == (k : Nat)
  | .lload k => len == 2 && a == k
  | .lload_n k => len == 1 && a == (k : Nat)
  | .dload k => len == 2 && a == k
  | .aload k => len == 2 && a == k
  | .aload_n k => len == 1 && a == (k : Nat)
  | .istore k => len == 2 && a == k
  | .istore_n k => len == 1 && a == (k : Nat)
  | .astore k => len == 2 && a == k
  | .astore_n k => len == 1 && a == (k : Nat)
  | .lstore k => len == 2 && a == k
  | .lstore_n k => len == 1 && a == (k : Nat)
  | .dstore k => len == 2 && a == k
  | .iinc k n => len == 3 && a == k && decide (v = .int (Int32.ofInt n))
  | .ifCond _ off => len == 3 && decide ((pc : Int) + off = (a : Int))
  | .if_icmp _ off => len == 3 && decide ((pc : Int) + off = (a : Int))
  | .goto off => len == 3 && decide ((pc : Int) + off = (a : Int))
  | .getstatic idx => len == 3 && (match mj_st[a]? with
    | some (C, n, d) => (match b with | 0 => decide (lw_tbl[w]? = some (Cond.fieldLink own idx C n d)) | _ => mj_nest.any (fun z => match z with | .fieldLinkNest o i C' n' d' _ => decide (o = own ∧ i = idx ∧ C' = C ∧ n' = n ∧ d' = d) | _ => false))
    | none => false)
  | .getfield idx => len == 3 && (match mj_cl[a]? with | some (C, T, N) => decide (b < N) && decide (lw_tbl[w]? = some (Cond.fieldLink own idx (T b).1 (T b).2.1 (T b).2.2.1)) | none => false)
  | .putfield idx => len == 3 && (match mj_cl[a]? with | some (C, T, N) => decide (b < N) && decide (lw_tbl[w]? = some (Cond.fieldLink own idx (T b).1 (T b).2.1 (T b).2.2.1)) && (!(T b).2.2.2 || (ini && decide (own = (T b).1))) && (match v, parseFieldDescriptor (T b).2.2.1 with | .int _, some .int => true | .null, some (.object _) => true | .null, some (.array _) => true | _, _ => false) | none => false)
  | .newarray ty => len == 2 && decide (newarray.typeOf ty ∈ mj_tyl)
  | .iaload => len == 1 && decide (FieldType.int ∈ mj_tyl)
  | .iastore => len == 1 && decide (FieldType.int ∈ mj_tyl)
  | .baload => len == 1 && decide (FieldType.boolean ∈ mj_tyl)
  | .bastore => len == 1 && decide (FieldType.boolean ∈ mj_tyl)
  | .laload => len == 1 && decide (FieldType.long ∈ mj_tyl)
  | .lastore => len == 1 && decide (FieldType.long ∈ mj_tyl)
  | .arraylength => len == 1 && decide (FieldType.int ∈ mj_tyl)
  | .new idx => len == 3 && (match mj_cl[a]?, mj_df[a]?, mj_np[a]? with | some (C, T, N), some fs, some (p1, p2) => decide (lw_tbl[w]? = some (Cond.classLink own idx C)) && decide (lw_tbl[p1]? = some (Cond.instantiable C N)) && decide (lw_tbl[p2]? = some (Cond.initialized C)) && decide (fs.length = N) && (List.range N).all (fun j => decide ((parseFieldDescriptor (T j).2.2.1).map defaultValue = fs[j]?)) | _, none, _ => true | _, _, _ => false)
  | .invokevirtual _ => len == 3
  | .invokespecial _ => len == 3
  | .invokestatic _ => len == 3
  | _ => len == 1 || len == 3 || decide (4 < len))
/-- a store's place is among the locals; rows of one byte are one byte long; no text is loaded -/
def mj_fitL (nL : Nat) (i : mj_I) : Bool := match i with
  | (ins, len, a, _, _, v) => match ins with
  | .istore _ => decide (a < nL)
  | .istore_n _ => decide (a < nL)
  | .astore _ => decide (a < nL)
  | .astore_n _ => decide (a < nL)
  | .lstore _ => decide (a + 1 < nL)
  | .lstore_n _ => decide (a + 1 < nL)
  | .dstore _ => decide (a + 1 < nL)
  | .iinc _ _ => decide (a < nL)
  | .iadd => len == 1
  | .isub => len == 1
  | .imul => len == 1
  | .iand => len == 1
  | .ixor => len == 1
  | .ishr => len == 1
  | .ladd => len == 1
  | .lmul => len == 1
  | .lcmp => len == 1
  | .idiv => len == 1
  | .irem => len == 1
  | .ineg => len == 1
  | .i2l => len == 1
  | .i2d => len == 1
  | .ddiv => len == 1
  | .dcmp _ => len == 1
  | .dup => len == 1
  | .dup2 => len == 1
  | .pop => len == 1
  | _ => true
