-- what an entry of a table must be, beside its bytes
def am_nar (md n : Nat) : Bool := decide ((parseMethodDescriptor (am_my md).desc).map (fun d => d.parameters.length) = some n)
def am_ek (own nL : Nat) (ini : Bool) (ret : Option FieldType) (pc : Nat) (i : Instr) (nx a b : Nat) (c : Int) (al : List (Nat × Nat)) : Bool := match i with
  | .iconst _ => nx == pc + 1
  | .bipush n => nx == pc + 2 && decide (-128 ≤ n) && decide (n < 128)
  | .sipush n => nx == pc + 3 && decide (-32768 ≤ n) && decide (n < 32768)
  | .lconst _ => nx == pc + 1
  | .ldc k => nx == pc + 2 && (match b with
    | 0 => decide ((own, k, c) ∈ am_kI)
    | _ => decide ((own, k, a) ∈ am_kS))
  | .ldc2_w k => nx == pc + 3 && decide ((own, k, c) ∈ am_kJ)
  | .iload _ => nx == pc + 2
  | .iload_n _ => nx == pc + 1
  | .lload _ => nx == pc + 2
  | .lload_n _ => nx == pc + 1
  | .aload _ => nx == pc + 2
  | .aload_n _ => nx == pc + 1
  | .istore k => nx == pc + 2 && decide (k < nL)
  | .istore_n k => nx == pc + 1 && decide (k.val < nL)
  | .lstore k => nx == pc + 2 && decide (k + 1 < nL)
  | .lstore_n k => nx == pc + 1 && decide (k.val + 1 < nL)
  | .astore k => nx == pc + 2 && decide (k < nL)
  | .astore_n k => nx == pc + 1 && decide (k.val < nL)
  | .iinc k _ => nx == pc + 3 && decide (k < nL)
  | .goto off => nx == pc + 3 && decide ((pc : Int) + off = (a : Int))
  | .if_icmp _ off => nx == pc + 3 && decide ((pc : Int) + off = (a : Int))
  | .ifCond _ off => nx == pc + 3 && decide ((pc : Int) + off = (a : Int))
  | .tableswitch dflt lo hi offs => decide ((pc : Int) + dflt = (a : Int)) && decide (al.map (fun q => ((q.1 : Nat) : Int)) = (List.range offs.size).map (fun (j : Nat) => lo + (j : Int))) && decide (al.map (fun q => ((q.2 : Nat) : Int)) = offs.toList.map (fun o => (pc : Int) + o)) && decide (hi + 1 = lo + (offs.size : Int))
  | .getfield k => nx == pc + 3 && decide ((own, k, a, b, c) ∈ am_kF)
  | .putfield k => nx == pc + 3 && decide ((own, k, a, b, c) ∈ am_kF) && (!(am_ft a (b - am_off a)).2.2.2 || (ini && decide (a = own)))
  | .iaload => nx == pc + 1 && a == 1000
  | .laload => nx == pc + 1 && a == 1001
  | .baload => nx == pc + 1 && (a == 1002 || a == 1003)
  | .aaload => nx == pc + 1 && a == 1004
  | .iastore => nx == pc + 1 && a == 1000
  | .lastore => nx == pc + 1 && a == 1001
  | .bastore => nx == pc + 1 && ((a == 1002 && c == 0) || (a == 1003 && c == 1))
  | .aastore => nx == pc + 1 && a == 1004 && b == 8
  | .arraylength => nx == pc + 1 && (a == 1000 || a == 1001 || a == 1002 || a == 1003 || a == 1004)
  | .new k => nx == pc + 3 && decide ((own, k, a, b) ∈ am_kN)
  | .newarray t => nx == pc + 2 && (match t with
    | .int => a == 1000
    | .long => a == 1001
    | .boolean => a == 1002
    | .byte => a == 1003
    | _ => false)
  | .anewarray k => nx == pc + 3 && a == 1004 && decide ((own, k) ∈ am_kA)
  | .invokestatic k => nx == pc + 3 && (match al with
    | [(_, md)] => (md == 1000 && decide ((own, k) ∈ am_kP)) || (decide ((own, k, md) ∈ am_kM)) || ((decide ((own, k, md) ∈ am_k0) || decide ((own, k, md) ∈ am_k0n)) && am_nar md b)
    | _ => false)
  | .invokespecial k => nx == pc + 3 && (match al with
    | [(_, md)] => (md == 1005 && decide ((own, k) ∈ am_k1o)) || ((decide ((own, k, md) ∈ am_k1) || decide ((own, k, md) ∈ am_k1n)) && decide (1 ≤ b) && am_nar md (b - 1))
    | _ => false)
  | .invokevirtual k => nx == pc + 3 && decide (1 ≤ b) && (match c with
    | 0 => al.all (fun q => (decide ((own, k, q.1, q.2) ∈ am_k2) || decide ((own, k, q.1, q.2) ∈ am_kU) || decide ((own, k, q.1, q.2) ∈ am_kV)) && am_nar q.2 (b - 1))
    | _ => match al with
      | [(_, md)] => decide ((own, k, (md : Int)) ∈ am_kT)
      | _ => false)
  | .ireturn => nx == pc + 1 && ((c == 0 && decide (ret = some .int)) || (c == 1 && decide (ret = some .boolean)))
  | .lreturn => nx == pc + 1 && decide (ret = some .long)
  | .return_ => nx == pc + 1 && decide (ret = none)
  | .iadd => nx == pc + 1
  | .isub => nx == pc + 1
  | .imul => nx == pc + 1
  | .idiv => nx == pc + 1
  | .irem => nx == pc + 1
  | .ineg => nx == pc + 1
  | .iand => nx == pc + 1
  | .ior => nx == pc + 1
  | .ishl => nx == pc + 1
  | .ishr => nx == pc + 1
  | .land => nx == pc + 1
  | .lor => nx == pc + 1
  | .lshl => nx == pc + 1
  | .lshr => nx == pc + 1
  | .lcmp => nx == pc + 1
  | .i2l => nx == pc + 1
  | .l2i => nx == pc + 1
  | .i2b => nx == pc + 1
  | .dup => nx == pc + 1
  | .dup2 => nx == pc + 1
  | .pop => nx == pc + 1
  | _ => false
def am_e1 (md : Nat) (nL : Nat) (T : am_T) (pc : Nat) : Bool := match T pc with
  | none => true
  | some (i, nx, a, b, c, al) => decide (decode (am_mb md) pc = .ok (i, nx - pc)) && am_ek (am_mo md) nL ((am_my md).name == "<init>") (am_mr md) pc i nx a b c al
/-- a method's table is right -/
def am_gd (md : Nat) : Bool := match am_prog md with
  | none => true
  | some (nL, T) => nL == am_ml md && decide (nL ≤ 15) && (List.range (am_mb md).size).all (am_e1 md nL T)
