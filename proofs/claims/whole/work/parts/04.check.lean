/-! each method's entries stand in its bytes, and what they need of the tables is there -/
def z_ilen : Instr → Nat
  | .iload _ => 2
  | .lload _ => 2
  | .aload _ => 2
  | .istore _ => 2
  | .lstore _ => 2
  | .bipush _ => 2
  | .iinc _ _ => 3
  | .sipush _ => 3
  | .ldc_w _ => 3
  | .ldc2_w _ => 3
  | .goto _ => 3
  | .ifCond _ _ => 3
  | .if_icmp _ _ => 3
  | .getfield _ => 3
  | .putfield _ => 3
  | .getstatic _ => 3
  | .invokevirtual _ => 3
  | .invokestatic _ => 3
  | .new _ => 0
  | .invokespecial _ => 0
  | .invokedynamic _ => 0
  | .ldc _ => 0
  | .tableswitch _ _ _ _ => 0
  | .lookupswitch _ _ => 0
  | _ => 1
def z_np (y : MethodName) : Option Nat := (parseMethodDescriptor y.desc).map fun d => d.parameters.length
def z_rk (r : Option FieldType) : Nat := match r with
  | none => 0
  | some .int => 1
  | some .boolean => 1
  | some .long => 2
  | _ => 3
def z_cnm (o : Nat) : String := match z_nth z_cl (z_cix o) with
  | some q => q.1
  | none => ""
/-- a field's link: field j of the class of the object o -/
def z_chkF (own : String) (ix j o : Nat) (lk : Nat × Nat) (P : String × String × String × Bool → Bool) : Bool := match z_nth z_cl (z_cix o) with
  | some q => Nat.blt j q.2.2 && (z_wd lk (.fieldLink own ix (q.2.1 j).1 (q.2.1 j).2.1 (q.2.1 j).2.2.1) && (Nat.beq (z_knd o) 0 && (z_all.contains o && P (q.2.1 j))))
  | none => false
def z_chkE (own : String) (bytes : ByteArray) (mL : Nat) (rt : Option FieldType) (e : z_E) : Bool := match e with
  | (pc, ((ins, len), ((x1, (x2, x3)), lk))) => decide (decode bytes pc = .ok (ins, len)) && ((Nat.beq (z_ilen ins) 0 || Nat.beq (z_ilen ins) len) && match ins with
    | .goto o => decide (0 ≤ (pc : Int) + o)
    | .ifCond _ o => decide (0 ≤ (pc : Int) + o)
    | .if_icmp _ o => decide (0 ≤ (pc : Int) + o)
    | .tableswitch df lo hi os => decide (0 ≤ (pc : Int) + df) && (os.toList.all (fun o => decide (0 ≤ (pc : Int) + o)) && (decide (hi + 1 - lo = (os.toList.length : Int)) && decide (-2147483648 ≤ lo ∧ hi < 2147483648)))
    | .lookupswitch df ps => decide (0 ≤ (pc : Int) + df) && (ps.toList.all (fun o => decide (0 ≤ (pc : Int) + o.2)) && (ps.toList.zip (ps.toList.drop 1)).all (fun (a, next) => a.1 < next.1))
    | .istore_n n => Nat.blt n mL
    | .istore n => Nat.blt n mL
    | .lstore_n n => Nat.blt (n + 1) mL
    | .lstore n => Nat.blt (n + 1) mL
    | .iinc i n => Nat.blt i mL && decide (-32768 ≤ n ∧ n < 32768)
    | .iconst n => decide (-128 ≤ n ∧ n < 128)
    | .bipush n => decide (-128 ≤ n ∧ n < 128)
    | .sipush n => decide (-32768 ≤ n ∧ n < 32768)
    | .getfield ix => z_chkF own ix x1 x2 lk (fun f => decide (z_nth (z_fts x2) x1 = some x3) && ((Nat.beq x3 0 && (decide (f.2.2.1 = "I") || decide (f.2.2.1 = "Z"))) || (! Nat.beq x3 0 && z_all.contains x3)))
    | .putfield ix => z_chkF own ix x1 x2 lk (fun f => decide (z_nth (z_fts x2) x1 = some 0) && (! f.2.2.2 && ((Nat.beq x3 0 && decide (f.2.2.1 = "I")) || (Nat.beq x3 1 && decide (f.2.2.1 = "Z")))))
    | .getstatic ix => z_cons.contains x1 && z_wd lk (.fieldLink own ix (z_sn x1).1 (z_sn x1).2.1 (z_sn x1).2.2)
    | .ldc_w ix => Nat.blt x1 2147483648 && z_wd lk (.constant own ix (Int32.ofInt (Int.ofNat x1)))
    | .ldc2_w ix => Nat.blt x1 9223372036854775808 && (if x2 = 0 then z_wd lk (.constantLong own ix (Int64.ofInt (Int.ofNat x1))) else z_wd lk (.constantLong own ix (Int64.ofInt (-(Int.ofNat x1)))))
    | .invokevirtual ix => (match z_nth z_mt x1 with
      | none => true
      | some t => ! t.2.2.2.2.2.1 && (decide ((z_np t.1).map (· + 1) = some x2) && (Nat.beq (x3 % 10) (z_rk t.2.2.2.1) && (Nat.beq (z_knd (x3 / 10)) 0 && (z_all.contains (x3 / 10) && (decide (z_cnm (x3 / 10) = t.1.cls) && z_wd lk (.methodLink own ix t.1)))))))
    | .invokestatic ix => (match x1 with
      | 1001 => z_wd lk (.methodLink own ix Lib.Math.max.name)
      | 1002 => z_wd lk (.methodLink own ix Lib.Math.min.name)
      | 1003 => z_wd lk (.methodLink own ix Lib.Math.abs.name)
      | 1004 => z_wd lk (.methodLink own ix arraycopyName)
      | _ => (match z_nth z_mt x1 with
        | none => true
        | some t => t.2.2.2.2.2.1 && (decide (z_np t.1 = some x2) && (Nat.beq x3 (z_rk t.2.2.2.1) && (z_wd lk (.methodLink own ix t.1) || decide (z_nth z_nest lk.2 = some (.methodLinkNest own ix t.1 "DayMuseum")))))))
    | .ireturn => (Nat.beq x1 0 && decide (rt = some .int)) || (Nat.beq x1 1 && decide (rt = some .boolean))
    | .lreturn => decide (rt = some .long)
    | .return_ => decide (rt = none)
    | _ => true)
def z_chain : List z_E → Bool
  | [] => true
  | [_] => true
  | e :: f :: t => Nat.beq f.1 (e.1 + e.2.1.2) && z_chain (f :: t)
def z_chkM (t : z_MT) : Bool := match t with
  | (y, (b, (mL, (rt, (c, (st, ws)))))) => c.all (z_chkE y.cls b mL rt) && (z_chain c && ((match c with | [] => false | e :: _ => Nat.beq e.1 0) && (Nat.ble mL 30 && (decide (y.cls ≠ "java/lang/invoke/MethodHandle" ∧ y.cls ≠ "java/lang/invoke/VarHandle") && (plainName y.cls && (match ws with
    | [w0, w1, w2, w3] => z_wd w0 (.code y b mL rt) && (z_wd w1 (.initialized y.cls) && (if st then z_wd w2 (.static y) else z_wd w2 (.instanceMethod y) && z_wd w3 (.selects y.cls y y)))
    | _ => false))))))

