/-! THE SMALL MACHINE: values, memory, one step of an instruction as what must hold -/
abbrev z_M : Type := Nat → Int → Int
abbrev z_V : Type := Int ⊕ (Int ⊕ (Nat ⊕ Unit))
abbrev z_I (x : Int) : z_V := Sum.inl x
abbrev z_J (x : Int) : z_V := Sum.inr (Sum.inl x)
abbrev z_R (k : Nat) : z_V := Sum.inr (Sum.inr (Sum.inl k))
abbrev z_U : z_V := Sum.inr (Sum.inr (Sum.inr ()))
def z_len (a : Nat) : Nat := a / 10000
def z_knd (a : Nat) : Nat := a / 1000 % 10
def z_w (x : Int) : Int := Int.bmod x 4294967296
def z_wl (x : Int) : Int := Int.bmod x 18446744073709551616
def z_wb (x : Int) : Int := Int.bmod x 256
def z_and (x y : Int) : Int := (Int32.ofInt x &&& Int32.ofInt y).toInt
def z_or (x y : Int) : Int := (Int32.ofInt x ||| Int32.ofInt y).toInt
def z_xor (x y : Int) : Int := (Int32.ofInt x ^^^ Int32.ofInt y).toInt
def z_shl (x y : Int) : Int := (Int32.ofInt x <<< (Int32.ofInt y &&& 31)).toInt
def z_shr (x y : Int) : Int := (Int32.ofInt x >>> (Int32.ofInt y &&& 31)).toInt
def z_ushr (x y : Int) : Int := (((Int32.ofInt x).toUInt32 >>> ((Int32.ofInt y).toUInt32 &&& Int32.toUInt32 31)).toInt32).toInt
def z_andl (x y : Int) : Int := (Int64.ofInt x &&& Int64.ofInt y).toInt
def z_orl (x y : Int) : Int := (Int64.ofInt x ||| Int64.ofInt y).toInt
def z_xorl (x y : Int) : Int := (Int64.ofInt x ^^^ Int64.ofInt y).toInt
def z_shll (x y : Int) : Int := (Int64.ofInt x <<< ((Int32.ofInt y).toInt64 &&& 63)).toInt
def z_ushrl (x y : Int) : Int := (((Int64.ofInt x).toUInt64 >>> ((Int32.ofInt y).toInt64.toUInt64 &&& Int64.toUInt64 63)).toInt64).toInt
def z_cmp (x y : Int) : Int := if x < y then -1 else if x = y then 0 else 1
def z_max (x y : Int) : Int := if x < y then y else x
def z_min (x y : Int) : Int := if y < x then y else x
def z_abs (x : Int) : Int := if x < 0 then z_w (-x) else x
/-- the static arrays that nobody writes -/
def z_cl1 : List Int := [1, 1, 0, -1, -1, -1, 0, 1]
def z_cl2 : List Int := [0, 1, 1, 1, 0, -1, -1, -1]
def z_cl3 : List Int := [116, 113, 117, 112, 120, 121]
def z_cv (a : Nat) (i : Int) : Int := match a with
  | 86901 => z_cl1.getD i.toNat 0
  | 86902 => z_cl2.getD i.toNat 0
  | 67903 => z_cl3.getD i.toNat 0
  | _ => 0
def z_up (M : z_M) (a : Nat) (i x : Int) : z_M := fun b j => if b = a then (if j = i then x else M b j) else M b j
def z_cp (M : z_M) (a : Nat) (i : Int) (b : Nat) (j n : Int) : z_M := fun c k => if c = b then (if j ≤ k ∧ k < j + n then M a (i + (k - j)) else M c k) else M c k
/-! locals -/
def z_kl : z_V → z_V
  | .inr (.inl _) => z_U
  | v => v
def z_st : List z_V → Nat → z_V → List z_V
  | [], _, _ => []
  | _ :: t, 0, v => v :: t
  | [a], 1, _ => [a]
  | a :: _ :: t, 1, v => z_kl a :: v :: t
  | a :: t, n + 2, v => a :: z_st t (n + 1) v
def z_st2 (L : List z_V) (i : Nat) (v : z_V) : List z_V := (z_st L i v).set (i + 1) z_U
def z_ldi (L : List z_V) (i : Nat) (K : Int → Prop) : Prop := match z_nth L i with
  | some (.inl x) => K x
  | _ => False
def z_ldl (L : List z_V) (i : Nat) (K : Int → Prop) : Prop := match z_nth L i with
  | some (.inr (.inl x)) => K x
  | _ => False
def z_lda (L : List z_V) (i : Nat) (K : Nat → Prop) : Prop := match z_nth L i with
  | some (.inr (.inr (.inl x))) => K x
  | _ => False
/-! stack -/
def z_p1 (S : List z_V) (K : Int → List z_V → Prop) : Prop := match S with
  | .inl x :: r => K x r
  | _ => False
def z_p2 (S : List z_V) (K : Int → Int → List z_V → Prop) : Prop := match S with
  | .inl y :: .inl x :: r => K x y r
  | _ => False
def z_q1 (S : List z_V) (K : Int → List z_V → Prop) : Prop := match S with
  | .inr (.inl x) :: r => K x r
  | _ => False
def z_q2 (S : List z_V) (K : Int → Int → List z_V → Prop) : Prop := match S with
  | .inr (.inl y) :: .inr (.inl x) :: r => K x y r
  | _ => False
def z_qi (S : List z_V) (K : Int → Int → List z_V → Prop) : Prop := match S with
  | .inl y :: .inr (.inl x) :: r => K x y r
  | _ => False
def z_pr (S : List z_V) (K : Nat → List z_V → Prop) : Prop := match S with
  | .inr (.inr (.inl a)) :: r => K a r
  | _ => False
def z_pri (S : List z_V) (K : Nat → Int → List z_V → Prop) : Prop := match S with
  | .inl x :: .inr (.inr (.inl a)) :: r => K a x r
  | _ => False
def z_prl (S : List z_V) (K : Nat → Int → Int → List z_V → Prop) : Prop := match S with
  | .inr (.inl v) :: .inl x :: .inr (.inr (.inl a)) :: r => K a x v r
  | _ => False
def z_prii (S : List z_V) (K : Nat → Int → Int → List z_V → Prop) : Prop := match S with
  | .inl v :: .inl x :: .inr (.inr (.inl a)) :: r => K a x v r
  | _ => False
def z_pc5 (S : List z_V) (K : Nat → Int → Nat → Int → Int → List z_V → Prop) : Prop := match S with
  | .inl n :: .inl j :: .inr (.inr (.inl b)) :: .inl i :: .inr (.inr (.inl a)) :: r => K a i b j n r
  | _ => False
def z_k1 : z_V → Bool
  | .inr (.inl _) => false
  | _ => true
def z_d1 (S : List z_V) (K : z_V → List z_V → Prop) : Prop := match S with
  | v :: r => if z_k1 v = true then K v r else False
  | _ => False
def z_d2 (S : List z_V) (K : z_V → z_V → List z_V → Prop) : Prop := match S with
  | v :: u :: r => if z_k1 v = true then (if z_k1 u = true then K v u r else False) else False
  | _ => False
def z_cat : List z_V → Nat
  | [] => 0
  | .inr (.inl _) :: r => 2 + z_cat r
  | _ :: r => 1 + z_cat r
def z_rv : List z_V → List z_V → List z_V
  | [], a => a
  | v :: r, a => z_rv r (v :: a)
def z_take : Nat → List z_V → List z_V → (List z_V → List z_V → Prop) → Prop
  | 0, a, r, K => K a r
  | n + 1, a, v :: r, K => z_take n (v :: a) r K
  | _ + 1, _, [], _ => False
def z_tgt (pc : Nat) (off : Int) : Nat := (Int.ofNat pc + off).toNat
def z_br (c : Jvm.ClassFile.Cond) (x y : Int) (A B : Prop) : Prop := match c with
  | .eq => (x = y → A) ∧ (¬ x = y → B)
  | .ne => (¬ x = y → A) ∧ (x = y → B)
  | .lt => (x < y → A) ∧ (y ≤ x → B)
  | .ge => (y ≤ x → A) ∧ (x < y → B)
  | .gt => (y < x → A) ∧ (x ≤ y → B)
  | .le => (x ≤ y → A) ∧ (y < x → B)
/-- what a call's answer is -/
def z_vi (v : z_V) (K : Int → Prop) : Prop := match v with
  | .inl x => K x
  | _ => False
def z_vl (v : z_V) (K : Int → Prop) : Prop := match v with
  | .inr (.inl x) => K x
  | _ => False
def z_ans (r : Nat) (v : z_V) (A : Prop) (B C : Int → Prop) : Prop := match r with
  | 0 => A
  | 1 => z_vi v B
  | _ => z_vl v C
def z_hd : List z_V → Nat
  | .inr (.inr (.inl o)) :: _ => o
  | _ => 0
def z_sw (x : Int) (pc : Nat) (K : Nat → Prop) : Int → List Int → Prop
  | _, [] => True
  | lo, o :: os => (x = lo → K (z_tgt pc o)) ∧ z_sw x pc K (lo + 1) os
def z_lk (x : Int) (pc : Nat) (K : Nat → Prop) (df : Nat) : List (Int × Int) → Prop
  | [] => K df
  | (k, o) :: os => (x = k → K (z_tgt pc o)) ∧ (¬ x = k → z_lk x pc K df os)
/-- an instruction with what it needs of the tables: its place; itself and its length; three numbers; two words -/
abbrev z_E : Type := Nat × ((Instr × Nat) × ((Nat × (Nat × Nat)) × (Nat × Nat)))
def z_iald (a : Nat) (i : Int) (M : z_M) (K : Int → Prop) : Prop :=
  if z_knd a = 1 then 0 ≤ i ∧ i < Int.ofNat (z_len a) ∧ K (M a i)
  else if z_knd a = 6 then 0 ≤ i ∧ i < Int.ofNat (z_len a) ∧ K (z_cv a i) else False
def z_cald (a : Nat) (i : Int) (K : Int → Prop) : Prop :=
  if z_knd a = 7 then 0 ≤ i ∧ i < Int.ofNat (z_len a) ∧ K (z_cv a i) else False
def z_bald (a : Nat) (i : Int) (M : z_M) (K : Int → Prop) : Prop :=
  if z_knd a = 4 then 0 ≤ i ∧ i < Int.ofNat (z_len a) ∧ K (M a i)
  else if z_knd a = 3 then 0 ≤ i ∧ i < Int.ofNat (z_len a) ∧ K (M a i) else False
def z_lald (a : Nat) (i : Int) (M : z_M) (K : Int → Prop) : Prop :=
  if z_knd a = 2 then 0 ≤ i ∧ i < Int.ofNat (z_len a) ∧ K (M a i) else False
def z_iast (a : Nat) (i x : Int) (M : z_M) (K : z_M → Prop) : Prop :=
  if z_knd a = 1 then 0 ≤ i ∧ i < Int.ofNat (z_len a) ∧ K (z_up M a i x) else False
def z_bast (a : Nat) (i x : Int) (M : z_M) (K : z_M → Prop) : Prop :=
  if z_knd a = 4 then 0 ≤ i ∧ i < Int.ofNat (z_len a) ∧ (x = 0 ∨ x = 1) ∧ K (z_up M a i x)
  else if z_knd a = 3 then 0 ≤ i ∧ i < Int.ofNat (z_len a) ∧ K (z_up M a i (z_wb x)) else False
def z_last (a : Nat) (i x : Int) (M : z_M) (K : z_M → Prop) : Prop :=
  if z_knd a = 2 then 0 ≤ i ∧ i < Int.ofNat (z_len a) ∧ K (z_up M a i x) else False
def z_get (a o j t : Nat) (M : z_M) (K : z_V → Prop) : Prop :=
  if a = o then (if t = 0 then K (z_I (M o (Int.ofNat j))) else K (z_R t)) else False
def z_put (a o j t : Nat) (x : Int) (M : z_M) (K : z_M → Prop) : Prop :=
  if a = o then (if t = 0 then K (z_up M o (Int.ofNat j) x) else if t = 1 then (x = 0 ∨ x = 1) ∧ K (z_up M o (Int.ofNat j) x) else False) else False
def z_copy (a : Nat) (i : Int) (b : Nat) (j n : Int) (M : z_M) (K : z_M → Prop) : Prop :=
  if z_knd a = 1 then (if z_knd b = 1 then 0 ≤ i ∧ 0 ≤ j ∧ 0 ≤ n ∧ i + n ≤ Int.ofNat (z_len a) ∧ j + n ≤ Int.ofNat (z_len b) ∧ K (z_cp M a i b j n) else False) else False
/-- one step: 'CC k args M Q': the call of method k comes back so that Q holds of its answer and of the memory -/
def z_stp (CC : Nat → List z_V → z_M → (z_V → z_M → Prop) → Prop) (e : z_E) (L S : List z_V) (M : z_M) (Q : z_V → z_M → Prop) (K : Nat → List z_V → List z_V → z_M → Prop) : Prop :=
  match e with
  | (pc, ((ins, len), ((x1, (x2, x3)), _))) =>
  match ins with
  | .iload_n n => z_ldi L n fun x => K (pc + 1) L (z_I x :: S) M
  | .iload i => z_ldi L i fun x => K (pc + 2) L (z_I x :: S) M
  | .lload_n n => z_ldl L n fun x => K (pc + 1) L (z_J x :: S) M
  | .lload i => z_ldl L i fun x => K (pc + 2) L (z_J x :: S) M
  | .aload_n n => z_lda L n fun x => K (pc + 1) L (z_R x :: S) M
  | .aload i => z_lda L i fun x => K (pc + 2) L (z_R x :: S) M
  | .istore_n n => z_p1 S fun x r => K (pc + 1) (z_st L n (z_I x)) r M
  | .istore i => z_p1 S fun x r => K (pc + 2) (z_st L i (z_I x)) r M
  | .lstore_n n => z_q1 S fun x r => K (pc + 1) (z_st2 L n (z_J x)) r M
  | .lstore i => z_q1 S fun x r => K (pc + 2) (z_st2 L i (z_J x)) r M
  | .iinc i n => z_ldi L i fun x => K (pc + 3) (z_st L i (z_I (z_w (x + n)))) S M
  | .iconst n => K (pc + 1) L (z_I n :: S) M
  | .bipush n => K (pc + 2) L (z_I n :: S) M
  | .sipush n => K (pc + 3) L (z_I n :: S) M
  | .lconst n => K (pc + 1) L (z_J (Int.ofNat n) :: S) M
  | .ldc_w _ => K (pc + 3) L (z_I (Int.ofNat x1) :: S) M
  | .ldc2_w _ => if x2 = 0 then K (pc + 3) L (z_J (Int.ofNat x1) :: S) M else K (pc + 3) L (z_J (-(Int.ofNat x1)) :: S) M
  | .iadd => z_p2 S fun x y r => K (pc + 1) L (z_I (z_w (x + y)) :: r) M
  | .isub => z_p2 S fun x y r => K (pc + 1) L (z_I (z_w (x - y)) :: r) M
  | .imul => z_p2 S fun x y r => K (pc + 1) L (z_I (z_w (x * y)) :: r) M
  | .idiv => z_p2 S fun x y r => ¬ y = 0 ∧ K (pc + 1) L (z_I (z_w (Int.tdiv x y)) :: r) M
  | .irem => z_p2 S fun x y r => ¬ y = 0 ∧ K (pc + 1) L (z_I (Int.tmod x y) :: r) M
  | .ineg => z_p1 S fun x r => K (pc + 1) L (z_I (z_w (-x)) :: r) M
  | .iand => z_p2 S fun x y r => K (pc + 1) L (z_I (z_and x y) :: r) M
  | .ior => z_p2 S fun x y r => K (pc + 1) L (z_I (z_or x y) :: r) M
  | .ishl => z_p2 S fun x y r => K (pc + 1) L (z_I (z_shl x y) :: r) M
  | .ishr => z_p2 S fun x y r => K (pc + 1) L (z_I (z_shr x y) :: r) M
  | .iushr => z_p2 S fun x y r => K (pc + 1) L (z_I (z_ushr x y) :: r) M
  | .i2l => z_p1 S fun x r => K (pc + 1) L (z_J x :: r) M
  | .l2i => z_q1 S fun x r => K (pc + 1) L (z_I (z_w x) :: r) M
  | .i2b => z_p1 S fun x r => K (pc + 1) L (z_I (z_wb x) :: r) M
  | .ladd => z_q2 S fun x y r => K (pc + 1) L (z_J (z_wl (x + y)) :: r) M
  | .lsub => z_q2 S fun x y r => K (pc + 1) L (z_J (z_wl (x - y)) :: r) M
  | .lmul => z_q2 S fun x y r => K (pc + 1) L (z_J (z_wl (x * y)) :: r) M
  | .ldiv => z_q2 S fun x y r => ¬ y = 0 ∧ K (pc + 1) L (z_J (z_wl (Int.tdiv x y)) :: r) M
  | .lrem => z_q2 S fun x y r => ¬ y = 0 ∧ K (pc + 1) L (z_J (Int.tmod x y) :: r) M
  | .land => z_q2 S fun x y r => K (pc + 1) L (z_J (z_andl x y) :: r) M
  | .lor => z_q2 S fun x y r => K (pc + 1) L (z_J (z_orl x y) :: r) M
  | .lxor => z_q2 S fun x y r => K (pc + 1) L (z_J (z_xorl x y) :: r) M
  | .lshl => z_qi S fun x y r => K (pc + 1) L (z_J (z_shll x y) :: r) M
  | .lushr => z_qi S fun x y r => K (pc + 1) L (z_J (z_ushrl x y) :: r) M
  | .lcmp => z_q2 S fun x y r => K (pc + 1) L (z_I (z_cmp x y) :: r) M
  | .dup => z_d1 S fun v r => K (pc + 1) L (v :: v :: r) M
  | .dup2 => z_d2 S fun v u r => K (pc + 1) L (v :: u :: v :: u :: r) M
  | .pop => z_d1 S fun _ r => K (pc + 1) L r M
  | .goto o => K (z_tgt pc o) L S M
  | .ifCond c o => z_p1 S fun x r => z_br c x 0 (K (z_tgt pc o) L r M) (K (pc + 3) L r M)
  | .if_icmp c o => z_p2 S fun x y r => z_br c x y (K (z_tgt pc o) L r M) (K (pc + 3) L r M)
  | .tableswitch df lo hi os => z_p1 S fun x r => z_sw x pc (fun t => K t L r M) lo os.toList ∧ (x < lo ∨ hi < x → K (z_tgt pc df) L r M)
  | .lookupswitch df ps => z_p1 S fun x r => z_lk x pc (fun t => K t L r M) (z_tgt pc df) ps.toList
  | .getfield _ => z_pr S fun a r => z_get a x2 x1 x3 M fun v => K (pc + 3) L (v :: r) M
  | .putfield _ => z_pri S fun a x r => z_put a x2 x1 x3 x M fun M' => K (pc + 3) L r M'
  | .getstatic _ => K (pc + 3) L (z_R x1 :: S) M
  | .iaload => z_pri S fun a i r => z_iald a i M fun x => K (pc + 1) L (z_I x :: r) M
  | .caload => z_pri S fun a i r => z_cald a i fun x => K (pc + 1) L (z_I x :: r) M
  | .baload => z_pri S fun a i r => z_bald a i M fun x => K (pc + 1) L (z_I x :: r) M
  | .laload => z_pri S fun a i r => z_lald a i M fun x => K (pc + 1) L (z_J x :: r) M
  | .iastore => z_prii S fun a i x r => z_iast a i x M fun M' => K (pc + 1) L r M'
  | .bastore => z_prii S fun a i x r => z_bast a i x M fun M' => K (pc + 1) L r M'
  | .lastore => z_prl S fun a i x r => z_last a i x M fun M' => K (pc + 1) L r M'
  | .arraylength => z_pr S fun a r => if z_knd a = 0 then False else K (pc + 1) L (z_I (Int.ofNat (z_len a)) :: r) M
  | .ireturn => z_p1 S fun x r => if r = [] then (if x1 = 1 then (x = 0 ∨ x = 1) ∧ Q (z_I x) M else Q (z_I x) M) else False
  | .lreturn => z_q1 S fun x r => if r = [] then Q (z_J x) M else False
  | .return_ => if S = [] then Q z_U M else False
  | .invokevirtual _ => z_take x2 [] S fun a r => if z_cat r ≤ 8 then (if z_hd a = x3 / 10 then CC x1 a M (fun v M' => z_ans (x3 % 10) v (K (pc + 3) L r M') (fun x => K (pc + 3) L (z_I x :: r) M') (fun x => K (pc + 3) L (z_J x :: r) M')) else False) else False
  | .invokestatic _ => match x1 with
    | 1001 => z_p2 S fun x y r => if z_cat r ≤ 8 then K (pc + 3) L (z_I (z_max x y) :: r) M else False
    | 1002 => z_p2 S fun x y r => if z_cat r ≤ 8 then K (pc + 3) L (z_I (z_min x y) :: r) M else False
    | 1003 => z_p1 S fun x r => if z_cat r ≤ 8 then K (pc + 3) L (z_I (z_abs x) :: r) M else False
    | 1004 => z_pc5 S fun a i b j n r => if z_cat r ≤ 8 then z_copy a i b j n M fun M' => K (pc + 3) L r M' else False
    | _ => z_take x2 [] S fun a r => if z_cat r ≤ 8 then CC x1 a M (fun v M' => z_ans x3 v (K (pc + 3) L r M') (fun x => K (pc + 3) L (z_I x :: r) M') (fun x => K (pc + 3) L (z_J x :: r) M')) else False
  | _ => False
/-- the code from a place on -/
def z_from : List z_E → Nat → List z_E
  | [], _ => []
  | e :: t, pc => if e.1 = pc then e :: t else z_from t pc
/-- steps up to cuts: G is what must hold there -/
def z_blk (CC : Nat → List z_V → z_M → (z_V → z_M → Prop) → Prop) (G : Nat → List z_V → List z_V → z_M → Prop) (cuts : List Nat) (code : List z_E) (Q : z_V → z_M → Prop) : Nat → List z_E → List z_V → List z_V → z_M → Prop
  | 0, _, _, _, _ => False
  | _ + 1, [], _, _, _ => False
  | n + 1, e :: t, L, S, M => z_stp CC e L S M Q fun pc L' S' M' =>
      if cuts.contains pc = true then G pc L' S' M' else if pc = e.1 + e.2.1.2 then z_blk CC G cuts code Q n t L' S' M' else z_blk CC G cuts code Q n (z_from code pc) L' S' M'
