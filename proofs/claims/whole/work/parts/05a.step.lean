def z_lv (w t : Nat) : Bool := match w with
  | 0 => true
  | w + 1 => (z_ids (w + 1)).contains t
def z_get (w a o j t : Nat) (M : z_M) (K : z_V → Prop) : Prop :=
  if a = o then (if t = 0 then K (z_I (M o (Int.ofNat j))) else if z_lv w t = true then K (z_R t) else False) else False
/-- one step: 'CC k args M Q': the call of method k comes back so that Q holds of its answer and of the memory -/
def z_stp (w : Nat) (CC : Nat → List z_V → z_M → (z_V → z_M → Prop) → Prop) (e : z_E) (L S : List z_V) (M : z_M) (Q : z_V → z_M → Prop) (K : Nat → List z_V → List z_V → z_M → Prop) : Prop :=
  match e with
  | (pc, ((ins, len), ((x1, (x2, x3)), _))) =>
  match ins with
  | .iload_n n => z_ldi L n fun x => K (pc + 1) L (z_I x :: S) M
  | .iload i => z_ldi L i fun x => K (pc + 2) L (z_I x :: S) M
  | .lload_n n => z_ldl L n fun x => K (pc + 1) L (z_J x :: S) M
  | .lload i => z_ldl L i fun x => K (pc + 2) L (z_J x :: S) M
  | .aload_n n => z_lda L n fun x => K (pc + 1) L (z_R x :: S) M
  | .aload i => z_lda L i fun x => K (pc + 2) L (z_R x :: S) M
  | .istore_n n => z_p1 S fun x r => K (pc + 1) (z_st L n (z_I x)) r M
  | .istore i => z_p1 S fun x r => K (pc + 2) (z_st L i (z_I x)) r M
  | .lstore_n n => z_q1 S fun x r => K (pc + 1) (z_st2 L n (z_J x)) r M
  | .lstore i => z_q1 S fun x r => K (pc + 2) (z_st2 L i (z_J x)) r M
  | .iinc i n => z_ldi L i fun x => K (pc + 3) (z_st L i (z_I (z_w (x + n)))) S M
  | .iconst n => K (pc + 1) L (z_I n :: S) M
  | .bipush n => K (pc + 2) L (z_I n :: S) M
  | .sipush n => K (pc + 3) L (z_I n :: S) M
  | .lconst n => K (pc + 1) L (z_J (Int.ofNat n) :: S) M
  | .ldc_w _ => K (pc + 3) L (z_I (Int.ofNat x1) :: S) M
  | .ldc2_w _ => if x2 = 0 then K (pc + 3) L (z_J (Int.ofNat x1) :: S) M else K (pc + 3) L (z_J (-(Int.ofNat x1)) :: S) M
  | .iadd => z_p2 S fun x y r => K (pc + 1) L (z_I (z_w (x + y)) :: r) M
  | .isub => z_p2 S fun x y r => K (pc + 1) L (z_I (z_w (x - y)) :: r) M
  | .imul => z_p2 S fun x y r => K (pc + 1) L (z_I (z_w (x * y)) :: r) M
  | .idiv => z_p2 S fun x y r => z_nz y (K (pc + 1) L (z_I (z_w (Int.tdiv x y)) :: r) M)
  | .irem => z_p2 S fun x y r => z_nz y (K (pc + 1) L (z_I (Int.tmod x y) :: r) M)
  | .ineg => z_p1 S fun x r => K (pc + 1) L (z_I (z_w (-x)) :: r) M
  | .iand => z_p2 S fun x y r => K (pc + 1) L (z_I (z_and x y) :: r) M
  | .ior => z_p2 S fun x y r => K (pc + 1) L (z_I (z_or x y) :: r) M
  | .ishl => z_p2 S fun x y r => K (pc + 1) L (z_I (z_shl x y) :: r) M
  | .ishr => z_p2 S fun x y r => K (pc + 1) L (z_I (z_shr x y) :: r) M
  | .iushr => z_p2 S fun x y r => K (pc + 1) L (z_I (z_ushr x y) :: r) M
  | .i2l => z_p1 S fun x r => K (pc + 1) L (z_J x :: r) M
  | .l2i => z_q1 S fun x r => K (pc + 1) L (z_I (z_w x) :: r) M
  | .i2b => z_p1 S fun x r => K (pc + 1) L (z_I (z_wb x) :: r) M
  | .ladd => z_q2 S fun x y r => K (pc + 1) L (z_J (z_wl (x + y)) :: r) M
  | .lsub => z_q2 S fun x y r => K (pc + 1) L (z_J (z_wl (x - y)) :: r) M
  | .lmul => z_q2 S fun x y r => K (pc + 1) L (z_J (z_wl (x * y)) :: r) M
  | .ldiv => z_q2 S fun x y r => z_nz y (K (pc + 1) L (z_J (z_wl (Int.tdiv x y)) :: r) M)
  | .lrem => z_q2 S fun x y r => z_nz y (K (pc + 1) L (z_J (Int.tmod x y) :: r) M)
  | .land => z_q2 S fun x y r => K (pc + 1) L (z_J (z_andl x y) :: r) M
  | .lor => z_q2 S fun x y r => K (pc + 1) L (z_J (z_orl x y) :: r) M
  | .lxor => z_q2 S fun x y r => K (pc + 1) L (z_J (z_xorl x y) :: r) M
  | .lshl => z_qi S fun x y r => K (pc + 1) L (z_J (z_shll x y) :: r) M
  | .lushr => z_qi S fun x y r => K (pc + 1) L (z_J (z_ushrl x y) :: r) M
  | .lcmp => z_q2 S fun x y r => K (pc + 1) L (z_I (z_cmp x y) :: r) M
  | .dup => z_d1 S fun v r => K (pc + 1) L (v :: v :: r) M
  | .dup2 => z_d2 S fun v u r => K (pc + 1) L (v :: u :: v :: u :: r) M
  | .pop => z_d1 S fun _ r => K (pc + 1) L r M
  | .goto o => K (z_tgt pc o) L S M
  | .ifCond c o => z_p1 S fun x r => z_br c x 0 (K (z_tgt pc o) L r M) (K (pc + 3) L r M)
  | .if_icmp c o => z_p2 S fun x y r => z_br c x y (K (z_tgt pc o) L r M) (K (pc + 3) L r M)
  | .tableswitch df lo hi os => z_p1 S fun x r => z_sw x pc (fun t => K t L r M) lo os.toList ∧ (x < lo ∨ hi < x → K (z_tgt pc df) L r M)
  | .lookupswitch df ps => z_p1 S fun x r => z_lk x pc (fun t => K t L r M) (z_tgt pc df) ps.toList
  | .getfield _ => z_pr S fun a r => z_get w a x2 x1 x3 M fun v => K (pc + 3) L (v :: r) M
  | .putfield _ => z_pri S fun a x r => z_put a x2 x1 x3 x M fun M' => K (pc + 3) L r M'
  | .getstatic _ => K (pc + 3) L (z_R x1 :: S) M
  | .iaload => z_pri S fun a i r => z_iald a i M fun x => K (pc + 1) L (z_I x :: r) M
  | .caload => z_pri S fun a i r => z_cald a i fun x => K (pc + 1) L (z_I x :: r) M
  | .baload => z_pri S fun a i r => z_bald a i M fun x => K (pc + 1) L (z_I x :: r) M
  | .laload => z_pri S fun a i r => z_lald a i M fun x => K (pc + 1) L (z_J x :: r) M
  | .iastore => z_prii S fun a i x r => z_iast a i x M fun M' => K (pc + 1) L r M'
  | .bastore => z_prii S fun a i x r => z_bast a i x M fun M' => K (pc + 1) L r M'
  | .lastore => z_prl S fun a i x r => z_last a i x M fun M' => K (pc + 1) L r M'
  | .arraylength => z_pr S fun a r => if z_knd a = 0 then False else K (pc + 1) L (z_I (Int.ofNat (z_len a)) :: r) M
  | .ireturn => z_p1 S fun x r => if r = [] then (if x1 = 1 then z_bl x (Q (z_I x) M) else Q (z_I x) M) else False
  | .lreturn => z_q1 S fun x r => if r = [] then Q (z_J x) M else False
  | .return_ => if S = [] then Q z_U M else False
  | .invokevirtual _ => z_take x2 [] S fun a r => if z_cat r ≤ 8 then (if z_hd a = x3 / 10 then CC x1 a M (fun v M' => z_ans (x3 % 10) v (K (pc + 3) L r M') (fun x => K (pc + 3) L (z_I x :: r) M') (fun x => K (pc + 3) L (z_J x :: r) M')) else False) else False
  | .invokestatic _ => match x1 with
    | 1001 => z_p2 S fun x y r => if z_cat r ≤ 8 then K (pc + 3) L (z_I (z_max x y) :: r) M else False
    | 1002 => z_p2 S fun x y r => if z_cat r ≤ 8 then K (pc + 3) L (z_I (z_min x y) :: r) M else False
    | 1003 => z_p1 S fun x r => if z_cat r ≤ 8 then K (pc + 3) L (z_I (z_abs x) :: r) M else False
    | 1004 => z_pc5 S fun a i b j n r => if z_cat r ≤ 8 then z_copy a i b j n M fun M' => K (pc + 3) L r M' else False
    | _ => z_take x2 [] S fun a r => if z_cat r ≤ 8 then CC x1 a M (fun v M' => z_ans x3 v (K (pc + 3) L r M') (fun x => K (pc + 3) L (z_I x :: r) M') (fun x => K (pc + 3) L (z_J x :: r) M')) else False
  | _ => False
/-- the code from a place on -/
def z_from : List z_E → Nat → List z_E
  | [], _ => []
  | e :: t, pc => if e.1 = pc then e :: t else z_from t pc
/-- steps up to cuts: G is what must hold there -/
def z_blk (w : Nat) (CC : Nat → List z_V → z_M → (z_V → z_M → Prop) → Prop) (G : Nat → List z_V → List z_V → z_M → Prop) (cuts : List Nat) (code : List z_E) (Q : z_V → z_M → Prop) : Nat → List z_E → List z_V → List z_V → z_M → Prop
  | 0, _, _, _, _ => False
  | _ + 1, [], _, _, _ => False
  | n + 1, e :: t, L, S, M => z_stp w CC e L S M Q fun pc L' S' M' =>
      if cuts.contains pc = true then G pc L' S' M' else if pc = e.1 + e.2.1.2 then z_blk w CC G cuts code Q n t L' S' M' else z_blk w CC G cuts code Q n (z_from code pc) L' S' M'
