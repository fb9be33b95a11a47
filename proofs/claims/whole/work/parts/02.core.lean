/-! THE SMALL MACHINE: values, memory, one step of an instruction as what must hold -/
abbrev z_M : Type := Nat → Int → Int
abbrev z_V : Type := Int ⊕ (Int ⊕ (Nat ⊕ Unit))
abbrev z_I (x : Int) : z_V := Sum.inl x
abbrev z_J (x : Int) : z_V := Sum.inr (Sum.inl x)
abbrev z_R (k : Nat) : z_V := Sum.inr (Sum.inr (Sum.inl k))
abbrev z_U : z_V := Sum.inr (Sum.inr (Sum.inr ()))
def z_len (a : Nat) : Nat := a / 10000
def z_knd (a : Nat) : Nat := a / 1000 % 10
def z_w (x : Int) : Int := Int.bmod x 4294967296
def z_wl (x : Int) : Int := Int.bmod x 18446744073709551616
def z_wb (x : Int) : Int := Int.bmod x 256
def z_and (x y : Int) : Int := (Int32.ofInt x &&& Int32.ofInt y).toInt
def z_or (x y : Int) : Int := (Int32.ofInt x ||| Int32.ofInt y).toInt
def z_xor (x y : Int) : Int := (Int32.ofInt x ^^^ Int32.ofInt y).toInt
def z_shl (x y : Int) : Int := (Int32.ofInt x <<< (Int32.ofInt y &&& 31)).toInt
def z_shr (x y : Int) : Int := (Int32.ofInt x >>> (Int32.ofInt y &&& 31)).toInt
def z_ushr (x y : Int) : Int := (((Int32.ofInt x).toUInt32 >>> ((Int32.ofInt y).toUInt32 &&& Int32.toUInt32 31)).toInt32).toInt
def z_andl (x y : Int) : Int := (Int64.ofInt x &&& Int64.ofInt y).toInt
def z_orl (x y : Int) : Int := (Int64.ofInt x ||| Int64.ofInt y).toInt
def z_xorl (x y : Int) : Int := (Int64.ofInt x ^^^ Int64.ofInt y).toInt
def z_shll (x y : Int) : Int := (Int64.ofInt x <<< ((Int32.ofInt y).toInt64 &&& 63)).toInt
def z_ushrl (x y : Int) : Int := (((Int64.ofInt x).toUInt64 >>> ((Int32.ofInt y).toInt64.toUInt64 &&& Int64.toUInt64 63)).toInt64).toInt
def z_cmp (x y : Int) : Int := if x < y then -1 else if x = y then 0 else 1
def z_max (x y : Int) : Int := if x < y then y else x
def z_min (x y : Int) : Int := if y < x then y else x
def z_abs (x : Int) : Int := if x < 0 then z_w (-x) else x
/-- the static arrays that nobody writes -/
def z_cl1 : List Int := [1, 1, 0, -1, -1, -1, 0, 1]
def z_cl2 : List Int := [0, 1, 1, 1, 0, -1, -1, -1]
def z_cl3 : List Int := [116, 113, 117, 112, 120, 121]
def z_cv (a : Nat) (i : Int) : Int := match a with
  | 86901 => z_cl1.getD i.toNat 0
  | 86902 => z_cl2.getD i.toNat 0
  | 67903 => z_cl3.getD i.toNat 0
  | _ => 0
def z_up (M : z_M) (a : Nat) (i x : Int) : z_M := fun b j => if b = a then (if j = i then x else M b j) else M b j
def z_cp (M : z_M) (a : Nat) (i : Int) (b : Nat) (j n : Int) : z_M := fun c k => if c = b then (if j ≤ k ∧ k < j + n then M a (i + (k - j)) else M c k) else M c k
/-! locals -/
def z_kl : z_V → z_V
  | .inr (.inl _) => z_U
  | v => v
def z_st : List z_V → Nat → z_V → List z_V
  | [], _, _ => []
  | _ :: t, 0, v => v :: t
  | [a], 1, _ => [a]
  | a :: _ :: t, 1, v => z_kl a :: v :: t
  | a :: t, n + 2, v => a :: z_st t (n + 1) v
def z_st2 (L : List z_V) (i : Nat) (v : z_V) : List z_V := (z_st L i v).set (i + 1) z_U
def z_ldi (L : List z_V) (i : Nat) (K : Int → Prop) : Prop := match z_nth L i with
  | some (.inl x) => K x
  | _ => False
def z_ldl (L : List z_V) (i : Nat) (K : Int → Prop) : Prop := match z_nth L i with
  | some (.inr (.inl x)) => K x
  | _ => False
def z_lda (L : List z_V) (i : Nat) (K : Nat → Prop) : Prop := match z_nth L i with
  | some (.inr (.inr (.inl x))) => K x
  | _ => False
/-! stack -/
def z_p1 (S : List z_V) (K : Int → List z_V → Prop) : Prop := match S with
  | .inl x :: r => K x r
  | _ => False
def z_p2 (S : List z_V) (K : Int → Int → List z_V → Prop) : Prop := match S with
  | .inl y :: .inl x :: r => K x y r
  | _ => False
def z_q1 (S : List z_V) (K : Int → List z_V → Prop) : Prop := match S with
  | .inr (.inl x) :: r => K x r
  | _ => False
def z_q2 (S : List z_V) (K : Int → Int → List z_V → Prop) : Prop := match S with
  | .inr (.inl y) :: .inr (.inl x) :: r => K x y r
  | _ => False
def z_qi (S : List z_V) (K : Int → Int → List z_V → Prop) : Prop := match S with
  | .inl y :: .inr (.inl x) :: r => K x y r
  | _ => False
def z_pr (S : List z_V) (K : Nat → List z_V → Prop) : Prop := match S with
  | .inr (.inr (.inl a)) :: r => K a r
  | _ => False
def z_pri (S : List z_V) (K : Nat → Int → List z_V → Prop) : Prop := match S with
  | .inl x :: .inr (.inr (.inl a)) :: r => K a x r
  | _ => False
def z_prl (S : List z_V) (K : Nat → Int → Int → List z_V → Prop) : Prop := match S with
  | .inr (.inl v) :: .inl x :: .inr (.inr (.inl a)) :: r => K a x v r
  | _ => False
def z_prii (S : List z_V) (K : Nat → Int → Int → List z_V → Prop) : Prop := match S with
  | .inl v :: .inl x :: .inr (.inr (.inl a)) :: r => K a x v r
  | _ => False
def z_pc5 (S : List z_V) (K : Nat → Int → Nat → Int → Int → List z_V → Prop) : Prop := match S with
  | .inl n :: .inl j :: .inr (.inr (.inl b)) :: .inl i :: .inr (.inr (.inl a)) :: r => K a i b j n r
  | _ => False
def z_k1 : z_V → Bool
  | .inr (.inl _) => false
  | _ => true
def z_d1 (S : List z_V) (K : z_V → List z_V → Prop) : Prop := match S with
  | v :: r => if z_k1 v = true then K v r else False
  | _ => False
def z_d2 (S : List z_V) (K : z_V → z_V → List z_V → Prop) : Prop := match S with
  | v :: u :: r => if z_k1 v = true then (if z_k1 u = true then K v u r else False) else False
  | _ => False
def z_cat : List z_V → Nat
  | [] => 0
  | .inr (.inl _) :: r => 2 + z_cat r
  | _ :: r => 1 + z_cat r
def z_rv : List z_V → List z_V → List z_V
  | [], a => a
  | v :: r, a => z_rv r (v :: a)
def z_take : Nat → List z_V → List z_V → (List z_V → List z_V → Prop) → Prop
  | 0, a, r, K => K a r
  | n + 1, a, v :: r, K => z_take n (v :: a) r K
  | _ + 1, _, [], _ => False
def z_tgt (pc : Nat) (off : Int) : Nat := (Int.ofNat pc + off).toNat
def z_br (c : Jvm.ClassFile.Cond) (x y : Int) (A B : Prop) : Prop := match c with
  | .eq => (x = y → A) ∧ (¬ x = y → B)
  | .ne => (¬ x = y → A) ∧ (x = y → B)
  | .lt => (x < y → A) ∧ (y ≤ x → B)
  | .ge => (y ≤ x → A) ∧ (x < y → B)
  | .gt => (y < x → A) ∧ (x ≤ y → B)
  | .le => (x ≤ y → A) ∧ (y < x → B)
/-- what a call's answer is -/
def z_vi (v : z_V) (K : Int → Prop) : Prop := match v with
  | .inl x => K x
  | _ => False
def z_vl (v : z_V) (K : Int → Prop) : Prop := match v with
  | .inr (.inl x) => K x
  | _ => False
def z_ans (r : Nat) (v : z_V) (A : Prop) (B C : Int → Prop) : Prop := match r with
  | 0 => A
  | 1 => z_vi v B
  | _ => z_vl v C
def z_hd : List z_V → Nat
  | .inr (.inr (.inl o)) :: _ => o
  | _ => 0
def z_sw (x : Int) (pc : Nat) (K : Nat → Prop) : Int → List Int → Prop
  | _, [] => True
  | lo, o :: os => (x = lo → K (z_tgt pc o)) ∧ z_sw x pc K (lo + 1) os
def z_lk (x : Int) (pc : Nat) (K : Nat → Prop) (df : Nat) : List (Int × Int) → Prop
  | [] => K df
  | (k, o) :: os => (x = k → K (z_tgt pc o)) ∧ (¬ x = k → z_lk x pc K df os)
/-- an instruction with what it needs of the tables: its place; itself and its length; three numbers; two words -/
abbrev z_E : Type := Nat × ((Instr × Nat) × ((Nat × (Nat × Nat)) × (Nat × Nat)))
def z_bl (x : Int) (A : Prop) : Prop := if x = 0 then A else if x = 1 then A else False
def z_nz (y : Int) (A : Prop) : Prop := if y = 0 then False else A
theorem z_bl_inv {x : Int} {A : Prop} (h : z_bl x A) : (x = 0 ∨ x = 1) ∧ A := by
  unfold z_bl at h
  split at h
  · exact ⟨Or.inl ‹_›, h⟩
  · split at h
    · exact ⟨Or.inr ‹_›, h⟩
    · exact h.elim
theorem z_bl_of {x : Int} {A : Prop} (h : x = 0 ∨ x = 1) (a : A) : z_bl x A := by
  unfold z_bl
  rcases h with rfl | rfl
  · exact a
  · exact a
theorem z_nz_inv {y : Int} {A : Prop} (h : z_nz y A) : ¬ y = 0 ∧ A := by
  unfold z_nz at h
  split at h
  · exact h.elim
  · exact ⟨‹_›, h⟩
theorem z_nz_of {y : Int} {A : Prop} (h : ¬ y = 0) (a : A) : z_nz y A := by
  unfold z_nz
  rw [if_neg h]
  exact a
def z_iald (a : Nat) (i : Int) (M : z_M) (K : Int → Prop) : Prop :=
  if z_knd a = 1 then 0 ≤ i ∧ i < Int.ofNat (z_len a) ∧ K (M a i)
  else if z_knd a = 6 then 0 ≤ i ∧ i < Int.ofNat (z_len a) ∧ K (z_cv a i) else False
def z_cald (a : Nat) (i : Int) (K : Int → Prop) : Prop :=
  if z_knd a = 7 then 0 ≤ i ∧ i < Int.ofNat (z_len a) ∧ K (z_cv a i) else False
def z_bald (a : Nat) (i : Int) (M : z_M) (K : Int → Prop) : Prop :=
  if z_knd a = 4 then 0 ≤ i ∧ i < Int.ofNat (z_len a) ∧ K (M a i)
  else if z_knd a = 3 then 0 ≤ i ∧ i < Int.ofNat (z_len a) ∧ K (M a i) else False
def z_lald (a : Nat) (i : Int) (M : z_M) (K : Int → Prop) : Prop :=
  if z_knd a = 2 then 0 ≤ i ∧ i < Int.ofNat (z_len a) ∧ K (M a i) else False
def z_iast (a : Nat) (i x : Int) (M : z_M) (K : z_M → Prop) : Prop :=
  if z_knd a = 1 then 0 ≤ i ∧ i < Int.ofNat (z_len a) ∧ K (z_up M a i x) else False
def z_bast (a : Nat) (i x : Int) (M : z_M) (K : z_M → Prop) : Prop :=
  if z_knd a = 4 then 0 ≤ i ∧ i < Int.ofNat (z_len a) ∧ z_bl x (K (z_up M a i x))
  else if z_knd a = 3 then 0 ≤ i ∧ i < Int.ofNat (z_len a) ∧ K (z_up M a i (z_wb x)) else False
def z_last (a : Nat) (i x : Int) (M : z_M) (K : z_M → Prop) : Prop :=
  if z_knd a = 2 then 0 ≤ i ∧ i < Int.ofNat (z_len a) ∧ K (z_up M a i x) else False
def z_put (a o j t : Nat) (x : Int) (M : z_M) (K : z_M → Prop) : Prop :=
  if a = o then (if t = 0 then K (z_up M o (Int.ofNat j) x) else if t = 1 then z_bl x (K (z_up M o (Int.ofNat j) x)) else False) else False
def z_copy (a : Nat) (i : Int) (b : Nat) (j n : Int) (M : z_M) (K : z_M → Prop) : Prop :=
  if z_knd a = 1 then (if z_knd b = 1 then 0 ≤ i ∧ 0 ≤ j ∧ 0 ≤ n ∧ i + n ≤ Int.ofNat (z_len a) ∧ j + n ≤ Int.ofNat (z_len b) ∧ K (z_cp M a i b j n) else False) else False
