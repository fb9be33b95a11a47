/-! ONE STEP, in the form in which programs write walks (wip/whole/sym.py) -/
theorem z_Cl_mono {wd d k : Nat} {a : List z_V} {M : z_M} {Q Q' : z_V → z_M → Prop} (hQ : ∀ v M, Q v M → Q' v M) (h : z_Cl wd d k a M Q) : z_Cl wd d k a M Q' := by
  obtain ⟨t, ht, hM⟩ := h
  refine ⟨t, ht, fun l cx sz hva hMR => ?_⟩
  intro p e ha hc hk s m args below hf hap hp hK
  obtain ⟨n, o, h1, h2, h3, ⟨⟨v, M', g1, g2, g3, g4, g5⟩, g6⟩, h5⟩ := hM l cx sz hva hMR p e ha hc hk s m args below hf hap hp hK
  exact ⟨n, o, h1, h2, h3, ⟨⟨v, M', g1, g2, g3, hQ v M' g4, g5⟩, g6⟩, h5⟩
theorem z_vi_mono {v : z_V} {K K' : Int → Prop} (hK : ∀ x, K x → K' x) (h : z_vi v K) : z_vi v K' := by
  match v, h with
  | .inl x, h => exact hK x h
theorem z_vl_mono {v : z_V} {K K' : Int → Prop} (hK : ∀ x, K x → K' x) (h : z_vl v K) : z_vl v K' := by
  match v, h with
  | .inr (.inl x), h => exact hK x h
def z_spl : Nat → List z_V → List z_V → List z_V × List z_V
  | 0, a, r => (a, r)
  | n + 1, a, v :: r => z_spl n (v :: a) r
  | _ + 1, a, [] => (a, [])
theorem z_take_spl {K : List z_V → List z_V → Prop} : ∀ {n : Nat} {acc S a r : List z_V}, z_spl n acc S = (a, r) → n ≤ S.length → K a r → z_take n acc S K := by
  intro n
  induction n with
  | zero =>
    intro acc S a r e _ h
    cases e
    exact h
  | succ n ih =>
    intro acc S a r e hl h
    cases S with
    | nil => exact absurd hl (by simp)
    | cons v S => exact ih (acc := v :: acc) e (by simpa using hl) h
def z_chkW (t : z_MT) : Bool := t.2.2.2.2.1.all (z_chkE t.1.cls t.2.1 t.2.2.1 t.2.2.2.1)
theorem z_wk {t : z_MT} (h : z_chkM t = true) : z_chkW t = true := List.all_eq_true.mpr (z_chkM_inv h).1
def z_sub : List z_V → List z_V → Prop
  | [], [] => True
  | a :: t, b :: u => (a = b ∨ a = z_U) ∧ z_sub t u
  | _, _ => False
theorem z_sub_nth : ∀ {L2 L : List z_V}, z_sub L2 L → ∀ (n : Nat) (v : z_V), z_nth L2 n = some v → v ≠ z_U → z_nth L n = some v := by
  intro L2
  induction L2 with
  | nil => intro L _ n v h; cases n <;> cases h
  | cons a t ih =>
    intro L h n v hn hv
    cases L with
    | nil => exact h.elim
    | cons b u =>
      cases n with
      | zero =>
        have e : a = v := Option.some.inj hn
        rcases h.1 with q | q
        · show some b = some v
          rw [← q, e]
        · exact absurd (e.symm.trans q) hv
      | succ n => exact ih h.2 n v hn hv
theorem z_sub_len : ∀ {L2 L : List z_V}, z_sub L2 L → L2.length = L.length := by
  intro L2
  induction L2 with
  | nil => intro L h; cases L with
    | nil => rfl
    | cons b u => exact h.elim
  | cons a t ih => intro L h; cases L with
    | nil => exact h.elim
    | cons b u => exact congrArg (· + 1) (ih h.2)
theorem z_sub_ok {wd : Nat} : ∀ {L2 L : List z_V}, z_sub L2 L → (∀ v ∈ L, z_vok wd v) → ∀ v ∈ L2, z_vok wd v := by
  intro L2
  induction L2 with
  | nil => intro L _ _ v h; cases h
  | cons a t ih => intro L h hL v hv; cases L with
    | nil => exact h.elim
    | cons b u =>
      rcases List.mem_cons.mp hv with e | e
      · rw [e]
        rcases h.1 with q | q
        · rw [q]; exact hL b List.mem_cons_self
        · rw [q]; exact trivial
      · exact ih h.2 (fun x hx => hL x (List.mem_cons_of_mem _ hx)) v e
theorem z_G_fgt {wd d pc : Nat} {t : z_MT} {L L2 S : List z_V} {M : z_M} {Q : z_V → z_M → Prop} (hs : z_sub L2 L) (h : z_G wd d t pc L2 S M Q) : z_G wd d t pc L S M Q := by
  intro p l e R CC SS s m args below meth c cx H locs ls F C
  obtain ⟨hP, hD, hS, hMR, hl, hLn, hL, hSk⟩ := C
  refine h p l e R CC SS s m args below meth c cx H locs ls F ⟨hP, hD, hS, hMR, ⟨hl.1, hl.2.1, fun q hq => ?_⟩, (z_sub_len hs).trans hLn, z_sub_ok hs hL, hSk⟩
  obtain ⟨q1, q2⟩ := q
  obtain ⟨v, n, e1, e2, e3, e4⟩ := z_lx_mem hq
  rw [Nat.zero_add] at e1
  subst e1; subst e4
  exact z_lhas hl (z_sub_nth hs _ _ e2 e3) e3
theorem z_getI_of {w o j : Nat} {M : z_M} {K : z_V → Prop} (h : K (z_I (M o (Int.ofNat j)))) : z_get w o o j 0 M K := by
  unfold z_get; rw [if_pos rfl, if_pos rfl]; exact h
theorem z_getR_of {w o j k : Nat} {M : z_M} {K : z_V → Prop} (hk : ¬ k = 0) (hl : z_lv w k = true) (h : K (z_R k)) : z_get w o o j k M K := by
  unfold z_get; rw [if_pos rfl, if_neg hk, if_pos hl]; exact h
theorem z_iald_of1 {a : Nat} {i n : Int} {M : z_M} {K : Int → Prop} (hk : z_knd a = 1) (hn : Int.ofNat (z_len a) = n) (h0 : 0 ≤ i) (h1 : i < n) (h : K (M a i)) : z_iald a i M K := by
  subst hn; unfold z_iald; rw [if_pos hk]; exact ⟨h0, h1, h⟩
theorem z_iald_of6 {a : Nat} {i n : Int} {M : z_M} {K : Int → Prop} (hk : z_knd a = 6) (hn : Int.ofNat (z_len a) = n) (h0 : 0 ≤ i) (h1 : i < n) (h : K (z_cv a i)) : z_iald a i M K := by
  subst hn; unfold z_iald; rw [if_neg (by omega), if_pos hk]; exact ⟨h0, h1, h⟩
theorem z_cald_of7 {a : Nat} {i n : Int} {K : Int → Prop} (hk : z_knd a = 7) (hn : Int.ofNat (z_len a) = n) (h0 : 0 ≤ i) (h1 : i < n) (h : K (z_cv a i)) : z_cald a i K := by
  subst hn; unfold z_cald; rw [if_pos hk]; exact ⟨h0, h1, h⟩
theorem z_bald_of4 {a : Nat} {i n : Int} {M : z_M} {K : Int → Prop} (hk : z_knd a = 4) (hn : Int.ofNat (z_len a) = n) (h0 : 0 ≤ i) (h1 : i < n) (h : K (M a i)) : z_bald a i M K := by
  subst hn; unfold z_bald; rw [if_pos hk]; exact ⟨h0, h1, h⟩
theorem z_bald_of3 {a : Nat} {i n : Int} {M : z_M} {K : Int → Prop} (hk : z_knd a = 3) (hn : Int.ofNat (z_len a) = n) (h0 : 0 ≤ i) (h1 : i < n) (h : K (M a i)) : z_bald a i M K := by
  subst hn; unfold z_bald; rw [if_neg (by omega), if_pos hk]; exact ⟨h0, h1, h⟩
theorem z_lald_of2 {a : Nat} {i n : Int} {M : z_M} {K : Int → Prop} (hk : z_knd a = 2) (hn : Int.ofNat (z_len a) = n) (h0 : 0 ≤ i) (h1 : i < n) (h : K (M a i)) : z_lald a i M K := by
  subst hn; unfold z_lald; rw [if_pos hk]; exact ⟨h0, h1, h⟩
section ZQ
variable {wd d : Nat} {t : z_MT} {Q : z_V → z_M → Prop} {pc i : Nat} {L S r : List z_V} {M : z_M} {X : Nat × (Nat × Nat)} {lk : Nat × Nat} {x y v j : Int}
theorem z_q (ht : z_chkW t = true) {e : z_E} (he : z_nth t.2.2.2.2.1 i = some e) (h : z_stp wd (z_CC wd d) e L S M Q (fun pc L S M => z_G wd d t pc L S M Q)) : z_G wd d t e.1 L S M Q :=
  z_step_ok (List.all_eq_true.mp ht e (z_nth_mem he)) (fun _ _ _ _ h => h) h
theorem q_iload_n {n : Fin 4} (ht : z_chkW t = true) (i : Nat) (he : z_nth t.2.2.2.2.1 i = some (pc, ((.iload_n n, 1), (X, lk)))) (hx : z_nth L n = some (z_I x)) (h : z_G wd d t (pc + 1) L (z_I x :: S) (M) Q) : z_G wd d t (pc) L (S) (M) Q := z_q ht he (by show z_ldi L n _; unfold z_ldi; rw [hx]; exact h)
theorem q_iload {n : Nat} (ht : z_chkW t = true) (i : Nat) (he : z_nth t.2.2.2.2.1 i = some (pc, ((.iload n, 2), (X, lk)))) (hx : z_nth L n = some (z_I x)) (h : z_G wd d t (pc + 2) L (z_I x :: S) (M) Q) : z_G wd d t (pc) L (S) (M) Q := z_q ht he (by show z_ldi L n _; unfold z_ldi; rw [hx]; exact h)
theorem q_lload_n {n : Fin 4} (ht : z_chkW t = true) (i : Nat) (he : z_nth t.2.2.2.2.1 i = some (pc, ((.lload_n n, 1), (X, lk)))) (hx : z_nth L n = some (z_J x)) (h : z_G wd d t (pc + 1) L (z_J x :: S) (M) Q) : z_G wd d t (pc) L (S) (M) Q := z_q ht he (by show z_ldl L n _; unfold z_ldl; rw [hx]; exact h)
theorem q_lload {n : Nat} (ht : z_chkW t = true) (i : Nat) (he : z_nth t.2.2.2.2.1 i = some (pc, ((.lload n, 2), (X, lk)))) (hx : z_nth L n = some (z_J x)) (h : z_G wd d t (pc + 2) L (z_J x :: S) (M) Q) : z_G wd d t (pc) L (S) (M) Q := z_q ht he (by show z_ldl L n _; unfold z_ldl; rw [hx]; exact h)
theorem q_aload_n {n : Fin 4} {k : Nat} (ht : z_chkW t = true) (i : Nat) (he : z_nth t.2.2.2.2.1 i = some (pc, ((.aload_n n, 1), (X, lk)))) (hx : z_nth L n = some (z_R k)) (h : z_G wd d t (pc + 1) L (z_R k :: S) (M) Q) : z_G wd d t (pc) L (S) (M) Q := z_q ht he (by show z_lda L n _; unfold z_lda; rw [hx]; exact h)
theorem q_istore_n {n : Fin 4} {L2 : List z_V} (ht : z_chkW t = true) (i : Nat) (he : z_nth t.2.2.2.2.1 i = some (pc, ((.istore_n n, 1), (X, lk)))) (hL : z_st L n (z_I x) = L2) (h : z_G wd d t (pc + 1) L2 (r) (M) Q) : z_G wd d t (pc) L (z_I x :: r) (M) Q := z_q ht he (by subst hL; exact h)
theorem q_lstore_n {n : Fin 4} {L2 : List z_V} (ht : z_chkW t = true) (i : Nat) (he : z_nth t.2.2.2.2.1 i = some (pc, ((.lstore_n n, 1), (X, lk)))) (hL : z_st2 L n (z_J x) = L2) (h : z_G wd d t (pc + 1) L2 (r) (M) Q) : z_G wd d t (pc) L (z_J x :: r) (M) Q := z_q ht he (by subst hL; exact h)
theorem q_aload {n : Nat} {k : Nat} (ht : z_chkW t = true) (i : Nat) (he : z_nth t.2.2.2.2.1 i = some (pc, ((.aload n, 2), (X, lk)))) (hx : z_nth L n = some (z_R k)) (h : z_G wd d t (pc + 2) L (z_R k :: S) (M) Q) : z_G wd d t (pc) L (S) (M) Q := z_q ht he (by show z_lda L n _; unfold z_lda; rw [hx]; exact h)
theorem q_istore {n : Nat} {L2 : List z_V} (ht : z_chkW t = true) (i : Nat) (he : z_nth t.2.2.2.2.1 i = some (pc, ((.istore n, 2), (X, lk)))) (hL : z_st L n (z_I x) = L2) (h : z_G wd d t (pc + 2) L2 (r) (M) Q) : z_G wd d t (pc) L (z_I x :: r) (M) Q := z_q ht he (by subst hL; exact h)
theorem q_lstore {n : Nat} {L2 : List z_V} (ht : z_chkW t = true) (i : Nat) (he : z_nth t.2.2.2.2.1 i = some (pc, ((.lstore n, 2), (X, lk)))) (hL : z_st2 L n (z_J x) = L2) (h : z_G wd d t (pc + 2) L2 (r) (M) Q) : z_G wd d t (pc) L (z_J x :: r) (M) Q := z_q ht he (by subst hL; exact h)
theorem q_iinc {n : Nat} {k : Int} {L2 : List z_V} (ht : z_chkW t = true) (i : Nat) (he : z_nth t.2.2.2.2.1 i = some (pc, ((.iinc n k, 3), (X, lk)))) (hx : z_nth L n = some (z_I x)) (hL : z_st L n (z_I (z_w (x + k))) = L2) (h : z_G wd d t (pc + 3) L2 (S) (M) Q) : z_G wd d t (pc) L (S) (M) Q := z_q ht he (by subst hL; show z_ldi L n _; unfold z_ldi; rw [hx]; exact h)
theorem q_iconst {n : Int} (ht : z_chkW t = true) (i : Nat) (he : z_nth t.2.2.2.2.1 i = some (pc, ((.iconst n, 1), (X, lk)))) (h : z_G wd d t (pc + 1) L (z_I n :: S) (M) Q) : z_G wd d t (pc) L (S) (M) Q := z_q ht he h
theorem q_bipush {n : Int} (ht : z_chkW t = true) (i : Nat) (he : z_nth t.2.2.2.2.1 i = some (pc, ((.bipush n, 2), (X, lk)))) (h : z_G wd d t (pc + 2) L (z_I n :: S) (M) Q) : z_G wd d t (pc) L (S) (M) Q := z_q ht he h
theorem q_sipush {n : Int} (ht : z_chkW t = true) (i : Nat) (he : z_nth t.2.2.2.2.1 i = some (pc, ((.sipush n, 3), (X, lk)))) (h : z_G wd d t (pc + 3) L (z_I n :: S) (M) Q) : z_G wd d t (pc) L (S) (M) Q := z_q ht he h
theorem q_lconst {n : Fin 2} (ht : z_chkW t = true) (i : Nat) (he : z_nth t.2.2.2.2.1 i = some (pc, ((.lconst n, 1), (X, lk)))) (hv : Int.ofNat (n : Nat) = v) (h : z_G wd d t (pc + 1) L (z_J v :: S) (M) Q) : z_G wd d t (pc) L (S) (M) Q := z_q ht he (by subst hv; exact h)
theorem q_ldc_w {n a b : Nat} (ht : z_chkW t = true) (i : Nat) (he : z_nth t.2.2.2.2.1 i = some (pc, ((.ldc_w n, 3), ((a, (b, 0)), lk)))) (hv : Int.ofNat a = v) (h : z_G wd d t (pc + 3) L (z_I v :: S) (M) Q) : z_G wd d t (pc) L (S) (M) Q := z_q ht he (by subst hv; exact h)
theorem q_ldc2_w {n a b c : Nat} (ht : z_chkW t = true) (i : Nat) (he : z_nth t.2.2.2.2.1 i = some (pc, ((.ldc2_w n, 3), ((a, (b, c)), lk)))) (hv : (if b = 0 then Int.ofNat a else -(Int.ofNat a)) = v) (h : z_G wd d t (pc + 3) L (z_J v :: S) (M) Q) : z_G wd d t (pc) L (S) (M) Q := z_q ht he (by
  show if b = 0 then _ else _
  by_cases hb : b = 0
  · rw [if_pos hb] at hv ⊢; subst hv; exact h
  · rw [if_neg hb] at hv ⊢; subst hv; exact h)
theorem q_iadd (ht : z_chkW t = true) (i : Nat) (he : z_nth t.2.2.2.2.1 i = some (pc, ((.iadd, 1), (X, lk)))) (h : z_G wd d t (pc + 1) L (z_I (z_w (x + y)) :: r) (M) Q) : z_G wd d t (pc) L (z_I y :: z_I x :: r) (M) Q := z_q ht he h
theorem q_isub (ht : z_chkW t = true) (i : Nat) (he : z_nth t.2.2.2.2.1 i = some (pc, ((.isub, 1), (X, lk)))) (h : z_G wd d t (pc + 1) L (z_I (z_w (x - y)) :: r) (M) Q) : z_G wd d t (pc) L (z_I y :: z_I x :: r) (M) Q := z_q ht he h
theorem q_imul (ht : z_chkW t = true) (i : Nat) (he : z_nth t.2.2.2.2.1 i = some (pc, ((.imul, 1), (X, lk)))) (h : z_G wd d t (pc + 1) L (z_I (z_w (x * y)) :: r) (M) Q) : z_G wd d t (pc) L (z_I y :: z_I x :: r) (M) Q := z_q ht he h
theorem q_iand (ht : z_chkW t = true) (i : Nat) (he : z_nth t.2.2.2.2.1 i = some (pc, ((.iand, 1), (X, lk)))) (h : z_G wd d t (pc + 1) L (z_I (z_and x y) :: r) (M) Q) : z_G wd d t (pc) L (z_I y :: z_I x :: r) (M) Q := z_q ht he h
theorem q_ior (ht : z_chkW t = true) (i : Nat) (he : z_nth t.2.2.2.2.1 i = some (pc, ((.ior, 1), (X, lk)))) (h : z_G wd d t (pc + 1) L (z_I (z_or x y) :: r) (M) Q) : z_G wd d t (pc) L (z_I y :: z_I x :: r) (M) Q := z_q ht he h
theorem q_ishl (ht : z_chkW t = true) (i : Nat) (he : z_nth t.2.2.2.2.1 i = some (pc, ((.ishl, 1), (X, lk)))) (h : z_G wd d t (pc + 1) L (z_I (z_shl x y) :: r) (M) Q) : z_G wd d t (pc) L (z_I y :: z_I x :: r) (M) Q := z_q ht he h
theorem q_ishr (ht : z_chkW t = true) (i : Nat) (he : z_nth t.2.2.2.2.1 i = some (pc, ((.ishr, 1), (X, lk)))) (h : z_G wd d t (pc + 1) L (z_I (z_shr x y) :: r) (M) Q) : z_G wd d t (pc) L (z_I y :: z_I x :: r) (M) Q := z_q ht he h
theorem q_iushr (ht : z_chkW t = true) (i : Nat) (he : z_nth t.2.2.2.2.1 i = some (pc, ((.iushr, 1), (X, lk)))) (h : z_G wd d t (pc + 1) L (z_I (z_ushr x y) :: r) (M) Q) : z_G wd d t (pc) L (z_I y :: z_I x :: r) (M) Q := z_q ht he h
theorem q_ladd (ht : z_chkW t = true) (i : Nat) (he : z_nth t.2.2.2.2.1 i = some (pc, ((.ladd, 1), (X, lk)))) (h : z_G wd d t (pc + 1) L (z_J (z_wl (x + y)) :: r) (M) Q) : z_G wd d t (pc) L (z_J y :: z_J x :: r) (M) Q := z_q ht he h
theorem q_lsub (ht : z_chkW t = true) (i : Nat) (he : z_nth t.2.2.2.2.1 i = some (pc, ((.lsub, 1), (X, lk)))) (h : z_G wd d t (pc + 1) L (z_J (z_wl (x - y)) :: r) (M) Q) : z_G wd d t (pc) L (z_J y :: z_J x :: r) (M) Q := z_q ht he h
theorem q_lmul (ht : z_chkW t = true) (i : Nat) (he : z_nth t.2.2.2.2.1 i = some (pc, ((.lmul, 1), (X, lk)))) (h : z_G wd d t (pc + 1) L (z_J (z_wl (x * y)) :: r) (M) Q) : z_G wd d t (pc) L (z_J y :: z_J x :: r) (M) Q := z_q ht he h
theorem q_land (ht : z_chkW t = true) (i : Nat) (he : z_nth t.2.2.2.2.1 i = some (pc, ((.land, 1), (X, lk)))) (h : z_G wd d t (pc + 1) L (z_J (z_andl x y) :: r) (M) Q) : z_G wd d t (pc) L (z_J y :: z_J x :: r) (M) Q := z_q ht he h
theorem q_lor (ht : z_chkW t = true) (i : Nat) (he : z_nth t.2.2.2.2.1 i = some (pc, ((.lor, 1), (X, lk)))) (h : z_G wd d t (pc + 1) L (z_J (z_orl x y) :: r) (M) Q) : z_G wd d t (pc) L (z_J y :: z_J x :: r) (M) Q := z_q ht he h
theorem q_lxor (ht : z_chkW t = true) (i : Nat) (he : z_nth t.2.2.2.2.1 i = some (pc, ((.lxor, 1), (X, lk)))) (h : z_G wd d t (pc + 1) L (z_J (z_xorl x y) :: r) (M) Q) : z_G wd d t (pc) L (z_J y :: z_J x :: r) (M) Q := z_q ht he h
theorem q_lcmp (ht : z_chkW t = true) (i : Nat) (he : z_nth t.2.2.2.2.1 i = some (pc, ((.lcmp, 1), (X, lk)))) (h : z_G wd d t (pc + 1) L (z_I (z_cmp x y) :: r) (M) Q) : z_G wd d t (pc) L (z_J y :: z_J x :: r) (M) Q := z_q ht he h
theorem q_lshl (ht : z_chkW t = true) (i : Nat) (he : z_nth t.2.2.2.2.1 i = some (pc, ((.lshl, 1), (X, lk)))) (h : z_G wd d t (pc + 1) L (z_J (z_shll x y) :: r) (M) Q) : z_G wd d t (pc) L (z_I y :: z_J x :: r) (M) Q := z_q ht he h
theorem q_lushr (ht : z_chkW t = true) (i : Nat) (he : z_nth t.2.2.2.2.1 i = some (pc, ((.lushr, 1), (X, lk)))) (h : z_G wd d t (pc + 1) L (z_J (z_ushrl x y) :: r) (M) Q) : z_G wd d t (pc) L (z_I y :: z_J x :: r) (M) Q := z_q ht he h
theorem q_idiv (ht : z_chkW t = true) (i : Nat) (he : z_nth t.2.2.2.2.1 i = some (pc, ((.idiv, 1), (X, lk)))) (hy : ¬ y = 0) (h : z_G wd d t (pc + 1) L (z_I (z_w (Int.tdiv x y)) :: r) (M) Q) : z_G wd d t (pc) L (z_I y :: z_I x :: r) (M) Q := z_q ht he (z_nz_of hy h)
theorem q_irem (ht : z_chkW t = true) (i : Nat) (he : z_nth t.2.2.2.2.1 i = some (pc, ((.irem, 1), (X, lk)))) (hy : ¬ y = 0) (h : z_G wd d t (pc + 1) L (z_I (Int.tmod x y) :: r) (M) Q) : z_G wd d t (pc) L (z_I y :: z_I x :: r) (M) Q := z_q ht he (z_nz_of hy h)
theorem q_ldiv (ht : z_chkW t = true) (i : Nat) (he : z_nth t.2.2.2.2.1 i = some (pc, ((.ldiv, 1), (X, lk)))) (hy : ¬ y = 0) (h : z_G wd d t (pc + 1) L (z_J (z_wl (Int.tdiv x y)) :: r) (M) Q) : z_G wd d t (pc) L (z_J y :: z_J x :: r) (M) Q := z_q ht he (z_nz_of hy h)
theorem q_lrem (ht : z_chkW t = true) (i : Nat) (he : z_nth t.2.2.2.2.1 i = some (pc, ((.lrem, 1), (X, lk)))) (hy : ¬ y = 0) (h : z_G wd d t (pc + 1) L (z_J (Int.tmod x y) :: r) (M) Q) : z_G wd d t (pc) L (z_J y :: z_J x :: r) (M) Q := z_q ht he (z_nz_of hy h)
theorem q_ineg (ht : z_chkW t = true) (i : Nat) (he : z_nth t.2.2.2.2.1 i = some (pc, ((.ineg, 1), (X, lk)))) (h : z_G wd d t (pc + 1) L (z_I (z_w (-x)) :: r) (M) Q) : z_G wd d t (pc) L (z_I x :: r) (M) Q := z_q ht he h
theorem q_i2l (ht : z_chkW t = true) (i : Nat) (he : z_nth t.2.2.2.2.1 i = some (pc, ((.i2l, 1), (X, lk)))) (h : z_G wd d t (pc + 1) L (z_J x :: r) (M) Q) : z_G wd d t (pc) L (z_I x :: r) (M) Q := z_q ht he h
theorem q_l2i (ht : z_chkW t = true) (i : Nat) (he : z_nth t.2.2.2.2.1 i = some (pc, ((.l2i, 1), (X, lk)))) (h : z_G wd d t (pc + 1) L (z_I (z_w x) :: r) (M) Q) : z_G wd d t (pc) L (z_J x :: r) (M) Q := z_q ht he h
theorem q_i2b (ht : z_chkW t = true) (i : Nat) (he : z_nth t.2.2.2.2.1 i = some (pc, ((.i2b, 1), (X, lk)))) (h : z_G wd d t (pc + 1) L (z_I (z_wb x) :: r) (M) Q) : z_G wd d t (pc) L (z_I x :: r) (M) Q := z_q ht he h
theorem q_dup {u : z_V} (ht : z_chkW t = true) (i : Nat) (he : z_nth t.2.2.2.2.1 i = some (pc, ((.dup, 1), (X, lk)))) (hu : z_k1 u = true) (h : z_G wd d t (pc + 1) L (u :: u :: r) (M) Q) : z_G wd d t (pc) L (u :: r) (M) Q := z_q ht he (by show if z_k1 u = true then _ else _; rw [if_pos hu]; exact h)
theorem q_pop {u : z_V} (ht : z_chkW t = true) (i : Nat) (he : z_nth t.2.2.2.2.1 i = some (pc, ((.pop, 1), (X, lk)))) (hu : z_k1 u = true) (h : z_G wd d t (pc + 1) L (r) (M) Q) : z_G wd d t (pc) L (u :: r) (M) Q := z_q ht he (by show if z_k1 u = true then _ else _; rw [if_pos hu]; exact h)
theorem q_dup2 {u v : z_V} (ht : z_chkW t = true) (i : Nat) (he : z_nth t.2.2.2.2.1 i = some (pc, ((.dup2, 1), (X, lk)))) (hu : z_k1 u = true) (hv : z_k1 v = true) (h : z_G wd d t (pc + 1) L (u :: v :: u :: v :: r) (M) Q) : z_G wd d t (pc) L (u :: v :: r) (M) Q := z_q ht he (by show if z_k1 u = true then _ else _; rw [if_pos hu]; show if z_k1 v = true then _ else _; rw [if_pos hv]; exact h)
theorem q_goto {o : Int} {tg : Nat} (ht : z_chkW t = true) (i : Nat) (he : z_nth t.2.2.2.2.1 i = some (pc, ((.goto o, 3), (X, lk)))) (hg : z_tgt pc o = tg) (h : z_G wd d t (tg) L (S) (M) Q) : z_G wd d t (pc) L (S) (M) Q := z_q ht he (by subst hg; exact h)
theorem q_if_eq {o : Int} {tg : Nat} (ht : z_chkW t = true) (i : Nat) (he : z_nth t.2.2.2.2.1 i = some (pc, ((.ifCond .eq o, 3), (X, lk)))) (hg : z_tgt pc o = tg) (h1 : x = 0 → z_G wd d t (tg) L (r) (M) Q) (h2 : ¬ x = 0 → z_G wd d t (pc + 3) L (r) (M) Q) : z_G wd d t (pc) L (z_I x :: r) (M) Q := z_q ht he (by subst hg; exact ⟨h1, h2⟩)
theorem q_icmp_eq {o : Int} {tg : Nat} (ht : z_chkW t = true) (i : Nat) (he : z_nth t.2.2.2.2.1 i = some (pc, ((.if_icmp .eq o, 3), (X, lk)))) (hg : z_tgt pc o = tg) (h1 : x = y → z_G wd d t (tg) L (r) (M) Q) (h2 : ¬ x = y → z_G wd d t (pc + 3) L (r) (M) Q) : z_G wd d t (pc) L (z_I y :: z_I x :: r) (M) Q := z_q ht he (by subst hg; exact ⟨h1, h2⟩)
theorem q_if_ne {o : Int} {tg : Nat} (ht : z_chkW t = true) (i : Nat) (he : z_nth t.2.2.2.2.1 i = some (pc, ((.ifCond .ne o, 3), (X, lk)))) (hg : z_tgt pc o = tg) (h1 : ¬ x = 0 → z_G wd d t (tg) L (r) (M) Q) (h2 : x = 0 → z_G wd d t (pc + 3) L (r) (M) Q) : z_G wd d t (pc) L (z_I x :: r) (M) Q := z_q ht he (by subst hg; exact ⟨h1, h2⟩)
theorem q_icmp_ne {o : Int} {tg : Nat} (ht : z_chkW t = true) (i : Nat) (he : z_nth t.2.2.2.2.1 i = some (pc, ((.if_icmp .ne o, 3), (X, lk)))) (hg : z_tgt pc o = tg) (h1 : ¬ x = y → z_G wd d t (tg) L (r) (M) Q) (h2 : x = y → z_G wd d t (pc + 3) L (r) (M) Q) : z_G wd d t (pc) L (z_I y :: z_I x :: r) (M) Q := z_q ht he (by subst hg; exact ⟨h1, h2⟩)
theorem q_if_lt {o : Int} {tg : Nat} (ht : z_chkW t = true) (i : Nat) (he : z_nth t.2.2.2.2.1 i = some (pc, ((.ifCond .lt o, 3), (X, lk)))) (hg : z_tgt pc o = tg) (h1 : x < 0 → z_G wd d t (tg) L (r) (M) Q) (h2 : 0 ≤ x → z_G wd d t (pc + 3) L (r) (M) Q) : z_G wd d t (pc) L (z_I x :: r) (M) Q := z_q ht he (by subst hg; exact ⟨h1, h2⟩)
theorem q_icmp_lt {o : Int} {tg : Nat} (ht : z_chkW t = true) (i : Nat) (he : z_nth t.2.2.2.2.1 i = some (pc, ((.if_icmp .lt o, 3), (X, lk)))) (hg : z_tgt pc o = tg) (h1 : x < y → z_G wd d t (tg) L (r) (M) Q) (h2 : y ≤ x → z_G wd d t (pc + 3) L (r) (M) Q) : z_G wd d t (pc) L (z_I y :: z_I x :: r) (M) Q := z_q ht he (by subst hg; exact ⟨h1, h2⟩)
theorem q_if_ge {o : Int} {tg : Nat} (ht : z_chkW t = true) (i : Nat) (he : z_nth t.2.2.2.2.1 i = some (pc, ((.ifCond .ge o, 3), (X, lk)))) (hg : z_tgt pc o = tg) (h1 : 0 ≤ x → z_G wd d t (tg) L (r) (M) Q) (h2 : x < 0 → z_G wd d t (pc + 3) L (r) (M) Q) : z_G wd d t (pc) L (z_I x :: r) (M) Q := z_q ht he (by subst hg; exact ⟨h1, h2⟩)
theorem q_icmp_ge {o : Int} {tg : Nat} (ht : z_chkW t = true) (i : Nat) (he : z_nth t.2.2.2.2.1 i = some (pc, ((.if_icmp .ge o, 3), (X, lk)))) (hg : z_tgt pc o = tg) (h1 : y ≤ x → z_G wd d t (tg) L (r) (M) Q) (h2 : x < y → z_G wd d t (pc + 3) L (r) (M) Q) : z_G wd d t (pc) L (z_I y :: z_I x :: r) (M) Q := z_q ht he (by subst hg; exact ⟨h1, h2⟩)
theorem q_if_gt {o : Int} {tg : Nat} (ht : z_chkW t = true) (i : Nat) (he : z_nth t.2.2.2.2.1 i = some (pc, ((.ifCond .gt o, 3), (X, lk)))) (hg : z_tgt pc o = tg) (h1 : 0 < x → z_G wd d t (tg) L (r) (M) Q) (h2 : x ≤ 0 → z_G wd d t (pc + 3) L (r) (M) Q) : z_G wd d t (pc) L (z_I x :: r) (M) Q := z_q ht he (by subst hg; exact ⟨h1, h2⟩)
theorem q_icmp_gt {o : Int} {tg : Nat} (ht : z_chkW t = true) (i : Nat) (he : z_nth t.2.2.2.2.1 i = some (pc, ((.if_icmp .gt o, 3), (X, lk)))) (hg : z_tgt pc o = tg) (h1 : y < x → z_G wd d t (tg) L (r) (M) Q) (h2 : x ≤ y → z_G wd d t (pc + 3) L (r) (M) Q) : z_G wd d t (pc) L (z_I y :: z_I x :: r) (M) Q := z_q ht he (by subst hg; exact ⟨h1, h2⟩)
theorem q_if_le {o : Int} {tg : Nat} (ht : z_chkW t = true) (i : Nat) (he : z_nth t.2.2.2.2.1 i = some (pc, ((.ifCond .le o, 3), (X, lk)))) (hg : z_tgt pc o = tg) (h1 : x ≤ 0 → z_G wd d t (tg) L (r) (M) Q) (h2 : 0 < x → z_G wd d t (pc + 3) L (r) (M) Q) : z_G wd d t (pc) L (z_I x :: r) (M) Q := z_q ht he (by subst hg; exact ⟨h1, h2⟩)
theorem q_icmp_le {o : Int} {tg : Nat} (ht : z_chkW t = true) (i : Nat) (he : z_nth t.2.2.2.2.1 i = some (pc, ((.if_icmp .le o, 3), (X, lk)))) (hg : z_tgt pc o = tg) (h1 : x ≤ y → z_G wd d t (tg) L (r) (M) Q) (h2 : y < x → z_G wd d t (pc + 3) L (r) (M) Q) : z_G wd d t (pc) L (z_I y :: z_I x :: r) (M) Q := z_q ht he (by subst hg; exact ⟨h1, h2⟩)
theorem q_tableswitch {df lo hi : Int} {os : Array Int} {ln : Nat} (ht : z_chkW t = true) (i : Nat) (he : z_nth t.2.2.2.2.1 i = some (pc, ((.tableswitch df lo hi os, ln), (X, lk)))) (h : z_sw x pc (fun q => z_G wd d t q L r M Q) lo os.toList ∧ (x < lo ∨ hi < x → z_G wd d t (z_tgt pc df) L r M Q)) : z_G wd d t (pc) L (z_I x :: r) (M) Q := z_q ht he h
theorem q_lookupswitch {df : Int} {ps : Array (Int × Int)} {ln : Nat} (ht : z_chkW t = true) (i : Nat) (he : z_nth t.2.2.2.2.1 i = some (pc, ((.lookupswitch df ps, ln), (X, lk)))) (h : z_lk x pc (fun q => z_G wd d t q L r M Q) (z_tgt pc df) ps.toList) : z_G wd d t (pc) L (z_I x :: r) (M) Q := z_q ht he h
theorem q_getI {ix jj o : Nat} (ht : z_chkW t = true) (i : Nat) (he : z_nth t.2.2.2.2.1 i = some (pc, ((.getfield ix, 3), ((jj, (o, 0)), lk)))) (hj : Int.ofNat jj = j) (h : z_G wd d t (pc + 3) L (z_I (M o j) :: r) (M) Q) : z_G wd d t (pc) L (z_R o :: r) (M) Q := z_q ht he (by subst hj; exact z_getI_of (w := wd) (K := fun v => z_G wd d t (pc + 3) L (v :: r) M Q) h)
theorem q_getR {ix jj o k : Nat} (ht : z_chkW t = true) (i : Nat) (he : z_nth t.2.2.2.2.1 i = some (pc, ((.getfield ix, 3), ((jj, (o, k)), lk)))) (hk : ¬ k = 0) (hl : z_lv wd k = true) (h : z_G wd d t (pc + 3) L (z_R k :: r) (M) Q) : z_G wd d t (pc) L (z_R o :: r) (M) Q := z_q ht he (z_getR_of (K := fun v => z_G wd d t (pc + 3) L (v :: r) M Q) hk hl h)
theorem q_putI {ix jj o : Nat} (ht : z_chkW t = true) (i : Nat) (he : z_nth t.2.2.2.2.1 i = some (pc, ((.putfield ix, 3), ((jj, (o, 0)), lk)))) (hj : Int.ofNat jj = j) (h : z_G wd d t (pc + 3) L (r) (z_up M o j x) Q) : z_G wd d t (pc) L (z_I x :: z_R o :: r) (M) Q := z_q ht he (by subst hj; show z_put o o jj 0 x M _; unfold z_put; rw [if_pos rfl, if_pos rfl]; exact h)
theorem q_putZ {ix jj o : Nat} (ht : z_chkW t = true) (i : Nat) (he : z_nth t.2.2.2.2.1 i = some (pc, ((.putfield ix, 3), ((jj, (o, 1)), lk)))) (hj : Int.ofNat jj = j) (h : z_bl x (z_G wd d t (pc + 3) L (r) (z_up M o j x) Q)) : z_G wd d t (pc) L (z_I x :: z_R o :: r) (M) Q := z_q ht he (by subst hj; show z_put o o jj 1 x M _; unfold z_put; rw [if_pos rfl, if_neg (by decide), if_pos rfl]; exact h)
theorem q_getstatic {ix k a b : Nat} (ht : z_chkW t = true) (i : Nat) (he : z_nth t.2.2.2.2.1 i = some (pc, ((.getstatic ix, 3), ((k, (a, b)), lk)))) (h : z_G wd d t (pc + 3) L (z_R k :: S) (M) Q) : z_G wd d t (pc) L (S) (M) Q := z_q ht he h
theorem q_iald {a : Nat} {n : Int} (ht : z_chkW t = true) (i : Nat) (he : z_nth t.2.2.2.2.1 i = some (pc, ((.iaload, 1), (X, lk)))) (hk : z_knd a = 1) (hn : Int.ofNat (z_len a) = n) (h0 : 0 ≤ j) (h1 : j < n) (h : z_G wd d t (pc + 1) L (z_I (M a j) :: r) (M) Q) : z_G wd d t (pc) L (z_I j :: z_R a :: r) (M) Q := z_q ht he (z_iald_of1 (K := fun x => z_G wd d t (pc + 1) L (z_I x :: r) M Q) hk hn h0 h1 h)
theorem q_ialdC {a : Nat} {n : Int} (ht : z_chkW t = true) (i : Nat) (he : z_nth t.2.2.2.2.1 i = some (pc, ((.iaload, 1), (X, lk)))) (hk : z_knd a = 6) (hn : Int.ofNat (z_len a) = n) (h0 : 0 ≤ j) (h1 : j < n) (h : z_G wd d t (pc + 1) L (z_I (z_cv a j) :: r) (M) Q) : z_G wd d t (pc) L (z_I j :: z_R a :: r) (M) Q := z_q ht he (z_iald_of6 (K := fun x => z_G wd d t (pc + 1) L (z_I x :: r) M Q) hk hn h0 h1 h)
theorem q_cald {a : Nat} {n : Int} (ht : z_chkW t = true) (i : Nat) (he : z_nth t.2.2.2.2.1 i = some (pc, ((.caload, 1), (X, lk)))) (hk : z_knd a = 7) (hn : Int.ofNat (z_len a) = n) (h0 : 0 ≤ j) (h1 : j < n) (h : z_G wd d t (pc + 1) L (z_I (z_cv a j) :: r) (M) Q) : z_G wd d t (pc) L (z_I j :: z_R a :: r) (M) Q := z_q ht he (z_cald_of7 (K := fun x => z_G wd d t (pc + 1) L (z_I x :: r) M Q) hk hn h0 h1 h)
theorem q_zald {a : Nat} {n : Int} (ht : z_chkW t = true) (i : Nat) (he : z_nth t.2.2.2.2.1 i = some (pc, ((.baload, 1), (X, lk)))) (hk : z_knd a = 4) (hn : Int.ofNat (z_len a) = n) (h0 : 0 ≤ j) (h1 : j < n) (h : z_G wd d t (pc + 1) L (z_I (M a j) :: r) (M) Q) : z_G wd d t (pc) L (z_I j :: z_R a :: r) (M) Q := z_q ht he (z_bald_of4 (K := fun x => z_G wd d t (pc + 1) L (z_I x :: r) M Q) hk hn h0 h1 h)
theorem q_bald {a : Nat} {n : Int} (ht : z_chkW t = true) (i : Nat) (he : z_nth t.2.2.2.2.1 i = some (pc, ((.baload, 1), (X, lk)))) (hk : z_knd a = 3) (hn : Int.ofNat (z_len a) = n) (h0 : 0 ≤ j) (h1 : j < n) (h : z_G wd d t (pc + 1) L (z_I (M a j) :: r) (M) Q) : z_G wd d t (pc) L (z_I j :: z_R a :: r) (M) Q := z_q ht he (z_bald_of3 (K := fun x => z_G wd d t (pc + 1) L (z_I x :: r) M Q) hk hn h0 h1 h)
theorem q_lald {a : Nat} {n : Int} (ht : z_chkW t = true) (i : Nat) (he : z_nth t.2.2.2.2.1 i = some (pc, ((.laload, 1), (X, lk)))) (hk : z_knd a = 2) (hn : Int.ofNat (z_len a) = n) (h0 : 0 ≤ j) (h1 : j < n) (h : z_G wd d t (pc + 1) L (z_J (M a j) :: r) (M) Q) : z_G wd d t (pc) L (z_I j :: z_R a :: r) (M) Q := z_q ht he (z_lald_of2 (K := fun x => z_G wd d t (pc + 1) L (z_J x :: r) M Q) hk hn h0 h1 h)
theorem q_iast {a : Nat} {n : Int} (ht : z_chkW t = true) (i : Nat) (he : z_nth t.2.2.2.2.1 i = some (pc, ((.iastore, 1), (X, lk)))) (hk : z_knd a = 1) (hn : Int.ofNat (z_len a) = n) (h0 : 0 ≤ j) (h1 : j < n) (h : z_G wd d t (pc + 1) L (r) (z_up M a j (v)) Q) : z_G wd d t (pc) L (z_I v :: z_I j :: z_R a :: r) (M) Q := z_q ht he (by subst hn; show z_iast a j v M _; unfold z_iast; simp only [hk]; exact ⟨h0, h1, h⟩)
theorem q_zast {a : Nat} {n : Int} (ht : z_chkW t = true) (i : Nat) (he : z_nth t.2.2.2.2.1 i = some (pc, ((.bastore, 1), (X, lk)))) (hk : z_knd a = 4) (hn : Int.ofNat (z_len a) = n) (h0 : 0 ≤ j) (h1 : j < n) (h : z_bl v (z_G wd d t (pc + 1) L (r) (z_up M a j (v)) Q)) : z_G wd d t (pc) L (z_I v :: z_I j :: z_R a :: r) (M) Q := z_q ht he (by subst hn; show z_bast a j v M _; unfold z_bast; simp only [hk]; exact ⟨h0, h1, h⟩)
theorem q_bast {a : Nat} {n : Int} (ht : z_chkW t = true) (i : Nat) (he : z_nth t.2.2.2.2.1 i = some (pc, ((.bastore, 1), (X, lk)))) (hk : z_knd a = 3) (hn : Int.ofNat (z_len a) = n) (h0 : 0 ≤ j) (h1 : j < n) (h : z_G wd d t (pc + 1) L (r) (z_up M a j (z_wb v)) Q) : z_G wd d t (pc) L (z_I v :: z_I j :: z_R a :: r) (M) Q := z_q ht he (by subst hn; show z_bast a j v M _; unfold z_bast; simp only [hk]; exact ⟨h0, h1, h⟩)
theorem q_last {a : Nat} {n : Int} (ht : z_chkW t = true) (i : Nat) (he : z_nth t.2.2.2.2.1 i = some (pc, ((.lastore, 1), (X, lk)))) (hk : z_knd a = 2) (hn : Int.ofNat (z_len a) = n) (h0 : 0 ≤ j) (h1 : j < n) (h : z_G wd d t (pc + 1) L (r) (z_up M a j (v)) Q) : z_G wd d t (pc) L (z_J v :: z_I j :: z_R a :: r) (M) Q := z_q ht he (by subst hn; show z_last a j v M _; unfold z_last; simp only [hk]; exact ⟨h0, h1, h⟩)
theorem q_alen {a : Nat} {n : Int} (ht : z_chkW t = true) (i : Nat) (he : z_nth t.2.2.2.2.1 i = some (pc, ((.arraylength, 1), (X, lk)))) (hk : ¬ z_knd a = 0) (hn : Int.ofNat (z_len a) = n) (h : z_G wd d t (pc + 1) L (z_I n :: r) (M) Q) : z_G wd d t (pc) L (z_R a :: r) (M) Q := z_q ht he (by subst hn; show if z_knd a = 0 then _ else _; rw [if_neg hk]; exact h)
theorem q_iret (ht : z_chkW t = true) (i : Nat) (he : z_nth t.2.2.2.2.1 i = some (pc, ((.ireturn, 1), ((0, (0, 0)), lk)))) (h : Q (z_I x) M) : z_G wd d t (pc) L ([z_I x]) (M) Q := z_q ht he h
theorem q_zret (ht : z_chkW t = true) (i : Nat) (he : z_nth t.2.2.2.2.1 i = some (pc, ((.ireturn, 1), ((1, (0, 0)), lk)))) (h : z_bl x (Q (z_I x) M)) : z_G wd d t (pc) L ([z_I x]) (M) Q := z_q ht he h
theorem q_lret (ht : z_chkW t = true) (i : Nat) (he : z_nth t.2.2.2.2.1 i = some (pc, ((.lreturn, 1), (X, lk)))) (h : Q (z_J x) M) : z_G wd d t (pc) L ([z_J x]) (M) Q := z_q ht he h
theorem q_vret (ht : z_chkW t = true) (i : Nat) (he : z_nth t.2.2.2.2.1 i = some (pc, ((.return_, 1), (X, lk)))) (h : Q z_U M) : z_G wd d t (pc) L ([]) (M) Q := z_q ht he h
theorem q_invv0 {ix k n x3 : Nat} {a : List z_V} (ht : z_chkW t = true) (i : Nat) (he : z_nth t.2.2.2.2.1 i = some (pc, ((.invokevirtual ix, 3), ((k, (n, x3)), lk)))) (hh : z_hd a = x3 / 10) (hr : x3 % 10 = 0) (hs : z_spl n [] S = (a, r)) (hl : n ≤ S.length) (hc : z_cat r ≤ 8) (h : z_Cl wd d k a M (fun _ M2 => z_G wd (d + 1) t (pc + 3) L r M2 Q)) : z_G wd (d + 1) t pc L S M Q := by
  have key : z_take n [] S fun a r => if z_cat r ≤ 8 then (if z_hd a = x3 / 10 then z_CC wd (d + 1) k a M (fun v M' => z_ans (x3 % 10) v (z_G wd (d + 1) t (pc + 3) L r M' Q) (fun x => z_G wd (d + 1) t (pc + 3) L (z_I x :: r) M' Q) (fun x => z_G wd (d + 1) t (pc + 3) L (z_J x :: r) M' Q)) else False) else False := by
    refine z_take_spl hs hl ?_
    rw [if_pos hc]
    rw [if_pos hh, hr]
    exact h
  refine z_q ht he ?_
  exact key
theorem q_invv1 {ix k n x3 : Nat} {a : List z_V} (ht : z_chkW t = true) (i : Nat) (he : z_nth t.2.2.2.2.1 i = some (pc, ((.invokevirtual ix, 3), ((k, (n, x3)), lk)))) (hh : z_hd a = x3 / 10) (hr : x3 % 10 = 1) (hs : z_spl n [] S = (a, r)) (hl : n ≤ S.length) (hc : z_cat r ≤ 8) (h : z_Cl wd d k a M (fun v M2 => z_vi v fun x => z_G wd (d + 1) t (pc + 3) L (z_I x :: r) M2 Q)) : z_G wd (d + 1) t pc L S M Q := by
  have key : z_take n [] S fun a r => if z_cat r ≤ 8 then (if z_hd a = x3 / 10 then z_CC wd (d + 1) k a M (fun v M' => z_ans (x3 % 10) v (z_G wd (d + 1) t (pc + 3) L r M' Q) (fun x => z_G wd (d + 1) t (pc + 3) L (z_I x :: r) M' Q) (fun x => z_G wd (d + 1) t (pc + 3) L (z_J x :: r) M' Q)) else False) else False := by
    refine z_take_spl hs hl ?_
    rw [if_pos hc]
    rw [if_pos hh, hr]
    exact h
  refine z_q ht he ?_
  exact key
theorem q_invv2 {ix k n x3 : Nat} {a : List z_V} (ht : z_chkW t = true) (i : Nat) (he : z_nth t.2.2.2.2.1 i = some (pc, ((.invokevirtual ix, 3), ((k, (n, x3)), lk)))) (hh : z_hd a = x3 / 10) (hr : x3 % 10 = 2) (hs : z_spl n [] S = (a, r)) (hl : n ≤ S.length) (hc : z_cat r ≤ 8) (h : z_Cl wd d k a M (fun v M2 => z_vl v fun x => z_G wd (d + 1) t (pc + 3) L (z_J x :: r) M2 Q)) : z_G wd (d + 1) t pc L S M Q := by
  have key : z_take n [] S fun a r => if z_cat r ≤ 8 then (if z_hd a = x3 / 10 then z_CC wd (d + 1) k a M (fun v M' => z_ans (x3 % 10) v (z_G wd (d + 1) t (pc + 3) L r M' Q) (fun x => z_G wd (d + 1) t (pc + 3) L (z_I x :: r) M' Q) (fun x => z_G wd (d + 1) t (pc + 3) L (z_J x :: r) M' Q)) else False) else False := by
    refine z_take_spl hs hl ?_
    rw [if_pos hc]
    rw [if_pos hh, hr]
    exact h
  refine z_q ht he ?_
  exact key
theorem q_invs0 {ix k n x3 : Nat} {a : List z_V} (ht : z_chkW t = true) (i : Nat) (he : z_nth t.2.2.2.2.1 i = some (pc, ((.invokestatic ix, 3), ((k, (n, x3)), lk)))) (hr : x3 = 0) (hk : k < 1000) (hs : z_spl n [] S = (a, r)) (hl : n ≤ S.length) (hc : z_cat r ≤ 8) (h : z_Cl wd d k a M (fun _ M2 => z_G wd (d + 1) t (pc + 3) L r M2 Q)) : z_G wd (d + 1) t pc L S M Q := by
  have key : z_take n [] S fun a r => if z_cat r ≤ 8 then z_CC wd (d + 1) k a M (fun v M' => z_ans x3 v (z_G wd (d + 1) t (pc + 3) L r M' Q) (fun x => z_G wd (d + 1) t (pc + 3) L (z_I x :: r) M' Q) (fun x => z_G wd (d + 1) t (pc + 3) L (z_J x :: r) M' Q)) else False := by
    refine z_take_spl hs hl ?_
    rw [if_pos hc]
    rw [hr]
    exact h
  refine z_q ht he ?_
  have e1 : ¬ k = 1001 := by omega
  have e2 : ¬ k = 1002 := by omega
  have e3 : ¬ k = 1003 := by omega
  have e4 : ¬ k = 1004 := by omega
  unfold z_stp
  simp only [e1, e2, e3, e4]
  exact key
theorem q_invs1 {ix k n x3 : Nat} {a : List z_V} (ht : z_chkW t = true) (i : Nat) (he : z_nth t.2.2.2.2.1 i = some (pc, ((.invokestatic ix, 3), ((k, (n, x3)), lk)))) (hr : x3 = 1) (hk : k < 1000) (hs : z_spl n [] S = (a, r)) (hl : n ≤ S.length) (hc : z_cat r ≤ 8) (h : z_Cl wd d k a M (fun v M2 => z_vi v fun x => z_G wd (d + 1) t (pc + 3) L (z_I x :: r) M2 Q)) : z_G wd (d + 1) t pc L S M Q := by
  have key : z_take n [] S fun a r => if z_cat r ≤ 8 then z_CC wd (d + 1) k a M (fun v M' => z_ans x3 v (z_G wd (d + 1) t (pc + 3) L r M' Q) (fun x => z_G wd (d + 1) t (pc + 3) L (z_I x :: r) M' Q) (fun x => z_G wd (d + 1) t (pc + 3) L (z_J x :: r) M' Q)) else False := by
    refine z_take_spl hs hl ?_
    rw [if_pos hc]
    rw [hr]
    exact h
  refine z_q ht he ?_
  have e1 : ¬ k = 1001 := by omega
  have e2 : ¬ k = 1002 := by omega
  have e3 : ¬ k = 1003 := by omega
  have e4 : ¬ k = 1004 := by omega
  unfold z_stp
  simp only [e1, e2, e3, e4]
  exact key
theorem q_invs2 {ix k n x3 : Nat} {a : List z_V} (ht : z_chkW t = true) (i : Nat) (he : z_nth t.2.2.2.2.1 i = some (pc, ((.invokestatic ix, 3), ((k, (n, x3)), lk)))) (hr : x3 = 2) (hk : k < 1000) (hs : z_spl n [] S = (a, r)) (hl : n ≤ S.length) (hc : z_cat r ≤ 8) (h : z_Cl wd d k a M (fun v M2 => z_vl v fun x => z_G wd (d + 1) t (pc + 3) L (z_J x :: r) M2 Q)) : z_G wd (d + 1) t pc L S M Q := by
  have key : z_take n [] S fun a r => if z_cat r ≤ 8 then z_CC wd (d + 1) k a M (fun v M' => z_ans x3 v (z_G wd (d + 1) t (pc + 3) L r M' Q) (fun x => z_G wd (d + 1) t (pc + 3) L (z_I x :: r) M' Q) (fun x => z_G wd (d + 1) t (pc + 3) L (z_J x :: r) M' Q)) else False := by
    refine z_take_spl hs hl ?_
    rw [if_pos hc]
    rw [hr]
    exact h
  refine z_q ht he ?_
  have e1 : ¬ k = 1001 := by omega
  have e2 : ¬ k = 1002 := by omega
  have e3 : ¬ k = 1003 := by omega
  have e4 : ¬ k = 1004 := by omega
  unfold z_stp
  simp only [e1, e2, e3, e4]
  exact key
theorem q_max {ix a b : Nat} (ht : z_chkW t = true) (i : Nat) (he : z_nth t.2.2.2.2.1 i = some (pc, ((.invokestatic ix, 3), ((1001, (a, b)), lk)))) (hc : z_cat r ≤ 8) (h : z_G wd d t (pc + 3) L (z_I (z_max x y) :: r) (M) Q) : z_G wd d t (pc) L (z_I y :: z_I x :: r) (M) Q := z_q ht he (by show if z_cat r ≤ 8 then _ else _; rw [if_pos hc]; exact h)
theorem q_min {ix a b : Nat} (ht : z_chkW t = true) (i : Nat) (he : z_nth t.2.2.2.2.1 i = some (pc, ((.invokestatic ix, 3), ((1002, (a, b)), lk)))) (hc : z_cat r ≤ 8) (h : z_G wd d t (pc + 3) L (z_I (z_min x y) :: r) (M) Q) : z_G wd d t (pc) L (z_I y :: z_I x :: r) (M) Q := z_q ht he (by show if z_cat r ≤ 8 then _ else _; rw [if_pos hc]; exact h)
theorem q_abs {ix a b : Nat} (ht : z_chkW t = true) (i : Nat) (he : z_nth t.2.2.2.2.1 i = some (pc, ((.invokestatic ix, 3), ((1003, (a, b)), lk)))) (hc : z_cat r ≤ 8) (h : z_G wd d t (pc + 3) L (z_I (z_abs x) :: r) (M) Q) : z_G wd d t (pc) L (z_I x :: r) (M) Q := z_q ht he (by show if z_cat r ≤ 8 then _ else _; rw [if_pos hc]; exact h)
theorem q_copy {ix a b u1 u2 : Nat} {k n A B : Int} (ht : z_chkW t = true) (i : Nat) (he : z_nth t.2.2.2.2.1 i = some (pc, ((.invokestatic ix, 3), ((1004, (u1, u2)), lk)))) (hc : z_cat r ≤ 8) (ha : z_knd a = 1) (hb : z_knd b = 1) (hA : Int.ofNat (z_len a) = A) (hB : Int.ofNat (z_len b) = B) (h0 : 0 ≤ j) (h1 : 0 ≤ k) (h2 : 0 ≤ n) (h3 : j + n ≤ A) (h4 : k + n ≤ B) (h : z_G wd d t (pc + 3) L (r) (z_cp M a j b k n) Q) : z_G wd d t pc L (z_I n :: z_I k :: z_R b :: z_I j :: z_R a :: r) M Q := z_q ht he (by subst hA; subst hB; show if z_cat r ≤ 8 then _ else _; rw [if_pos hc]; show z_copy a j b k n M _; unfold z_copy; rw [if_pos ha, if_pos hb]; exact ⟨h0, h1, h2, h3, h4, h⟩)
end ZQ
/-- a method's contract out of its walk, its locals at hand -/
theorem q_entry {wd d k : Nat} {t : z_MT} {a L : List z_V} {M : z_M} {Q : z_V → z_M → Prop} (hk : z_nth z_mt k = some t) (ha : a.all (fun v => match v with | .inr (.inr (.inr _)) => false | _ => true) = true) (hlen : Nat.ble (z_lay a).length t.2.2.1 = true) (hL : z_pad (z_lay a) t.2.2.1 = L) (h : z_G wd d t 0 L [] M Q) : z_Cl wd d k a M Q := by
  subst hL
  refine z_Cl_of hk (fun v hv e => ?_) (Nat.le_of_ble_eq_true hlen) h
  have := List.all_eq_true.mp ha v hv
  rw [e] at this
  cases this
