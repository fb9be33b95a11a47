/-! THE PURE LAYER, first: the tape's bytes put in, on both sides -/
/-- i places of A from O's count on written with b, and the count -/
def z_wr (M : z_M) (O A : Nat) (b : Int → Int) (i : Int) : z_M := fun k j => if k = O then (if j = 1 then M O 1 + i else M O j) else if k = A then (if M O 1 ≤ j ∧ j < M O 1 + i then b (j - M O 1) else M A j) else M k j
theorem z_wr_0 (M : z_M) (O A : Nat) (b : Int → Int) : z_wr M O A b 0 = M := by
  funext k j
  unfold z_wr
  by_cases h1 : k = O
  · rw [if_pos h1]
    by_cases h2 : j = 1
    · rw [if_pos h2, h1, h2]; omega
    · rw [if_neg h2, h1]
  · rw [if_neg h1]
    by_cases h2 : k = A
    · rw [if_pos h2, if_neg (by omega), h2]
    · rw [if_neg h2]
theorem z_wr_n (M : z_M) (O A : Nat) (b : Int → Int) (i : Int) : z_wr M O A b i O 1 = M O 1 + i := by
  unfold z_wr
  rw [if_pos rfl, if_pos rfl]
theorem z_wr_up {M : z_M} {O A : Nat} {b : Int → Int} {i : Int} (hOA : A ≠ O) (hi : 0 ≤ i) : z_up (z_up (z_wr M O A b i) A (M O 1 + i) (b i)) O 1 (M O 1 + i + 1) = z_wr M O A b (i + 1) := by
  funext k j
  unfold z_up z_wr
  by_cases h1 : k = O
  · subst h1
    simp only [if_true]
    by_cases h2 : j = 1
    · rw [if_pos h2, if_pos h2]; omega
    · rw [if_neg h2, if_neg h2, if_neg (fun e => hOA e.symm), if_neg h2]
  · simp only [if_neg h1]
    by_cases h2 : k = A
    · subst h2
      simp only [if_true]
      by_cases h3 : j = M O 1 + i
      · rw [if_pos h3, if_pos (by omega)]
        congr 1
        omega
      · rw [if_neg h3]
        by_cases h4 : M O 1 ≤ j ∧ j < M O 1 + i
        · rw [if_pos h4, if_pos (by omega)]
        · rw [if_neg h4, if_neg (by omega)]
    · simp only [if_neg h2]
/-- the four bytes of an int, on the class's side and on the model's -/
def z_byC (a : Int) (i : Int) : Int := z_and (z_shr a (24 - 8 * i)) 255
def z_byM (a : Int) (i : Int) : Int := z_wb (z_wb (z_shr a (24 - 8 * i)))
theorem c_add (d : Nat) {M : z_M} {Q : z_V → z_M → Prop} {a : Int} (h0 : 0 ≤ M 2 1) (h1 : M 2 1 ≤ 256) (h : Q z_U (z_wr M 2 2601014 (z_byC a) 4)) : z_Cl 0 d 127 [z_R 2, z_I a] M Q := by
  have loop : ∀ (f : Nat) (i : Int), 0 ≤ i → i ≤ 4 → 4 - i < f → z_G 0 d z_m127 3 [z_R 2, z_I a, z_I (24 - 8 * i)] [] (z_wr M 2 2601014 (z_byC a) i) Q := by
    intro f
    induction f with
    | zero => intro i _ h2 h3; exact absurd h3 (by omega)
    | succ f ih =>
      intro i hi h2 h3
      refine rg_127_3 d ⟨fun c => ?_, fun c => ?_⟩
      · have e : i = 4 := by omega
        rw [e]
        exact h
      · rw [z_wr_n]
        refine ⟨fun c => absurd c (by omega), fun _ => ⟨by omega, by omega, ?_⟩⟩
        rw [z_up_ne (by decide), z_wr_n, z_w_id (by omega) (by omega), z_w_id (by omega) (by omega)]
        have e : z_and (z_shr a (24 - 8 * i)) 255 = z_byC a i := rfl
        rw [e, z_wr_up (by decide) hi]
        have e2 : 24 - 8 * i + -8 = 24 - 8 * (i + 1) := by omega
        rw [e2]
        exact ih (i + 1) (by omega) (by omega) (by omega)
  have := loop 5 0 (by omega) (by omega) (by omega)
  rw [z_wr_0] at this
  exact re_127 d this
theorem c_push (d : Nat) {M : z_M} {Q : z_V → z_M → Prop} {a : Int} (h0 : 0 ≤ M 13 1) (h1 : M 13 1 ≤ 256) (h : Q z_U (z_wr M 13 2603064 (z_byM a) 4)) : z_Cl 0 d 226 [z_R 13, z_I a] M Q := by
  have loop : ∀ (f : Nat) (i : Int), 0 ≤ i → i ≤ 4 → 4 - i < f → z_G 0 d z_m226 3 [z_R 13, z_I a, z_I (24 - 8 * i)] [] (z_wr M 13 2603064 (z_byM a) i) Q := by
    intro f
    induction f with
    | zero => intro i _ h2 h3; exact absurd h3 (by omega)
    | succ f ih =>
      intro i hi h2 h3
      refine rg_226_3 d ⟨fun c => ?_, fun c => ?_⟩
      · have e : i = 4 := by omega
        rw [e]
        exact h
      · rw [z_wr_n]
        refine ⟨by omega, by omega, ?_⟩
        rw [z_up_ne (by decide), z_wr_n, z_w_id (by omega) (by omega), z_w_id (by omega) (by omega)]
        have e : z_wb (z_wb (z_shr a (24 - 8 * i))) = z_byM a i := rfl
        rw [e, z_wr_up (by decide) hi]
        have e2 : 24 - 8 * i + -8 = 24 - 8 * (i + 1) := by omega
        rw [e2]
        exact ih (i + 1) (by omega) (by omega) (by omega)
  have := loop 5 0 (by omega) (by omega) (by omega)
  rw [z_wr_0] at this
  exact re_226 d this
