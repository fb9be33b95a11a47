/-- how many of the first n places of f aren't 0 -/
def z_nnz (f : Int → Int) : Nat → Int
  | 0 => 0
  | n + 1 => z_nnz f n + (if f (n : Int) = 0 then 0 else 1)
theorem z_nnz_b (f : Int → Int) (n : Nat) : 0 ≤ z_nnz f n ∧ z_nnz f n ≤ n := by
  induction n with
  | zero => exact ⟨Int.le_refl _, Int.le_refl _⟩
  | succ n ih =>
    unfold z_nnz
    split <;> omega
theorem z_nnz_cg {f g : Int → Int} (n : Nat) (h : ∀ j : Int, 0 ≤ j → j < n → f j = g j) : z_nnz f n = z_nnz g n := by
  induction n with
  | zero => rfl
  | succ n ih =>
    unfold z_nnz
    rw [ih (fun j h0 h1 => h j h0 (by omega)), h (n : Int) (Int.natCast_nonneg n) (by omega)]
theorem c_notPlain (d : Nat) {M : z_M} {Q : z_V → z_M → Prop} (h : Q (z_I (z_nnz (M 1001015) 100)) M) : z_Cl 0 d 147 [z_R 3] M Q := by
  have loop : ∀ (f n : Nat), n ≤ 100 → 100 - n < f → z_G 0 d z_m147 4 [z_R 3, z_I (z_nnz (M 1001015) n), z_I n] [] M Q := by
    intro f
    induction f with
    | zero => intro n _ h3; exact absurd h3 (by omega)
    | succ f ih =>
      intro n h2 h3
      have hb := z_nnz_b (M 1001015) n
      refine rg_147_4 d ⟨fun c => ?_, fun c => ⟨by omega, by omega, fun c2 => ?_, fun c2 => ?_⟩⟩
      · have e : n = 100 := by omega
        rw [e]
        exact h
      · have := ih (n + 1) (by omega) (by omega)
        rw [z_w_id (by omega) (by omega), z_w_id (by omega) (by omega)]
        have e : z_nnz (M 1001015) (n + 1) = z_nnz (M 1001015) n + 1 := by
          show z_nnz (M 1001015) n + (if M 1001015 (n : Int) = 0 then 0 else 1) = _
          rw [if_neg c2]
        rw [e] at this
        exact this
      · have := ih (n + 1) (by omega) (by omega)
        rw [z_w_id (by omega) (by omega), z_w_id (by omega) (by omega)]
        have e : z_nnz (M 1001015) (n + 1) = z_nnz (M 1001015) n + 0 := by
          show z_nnz (M 1001015) n + (if M 1001015 (n : Int) = 0 then 0 else 1) = _
          rw [if_pos c2]
        rw [e] at this
        exact this
  exact re_147 d (loop 101 0 (by omega) (by omega))
