/-- places of A that P names hold v -/
def z_pa (M : z_M) (A : Nat) (v : Int) (P : Int → Bool) : z_M := fun b j => if b = A then (if P j = true then v else M A j) else M b j
theorem z_pa_up {M : z_M} {A : Nat} {v i : Int} {P P' : Int → Bool} (h : ∀ j, P' j = (P j || decide (j = i))) : z_up (z_pa M A v P) A i v = z_pa M A v P' := by
  funext b j
  unfold z_up z_pa
  by_cases hb : b = A
  · simp only [if_pos hb]
    rw [h j]
    by_cases hj : j = i
    · rw [if_pos hj, if_pos (by rw [decide_eq_true hj, Bool.or_true])]
    · rw [if_neg hj, decide_eq_false hj, Bool.or_false]
  · simp only [if_neg hb]
theorem z_pa_cg {M : z_M} {A : Nat} {v : Int} {P P' : Int → Bool} (h : ∀ j, P j = P' j) : z_pa M A v P = z_pa M A v P' := by rw [show P = P' from funext h]
theorem z_pa_0 {M : z_M} {A : Nat} {v : Int} {P : Int → Bool} (h : ∀ j, P j = false) : z_pa M A v P = M := by
  funext b j
  unfold z_pa
  by_cases hb : b = A
  · rw [if_pos hb, if_neg (by rw [h j]; decide), hb]
  · rw [if_neg hb]
/-- the rows y0 to y - 1 of the rectangle, and of the row y what lies before x -/
def z_rp (x0 x1 y0 y x : Int) (j : Int) : Bool := decide ((y0 ≤ j / 10 ∧ j / 10 < y ∧ x0 ≤ j % 10 ∧ j % 10 ≤ x1) ∨ (j / 10 = y ∧ x0 ≤ j % 10 ∧ j % 10 < x))
theorem z_rp_up {x0 x1 y0 y x : Int} (h0 : x0 ≤ x) (h1 : 0 ≤ x) (h2 : x < 10) (j : Int) : z_rp x0 x1 y0 y (x + 1) j = (z_rp x0 x1 y0 y x j || decide (j = 10 * y + x)) := by
  unfold z_rp
  rw [← Bool.decide_or]
  apply decide_eq_decide.mpr
  omega
theorem z_rp_row {x0 x1 y0 y : Int} (hy : y0 ≤ y) (j : Int) : z_rp x0 x1 y0 y (x1 + 1) j = z_rp x0 x1 y0 (y + 1) x0 j := by
  unfold z_rp
  apply decide_eq_decide.mpr
  omega
theorem z_rp_0 {x0 x1 y0 : Int} (j : Int) : z_rp x0 x1 y0 y0 x0 j = false := by
  unfold z_rp
  apply decide_eq_false
  omega
