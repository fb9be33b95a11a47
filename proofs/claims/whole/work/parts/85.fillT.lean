/-- Town.fill: the rectangle of two spots gets the kind -/
def z_lo (x y : Int) : Int := if y < x then y else x
def z_hi (x y : Int) : Int := if x < y then y else x
theorem c_fillT (d : Nat) {M : z_M} {Q : z_V → z_M → Prop} {a b v : Int} (ha : 0 ≤ a ∧ a < 100) (hb : 0 ≤ b ∧ b < 100) (h : Q z_U (z_pa M 1001016 v (z_rp (z_lo (a % 10) (b % 10)) (z_hi (a % 10) (b % 10)) (z_lo (a / 10) (b / 10)) (z_hi (a / 10) (b / 10) + 1) (z_lo (a % 10) (b % 10))))) : z_Cl 0 d 153 [z_R 3, z_I a, z_I b, z_I v] M Q := by
  have e1 : z_lo (a % 10) (b % 10) = z_min (a % 10) (b % 10) := rfl
  have e2 : z_hi (a % 10) (b % 10) = z_max (a % 10) (b % 10) := rfl
  have e3 : z_lo (a / 10) (b / 10) = z_min (a / 10) (b / 10) := rfl
  have e4 : z_hi (a / 10) (b / 10) = z_max (a / 10) (b / 10) := rfl
  have b1 : 0 ≤ z_lo (a % 10) (b % 10) ∧ z_lo (a % 10) (b % 10) ≤ z_hi (a % 10) (b % 10) ∧ z_hi (a % 10) (b % 10) < 10 := by
    unfold z_lo z_hi; split <;> split <;> omega
  have b2 : 0 ≤ z_lo (a / 10) (b / 10) ∧ z_lo (a / 10) (b / 10) ≤ z_hi (a / 10) (b / 10) ∧ z_hi (a / 10) (b / 10) < 10 := by
    unfold z_lo z_hi; split <;> split <;> omega
  refine re_153 d ?_
  rw [z_tm ha.1, z_tm hb.1, z_td ha.1, z_td hb.1, z_w_id (x := a / 10) (by omega) (by omega), z_w_id (x := b / 10) (by omega) (by omega), ← e2, ← e3, ← e4]
  generalize z_lo (a / 10) (b / 10) = y0 at *
  generalize z_hi (a / 10) (b / 10) = y1 at *
  generalize z_hi (a % 10) (b % 10) = x1 at *
  have rows : ∀ (f : Nat) (y : Int), y0 ≤ y → y ≤ y1 + 1 → y1 + 1 - y < f → z_G 0 d z_m153 39 [z_R 3, z_I a, z_I b, z_I v, z_I x1, z_I y1, z_I y, z_U] [] (z_pa M 1001016 v (z_rp (z_lo (a % 10) (b % 10)) x1 y0 y (z_lo (a % 10) (b % 10)))) Q := by
    intro f
    induction f with
    | zero => intro y _ h2 h3; exact absurd h3 (by omega)
    | succ f ih =>
      intro y hy h2 h3
      refine rg_153_39 d ⟨fun c => ?_, fun c => ?_⟩
      · have e : y = y1 + 1 := by omega
        rw [e]
        exact h
      · rw [z_tm ha.1, z_tm hb.1, ← e1]
        generalize z_lo (a % 10) (b % 10) = x0 at *
        have cols : ∀ (f2 : Nat) (x : Int), x0 ≤ x → x ≤ x1 + 1 → x1 + 1 - x < f2 → z_G 0 d z_m153 59 [z_R 3, z_I a, z_I b, z_I v, z_I x1, z_I y1, z_I y, z_I x] [] (z_pa M 1001016 v (z_rp x0 x1 y0 y x)) Q := by
          intro f2
          induction f2 with
          | zero => intro x _ h2 h3; exact absurd h3 (by omega)
          | succ f2 ih2 =>
            intro x hx g2 g3
            refine rg_153_59 d ⟨fun c2 => ?_, fun c2 => ?_⟩
            · have e : x = x1 + 1 := by omega
              rw [e, z_pa_cg (z_rp_row hy), z_w_id (by omega) (by omega)]
              exact ih (y + 1) (by omega) (by omega) (by omega)
            · rw [z_w_id (x := 10 * y) (by omega) (by omega), z_w_id (x := 10 * y + x) (by omega) (by omega), z_w_id (x := x + 1) (by omega) (by omega)]
              refine ⟨by omega, by omega, ?_⟩
              rw [z_pa_up (z_rp_up hx (by omega) (by omega))]
              exact ih2 (x + 1) (by omega) (by omega) (by omega)
        exact cols (x1 + 2 - x0).toNat x0 (Int.le_refl _) (by omega) (by omega)
  have := rows (y1 + 2 - y0).toNat y0 (Int.le_refl _) (by omega) (by omega)
  rw [z_pa_0 z_rp_0] at this
  exact this
