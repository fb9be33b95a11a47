theorem c_amount (d : Nat) {M : z_M} {Q : z_V → z_M → Prop} {a : Int} (ha : -1000 ≤ a ∧ a ≤ 1000) (h : Q (z_I (if 0 ≤ a then a else -a)) M) : z_Cl 0 d 224 [z_I a] M Q := by
  refine re_224 d ⟨fun c => ?_, fun c => ?_⟩
  · rw [if_pos c] at h; exact h
  · rw [if_neg (by omega)] at h
    rw [z_w_id (by omega) (by omega)]
    exact h
theorem c_paints (d : Nat) {M : z_M} {Q : z_V → z_M → Prop} {v x1 y1 x2 y2 : Int} (hx1 : 0 ≤ x1 ∧ x1 < 10) (hy1 : 0 ≤ y1 ∧ y1 < 10) (hx2 : 0 ≤ x2 ∧ x2 < 10) (hy2 : 0 ≤ y2 ∧ y2 < 10) (h : Q z_U (z_pa M 1001066 v (z_rp (z_lo x1 x2) (z_hi x1 x2) (z_lo y1 y2) (z_hi y1 y2 + 1) (z_lo x1 x2)))) : z_Cl 0 (d + 1) 241 [z_R 13, z_I v, z_I x1, z_I y1, z_I x2, z_I y2] M Q := by
  have key : ∀ X Y : Int, X = z_lo x1 x2 → Y = z_lo y1 y2 → z_G 0 (d + 1) z_m241 32 [z_R 13, z_I v, z_I x1, z_I y1, z_I x2, z_I y2, z_I X, z_I Y, z_I Y, z_U] [] M Q := by
    intro X Y hX hY
    have eX : X + (if 0 ≤ x1 - x2 then x1 - x2 else -(x1 - x2)) = z_hi x1 x2 := by
      rw [hX]; unfold z_lo z_hi; split <;> split <;> split <;> omega
    have eY : Y + (if 0 ≤ y1 - y2 then y1 - y2 else -(y1 - y2)) = z_hi y1 y2 := by
      rw [hY]; unfold z_lo z_hi; split <;> split <;> split <;> omega
    have bX : 0 ≤ X ∧ X ≤ z_hi x1 x2 ∧ z_hi x1 x2 < 10 := by
      rw [hX]; unfold z_lo z_hi; split <;> split <;> omega
    have bY : 0 ≤ Y ∧ Y ≤ z_hi y1 y2 ∧ z_hi y1 y2 < 10 := by
      rw [hY]; unfold z_lo z_hi; split <;> split <;> omega
    rw [← hX, ← hY] at h
    generalize z_hi x1 x2 = XX at *
    generalize z_hi y1 y2 = YY at *
    have rows : ∀ (f : Nat) (y : Int), Y ≤ y → y ≤ YY + 1 → YY + 1 - y < f → z_G 0 (d + 1) z_m241 32 [z_R 13, z_I v, z_I x1, z_I y1, z_I x2, z_I y2, z_I X, z_I Y, z_I y, z_U] [] (z_pa M 1001066 v (z_rp X XX Y y X)) Q := by
      intro f
      induction f with
      | zero => intro y _ h2 h3; exact absurd h3 (by omega)
      | succ f ih =>
        intro y hy h2 h3
        refine rg_241_32 d ?_
        rw [z_w_id (x := y1 - y2) (by omega) (by omega)]
        refine c_amount d (by omega) (z_viI ?_)
        rw [eY, z_w_id (x := YY) (by omega) (by omega)]
        refine ⟨fun c => ?_, fun c => ?_⟩
        · have e : y = YY + 1 := by omega
          rw [e]
          exact h
        · have cols : ∀ (f2 : Nat) (x : Int), X ≤ x → x ≤ XX + 1 → XX + 1 - x < f2 → z_G 0 (d + 1) z_m241 51 [z_R 13, z_I v, z_I x1, z_I y1, z_I x2, z_I y2, z_I X, z_I Y, z_I y, z_I x] [] (z_pa M 1001066 v (z_rp X XX Y y x)) Q := by
            intro f2
            induction f2 with
            | zero => intro x _ h2 h3; exact absurd h3 (by omega)
            | succ f2 ih2 =>
              intro x hx g2 g3
              refine rg_241_51 d ?_
              rw [z_w_id (x := x1 - x2) (by omega) (by omega)]
              refine c_amount d (by omega) (z_viI ?_)
              rw [eX, z_w_id (x := XX) (by omega) (by omega)]
              refine ⟨fun c2 => ?_, fun c2 => ?_⟩
              · have e : x = XX + 1 := by omega
                rw [e, z_pa_cg (z_rp_row hy), z_w_id (by omega) (by omega)]
                exact ih (y + 1) (by omega) (by omega) (by omega)
              · rw [z_w_id (x := 10 * y) (by omega) (by omega), z_w_id (x := 10 * y + x) (by omega) (by omega), z_w_id (x := x + 1) (by omega) (by omega)]
                refine ⟨by omega, by omega, ?_⟩
                rw [z_pa_up (z_rp_up hx (by omega) (by omega))]
                exact ih2 (x + 1) (by omega) (by omega) (by omega)
          exact cols (XX + 2 - X).toNat X (Int.le_refl _) (by omega) (by omega)
    have := rows (YY + 2 - Y).toNat Y (Int.le_refl _) (by omega) (by omega)
    rw [z_pa_0 z_rp_0] at this
    exact this
  refine re_241 d ⟨fun c1 => ⟨fun c2 => key _ _ ?_ ?_, fun c2 => key _ _ ?_ ?_⟩, fun c1 => ⟨fun c2 => key _ _ ?_ ?_, fun c2 => key _ _ ?_ ?_⟩⟩
  all_goals (unfold z_lo; split <;> omega)
