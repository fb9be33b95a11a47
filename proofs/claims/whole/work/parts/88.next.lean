/-- the sign that stands at the place of reading; -1 at the end -/
def z_nx (M : z_M) : Int := if M 2 3 < M 2 2 then M 2601014 (M 2 3) else -1
theorem c_next2 (d : Nat) {M : z_M} {Q : z_V → z_M → Prop} (h0 : 0 ≤ M 2 3) (h1 : M 2 2 ≤ 260) (h : Q (z_I (z_nx M)) M) : z_Cl 0 d 133 [z_R 2] M Q := by
  unfold z_nx at h
  refine re_133 d ⟨fun c => ?_, fun c => ⟨h0, by omega, ?_⟩⟩
  · rw [if_neg (by omega)] at h; exact h
  · rw [if_pos c] at h; exact h
theorem c_fail (d : Nat) {M : z_M} {Q : z_V → z_M → Prop} {n w : Int} (hn : 0 ≤ n ∧ n ≤ 9) (hw : 0 ≤ w ∧ w ≤ 260) (h : Q (z_I 0) (z_up M 2 4 (-1000 * n - w))) : z_Cl 0 d 137 [z_R 2, z_I n, z_I w] M Q := by
  refine re_137 d ?_
  rw [z_w_id (x := -1000 * n) (by omega) (by omega), z_w_id (by omega) (by omega)]
  exact h
/-- a digit, or -1 with a fault at the place -/
theorem c_digit (d : Nat) {M : z_M} {Q : z_V → z_M → Prop} (h0 : 0 ≤ M 2 3) (h1 : M 2 2 ≤ 260) (h2 : M 2 3 ≤ M 2 2) (h : if 48 ≤ z_nx M ∧ z_nx M ≤ 57 then Q (z_I (z_nx M - 48)) (z_up M 2 3 (M 2 3 + 1)) else Q (z_I (-1)) (z_up M 2 4 (-1000 - M 2 3))) : z_Cl 0 (d + 1) 141 [z_R 2] M Q := by
  have e : -1000 * 1 - M 2 3 = -1000 - M 2 3 := by omega
  refine re_141 d (c_next2 d h0 h1 (z_viI ⟨fun c => ?_, fun c => ⟨fun c2 => ?_, fun c2 => ?_⟩⟩))
  · rw [if_neg (by omega)] at h
    refine c_fail d (by omega) (by omega) (z_viI ?_)
    rw [e]; exact h
  · rw [if_pos ⟨c, c2⟩] at h
    rw [z_w_id (by omega) (by omega), z_w_id (by omega) (by omega)]
    exact h
  · rw [if_neg (by omega)] at h
    refine c_fail d (by omega) (by omega) (z_viI ?_)
    rw [e]; exact h
