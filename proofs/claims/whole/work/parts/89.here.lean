/-- the model's sign at its place; 0 at the end -/
def z_nm (M : z_M) : Int := if M 13 2 < M 13 3 then z_and (M 2603064 (M 13 2)) 255 else 0
theorem z_nm_b (M : z_M) : 0 ≤ z_nm M ∧ z_nm M < 256 := by
  unfold z_nm
  split
  · rw [z_and255]; omega
  · omega
theorem c_here (d : Nat) {M : z_M} {Q : z_V → z_M → Prop} (h0 : 0 ≤ M 13 2) (h1 : M 13 3 ≤ 260) (h : Q (z_I (z_nm M)) M) : z_Cl 0 d 229 [z_R 13] M Q := by
  unfold z_nm at h
  refine re_229 d ⟨fun c => ?_, fun c => ⟨h0, by omega, ?_⟩⟩
  · rw [if_neg (by omega)] at h; exact h
  · rw [if_pos c] at h; exact h
theorem z_up_self {M : z_M} {a : Nat} {j : Int} : z_up M a j (M a j) = M := by
  funext b k
  unfold z_up
  by_cases hb : b = a
  · rw [if_pos hb]
    by_cases hk : k = j
    · rw [if_pos hk, hb, hk]
    · rw [if_neg hk]
  · rw [if_neg hb]
theorem c_wrongs (d : Nat) {M : z_M} {Q : z_V → z_M → Prop} {n w : Int} (hn : 0 ≤ n ∧ n ≤ 9) (hw : 0 ≤ w ∧ w ≤ 1000) (h : if 0 ≤ M 13 4 then Q z_U (z_up M 13 4 (-1000 * n - w)) else Q z_U M) : z_Cl 0 d 230 [z_R 13, z_I n, z_I w] M Q := by
  refine re_230 d ⟨fun c => ?_, fun c => ?_⟩
  · rw [if_pos c] at h
    rw [z_w_id (x := -1000 * n) (by omega) (by omega), z_w_id (by omega) (by omega)]
    exact h
  · rw [if_neg (by omega)] at h
    rw [z_up_self]
    exact h
