/-! UPDATES: a report is taken out, the class -/
section ZUP3
variable {S M : z_M} {Q : z_V → z_M → Prop}
def zy_del (f : Int → Int) (i w n : Int) : Int → Int := fun k => if w * i ≤ k ∧ k < w * i + w * (n - 1 - i) then f (k + w) else f k
theorem kc_takeOut (d : Nat) {i : Int} (hS : z_sit S M) (n40 : S 7 5 ≤ 40) (i0 : 0 ≤ i) (i1 : i < S 7 5) (h : ∀ N : z_M, z_sit (zy_ar (z_up S 7 5 (S 7 5 - 1)) 2401035 (zy_del (S 2401035) i 6 (S 7 5))) N → Q z_U N) : z_Cl 0 d 97 [z_R 7, z_I i] M Q := by
  refine re_97 d ?_
  rw [z_up_eq, z_ff hS 7 5 rfl, z_w_id (x := S 7 5 - 1) (by omega) (by omega), z_w_id (x := i + 1) (by omega) (by omega), z_w_id (x := 6 * (i + 1)) (by omega) (by omega), z_w_id (x := 6 * i) (by omega) (by omega), z_w_id (x := S 7 5 - 1 - i) (by omega) (by omega), z_w_id (x := 6 * (S 7 5 - 1 - i)) (by omega) (by omega)]
  refine ⟨by omega, by omega, by omega, by omega, by omega, ?_⟩
  have h1 := zy_sit_up hS 7 5 (S 7 5 - 1) rfl ⟨rfl, rfl, rfl, rfl, rfl, rfl, rfl, rfl, rfl, rfl⟩
  have er : (z_up M 7 5 (S 7 5 - 1)) 2401035 = S 2401035 := by rw [z_up_ne (by decide)]; exact z_fn hS _ rfl
  have hM : ∀ k, k ≠ 2401035 → (z_cp (z_up M 7 5 (S 7 5 - 1)) 2401035 (6 * (i + 1)) 2401035 (6 * i) (6 * (S 7 5 - 1 - i))) k = (z_up M 7 5 (S 7 5 - 1)) k := fun k hk => funext fun q => z_cp_off hk q
  have e : (z_cp (z_up M 7 5 (S 7 5 - 1)) 2401035 (6 * (i + 1)) 2401035 (6 * i) (6 * (S 7 5 - 1 - i))) 2401035 = zy_del (S 2401035) i 6 (S 7 5) := by
    funext k
    unfold z_cp zy_del
    rw [if_pos rfl, er]
    by_cases c : 6 * i ≤ k ∧ k < 6 * i + 6 * (S 7 5 - 1 - i)
    · rw [if_pos c, if_pos c, show 6 * (i + 1) + (k - 6 * i) = k + 6 from by omega]
    · rw [if_neg c, if_neg c]
  have h2 := zy_sit_ar h1 2401035 rfl hM ⟨rfl, rfl, rfl, rfl, rfl, rfl, rfl, rfl, rfl, rfl⟩
  rw [e] at h2
  exact h _ h2
end ZUP3
