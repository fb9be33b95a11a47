/-! UPDATES: a report is taken out, the model's loop -/
section ZUP5
variable {S M : z_M} {Q : z_V → z_M → Prop}
theorem km_takesOut (d : Nat) {i : Int} (hS : z_sit S M) (r3 : S 13 49 ≤ 40) (i0 : 0 ≤ i) (i1 : i < S 13 49) (h : ∀ N : z_M, z_sit (z_up (zy_six S i (S 13 49 - 1)) 13 49 (S 13 49 - 1)) N → Q z_U N) : z_Cl 0 d 299 [z_R 13, z_I i] M Q := by
  refine re_299 d ?_
  have key : ∀ (r : Nat) (q : Int) (N : z_M), i ≤ q → q + (r : Int) = S 13 49 - 1 → z_sit (zy_six S i q) N → z_G 0 d z_m299 2 [z_R 13, z_I i, z_I q] [] N Q := by
    intro r
    induction r with
    | zero =>
      intro q N hi hq hN
      refine rg_299_2 d ?_
      rw [z_ff hN 13 49 rfl, zy_six_n rfl, z_w_id (x := q + 1) (by omega) (by omega), z_w_id (x := S 13 49 - 1) (by omega) (by omega)]
      refine ⟨fun _ => h _ ?_, fun c => absurd c (by omega)⟩
      have eq : q = S 13 49 - 1 := by omega
      rw [← eq]
      exact zy_sit_up hN 13 _ _ rfl ⟨rfl, rfl, rfl, rfl, rfl, rfl, rfl, rfl, rfl, rfl⟩
    | succ r ih =>
      intro q N hi hq hN
      refine rg_299_2 d ?_
      rw [z_ff hN 13 49 rfl, zy_six_n rfl, z_w_id (x := q + 1) (by omega) (by omega)]
      refine ⟨fun c => absurd c (by omega), fun _ => ⟨by omega, by omega, by omega, by omega, by omega, by omega, by omega, by omega, by omega, by omega, by omega, by omega, by omega, by omega, by omega, by omega, by omega, by omega, by omega, by omega, by omega, by omega, by omega, by omega, ih (q + 1) _ (by omega) (by omega) (zy_six_s hi hN _ (fun k hk j => ?_) (fun k hk => ?_))⟩⟩
      · unfold zy_6 at hk
        simp only [Bool.or_eq_true, beq_iff_eq] at hk
        rcases hk with ((((e | e) | e) | e) | e) | e <;> subst e <;> simp only [z_up] <;> simp
      · unfold zy_6 at hk
        simp only [Bool.or_eq_false_iff, beq_eq_false_iff_ne] at hk
        obtain ⟨⟨⟨⟨⟨a, b⟩, c⟩, d⟩, e⟩, f⟩ := hk
        rw [z_up_ne f, z_up_ne e, z_up_ne d, z_up_ne c, z_up_ne b, z_up_ne a]
  exact key (S 13 49 - 1 - i).toNat i M (by omega) (by omega) (by rw [zy_six_0]; exact hS)
end ZUP5
