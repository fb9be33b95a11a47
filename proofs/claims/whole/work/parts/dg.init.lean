/-! THE START: all that stays holds -/
theorem zz_P0 {M : z_M} (h : zf_PM z_all M) : zz_P M := by
  have v : ∀ k, (z_all.contains k && k != 100001017) = true → ∀ j, M k j = z_M0 (fun _ => 0) k j := fun k hk j => by
    rw [Bool.and_eq_true] at hk
    exact h.1 k (List.contains_iff_mem.mp hk.1) (by simpa using hk.2) j
  have o : ∀ k, (z_all.contains k && k != 100001017) = true → (∀ j, z_M0 (fun _ => 0) k j = 0) → M k = fun _ => 0 := fun k hk h0 => funext fun j => (v k hk j).trans (h0 j)
  have c0 : ∀ n x j : Int, 0 ≤ j → j < n → z_ct0 n x j = x := fun n x j a b => if_pos ⟨a, b⟩
  have s13 : M 13 = fun _ => 0 := o 13 (by decide +kernel) (fun _ => rfl)
  have s2 : M 2 = fun _ => 0 := o 2 (by decide +kernel) (fun _ => rfl)
  have s1 : M 1 = fun _ => 0 := o 1 (by decide +kernel) (fun _ => rfl)
  have s4 : M 4 = fun _ => 0 := o 4 (by decide +kernel) (fun _ => rfl)
  have s5 : M 5 = fun _ => 0 := o 5 (by decide +kernel) (fun _ => rfl)
  have s7 : M 7 = fun _ => 0 := o 7 (by decide +kernel) (fun _ => rfl)
  have s11 : M 11 = fun _ => 0 := o 11 (by decide +kernel) (fun _ => rfl)
  have pl : M 304067 = fun _ => 0 := o _ (by decide +kernel) (fun _ => rfl)
  have gr : M 1001065 = fun _ => 0 := o _ (by decide +kernel) (fun _ => rfl)
  have ki : M 1001015 = fun _ => 0 := o _ (by decide +kernel) (fun _ => rfl)
  have ve : M 101091 = fun _ => 0 := o _ (by decide +kernel) (fun _ => rfl)
  have pv : M 101023 = fun _ => 0 := o _ (by decide +kernel) (fun _ => rfl)
  have ic : M 64121 = fun _ => 0 := o _ (by decide +kernel) (fun _ => rfl)
  have ta : M 10241045 = fun _ => 0 := o _ (by decide +kernel) (fun _ => rfl)
  have le : ∀ w : Int, 0 ≤ w → w < 30 → M 301019 w = -1 := fun w a b => (v _ (by decide +kernel) w).trans (c0 30 (-1) w a b)
  have tw : ∀ w : Int, 0 ≤ w → w < 10 → M 101056 w = -2 := fun w a b => (v _ (by decide +kernel) w).trans (c0 10 (-2) w a b)
  have fw : ∀ w : Int, 0 ≤ w → w < 10 → M 101116 w = -1 := fun w a b => (v _ (by decide +kernel) w).trans (c0 10 (-1) w a b)
  have th : ∀ w : Int, 0 ≤ w → w < 24 → M 241058 w = -1 := fun w a b => (v _ (by decide +kernel) w).trans (c0 24 (-1) w a b)
  have ts : ∀ w : Int, 0 ≤ w → w < 6 → M 61120 w = -1 := fun w a b => (v _ (by decide +kernel) w).trans (c0 6 (-1) w a b)
  have no : zz_no M := ⟨fun w a b => ⟨(v _ (by decide +kernel) w).trans (c0 2880 (-1) w a b), (v _ (by decide +kernel) w).trans (c0 2880 (-1) w a b), (v _ (by decide +kernel) w).trans (c0 2880 (-1) w a b)⟩, fun w a b => (v _ (by decide +kernel) w).trans (c0 192 (-1) w a b)⟩
  have nv : ∀ {P : Prop} (j : Int), 0 ≤ j → j < 0 → P := fun j a b => absurd a (by omega)
  have n01 : ¬ (0 : Int) = 1 := by decide
  refine ⟨M, zz_no_sit no, ⟨?_, ?_, ?_, ?_⟩, ?_, ⟨⟨?_, ?_, ?_⟩, ⟨?_, ?_⟩⟩, ⟨?_, ?_, ?_⟩, ⟨⟨?_, ?_, ?_⟩, ⟨?_, ?_⟩⟩, ⟨?_, ?_, ?_, ?_⟩, ⟨?_, ?_, ?_, ?_⟩, ?_, ?_, ?_, ?_, ⟨?_, ?_, ?_⟩⟩
  · rw [s13, s2]
  · rw [s2]; exact Int.le_refl _
  · rw [s2]; decide
  · rw [s2]; exact fun j a b => nv j a b
  · intro j a b; rw [s13] at b; exact nv j a b
  · intro w a b; rw [pl]; exact Or.inl ⟨rfl, le w a b⟩
  · rw [pl]; exact fun w a b z => absurd z n01
  · rw [pl]; exact fun w t _ _ _ _ z => absurd z n01
  · rw [ve, pv, pl]; exact fun p _ _ => ⟨rfl, Int.le_refl _, (show (0 : Int) < 3 by decide), Or.inl rfl⟩
  · rw [s13, s4]; exact ⟨rfl, Or.inl rfl⟩
  · rw [ki, gr]
  · rw [ki]; exact fun j _ _ => ⟨Int.le_refl _, (show (0 : Int) ≤ 2 by decide)⟩
  · rw [ki]; exact fun f t f0 f1 t0 t1 => h.2 (by decide +kernel) f t f0 f1 t0 t1
  · rw [s13]; exact Int.le_refl _
  · rw [s13]; decide
  · rw [s13]; exact fun k a b => nv k a b
  · rw [s5, s13]
  · rw [s13]; exact fun k a b => nv k a b
  · rw [s7, s13]
  · rw [s13]; exact Int.le_refl _
  · rw [s13]; decide
  · rw [s13]; exact fun k a b => nv k a b
  · rw [s11, s13]
  · rw [s13]; exact Int.le_refl _
  · rw [s13]; decide
  · rw [s13]; exact fun k a b => nv k a b
  · intro p a b; rw [tw p a b, fw p a b]; decide
  · intro i a b; rw [th (4 * i) (by omega) (by omega), th (4 * i + 1) (by omega) (by omega), ts i a b, ic]; exact ⟨rfl, Or.inl rfl, Or.inl ⟨rfl, rfl⟩⟩
  · intro j _ _; rw [ta]
  · intro w _ _ z; rw [pl] at z; exact absurd z n01
  · rw [s1, s13]
  · rw [s13]; exact Or.inl rfl
  · rw [s13]; exact fun z => absurd z n01
