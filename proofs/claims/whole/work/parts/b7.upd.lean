/-! UPDATES: gives, both sides by themselves -/
section ZUP7
variable {S M : z_M} {Q : z_V → z_M → Prop}
def zy_gc (p : Int) : Nat → z_M → z_M
  | 0, S => S
  | k + 1, S => zy_gc p k (if S 2401035 (6 * (k : Int)) = p then zy_dc S (k : Int) else S)
def zy_gm (p : Int) : Nat → z_M → z_M
  | 0, S => S
  | k + 1, S => zy_gm p k (if S 401092 (k : Int) = p then zy_dM S (k : Int) else S)
theorem zy_dM_n {i : Int} : (zy_dM S i) 13 49 = S 13 49 - 1 := z_up_eq
theorem km_givesLoop (d : Nat) {p : Int} : ∀ (k : Nat) (S M : z_M) (n0 : Int), z_sit S M → S 13 49 ≤ 40 → (k : Int) ≤ S 13 49 → n0 ≤ 40 → S 13 49 ≤ n0 → (∀ N : z_M, z_sit (zy_gm p k S) N → 0 ≤ (zy_gm p k S) 13 49 ∧ (zy_gm p k S) 13 49 ≤ n0 → Q (z_I (n0 - (zy_gm p k S) 13 49)) N) → z_G 0 (d + 1) z_m302 26 [z_R 13, z_I p, z_I n0, z_I ((k : Int) - 1)] [] M Q := by
  intro k
  induction k with
  | zero =>
    intro S M n0 hS r3 hk hn hle h
    refine rg_302_26 d ⟨fun _ => ?_, fun c => absurd c (by omega)⟩
    rw [z_ff hS 13 49 rfl, z_w_id (by omega) (by omega)]
    exact h M hS ⟨by show (0 : Int) ≤ S 13 49; omega, hle⟩
  | succ k ih =>
    intro S M n0 hS r3 hk hn hle h
    rw [show ((k + 1 : Nat) : Int) - 1 = (k : Int) from by omega]
    refine rg_302_26 d ⟨fun c => absurd c (by omega), fun _ => ⟨by omega, by omega, ?_⟩⟩
    rw [z_fn hS 401092 rfl, z_w_id (x := (k : Int) + -1) (by omega) (by omega)]
    have e : zy_gm p (k + 1) S = zy_gm p k (if S 401092 (k : Int) = p then zy_dM S (k : Int) else S) := rfl
    rw [e] at h
    refine ⟨fun c => ?_, fun c => km_takesOut d hS r3 (by omega) (by omega) (fun N hN => ?_)⟩
    · rw [if_neg c] at h
      exact ih S M n0 hS r3 (by omega) hn hle h
    · rw [if_pos c] at h
      have en := zy_dM_n (S := S) (i := (k : Int))
      exact ih (zy_dM S (k : Int)) N n0 hN (by rw [en]; omega) (by rw [en]; omega) hn (by rw [en]; omega) h
theorem zy_dc_n {i : Int} : (zy_dc S i) 7 5 = S 7 5 - 1 := by
  unfold zy_dc
  rw [zy_ar_n (by decide), z_up_eq]
theorem kc_givesLoop (d : Nat) {p : Int} : ∀ (k : Nat) (S M : z_M) (n0 : Int), z_sit S M → S 7 5 ≤ 40 → (k : Int) ≤ S 7 5 → n0 ≤ 40 → S 7 5 ≤ n0 → (∀ N : z_M, z_sit (zy_gc p k S) N → 0 ≤ (zy_gc p k S) 7 5 ∧ (zy_gc p k S) 7 5 ≤ n0 → Q (z_I (n0 - (zy_gc p k S) 7 5)) N) → z_G 0 (d + 2) z_m98 9 [z_R 7, z_I p, z_I n0, z_I ((k : Int) - 1)] [] M Q := by
  intro k
  induction k with
  | zero =>
    intro S M n0 hS r3 hk hn hle h
    refine rg_98_9 (d + 1) ⟨fun _ => ?_, fun c => absurd c (by omega)⟩
    rw [z_ff hS 7 5 rfl, z_w_id (by omega) (by omega)]
    exact h M hS ⟨by show (0 : Int) ≤ S 7 5; omega, hle⟩
  | succ k ih =>
    intro S M n0 hS r3 hk hn hle h
    rw [show ((k + 1 : Nat) : Int) - 1 = (k : Int) from by omega]
    refine rg_98_9 (d + 1) ⟨fun c => absurd c (by omega), fun _ => re_92 d (kc_part d hS (by omega) (by omega) (by decide) (by decide) (z_viI (z_viI ?_)))⟩
    rw [Int.add_zero, z_w_id (x := (k : Int) + -1) (by omega) (by omega)]
    have e : zy_gc p (k + 1) S = zy_gc p k (if S 2401035 (6 * (k : Int)) = p then zy_dc S (k : Int) else S) := rfl
    rw [e] at h
    refine ⟨fun c => ?_, fun c => kc_takeOut (d + 1) hS r3 (by omega) (by omega) (fun N hN => ?_)⟩
    · rw [if_neg c] at h
      exact ih S M n0 hS r3 (by omega) hn hle h
    · rw [if_pos c] at h
      have en := zy_dc_n (S := S) (i := (k : Int))
      exact ih (zy_dc S (k : Int)) N n0 hN (by rw [en]; omega) (by rw [en]; omega) hn (by rw [en]; omega) h
end ZUP7
