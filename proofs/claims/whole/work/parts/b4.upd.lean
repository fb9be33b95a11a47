/-! UPDATES: a report is taken out, the model -/
section ZUP4
variable {S M : z_M} {Q : z_V → z_M → Prop}
def zy_dl (f : Int → Int) (i q : Int) : Int → Int := fun k => if i ≤ k ∧ k < q then f (k + 1) else f k
def zy_6 (k : Nat) : Bool := k == 401092 || k == 401093 || k == 401094 || k == 401095 || k == 401096 || k == 401097
def zy_six (S : z_M) (i q : Int) : z_M := fun k => if zy_6 k = true then zy_dl (S k) i q else S k
theorem zy_six_y {i q : Int} {k : Nat} (h : zy_6 k = true) : zy_six S i q k = zy_dl (S k) i q := if_pos h
theorem zy_six_n {i q : Int} {k : Nat} (h : zy_6 k = false) : zy_six S i q k = S k := if_neg (by rw [h]; decide)
theorem zy_six_0 {i : Int} : zy_six S i i = S := by
  funext k
  unfold zy_six
  split
  · funext j
    unfold zy_dl
    rw [if_neg (by omega)]
  · rfl
/-- one more row moves up -/
theorem zy_six_s {N : z_M} {i q : Int} (hi : i ≤ q) (h : z_sit (zy_six S i q) N) (N' : z_M) (h6 : ∀ k, zy_6 k = true → ∀ j, N' k j = if j = q then N k (q + 1) else N k j) (hn : ∀ k, zy_6 k = false → N' k = N k) : z_sit (zy_six S i (q + 1)) N' := by
  refine ⟨fun k j hk => ?_, ?_⟩
  · cases e : zy_6 k with
    | false => rw [hn k e, zy_six_n e, ← zy_six_n (S := S) (i := i) (q := q) e]; exact h.1 k j hk
    | true =>
      have hc : ∀ j, z_cor k j = true := by
        intro j
        unfold zy_6 at e
        unfold z_cor
        have : z_cak k = true := by
          simp only [Bool.or_eq_true, beq_iff_eq] at e
          rcases e with ((((e | e) | e) | e) | e) | e <;> rw [e] <;> rfl
        rw [this]; rfl
      have g := fun j => h.1 k j (hc j)
      rw [h6 k e j, zy_six_y e]
      have ge := g j
      have ge1 := g (q + 1)
      rw [zy_six_y e] at ge ge1
      unfold zy_dl at ge ge1 ⊢
      rw [if_neg (by omega)] at ge1
      by_cases c : j = q
      · rw [if_pos c, if_pos (by omega), c, ge1]
      · rw [if_neg c, ge]
        by_cases c2 : i ≤ j ∧ j < q
        · rw [if_pos c2, if_pos (by omega)]
        · rw [if_neg c2, if_neg (by omega)]
  · have ev : zy_ev (zy_six S i q) (zy_six S i (q + 1)) := ⟨rfl, rfl, rfl, rfl, rfl, rfl, rfl, rfl, rfl, rfl⟩
    have g := zy_ICa_v ev h.2
    unfold z_ICa at g ⊢
    rw [hn 28801031 rfl, hn 28801032 rfl, hn 28801033 rfl, hn 1921034 rfl]
    exact g
end ZUP4
