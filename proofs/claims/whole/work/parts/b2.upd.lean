/-! WHAT CHANGES: a whole array that stays is laid anew on both states -/
section ZUP2
variable {S M : z_M}
def zy_ar (S : z_M) (A : Nat) (f : Int → Int) : z_M := fun k => if k = A then f else S k
theorem zy_ar_e {A : Nat} {f : Int → Int} : zy_ar S A f A = f := if_pos rfl
theorem zy_ar_n {A k : Nat} {f : Int → Int} (h : k ≠ A) : zy_ar S A f k = S k := if_neg h
theorem zy_sit_ar {M' : z_M} (h : z_sit S M) (A : Nat) (hc : z_cch A = false) (hM : ∀ k, k ≠ A → M' k = M k) (hv : zy_ev S (zy_ar S A (M' A))) : z_sit (zy_ar S A (M' A)) M' := by
  refine ⟨fun k j hk => ?_, ?_⟩
  · by_cases e : k = A
    · rw [e, zy_ar_e]
    · rw [zy_ar_n e, hM k e]; exact h.1 k j hk
  · have g := zy_ICa_v hv h.2
    have ne : ∀ c : Nat, z_cch c = true → c ≠ A := fun c hc2 e => by rw [e, hc] at hc2; cases hc2
    unfold z_ICa at g ⊢
    rw [hM 28801031 (ne _ rfl), hM 28801032 (ne _ rfl), hM 28801033 (ne _ rfl), hM 1921034 (ne _ rfl)]
    exact g
end ZUP2
