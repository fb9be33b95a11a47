/-! WHAT CHANGES: places that stay are written on both states -/
section ZUPD
variable {S S' M : z_M} {Q : z_V → z_M → Prop}
/-- what the kept answers of the law stand on is the same -/
def zy_ev (S S' : z_M) : Prop := S' 13 29 = S 13 29 ∧ S' 2401080 = S 2401080 ∧ S' 2401081 = S 2401081 ∧ S' 161076 = S 161076 ∧ S' 161078 = S 161078 ∧ S' 161079 = S 161079 ∧ S' 161077 = S 161077 ∧ S' 28801021 = S 28801021 ∧ S' 304067 = S 304067 ∧ S' 1001015 = S 1001015
theorem zy_evh_v (h : zy_ev S S') : z_evh S' = z_evh S := by
  obtain ⟨_, a, b, _⟩ := h
  funext nm x y
  unfold z_evh
  rw [a, b]
theorem zy_tel_v (h : zy_ev S S') (nm : Int → Int) (le most : Int) : ∀ (n : Nat) (k : Int), z_tel S' nm le most n k = z_tel S nm le most n k := by
  obtain ⟨_, _, _, a, b, c, d, _⟩ := id h
  intro n
  induction n with
  | zero => intro k; rfl
  | succ n ih =>
    intro k
    unfold z_tel
    rw [a, b, c, d, zy_evh_v h, ih]
theorem zy_rk_v (h : zy_ev S S') : zv_rk S' = zv_rk S := by
  funext le most t u p s
  unfold zv_rk
  rw [h.1, zy_tel_v h]
theorem zy_ps_v (h : zy_ev S S') : z_ps S' = z_ps S := by
  funext w t
  unfold z_ps
  rw [h.2.2.2.2.2.2.2.1]
theorem zy_ICa_v {M : z_M} (h : zy_ev S S') (g : z_ICa S M) : z_ICa S' M := by
  have e1 : z_vw S' = z_vw S := by funext w t; unfold z_vw; rw [zy_rk_v h, zy_ps_v h]
  have e2 : z_cw S' = z_cw S := by funext w t; unfold z_cw; rw [zy_rk_v h, zy_ps_v h]
  have e3 : z_ct S' = z_ct S := by funext t u; unfold z_ct; rw [zy_rk_v h]
  have e4 : zv_sn S' = zv_sn S := by
    funext w t
    unfold zv_sn z_snb
    rw [zy_ps_v h, e1, h.2.2.2.2.2.2.2.2.1, h.2.2.2.2.2.2.2.2.2]
  unfold z_ICa at g ⊢
  rw [e1, e2, e3, e4]
  exact g
theorem zy_sit_up {M : z_M} (h : z_sit S M) (k : Nat) (j x : Int) (hc : z_cch k = false) (hv : zy_ev S (z_up S k j x)) : z_sit (z_up S k j x) (z_up M k j x) := by
  refine ⟨fun k' j' hk => ?_, ?_⟩
  · unfold z_up
    by_cases e : k' = k
    · rw [if_pos e, if_pos e]
      by_cases e2 : j' = j
      · rw [if_pos e2, if_pos e2]
      · rw [if_neg e2, if_neg e2]; exact h.1 k' j' hk
    · rw [if_neg e, if_neg e]; exact h.1 k' j' hk
  · have g := zy_ICa_v hv h.2
    have ne : ∀ c : Nat, z_cch c = true → c ≠ k := fun c hc2 e => by rw [e, hc] at hc2; cases hc2
    unfold z_ICa at g ⊢
    rw [z_up_ne (M := M) (ne _ rfl), z_up_ne (M := M) (ne _ rfl), z_up_ne (M := M) (ne _ rfl), z_up_ne (M := M) (ne _ rfl)]
    exact g
end ZUPD
