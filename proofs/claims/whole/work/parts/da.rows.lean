/-! THE TABLE: reports -/
theorem zr_mn_b {q : Int → Int} {i v j : Int} (h : zr_mn q i = .inr (v, j)) : 0 ≤ v ∧ v < 96 := by
  unfold zr_mn at h
  repeat' split at h
  all_goals first
    | (cases h; done)
    | (have e : _ = v := congrArg (fun z => z.1) (Sum.inr.inj h); dsimp only at e; omega)
theorem zr_sp_b {q : Int → Int} {i v : Int} (h : zr_sp q i = .inr v) : 0 ≤ v ∧ v < 100 := by
  unfold zr_sp at h
  repeat' split at h
  all_goals first
    | (cases h; done)
    | (have e := Sum.inr.inj h; omega)
theorem zp_cst_b {q : Int → Int} {i v : Int} (h : zp_cst q i = .inr v) : 0 ≤ v ∧ v < 80 := by
  unfold zp_cst at h
  split at h
  · cases h
  · split at h
    · cases h
    · split at h
      · cases h
      · have e := Sum.inr.inj h; omega
theorem zp_of_e {q : Int → Int} {c o j c' o' t j2 : Int} (h : zp_of q c o j = .inr (c', o', t, j2)) : c' = c ∧ o' = o ∧ ((c = 102 ∧ 0 ≤ t ∧ t < 80) ∨ ((c = 105 ∨ c = 119) ∧ 0 ≤ t ∧ t < 100) ∨ (c ≠ 102 ∧ c ≠ 105 ∧ c ≠ 119 ∧ t = -1)) := by
  unfold zp_of at h
  split at h
  · rename_i hc
    split at h
    · cases h
    · rename_i v e
      have b := zp_cst_b e
      have hh := Sum.inr.inj h
      have e1 : c = c' := congrArg (fun z => z.1) hh
      have e2 : o = o' := congrArg (fun z => z.2.1) hh
      have e3 : v = t := congrArg (fun z => z.2.2.1) hh
      exact ⟨e1.symm, e2.symm, Or.inl ⟨hc, by omega, by omega⟩⟩
  · rename_i hc
    split at h
    · rename_i hc2
      split at h
      · cases h
      · rename_i v e
        have b := zr_sp_b e
        have hh := Sum.inr.inj h
        have e1 : c = c' := congrArg (fun z => z.1) hh
        have e2 : o = o' := congrArg (fun z => z.2.1) hh
        have e3 : v = t := congrArg (fun z => z.2.2.1) hh
        exact ⟨e1.symm, e2.symm, Or.inr (Or.inl ⟨hc2, by omega, by omega⟩)⟩
    · rename_i hc2
      have hh := Sum.inr.inj h
      have e1 : c = c' := congrArg (fun z => z.1) hh
      have e2 : o = o' := congrArg (fun z => z.2.1) hh
      have e3 : -1 = t := congrArg (fun z => z.2.2.1) hh
      exact ⟨e1.symm, e2.symm, Or.inr (Or.inr ⟨hc, fun z => hc2 (Or.inl z), fun z => hc2 (Or.inr z), e3.symm⟩)⟩
/-- a good row -/
def zp_gd (T : Int → Bool) (r : Nat → Int) : Prop := (0 ≤ r 0 ∧ r 0 < 10 ∧ T (r 0) = true) ∧ (0 ≤ r 1 ∧ r 1 < 96) ∧ (0 ≤ r 2 ∧ r 2 < 10) ∧
  (((r 3 = 115 ∨ r 3 = 111 ∨ r 3 = 104) ∧ (0 ≤ r 4 ∧ r 4 < 10 ∧ T (r 4) = true) ∧ r 5 = -1) ∨
   (r 3 = 119 ∧ (0 ≤ r 4 ∧ r 4 < 10 ∧ T (r 4) = true) ∧ 0 ≤ r 5 ∧ r 5 < 100) ∨
   (r 3 = 105 ∧ r 4 = -1 ∧ 0 ≤ r 5 ∧ r 5 < 100) ∨
   (r 3 = 102 ∧ r 4 = -1 ∧ 0 ≤ r 5 ∧ r 5 < 80))
theorem zp_ta_gd {q : Int → Int} {T : Int → Bool} {p j c o t j2 : Int} (h : zp_ta q T p j = .inr (c, o, t, j2)) : (((c = 115 ∨ c = 111 ∨ c = 104) ∧ (0 ≤ o ∧ o < 10 ∧ T o = true) ∧ t = -1) ∨ (c = 119 ∧ (0 ≤ o ∧ o < 10 ∧ T o = true) ∧ 0 ≤ t ∧ t < 100) ∨ (c = 105 ∧ o = -1 ∧ 0 ≤ t ∧ t < 100) ∨ (c = 102 ∧ o = -1 ∧ 0 ≤ t ∧ t < 80)) := by
  unfold zp_ta at h
  split at h
  · cases h
  · rename_i hk
    have hk := Decidable.not_not.mp hk
    split at h
    · rename_i hc
      obtain ⟨e1, e2, e3⟩ := zp_of_e h
      omega
    · rename_i hc
      split at h
      · cases h
      · rename_i o1 e
        obtain ⟨e1, e2, e3⟩ := zp_of_e h
        have ho : 0 ≤ o1 ∧ o1 < 10 ∧ T o1 = true := by
          unfold zp_oth at e
          split at e
          · cases e
          · rename_i hl
            have hl := Decidable.not_not.mp hl
            split at e
            · cases e
            · rename_i hT
              split at e
              · cases e
              · have e4 := Sum.inr.inj e
                rw [← e4]
                exact ⟨by omega, by omega, by cases hb : T (q (j + 1) - 97) with
                  | true => rfl
                  | false => exact absurd hb hT⟩
        rw [← e2] at ho
        unfold zp_kd at hk
        by_cases c119 : c = 119
        · exact Or.inr (Or.inl ⟨c119, ho, by omega, by omega⟩)
        · exact Or.inl ⟨by omega, ho, by omega⟩
theorem zp_ln_gd {q : Int → Int} {T : Int → Bool} {k i j : Int} {r : Nat → Int} (h : zp_ln q T k i = .inr (r, j)) : zp_gd T r := by
  unfold zp_ln at h
  split at h
  · cases h
  · rename_i p m s j1 e
    split at h
    · cases h
    · rename_i c o t j2 e2
      have g := zp_ta_gd e2
      have er : zp_row p m s c o t = r := congrArg (fun z => z.1) (Sum.inr.inj h)
      rw [← er]
      have hd : (0 ≤ p ∧ p < 10 ∧ T p = true) ∧ (0 ≤ m ∧ m < 96) ∧ (0 ≤ s ∧ s < 10) := by
        unfold zp_hd at e
        split at e
        · cases e
        · rename_i hl
          have hl := Decidable.not_not.mp hl
          split at e
          · cases e
          · split at e
            · cases e
            · rename_i hT
              have hT' : T (q i - 97) = true := by
                cases hb : T (q i - 97) with
                | true => rfl
                | false => exact absurd hb hT
              split at e
              · cases e
              · rename_i m1 j3 em
                have bm := zr_mn_b em
                split at e
                · split at e
                  · rename_i hd
                    have hh := Sum.inr.inj e
                    have e1 : q i - 97 = p := congrArg (fun z => z.1) hh
                    have e2 : m1 = m := congrArg (fun z => z.2.1) hh
                    have e3 : q (j3 + 1) - 48 = s := congrArg (fun z => z.2.2.1) hh
                    rw [← e1, ← e2, ← e3]
                    exact ⟨⟨by omega, by omega, hT'⟩, bm, by omega, by omega⟩
                  · cases e
                · have hh := Sum.inr.inj e
                  have e1 : q i - 97 = p := congrArg (fun z => z.1) hh
                  have e2 : m1 = m := congrArg (fun z => z.2.1) hh
                  have e3 : 0 = s := congrArg (fun z => z.2.2.1) hh
                  rw [← e1, ← e2, ← e3]
                  exact ⟨⟨by omega, by omega, hT'⟩, bm, by omega, by omega⟩
      exact ⟨hd.1, hd.2.1, hd.2.2, g⟩
theorem zp_go_gd {q : Int → Int} {T : Int → Bool} : ∀ (f : Nat) (k : Int) (R : Int → Nat → Int) (i k2 : Int) (R2 : Int → Nat → Int), 0 ≤ k → (∀ x : Int, 0 ≤ x → x < k → zp_gd T (R x)) → zp_go q T f k R i = .inr (k2, R2) → ∀ x : Int, 0 ≤ x → x < k2 → zp_gd T (R2 x) := by
  intro f
  induction f with
  | zero => intro k R i k2 R2 _ _ h; cases h
  | succ f ih =>
    intro k R i k2 R2 k0 hR h
    unfold zp_go at h
    split at h
    · cases h
    · rename_i r j e
      have hr := zp_ln_gd e
      have hR2 : ∀ x : Int, 0 ≤ x → x < k + 1 → zp_gd T (zp_put R k r x) := by
        intro x x0 x1
        by_cases c : x = k
        · rw [c, zp_put_e]; exact hr
        · rw [zp_put_n c]; exact hR x x0 (by omega)
      split at h
      · have hh := Sum.inr.inj h
        have e1 : k + 1 = k2 := congrArg (fun z => z.1) hh
        have e2 : zp_put R k r = R2 := congrArg (fun z => z.2) hh
        rw [← e1, ← e2]
        exact hR2
      · split at h
        · exact ih _ _ _ _ _ (by omega) hR2 h
        · cases h
