/-! LAW: both sides mean the same: whole expressions -/
theorem zq_op {c k : Int} (h : (c = 43 ∧ k = 8) ∨ (c = 45 ∧ k = 9) ∨ (c = 42 ∧ k = 10) ∨ (c = 47 ∧ k = 11) ∨ (c = 37 ∧ k = 12) ∨ (c = 60 ∧ k = 5) ∨ (c = 62 ∧ k = 6) ∨ (c = 61 ∧ k = 7)) (a b : Option Int) : z_o2 c a b = zq_o k a b := by
  cases a with
  | none =>
    unfold z_o2 zq_o
    rw [if_neg (by omega), if_neg (by omega)]
  | some x =>
    cases b with
    | none =>
      unfold z_o2 zq_o
      rw [if_neg (by omega), if_neg (by omega)]
    | some y =>
      have e1 : z_o2 c (some x) (some y) = if (c = 47 ∨ c = 37) ∧ y = 0 then none else some (zv_wk c x y) := by
        unfold z_o2
        rw [if_neg (by omega), if_neg (by omega)]
      have e2 : zq_o k (some x) (some y) = if y = 0 ∧ (k = 11 ∨ k = 12) then none else some (z_wo k x y) := rfl
      rw [e1, e2]
      by_cases y0 : y = 0 ∧ (k = 11 ∨ k = 12)
      · rw [if_pos y0, if_pos (by omega)]
      · rw [if_neg y0, if_neg (by omega)]
        congr 1
        unfold zv_wk z_wo
        rcases h with ⟨rfl, rfl⟩ | ⟨rfl, rfl⟩ | ⟨rfl, rfl⟩ | ⟨rfl, rfl⟩ | ⟨rfl, rfl⟩ | ⟨rfl, rfl⟩ | ⟨rfl, rfl⟩ | ⟨rfl, rfl⟩
        · rfl
        · rfl
        · rfl
        · rw [if_neg (by decide), if_neg (by decide), if_neg (by decide), if_pos rfl, if_neg (by omega)]; rfl
        · rw [if_neg (by decide), if_neg (by decide), if_neg (by decide), if_neg (by decide), if_pos rfl, if_neg (by omega)]; rfl
        · rfl
        · rfl
        · rfl
/-- both sides of an expression -/
def zl_Z (od nm nc : Int → Int) (to : Int) (K : Nat) (o : Int) (m : List (Int × Int)) (c : List Int) : Prop :=
  1 ≤ c.length ∧ (∀ h : Nat, zhk m h (h + 1)) ∧ (0 ≤ o → o + (c.length : Int) ≤ to → to ≤ 240 → zl_at od o c → ∃ v : Option Int, (∀ s, ze nm m s = v :: s) ∧ (K ≤ 2 → v = none ∨ v = some 0 ∨ v = some 1) ∧ zq od nc to o c v)
section ZSEN
variable {od nm nc : Int → Int} {to o : Int} {m m1 m2 : List (Int × Int)} {c c1 c2 : List Int}
theorem zl_Z_two {K1 K2 K : Nat} {oc k : Int} (h : (oc = 43 ∧ k = 8) ∨ (oc = 45 ∧ k = 9) ∨ (oc = 42 ∧ k = 10) ∨ (oc = 47 ∧ k = 11) ∨ (oc = 37 ∧ k = 12) ∨ (oc = 60 ∧ k = 5) ∨ (oc = 62 ∧ k = 6) ∨ (oc = 61 ∧ k = 7)) (hK : K ≤ 2 → k ≤ 7) (h1 : zl_Z od nm nc to K1 o m1 c1) (h2 : zl_Z od nm nc to K2 (o + (c1.length : Int)) m2 c2) : zl_Z od nm nc to K o (m1 ++ (m2 ++ [(oc, 0)])) (c1 ++ (c2 ++ [k])) := by
  have l1 : (c1 ++ (c2 ++ [k])).length = c1.length + c2.length + 1 := by simp only [List.length_append, List.length_cons, List.length_nil]; omega
  refine ⟨by have := h1.1; omega, fun g => zhk_app m1 _ g (g + 1) _ (h1.2.1 g) (zhk_app m2 _ (g + 1) (g + 2) _ (h2.2.1 (g + 1)) (Or.inr (Or.inr ⟨by show 2 < oc; omega, by omega, rfl⟩))), fun o0 ot t240 ha => ?_⟩
  rw [l1] at ot
  have ha1 := (zl_at_app _ _ _).mp ha
  have ha2 := (zl_at_app _ _ _).mp ha1.2
  obtain ⟨v1, e1, _, r1⟩ := h1.2.2 o0 (by omega) t240 ha1.1
  obtain ⟨v2, e2, _, r2⟩ := h2.2.2 (by omega) (by omega) t240 ha2.1
  refine ⟨zq_o k v1 v2, fun s => ?_, fun hk => ?_, zq_two (by omega) o0 (by omega) t240 h1.1 h2.1 r1 r2 ha2.2.1⟩
  · rw [ze_app, ze_app, e1, e2]
    show z_o1 oc 0 nm (v2 :: v1 :: s) = _
    unfold z_o1
    rw [if_neg (by omega), if_neg (by omega), if_neg (by omega)]
    dsimp only
    rw [zq_op h]
  · have hk7 := hK hk
    cases v1 with
    | none => exact Or.inl rfl
    | some x =>
      cases v2 with
      | none => exact Or.inl rfl
      | some y =>
        right
        have e : zq_o k (some x) (some y) = if y = 0 ∧ (k = 11 ∨ k = 12) then none else some (z_wo k x y) := rfl
        rw [e, if_neg (by omega)]
        have : k = 5 ∨ k = 6 ∨ k = 7 := by omega
        unfold z_wo
        rcases this with rfl | rfl | rfl
        · rw [if_pos rfl]; split
          · exact Or.inr rfl
          · exact Or.inl rfl
        · rw [if_neg (by decide), if_pos rfl]; split
          · exact Or.inr rfl
          · exact Or.inl rfl
        · rw [if_neg (by decide), if_neg (by decide), if_pos rfl]; split
          · exact Or.inr rfl
          · exact Or.inl rfl
theorem zl_Z_leap {K1 K : Nat} {oc k J : Int} (h : (oc = 38 ∧ k = 2) ∨ (oc = 124 ∧ k = 3)) (hK : K ≤ 2) (hK1 : K1 ≤ 2) (h1 : zl_Z od nm nc to K o m1 c1) (h2 : zl_Z od nm nc to K1 (o + (c1.length : Int) + 1) m2 c2) (hJ : J = 16 * (o + (c1.length : Int) + 1 + (c2.length : Int)) + k) : zl_Z od nm nc to K o (m1 ++ (m2 ++ [(oc, 0)])) (c1 ++ (J :: c2)) := by
  have l1 : (c1 ++ (J :: c2)).length = c1.length + c2.length + 1 := by simp only [List.length_append, List.length_cons]; omega
  refine ⟨by have := h1.1; omega, fun g => zhk_app m1 _ g (g + 1) _ (h1.2.1 g) (zhk_app m2 _ (g + 1) (g + 2) _ (h2.2.1 (g + 1)) (Or.inr (Or.inr ⟨by show 2 < oc; omega, by omega, rfl⟩))), fun o0 ot t240 ha => ?_⟩
  rw [l1] at ot
  have ha1 := (zl_at_app _ _ _).mp ha
  obtain ⟨v1, e1, b1, r1⟩ := h1.2.2 o0 (by omega) t240 ha1.1
  obtain ⟨v2, e2, b2, r2⟩ := h2.2.2 (by omega) (by omega) t240 ha1.2.2
  refine ⟨_, fun s => ?_, fun _ => ?_, zq_leap (k := k) (J := J) (by omega) o0 (by omega) t240 h1.1 h2.1 (b1 hK) r1 r2 hJ ha1.2.1⟩
  · rw [ze_app, ze_app, e1, e2]
    show z_o1 oc 0 nm (v2 :: v1 :: s) = _
    unfold z_o1
    rw [if_neg (by omega), if_neg (by omega), if_neg (by omega)]
    dsimp only
    unfold z_o2
    rcases h with ⟨rfl, rfl⟩ | ⟨rfl, rfl⟩
    · rw [if_pos rfl, if_pos rfl]
    · rw [if_neg (show ¬ (124 : Int) = 38 by decide), if_pos rfl, if_neg (show ¬ (3 : Int) = 2 by decide)]
  · have b1 := b1 hK
    have b2 := b2 hK1
    split
    · split
      · exact b2
      · exact b1
    · split
      · exact b2
      · exact b1
theorem zl_Z_not {K1 K : Nat} (hK1 : K1 ≤ 2) (h : zl_Z od nm nc to K1 o m c) : zl_Z od nm nc to K o (m ++ [(2, 0)]) (c ++ [4]) := by
  have l1 : (c ++ [4]).length = c.length + 1 := by rw [List.length_append]; rfl
  refine ⟨by omega, fun g => zhk_app m _ g (g + 1) _ (h.2.1 g) (Or.inr (Or.inl ⟨rfl, by omega, rfl⟩)), fun o0 ot t240 ha => ?_⟩
  rw [l1] at ot
  have ha1 := (zl_at_app _ _ _).mp ha
  obtain ⟨v1, e1, b1, r1⟩ := h.2.2 o0 (by omega) t240 ha1.1
  refine ⟨_, fun s => ?_, fun _ => ?_, zq_not o0 (by omega) t240 h.1 r1 ha1.2.1⟩
  · rw [ze_app, e1]
    rfl
  · rcases b1 hK1 with rfl | rfl | rfl
    · exact Or.inl rfl
    · exact Or.inr (Or.inr (by decide))
    · exact Or.inr (Or.inl (by decide))
theorem zl_Z_le {K1 K : Nat} (hK : K ≤ 2 → K1 ≤ 2) (h : zl_Z od nm nc to K1 o m c) : zl_Z od nm nc to K o m c := by
  refine ⟨h.1, h.2.1, fun o0 ot t240 ha => ?_⟩
  obtain ⟨v, e, b, r⟩ := h.2.2 o0 ot t240 ha
  exact ⟨v, e, fun z => b (hK z), r⟩
theorem zl_num_0 {q : Int → Int} : ∀ (k : Nat) (v i w j : Int), 0 ≤ v → zl_num q k v i = .inr (w, j) → 0 ≤ w := by
  intro k
  induction k with
  | zero =>
    intro v i w j v0 h
    unfold zl_num at h
    split at h
    · cases h
    · have : v = w := congrArg (fun z => z.1) (Sum.inr.inj h)
      omega
  | succ k ih =>
    intro v i w j v0 h
    unfold zl_num at h
    split at h
    · rename_i hd
      exact ih _ _ w j (by omega) h
    · have : v = w := congrArg (fun z => z.1) (Sum.inr.inj h)
      omega
theorem zl_sem {q : Int → Int} (hnm : ∀ x : Int, zl_nx x ≠ -1 → nc (zl_nx x) = nm x) : ∀ (f K : Nat) (D i o : Int) (mc : List (Int × Int)) (co : List Int) (j : Int) (m : List (Int × Int)) (c : List Int), zl q f K D i o mc co = .inr (j, m, c) →
    (K < 6 → zl_Z od nm nc to K o m c) ∧ (6 ≤ K → zl_Z od nm nc to (K - 6) o mc co → zl_Z od nm nc to (K - 6) o m c) := by
  intro f
  induction f with
  | zero => intro K D i o mc co j m c h; cases h
  | succ f ih =>
    intro K D i o mc co j m c h
    unfold zl at h
    by_cases k2 : K = 2
    · rw [if_pos k2] at h
      subst k2
      refine ⟨fun _ => ?_, fun z => absurd z (by decide)⟩
      split at h
      · split at h
        · cases h
        · split at h
          · cases h
          · rename_i j1 m1 c1 e1
            have h1 := (ih _ _ _ _ _ _ _ _ _ e1).1 (by decide)
            have := Sum.inr.inj h
            have a2 : m1 ++ [(2, 0)] = m := congrArg (fun z => z.2.1) this
            have a3 : c1 ++ [4] = c := congrArg (fun z => z.2.2) this
            rw [← a2, ← a3]
            exact zl_Z_not (by decide) h1
      · split at h
        · split at h
          · cases h
          · split at h
            · cases h
            · rename_i j1 m1 c1 e1
              have h1 := (ih _ _ _ _ _ _ _ _ _ e1).1 (by decide)
              split at h
              · have := Sum.inr.inj h
                have a2 : m1 = m := congrArg (fun z => z.2.1) this
                have a3 : c1 = c := congrArg (fun z => z.2.2) this
                rw [← a2, ← a3]
                exact zl_Z_le (fun _ => by decide) h1
              · cases h
        · split at h
          · cases h
          · rename_i j1 m1 c1 e1
            have h1 := (ih _ _ _ _ _ _ _ _ _ e1).1 (by decide)
            split at h
            · cases h
            · rename_i ec
              split at h
              · cases h
              · rename_i j2 m2 c2 e2
                have h2 := (ih _ _ _ _ _ _ _ _ _ e2).1 (by decide)
                have := Sum.inr.inj h
                have a2 : m1 ++ (m2 ++ [(q j1, 0)]) = m := congrArg (fun z => z.2.1) this
                have a3 : c1 ++ (c2 ++ [zl_cm (q j1)]) = c := congrArg (fun z => z.2.2) this
                rw [← a2, ← a3]
                have hc : (q j1 = 60 ∧ zl_cm (q j1) = 5) ∨ (q j1 = 62 ∧ zl_cm (q j1) = 6) ∨ (q j1 = 61 ∧ zl_cm (q j1) = 7) := by
                  unfold zl_cm at ec ⊢
                  by_cases g1 : q j1 = 60
                  · exact Or.inl ⟨g1, if_pos g1⟩
                  · rw [if_neg g1] at ec ⊢
                    by_cases g2 : q j1 = 61
                    · exact Or.inr (Or.inr ⟨g2, if_pos g2⟩)
                    · rw [if_neg g2] at ec ⊢
                      by_cases g3 : q j1 = 62
                      · exact Or.inr (Or.inl ⟨g3, if_pos g3⟩)
                      · rw [if_neg g3] at ec; exact absurd rfl ec
                refine zl_Z_two (K1 := 3) (K2 := 3) (Or.inr (Or.inr (Or.inr (Or.inr (Or.inr hc))))) (fun _ => ?_) h1 h2
                rcases hc with y | y | y <;> (rw [y.2]; decide)
    · rw [if_neg k2] at h
      by_cases k5 : K = 5
      · rw [if_pos k5] at h
        subst k5
        refine ⟨fun _ => ?_, fun z => absurd z (by decide)⟩
        split at h
        · split at h
          · cases h
          · rename_i v j1 e1
            have v0 := zl_num_0 5 0 i v j1 (by decide) e1
            have v1 := zl_num_b 5 0 i v j1 1 (by decide) (by decide) e1
            have := Sum.inr.inj h
            have a2 : [((0 : Int), v)] = m := congrArg (fun z => z.2.1) this
            have a3 : [16 * v] = c := congrArg (fun z => z.2.2) this
            rw [← a2, ← a3]
            refine ⟨Nat.le_refl _, fun g => Or.inl ⟨Or.inl rfl, rfl⟩, fun o0 ot t240 ha => ⟨some v, fun s => rfl, fun z => absurd z (by decide), zq_num o0 ot t240 ⟨v0, ?_⟩ ha.1⟩⟩
            rw [show (1 : Int) * 10 ^ 5 = 100000 from by decide] at v1
            exact v1
        · split at h
          · split at h
            · cases h
            · split at h
              · cases h
              · rename_i j1 m1 c1 e1
                have h1 := (ih _ _ _ _ _ _ _ _ _ e1).1 (by decide)
                split at h
                · have := Sum.inr.inj h
                  have a2 : m1 = m := congrArg (fun z => z.2.1) this
                  have a3 : c1 = c := congrArg (fun z => z.2.2) this
                  rw [← a2, ← a3]
                  exact zl_Z_le (fun z => absurd z (by decide)) h1
                · cases h
          · split at h
            · cases h
            · rename_i en
              have := Sum.inr.inj h
              have a2 : [((1 : Int), q i)] = m := congrArg (fun z => z.2.1) this
              have a3 : [16 * zl_nx (q i) + 1] = c := congrArg (fun z => z.2.2) this
              rw [← a2, ← a3]
              have hb : 0 ≤ zl_nx (q i) ∧ zl_nx (q i) < 6 := by
                unfold zl_nx at en ⊢
                repeat' split
                all_goals (first | omega | (simp only [*] at en; omega))
              exact ⟨Nat.le_refl _, fun g => Or.inl ⟨Or.inr rfl, rfl⟩, fun o0 ot t240 ha => ⟨some (nm (q i)), fun s => rfl, fun z => absurd z (by decide), zq_nam o0 ot t240 hb ha.1 (hnm _ en)⟩⟩
      · rw [if_neg k5] at h
        by_cases k6 : K < 6
        · rw [if_pos k6] at h
          split at h
          · cases h
          · rename_i j1 m1 c1 e1
            have h1 := (ih _ _ _ _ _ _ _ _ _ e1).1 (by omega)
            have h2 := (ih _ _ _ _ _ _ _ _ _ h).2 (by omega)
            rw [show K + 6 - 6 = K from by omega] at h2
            exact ⟨fun _ => h2 (zl_Z_le (fun z => by omega) h1), fun z => absurd z (by omega)⟩
        · rw [if_neg k6] at h
          refine ⟨fun z => absurd z k6, fun _ hZ => ?_⟩
          split at h
          · have := Sum.inr.inj h
            have a2 : mc = m := congrArg (fun z => z.2.1) this
            have a3 : co = c := congrArg (fun z => z.2.2) this
            rw [← a2, ← a3]
            exact hZ
          · rename_i ej
            split at h
            · rename_i e4
              split at h
              · cases h
              · rename_i j1 m1 c1 e1
                have hop : (q i = 38 ∧ zl_jt (K - 6) (q i) = 2 ∧ K - 6 = 1) ∨ (q i = 124 ∧ zl_jt (K - 6) (q i) = 3 ∧ K - 6 = 0) := by
                  unfold zl_jt at ej e4 ⊢
                  by_cases g1 : q i = 124
                  · rw [if_pos g1] at ej e4 ⊢
                    by_cases g2 : K - 6 = 0
                    · exact Or.inr ⟨g1, if_pos g2, g2⟩
                    · rw [if_neg g2] at ej; exact absurd rfl ej
                  · rw [if_neg g1] at ej e4 ⊢
                    by_cases g3 : q i = 38
                    · rw [if_pos g3] at ej e4 ⊢
                      by_cases g2 : K - 6 = 1
                      · exact Or.inl ⟨g3, if_pos g2, g2⟩
                      · rw [if_neg g2] at ej; exact absurd rfl ej
                    · exfalso
                      rw [if_neg g3] at ej e4
                      repeat' split at ej
                      all_goals (first | exact absurd rfl ej | (simp only [*] at e4; omega) | omega)
                have h1 := (ih _ _ _ _ _ _ _ _ _ e1).1 (by omega)
                exact (ih _ _ _ _ _ _ _ _ _ h).2 (by omega) (zl_Z_leap (by omega) (by omega) (by omega) hZ h1 rfl)
            · rename_i e4
              split at h
              · cases h
              · rename_i j1 m1 c1 e1
                have hop : ((q i = 43 ∧ zl_jt (K - 6) (q i) = 8) ∧ K - 6 = 3) ∨ ((q i = 45 ∧ zl_jt (K - 6) (q i) = 9) ∧ K - 6 = 3) ∨ ((q i = 42 ∧ zl_jt (K - 6) (q i) = 10) ∧ K - 6 = 4) ∨ ((q i = 47 ∧ zl_jt (K - 6) (q i) = 11) ∧ K - 6 = 4) ∨ ((q i = 37 ∧ zl_jt (K - 6) (q i) = 12) ∧ K - 6 = 4) := by
                  unfold zl_jt at ej e4 ⊢
                  by_cases g1 : q i = 124
                  · rw [if_pos g1] at ej e4
                    split at ej
                    · rename_i g2; rw [if_pos g2] at e4; exact absurd (by decide) e4
                    · exact absurd rfl ej
                  · rw [if_neg g1] at ej e4 ⊢
                    by_cases g3 : q i = 38
                    · rw [if_pos g3] at ej e4
                      split at ej
                      · rename_i g2; rw [if_pos g2] at e4; exact absurd (by decide) e4
                      · exact absurd rfl ej
                    · rw [if_neg g3] at ej e4 ⊢
                      by_cases g4 : q i = 43
                      · rw [if_pos g4] at ej ⊢
                        by_cases g2 : K - 6 = 3
                        · exact Or.inl ⟨⟨g4, if_pos g2⟩, g2⟩
                        · rw [if_neg g2] at ej; exact absurd rfl ej
                      · rw [if_neg g4] at ej ⊢
                        by_cases g5 : q i = 45
                        · rw [if_pos g5] at ej ⊢
                          by_cases g2 : K - 6 = 3
                          · exact Or.inr (Or.inl ⟨⟨g5, if_pos g2⟩, g2⟩)
                          · rw [if_neg g2] at ej; exact absurd rfl ej
                        · rw [if_neg g5] at ej ⊢
                          by_cases g6 : q i = 42
                          · rw [if_pos g6] at ej ⊢
                            by_cases g2 : K - 6 = 4
                            · exact Or.inr (Or.inr (Or.inl ⟨⟨g6, if_pos g2⟩, g2⟩))
                            · rw [if_neg g2] at ej; exact absurd rfl ej
                          · rw [if_neg g6] at ej ⊢
                            by_cases g7 : q i = 47
                            · rw [if_pos g7] at ej ⊢
                              by_cases g2 : K - 6 = 4
                              · exact Or.inr (Or.inr (Or.inr (Or.inl ⟨⟨g7, if_pos g2⟩, g2⟩)))
                              · rw [if_neg g2] at ej; exact absurd rfl ej
                            · rw [if_neg g7] at ej ⊢
                              by_cases g8 : q i = 37
                              · rw [if_pos g8] at ej ⊢
                                by_cases g2 : K - 6 = 4
                                · exact Or.inr (Or.inr (Or.inr (Or.inr ⟨⟨g8, if_pos g2⟩, g2⟩)))
                                · rw [if_neg g2] at ej; exact absurd rfl ej
                              · rw [if_neg g8] at ej; exact absurd rfl ej
                clear ej e4
                have kb : K - 6 + 1 < 6 ∧ ¬ K - 6 ≤ 2 := by rcases hop with y | y | y | y | y <;> (have := y.2; omega)
                have h1 := (ih _ _ _ _ _ _ _ _ _ e1).1 kb.1
                refine (ih _ _ _ _ _ _ _ _ _ h).2 (Nat.le_of_not_lt k6) (zl_Z_two ?_ (fun z => absurd z kb.2) hZ h1)
                rcases hop with y | y | y | y | y
                · exact Or.inl y.1
                · exact Or.inr (Or.inl y.1)
                · exact Or.inr (Or.inr (Or.inl y.1))
                · exact Or.inr (Or.inr (Or.inr (Or.inl y.1)))
                · exact Or.inr (Or.inr (Or.inr (Or.inr (Or.inl y.1))))
end ZSEN
