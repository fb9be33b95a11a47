/-! LAW: what both calls leave -/
section ZLT
variable {N : z_M} {q : Int → Int} {n k : Int} {C : Int → zl_D}
theorem zl_nmC {t u p s x : Int} (h : zl_nx x ≠ -1) : z_nmC t u p s (zl_nx x) = z_nm6 t u p s x := by
  unfold zl_nx at h ⊢
  unfold z_nm6
  by_cases c1 : x = 116
  · subst c1; rfl
  · rw [if_neg c1] at h ⊢
    rw [if_neg c1]
    by_cases c2 : x = 113
    · subst c2; rfl
    · rw [if_neg c2] at h ⊢
      rw [if_neg c2]
      by_cases c3 : x = 117
      · subst c3; rfl
      · rw [if_neg c3] at h ⊢
        rw [if_neg c3]
        by_cases c4 : x = 112
        · subst c4; rfl
        · rw [if_neg c4] at h ⊢
          rw [if_neg c4]
          by_cases c5 : x = 120
          · subst c5; rfl
          · rw [if_neg c5] at h ⊢
            rw [if_neg c5]
            by_cases c6 : x = 121
            · subst c6; rfl
            · rw [if_neg c6] at h; exact absurd rfl h
/-- one expression, run whole -/
theorem zl_one {f K : Nat} {D i o j p : Int} {m : List (Int × Int)} {c : List Int} (hK : K < 6) (h : zl q f K D i o [] [] = .inr (j, m, c)) (o0 : 0 ≤ o) (o1 : o + (c.length : Int) ≤ 240) (p0 : 0 ≤ p) (p1 : p + (m.length : Int) ≤ 240) (ha : zl_at (N 2401025) o c) (hc : zl_at (N 2401080) p (m.map (fun z => z.1))) (hr : zl_at (N 2401081) p (m.map (fun z => z.2))) :
    z_blk2 (N 2401080) p (p + (m.length : Int)) ∧ ∀ t u pp s : Int, ∃ v : Option Int, z_evh N (z_nm6 t u pp s) p (p + (m.length : Int)) = v ∧ z_rn (N 2401025) (z_nmC t u pp s) (o + (c.length : Int)) 241 o [] = some (v.getD 0) ∧ (K ≤ 2 → v = none ∨ v = some 0 ∨ v = some 1) := by
  have el : (p + (m.length : Int) - p).toNat = m.length := by omega
  refine ⟨⟨p0, by omega, p1, ?_⟩, fun t u pp s => ?_⟩
  · rw [el]
    exact zhk_hok m p 0 hc (((zl_sem (od := N 2401025) (nm := z_nm6 0 0 0 0) (nc := z_nmC 0 0 0 0) (to := o + (c.length : Int)) (fun x hx => zl_nmC hx) f K D i o [] [] j m c h).1 hK).2.1 0)
  · obtain ⟨z1, z2, z3⟩ := (zl_sem (od := N 2401025) (nm := z_nm6 t u pp s) (nc := z_nmC t u pp s) (to := o + (c.length : Int)) (fun x hx => zl_nmC hx) f K D i o [] [] j m c h).1 hK
    obtain ⟨v, e, b, r⟩ := z3 o0 (Int.le_refl _) o1 ha
    refine ⟨v, ?_, ?_, b⟩
    · unfold z_evh
      rw [el, ze_ev m p [] hc hr, e]
      rfl
    · refine r [] 241 _ (by simp only [List.length_nil]; omega) ?_
      cases v with
      | none => exact Or.inr ⟨rfl, by omega, rfl⟩
      | some x =>
        refine Or.inl ⟨x, rfl, 1, by omega, ?_⟩
        unfold z_rn
        rw [if_pos (Int.le_refl _)]
        rfl
theorem zl_both (hn : n ≤ 240) (k0 : 0 ≤ k) (k16 : k ≤ 16) (ha : zl_all q n k C) (hL : N 5 6 = k) (hM : N 13 29 = k) (hc : zl_cc k C N) (hm : zn_cc k C N) : z_ILm N ∧ z_ILc N := by
  have both : ∀ x : Int, 0 ≤ x → x < k → (z_blk2 (N 2401080) (N 161077 x) (N 161078 x) ∧ z_blk2 (N 2401080) (N 161078 x) (N 161079 x)) ∧ N 641027 (4 * x) = N 161076 x ∧ N 641027 (4 * x + 2) ≤ 240 ∧ N 641027 (4 * x + 3) ≤ 240 ∧ (∀ t u p s : Int, z_rn (N 2401025) (z_nmC t u p s) (N 641027 (4 * x + 2)) 241 (N 641027 (4 * x + 1)) [] = some ((z_evh N (z_nm6 t u p s) (N 161077 x) (N 161078 x)).getD 0)) ∧ (∀ t u p s : Int, ∃ r : Int, z_rn (N 2401025) (z_nmC t u p s) (N 641027 (4 * x + 3)) 241 (N 641027 (4 * x + 2)) [] = some r ∧ (r ≠ 0 ↔ z_evh N (z_nm6 t u p s) (N 161078 x) (N 161079 x) = some 1)) := by
    intro x x0 x1
    obtain ⟨⟨⟨i1, j1, _, _, e1⟩, ⟨i2, j2, _, _, e2⟩⟩, _, o0, p0, oe, pe⟩ := ha x x0 x1
    obtain ⟨c1, c2, c3, c4, c5, c6, c7⟩ := hc x x0 x1
    obtain ⟨m1, m2, m3, m4, m5, m6, m7, m8⟩ := hm x x0 x1
    rw [c1, c2, c3, c4, m1, m2, m3, m4]
    unfold zl_oe at *
    unfold zl_pe at *
    have g1 := zl_one (N := N) (by decide) e1 o0 (by omega) p0 (by omega) c5 m5 m6
    have g2 := zl_one (N := N) (by decide) e2 (by omega) (by omega) (by omega) (by omega) c6 m7 m8
    refine ⟨⟨g1.1, g2.1⟩, rfl, by omega, by omega, fun t u p s => ?_, fun t u p s => ?_⟩
    · obtain ⟨v, ev, er, _⟩ := g1.2 t u p s
      rw [ev]; exact er
    · obtain ⟨v, ev, er, eb⟩ := g2.2 t u p s
      refine ⟨v.getD 0, er, ?_⟩
      rw [ev]
      rcases eb (by decide) with rfl | rfl | rfl
      · exact ⟨fun z => absurd rfl z, fun z => by cases z⟩
      · exact ⟨fun z => absurd rfl z, fun z => by cases z⟩
      · exact ⟨fun _ => rfl, fun _ => by decide⟩
  refine ⟨⟨by rw [hM]; exact k0, by rw [hM]; exact k16, fun x x0 x1 => (both x x0 (by rw [hM] at x1; exact x1)).1⟩, ⟨by rw [hL, hM], fun x x0 x1 => (both x x0 (by rw [hM] at x1; exact x1)).2⟩⟩
end ZLT
