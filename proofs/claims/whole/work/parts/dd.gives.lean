/-! THE TABLE: gives -/
section ZTM
variable {S T M N N2 : z_M} {a1 a2 a3 a4 a5 a6 p : Int}
def zd_J (Sc Sm : z_M) (pl : Int → Int) : Prop := z_pRep (Sc 7 5) (Sm 13 49) (Sc 2401035) (Sm 401092) (Sm 401093) (Sm 401094) (Sm 401095) (Sm 401096) (Sm 401097) pl
theorem zd_gJ {pl : Int → Int} : ∀ (k : Nat) (Sc Sm : z_M), zd_J Sc Sm pl → (k : Int) ≤ Sm 13 49 → zd_J (zy_gc p k Sc) (zy_gm p k Sm) pl := by
  intro k
  induction k with
  | zero => intro Sc Sm h _; exact h
  | succ k ih =>
    intro Sc Sm h hk
    have hr : Sc 2401035 (6 * (k : Int)) = Sm 401092 (k : Int) := by
      have := (h.2.2.2 (k : Int) (by omega) (by omega)).1
      rw [show 6 * (k : Int) + 0 = 6 * (k : Int) from by omega] at this
      exact this
    unfold zy_gc zy_gm
    rw [hr]
    by_cases c : Sm 401092 (k : Int) = p
    · rw [if_pos c, if_pos c]
      refine ih _ _ (zd_del h (by omega) (by omega)) ?_
      rw [zy_dM_n]
      omega
    · rw [if_neg c, if_neg c]
      exact ih _ _ h (by omega)
theorem zd_gc_x : ∀ (k : Nat) (S : z_M), zc_x zd_rx S (zy_gc p k S) := by
  intro k
  induction k with
  | zero => intro S _ _ _ _; rfl
  | succ k ih =>
    intro S
    unfold zy_gc
    by_cases c : S 2401035 (6 * (k : Int)) = p
    · rw [if_pos c]; exact zd_rx2 zd_dc_x (ih _)
    · rw [if_neg c]; exact ih _
theorem zd_gm_x : ∀ (k : Nat) (S : z_M), zc_x zd_rx S (zy_gm p k S) := by
  intro k
  induction k with
  | zero => intro S _ _ _ _; rfl
  | succ k ih =>
    intro S
    unfold zy_gm
    by_cases c : S 401092 (k : Int) = p
    · rw [if_pos c]; exact zd_rx2 zd_dM_x (ih _)
    · rw [if_neg c]; exact ih _
theorem zd_gc_f {a : Nat} (h1 : a ≠ 2401035) (h2 : a ≠ 7) : ∀ (k : Nat) (S : z_M), (zy_gc p k S) a = S a := by
  intro k
  induction k with
  | zero => intro S; rfl
  | succ k ih =>
    intro S
    unfold zy_gc
    by_cases c : S 2401035 (6 * (k : Int)) = p
    · rw [if_pos c, ih]; unfold zy_dc; rw [zy_ar_n h1, z_up_ne h2]
    · rw [if_neg c]; exact ih _
theorem zd_gm_f {a : Nat} (h1 : zy_6 a = false) (h2 : a ≠ 13) : ∀ (k : Nat) (S : z_M), (zy_gm p k S) a = S a := by
  intro k
  induction k with
  | zero => intro S; rfl
  | succ k ih =>
    intro S
    unfold zy_gm
    by_cases c : S 401092 (k : Int) = p
    · rw [if_pos c, ih]; unfold zy_dM; rw [z_up_ne h2, zy_six_n h1]
    · rw [if_neg c]; exact ih _
theorem zz_op6 (hS : z_sit S M) (hI : zz_I S) : z_case 60 zz_P M a1 a2 a3 a4 a5 a6 6 := by
  have hR := hI.2.2.2.2.2.1
  have r0 := hR.2.1
  have r1 := hR.2.2.1
  have hn : ((S 13 49).toNat : Int) = S 13 49 := by omega
  have e7 : M 7 5 = ((S 13 49).toNat : Int) := by rw [hn, ← hR.1]; exact z_ff hS 7 5 rfl
  refine re_173 59 (kc_isPerson 59 (fun p0 p1 => z_y1 (re_98 58 ?_)) (fun c => z_n1 ⟨⟨_, rfl⟩, re_302 59 (km_lies 59 (fun x1 x2 => absurd x1 (by omega)) (fun _ => z_n2 ⟨rfl, S, hS, hI⟩))⟩))
  rw [e7]
  generalize hnn : (S 13 49).toNat = n at *
  rw [z_w_id (x := (n : Int) - 1) (by omega) (by omega)]
  refine kc_givesLoop 57 n S M (n : Int) hS (by rw [hR.1]; exact r1) (by rw [hR.1]; omega) (by omega) (by rw [hR.1]; omega) (fun N sN b => z_viI ⟨⟨_, rfl⟩, re_302 59 (km_lies 59 (fun _ _ => z_y2 ?_) (fun c => absurd c (by omega)))⟩)
  have fA : ∀ a, a ≠ 2401035 → a ≠ 7 → (zy_gc a1 n S) a = S a := fun a h1 h2 => zd_gc_f h1 h2 n S
  have eA : (zy_gc a1 n S) 13 49 = S 13 49 := congrFun (fA 13 (by decide) (by decide)) _
  have e13 : N 13 49 = (n : Int) := by rw [hn, ← eA]; exact z_ff sN 13 49 rfl
  rw [e13, z_w_id (x := (n : Int) - 1) (by omega) (by omega)]
  have hJ0 : zd_J S (zy_gc a1 n S) (S 304067) := by
    unfold zd_J
    rw [eA, fA _ (by decide) (by decide), fA _ (by decide) (by decide), fA _ (by decide) (by decide), fA _ (by decide) (by decide), fA _ (by decide) (by decide), fA _ (by decide) (by decide)]
    exact z_IRep_p.mp hR
  have hJ := zd_gJ (p := a1) n S (zy_gc a1 n S) hJ0 (by rw [eA]; omega)
  refine km_givesLoop 59 n (zy_gc a1 n S) N (n : Int) sN (by rw [eA]; exact r1) (by rw [eA]; omega) (by omega) (by rw [eA]; omega) (fun N2 sN2 b2 => ⟨?_, _, sN2, ?_⟩)
  · rw [show (zy_gc a1 n S) 7 5 = (zy_gm a1 n (zy_gc a1 n S)) 13 49 from hJ.1]
  · have hx := zd_rx2 (zd_gc_x (p := a1) n S) (zd_gm_x (p := a1) n (zy_gc a1 n S))
    refine zd_rI hI hx ?_
    rw [z_IRep_p, zc_x_n hx 304067 rfl (fun _ => rfl), zd_gm_f (a := 7) rfl (by decide), zd_gm_f (a := 2401035) rfl (by decide)]
    exact hJ
end ZTM
