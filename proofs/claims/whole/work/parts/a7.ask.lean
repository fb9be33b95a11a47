/-! OPS: ask, the model's answer -/
theorem zx_fo_r {α β : Type} {f : Nat → α → α} {g : Nat → β → β} {R : α → β → Prop} {lo m : Nat} {s : α} {u : β} (h : R s u) (st : ∀ q s u, R s u → R (f q s) (g q u)) : ∀ k, k ≤ m → R (zx_fo f lo s k) (zx_fo g lo u k) := by
  intro k
  induction k with
  | zero => intro _; exact h
  | succ k ih => intro hk; exact st (lo + k) _ _ (ih (by omega))
section ZAS9
variable {S M : z_M} {Q : z_V → z_M → Prop}
theorem zy_pk_far {kk : Nat → Nat} {n : Nat} (hn : n ≤ 1458) : zy_pk S (zy_W kk zy_1 n) (zy_W kk zy_1 n zy_tt + 1) = zy_pk S (zy_W kk zy_1 n) 1000000000 ∨ (zy_pk S (zy_W kk zy_1 n) (zy_W kk zy_1 n zy_tt + 1) = (zy_W kk zy_1 n zy_tt + 1, -2, -2) ∧ zy_pk S (zy_W kk zy_1 n) 1000000000 = (1000000000, -2, -2)) := by
  have lt : zy_W kk zy_1 n zy_tt ≤ 1458 := by rw [zy_sw1t]; omega
  unfold zy_pk
  refine zx_fo_r (R := fun s u => s = u ∨ (s = (zy_W kk zy_1 n zy_tt + 1, -2, -2) ∧ u = (1000000000, -2, -2))) (f := fun t s => zy_row S (zy_W kk zy_1 n) t s) (g := fun t s => zy_row S (zy_W kk zy_1 n) t s) (lo := 0) (m := 96) (s := (zy_W kk zy_1 n zy_tt + 1, -2, -2)) (u := (1000000000, -2, -2)) (Or.inr ⟨rfl, rfl⟩) (fun t s u hs => ?_) 96 (Nat.le_refl _)
  refine zx_fo_r (R := fun s u => s = u ∨ (s = (zy_W kk zy_1 n zy_tt + 1, -2, -2) ∧ u = (1000000000, -2, -2))) (f := fun p s => zy_stp S (zy_W kk zy_1 n) t p s) (g := fun p s => zy_stp S (zy_W kk zy_1 n) t p s) (lo := 0) (m := 10) (s := s) (u := u) hs (fun p s u hs => ?_) 10 (Nat.le_refl _)
  have ml := zy_mx_le (kk := kk) (ww := zy_1) (n := n) (A := zx_A S p (t : Int)) zy_11
  rcases hs with e | ⟨e1, e2⟩
  · exact Or.inl (by rw [e])
  · rw [e1, e2]
    unfold zy_stp
    split
    · rw [if_pos (by dsimp only; omega), if_pos (by dsimp only; omega)]
      exact Or.inl rfl
    · exact Or.inr ⟨rfl, rfl⟩
theorem km_laysAsk (d : Nat) {n : Nat} {kk : Nat → Nat} (hI : z_IS S) (hn : n ≤ 1458) (hm : zy_ml S M n kk) (h : ∀ N : z_M, zy_ml S N n kk → N 13 73 = (zy_pk S (zy_W kk zy_1 n) 1000000000).2.1 → N 13 74 = (zy_pk S (zy_W kk zy_1 n) 1000000000).2.2 → N 13 75 = (zy_pk S (zy_W kk zy_1 n) 1000000000).1 → Q z_U N) : z_Cl 0 (d + 7) 331 [z_R 13] M Q := by
  have u13 : ∀ (N : z_M) (j x : Int), zy_ml S N n kk → j ≠ 69 → z_cor 13 j = false → zy_ml S (z_up N 13 j x) n kk := fun N j x a b c => ⟨z_at_up a.1 _ _ _ c rfl, by rw [z_up_nj (Ne.symm b)]; exact a.2.1, fun i hi => by rw [z_up_ne (by decide)]; exact a.2.2 i hi⟩
  refine re_331 (d + 6) ?_
  refine zx_lpf (fun t s => zy_row S (zy_W kk zy_1 n) t s) 0 96 (1000000000, -2, -2) (fun _ s N => zy_ml S N n kk ∧ N 13 73 = s.2.1 ∧ N 13 74 = s.2.2 ∧ N 13 75 = s.1) (fun N t => z_G 0 (d + 7) z_m331 21 [z_R 13, z_I (t : Int), z_U, z_U] [] N Q) _ ⟨u13 _ _ _ (u13 _ _ _ (u13 _ _ _ hm (by decide) rfl) (by decide) rfl) (by decide) rfl, by rw [z_up_nj (by decide), z_up_nj (by decide), z_up_eq], by rw [z_up_nj (by decide), z_up_eq], z_up_eq⟩ (fun t s N _ hi hI' nx => ?_) (fun N hI' => ?_)
  · refine rg_331_21 (d + 6) ⟨fun c => absurd c (by omega), fun _ => ?_⟩
    refine zx_lpf (fun p s => zy_stp S (zy_W kk zy_1 n) t p s) 0 10 s (fun _ s N => zy_ml S N n kk ∧ N 13 73 = s.2.1 ∧ N 13 74 = s.2.2 ∧ N 13 75 = s.1) (fun N p => z_G 0 (d + 7) z_m331 29 [z_R 13, z_I (t : Int), z_I (p : Int), z_U] [] N Q) N hI' (fun p s2 N2 _ hp hI2 nx2 => ?_) (fun N2 hI2 => ?_)
    · obtain ⟨q2, w2, v2, a2⟩ := hI2
      unfold zy_stp at nx2
      refine rg_331_29 (d + 6) ⟨fun c => absurd c (by omega), fun _ => km_isTold (d + 5) q2.1 hI.1 (fun ht => z_y2 ?_) (fun ht => z_n2 ?_)⟩
      · rw [if_pos ht] at nx2
        refine km_asksOf d hI ht (by omega) hn q2 (fun N3 m3 g3 _ => z_viI ?_)
        rw [g3.2.2.2.2, a2, z_wq (by omega)]
        refine ⟨fun c => ?_, fun c => ?_⟩
        · rw [if_pos c] at nx2
          exact nx2 _ ⟨u13 _ _ _ (u13 _ _ _ (u13 _ _ _ m3 (by decide) rfl) (by decide) rfl) (by decide) rfl, by rw [z_up_nj (by decide), z_up_eq], z_up_eq, by rw [z_up_nj (by decide), z_up_nj (by decide), z_up_eq]⟩
        · rw [if_neg (by omega)] at nx2
          exact nx2 N3 ⟨m3, by rw [g3.2.2.1]; exact w2, by rw [g3.2.2.2.1]; exact v2, by rw [g3.2.2.2.2]; exact a2⟩
      · rw [if_neg ht] at nx2
        rw [z_wq (by omega)]
        exact nx2 N2 ⟨q2, w2, v2, a2⟩
    · refine rg_331_29 (d + 6) ⟨fun _ => ?_, fun c => absurd c (by decide)⟩
      rw [z_wq (by omega)]
      exact nx N2 hI2
  · obtain ⟨q2, w2, v2, a2⟩ := hI'
    exact rg_331_21 (d + 6) ⟨fun _ => h N q2 w2 v2 a2, fun c => absurd c (by decide)⟩
theorem km_ask_op (d : Nat) {a : Int} (hS : z_sit S M) (hI : z_IS S) (hR : z_IRep S) (h : ∀ N : z_M, z_sit S N → Q (z_I (zy_askv S a)) N) : z_Cl 0 (d + 9) 332 [z_R 13, z_I a] M Q := by
  unfold zy_askv at h
  refine re_332 (d + 8) (km_lies (d + 8) (fun a0 a3 => z_y2 ?_) (fun c => z_n2 ?_))
  · rw [if_neg (fun c => c ⟨a0, a3⟩)] at h
    refine km_laysDays d hS hI hR (fun h7 N hN hd => z_y2 ?_) (fun h7 N hN => z_n2 ?_)
    · rw [if_neg (by omega)] at h
      refine km_takesBestDays (d + 5) hN hI h7 hd (fun N2 n kk hn hm eW => ⟨fun c3 => km_laysAsk (d + 1) hI hn hm (fun N3 m3 e1 e2 e3 => ?_), fun c3 => ?_⟩)
      · have h' := h N3 m3.1
        have tt := zy_sw1t (kk := kk) n
        have a2 : ¬ a = 0 → ¬ a = 1 → a = 2 := fun x y => by omega
        have pi := zy_pk_i (S := S) (zy_W kk zy_1 n) (zy_W kk zy_1 n zy_tt + 1)
        have pf := zy_pk_far (S := S) (kk := kk) hn
        rw [← eW] at h'
        rw [e1, e2, e3, m3.2.1, ← tt]
        rcases pf with e | ⟨f1, f2⟩
        · rw [← e]
          refine ⟨fun c0 => ⟨fun c1 => ⟨fun c2 => ?_, fun c2 => ?_⟩, fun c1 => ?_⟩, fun c0 => ?_⟩
          · rw [if_neg c0, if_neg c1, if_pos (a2 c0 c1)] at h'
            rcases pi with ⟨i1, _⟩ | ⟨w, v, _, _, i1⟩
            · exact absurd i1 c2
            · have ml := zy_mx_le (kk := kk) (ww := zy_1) (n := n) (A := zx_A S w (v : Int)) zy_11
              rw [i1] at h' ⊢
              unfold z_min at h'
              rw [if_neg (by dsimp only; omega)] at h'
              exact h'
          · rw [if_neg c0, if_neg c1, if_pos (a2 c0 c1)] at h'
            rcases pi with ⟨_, i1⟩ | ⟨w, v, _, _, i1⟩
            · rw [i1] at h'
              unfold z_min at h'
              rw [if_pos (by omega)] at h'
              exact h'
            · rw [i1] at c2
              have : (w : Int) = -2 := c2
              omega
          · rw [if_neg c0, if_pos c1] at h'; exact h'
          · rw [if_pos c0] at h'; exact h'
        · rw [f2]
          rw [f1] at h'
          refine ⟨fun c0 => ⟨fun c1 => ⟨fun c2 => absurd rfl c2, fun c2 => ?_⟩, fun c1 => ?_⟩, fun c0 => ?_⟩
          · rw [if_neg c0, if_neg c1, if_pos (a2 c0 c1)] at h'
            unfold z_min at h'
            rw [if_pos (by dsimp only; omega)] at h'
            exact h'
          · rw [if_neg c0, if_pos c1] at h'; exact h'
          · rw [if_pos c0] at h'; exact h'
      · have h' := h N2 hm.1
        rw [if_neg (by omega), if_neg (by omega), if_neg (by omega), ← eW, zy_sw1t] at h'
        rw [hm.2.1]; exact h'
    · have h' := h N hN
      rw [if_pos h7] at h'; exact h'
  · have h' := h M hS
    rw [if_pos (by omega)] at h'; exact h'
end ZAS9
