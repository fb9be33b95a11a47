/-! LAW: the model's values -/
def zn_W1 (d : Nat) (Q : z_V → z_M → Prop) (N : z_M) : Prop := z_Cl 0 (d + 3) 231 [z_R 13] (z_up N 13 37 0) (fun v17 M17 => z_vi v17 fun x17 => ((x17 = 0 → z_G 0 (d + 3 + 1) z_m265 7 [z_R 13, z_I 0] [] M17 Q) ∧ (¬ x17 = 0 → z_Cl 0 (d + 3) 264 [z_R 13] M17 (fun v18 M18 => z_vi v18 fun x18 => ((x18 = 0 → z_G 0 (d + 3 + 1) z_m265 7 [z_R 13, z_I 0] [] M18 Q) ∧ (¬ x18 = 0 → z_G 0 (d + 3 + 1) z_m265 7 [z_R 13, z_I 1] [] M18 Q))))))
def zn_F (d : Nat) (Q : z_V → z_M → Prop) (N : z_M) : Prop := z_Cl 0 (d + 2) 231 [z_R 13] N (fun v1 M1 => z_vi v1 fun x1 => ((x1 = 0 → z_G 0 ((d + 2) + 1) z_m263 23 [z_R 13] [] M1 (fun _ M16 => zn_W1 d Q M16)) ∧ (¬ x1 = 0 → z_Cl 0 (d + 2) 229 [z_R 13] M1 (fun v2 M2 => z_vi v2 fun x2 => ((¬ x2 = 91 → z_G 0 ((d + 2) + 1) z_m263 23 [z_R 13] [] M2 (fun _ M16 => zn_W1 d Q M16)) ∧ (x2 = 91 → z_Cl 0 (d + 2) 254 [z_R 13] M2 (fun _ M3 => z_G 0 ((d + 2) + 1) z_m263 0 [z_R 13] [] M3 (fun _ M16 => zn_W1 d Q M16))))))))
section ZLN
variable {N N0 : z_M} {Q : z_V → z_M → Prop} {q : Int → Int} {n i D p : Int} {S : List Int} {E : List (Int × Int)}
theorem zn_37 (h : zn q n i D S E p N0 N) : zn q n i D S E p N0 (z_up N 13 37 0) :=
  zn_of h (zm_st_of h.1 ⟨z_up_nj (by decide), z_up_nj (by decide), z_up_nj (by decide)⟩ (z_up_ne (by decide))) (by rw [z_up_nj (by decide)]; exact h.2.1) (fun k hk => z_up_ne hk) (z_up_nj (by decide)) (z_up_nj (by decide)) (z_up_nj (by decide)) (by rw [z_up_eq]; exact h.2.2.2.2.2.2.2.2.2.2.2.2.1.symm) (z_up_nj (by decide)) (fun j hj => z_up_nj (fun y => by rw [y] at hj; cases hj))
theorem zn_b37 {x y : Int} (h : zn_b q n x N0 N) : zn_b q n x N0 (z_up N 13 37 y) := by
  obtain ⟨a, ⟨j, b⟩, c, e⟩ := h
  exact ⟨a, ⟨j, zm_st_of b ⟨z_up_nj (by decide), z_up_nj (by decide), z_up_nj (by decide)⟩ (z_up_ne (by decide))⟩, zc_tr c (zc_up rfl rfl), by rw [z_up_nj (by decide)]; exact e⟩
theorem zn_W1_bad (d : Nat) {x : Int} (h : zn_b q n x N0 N) (hQ : ∀ N' : z_M, zn_b q n x N0 N' → Q z_U N') : zn_W1 d Q N := by
  have h2 : zn_b q n x N0 (z_up N 13 37 0) := zn_b37 h
  obtain ⟨hx, ⟨j, s⟩, _⟩ := id h2
  exact kn_good0 (d + 3) (by omega) s (z_n1 (rg_265_7 (d + 3) ⟨fun _ => kn_good0 (d + 3) (by omega) s (z_n1 (hQ _ h2)), fun c => absurd rfl c⟩))
/-- behind a value comes one of * / % + - -/
theorem zn_W1_op (d : Nat) {P T : List Int} (h : zn q n i D (P ++ T) E p N0 (z_up N 13 37 0)) (hi : i < 900) (hc : zn_t (q i) ∨ zn_p (q i)) (hP : ∀ x ∈ P, zn_t x ∨ (zn_p (q i) ∧ zn_p x)) (hT : ¬ zn_t (T.headD 0) ∧ (zn_p (q i) → ¬ zn_p (T.headD 0))) (h0 : 0 ≤ p) (hw : p + (E.length : Int) + ((P ++ T).length : Int) < 240) (hQ : ∀ N' : z_M, zn q n (i + 1) D (q i :: T) (E ++ zn_ops P) p N0 N' → zn_F d Q N') : zn_W1 d Q N := by
  have hl : (T.length : Int) ≤ ((P ++ T).length : Int) := by simp only [List.length_append]; omega
  have eh : zm_h q i = q i := by unfold zm_h; unfold zn_t zn_p at hc; rw [if_neg (by omega)]
  -- the next factor
  have again : ∀ N2 : z_M, zn q n i D T (E ++ zn_ops P) p N0 N2 → z_Cl 0 (d + 2) 253 [z_R 13, z_I (q i)] N2 (fun _ M5 => z_vi (z_I 1) fun x18 => ((x18 = 0 → z_G 0 (d + 3 + 1) z_m265 7 [z_R 13, z_I 0] [] M5 Q) ∧ (¬ x18 = 0 → z_G 0 (d + 3 + 1) z_m265 7 [z_R 13, z_I 1] [] M5 Q))) := by
    intro N2 z2
    refine kn_puts (d + 2) z2 (by omega) hi (fun N3 z3 => z_y1 (rg_265_7 (d + 3) ⟨fun c => absurd c (by decide), fun _ => kn_good1 (d + 3) z3.1 (z_y1 ⟨fun c => absurd z3.2.2.2.2.2.2.2.2.2.2.2.2.1 c, fun _ => re_263 (d + 2) (hQ N3 z3)⟩)⟩))
  refine kn_good1 (d + 3) h.1 (z_y1 (re_264 (d + 2) (kn_here (d + 2) h.1 (z_viI ?_))))
  rw [eh]
  refine kn_isTimes (d + 2) (fun ct => z_y2 (kn_isPlus (d + 2) (fun cp => by exfalso; unfold zn_t at ct; unfold zn_p at cp; omega) (fun np => z_viI (kn_sums d (Or.inl rfl) (fun x hx => ?_) ⟨hT.1, fun z => absurd z (by decide)⟩ h h0 (by omega) (fun N2 z2 => again N2 z2))))) (fun nt => z_n2 (kn_isPlus (d + 2) (fun cp => z_y1 (kn_isPlus (d + 2) (fun _ => z_viI (kn_sums d (Or.inr rfl) (fun x hx => ?_) ⟨hT.1, fun _ => hT.2 cp⟩ h h0 (by omega) (fun N2 z2 => again N2 z2))) (fun np => absurd cp np))) (fun np => ?_)))
  · rcases hP x hx with z | z
    · exact Or.inl z
    · exact absurd z.1 np
  · rcases hP x hx with z | z
    · exact Or.inl z
    · exact Or.inr ⟨rfl, z.2⟩
  · rcases hc with z | z
    · exact absurd z nt
    · exact absurd z np
/-- the value's end -/
theorem zn_W1_end (d : Nat) {P T : List Int} (hD : -1000 ≤ D ∧ D ≤ 1000) (h : zn q n i D (P ++ T) E p N0 (z_up N 13 37 0)) (hi : i < 900) (hc : ¬ zn_t (q i) ∧ ¬ zn_p (q i)) (hP : ∀ x ∈ P, zn_t x ∨ zn_p x) (hT : ¬ zn_t (T.headD 0) ∧ ¬ zn_p (T.headD 0)) (h0 : 0 ≤ p) (hw : p + (E.length : Int) + ((P ++ T).length : Int) ≤ 240)
    (hQ1 : T.headD 0 ≠ 91 → q i ≠ 93 → ∀ N' : z_M, zn q n i D T (E ++ zn_ops P) p N0 N' → Q z_U N')
    (hQ2 : ∀ r : List Int, T = 91 :: r → q i = 93 → ∀ N' : z_M, zn q n (i + 1) (D - 1) r (E ++ zn_ops P) p N0 (z_up N' 13 37 0) → zn_W1 d Q N')
    (hQ3 : (T.headD 0 ≠ 91 ∧ q i = 93) ∨ (T.headD 0 = 91 ∧ q i ≠ 93) → ∀ N' : z_M, zn_b q n (-1000 - i) N0 N' → Q z_U N') : zn_W1 d Q N := by
  have hl : (T.length : Int) ≤ 240 := by simp only [List.length_append] at hw; omega
  have hnt : ¬ zn_t (zm_h q i) ∧ ¬ zn_p (zm_h q i) := by
    unfold zm_h zn_t zn_p at *
    split <;> omega
  refine kn_good1 (d + 3) h.1 (z_y1 (re_264 (d + 2) (kn_here (d + 2) h.1 (z_viI (kn_isTimes (d + 2) (fun ct => absurd ct hnt.1) (fun _ => z_n2 (kn_isPlus (d + 2) (fun cp => absurd cp hnt.2) (fun _ => z_n1 (kn_sums d (Or.inr rfl) (fun x hx => ?_) ⟨hT.1, fun _ => hT.2⟩ h h0 (by omega) (fun N2 z2 => ⟨fun c93 => kn_top (d + 2) z2 hl (z_viI ⟨fun c91 => ?_, fun c91 => ?_⟩), fun c93 => ?_⟩))))))))))
  · rcases hP x hx with z | z
    · exact Or.inl z
    · exact Or.inr ⟨rfl, z⟩
  · -- a bracket closes
    have c93' : q i = 93 := (zm_h_s (by decide)).mp c93
    obtain ⟨r, rfl⟩ : ∃ r, T = 91 :: r := by
      cases T with
      | nil => exact absurd c91 (by decide)
      | cons x r => exact ⟨r, by rw [show x = 91 from c91]⟩
    have hl2 : ((91 :: r : List Int).length : Int) = (r.length : Int) + 1 := by rw [List.length_cons]; omega
    have f8 : N2 13 8 = (r.length : Int) + 1 := by rw [← hl2]; exact z2.2.2.1
    rw [f8, z_w_id (x := (r.length : Int) + 1 - 1) (by omega) (by omega), show (r.length : Int) + 1 - 1 = (r.length : Int) from by omega]
    have z3 := zn_pop z2
    have f7 : (z_up N2 13 8 (r.length : Int)) 13 7 = D := z3.2.1
    have f2 : (z_up (z_up N2 13 8 (r.length : Int)) 13 7 (z_w (D - 1))) 13 2 = i := by rw [z_up_nj (by decide)]; exact z3.1.2.2.2.2.2.1
    have hi0 := z3.1.2.2.1
    rw [f7, f2, z_w_id (x := i + 1) (by omega) (by omega), z_w_id (x := D - 1) (by omega) (by omega)]
    have f4 : (z_up (z_up (z_up (z_up N2 13 8 (r.length : Int)) 13 7 (D - 1)) 13 2 (i + 1)) 13 37 1) 13 4 = 0 := by rw [z_up_nj (by decide), z_up_nj (by decide), z_up_nj (by decide)]; exact z3.1.2.2.2.2.2.2
    have f37 : (z_up (z_up (z_up (z_up N2 13 8 (r.length : Int)) 13 7 (D - 1)) 13 2 (i + 1)) 13 37 1) 13 37 = 1 := z_up_eq
    refine z_y1 (rg_265_7 (d + 3) ⟨fun c => absurd c (by decide), fun _ => re_231 (d + 3) ⟨fun c => absurd f4 c, fun _ => z_y1 ⟨fun _ => hQ2 r rfl c93' _ ?_, fun c => absurd (f37.symm.trans c) (by decide)⟩⟩⟩)
    refine zn_of z3 (zm_st_of (zm_st_pl (zm_st_of z3.1 (N' := z_up (z_up N2 13 8 (r.length : Int)) 13 7 (D - 1)) ⟨z_up_nj (by decide), z_up_nj (by decide), z_up_nj (by decide)⟩ (z_up_ne (by decide))) (i' := i + 1) (by omega) (by omega)) ⟨by rw [z_up_nj (by decide), z_up_nj (by decide)], by rw [z_up_nj (by decide), z_up_nj (by decide)], by rw [z_up_nj (by decide), z_up_nj (by decide)]⟩ (by rw [z_up_ne (by decide), z_up_ne (by decide)])) ?_ (fun k hk => by rw [z_up_ne hk, z_up_ne hk, z_up_ne hk, z_up_ne hk]) ?_ ?_ ?_ ?_ ?_ (fun j hj => ?_)
    · rw [z_up_nj (by decide), z_up_nj (by decide), z_up_nj (by decide), z_up_eq]
    · rw [z_up_nj (by decide), z_up_nj (by decide), z_up_nj (by decide), z_up_nj (by decide)]
    · rw [z_up_nj (by decide), z_up_nj (by decide), z_up_nj (by decide), z_up_nj (by decide)]
    · rw [z_up_nj (by decide), z_up_nj (by decide), z_up_nj (by decide), z_up_nj (by decide)]
    · rw [z_up_eq]; exact z3.2.2.2.2.2.2.2.2.2.2.2.2.1.symm
    · rw [z_up_nj (by decide), z_up_nj (by decide), z_up_nj (by decide), z_up_nj (by decide)]
    · have ne : ∀ y : Int, z_cor 13 y = false → j ≠ y := fun y hy z => by rw [z, hy] at hj; cases hj
      rw [z_up_nj (ne _ rfl), z_up_nj (ne _ rfl), z_up_nj (ne _ rfl), z_up_nj (ne _ rfl)]
  · -- no bracket is open
    have c93' : q i = 93 := (zm_h_s (by decide)).mp c93
    have f2 : N2 13 2 = i := z2.1.2.2.2.2.2.1
    rw [f2]
    refine kn_wrongs (d + 2) z2.1 (by decide) (by have := z2.1.2.2.1; omega) (fun N3 m3 s3 => ?_)
    rw [zm_f0, show -1000 * 1 - i = -1000 - i from by omega] at s3
    have hi0 := z2.1.2.2.1
    exact z_n1 (rg_265_7 (d + 3) ⟨fun _ => kn_good0 (d + 3) (by omega) s3 (z_n1 (hQ3 (Or.inl ⟨c91, c93'⟩) N3 (zn_bad z2 m3 (by omega) s3))), fun c => absurd rfl c⟩)
  · have c93' : q i ≠ 93 := fun z => c93 ((zm_h_s (by decide)).mpr z)
    refine z_n1 (rg_265_7 (d + 3) ⟨fun _ => kn_good1 (d + 3) z2.1 (z_y1 (kn_top (d + 3) z2 hl (z_viI ⟨fun c91 => hQ1 c91 c93' N2 z2, fun c91 => ?_⟩))), fun c => absurd rfl c⟩)
    have f2 : N2 13 2 = i := z2.1.2.2.2.2.2.1
    have hi0 := z2.1.2.2.1
    rw [f2]
    refine kn_wrongs (d + 3) z2.1 (by decide) (by omega) (fun N3 m3 s3 => ?_)
    rw [zm_f0, show -1000 * 1 - i = -1000 - i from by omega] at s3
    exact hQ3 (Or.inr ⟨c91, c93'⟩) N3 (zn_bad z2 m3 (by omega) s3)
/-- a number is read -/
theorem kn_reads (d : Nat) (h : zn q n i D S E p N0 N) (hi : i ≤ 260) (hd : zr_d q i)
    (h1 : ∀ (v j : Int) (N' : z_M), zl_num q 5 0 i = .inr (v, j) → i < j → zn q n j D S E p N0 N' → Q (z_I v) N')
    (h0 : ∀ (x v : Int) (N' : z_M), zl_num q 5 0 i = .inl x → zn_b q n x N0 N' → Q (z_I v) N') : z_Cl 0 (d + 2) 255 [z_R 13] N Q := by
  have hi0 := h.1.2.2.1
  have f2 : N 13 2 = i := h.1.2.2.2.2.2.1
  generalize hW : zl_num q 5 0 i = W at h1 h0
  have key : ∀ (k x : Nat) (v j : Int) (N' : z_M), x + k = 5 → i + (x : Int) = j → 0 ≤ v → v < 10 ^ x → zn q n j D S E p N0 N' → zl_num q k v j = W → z_G 0 (d + 2) z_m255 7 [z_R 13, z_I i, z_I v] [] N' Q := by
    intro k
    induction k with
    | zero =>
      intro x v j N' hk ij v0 v1 z e
      have hx : x = 5 := by omega
      rw [hx, show (10 : Int) ^ 5 = 100000 from by decide] at v1
      have g2 : N' 13 2 = j := z.1.2.2.2.2.2.1
      unfold zl_num at e
      refine rg_255_7 (d + 1) (kn_good1 (d + 1) z.1 (z_y1 (kn_seesDigit d z.1 (fun hd2 => z_y1 ?_) (fun hd2 => z_n1 ?_))))
      · rw [if_pos hd2] at e
        rw [g2, z_w_id (x := i + 5) (by omega) (by omega)]
        refine ⟨fun c => absurd (by omega) c, fun _ => kn_wrongs (d + 1) z.1 (by decide) (by omega) (fun N2 m2 s2 => kn_here (d + 1) s2 (z_viI ?_))⟩
        rw [zm_f0, show -1000 * 2 - j = -2000 - j from by omega] at s2
        have g3 : N2 13 2 = j := s2.2.2.2.2.2.1
        rw [g3, z_w_id (x := j + 1) (by omega) (by omega)]
        have s3 := zm_st_pl (i' := j + 1) s2 (by omega) (by omega)
        exact rg_255_7 (d + 1) (kn_good0 (d + 1) (by omega) s3 (z_n1 (h0 _ _ _ e.symm (zn_bad z (zm_mv_tr m2 (zm_mv_up (Or.inl rfl))) (by omega) s3))))
      · rw [if_neg hd2] at e
        exact h1 v j N' e.symm (by omega) z
    | succ k ih =>
      intro x v j N' hk ij v0 v1 z e
      have g2 : N' 13 2 = j := z.1.2.2.2.2.2.1
      have hp10 : (10 : Int) ^ x ≤ 10000 := by
        have : x = 0 ∨ x = 1 ∨ x = 2 ∨ x = 3 ∨ x = 4 := by omega
        rcases this with rfl | rfl | rfl | rfl | rfl <;> decide
      unfold zl_num at e
      refine rg_255_7 (d + 1) (kn_good1 (d + 1) z.1 (z_y1 (kn_seesDigit d z.1 (fun hd2 => z_y1 ?_) (fun hd2 => z_n1 ?_))))
      · rw [if_pos hd2] at e
        rw [g2, z_w_id (x := i + 5) (by omega) (by omega)]
        refine ⟨fun _ => kn_here (d + 1) z.1 (z_viI ?_), fun c => absurd c (by omega)⟩
        rw [zm_hd hd2, g2, z_w_id (x := 10 * v) (by omega) (by omega), z_w_id (x := 10 * v + q j) (by omega) (by omega), z_w_id (x := 10 * v + q j - 48) (by omega) (by omega), z_w_id (x := j + 1) (by omega) (by omega), show 10 * v + q j - 48 = 10 * v + (q j - 48) from by omega]
        refine ih (x + 1) _ (j + 1) _ (by omega) (by omega) (by omega) ?_ (zn_mv z (zm_mv_up (Or.inl rfl)) (zm_st_pl z.1 (by omega) (by omega))) e
        rw [Int.pow_succ]
        omega
      · rw [if_neg hd2] at e
        by_cases zz : x = 0
        · exfalso
          rw [zz] at ij
          rw [show j = i from by omega] at hd2
          exact hd2 hd
        · exact h1 v j N' e.symm (by omega) z
  refine re_255 (d + 1) ?_
  rw [f2]
  exact key 5 0 0 i N (by decide) (by omega) (by decide) (by decide) h hW
theorem kn_isValue (d : Nat) {c : Int} (h1 : zl_nx c ≠ -1 → Q (z_I 1) N) (h0 : zl_nx c = -1 → Q (z_I 0) N) : z_Cl 0 d 259 [z_I c] N Q := by
  have y : (c = 116 ∨ c = 113 ∨ c = 117 ∨ c = 112 ∨ c = 120 ∨ c = 121) → Q (z_I 1) N := fun hc => h1 (by
    unfold zl_nx
    rcases hc with rfl | rfl | rfl | rfl | rfl | rfl <;> decide)
  refine re_259 d ⟨fun _ => y (by omega), fun _ => ⟨fun _ => y (by omega), fun _ => ⟨fun _ => y (by omega), fun _ => ⟨fun _ => y (by omega), fun _ => ⟨fun _ => y (by omega), fun _ => ⟨fun _ => h0 ?_, fun _ => y (by omega)⟩⟩⟩⟩⟩⟩
  unfold zl_nx
  rw [if_neg (by omega), if_neg (by omega), if_neg (by omega), if_neg (by omega), if_neg (by omega), if_neg (by omega)]
end ZLN
