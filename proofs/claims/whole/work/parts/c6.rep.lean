/-! REPORTS: their text, the model's line -/
section ZRM
variable {S M N : z_M} {Q : z_V → z_M → Prop} {q : Int → Int} {n i : Int}
abbrev zp_pl (S N : z_M) : Prop := ∀ w : Int, 0 ≤ w → w < 30 → N 304067 w = S 304067 w ∧ (S 304067 w = 0 ∨ S 304067 w = 1)
theorem kn_isTold (d : Nat) {p : Int} (hB : zp_pl S N) (h1 : z_tl S p → Q (z_I 1) N) (h0 : ¬ z_tl S p → Q (z_I 0) N) : z_Cl 0 (d + 1) 250 [z_R 13, z_I p] N Q := by
  refine re_250 d (km_lies d (fun a b => z_viI ⟨fun c => absurd c (by decide), fun _ => ?_⟩) (fun a => z_viI ⟨fun _ => h0 (fun q => by have := q.1; have := q.2.1; omega), fun c => absurd rfl c⟩))
  rw [z_w_id (by omega) (by omega), (hB (3 * p) (by omega) (by omega)).1]
  have hp := (hB (3 * p) (by omega) (by omega)).2
  exact ⟨by omega, by omega, fun c => h0 (fun r => by have := r.2.2; omega), fun c => h1 ⟨a, by omega, by omega⟩⟩
theorem kn_person (d : Nat) {p : Int} (hB : zp_pl S N) (h : zm_st q n i 0 N) (hi : i < 990) (h1 : ∀ (o : Int) (N' : z_M), zp_oth q (zp_T S) p i = .inr o → 0 ≤ o → o < 10 → zm_mv N N' → zm_st q n (i + 1) 0 N' → Q (z_I o) N') (h0 : ∀ (f v : Int) (N' : z_M), zp_oth q (zp_T S) p i = .inl f → f < 0 → zm_mv N N' → zm_st q n (i + 1) f N' → Q (z_I v) N') : z_Cl 0 (d + 2) 293 [z_R 13, z_I p] N Q := by
  have hp := h.2.2.1
  have e2 : N 13 2 = i := h.2.2.2.2.2.1
  have hb := zm_hb h
  unfold zp_oth at h1 h0
  have fin : ∀ (v f : Int) (N1 : z_M), zm_mv N N1 → zm_st q n i f N1 → (∀ N' : z_M, zm_mv N N' → zm_st q n (i + 1) f N' → Q (z_I v) N') → Q (z_I v) (z_up N1 13 2 (z_w (N1 13 2 + 1))) := by
    intro v f N1 m1 s1 hh
    have e3 : N1 13 2 = i := s1.2.2.2.2.2.1
    rw [e3, z_w_id (by omega) (by omega)]
    exact hh _ (zm_mv_tr m1 (zm_mv_up (Or.inl rfl))) (zm_st_pl s1 (by omega) (by omega))
  refine re_293 (d + 1) (kn_here (d + 1) h (z_viI (kn_seesPerson d h (fun hl => z_y2 ?_) (fun hl => z_n2 (kn_wrongs (d + 1) h (by omega) (by omega) (fun N1 m1 s1 => ?_))))))
  · rw [if_neg (fun z => z hl)] at h1 h0
    have eh : zm_h q i = q i := by unfold zm_h; rw [if_neg (by omega)]
    rw [eh, z_w_id (x := q i - 97) (by omega) (by omega)]
    refine kn_isTold d hB (fun ht => z_y2 ?_) (fun ht => z_n2 (kn_wrongs (d + 1) h (by omega) (by omega) (fun N1 m1 s1 => ?_)))
    · have e : ¬ zp_T S (q i - 97) = false := by rw [(zp_Tt (by omega) (by omega)).mp ht]; decide
      rw [if_neg e] at h1 h0
      refine ⟨fun c => fin _ 0 N zm_mv_rf h (fun N' m' s' => h1 _ N' (if_neg c) (by omega) (by omega) m' s'), fun c => kn_wrongs (d + 1) h (by omega) (by omega) (fun N1 m1 s1 => ?_)⟩
      rw [zm_f0, e2, show -1000 * 6 - i = -6000 - i from by omega] at s1
      exact fin _ _ N1 m1 s1 (fun N' m' s' => h0 _ _ N' (if_pos c) (by omega) m' s')
    · have e : zp_T S (q i - 97) = false := by
        cases e : zp_T S (q i - 97) with
        | false => rfl
        | true => exact absurd ((zp_Tt (by omega) (by omega)).mpr e) ht
      rw [if_pos e] at h0
      rw [zm_f0, e2, show -1000 * 7 - i = -7000 - i from by omega] at s1
      exact fin _ _ N1 m1 s1 (fun N' m' s' => h0 _ _ N' rfl (by omega) m' s')
  · rw [if_pos hl] at h0
    rw [zm_f0, e2, show -1000 * 1 - i = -1000 - i from by omega] at s1
    exact fin _ _ N1 m1 s1 (fun N' m' s' => h0 _ _ N' rfl (by omega) m' s')
theorem kn_cast (d : Nat) (h : zm_st q n i 0 N) (hi : i < 900) (h1 : ∀ (v : Int) (N' : z_M), zp_cst q i = .inr v → 0 ≤ v → v < 80 → zm_mv N N' → zm_st q n (i + 2) 0 N' → Q (z_I v) N') (h0 : ∀ (f v j : Int) (N' : z_M), zp_cst q i = .inl f → f < 0 → i ≤ j → j ≤ i + 2 → zm_mv N N' → zm_st q n j f N' → Q (z_I v) N') : z_Cl 0 (d + 3) 295 [z_R 13] N Q := by
  have hp := h.2.2.1
  have e2 : N 13 2 = i := h.2.2.2.2.2.1
  unfold zp_cst at h1 h0
  refine re_295 (d + 2) (kn_digit d h (by omega) (fun hd N1 m1 s1 => z_viI (kn_good1 (d + 2) s1 (z_y1 ⟨fun c7 => kn_good1 (d + 2) s1 (z_y1 (kn_digit d s1 (by omega) (fun hd2 N2 m2 s2 => z_viI ?_) (fun hd2 v N2 v0 v1 m2 s2 => z_viI ?_))), fun c7 => kn_wrongs (d + 2) s1 (by omega) (by omega) (fun N2 m2 s2 => kn_good0 (d + 2) ?_ s2 (z_n1 ?_))⟩))) (fun hd v N1 v0 v1 m1 s1 => z_viI (kn_good0 (d + 2) (by omega) s1 (z_n1 (kn_good0 (d + 2) (by omega) s1 (z_n1 ?_))))))
  · rw [z_w_id (x := 10 * (q i - 48)) (by omega) (by omega), z_w_id (by omega) (by omega)]
    rw [show i + 1 + 1 = i + 2 from by omega] at s2
    exact h1 _ N2 (by rw [if_neg (fun z => z hd), if_neg (by omega), if_neg (fun z => z hd2)]) (by omega) (by omega) (zm_mv_tr m1 m2) s2
  · exact h0 _ _ (i + 1 + 1) N2 (by rw [if_neg (fun z => z hd), if_neg (by omega), if_pos hd2]) (by omega) (by omega) (by omega) (zm_mv_tr m1 m2) s2
  · rw [zm_f0]; omega
  · rw [zm_f0, e2, show -1000 * 3 - i = -3000 - i from by omega] at s2
    exact h0 _ _ (i + 1) N2 (by rw [if_neg (fun z => z hd), if_pos c7]) (by omega) (by omega) (by omega) (zm_mv_tr m1 m2) s2
  · exact h0 _ _ (i + 1) N1 (if_pos hd) (by omega) (by omega) (by omega) m1 s1
theorem kn_kind (d : Nat) {c : Int} (h1 : zp_kd c → Q (z_I 1) N) (h0 : ¬ zp_kd c → Q (z_I 0) N) : z_Cl 0 d 296 [z_I c] N Q := by
  unfold zp_kd at h1 h0
  exact re_296 d ⟨fun _ => h1 (by omega), fun _ => ⟨fun _ => h1 (by omega), fun _ => ⟨fun _ => h1 (by omega), fun _ => ⟨fun _ => h1 (by omega), fun _ => ⟨fun _ => h1 (by omega), fun _ => ⟨fun _ => h0 (by omega), fun _ => h1 (by omega)⟩⟩⟩⟩⟩⟩
/-- a line is read to its end: what is written -/
def zp_w (N : z_M) (k : Int) (r : Nat → Int) : z_M := z_up (z_up (z_up (z_up (z_up (z_up (z_up N 401092 k (r 0)) 401093 k (r 1)) 401094 k (r 2)) 401095 k (r 3)) 401096 k (r 4)) 401097 k (r 5)) 13 56 (k + 1)
theorem zp_w_n {k : Int} {r : Nat → Int} {a : Nat} (h13 : a ≠ 13) (h0 : a ≠ 401092) (h1 : a ≠ 401093) (h2 : a ≠ 401094) (h3 : a ≠ 401095) (h4 : a ≠ 401096) (h5 : a ≠ 401097) : zp_w N k r a = N a := by
  unfold zp_w
  rw [z_up_ne h13, z_up_ne h5, z_up_ne h4, z_up_ne h3, z_up_ne h2, z_up_ne h1, z_up_ne h0]
theorem zp_w_13 {k : Int} {r : Nat → Int} {j : Int} (h : j ≠ 56) : zp_w N k r 13 j = N 13 j := by
  unfold zp_w
  rw [z_up_nj h, z_up_ne (by decide), z_up_ne (by decide), z_up_ne (by decide), z_up_ne (by decide), z_up_ne (by decide), z_up_ne (by decide)]
theorem zp_w_k {k : Int} {r : Nat → Int} : zp_w N k r 13 56 = k + 1 := z_up_eq
theorem zp_w_6 {k x : Int} {r : Nat → Int} {c : Nat} (hc : c < 6) : zp_w N k r (zy_r6 c) x = if x = k then r c else N (zy_r6 c) x := by
  have hy : c = 0 ∨ c = 1 ∨ c = 2 ∨ c = 3 ∨ c = 4 ∨ c = 5 := by omega
  unfold zp_w
  rcases hy with rfl | rfl | rfl | rfl | rfl | rfl
  all_goals (by_cases e : x = k)
  all_goals (first | rw [if_pos e] | rw [if_neg e])
  all_goals first
    | subst e
      show (_ : z_M) 401092 x = _
      rw [z_up_ne (by decide), z_up_ne (by decide), z_up_ne (by decide), z_up_ne (by decide), z_up_ne (by decide), z_up_ne (by decide), z_up_eq]
    | show (_ : z_M) 401092 x = N 401092 x
      rw [z_up_ne (by decide), z_up_ne (by decide), z_up_ne (by decide), z_up_ne (by decide), z_up_ne (by decide), z_up_ne (by decide), z_up_nj e]
    | subst e
      show (_ : z_M) 401093 x = _
      rw [z_up_ne (by decide), z_up_ne (by decide), z_up_ne (by decide), z_up_ne (by decide), z_up_ne (by decide), z_up_eq]
    | show (_ : z_M) 401093 x = N 401093 x
      rw [z_up_ne (by decide), z_up_ne (by decide), z_up_ne (by decide), z_up_ne (by decide), z_up_ne (by decide), z_up_nj e, z_up_ne (by decide)]
    | subst e
      show (_ : z_M) 401094 x = _
      rw [z_up_ne (by decide), z_up_ne (by decide), z_up_ne (by decide), z_up_ne (by decide), z_up_eq]
    | show (_ : z_M) 401094 x = N 401094 x
      rw [z_up_ne (by decide), z_up_ne (by decide), z_up_ne (by decide), z_up_ne (by decide), z_up_nj e, z_up_ne (by decide), z_up_ne (by decide)]
    | subst e
      show (_ : z_M) 401095 x = _
      rw [z_up_ne (by decide), z_up_ne (by decide), z_up_ne (by decide), z_up_eq]
    | show (_ : z_M) 401095 x = N 401095 x
      rw [z_up_ne (by decide), z_up_ne (by decide), z_up_ne (by decide), z_up_nj e, z_up_ne (by decide), z_up_ne (by decide), z_up_ne (by decide)]
    | subst e
      show (_ : z_M) 401096 x = _
      rw [z_up_ne (by decide), z_up_ne (by decide), z_up_eq]
    | show (_ : z_M) 401096 x = N 401096 x
      rw [z_up_ne (by decide), z_up_ne (by decide), z_up_nj e, z_up_ne (by decide), z_up_ne (by decide), z_up_ne (by decide), z_up_ne (by decide)]
    | subst e
      show (_ : z_M) 401097 x = _
      rw [z_up_ne (by decide), z_up_eq]
    | show (_ : z_M) 401097 x = N 401097 x
      rw [z_up_ne (by decide), z_up_nj e, z_up_ne (by decide), z_up_ne (by decide), z_up_ne (by decide), z_up_ne (by decide), z_up_ne (by decide)]
theorem kn_line (d : Nat) {k : Int} (hB : zp_pl S N) (h : zm_st q n i 0 N) (hi : i ≤ 260) (k0 : 0 ≤ k) (k1 : k ≤ 40) (hk : N 13 56 = k)
    (h1 : ∀ (r : Nat → Int) (j : Int) (N' : z_M), zp_ln q (zp_T S) k i = .inr (r, j) → k < 40 → i < j → j ≤ 300 → zm_mv N N' → zm_st q n j 0 N' → Q z_U (zp_w N' k r))
    (h0 : ∀ (f j : Int) (N' : z_M), zp_ln q (zp_T S) k i = .inl f → f < 0 → 0 ≤ j → j ≤ 300 → zm_mv N N' → zm_st q n j f N' → Q z_U N') : z_Cl 0 (d + 4) 297 [z_R 13] N Q := by
  have hp := h.2.2.1
  have e2 : N 13 2 = i := h.2.2.2.2.2.1
  unfold zp_ln at h1 h0
  -- a fault is there: nothing more
  have bad236 : ∀ (l1 l2 l3 l4 l5 l6 s0 f j : Int) (N1 : z_M), zm_mv N N1 → zm_st q n j f N1 → f ≠ 0 → Q z_U N1 → z_G 0 (d + 4) z_m297 236 [z_R 13, z_I l1, z_I l2, z_I l3, z_I l4, z_I l5, z_I l6, z_U] [z_I s0] N1 Q := fun l1 l2 l3 l4 l5 l6 s0 f j N1 m st f0 hQ =>
    rg_297_236 (d + 3) (kn_good0 (d + 3) f0 st (z_n2 hQ))
  have bad187 : ∀ (l1 l2 l3 l4 l5 s0 f j : Int) (N1 : z_M), zm_mv N N1 → zm_st q n j f N1 → f ≠ 0 → Q z_U N1 → z_G 0 (d + 4) z_m297 187 [z_R 13, z_I l1, z_I l2, z_I l3, z_I l4, z_I l5, z_U, z_U] [z_I s0] N1 Q := fun l1 l2 l3 l4 l5 s0 f j N1 m st f0 hQ =>
    rg_297_187 (d + 3) (kn_good0 (d + 3) f0 st (z_n2 (bad236 _ _ _ _ _ _ _ f j N1 m st f0 hQ)))
  have bad147 : ∀ (l1 l2 l3 l4 l5 f j : Int) (N1 : z_M), 0 ≤ j → j ≤ 290 → f < 0 → zm_mv N N1 → zm_st q n j f N1 → (∀ (j : Int) (N' : z_M), 0 ≤ j → j ≤ 300 → zm_mv N N' → zm_st q n j f N' → Q z_U N') → z_G 0 (d + 4) z_m297 147 [z_R 13, z_I l1, z_I l2, z_I l3, z_I l4, z_I l5, z_U, z_U] [] N1 Q := by
    intro l1 l2 l3 l4 l5 f j N1 j0 j1 f0 m st hQ
    have e3 : N1 13 2 = j := st.2.2.2.2.2.1
    refine rg_297_147 (d + 3) ?_
    rw [e3, z_w_id (by omega) (by omega)]
    have st2 := zm_st_pl (i' := j + 1) st (by omega) (by omega)
    have m2 : zm_mv N (z_up N1 13 2 (j + 1)) := zm_mv_tr m (zm_mv_up (Or.inl rfl))
    generalize z_up N1 13 2 (j + 1) = N2 at st2 m2
    exact kn_good0 (d + 3) (by omega) st2 (z_n1 (rg_297_186 (d + 3) (bad187 _ _ _ _ _ _ f (j + 1) N2 m2 st2 (by omega) (hQ (j + 1) N2 (by omega) (by omega) m2 st2))))
  have bad117 : ∀ (l1 l2 l3 l4 f j : Int) (N1 : z_M), 0 ≤ j → j ≤ 290 → f < 0 → zm_mv N N1 → zm_st q n j f N1 → (∀ (j : Int) (N' : z_M), 0 ≤ j → j ≤ 300 → zm_mv N N' → zm_st q n j f N' → Q z_U N') → z_G 0 (d + 4) z_m297 117 [z_R 13, z_I l1, z_I l2, z_I l3, z_I l4, z_U, z_U, z_U] [] N1 Q := by
    intro l1 l2 l3 l4 f j N1 j0 j1 f0 m st hQ
    exact rg_297_117 (d + 3) (kn_here (d + 3) st (z_viI (kn_good0 (d + 3) (by omega) st (z_n1 (bad147 _ _ _ _ _ f j N1 j0 j1 f0 m st hQ)))))
  have bad82 : ∀ (l1 l2 l3 f j : Int) (N1 : z_M), 0 ≤ j → j ≤ 290 → f < 0 → zm_mv N N1 → zm_st q n j f N1 → (∀ (j : Int) (N' : z_M), 0 ≤ j → j ≤ 300 → zm_mv N N' → zm_st q n j f N' → Q z_U N') → z_G 0 (d + 4) z_m297 82 [z_R 13, z_I l1, z_I l2, z_I l3, z_U, z_U, z_U, z_U] [] N1 Q := by
    intro l1 l2 l3 f j N1 j0 j1 f0 m st hQ
    exact rg_297_82 (d + 3) (kn_good0 (d + 3) (by omega) st (z_n1 (bad117 _ _ _ _ f j N1 j0 j1 f0 m st hQ)))
  have bad62 : ∀ (l1 l2 s0 f j : Int) (N1 : z_M), 0 ≤ j → j ≤ 290 → f < 0 → zm_mv N N1 → zm_st q n j f N1 → (∀ (j : Int) (N' : z_M), 0 ≤ j → j ≤ 300 → zm_mv N N' → zm_st q n j f N' → Q z_U N') → z_G 0 (d + 4) z_m297 62 [z_R 13, z_I l1, z_I l2, z_U, z_U, z_U, z_U, z_U] [z_I s0] N1 Q := by
    intro l1 l2 s0 f j N1 j0 j1 f0 m st hQ
    exact rg_297_62 (d + 3) (kn_good0 (d + 3) (by omega) st (z_n1 (bad82 _ _ _ f j N1 j0 j1 f0 m st hQ)))
  have bad41 : ∀ (s0 f j : Int) (N1 : z_M), 0 ≤ j → j ≤ 290 → f < 0 → zm_mv N N1 → zm_st q n j f N1 → (∀ (j : Int) (N' : z_M), 0 ≤ j → j ≤ 300 → zm_mv N N' → zm_st q n j f N' → Q z_U N') → z_G 0 (d + 4) z_m297 41 [z_R 13, z_U, z_U, z_U, z_U, z_U, z_U, z_U] [z_I s0] N1 Q := by
    intro s0 f j N1 j0 j1 f0 m st hQ
    exact rg_297_41 (d + 3) (kn_good0 (d + 3) (by omega) st (z_n1 (bad62 _ _ _ f j N1 j0 j1 f0 m st hQ)))
  have hBt : ∀ N1 : z_M, zm_mv N N1 → zp_pl S N1 := fun N1 m w a b => by rw [m.1 _ (by decide)]; exact hB w a b
  -- written
  have wr : ∀ (p m s c o t j l2 : Int) (N1 : z_M), k < 40 → zm_mv N N1 → zm_st q n j 0 N1 → Q z_U (zp_w N1 k (zp_row p m s c o t)) → z_G 0 (d + 4) z_m297 236 [z_R 13, z_I p, z_I l2, z_I m, z_I s, z_I c, z_I o, z_U] [z_I t] N1 Q := by
    intro p m s c o t j l2 N1 k40 mv st hQ
    have ek : N1 13 56 = k := by rw [mv.2 _ (by decide) (by decide)]; exact hk
    refine rg_297_236 (d + 3) (kn_good1 (d + 3) st (z_y2 ?_))
    simp only [z_up_ne (show (13 : Nat) ≠ 401092 from by decide), z_up_ne (show (13 : Nat) ≠ 401093 from by decide), z_up_ne (show (13 : Nat) ≠ 401094 from by decide), z_up_ne (show (13 : Nat) ≠ 401095 from by decide), z_up_ne (show (13 : Nat) ≠ 401096 from by decide), z_up_ne (show (13 : Nat) ≠ 401097 from by decide), ek]
    rw [z_w_id (x := k + 1) (by omega) (by omega)]
    exact ⟨k0, k40, k0, k40, k0, k40, k0, k40, k0, k40, k0, k40, hQ⟩
  -- behind the head
  have tail : ∀ (p m s j l2 : Int) (N1 : z_M), k < 40 → 0 ≤ j → i < j → j ≤ 270 → zp_hd q (zp_T S) k i = .inr (p, m, s, j) → zm_mv N N1 → zm_st q n j 0 N1 → z_G 0 (d + 4) z_m297 117 [z_R 13, z_I p, z_I l2, z_I m, z_I s, z_U, z_U, z_U] [] N1 Q := by
    intro p m s j l2 N1 k40 j0 ij j1 e mv st
    rw [e] at h1 h0
    dsimp only at h1 h0
    have e3 : N1 13 2 = j := st.2.2.2.2.2.1
    refine rg_297_117 (d + 3) (kn_here (d + 3) st (z_viI (kn_good1 (d + 3) st (z_y1 (kn_kind (d + 3) (fun kd => z_y2 ?_) (fun kd => z_n2 (kn_wrongs (d + 3) st (by omega) (by omega) (fun N2 m2 s2 => ?_))))))))
    · have kq : zp_kd (q j) ∧ zm_h q j = q j := by
        unfold zm_h at kd ⊢
        unfold zp_kd at kd ⊢
        split at kd
        · omega
        · rename_i z; rw [if_neg z]; exact ⟨kd, rfl⟩
      rw [kq.2]
      have kd := kq.1
      refine rg_297_147 (d + 3) ?_
      rw [e3, z_w_id (by omega) (by omega)]
      have st2 := zm_st_pl (i' := j + 1) st (by omega) (by omega)
      have m2 : zm_mv N (z_up N1 13 2 (j + 1)) := zm_mv_tr mv (zm_mv_up (Or.inl rfl))
      generalize z_up N1 13 2 (j + 1) = N2 at st2 m2
      -- behind the other one
      have mid : ∀ (o j2 : Int) (N3 : z_M), 0 ≤ j2 → i < j2 → j2 ≤ 280 → zp_ta q (zp_T S) p j = zp_of q (q j) o j2 → zm_mv N N3 → zm_st q n j2 0 N3 → z_G 0 (d + 4) z_m297 187 [z_R 13, z_I p, z_I l2, z_I m, z_I s, z_I (q j), z_U, z_U] [z_I o] N3 Q := by
        intro o j2 N3 a0 a1 a2 e4 m3 st3
        rw [e4] at h1 h0
        unfold zp_of at h1 h0
        refine rg_297_187 (d + 3) (kn_good1 (d + 3) st3 (z_y2 ⟨fun c2 => ?_, fun c2 => ?_⟩))
        · rw [if_neg c2] at h1 h0
          have sp : (q j = 105 ∨ q j = 119) → z_G 0 (d + 4) z_m297 228 [z_R 13, z_I p, z_I l2, z_I m, z_I s, z_I (q j), z_I o, z_U] [] N3 Q := by
            intro c5
            rw [if_pos c5] at h1 h0
            refine rg_297_228 (d + 3) (kn_spotTold d st3 (by omega) (fun v N4 e5 v0 v1 m4 st4 => z_viI ?_) (fun f v j4 N4 e5 f0 b0 b1 m4 st4 => z_viI ?_))
            · rw [e5] at h1
              exact wr p m s (q j) o v (j2 + 2) l2 N4 k40 (zm_mv_tr m3 m4) st4 (h1 _ _ N4 rfl k40 (by omega) (by omega) (zm_mv_tr m3 m4) st4)
            · rw [e5] at h0
              exact bad236 _ _ _ _ _ _ _ f j4 N4 (zm_mv_tr m3 m4) st4 (by omega) (h0 f j4 N4 rfl f0 (by omega) (by omega) (zm_mv_tr m3 m4) st4)
          refine ⟨fun c5 => sp (Or.inl c5), fun c5 => ⟨fun c6 => ?_, fun c6 => sp (Or.inr c6)⟩⟩
          rw [if_neg (by omega)] at h1
          exact wr p m s (q j) o (-1) j2 l2 N3 k40 m3 st3 (h1 _ _ N3 rfl k40 a1 (by omega) m3 st3)
        · rw [if_pos c2] at h1 h0
          refine kn_cast d st3 (by omega) (fun v N4 e5 v0 v1 m4 st4 => z_viI ?_) (fun f v j4 N4 e5 f0 b0 b1 m4 st4 => z_viI ?_)
          · rw [e5] at h1
            exact wr p m s (q j) o v (j2 + 2) l2 N4 k40 (zm_mv_tr m3 m4) st4 (h1 _ _ N4 rfl k40 (by omega) (by omega) (zm_mv_tr m3 m4) st4)
          · rw [e5] at h0
            exact bad236 _ _ _ _ _ _ _ f j4 N4 (zm_mv_tr m3 m4) st4 (by omega) (h0 f j4 N4 rfl f0 (by omega) (by omega) (zm_mv_tr m3 m4) st4)
      have alone : (q j = 105 ∨ q j = 102) → z_G 0 (d + 4) z_m297 186 [z_R 13, z_I p, z_I l2, z_I m, z_I s, z_I (q j), z_U, z_U] [] N2 Q := fun c5 =>
        rg_297_186 (d + 3) (mid (-1) (j + 1) N2 (by omega) (by omega) (by omega) (by unfold zp_ta; rw [if_neg (fun z => z kd), if_pos c5]) m2 st2)
      refine kn_good1 (d + 3) st2 (z_y1 ⟨fun c5 => alone (Or.inl c5), fun c5 => ⟨fun c6 => alone (Or.inr c6), fun c6 => ?_⟩⟩)
      have ez : zp_ta q (zp_T S) p j = (match zp_oth q (zp_T S) p (j + 1) with
        | .inl f => .inl f
        | .inr o => zp_of q (q j) o (j + 2)) := by
        unfold zp_ta; rw [if_neg (fun z => z kd), if_neg (by omega)]
        cases zp_oth q (zp_T S) p (j + 1) <;> rfl
      refine kn_person (d + 1) (hBt N2 m2) st2 (by omega) (fun o N3 e4 o0 o1 m3 st3 => z_viI (mid o (j + 2) N3 (by omega) (by omega) (by omega) (by rw [ez, e4]) (zm_mv_tr m2 m3) (by rw [show j + 2 = j + 1 + 1 from by omega]; exact st3))) (fun f v N3 e4 f0 m3 st3 => z_viI ?_)
      rw [ez, e4] at h0
      exact bad187 _ _ _ _ _ _ f (j + 1 + 1) N3 (zm_mv_tr m2 m3) st3 (by omega) (h0 f (j + 1 + 1) N3 rfl f0 (by omega) (by omega) (zm_mv_tr m2 m3) st3)
    · have kq : ¬ zp_kd (q j) := by
        intro z
        apply kd
        unfold zm_h
        unfold zp_kd at z ⊢
        rw [if_neg (by omega)]; exact z
      rw [zm_f0, e3, show -1000 * 1 - j = -1000 - j from by omega] at s2
      have ez : zp_ta q (zp_T S) p j = .inl (-1000 - j) := if_pos kq
      rw [ez] at h0
      exact bad147 _ _ _ _ _ _ j N2 j0 (by omega) (by omega) (zm_mv_tr mv m2) s2 (fun j' N' a b m' s' => h0 _ j' N' rfl (by omega) a b m' s')
  -- the head's faults
  have hb0 : ∀ f : Int, zp_hd q (zp_T S) k i = .inl f → f < 0 → ∀ (j : Int) (N' : z_M), 0 ≤ j → j ≤ 300 → zm_mv N N' → zm_st q n j f N' → Q z_U N' := by
    intro f e f0 j N' a b m' s'
    rw [e] at h0
    exact h0 f j N' rfl f0 a b m' s'
  unfold zp_hd at hb0 tail
  have start : (zr_l q i → k < 40) → z_G 0 (d + 4) z_m297 25 [z_R 13, z_U, z_U, z_U, z_U, z_U, z_U, z_U] [] N Q := by
    intro k40
    refine rg_297_25 (d + 3) (kn_good1 (d + 3) h (z_y1 (kn_person (d + 1) hB h (by omega) (fun p N1 e1 p0 p1 m1 s1 => z_viI ?_) (fun f v N1 e1 f0 m1 s1 => z_viI ?_))))
    · have hl : zr_l q i ∧ p = q i - 97 ∧ ¬ zp_T S (q i - 97) = false := by
        unfold zp_oth at e1
        split at e1
        · cases e1
        · rename_i z
          split at e1
          · cases e1
          · rename_i z2
            split at e1
            · cases e1
            · exact ⟨Decidable.not_not.mp z, (Sum.inr.inj e1).symm, z2⟩
      obtain ⟨hl, ep, et⟩ := hl
      have k40 := k40 hl
      rw [if_neg (fun z => z hl), if_neg (by omega), if_neg et] at hb0 tail
      have e3 : N1 13 2 = i + 1 := s1.2.2.2.2.2.1
      refine rg_297_41 (d + 3) ?_
      rw [e3]
      refine kn_good1 (d + 3) s1 (z_y1 (kn_number (d + 1) s1 (by omega) (fun hd N2 m2 s2 => z_viI ?_) (fun hd N2 m2 s2 => z_viI ?_)))
      · have hb : 0 ≤ (zm_nb q (i + 1)).1 ∧ i + 1 < (zm_nb q (i + 1)).2 ∧ (zm_nb q (i + 1)).2 ≤ i + 3 := by
          unfold zm_nb
          split <;> dsimp only <;> omega
        have emn : zr_mn q (i + 1) = if (zm_nb q (i + 1)).1 < 96 then .inr ((zm_nb q (i + 1)).1, (zm_nb q (i + 1)).2) else .inl (-2000 - (i + 1)) := by
          unfold zr_mn zm_nb
          rw [if_pos hd]
          by_cases h4 : zr_d q (i + 1 + 1)
          · rw [if_pos h4, if_pos h4]
          · rw [if_neg h4, if_neg h4, if_pos (by dsimp only; omega)]
        generalize zm_nb q (i + 1) = nb at hb emn s2
        obtain ⟨mm, j⟩ := nb
        dsimp only at hb emn s2 ⊢
        have m12 := zm_mv_tr m1 m2
        refine rg_297_62 (d + 3) (kn_good1 (d + 3) s2 (z_y1 ⟨fun c5 => ?_, fun c5 => kn_wrongs (d + 3) s2 (by omega) (by omega) (fun N3 m3 s3 => ?_)⟩))
        · rw [if_pos c5] at emn
          rw [emn] at hb0 tail
          dsimp only at hb0 tail
          have e4 : N2 13 2 = j := s2.2.2.2.2.2.1
          refine rg_297_82 (d + 3) (kn_good1 (d + 3) s2 (z_y1 (kn_here (d + 3) s2 (z_viI ⟨fun c6 => ?_, fun c6 => ?_⟩))))
          · have c7 : ¬ q j = 126 := fun z => c6 ((zm_h_s (by decide)).mpr z)
            rw [if_neg c7] at tail
            rw [ep]
            exact tail _ _ 0 j _ N2 k40 (by omega) (by omega) (by omega) rfl m12 s2
          · rw [zm_h_s (by decide)] at c6
            rw [if_pos c6] at tail hb0
            rw [e4, z_w_id (by omega) (by omega)]
            have s3 := zm_st_pl (i' := j + 1) s2 (by omega) (by omega)
            have m3 : zm_mv N (z_up N2 13 2 (j + 1)) := zm_mv_tr m12 (zm_mv_up (Or.inl rfl))
            generalize z_up N2 13 2 (j + 1) = N3 at s3 m3
            refine kn_digit (d + 1) s3 (by omega) (fun hd2 N4 m4 s4 => z_viI ?_) (fun hd2 v N4 v0 v1 m4 s4 => z_viI ?_)
            · rw [if_pos hd2] at tail
              rw [show j + 1 + 1 = j + 2 from by omega] at s4
              rw [ep]
              exact tail _ _ _ (j + 2) _ N4 k40 (by omega) (by omega) (by omega) rfl (zm_mv_tr m3 m4) s4
            · exact bad117 _ _ _ _ _ (j + 1 + 1) N4 (by omega) (by omega) (by omega) (zm_mv_tr m3 m4) s4 (hb0 _ (if_neg hd2) (by omega))
        · rw [zm_f0, show -1000 * 2 - (i + 1) = -2000 - (i + 1) from by omega] at s3
          rw [if_neg (by omega)] at emn
          exact bad82 _ _ _ _ j N3 (by omega) (by omega) (by omega) (zm_mv_tr m12 m3) s3 (hb0 _ (by rw [emn]) (by omega))
      · have emn : zr_mn q (i + 1) = .inl (-1000 - (i + 1)) := if_neg hd
        exact bad62 _ _ _ _ (i + 1) N2 (by omega) (by omega) (by omega) (zm_mv_tr m1 m2) s2 (hb0 _ (by rw [emn]) (by omega))
    · refine bad41 _ f (i + 1) N1 (by omega) (by omega) f0 m1 s1 (hb0 f ?_ f0)
      unfold zp_oth at e1
      by_cases hl : zr_l q i
      · have := k40 hl
        rw [if_neg (fun z => z hl)] at e1 ⊢
        rw [if_neg (by omega)]
        by_cases et : zp_T S (q i - 97) = false
        · rw [if_pos et] at e1 ⊢; exact congrArg Sum.inl (Sum.inl.inj e1)
        · rw [if_neg et, if_neg (by omega)] at e1; cases e1
      · rw [if_pos hl] at e1 ⊢; exact congrArg Sum.inl (Sum.inl.inj e1)
  refine re_297 (d + 3) (kn_seesPerson (d + 2) h (fun hl => z_y1 ?_) (fun hl => z_n1 (start (fun z => absurd z hl))))
  rw [hk]
  refine ⟨fun c => start (fun _ => by omega), fun c => kn_wrongs (d + 3) h (by omega) (by omega) (fun N1 m1 s1 => ?_)⟩
  rw [zm_f0, e2, show -1000 * 4 - i = -4000 - i from by omega] at s1
  rw [if_neg (fun z => z hl), if_pos c] at hb0
  exact rg_297_25 (d + 3) (kn_good0 (d + 3) (by omega) s1 (z_n1 (bad41 _ _ i N1 (by omega) (by omega) (by omega) m1 s1 (hb0 _ rfl (by omega)))))
end ZRM
