/-! LAW: the model's small steps -/
section ZLM
variable {N N0 : z_M} {Q : z_V → z_M → Prop} {q : Int → Int} {n i D p : Int} {S : List Int} {E : List (Int × Int)}
/-- the stack, its top first -/
def zn_sk (N : z_M) : List Int → Prop
  | [] => True
  | x :: r => N 2401088 (r.length : Int) = x ∧ zn_sk N r
theorem zn_sk_cg {N' : z_M} : ∀ (l : List Int), (∀ x : Int, 0 ≤ x → x < (l.length : Int) → N' 2401088 x = N 2401088 x) → zn_sk N l → zn_sk N' l := by
  intro l
  induction l with
  | nil => intro _ _; exact trivial
  | cons x r ih =>
    intro h g
    have hl : (((x :: r).length : Nat) : Int) = (r.length : Int) + 1 := by rw [List.length_cons]; omega
    exact ⟨(h _ (by omega) (by omega)).trans g.1, ih (fun y a b => h y a (by omega)) g.2⟩
/-- what is emitted behind p -/
def zn_E (p : Int) (E : List (Int × Int)) (N : z_M) : Prop := N 13 6 = p + (E.length : Int) ∧ zl_at (N 2401086) p (E.map (fun z => z.1)) ∧ zl_at (N 2401087) p (E.map (fun z => z.2))
/-- what stays while a law is read -/
def zn_fm (p : Int) (N0 N : z_M) : Prop := zc_c N0 N ∧ (∀ x : Int, x < p → N 2401086 x = N0 2401086 x ∧ N 2401087 x = N0 2401087 x) ∧ N 161082 = N0 161082 ∧ N 161083 = N0 161083 ∧ N 161084 = N0 161084 ∧ N 161085 = N0 161085 ∧ N 13 5 = N0 13 5 ∧ N 13 37 = 0 ∧ N 13 36 = N0 13 36
def zn (q : Int → Int) (n i D : Int) (S : List Int) (E : List (Int × Int)) (p : Int) (N0 N : z_M) : Prop := zm_st q n i 0 N ∧ N 13 7 = D ∧ N 13 8 = (S.length : Int) ∧ zn_sk N S ∧ zn_E p E N ∧ zn_fm p N0 N
/-- a fault while a law is read -/
def zn_b (q : Int → Int) (n x : Int) (N0 N : z_M) : Prop := x < 0 ∧ (∃ j : Int, zm_st q n j x N) ∧ zc_c N0 N ∧ N 13 5 = N0 13 5
/-- only places of object 13 that the reading has -/
theorem zn_of {N' : z_M} {i' D' : Int} (h : zn q n i D S E p N0 N) (hs : zm_st q n i' 0 N') (hD : N' 13 7 = D') (hk : ∀ k, k ≠ 13 → N' k = N k) (h8 : N' 13 8 = N 13 8) (h6 : N' 13 6 = N 13 6) (h5 : N' 13 5 = N 13 5) (h37 : N' 13 37 = N 13 37) (h36 : N' 13 36 = N 13 36) (hc : ∀ j, z_cor 13 j = true → N' 13 j = N 13 j) : zn q n i' D' S E p N0 N' := by
  obtain ⟨_, _, b, c, ⟨d1, d2, d3⟩, e1, e2, e3, e4, e5, e6, e7⟩ := h
  refine ⟨hs, hD, h8.trans b, zn_sk_cg S (fun x _ _ => by rw [hk _ (by decide)]) c, ⟨h6.trans d1, by rw [hk _ (by decide)]; exact d2, by rw [hk _ (by decide)]; exact d3⟩, zc_tr e1 ⟨fun k j hh => ?_, fun k hh => hk k (fun z => by rw [z] at hh; cases hh)⟩, fun x hx => by rw [hk _ (by decide), hk _ (by decide)]; exact e2 x hx, by rw [hk _ (by decide)]; exact e3, by rw [hk _ (by decide)]; exact e4, by rw [hk _ (by decide)]; exact e5, by rw [hk _ (by decide)]; exact e6, h5.trans e7.1, h37.trans e7.2.1, h36.trans e7.2.2⟩
  by_cases z : k = 13
  · subst z; exact hc j hh
  · exact congrFun (hk k z) j
theorem zn_mv {N' : z_M} {i' : Int} (h : zn q n i D S E p N0 N) (m : zm_mv N N') (hs : zm_st q n i' 0 N') : zn q n i' D S E p N0 N' :=
  zn_of h hs (by rw [m.2 _ (by decide) (by decide)]; exact h.2.1) m.1 (m.2 _ (by decide) (by decide)) (m.2 _ (by decide) (by decide)) (m.2 _ (by decide) (by decide)) (m.2 _ (by decide) (by decide)) (m.2 _ (by decide) (by decide)) (fun j hj => m.2 j (fun z => by rw [z] at hj; cases hj) (fun z => by rw [z] at hj; cases hj))
theorem zn_bad {N' : z_M} {x j : Int} (h : zn q n i D S E p N0 N) (m : zm_mv N N') (hx : x < 0) (hs : zm_st q n j x N') : zn_b q n x N0 N' :=
  ⟨hx, ⟨j, hs⟩, zc_tr h.2.2.2.2.2.1 (zc_mm m), by rw [m.2 _ (by decide) (by decide)]; exact h.2.2.2.2.2.2.2.2.2.2.2.1⟩
theorem kn_top (d : Nat) (h : zn q n i D S E p N0 N) (hS : (S.length : Int) ≤ 240) (hQ : Q (z_I (S.headD 0)) N) : z_Cl 0 d 252 [z_R 13] N Q := by
  have e8 : N 13 8 = (S.length : Int) := h.2.2.1
  refine re_252 d ?_
  rw [e8]
  have hk := h.2.2.2.1
  clear h e8
  cases S with
  | nil => exact ⟨fun _ => hQ, fun c => absurd c (by simp only [List.length_nil]; omega)⟩
  | cons x r =>
    have hl : (((x :: r).length : Nat) : Int) = (r.length : Int) + 1 := by rw [List.length_cons]; omega
    rw [hl] at hS ⊢
    rw [z_w_id (x := (r.length : Int) + 1 - 1) (by omega) (by omega), show (r.length : Int) + 1 - 1 = (r.length : Int) from by omega, show N 2401088 (r.length : Int) = x from hk.1]
    exact ⟨fun c => absurd c (by omega), fun _ => ⟨by omega, by omega, hQ⟩⟩
theorem zn_pop {x : Int} (h : zn q n i D (x :: S) E p N0 N) : zn q n i D S E p N0 (z_up N 13 8 (S.length : Int)) := by
  obtain ⟨a0, a, b, c, ⟨d1, d2, d3⟩, e1, e2, e3, e4, e5, e6, e7⟩ := h
  refine ⟨zm_st_of a0 ⟨z_up_nj (by decide), z_up_nj (by decide), z_up_nj (by decide)⟩ (z_up_ne (by decide)), by rw [z_up_nj (by decide)]; exact a, z_up_eq, zn_sk_cg S (fun x _ _ => by rw [z_up_ne (by decide)]) c.2, ⟨by rw [z_up_nj (by decide)]; exact d1, by rw [z_up_ne (by decide)]; exact d2, by rw [z_up_ne (by decide)]; exact d3⟩, zc_tr e1 (zc_up rfl rfl), fun x hx => by rw [z_up_ne (by decide), z_up_ne (by decide)]; exact e2 x hx, by rw [z_up_ne (by decide)]; exact e3, by rw [z_up_ne (by decide)]; exact e4, by rw [z_up_ne (by decide)]; exact e5, by rw [z_up_ne (by decide)]; exact e6, by rw [z_up_nj (by decide)]; exact e7.1, by rw [z_up_nj (by decide)]; exact e7.2.1, by rw [z_up_nj (by decide)]; exact e7.2.2⟩
theorem kn_emit (d : Nat) {c a : Int} (h : zn q n i D S E p N0 N) (h0 : 0 ≤ p) (h1 : p + (E.length : Int) < 240) (hQ : ∀ N' : z_M, zn q n i D S (E ++ [(c, a)]) p N0 N' → Q z_U N') : z_Cl 0 (d + 1) 251 [z_R 13, z_I c, z_I a] N Q := by
  obtain ⟨a0, a1, b, cc, ⟨d1, d2, d3⟩, e1, e2, e3, e4, e5, e6, e7⟩ := h
  have f6 : N 13 6 = p + (E.length : Int) := d1
  have g1 : (z_up N 2401086 (p + (E.length : Int)) c) 13 6 = p + (E.length : Int) := by rw [z_up_ne (by decide)]; exact f6
  have g2 : (z_up (z_up N 2401086 (p + (E.length : Int)) c) 2401087 (p + (E.length : Int)) a) 13 6 = p + (E.length : Int) := by rw [z_up_ne (by decide)]; exact g1
  refine re_251 d (kn_good1 d a0 (z_y2 ?_))
  rw [f6, g1, g2, z_w_id (x := p + (E.length : Int) + 1) (by omega) (by omega)]
  refine ⟨by omega, h1, by omega, h1, hQ _ ⟨zm_st_of a0 ⟨by rw [z_up_nj (by decide), z_up_ne (by decide), z_up_ne (by decide)], by rw [z_up_nj (by decide), z_up_ne (by decide), z_up_ne (by decide)], by rw [z_up_nj (by decide), z_up_ne (by decide), z_up_ne (by decide)]⟩ (by rw [z_up_ne (by decide), z_up_ne (by decide), z_up_ne (by decide)]), by rw [z_up_nj (by decide), z_up_ne (by decide), z_up_ne (by decide)]; exact a1, by rw [z_up_nj (by decide), z_up_ne (by decide), z_up_ne (by decide)]; exact b, zn_sk_cg S (fun x _ _ => by rw [z_up_ne (by decide), z_up_ne (by decide), z_up_ne (by decide)]) cc, ⟨?_, ?_, ?_⟩, zc_tr e1 (zc_tr (zc_up rfl rfl) (zc_tr (zc_up rfl rfl) (zc_up rfl rfl))), fun x hx => ?_, by rw [z_up_ne (by decide), z_up_ne (by decide), z_up_ne (by decide)]; exact e3, by rw [z_up_ne (by decide), z_up_ne (by decide), z_up_ne (by decide)]; exact e4, by rw [z_up_ne (by decide), z_up_ne (by decide), z_up_ne (by decide)]; exact e5, by rw [z_up_ne (by decide), z_up_ne (by decide), z_up_ne (by decide)]; exact e6, by rw [z_up_nj (by decide), z_up_ne (by decide), z_up_ne (by decide)]; exact e7.1, by rw [z_up_nj (by decide), z_up_ne (by decide), z_up_ne (by decide)]; exact e7.2.1, by rw [z_up_nj (by decide), z_up_ne (by decide), z_up_ne (by decide)]; exact e7.2.2⟩⟩
  · rw [z_up_eq]; simp only [List.length_append, List.length_cons, List.length_nil]; omega
  · rw [z_up_ne (by decide), z_up_ne (by decide), List.map_append, zl_at_app, List.length_map]
    exact ⟨zl_at_cg _ p (fun x a b => z_up_nj (by rw [List.length_map] at b; omega)) d2, z_up_eq, trivial⟩
  · rw [z_up_ne (by decide), List.map_append, zl_at_app, List.length_map]
    exact ⟨zl_at_cg _ p (fun x a b => by rw [z_up_nj (by rw [List.length_map] at b; omega), z_up_ne (by decide)]) d3, z_up_eq, trivial⟩
  · rw [z_up_ne (by decide), z_up_ne (by decide), z_up_nj (by omega), z_up_ne (by decide), z_up_nj (by omega), z_up_ne (by decide)]
    exact e2 x hx
theorem kn_puts (d : Nat) {c : Int} (h : zn q n i D S E p N0 N) (hS : (S.length : Int) < 240) (hi : i < 900) (hQ : ∀ N' : z_M, zn q n (i + 1) D (c :: S) E p N0 N' → Q z_U N') : z_Cl 0 d 253 [z_R 13, z_I c] N Q := by
  obtain ⟨a0, a1, b, cc, ⟨d1, d2, d3⟩, e1, e2, e3, e4, e5, e6, e7⟩ := h
  have f8 : N 13 8 = (S.length : Int) := b
  have f2 : N 13 2 = i := a0.2.2.2.2.2.1
  have hi0 := a0.2.2.1
  have g1 : (z_up N 2401088 (S.length : Int) c) 13 8 = (S.length : Int) := by rw [z_up_ne (by decide)]; exact f8
  have g2 : (z_up (z_up N 2401088 (S.length : Int) c) 13 8 ((S.length : Int) + 1)) 13 2 = i := by rw [z_up_nj (by decide), z_up_ne (by decide)]; exact f2
  refine re_253 d ?_
  rw [f8, g1, z_w_id (x := (S.length : Int) + 1) (by omega) (by omega), g2, z_w_id (x := i + 1) (by omega) (by omega)]
  refine ⟨by omega, hS, hQ _ ⟨zm_st_pl (zm_st_of a0 ⟨by rw [z_up_nj (by decide), z_up_ne (by decide)], by rw [z_up_nj (by decide), z_up_ne (by decide)], by rw [z_up_nj (by decide), z_up_ne (by decide)]⟩ (by rw [z_up_ne (by decide), z_up_ne (by decide)])) (by omega) (by omega), by rw [z_up_nj (by decide), z_up_nj (by decide), z_up_ne (by decide)]; exact a1, ?_, ⟨?_, zn_sk_cg S (fun x a b => ?_) cc⟩, ⟨by rw [z_up_nj (by decide), z_up_nj (by decide), z_up_ne (by decide)]; exact d1, by rw [z_up_ne (by decide), z_up_ne (by decide), z_up_ne (by decide)]; exact d2, by rw [z_up_ne (by decide), z_up_ne (by decide), z_up_ne (by decide)]; exact d3⟩, zc_tr e1 (zc_tr (zc_up rfl rfl) (zc_tr (zc_up rfl rfl) (zc_up rfl rfl))), fun x hx => ?_, by rw [z_up_ne (by decide), z_up_ne (by decide), z_up_ne (by decide)]; exact e3, by rw [z_up_ne (by decide), z_up_ne (by decide), z_up_ne (by decide)]; exact e4, by rw [z_up_ne (by decide), z_up_ne (by decide), z_up_ne (by decide)]; exact e5, by rw [z_up_ne (by decide), z_up_ne (by decide), z_up_ne (by decide)]; exact e6, by rw [z_up_nj (by decide), z_up_nj (by decide), z_up_ne (by decide)]; exact e7.1, by rw [z_up_nj (by decide), z_up_nj (by decide), z_up_ne (by decide)]; exact e7.2.1, by rw [z_up_nj (by decide), z_up_nj (by decide), z_up_ne (by decide)]; exact e7.2.2⟩⟩
  · rw [z_up_nj (by decide), z_up_eq, List.length_cons]; omega
  · rw [z_up_ne (by decide), z_up_ne (by decide), z_up_eq]
  · rw [z_up_ne (by decide), z_up_ne (by decide), z_up_nj (by omega)]
  · rw [z_up_ne (by decide), z_up_ne (by decide), z_up_ne (by decide), z_up_ne (by decide), z_up_ne (by decide), z_up_ne (by decide)]
    exact e2 x hx
theorem kn_opens (d : Nat) (h : zn q n i D S E p N0 N) (hS : (S.length : Int) < 240) (hi : i < 900) (D0 : 0 ≤ D) (D6 : D ≤ 6) (h1 : D < 6 → ∀ N' : z_M, zn q n (i + 1) (D + 1) (zm_h q i :: S) E p N0 N' → Q z_U N') (h0 : D = 6 → ∀ N' : z_M, zn_b q n (-5000 - i) N0 N' → Q z_U N') : z_Cl 0 (d + 1) 254 [z_R 13] N Q := by
  have f7 : N 13 7 = D := h.2.1
  have f2 : N 13 2 = i := h.1.2.2.2.2.2.1
  have hi0 := h.1.2.2.1
  refine re_254 d ?_
  rw [f7, f2, z_w_id (x := D + 1) (by omega) (by omega)]
  refine ⟨fun c => ?_, fun c => kn_wrongs d h.1 (by decide) (by omega) (fun N1 m1 s1 => ?_)⟩
  · have z : zn q n i (D + 1) S E p N0 (z_up N 13 7 (D + 1)) := zn_of h (zm_st_of h.1 ⟨z_up_nj (by decide), z_up_nj (by decide), z_up_nj (by decide)⟩ (z_up_ne (by decide))) z_up_eq (fun k hk => z_up_ne hk) (z_up_nj (by decide)) (z_up_nj (by decide)) (z_up_nj (by decide)) (z_up_nj (by decide)) (z_up_nj (by decide)) (fun j hj => z_up_nj (fun y => by rw [y] at hj; cases hj))
    exact kn_here d z.1 (z_viI (kn_puts d z hS hi (fun N' z' => h1 (by omega) N' z')))
  · rw [zm_f0, show -1000 * 5 - i = -5000 - i from by omega] at s1
    have g7 : N1 13 7 = D := by rw [m1.2 _ (by decide) (by decide)]; exact f7
    rw [g7, z_w_id (x := D + 1) (by omega) (by omega)]
    have s2 : zm_st q n i (-5000 - i) (z_up N1 13 7 (D + 1)) := zm_st_of s1 ⟨z_up_nj (by decide), z_up_nj (by decide), z_up_nj (by decide)⟩ (z_up_ne (by decide))
    refine kn_here d s2 (z_viI (re_253 d ?_))
    have f8 : (z_up N1 13 7 (D + 1)) 13 8 = (S.length : Int) := by rw [z_up_nj (by decide), m1.2 _ (by decide) (by decide)]; exact h.2.2.1
    have g1 : ∀ x : Int, (z_up (z_up N1 13 7 (D + 1)) 2401088 (S.length : Int) x) 13 8 = (S.length : Int) := fun x => by rw [z_up_ne (by decide)]; exact f8
    have g2 : ∀ x : Int, (z_up (z_up (z_up N1 13 7 (D + 1)) 2401088 (S.length : Int) x) 13 8 ((S.length : Int) + 1)) 13 2 = i := fun x => by rw [z_up_nj (by decide), z_up_ne (by decide), z_up_nj (by decide)]; exact s1.2.2.2.2.2.1
    rw [f8, g1, z_w_id (x := (S.length : Int) + 1) (by omega) (by omega), g2, z_w_id (x := i + 1) (by omega) (by omega)]
    refine ⟨by omega, hS, h0 c _ ⟨by omega, ⟨i + 1, zm_st_pl (zm_st_of s2 ⟨by rw [z_up_nj (by decide), z_up_ne (by decide)], by rw [z_up_nj (by decide), z_up_ne (by decide)], by rw [z_up_nj (by decide), z_up_ne (by decide)]⟩ (by rw [z_up_ne (by decide), z_up_ne (by decide)])) (by omega) (by omega)⟩, zc_tr h.2.2.2.2.2.1 (zc_tr (zc_mm m1) (zc_tr (zc_up rfl rfl) (zc_tr (zc_up rfl rfl) (zc_tr (zc_up rfl rfl) (zc_up rfl rfl))))), ?_⟩⟩
    rw [z_up_nj (by decide), z_up_nj (by decide), z_up_ne (by decide), z_up_nj (by decide), m1.2 _ (by decide) (by decide)]
    exact h.2.2.2.2.2.2.2.2.2.2.2.1
/-! popped ops are emitted -/
abbrev zn_t (c : Int) : Prop := c = 42 ∨ c = 47 ∨ c = 37
abbrev zn_p (c : Int) : Prop := c = 43 ∨ c = 45
def zn_ops (P : List Int) : List (Int × Int) := P.map (fun c => (c, 0))
theorem kn_isTimes (d : Nat) {c : Int} (h1 : zn_t c → Q (z_I 1) N) (h0 : ¬ zn_t c → Q (z_I 0) N) : z_Cl 0 d 256 [z_I c] N Q := by
  unfold zn_t at h1 h0
  exact re_256 d ⟨fun _ => h1 (by omega), fun _ => ⟨fun _ => h1 (by omega), fun _ => ⟨fun _ => h0 (by omega), fun _ => h1 (by omega)⟩⟩⟩
theorem kn_isPlus (d : Nat) {c : Int} (h1 : zn_p c → Q (z_I 1) N) (h0 : ¬ zn_p c → Q (z_I 0) N) : z_Cl 0 d 257 [z_I c] N Q := by
  unfold zn_p at h1 h0
  exact re_257 d ⟨fun _ => h1 (by omega), fun _ => ⟨fun _ => h0 (by omega), fun _ => h1 (by omega)⟩⟩
theorem kn_sums (d : Nat) {b : Int} {P T : List Int} (hb : b = 0 ∨ b = 1) (hP : ∀ x ∈ P, zn_t x ∨ (b = 1 ∧ zn_p x)) (hT : ¬ zn_t (T.headD 0) ∧ (b = 1 → ¬ zn_p (T.headD 0))) (h : zn q n i D (P ++ T) E p N0 N) (h0 : 0 ≤ p) (hw : p + (E.length : Int) + ((P ++ T).length : Int) ≤ 240) (hQ : ∀ N' : z_M, zn q n i D T (E ++ zn_ops P) p N0 N' → Q z_U N') : z_Cl 0 (d + 2) 260 [z_R 13, z_I b] N Q := by
  have key : ∀ (P : List Int) (E : List (Int × Int)) (N : z_M), (∀ x ∈ P, zn_t x ∨ (b = 1 ∧ zn_p x)) → zn q n i D (P ++ T) E p N0 N → p + (E.length : Int) + ((P ++ T).length : Int) ≤ 240 → (∀ N' : z_M, zn q n i D T (E ++ zn_ops P) p N0 N' → Q z_U N') → z_Cl 0 (d + 1) 252 [z_R 13] N (fun v1 M1 => z_vi v1 fun x1 => z_Cl 0 (d + 1) 256 [z_I x1] M1 (fun v2 M2 => z_vi v2 fun x2 => ((¬ x2 = 0 → z_Cl 0 (d + 1) 252 [z_R 13] M2 (fun v3 M3 => z_vi v3 fun x3 => z_Cl 0 (d + 1) 251 [z_R 13, z_I x3, z_I 0] M3 (fun _ M4 => z_G 0 ((d + 1) + 1) z_m260 0 [z_R 13, z_I b] [] (z_up M4 13 8 (z_w ((M4 13 8) - 1))) Q))) ∧ (x2 = 0 → ((b = 0 → Q z_U M2) ∧ (¬ b = 0 → z_Cl 0 (d + 1) 252 [z_R 13] M2 (fun v5 M5 => z_vi v5 fun x5 => z_Cl 0 (d + 1) 257 [z_I x5] M5 (fun v6 M6 => z_vi v6 fun x6 => ((x6 = 0 → Q z_U M6) ∧ (¬ x6 = 0 → z_Cl 0 (d + 1) 252 [z_R 13] M6 (fun v7 M7 => z_vi v7 fun x7 => z_Cl 0 (d + 1) 251 [z_R 13, z_I x7, z_I 0] M7 (fun _ M8 => z_G 0 ((d + 1) + 1) z_m260 0 [z_R 13, z_I b] [] (z_up M8 13 8 (z_w ((M8 13 8) - 1))) Q)))))))))))) := by
    intro P
    induction P with
    | nil =>
      intro E N _ h hw hQ
      have hq : Q z_U N := hQ N (by rw [show E ++ zn_ops [] = E from List.append_nil E]; exact h)
      have hl : (T.length : Int) ≤ 240 := by simp only [List.nil_append] at hw; omega
      refine (kn_top (d + 1) h (by simp only [List.nil_append]; exact hl) (z_viI (kn_isTimes (d + 1) (fun c => absurd c hT.1) (fun _ => z_n2 ⟨fun _ => hq, fun c => kn_top (d + 1) h (by simp only [List.nil_append]; exact hl) (z_viI (kn_isPlus (d + 1) (fun c2 => absurd c2 (hT.2 (by omega))) (fun _ => z_n1 hq)))⟩))))
    | cons x P ih =>
      intro E N hP h hw hQ
      have hl : (((x :: P) ++ T).length : Int) = ((P ++ T).length : Int) + 1 := by rw [List.cons_append, List.length_cons]; omega
      rw [hl] at hw
      have hl2 : (((x :: P) ++ T).length : Int) ≤ 240 := by omega
      have pop : z_Cl 0 (d + 1) 251 [z_R 13, z_I x, z_I 0] N (fun _ M4 => z_G 0 (d + 2) z_m260 0 [z_R 13, z_I b] [] (z_up M4 13 8 (z_w ((M4 13 8) - 1))) Q) := by
        refine kn_emit d h h0 (by omega) (fun N2 z2 => ?_)
        have e8 : N2 13 8 = ((P ++ T).length : Int) + 1 := by rw [← hl]; exact z2.2.2.1
        rw [e8, z_w_id (x := ((P ++ T).length : Int) + 1 - 1) (by omega) (by omega), show ((P ++ T).length : Int) + 1 - 1 = ((P ++ T).length : Int) from by omega]
        refine rg_260_0 (d + 1) (ih (E ++ [(x, 0)]) _ (fun y hy => hP y (List.mem_cons_of_mem _ hy)) (zn_pop z2) (by simp only [List.length_append, List.length_cons, List.length_nil] at hw ⊢; omega) (fun N' z' => hQ N' ?_))
        rw [show E ++ zn_ops (x :: P) = E ++ [(x, 0)] ++ zn_ops P from by rw [List.append_assoc]; rfl]
        exact z'
      refine (kn_top (d + 1) h hl2 (z_viI (kn_isTimes (d + 1) (fun c => z_y2 (kn_top (d + 1) h hl2 (z_viI pop))) (fun c => z_n2 ⟨fun b0 => ?_, fun b1 => kn_top (d + 1) h hl2 (z_viI (kn_isPlus (d + 1) (fun c2 => z_y1 (kn_top (d + 1) h hl2 (z_viI pop))) (fun c2 => ?_)))⟩))))
      · rcases hP x (List.mem_cons_self) with z | z
        · exact absurd z c
        · omega
      · rcases hP x (List.mem_cons_self) with z | z
        · exact absurd z c
        · exact absurd z.2 c2
  exact re_260 (d + 1) (key P E N hP h hw hQ)
end ZLM
