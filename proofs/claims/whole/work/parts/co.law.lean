/-! LAW: the model's conditions, their steps -/
abbrev zn_KP (d : Nat) (Q : z_V → z_M → Prop) : z_V → z_M → Prop := fun _ M5 => z_Cl 0 (d + 5) 231 [z_R 13] M5 (fun v6 M6 => z_vi v6 fun x6 => ((x6 = 0 → z_G 0 ((d + 5) + 1) z_m268 37 [z_R 13, z_I 1] [] M6 Q) ∧ (¬ x6 = 0 → z_Cl 0 (d + 5) 267 [z_R 13] M6 (fun v7 M7 => z_vi v7 fun x7 => z_G 0 ((d + 5) + 1) z_m268 37 [z_R 13, z_I x7] [] M7 Q))))
abbrev zn_KG (d : Nat) (Q : z_V → z_M → Prop) : z_V → z_M → Prop := fun v3 M3 => z_vi v3 fun x3 => z_G 0 ((d + 5) + 1) z_m268 37 [z_R 13, z_I x3] [] M3 Q
def zn_G (d : Nat) (Q : z_V → z_M → Prop) (N : z_M) : Prop := z_Cl 0 (d + 5) 267 [z_R 13] N (zn_KG d Q)
def zn_P (d : Nat) (Q : z_V → z_M → Prop) (N : z_M) : Prop := z_Cl 0 (d + 4) 231 [z_R 13] N (fun v1 M1 => z_vi v1 fun x1 => ((x1 = 0 → z_G 0 ((d + 4) + 1) z_m266 32 [z_R 13, z_U] [] M1 (zn_KP d Q)) ∧ (¬ x1 = 0 → z_Cl 0 (d + 4) 229 [z_R 13] M1 (fun v2 M2 => z_vi v2 fun x2 => ((x2 = 33 → z_G 0 ((d + 4) + 1) z_m266 25 [z_R 13, z_U] [] M2 (zn_KP d Q)) ∧ (¬ x2 = 33 → z_Cl 0 (d + 4) 229 [z_R 13] M2 (fun v3 M3 => z_vi v3 fun x3 => ((¬ x3 = 40 → z_G 0 ((d + 4) + 1) z_m266 32 [z_R 13, z_U] [] M3 (zn_KP d Q)) ∧ (x3 = 40 → z_G 0 ((d + 4) + 1) z_m266 25 [z_R 13, z_U] [] M3 (zn_KP d Q))))))))))
def zn_e (d : Nat) (R : z_V → z_M → Prop) (N : z_M) : Prop := z_Cl 0 (d + 3) 252 [z_R 13] N (fun v1 M1 => z_vi v1 fun x1 => ((¬ x1 = 33 → R z_U M1) ∧ (x1 = 33 → z_Cl 0 (d + 3) 251 [z_R 13, z_I 2, z_I 0] M1 (fun _ M2 => z_G 0 ((d + 3) + 1) z_m262 0 [z_R 13] [] (z_up (z_up M2 13 8 (z_w ((M2 13 8) - 1))) 13 7 (z_w (((z_up M2 13 8 (z_w ((M2 13 8) - 1))) 13 7) - 1))) R))))
def zn_X (d : Nat) (Q : z_V → z_M → Prop) (N : z_M) : Prop := zn_e d (fun _ M9 => zn_KP d Q z_U M9) N ∧ zn_e d (fun _ M1 => zn_KG d Q (z_I 0) M1) N
/-- what a level of a condition takes from the stack -/
def zn_c (K : Nat) (x : Int) : Prop := x = 38 ∨ (K = 0 ∧ x = 124)
section ZLP
variable {N N0 : z_M} {Q R : z_V → z_M → Prop} {q : Int → Int} {n i D p : Int} {S : List Int} {E : List (Int × Int)}
theorem kn_joins (d : Nat) {b : Int} {P T : List Int} (hb : b = 0 ∨ b = 1) (hP : ∀ x ∈ P, x = 38 ∨ (b = 1 ∧ x = 124)) (hT : T.headD 0 ≠ 38 ∧ (b = 1 → T.headD 0 ≠ 124)) (h : zn q n i D (P ++ T) E p N0 N) (h0 : 0 ≤ p) (hw : p + (E.length : Int) + ((P ++ T).length : Int) ≤ 240) (hQ : ∀ N' : z_M, zn q n i D T (E ++ zn_ops P) p N0 N' → Q z_U N') : z_Cl 0 (d + 2) 261 [z_R 13, z_I b] N Q := by
  have key : ∀ (P : List Int) (E : List (Int × Int)) (N : z_M), (∀ x ∈ P, x = 38 ∨ (b = 1 ∧ x = 124)) → zn q n i D (P ++ T) E p N0 N → p + (E.length : Int) + ((P ++ T).length : Int) ≤ 240 → (∀ N' : z_M, zn q n i D T (E ++ zn_ops P) p N0 N' → Q z_U N') → z_Cl 0 (d + 1) 252 [z_R 13] N (fun v1 M1 => z_vi v1 fun x1 => ((x1 = 38 → z_Cl 0 (d + 1) 252 [z_R 13] M1 (fun v2 M2 => z_vi v2 fun x2 => z_Cl 0 (d + 1) 251 [z_R 13, z_I x2, z_I 0] M2 (fun _ M3 => z_G 0 ((d + 1) + 1) z_m261 0 [z_R 13, z_I b] [] (z_up M3 13 8 (z_w ((M3 13 8) - 1))) Q))) ∧ (¬ x1 = 38 → ((b = 0 → Q z_U M1) ∧ (¬ b = 0 → z_Cl 0 (d + 1) 252 [z_R 13] M1 (fun v4 M4 => z_vi v4 fun x4 => ((¬ x4 = 124 → Q z_U M4) ∧ (x4 = 124 → z_Cl 0 (d + 1) 252 [z_R 13] M4 (fun v5 M5 => z_vi v5 fun x5 => z_Cl 0 (d + 1) 251 [z_R 13, z_I x5, z_I 0] M5 (fun _ M6 => z_G 0 ((d + 1) + 1) z_m261 0 [z_R 13, z_I b] [] (z_up M6 13 8 (z_w ((M6 13 8) - 1))) Q)))))))))) := by
    intro P
    induction P with
    | nil =>
      intro E N _ h hw hQ
      have hq : Q z_U N := hQ N (by rw [show E ++ zn_ops [] = E from List.append_nil E]; exact h)
      have hl : (T.length : Int) ≤ 240 := by simp only [List.nil_append] at hw; omega
      refine kn_top (d + 1) h (by simp only [List.nil_append]; exact hl) (z_viI ⟨fun c => absurd c hT.1, fun _ => ⟨fun _ => hq, fun c => kn_top (d + 1) h (by simp only [List.nil_append]; exact hl) (z_viI ⟨fun _ => hq, fun c2 => absurd c2 (hT.2 (by omega))⟩)⟩⟩)
    | cons x P ih =>
      intro E N hP h hw hQ
      have hl : (((x :: P) ++ T).length : Int) = ((P ++ T).length : Int) + 1 := by rw [List.cons_append, List.length_cons]; omega
      rw [hl] at hw
      have hl2 : (((x :: P) ++ T).length : Int) ≤ 240 := by omega
      have pop : z_Cl 0 (d + 1) 251 [z_R 13, z_I x, z_I 0] N (fun _ M4 => z_G 0 (d + 2) z_m261 0 [z_R 13, z_I b] [] (z_up M4 13 8 (z_w ((M4 13 8) - 1))) Q) := by
        refine kn_emit d h h0 (by omega) (fun N2 z2 => ?_)
        have e8 : N2 13 8 = ((P ++ T).length : Int) + 1 := by rw [← hl]; exact z2.2.2.1
        rw [e8, z_w_id (x := ((P ++ T).length : Int) + 1 - 1) (by omega) (by omega), show ((P ++ T).length : Int) + 1 - 1 = ((P ++ T).length : Int) from by omega]
        refine rg_261_0 (d + 1) (ih (E ++ [(x, 0)]) _ (fun y hy => hP y (List.mem_cons_of_mem _ hy)) (zn_pop z2) (by simp only [List.length_append, List.length_cons, List.length_nil] at hw ⊢; omega) (fun N' z' => hQ N' ?_))
        rw [show E ++ zn_ops (x :: P) = E ++ [(x, 0)] ++ zn_ops P from by rw [List.append_assoc]; rfl]
        exact z'
      refine kn_top (d + 1) h hl2 (z_viI ⟨fun c => kn_top (d + 1) h hl2 (z_viI pop), fun c => ⟨fun b0 => ?_, fun b1 => kn_top (d + 1) h hl2 (z_viI ⟨fun c2 => ?_, fun c2 => kn_top (d + 1) h hl2 (z_viI pop)⟩)⟩⟩)
      · rcases hP x (List.mem_cons_self) with z | z
        · exact absurd z c
        · omega
      · rcases hP x (List.mem_cons_self) with z | z
        · exact absurd z c
        · exact absurd z.2 c2
  exact re_261 (d + 1) (key P E N hP h hw hQ)
/-- the open count alone -/
theorem zn_open {x : Int} (h : zn q n i D S E p N0 N) : zn q n i x S E p N0 (z_up N 13 7 x) :=
  zn_of h (zm_st_of h.1 ⟨z_up_nj (by decide), z_up_nj (by decide), z_up_nj (by decide)⟩ (z_up_ne (by decide))) z_up_eq (fun k hk => z_up_ne hk) (z_up_nj (by decide)) (z_up_nj (by decide)) (z_up_nj (by decide)) (z_up_nj (by decide)) (z_up_nj (by decide)) (fun j hj => z_up_nj (fun y => by rw [y] at hj; cases hj))
theorem zn_e_pop (d : Nat) {B : List Int} (h : zn q n i (D + 1) (33 :: B) E p N0 N) (D0 : 0 ≤ D) (D6 : D ≤ 6) (h0 : 0 ≤ p) (hw : p + (E.length : Int) + ((33 :: B : List Int).length : Int) ≤ 240) (hQ : ∀ N' : z_M, zn q n i D B (E ++ [(2, 0)]) p N0 N' → zn_e d R N') : zn_e d R N := by
  have hl2 : ((33 :: B : List Int).length : Int) = (B.length : Int) + 1 := by rw [List.length_cons]; omega
  rw [hl2] at hw
  refine kn_top (d + 3) h (by omega) (z_viI ⟨fun c => absurd rfl c, fun _ => kn_emit (d + 2) h h0 (by omega) (fun N2 z2 => ?_)⟩)
  have f8 : N2 13 8 = (B.length : Int) + 1 := by rw [← hl2]; exact z2.2.2.1
  rw [f8, z_w_id (x := (B.length : Int) + 1 - 1) (by omega) (by omega), show (B.length : Int) + 1 - 1 = (B.length : Int) from by omega]
  have z3 := zn_pop z2
  have f7 : (z_up N2 13 8 (B.length : Int)) 13 7 = D + 1 := z3.2.1
  rw [f7, z_w_id (x := D + 1 - 1) (by omega) (by omega), show D + 1 - 1 = D from by omega]
  exact rg_262_0 (d + 3) (hQ _ (zn_open z3))
theorem zn_X_pop (d : Nat) {B : List Int} (h : zn q n i (D + 1) (33 :: B) E p N0 N) (D0 : 0 ≤ D) (D6 : D ≤ 6) (h0 : 0 ≤ p) (hw : p + (E.length : Int) + ((33 :: B : List Int).length : Int) ≤ 240) (hQ : ∀ N' : z_M, zn q n i D B (E ++ [(2, 0)]) p N0 N' → zn_X d Q N') : zn_X d Q N :=
  ⟨zn_e_pop d h D0 D6 h0 hw (fun N' z => (hQ N' z).1), zn_e_pop d h D0 D6 h0 hw (fun N' z => (hQ N' z).2)⟩
theorem zn_iso (h : zn q n i D S E p N0 N) (h36 : N0 13 36 = 0) : N 13 36 = 0 := h.2.2.2.2.2.2.2.2.2.2.2.2.2.trans h36
theorem zn_X_done (d : Nat) (h : zn q n i D S E p N0 N) (h36 : N0 13 36 = 0) (hl : (S.length : Int) ≤ 240) (hS : S.headD 0 ≠ 33) (hQ : zn_G d Q N) : zn_X d Q N :=
  ⟨kn_top (d + 3) h hl (z_viI ⟨fun _ => kn_good1 (d + 5) h.1 (z_y1 hQ), fun c => absurd c hS⟩),
   kn_top (d + 3) h hl (z_viI ⟨fun _ => z_viI (rg_268_37 (d + 5) (kn_good1 (d + 5) h.1 (z_y1 ⟨fun c => absurd (zn_iso h h36) c, fun _ => ⟨fun _ => kn_good1 (d + 5) h.1 (z_y1 hQ), fun c => absurd rfl c⟩⟩))), fun c => absurd c hS⟩)⟩
theorem zn_KG_bad (d : Nat) {x y : Int} (h : zn_b q n x N0 N) (hQ : Q z_U N) : zn_KG d Q (z_I y) N := by
  obtain ⟨hx, ⟨j, s⟩, _⟩ := id h
  exact z_viI (rg_268_37 (d + 5) (kn_good0 (d + 5) (by omega) s (z_n1 hQ)))
theorem zn_KP_bad (d : Nat) {x : Int} {v : z_V} (h : zn_b q n x N0 N) (hQ : Q z_U N) : zn_KP d Q v N := by
  obtain ⟨hx, ⟨j, s⟩, _⟩ := id h
  exact kn_good0 (d + 5) (by omega) s (z_n1 (rg_268_37 (d + 5) (kn_good0 (d + 5) (by omega) s (z_n1 hQ))))
theorem zn_P_bad (d : Nat) {x : Int} (h : zn_b q n x N0 N) (hQ : Q z_U N) : zn_P d Q N := by
  obtain ⟨hx, ⟨j, s⟩, _⟩ := id h
  exact kn_good0 (d + 4) (by omega) s (z_n1 (rg_266_32 (d + 4) (kn_good0 (d + 4) (by omega) s (z_n1 (rg_266_43 (d + 4) (kn_good0 (d + 4) (by omega) s (z_n2 (zn_KP_bad d h hQ))))))))
/-- on from a joint -/
theorem zn_KG_1 (d : Nat) (h : zn q n i D S E p N0 N) (h36 : N0 13 36 = 0) (hQ : zn_P d Q N) : zn_KG d Q (z_I 1) N :=
  z_viI (rg_268_37 (d + 5) (kn_good1 (d + 5) h.1 (z_y1 ⟨fun c => absurd (zn_iso h h36) c, fun _ => ⟨fun c => absurd c (by decide), fun _ => re_266 (d + 4) hQ⟩⟩)))
/-- a joint behind a piece -/
theorem zn_G_op (d : Nat) {P T : List Int} (h : zn q n i D (P ++ T) E p N0 N) (h36 : N0 13 36 = 0) (hi : i < 900) (hc : q i = 38 ∨ q i = 124) (hP : ∀ x ∈ P, x = 38 ∨ (q i = 124 ∧ x = 124)) (hT : T.headD 0 ≠ 38 ∧ (q i = 124 → T.headD 0 ≠ 124)) (h0 : 0 ≤ p) (hw : p + (E.length : Int) + ((P ++ T).length : Int) < 240) (hQ : ∀ N' : z_M, zn q n (i + 1) D (q i :: T) (E ++ zn_ops P) p N0 N' → zn_P d Q N') : zn_G d Q N := by
  have hl : (T.length : Int) ≤ ((P ++ T).length : Int) := by simp only [List.length_append]; omega
  have eh : zm_h q i = q i := by unfold zm_h; rw [if_neg (by omega)]
  have tail : ∀ b : Int, (b = 0 ∨ b = 1) → (b = 1 ↔ q i = 124) → z_G 0 ((d + 4) + 1) z_m267 29 [z_R 13, z_I (q i)] [z_I b, z_R 13] N (zn_KG d Q) := by
    intro b hb hb1
    refine rg_267_29 (d + 4) (kn_joins (d + 2) hb (fun x hx => (hP x hx).imp id (fun z => ⟨hb1.mpr z.1, z.2⟩)) ⟨hT.1, fun z => hT.2 (hb1.mp z)⟩ h h0 (by omega) (fun N2 z2 => kn_puts (d + 4) z2 (by omega) hi (fun N3 z3 => zn_KG_1 d z3 h36 (hQ N3 z3))))
  refine re_267 (d + 4) (kn_here (d + 4) h.1 (z_viI ?_))
  rw [eh]
  rcases hc with c | c
  · exact ⟨fun _ => rg_267_17 (d + 4) ⟨fun _ => tail 0 (Or.inl rfl) ⟨fun z => by omega, fun z => by omega⟩, fun z => by omega⟩, fun z => absurd c z⟩
  · exact ⟨fun z => by omega, fun _ => ⟨fun z => absurd c z, fun _ => rg_267_17 (d + 4) ⟨fun z => absurd c z, fun _ => tail 1 (Or.inr rfl) ⟨fun _ => c, fun _ => rfl⟩⟩⟩⟩
/-- what can't come -/
theorem zn_G_no (d : Nat) (h : zn q n i D S E p N0 N) (hi : i ≤ 900) (hc : q i ≠ 38 ∧ q i ≠ 124 ∧ q i ≠ 41) (hQ : ∀ N' : z_M, zn_b q n (-1000 - i) N0 N' → Q z_U N') : zn_G d Q N := by
  have hn : ∀ s : Int, 0 < s → q i ≠ s → zm_h q i ≠ s := fun s hs c z => c ((zm_h_s hs).mp z)
  have f2 : N 13 2 = i := h.1.2.2.2.2.2.1
  have i0 := h.1.2.2.1
  refine re_267 (d + 4) (kn_here (d + 4) h.1 (z_viI ⟨fun z => absurd z (hn 38 (by decide) hc.1), fun _ => ⟨fun _ => ⟨fun z => absurd z (hn 41 (by decide) hc.2.2), fun _ => ?_⟩, fun z => absurd z (hn 124 (by decide) hc.2.1)⟩⟩))
  rw [f2]
  refine kn_wrongs (d + 4) h.1 (by decide) (by omega) (fun N3 m3 s3 => ?_)
  rw [zm_f0, show -1000 * 1 - i = -1000 - i from by omega] at s3
  have b3 := zn_bad h m3 (by omega) s3
  exact zn_KG_bad d b3 (hQ N3 b3)
/-- a bracket closes -/
theorem zn_G_cl (d : Nat) {P T : List Int} (h : zn q n i D (P ++ 40 :: T) E p N0 N) (hD : 1 ≤ D ∧ D ≤ 6) (hi : i < 900) (hc : q i = 41) (hP : ∀ x ∈ P, zn_c 0 x) (h0 : 0 ≤ p) (hw : p + (E.length : Int) + ((P ++ 40 :: T).length : Int) ≤ 240)
    (h1 : T = [] → ∀ N' : z_M, zn q n (i + 1) (D - 1) T (E ++ zn_ops P) p N0 N' → Q z_U (z_up N' 13 36 1))
    (h2 : T ≠ [] → ∀ N' : z_M, zn q n (i + 1) (D - 1) T (E ++ zn_ops P) p N0 N' → zn_X d Q (z_up N' 13 36 0)) : zn_G d Q N := by
  have eh : zm_h q i = 41 := by unfold zm_h; rw [if_neg (by omega), hc]
  have i0 := h.1.2.2.1
  refine re_267 (d + 4) (kn_here (d + 4) h.1 (z_viI ?_))
  rw [eh]
  refine ⟨fun z => absurd z (by decide), fun _ => ⟨fun _ => ⟨fun _ => kn_joins (d + 2) (Or.inr rfl) (fun x hx => (hP x hx).imp id (fun z => ⟨rfl, z.2⟩)) ⟨by simp only [List.headD_cons]; decide, fun _ => by simp only [List.headD_cons]; decide⟩ h h0 hw (fun N2 z2 => ?_), fun z => absurd rfl z⟩, fun z => absurd z (by decide)⟩⟩
  have hl2 : ((40 :: T : List Int).length : Int) = (T.length : Int) + 1 := by rw [List.length_cons]; omega
  have hl3 : (T.length : Int) < 240 := by rw [List.length_append, List.length_cons] at hw; omega
  have f8 : N2 13 8 = (T.length : Int) + 1 := by rw [← hl2]; exact z2.2.2.1
  rw [f8, z_w_id (x := (T.length : Int) + 1 - 1) (by omega) (by omega), show (T.length : Int) + 1 - 1 = (T.length : Int) from by omega]
  have z3 := zn_pop z2
  have f7 : (z_up N2 13 8 (T.length : Int)) 13 7 = D := z3.2.1
  have z4 := zn_open (x := D - 1) z3
  have f2 : (z_up (z_up N2 13 8 (T.length : Int)) 13 7 (D - 1)) 13 2 = i := z4.1.2.2.2.2.2.1
  rw [f7, z_w_id (x := D - 1) (by omega) (by omega), f2, z_w_id (x := i + 1) (by omega) (by omega)]
  have z5 := zn_mv z4 (zm_mv_up (j := 2) (x := i + 1) (Or.inl rfl)) (zm_st_pl z4.1 (by omega) (by omega))
  have f9 : (z_up (z_up (z_up N2 13 8 (T.length : Int)) 13 7 (D - 1)) 13 2 (i + 1)) 13 8 = (T.length : Int) := z5.2.2.1
  rw [f9]
  generalize z_up (z_up (z_up N2 13 8 (T.length : Int)) 13 7 (D - 1)) 13 2 (i + 1) = N5 at z5 ⊢
  refine ⟨fun c => rg_267_104 (d + 4) (z_bl_of (Or.inl rfl) ⟨fun z => absurd z_up_eq z, fun _ => re_262 (d + 3) ?_⟩), fun c => rg_267_104 (d + 4) (z_bl_of (Or.inr rfl) ⟨fun _ => ?_, fun z => absurd (z_up_eq.symm.trans z) (by decide)⟩)⟩
  · exact (h2 (fun z => c (by rw [z]; rfl)) N5 z5).2
  · have hT : T = [] := List.length_eq_zero_iff.mp (by omega)
    have g4 : (z_up N5 13 36 1) 13 4 = 0 := by rw [z_up_nj (by decide)]; exact z5.1.2.2.2.2.2.2
    refine z_viI (rg_268_37 (d + 5) (re_231 (d + 5) ⟨fun z => absurd g4 z, fun _ => z_y1 ⟨fun _ => h1 hT N5 z5, fun z => absurd (z_up_eq.symm.trans z) (by decide)⟩⟩))
end ZLP
