/-! LAW: the model's conditions, as the parser has them -/
theorem zl_jt1 {c : Int} : zl_jt 1 c = -1 ↔ c ≠ 38 := by
  unfold zl_jt
  repeat' split
  all_goals (constructor <;> intro h <;> omega)
theorem zl_jt0 {c : Int} : zl_jt 0 c = -1 ↔ c ≠ 124 := by
  unfold zl_jt
  repeat' split
  all_goals (constructor <;> intro h <;> omega)
theorem zl_93 {q : Int → Int} {f K : Nat} {D j o : Int} {mc : List (Int × Int)} {co : List Int} (h : q j = 93) (hf : 1 ≤ f) (hK : K = 0 ∨ K = 1) : zl q f (K + 6) D j o mc co = .inr (j, mc, co) := by
  obtain ⟨g, rfl⟩ : ∃ g, f = g + 1 := ⟨f - 1, by omega⟩
  unfold zl
  rw [if_neg (by omega), if_neg (by omega), if_neg (by omega), show K + 6 - 6 = K from by omega, if_pos]
  rcases hK with rfl | rfl
  · exact zl_jt0.mpr (by omega)
  · exact zl_jt1.mpr (by omega)
/-- a stack below a piece -/
def zn_B (B : List Int) : Prop := B ≠ [] ∧ ¬ zn_k 3 (B.headD 0) ∧ B.headD 0 ≠ 91
theorem zn_B_c {x : Int} {B : List Int} (h : x = 33 ∨ x = 40 ∨ x = 38 ∨ x = 124 ∨ x = 60 ∨ x = 61 ∨ x = 62) : zn_B (x :: B) := by
  refine ⟨List.cons_ne_nil _ _, ?_, ?_⟩
  · unfold zn_k zn_t zn_p; simp only [List.headD_cons]; omega
  · simp only [List.headD_cons]; omega
section ZLQ
variable {N N0 : z_M} {Q R : z_V → z_M → Prop} {q : Int → Int} {n i D p : Int} {S : List Int} {E : List (Int × Int)}
theorem zn_over0 (h : zn q n i D S E p N0 N) (h36 : N0 13 36 = 0) : zn q n i D S E p N0 (z_up N 13 36 0) :=
  zn_of h (zm_st_of h.1 ⟨z_up_nj (by decide), z_up_nj (by decide), z_up_nj (by decide)⟩ (z_up_ne (by decide))) (by rw [z_up_nj (by decide)]; exact h.2.1) (fun k hk => z_up_ne hk) (z_up_nj (by decide)) (z_up_nj (by decide)) (z_up_nj (by decide)) (z_up_nj (by decide)) (by rw [z_up_eq]; exact (zn_iso h h36).symm) (fun j hj => z_up_nj (fun y => by rw [y] at hj; cases hj))
theorem kn_cmp (d : Nat) {c : Int} (h1 : zl_cm c ≠ -1 → Q (z_I 1) N) (h0 : zl_cm c = -1 → Q (z_I 0) N) : z_Cl 0 d 258 [z_I c] N Q := by
  have y : (c = 60 ∨ c = 62 ∨ c = 61) → Q (z_I 1) N := fun hc => h1 (by
    unfold zl_cm
    rcases hc with rfl | rfl | rfl <;> decide)
  refine re_258 d ⟨fun _ => y (by omega), fun _ => ⟨fun _ => y (by omega), fun _ => ⟨fun _ => h0 ?_, fun _ => y (by omega)⟩⟩⟩
  unfold zl_cm
  rw [if_neg (by omega), if_neg (by omega), if_neg (by omega)]
/-- two values, compared -/
theorem kn_test (d : Nat) {B : List Int} (hn : n ≤ 240) (p0 : 0 ≤ p) (D0 : 0 ≤ D) (D6 : D ≤ 6) (hw : p + (E.length : Int) + (B.length : Int) ≤ i) (hB : zn_B B) (h : zn q n i D B E p N0 N) (hin : i ≤ n) (f : Nat) (o : Int) (hf : 20 * (n - i) + 5 ≤ (f : Int)) (h33 : q i ≠ 33) (h40 : q i ≠ 40)
    (h1 : ∀ (j : Int) (m : List (Int × Int)) (c : List Int) (N' : z_M), zl q (f + 1) 2 D i o [] [] = .inr (j, m, c) → zn q n j D B (E ++ m) p N0 N' → zn_X d Q N')
    (h2 : ∀ (j : Int) (m : List (Int × Int)) (c : List Int) (N' : z_M), zl q (f + 1) 2 D i o [] [] = .inr (j, m, c) → q j = 93 → zn_b q n (-1000 - j) N0 N' → Q z_U N')
    (h0 : ∀ (x : Int) (N' : z_M), zl q (f + 1) 2 D i o [] [] = .inl x → zn_b q n x N0 N' → Q z_U N') : z_G 0 (d + 4 + 1) z_m266 32 [z_R 13, z_U] [] N (zn_KP d Q) := by
  have hT := h.1.1
  have i0 := h.1.2.2.1
  unfold zl at h1 h2 h0
  rw [if_pos rfl, if_neg h33, if_neg h40] at h1 h2 h0
  -- bad behind a value
  have badM : ∀ (x : Int) (N' : z_M), zn_b q n x N0 N' → Q z_U N' → z_G 0 (d + 4 + 1) z_m266 43 [z_R 13, z_U] [] N' (zn_KP d Q) := by
    intro x N' b hq
    obtain ⟨hx, ⟨j, s⟩, _⟩ := id b
    exact rg_266_43 (d + 4) (kn_good0 (d + 4) (by omega) s (z_n2 (zn_KP_bad d b hq)))
  refine rg_266_32 (d + 4) (kn_good1 (d + 4) h.1 (z_y1 (kn_value d hn p0 D0 D6 hw ⟨hB.2.1, hB.2.2⟩ h hin f o hf (fun j m c N1 e c93 z1 => ?_) (fun j m c N1 e c93 b1 => ?_) (fun x N1 e b1 => ?_))))
  · rw [e] at h1 h2 h0
    dsimp only at h1 h2 h0
    have hj0 := zl_end hT f 3 D i o [] [] j m c i0 hin ⟨fun z => by omega, fun z => by omega⟩ e
    have hj := hj0.1 (by decide)
    have lm : ((E ++ m).length : Int) = (E.length : Int) + (m.length : Int) := by rw [List.length_append]; omega
    refine rg_266_43 (d + 4) (kn_good1 (d + 4) z1.1 (z_y2 (kn_here (d + 4) z1.1 (z_viI ?_))))
    have en : zl_cm (zm_h q j) = zl_cm (q j) := by
      unfold zm_h
      split
      · rename_i e; rw [e]; rfl
      · rfl
    refine kn_cmp (d + 4) (fun hv => z_y2 ?_) (fun hv => z_n2 ?_)
    · rw [en] at hv
      rw [if_neg hv] at h1 h2 h0
      have hq : q j ≠ -1 := fun z => hv (by rw [z]; rfl)
      have hjn := zn_lt hT (by omega) hq
      have eh : zm_h q j = q j := by unfold zm_h; rw [if_neg hq]
      have hcm : q j = 60 ∨ q j = 61 ∨ q j = 62 := by
        unfold zl_cm at hv
        omega
      rw [eh]
      refine kn_puts (d + 4) z1 (by omega) (by omega) (fun N2 z2 => kn_value d hn p0 D0 D6 (by rw [lm, List.length_cons]; omega) ⟨(zn_B_c (B := B) (by omega)).2.1, (zn_B_c (B := B) (by omega)).2.2⟩ z2 (by omega) f (o + (c.length : Int)) (by omega) (fun j2 m2 c2 N3 e2 c93b z3 => ?_) (fun j2 m2 c2 N3 e2 c93b b3 => ?_) (fun x N3 e2 b3 => ?_))
      · rw [e2] at h1
        dsimp only at h1
        have hj2 := (zl_end hT f 3 D (j + 1) _ [] [] j2 m2 c2 (by omega) (by omega) ⟨fun z => by omega, fun z => by omega⟩ e2).1 (by decide)
        have lm2 : ((E ++ m ++ m2).length : Int) = (E.length : Int) + (m.length : Int) + (m2.length : Int) := by rw [List.length_append, List.length_append]; omega
        have hl2 : ((q j :: B : List Int).length : Int) = (B.length : Int) + 1 := by rw [List.length_cons]; omega
        refine kn_good1 (d + 4) z3.1 (z_y2 (kn_top (d + 4) z3 (by omega) (z_viI (kn_emit (d + 3) z3 p0 (by omega) (fun N4 z4 => ?_)))))
        have f8 : N4 13 8 = (B.length : Int) + 1 := by rw [← hl2]; exact z4.2.2.1
        rw [f8, z_w_id (x := (B.length : Int) + 1 - 1) (by omega) (by omega), show (B.length : Int) + 1 - 1 = (B.length : Int) from by omega]
        refine re_262 (d + 3) (h1 j2 _ _ _ rfl ?_).1
        have := zn_pop z4
        rw [show E ++ (m ++ (m2 ++ [(q j, 0)])) = E ++ m ++ m2 ++ [(q j, 0)] from by simp only [List.append_assoc]]
        exact this
      · rw [e2] at h2
        obtain ⟨hx, ⟨j3, s⟩, _⟩ := id b3
        exact kn_good0 (d + 4) (by omega) s (z_n2 (zn_KP_bad d b3 (h2 j2 _ _ N3 rfl c93b b3)))
      · rw [e2] at h0
        obtain ⟨hx, ⟨j3, s⟩, _⟩ := id b3
        exact kn_good0 (d + 4) (by omega) s (z_n2 (zn_KP_bad d b3 (h0 x N3 rfl b3)))
    · rw [en] at hv
      rw [if_pos hv] at h0
      have f2 : N1 13 2 = j := z1.1.2.2.2.2.2.1
      rw [f2]
      refine kn_wrongs (d + 4) z1.1 (by decide) (by omega) (fun N3 m3 s3 => ?_)
      rw [zm_f0, show -1000 * 1 - j = -1000 - j from by omega] at s3
      have b3 := zn_bad z1 m3 (by omega) s3
      exact zn_KP_bad d b3 (h0 _ N3 rfl b3)
  · rw [e] at h0
    dsimp only at h0
    rw [if_pos (by rw [c93]; rfl)] at h0
    exact badM _ N1 b1 (h0 _ N1 rfl b1)
  · rw [e] at h0
    exact badM _ N1 b1 (h0 _ N1 rfl b1)
theorem zn_con (d : Nat) (hn : n ≤ 240) (p0 : 0 ≤ p) (h36 : N0 13 36 = 0) : ∀ f : Nat,
    (∀ (D i o : Int) (B : List Int) (E : List (Int × Int)) (N : z_M), 20 * (n - i) + 6 ≤ (f : Int) → 0 ≤ D → D ≤ 6 → p + (E.length : Int) + (B.length : Int) ≤ i → zn_B B → zn q n i D B E p N0 N → i ≤ n →
      (∀ (j : Int) (m : List (Int × Int)) (c : List Int) (N' : z_M), zl q f 2 D i o [] [] = .inr (j, m, c) → zn q n j D B (E ++ m) p N0 N' → zn_X d Q N') →
      (∀ (j : Int) (m : List (Int × Int)) (c : List Int) (N' : z_M), zl q f 2 D i o [] [] = .inr (j, m, c) → q j = 93 → zn_b q n (-1000 - j) N0 N' → Q z_U N') →
      (∀ (x : Int) (N' : z_M), zl q f 2 D i o [] [] = .inl x → zn_b q n x N0 N' → Q z_U N') → zn_P d Q N) ∧
    (∀ (K : Nat) (D i o : Int) (B : List Int) (E : List (Int × Int)) (N : z_M), (K = 0 ∨ K = 1) → 20 * (n - i) + 8 - (K : Int) ≤ (f : Int) → 0 ≤ D → D ≤ 6 → p + (E.length : Int) + (B.length : Int) ≤ i → zn_B B → B.headD 0 ≠ 33 → ¬ zn_c K (B.headD 0) → zn q n i D B E p N0 N → i ≤ n →
      (∀ (j : Int) (m : List (Int × Int)) (c : List Int) (P : List Int) (E' : List (Int × Int)) (N' : z_M), zl q f K D i o [] [] = .inr (j, m, c) → E' ++ zn_ops P = E ++ m → (∀ x ∈ P, zn_c K x) → zn q n j D (P ++ B) E' p N0 N' → zn_G d Q N') →
      (∀ (j : Int) (m : List (Int × Int)) (c : List Int) (N' : z_M), zl q f K D i o [] [] = .inr (j, m, c) → q j = 93 → zn_b q n (-1000 - j) N0 N' → Q z_U N') →
      (∀ (x : Int) (N' : z_M), zl q f K D i o [] [] = .inl x → zn_b q n x N0 N' → Q z_U N') → zn_P d Q N) ∧
    (∀ (K : Nat) (D i o : Int) (B P : List Int) (E' E mc : List (Int × Int)) (co : List Int) (N : z_M), (K = 0 ∨ K = 1) → 20 * (n - i) + 1 ≤ (f : Int) → 0 ≤ D → D ≤ 6 → p + (E'.length : Int) + ((P ++ B).length : Int) ≤ i → (K = 0 → q i ≠ 38) → zn_B B → B.headD 0 ≠ 33 → ¬ zn_c K (B.headD 0) → (∀ x ∈ P, zn_c K x) → E' ++ zn_ops P = E ++ mc → zn q n i D (P ++ B) E' p N0 N → i ≤ n →
      (∀ (j : Int) (m : List (Int × Int)) (c : List Int) (P2 : List Int) (E2 : List (Int × Int)) (N' : z_M), zl q f (K + 6) D i o mc co = .inr (j, m, c) → E2 ++ zn_ops P2 = E ++ m → (∀ x ∈ P2, zn_c K x) → zn q n j D (P2 ++ B) E2 p N0 N' → zn_G d Q N') →
      (∀ (j : Int) (m : List (Int × Int)) (c : List Int) (N' : z_M), zl q f (K + 6) D i o mc co = .inr (j, m, c) → q j = 93 → zn_b q n (-1000 - j) N0 N' → Q z_U N') →
      (∀ (x : Int) (N' : z_M), zl q f (K + 6) D i o mc co = .inl x → zn_b q n x N0 N' → Q z_U N') → zn_G d Q N) := by
  intro f
  induction f with
  | zero =>
    refine ⟨fun D i o B E N hf _ _ _ _ _ hin => by omega, fun K D i o B E N hK hf _ _ _ _ _ _ _ hin => by omega, fun K D i o B P E' E mc co N hK hf _ _ _ _ _ _ _ _ _ _ hin => by omega⟩
  | succ f ih =>
    obtain ⟨ih2, ihK, ihL⟩ := ih
    refine ⟨fun D i o B E N hf D0 D6 hw hB h hin h1 h2 h0 => ?_, fun K D i o B E N hK hf D0 D6 hw hB h33 hBc h hin h1 h2 h0 => ?_, fun K D i o B P E' E mc co N hK hf D0 D6 hw hqi hB h33 hBc hP hE h hin h1 h2 h0 => ?_⟩
    · -- a piece
      have hT := h.1.1
      have i0 := h.1.2.2.1
      refine kn_good1 (d + 4) h.1 (z_y1 (kn_here (d + 4) h.1 (z_viI ⟨fun c => ?_, fun c => kn_here (d + 4) h.1 (z_viI ⟨fun c2 => ?_, fun c2 => ?_⟩)⟩)))
      · have e33 : q i = 33 := (zm_h_s (by decide)).mp c
        have hi := zn_lt hT i0 (by omega)
        unfold zl at h1 h2 h0
        rw [if_pos rfl, if_pos e33] at h1 h2 h0
        refine rg_266_25 (d + 4) (kn_opens (d + 3) h (by omega) (by omega) D0 D6 (fun hD N1 z1 => rg_266_0 (d + 4) ?_) (fun hD N1 b1 => rg_266_0 (d + 4) ?_))
        · rw [if_neg (by omega)] at h1 h2 h0
          rw [c] at z1
          refine ih2 (D + 1) (i + 1) o (33 :: B) E N1 (by omega) (by omega) (by omega) (by rw [List.length_cons]; omega) (zn_B_c (Or.inl rfl)) z1 (by omega) (fun j m cc N2 e z2 => ?_) (fun j m cc N2 e c93 b2 => ?_) (fun x N2 e b2 => ?_)
          · rw [e] at h1
            dsimp only at h1
            have hj := (zl_end hT f 2 (D + 1) (i + 1) o [] [] j m cc (by omega) (by omega) ⟨fun z => by omega, fun z => by omega⟩ e).1 (by decide)
            refine zn_X_pop d z2 D0 D6 p0 (by rw [List.length_append, List.length_cons]; omega) (fun N3 z3 => h1 j _ _ N3 rfl ?_)
            rw [← List.append_assoc]
            exact z3
          · rw [e] at h2
            exact h2 j _ _ N2 rfl c93 b2
          · rw [e] at h0
            exact h0 x N2 rfl b2
        · rw [if_pos (by omega)] at h0
          exact zn_P_bad d b1 (h0 _ N1 rfl b1)
      · have e33 : q i ≠ 33 := fun z => c ((zm_h_s (by decide)).mpr z)
        have e40 : q i ≠ 40 := fun z => c2 ((zm_h_s (by decide)).mpr z)
        exact kn_test d hn p0 D0 D6 hw hB h hin f o (by omega) e33 e40 h1 h2 h0
      · have e40 : q i = 40 := (zm_h_s (by decide)).mp c2
        have hi := zn_lt hT i0 (by omega)
        unfold zl at h1 h2 h0
        rw [if_pos rfl, if_neg (by omega), if_pos e40] at h1 h2 h0
        refine rg_266_25 (d + 4) (kn_opens (d + 3) h (by omega) (by omega) D0 D6 (fun hD N1 z1 => rg_266_0 (d + 4) ?_) (fun hD N1 b1 => rg_266_0 (d + 4) ?_))
        · rw [if_neg (by omega)] at h1 h2 h0
          rw [c2] at z1
          refine ihK 0 (D + 1) (i + 1) o (40 :: B) E N1 (Or.inl rfl) (by omega) (by omega) (by omega) (by rw [List.length_cons]; omega) (zn_B_c (Or.inr (Or.inl rfl))) (by simp only [List.headD_cons]; decide) (by unfold zn_c; simp only [List.headD_cons]; omega) z1 (by omega) (fun j m cc P E2 N2 e eE hP2 z2 => ?_) (fun j m cc N2 e c93 b2 => ?_) (fun x N2 e b2 => ?_)
          · rw [e] at h1 h0
            dsimp only at h1 h0
            have hj0 := zl_end hT f 0 (D + 1) (i + 1) o [] [] j m cc (by omega) (by omega) ⟨fun z => by omega, fun z => by omega⟩ e
            have hj := hj0.1 (by decide)
            have hst : zl_jt 1 (q j) = -1 ∧ zl_jt 0 (q j) = -1 := hj0.2.2
            have l1 : (E2.length : Int) + (P.length : Int) = (E.length : Int) + (m.length : Int) := by
              have := congrArg List.length eE
              rw [List.length_append, List.length_append, zn_ops_len] at this
              omega
            by_cases c41 : q j = 41
            · rw [if_pos c41] at h1
              refine zn_G_cl d z2 (by omega) (by omega) c41 hP2 p0 (by rw [List.length_append, List.length_cons]; omega) (fun hB0 => absurd hB0 hB.1) (fun _ N3 z3 => ?_)
              rw [eE, show D + 1 - 1 = D from by omega] at z3
              exact h1 (j + 1) m cc _ rfl (zn_over0 z3 h36)
            · rw [if_neg c41] at h0
              exact zn_G_no d z2 (by omega) ⟨zl_jt1.mp hst.1, zl_jt0.mp hst.2, c41⟩ (fun N3 b3 => h0 _ N3 rfl b3)
          · rw [e] at h0
            dsimp only at h0
            rw [if_neg (by omega)] at h0
            exact h0 _ N2 rfl b2
          · rw [e] at h0
            exact h0 x N2 rfl b2
        · rw [if_pos (by omega)] at h0
          exact zn_P_bad d b1 (h0 _ N1 rfl b1)
    · -- a level
      have hT := h.1.1
      have i0 := h.1.2.2.1
      unfold zl at h1 h2 h0
      rw [if_neg (by omega), if_neg (by omega), if_pos (by omega)] at h1 h2 h0
      have step : ∀ (j : Int) (m : List (Int × Int)) (c : List Int) (P : List Int) (E2 : List (Int × Int)) (N2 : z_M), zl q f (K + 1) D i o [] [] = .inr (j, m, c) → E2 ++ zn_ops P = E ++ m → (∀ x ∈ P, zn_c K x) → zn q n j D (P ++ B) E2 p N0 N2 → zn_G d Q N2 := by
        intro j m c P E2 N2 e eE hP z2
        rw [e] at h1 h2 h0
        dsimp only at h1 h2 h0
        have hj0 := zl_end hT f (K + 1) D i o [] [] j m c i0 hin ⟨fun z => by omega, fun z => by omega⟩ e
        have hj := hj0.1 (by omega)
        have l1 : (E2.length : Int) + (P.length : Int) = (E.length : Int) + (m.length : Int) := by
          have := congrArg List.length eE
          rw [List.length_append, List.length_append, zn_ops_len] at this
          omega
        refine ihL K D j o B P E2 E m c N2 hK (by omega) D0 D6 (by rw [List.length_append]; omega) (fun k3 => ?_) hB h33 hBc hP eE z2 (by omega) h1 h2 h0
        subst k3
        exact zl_jt1.mp hj0.2.2
      have bad93 : ∀ (j : Int) (m : List (Int × Int)) (c : List Int) (N2 : z_M), zl q f (K + 1) D i o [] [] = .inr (j, m, c) → q j = 93 → zn_b q n (-1000 - j) N0 N2 → Q z_U N2 := by
        intro j m c N2 e c93 b
        rw [e] at h2
        exact h2 j m c N2 (zl_93 c93 (by omega) hK) c93 b
      have bad : ∀ (x : Int) (N2 : z_M), zl q f (K + 1) D i o [] [] = .inl x → zn_b q n x N0 N2 → Q z_U N2 := by
        intro x N2 e b
        rw [e] at h0
        exact h0 x N2 rfl b
      rcases hK with rfl | rfl
      · refine ihK 1 D i o B E N (Or.inr rfl) (by omega) D0 D6 hw hB h33 (fun z => hBc ?_) h hin (fun j m c P E2 N2 e eE hP z2 => step j m c P E2 N2 e eE (fun x hx => Or.inl ?_) z2) bad93 bad
        · rcases z with z | z
          · exact Or.inl z
          · exact absurd z.1 (by decide)
        · rcases hP x hx with z | z
          · exact z
          · exact absurd z.1 (by decide)
      · refine ih2 D i o B E N (by omega) D0 D6 hw hB h hin (fun j m c N2 e z2 => ?_) bad93 bad
        have hj := (zl_end hT f 2 D i o [] [] j m c i0 hin ⟨fun z => by omega, fun z => by omega⟩ e).1 (by decide)
        exact zn_X_done d z2 h36 (by omega) h33 (step j m c [] (E ++ m) N2 e (List.append_nil _) (fun x hx => nomatch hx) z2)
    · -- joints
      have hT := h.1.1
      have i0 := h.1.2.2.1
      unfold zl at h1 h2 h0
      rw [if_neg (by omega), if_neg (by omega), if_neg (by omega), show K + 6 - 6 = K from by omega] at h1 h2 h0
      by_cases ej : zl_jt K (q i) = -1
      · rw [if_pos ej] at h1
        exact h1 i mc co P E' N rfl hE hP h
      · have hop : (K = 0 ∧ q i = 124 ∧ zl_jt K (q i) < 4) ∨ (K = 1 ∧ q i = 38 ∧ zl_jt K (q i) < 4) := by
          rcases hK with rfl | rfl
          · have e : q i = 124 := Decidable.not_not.mp (fun z => ej (zl_jt0.mpr z))
            exact Or.inl ⟨rfl, e, by rw [e]; decide⟩
          · have e : q i = 38 := Decidable.not_not.mp (fun z => ej (zl_jt1.mpr z))
            exact Or.inr ⟨rfl, e, by rw [e]; decide⟩
        rw [if_neg ej, if_pos (by rcases hop with y | y <;> exact y.2.2)] at h1 h2 h0
        have hi := zn_lt hT i0 (by omega)
        have l0 : (E'.length : Int) + (P.length : Int) = (E.length : Int) + (mc.length : Int) := by
          have := congrArg List.length hE
          rw [List.length_append, List.length_append, zn_ops_len] at this
          omega
        have hw2 : p + (E'.length : Int) + ((P.length : Int) + (B.length : Int)) ≤ i := by rw [List.length_append] at hw; omega
        refine zn_G_op d h h36 (by omega) (by omega) (fun x hx => ?_) ⟨fun z => hBc (Or.inl z), fun zp z => hBc (Or.inr ⟨by omega, z⟩)⟩ p0 (by omega) (fun N1 z1 => ?_)
        · rcases hP x hx with z | z
          · exact Or.inl z
          · exact Or.inr ⟨by omega, z.2⟩
        · rw [hE] at z1
          have step : ∀ (j : Int) (m : List (Int × Int)) (c : List Int) (P2 : List Int) (E2 : List (Int × Int)) (N2 : z_M), zl q f (K + 1) D (i + 1) (o + (co.length : Int) + 1) [] [] = .inr (j, m, c) → E2 ++ zn_ops P2 = (E ++ mc) ++ m → (∀ x ∈ P2, zn_c (K + 1) x) → zn q n j D (P2 ++ (q i :: B)) E2 p N0 N2 → zn_G d Q N2 := by
            intro j m c P2 E2 N2 e eE hP2 z2
            rw [e] at h1 h2 h0
            dsimp only at h1 h2 h0
            have hj0 := zl_end hT f (K + 1) D (i + 1) _ [] [] j m c (by omega) (by omega) ⟨fun z => by omega, fun z => by omega⟩ e
            have hj := hj0.1 (by omega)
            have l1 : (E2.length : Int) + (P2.length : Int) = (E.length : Int) + (mc.length : Int) + (m.length : Int) := by
              have := congrArg List.length eE
              rw [List.length_append, List.length_append, List.length_append, zn_ops_len] at this
              omega
            refine ihL K D j o B (P2 ++ [q i]) E2 E (mc ++ (m ++ [(q i, 0)])) _ N2 hK (by omega) D0 D6 (by simp only [List.length_append, List.length_cons, List.length_nil]; omega) (fun k3 => ?_) hB h33 hBc (fun x hx => ?_) ?_ (by rw [List.append_assoc]; exact z2) (by omega) h1 h2 h0
            · subst k3
              exact zl_jt1.mp hj0.2.2
            · rcases List.mem_append.mp hx with z | z
              · rcases hP2 x z with y | y
                · exact Or.inl y
                · omega
              · have : x = q i := List.mem_singleton.mp z
                rw [this]
                rcases hop with y | y
                · exact Or.inr ⟨y.1, y.2.1⟩
                · exact Or.inl y.2.1
            · rw [show zn_ops (P2 ++ [q i]) = zn_ops P2 ++ [(q i, 0)] from by unfold zn_ops; rw [List.map_append]; rfl, ← List.append_assoc, eE]
              simp only [List.append_assoc]
          have bad93 : ∀ (j : Int) (m : List (Int × Int)) (c : List Int) (N2 : z_M), zl q f (K + 1) D (i + 1) (o + (co.length : Int) + 1) [] [] = .inr (j, m, c) → q j = 93 → zn_b q n (-1000 - j) N0 N2 → Q z_U N2 := by
            intro j m c N2 e c93 b
            rw [e] at h2
            exact h2 j _ _ N2 (zl_93 c93 (by omega) hK) c93 b
          have bad : ∀ (x : Int) (N2 : z_M), zl q f (K + 1) D (i + 1) (o + (co.length : Int) + 1) [] [] = .inl x → zn_b q n x N0 N2 → Q z_U N2 := by
            intro x N2 e b
            rw [e] at h0
            exact h0 x N2 rfl b
          have hl2 : p + ((E ++ mc).length : Int) + ((q i :: B).length : Int) ≤ i + 1 := by rw [List.length_append, List.length_cons]; omega
          have hB2 : zn_B (q i :: B) := zn_B_c (by omega)
          rcases hK with rfl | rfl
          · refine ihK 1 D (i + 1) _ (q i :: B) (E ++ mc) N1 (Or.inr rfl) (by omega) D0 D6 hl2 hB2 (by simp only [List.headD_cons]; omega) (by unfold zn_c; simp only [List.headD_cons]; omega) z1 (by omega) step bad93 bad
          · refine ih2 D (i + 1) _ (q i :: B) (E ++ mc) N1 (by omega) D0 D6 hl2 hB2 z1 (by omega) (fun j m c N2 e z2 => ?_) bad93 bad
            have hj := (zl_end hT f 2 D (i + 1) _ [] [] j m c (by omega) (by omega) ⟨fun z => by omega, fun z => by omega⟩ e).1 (by decide)
            exact zn_X_done d z2 h36 (by omega) (by simp only [List.headD_cons]; omega) (step j m c [] ((E ++ mc) ++ m) N2 e (List.append_nil _) (fun x hx => nomatch hx) z2)
end ZLQ
