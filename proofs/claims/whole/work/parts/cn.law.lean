/-! LAW: the model's sums and terms, as the parser has them -/
/-- what a level takes from the stack -/
def zn_k (K : Nat) (x : Int) : Prop := zn_t x ∨ (K = 3 ∧ zn_p x)
theorem zl_jt4 {c : Int} : zl_jt 4 c = -1 ↔ ¬ zn_t c := by
  unfold zl_jt zn_t
  repeat' split
  all_goals (constructor <;> intro h <;> omega)
theorem zl_jt3 {c : Int} : zl_jt 3 c = -1 ↔ ¬ zn_p c := by
  unfold zl_jt zn_p
  repeat' split
  all_goals (constructor <;> intro h <;> omega)
theorem zl_jt_8 {L : Nat} {c : Int} (hL : L = 3 ∨ L = 4) (h : zl_jt L c ≠ -1) : ¬ zl_jt L c < 4 := by
  unfold zl_jt at h ⊢
  repeat' split
  all_goals (first | omega | (rename_i g; simp only [*] at h; omega))
theorem zn_ops_len (P : List Int) : (zn_ops P).length = P.length := by unfold zn_ops; rw [List.length_map]
section ZLO
variable {N N0 : z_M} {Q : z_V → z_M → Prop} {q : Int → Int} {n i D p : Int} {S : List Int} {E : List (Int × Int)}
theorem zn_lt (hT : zr_T q n) (i0 : 0 ≤ i) (h : q i ≠ -1) : i < n := by
  by_cases c : i < n
  · exact c
  · exact absurd (hT.2.2.2 i (by omega)) h
/-- a factor which isn't a bracket -/
theorem kn_one (d : Nat) {T : List Int} (hn : n ≤ 240) (p0 : 0 ≤ p) (hw : p + (E.length : Int) + (T.length : Int) ≤ i) (h : zn q n i D T E p N0 N) (h91 : q i ≠ 91)
    (f : Nat) (o : Int)
    (h1 : ∀ (j : Int) (m : List (Int × Int)) (c : List Int) (N' : z_M), zl q (f + 1) 5 D i o [] [] = .inr (j, m, c) → zn q n j D T (E ++ m) p N0 N' → zn_W1 d Q N')
    (h0 : ∀ (x : Int) (N' : z_M), zl q (f + 1) 5 D i o [] [] = .inl x → zn_b q n x N0 N' → zn_W1 d Q N') : z_G 0 ((d + 2) + 1) z_m263 23 [z_R 13] [] N (fun _ M16 => zn_W1 d Q M16) := by
  have hT := h.1.1
  have i0 := h.1.2.2.1
  have hw0 : 0 ≤ (E.length : Int) := by omega
  have g2 : N 13 2 = i := h.1.2.2.2.2.2.1
  unfold zl at h1 h0
  rw [if_neg (by decide), if_pos rfl] at h1 h0
  refine rg_263_23 (d + 2) (kn_good1 (d + 2) h.1 (z_y2 (kn_seesDigit (d + 1) h.1 (fun hd => z_y1 ?_) (fun hd => z_n1 (kn_here (d + 2) h.1 (z_viI ?_))))))
  · rw [if_pos hd] at h1 h0
    have hi := zr_dlt hT hd
    refine kn_reads d h (by omega) hd (fun v j N1 e ij z1 => z_viI ?_) (fun x v N1 e b => z_viI ?_)
    · rw [e] at h1
      exact kn_emit (d + 1) z1 p0 (by omega) (fun N2 z2 => h1 j [(0, v)] [16 * v] N2 rfl z2)
    · rw [e] at h0
      obtain ⟨hx, ⟨j, s⟩, _⟩ := id b
      exact re_251 (d + 1) (kn_good0 (d + 1) (by omega) s (z_n2 (h0 x N1 rfl b)))
  · rw [if_neg hd, if_neg h91] at h1 h0
    have en : zl_nx (zm_h q i) = zl_nx (q i) := by
      unfold zm_h
      split
      · rename_i e; rw [e]; rfl
      · rfl
    refine kn_isValue (d + 2) (fun hv => z_y1 (kn_here (d + 2) h.1 (z_viI ?_))) (fun hv => z_n1 ?_)
    · rw [en] at hv
      rw [if_neg hv] at h1
      have hq : q i ≠ -1 := fun z => hv (by rw [z]; rfl)
      have hi := zn_lt hT i0 hq
      have eh : zm_h q i = q i := by unfold zm_h; rw [if_neg hq]
      rw [eh]
      refine kn_emit (d + 1) h p0 (by omega) (fun N2 z2 => ?_)
      have e2 : N2 13 2 = i := z2.1.2.2.2.2.2.1
      rw [e2, z_w_id (x := i + 1) (by omega) (by omega)]
      exact h1 (i + 1) [(1, q i)] _ _ rfl (zn_mv z2 (zm_mv_up (Or.inl rfl)) (zm_st_pl z2.1 (by omega) (by omega)))
    · rw [en] at hv
      rw [if_pos hv] at h0
      rw [g2]
      refine kn_wrongs (d + 2) h.1 (by decide) (by have := h.1.2.2.2.1; omega) (fun N3 m3 s3 => ?_)
      rw [zm_f0, show -1000 * 1 - i = -1000 - i from by omega] at s3
      exact h0 (-1000 - i) N3 rfl (zn_bad h m3 (by omega) s3)
theorem zn_F_bad (d : Nat) {x : Int} (h : zn_b q n x N0 N) (hQ : ∀ N' : z_M, zn_b q n x N0 N' → Q z_U N') : zn_F d Q N := by
  obtain ⟨hx, ⟨j, s⟩, _⟩ := id h
  exact kn_good0 (d + 2) (by omega) s (z_n1 (rg_263_23 (d + 2) (kn_good0 (d + 2) (by omega) s (z_n2 (zn_W1_bad d h hQ)))))
theorem zn_sum (d : Nat) (hn : n ≤ 240) (p0 : 0 ≤ p) : ∀ f : Nat,
    (∀ (D i o : Int) (T : List Int) (E : List (Int × Int)) (N : z_M), 20 * (n - i) + 3 ≤ (f : Int) → 0 ≤ D → D ≤ 6 → p + (E.length : Int) + (T.length : Int) ≤ i → zn q n i D T E p N0 N → i ≤ n →
      (∀ (j : Int) (m : List (Int × Int)) (c : List Int) (N' : z_M), zl q f 5 D i o [] [] = .inr (j, m, c) → zn q n j D T (E ++ m) p N0 (z_up N' 13 37 0) → zn_W1 d Q N') →
      (∀ (x : Int) (N' : z_M), zl q f 5 D i o [] [] = .inl x → zn_b q n x N0 N' → Q z_U N') → zn_F d Q N) ∧
    (∀ (K : Nat) (D i o : Int) (B : List Int) (E : List (Int × Int)) (N : z_M), (K = 3 ∨ K = 4) → 20 * (n - i) + 8 - (K : Int) ≤ (f : Int) → 0 ≤ D → D ≤ 6 → p + (E.length : Int) + (B.length : Int) ≤ i → ¬ zn_k K (B.headD 0) → zn q n i D B E p N0 N → i ≤ n →
      (∀ (j : Int) (m : List (Int × Int)) (c : List Int) (P : List Int) (E' : List (Int × Int)) (N' : z_M), zl q f K D i o [] [] = .inr (j, m, c) → E' ++ zn_ops P = E ++ m → (∀ x ∈ P, zn_k K x) → zn q n j D (P ++ B) E' p N0 (z_up N' 13 37 0) → zn_W1 d Q N') →
      (∀ (x : Int) (N' : z_M), zl q f K D i o [] [] = .inl x → zn_b q n x N0 N' → Q z_U N') → zn_F d Q N) ∧
    (∀ (K : Nat) (D i o : Int) (B P : List Int) (E' E mc : List (Int × Int)) (co : List Int) (N : z_M), (K = 3 ∨ K = 4) → 20 * (n - i) + 1 ≤ (f : Int) → 0 ≤ D → D ≤ 6 → p + (E'.length : Int) + ((P ++ B).length : Int) ≤ i → (K = 3 → ¬ zn_t (q i)) → ¬ zn_k K (B.headD 0) → (∀ x ∈ P, zn_k K x) → E' ++ zn_ops P = E ++ mc → zn q n i D (P ++ B) E' p N0 (z_up N 13 37 0) → i ≤ n →
      (∀ (j : Int) (m : List (Int × Int)) (c : List Int) (P2 : List Int) (E2 : List (Int × Int)) (N' : z_M), zl q f (K + 6) D i o mc co = .inr (j, m, c) → E2 ++ zn_ops P2 = E ++ m → (∀ x ∈ P2, zn_k K x) → zn q n j D (P2 ++ B) E2 p N0 (z_up N' 13 37 0) → zn_W1 d Q N') →
      (∀ (x : Int) (N' : z_M), zl q f (K + 6) D i o mc co = .inl x → zn_b q n x N0 N' → Q z_U N') → zn_W1 d Q N) := by
  intro f
  induction f with
  | zero =>
    refine ⟨fun D i o T E N hf _ _ _ _ hin => by omega, fun K D i o B E N hK hf _ _ _ _ _ hin => by omega, fun K D i o B P E' E mc co N hK hf _ _ _ _ _ _ _ _ hin => by omega⟩
  | succ f ih =>
    obtain ⟨ih5, ihK, ihL⟩ := ih
    refine ⟨fun D i o T E N hf D0 D6 hw h hin h1 h0 => ?_, fun K D i o B E N hK hf D0 D6 hw hB h hin h1 h0 => ?_, fun K D i o B P E' E mc co N hK hf D0 D6 hw hqi hB hP hE h hin h1 h0 => ?_⟩
    · -- a factor
      have hT := h.1.1
      have i0 := h.1.2.2.1
      by_cases h91 : q i = 91
      · have hi := zn_lt hT i0 (by omega)
        unfold zl at h1 h0
        rw [if_neg (by decide), if_pos rfl, if_neg (by omega), if_pos h91] at h1 h0
        have eh : zm_h q i = 91 := by unfold zm_h; rw [if_neg (by omega), h91]
        refine kn_good1 (d + 2) h.1 (z_y1 (kn_here (d + 2) h.1 (z_viI ⟨fun c => absurd eh c, fun _ => kn_opens (d + 1) h (by omega) (by omega) D0 D6 (fun hD N1 z1 => rg_263_0 (d + 2) ?_) (fun hD N1 b1 => rg_263_0 (d + 2) ?_)⟩)))
        · rw [if_neg (by omega)] at h1 h0
          rw [eh] at z1
          refine ihK 3 (D + 1) (i + 1) o (91 :: T) E N1 (Or.inl rfl) (by omega) (by omega) (by omega) (by rw [List.length_cons]; omega) (by unfold zn_k zn_t zn_p; simp only [List.headD_cons]; omega) z1 (by omega) (fun j m c P E2 N2 e eE hP2 z2 => ?_) (fun x N2 e b2 => ?_)
          · rw [e] at h1 h0
            dsimp only at h1 h0
            have hj0 := zl_end hT f 3 (D + 1) (i + 1) o [] [] j m c (by omega) (by omega) ⟨fun z => by omega, fun z => by omega⟩ e
            have hj := hj0.1 (by decide)
            have hst : zl_jt 4 (q j) = -1 ∧ zl_jt 3 (q j) = -1 := hj0.2.2
            have l1 : (E2.length : Int) + (P.length : Int) = (E.length : Int) + (m.length : Int) := by
              have := congrArg List.length eE
              rw [List.length_append, List.length_append, zn_ops_len] at this
              omega
            refine zn_W1_end d (by omega) z2 (by omega) ⟨zl_jt4.mp hst.1, zl_jt3.mp hst.2⟩ (fun x hx => (hP2 x hx).imp id (fun z => z.2)) (by unfold zn_t zn_p; simp only [List.headD_cons]; omega) p0 (by simp only [List.length_append, List.length_cons]; omega) (fun c91 => absurd rfl c91) (fun r er c93 N3 z3 => ?_) (fun cc N3 b3 => ?_)
            · rw [if_pos c93] at h1
              have er2 : T = r := (List.cons.inj er).2
              subst er2
              rw [eE, show D + 1 - 1 = D from by omega] at z3
              exact h1 (j + 1) m c N3 rfl z3
            · have c93 : q j ≠ 93 := by
                rcases cc with z | z
                · exact absurd rfl z.1
                · exact z.2
              rw [if_neg c93] at h0
              exact h0 _ N3 rfl b3
          · rw [e] at h0
            exact h0 x N2 rfl b2
        · rw [if_pos (by omega)] at h0
          exact zn_F_bad d b1 (fun N2 b2 => h0 _ N2 rfl b2)
      · have eh : ¬ zm_h q i = 91 := fun z => h91 ((zm_h_s (by decide)).mp z)
        refine kn_good1 (d + 2) h.1 (z_y1 (kn_here (d + 2) h.1 (z_viI ⟨fun _ => ?_, fun c => absurd c eh⟩)))
        exact kn_one d hn p0 hw h h91 f o (fun j m c N1 e z1 => h1 j m c N1 e (zn_37 z1)) (fun x N1 e b1 => zn_W1_bad d b1 (fun N2 b2 => h0 x N2 e b2))
    · -- a level
      have hT := h.1.1
      have i0 := h.1.2.2.1
      unfold zl at h1 h0
      rw [if_neg (by omega), if_neg (by omega), if_pos (by omega)] at h1 h0
      have step : ∀ (j : Int) (m : List (Int × Int)) (c : List Int) (P : List Int) (E2 : List (Int × Int)) (N2 : z_M), zl q f (K + 1) D i o [] [] = .inr (j, m, c) → E2 ++ zn_ops P = E ++ m → (∀ x ∈ P, zn_k K x) → zn q n j D (P ++ B) E2 p N0 (z_up N2 13 37 0) → zn_W1 d Q N2 := by
        intro j m c P E2 N2 e eE hP z2
        rw [e] at h1 h0
        dsimp only at h1 h0
        have hj0 := zl_end hT f (K + 1) D i o [] [] j m c i0 hin ⟨fun z => by omega, fun z => by omega⟩ e
        have hj := hj0.1 (by omega)
        have l1 : (E2.length : Int) + (P.length : Int) = (E.length : Int) + (m.length : Int) := by
          have := congrArg List.length eE
          rw [List.length_append, List.length_append, zn_ops_len] at this
          omega
        refine ihL K D j o B P E2 E m c N2 hK (by omega) D0 D6 (by rw [List.length_append]; omega) (fun k3 => ?_) hB hP eE z2 (by omega) h1 h0
        subst k3
        exact zl_jt4.mp hj0.2.2
      have bad : ∀ (x : Int) (N2 : z_M), zl q f (K + 1) D i o [] [] = .inl x → zn_b q n x N0 N2 → Q z_U N2 := by
        intro x N2 e b
        rw [e] at h0
        exact h0 x N2 rfl b
      rcases hK with rfl | rfl
      · refine ihK 4 D i o B E N (Or.inr rfl) (by omega) D0 D6 hw (fun z => hB ?_) h hin (fun j m c P E2 N2 e eE hP z2 => step j m c P E2 N2 e eE (fun x hx => Or.inl ?_) z2) bad
        · rcases z with z | z
          · exact Or.inl z
          · exact absurd z.1 (by decide)
        · rcases hP x hx with z | z
          · exact z
          · exact absurd z.1 (by decide)
      · exact ih5 D i o B E N (by omega) D0 D6 hw h hin (fun j m c N2 e z2 => step j m c [] (E ++ m) N2 e (List.append_nil _) (fun x hx => nomatch hx) z2) bad
    · -- joints
      have hT := h.1.1
      have i0 := h.1.2.2.1
      unfold zl at h1 h0
      rw [if_neg (by omega), if_neg (by omega), if_neg (by omega), show K + 6 - 6 = K from by omega] at h1 h0
      by_cases ej : zl_jt K (q i) = -1
      · rw [if_pos ej] at h1
        exact h1 i mc co P E' N rfl hE hP h
      · rw [if_neg ej, if_neg (zl_jt_8 hK ej)] at h1 h0
        have hq : q i ≠ -1 := fun z => ej (by rw [z]; rfl)
        have hi := zn_lt hT i0 hq
        have hop : (K = 3 ∧ zn_p (q i)) ∨ (K = 4 ∧ zn_t (q i)) := by
          rcases hK with rfl | rfl
          · exact Or.inl ⟨rfl, Decidable.not_not.mp (fun z => ej (zl_jt3.mpr z))⟩
          · exact Or.inr ⟨rfl, Decidable.not_not.mp (fun z => ej (zl_jt4.mpr z))⟩
        have nop : ¬ (zn_t (q i) ∧ zn_p (q i)) := by unfold zn_t zn_p; omega
        have l0 : (E'.length : Int) + (P.length : Int) = (E.length : Int) + (mc.length : Int) := by
          have := congrArg List.length hE
          rw [List.length_append, List.length_append, zn_ops_len] at this
          omega
        have hw2 : p + (E'.length : Int) + ((P.length : Int) + (B.length : Int)) ≤ i := by rw [List.length_append] at hw; omega
        refine zn_W1_op d h (by omega) (hop.elim (fun z => Or.inr z.2) (fun z => Or.inl z.2)) (fun x hx => ?_) ⟨fun z => hB (Or.inl z), fun zp z => hB (Or.inr ⟨?_, z⟩)⟩ p0 (by omega) (fun N1 z1 => ?_)
        · rcases hP x hx with z | z
          · exact Or.inl z
          · rcases hop with y | y
            · exact Or.inr ⟨y.2, z.2⟩
            · omega
        · rcases hop with y | y
          · exact y.1
          · exact absurd ⟨y.2, zp⟩ nop
        · rw [hE] at z1
          have step : ∀ (j : Int) (m : List (Int × Int)) (c : List Int) (P2 : List Int) (E2 : List (Int × Int)) (N2 : z_M), zl q f (K + 1) D (i + 1) (o + (co.length : Int)) [] [] = .inr (j, m, c) → E2 ++ zn_ops P2 = (E ++ mc) ++ m → (∀ x ∈ P2, zn_k (K + 1) x) → zn q n j D (P2 ++ (q i :: B)) E2 p N0 (z_up N2 13 37 0) → zn_W1 d Q N2 := by
            intro j m c P2 E2 N2 e eE hP2 z2
            rw [e] at h1 h0
            dsimp only at h1 h0
            have hj0 := zl_end hT f (K + 1) D (i + 1) _ [] [] j m c (by omega) (by omega) ⟨fun z => by omega, fun z => by omega⟩ e
            have hj := hj0.1 (by omega)
            have l1 : (E2.length : Int) + (P2.length : Int) = (E.length : Int) + (mc.length : Int) + (m.length : Int) := by
              have := congrArg List.length eE
              rw [List.length_append, List.length_append, List.length_append, zn_ops_len] at this
              omega
            refine ihL K D j o B (P2 ++ [q i]) E2 E (mc ++ (m ++ [(q i, 0)])) (co ++ (c ++ [zl_jt K (q i)])) N2 hK (by omega) D0 D6 (by simp only [List.length_append, List.length_cons, List.length_nil]; omega) (fun k3 => ?_) hB (fun x hx => ?_) ?_ (by rw [List.append_assoc]; exact z2) (by omega) h1 h0
            · subst k3
              exact zl_jt4.mp hj0.2.2
            · rcases List.mem_append.mp hx with z | z
              · rcases hP2 x z with y | y
                · exact Or.inl y
                · omega
              · have : x = q i := List.mem_singleton.mp z
                rw [this]
                rcases hop with y | y
                · exact Or.inr y
                · exact Or.inl y.2
            · rw [show zn_ops (P2 ++ [q i]) = zn_ops P2 ++ [(q i, 0)] from by unfold zn_ops; rw [List.map_append]; rfl, ← List.append_assoc, eE]
              simp only [List.append_assoc]
          have bad : ∀ (x : Int) (N2 : z_M), zl q f (K + 1) D (i + 1) (o + (co.length : Int)) [] [] = .inl x → zn_b q n x N0 N2 → Q z_U N2 := by
            intro x N2 e b
            rw [e] at h0
            exact h0 x N2 rfl b
          have hl2 : p + ((E ++ mc).length : Int) + ((q i :: B).length : Int) ≤ i + 1 := by rw [List.length_append, List.length_cons]; omega
          rcases hK with rfl | rfl
          · refine ihK 4 D (i + 1) _ (q i :: B) (E ++ mc) N1 (Or.inr rfl) (by omega) D0 D6 hl2 (fun z => ?_) z1 (by omega) step bad
            rcases hop with y | y
            · rcases z with z | z
              · exact nop ⟨z, y.2⟩
              · exact absurd z.1 (by decide)
            · exact absurd y.1 (by decide)
          · exact ih5 D (i + 1) _ (q i :: B) (E ++ mc) N1 (by omega) D0 D6 hl2 z1 (by omega) (fun j m c N2 e z2 => step j m c [] ((E ++ mc) ++ m) N2 e (List.append_nil _) (fun x hx => nomatch hx) z2) bad
/-- a whole value -/
theorem kn_value0 (d : Nat) (hn : n ≤ 240) (p0 : 0 ≤ p) (D0 : 0 ≤ D) (D6 : D ≤ 6) (hw : p + (E.length : Int) + (S.length : Int) ≤ i) (hS : ¬ zn_k 3 (S.headD 0) ∧ S.headD 0 ≠ 91) (h : zn q n i D S E p N0 (z_up N 13 37 0)) (hin : i ≤ n) (f : Nat) (o : Int) (hf : 20 * (n - i) + 5 ≤ (f : Int))
    (h1 : ∀ (j : Int) (m : List (Int × Int)) (c : List Int) (N' : z_M), zl q f 3 D i o [] [] = .inr (j, m, c) → q j ≠ 93 → zn q n j D S (E ++ m) p N0 N' → Q z_U N')
    (h2 : ∀ (j : Int) (m : List (Int × Int)) (c : List Int) (N' : z_M), zl q f 3 D i o [] [] = .inr (j, m, c) → q j = 93 → zn_b q n (-1000 - j) N0 N' → Q z_U N')
    (h0 : ∀ (x : Int) (N' : z_M), zl q f 3 D i o [] [] = .inl x → zn_b q n x N0 N' → Q z_U N') : z_Cl 0 (d + 4) 265 [z_R 13] N Q := by
  have z0 := h
  have hT := h.1.1
  have i0 := h.1.2.2.1
  refine re_265 (d + 3) (rg_265_7 (d + 3) ⟨fun c => absurd c (by decide), fun _ => kn_good1 (d + 3) z0.1 (z_y1 ⟨fun c => absurd z0.2.2.2.2.2.2.2.2.2.2.2.2.1 c, fun _ => re_263 (d + 2) ?_⟩)⟩)
  refine (zn_sum d hn p0 f).2.1 3 D i o S E _ (Or.inl rfl) (by omega) D0 D6 hw hS.1 z0 hin (fun j m c P E2 N2 e eE hP z2 => ?_) h0
  have hj0 := zl_end hT f 3 D i o [] [] j m c i0 hin ⟨fun z => by omega, fun z => by omega⟩ e
  have hj := hj0.1 (by decide)
  have hst : zl_jt 4 (q j) = -1 ∧ zl_jt 3 (q j) = -1 := hj0.2.2
  have l1 : (E2.length : Int) + (P.length : Int) = (E.length : Int) + (m.length : Int) := by
    have := congrArg List.length eE
    rw [List.length_append, List.length_append, zn_ops_len] at this
    omega
  refine zn_W1_end d (by omega) z2 (by omega) ⟨zl_jt4.mp hst.1, zl_jt3.mp hst.2⟩ (fun x hx => (hP x hx).imp id (fun z => z.2)) ⟨fun z => hS.1 (Or.inl z), fun z => hS.1 (Or.inr ⟨rfl, z⟩)⟩ p0 (by rw [List.length_append]; omega) (fun c91 c93 N3 z3 => ?_) (fun r er c93 N3 z3 => absurd (by rw [er]; rfl) hS.2) (fun cc N3 b3 => ?_)
  · rw [eE] at z3
    exact h1 j m c N3 e c93 z3
  · rcases cc with z | z
    · exact h2 j m c N3 e z.2 b3
    · exact absurd z.1 hS.2
theorem kn_value (d : Nat) (hn : n ≤ 240) (p0 : 0 ≤ p) (D0 : 0 ≤ D) (D6 : D ≤ 6) (hw : p + (E.length : Int) + (S.length : Int) ≤ i) (hS : ¬ zn_k 3 (S.headD 0) ∧ S.headD 0 ≠ 91) (h : zn q n i D S E p N0 N) (hin : i ≤ n) (f : Nat) (o : Int) (hf : 20 * (n - i) + 5 ≤ (f : Int))
    (h1 : ∀ (j : Int) (m : List (Int × Int)) (c : List Int) (N' : z_M), zl q f 3 D i o [] [] = .inr (j, m, c) → q j ≠ 93 → zn q n j D S (E ++ m) p N0 N' → Q z_U N')
    (h2 : ∀ (j : Int) (m : List (Int × Int)) (c : List Int) (N' : z_M), zl q f 3 D i o [] [] = .inr (j, m, c) → q j = 93 → zn_b q n (-1000 - j) N0 N' → Q z_U N')
    (h0 : ∀ (x : Int) (N' : z_M), zl q f 3 D i o [] [] = .inl x → zn_b q n x N0 N' → Q z_U N') : z_Cl 0 (d + 4) 265 [z_R 13] N Q :=
  kn_value0 d hn p0 D0 D6 hw hS (zn_37 h) hin f o hf h1 h2 h0
end ZLO
