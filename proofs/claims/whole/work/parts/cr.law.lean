/-! LAW: the model's whole call -/
section ZLS
variable {S M N N0 M0 : z_M} {Q R : z_V → z_M → Prop} {q : Int → Int} {n i D p : Int} {E : List (Int × Int)}
/-- the model's clauses as they stay -/
def zn_cc (k : Int) (C : Int → zl_D) (N : z_M) : Prop := zn_fc k C (N 161076) (N 161077) (N 161078) (N 161079) (N 2401080) (N 2401081)
def zl_xm (a : Nat) (j : Int) : Bool := a == 161076 || a == 161077 || a == 161078 || a == 161079 || a == 2401080 || a == 2401081 || (a == 13 && (j == 29 || j == 1))
theorem zl_cl16 {k o j : Int} {D : zl_D} (h : zl_cl q k i o p = .inr (j, D)) : k ≠ 16 := by
  intro c
  unfold zl_cl at h
  rw [if_pos c] at h
  split at h <;> cases h
theorem zn_fc_cg {k : Int} {C : Int → zl_D} {A1 A2 A3 A4 A5 A6 B1 B2 B3 B4 B5 B6 : Int → Int} {p : Int} (h : zn_fc k C A1 A2 A3 A4 A5 A6) (hp : ∀ x : Int, 0 ≤ x → x < k → zl_pe (C x) ≤ p ∧ 0 ≤ (C x).2.1.2) (h1 : ∀ x : Int, 0 ≤ x → x < k → B1 x = A1 x ∧ B2 x = A2 x ∧ B3 x = A3 x ∧ B4 x = A4 x) (h5 : ∀ x : Int, 0 ≤ x → x < p → B5 x = A5 x ∧ B6 x = A6 x) : zn_fc k C B1 B2 B3 B4 B5 B6 := by
  intro x x0 x1
  obtain ⟨u1, u2, u3, u4, u5, u6, u7, u8⟩ := h x x0 x1
  obtain ⟨g1, g2, g3, g4⟩ := h1 x x0 x1
  obtain ⟨b1, b2⟩ := hp x x0 x1
  unfold zl_pe at b1
  have at' : ∀ (A B : Int → Int) (l : List Int) (o : Int), (∀ x : Int, 0 ≤ x → x < p → B x = A x) → 0 ≤ o → o + (l.length : Int) ≤ p → zl_at A o l → zl_at B o l := fun A B l o hh o0 ol g => zl_at_cg l o (fun y a b => hh y (by omega) (by omega)) g
  exact ⟨g1.trans u1, g2.trans u2, g3.trans u3, g4.trans u4, at' _ _ _ _ (fun y a b => (h5 y a b).1) (by omega) (by rw [List.length_map]; omega) u5, at' _ _ _ _ (fun y a b => (h5 y a b).2) (by omega) (by rw [List.length_map]; omega) u6, at' _ _ _ _ (fun y a b => (h5 y a b).1) (by omega) (by rw [List.length_map]; omega) u7, at' _ _ _ _ (fun y a b => (h5 y a b).2) (by omega) (by rw [List.length_map]; omega) u8⟩
theorem kn_lawend (d : Nat) {a k : Int} {C : Int → zl_D} (h : zn_L q n k C p i M0 N) (k0 : 0 ≤ k) (k16 : k ≤ 16) (p0 : 0 ≤ p) (hp : p ≤ 240) (hC : ∀ x : Int, 0 ≤ x → x < k → 0 ≤ (C x).2.1.2)
    (hQ : ∀ N' : z_M, (∀ b, b ≠ 13 → b ≠ 161076 → b ≠ 161077 → b ≠ 161078 → b ≠ 161079 → b ≠ 2401080 → b ≠ 2401081 → N' b = N b) → (∀ j, j ≠ 29 → N' 13 j = N 13 j) → N' 13 29 = k → zn_cc k C N' → Q (z_I k) N') : z_G 0 (d + 8) z_m270 113 [z_R 13, z_I a, z_I 0, z_U] [] N Q := by
  obtain ⟨s, ek, ep, cc, hf, hpe⟩ := h
  have e4 : N 13 4 = 0 := s.2.2.2.2.2.2
  have e5 : N 13 5 = k := ek
  refine rg_270_113 (d + 7) ⟨fun _ => ?_, fun c => by rw [e4] at c; exact absurd c (by decide)⟩
  rw [e5]
  have l13 : ∀ b, b ≠ 13 → (z_up N 13 29 k) b = N b := fun b hb => z_up_ne hb
  have lj : ∀ j, j ≠ 29 → (z_up N 13 29 k) 13 j = N 13 j := fun j hj => z_up_nj hj
  have lm : (z_up N 13 29 k) 13 29 = k := z_up_eq
  show z_G 0 (d + 8) z_m270 135 [z_R 13, z_I a, z_I 0, z_I 0] [] (z_up N 13 29 k) Q
  generalize z_up N 13 29 k = L at l13 lj lm ⊢
  have hk : ((k.toNat : Nat) : Int) = k := by omega
  have hpn : ((p.toNat : Nat) : Int) = p := by omega
  have e5L : L 13 5 = k := (lj 5 (by decide)).trans e5
  have e6L : L 13 6 = p := (lj 6 (by decide)).trans ep
  refine z_lpi (n := k.toNat) (fun _ => ()) (fun x N5 => (∀ b, b ≠ 161076 → b ≠ 161077 → b ≠ 161078 → b ≠ 161079 → N5 b = L b) ∧ ∀ y : Int, 0 ≤ y → y < (x : Int) → N5 161076 y = L 161082 y ∧ N5 161077 y = L 161083 y ∧ N5 161078 y = L 161084 y ∧ N5 161079 y = L 161085 y) (fun N5 _ x => z_G 0 (d + 8) z_m270 135 [z_R 13, z_I a, z_I 0, z_I x] [] N5 Q) L ⟨fun _ _ _ _ _ => rfl, fun y a b => absurd b (by omega)⟩ (fun x N5 hx hN5 nx => ?_) (fun N5 hN5 => ?_)
  · obtain ⟨g1, g2⟩ := hN5
    have f5 : N5 13 5 = k := by rw [g1 13 (by decide) (by decide) (by decide) (by decide)]; exact e5L
    have s1 : (161083 : Nat) ≠ 161076 := by decide
    have s2 : (161084 : Nat) ≠ 161076 := by decide
    have s3 : (161084 : Nat) ≠ 161077 := by decide
    have s4 : (161085 : Nat) ≠ 161076 := by decide
    have s5 : (161085 : Nat) ≠ 161077 := by decide
    have s6 : (161085 : Nat) ≠ 161078 := by decide
    refine rg_270_135 (d + 7) ⟨fun c => absurd c (by omega), fun _ => ?_⟩
    simp only [z_up_ne s1, z_up_ne s2, z_up_ne s3, z_up_ne s4, z_up_ne s5, z_up_ne s6]
    rw [z_wq (by omega), show N5 161082 (x : Int) = L 161082 (x : Int) from by rw [g1 161082 (by decide) (by decide) (by decide) (by decide)], show N5 161083 (x : Int) = L 161083 (x : Int) from by rw [g1 161083 (by decide) (by decide) (by decide) (by decide)], show N5 161084 (x : Int) = L 161084 (x : Int) from by rw [g1 161084 (by decide) (by decide) (by decide) (by decide)], show N5 161085 (x : Int) = L 161085 (x : Int) from by rw [g1 161085 (by decide) (by decide) (by decide) (by decide)]]
    refine ⟨by omega, by omega, by omega, by omega, by omega, by omega, by omega, by omega, by omega, by omega, by omega, by omega, by omega, by omega, by omega, by omega, nx _ ⟨fun b b1 b2 b3 b4 => ?_, fun y y0 y1 => ?_⟩⟩
    · rw [z_up_ne b4, z_up_ne b3, z_up_ne b2, z_up_ne b1]; exact g1 b b1 b2 b3 b4
    · by_cases cy : y = (x : Int)
      · rw [cy]
        refine ⟨by rw [z_up_ne (by decide), z_up_ne (by decide), z_up_ne (by decide), z_up_eq], by rw [z_up_ne (by decide), z_up_ne (by decide), z_up_eq], by rw [z_up_ne (by decide), z_up_eq], z_up_eq⟩
      · obtain ⟨u1, u2, u3, u4⟩ := g2 y y0 (by omega)
        exact ⟨by rw [z_up_ne (by decide), z_up_ne (by decide), z_up_ne (by decide), z_up_nj cy]; exact u1, by rw [z_up_ne (by decide), z_up_ne (by decide), z_up_nj cy, z_up_ne (by decide)]; exact u2, by rw [z_up_ne (by decide), z_up_nj cy, z_up_ne (by decide), z_up_ne (by decide)]; exact u3, by rw [z_up_nj cy, z_up_ne (by decide), z_up_ne (by decide), z_up_ne (by decide)]; exact u4⟩
  · obtain ⟨g1, g2⟩ := hN5
    have f5 : N5 13 5 = k := by rw [g1 13 (by decide) (by decide) (by decide) (by decide)]; exact e5L
    have f6 : N5 13 6 = p := by rw [g1 13 (by decide) (by decide) (by decide) (by decide)]; exact e6L
    refine rg_270_135 (d + 7) ⟨fun _ => ?_, fun c => absurd c (by omega)⟩
    refine z_lpi (n := p.toNat) (fun _ => ()) (fun x N6 => (∀ b, b ≠ 2401080 → b ≠ 2401081 → N6 b = N5 b) ∧ ∀ y : Int, 0 ≤ y → y < (x : Int) → N6 2401080 y = L 2401086 y ∧ N6 2401081 y = L 2401087 y) (fun N6 _ x => z_G 0 (d + 8) z_m270 199 [z_R 13, z_I a, z_I 0, z_I x] [] N6 Q) N5 ⟨fun _ _ _ => rfl, fun y a b => absurd b (by omega)⟩ (fun x N6 hx hN6 nx => ?_) (fun N6 hN6 => ?_)
    · obtain ⟨j1, j2⟩ := hN6
      have w6 : N6 13 6 = p := by rw [j1 13 (by decide) (by decide)]; exact f6
      have s1 : (2401087 : Nat) ≠ 2401080 := by decide
      refine rg_270_199 (d + 7) ⟨fun c => absurd c (by omega), fun _ => ?_⟩
      simp only [z_up_ne s1]
      rw [z_wq (by omega), show N6 2401086 (x : Int) = L 2401086 (x : Int) from by rw [j1 2401086 (by decide) (by decide), g1 2401086 (by decide) (by decide) (by decide) (by decide)], show N6 2401087 (x : Int) = L 2401087 (x : Int) from by rw [j1 2401087 (by decide) (by decide), g1 2401087 (by decide) (by decide) (by decide) (by decide)]]
      refine ⟨by omega, by omega, by omega, by omega, by omega, by omega, by omega, by omega, nx _ ⟨fun b b1 b2 => ?_, fun y y0 y1 => ?_⟩⟩
      · rw [z_up_ne b2, z_up_ne b1]; exact j1 b b1 b2
      · by_cases cy : y = (x : Int)
        · rw [cy]
          exact ⟨by rw [z_up_ne (by decide), z_up_eq], z_up_eq⟩
        · obtain ⟨u1, u2⟩ := j2 y y0 (by omega)
          exact ⟨by rw [z_up_ne (by decide), z_up_nj cy]; exact u1, by rw [z_up_nj cy, z_up_ne (by decide)]; exact u2⟩
    · obtain ⟨j1, j2⟩ := hN6
      have w5 : N6 13 5 = k := by rw [j1 13 (by decide) (by decide)]; exact f5
      have w6 : N6 13 6 = p := by rw [j1 13 (by decide) (by decide)]; exact f6
      refine rg_270_199 (d + 7) ⟨fun _ => ?_, fun c => absurd c (by omega)⟩
      rw [w5]
      refine hQ N6 (fun b b0 b1 b2 b3 b4 b5 b6 => ?_) (fun j hj => ?_) ?_ ?_
      · rw [j1 b b5 b6, g1 b b1 b2 b3 b4, l13 b b0]
      · rw [j1 13 (by decide) (by decide), g1 13 (by decide) (by decide) (by decide) (by decide)]; exact lj j hj
      · rw [j1 13 (by decide) (by decide), g1 13 (by decide) (by decide) (by decide) (by decide)]; exact lm
      · refine zn_fc_cg (p := p) hf (fun x x0 x1 => ⟨hpe x x0 x1, hC x x0 x1⟩) (fun x x0 x1 => ?_) (fun x x0 x1 => ?_)
        · obtain ⟨u1, u2, u3, u4⟩ := g2 x x0 (by omega)
          rw [j1 161076 (by decide) (by decide), j1 161077 (by decide) (by decide), j1 161078 (by decide) (by decide), j1 161079 (by decide) (by decide), u1, u2, u3, u4, l13 _ (by decide), l13 _ (by decide), l13 _ (by decide), l13 _ (by decide)]
          exact ⟨rfl, rfl, rfl, rfl⟩
        · obtain ⟨u1, u2⟩ := j2 x x0 (by omega)
          rw [u1, u2, l13 _ (by decide), l13 _ (by decide)]
          exact ⟨rfl, rfl⟩
theorem km_law (d : Nat) {a : Int} (hS : z_sit S M) (hT : 1 ≤ a → a ≤ 240 → a ≤ S 13 1 → zr_T q a ∧ ∀ i : Int, 0 ≤ i → i < a → z_and (S 2603064 i) 255 = q i)
    (hcv : (∀ f : Int, zl_v q ≠ .inl f) → zz_no M)
    (h1 : 1 ≤ a → a ≤ 240 → a ≤ S 13 1 → ∀ (k : Int) (C : Int → zl_D) (o p : Int) (N : z_M), zl_v q = .inr (k, C, o, p) → zl_all q a k C → 1 ≤ k → k ≤ 16 → zc_x zl_xm M N → zz_no N → N 13 1 = 0 → N 13 29 = k → zn_cc k C N → Q (z_I k) N)
    (h0 : 1 ≤ a → a ≤ 240 → a ≤ S 13 1 → ∀ (f : Int) (N : z_M), zl_v q = .inl f → z_sit (z_up S 13 1 0) N → Q (z_I f) N)
    (hn : ¬ (1 ≤ a ∧ a ≤ 240 ∧ a ≤ S 13 1) → Q (z_I (-1)) M) : z_Cl 0 (d + 8) 270 [z_R 13, z_I a] M Q := by
  have et : M 13 1 = S 13 1 := z_ff hS 13 1 rfl
  refine re_270 (d + 7) (km_lies (d + 7) (fun a1 a2 => z_y1 ⟨fun a3 => re_234 (d + 7) ?_, fun c => rg_270_20 (d + 7) (hn (fun z => by rw [et] at c; omega))⟩) (fun c => z_n1 (rg_270_20 (d + 7) (hn (fun z => by omega)))))
  rw [et] at a3
  obtain ⟨hq, hqt⟩ := hT a1 a2 a3
  have h1' := h1 a1 a2 a3
  have h0' := h0 a1 a2 a3
  have st0 : zm_st q a 0 0 (zm_bg M a) := zm_bg_st hq (fun j x y => by rw [z_fn hS 2603064 rfl]; exact hqt j x y)
  have sit0 : z_sit (z_up S 13 1 0) (zm_bg M a) := zm_bg_sit hS
  have e0 : z_up (z_up (z_up (z_up M 13 1 0) 13 2 0) 13 3 a) 13 4 0 = zm_bg M a := rfl
  rw [e0]
  have bg13 : ∀ k, k ≠ 13 → zm_bg M a k = M k := fun k hk => by unfold zm_bg; rw [z_up_ne hk, z_up_ne hk, z_up_ne hk, z_up_ne hk]
  have bgj : ∀ j, z_cor 13 j = true → j ≠ 1 → zm_bg M a 13 j = M 13 j := fun j hj h2 => by
    unfold zm_bg
    rw [z_up_nj (fun c => by rw [c] at hj; cases hj), z_up_nj (fun c => by rw [c] at hj; cases hj), z_up_nj (fun c => by rw [c] at hj; cases hj), z_up_nj h2]
  have bgt : zm_bg M a 13 1 = 0 := by unfold zm_bg; rw [z_up_nj (by decide), z_up_nj (by decide), z_up_nj (by decide), z_up_eq]
  generalize zm_bg M a = B at st0 sit0 bg13 bgj bgt
  -- a fault's way out
  have out113 : ∀ (l2 x : Int) (N : z_M), zl_v q = .inl x → zn_w q a x B N → z_G 0 (d + 8) z_m270 113 [z_R 13, z_I a, z_I l2, z_U] [] N Q := by
    intro l2 x N e w
    obtain ⟨x0, ⟨j, sj⟩, c⟩ := w
    have e4 : N 13 4 = x := sj.2.2.2.2.2.2
    refine rg_270_113 (d + 7) ⟨fun z => absurd z (by omega), fun _ => ?_⟩
    rw [e4]
    exact h0' x N e (zc_sit sit0 c)
  have out39 : ∀ (l2 x : Int) (N : z_M), zl_v q = .inl x → zn_w q a x B N → z_G 0 (d + 8) z_m270 39 [z_R 13, z_I a, z_I l2, z_U] [] N Q := by
    intro l2 x N e w
    obtain ⟨x0, ⟨j, sj⟩, c⟩ := id w
    exact rg_270_39 (d + 7) ⟨fun _ => out113 l2 x N e w, fun _ => kn_good0 (d + 7) (by omega) sj (z_n1 (out113 l2 x N e w))⟩
  -- the good way out
  have fin : ∀ (k : Int) (C : Int → zl_D) (o p i : Int) (N : z_M), zl_v q = .inr (k, C, o, p) → k ≤ 16 → 0 ≤ p → zn_L q a k C p i B N → z_G 0 (d + 8) z_m270 113 [z_R 13, z_I a, z_I 0, z_U] [] N Q := by
    intro k C o p i N e k16 p0 hL
    have hgo := e
    unfold zl_v at hgo
    obtain ⟨k1, ha, _, hpa⟩ := zl_go_all hq 17 0 _ 0 0 0 k C o p (by decide) (by omega) (by decide) (by decide) (by decide) (by decide) (by decide) (fun x a b => absurd b (by omega)) hgo
    refine kn_lawend d hL (by omega) k16 p0 (by omega) (fun x x0 x1 => (ha x x0 x1).2.2.2.1) (fun N' n1 n2 n3 n4 => ?_)
    have cB : zc_c B N := hL.2.2.2.1
    obtain ⟨v1, v2⟩ := hcv (fun f z => by rw [e] at z; cases z)
    have chE : ∀ b, z_cch b = true → N' b = M b := fun b hb => by
      have ne : ∀ c : Nat, z_cch c = false → b ≠ c := fun c hc2 e => by rw [e, hc2] at hb; cases hb
      rw [n1 b (ne _ rfl) (ne _ rfl) (ne _ rfl) (ne _ rfl) (ne _ rfl) (ne _ rfl) (ne _ rfl), cB.2 b hb, bg13 b (ne _ rfl)]
    refine h1' k C o p N' e ha (by omega) k16 (fun b j hb hx => ?_) ⟨fun w a b => by rw [chE _ rfl, chE _ rfl, chE _ rfl]; exact v1 w a b, fun w a b => by rw [chE _ rfl]; exact v2 w a b⟩ ?_ n3 n4
    · unfold zl_xm at hx
      simp only [Bool.or_eq_false_iff, beq_eq_false_iff_ne] at hx
      obtain ⟨⟨⟨⟨⟨⟨x1, x2⟩, x3⟩, x4⟩, x5⟩, x6⟩, x7⟩ := hx
      by_cases cb : b = 13
      · subst cb
        simp only [beq_self_eq_true, Bool.true_and, Bool.or_eq_false_iff, beq_eq_false_iff_ne] at x7
        rw [n2 j x7.1, cB.1 13 j hb]
        exact bgj j hb x7.2
      · rw [n1 b cb x1 x2 x3 x4 x5 x6, cB.1 b j hb, bg13 b cb]
    · rw [n2 _ (by decide), cB.1 13 _ rfl]; exact bgt
  have key : ∀ (f : Nat) (k : Int) (C : Int → zl_D) (i o p : Int) (N : z_M), k + (f : Int) = 17 → 0 ≤ k → k ≤ 16 → 0 ≤ o → o ≤ i → 0 ≤ p → p ≤ i → i ≤ a → zn_L q a k C p i B N → zl_go q f k C i o p = zl_v q → z_G 0 (d + 8) z_m270 39 [z_R 13, z_I a, z_I 1, z_U] [] N Q := by
    intro f
    induction f with
    | zero => intro k C i o p N hk _ k16 _ _ _ _ _ _ _; exact absurd hk (by omega)
    | succ f ih =>
      intro k C i o p N hk k0 k16 o0 oi p0 pi ia hL e
      have i0 : 0 ≤ i := by omega
      unfold zl_go at e
      refine rg_270_39 (d + 7) ⟨fun c => absurd c (by decide), fun _ => kn_good1 (d + 7) hL.1 (z_y1 (kn_clause d a2 (o := o) hL k0 k16 p0 pi ia (fun j D N2 e2 hL2 => ?_) (fun x N2 e2 w => ?_)))⟩
      · rw [e2] at e
        dsimp only at e
        obtain ⟨s1, s2, s3, s4, s5, s6, s7, s8, s9⟩ := zl_cl_src hq i0 ia e2
        have k15 := zl_cl16 e2
        have s := hL2.1
        have f2 : N2 13 2 = j := s.2.2.2.2.2.1
        have f3 : N2 13 3 = a := s.2.2.2.2.1
        refine kn_good1 (d + 7) s (z_y1 ⟨fun c => ?_, fun c => ?_⟩)
        · rw [f2, f3] at c
          rw [if_pos ((zr_T_e hq (by omega)).mpr c)] at e
          exact rg_270_76 (d + 7) (rg_270_77 (d + 7) ⟨fun _ => rg_270_39 (d + 7) ⟨fun _ => fin _ _ _ _ j N2 e.symm (by omega) (by omega) hL2, fun z => absurd rfl z⟩, fun z => absurd rfl z⟩)
        · rw [f2, f3] at c
          rw [if_neg (fun z => by have := (zr_T_e hq (by omega)).mp z; omega)] at e
          refine rg_270_77 (d + 7) ⟨fun z => absurd z (by decide), fun _ => kn_here (d + 7) s (z_viI ⟨fun c59 => ?_, fun c59 => ?_⟩)⟩
          · have e59 : q j = 59 := (zm_h_s (by decide)).mp c59
            rw [if_pos e59] at e
            refine rg_270_100 (d + 7) ?_
            rw [f2, z_w_id (x := j + 1) (by omega) (by omega)]
            have s' : zm_st q a (j + 1) 0 (z_up N2 13 2 (j + 1)) := zm_st_pl s (by omega) (by omega)
            obtain ⟨_, y2, y3, y4, y5, y6⟩ := hL2
            refine ih (k + 1) _ (j + 1) (zl_oe D) (zl_pe D) (z_up N2 13 2 (j + 1)) (by omega) (by omega) (by omega) (by omega) (by omega) (by omega) (by omega) (by omega) ⟨s', by rw [z_up_nj (by decide)]; exact y2, by rw [z_up_nj (by decide)]; exact y3, zc_tr y4 (zc_up rfl rfl), ?_, y6⟩ e
            rw [z_up_ne (by decide), z_up_ne (by decide), z_up_ne (by decide), z_up_ne (by decide), z_up_ne (by decide), z_up_ne (by decide)]
            exact y5
          · have e59 : q j ≠ 59 := fun z => c59 ((zm_h_s (by decide)).mpr z)
            rw [if_neg e59] at e
            rw [f2]
            refine kn_wrongs (d + 7) s (by decide) (by omega) (fun N3 m3 s3 => ?_)
            rw [zm_f0, show -1000 * 1 - j = -1000 - j from by omega] at s3
            refine rg_270_100 (d + 7) ?_
            have g2 : N3 13 2 = j := s3.2.2.2.2.2.1
            rw [g2, z_w_id (x := j + 1) (by omega) (by omega)]
            exact out39 1 _ _ e.symm ⟨by omega, ⟨j + 1, zm_st_pl s3 (by omega) (by omega)⟩, zc_tr hL2.2.2.2.1 (zc_tr (zc_mm m3) (zc_up rfl rfl))⟩
      · rw [e2] at e
        obtain ⟨x0, ⟨j, sj⟩, c⟩ := id w
        exact kn_good0 (d + 7) (by omega) sj (z_n1 (rg_270_76 (d + 7) (rg_270_77 (d + 7) ⟨fun _ => out39 0 x N2 e.symm w, fun z => absurd rfl z⟩)))
  have sA : zm_st q a 0 0 (z_up (z_up B 13 5 0) 13 6 0) := zm_st_of st0 ⟨by rw [z_up_nj (by decide), z_up_nj (by decide)], by rw [z_up_nj (by decide), z_up_nj (by decide)], by rw [z_up_nj (by decide), z_up_nj (by decide)]⟩ (by rw [z_up_ne (by decide), z_up_ne (by decide)])
  exact key 17 0 _ 0 0 0 _ (by decide) (by decide) (by decide) (by decide) (by decide) (by decide) (by decide) (by omega) ⟨sA, by rw [z_up_nj (by decide), z_up_eq], z_up_eq, zc_tr (zc_up rfl rfl) (zc_up rfl rfl), fun x x0 x1 => absurd x1 (by omega), fun x x0 x1 => absurd x1 (by omega)⟩ rfl
end ZLS
