/-! LAW: the model's clause -/
section ZLR
variable {N N0 M0 : z_M} {Q R : z_V → z_M → Prop} {q : Int → Int} {n i D p : Int} {S : List Int} {E : List (Int × Int)}
theorem zn_self (h : zm_st q n i 0 N) (hD : N 13 7 = D) (hs : N 13 8 = 0) (hc : N 13 6 = p) (hb : N 13 37 = 0) : zn q n i D [] [] p N N :=
  ⟨h, hD, hs, trivial, ⟨by rw [hc]; simp only [List.length_nil]; omega, trivial, trivial⟩, zc_rf, fun _ _ => ⟨rfl, rfl⟩, rfl, rfl, rfl, rfl, rfl, hb, rfl⟩
theorem kn_condition (d : Nat) (hn : n ≤ 240) (p0 : 0 ≤ p) (hp : p ≤ i) (s : zm_st q n i 0 N) (ho : N 13 7 = 0) (hs : N 13 8 = 0) (hc : N 13 6 = p) (hb : N 13 37 = 0) (hin : i ≤ n) (f : Nat) (o : Int) (hf : 20 * (n - i) + 8 ≤ (f : Int))
    (hx : q i ≠ 40 → ∀ N' : z_M, zn_b q n (-1000 - i) (z_up N 13 36 0) N' → Q z_U N')
    (h1 : q i = 40 → ∀ (j : Int) (m : List (Int × Int)) (c : List Int) (N' : z_M), zl q f 0 1 (i + 1) o [] [] = .inr (j, m, c) → q j = 41 → zn q n (j + 1) 0 [] m p (z_up N 13 36 0) N' → Q z_U (z_up N' 13 36 1))
    (h2 : q i = 40 → ∀ (j : Int) (m : List (Int × Int)) (c : List Int) (N' : z_M), zl q f 0 1 (i + 1) o [] [] = .inr (j, m, c) → q j ≠ 41 → zn_b q n (-1000 - j) (z_up N 13 36 0) N' → Q z_U N')
    (h0 : q i = 40 → ∀ (x : Int) (N' : z_M), zl q f 0 1 (i + 1) o [] [] = .inl x → zn_b q n x (z_up N 13 36 0) N' → Q z_U N') : z_Cl 0 (d + 6) 268 [z_R 13] N Q := by
  have hT := s.1
  have i0 := s.2.2.1
  have s0 : zm_st q n i 0 (z_up N 13 36 0) := zm_st_of s ⟨z_up_nj (by decide), z_up_nj (by decide), z_up_nj (by decide)⟩ (z_up_ne (by decide))
  have z0 : zn q n i 0 [] [] p (z_up N 13 36 0) (z_up N 13 36 0) := zn_self s0 (by rw [z_up_nj (by decide)]; exact ho) (by rw [z_up_nj (by decide)]; exact hs) (by rw [z_up_nj (by decide)]; exact hc) (by rw [z_up_nj (by decide)]; exact hb)
  have h36 : (z_up N 13 36 0) 13 36 = 0 := z_up_eq
  have e36 : z_up N 13 36 0 = z_up N 13 36 0 := rfl
  refine re_268 (d + 5) ?_
  rw [e36]
  generalize z_up N 13 36 0 = N0 at s0 z0 h36 hx h1 h2 h0 ⊢
  refine kn_here (d + 5) s0 (z_viI ⟨fun c => kn_good1 (d + 5) s0 (z_y2 (kn_opens (d + 4) z0 (by decide) (by omega) (by decide) (by decide) (fun _ N1 z1 => ?_) (fun z => absurd z (by decide)))), fun c => ?_⟩)
  · have e40 : q i = 40 := (zm_h_s (by decide)).mp c
    have hi := zn_lt hT i0 (by omega)
    rw [c, show (0 : Int) + 1 = 1 from rfl] at z1
    refine rg_268_37 (d + 5) (kn_good1 (d + 5) z1.1 (z_y1 ⟨fun w => absurd (zn_iso z1 h36) w, fun _ => ⟨fun w => absurd w (by decide), fun _ => re_266 (d + 4) ?_⟩⟩))
    refine (zn_con d hn p0 h36 f).2.1 0 1 (i + 1) o [40] [] N1 (Or.inl rfl) (by omega) (by decide) (by decide) (by simp only [List.length_cons, List.length_nil]; omega) (zn_B_c (Or.inr (Or.inl rfl))) (by decide) (by unfold zn_c; simp only [List.headD_cons]; omega) z1 (by omega) (fun j m cc P E2 N2 e eE hP2 z2 => ?_) (fun j m cc N2 e c93 b2 => h2 e40 j m cc N2 e (by omega) b2) (fun x N2 e b2 => h0 e40 x N2 e b2)
    have hj0 := zl_end hT f 0 1 (i + 1) o [] [] j m cc (by omega) (by omega) ⟨fun z => by omega, fun z => by omega⟩ e
    have hj := hj0.1 (by decide)
    have hst : zl_jt 1 (q j) = -1 ∧ zl_jt 0 (q j) = -1 := hj0.2.2
    have l1 : (E2.length : Int) + (P.length : Int) = (m.length : Int) := by
      have := congrArg List.length eE
      rw [List.length_append, List.length_append, zn_ops_len, List.length_nil] at this
      omega
    by_cases c41 : q j = 41
    · refine zn_G_cl d z2 (by decide) (by omega) c41 hP2 p0 (by simp only [List.length_append, List.length_cons, List.length_nil]; omega) (fun _ N3 z3 => ?_) (fun w => absurd rfl w)
      rw [eE, List.nil_append, show (1 : Int) - 1 = 0 from rfl] at z3
      exact h1 e40 j m cc N3 e c41 z3
    · exact zn_G_no d z2 (by omega) ⟨zl_jt1.mp hst.1, zl_jt0.mp hst.2, c41⟩ (fun N3 b3 => h2 e40 j m cc N3 e c41 b3)
  · have e40 : q i ≠ 40 := fun z => c ((zm_h_s (by decide)).mpr z)
    have f2 : N0 13 2 = i := s0.2.2.2.2.2.1
    rw [f2]
    refine kn_wrongs (d + 5) s0 (by decide) (by omega) (fun N3 m3 s3 => ?_)
    rw [zm_f0, show -1000 * 1 - i = -1000 - i from by omega] at s3
    exact kn_good0 (d + 5) (by omega) s3 (z_n2 (hx e40 N3 (zn_bad z0 m3 (by omega) s3)))
/-- the model's clauses as they are being made -/
def zn_fc (k : Int) (C : Int → zl_D) (A1 A2 A3 A4 A5 A6 : Int → Int) : Prop := ∀ x : Int, 0 ≤ x → x < k →
  A1 x = (C x).1 ∧ A2 x = (C x).2.1.2 ∧ A3 x = (C x).2.1.2 + ((C x).2.2.1.1.length : Int) ∧ A4 x = zl_pe (C x) ∧
  zl_at A5 (C x).2.1.2 ((C x).2.2.1.1.map (fun z => z.1)) ∧ zl_at A6 (C x).2.1.2 ((C x).2.2.1.1.map (fun z => z.2)) ∧
  zl_at A5 ((C x).2.1.2 + ((C x).2.2.1.1.length : Int)) ((C x).2.2.2.1.map (fun z => z.1)) ∧ zl_at A6 ((C x).2.1.2 + ((C x).2.2.1.1.length : Int)) ((C x).2.2.2.1.map (fun z => z.2))
def zn_L (q : Int → Int) (n k : Int) (C : Int → zl_D) (p i : Int) (M0 N : z_M) : Prop :=
  zm_st q n i 0 N ∧ N 13 5 = k ∧ N 13 6 = p ∧ zc_c M0 N ∧ zn_fc k C (N 161082) (N 161083) (N 161084) (N 161085) (N 2401086) (N 2401087) ∧ ∀ x : Int, 0 ≤ x → x < k → zl_pe (C x) ≤ p
/-- a fault behind which nothing is read -/
def zn_w (q : Int → Int) (n x : Int) (M0 N : z_M) : Prop := x < 0 ∧ (∃ j : Int, zm_st q n j x N) ∧ zc_c M0 N
theorem zl_at_b {A B : Int → Int} {l : List Int} {o b : Int} (h : ∀ x : Int, x < b → B x = A x) (hb : o + (l.length : Int) ≤ b) (g : zl_at A o l) : zl_at B o l := zl_at_cg l o (fun x _ y => h x (by omega)) g
theorem kn_clause (d : Nat) (hn : n ≤ 240) {k o : Int} {C : Int → zl_D} (h : zn_L q n k C p i M0 N) (k0 : 0 ≤ k) (k16 : k ≤ 16) (p0 : 0 ≤ p) (hp : p ≤ i) (hin : i ≤ n)
    (h1 : ∀ (j : Int) (D : zl_D) (N' : z_M), zl_cl q k i o p = .inr (j, D) → zn_L q n (k + 1) (zl_put C k D) (zl_pe D) j M0 N' → Q z_U N')
    (h0 : ∀ (x : Int) (N' : z_M), zl_cl q k i o p = .inl x → zn_w q n x M0 N' → Q z_U N') : z_Cl 0 (d + 7) 269 [z_R 13] N Q := by
  obtain ⟨s, ek, ep, cc, hf, hpe⟩ := h
  have hT := s.1
  have i0 := s.2.2.1
  have g2 : N 13 2 = i := s.2.2.2.2.2.1
  have g5 : N 13 5 = k := ek
  unfold zl_cl at h1 h0
  have bad65 : ∀ (l1 x j : Int) (N' : z_M), x < 0 → zm_st q n j x N' → Q z_U N' → z_G 0 (d + 6 + 1) z_m269 65 [z_R 13, z_I l1] [] N' Q := fun l1 x j N' x0 s2 hq => rg_269_65 (d + 6) (kn_good0 (d + 6) (by omega) s2 (z_n2 hq))
  have go : zl_lt (q i) → z_G 0 (d + 6 + 1) z_m269 47 [z_R 13, z_I (zm_h q i)] [] N Q := by
    intro hl
    have eh : zm_h q i = q i := by unfold zm_h; rw [if_neg (by omega)]
    have hi := zn_lt hT i0 (by omega)
    rw [eh, if_neg (fun z => z hl)] at *
    refine rg_269_47 (d + 6) ⟨fun c16 => ?_, fun c16 => ?_⟩
    · have hk : k < 16 := by rw [g5] at c16; omega
      rw [if_neg (by omega)] at h1 h0
      refine rg_269_65 (d + 6) (kn_good1 (d + 6) s (z_y2 ?_))
      have e1 : (z_up N 161082 k (q i)) 13 5 = k := by rw [z_up_ne (by decide)]; exact g5
      have e2 : (z_up N 161082 k (q i)) 13 6 = p := by rw [z_up_ne (by decide)]; exact ep
      have e3 : (z_up (z_up N 161082 k (q i)) 161083 k p) 13 2 = i := by rw [z_up_ne (by decide), z_up_ne (by decide)]; exact g2
      rw [g5, e1, e2, e3, z_w_id (x := i + 1) (by omega) (by omega)]
      refine ⟨k0, hk, k0, hk, ?_⟩
      have fA : ∀ a, a ≠ 13 → a ≠ 161082 → a ≠ 161083 → (z_up (z_up (z_up (z_up (z_up N 161082 k (q i)) 161083 k p) 13 2 (i + 1)) 13 8 0) 13 7 0) a = N a := fun a x1 x2 x3 => by rw [z_up_ne x1, z_up_ne x1, z_up_ne x1, z_up_ne x3, z_up_ne x2]
      have fL : (z_up (z_up (z_up (z_up (z_up N 161082 k (q i)) 161083 k p) 13 2 (i + 1)) 13 8 0) 13 7 0) 161082 = zt_put (N 161082) k (q i) := by
        rw [z_up_ne (by decide), z_up_ne (by decide), z_up_ne (by decide), z_up_ne (by decide)]
        funext x
        unfold zt_put
        by_cases cx : x = k
        · rw [if_pos cx, cx, z_up_eq]
        · rw [if_neg cx, z_up_nj cx]
      have fS : (z_up (z_up (z_up (z_up (z_up N 161082 k (q i)) 161083 k p) 13 2 (i + 1)) 13 8 0) 13 7 0) 161083 = zt_put (N 161083) k p := by
        rw [z_up_ne (by decide), z_up_ne (by decide), z_up_ne (by decide)]
        funext x
        unfold zt_put
        by_cases cx : x = k
        · rw [if_pos cx, cx, z_up_eq]
        · rw [if_neg cx, z_up_nj cx, z_up_ne (by decide)]
      have f5 : (z_up (z_up (z_up (z_up (z_up N 161082 k (q i)) 161083 k p) 13 2 (i + 1)) 13 8 0) 13 7 0) 13 5 = k := by
        rw [z_up_nj (by decide), z_up_nj (by decide), z_up_nj (by decide), z_up_ne (by decide), z_up_ne (by decide)]; exact ek
      have f6 : (z_up (z_up (z_up (z_up (z_up N 161082 k (q i)) 161083 k p) 13 2 (i + 1)) 13 8 0) 13 7 0) 13 6 = p := by
        rw [z_up_nj (by decide), z_up_nj (by decide), z_up_nj (by decide), z_up_ne (by decide), z_up_ne (by decide)]; exact ep
      have f7 : (z_up (z_up (z_up (z_up (z_up N 161082 k (q i)) 161083 k p) 13 2 (i + 1)) 13 8 0) 13 7 0) 13 7 = 0 := z_up_eq
      have f8 : (z_up (z_up (z_up (z_up (z_up N 161082 k (q i)) 161083 k p) 13 2 (i + 1)) 13 8 0) 13 7 0) 13 8 = 0 := by rw [z_up_nj (by decide), z_up_eq]
      have fs : zm_st q n (i + 1) 0 (z_up (z_up (z_up (z_up (z_up N 161082 k (q i)) 161083 k p) 13 2 (i + 1)) 13 8 0) 13 7 0) := by
        refine zm_st_of (zm_st_pl (zm_st_of s (N' := z_up (z_up N 161082 k (q i)) 161083 k p) ⟨by rw [z_up_ne (by decide), z_up_ne (by decide)], by rw [z_up_ne (by decide), z_up_ne (by decide)], by rw [z_up_ne (by decide), z_up_ne (by decide)]⟩ (by rw [z_up_ne (by decide), z_up_ne (by decide)])) (i' := i + 1) (by omega) (by omega)) ⟨by rw [z_up_nj (by decide), z_up_nj (by decide)], by rw [z_up_nj (by decide), z_up_nj (by decide)], by rw [z_up_nj (by decide), z_up_nj (by decide)]⟩ (by rw [z_up_ne (by decide), z_up_ne (by decide)])
      have fc : zc_c N (z_up (z_up (z_up (z_up (z_up N 161082 k (q i)) 161083 k p) 13 2 (i + 1)) 13 8 0) 13 7 0) := zc_tr (zc_up rfl rfl) (zc_tr (zc_up rfl rfl) (zc_tr (zc_up rfl rfl) (zc_tr (zc_up rfl rfl) (zc_up rfl rfl))))
      show z_Cl 0 (d + 6) 265 [z_R 13] (z_up (z_up (z_up (z_up (z_up N 161082 k (q i)) 161083 k p) 13 2 (i + 1)) 13 8 0) 13 7 0) _
      generalize z_up (z_up (z_up (z_up (z_up N 161082 k (q i)) 161083 k p) 13 2 (i + 1)) 13 8 0) 13 7 0 = A at fA fL fS f5 f6 f7 f8 fs fc ⊢
      have zA : zn q n (i + 1) 0 [] [] p (z_up A 13 37 0) (z_up A 13 37 0) := zn_self (zm_st_of fs ⟨z_up_nj (by decide), z_up_nj (by decide), z_up_nj (by decide)⟩ (z_up_ne (by decide))) (by rw [z_up_nj (by decide)]; exact f7) (by rw [z_up_nj (by decide)]; exact f8) (by rw [z_up_nj (by decide)]; exact f6) z_up_eq
      have cA : zc_c M0 (z_up A 13 37 0) := zc_tr cc (zc_tr fc (zc_up rfl rfl))
      have aA : ∀ a, a ≠ 13 → (z_up A 13 37 0) a = A a := fun a x => z_up_ne x
      have a5 : (z_up A 13 37 0) 13 5 = k := by rw [z_up_nj (by decide)]; exact f5
      generalize hB : z_up A 13 37 0 = B at zA cA aA a5
      have l0 : ((([] : List (Int × Int)).length : Nat) : Int) = 0 := rfl
      -- what a fault leaves
      have badE : ∀ (x : Int) (N2 N3 : z_M), zc_c M0 N2 → N2 13 5 = k → zn_b q n x N2 N3 → Q z_U (z_up (z_up N3 161085 k (N3 13 6)) 13 5 (k + 1)) → z_G 0 (d + 6 + 1) z_m269 144 [z_R 13, z_I (q i)] [] N3 Q := by
        intro x N2 N3 c2 k2 b hq
        have e5 : N3 13 5 = k := b.2.2.2.trans k2
        have e5b : (z_up N3 161085 k (N3 13 6)) 13 5 = k := by rw [z_up_ne (by decide)]; exact e5
        refine rg_269_144 (d + 6) ?_
        rw [e5, e5b, z_w_id (x := k + 1) (by omega) (by omega)]
        exact ⟨k0, hk, hq⟩
      have badW : ∀ (x : Int) (N2 N3 : z_M), zc_c M0 N2 → zn_b q n x N2 N3 → zn_w q n x M0 (z_up (z_up N3 161085 k (N3 13 6)) 13 5 (k + 1)) := by
        intro x N2 N3 c2 b
        obtain ⟨x0, ⟨j, sj⟩, cb, _⟩ := b
        exact ⟨x0, ⟨j, zm_st_of sj ⟨by rw [z_up_nj (by decide), z_up_ne (by decide)], by rw [z_up_nj (by decide), z_up_ne (by decide)], by rw [z_up_nj (by decide), z_up_ne (by decide)]⟩ (by rw [z_up_ne (by decide), z_up_ne (by decide)])⟩, zc_tr c2 (zc_tr cb (zc_tr (zc_up rfl rfl) (zc_up rfl rfl)))⟩
      -- a fault in the value
      have badV : ∀ (x : Int) (N2 : z_M), zn_b q n x B N2 → (∀ N' : z_M, zn_w q n x M0 N' → Q z_U N') → ((0 : Int) ≤ (N2 13 5) ∧ (N2 13 5) < (16 : Int) ∧ z_Cl 0 (d + 6) 231 [z_R 13] (z_up N2 161084 (N2 13 5) (N2 13 6)) (fun v3 M3 => z_vi v3 fun x3 => ((x3 = 0 → z_G 0 (d + 6 + 1) z_m269 144 [z_R 13, z_I (q i)] [] M3 Q) ∧ (¬ x3 = 0 → z_Cl 0 (d + 6) 268 [z_R 13] M3 (fun _ M4 => z_G 0 (d + 6 + 1) z_m269 144 [z_R 13, z_I (q i)] [] M4 Q))))) := by
        intro x N2 b hq
        have e5 : N2 13 5 = k := b.2.2.2.trans a5
        have b2 : zn_b q n x B (z_up N2 161084 k (N2 13 6)) := by
          obtain ⟨x0, ⟨j, sj⟩, cb, eb⟩ := b
          exact ⟨x0, ⟨j, zm_st_of sj ⟨by rw [z_up_ne (by decide)], by rw [z_up_ne (by decide)], by rw [z_up_ne (by decide)]⟩ (by rw [z_up_ne (by decide)])⟩, zc_tr cb (zc_up rfl rfl), by rw [z_up_ne (by decide)]; exact eb⟩
        rw [e5]
        obtain ⟨x0, ⟨j, sj⟩, _⟩ := id b2
        exact ⟨k0, hk, kn_good0 (d + 6) (by omega) sj (z_n1 (badE x B _ cA a5 b2 (hq _ (badW x B _ cA b2))))⟩
      refine kn_value0 (N0 := B) (D := 0) (S := []) (E := []) (i := i + 1) (p := p) (d + 2) hn p0 (by decide) (by decide) (by rw [List.length_nil, List.length_nil]; omega) ⟨by unfold zn_k zn_t zn_p; simp only [List.headD_nil]; omega, by decide⟩ (by rw [hB]; exact zA) (by omega) 5000 o (by omega) (fun j m1 c1 N2 e c93 z2 => ?_) (fun j m1 c1 N2 e c93 b2 => ?_) (fun x N2 e b2 => ?_)
      · rw [e] at h1 h0
        dsimp only at h1 h0
        have hj0 := zl_end hT 5000 3 0 (i + 1) o [] [] j m1 c1 (by omega) (by omega) ⟨fun z => by omega, fun z => by omega⟩ e
        have hj := hj0.1 (by decide)
        rw [List.nil_append] at z2
        obtain ⟨s2, o2, t2, _, ⟨y1, y2, y3⟩, w1, w2, w3, w4, w5, w6, w7, w8, w9⟩ := z2
        have e5 : N2 13 5 = k := w7.trans a5
        have e6 : N2 13 6 = p + (m1.length : Int) := y1
        have e40 : (∀ x : Int, q j ≠ 40 → x = -1000 - j → ∀ N' : z_M, zn_w q n x M0 N' → Q z_U N') := fun x c ex N' hw' => by
          rw [if_pos c] at h0
          rw [ex] at hw'
          exact h0 _ N' rfl hw'
        rw [e5, e6]
        have b1 : ∀ a, a ≠ 161084 → (z_up N2 161084 k (p + (m1.length : Int))) a = N2 a := fun a x => z_up_ne x
        have b2 : (z_up N2 161084 k (p + (m1.length : Int))) 161084 = zt_put (N2 161084) k (p + (m1.length : Int)) := by
          funext x
          unfold zt_put
          by_cases cx : x = k
          · rw [if_pos cx, cx, z_up_eq]
          · rw [if_neg cx, z_up_nj cx]
        have bc : zc_c N2 (z_up N2 161084 k (p + (m1.length : Int))) := zc_up rfl rfl
        have es : z_up N2 161084 k (p + (m1.length : Int)) = z_up N2 161084 k (p + (m1.length : Int)) := rfl
        rw [es]
        generalize z_up N2 161084 k (p + (m1.length : Int)) = N3 at b1 b2 bc ⊢
        have q13 : ∀ y, N3 13 y = N2 13 y := fun y => by rw [b1 13 (by decide)]
        have s3 : zm_st q n j 0 N3 := zm_st_of s2 ⟨q13 _, q13 _, q13 _⟩ (b1 _ (by decide))
        have c3 : zc_c M0 N3 := zc_tr cA (zc_tr w1 bc)
        have k3 : N3 13 5 = k := (q13 _).trans e5
        have c30 : zc_c M0 (z_up N3 13 36 0) := zc_tr c3 (zc_up rfl rfl)
        have k30 : (z_up N3 13 36 0) 13 5 = k := by rw [z_up_nj (by decide)]; exact k3
        refine ⟨k0, hk, kn_good1 (d + 6) s3 (z_y1 (kn_condition d hn (p := p + (m1.length : Int)) (by omega) (by omega) s3 ((q13 _).trans o2) ((q13 _).trans t2) ((q13 _).trans e6) ((q13 _).trans w8) (by omega) 5000 (o + (c1.length : Int)) (by omega) (fun cx N4 b4 => ?_) (fun c40 j2 m2 c2 N4 e2 c41 z4 => ?_) (fun c40 j2 m2 c2 N4 e2 c41 b4 => ?_) (fun c40 x N4 e2 b4 => ?_)))⟩
        · exact badE _ _ N4 c30 k30 b4 (e40 _ cx rfl _ (badW _ _ N4 c30 b4))
        · rw [if_neg (fun z => z c40), e2] at h1
          dsimp only at h1
          rw [if_neg (fun z => z c41)] at h1
          have hj2 := (zl_end hT 5000 0 1 (j + 1) _ [] [] j2 m2 c2 (by omega) (by have := zn_lt hT (i := j) (by omega) (by omega); omega) ⟨fun z => by omega, fun z => by omega⟩ e2).1 (by decide)
          have hjn := zn_lt hT (i := j2) (by omega) (by omega)
          obtain ⟨s4, o4, t4, _, ⟨x1, x2, x3⟩, v1, v2, v3, v4, v5, v6, v7, v8, v9⟩ := z4
          have r1 : ∀ a, a ≠ 13 → (z_up N3 13 36 0) a = N3 a := fun a x => z_up_ne x
          have g5 : (z_up N4 13 36 1) 13 5 = k := by rw [z_up_nj (by decide)]; exact v7.trans k30
          have g6 : (z_up N4 13 36 1) 13 6 = p + (m1.length : Int) + (m2.length : Int) := by rw [z_up_nj (by decide)]; exact x1
          have g7 : (z_up (z_up N4 13 36 1) 161085 k (p + (m1.length : Int) + (m2.length : Int))) 13 5 = k := by rw [z_up_ne (by decide)]; exact g5
          refine rg_269_144 (d + 6) ?_
          rw [g5, g6, g7, z_w_id (x := k + 1) (by omega) (by omega)]
          refine ⟨k0, hk, h1 (j2 + 1) _ _ rfl ?_⟩
          have epe : zl_pe (q i, (o, p), (m1, c1), (m2, c2)) = p + (m1.length : Int) + (m2.length : Int) := rfl
          have t1 : ∀ a, a ≠ 13 → a ≠ 161085 → (z_up (z_up (z_up N4 13 36 1) 161085 k (p + (m1.length : Int) + (m2.length : Int))) 13 5 (k + 1)) a = N4 a := fun a x y => by rw [z_up_ne x, z_up_ne y, z_up_ne x]
          have tT : (z_up (z_up (z_up N4 13 36 1) 161085 k (p + (m1.length : Int) + (m2.length : Int))) 13 5 (k + 1)) 161085 = zt_put (N4 161085) k (p + (m1.length : Int) + (m2.length : Int)) := by
            rw [z_up_ne (by decide)]
            funext x
            unfold zt_put
            by_cases cx : x = k
            · rw [if_pos cx, cx, z_up_eq]
            · rw [if_neg cx, z_up_nj cx, z_up_ne (by decide)]
          -- the arrays
          have L1 : N4 161082 = zt_put (N 161082) k (q i) := by rw [v3, r1 _ (by decide), b1 _ (by decide), w3, aA _ (by decide), fL]
          have L2 : N4 161083 = zt_put (N 161083) k p := by rw [v4, r1 _ (by decide), b1 _ (by decide), w4, aA _ (by decide), fS]
          have L3 : N4 161084 = zt_put (N 161084) k (p + (m1.length : Int)) := by rw [v5, r1 _ (by decide), b2, w5, aA _ (by decide), fA _ (by decide) (by decide) (by decide)]
          have L4 : N4 161085 = N 161085 := by rw [v6, r1 _ (by decide), b1 _ (by decide), w6, aA _ (by decide), fA _ (by decide) (by decide) (by decide)]
          have L5 : ∀ x : Int, x < p + (m1.length : Int) → N4 2401086 x = N2 2401086 x := fun x hx => by rw [(v2 x hx).1, r1 _ (by decide), b1 _ (by decide)]
          have L6 : ∀ x : Int, x < p + (m1.length : Int) → N4 2401087 x = N2 2401087 x := fun x hx => by rw [(v2 x hx).2, r1 _ (by decide), b1 _ (by decide)]
          have L7 : ∀ x : Int, x < p → N2 2401086 x = N 2401086 x := fun x hx => by rw [(w2 x hx).1, aA _ (by decide), fA _ (by decide) (by decide) (by decide)]
          have L8 : ∀ x : Int, x < p → N2 2401087 x = N 2401087 x := fun x hx => by rw [(w2 x hx).2, aA _ (by decide), fA _ (by decide) (by decide) (by decide)]
          refine ⟨zm_st_of s4 ⟨by rw [z_up_nj (by decide), z_up_ne (by decide), z_up_nj (by decide)], by rw [z_up_nj (by decide), z_up_ne (by decide), z_up_nj (by decide)], by rw [z_up_nj (by decide), z_up_ne (by decide), z_up_nj (by decide)]⟩ (t1 _ (by decide) (by decide)), z_up_eq, ?_, zc_tr c30 (zc_tr v1 (zc_tr (zc_up rfl rfl) (zc_tr (zc_up rfl rfl) (zc_up rfl rfl)))), fun x x0 x1 => ?_, fun x x0 x1 => ?_⟩
          · rw [epe, z_up_nj (by decide), z_up_ne (by decide), z_up_nj (by decide)]; exact x1
          · rw [t1 _ (by decide) (by decide), t1 _ (by decide) (by decide), t1 _ (by decide) (by decide), tT, t1 _ (by decide) (by decide), t1 _ (by decide) (by decide), L1, L2, L3, L4]
            by_cases cx : x = k
            · subst cx
              rw [zl_put_e, zt_put_e, zt_put_e, zt_put_e, zt_put_e]
              dsimp only
              exact ⟨rfl, rfl, rfl, rfl, zl_at_b L5 (by rw [List.length_map]; omega) y2, zl_at_b L6 (by rw [List.length_map]; omega) y3, x2, x3⟩
            · rw [zl_put_n cx, zt_put_n cx, zt_put_n cx, zt_put_n cx, zt_put_n cx]
              obtain ⟨u1, u2, u3, u4, u5, u6, u7, u8⟩ := hf x x0 (by omega)
              have hb := hpe x x0 (by omega)
              unfold zl_pe at hb
              have M5 : ∀ x : Int, x < p → N4 2401086 x = N 2401086 x := fun x hx => (L5 x (by omega)).trans (L7 x hx)
              have M6 : ∀ x : Int, x < p → N4 2401087 x = N 2401087 x := fun x hx => (L6 x (by omega)).trans (L8 x hx)
              exact ⟨u1, u2, u3, u4, zl_at_b M5 (by rw [List.length_map]; omega) u5, zl_at_b M6 (by rw [List.length_map]; omega) u6, zl_at_b M5 (by rw [List.length_map]; omega) u7, zl_at_b M6 (by rw [List.length_map]; omega) u8⟩
          · by_cases cx : x = k
            · rw [cx, zl_put_e]; exact Int.le_refl _
            · rw [zl_put_n cx, epe]
              have := hpe x x0 (by omega)
              omega
        · rw [if_neg (fun z => z c40), e2] at h0
          dsimp only at h0
          rw [if_pos c41] at h0
          exact badE _ _ N4 c30 k30 b4 (h0 _ _ rfl (badW _ _ N4 c30 b4))
        · rw [if_neg (fun z => z c40), e2] at h0
          exact badE _ _ N4 c30 k30 b4 (h0 _ _ rfl (badW _ _ N4 c30 b4))
      · rw [e] at h0
        dsimp only at h0
        rw [if_pos (by omega)] at h0
        exact badV _ N2 b2 (fun N' w' => h0 _ N' rfl w')
      · rw [e] at h0
        exact badV _ N2 b2 (fun N' w' => h0 _ N' rfl w')
    · rw [g5] at c16
      rw [if_pos c16] at h0
      rw [g2]
      refine kn_wrongs (d + 6) s (by decide) (by omega) (fun N3 m3 s3 => ?_)
      rw [zm_f0, show -1000 * 4 - i = -4000 - i from by omega] at s3
      exact bad65 _ _ i N3 (by omega) s3 (h0 _ N3 rfl ⟨by omega, ⟨i, s3⟩, zc_tr cc (zc_mm m3)⟩)
  have lt : ∀ s : Int, 0 < s → zm_h q i = s → q i = s := fun s hs c => (zm_h_s hs).mp c
  have nl : ∀ s : Int, 0 < s → ¬ zm_h q i = s → q i ≠ s := fun s hs c z => c ((zm_h_s hs).mpr z)
  refine re_269 (d + 6) (kn_here (d + 6) s (z_viI ⟨fun c => go (Or.inl (lt _ (by decide) c)), fun c1 => ⟨fun c => go (Or.inr (Or.inl (lt _ (by decide) c))), fun c2 => ⟨fun c => go (Or.inr (Or.inr (Or.inl (lt _ (by decide) c)))), fun c3 => ⟨fun c => go (Or.inr (Or.inr (Or.inr (Or.inl (lt _ (by decide) c))))), fun c4 => ⟨fun c => go (Or.inr (Or.inr (Or.inr (Or.inr (lt _ (by decide) c))))), fun c5 => ?_⟩⟩⟩⟩⟩))
  have nlt : ¬ zl_lt (q i) := by
    have := nl _ (by decide) c1
    have := nl _ (by decide) c2
    have := nl _ (by decide) c3
    have := nl _ (by decide) c4
    have := nl _ (by decide) c5
    unfold zl_lt
    omega
  rw [if_pos nlt] at h0
  rw [g2]
  refine kn_wrongs (d + 6) s (by decide) (by omega) (fun N3 m3 s3 => ?_)
  rw [zm_f0, show -1000 * 1 - i = -1000 - i from by omega] at s3
  exact bad65 _ _ i N3 (by omega) s3 (h0 _ N3 rfl ⟨by omega, ⟨i, s3⟩, zc_tr cc (zc_mm m3)⟩)
end ZLR
