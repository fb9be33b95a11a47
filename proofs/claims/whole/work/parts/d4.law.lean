/-! THE TABLE: the law -/
theorem zl_num_neg {q : Int → Int} : ∀ (k : Nat) (v i x : Int), 0 ≤ i → zl_num q k v i = .inl x → x < 0 := by
  intro k
  induction k with
  | zero =>
    intro v i x i0 h
    unfold zl_num at h
    split at h
    · have := Sum.inl.inj h; omega
    · cases h
  | succ k ih =>
    intro v i x i0 h
    unfold zl_num at h
    split at h
    · exact ih _ _ x (by omega) h
    · cases h
theorem zl_neg {q : Int → Int} {n : Int} (hT : zr_T q n) : ∀ (f K : Nat) (D i o : Int) (mc : List (Int × Int)) (co : List Int) (x : Int), 0 ≤ i → i ≤ n → zl q f K D i o mc co = .inl x → x < 0 := by
  have lt_of : ∀ i : Int, 0 ≤ i → i ≤ n → q i ≠ -1 → i < n := by
    intro i i0 hn hq
    by_cases z : i < n
    · exact z
    · exact absurd (hT.2.2.2 i (by omega)) hq
  have np : ∀ (k : Nat) (x : Int), k ≠ 9 → k ≠ 6 → ((k = 9 → zl_jt 4 (q x) = -1) ∧ (k = 6 → zl_jt 1 (q x) = -1)) := fun k x a b => ⟨fun z => absurd z a, fun z => absurd z b⟩
  intro f
  induction f with
  | zero => intro K D i o mc co x _ _ h; have := Sum.inl.inj h; omega
  | succ f ih =>
    intro K D i o mc co x i0 hn h
    unfold zl at h
    by_cases k2 : K = 2
    · rw [if_pos k2] at h
      split at h
      · rename_i e
        have hi := lt_of i i0 hn (by omega)
        split at h
        · have := Sum.inl.inj h; omega
        · split at h
          · rename_i y e1
            have := Sum.inl.inj h
            subst this
            exact ih _ _ _ _ _ _ _ (by omega) (by omega) e1
          · cases h
      · split at h
        · rename_i e
          have hi := lt_of i i0 hn (by omega)
          split at h
          · have := Sum.inl.inj h; omega
          · split at h
            · rename_i y e1
              have := Sum.inl.inj h
              subst this
              exact ih _ _ _ _ _ _ _ (by omega) (by omega) e1
            · rename_i j1 m1 c1 e1
              have h1 := (zl_end hT f _ _ _ _ _ _ j1 m1 c1 (by omega) (by omega) (np _ _ (by decide) (by decide)) e1).1 (by decide)
              split at h
              · cases h
              · have := Sum.inl.inj h; omega
        · split at h
          · rename_i y e1
            have := Sum.inl.inj h
            subst this
            exact ih _ _ _ _ _ _ _ i0 hn e1
          · rename_i j1 m1 c1 e1
            have h1 := (zl_end hT f _ _ _ _ _ _ j1 m1 c1 i0 hn (np _ _ (by decide) (by decide)) e1).1 (by decide)
            split at h
            · have := Sum.inl.inj h; omega
            · rename_i ec
              have hj := lt_of j1 (by omega) (by omega) (fun z => ec (by rw [z]; rfl))
              split at h
              · rename_i y e2
                have := Sum.inl.inj h
                subst this
                exact ih _ _ _ _ _ _ _ (by omega) (by omega) e2
              · cases h
    · rw [if_neg k2] at h
      by_cases k5 : K = 5
      · rw [if_pos k5] at h
        split at h
        · split at h
          · rename_i y e1
            have := Sum.inl.inj h
            subst this
            exact zl_num_neg 5 0 i _ i0 e1
          · cases h
        · split at h
          · rename_i e
            have hi := lt_of i i0 hn (by omega)
            split at h
            · have := Sum.inl.inj h; omega
            · split at h
              · rename_i y e1
                have := Sum.inl.inj h
                subst this
                exact ih _ _ _ _ _ _ _ (by omega) (by omega) e1
              · rename_i j1 m1 c1 e1
                have h1 := (zl_end hT f _ _ _ _ _ _ j1 m1 c1 (by omega) (by omega) (np _ _ (by decide) (by decide)) e1).1 (by decide)
                split at h
                · cases h
                · have := Sum.inl.inj h; omega
          · split at h
            · have := Sum.inl.inj h; omega
            · cases h
      · rw [if_neg k5] at h
        by_cases k6 : K < 6
        · rw [if_pos k6] at h
          split at h
          · rename_i y e1
            have := Sum.inl.inj h
            subst this
            exact ih _ _ _ _ _ _ _ i0 hn e1
          · rename_i j1 m1 c1 e1
            have h1 := (zl_end hT f _ _ _ _ _ _ j1 m1 c1 i0 hn (np _ _ (by omega) (by omega)) e1).1 (by omega)
            exact ih _ _ _ _ _ _ _ (by omega) (by omega) h
        · rw [if_neg k6] at h
          split at h
          · cases h
          · rename_i ej
            have hq : q i ≠ -1 := fun z => ej (by rw [z]; rfl)
            have hi := lt_of i i0 hn hq
            have hK : K = 6 ∨ K = 7 ∨ K = 9 ∨ K = 10 := by
              unfold zl_jt at ej
              repeat' split at ej
              all_goals first | omega | exact absurd rfl ej
            split at h
            · split at h
              · rename_i y e1
                have := Sum.inl.inj h
                subst this
                exact ih _ _ _ _ _ _ _ (by omega) (by omega) e1
              · rename_i j1 m1 c1 e1
                have h1 := (zl_end hT f _ _ _ _ _ _ j1 m1 c1 (by omega) (by omega) (np _ _ (by omega) (by omega)) e1).1 (by omega)
                exact ih _ _ _ _ _ _ _ (by omega) (by omega) h
            · split at h
              · rename_i y e1
                have := Sum.inl.inj h
                subst this
                exact ih _ _ _ _ _ _ _ (by omega) (by omega) e1
              · rename_i j1 m1 c1 e1
                have h1 := (zl_end hT f _ _ _ _ _ _ j1 m1 c1 (by omega) (by omega) (np _ _ (by omega) (by omega)) e1).1 (by omega)
                exact ih _ _ _ _ _ _ _ (by omega) (by omega) h
theorem zl_cl_neg {q : Int → Int} {n k i o p x : Int} (hT : zr_T q n) (i0 : 0 ≤ i) (hn : i ≤ n) (h : zl_cl q k i o p = .inl x) : x < 0 := by
  have lt_of : ∀ i : Int, 0 ≤ i → i ≤ n → q i ≠ -1 → i < n := by
    intro i i0 hn hq
    by_cases z : i < n
    · exact z
    · exact absurd (hT.2.2.2 i (by omega)) hq
  unfold zl_cl at h
  split at h
  · have := Sum.inl.inj h; omega
  · rename_i hl
    have hl := Decidable.not_not.mp hl
    have hi := lt_of i i0 hn (by unfold zl_lt at hl; omega)
    split at h
    · have := Sum.inl.inj h; omega
    · split at h
      · rename_i y e1
        have := Sum.inl.inj h
        subst this
        exact zl_neg hT _ _ _ _ _ _ _ _ (by omega) (by omega) e1
      · rename_i j1 m1 c1 e1
        have h1 := (zl_end hT 5000 3 0 (i + 1) o [] [] j1 m1 c1 (by omega) (by omega) ⟨fun z => by omega, fun z => by omega⟩ e1).1 (by decide)
        split at h
        · have := Sum.inl.inj h; omega
        · rename_i e40
          have hj := lt_of j1 (by omega) (by omega) (by omega)
          split at h
          · rename_i y e2
            have := Sum.inl.inj h
            subst this
            exact zl_neg hT _ _ _ _ _ _ _ _ (by omega) (by omega) e2
          · rename_i j2 m2 c2 e2
            have h2 := (zl_end hT 5000 0 1 (j1 + 1) _ [] [] j2 m2 c2 (by omega) (by omega) ⟨fun z => by omega, fun z => by omega⟩ e2).1 (by decide)
            split at h
            · have := Sum.inl.inj h; omega
            · cases h
theorem zl_go_neg {q : Int → Int} {n : Int} (hT : zr_T q n) : ∀ (f : Nat) (k : Int) (C : Int → zl_D) (i o p x : Int), 0 ≤ i → i ≤ n → zl_go q f k C i o p = .inl x → x < 0 := by
  intro f
  induction f with
  | zero => intro k C i o p x _ _ h; have := Sum.inl.inj h; omega
  | succ f ih =>
    intro k C i o p x i0 hn h
    unfold zl_go at h
    split at h
    · rename_i y e
      have := Sum.inl.inj h
      subst this
      exact zl_cl_neg hT i0 hn e
    · rename_i j D e
      have hj := zl_cl_src hT i0 hn e
      split at h
      · cases h
      · rename_i ne
        split at h
        · rename_i e59
          have : j < n := by
            by_cases z : j < n
            · exact z
            · exact absurd (hT.2.2.2 j (by omega)) ne
          exact ih _ _ _ _ _ _ (by omega) (by omega) h
        · have := Sum.inl.inj h; omega
section ZTD
variable {S S' M N N2 : z_M} {a1 a2 a3 a4 a5 a6 : Int}
theorem zz_op3 (hS : z_sit S M) (hI : zz_I S) : z_case 60 zz_P M a1 a2 a3 a4 a5 a6 3 := by
  have hT := hI.1
  have et : S 13 1 = S 2 1 := hT.1
  have hz : ∀ f : Int, zl_v (zr_q S a1) = .inl f → (1 ≤ a1 ∧ a1 ≤ S 2 1) → f ≠ 0 := fun f e b => by
    have := zl_go_neg (zd_text hT b.1 b.2).1 17 0 _ 0 0 0 f (by decide) (by omega) e
    omega
  by_cases hb : 1 ≤ a1 ∧ a1 ≤ 240 ∧ a1 ≤ S 2 1
  · refine kc_law 18 hS hT (fun b1 b2 b3 k C o p N e k1 k16 cx no n2 nk cc => ⟨⟨_, rfl⟩, ?_⟩) (fun b1 b2 b3 f N f0 e sN => ⟨⟨_, rfl⟩, ?_⟩) (fun f e => hz f e ⟨hb.1, hb.2.2⟩) (fun nc => absurd hb nc)
    · obtain ⟨t1, t2⟩ := zd_text hT b1 b3
      have hx1 := zd_sx hS cx
      have eN : N 2603064 = S 2603064 := zc_x_n hx1 _ rfl (fun _ => rfl)
      have e13 : N 13 1 = S 13 1 := hx1 13 _ rfl rfl
      refine km_law (q := zr_q S a1) 52 (zz_no_sit no) (fun _ _ _ => ⟨t1, fun i i0 i1 => by rw [eN]; exact t2 i i0 i1⟩) (fun _ => no) (fun _ _ _ k' C' o' p' N2 e' ha' _ _ cx' no2 m13 mk cc' => ?_) (fun _ _ _ f N2 e' sN2 => ?_) (fun nc => absurd ⟨b1, b2, by omega⟩ nc)
      · rw [e] at e'
        have hh := Sum.inr.inj e'
        have a1' : k = k' := congrArg (fun z => z.1) hh
        have a2' : C = C' := congrArg (fun z => z.2.1) hh
        subst a1' a2'
        have hx := zd_x2 hx1 cx'
        obtain ⟨g0, g1, ⟨g2, g3⟩, g4, ⟨g5, g6⟩, g7, g8, g9, g10, g11, g12, g13⟩ := hI
        have z2 : N2 2 1 = 0 := (cx' 2 _ rfl rfl).trans n2
        have both := zl_both (N := N2) b2 (by omega) k16 ha' ((cx' 5 _ rfl rfl).trans nk) mk (fun x x0 x1 => by
          have := cc x x0 x1
          rw [zc_x_n cx' 641027 rfl (fun _ => rfl), zc_x_n cx' 2401025 rfl (fun _ => rfl)]
          exact this) cc'
        refine ⟨rfl, N2, zz_no_sit no2, ?_⟩
        exact ⟨⟨m13.trans z2.symm, Int.le_of_eq z2.symm, by rw [show N2 2 1 = 0 from z2]; decide, fun j a b => by rw [show N2 2 1 = 0 from z2] at b; exact absurd b (by omega)⟩, (fun j a b => by rw [m13] at b; exact absurd b (by omega)), ⟨zd_z_IPl ⟨zc_x_n hx 304067 rfl (fun _ => rfl), zc_x_n hx 301019 rfl (fun _ => rfl), zc_x_n hx 301069 rfl (fun _ => rfl), zc_x_n hx 28801071 rfl (fun _ => rfl), zc_x_n hx 28801021 rfl (fun _ => rfl)⟩ g2, zd_z_IVer ⟨zc_x_n hx 101091 rfl (fun _ => rfl), zc_x_n hx 101023 rfl (fun _ => rfl), zc_x_n hx 304067 rfl (fun _ => rfl), hx 13 48 rfl rfl, hx 4 9 rfl rfl⟩ g3⟩, zd_z_ITown ⟨zc_x_n hx 1001015 rfl (fun _ => rfl), zc_x_n hx 1001065 rfl (fun _ => rfl), zc_x_n hx 100001017 rfl (fun _ => rfl)⟩ g4, ⟨both.1, both.2⟩, zd_z_IRep ⟨zc_x_n hx 2401035 rfl (fun _ => rfl), zc_x_n hx 401092 rfl (fun _ => rfl), zc_x_n hx 401093 rfl (fun _ => rfl), zc_x_n hx 401094 rfl (fun _ => rfl), zc_x_n hx 401095 rfl (fun _ => rfl), zc_x_n hx 401096 rfl (fun _ => rfl), zc_x_n hx 401097 rfl (fun _ => rfl), zc_x_n hx 304067 rfl (fun _ => rfl), hx 7 5 rfl rfl, hx 13 49 rfl rfl⟩ g7, zd_z_ITr ⟨zc_x_n hx 121050 rfl (fun _ => rfl), zc_x_n hx 121112 rfl (fun _ => rfl), zc_x_n hx 121051 rfl (fun _ => rfl), zc_x_n hx 121113 rfl (fun _ => rfl), hx 11 5 rfl rfl, hx 13 81 rfl rfl⟩ g8, zd_z_ITk ⟨zc_x_n hx 101056 rfl (fun _ => rfl), zc_x_n hx 101116 rfl (fun _ => rfl)⟩ g9, zd_z_ITh ⟨zc_x_n hx 241058 rfl (fun _ => rfl), zc_x_n hx 61120 rfl (fun _ => rfl), zc_x_n hx 64121 rfl (fun _ => rfl), zc_x_n hx 61122 rfl (fun _ => rfl), zc_x_n hx 61123 rfl (fun _ => rfl), zc_x_n hx 61124 rfl (fun _ => rfl), zc_x_n hx 304067 rfl (fun _ => rfl)⟩ g10, zd_zx_Q0 (zc_x_n hx 10241045 rfl (fun _ => rfl)) g11, zd_z_IW ⟨zc_x_n hx 304067 rfl (fun _ => rfl), zc_x_n hx 301068 rfl (fun _ => rfl), zc_x_n hx 301018 rfl (fun _ => rfl), zc_x_n hx 301069 rfl (fun _ => rfl), zc_x_n hx 28501020 rfl (fun _ => rfl), zc_x_n hx 28501070 rfl (fun _ => rfl), zc_x_n hx 28801021 rfl (fun _ => rfl), zc_x_n hx 1001065 rfl (fun _ => rfl)⟩ g12, zd_z_IKp ⟨zc_x_n hx 101129 rfl (fun _ => rfl), zc_x_n hx 101024 rfl (fun _ => rfl), zc_x_n hx 304067 rfl (fun _ => rfl), zc_x_n hx 2401037 rfl (fun _ => rfl), zc_x_n hx 2401131 rfl (fun _ => rfl), zc_x_n hx 101057 rfl (fun _ => rfl), zc_x_n hx 101130 rfl (fun _ => rfl), zc_x_n hx 241059 rfl (fun _ => rfl), zc_x_n hx 301132 rfl (fun _ => rfl), hx 1 11 rfl rfl, hx 13 100 rfl rfl, hx 13 105 rfl rfl, hx 4 10 rfl rfl, hx 7 7 rfl rfl, hx 13 106 rfl rfl⟩ g13⟩
      · rw [e] at e'; cases e'
    · obtain ⟨t1, t2⟩ := zd_text hT b1 b3
      refine km_law (q := zr_q S a1) 52 sN (fun _ _ _ => ⟨t1, t2⟩) (fun h => absurd e (h f)) (fun _ _ _ k' C' o' p' N2 e' _ _ _ _ _ _ _ _ => ?_) (fun _ _ _ f' N2 e' sN2 => ?_) (fun nc => absurd ⟨b1, b2, Int.le_trans b3 (Int.le_of_eq et.symm)⟩ nc)
      · rw [e] at e'; cases e'
      · rw [e] at e'
        have : f = f' := Sum.inl.inj e'
        rw [this]
        exact ⟨rfl, _, sN2, zd_0_I hI⟩
  · have nc : ¬ (1 ≤ a1 ∧ a1 ≤ 240 ∧ a1 ≤ S 13 1) := fun z => hb ⟨z.1, z.2.1, by omega⟩
    refine re_170 59 (kr_open 59 hS hT (fun x1 x2 x3 => absurd ⟨x1, x2, x3⟩ hb) (fun _ => z_n2 ⟨⟨_, rfl⟩, ?_⟩))
    exact km_law (q := fun _ => -1) 52 hS (fun x1 x2 x3 => absurd ⟨x1, x2, x3⟩ nc) (fun h => absurd rfl (h (-1000))) (fun x1 x2 x3 => absurd ⟨x1, x2, x3⟩ nc) (fun x1 x2 x3 => absurd ⟨x1, x2, x3⟩ nc) (fun _ => ⟨rfl, S, hS, hI⟩)
end ZTD
