/-! TRAM: the whole call, both sides -/
section ZTC
variable {S M N : z_M} {Q : z_V → z_M → Prop} {q : Int → Int} {n i : Int}
def zt_xc (a : Nat) (j : Int) : Bool := a == 121050 || a == 121051 || (a == 11 && j == 5) || (a == 2 && j == 1)
theorem zt_v_neg_ln {k prev i f : Int} (hi : 0 ≤ i) (h : zt_ln q k prev i = .inl f) : f < 0 := by
  have inl_inj : ∀ {α : Type} {x y : Int}, (Sum.inl x : Int ⊕ α) = Sum.inl y → x = y := fun h => Sum.inl.inj h
  unfold zt_ln at h
  split at h
  · have := Sum.inl.inj h; omega
  · split at h
    · have := Sum.inl.inj h; omega
    · split at h
      · rename_i f' e
        unfold zr_sp at e
        have := Sum.inl.inj h
        split at e
        · split at e
          · cases e
          · have := Sum.inl.inj e; omega
        · have := Sum.inl.inj e; omega
      · split at h
        · have := Sum.inl.inj h; omega
        · split at h
          · rename_i f' e
            unfold zr_mn at e
            have := Sum.inl.inj h
            split at e
            · split at e
              · split at e
                · cases e
                · have := Sum.inl.inj e; omega
              · cases e
            · have := Sum.inl.inj e; omega
          · split at h
            · have := Sum.inl.inj h; omega
            · cases h
theorem zt_ln_j {k prev i s m j : Int} (h : zt_ln q k prev i = .inr (s, m, j)) : i < j := by
  unfold zt_ln at h
  split at h
  · cases h
  · split at h
    · cases h
    · split at h
      · cases h
      · split at h
        · cases h
        · split at h
          · cases h
          · rename_i m' j' e
            split at h
            · cases h
            · have h2 := Sum.inr.inj h
              have e2 : j' = j := congrArg (fun z => z.2.2) h2
              unfold zr_mn at e
              split at e
              · split at e
                · split at e
                  · have := congrArg (fun z => z.2) (Sum.inr.inj e); dsimp only at this; omega
                  · cases e
                · have := congrArg (fun z => z.2) (Sum.inr.inj e); dsimp only at this; omega
              · cases e
theorem zt_go_neg : ∀ (f : Nat) (k : Int) (sp mi : Int → Int) (i x : Int), 0 ≤ i → zt_go q f k sp mi i = .inl x → x < 0 := by
  intro f
  induction f with
  | zero => intro k sp mi i x _ h; have := Sum.inl.inj h; omega
  | succ f ih =>
    intro k sp mi i x hi h
    unfold zt_go at h
    split at h
    · rename_i y e
      have := Sum.inl.inj h
      have := zt_v_neg_ln hi e
      omega
    · rename_i s m j e
      have hj := zt_ln_j e
      split at h
      · cases h
      · split at h
        · exact ih _ _ _ _ _ (by omega) h
        · have := Sum.inl.inj h; omega
theorem kc_tram (d : Nat) {a : Int} (hS : z_sit S M) (hT : z_ITape S)
    (h1 : 1 ≤ a → a ≤ 90 → a ≤ S 2 1 → ∀ (k : Int) (sp mi : Int → Int) (N : z_M), zt_v (zr_q S a) = .inr (k, sp, mi) → 1 ≤ k → k ≤ 12 → zc_x zt_xc M N → z_sit N N → N 2 1 = 0 → N 11 5 = k → (∀ j : Int, 0 ≤ j → j < k → N 121050 j = sp j ∧ N 121051 j = mi j ∧ 0 ≤ mi j ∧ mi j < 96) → Q (z_I k) N)
    (h0 : 1 ≤ a → a ≤ 90 → a ≤ S 2 1 → ∀ (f : Int) (N : z_M), zt_v (zr_q S a) = .inl f → z_sit (z_up S 2 1 0) N → Q (z_I f) N)
    (hn : ¬ (1 ≤ a ∧ a ≤ 90 ∧ a ≤ S 2 1) → Q (z_I (-1)) M) : z_Cl 0 (d + 5) 195 [z_R 1, z_I a] M Q := by
  refine re_195 (d + 4) (kr_open (d + 4) hS hT (fun a1 a2 a3 N0 mv st => z_y2 (kr_stops d st (fun k sp mi N e k1 k2 cx cc cf ck cv => z_viI (re_41 (d + 4) (z_viI (kr_close (d + 3) (fun _ => z_viI ?_) (fun c => absurd cf c))))) (fun f N e cc cf => z_viI (re_41 (d + 4) (z_viI (kr_close (d + 3) (fun c => ?_) (fun c => z_viI ?_))))))) (fun c => z_n2 (hn c)))
  · rw [show N 11 5 = k from ck]
    have c0 := zc_mv mv
    have ch : ∀ b, z_cch b = true → zr_cl N b = M b := fun b hb => by
      have ne : b ≠ 2 := fun e => by rw [e] at hb; cases hb
      unfold zr_cl
      rw [z_up_ne ne, z_up_ne ne, z_up_ne ne, cc b hb, c0.2 b hb]
    have cx2 : zc_x zt_xc M (zr_cl N) := by
      intro b j hb hx
      unfold zt_xc at hx
      simp only [Bool.or_eq_false_iff, beq_eq_false_iff_ne] at hx
      obtain ⟨⟨⟨x1, x2⟩, x3⟩, x4⟩ := hx
      have eN : N b j = M b j := by
        rw [cx b j hb (by simp only [Bool.or_eq_false_iff, beq_eq_false_iff_ne]; exact ⟨⟨x1, x2⟩, x3⟩)]
        exact c0.1 b j hb
      rw [← eN]
      unfold zr_cl
      by_cases c : b = 2
      · subst c
        have ej : j = 1 := by
          unfold z_cor z_cof at hb
          rw [show z_cak 2 = false from rfl] at hb
          simp only [Bool.false_or, Bool.or_eq_true, Bool.and_eq_true, beq_iff_eq] at hb
          omega
        rw [ej] at x4; cases x4
      · rw [z_up_ne c, z_up_ne c, z_up_ne c]
    refine h1 a1 a2 a3 k sp mi _ e k1 k2 cx2 (zz_self hS ch ⟨cx2 _ _ rfl rfl, zc_x_n cx2 _ rfl (fun _ => rfl), zc_x_n cx2 _ rfl (fun _ => rfl), zc_x_n cx2 _ rfl (fun _ => rfl), zc_x_n cx2 _ rfl (fun _ => rfl), zc_x_n cx2 _ rfl (fun _ => rfl), zc_x_n cx2 _ rfl (fun _ => rfl), zc_x_n cx2 _ rfl (fun _ => rfl), zc_x_n cx2 _ rfl (fun _ => rfl), zc_x_n cx2 _ rfl (fun _ => rfl)⟩) ?_ ?_ (fun j j0 j1 => ?_)
    · unfold zr_cl; rw [z_up_nj (by decide), z_up_nj (by decide), z_up_eq]
    · unfold zr_cl; rw [z_up_ne (by decide), z_up_ne (by decide), z_up_ne (by decide)]; exact ck
    · unfold zr_cl; rw [z_up_ne (by decide), z_up_ne (by decide), z_up_ne (by decide), z_up_ne (by decide), z_up_ne (by decide), z_up_ne (by decide)]; exact cv j j0 j1
  · have := zt_go_neg _ _ _ _ _ _ (by omega) e
    omega
  · rw [cf]
    exact h0 a1 a2 a3 f _ e (zr_cl_sit (zc_sit (zc_sit hS (zc_mv mv)) cc))
def zt_xm (a : Nat) (j : Int) : Bool := a == 121112 || a == 121113 || (a == 13 && (j == 81 || j == 1))
theorem km_tram (d : Nat) {a : Int} (hS : z_sit S M) (hT : 1 ≤ a → a ≤ 90 → a ≤ S 13 1 → zr_T q a ∧ ∀ i : Int, 0 ≤ i → i < a → z_and (S 2603064 i) 255 = q i) (ht : S 13 1 ≤ 260)
    (h1 : 1 ≤ a → a ≤ 90 → a ≤ S 13 1 → ∀ (k : Int) (sp mi : Int → Int) (N : z_M), zt_v q = .inr (k, sp, mi) → 1 ≤ k → k ≤ 12 → zc_x zt_xm M N → z_sit N N → N 13 1 = 0 → N 13 81 = k → (∀ j : Int, 0 ≤ j → j < k → N 121112 j = sp j ∧ N 121113 j = mi j ∧ 0 ≤ mi j ∧ mi j < 96) → Q (z_I k) N)
    (h0 : 1 ≤ a → a ≤ 90 → a ≤ S 13 1 → ∀ (f : Int) (N : z_M), zt_v q = .inl f → z_sit (z_up S 13 1 0) N → Q (z_I f) N)
    (hn : ¬ (1 ≤ a ∧ a ≤ 90 ∧ a ≤ S 13 1) → Q (z_I (-1)) M) : z_Cl 0 (d + 5) 349 [z_R 13, z_I a] M Q := by
  have et : M 13 1 = S 13 1 := z_ff hS 13 1 rfl
  refine re_349 (d + 4) (km_lies (d + 4) (fun a1 a2 => z_y1 ⟨fun a3 => re_234 (d + 4) ?_, fun c => rg_349_20 (d + 4) (hn (by rw [et] at c; omega))⟩) (fun c => z_n1 (rg_349_20 (d + 4) (hn (by omega)))))
  rw [et] at a3
  obtain ⟨hq, hqt⟩ := hT a1 a2 a3
  have h1' := h1 a1 a2 a3
  have h0' := h0 a1 a2 a3
  have st0 : zm_st q a 0 0 (zm_bg M a) := zm_bg_st hq (fun j x y => by rw [z_fn hS 2603064 rfl]; exact hqt j x y)
  have sit0 : z_sit (z_up S 13 1 0) (zm_bg M a) := zm_bg_sit hS
  have e0 : z_up (z_up (z_up (z_up M 13 1 0) 13 2 0) 13 3 a) 13 4 0 = zm_bg M a := rfl
  rw [e0]
  have bg13 : ∀ k, k ≠ 13 → zm_bg M a k = M k := fun k hk => by unfold zm_bg; rw [z_up_ne hk, z_up_ne hk, z_up_ne hk, z_up_ne hk]
  have bgj : ∀ j, z_cor 13 j = true → j ≠ 1 → zm_bg M a 13 j = M 13 j := fun j hj h2 => by
    unfold zm_bg
    rw [z_up_nj (fun c => by rw [c] at hj; cases hj), z_up_nj (fun c => by rw [c] at hj; cases hj), z_up_nj (fun c => by rw [c] at hj; cases hj), z_up_nj h2]
  have out : ∀ (k l3 : Int) (f : Int) (N : z_M) (j : Int), f < 0 → zt_v q = .inl f → zc_c (zm_bg M a) N → zm_st q a j f N → z_G 0 (d + 5) z_m349 113 [z_R 13, z_I a, z_I k, z_I l3, z_U] [] N Q := by
    intro k l3 f N j f0 e c st
    have e4 : N 13 4 = f := st.2.2.2.2.2.2
    refine rg_349_113 (d + 4) ⟨fun c2 => absurd c2 (by omega), fun _ => ?_⟩
    rw [e4]
    exact h0' f N e (zc_sit sit0 c)
  have bad : ∀ (k l3 : Int) (f : Int) (N : z_M) (j : Int), f < 0 → zt_v q = .inl f → zc_c (zm_bg M a) N → zm_st q a j f N → z_G 0 (d + 5) z_m349 31 [z_R 13, z_I a, z_I k, z_I l3, z_U] [] N Q := by
    intro k l3 f N j f0 e c st
    exact rg_349_31 (d + 4) ⟨fun _ => out k l3 f N j f0 e c st, fun _ => kn_good0 (d + 4) (by omega) st (z_viI ⟨fun _ => out k l3 f N j f0 e c st, fun c2 => absurd rfl c2⟩)⟩
  have key : ∀ (f : Nat) (k : Int) (sp mi : Int → Int) (i : Int) (N : z_M), k + (f : Int) = 13 → 0 ≤ k → k ≤ 12 → i ≤ a → zm_st q a i 0 N → zc_c (zm_bg M a) N → zt_fr 121114 121115 k sp mi N → zt_go q f k sp mi i = zt_v q → z_G 0 (d + 5) z_m349 31 [z_R 13, z_I a, z_I k, z_I 1, z_U] [] N Q := by
    intro f
    induction f with
    | zero =>
      intro k sp mi i N hk _ k12 ia st cc fr e
      exact absurd hk (by omega)
    | succ f ih =>
      intro k sp mi i N hk k0 k12 ia st cc fr e
      have hp := st.2.2.1
      unfold zt_go at e
      have w1 : z_w (k + 1) = k + 1 := z_w_id (by omega) (by omega)
      refine rg_349_31 (d + 4) ⟨fun c => absurd c (by decide), fun _ => kn_good1 (d + 4) st (z_viI ⟨fun c => absurd c (by decide), fun _ => kn_stop d st (by omega) k0 k12 fr (fun s m j N1 e1 kk ij ji c1 st1 fr1 => ?_) (fun x N1 j e1 x0 j0 j1 c1 st1 => ?_)⟩)⟩
      · rw [w1]
        rw [e1] at e
        dsimp only at e
        have e2 : N1 13 2 = j := st1.2.2.2.2.2.1
        have e3 : N1 13 3 = a := st1.2.2.2.2.1
        refine kn_good1 (d + 4) st1 (z_viI ⟨fun c => absurd c (by decide), fun _ => ?_⟩)
        rw [e2, e3]
        refine ⟨fun c => ?_, fun c => ?_⟩
        · -- all read
          rw [if_pos (hq.2.2.2 j c)] at e
          refine rg_349_72 (d + 4) (rg_349_73 (d + 4) ⟨fun _ => rg_349_96 (d + 4) ⟨fun _ => rg_349_31 (d + 4) ⟨fun _ => ?_, fun c2 => absurd rfl c2⟩, fun c2 => absurd rfl c2⟩, fun c2 => absurd rfl c2⟩)
          have e4 : N1 13 4 = 0 := st1.2.2.2.2.2.2
          refine rg_349_113 (d + 4) ⟨fun _ => ?_, fun c2 => absurd c2 (by omega)⟩
          have hk1 : ((k + 1).toNat : Int) = k + 1 := by omega
          have cA := zc_tr cc c1
          have eN : (z_up N1 13 81 (k + 1)) 121114 = N1 121114 ∧ (z_up N1 13 81 (k + 1)) 121115 = N1 121115 := ⟨z_up_ne (by decide), z_up_ne (by decide)⟩
          refine z_lpi (n := (k + 1).toNat) (fun _ => ()) (fun x N => (∀ b, b ≠ 121112 → b ≠ 121113 → N b = (z_up N1 13 81 (k + 1)) b) ∧ ∀ j : Int, 0 ≤ j → j < (x : Int) → N 121112 j = N1 121114 j ∧ N 121113 j = N1 121115 j) (fun N _ x => z_G 0 (d + 5) z_m349 133 [z_R 13, z_I a, z_I (k + 1), z_I 0, z_I x] [] N Q) (z_up N1 13 81 (k + 1)) ⟨fun _ _ _ => rfl, fun j x y => absurd y (by omega)⟩ (fun x N2 hx hN nx => ?_) (fun N2 hN => ?_)
          · obtain ⟨g1, g2⟩ := hN
            refine rg_349_133 (d + 4) ⟨fun c2 => absurd c2 (by omega), fun _ => ⟨by omega, by omega, by omega, by omega, by omega, by omega, by omega, by omega, ?_⟩⟩
            rw [z_wq (by omega)]
            refine nx _ ⟨fun b b1 b2 => by rw [z_up_ne b2, z_up_ne b1]; exact g1 b b1 b2, fun j x0 x1 => ?_⟩
            by_cases cj : j = (x : Int)
            · subst cj
              refine ⟨?_, ?_⟩
              · rw [z_up_ne (by decide), z_up_eq, g1 _ (by decide) (by decide), eN.1]
              · rw [z_up_eq, z_up_ne (by decide), g1 _ (by decide) (by decide), eN.2]
            · obtain ⟨y1, y2⟩ := g2 j x0 (by omega)
              refine ⟨?_, ?_⟩
              · rw [z_up_ne (by decide), z_up_nj cj]; exact y1
              · rw [z_up_nj cj, z_up_ne (by decide)]; exact y2
          · obtain ⟨g1, g2⟩ := hN
            refine rg_349_133 (d + 4) ⟨fun _ => ?_, fun c2 => absurd c2 (by omega)⟩
            have ch : ∀ b, z_cch b = true → N2 b = M b := fun b hb => by
              have ne : ∀ c : Nat, z_cch c = false → b ≠ c := fun c hc2 e => by rw [e, hc2] at hb; cases hb
              rw [g1 b (ne _ rfl) (ne _ rfl), z_up_ne (ne _ rfl), cA.2 b hb, bg13 b (ne _ rfl)]
            have cx2 : zc_x zt_xm M N2 := by
              intro b j hb hx
              unfold zt_xm at hx
              simp only [Bool.or_eq_false_iff, beq_eq_false_iff_ne] at hx
              obtain ⟨⟨x1, x2⟩, x3⟩ := hx
              rw [g1 b x1 x2]
              by_cases c : b = 13
              · subst c
                simp only [beq_self_eq_true, Bool.true_and, Bool.or_eq_false_iff, beq_eq_false_iff_ne] at x3
                rw [z_up_nj x3.1, cA.1 13 j hb]
                exact bgj j hb x3.2
              · rw [z_up_ne c, cA.1 b j hb, bg13 b c]
            refine h1' (k + 1) _ _ N2 e.symm (by omega) (by omega) cx2 (zz_self hS ch ⟨cx2 _ _ rfl rfl, zc_x_n cx2 _ rfl (fun _ => rfl), zc_x_n cx2 _ rfl (fun _ => rfl), zc_x_n cx2 _ rfl (fun _ => rfl), zc_x_n cx2 _ rfl (fun _ => rfl), zc_x_n cx2 _ rfl (fun _ => rfl), zc_x_n cx2 _ rfl (fun _ => rfl), zc_x_n cx2 _ rfl (fun _ => rfl), zc_x_n cx2 _ rfl (fun _ => rfl), zc_x_n cx2 _ rfl (fun _ => rfl)⟩) ?_ ?_ (fun j j0 j1 => ?_)
            · rw [g1 13 (by decide) (by decide), z_up_nj (by decide), cA.1 13 _ rfl]; rfl
            · rw [g1 13 (by decide) (by decide), z_up_eq]
            · obtain ⟨y1, y2⟩ := g2 j j0 (by omega)
              obtain ⟨f1, f2, f3, f4⟩ := fr1 j j0 j1
              exact ⟨y1.trans f1, y2.trans f2, f3, f4⟩
        · -- more
          have hqj := hq.2.2.1 j (by omega) c
          rw [if_neg (by omega)] at e
          refine rg_349_73 (d + 4) ⟨fun c2 => absurd c2 (by decide), fun _ => kn_here (d + 4) st1 (z_viI ⟨fun c2 => ?_, fun c2 => ?_⟩)⟩
          · rw [zm_h_s (by decide)] at c2
            rw [if_pos c2] at e
            refine rg_349_96 (d + 4) ⟨fun c3 => absurd c3 (by decide), fun _ => ?_⟩
            rw [e2, z_w_id (by omega) (by omega)]
            refine ih (k + 1) _ _ (j + 1) _ (by omega) (by omega) (by omega) (by omega) (zm_st_pl st1 (by omega) (by have := hq.2.1; omega)) (zc_tr (zc_tr cc c1) (zc_up rfl rfl)) (fun x y z => ?_) e
            rw [z_up_ne (by decide), z_up_ne (by decide)]
            exact fr1 x y z
          · have c3 : ¬ q j = 44 := fun z => c2 ((zm_h_s (by decide)).mpr z)
            rw [if_neg c3] at e
            rw [e2]
            refine kn_wrongs (d + 4) st1 (by omega) (by have := hq.2.1; omega) (fun N2 m2 st2 => ?_)
            rw [zm_f0, show -1000 * 1 - j = -1000 - j from by omega] at st2
            have e5 : N2 13 2 = j := st2.2.2.2.2.2.1
            refine rg_349_96 (d + 4) ⟨fun c3 => absurd c3 (by decide), fun _ => ?_⟩
            rw [e5, z_w_id (by omega) (by omega)]
            exact bad (k + 1) 1 _ _ (j + 1) (by omega) e.symm (zc_tr (zc_tr (zc_tr cc c1) (zc_mm m2)) (zc_up rfl rfl)) (zm_st_pl st2 (by omega) (by have := hq.2.1; omega))
      · rw [w1]
        rw [e1] at e
        refine kn_good0 (d + 4) (by omega) st1 (z_viI ⟨fun _ => rg_349_72 (d + 4) (rg_349_73 (d + 4) ⟨fun _ => rg_349_96 (d + 4) ⟨fun _ => bad (k + 1) 0 x N1 j x0 e.symm (zc_tr cc c1) st1, fun c2 => absurd rfl c2⟩, fun c2 => absurd rfl c2⟩), fun c2 => absurd rfl c2⟩)
  exact key 13 0 _ _ 0 _ (by omega) (by omega) (by omega) (by omega) st0 zc_rf (fun j x y => absurd y (by omega)) rfl
end ZTC
