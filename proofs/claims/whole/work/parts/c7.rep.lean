/-! REPORTS: their text, the model's whole call -/
section ZRN
variable {S M N : z_M} {Q : z_V → z_M → Prop} {q : Int → Int} {n i : Int}
theorem zp_go_neg : ∀ (f : Nat) (T : Int → Bool) (k : Int) (R : Int → Nat → Int) (i x : Int), 0 ≤ i → zp_go q T f k R i = .inl x → x < 0 := by
  have sp_neg : ∀ (j f : Int), 0 ≤ j → zr_sp q j = .inl f → f < 0 := by
    intro j f hj e
    unfold zr_sp at e
    split at e
    · split at e
      · cases e
      · have := Sum.inl.inj e; omega
    · have := Sum.inl.inj e; omega
  have cst_neg : ∀ (j f : Int), 0 ≤ j → zp_cst q j = .inl f → f < 0 := by
    intro j f hj e
    unfold zp_cst at e
    split at e
    · have := Sum.inl.inj e; omega
    · split at e
      · have := Sum.inl.inj e; omega
      · split at e
        · have := Sum.inl.inj e; omega
        · cases e
  have of_neg : ∀ (c o j f : Int), 0 ≤ j → zp_of q c o j = .inl f → f < 0 := by
    intro c o j f hj e
    unfold zp_of at e
    split at e
    · split at e
      · rename_i g eg
        have := Sum.inl.inj e
        have := cst_neg _ _ hj eg
        omega
      · cases e
    · split at e
      · split at e
        · rename_i g eg
          have := Sum.inl.inj e
          have := sp_neg _ _ hj eg
          omega
        · cases e
      · cases e
  have of_j : ∀ (c o j : Int) (r : Int × Int × Int × Int), zp_of q c o j = .inr r → j ≤ r.2.2.2 := by
    intro c o j r e
    unfold zp_of at e
    split at e
    · split at e
      · cases e
      · have := Sum.inr.inj e; rw [← this]; dsimp only; omega
    · split at e
      · split at e
        · cases e
        · have := Sum.inr.inj e; rw [← this]; dsimp only; omega
      · have := Sum.inr.inj e; rw [← this]; dsimp only; omega
  have ta_neg : ∀ (T : Int → Bool) (p j f : Int), 0 ≤ j → zp_ta q T p j = .inl f → f < 0 := by
    intro T p j f hj e
    unfold zp_ta at e
    split at e
    · have := Sum.inl.inj e; omega
    · split at e
      · exact of_neg _ _ _ _ (by omega) e
      · split at e
        · rename_i g eg
          have := Sum.inl.inj e
          unfold zp_oth at eg
          split at eg
          · have := Sum.inl.inj eg; omega
          · split at eg
            · have := Sum.inl.inj eg; omega
            · split at eg
              · have := Sum.inl.inj eg; omega
              · cases eg
        · exact of_neg _ _ _ _ (by omega) e
  have ta_j : ∀ (T : Int → Bool) (p j : Int) (r : Int × Int × Int × Int), zp_ta q T p j = .inr r → j < r.2.2.2 := by
    intro T p j r e
    unfold zp_ta at e
    split at e
    · cases e
    · split at e
      · have := of_j _ _ _ _ e; omega
      · split at e
        · cases e
        · have := of_j _ _ _ _ e; omega
  have hd_neg : ∀ (T : Int → Bool) (k j f : Int), 0 ≤ j → zp_hd q T k j = .inl f → f < 0 := by
    intro T k j f hj e
    unfold zp_hd at e
    split at e
    · have := Sum.inl.inj e; omega
    · split at e
      · have := Sum.inl.inj e; omega
      · split at e
        · have := Sum.inl.inj e; omega
        · split at e
          · rename_i g eg
            have := Sum.inl.inj e
            unfold zr_mn at eg
            split at eg
            · split at eg
              · split at eg
                · cases eg
                · have := Sum.inl.inj eg; omega
              · cases eg
            · have := Sum.inl.inj eg; omega
          · rename_i m j' eg
            have hj' : j < j' := by
              unfold zr_mn at eg
              split at eg
              · split at eg
                · split at eg
                  · have := congrArg (fun z => z.2) (Sum.inr.inj eg); dsimp only at this; omega
                  · cases eg
                · have := congrArg (fun z => z.2) (Sum.inr.inj eg); dsimp only at this; omega
              · cases eg
            split at e
            · split at e
              · cases e
              · have := Sum.inl.inj e; omega
            · cases e
  have hd_j : ∀ (T : Int → Bool) (k j : Int) (r : Int × Int × Int × Int), zp_hd q T k j = .inr r → j < r.2.2.2 := by
    intro T k j r e
    unfold zp_hd at e
    split at e
    · cases e
    · split at e
      · cases e
      · split at e
        · cases e
        · split at e
          · cases e
          · rename_i m j' eg
            have hj' : j < j' := by
              unfold zr_mn at eg
              split at eg
              · split at eg
                · split at eg
                  · have := congrArg (fun z => z.2) (Sum.inr.inj eg); dsimp only at this; omega
                  · cases eg
                · have := congrArg (fun z => z.2) (Sum.inr.inj eg); dsimp only at this; omega
              · cases eg
            split at e
            · split at e
              · have := Sum.inr.inj e; rw [← this]; dsimp only; omega
              · cases e
            · have := Sum.inr.inj e; rw [← this]; dsimp only; omega
  have ln_neg : ∀ (T : Int → Bool) (k j f : Int), 0 ≤ j → zp_ln q T k j = .inl f → f < 0 := by
    intro T k j f hj e
    unfold zp_ln at e
    split at e
    · rename_i g eg
      have := Sum.inl.inj e
      have := hd_neg _ _ _ _ hj eg
      omega
    · rename_i p m s j' eg
      have h2 := hd_j _ _ _ _ eg
      dsimp only at h2
      split at e
      · rename_i g eg2
        have := Sum.inl.inj e
        have := ta_neg _ _ _ _ (by omega) eg2
        omega
      · cases e
  have ln_j : ∀ (T : Int → Bool) (k j : Int) (r : (Nat → Int) × Int), zp_ln q T k j = .inr r → j < r.2 := by
    intro T k j r e
    unfold zp_ln at e
    split at e
    · cases e
    · rename_i p m s j' eg
      have h2 := hd_j _ _ _ _ eg
      dsimp only at h2
      split at e
      · cases e
      · rename_i c o t j2 eg2
        have h3 := ta_j _ _ _ _ eg2
        dsimp only at h3
        have := Sum.inr.inj e
        rw [← this]
        dsimp only
        omega
  intro f
  induction f with
  | zero => intro T k R i x _ h; have := Sum.inl.inj h; omega
  | succ f ih =>
    intro T k R i x hi h
    unfold zp_go at h
    split at h
    · rename_i y e
      have := Sum.inl.inj h
      have := ln_neg _ _ _ _ hi e
      omega
    · rename_i r j e
      have hj := ln_j _ _ _ _ e
      dsimp only at hj
      split at h
      · cases h
      · split at h
        · exact ih _ _ _ _ _ (by omega) h
        · have := Sum.inl.inj h; omega
def zp_x6 (a : Nat) : Bool := a == 401092 || a == 401093 || a == 401094 || a == 401095 || a == 401096 || a == 401097
def zp_xm (a : Nat) (j : Int) : Bool := zp_x6 a || (a == 13 && (j == 49 || j == 1))
def zq_fr (k : Int) (R : Int → Nat → Int) (N : z_M) : Prop := ∀ (x : Int) (c : Nat), 0 ≤ x → x < k → c < 6 → N (zy_r6 c) x = R x c
theorem zp_x6_r {c : Nat} (hc : c < 6) : zp_x6 (zy_r6 c) = true := by
  have hy : c = 0 ∨ c = 1 ∨ c = 2 ∨ c = 3 ∨ c = 4 ∨ c = 5 := by omega
  rcases hy with rfl | rfl | rfl | rfl | rfl | rfl <;> rfl
theorem zp_w_x {k : Int} {r : Nat → Int} {a : Nat} (h13 : a ≠ 13) (h : zp_x6 a = false) : zp_w N k r a = N a := by
  unfold zp_x6 at h
  simp only [Bool.or_eq_false_iff, beq_eq_false_iff_ne] at h
  obtain ⟨⟨⟨⟨⟨a0, a1⟩, a2⟩, a3⟩, a4⟩, a5⟩ := h
  exact zp_w_n h13 a0 a1 a2 a3 a4 a5
theorem km_reports (d : Nat) {a m : Int} {R0 : Int → Nat → Int} (hS : z_sit S M) (hB : zy_B S) (hT : 1 ≤ a → a ≤ 200 → a ≤ S 13 1 → zr_T q a ∧ ∀ i : Int, 0 ≤ i → i < a → z_and (S 2603064 i) 255 = q i) (m0 : 0 ≤ m) (m40 : m ≤ 40) (hm : S 13 49 = m) (hR : ∀ (x : Int) (c : Nat), 0 ≤ x → x < m → c < 6 → S (zy_r6 c) x = R0 x c)
    (h1 : 1 ≤ a → a ≤ 200 → a ≤ S 13 1 → ∀ (k : Int) (R : Int → Nat → Int) (N : z_M), zp_v q (zp_T S) m R0 = .inr (k, R) → zc_x zp_xm M N → z_sit N N → N 13 1 = 0 → N 13 49 = k → 0 ≤ k → k ≤ 40 → (∀ (x : Int) (c : Nat), 0 ≤ x → x < k → c < 6 → N (zy_r6 c) x = R x c) → Q (z_I k) N)
    (h0 : 1 ≤ a → a ≤ 200 → a ≤ S 13 1 → ∀ (f : Int) (N : z_M), zp_v q (zp_T S) m R0 = .inl f → zc_x zp_xm M N → z_sit N N → N 13 1 = 0 → N 13 49 = m → (∀ (x : Int) (c : Nat), 0 ≤ x → x < m → c < 6 → N (zy_r6 c) x = R0 x c) → Q (z_I f) N)
    (hn : ¬ (1 ≤ a ∧ a ≤ 200 ∧ a ≤ S 13 1) → Q (z_I (-1)) M) : z_Cl 0 (d + 5) 298 [z_R 13, z_I a] M Q := by
  have et : M 13 1 = S 13 1 := z_ff hS 13 1 rfl
  have er : M 13 49 = m := (z_ff hS 13 49 rfl).trans hm
  refine re_298 (d + 4) (km_lies (d + 4) (fun a1 a2 => z_y1 ⟨fun a3 => re_234 (d + 4) ?_, fun c => rg_298_20 (d + 4) (hn (by rw [et] at c; omega))⟩) (fun c => z_n1 (rg_298_20 (d + 4) (hn (by omega)))))
  rw [et] at a3
  obtain ⟨hq, hqt⟩ := hT a1 a2 a3
  have h1' := h1 a1 a2 a3
  have h0' := h0 a1 a2 a3
  have st0 : zm_st q a 0 0 (zm_bg M a) := zm_bg_st hq (fun j x y => by rw [z_fn hS 2603064 rfl]; exact hqt j x y)
  have e0 : z_up (z_up (z_up (z_up M 13 1 0) 13 2 0) 13 3 a) 13 4 0 = zm_bg M a := rfl
  rw [e0]
  have bg13 : ∀ k, k ≠ 13 → zm_bg M a k = M k := fun k hk => by unfold zm_bg; rw [z_up_ne hk, z_up_ne hk, z_up_ne hk, z_up_ne hk]
  have bgj : ∀ j, j ≠ 1 → j ≠ 2 → j ≠ 3 → j ≠ 4 → zm_bg M a 13 j = M 13 j := fun j b1 b2 b3 b4 => by
    unfold zm_bg
    rw [z_up_nj b4, z_up_nj b3, z_up_nj b2, z_up_nj b1]
  have ebg : zm_bg M a 13 49 = m := (bgj 49 (by decide) (by decide) (by decide) (by decide)).trans er
  rw [ebg]
  have st1 : zm_st q a 0 0 (z_up (zm_bg M a) 13 56 m) := zm_st_of st0 ⟨z_up_nj (by decide), z_up_nj (by decide), z_up_nj (by decide)⟩ (z_up_ne (by decide))
  -- what is known all along
  have known : ∀ (N : z_M), ((∀ b, b ≠ 13 → zp_x6 b = false → N b = M b) ∧ ∀ j, j ≠ 56 → j ≠ 1 → j ≠ 2 → j ≠ 3 → j ≠ 4 → N 13 j = M 13 j) → zc_x zp_xm M N ∧ (∀ b, z_cch b = true → N b = M b) ∧ N 13 49 = m := by
    intro N hN
    refine ⟨fun b j hb hx => ?_, fun b hb => hN.1 b (fun e => by rw [e] at hb; cases hb) ?_, (hN.2 _ (by decide) (by decide) (by decide) (by decide) (by decide)).trans er⟩
    · unfold zp_xm at hx
      simp only [Bool.or_eq_false_iff] at hx
      by_cases c : b = 13
      · subst c
        simp only [beq_self_eq_true, Bool.true_and, Bool.or_eq_false_iff, beq_eq_false_iff_ne] at hx
        have nc : ∀ j', z_cor 13 j' = false → j ≠ j' := fun j' h e => by rw [e, h] at hb; cases hb
        exact hN.2 j (nc _ rfl) hx.2.2 (nc _ rfl) (nc _ rfl) (nc _ rfl)
      · exact congrFun (hN.1 b c hx.1) j
    · unfold z_cch at hb
      simp only [Bool.or_eq_true, beq_iff_eq] at hb
      rcases hb with ((e | e) | e) | e <;> rw [e] <;> rfl
  have self : ∀ (N : z_M), zc_x zp_xm M N → (∀ b, z_cch b = true → N b = M b) → z_sit N N := fun N cx2 ch =>
    zz_self hS ch ⟨cx2 _ _ rfl rfl, zc_x_n cx2 _ rfl (fun _ => rfl), zc_x_n cx2 _ rfl (fun _ => rfl), zc_x_n cx2 _ rfl (fun _ => rfl), zc_x_n cx2 _ rfl (fun _ => rfl), zc_x_n cx2 _ rfl (fun _ => rfl), zc_x_n cx2 _ rfl (fun _ => rfl), zc_x_n cx2 _ rfl (fun _ => rfl), zc_x_n cx2 _ rfl (fun _ => rfl), zc_x_n cx2 _ rfl (fun _ => rfl)⟩
  have kn_mv : ∀ (N N' : z_M), zm_mv N N' → ((∀ b, b ≠ 13 → zp_x6 b = false → N b = M b) ∧ ∀ j, j ≠ 56 → j ≠ 1 → j ≠ 2 → j ≠ 3 → j ≠ 4 → N 13 j = M 13 j) → ((∀ b, b ≠ 13 → zp_x6 b = false → N' b = M b) ∧ ∀ j, j ≠ 56 → j ≠ 1 → j ≠ 2 → j ≠ 3 → j ≠ 4 → N' 13 j = M 13 j) := fun N N' m h =>
    ⟨fun b b1 b2 => (m.1 b b1).trans (h.1 b b1 b2), fun j j1 j2 j3 j4 j5 => (m.2 j j3 j5).trans (h.2 j j1 j2 j3 j4 j5)⟩
  have out : ∀ (l2 f j : Int) (N : z_M), f < 0 → zp_v q (zp_T S) m R0 = .inl f → ((∀ b, b ≠ 13 → zp_x6 b = false → N b = M b) ∧ ∀ j, j ≠ 56 → j ≠ 1 → j ≠ 2 → j ≠ 3 → j ≠ 4 → N 13 j = M 13 j) → N 13 1 = 0 → zq_fr m R0 N → zm_st q a j f N → z_G 0 (d + 5) z_m298 115 [z_R 13, z_I a, z_I l2] [] N Q := by
    intro l2 f j N f0 e kn ta fr st
    have e4 : N 13 4 = f := st.2.2.2.2.2.2
    obtain ⟨k1, k2, k3⟩ := known N kn
    refine rg_298_115 (d + 4) ⟨fun c2 => absurd c2 (by omega), fun _ => ?_⟩
    rw [e4]
    exact h0' f N e k1 (self N k1 k2) ta k3 fr
  have bad : ∀ (l2 f j : Int) (N : z_M), f < 0 → zp_v q (zp_T S) m R0 = .inl f → ((∀ b, b ≠ 13 → zp_x6 b = false → N b = M b) ∧ ∀ j, j ≠ 56 → j ≠ 1 → j ≠ 2 → j ≠ 3 → j ≠ 4 → N 13 j = M 13 j) → N 13 1 = 0 → zq_fr m R0 N → zm_st q a j f N → z_G 0 (d + 5) z_m298 37 [z_R 13, z_I a, z_I l2] [] N Q := by
    intro l2 f j N f0 e kn ta fr st
    exact rg_298_37 (d + 4) ⟨fun _ => out l2 f j N f0 e kn ta fr st, fun _ => kn_good0 (d + 4) (by omega) st (z_n1 (out l2 f j N f0 e kn ta fr st))⟩
  have key : ∀ (f : Nat) (k : Int) (R : Int → Nat → Int) (i : Int) (N : z_M), k + (f : Int) = 41 → m ≤ k → k ≤ 40 → i ≤ a → zm_st q a i 0 N → ((∀ b, b ≠ 13 → zp_x6 b = false → N b = M b) ∧ ∀ j, j ≠ 56 → j ≠ 1 → j ≠ 2 → j ≠ 3 → j ≠ 4 → N 13 j = M 13 j) → N 13 1 = 0 → N 13 56 = k → zq_fr k R N → zq_fr m R0 N → zp_go q (zp_T S) f k R i = zp_v q (zp_T S) m R0 → z_G 0 (d + 5) z_m298 37 [z_R 13, z_I a, z_I 1] [] N Q := by
    intro f
    induction f with
    | zero =>
      intro k R i N hk _ k40 ia st kn ta nr fr fr0 e
      exact absurd hk (by omega)
    | succ f ih =>
      intro k R i N hk km k40 ia st kn ta nr fr fr0 e
      have hp := st.2.2.1
      have hq26 := hq.2.1
      unfold zp_go at e
      have hpl : zp_pl S N := fun w w0 w1 => ⟨by rw [kn.1 304067 (by decide) rfl]; exact congrFun (z_fn hS _ rfl) w, hB w w0 w1⟩
      refine rg_298_37 (d + 4) ⟨fun c => absurd c (by decide), fun _ => kn_good1 (d + 4) st (z_y1 (kn_line d hpl st (by omega) (by omega) k40 nr (fun r j N1 e1 kk ij j3 m1 s1 => ?_) (fun x j N1 e1 x0 j0 j1 m1 s1 => ?_)))⟩
      · rw [e1] at e
        dsimp only at e
        have kn1 := kn_mv N N1 m1 kn
        have kn2 : (∀ b, b ≠ 13 → zp_x6 b = false → zp_w N1 k r b = M b) ∧ ∀ j, j ≠ 56 → j ≠ 1 → j ≠ 2 → j ≠ 3 → j ≠ 4 → zp_w N1 k r 13 j = M 13 j := ⟨fun b b1 b2 => (zp_w_x b1 b2).trans (kn1.1 b b1 b2), fun j j1 j2 j3 j4 j5 => (zp_w_13 j1).trans (kn1.2 j j1 j2 j3 j4 j5)⟩
        have ta2 : zp_w N1 k r 13 1 = 0 := by rw [zp_w_13 (by decide), m1.2 _ (by decide) (by decide)]; exact ta
        have s2 : zm_st q a j 0 (zp_w N1 k r) := zm_st_of s1 ⟨zp_w_13 (by decide), zp_w_13 (by decide), zp_w_13 (by decide)⟩ (zp_w_x (by decide) rfl)
        have m6 : ∀ (c : Nat) (x : Int), c < 6 → N1 (zy_r6 c) x = N (zy_r6 c) x := fun c x hc => by
          rw [m1.1 _ (fun z => by have := zp_x6_r hc; rw [z] at this; cases this)]
        have fr2 : zq_fr (k + 1) (zp_put R k r) (zp_w N1 k r) := by
          intro x c x0 x1 c6
          rw [zp_w_6 c6]
          by_cases cx : x = k
          · rw [if_pos cx, cx, zp_put_e]
          · rw [if_neg cx, zp_put_n cx, m6 c x c6]; exact fr x c x0 (by omega) c6
        have fr3 : zq_fr m R0 (zp_w N1 k r) := by
          intro x c x0 x1 c6
          rw [zp_w_6 c6, if_neg (by omega), m6 c x c6]
          exact fr0 x c x0 x1 c6
        have nr2 : zp_w N1 k r 13 56 = k + 1 := zp_w_k
        generalize zp_w N1 k r = N2 at kn2 ta2 s2 fr2 fr3 nr2
        have e2 : N2 13 2 = j := s2.2.2.2.2.2.1
        have e3 : N2 13 3 = a := s2.2.2.2.2.1
        have e4 : N2 13 4 = 0 := s2.2.2.2.2.2.2
        refine kn_good1 (d + 4) s2 (z_y1 ?_)
        rw [e2, e3]
        refine ⟨fun c => ?_, fun c => ?_⟩
        · rw [if_pos (hq.2.2.2 j c)] at e
          refine rg_298_74 (d + 4) (rg_298_75 (d + 4) ⟨fun _ => rg_298_98 (d + 4) ⟨fun _ => rg_298_37 (d + 4) ⟨fun _ => rg_298_115 (d + 4) ⟨fun _ => ?_, fun c2 => absurd c2 (by omega)⟩, fun c2 => absurd rfl c2⟩, fun c2 => absurd rfl c2⟩, fun c2 => absurd rfl c2⟩)
          have en : N2 13 56 = k + 1 := nr2
          rw [en]
          have ez : (z_up N2 13 49 (k + 1)) 13 49 = k + 1 := z_up_eq
          rw [ez]
          obtain ⟨g1, g2, g3⟩ := known N2 kn2
          have cx2 : zc_x zp_xm M (z_up N2 13 49 (k + 1)) := by
            intro b j' hb hx
            have := g1 b j' hb hx
            rw [← this]
            by_cases c : b = 13
            · subst c
              refine z_up_nj (fun z => ?_)
              unfold zp_xm at hx
              rw [z] at hx; cases hx
            · rw [z_up_ne c]
          have ch2 : ∀ b, z_cch b = true → (z_up N2 13 49 (k + 1)) b = M b := fun b hb => by rw [z_up_ne (fun z => by rw [z] at hb; cases hb)]; exact g2 b hb
          refine h1' (k + 1) _ _ e.symm cx2 (self _ cx2 ch2) (by rw [z_up_nj (by decide)]; exact ta2) z_up_eq (by omega) (by omega) (fun x c x0 x1 c6 => ?_)
          rw [z_up_ne (fun z => by have := zp_x6_r c6; rw [z] at this; cases this)]
          exact fr2 x c x0 x1 c6
        · have hqj := hq.2.2.1 j (by omega) c
          rw [if_neg (by omega)] at e
          refine rg_298_75 (d + 4) ⟨fun c2 => absurd c2 (by decide), fun _ => kn_here (d + 4) s2 (z_viI ⟨fun c2 => ?_, fun c2 => ?_⟩)⟩
          · rw [zm_h_s (by decide)] at c2
            rw [if_pos c2] at e
            refine rg_298_98 (d + 4) ⟨fun c3 => absurd c3 (by decide), fun _ => ?_⟩
            rw [e2, z_w_id (by omega) (by omega)]
            have mv : zm_mv N2 (z_up N2 13 2 (j + 1)) := zm_mv_up (Or.inl rfl)
            refine ih (k + 1) _ (j + 1) _ (by omega) (by omega) (by omega) (by omega) (zm_st_pl s2 (by omega) (by omega)) (kn_mv _ _ mv kn2) (by rw [z_up_nj (by decide)]; exact ta2) (by rw [z_up_nj (by decide)]; exact nr2) (fun x c x0 x1 c6 => ?_) (fun x c x0 x1 c6 => ?_) e
            · rw [z_up_ne (fun z => by have := zp_x6_r c6; rw [z] at this; cases this)]; exact fr2 x c x0 x1 c6
            · rw [z_up_ne (fun z => by have := zp_x6_r c6; rw [z] at this; cases this)]; exact fr3 x c x0 x1 c6
          · have c3 : ¬ q j = 59 := fun z => c2 ((zm_h_s (by decide)).mpr z)
            rw [if_neg c3] at e
            rw [e2]
            refine kn_wrongs (d + 4) s2 (by omega) (by omega) (fun N3 m3 s3 => ?_)
            rw [zm_f0, show -1000 * 1 - j = -1000 - j from by omega] at s3
            have e5 : N3 13 2 = j := s3.2.2.2.2.2.1
            refine rg_298_98 (d + 4) ⟨fun c3 => absurd c3 (by decide), fun _ => ?_⟩
            rw [e5, z_w_id (by omega) (by omega)]
            have mv : zm_mv N2 (z_up N3 13 2 (j + 1)) := zm_mv_tr m3 (zm_mv_up (Or.inl rfl))
            refine bad 1 _ (j + 1) _ (by omega) e.symm (kn_mv _ _ mv kn2) (by rw [mv.2 _ (by decide) (by decide)]; exact ta2) (fun x c x0 x1 c6 => ?_) (zm_st_pl s3 (by omega) (by omega))
            rw [mv.1 _ (fun z => by have := zp_x6_r c6; rw [z] at this; cases this)]; exact fr3 x c x0 x1 c6
      · rw [e1] at e
        refine kn_good0 (d + 4) (by omega) s1 (z_n1 (rg_298_74 (d + 4) (rg_298_75 (d + 4) ⟨fun _ => rg_298_98 (d + 4) ⟨fun _ => bad 0 x j N1 x0 e.symm (kn_mv _ _ m1 kn) (by rw [m1.2 _ (by decide) (by decide)]; exact ta) (fun y c y0 y1 c6 => ?_) s1, fun c2 => absurd rfl c2⟩, fun c2 => absurd rfl c2⟩)))
        rw [m1.1 _ (fun z => by have := zp_x6_r c6; rw [z] at this; cases this)]; exact fr0 y c y0 y1 c6
  refine key (41 - m).toNat m R0 0 _ (by omega) (by omega) m40 (by omega) st1 ⟨fun b b1 _ => by rw [z_up_ne b1]; exact bg13 b b1, fun j j1 j2 j3 j4 j5 => by rw [z_up_nj j1]; exact bgj j j2 j3 j4 j5⟩ (by rw [z_up_nj (by decide)]; unfold zm_bg; rw [z_up_nj (by decide), z_up_nj (by decide), z_up_nj (by decide), z_up_eq]) z_up_eq ?_ ?_ rfl
  · intro x c x0 x1 c6
    have n13 : zy_r6 c ≠ 13 := fun z => by have := zp_x6_r c6; rw [z] at this; cases this
    rw [z_up_ne n13, bg13 _ n13, ← hR x c x0 x1 c6]
    have hy : c = 0 ∨ c = 1 ∨ c = 2 ∨ c = 3 ∨ c = 4 ∨ c = 5 := by omega
    rcases hy with rfl | rfl | rfl | rfl | rfl | rfl
    all_goals exact congrFun (z_fn hS _ rfl) x
  · intro x c x0 x1 c6
    have n13 : zy_r6 c ≠ 13 := fun z => by have := zp_x6_r c6; rw [z] at this; cases this
    rw [z_up_ne n13, bg13 _ n13, ← hR x c x0 x1 c6]
    have hy : c = 0 ∨ c = 1 ∨ c = 2 ∨ c = 3 ∨ c = 4 ∨ c = 5 := by omega
    rcases hy with rfl | rfl | rfl | rfl | rfl | rfl
    all_goals exact congrFun (z_fn hS _ rfl) x
end ZRN
