/-! LAW: the class's whole call, its end -/
section ZLF
variable {S M N N0 : z_M} {Q : z_V → z_M → Prop} {q : Int → Int} {n i : Int}
/-- the class's clauses as they stay -/
def zl_cc (k : Int) (C : Int → zl_D) (N : z_M) : Prop := ∀ x : Int, 0 ≤ x → x < k →
  N 641027 (4 * x) = (C x).1 ∧ N 641027 (4 * x + 1) = (C x).2.1.1 ∧ N 641027 (4 * x + 2) = (C x).2.1.1 + ((C x).2.2.1.2.length : Int) ∧ N 641027 (4 * x + 3) = zl_oe (C x) ∧
  zl_at (N 2401025) (C x).2.1.1 (C x).2.2.1.2 ∧ zl_at (N 2401025) ((C x).2.1.1 + ((C x).2.2.1.2.length : Int)) (C x).2.2.2.2 ∧ zl_oe (C x) ≤ 240
/-- all clauses come from the text -/
def zl_all (q : Int → Int) (n k : Int) (C : Int → zl_D) : Prop := ∀ x : Int, 0 ≤ x → x < k → zl_src q n (C x) ∧ zl_lt (C x).1 ∧ 0 ≤ (C x).2.1.1 ∧ 0 ≤ (C x).2.1.2 ∧ zl_oe (C x) ≤ n ∧ zl_pe (C x) ≤ n
theorem zl_go_all (hT : zr_T q n) : ∀ (f : Nat) (k : Int) (C : Int → zl_D) (i o p k2 : Int) (C2 : Int → zl_D) (o2 p2 : Int), 0 ≤ i → i ≤ n → 0 ≤ o → o ≤ i → 0 ≤ p → p ≤ i → 0 ≤ k → zl_all q n k C → zl_go q f k C i o p = .inr (k2, C2, o2, p2) → k < k2 ∧ zl_all q n k2 C2 ∧ o2 ≤ n ∧ p2 ≤ n := by
  intro f
  induction f with
  | zero => intro k C i o p k2 C2 o2 p2 _ _ _ _ _ _ _ _ h; cases h
  | succ f ih =>
    intro k C i o p k2 C2 o2 p2 i0 hn o0 oi p0 pi k0 ha h
    unfold zl_go at h
    split at h
    · cases h
    · rename_i j D e
      obtain ⟨s1, s2, s3, s4, s5, s6, s7, s8, s9⟩ := zl_cl_src hT i0 hn e
      have e3 : D.2.1.1 = o := by rw [s3]
      have e4 : D.2.1.2 = p := by rw [s3]
      have ha2 : zl_all q n (k + 1) (zl_put C k D) := by
        intro x x0 x1
        by_cases cx : x = k
        · rw [cx, zl_put_e]; exact ⟨s1, s2, by omega, by omega, by omega, by omega⟩
        · rw [zl_put_n cx]; exact ha x x0 (by omega)
      split at h
      · have hh := Sum.inr.inj h
        have a1 : k + 1 = k2 := congrArg (fun z => z.1) hh
        have a2 : zl_put C k D = C2 := congrArg (fun z => z.2.1) hh
        have a3 : zl_oe D = o2 := congrArg (fun z => z.2.2.1) hh
        have a4 : zl_pe D = p2 := congrArg (fun z => z.2.2.2) hh
        rw [← a1, ← a2, ← a3, ← a4]
        exact ⟨by omega, ha2, by omega, by omega⟩
      · split at h
        · rename_i e59
          have hj : j < n := by
            by_cases z : j < n
            · exact z
            · have := hT.2.2.2 j (by omega); omega
          have := ih (k + 1) (zl_put C k D) (j + 1) (zl_oe D) (zl_pe D) k2 C2 o2 p2 (by omega) (by omega) (by omega) (by omega) (by omega) (by omega) (by omega) ha2 h
          exact ⟨by omega, this.2⟩
        · cases h
theorem kr_lawtext (d : Nat) (hn : n ≤ 240) (h : zr_st q n 0 M)
    (h1 : ∀ (k : Int) (C : Int → zl_D) (o p : Int) (N : z_M), zl_v q = .inr (k, C, o, p) → 1 ≤ k → k ≤ 16 → zc_x (fun a j => a == 2401025 || a == 641027 || (a == 5 && j == 6)) M N → (∀ a, z_cch a = true → N a = M a) → N 2 4 = 0 → N 5 6 = k → zl_cc k C N → Q (z_I 1) N)
    (h0 : ∀ (x : Int) (N : z_M), zl_v q = .inl x → zc_c M N → N 2 4 = x → Q (z_I 0) N) : z_Cl 0 (d + 41) 26 [z_R 5, z_R 2] M Q := by
  have hT := h.1
  refine re_26 (d + 40) ?_
  have c0 : zc_c M (z_up M 5 7 0) := zc_up rfl rfl
  have s0 : zr_st q n 0 (z_up M 5 7 0) := zr_st_of h (z_up_ne (by decide)) (z_up_ne (by decide))
  have o0 : (z_up M 5 7 0) 5 7 = 0 := z_up_eq
  have key : ∀ (f : Nat) (k : Int) (C : Int → zl_D) (i o p : Int) (N : z_M), k + (f : Int) = 17 → 0 ≤ k → k ≤ 16 → 0 ≤ o → o ≤ i → zr_st q n i N → zc_c M N → N 5 7 = o → zl_fc k C o N → (∀ x : Int, 0 ≤ x → x < k → 0 ≤ (C x).2.1.1) → zl_go q f k C i o p = zl_v q → z_G 0 (d + 41) z_m26 7 [z_R 5, z_R 2, z_I k] [] N Q := by
    intro f
    induction f with
    | zero =>
      intro k C i o p N hk _ k16 _ _ st cc eo fr fz e
      exact absurd hk (by omega)
    | succ f ih =>
      intro k C i o p N hk k0 k16 o0 oi st cc eo fr fz e
      unfold zl_go at e
      refine rg_26_7 (d + 40) ⟨fun c => absurd c (by omega), fun _ => kr_clause d hn (p := p) st k0 k16 o0 oi eo fr (fun j D N1 e1 kl c1 st1 eo1 fr1 => z_y2 ?_) (fun x N1 e1 c1 b1 => z_n2 (h0 x N1 ?_ (zc_tr cc c1) b1))⟩
      · obtain ⟨s1, s2, s3, s4, s5, s6, s7, s8, s9⟩ := zl_cl_src hT st.2.2.1 st.2.2.2.1 e1
        rw [e1] at e
        dsimp only at e
        have c2 := zc_tr cc c1
        refine kr_atEnd (d + 40) st1 (fun je qe => z_y1 ?_) (fun jl qn => z_n1 (kr_take (d + 39) st1 (by decide) (fun e59 _ st3 => z_y2 ?_) (fun ne N3 b3 => z_n2 (h0 _ N3 ?_ (zc_tr c2 (zc_mv b3.1)) b3.2))))
        · rw [if_pos qe] at e
          have hoe : 0 ≤ zl_oe D ∧ zl_oe D ≤ 240 := by omega
          rw [z_w_id (x := k + 1) (by omega) (by omega)]
          have ea : (z_up N1 5 6 (k + 1)) 5 7 = zl_oe D := by rw [z_up_nj (by decide)]; exact eo1
          rw [ea]
          have eb : (z_cp (z_up N1 5 6 (k + 1)) 2401026 0 2401025 0 (zl_oe D)) 5 6 = k + 1 := by rw [zy_cp_ne (by decide), z_up_eq]
          rw [eb, z_w_id (x := 4 * (k + 1)) (by omega) (by omega)]
          have fO : ∀ x : Int, 0 ≤ x → x < zl_oe D → (z_cp (z_cp (z_up N1 5 6 (k + 1)) 2401026 0 2401025 0 (zl_oe D)) 641028 0 641027 0 (4 * (k + 1))) 2401025 x = N1 2401026 x := fun x x0 x1 => by
            rw [zy_cp_ne (by decide), zy_cp_on x0 x1, z_up_ne (by decide)]
          have fC : ∀ x : Int, 0 ≤ x → x < 4 * (k + 1) → (z_cp (z_cp (z_up N1 5 6 (k + 1)) 2401026 0 2401025 0 (zl_oe D)) 641028 0 641027 0 (4 * (k + 1))) 641027 x = N1 641028 x := fun x x0 x1 => by
            rw [zy_cp_on x0 x1, zy_cp_ne (by decide), z_up_ne (by decide)]
          refine ⟨by omega, by omega, by omega, by omega, by omega, by omega, by omega, by omega, by omega, by omega, h1 (k + 1) _ _ _ _ e.symm (by omega) (by omega) (fun a j' ha hx => ?_) (fun a ha => ?_) ?_ ?_ (fun x x0 x1 => ?_)⟩
          · dsimp only at hx
            simp only [Bool.or_eq_false_iff, beq_eq_false_iff_ne] at hx
            rw [zy_cp_ne hx.1.2, zy_cp_ne hx.1.1]
            have : z_up N1 5 6 (k + 1) a j' = N1 a j' := by
              by_cases c : a = 5
              · subst c
                refine z_up_nj (fun c2 => ?_)
                have := hx.2
                rw [c2] at this; cases this
              · rw [z_up_ne c]
            rw [this]
            exact c2.1 a j' ha
          · have ne : ∀ c : Nat, z_cch c = false → a ≠ c := fun c hc2 e => by rw [e, hc2] at ha; cases ha
            rw [zy_cp_ne (ne _ rfl), zy_cp_ne (ne _ rfl), z_up_ne (ne _ rfl)]
            exact c2.2 a ha
          · rw [zy_cp_ne (by decide), zy_cp_ne (by decide), z_up_ne (by decide)]
            exact st1.2.2.2.2.2.2
          · rw [zy_cp_ne (by decide)]; exact eb
          · obtain ⟨q1, q2, q3, q4, q5, q6, q7⟩ := fr1 x x0 x1
            have hsrc : 0 ≤ (zl_put C k D x).2.1.1 := by
              by_cases cx : x = k
              · rw [cx, zl_put_e, s3]; exact o0
              · rw [zl_put_n cx]; exact fz x x0 (by omega)
            have le : (zl_put C k D x).2.1.1 + ((zl_put C k D x).2.2.1.2.length : Int) + ((zl_put C k D x).2.2.2.2.length : Int) ≤ zl_oe D := q7
            refine ⟨by rw [fC _ (by omega) (by omega)]; exact q1, by rw [fC _ (by omega) (by omega)]; exact q2, by rw [fC _ (by omega) (by omega)]; exact q3, by rw [fC _ (by omega) (by omega)]; exact q4, zl_at_cg _ _ (fun y a b => fO y (by omega) (by omega)) q5, zl_at_cg _ _ (fun y a b => fO y (by omega) (by omega)) q6, by omega⟩
        · rw [if_neg qn, if_pos e59] at e
          rw [z_w_id (x := k + 1) (by omega) (by omega)]
          refine ih (k + 1) _ (j + 1) _ _ _ (by omega) (by omega) (by omega) (by omega) (by omega) st3 (zc_tr c2 (zc_up rfl rfl)) (by rw [z_up_ne (by decide)]; exact eo1) (fun x x0 x1 => ?_) (fun x x0 x1 => ?_) e
          · rw [z_up_ne (by decide), z_up_ne (by decide)]
            exact fr1 x x0 x1
          · by_cases cx : x = k
            · rw [cx, zl_put_e, s3]; exact o0
            · rw [zl_put_n cx]; exact fz x x0 (by omega)
        · rw [← e, if_neg qn, if_neg ne]
      · rw [← e, e1]
  exact key 17 0 _ 0 0 0 _ (by decide) (by decide) (by decide) (by decide) (by decide) s0 c0 o0 (fun x a b => absurd b (by omega)) (fun x a b => absurd b (by omega)) rfl
def zl_xc (a : Nat) (j : Int) : Bool := a == 2401025 || a == 641027 || (a == 5 && j == 6) || (a == 2 && j == 1)
theorem kc_law (d : Nat) {a : Int} (hS : z_sit S M) (hT : z_ITape S)
    (h1 : 1 ≤ a → a ≤ 240 → a ≤ S 2 1 → ∀ (k : Int) (C : Int → zl_D) (o p : Int) (N : z_M), zl_v (zr_q S a) = .inr (k, C, o, p) → 1 ≤ k → k ≤ 16 → zc_x zl_xc M N → zz_no N → N 2 1 = 0 → N 5 6 = k → zl_cc k C N → Q (z_I k) N)
    (h0 : 1 ≤ a → a ≤ 240 → a ≤ S 2 1 → ∀ (f : Int) (N : z_M), f ≠ 0 → zl_v (zr_q S a) = .inl f → z_sit (z_up S 2 1 0) N → Q (z_I f) N)
    (hz : ∀ f : Int, zl_v (zr_q S a) = .inl f → f ≠ 0)
    (hn : ¬ (1 ≤ a ∧ a ≤ 240 ∧ a ≤ S 2 1) → Q (z_I (-1)) M) : z_Cl 0 (d + 42) 170 [z_R 1, z_I a] M Q := by
  refine re_170 (d + 41) (kr_open (d + 41) hS hT (fun a1 a2 a3 N0 mv st => z_y2 (kr_lawtext d a2 st (fun k C o p N e k1 k2 cx cc cf ck cv => z_y1 ?_) (fun f N e cc cf => z_n1 (re_25 (d + 41) (z_viI (kr_close (d + 40) (fun c => absurd (cf.symm.trans c) (hz f e)) (fun c => z_viI ?_))))))) (fun c => z_n2 (hn c)))
  · have c0 := zc_mv mv
    have cx1 : zc_x (fun a j => a == 2401025 || a == 641027 || (a == 5 && j == 6)) M N := fun b j hb hx => (cx b j hb hx).trans (c0.1 b j hb)
    refine c_forget (d + 40) (re_25 (d + 41) (z_viI (kr_close (d + 40) (fun _ => z_viI ?_) (fun c => ?_))))
    · show Q (z_I ((zz_fg N) 5 6)) (zr_cl (zz_fg N))
      have eL : (zz_fg N) 5 6 = k := by rw [zz_fg_n rfl]; exact ck
      rw [eL]
      have z1 : ∀ b, b ≠ 2 → z_cch b = false → (zr_cl (zz_fg N)) b = N b := fun b b2 bc => by rw [zr_cl_n b2, zz_fg_n bc]
      refine h1 a1 a2 a3 k C o p _ e k1 k2 (fun b j hb hx => ?_) (zz_fg_no (M := N) (fun k hk => zr_cl_n (fun c => by rw [c] at hk; cases hk))) zr_cl_s (by rw [z1 5 (by decide) rfl]; exact ck) (fun x x0 x1 => ?_)
      · unfold zl_xc at hx
        simp only [Bool.or_eq_false_iff] at hx
        by_cases c : b = 2
        · subst c
          have := hx.2
          rw [z_cor2s hb] at this; cases this
        · have nc : z_cch b = false := by
            cases hc : z_cch b with
            | false => rfl
            | true =>
              unfold z_cch at hc
              simp only [Bool.or_eq_true, beq_iff_eq] at hc
              rcases hc with ((e | e) | e) | e <;> rw [e] at hb <;> cases hb
          rw [z1 b c nc]
          exact cx1 b j hb (by simp only [Bool.or_eq_false_iff]; exact hx.1)
      · rw [z1 _ (by decide) rfl, z1 _ (by decide) rfl]
        exact cv x x0 x1
    · have : (zz_fg N) 2 4 = 0 := by rw [zz_fg_n rfl]; exact cf
      exact absurd this c
  · rw [cf]
    exact h0 a1 a2 a3 f _ (hz f e) e (zr_cl_sit (zc_sit (zc_sit hS (zc_mv mv)) cc))
end ZLF
