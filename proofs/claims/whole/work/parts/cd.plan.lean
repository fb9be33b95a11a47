/-! PLAN: the class's whole call -/
section ZPC
variable {S M N : z_M} {Q : z_V → z_M → Prop} {q : Int → Int} {n i : Int}
theorem zk_ch_wy (c : Int) : zk_wy (zk_ch c) := by
  unfold zk_wy zk_ch
  split
  · omega
  · split
    · omega
    · split
      · omega
      · split <;> omega
def zs_stp (F : Int → Int) (w m : Int) (old : Int → Int) : Int → Int := fun j => if 95 * w ≤ j ∧ j < 95 * w + m then zk_ch (F (j - 95 * w)) else old j
theorem kr_plan (d : Nat) {w : Int} {g : Int → Int} (hg : M 1001015 = g) (h : zr_st q n 0 M) (hn : n ≤ 90) (w0 : 0 ≤ w) (w1 : w < 30)
    (h1 : ∀ (s m : Int) (F : Int → Int) (N : z_M), zs_pl q g = .inr (s, F, m) → 0 ≤ s → s < 100 → g s = 0 → 0 ≤ m → m ≤ 95 → zc_x (fun a _ => a == 301018 || a == 301019 || a == 28501020) M N → (∀ a, z_cch a = true → N a = M a) → N 2 4 = 0 → N 301018 = zt_put (M 301018) w s → N 301019 = zt_put (M 301019) w m → N 28501020 = zs_stp F w m (M 28501020) → Q (z_I 1) N)
    (h0 : ∀ (f : Int) (N : z_M), zs_pl q g = .inl f → zc_c M N → N 2 4 = f → Q (z_I 0) N) : z_Cl 0 (d + 8) 74 [z_R 4, z_R 2, z_I w] M Q := by
  unfold zs_pl at h1 h0
  refine re_74 (d + 7) ?_
  have c0 : zc_c M (z_up M 4 6 0) := zc_up rfl rfl
  have st0 : zr_st q n 0 (z_up M 4 6 0) := zr_st_of h (z_up_ne (by decide)) (z_up_ne (by decide))
  have fr0 : zs_fr (fun _ => 0) 0 (z_up M 4 6 0) := ⟨z_up_eq, fun j a b => absurd b (by omega)⟩
  generalize z_up M 4 6 0 = M0 at c0 st0 fr0
  refine kr_spot (d + 5) st0 (fun s N1 e1 s0 s1 in1 mv1 st1 => z_viI ⟨fun _ => ?_, fun c => absurd c (by omega)⟩) (fun f N1 e1 b1 => z_viI ⟨fun c => absurd c (by decide), fun _ => h0 f N1 (by rw [e1]) (zc_tr c0 (zc_mv b1.1)) b1.2⟩)
  rw [e1] at h1 h0
  dsimp only at h1 h0
  have c1 := zc_tr c0 (zc_mv mv1)
  have eg : N1 1001015 = g := (zc_fn c1 _ rfl).trans hg
  rw [show (0 : Int) + 2 = 2 from rfl] at st1
  have fr1 : zs_fr (fun _ => 0) 0 N1 := ⟨by rw [mv1.1 4 (by decide)]; exact fr0.1, fun j a b => absurd b (by omega)⟩
  refine kr_isPlain (d + 6) eg (fun _ _ g0 => z_y2 ?_) (fun gn => z_n2 (kr_fail (d + 7) (by decide) (by decide) (fun N' b => z_viI (z_bl_of (Or.inl rfl) (h0 (-3000) N' (if_pos (fun z => gn ⟨s0, s1, z⟩)) (zc_tr c1 (zc_mv b.1)) (by rw [b.2]; rfl))))))
  rw [if_neg (fun z => z g0)] at h1 h0
  -- the plan is written
  have wr : ∀ (m j : Int) (F : Int → Int) (N2 : z_M), 0 ≤ m → m ≤ 95 → (∀ N : z_M, zc_x (fun a _ => a == 301018 || a == 301019 || a == 28501020) M N → (∀ a, z_cch a = true → N a = M a) → N 2 4 = 0 → N 301018 = zt_put (M 301018) w s → N 301019 = zt_put (M 301019) w m → N 28501020 = zs_stp F w m (M 28501020) → Q (z_I 1) N) → zc_c M N2 → zr_st q n j N2 → zs_fr F m N2 → ((0 : Int) ≤ w ∧ w < (30 : Int) ∧ ((0 : Int) ≤ w ∧ w < (30 : Int) ∧ ((0 : Int) ≤ 0 ∧ (0 : Int) ≤ (z_w (95 * w)) ∧ (0 : Int) ≤ ((z_up (z_up N2 301018 w s) 301019 w ((z_up N2 301018 w s) 4 6)) 4 6) ∧ 0 + ((z_up (z_up N2 301018 w s) 301019 w ((z_up N2 301018 w s) 4 6)) 4 6) ≤ (96 : Int) ∧ (z_w (95 * w)) + ((z_up (z_up N2 301018 w s) 301019 w ((z_up N2 301018 w s) 4 6)) 4 6) ≤ (2850 : Int) ∧ Q (z_I 1) (z_cp (z_up (z_up N2 301018 w s) 301019 w ((z_up N2 301018 w s) 4 6)) 961022 0 28501020 (z_w (95 * w)) ((z_up (z_up N2 301018 w s) 301019 w ((z_up N2 301018 w s) 4 6)) 4 6))))) := by
    intro m j F N2 m0 m95 hQ cc st fr
    have ea : (z_up N2 301018 w s) 4 6 = m := by rw [z_up_ne (by decide)]; exact fr.1
    have eb : (z_up (z_up N2 301018 w s) 301019 w m) 4 6 = m := by rw [z_up_ne (by decide)]; exact ea
    rw [ea, eb, z_w_id (x := 95 * w) (by omega) (by omega)]
    refine ⟨w0, w1, w0, w1, by omega, by omega, by omega, by omega, by omega, hQ _ (fun a j' ha hx => ?_) (fun a ha => ?_) ?_ ?_ ?_ ?_⟩
    · dsimp only at hx
      simp only [Bool.or_eq_false_iff, beq_eq_false_iff_ne] at hx
      rw [zy_cp_ne hx.2, z_up_ne hx.1.2, z_up_ne hx.1.1]
      exact cc.1 a j' ha
    · have ne : ∀ c : Nat, z_cch c = false → a ≠ c := fun c hc2 e => by rw [e, hc2] at ha; cases ha
      rw [zy_cp_ne (ne _ rfl), z_up_ne (ne _ rfl), z_up_ne (ne _ rfl)]
      exact cc.2 a ha
    · rw [zy_cp_ne (by decide), z_up_ne (by decide), z_up_ne (by decide)]
      exact st.2.2.2.2.2.2
    · rw [zy_cp_ne (by decide), z_up_ne (by decide)]
      funext x
      unfold zt_put
      by_cases cx : x = w
      · rw [if_pos cx, cx, z_up_eq]
      · rw [if_neg cx, z_up_nj cx]; exact congrFun (zc_fn cc _ rfl) x
    · rw [zy_cp_ne (by decide)]
      funext x
      unfold zt_put
      by_cases cx : x = w
      · rw [if_pos cx, cx, z_up_eq]
      · rw [if_neg cx, z_up_nj cx, z_up_ne (by decide)]; exact congrFun (zc_fn cc _ rfl) x
    · funext x
      unfold z_cp zs_stp
      rw [if_pos rfl]
      by_cases cx : 95 * w ≤ x ∧ x < 95 * w + m
      · rw [if_pos cx, if_pos cx, z_up_ne (by decide), z_up_ne (by decide), show (0 : Int) + (x - 95 * w) = x - 95 * w from by omega]
        exact fr.2 _ (by omega) (by omega)
      · rw [if_neg cx, if_neg cx, z_up_ne (by decide), z_up_ne (by decide)]
        exact congrFun (zc_fn cc _ rfl) x
  refine kr_atEnd (d + 7) st1 (fun je qe => z_y2 (kr_atEnd (d + 7) st1 (fun _ _ => z_y2 (wr 0 2 (fun _ => 0) N1 (by decide) (by decide) (fun N a b c e f g2 => h1 s 0 (fun _ => 0) N (if_pos qe) s0 s1 g0 (by decide) (by decide) a b c e f g2) c1 st1 fr1)) (fun jl _ => absurd jl (by omega)))) (fun jl qn => z_n2 ?_)
  rw [if_neg qn] at h1 h0
  refine re_75 (d + 6) ((kr_steps hn 600).2 2 (d + 4) 0 2 0 (fun _ => 0) 0 N1 _ (by decide) (by omega) (by decide) (by have := st1.2.2.2.1; omega) (by decide) (by decide) (by decide) (by decide) st1 fr1 (fun F2 m2 j N3 e3 c3 st3 fr3 => z_y2 ?_) (fun x N3 e3 c3 b3 => z_n2 (h0 x N3 (by rw [e3]) (zc_tr c1 c3) b3)))
  obtain ⟨_, _, mm, m95, q5⟩ := zs_end st1.1 600 true 0 2 (fun _ => 0) 0 F2 m2 j (by decide) (by decide) e3
  have qe : q j = -1 := by rcases q5 rfl with z | z <;> omega
  rw [e3] at h1
  exact kr_atEnd (d + 7) st3 (fun _ _ => z_y2 (wr m2 j F2 N3 mm m95 (fun N a b c e f g2 => h1 s m2 F2 N rfl s0 s1 g0 mm m95 a b c e f g2) (zc_tr c1 c3) st3 fr3)) (fun _ z => absurd qe z)
def zs_xc (a : Nat) (j : Int) : Bool := a == 301018 || a == 301019 || a == 28501020 || a == 28801021 || (a == 2 && j == 1)
/-- who may have this plan -/
abbrev zs_w (S : z_M) (p v a t : Int) : Prop := (0 ≤ p ∧ p < 10) ∧ (0 ≤ v ∧ v < 3) ∧ (v ≤ 0 ∨ z_tl S p) ∧ (1 ≤ a ∧ a ≤ 90 ∧ a ≤ t)
theorem kc_plan (d : Nat) {p v a : Int} (hS : z_sit S M) (hT : z_ITape S) (hI : z_IPeo S) (hk : ∀ w : Int, 0 ≤ w → w < 30 → 0 ≤ M 301019 w → zk_ok M w)
    (h1 : zs_w S p v a (S 2 1) → ∀ (s m : Int) (F : Int → Int) (N : z_M), zs_pl (zr_q S a) (S 1001015) = .inr (s, F, m) → 0 ≤ s → s < 100 → 0 ≤ m → m ≤ 95 → zc_x zs_xc M N → zz_no N → N 2 1 = 0 → N 301018 = zt_put (M 301018) (3 * p + v) s → N 301019 = zt_put (M 301019) (3 * p + v) m → N 28501020 = zs_stp F (3 * p + v) m (M 28501020) → (∀ w : Int, 0 ≤ w → w < 30 → 0 ≤ N 301019 w → ∀ t : Nat, t < 96 → N 28801021 (96 * w + (t : Int)) = zk_c N (N 1001015) w t) → Q (z_I m) N)
    (h0 : zs_w S p v a (S 2 1) → ∀ (f : Int) (N : z_M), f ≠ 0 → zs_pl (zr_q S a) (S 1001015) = .inl f → z_sit (z_up S 2 1 0) N → Q (z_I f) N)
    (hz : ∀ f : Int, zs_pl (zr_q S a) (S 1001015) = .inl f → f ≠ 0)
    (hn : ¬ zs_w S p v a (S 2 1) → Q (z_I (-1)) M) : z_Cl 0 (d + 9) 169 [z_R 1, z_I p, z_I v, z_I a] M Q := by
  have go : (0 ≤ p ∧ p < 10) → (0 ≤ v ∧ v < 3) → (v ≤ 0 ∨ z_tl S p) → z_Cl 0 (d + 8) 131 [z_R 2, z_I a, z_I 90] M (fun v3 M3 => z_vi v3 fun x3 => ((¬ x3 = 0 → z_Cl 0 (d + 8) 74 [z_R 4, z_R 2, z_I (z_w ((z_w (3 * p)) + v))] M3 (fun v4 M4 => z_vi v4 fun x4 => ((x4 = 0 → z_Cl 0 (d + 8) 62 [z_R 4, z_I (z_w ((z_w (3 * p)) + v))] M4 (fun v5 M5 => z_vi v5 fun x5 => z_Cl 0 (d + 8) 132 [z_R 2, z_I x5] M5 (fun v6 M6 => z_vi v6 fun x6 => Q (z_I x6) M6))) ∧ (¬ x4 = 0 → z_Cl 0 (d + 8) 79 [z_R 4] M4 (fun _ M7 => z_Cl 0 (d + 8) 111 [z_R 6] M7 (fun _ M8 => z_Cl 0 (d + 8) 62 [z_R 4, z_I (z_w ((z_w (3 * p)) + v))] M8 (fun v9 M9 => z_vi v9 fun x9 => z_Cl 0 (d + 8) 132 [z_R 2, z_I x9] M9 (fun v10 M10 => z_vi v10 fun x10 => Q (z_I x10) M10)))))))) ∧ (x3 = 0 → Q (z_I (-1)) M3))) := by
    intro hp hv ht
    rw [z_w_id (x := 3 * p) (by omega) (by omega), z_w_id (x := 3 * p + v) (by omega) (by omega)]
    refine kr_open (d + 8) hS hT (fun a1 a2 a3 N0 mv st => z_y2 ?_) (fun c => z_n2 (hn (fun z => c z.2.2.2)))
    have hw : zs_w S p v a (S 2 1) := ⟨hp, hv, ht, a1, a2, a3⟩
    have h1' := h1 hw
    have h0' := h0 hw
    have hg : N0 1001015 = S 1001015 := (mv.1 _ (by decide)).trans (z_fn hS _ rfl)
    refine kr_plan d hg st a2 (w := 3 * p + v) (by omega) (by omega) (fun s m F N e s0 s1 gs m0 m95 cx cc cf k1 k2 k3 => z_y1 ?_) (fun f N e cc cf => z_n1 (re_62 (d + 8) ⟨by omega, by omega, z_viI (kr_close (d + 7) (fun c => absurd (cf.symm.trans c) (hz f e)) (fun c => z_viI ?_))⟩))
    · have c0 := zc_mv mv
      have cx1 : zc_x (fun a _ => a == 301018 || a == 301019 || a == 28501020) M N := fun b j hb hx => (cx b j hb hx).trans (c0.1 b j hb)
      have t1 : N 301018 = zt_put (M 301018) (3 * p + v) s := by rw [k1, mv.1 _ (by decide)]
      have t2 : N 301019 = zt_put (M 301019) (3 * p + v) m := by rw [k2, mv.1 _ (by decide)]
      have t3 : N 28501020 = zs_stp F (3 * p + v) m (M 28501020) := by rw [k3, mv.1 _ (by decide)]
      have ok : ∀ w : Int, 0 ≤ w → w < 30 → 0 ≤ N 301019 w → zk_ok N w := by
        intro w w0 w1 l
        unfold zk_ok
        rw [t1, t2, t3]
        rw [t2] at l
        by_cases cw : w = 3 * p + v
        · rw [cw, zt_put_e, zt_put_e]
          refine ⟨⟨s0, s1⟩, m95, fun t t0 t1 => ?_⟩
          unfold zs_stp
          rw [if_pos ⟨by omega, by omega⟩]
          exact zk_ch_wy _
        · rw [zt_put_n cw] at l
          rw [zt_put_n cw, zt_put_n cw]
          have := hk w w0 w1 l
          refine ⟨this.1, this.2.1, fun t t0 t1 => ?_⟩
          have l95 := this.2.1
          unfold zs_stp
          rw [if_neg (by omega)]
          exact this.2.2 t t0 t1
      refine kc_walk (d + 5) (g := N 1001015) rfl ok (fun N2 m1 m2 => c_forget (d + 7) (re_62 (d + 8) ⟨by omega, by omega, z_viI (kr_close (d + 7) (fun _ => z_viI ?_) (fun c => ?_))⟩))
      · show Q (z_I ((zz_fg N2) 301019 (3 * p + v))) (zr_cl (zz_fg N2))
        have eL : (zz_fg N2) 301019 (3 * p + v) = m := by rw [zz_fg_n rfl, m1 _ (by decide), t2, zt_put_e]
        rw [eL]
        have cx2 : zc_x zs_xc M (zr_cl (zz_fg N2)) := by
          intro b j hb hx
          unfold zs_xc at hx
          simp only [Bool.or_eq_false_iff, beq_eq_false_iff_ne] at hx
          obtain ⟨⟨⟨⟨x1, x2⟩, x3⟩, x4⟩, x5⟩ := hx
          by_cases c : b = 2
          · subst c
            rw [z_cor2s hb] at x5; cases x5
          · have nc : z_cch b = false := by
              cases hc : z_cch b with
              | false => rfl
              | true =>
                unfold z_cch at hc
                simp only [Bool.or_eq_true, beq_iff_eq] at hc
                rcases hc with ((e | e) | e) | e <;> rw [e] at hb <;> cases hb
            rw [zr_cl_n c, zz_fg_n nc, m1 _ x4]
            exact cx1 b j hb (by simp only [Bool.or_eq_false_iff, beq_eq_false_iff_ne]; exact ⟨⟨x1, x2⟩, x3⟩)
        have z1 : (zr_cl (zz_fg N2)) 301018 = N 301018 := by rw [zr_cl_n (by decide), zz_fg_n rfl]; exact m1 _ (by decide)
        have z2 : (zr_cl (zz_fg N2)) 301019 = N 301019 := by rw [zr_cl_n (by decide), zz_fg_n rfl]; exact m1 _ (by decide)
        have z3 : (zr_cl (zz_fg N2)) 28501020 = N 28501020 := by rw [zr_cl_n (by decide), zz_fg_n rfl]; exact m1 _ (by decide)
        have z4 : (zr_cl (zz_fg N2)) 1001015 = N 1001015 := by rw [zr_cl_n (by decide), zz_fg_n rfl]; exact m1 _ (by decide)
        refine h1' s m F _ e s0 s1 m0 m95 cx2 (zz_fg_no (M := N2) (fun k hk => zr_cl_n (fun c => by rw [c] at hk; cases hk))) zr_cl_s (z1.trans t1) (z2.trans t2) (z3.trans t3) (fun w w0 w1 l t ht => ?_)
        rw [z2] at l
        rw [z4, zr_cl_n (by decide), zz_fg_n rfl, m2 w w0 w1 l t ht]
        unfold zk_c
        rw [z1, z2, z3]
      · have : (zz_fg N2) 2 4 = 0 := by rw [zz_fg_n rfl, m1 _ (by decide)]; exact cf
        exact absurd this c
    · rw [cf]
      exact h0' f _ (hz f e) e (zr_cl_sit (zc_sit (zc_sit hS (zc_mv mv)) cc))
  refine re_169 (d + 8) (kc_isPerson (d + 8) (fun p0 p1 => z_y1 (kc_isVersion (d + 8) (fun v0 v1 => z_y1 ⟨fun c => go ⟨p0, p1⟩ ⟨v0, v1⟩ (Or.inl c), fun c => kc_isTold (d + 7) hS hI (fun ht => z_y1 (go ⟨p0, p1⟩ ⟨v0, v1⟩ (Or.inr ht))) (fun ht => z_n1 (hn (fun z => ?_)))⟩) (fun c => z_n1 (hn (fun z => by have := z.2.1; omega))))) (fun c => z_n1 (hn (fun z => by have := z.1; omega))))
  rcases z.2.2.1 with z1 | z1
  · omega
  · exact ht z1
end ZPC
