/-! PLAN: the model's whole call -/
section ZPW
variable {S M N : z_M} {Q : z_V → z_M → Prop} {q : Int → Int} {n i : Int}
def zs_xm (a : Nat) (j : Int) : Bool := a == 304067 || a == 301068 || a == 301069 || a == 28501070 || a == 28801071 || (a == 13 && j == 1)
def zs_chr (F : Int → Int) (w m : Int) (old : Int → Int) : Int → Int := fun j => if 95 * w ≤ j ∧ j < 95 * w + m then F (j - 95 * w) else old j
theorem km_plan (d : Nat) {p v a : Int} {g : Int → Int} (hS : z_sit S M) (hB : zy_B S) (hg : S 1001065 = g) (hT : 1 ≤ a → a ≤ 90 → a ≤ S 13 1 → zr_T q a ∧ zs_raw a S ∧ ∀ i : Int, 0 ≤ i → i < a → z_and (S 2603064 i) 255 = q i)
    (hcv : (∀ f : Int, zs_pl q g ≠ .inl f) → zz_no M)
    (h1 : zs_w S p v a (S 13 1) → ∀ (s m : Int) (F : Int → Int) (N : z_M), zs_pl q g = .inr (s, F, m) → 0 ≤ s → s < 100 → 0 ≤ m → m ≤ 95 → zc_x zs_xm M N → zz_no N → N 13 1 = 0 → N 304067 = zt_put (M 304067) (3 * p + v) 1 → N 301068 = zt_put (M 301068) (3 * p + v) s → N 301069 = zt_put (M 301069) (3 * p + v) m → N 28501070 = zs_chr F (3 * p + v) m (M 28501070) → (∀ t : Nat, t < 96 → N 28801071 (96 * (3 * p + v) + (t : Int)) = zk_m N g (3 * p + v) t) → (∀ j : Int, j < 96 * (3 * p + v) ∨ 96 * (3 * p + v) + 96 ≤ j → N 28801071 j = M 28801071 j) → Q (z_I m) N)
    (h0 : zs_w S p v a (S 13 1) → ∀ (f : Int) (N : z_M), zs_pl q g = .inl f → z_sit (z_up S 13 1 0) N → Q (z_I f) N)
    (hn : ¬ zs_w S p v a (S 13 1) → Q (z_I (-1)) M) : z_Cl 0 (d + 4) 249 [z_R 13, z_I p, z_I v, z_I a] M Q := by
  have et : M 13 1 = S 13 1 := z_ff hS 13 1 rfl
  have no : ¬ zs_w S p v a (S 13 1) → z_G 0 (d + 4) z_m249 56 [z_R 13, z_I p, z_I v, z_I a, z_U, z_U, z_U, z_U] [] M Q := fun c => rg_249_56 (d + 3) (hn c)
  have go : (0 ≤ p ∧ p < 10) → (0 ≤ v ∧ v < 3) → (v ≤ 0 ∨ z_tl S p) → z_G 0 (d + 4) z_m249 36 [z_R 13, z_I p, z_I v, z_I a, z_U, z_U, z_U, z_U] [] M Q := by
    intro hp hv ht
    refine rg_249_36 (d + 3) (km_lies (d + 3) (fun a1 a2 => z_y1 ⟨fun a3 => re_234 (d + 3) ?_, fun c => no (fun z => by have := z.2.2.2; rw [et] at c; omega)⟩) (fun c => z_n1 (no (fun z => by have := z.2.2.2; omega))))
    rw [et] at a3
    obtain ⟨hq, hraw, hqt⟩ := hT a1 a2 a3
    have hw : zs_w S p v a (S 13 1) := ⟨hp, hv, ht, a1, a2, a3⟩
    have h1' := h1 hw
    have h0' := h0 hw
    have st0 : zm_st q a 0 0 (zm_bg M a) := zm_bg_st hq (fun j x y => by rw [z_fn hS 2603064 rfl]; exact hqt j x y)
    have sit0 : z_sit (z_up S 13 1 0) (zm_bg M a) := zm_bg_sit hS
    have e0 : z_up (z_up (z_up (z_up M 13 1 0) 13 2 0) 13 3 a) 13 4 0 = zm_bg M a := rfl
    rw [e0]
    have bg13 : ∀ k, k ≠ 13 → zm_bg M a k = M k := fun k hk => by unfold zm_bg; rw [z_up_ne hk, z_up_ne hk, z_up_ne hk, z_up_ne hk]
    have bgj : ∀ j, z_cor 13 j = true → j ≠ 1 → zm_bg M a 13 j = M 13 j := fun j hj h2 => by
      unfold zm_bg
      rw [z_up_nj (fun c => by rw [c] at hj; cases hj), z_up_nj (fun c => by rw [c] at hj; cases hj), z_up_nj (fun c => by rw [c] at hj; cases hj), z_up_nj h2]
    have bgt : zm_bg M a 13 1 = 0 := by unfold zm_bg; rw [z_up_nj (by decide), z_up_nj (by decide), z_up_nj (by decide), z_up_eq]
    generalize zm_bg M a = B at st0 sit0 bg13 bgj bgt
    have hgB : B 1001065 = g := by rw [bg13 _ (by decide), z_fn hS _ rfl]; exact hg
    have rawB : zs_raw a B := fun x x0 x1 => by rw [bg13 _ (by decide), z_fn hS _ rfl]; exact hraw x x0 x1
    -- the end with a fault
    have out : ∀ (x j : Int) (N : z_M), zs_pl q g = .inl x → x < 0 → zc_c B N → zm_st q a j x N → Q (z_I x) N := fun x j N e x0 c st => h0' x N e (zc_sit sit0 c)
    have bail115 : ∀ (l4 l5 x j : Int) (N : z_M), x < 0 → zc_c B N → zm_st q a j x N → (∀ N' : z_M, zc_c B N' → zm_st q a j x N' → Q (z_I x) N') → z_G 0 (d + 4) z_m249 115 [z_R 13, z_I p, z_I v, z_I a, z_I l4, z_I l5, z_U, z_U] [] N Q := by
      intro l4 l5 x j N x0 c st hQ
      refine rg_249_115 (d + 3) ?_
      have st2 : zm_st q a j x (z_up (z_up (z_up N 13 17 0) 13 21 0) 13 22 0) := zm_st_of st ⟨by rw [z_up_nj (by decide), z_up_nj (by decide), z_up_nj (by decide)], by rw [z_up_nj (by decide), z_up_nj (by decide), z_up_nj (by decide)], by rw [z_up_nj (by decide), z_up_nj (by decide), z_up_nj (by decide)]⟩ (by rw [z_up_ne (by decide), z_up_ne (by decide), z_up_ne (by decide)])
      exact kn_bail (d + 3) x0 st2 (hQ _ (zc_tr c (zc_tr (zc_up rfl rfl) (zc_tr (zc_up rfl rfl) (zc_up rfl rfl)))) st2)
    have bail84 : ∀ (l4 s0 x j : Int) (N : z_M), x < 0 → zc_c B N → zm_st q a j x N → (∀ N' : z_M, zc_c B N' → zm_st q a j x N' → Q (z_I x) N') → z_G 0 (d + 4) z_m249 84 [z_R 13, z_I p, z_I v, z_I a, z_I l4, z_U, z_U, z_U] [z_I s0] N Q := fun l4 s0 x j N x0 c st hQ =>
      rg_249_84 (d + 3) (kn_good0 (d + 3) (by omega) st (z_n1 (bail115 l4 s0 x j N x0 c st hQ)))
    unfold zs_pl at h1' out
    refine kn_digit (d + 1) st0 (by decide) (fun d1 N1 m1 s1 => z_viI (kn_good1 (d + 3) s1 (z_y1 (kn_digit (d + 1) s1 (by decide) (fun d2 N2 m2 s2 => z_viI ?_) (fun d2 v2 N2 _ _ m2 s2 => z_viI ?_))))) (fun d1 v1 N1 _ _ m1 s1 => z_viI (kn_good0 (d + 3) (by decide) s1 (z_n1 ?_)))
    · -- the spot
      have eS : zr_sp q 0 = .inr (10 * (q (0 + 1) - 48) + (q 0 - 48)) := by unfold zr_sp; rw [if_pos d1, if_pos d2]
      rw [eS] at h1' out
      dsimp only at h1' out
      have mA := zm_mv_tr m1 m2
      have egN : N2 1001065 = g := (mA.1 _ (by decide)).trans hgB
      refine rg_249_84 (d + 3) (kn_good1 (d + 3) s2 (z_y1 ?_))
      rw [z_w_id (x := 10 * (q (0 + 1) - 48)) (by omega) (by omega), z_w_id (x := 10 * (q (0 + 1) - 48) + (q 0 - 48)) (by omega) (by omega), egN]
      have hs : 0 ≤ 10 * (q (0 + 1) - 48) + (q 0 - 48) ∧ 10 * (q (0 + 1) - 48) + (q 0 - 48) < 100 := by omega
      refine ⟨hs.1, hs.2, fun cg => ?_, fun cg => kn_wrongs (d + 3) s2 (by decide) (by decide) (fun N3 m3 s3 => ?_)⟩
      · rw [if_neg (fun z => z cg)] at h1' out
        refine rg_249_115 (d + 3) ?_
        have s3 : zm_st q a 2 0 (z_up (z_up (z_up N2 13 17 0) 13 21 0) 13 22 0) := zm_st_of s2 ⟨by rw [z_up_nj (by decide), z_up_nj (by decide), z_up_nj (by decide)], by rw [z_up_nj (by decide), z_up_nj (by decide), z_up_nj (by decide)], by rw [z_up_nj (by decide), z_up_nj (by decide), z_up_nj (by decide)]⟩ (by rw [z_up_ne (by decide), z_up_ne (by decide), z_up_ne (by decide)])
        have c3 : zc_c B (z_up (z_up (z_up N2 13 17 0) 13 21 0) 13 22 0) := zc_tr (zc_mm mA) (zc_tr (zc_up rfl rfl) (zc_tr (zc_up rfl rfl) (zc_up rfl rfl)))
        have ms3 : zs_ms 0 (fun _ => 0) 0 (z_up (z_up (z_up N2 13 17 0) 13 21 0) 13 22 0) := ⟨by rw [z_up_nj (by decide), z_up_nj (by decide), z_up_eq], by rw [z_up_nj (by decide), z_up_eq], fun j x y => absurd y (by omega)⟩
        have e10 : 10 * (q (0 + 1) - 48) = 10 * (q (0 + 1) - 48) := rfl
        generalize z_up (z_up (z_up N2 13 17 0) 13 21 0) 13 22 0 = N3 at s3 c3 ms3
        -- the plan is written
        have fin : ∀ (m : Int) (F : Int → Int) (N4 : z_M), 0 ≤ m → m ≤ 95 → (∀ f : Int, zs_pl q g ≠ .inl f) → (∀ N : z_M, zc_x zs_xm M N → zz_no N → N 13 1 = 0 → N 304067 = zt_put (M 304067) (3 * p + v) 1 → N 301068 = zt_put (M 301068) (3 * p + v) (10 * (q (0 + 1) - 48) + (q 0 - 48)) → N 301069 = zt_put (M 301069) (3 * p + v) m → N 28501070 = zs_chr F (3 * p + v) m (M 28501070) → (∀ t : Nat, t < 96 → N 28801071 (96 * (3 * p + v) + (t : Int)) = zk_m N g (3 * p + v) t) → (∀ j : Int, j < 96 * (3 * p + v) ∨ 96 * (3 * p + v) + 96 ≤ j → N 28801071 j = M 28801071 j) → Q (z_I m) N) → zc_c B N4 → (∀ j : Int, zm_st q a j 0 N4 → a ≤ j → zs_ms 0 F m N4 → z_G 0 (d + 4) z_m249 130 [z_R 13, z_I p, z_I v, z_I a, z_I (q 0 - 48), z_I (q (0 + 1) - 48), z_U, z_U] [] N4 Q) := by
          intro m F N4 m0 m95 hno hQ c4 j s4 hj ms4
          have f2 : N4 13 2 = j := s4.2.2.2.2.2.1
          have f3 : N4 13 3 = a := s4.2.2.2.2.1
          have f4 : N4 13 4 = 0 := s4.2.2.2.2.2.2
          have fo : N4 13 21 = 0 := ms4.2.1
          have fm : N4 13 17 = m := ms4.1
          refine rg_249_130 (d + 3) (kn_good1 (d + 3) s4 (z_y1 ⟨fun _ => rg_249_155 (d + 3) (kn_good1 (d + 3) s4 (z_y1 ⟨fun _ => rg_249_178 (d + 3) ⟨fun _ => ?_, fun c => absurd c (by omega)⟩, fun c => absurd c (by omega)⟩)), fun c => absurd c (by omega)⟩))
          have k1 : (z_up (z_up N4 304067 (3 * p + v) 1) 301068 (3 * p + v) (10 * (q (0 + 1) - 48) + (q 0 - 48))) 13 17 = m := by rw [z_up_ne (by decide), z_up_ne (by decide)]; exact fm
          rw [z_w_id (x := 3 * p) (by omega) (by omega), z_w_id (x := 3 * p + v) (by omega) (by omega), z_w_id (x := 10 * (q (0 + 1) - 48)) (by omega) (by omega), z_w_id (x := 10 * (q (0 + 1) - 48) + (q 0 - 48)) (by omega) (by omega), k1]
          refine ⟨by omega, by omega, by omega, by omega, by omega, by omega, ?_⟩
          have hmt : ((m.toNat : Nat) : Int) = m := by omega
          generalize hwe : 3 * p + v = w at *
          have w0 : 0 ≤ w ∧ w < 30 := by omega
          generalize 10 * (q (0 + 1) - 48) + (q 0 - 48) = s at *
          have b3 : ∀ b, b ≠ 304067 → b ≠ 301068 → b ≠ 301069 → (z_up (z_up (z_up N4 304067 w 1) 301068 w s) 301069 w m) b = N4 b := fun b x1 x2 x3 => by rw [z_up_ne x3, z_up_ne x2, z_up_ne x1]
          have p1 : (z_up (z_up (z_up N4 304067 w 1) 301068 w s) 301069 w m) 304067 = zt_put (N4 304067) w 1 := by
            rw [z_up_ne (by decide), z_up_ne (by decide)]
            funext x
            unfold zt_put
            by_cases cx : x = w
            · rw [if_pos cx, cx, z_up_eq]
            · rw [if_neg cx, z_up_nj cx]
          have p2 : (z_up (z_up (z_up N4 304067 w 1) 301068 w s) 301069 w m) 301068 = zt_put (N4 301068) w s := by
            rw [z_up_ne (by decide)]
            funext x
            unfold zt_put
            by_cases cx : x = w
            · rw [if_pos cx, cx, z_up_eq]
            · rw [if_neg cx, z_up_nj cx, z_up_ne (by decide)]
          have p3 : (z_up (z_up (z_up N4 304067 w 1) 301068 w s) 301069 w m) 301069 = zt_put (N4 301069) w m := by
            funext x
            unfold zt_put
            by_cases cx : x = w
            · rw [if_pos cx, cx, z_up_eq]
            · rw [if_neg cx, z_up_nj cx, z_up_ne (by decide), z_up_ne (by decide)]
          generalize z_up (z_up (z_up N4 304067 w 1) 301068 w s) 301069 w m = L at b3 p1 p2 p3
          have eo : ∀ b, b ≠ 13 → z_cak b = true → N4 b = M b := fun b b1 b2 => (zc_fn c4 b b2).trans (bg13 b b1)
          refine z_lpi (n := m.toNat) (fun _ => ()) (fun x N5 => (∀ b, b ≠ 28501070 → N5 b = L b) ∧ ∀ y : Int, N5 28501070 y = if 95 * w ≤ y ∧ y < 95 * w + (x : Int) then F (y - 95 * w) else M 28501070 y) (fun N5 _ x => z_G 0 (d + 4) z_m249 234 [z_R 13, z_I p, z_I v, z_I a, z_I (q 0 - 48), z_I (q (0 + 1) - 48), z_I w, z_I x] [] N5 Q) L ⟨fun _ _ => rfl, fun y => by rw [if_neg (by omega), b3 _ (by decide) (by decide) (by decide)]; exact congrFun (eo _ (by decide) rfl) y⟩ (fun x N5 hx hN5 nx => ?_) (fun N5 hN5 => ?_)
          · obtain ⟨g1, g2⟩ := hN5
            have fm5 : N5 13 17 = m := by rw [g1 13 (by decide), b3 13 (by decide) (by decide) (by decide)]; exact fm
            have fs5 : N5 951072 (x : Int) = F (x : Int) := by rw [g1 _ (by decide), b3 _ (by decide) (by decide) (by decide)]; exact ms4.2.2 _ (by omega) (by omega)
            refine rg_249_234 (d + 3) ⟨fun c => absurd c (by omega), fun _ => ?_⟩
            rw [z_w_id (x := 95 * w) (by omega) (by omega), z_w_id (x := 95 * w + (x : Int)) (by omega) (by omega), z_wq (by omega), fs5]
            refine ⟨by omega, by omega, by omega, by omega, nx _ ⟨fun b hb => (z_up_ne hb).trans (g1 b hb), fun y => ?_⟩⟩
            by_cases cy : y = 95 * w + (x : Int)
            · rw [cy, z_up_eq, if_pos (by omega), show 95 * w + (x : Int) - 95 * w = (x : Int) from by omega]
            · rw [z_up_nj cy, g2 y]
              by_cases c3 : 95 * w ≤ y ∧ y < 95 * w + (x : Int)
              · rw [if_pos c3, if_pos (by omega)]
              · rw [if_neg c3, if_neg (by omega)]
          · obtain ⟨g1, g2⟩ := hN5
            have fm5 : N5 13 17 = m := by rw [g1 13 (by decide), b3 13 (by decide) (by decide) (by decide)]; exact fm
            refine rg_249_234 (d + 3) ⟨fun _ => ?_, fun c => absurd c (by omega)⟩
            have r1 : N5 304067 = zt_put (M 304067) w 1 := by rw [g1 _ (by decide), p1, eo _ (by decide) rfl]
            have r2 : N5 301068 = zt_put (M 301068) w s := by rw [g1 _ (by decide), p2, eo _ (by decide) rfl]
            have r3 : N5 301069 = zt_put (M 301069) w m := by rw [g1 _ (by decide), p3, eo _ (by decide) rfl]
            have r4 : N5 28501070 = zs_chr F w m (M 28501070) := by
              funext y
              unfold zs_chr
              rw [g2 y, hmt]
            have r5 : N5 1001065 = g := by rw [g1 _ (by decide), b3 _ (by decide) (by decide) (by decide), eo _ (by decide) rfl, z_fn hS _ rfl]; exact hg
            refine km_walksAll (d + 1) r5 w0.1 w0.2 (fun _ => by rw [r2, r3, zt_put_e, zt_put_e]; exact ⟨hs.1, hs.2, m95⟩) (fun _ N6 m1' m2' m3' => ?_) (fun z => absurd z (by rw [r1, zt_put_e]; decide))
            have fm6 : N6 13 17 = m := by rw [m1' 13 (by decide)]; exact fm5
            rw [fm6]
            have ez : ∀ b, b ≠ 13 → b ≠ 304067 → b ≠ 301068 → b ≠ 301069 → b ≠ 28501070 → b ≠ 28801071 → N6 b = N4 b := fun b _ x1 x2 x3 x4 x5 => by rw [m1' b x5, g1 b x4, b3 b x1 x2 x3]
            have e13 : N6 13 = N4 13 := by rw [m1' 13 (by decide), g1 13 (by decide), b3 13 (by decide) (by decide) (by decide)]
            have chE : ∀ b, z_cch b = true → N6 b = M b := fun b hb => by
              have ne : ∀ c : Nat, z_cch c = false → b ≠ c := fun c hc2 e => by rw [e, hc2] at hb; cases hb
              rw [ez b (ne _ rfl) (ne _ rfl) (ne _ rfl) (ne _ rfl) (ne _ rfl) (ne _ rfl), c4.2 b hb, bg13 b (ne _ rfl)]
            obtain ⟨v1, v2⟩ := hcv hno
            refine hQ N6 (fun b j' hb hx => ?_) ⟨fun w a b => by rw [chE _ rfl, chE _ rfl, chE _ rfl]; exact v1 w a b, fun w a b => by rw [chE _ rfl]; exact v2 w a b⟩ ?_ ?_ ?_ ?_ ?_ (fun t ht => ?_) (fun j' hj' => ?_)
            · unfold zs_xm at hx
              simp only [Bool.or_eq_false_iff, beq_eq_false_iff_ne] at hx
              obtain ⟨⟨⟨⟨⟨x1, x2⟩, x3⟩, x4⟩, x5⟩, x6⟩ := hx
              by_cases cb : b = 13
              · subst cb
                simp only [beq_self_eq_true, Bool.true_and, beq_eq_false_iff_ne] at x6
                rw [e13, c4.1 13 j' hb]
                exact bgj j' hb x6
              · rw [ez b cb x1 x2 x3 x4 x5, c4.1 b j' hb, bg13 b cb]
            · rw [e13, c4.1 13 _ rfl]; exact bgt
            · rw [m1' _ (by decide)]; exact r1
            · rw [m1' _ (by decide)]; exact r2
            · rw [m1' _ (by decide)]; exact r3
            · rw [m1' _ (by decide)]; exact r4
            · rw [m2' t ht]
              unfold zk_m
              rw [m1' 301068 (by decide), m1' 301069 (by decide), m1' 28501070 (by decide)]
            · rw [m3' j' hj', g1 _ (by decide), b3 _ (by decide) (by decide) (by decide)]
              exact congrFun (eo _ (by decide) rfl) j'
        have hqs : zs_pl q g = (if q 2 = -1 then .inr (10 * (q (0 + 1) - 48) + (q 0 - 48), fun _ => 0, 0) else
            match zs q 600 true 0 2 (fun _ => 0) 0 with
            | .inl x => .inl x
            | .inr (F, m, _) => .inr (10 * (q (0 + 1) - 48) + (q 0 - 48), F, m)) := by
          unfold zs_pl
          rw [eS]
          dsimp only
          rw [if_neg (fun z => z cg)]
          by_cases qz : q 2 = -1
          · rw [if_pos qz, if_pos qz]
          · rw [if_neg qz, if_neg qz]
            cases zs q 600 true 0 2 (fun _ => 0) 0 <;> rfl
        by_cases qe : q 2 = -1
        · rw [if_pos qe] at h1'
          rw [if_pos qe] at hqs
          exact fin 0 (fun _ => 0) N3 (by decide) (by decide) (fun f z => by rw [hqs] at z; cases z) (fun N a b c e f g2 h i j => h1' _ 0 (fun _ => 0) N rfl hs.1 hs.2 (by decide) (by decide) a b c e f g2 h i j) c3 2 s3 ((zr_T_e hq (by decide)).mp qe) ms3
        · rw [if_neg qe] at h1' out hqs
          have h2a : 2 < a := by
            by_cases z : 2 < a
            · exact z
            · exact absurd (hq.2.2.2 2 (by omega)) qe
          refine (kn_steps (d + 1) a2 hq 600).2 0 2 (fun _ => 0) 0 N3 (by decide) (by decide) (by omega) (by decide) (by omega) (Or.inl h2a) (by decide) (by decide) (fun x x0 x1 => by rw [zc_fn c3 _ rfl]; exact rawB x x0 x1) s3 ms3 (Or.inr (Or.inl rfl)) (fun F2 m2' j N4 e4 fm4 s4 ms4 bg4 => ?_) (fun x j N4 e4 x0 cc4 s4 => ?_)
          · obtain ⟨_, _, mm, m95, q5⟩ := zs_end hq 600 true 0 2 (fun _ => 0) 0 F2 m2' j (by decide) (by decide) e4
            have qe2 : q j = -1 := by rcases q5 rfl with z | z <;> omega
            rw [e4] at h1' hqs
            exact fin m2' F2 N4 mm m95 (fun f z => by rw [hqs] at z; cases z) (fun N a b c e f g2 h i j => h1' _ m2' F2 N rfl hs.1 hs.2 mm m95 a b c e f g2 h i j) (zc_tr c3 fm4.1) j s4 ((zr_T_e hq (by have := s4.2.2.1; omega)).mp qe2) ms4
          · rw [e4] at out
            exact out x j N4 rfl x0 (zc_tr c3 cc4) s4
      · rw [if_pos cg] at out
        rw [zm_f0] at s3
        exact bail115 _ _ _ _ N3 (by decide) (zc_mm (zm_mv_tr mA m3)) s3 (fun N' c' s' => out _ _ N' rfl (by decide) c' s')
    · have eS : zr_sp q 0 = .inl (-1000 - (0 + 1)) := by unfold zr_sp; rw [if_pos d1, if_neg d2]
      rw [eS] at out
      exact bail84 _ _ _ _ N2 (by decide) (zc_mm (zm_mv_tr m1 m2)) s2 (fun N' c' s' => out _ _ N' rfl (by decide) c' s')
    · have eS : zr_sp q 0 = .inl (-1000 - 0) := by unfold zr_sp; rw [if_neg d1]
      rw [eS] at out
      exact bail84 _ _ _ _ N1 (by decide) (zc_mm m1) s1 (fun N' c' s' => out _ _ N' rfl (by decide) c' s')
  refine re_249 (d + 3) (km_lies (d + 3) (fun p0 p1 => z_y1 (km_lies (d + 3) (fun v0 v1 => z_y1 ⟨fun c => go ⟨p0, by omega⟩ ⟨v0, by omega⟩ (Or.inl c), fun c => km_isToldB (d + 2) hS hB (fun ht => z_y1 (go ⟨p0, by omega⟩ ⟨v0, by omega⟩ (Or.inr ht))) (fun ht => z_n1 (no (fun z => ?_)))⟩) (fun c => z_n1 (no (fun z => by have := z.2.1; omega))))) (fun c => z_n1 (no (fun z => by have := z.1; omega))))
  rcases z.2.2.1 with z1 | z1
  · omega
  · exact ht z1
end ZPW
