/-! REPORTS: their text, the class's whole call -/
section ZRQ
variable {S M N : z_M} {Q : z_V → z_M → Prop} {q : Int → Int} {n i : Int}
def zp_fr (k : Int) (R : Int → Nat → Int) (N : z_M) : Prop := ∀ (x : Int) (c : Nat), 0 ≤ x → x < k → c < 6 → N 2401036 (6 * x + (c : Int)) = zp_cv c (R x c)
theorem zp_put_e {R : Int → Nat → Int} {k : Int} {r : Nat → Int} : zp_put R k r k = r := if_pos rfl
theorem zp_put_n {R : Int → Nat → Int} {k x : Int} {r : Nat → Int} (h : x ≠ k) : zp_put R k r x = R x := if_neg h
theorem kr_report (d : Nat) {k : Int} {R : Int → Nat → Int} (hS : z_sit S N) (hI : z_IPeo S) (h : zr_st q n i N) (k0 : 0 ≤ k) (k1 : k ≤ 40) (hk : N 7 6 = k) (hf : zp_fr k R N)
    (h1 : ∀ (r : Nat → Int) (j : Int) (N' : z_M), zp_ln q (zp_T S) k i = .inr (r, j) → k < 40 → zc_c N N' → zr_st q n j N' → N' 7 = N 7 → zp_fr (k + 1) (zp_put R k r) N' → Q (z_I 1) N')
    (h0 : ∀ (f : Int) (N' : z_M), zp_ln q (zp_T S) k i = .inl f → zc_c N N' → N' 2 4 = f → Q (z_I 0) N') : z_Cl 0 (d + 5) 100 [z_R 7, z_R 2] N Q := by
  have hp := h.2.2.1
  have hn := h.1.2.1
  have hpn := h.2.2.2.1
  unfold zp_ln at h1 h0
  -- the head is read
  have tail : ∀ (p m s j x1 : Int) (N1 : z_M), 0 ≤ s → k < 40 → zp_hd q (zp_T S) k i = .inr (p, m, s, j) → zr_mv N N1 → zr_st q n j N1 → z_G 0 (d + 5) z_m100 86 [z_R 7, z_R 2, z_I x1, z_I p, z_I m, z_I s] [] N1 Q := by
    intro p m s j x1 N1 s0 k40 e mv st
    have ek : N1 7 6 = k := by rw [mv.1 7 (by decide)]; exact hk
    have e1 : (z_up N1 2401036 (6 * k + 0) p) 7 6 = k := by rw [z_up_ne (by decide)]; exact ek
    have e2 : (z_up (z_up N1 2401036 (6 * k + 0) p) 2401036 (6 * k + 1) m) 7 6 = k := by rw [z_up_ne (by decide)]; exact e1
    refine rg_100_86 (d + 4) ⟨fun _ => ?_, fun c => absurd c (by omega)⟩
    rw [ek, z_w_id (x := 6 * k) (by omega) (by omega), z_w_id (x := 6 * k + 0) (by omega) (by omega), e1, z_w_id (x := 6 * k) (by omega) (by omega), z_w_id (x := 6 * k + 1) (by omega) (by omega), e2, z_w_id (x := 6 * k) (by omega) (by omega), z_w_id (x := 6 * k + 2) (by omega) (by omega)]
    rw [e] at h1 h0
    dsimp only at h1 h0
    refine ⟨by omega, by omega, by omega, by omega, by omega, by omega, ?_⟩
    have cc : zc_c N (z_up (z_up (z_up N1 2401036 (6 * k + 0) p) 2401036 (6 * k + 1) m) 2401036 (6 * k + 2) s) := zc_tr (zc_mv mv) (zc_tr (zc_up rfl rfl) (zc_tr (zc_up rfl rfl) (zc_up rfl rfl)))
    have st2 : zr_st q n j (z_up (z_up (z_up N1 2401036 (6 * k + 0) p) 2401036 (6 * k + 1) m) 2401036 (6 * k + 2) s) := zr_st_of st (by rw [z_up_ne (by decide), z_up_ne (by decide), z_up_ne (by decide)]) (by rw [z_up_ne (by decide), z_up_ne (by decide), z_up_ne (by decide)])
    have e7 : (z_up (z_up (z_up N1 2401036 (6 * k + 0) p) 2401036 (6 * k + 1) m) 2401036 (6 * k + 2) s) 7 = N 7 := by rw [z_up_ne (by decide), z_up_ne (by decide), z_up_ne (by decide)]; exact mv.1 7 (by decide)
    have r0 : (z_up (z_up (z_up N1 2401036 (6 * k + 0) p) 2401036 (6 * k + 1) m) 2401036 (6 * k + 2) s) 2401036 (6 * k) = p := by rw [z_up_nj (by omega), z_up_nj (by omega), Int.add_zero, z_up_eq]
    have r1 : (z_up (z_up (z_up N1 2401036 (6 * k + 0) p) 2401036 (6 * k + 1) m) 2401036 (6 * k + 2) s) 2401036 (6 * k + 1) = m := by rw [z_up_nj (by omega), z_up_eq]
    have r2 : (z_up (z_up (z_up N1 2401036 (6 * k + 0) p) 2401036 (6 * k + 1) m) 2401036 (6 * k + 2) s) 2401036 (6 * k + 2) = s := z_up_eq
    have ro : ∀ x : Int, x < 6 * k → (z_up (z_up (z_up N1 2401036 (6 * k + 0) p) 2401036 (6 * k + 1) m) 2401036 (6 * k + 2) s) 2401036 x = N 2401036 x := fun x hx => by rw [z_up_nj (by omega), z_up_nj (by omega), z_up_nj (by omega), mv.1 _ (by decide)]
    generalize z_up (z_up (z_up N1 2401036 (6 * k + 0) p) 2401036 (6 * k + 1) m) 2401036 (6 * k + 2) s = N2 at cc st2 e7 r0 r1 r2 ro
    refine kr_tell d (zc_sit hS cc) hI st2 k0 k40 (by rw [e7]; exact hk) (fun c o t j2 N3 e3 c3 st3 s7 w0 w1 w2 w3 => z_viI (z_bl_of (Or.inr rfl) ?_)) (fun f N3 e3 c3 b3 => z_viI (z_bl_of (Or.inl rfl) (h0 f N3 (by rw [e3]) (zc_tr cc c3) b3)))
    rw [e3] at h1
    refine h1 _ j2 N3 rfl k40 (zc_tr cc c3) st3 (s7.trans e7) (fun x y x0 x1 y6 => ?_)
    by_cases cx : x = k
    · subst cx
      rw [zp_put_e]
      have hy : y = 0 ∨ y = 1 ∨ y = 2 ∨ y = 3 ∨ y = 4 ∨ y = 5 := by omega
      rcases hy with rfl | rfl | rfl | rfl | rfl | rfl
      · rw [show 6 * x + ((0 : Nat) : Int) = 6 * x from by omega, w0 _ (by omega), r0]; rfl
      · rw [show 6 * x + ((1 : Nat) : Int) = 6 * x + 1 from rfl, w0 _ (by omega), r1]; rfl
      · rw [show 6 * x + ((2 : Nat) : Int) = 6 * x + 2 from rfl, w0 _ (by omega), r2]; rfl
      · rw [show 6 * x + ((3 : Nat) : Int) = 6 * x + 3 from rfl, w1]; rfl
      · rw [show 6 * x + ((4 : Nat) : Int) = 6 * x + 4 from rfl, w2]; rfl
      · rw [show 6 * x + ((5 : Nat) : Int) = 6 * x + 5 from rfl, w3]; rfl
    · rw [zp_put_n cx, w0 _ (by omega), ro _ (by omega)]
      exact hf x y x0 (by omega) y6
  have headbad : ∀ (f : Int) (N' : z_M), zp_hd q (zp_T S) k i = .inl f → zr_bad f N N' → Q (z_I 0) N' := fun f N' e b => h0 f N' (by rw [e]) (zc_mv b.1) b.2
  unfold zp_hd at headbad tail
  refine re_100 (d + 4) (kr_place (d + 4) h (z_viI (kr_letter (d + 2) h (fun hl il st => z_viI ⟨fun _ => ?_, fun c => absurd c (by omega)⟩) (fun hl N' b => z_viI ⟨fun c => absurd c (by decide), fun _ => headbad _ N' (if_pos hl) b⟩))))
  have mv : zr_mv N (z_up N 2 3 (i + 1)) := zr_mv_up (by decide)
  generalize z_up N 2 3 (i + 1) = N1 at st mv
  rw [if_neg (fun z => z hl)] at headbad tail
  have ek : N1 7 6 = k := by rw [mv.1 7 (by decide)]; exact hk
  rw [ek]
  refine ⟨fun c40 => ?_, fun c40 => kr_fail (d + 4) (by omega) (by omega) (fun N' b => z_viI (z_bl_of (Or.inl rfl) (headbad (-4000 - i) N' (if_pos (by omega)) ⟨zr_mv_tr mv b.1, by rw [b.2]; omega⟩)))⟩
  rw [if_neg (by omega)] at headbad tail
  refine kc_isTold (d + 3) (zc_sit hS (zc_mv mv)) hI (fun ht => z_y2 ?_) (fun ht => z_n2 (kr_fail (d + 4) (by omega) (by omega) (fun N' b => z_viI (z_bl_of (Or.inl rfl) (headbad (-7000 - i) N' ?_ ⟨zr_mv_tr mv b.1, by rw [b.2]; omega⟩)))))
  · have e : ¬ zp_T S (q i - 97) = false := by rw [(zp_Tt (by omega) (by omega)).mp ht]; decide
    rw [if_neg e] at headbad tail
    refine kr_minute (d + 2) st (fun m j N2 e2 m0 m1 j0 j1 mv2 st2 => z_viI ⟨fun _ => ?_, fun c => absurd c (by omega)⟩) (fun f N2 e2 b2 => z_viI ⟨fun c => absurd c (by decide), fun _ => headbad f N2 (by rw [e2]) ⟨zr_mv_tr mv b2.1, b2.2⟩⟩)
    rw [e2] at headbad tail
    dsimp only at headbad tail
    refine kr_next (d + 4) st2 (z_viI ⟨fun c => ?_, fun c => ?_⟩)
    · rw [if_neg c] at tail
      exact tail _ _ 0 j _ N2 (by decide) c40 rfl (zr_mv_tr mv mv2) st2
    · rw [if_pos c] at tail headbad
      have hj : j < n := by
        by_cases z : j < n
        · exact z
        · have := st2.1.2.2.2 j (by omega); omega
      refine kr_skip (d + 4) st2 hj (fun st3 => kr_digit (d + 3) st3 (fun hd jl st4 => z_viI ?_) (fun hd N4 b4 => z_viI (rg_100_86 (d + 4) ⟨fun z => absurd z (by decide), fun _ => headbad _ N4 (if_neg hd) ⟨zr_mv_tr mv (zr_mv_tr mv2 (zr_mv_tr (zr_mv_up (by decide)) b4.1)), b4.2⟩⟩)))
      rw [if_pos hd] at tail
      rw [show j + 1 + 1 = j + 2 from by omega] at st4 ⊢
      exact tail _ _ _ (j + 2) _ _ (by omega) c40 rfl (zr_mv_tr mv (zr_mv_tr mv2 (zr_mv_tr (zr_mv_up (by decide)) (zr_mv_up (by decide))))) st4
  · have e : zp_T S (q i - 97) = false := by
      cases e : zp_T S (q i - 97) with
      | false => rfl
      | true => exact absurd ((zp_Tt (by omega) (by omega)).mpr e) ht
    rw [if_pos e]
def zp_xc (a : Nat) (j : Int) : Bool := a == 2401035 || (a == 7 && j == 5) || (a == 2 && j == 1)
theorem kr_reports (d : Nat) {m : Int} {R0 : Int → Nat → Int} (hS : z_sit S M) (hI : z_IPeo S) (h : zr_st q n 0 M) (m0 : 0 ≤ m) (m40 : m ≤ 40) (hm : S 7 5 = m) (hR : ∀ (x : Int) (c : Nat), 0 ≤ x → x < m → c < 6 → S 2401035 (6 * x + (c : Int)) = zp_cv c (R0 x c))
    (h1 : ∀ (k : Int) (R : Int → Nat → Int) (N : z_M), zp_v q (zp_T S) m R0 = .inr (k, R) → 0 ≤ k → k ≤ 40 → zc_x (fun a j => a == 2401035 || (a == 7 && j == 5)) M N → (∀ a, z_cch a = true → N a = M a) → N 2 4 = 0 → N 7 5 = k → (∀ (x : Int) (c : Nat), 0 ≤ x → x < k → c < 6 → N 2401035 (6 * x + (c : Int)) = zp_cv c (R x c)) → Q (z_I 1) N)
    (h0 : ∀ (f : Int) (N : z_M), zp_v q (zp_T S) m R0 = .inl f → zc_c M N → N 2 4 = f → Q (z_I 0) N) : z_Cl 0 (d + 6) 99 [z_R 7, z_R 2] M Q := by
  have eM : M 7 5 = m := (z_ff hS 7 5 rfl).trans hm
  have eMr : M 2401035 = S 2401035 := z_fn hS _ rfl
  refine re_99 (d + 5) ⟨by omega, by omega, by omega, by omega, by omega, ?_⟩
  have e5 : (z_cp M 2401035 0 2401036 0 240) 7 5 = m := by rw [zy_cp_ne (by decide)]; exact eM
  rw [e5]
  have cc0 : zc_c M (z_up (z_cp M 2401035 0 2401036 0 240) 7 6 m) := by
    refine ⟨fun k j hk => ?_, fun k hk => ?_⟩
    · have : (z_up (z_cp M 2401035 0 2401036 0 240) 7 6 m) k j = (z_cp M 2401035 0 2401036 0 240) k j := by
        by_cases c : k = 7
        · subst c
          refine z_up_nj (fun c2 => ?_)
          rw [c2] at hk; cases hk
        · rw [z_up_ne c]
      rw [this, zy_cp_ne (fun c => by rw [c] at hk; cases hk)]
    · rw [z_up_ne (fun c => by rw [c] at hk; cases hk), zy_cp_ne (fun c => by rw [c] at hk; cases hk)]
  have st0 : zr_st q n 0 (z_up (z_cp M 2401035 0 2401036 0 240) 7 6 m) := zr_st_of h (by rw [z_up_ne (by decide), zy_cp_ne (by decide)]) (by rw [z_up_ne (by decide), zy_cp_ne (by decide)])
  have fr0 : zp_fr m R0 (z_up (z_cp M 2401035 0 2401036 0 240) 7 6 m) := fun x c x0 x1 c6 => by
    rw [z_up_ne (by decide), zy_cp_on (by omega) (by omega), eMr]
    exact hR x c x0 x1 c6
  have fs0 : (z_up (z_cp M 2401035 0 2401036 0 240) 7 6 m) 7 6 = m := z_up_eq
  generalize z_up (z_cp M 2401035 0 2401036 0 240) 7 6 m = M0 at cc0 st0 fr0 fs0
  have key : ∀ (f : Nat) (k : Int) (R : Int → Nat → Int) (i : Int) (N : z_M), k + (f : Int) = 41 → m ≤ k → k ≤ 40 → zr_st q n i N → zc_c M N → N 7 6 = k → zp_fr k R N → zp_go q (zp_T S) f k R i = zp_v q (zp_T S) m R0 → z_G 0 (d + 6) z_m99 26 [z_R 7, z_R 2, z_I (k - m)] [] N Q := by
    intro f
    induction f with
    | zero =>
      intro k R i N hk _ k40 st cc fs fr e
      exact absurd hk (by omega)
    | succ f ih =>
      intro k R i N hk km k40 st cc fs fr e
      unfold zp_go at e
      refine rg_99_26 (d + 5) ⟨fun c => absurd c (by omega), fun _ => kr_report d (zc_sit hS cc) hI st (by omega) k40 fs fr (fun r j N1 e1 kl c1 st1 s7 fr1 => z_y2 ?_) (fun f N1 e1 c1 b1 => z_n2 (h0 f N1 ?_ (zc_tr cc c1) b1))⟩
      · have fs1 : N1 7 6 = k := by rw [s7]; exact fs
        rw [fs1, z_w_id (x := k + 1) (by omega) (by omega)]
        rw [e1] at e
        dsimp only at e
        have c2 : zc_c M (z_up N1 7 6 (k + 1)) := zc_tr cc (zc_tr c1 (zc_up rfl rfl))
        have st2 : zr_st q n j (z_up N1 7 6 (k + 1)) := zr_st_of st1 (z_up_ne (by decide)) (z_up_ne (by decide))
        have fr2 : zp_fr (k + 1) (zp_put R k r) (z_up N1 7 6 (k + 1)) := fun x c x0 x1 c6 => by rw [z_up_ne (by decide)]; exact fr1 x c x0 x1 c6
        have fs2 : (z_up N1 7 6 (k + 1)) 7 6 = k + 1 := z_up_eq
        generalize z_up N1 7 6 (k + 1) = N2 at c2 st2 fr2 fs2
        refine kr_atEnd (d + 5) st2 (fun je qe => z_y1 ⟨by omega, by omega, by omega, by omega, by omega, ?_⟩) (fun jl qn => z_n1 (kr_take (d + 4) st2 (by decide) (fun e59 _ st3 => z_y2 ?_) (fun ne N3 b3 => z_n2 (h0 _ N3 ?_ (zc_tr c2 (zc_mv b3.1)) b3.2))))
        · rw [if_pos qe] at e
          have ea : (z_cp N2 2401036 0 2401035 0 240) 7 6 = k + 1 := by rw [zy_cp_ne (by decide)]; exact fs2
          rw [ea]
          refine h1 (k + 1) _ _ e.symm (by omega) (by omega) (fun a j ha hx => ?_) (fun a ha => ?_) ?_ z_up_eq (fun x c x0 x1 c6 => ?_)
          · dsimp only at hx
            simp only [Bool.or_eq_false_iff, beq_eq_false_iff_ne] at hx
            have : (z_up (z_cp N2 2401036 0 2401035 0 240) 7 5 (k + 1)) a j = (z_cp N2 2401036 0 2401035 0 240) a j := by
              by_cases c : a = 7
              · subst c
                refine z_up_nj (fun c2 => ?_)
                have := hx.2
                rw [c2] at this; cases this
              · rw [z_up_ne c]
            rw [this, zy_cp_ne hx.1]
            exact c2.1 a j ha
          · have ne : ∀ c : Nat, z_cch c = false → a ≠ c := fun c hc2 e => by rw [e, hc2] at ha; cases ha
            rw [z_up_ne (ne _ rfl), zy_cp_ne (ne _ rfl)]
            exact c2.2 a ha
          · rw [z_up_ne (by decide), zy_cp_ne (by decide)]
            exact st2.2.2.2.2.2.2
          · rw [z_up_ne (by decide), zy_cp_on (by omega) (by omega)]
            exact fr2 x c x0 x1 c6
        · rw [if_neg qn, if_pos e59] at e
          rw [show z_w (k - m + 1) = k + 1 - m from by rw [z_w_id (by omega) (by omega)]; omega]
          refine ih (k + 1) _ _ _ (by omega) (by omega) (by omega) st3 (zc_tr c2 (zc_up rfl rfl)) (by rw [z_up_ne (by decide)]; exact fs2) (fun x c x0 x1 c6 => ?_) e
          rw [z_up_ne (by decide)]; exact fr2 x c x0 x1 c6
        · rw [← e, if_neg qn, if_neg ne]
      · rw [← e, e1]
  have := key (41 - m).toNat m R0 0 M0 (by omega) (by omega) m40 st0 cc0 fs0 fr0 rfl
  rw [show m - m = (0 : Int) from by omega] at this
  exact this
theorem kc_reports (d : Nat) {a m : Int} {R0 : Int → Nat → Int} (hS : z_sit S M) (hT : z_ITape S) (hI : z_IPeo S) (m0 : 0 ≤ m) (m40 : m ≤ 40) (hm : S 7 5 = m) (hR : ∀ (x : Int) (c : Nat), 0 ≤ x → x < m → c < 6 → S 2401035 (6 * x + (c : Int)) = zp_cv c (R0 x c))
    (h1 : 1 ≤ a → a ≤ 200 → a ≤ S 2 1 → ∀ (k : Int) (R : Int → Nat → Int) (N : z_M), zp_v (zr_q S a) (zp_T S) m R0 = .inr (k, R) → zc_x zp_xc M N → z_sit N N → N 2 1 = 0 → N 7 5 = k → 0 ≤ k → k ≤ 40 → (∀ (x : Int) (c : Nat), 0 ≤ x → x < k → c < 6 → N 2401035 (6 * x + (c : Int)) = zp_cv c (R x c)) → Q (z_I k) N)
    (h0 : 1 ≤ a → a ≤ 200 → a ≤ S 2 1 → ∀ (f : Int) (N : z_M), f ≠ 0 → zp_v (zr_q S a) (zp_T S) m R0 = .inl f → z_sit (z_up S 2 1 0) N → Q (z_I f) N)
    (hz : ∀ f : Int, zp_v (zr_q S a) (zp_T S) m R0 = .inl f → f ≠ 0)
    (hn : ¬ (1 ≤ a ∧ a ≤ 200 ∧ a ≤ S 2 1) → Q (z_I (-1)) M) : z_Cl 0 (d + 7) 171 [z_R 1, z_I a] M Q := by
  refine re_171 (d + 6) (kr_open (d + 6) hS hT (fun a1 a2 a3 N0 mv st => z_y2 (kr_reports d (zc_sit hS (zc_mv mv)) hI st m0 m40 hm hR (fun k R N e k0 k1 cx cc cf ck cv => z_viI (re_89 (d + 6) (z_viI (kr_close (d + 5) (fun _ => z_viI ?_) (fun c => absurd cf c))))) (fun f N e cc cf => z_viI (re_89 (d + 6) (z_viI (kr_close (d + 5) (fun c => ?_) (fun c => z_viI ?_))))))) (fun c => z_n2 (hn c)))
  · rw [show N 7 5 = k from ck]
    have c0 := zc_mv mv
    have ch : ∀ b, z_cch b = true → zr_cl N b = M b := fun b hb => by
      have ne : b ≠ 2 := fun e => by rw [e] at hb; cases hb
      unfold zr_cl
      rw [z_up_ne ne, z_up_ne ne, z_up_ne ne, cc b hb, c0.2 b hb]
    have cx2 : zc_x zp_xc M (zr_cl N) := by
      intro b j hb hx
      unfold zp_xc at hx
      simp only [Bool.or_eq_false_iff, beq_eq_false_iff_ne] at hx
      obtain ⟨⟨x1, x2⟩, x3⟩ := hx
      have eN : N b j = M b j := by
        rw [cx b j hb (by simp only [Bool.or_eq_false_iff, beq_eq_false_iff_ne]; exact ⟨x1, x2⟩)]
        exact c0.1 b j hb
      rw [← eN]
      unfold zr_cl
      by_cases c : b = 2
      · subst c
        have ej : j = 1 := by
          unfold z_cor z_cof at hb
          rw [show z_cak 2 = false from rfl] at hb
          simp only [Bool.false_or, Bool.or_eq_true, Bool.and_eq_true, beq_iff_eq] at hb
          omega
        rw [ej] at x3; cases x3
      · rw [z_up_ne c, z_up_ne c, z_up_ne c]
    refine h1 a1 a2 a3 k R _ e cx2 (zz_self hS ch ⟨cx2 _ _ rfl rfl, zc_x_n cx2 _ rfl (fun _ => rfl), zc_x_n cx2 _ rfl (fun _ => rfl), zc_x_n cx2 _ rfl (fun _ => rfl), zc_x_n cx2 _ rfl (fun _ => rfl), zc_x_n cx2 _ rfl (fun _ => rfl), zc_x_n cx2 _ rfl (fun _ => rfl), zc_x_n cx2 _ rfl (fun _ => rfl), zc_x_n cx2 _ rfl (fun _ => rfl), zc_x_n cx2 _ rfl (fun _ => rfl)⟩) ?_ ?_ k0 k1 (fun x c x0 x1 c6 => ?_)
    · unfold zr_cl; rw [z_up_nj (by decide), z_up_nj (by decide), z_up_eq]
    · unfold zr_cl; rw [z_up_ne (by decide), z_up_ne (by decide), z_up_ne (by decide)]; exact ck
    · unfold zr_cl; rw [z_up_ne (by decide), z_up_ne (by decide), z_up_ne (by decide)]; exact cv x c x0 x1 c6
  · exact absurd (cf.symm.trans c) (hz f e)
  · rw [cf]
    exact h0 a1 a2 a3 f _ (hz f e) e (zr_cl_sit (zc_sit (zc_sit hS (zc_mv mv)) cc))
end ZRQ
