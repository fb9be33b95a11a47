/-! TRAM: the text of a tram -/
/-- one stop: spot, minute, the place behind -/
def zt_ln (q : Int → Int) (k prev i : Int) : Int ⊕ (Int × Int × Int) :=
  if ¬ zr_d q i then .inl (-1000 - i) else if k = 12 then .inl (-4000 - i) else
  match zr_sp q i with
  | .inl f => .inl f
  | .inr s => if q (i + 2) ≠ 58 then .inl (-1000 - (i + 2)) else
    match zr_mn q (i + 3) with
    | .inl f => .inl f
    | .inr (m, j) => if 0 < k ∧ m ≤ prev then .inl (-7000 - (i + 3)) else .inr (s, m, j)
def zt_put (f : Int → Int) (k x : Int) : Int → Int := fun j => if j = k then x else f j
def zt_go (q : Int → Int) : Nat → Int → (Int → Int) → (Int → Int) → Int → Int ⊕ (Int × (Int → Int) × (Int → Int))
  | 0, _, _, _, _ => .inl (-1)
  | f + 1, k, sp, mi, i => match zt_ln q k (mi (k - 1)) i with
    | .inl x => .inl x
    | .inr (s, m, j) => if q j = -1 then .inr (k + 1, zt_put sp k s, zt_put mi k m) else if q j = 44 then zt_go q f (k + 1) (zt_put sp k s) (zt_put mi k m) (j + 1) else .inl (-1000 - j)
def zt_v (q : Int → Int) : Int ⊕ (Int × (Int → Int) × (Int → Int)) := zt_go q 13 0 (fun _ => 0) (fun _ => 0) 0
section ZTR
variable {S M N : z_M} {Q : z_V → z_M → Prop} {q : Int → Int} {n i : Int}
theorem kr_place (d : Nat) (h : zr_st q n i N) (hQ : Q (z_I i) N) : z_Cl 0 d 135 [z_R 2] N Q := by
  refine re_135 d ?_
  rw [show N 2 3 = i from h.2.2.2.2.2.1]
  exact hQ
theorem zt_put_e {f : Int → Int} {k x : Int} : zt_put f k x k = x := if_pos rfl
theorem zt_put_n {f : Int → Int} {k x j : Int} (h : j ≠ k) : zt_put f k x j = f j := if_neg h
/-- the fresh stops so far -/
def zt_fr (A B : Nat) (k : Int) (sp mi : Int → Int) (N : z_M) : Prop := ∀ j : Int, 0 ≤ j → j < k → N A j = sp j ∧ N B j = mi j ∧ 0 ≤ mi j ∧ mi j < 96
theorem kr_stop (d : Nat) {k : Int} {sp mi : Int → Int} (h : zr_st q n i N) (k0 : 0 ≤ k) (k1 : k < 12) (hd : zr_d q i) (hf : zt_fr 121052 121053 k sp mi N)
    (h1 : ∀ (s m j : Int) (N' : z_M), zt_ln q k (mi (k - 1)) i = .inr (s, m, j) → zc_c N N' → zr_st q n j N' → zt_fr 121052 121053 (k + 1) (zt_put sp k s) (zt_put mi k m) N' → Q (z_I 1) N')
    (h0 : ∀ (f : Int) (N' : z_M), zt_ln q k (mi (k - 1)) i = .inl f → zr_bad f N N' → Q (z_I 0) N') : z_Cl 0 (d + 3) 43 [z_R 11, z_R 2, z_I k] N Q := by
  have hp := h.2.2.1
  have hn := h.1.2.1
  unfold zt_ln at h1 h0
  rw [if_neg (fun c => c hd), if_neg (by omega)] at h1 h0
  refine re_43 (d + 2) (kr_spot d h (fun s N1 e1 s0 s1 in1 mv1 st1 => z_viI ⟨fun c => absurd c (by omega), fun _ => ?_⟩) (fun f N1 e1 b1 => z_viI ⟨fun _ => h0 f N1 (by rw [e1]) b1, fun c => absurd c (by decide)⟩))
  rw [e1] at h1 h0
  refine kr_take (d + 1) st1 (by decide) (fun e58 i2n st2 => z_y2 (kr_place (d + 2) st2 (z_viI (kr_minute d st2 (fun m j N3 e3 m0 m1 j0 j1 mv3 st3 => z_viI ⟨fun _ => ?_, fun c => absurd c (by omega)⟩) (fun f N3 e3 b3 => z_viI ⟨fun c => absurd c (by decide), fun _ => h0 f N3 ?_ ⟨zr_mv_tr mv1 (zr_mv_tr (zr_mv_up (by decide)) b3.1), b3.2⟩⟩))))) (fun ne N2 b2 => z_n2 (h0 _ N2 (if_pos ne) ⟨zr_mv_tr mv1 b2.1, b2.2⟩))
  · have e5 : i + 2 + 1 = i + 3 := by omega
    rw [e5] at e3
    dsimp only at h1 h0
    rw [if_neg (fun c => c e58), e3] at h1 h0
    dsimp only at h1 h0
    have mvA : zr_mv N N3 := zr_mv_tr mv1 (zr_mv_tr (zr_mv_up (by decide)) mv3)
    have hfN : zt_fr 121052 121053 k sp mi N3 := fun x a b => by rw [mvA.1 _ (by decide), mvA.1 _ (by decide)]; exact hf x a b
    have fin : ¬ (0 < k ∧ m ≤ mi (k - 1)) → Q (z_I 1) (z_up (z_up N3 121052 k s) 121053 k m) := by
      intro c
      refine h1 s m j _ (if_neg c) (zc_tr (zc_mv mvA) (zc_tr (zc_up rfl rfl) (zc_up rfl rfl))) (zr_st_of st3 (by rw [z_up_ne (by decide), z_up_ne (by decide)]) (by rw [z_up_ne (by decide), z_up_ne (by decide)])) (fun x a b => ?_)
      by_cases cx : x = k
      · rw [cx, zt_put_e, zt_put_e, z_up_ne (by decide), z_up_eq, z_up_eq]; exact ⟨rfl, rfl, m0, m1⟩
      · rw [zt_put_n cx, zt_put_n cx, z_up_ne (by decide), z_up_nj cx, z_up_nj cx]; exact hfN x a (by omega)
    refine ⟨fun c => ⟨k0, k1, k0, k1, fin (by omega)⟩, fun c => ?_⟩
    rw [z_w_id (x := k - 1) (by omega) (by omega), (hfN (k - 1) (by omega) (by omega)).2.1]
    refine ⟨by omega, by omega, fun c2 => ⟨k0, k1, k0, k1, fin (by omega)⟩, fun c2 => kr_fail (d + 2) (by omega) (by omega) (fun N4 b4 => z_viI (z_bl_of (Or.inl rfl) (h0 (-7000 - (i + 3)) N4 (if_pos ⟨c, c2⟩) ⟨zr_mv_tr mvA b4.1, by rw [b4.2, e5]; omega⟩)))⟩
  · have e5 : i + 2 + 1 = i + 3 := by omega
    rw [e5] at e3
    dsimp only
    rw [if_neg (fun c => c e58), e3]
theorem kr_stops (d : Nat) (h : zr_st q n 0 M)
    (h1 : ∀ (k : Int) (sp mi : Int → Int) (N : z_M), zt_v q = .inr (k, sp, mi) → 1 ≤ k → k ≤ 12 → zc_x (fun a j => a == 121050 || a == 121051 || (a == 11 && j == 5)) M N → (∀ a, z_cch a = true → N a = M a) → N 2 4 = 0 → N 11 5 = k → (∀ j : Int, 0 ≤ j → j < k → N 121050 j = sp j ∧ N 121051 j = mi j ∧ 0 ≤ mi j ∧ mi j < 96) → Q (z_I 1) N)
    (h0 : ∀ (f : Int) (N : z_M), zt_v q = .inl f → zc_c M N → N 2 4 = f → Q (z_I 0) N) : z_Cl 0 (d + 4) 42 [z_R 11, z_R 2] M Q := by
  refine re_42 (d + 3) ?_
  have key : ∀ (f : Nat) (k : Int) (sp mi : Int → Int) (i : Int) (N : z_M), k + (f : Int) = 13 → 0 ≤ k → k ≤ 12 → zr_st q n i N → zc_c M N → zt_fr 121052 121053 k sp mi N → zt_go q f k sp mi i = zt_v q → z_G 0 (d + 4) z_m42 2 [z_R 11, z_R 2, z_I k] [] N Q := by
    intro f
    induction f with
    | zero =>
      intro k sp mi i N hk _ k12 st cc fr e
      exact absurd hk (by omega)
    | succ f ih =>
      intro k sp mi i N hk k0 k12 st cc fr e
      have hn := st.1.2.1
      have hp := st.2.2.1
      have hp2 := st.2.2.2.1
      unfold zt_go at e
      refine rg_42_2 (d + 3) ⟨fun c => absurd c (by omega), fun _ => kr_isDigit (d + 2) st (fun hd => z_y2 ⟨fun kn => ?_, fun ke => ?_⟩) (fun hd => z_n2 (kr_wrong (d + 2) st (fun N' b => z_viI (z_bl_of (Or.inl rfl) (h0 _ N' ?_ (zc_tr cc (zc_mv b.1)) b.2)))))⟩
      · refine kr_stop d st k0 (by omega) hd fr (fun s m j N1 e1 c1 st1 fr1 => z_y2 (kr_atEnd (d + 3) st1 (fun je qe => z_y1 ?_) (fun jl qn => z_n1 (kr_take (d + 2) st1 (by decide) (fun e44 _ st2 => z_y2 ?_) (fun ne N2 b2 => z_n2 (h0 _ N2 ?_ (zc_tr cc (zc_tr c1 (zc_mv b2.1))) b2.2)))))) (fun f N1 e1 b1 => z_n2 (h0 f N1 ?_ (zc_tr cc (zc_mv b1.1)) b1.2))
        · rw [e1] at e
          dsimp only at e
          rw [if_pos qe] at e
          have w1 : z_w (k + 1) = k + 1 := z_w_id (by omega) (by omega)
          have ea : (z_up N1 11 5 (k + 1)) 11 5 = k + 1 := z_up_eq
          have eb : (z_cp (z_up N1 11 5 (k + 1)) 121052 0 121050 0 (k + 1)) 11 5 = k + 1 := by rw [zy_cp_ne (by decide), z_up_eq]
          rw [w1, ea, eb]
          refine ⟨by omega, by omega, by omega, by omega, by omega, by omega, by omega, by omega, by omega, by omega, h1 (k + 1) _ _ _ e.symm (by omega) (by omega) (fun a j ha hx => ?_) (fun a ha => ?_) ?_ ?_ (fun j j0 j1 => ?_)⟩
          · dsimp only at hx
            simp only [Bool.or_eq_false_iff, beq_eq_false_iff_ne] at hx
            obtain ⟨⟨x1, x2⟩, x3⟩ := hx
            rw [zy_cp_ne x2, zy_cp_ne x1]
            have : z_up N1 11 5 (k + 1) a j = N1 a j := by
              by_cases c : a = 11
              · subst c
                refine z_up_nj (fun c2 => ?_)
                rw [c2] at x3; cases x3
              · rw [z_up_ne c]
            rw [this]
            exact (zc_tr cc c1).1 a j ha
          · have ne : ∀ c : Nat, z_cch c = false → a ≠ c := fun c hc2 e => by rw [e, hc2] at ha; cases ha
            rw [zy_cp_ne (ne _ rfl), zy_cp_ne (ne _ rfl), z_up_ne (ne _ rfl)]
            exact (zc_tr cc c1).2 a ha
          · rw [zy_cp_ne (by decide), zy_cp_ne (by decide), z_up_ne (by decide)]
            exact st1.2.2.2.2.2.2
          · rw [zy_cp_ne (by decide), zy_cp_ne (by decide), z_up_eq]
          · obtain ⟨g1, g2, g3, g4⟩ := fr1 j j0 j1
            refine ⟨?_, ?_, g3, g4⟩
            · rw [zy_cp_ne (by decide), zy_cp_on j0 j1, z_up_ne (by decide)]; exact g1
            · rw [zy_cp_on j0 j1, zy_cp_ne (by decide), z_up_ne (by decide)]; exact g2
        · rw [z_w_id (x := k + 1) (by omega) (by omega)]
          rw [e1] at e
          dsimp only at e
          rw [if_neg qn, if_pos e44] at e
          refine ih (k + 1) _ _ _ _ (by omega) (by omega) (by omega) st2 (zc_tr cc (zc_tr c1 (zc_mv (zr_mv_up (by decide))))) (fun x a b => ?_) e
          rw [z_up_ne (by decide), z_up_ne (by decide)]
          exact fr1 x a b
        · rw [← e, e1]
          dsimp only
          rw [if_neg qn, if_neg ne]
        · rw [← e, e1]
      · refine kr_place (d + 3) st (z_viI (kr_fail (d + 3) (by omega) (by omega) (fun N' b => z_viI (z_bl_of (Or.inl rfl) (h0 (-4000 - i) N' ?_ (zc_tr cc (zc_mv b.1)) (by rw [b.2]; omega))))))
        rw [← e]
        unfold zt_ln
        rw [if_neg (fun c => c hd), if_pos ke]
      · rw [← e]
        unfold zt_ln
        rw [if_pos hd]
  exact key 13 0 _ _ 0 M (by omega) (by omega) (by omega) h zc_rf (fun j a b => absurd b (by omega)) rfl
end ZTR
section ZTM
variable {S M N : z_M} {Q : z_V → z_M → Prop} {q : Int → Int} {n i : Int}
/-- a spot that is told, in the model -/
theorem kn_spotTold (d : Nat) (h : zm_st q n i 0 N) (hi : i < 900) (h1 : ∀ (v : Int) (N' : z_M), zr_sp q i = .inr v → 0 ≤ v → v < 100 → zm_mv N N' → zm_st q n (i + 2) 0 N' → Q (z_I v) N') (h0 : ∀ (f v j : Int) (N' : z_M), zr_sp q i = .inl f → f < 0 → i ≤ j → j ≤ i + 2 → zm_mv N N' → zm_st q n j f N' → Q (z_I v) N') : z_Cl 0 (d + 3) 294 [z_R 13] N Q := by
  have hp := h.2.2.1
  refine re_294 (d + 2) (kn_good1 (d + 2) h (z_viI ⟨fun c => absurd c (by decide), fun _ => kn_digit d h (by omega) (fun hd N1 m1 s1 => z_viI (kn_good1 (d + 2) s1 (z_viI ⟨fun c => absurd c (by decide), fun _ => kn_digit d s1 (by omega) (fun hd2 N2 m2 s2 => z_viI ?_) (fun hd2 v N2 v0 v1 m2 s2 => z_viI ?_)⟩))) (fun hd v N1 v0 v1 m1 s1 => z_viI (kn_good0 (d + 2) (by omega) s1 (z_viI ⟨fun _ => ?_, fun c => absurd rfl c⟩)))⟩))
  · rw [z_w_id (x := 10 * (q (i + 1) - 48)) (by omega) (by omega), z_w_id (by omega) (by omega)]
    rw [show i + 1 + 1 = i + 2 from by omega] at s2
    exact h1 _ N2 (by unfold zr_sp; rw [if_pos hd, if_pos hd2]) (by omega) (by omega) (zm_mv_tr m1 m2) s2
  · exact h0 _ _ (i + 1 + 1) N2 (by unfold zr_sp; rw [if_pos hd, if_neg hd2]) (by omega) (by omega) (by omega) (zm_mv_tr m1 m2) s2
  · exact h0 _ _ (i + 1) N1 (by unfold zr_sp; rw [if_neg hd]) (by omega) (by omega) (by omega) m1 s1
theorem zm_f0 {f : Int} : zm_f 0 f = f := if_neg (by decide)
theorem zm_fn {b f : Int} (h : b < 0) : zm_f b f = b := if_pos h
/-- the model's fresh stops -/
theorem kn_stop (d : Nat) {k : Int} {sp mi : Int → Int} (h : zm_st q n i 0 N) (hi : i < 900) (k0 : 0 ≤ k) (k1 : k ≤ 12) (hf : zt_fr 121114 121115 k sp mi N)
    (h1 : ∀ (s m j : Int) (N' : z_M), zt_ln q k (mi (k - 1)) i = .inr (s, m, j) → k < 12 → i < j → j ≤ i + 5 → zc_c N N' → zm_st q n j 0 N' → zt_fr 121114 121115 (k + 1) (zt_put sp k s) (zt_put mi k m) N' → Q z_U N')
    (h0 : ∀ (f : Int) (N' : z_M) (j : Int), zt_ln q k (mi (k - 1)) i = .inl f → f < 0 → 0 ≤ j → j ≤ 950 → zc_c N N' → zm_st q n j f N' → Q z_U N') : z_Cl 0 (d + 4) 348 [z_R 13, z_I k] N Q := by
  have hp := h.2.2.1
  -- once a fault is there, nothing changes but the place
  have bad3 : ∀ (l2 l3 l4 f j : Int) (N1 : z_M), f < 0 → 0 ≤ j → j ≤ 940 → zt_ln q k (mi (k - 1)) i = .inl f → zc_c N N1 → zm_st q n j f N1 → z_G 0 (d + 4) z_m348 104 [z_R 13, z_I k, z_I l2, z_I l3, z_I l4] [] N1 Q := by
    intro l2 l3 l4 f j N1 f0 j0 j1 e c st
    exact rg_348_104 (d + 3) (kn_good0 (d + 3) (by omega) st (z_viI ⟨fun _ => rg_348_135 (d + 3) (kn_good0 (d + 3) (by omega) st (z_viI ⟨fun c2 => absurd rfl c2, fun _ => h0 f N1 j e f0 j0 (by omega) c st⟩)), fun c2 => absurd rfl c2⟩))
  have bad2 : ∀ (l2 f j : Int) (N1 : z_M), f < 0 → 0 ≤ j → j ≤ 930 → zt_ln q k (mi (k - 1)) i = .inl f → zc_c N N1 → zm_st q n j f N1 → z_G 0 (d + 4) z_m348 52 [z_R 13, z_I k, z_I l2, z_U, z_U] [] N1 Q := by
    intro l2 f j N1 f0 j0 j1 e c st
    have e2 : N1 13 2 = j := st.2.2.2.2.2.1
    refine rg_348_52 (d + 3) ?_
    rw [e2, z_w_id (by omega) (by omega)]
    have st2 := zm_st_pl (i' := j + 1) st (by omega) (by omega)
    have c2 : zc_c N (z_up N1 13 2 (j + 1)) := zc_tr c (zc_up rfl rfl)
    generalize z_up N1 13 2 (j + 1) = N2 at st2 c2
    exact kn_good0 (d + 3) (by omega) st2 (z_viI ⟨fun _ => rg_348_82 (d + 3) (kn_good0 (d + 3) (by omega) st2 (z_viI ⟨fun _ => bad3 _ _ _ f (j + 1) N2 f0 (by omega) (by omega) e c2 st2, fun c3 => absurd rfl c3⟩)), fun c3 => absurd rfl c3⟩)
  have start : ∀ (N1 : z_M), (zr_d q i → k < 12) → zc_c N N1 → zm_mv N N1 → zm_st q n i 0 N1 → z_G 0 (d + 4) z_m348 22 [z_R 13, z_I k, z_U, z_U, z_U] [] N1 Q := by
    intro N1 k12 c m st
    have ez : zr_d q i → zt_ln q k (mi (k - 1)) i = (match zr_sp q i with
      | .inl f => .inl f
      | .inr s => if q (i + 2) ≠ 58 then .inl (-1000 - (i + 2)) else
        match zr_mn q (i + 3) with
        | .inl f => .inl f
        | .inr (m, j) => if 0 < k ∧ m ≤ mi (k - 1) then .inl (-7000 - (i + 3)) else .inr (s, m, j)) := by
      intro hd
      unfold zt_ln
      rw [if_neg (fun z => z hd), if_neg (by have := k12 hd; omega)]
    refine rg_348_22 (d + 3) (kn_spotTold d st (by omega) (fun s N2 e2 s0 s1 m2 st2 => z_viI (kn_good1 (d + 3) st2 (z_viI ⟨fun c3 => absurd c3 (by decide), fun _ => kn_here (d + 3) st2 (z_viI ⟨fun c3 => ?_, fun c3 => ?_⟩)⟩))) (fun f v j N2 e2 f0 j0 j1 m2 st2 => z_viI (kn_good0 (d + 3) (by omega) st2 (z_viI ⟨fun _ => bad2 v f j N2 f0 (by omega) (by omega) ?_ (zc_tr c (zc_mm m2)) st2, fun c3 => absurd rfl c3⟩))))
    · rw [zm_h_s (by decide)] at c3
      have hd : zr_d q i := by
        by_cases hd : zr_d q i
        · exact hd
        · unfold zr_sp at e2; rw [if_neg hd] at e2; cases e2
      have e9 := ez hd
      rw [e2] at e9
      dsimp only at e9
      rw [if_neg (fun z => z c3)] at e9
      have e3 : N2 13 2 = i + 2 := st2.2.2.2.2.2.1
      refine rg_348_52 (d + 3) ?_
      rw [e3, z_w_id (by omega) (by omega), show i + 2 + 1 = i + 3 from by omega]
      have st3 := zm_st_pl (i' := i + 3) st2 (by omega) (by omega)
      have m3 : zm_mv N (z_up N2 13 2 (i + 3)) := zm_mv_tr m (zm_mv_tr m2 (zm_mv_up (Or.inl rfl)))
      have ep : (z_up N2 13 2 (i + 3)) 13 2 = i + 3 := z_up_eq
      rw [ep]
      generalize z_up N2 13 2 (i + 3) = N3 at st3 m3
      refine kn_good1 (d + 3) st3 (z_viI ⟨fun c4 => absurd c4 (by decide), fun _ => kn_number (d + 1) st3 (by omega) (fun hd3 N4 m4 st4 => z_viI ?_) (fun hd3 N4 m4 st4 => z_viI ?_)⟩)
      · have hb : 0 ≤ (zm_nb q (i + 3)).1 ∧ i + 3 < (zm_nb q (i + 3)).2 ∧ (zm_nb q (i + 3)).2 ≤ i + 5 := by
          unfold zm_nb
          split <;> dsimp only <;> omega
        have emn : zr_mn q (i + 3) = if (zm_nb q (i + 3)).1 < 96 then .inr ((zm_nb q (i + 3)).1, (zm_nb q (i + 3)).2) else .inl (-2000 - (i + 3)) := by
          unfold zr_mn zm_nb
          rw [if_pos hd3]
          by_cases h4 : zr_d q (i + 3 + 1)
          · rw [if_pos h4, if_pos h4, show i + 3 + 2 = i + 5 from by omega]
          · rw [if_neg h4, if_neg h4, if_pos (by dsimp only; omega), show i + 3 + 1 = i + 4 from by omega]
        generalize zm_nb q (i + 3) = nb at hb emn st4
        obtain ⟨m', j'⟩ := nb
        dsimp only at hb emn st4 ⊢
        have m4' := zm_mv_tr m3 m4
        refine rg_348_82 (d + 3) (kn_good1 (d + 3) st4 (z_viI ⟨fun c5 => absurd c5 (by decide), fun _ => ⟨fun c5 => ?_, fun c5 => kn_wrongs (d + 3) st4 (by omega) (by omega) (fun N5 m5 st5 => ?_)⟩⟩))
        · rw [if_pos c5] at emn
          rw [emn] at e9
          dsimp only at e9
          have fr4 : zt_fr 121114 121115 k sp mi N4 := fun x a b => by rw [m4'.1 _ (by decide), m4'.1 _ (by decide)]; exact hf x a b
          have last : ∀ (l3 : Int), ¬ (0 < k ∧ m' ≤ mi (k - 1)) → z_G 0 (d + 4) z_m348 135 [z_R 13, z_I k, z_I s, z_I l3, z_I m'] [] N4 Q := by
            intro l3 cn
            rw [if_neg cn] at e9
            have kk := k12 hd
            refine rg_348_135 (d + 3) (kn_good1 (d + 3) st4 (z_viI ⟨fun _ => ⟨k0, kk, k0, kk, ?_⟩, fun c6 => absurd c6 (by decide)⟩))
            refine h1 s m' j' _ e9 kk (by omega) (by omega) (zc_tr (zc_mm m4') (zc_tr (zc_up rfl rfl) (zc_up rfl rfl))) (zm_st_of st4 ⟨by rw [z_up_ne (by decide), z_up_ne (by decide)], by rw [z_up_ne (by decide), z_up_ne (by decide)], by rw [z_up_ne (by decide), z_up_ne (by decide)]⟩ (by rw [z_up_ne (by decide), z_up_ne (by decide)])) (fun x a b => ?_)
            by_cases cx : x = k
            · rw [cx, zt_put_e, zt_put_e, z_up_ne (by decide), z_up_eq, z_up_eq]; exact ⟨rfl, rfl, by omega, c5⟩
            · rw [zt_put_n cx, zt_put_n cx, z_up_ne (by decide), z_up_nj cx, z_up_nj cx]; exact fr4 x a (by omega)
          refine rg_348_104 (d + 3) (kn_good1 (d + 3) st4 (z_viI ⟨fun c6 => absurd c6 (by decide), fun _ => ⟨fun c6 => last _ (by omega), fun c6 => ?_⟩⟩))
          rw [z_w_id (x := k - 1) (by omega) (by omega), (fr4 (k - 1) (by omega) (by omega)).2.1]
          have kk := k12 hd
          refine ⟨by omega, by omega, fun c7 => last _ (by omega), fun c7 => kn_wrongs (d + 3) st4 (by omega) (by omega) (fun N5 m5 st5 => ?_)⟩
          rw [zm_f0] at st5
          rw [if_pos ⟨c6, c7⟩, show -7000 - (i + 3) = -1000 * 7 - (i + 3) from by omega] at e9
          exact rg_348_135 (d + 3) (kn_good0 (d + 3) (by omega) st5 (z_viI ⟨fun c8 => absurd rfl c8, fun _ => h0 _ N5 j' e9 (by omega) (by omega) (by omega) (zc_tr (zc_mm m4') (zc_mm m5)) st5⟩))
        · rw [zm_f0] at st5
          rw [if_neg (by omega), show -2000 - (i + 3) = -1000 * 2 - (i + 3) from by omega] at emn
          rw [emn] at e9
          exact bad3 _ _ _ _ j' N5 (by omega) (by omega) (by omega) e9 (zc_tr (zc_mm m4') (zc_mm m5)) st5
      · have emn : zr_mn q (i + 3) = .inl (-1000 - (i + 3)) := if_neg hd3
        rw [emn] at e9
        exact rg_348_82 (d + 3) (kn_good0 (d + 3) (by omega) st4 (z_viI ⟨fun _ => bad3 _ _ _ _ (i + 3) N4 (by omega) (by omega) (by omega) e9 (zc_mm (zm_mv_tr m3 m4)) st4, fun c5 => absurd rfl c5⟩))
    · have c4 : ¬ q (i + 2) = 58 := fun z => c3 ((zm_h_s (by decide)).mpr z)
      have e3 : N2 13 2 = i + 2 := st2.2.2.2.2.2.1
      have hd : zr_d q i := by
        by_cases hd : zr_d q i
        · exact hd
        · unfold zr_sp at e2; rw [if_neg hd] at e2; cases e2
      have e9 := ez hd
      rw [e2] at e9
      dsimp only at e9
      rw [if_pos c4] at e9
      rw [e3]
      refine kn_wrongs (d + 3) st2 (by omega) (by omega) (fun N3 m3 st3 => ?_)
      rw [zm_f0, show -1000 * 1 - (i + 2) = -1000 - (i + 2) from by omega] at st3
      exact bad2 _ _ (i + 2) N3 (by omega) (by omega) (by omega) e9 (zc_tr c (zc_tr (zc_mm m2) (zc_mm m3))) st3
    · unfold zt_ln
      by_cases hd : zr_d q i
      · have := k12 hd
        rw [if_neg (fun z => z hd), if_neg (by omega), e2]
      · rw [if_pos hd]
        unfold zr_sp at e2; rw [if_neg hd] at e2; exact congrArg Sum.inl (Sum.inl.inj e2)
  have e2 : N 13 2 = i := h.2.2.2.2.2.1
  refine re_348 (d + 3) (kn_seesDigit (d + 2) h (fun hd => z_viI ⟨fun c => absurd c (by decide), fun _ => ⟨fun c => start N (fun _ => by omega) zc_rf zm_mv_rf h, fun c => kn_wrongs (d + 3) h (by omega) (by omega) (fun N1 m1 st1 => ?_)⟩⟩) (fun hd => z_viI ⟨fun _ => start N (fun z => absurd z hd) zc_rf zm_mv_rf h, fun c => absurd rfl c⟩))
  rw [zm_f0, e2, show -1000 * 4 - i = -4000 - i from by omega] at st1
  have ev : zt_ln q k (mi (k - 1)) i = .inl (-4000 - i) := by
    unfold zt_ln
    rw [if_neg (fun z => z hd), if_pos c]
  -- spotTold behind a fault
  refine rg_348_22 (d + 3) (re_294 (d + 2) (kn_good0 (d + 2) (by omega) st1 (z_viI ⟨fun _ => kn_good0 (d + 2) (by omega) st1 (z_viI ⟨fun _ => z_viI (kn_good0 (d + 3) (by omega) st1 (z_viI ⟨fun _ => bad2 _ _ i N1 (by omega) (by omega) (by omega) ev (zc_mm m1) st1, fun c3 => absurd rfl c3⟩)), fun c3 => absurd rfl c3⟩), fun c3 => absurd rfl c3⟩)))
end ZTM
