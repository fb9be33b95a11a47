/-! LAW: its text, the class makes orders -/
section ZLC
variable {S M N N0 : z_M} {Q : z_V → z_M → Prop} {q : Int → Int} {n i : Int}
theorem z_shl4 {a : Nat} (h : a < 100000000) : z_shl (a : Int) 4 = ((16 * a : Nat) : Int) := by
  unfold z_shl
  have e2 : ((Int32.ofInt 4) &&& 31).toBitVec.smod 32 = 4#32 := by decide
  refine z_ofBits32 ?_ (by omega)
  rw [Int32.toBitVec_shiftLeft, e2, BitVec.shiftLeft_eq', BitVec.toNat_shiftLeft, z_toNat32 (by omega), Nat.shiftLeft_eq]
  show a * 2 ^ 4 % 2 ^ 32 = 16 * a
  omega
theorem z_ord {a b : Int} (a0 : 0 ≤ a) (a1 : a < 100000000) (b0 : 0 ≤ b) (b1 : b < 16) : z_or (z_shl a 4) b = 16 * a + b := by
  obtain ⟨x, rfl⟩ := Int.eq_ofNat_of_zero_le a0
  obtain ⟨y, rfl⟩ := Int.eq_ofNat_of_zero_le b0
  rw [z_shl4 (by omega), z_or_n (by omega) (by omega)]
  have := Nat.two_pow_add_eq_or_of_lt (i := 4) (b := y) (by omega) x
  rw [show (2 : Nat) ^ 4 = 16 from rfl] at this
  rw [← this]
  omega
/-- orders made so far behind o; what lies before is as it was -/
def zl_fr (o : Int) (co : List Int) (N0 N : z_M) : Prop := N 5 7 = o + (co.length : Int) ∧ zl_at (N 2401026) o co ∧ (∀ x : Int, x < o → N 2401026 x = N0 2401026 x) ∧ N 641028 = N0 641028
def zl_bs (N : z_M) : Prop := 0 ≤ N 5 7 ∧ N 5 7 ≤ 240
theorem zl_fr_of {o : Int} {co : List Int} {N' : z_M} (h : zl_fr o co N0 N) (h5 : N' 5 = N 5) (hf : N' 2401026 = N 2401026) (hc : N' 641028 = N 641028) : zl_fr o co N0 N' := by
  unfold zl_fr
  rw [h5, hf, hc]
  exact h
theorem kr_write (d : Nat) {a b o : Int} (ho : N 5 7 = o) (o0 : 0 ≤ o) (o1 : o < 240) (a0 : 0 ≤ a) (a1 : a < 16) (b0 : 0 ≤ b) (b1 : b < 100000000) (hQ : Q (z_I 1) (z_up (z_up N 2401026 o (16 * b + a)) 5 7 (o + 1))) : z_Cl 0 d 36 [z_R 5, z_I a, z_I b] N Q := by
  have e1 : N 5 7 = o := ho
  have e2 : (z_up N 2401026 o (16 * b + a)) 5 7 = o := by rw [z_up_ne (by decide)]; exact ho
  refine re_36 d ?_
  rw [e1, z_ord b0 b1 a0 a1, e2, z_w_id (x := o + 1) (by omega) (by omega)]
  exact ⟨fun c => absurd c (by omega), fun _ => ⟨o0, o1, hQ⟩⟩
/-- written somehow, behind a fault -/
theorem kr_writeB (d : Nat) {a b : Int} (hb : zl_bs N) (hQ : ∀ N' : z_M, zc_c N N' → N' 2 = N 2 → zl_bs N' → Q (z_I 1) N') : z_Cl 0 d 36 [z_R 5, z_I a, z_I b] N Q := by
  obtain ⟨h0, h1⟩ := hb
  have e : N 5 7 = N 5 7 := rfl
  have e2 : ∀ x : Int, (z_up N 2401026 (N 5 7) x) 5 7 = N 5 7 := fun x => by rw [z_up_ne (by decide)]
  refine re_36 d ⟨fun _ => hQ N zc_rf rfl ⟨h0, h1⟩, fun c => ⟨h0, c, ?_⟩⟩
  rw [e2, z_w_id (x := N 5 7 + 1) (by omega) (by omega)]
  exact hQ _ (zc_tr (zc_up rfl rfl) (zc_up rfl rfl)) (by rw [z_up_ne (by decide), z_up_ne (by decide)]) ⟨by rw [z_up_eq]; omega, by rw [z_up_eq]; omega⟩
theorem zl_fr_w {o x : Int} {co : List Int} (h : zl_fr o co N0 N) : zl_fr o (co ++ [x]) N0 (z_up (z_up N 2401026 (o + (co.length : Int)) x) 5 7 (o + (co.length : Int) + 1)) := by
  refine ⟨?_, ?_, fun y hy => ?_, ?_⟩
  · rw [z_up_eq]; simp only [List.length_append, List.length_cons, List.length_nil]; omega
  · rw [z_up_ne (by decide), zl_at_app]
    refine ⟨zl_at_cg co o (fun y a b => z_up_nj (by omega)) h.2.1, z_up_eq, trivial⟩
  · rw [z_up_ne (by decide), z_up_nj (by omega)]; exact h.2.2.1 y hy
  · rw [z_up_ne (by decide), z_up_ne (by decide)]; exact h.2.2.2
theorem kr_joint (d : Nat) {L : Nat} {c : Int} (hQ : Q (z_I (zl_jt L c)) N) : z_Cl 0 d 30 [z_I (L : Int), z_I c] N Q := by
  unfold zl_jt at hQ
  refine re_30 d ⟨fun c1 => ⟨fun c2 => ?_, fun c2 => ?_⟩, fun c1 => ⟨fun c3 => ⟨fun c2 => ?_, fun c2 => ?_⟩, fun c3 => ⟨fun c4 => ⟨fun c2 => ?_, fun c2 => ?_⟩, fun c4 => ⟨fun c5 => ⟨fun c2 => ?_, fun c2 => ?_⟩, fun c5 => ⟨fun c6 => ⟨fun c2 => ?_, fun c2 => ?_⟩, fun c6 => ⟨fun c7 => ⟨fun c2 => ?_, fun c2 => ?_⟩, fun c7 => ⟨fun c8 => ⟨fun c2 => ?_, fun c2 => ?_⟩, fun c8 => ?_⟩⟩⟩⟩⟩⟩⟩
  all_goals (repeat (first | rw [if_pos (by omega)] at hQ | rw [if_neg (by omega)] at hQ))
  all_goals exact hQ
theorem zl_jt_b (L : Nat) (c : Int) : zl_jt L c = -1 ∨ (2 ≤ zl_jt L c ∧ zl_jt L c ≤ 12) := by
  unfold zl_jt
  repeat' split
  all_goals omega
theorem zl_jt_L {L : Nat} {c : Int} (h : zl_jt L c ≠ -1) : L = 0 ∨ L = 1 ∨ L = 3 ∨ L = 4 := by
  unfold zl_jt at h
  repeat' split at h
  all_goals first | omega | exact absurd rfl h
theorem kr_number (d : Nat) {o : Int} {Q : z_V → z_M → Prop} (h : zr_st q n i N) (hn : n ≤ 240) (ho : N 5 7 = o) (o0 : 0 ≤ o) (oi : o ≤ i) (hd : zr_d q i)
    (h1 : ∀ (v j : Int) (N' : z_M), zl_num q 5 0 i = .inr (v, j) → zc_c N N' → zr_st q n j N' → zl_fr o [16 * v] N N' → Q (z_I 1) N')
    (h0 : ∀ (x : Int) (N' : z_M), zl_num q 5 0 i = .inl x → zc_c N N' → N' 2 4 = x → zl_bs N' → Q (z_I 0) N') : z_Cl 0 (d + 2) 35 [z_R 5, z_R 2] N Q := by
  have hpn := h.2.2.2.1
  have hp := h.2.2.1
  have bs : ∀ N' : z_M, zr_mv N N' → zl_bs N' := fun N' m => ⟨by rw [m.1 _ (by decide), ho]; exact o0, by rw [m.1 _ (by decide), ho]; omega⟩
  -- the end: the number is written
  have wr : ∀ (v j : Int) (N' : z_M), zl_num q 5 0 i = .inr (v, j) → i < j → 0 ≤ v → v < 100000 → zr_mv N N' → zr_st q n j N' → z_Cl 0 (d + 1) 36 [z_R 5, z_I 0, z_I v] N' (fun v2 M2 => z_vi v2 fun x2 => z_bl x2 (Q (z_I x2) M2)) := by
    intro v j N' e ij v0 v1 m st
    have hjn := st.2.2.2.1
    have eo : N' 5 7 = o := by rw [m.1 _ (by decide)]; exact ho
    refine kr_write (d + 1) eo o0 (by omega) (by decide) (by decide) v0 (by omega) (z_viI (z_bl_of (Or.inr rfl) ?_))
    have f0 : zl_fr o [] N N' := ⟨by rw [eo]; simp only [List.length_nil]; omega, trivial, fun x _ => by rw [m.1 _ (by decide)], by rw [m.1 _ (by decide)]⟩
    have f1 := zl_fr_w (x := 16 * v + 0) f0
    rw [show o + (([] : List Int).length : Int) = o from by simp only [List.length_nil]; omega] at f1
    refine h1 v j _ e (zc_tr (zc_mv m) (zc_tr (zc_up rfl rfl) (zc_up rfl rfl))) (zr_st_of st (by rw [z_up_ne (by decide), z_up_ne (by decide)]) (by rw [z_up_ne (by decide), z_up_ne (by decide)])) ?_
    rw [show ([] : List Int) ++ [16 * v + 0] = [16 * v] from by rw [Int.add_zero]; rfl] at f1
    exact f1
  generalize hW : zl_num q 5 0 i = W at h1 h0 wr
  have key : ∀ (k x : Nat) (v j : Int) (N' : z_M), x + k = 5 → i + (x : Int) = j → 0 ≤ v → v < 10 ^ x → zr_mv N N' → zr_st q n j N' → zl_num q k v j = W → z_G 0 (d + 2) z_m35 4 [z_R 5, z_R 2, z_I v, z_I (x : Int)] [] N' Q := by
    intro k
    induction k with
    | zero =>
      intro x v j N' hk ij v0 v1 m st e
      have hx : x = 5 := by omega
      rw [hx, show (10 : Int) ^ 5 = 100000 from by decide] at v1
      unfold zl_num at e
      refine rg_35_4 (d + 1) ⟨fun _ => kr_isDigit d st (fun hd2 => z_y1 (kr_place (d + 1) st (z_viI (kr_fail (d + 1) (by decide) (by have := st.2.2.2.1; omega) (fun N2 b => z_viI (z_bl_of (Or.inl rfl) (h0 (-2000 - j) N2 ?_ (zc_mv (zr_mv_tr m b.1)) (by rw [b.2]; omega) (bs N2 (zr_mv_tr m b.1))))))))) (fun hd2 => z_n1 (wr v j N' ?_ (by omega) v0 v1 m st)), fun c => absurd c (by omega)⟩
      · rw [← e, if_pos hd2]
      · rw [← e, if_neg hd2]
    | succ k ih =>
      intro x v j N' hk ij v0 v1 m st e
      unfold zl_num at e
      have hp10 : (10 : Int) ^ x ≤ 10000 := by
        have : x = 0 ∨ x = 1 ∨ x = 2 ∨ x = 3 ∨ x = 4 := by omega
        rcases this with rfl | rfl | rfl | rfl | rfl <;> decide
      refine rg_35_4 (d + 1) ⟨fun c => absurd c (by omega), fun _ => kr_isDigit d st (fun hd2 => z_y1 (kr_digit d st (fun _ jn st2 => z_viI ?_) (fun z => absurd hd2 z))) (fun hd2 => z_n1 (kr_isDigit d st (fun z => absurd z hd2) (fun _ => z_n1 (wr v j N' ?_ ?_ v0 (by omega) m st))))⟩
      · rw [if_pos hd2] at e
        rw [z_w_id (x := 10 * v) (by omega) (by omega), z_w_id (x := 10 * v + (q j - 48)) (by omega) (by omega), z_wq (by omega)]
        refine ih (x + 1) _ (j + 1) _ (by omega) (by omega) (by omega) ?_ (zr_mv_tr m (zr_mv_up (by decide))) st2 e
        rw [Int.pow_succ]
        omega
      · rw [← e, if_neg hd2]
      · by_cases z : x = 0
        · exfalso
          rw [z] at ij
          rw [show j = i from by omega] at hd2
          exact hd2 hd
        · omega
  exact re_35 (d + 1) (key 5 0 0 i N (by decide) (by omega) (by decide) (by decide) zr_mv_rf h hW)
theorem kr_name (d : Nat) {D : Int} {Q : z_V → z_M → Prop} {o : Int} (h : zr_st q n i N) (hn : n ≤ 240) (ho : N 5 7 = o) (o0 : 0 ≤ o) (oi : o ≤ i)
    (h1 : zl_nx (q i) ≠ -1 → ∀ N' : z_M, zc_c N N' → zr_st q n (i + 1) N' → zl_fr o [16 * zl_nx (q i) + 1] N N' → Q (z_I 1) N')
    (h0 : zl_nx (q i) = -1 → ∀ N' : z_M, zc_c N N' → N' 2 4 = -1000 - i → zl_bs N' → Q (z_I 0) N') : z_G 0 (d + 2) z_m34 74 [z_R 5, z_R 2, z_I D, z_I (q i), z_I 0] [] N Q := by
  have hpn := h.2.2.2.1
  have cv : z_cv 67903 0 = 116 ∧ z_cv 67903 1 = 113 ∧ z_cv 67903 2 = 117 ∧ z_cv 67903 3 = 112 ∧ z_cv 67903 4 = 120 ∧ z_cv 67903 5 = 121 := by decide
  obtain ⟨v0, v1, v2, v3, v4, v5⟩ := cv
  have found : ∀ x : Int, 0 ≤ x → x < 6 → zl_nx (q i) = x → q i ≠ -1 → z_Cl 0 (d + 1) 136 [z_R 2] N (fun _ M2 => z_Cl 0 (d + 1) 36 [z_R 5, z_I 1, z_I x] M2 (fun v3 M3 => z_vi v3 fun x3 => z_bl x3 (Q (z_I x3) M3))) := by
    intro x x0 x6 ex qn
    have hi : i < n := by
      by_cases z : i < n
      · exact z
      · exact absurd (h.1.2.2.2 i (by omega)) qn
    refine kr_skip (d + 1) h hi (fun st => ?_)
    have eo : (z_up N 2 3 (i + 1)) 5 7 = o := by rw [z_up_ne (by decide)]; exact ho
    refine kr_write (d + 1) eo o0 (by omega) (by decide) (by decide) x0 (by omega) (z_viI (z_bl_of (Or.inr rfl) ?_))
    have f0 : zl_fr o [] N (z_up N 2 3 (i + 1)) := ⟨by rw [eo]; simp only [List.length_nil]; omega, trivial, fun x _ => by rw [z_up_ne (by decide)], by rw [z_up_ne (by decide)]⟩
    have f1 := zl_fr_w (x := 16 * x + 1) f0
    rw [show o + (([] : List Int).length : Int) = o from by simp only [List.length_nil]; omega, List.nil_append] at f1
    exact h1 (by omega) _ (zc_tr (zc_up rfl rfl) (zc_tr (zc_up rfl rfl) (zc_up rfl rfl))) (zr_st_of st (by rw [z_up_ne (by decide), z_up_ne (by decide)]) (by rw [z_up_ne (by decide), z_up_ne (by decide)])) (by rw [ex]; exact f1)
  have w : ∀ x : Int, 0 ≤ x → x < 6 → z_w (x + 1) = x + 1 := fun x a b => z_w_id (by omega) (by omega)
  refine rg_34_74 (d + 1) ⟨fun c => absurd c (by decide), fun _ => ⟨by decide, by decide, fun n0 => ?_, fun y0 => found 0 (by decide) (by decide) (by unfold zl_nx; rw [← y0, v0]; decide) (by omega)⟩⟩
  rw [w 0 (by decide) (by decide)]
  refine rg_34_74 (d + 1) ⟨fun c => absurd c (by decide), fun _ => ⟨by decide, by decide, fun n1 => ?_, fun y0 => found _ (by decide) (by decide) (by unfold zl_nx; rw [← y0, show (0 : Int) + 1 = 1 from rfl, v1]; decide) (by rw [show (0 : Int) + 1 = 1 from rfl, v1] at y0; omega)⟩⟩
  rw [w (0 + 1) (by decide) (by decide)]
  refine rg_34_74 (d + 1) ⟨fun c => absurd c (by decide), fun _ => ⟨by decide, by decide, fun n2 => ?_, fun y0 => found _ (by decide) (by decide) (by unfold zl_nx; rw [← y0, show (0 : Int) + 1 + 1 = 2 from rfl, v2]; decide) (by rw [show (0 : Int) + 1 + 1 = 2 from rfl, v2] at y0; omega)⟩⟩
  rw [w (0 + 1 + 1) (by decide) (by decide)]
  refine rg_34_74 (d + 1) ⟨fun c => absurd c (by decide), fun _ => ⟨by decide, by decide, fun n3 => ?_, fun y0 => found _ (by decide) (by decide) (by unfold zl_nx; rw [← y0, show (0 : Int) + 1 + 1 + 1 = 3 from rfl, v3]; decide) (by rw [show (0 : Int) + 1 + 1 + 1 = 3 from rfl, v3] at y0; omega)⟩⟩
  rw [w (0 + 1 + 1 + 1) (by decide) (by decide)]
  refine rg_34_74 (d + 1) ⟨fun c => absurd c (by decide), fun _ => ⟨by decide, by decide, fun n4 => ?_, fun y0 => found _ (by decide) (by decide) (by unfold zl_nx; rw [← y0, show (0 : Int) + 1 + 1 + 1 + 1 = 4 from rfl, v4]; decide) (by rw [show (0 : Int) + 1 + 1 + 1 + 1 = 4 from rfl, v4] at y0; omega)⟩⟩
  rw [w (0 + 1 + 1 + 1 + 1) (by decide) (by decide)]
  refine rg_34_74 (d + 1) ⟨fun c => absurd c (by decide), fun _ => ⟨by decide, by decide, fun n5 => ?_, fun y0 => found _ (by decide) (by decide) (by unfold zl_nx; rw [← y0, show (0 : Int) + 1 + 1 + 1 + 1 + 1 = 5 from rfl, v5]; decide) (by rw [show (0 : Int) + 1 + 1 + 1 + 1 + 1 = 5 from rfl, v5] at y0; omega)⟩⟩
  rw [w (0 + 1 + 1 + 1 + 1 + 1) (by decide) (by decide)]
  rw [show (0 : Int) + 1 = 1 from rfl, v1] at n1
  rw [show (0 : Int) + 1 + 1 = 2 from rfl, v2] at n2
  rw [show (0 : Int) + 1 + 1 + 1 = 3 from rfl, v3] at n3
  rw [show (0 : Int) + 1 + 1 + 1 + 1 = 4 from rfl, v4] at n4
  rw [show (0 : Int) + 1 + 1 + 1 + 1 + 1 = 5 from rfl, v5] at n5
  rw [v0] at n0
  refine rg_34_74 (d + 1) ⟨fun _ => kr_wrong d h (fun N' b => z_viI (z_bl_of (Or.inl rfl) (h0 ?_ N' (zc_mv b.1) b.2 ⟨by rw [b.1.1 _ (by decide), ho]; exact o0, by rw [b.1.1 _ (by decide), ho]; omega⟩))), fun c => absurd c (by decide)⟩
  unfold zl_nx
  rw [if_neg (by omega), if_neg (by omega), if_neg (by omega), if_neg (by omega), if_neg (by omega), if_neg (by omega)]
end ZLC
