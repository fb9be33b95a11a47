/-! LAW: the class reads its levels -/
section ZLD
variable {S M N N0 : z_M} {Q : z_V → z_M → Prop} {q : Int → Int} {n i : Int}
def zl_nd (K : Nat) : Nat := if K = 5 then 4 else if K = 4 then 5 else if K = 3 then 6 else if K = 2 then 9 else if K = 1 then 10 else 11
theorem zl_nd4 (K : Nat) : 4 ≤ zl_nd K := by
  unfold zl_nd
  repeat' split
  all_goals omega
theorem zl_fr_bs {o : Int} {co : List Int} (h : zl_fr o co N0 N) (o0 : 0 ≤ o) (h1 : o + (co.length : Int) ≤ 240) : zl_bs N := ⟨by rw [h.1]; omega, by rw [h.1]; omega⟩
/-- what was made behind o, and then more -/
theorem zl_fr_tr {o : Int} {co c : List Int} {N1 N2 : z_M} (h : zl_fr o co N0 N1) (g : zl_fr (o + (co.length : Int)) c N1 N2) : zl_fr o (co ++ c) N0 N2 := by
  refine ⟨?_, ?_, fun x hx => (g.2.2.1 x (by omega)).trans (h.2.2.1 x hx), g.2.2.2.trans h.2.2.2⟩
  · rw [g.1]; simp only [List.length_append]; omega
  · rw [zl_at_app]
    exact ⟨zl_at_cg co o (fun x a b => g.2.2.1 x (by omega)) h.2.1, g.2.1⟩
theorem zl_fr_0 {o : Int} (h : N 5 7 = o) : zl_fr o [] N N := ⟨by rw [h]; simp only [List.length_nil]; omega, trivial, fun _ _ => rfl, rfl⟩
theorem kr_cmp (d : Nat) {c : Int} (hQ : Q (z_I (zl_cm c)) N) : z_Cl 0 d 33 [z_I c] N Q := by
  unfold zl_cm at hQ
  refine re_33 d ⟨⟨fun c1 => ?_, fun c1 => ?_, fun c1 => ?_, trivial⟩, fun c1 => ?_⟩
  all_goals (repeat (first | rw [if_pos (by omega)] at hQ | rw [if_neg (by omega)] at hQ))
  all_goals exact hQ
theorem zl_cm_b (c : Int) : zl_cm c = -1 ∨ (5 ≤ zl_cm c ∧ zl_cm c ≤ 7) := by
  unfold zl_cm
  repeat' split
  all_goals omega
/-- the leap is written behind its operand -/
theorem zl_fr_lp {o x y : Int} {co c : List Int} {N1 N2 : z_M} (h : zl_fr o (co ++ [x]) N0 N1) (g : zl_fr (o + (co.length : Int) + 1) c N1 N2) : zl_fr o (co ++ (y :: c)) N0 (z_up N2 2401026 (o + (co.length : Int)) y) := by
  have hl : (((co ++ [x]).length : Nat) : Int) = (co.length : Int) + 1 := by simp only [List.length_append, List.length_cons, List.length_nil]; omega
  refine ⟨?_, ?_, fun z hz => ?_, ?_⟩
  · rw [z_up_ne (by decide), g.1]; simp only [List.length_append, List.length_cons]; omega
  · rw [zl_at_app]
    refine ⟨zl_at_cg co o (fun z a b => ?_) ((zl_at_app co [x] o).mp h.2.1).1, z_up_eq, zl_at_cg c _ (fun z a b => z_up_nj (by omega)) g.2.1⟩
    rw [z_up_nj (by omega)]
    exact g.2.2.1 z (by omega)
  · rw [z_up_nj (by omega)]
    exact (g.2.2.1 z (by omega)).trans (h.2.2.1 z hz)
  · rw [z_up_ne (by decide)]
    exact g.2.2.2.trans h.2.2.2
theorem kr_law (hn : n ≤ 240) : ∀ (f : Nat), (∀ (K r e : Nat) (D i o : Int) (N : z_M) (Q : z_V → z_M → Prop), K ≤ 5 → D + (r : Int) = 6 ∧ 0 ≤ D → zl_nd K + 4 * r ≤ e → 20 * (n - i) + 8 - (K : Int) ≤ (f : Int) → 0 ≤ i → 0 ≤ o → o ≤ i → zr_st q n i N → N 5 7 = o →
      (∀ (j : Int) (m : List (Int × Int)) (c : List Int) (N' : z_M), zl q f K D i o [] [] = .inr (j, m, c) → zc_c N N' → zr_st q n j N' → zl_fr o c N N' → Q (z_I 1) N') →
      (∀ (x : Int) (N' : z_M), zl q f K D i o [] [] = .inl x → zc_c N N' → N' 2 4 = x → zl_bs N' → Q (z_I 0) N') → z_Cl 0 e 29 [z_R 5, z_R 2, z_I (K : Int), z_I D] N Q) ∧
    (∀ (L r e : Nat) (D i o l5 : Int) (mc : List (Int × Int)) (co : List Int) (N0 N : z_M) (Q : z_V → z_M → Prop), (L = 0 ∨ L = 1 ∨ L = 3 ∨ L = 4) → D + (r : Int) = 6 ∧ 0 ≤ D → zl_nd L + 4 * r ≤ e → 20 * (n - i) + 1 ≤ (f : Int) → 0 ≤ i → 0 ≤ o → o + (co.length : Int) ≤ i → 0 ≤ l5 → l5 ≤ i → zr_st q n i N → zc_c N0 N → zl_fr o co N0 N →
      (∀ (j : Int) (m : List (Int × Int)) (c : List Int) (N' : z_M), zl q f (L + 6) D i o mc co = .inr (j, m, c) → zc_c N0 N' → zr_st q n j N' → zl_fr o c N0 N' → Q (z_I 1) N') →
      (∀ (x : Int) (N' : z_M), zl q f (L + 6) D i o mc co = .inl x → zc_c N0 N' → N' 2 4 = x → zl_bs N' → Q (z_I 0) N') → z_G 0 e z_m29 38 [z_R 5, z_R 2, z_I (L : Int), z_I D, z_I 1, z_I l5, z_U, z_U] [] N Q) := by
  intro f
  induction f with
  | zero => exact ⟨fun K r e D i o N Q hK _ _ hf _ _ _ st => absurd hf (by have := st.2.2.2.1; omega), fun L r e D i o l5 mc co N0 N Q _ _ _ hf _ _ _ _ _ st => absurd hf (by have := st.2.2.2.1; omega)⟩
  | succ f ih =>
    obtain ⟨ihA, ihB⟩ := ih
    refine ⟨fun K r e D i o N Q hK hD he hf i0 o0 oi st eo h1 h0 => ?_, fun L r e D i o l5 mc co N0 N Q hL hD he hf i0 o0 oi l50 l5i st cc fr h1 h0 => ?_⟩
    · have hpn := st.2.2.2.1
      have hT := st.1
      obtain ⟨e1, rfl⟩ : ∃ e1, e = e1 + 1 := ⟨e - 1, by have := zl_nd4 K; omega⟩
      unfold zl at h1 h0
      refine re_29 e1 ⟨fun k2 => ⟨fun k5 => ?_, fun k5 => ?_⟩, fun k2 => ?_⟩
      · -- a level of joints
        have hk : K = 0 ∨ K = 1 ∨ K = 3 ∨ K = 4 := by omega
        rw [if_neg (by omega), if_neg (by omega), if_pos (by omega)] at h1 h0
        have hnd : zl_nd (K + 1) + 4 * r ≤ e1 := by
          rcases hk with rfl | rfl | rfl | rfl
          · have g1 : zl_nd 0 = 11 := rfl
            have g2 : zl_nd (0 + 1) = 10 := rfl
            omega
          · have g1 : zl_nd 1 = 10 := rfl
            have g2 : zl_nd (1 + 1) = 9 := rfl
            omega
          · have g1 : zl_nd 3 = 6 := rfl
            have g2 : zl_nd (3 + 1) = 5 := rfl
            omega
          · have g1 : zl_nd 4 = 5 := rfl
            have g2 : zl_nd (4 + 1) = 4 := rfl
            omega
        rw [z_w_id (x := (K : Int) + 1) (by omega) (by omega)]
        refine ihA (K + 1) r e1 D i o N _ (by omega) hD hnd (by omega) i0 o0 oi st eo (fun j m c N1 e2 c1 st1 fr1 => z_viI ?_) (fun x N1 e2 c1 b1 bs1 => z_viI ?_)
        · rw [e2] at h1 h0
          dsimp only at h1 h0
          have h3 := (zl_end hT f (K + 1) D i o [] [] j m c i0 hpn ⟨fun z => by omega, fun z => by omega⟩ e2).1 (by omega)
          exact ihB K r (e1 + 1) D j o 0 m c N N1 Q hk hD he (by omega) (by omega) o0 (by omega) (by decide) (by omega) st1 c1 fr1 h1 h0
        · rw [e2] at h0
          exact rg_29_38 e1 ⟨fun c => absurd c (by decide), fun _ => ⟨fun _ => z_bl_of (Or.inl rfl) (h0 x N1 rfl c1 b1 bs1), fun z => absurd rfl z⟩⟩
      · -- a factor
        have hk : K = 5 := by omega
        subst hk
        rw [if_neg (by decide), if_pos rfl] at h1 h0
        have hnd : 4 + 4 * r ≤ e1 + 1 := he
        obtain ⟨e3, rfl⟩ : ∃ e3, e1 = e3 + 3 := ⟨e1 - 3, by omega⟩
        refine re_34 (e3 + 2) (kr_isDigit (e3 + 1) st (fun hd => z_y1 ?_) (fun hd => z_n1 (kr_next (e3 + 2) st (z_viI ⟨fun c91 => ?_, fun c91 => ?_⟩))))
        · rw [if_pos hd] at h1 h0
          refine kr_number e3 st hn eo o0 oi hd (fun v j N1 e2 c1 st1 fr1 => z_viI (z_bl_of (Or.inr rfl) (z_viI (z_bl_of (Or.inr rfl) ?_)))) (fun x N1 e2 c1 b1 bs1 => z_viI (z_bl_of (Or.inl rfl) (z_viI (z_bl_of (Or.inl rfl) ?_))))
          · rw [e2] at h1
            exact h1 j _ _ N1 rfl c1 st1 fr1
          · rw [e2] at h0
            exact h0 x N1 rfl c1 b1 bs1
        · rw [if_neg hd, if_neg c91] at h1 h0
          refine kr_name (e3 + 1) st hn eo o0 oi (fun nn N1 c1 st1 fr1 => z_viI (z_bl_of (Or.inr rfl) ?_)) (fun nn N1 c1 b1 bs1 => z_viI (z_bl_of (Or.inl rfl) ?_))
          · rw [if_neg nn] at h1
            exact h1 (i + 1) _ _ N1 rfl c1 st1 fr1
          · rw [if_pos nn] at h0
            exact h0 _ N1 rfl c1 b1 bs1
        · rw [if_neg hd, if_pos c91] at h1 h0
          refine ⟨fun cD => ?_, fun cD => kr_place (e3 + 2) st (z_viI (kr_fail (e3 + 2) (by decide) (by omega) (fun N1 b => z_viI (z_bl_of (Or.inl rfl) (z_viI (z_bl_of (Or.inl rfl) ?_))))))⟩
          · rw [if_neg (by omega)] at h1 h0
            have hi : i < n := by
              by_cases z : i < n
              · exact z
              · have := hT.2.2.2 i (by omega); omega
            refine kr_skip (e3 + 2) st hi (fun st1 => ?_)
            rw [z_w_id (x := D + 1) (by omega) (by omega)]
            obtain ⟨r', rfl⟩ : ∃ r', r = r' + 1 := ⟨r - 1, by omega⟩
            have c0 : zc_c N (z_up N 2 3 (i + 1)) := zc_up rfl rfl
            have eo1 : (z_up N 2 3 (i + 1)) 5 7 = o := by rw [z_up_ne (by decide)]; exact eo
            have fo1 : (z_up N 2 3 (i + 1)) 2401026 = N 2401026 ∧ (z_up N 2 3 (i + 1)) 641028 = N 641028 := ⟨z_up_ne (by decide), z_up_ne (by decide)⟩
            generalize z_up N 2 3 (i + 1) = N1 at st1 c0 eo1 fo1
            have lift : ∀ (c : List Int) (N2 : z_M), zl_fr o c N1 N2 → zl_fr o c N N2 := fun c N2 g => ⟨g.1, g.2.1, fun x hx => by rw [g.2.2.1 x hx, fo1.1], by rw [g.2.2.2, fo1.2]⟩
            refine ihA 3 r' (e3 + 2) (D + 1) (i + 1) o N1 _ (by decide) ⟨by omega, by omega⟩ (by show 6 + 4 * r' ≤ e3 + 2; omega) (by omega) (by omega) o0 (by omega) st1 eo1 (fun j m c N2 e2 c2 st2 fr2 => z_y1 ?_) (fun x N2 e2 c2 b2 bs2 => z_n1 (z_viI (z_bl_of (Or.inl rfl) ?_)))
            · rw [e2] at h1 h0
              dsimp only at h1 h0
              have h3 := (zl_end hT f 3 (D + 1) (i + 1) o [] [] j m c (by omega) (by omega) ⟨fun z => by omega, fun z => by omega⟩ e2).1 (by decide)
              refine kr_take (e3 + 1) st2 (by decide) (fun e93 _ st3 => z_y1 (z_viI (z_bl_of (Or.inr rfl) ?_))) (fun ne N3 b3 => z_n1 (z_viI (z_bl_of (Or.inl rfl) ?_)))
              · rw [if_pos e93] at h1
                exact h1 _ _ _ _ rfl (zc_tr c0 (zc_tr c2 (zc_up rfl rfl))) st3 (lift c _ (zl_fr_of fr2 (z_up_ne (by decide)) (z_up_ne (by decide)) (z_up_ne (by decide))))
              · rw [if_neg ne] at h0
                have bs2 := zl_fr_bs fr2 o0 (by omega)
                exact h0 _ N3 rfl (zc_tr c0 (zc_tr c2 (zc_mv b3.1))) b3.2 ⟨by rw [b3.1.1 _ (by decide)]; exact bs2.1, by rw [b3.1.1 _ (by decide)]; exact bs2.2⟩
            · rw [e2] at h0
              exact h0 x N2 rfl (zc_tr c0 c2) b2 bs2
          · rw [if_pos cD] at h0
            exact h0 (-5000 - i) N1 rfl (zc_mv b.1) (by rw [b.2]; omega) ⟨by rw [b.1.1 _ (by decide), eo]; exact o0, by rw [b.1.1 _ (by decide), eo]; omega⟩
      · -- a test
        have hk : K = 2 := by omega
        subst hk
        rw [if_pos rfl] at h1 h0
        have hnd : 9 + 4 * r ≤ e1 + 1 := he
        obtain ⟨e3, rfl⟩ : ∃ e3, e1 = e3 + 1 := ⟨e1 - 1, by omega⟩
        obtain ⟨e4, rfl⟩ : ∃ e4, e3 = e4 + 1 := ⟨e3 - 1, by omega⟩
        -- ! or (
        have br : (q i = 33 ∨ q i = 40) → z_G 0 (e4 + 1 + 1) z_m31 24 [z_R 5, z_R 2, z_I D, z_I (q i)] [] N (fun v4 M4 => z_vi v4 fun x4 => z_bl x4 (Q (z_I x4) M4)) := by
          intro hs
          have hi : i < n := by
            by_cases z : i < n
            · exact z
            · have := hT.2.2.2 i (by omega); omega
          refine rg_31_24 (e4 + 1) ⟨fun cD => ?_, fun cD => kr_place (e4 + 1) st (z_viI (kr_fail (e4 + 1) (by decide) (by omega) (fun N1 b => z_viI (z_bl_of (Or.inl rfl) (z_viI (z_bl_of (Or.inl rfl) ?_))))))⟩
          · refine kr_skip (e4 + 1) st hi (fun st1 => ?_)
            obtain ⟨r', rfl⟩ : ∃ r', r = r' + 1 := ⟨r - 1, by omega⟩
            have c0 : zc_c N (z_up N 2 3 (i + 1)) := zc_up rfl rfl
            have eo1 : (z_up N 2 3 (i + 1)) 5 7 = o := by rw [z_up_ne (by decide)]; exact eo
            have fo1 : (z_up N 2 3 (i + 1)) 2401026 = N 2401026 ∧ (z_up N 2 3 (i + 1)) 641028 = N 641028 := ⟨z_up_ne (by decide), z_up_ne (by decide)⟩
            generalize z_up N 2 3 (i + 1) = N1 at st1 c0 eo1 fo1
            have lift : ∀ (c : List Int) (N2 : z_M), zl_fr o c N1 N2 → zl_fr o c N N2 := fun c N2 g => ⟨g.1, g.2.1, fun x hx => by rw [g.2.2.1 x hx, fo1.1], by rw [g.2.2.2, fo1.2]⟩
            rw [z_w_id (x := D + 1) (by omega) (by omega)]
            refine ⟨fun c40 => ?_, fun c40 => ?_⟩
            · have c33 : q i = 33 := by omega
              rw [if_pos c33, if_neg (by omega)] at h1 h0
              refine ihA 2 r' (e4 + 1) (D + 1) (i + 1) o N1 _ (by decide) ⟨by omega, by omega⟩ (by show 9 + 4 * r' ≤ e4 + 1; omega) (by omega) (by omega) o0 (by omega) st1 eo1 (fun j m c N2 e2 c2 st2 fr2 => z_y1 ?_) (fun x N2 e2 c2 b2 bs2 => z_n1 (z_viI (z_bl_of (Or.inl rfl) ?_)))
              · rw [e2] at h1
                dsimp only at h1
                have h3 := (zl_end hT f 2 (D + 1) (i + 1) o [] [] j m c (by omega) (by omega) ⟨fun z => by omega, fun z => by omega⟩ e2).1 (by decide)
                have hjn := st2.2.2.2.1
                refine kr_write (e4 + 1) fr2.1 (by omega) (by omega) (by decide) (by decide) (by decide) (by decide) (z_y1 (z_viI (z_bl_of (Or.inr rfl) ?_)))
                have f3 := zl_fr_w (x := 16 * 0 + 4) fr2
                exact h1 j _ _ _ rfl (zc_tr c0 (zc_tr c2 (zc_tr (zc_up rfl rfl) (zc_up rfl rfl)))) (zr_st_of st2 (by rw [z_up_ne (by decide), z_up_ne (by decide)]) (by rw [z_up_ne (by decide), z_up_ne (by decide)])) (lift _ _ f3)
              · rw [e2] at h0
                exact h0 x N2 rfl (zc_tr c0 c2) b2 bs2
            · rw [if_neg (by omega), if_pos c40, if_neg (by omega)] at h1 h0
              refine ihA 0 r' (e4 + 1) (D + 1) (i + 1) o N1 _ (by decide) ⟨by omega, by omega⟩ (by show 11 + 4 * r' ≤ e4 + 1; omega) (by omega) (by omega) o0 (by omega) st1 eo1 (fun j m c N2 e2 c2 st2 fr2 => z_y1 ?_) (fun x N2 e2 c2 b2 bs2 => z_n1 (rg_31_75 (e4 + 1) (rg_31_76 (e4 + 1) (z_bl_of (Or.inl rfl) (z_viI (z_bl_of (Or.inl rfl) ?_))))))
              · rw [e2] at h1 h0
                dsimp only at h1 h0
                have h3 := (zl_end hT f 0 (D + 1) (i + 1) o [] [] j m c (by omega) (by omega) ⟨fun z => by omega, fun z => by omega⟩ e2).1 (by decide)
                refine kr_take e4 st2 (by decide) (fun e41 _ st3 => z_y1 (rg_31_76 (e4 + 1) (z_bl_of (Or.inr rfl) (z_viI (z_bl_of (Or.inr rfl) ?_))))) (fun ne N3 b3 => z_n1 (rg_31_75 (e4 + 1) (rg_31_76 (e4 + 1) (z_bl_of (Or.inl rfl) (z_viI (z_bl_of (Or.inl rfl) ?_))))))
                · rw [if_pos e41] at h1
                  exact h1 _ _ _ _ rfl (zc_tr c0 (zc_tr c2 (zc_up rfl rfl))) st3 (lift c _ (zl_fr_of fr2 (z_up_ne (by decide)) (z_up_ne (by decide)) (z_up_ne (by decide))))
                · rw [if_neg ne] at h0
                  have bs2 := zl_fr_bs fr2 o0 (by omega)
                  exact h0 _ N3 rfl (zc_tr c0 (zc_tr c2 (zc_mv b3.1))) b3.2 ⟨by rw [b3.1.1 _ (by decide)]; exact bs2.1, by rw [b3.1.1 _ (by decide)]; exact bs2.2⟩
              · rw [e2] at h0
                exact h0 x N2 rfl (zc_tr c0 c2) b2 bs2
          · have hb : Q (z_I 0) N1 := by
              have b2 : N1 2 4 = -5000 - i := by rw [b.2]; omega
              have bs : zl_bs N1 := ⟨by rw [b.1.1 _ (by decide), eo]; exact o0, by rw [b.1.1 _ (by decide), eo]; omega⟩
              by_cases c33 : q i = 33
              · rw [if_pos c33, if_pos cD] at h0
                exact h0 _ N1 rfl (zc_mv b.1) b2 bs
              · rw [if_neg c33, if_pos (by omega), if_pos cD] at h0
                exact h0 _ N1 rfl (zc_mv b.1) b2 bs
            exact hb
        refine re_31 (e4 + 1) (kr_next (e4 + 1) st (z_viI ⟨fun c => br (Or.inl c), fun c33 => ⟨fun c => br (Or.inr c), fun c40 => ?_⟩⟩))
        -- a comparison
        rw [if_neg c33, if_neg c40] at h1 h0
        refine re_32 e4 (ihA 3 r e4 D i o N _ (by decide) hD (by show 6 + 4 * r ≤ e4; omega) (by omega) i0 o0 oi st eo (fun j m c N1 e2 c1 st1 fr1 => z_y2 (kr_next e4 st1 (z_viI (kr_cmp e4 (z_viI ⟨fun nc => ?_, fun nc => ?_⟩))))) (fun x N1 e2 c1 b1 bs1 => z_n2 (z_viI (z_bl_of (Or.inl rfl) (z_viI (z_bl_of (Or.inl rfl) ?_))))))
        · rw [e2] at h1 h0
          dsimp only at h1 h0
          rw [if_neg nc] at h1 h0
          have h3 := (zl_end hT f 3 D i o [] [] j m c i0 hpn ⟨fun z => by omega, fun z => by omega⟩ e2).1 (by decide)
          have hj : j < n := by
            by_cases z : j < n
            · exact z
            · exact absurd (by rw [hT.2.2.2 j (by omega)]; rfl) nc
          refine kr_skip e4 st1 hj (fun st2 => ?_)
          have eo2 : (z_up N1 2 3 (j + 1)) 5 7 = o + (c.length : Int) := by rw [z_up_ne (by decide)]; exact fr1.1
          have c02 : zc_c N (z_up N1 2 3 (j + 1)) := zc_tr c1 (zc_up rfl rfl)
          have fr2 : zl_fr o c N (z_up N1 2 3 (j + 1)) := zl_fr_of fr1 (z_up_ne (by decide)) (z_up_ne (by decide)) (z_up_ne (by decide))
          generalize z_up N1 2 3 (j + 1) = N2 at st2 eo2 c02 fr2
          refine ihA 3 r e4 D (j + 1) (o + (c.length : Int)) N2 _ (by decide) hD (by show 6 + 4 * r ≤ e4; omega) (by omega) (by omega) (by omega) (by omega) st2 eo2 (fun j2 m2 c2 N3 e3 c3 st3 fr3 => z_y1 ?_) (fun x N3 e3 c3 b3 bs3 => z_n1 (z_viI (z_bl_of (Or.inl rfl) (z_viI (z_bl_of (Or.inl rfl) ?_)))))
          · rw [e3] at h1
            dsimp only at h1
            have h4 := (zl_end hT f 3 D (j + 1) (o + (c.length : Int)) [] [] j2 m2 c2 (by omega) (by omega) ⟨fun z => by omega, fun z => by omega⟩ e3).1 (by decide)
            have cb := zl_cm_b (q j)
            refine kr_write e4 fr3.1 (by omega) (by omega) (by omega) (by omega) (by decide) (by decide) (z_y1 (z_viI (z_bl_of (Or.inr rfl) (z_viI (z_bl_of (Or.inr rfl) ?_)))))
            have f5 := zl_fr_w (x := 16 * 0 + zl_cm (q j)) fr3
            rw [show 16 * 0 + zl_cm (q j) = zl_cm (q j) from by omega] at f5 ⊢
            exact h1 j2 _ _ _ rfl (zc_tr c02 (zc_tr c3 (zc_tr (zc_up rfl rfl) (zc_up rfl rfl)))) (zr_st_of st3 (by rw [z_up_ne (by decide), z_up_ne (by decide)]) (by rw [z_up_ne (by decide), z_up_ne (by decide)])) (zl_fr_tr fr2 f5)
          · rw [e3] at h0
            exact h0 x N3 rfl (zc_tr c02 c3) b3 bs3
        · rw [e2] at h0
          dsimp only at h0
          rw [if_pos nc] at h0
          have h3 := (zl_end hT f 3 D i o [] [] j m c i0 hpn ⟨fun z => by omega, fun z => by omega⟩ e2).1 (by decide)
          have bs1 := zl_fr_bs fr1 o0 (by omega)
          obtain ⟨e5, rfl⟩ : ∃ e5, e4 = e5 + 1 := ⟨e4 - 1, by omega⟩
          exact kr_wrong e5 st1 (fun N2 b => z_viI (z_bl_of (Or.inl rfl) (z_viI (z_bl_of (Or.inl rfl) (z_viI (z_bl_of (Or.inl rfl) (h0 _ N2 rfl (zc_tr c1 (zc_mv b.1)) b.2 ⟨by rw [b.1.1 _ (by decide)]; exact bs1.1, by rw [b.1.1 _ (by decide)]; exact bs1.2⟩)))))))
        · rw [e2] at h0
          exact h0 x N1 rfl c1 b1 bs1
    · -- what joins on
      have hpn := st.2.2.2.1
      have hT := st.1
      obtain ⟨e1, rfl⟩ : ∃ e1, e = e1 + 1 := ⟨e - 1, by have := zl_nd4 L; omega⟩
      have hnd : zl_nd (L + 1) + 4 * r ≤ e1 := by
        rcases hL with rfl | rfl | rfl | rfl
        · have g1 : zl_nd 0 = 11 := rfl
          have g2 : zl_nd (0 + 1) = 10 := rfl
          omega
        · have g1 : zl_nd 1 = 10 := rfl
          have g2 : zl_nd (1 + 1) = 9 := rfl
          omega
        · have g1 : zl_nd 3 = 6 := rfl
          have g2 : zl_nd (3 + 1) = 5 := rfl
          omega
        · have g1 : zl_nd 4 = 5 := rfl
          have g2 : zl_nd (4 + 1) = 4 := rfl
          omega
      unfold zl at h1 h0
      rw [if_neg (by omega), if_neg (by omega), if_neg (by omega), show L + 6 - 6 = L from by omega] at h1 h0
      have jb := zl_jt_b L (q i)
      refine rg_29_38 e1 ⟨fun c => ?_, fun c => ⟨fun z => absurd z (by decide), fun _ => kr_next e1 st (z_viI (kr_joint e1 (z_viI ⟨fun nj => ?_, fun nj => ?_⟩)))⟩⟩
      · have qe : q i = -1 := hT.2.2.2 i (by omega)
        have je : zl_jt L (q i) = -1 := by rw [qe]; rfl
        rw [if_pos je] at h1
        exact z_bl_of (Or.inr rfl) (h1 i mc co N rfl cc st fr)
      · rw [if_neg nj] at h1 h0
        have hi : i < n := by
          by_cases z : i < n
          · exact z
          · exact absurd (by rw [hT.2.2.2 i (by omega)]; rfl) nj
        refine kr_skip e1 st hi (fun st1 => ?_)
        have em : (z_up N 2 3 (i + 1)) 5 7 = o + (co.length : Int) := by rw [z_up_ne (by decide)]; exact fr.1
        have c01 : zc_c N0 (z_up N 2 3 (i + 1)) := zc_tr cc (zc_up rfl rfl)
        have fr1 : zl_fr o co N0 (z_up N 2 3 (i + 1)) := zl_fr_of fr (z_up_ne (by decide)) (z_up_ne (by decide)) (z_up_ne (by decide))
        rw [em]
        generalize z_up N 2 3 (i + 1) = N1 at st1 em c01 fr1
        generalize hjt : zl_jt L (q i) = x at *
        -- a leap
        have leap : (x = 3 ∨ x = 2) → z_G 0 (e1 + 1) z_m29 91 [z_R 5, z_R 2, z_I (L : Int), z_I D, z_I 1, z_I l5, z_I x, z_I (o + (co.length : Int))] [] N1 Q := by
          intro hx
          rw [if_pos (by omega)] at h1 h0
          refine rg_29_91 e1 (kr_write e1 em (by omega) (by omega) (by omega) (by omega) (by decide) (by decide) (z_viI ?_))
          have fr2 := zl_fr_w (x := 16 * 0 + x) fr1
          have c02 : zc_c N0 (z_up (z_up N1 2401026 (o + (co.length : Int)) (16 * 0 + x)) 5 7 (o + (co.length : Int) + 1)) := zc_tr c01 (zc_tr (zc_up rfl rfl) (zc_up rfl rfl))
          have st2 : zr_st q n (i + 1) (z_up (z_up N1 2401026 (o + (co.length : Int)) (16 * 0 + x)) 5 7 (o + (co.length : Int) + 1)) := zr_st_of st1 (by rw [z_up_ne (by decide), z_up_ne (by decide)]) (by rw [z_up_ne (by decide), z_up_ne (by decide)])
          have eo2 : (z_up (z_up N1 2401026 (o + (co.length : Int)) (16 * 0 + x)) 5 7 (o + (co.length : Int) + 1)) 5 7 = o + (co.length : Int) + 1 := z_up_eq
          generalize z_up (z_up N1 2401026 (o + (co.length : Int)) (16 * 0 + x)) 5 7 (o + (co.length : Int) + 1) = N2 at fr2 c02 st2 eo2
          refine rg_29_99 e1 ?_
          rw [z_w_id (x := (L : Int) + 1) (by omega) (by omega)]
          have g122 : ∀ (l4 : Int) (N3 : z_M), z_G 0 (e1 + 1) z_m29 122 [z_R 5, z_R 2, z_I (L : Int), z_I D, z_I l4, z_I l5, z_I x, z_I (o + (co.length : Int))] [] N3 Q → ((x = 3 → z_G 0 (e1 + 1) z_m29 122 [z_R 5, z_R 2, z_I (L : Int), z_I D, z_I l4, z_I l5, z_I x, z_I (o + (co.length : Int))] [] N3 Q) ∧ (¬ x = 3 → ((¬ x = 2 → z_Cl 0 e1 36 [z_R 5, z_I x, z_I 0] N3 (fun v2 M2 => z_vi v2 fun x2 => z_G 0 (e1 + 1) z_m29 38 [z_R 5, z_R 2, z_I (L : Int), z_I D, z_I l4, z_I (z_w (l5 + 1)), z_U, z_U] [] M2 Q)) ∧ (x = 2 → z_G 0 (e1 + 1) z_m29 122 [z_R 5, z_R 2, z_I (L : Int), z_I D, z_I l4, z_I l5, z_I x, z_I (o + (co.length : Int))] [] N3 Q)))) := fun l4 N3 h => ⟨fun _ => h, fun a => ⟨fun b => absurd hx (by omega), fun _ => h⟩⟩
          refine ihA (L + 1) r e1 D (i + 1) (o + (co.length : Int) + 1) N2 _ (by omega) hD hnd (by omega) (by omega) (by omega) (by omega) st2 eo2 (fun j m c N3 e3 c3 st3 fr3 => z_viI (g122 1 N3 (rg_29_122 e1 ⟨by omega, by omega, ?_⟩))) (fun y N3 e3 c3 b3 bs3 => z_viI (g122 0 N3 (rg_29_122 e1 ⟨by omega, by omega, ?_⟩)))
          · rw [e3] at h1 h0
            dsimp only at h1 h0
            have h3 := (zl_end hT f (L + 1) D (i + 1) _ [] [] j m c (by omega) (by omega) ⟨fun z => by omega, fun z => by omega⟩ e3).1 (by omega)
            have es : N3 5 7 = o + (co.length : Int) + 1 + (c.length : Int) := fr3.1
            rw [es, z_ord (by omega) (by omega) (by omega) (by omega), z_w_id (x := l5 + 1) (by omega) (by omega)]
            refine ihB L r (e1 + 1) D j o (l5 + 1) _ _ N0 _ Q hL hD he (by omega) (by omega) o0 ?_ (by omega) (by omega) (zr_st_of st3 (z_up_ne (by decide)) (z_up_ne (by decide))) (zc_tr c02 (zc_tr c3 (zc_up rfl rfl))) (zl_fr_lp fr2 fr3) h1 h0
            simp only [List.length_append, List.length_cons]
            omega
          · rw [e3] at h0
            have hq := h0 y (z_up N3 2401026 (o + (co.length : Int)) (z_or (z_shl (N3 5 7) 4) x)) rfl (zc_tr c02 (zc_tr c3 (zc_up rfl rfl))) (by rw [z_up_ne (by decide)]; exact b3) ⟨by rw [z_up_ne (by decide)]; exact bs3.1, by rw [z_up_ne (by decide)]; exact bs3.2⟩
            exact rg_29_38 e1 ⟨fun _ => z_bl_of (Or.inl rfl) hq, fun _ => ⟨fun _ => z_bl_of (Or.inl rfl) hq, fun z => absurd rfl z⟩⟩
        refine ⟨fun c3 => leap (Or.inl c3), fun c3 => ⟨fun c2 => ?_, fun c2 => leap (Or.inr c2)⟩⟩
        rw [if_neg (by omega)] at h1 h0
        refine rg_29_99 e1 ?_
        rw [z_w_id (x := (L : Int) + 1) (by omega) (by omega)]
        refine ihA (L + 1) r e1 D (i + 1) (o + (co.length : Int)) N1 _ (by omega) hD hnd (by omega) (by omega) (by omega) (by omega) st1 em (fun j m c N3 e3 cc3 st3 fr3 => z_viI ⟨fun z => absurd z c3, fun _ => ⟨fun _ => ?_, fun z => absurd z c2⟩⟩) (fun y N3 e3 cc3 b3 bs3 => z_viI ⟨fun z => absurd z c3, fun _ => ⟨fun _ => kr_writeB e1 bs3 (fun N4 c4 e4 bs4 => z_viI ?_), fun z => absurd z c2⟩⟩)
        · rw [e3] at h1 h0
          dsimp only at h1 h0
          have h3 := (zl_end hT f (L + 1) D (i + 1) _ [] [] j m c (by omega) (by omega) ⟨fun z => by omega, fun z => by omega⟩ e3).1 (by omega)
          refine kr_write e1 fr3.1 (by omega) (by omega) (by omega) (by omega) (by decide) (by decide) (z_viI ?_)
          have f5 := zl_fr_w (x := 16 * 0 + x) fr3
          rw [show 16 * 0 + x = x from by omega] at f5 ⊢
          rw [z_w_id (x := l5 + 1) (by omega) (by omega)]
          refine ihB L r (e1 + 1) D j o (l5 + 1) _ _ N0 _ Q hL hD he (by omega) (by omega) o0 ?_ (by omega) (by omega) (zr_st_of st3 (by rw [z_up_ne (by decide), z_up_ne (by decide)]) (by rw [z_up_ne (by decide), z_up_ne (by decide)])) (zc_tr c01 (zc_tr cc3 (zc_tr (zc_up rfl rfl) (zc_up rfl rfl)))) (zl_fr_tr fr1 f5) h1 h0
          simp only [List.length_append, List.length_cons, List.length_nil]
          omega
        · rw [e3] at h0
          have hq := h0 y N4 rfl (zc_tr c01 (zc_tr cc3 c4)) (by rw [e4]; exact b3) bs4
          exact rg_29_38 e1 ⟨fun _ => z_bl_of (Or.inl rfl) hq, fun _ => ⟨fun _ => z_bl_of (Or.inl rfl) hq, fun z => absurd rfl z⟩⟩
      · rw [if_pos nj] at h1
        exact h1 i mc co N rfl cc st fr
end ZLD
