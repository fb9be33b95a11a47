/-! PLAN: its text, the model's steps -/
section ZPM
variable {S M N : z_M} {Q : z_V → z_M → Prop} {q : Int → Int} {n i : Int}
/-- the model's fresh steps -/
def zs_ms (D : Int) (F : Int → Int) (m : Int) (N : z_M) : Prop := N 13 17 = m ∧ N 13 21 = D ∧ ∀ j : Int, 0 ≤ j → j < m → N 951072 j = F j
/-- what lies open below stays -/
def zs_fm (D : Int) (N N' : z_M) : Prop := zc_c N N' ∧ ∀ x : Int, 0 ≤ x → x < D → N' 31073 x = N 31073 x ∧ N' 31074 x = N 31074 x ∧ N' 31075 x = N 31075 x
theorem zs_fm_tr {D : Int} {A B C : z_M} (h : zs_fm D A B) (g : zs_fm D B C) : zs_fm D A C := ⟨zc_tr h.1 g.1, fun x a b => ⟨(g.2 x a b).1.trans (h.2 x a b).1, (g.2 x a b).2.1.trans (h.2 x a b).2.1, (g.2 x a b).2.2.trans (h.2 x a b).2.2⟩⟩
theorem zs_fm_of {D : Int} (h : zc_c M N) (h1 : N 31073 = M 31073) (h2 : N 31074 = M 31074) (h3 : N 31075 = M 31075) : zs_fm D M N := ⟨h, fun x _ _ => by rw [h1, h2, h3]; exact ⟨rfl, rfl, rfl⟩⟩
theorem zs_fm_mv {D : Int} (h : zm_mv M N) : zs_fm D M N := zs_fm_of (zc_mm h) (h.1 _ (by decide)) (h.1 _ (by decide)) (h.1 _ (by decide))
theorem zs_ms_mv {D m : Int} {F : Int → Int} (h : zm_mv M N) (g : zs_ms D F m M) : zs_ms D F m N := ⟨by rw [h.2 _ (by decide) (by decide)]; exact g.1, by rw [h.2 _ (by decide) (by decide)]; exact g.2.1, fun j a b => by rw [h.1 _ (by decide)]; exact g.2.2 j a b⟩
abbrev zs_raw (n : Int) (N : z_M) : Prop := ∀ i : Int, 0 ≤ i → i < n → -128 ≤ N 2603064 i ∧ N 2603064 i ≤ 127
theorem kn_times (d : Nat) (hr : zs_raw n N) (h : zm_st q n i 0 N) (hi : i ≤ 260) (hQ : ∀ N' : z_M, zm_mv N N' → zm_st q n (zs_j q i) 0 N' → Q (z_I (zs_t q i)) N') : z_Cl 0 (d + 1) 246 [z_R 13] N Q := by
  have hp := h.2.2.1
  have e2 : N 13 2 = i := h.2.2.2.2.2.1
  have hb := zr_T_b h.1 hp
  unfold zs_t zs_j at hQ
  refine re_246 d (kn_here d h (z_viI (km_lies d (fun a b => z_y2 ?_) (fun a => z_n2 ?_))))
  · have hh : 50 ≤ q i ∧ q i ≤ 57 := by unfold zm_h at a b; split at a <;> omega
    have hn : i < n := by
      by_cases c : i < n
      · exact c
      · have := h.1.2.2.2 i (by omega); omega
    rw [if_pos hh, if_pos hh] at hQ
    have ea : (z_up N 13 2 (i + 1)) 13 2 = i + 1 := z_up_eq
    have ez : z_and (N 2603064 i) 255 = q i := h.2.1 i hp hn
    rw [z_and255] at ez
    have hr2 := hr i hp hn
    have er : N 2603064 i = q i := by omega
    rw [e2, z_w_id (x := i + 1) (by omega) (by omega), ea, z_w_id (x := i + 1 - 1) (by omega) (by omega), show i + 1 - 1 = i from by omega, z_up_ne (by decide), er, z_w_id (x := q i - 48) (by omega) (by omega)]
    have := h.1.2.1
    exact ⟨hp, by omega, hQ _ (zm_mv_up (Or.inl rfl)) (zm_st_pl h (by omega) (by omega))⟩
  · have hh : ¬ (50 ≤ q i ∧ q i ≤ 57) := by unfold zm_h at a; split at a <;> omega
    rw [if_neg hh, if_neg hh] at hQ
    exact hQ N zm_mv_rf h
theorem kn_isStep (d : Nat) {c : Int} (h1 : zs_c c → Q (z_I 1) N) (h0 : ¬ zs_c c → Q (z_I 0) N) : z_Cl 0 d 247 [z_I c] N Q := by
  unfold zs_c at h1 h0
  exact re_247 d ⟨fun _ => h1 (by omega), fun _ => ⟨fun _ => h1 (by omega), fun _ => ⟨fun _ => h1 (by omega), fun _ => ⟨fun _ => h1 (by omega), fun _ => ⟨fun _ => h0 (by omega), fun _ => h1 (by omega)⟩⟩⟩⟩⟩
/-- only the fresh steps and their count are written -/
def zs_wr (N N' : z_M) : Prop := (∀ k, k ≠ 13 → k ≠ 951072 → N' k = N k) ∧ ∀ j, j ≠ 17 → N' 13 j = N 13 j
theorem zs_wr_cc (h : zs_wr M N) : zc_c M N := by
  refine ⟨fun k j hk => ?_, fun k hk => h.1 k (fun e => by rw [e] at hk; cases hk) (fun e => by rw [e] at hk; cases hk)⟩
  by_cases e : k = 13
  · subst e
    exact h.2 j (fun c => by rw [c] at hk; cases hk)
  · exact congrFun (h.1 k e (fun c => by rw [c] at hk; cases hk)) j
theorem kn_repeats (d : Nat) {F : Int → Int} {b m t wh D : Int} (b0 : 0 ≤ b) (bm : b ≤ m) (m95 : m ≤ 95) (t1 : 1 ≤ t) (t9 : t ≤ 9) (w0 : 0 ≤ wh) (w1 : wh ≤ 260) (h : zm_st q n i 0 N) (hf : zs_ms D F m N)
    (h1 : b + t * (m - b) ≤ 95 → ∀ N' : z_M, zs_wr N N' → zm_st q n i 0 N' → zs_ms D (zs_f F b (m - b)) (b + t * (m - b)) N' → Q z_U N')
    (h0 : ¬ b + t * (m - b) ≤ 95 → ∀ N' : z_M, zm_mv N N' → zm_st q n i (-6000 - wh) N' → Q z_U N') : z_Cl 0 (d + 1) 245 [z_R 13, z_I b, z_I t, z_I wh] N Q := by
  have em : N 13 17 = m := hf.1
  have hw : 0 ≤ m - b ∧ m - b ≤ 95 := by omega
  have ht : 0 ≤ t * (m - b) ∧ t * (m - b) ≤ 900 := ⟨Int.mul_nonneg (by omega) hw.1, by
    have := Int.mul_le_mul t9 hw.2 hw.1 (by decide : (0 : Int) ≤ 9)
    omega⟩
  refine re_245 d ?_
  rw [em, z_w_id (x := m - b) (by omega) (by omega), Int.mul_comm (m - b) t, z_w_id (x := t * (m - b)) (by omega) (by omega), z_w_id (x := b + t * (m - b)) (by omega) (by omega)]
  refine ⟨fun c => kn_good1 d h (z_y2 ?_), fun c => kn_wrongs d h (by decide) (by omega) (fun N1 m1 s1 => kn_good0 d ?_ s1 (z_n2 ?_))⟩
  · have hh := h1 c
    have hmm : 1 * (m - b) ≤ t * (m - b) := Int.mul_le_mul_of_nonneg_right t1 hw.1
    generalize hwd : m - b = w at *
    generalize htw : t * w = tw at *
    have key : ∀ (r : Nat) (x : Int) (N' : z_M), x + (r : Int) = tw → w ≤ x → zs_wr N N' → N' 13 = N 13 → (∀ j : Int, 0 ≤ j → j < b + x → N' 951072 j = zs_f F b w j) → z_G 0 (d + 1) z_m245 38 [z_R 13, z_I b, z_I t, z_I wh, z_I w, z_I x] [] N' Q := by
      intro r
      induction r with
      | zero =>
        intro x N' hx wx wr e13 fr
        refine rg_245_38 d ?_
        rw [Int.mul_comm w t, htw, z_w_id (x := tw) (by omega) (by omega), z_w_id (x := b + tw) (by omega) (by omega)]
        refine ⟨fun _ => hh _ ⟨fun k a b => by rw [z_up_ne a]; exact wr.1 k a b, fun j hj => by rw [z_up_nj hj]; exact wr.2 j hj⟩ ?_ ⟨z_up_eq, ?_, fun j a b' => ?_⟩, fun c2 => absurd c2 (by omega)⟩
        · exact zm_st_of h ⟨by rw [z_up_nj (by decide), e13], by rw [z_up_nj (by decide), e13], by rw [z_up_nj (by decide), e13]⟩ (by rw [z_up_ne (by decide)]; exact wr.1 _ (by decide) (by decide))
        · rw [z_up_nj (by decide), e13]; exact hf.2.1
        · rw [z_up_ne (by decide)]; exact fr j a (by omega)
      | succ r ih =>
        intro x N' hx wx wr e13 fr
        refine rg_245_38 d ?_
        rw [Int.mul_comm w t, htw, z_w_id (x := tw) (by omega) (by omega)]
        refine ⟨fun c2 => absurd c2 (by omega), fun _ => ?_⟩
        have wpos : w ≠ 0 := by
          intro z
          rw [z, Int.mul_zero] at htw
          omega
        have hmod : 0 ≤ x % w ∧ x % w < w := ⟨Int.emod_nonneg _ wpos, Int.emod_lt_of_pos _ (by omega)⟩
        refine z_nz_of wpos ?_
        rw [z_tm (by omega), z_w_id (x := b + x % w) (by omega) (by omega), z_w_id (x := b + x) (by omega) (by omega), z_w_id (x := x + 1) (by omega) (by omega)]
        refine ⟨by omega, by omega, by omega, by omega, ih (x + 1) _ (by omega) (by omega) ⟨fun k a b => by rw [z_up_ne b]; exact wr.1 k a b, fun j hj => by rw [z_up_ne (by decide)]; exact wr.2 j hj⟩ (by rw [z_up_ne (by decide)]; exact e13) (fun j j0 j1 => ?_)⟩
        by_cases cj : j = b + x
        · rw [cj, z_up_eq, fr _ (by omega) (by omega)]
          unfold zs_f
          rw [if_neg (by omega), if_neg (by omega), show b + x % w - b = x % w from by omega, show b + x - b = x from by omega, Int.emod_emod_of_dvd _ (Int.dvd_refl w)]
        · rw [z_up_nj cj]; exact fr j j0 (by omega)
    refine key (tw - w).toNat w N (by omega) (by omega) ⟨fun _ _ _ => rfl, fun _ _ => rfl⟩ rfl (fun j j0 j1 => ?_)
    rw [hf.2.2 j j0 (by omega)]
    unfold zs_f
    by_cases c2 : j < b
    · rw [if_pos c2]
    · rw [if_neg c2, Int.emod_eq_of_lt (by omega) (by omega), show b + (j - b) = j from by omega]
  · rw [zm_f0]; omega
  · rw [zm_f0, show -1000 * 6 - wh = -6000 - wh from by omega] at s1
    exact h0 (by omega) N1 m1 s1
end ZPM
section ZPN
variable {S M : z_M} {Q : z_V → z_M → Prop} {q : Int → Int} {n : Int} {l1 l2 l3 l4 l5 : Int}
/-- a fault is there: the loop ends with it -/
theorem kn_bail (d : Nat) {x j : Int} {N : z_M} (hx : x < 0) (h : zm_st q n j x N) (hQ : Q (z_I x) N) : z_G 0 (d + 1) z_m249 130 [z_R 13, z_I l1, z_I l2, z_I l3, z_I l4, z_I l5, z_U, z_U] [] N Q := by
  have e4 : N 13 4 = x := h.2.2.2.2.2.2
  refine rg_249_130 d (kn_good0 d (by omega) h (z_n1 (rg_249_155 d (kn_good0 d (by omega) h (z_n1 (rg_249_178 d ⟨fun c => absurd c (by omega), fun _ => ?_⟩))))))
  rw [e4]; exact hQ
/-- the model does steps, as the class does -/
theorem kn_steps (d : Nat) (hn90 : n ≤ 90) (hT : zr_T q n) : ∀ (f : Nat), (∀ (D i : Int) (F : Int → Int) (m : Int) (N : z_M), 0 ≤ D → D ≤ 2 → 2 * (n - i) + 1 < (f : Int) → 2 ≤ i → i ≤ n → (i < n ∨ 0 < D) → 0 ≤ m → m ≤ 95 → zs_raw n N → zm_st q n i 0 N → zs_ms D F m N → (q i ≠ 41 ∨ D = 0 ∨ N 13 22 = 0) →
      (∀ (F2 : Int → Int) (m2 j : Int) (N' : z_M), zs q f false D i F m = .inr (F2, m2, j) → zs_fm D N N' → zm_st q n j 0 N' → zs_ms D F2 m2 N' → N' 13 22 = 1 → z_G 0 (d + 3) z_m249 130 [z_R 13, z_I l1, z_I l2, z_I l3, z_I l4, z_I l5, z_U, z_U] [] N' Q) →
      (∀ (x j : Int) (N' : z_M), zs q f false D i F m = .inl x → x < 0 → zc_c N N' → zm_st q n j x N' → Q (z_I x) N') → z_G 0 (d + 3) z_m249 130 [z_R 13, z_I l1, z_I l2, z_I l3, z_I l4, z_I l5, z_U, z_U] [] N Q) ∧
    (∀ (D i : Int) (F : Int → Int) (m : Int) (N : z_M), 0 ≤ D → D ≤ 2 → 2 * (n - i) + 2 < (f : Int) → 2 ≤ i → i ≤ n → (i < n ∨ 0 < D) → 0 ≤ m → m ≤ 95 → zs_raw n N → zm_st q n i 0 N → zs_ms D F m N → (q i ≠ 41 ∨ D = 0 ∨ N 13 22 = 0) →
      (∀ (F2 : Int → Int) (m2 j : Int) (N' : z_M), zs q f true D i F m = .inr (F2, m2, j) → zs_fm D N N' → zm_st q n j 0 N' → zs_ms D F2 m2 N' → N' 13 22 = 1 → z_G 0 (d + 3) z_m249 130 [z_R 13, z_I l1, z_I l2, z_I l3, z_I l4, z_I l5, z_U, z_U] [] N' Q) →
      (∀ (x j : Int) (N' : z_M), zs q f true D i F m = .inl x → x < 0 → zc_c N N' → zm_st q n j x N' → Q (z_I x) N') → z_G 0 (d + 3) z_m249 130 [z_R 13, z_I l1, z_I l2, z_I l3, z_I l4, z_I l5, z_U, z_U] [] N Q) := by
  intro f
  induction f with
  | zero => exact ⟨fun D i F m N _ _ h _ hi => absurd h (by omega), fun D i F m N _ _ h _ hi => absurd h (by omega)⟩
  | succ f ih =>
    obtain ⟨ih1, ih2⟩ := ih
    refine ⟨fun D i F m N D0 D2 hf i2 hin hor m0 m95 hr st ms h41 hok hbad => ?_, fun D i F m N D0 D2 hf i2 hin hor m0 m95 hr st ms h41 hok hbad => ?_⟩
    · have e2 : N 13 2 = i := st.2.2.2.2.2.1
      have e3 : N 13 3 = n := st.2.2.2.2.1
      unfold zs at hok hbad
      have htt : 1 ≤ zs_t q i ∧ zs_t q i ≤ 9 := by unfold zs_t; split <;> omega
      have hjj : i ≤ zs_j q i ∧ zs_j q i ≤ i + 1 := by unfold zs_j; split <;> omega
      -- the text ends inside brackets
      have atend : ∀ (x j : Int) (N' : z_M), x = -1000 - j → 0 ≤ j → zm_st q n j 0 N' → n ≤ j → 0 < N' 13 21 → (∀ (j' : Int) (N2 : z_M), zm_mv N' N2 → zm_st q n j' x N2 → Q (z_I x) N2) → z_G 0 (d + 3) z_m249 130 [z_R 13, z_I l1, z_I l2, z_I l3, z_I l4, z_I l5, z_U, z_U] [] N' Q := by
        intro x j N' ex j0 st' hj ho hQ
        have f2 : N' 13 2 = j := st'.2.2.2.2.2.1
        have f3 : N' 13 3 = n := st'.2.2.2.2.1
        have ho2 : 0 < N' 13 21 := ho
        refine rg_249_130 (d + 2) (kn_good1 (d + 2) st' (z_y1 ⟨fun _ => rg_249_155 (d + 2) (kn_good1 (d + 2) st' (z_y1 ⟨fun c => absurd c (by omega), fun _ => ?_⟩)), fun c => absurd c (by omega)⟩))
        rw [f2]
        refine kn_wrongs (d + 2) st' (by decide) (by have := st'.2.2.2.1; omega) (fun N2 m2 s2 => ?_)
        rw [zm_f0, show -1000 * 1 - j = x from by omega] at s2
        have f4 : N2 13 4 = x := s2.2.2.2.2.2.2
        refine rg_249_178 (d + 2) ⟨fun c => absurd c (by omega), fun _ => ?_⟩
        rw [f4]
        exact hQ j N2 m2 s2
      by_cases hi : i < n
      · -- a sign is there
        refine rg_249_130 (d + 2) (kn_good1 (d + 2) st (z_y1 ⟨fun c => absurd c (by omega), fun _ => ?_⟩))
        have more : ∀ (N1 : z_M), zm_mv N N1 → zm_st q n (zs_j q i) 0 N1 → (¬ q (zs_j q i) = 40 → z_Cl 0 (d + 1) 229 [z_R 13] N1 (fun v3 M3 => z_vi v3 fun x3 => z_Cl 0 (d + 1) 247 [z_I x3] M3 (fun v4 M4 => z_vi v4 fun x4 => ((¬ x4 = 0 → (((z_w ((M4 13 17) + (zs_t q i))) ≤ 95 → z_G 0 (d + 2) z_m248 218 [z_R 13, z_I i, z_I (zs_t q i), z_U] [] M4 (fun _ M2 => z_G 0 (d + 3) z_m249 130 [z_R 13, z_I l1, z_I l2, z_I l3, z_I l4, z_I l5, z_U, z_U] [] M2 Q)) ∧ (95 < (z_w ((M4 13 17) + (zs_t q i))) → z_Cl 0 (d + 1) 230 [z_R 13, z_I 6, z_I i] M4 (fun _ M5 => z_G 0 (d + 2) z_m248 218 [z_R 13, z_I i, z_I (zs_t q i), z_U] [] M5 (fun _ M2 => z_G 0 (d + 3) z_m249 130 [z_R 13, z_I l1, z_I l2, z_I l3, z_I l4, z_I l5, z_U, z_U] [] M2 Q))))) ∧ (x4 = 0 → z_Cl 0 (d + 1) 230 [z_R 13, z_I 1, z_I (M4 13 2)] M4 (fun _ M7 => z_G 0 (d + 2) z_m248 218 [z_R 13, z_I i, z_I (zs_t q i), z_U] [] M7 (fun _ M2 => z_G 0 (d + 3) z_m249 130 [z_R 13, z_I l1, z_I l2, z_I l3, z_I l4, z_I l5, z_U, z_U] [] M2 Q))))))) := by
          intro N1 m1 s1 c40
          have ms1 := zs_ms_mv m1 ms
          rw [if_neg c40] at hok hbad
          generalize zs_j q i = j at *
          generalize zs_t q i = t at *
          have f2 : N1 13 2 = j := s1.2.2.2.2.2.1
          have fm : N1 13 17 = m := ms1.1
          have hjb := s1.2.2.2.1
          refine kn_here (d + 1) s1 (z_viI (kn_isStep (d + 1) (fun cs => z_y2 ?_) (fun cs => z_n2 ?_)))
          · have eh : zm_h q j = q j ∧ zs_c (q j) := by
              unfold zm_h at cs ⊢
              unfold zs_c at cs ⊢
              split at cs
              · omega
              · rename_i z; rw [if_neg z]; exact ⟨rfl, cs⟩
            have cs := eh.2
            rw [if_pos cs] at hok hbad
            have hjn : j < n := by
              by_cases z : j < n
              · exact z
              · have := hT.2.2.2 j (by omega); unfold zs_c at cs; omega
            unfold zs_rp at hok hbad
            have e1 : m + t * (m + 1 - m) = m + t := by rw [show m + 1 - m = 1 from by omega, Int.mul_one]
            rw [e1] at hok hbad
            rw [fm, z_w_id (x := m + t) (by omega) (by omega)]
            refine ⟨fun c => ?_, fun c => kn_wrongs (d + 1) s1 (by decide) (by omega) (fun N2 m2 s2 => ?_)⟩
            · rw [if_pos c] at hok
              -- written so often
              refine rg_248_218 (d + 1) (kn_good1 (d + 1) s1 (z_y2 ?_))
              have tn : ((t.toNat : Nat) : Int) = t := by omega
              refine z_lpi (n := t.toNat) (fun _ => ()) (fun x N2 => (∀ b, b ≠ 951072 → N2 b = N1 b) ∧ (∀ y : Int, 0 ≤ y → y < m + (x : Int) → N2 951072 y = if y < m then F y else q j)) (fun N2 _ x => z_G 0 (d + 2) z_m248 228 [z_R 13, z_I i, z_I t, z_I x] [] N2 (fun _ M2 => z_G 0 (d + 3) z_m249 130 [z_R 13, z_I l1, z_I l2, z_I l3, z_I l4, z_I l5, z_U, z_U] [] M2 Q)) N1 ⟨fun _ _ => rfl, fun y a b => by rw [if_pos (by omega)]; exact ms1.2.2 y a (by omega)⟩ (fun x N2 hx hN2 nx => ?_) (fun N2 hN2 => ?_)
              · obtain ⟨g1, g2⟩ := hN2
                have s2 : zm_st q n j 0 N2 := zm_st_of s1 ⟨by rw [g1 13 (by decide)], by rw [g1 13 (by decide)], by rw [g1 13 (by decide)]⟩ (g1 _ (by decide))
                have fm2 : N2 13 17 = m := by rw [g1 13 (by decide)]; exact fm
                refine rg_248_228 (d + 1) ⟨fun c2 => absurd c2 (by omega), fun _ => kn_here (d + 1) s2 (z_viI ?_)⟩
                rw [fm2, eh.1, z_w_id (x := m + (x : Int)) (by omega) (by omega), z_wq (by omega)]
                refine ⟨by omega, by omega, nx _ ⟨fun b hb => (z_up_ne hb).trans (g1 b hb), fun y y0 y1 => ?_⟩⟩
                by_cases cy : y = m + (x : Int)
                · rw [cy, z_up_eq, if_neg (by omega)]
                · rw [z_up_nj cy]; exact g2 y y0 (by omega)
              · obtain ⟨g1, g2⟩ := hN2
                have s2 : zm_st q n j 0 N2 := zm_st_of s1 ⟨by rw [g1 13 (by decide)], by rw [g1 13 (by decide)], by rw [g1 13 (by decide)]⟩ (g1 _ (by decide))
                have fm2 : N2 13 17 = m := by rw [g1 13 (by decide)]; exact fm
                refine rg_248_228 (d + 1) ⟨fun _ => ?_, fun c2 => absurd c2 (by omega)⟩
                have ea : (z_up (z_up N2 13 17 (m + t)) 13 22 1) 13 2 = j := by rw [z_up_nj (by decide), z_up_nj (by decide), g1 13 (by decide)]; exact f2
                rw [fm2, z_w_id (x := m + t) (by omega) (by omega), ea, z_w_id (x := j + 1) (by omega) (by omega)]
                have cc2 : zc_c N1 N2 := ⟨fun b y hb => congrFun (g1 b (fun z => by rw [z] at hb; cases hb)) y, fun b hb => g1 b (fun z => by rw [z] at hb; cases hb)⟩
                have fm3 : zs_fm D N (z_up (z_up (z_up N2 13 17 (m + t)) 13 22 1) 13 2 (j + 1)) := zs_fm_tr (zs_fm_mv m1) (zs_fm_of (zc_tr cc2 (zc_tr (zc_up rfl rfl) (zc_tr (zc_up rfl rfl) (zc_up rfl rfl)))) (by rw [z_up_ne (by decide), z_up_ne (by decide), z_up_ne (by decide)]; exact g1 _ (by decide)) (by rw [z_up_ne (by decide), z_up_ne (by decide), z_up_ne (by decide)]; exact g1 _ (by decide)) (by rw [z_up_ne (by decide), z_up_ne (by decide), z_up_ne (by decide)]; exact g1 _ (by decide)))
                refine hok _ _ _ _ rfl fm3 (zm_st_pl (zm_st_of s2 ⟨by rw [z_up_nj (by decide), z_up_nj (by decide)], by rw [z_up_nj (by decide), z_up_nj (by decide)], by rw [z_up_nj (by decide), z_up_nj (by decide)]⟩ (by rw [z_up_ne (by decide), z_up_ne (by decide)])) (by omega) (by omega)) ⟨by rw [z_up_nj (by decide), z_up_nj (by decide), z_up_eq], by rw [z_up_nj (by decide), z_up_nj (by decide), z_up_nj (by decide), g1 13 (by decide)]; exact ms1.2.1, fun y y0 y1 => ?_⟩ (by rw [z_up_nj (by decide), z_up_eq])
                rw [z_up_ne (by decide), z_up_ne (by decide), z_up_ne (by decide), g2 y y0 (by omega)]
                unfold zs_f
                rw [show m + 1 - m = 1 from by omega]
                by_cases cy : y < m
                · rw [if_pos cy, if_pos cy, zt_put_n (by omega)]
                · rw [if_neg cy, if_neg cy, Int.emod_one, Int.add_zero, zt_put_e]
            · rw [if_neg (by omega)] at hbad
              rw [zm_f0, show -1000 * 6 - i = -6000 - i from by omega] at s2
              exact rg_248_218 (d + 1) (kn_good0 (d + 1) (by omega) s2 (z_n2 (kn_bail (d + 2) (by omega) s2 (hbad _ j N2 rfl (by omega) (zc_tr (zc_mm m1) (zc_mm m2)) s2))))
          · have cs2 : ¬ zs_c (q j) := by
              intro z
              apply cs
              unfold zm_h
              unfold zs_c at z ⊢
              rw [if_neg (by omega)]; exact z
            rw [if_neg cs2] at hbad
            rw [f2]
            refine kn_wrongs (d + 1) s1 (by decide) (by omega) (fun N2 m2 s2 => ?_)
            rw [zm_f0, show -1000 * 1 - j = -1000 - j from by omega] at s2
            exact rg_248_218 (d + 1) (kn_good0 (d + 1) (by omega) s2 (z_n2 (kn_bail (d + 2) (by omega) s2 (hbad _ j N2 rfl (by omega) (zc_tr (zc_mm m1) (zc_mm m2)) s2))))
        have from80 : z_G 0 (d + 2) z_m248 80 [z_R 13, z_I i, z_U, z_U] [] N (fun _ M2 => z_G 0 (d + 3) z_m249 130 [z_R 13, z_I l1, z_I l2, z_I l3, z_I l4, z_I l5, z_U, z_U] [] M2 Q) := by
          refine rg_248_80 (d + 1) (kn_times d hr st (by omega) (fun N1 m1 s1 => z_viI (kn_here (d + 1) s1 (z_viI ⟨fun c40 => more N1 m1 s1 (fun z => c40 ((zm_h_s (by decide)).mpr z)), fun c40 => ?_⟩))))
          rw [zm_h_s (by decide)] at c40
          rw [if_pos c40] at hok hbad
          have ms1 := zs_ms_mv m1 ms
          generalize zs_j q i = j at *
          generalize zs_t q i = t at *
          have f2 : N1 13 2 = j := s1.2.2.2.2.2.1
          have fo : N1 13 21 = D := ms1.2.1
          have fm : N1 13 17 = m := ms1.1
          have hjn : j < n := by
            by_cases z : j < n
            · exact z
            · have := hT.2.2.2 j (by omega); omega
          rw [fo]
          refine ⟨fun cD => ?_, fun cD => ?_⟩
          · -- a bracket opens
            have hD : ¬ 2 ≤ D := by omega
            rw [if_neg hD] at hok hbad
            refine rg_248_111 (d + 1) (kn_good1 (d + 1) s1 (z_y2 ?_))
            have g1 : (z_up N1 31073 D m) 13 21 = D := by rw [z_up_ne (by decide)]; exact fo
            have g2 : (z_up (z_up N1 31073 D m) 31074 D t) 13 21 = D := by rw [z_up_ne (by decide)]; exact g1
            have g3 : (z_up (z_up (z_up N1 31073 D m) 31074 D t) 31075 D i) 13 21 = D := by rw [z_up_ne (by decide)]; exact g2
            rw [fo, fm, g1, g2, g3, z_w_id (x := D + 1) (by omega) (by omega)]
            have g4 : (z_up (z_up (z_up (z_up (z_up N1 31073 D m) 31074 D t) 31075 D i) 13 21 (D + 1)) 13 22 0) 13 2 = j := by rw [z_up_nj (by decide), z_up_nj (by decide), z_up_ne (by decide), z_up_ne (by decide), z_up_ne (by decide)]; exact f2
            rw [g4, z_w_id (x := j + 1) (by omega) (by omega)]
            refine ⟨D0, by omega, D0, by omega, D0, by omega, ?_⟩
            have ccB : zc_c N1 (z_up (z_up (z_up (z_up (z_up (z_up N1 31073 D m) 31074 D t) 31075 D i) 13 21 (D + 1)) 13 22 0) 13 2 (j + 1)) := zc_tr (zc_up rfl rfl) (zc_tr (zc_up rfl rfl) (zc_tr (zc_up rfl rfl) (zc_tr (zc_up rfl rfl) (zc_tr (zc_up rfl rfl) (zc_up rfl rfl)))))
            have sB : zm_st q n (j + 1) 0 (z_up (z_up (z_up (z_up (z_up (z_up N1 31073 D m) 31074 D t) 31075 D i) 13 21 (D + 1)) 13 22 0) 13 2 (j + 1)) := zm_st_pl (zm_st_of s1 ⟨by rw [z_up_nj (by decide), z_up_nj (by decide), z_up_ne (by decide), z_up_ne (by decide), z_up_ne (by decide)], by rw [z_up_nj (by decide), z_up_nj (by decide), z_up_ne (by decide), z_up_ne (by decide), z_up_ne (by decide)], by rw [z_up_nj (by decide), z_up_nj (by decide), z_up_ne (by decide), z_up_ne (by decide), z_up_ne (by decide)]⟩ (by rw [z_up_ne (by decide), z_up_ne (by decide), z_up_ne (by decide), z_up_ne (by decide), z_up_ne (by decide)])) (by omega) (by omega)
            have mB : zs_ms (D + 1) F m (z_up (z_up (z_up (z_up (z_up (z_up N1 31073 D m) 31074 D t) 31075 D i) 13 21 (D + 1)) 13 22 0) 13 2 (j + 1)) := ⟨by rw [z_up_nj (by decide), z_up_nj (by decide), z_up_nj (by decide), z_up_ne (by decide), z_up_ne (by decide), z_up_ne (by decide)]; exact fm, by rw [z_up_nj (by decide), z_up_nj (by decide), z_up_eq], fun y a b => by rw [z_up_ne (by decide), z_up_ne (by decide), z_up_ne (by decide), z_up_ne (by decide), z_up_ne (by decide), z_up_ne (by decide)]; exact ms1.2.2 y a b⟩
            have oB : ∀ x : Int, 0 ≤ x → x < D → (z_up (z_up (z_up (z_up (z_up (z_up N1 31073 D m) 31074 D t) 31075 D i) 13 21 (D + 1)) 13 22 0) 13 2 (j + 1)) 31073 x = N1 31073 x ∧ (z_up (z_up (z_up (z_up (z_up (z_up N1 31073 D m) 31074 D t) 31075 D i) 13 21 (D + 1)) 13 22 0) 13 2 (j + 1)) 31074 x = N1 31074 x ∧ (z_up (z_up (z_up (z_up (z_up (z_up N1 31073 D m) 31074 D t) 31075 D i) 13 21 (D + 1)) 13 22 0) 13 2 (j + 1)) 31075 x = N1 31075 x := by
              intro x a b
              refine ⟨?_, ?_, ?_⟩
              · rw [z_up_ne (by decide), z_up_ne (by decide), z_up_ne (by decide), z_up_ne (by decide), z_up_ne (by decide), z_up_nj (by omega)]
              · rw [z_up_ne (by decide), z_up_ne (by decide), z_up_ne (by decide), z_up_ne (by decide), z_up_nj (by omega), z_up_ne (by decide)]
              · rw [z_up_ne (by decide), z_up_ne (by decide), z_up_ne (by decide), z_up_nj (by omega), z_up_ne (by decide), z_up_ne (by decide)]
            have vB : (z_up (z_up (z_up (z_up (z_up (z_up N1 31073 D m) 31074 D t) 31075 D i) 13 21 (D + 1)) 13 22 0) 13 2 (j + 1)) 31073 D = m ∧ (z_up (z_up (z_up (z_up (z_up (z_up N1 31073 D m) 31074 D t) 31075 D i) 13 21 (D + 1)) 13 22 0) 13 2 (j + 1)) 31074 D = t ∧ (z_up (z_up (z_up (z_up (z_up (z_up N1 31073 D m) 31074 D t) 31075 D i) 13 21 (D + 1)) 13 22 0) 13 2 (j + 1)) 31075 D = i := by
              refine ⟨?_, ?_, ?_⟩
              · rw [z_up_ne (by decide), z_up_ne (by decide), z_up_ne (by decide), z_up_ne (by decide), z_up_ne (by decide), z_up_eq]
              · rw [z_up_ne (by decide), z_up_ne (by decide), z_up_ne (by decide), z_up_ne (by decide), z_up_eq]
              · rw [z_up_ne (by decide), z_up_ne (by decide), z_up_ne (by decide), z_up_eq]
            have bB : (z_up (z_up (z_up (z_up (z_up (z_up N1 31073 D m) 31074 D t) 31075 D i) 13 21 (D + 1)) 13 22 0) 13 2 (j + 1)) 13 22 = 0 := by rw [z_up_nj (by decide), z_up_eq]
            generalize z_up (z_up (z_up (z_up (z_up (z_up N1 31073 D m) 31074 D t) 31075 D i) 13 21 (D + 1)) 13 22 0) 13 2 (j + 1) = B at ccB sB mB oB vB bB
            have ccN : zc_c N B := zc_tr (zc_mm m1) ccB
            have rB : zs_raw n B := fun x a b => by rw [zc_fn ccN _ rfl]; exact hr x a b
            refine ih2 (D + 1) (j + 1) F m B (by omega) (by omega) (by omega) (by omega) (by omega) (Or.inr (by omega)) m0 m95 rB sB mB (Or.inr (Or.inr bB)) (fun F2 m2 j2 N3 e5 fm3 s3 ms3 bg3 => ?_) (fun x j' N' e5 x0 cc' s' => ?_)
            · rw [e5] at hok hbad
              dsimp only at hok hbad
              obtain ⟨jj, j2n, mm, m295, q5⟩ := zs_end hT f true (D + 1) (j + 1) F m F2 m2 j2 (by omega) m0 e5
              have fmD : zs_fm D N N3 := by
                refine ⟨zc_tr ccN fm3.1, fun x a b => ?_⟩
                obtain ⟨y1, y2, y3⟩ := fm3.2 x a (by omega)
                obtain ⟨x1, x2, x3⟩ := oB x a b
                rw [y1, y2, y3, x1, x2, x3, m1.1 _ (by decide), m1.1 _ (by decide), m1.1 _ (by decide)]
                exact ⟨rfl, rfl, rfl⟩
              by_cases c41 : q j2 = 41
              · rw [if_pos c41] at hok hbad
                have hj2 : j2 < n := by
                  by_cases z : j2 < n
                  · exact z
                  · have := hT.2.2.2 j2 (by omega); omega
                have k2 : N3 13 2 = j2 := s3.2.2.2.2.2.1
                have k3 : N3 13 3 = n := s3.2.2.2.2.1
                have ko : N3 13 21 = D + 1 := ms3.2.1
                have kb : N3 13 22 = 1 := bg3
                refine rg_249_130 (d + 2) (kn_good1 (d + 2) s3 (z_y1 ⟨fun c => absurd c (by omega), fun _ => re_248 (d + 1) (kn_here (d + 1) s3 (z_viI ⟨fun c => absurd ((zm_h_s (by decide)).mpr c41) c, fun _ => ⟨fun c => absurd c (by omega), fun _ => ⟨fun c => absurd (kb.symm.trans c) (by decide), fun _ => ?_⟩⟩⟩))⟩))
                rw [ko, z_w_id (x := D + 1 - 1) (by omega) (by omega), show D + 1 - 1 = D from by omega]
                have p2 : (z_up N3 13 21 D) 13 2 = j2 := by rw [z_up_nj (by decide)]; exact k2
                rw [p2, z_w_id (x := j2 + 1) (by omega) (by omega)]
                have p3 : (z_up (z_up N3 13 21 D) 13 2 (j2 + 1)) 13 21 = D := by rw [z_up_nj (by decide), z_up_eq]
                obtain ⟨y1, y2, y3⟩ := fm3.2 D D0 (by omega)
                have v1 : (z_up (z_up N3 13 21 D) 13 2 (j2 + 1)) 31073 D = m := by rw [z_up_ne (by decide), z_up_ne (by decide), y1]; exact vB.1
                have v2 : (z_up (z_up N3 13 21 D) 13 2 (j2 + 1)) 31074 D = t := by rw [z_up_ne (by decide), z_up_ne (by decide), y2]; exact vB.2.1
                have v3 : (z_up (z_up N3 13 21 D) 13 2 (j2 + 1)) 31075 D = i := by rw [z_up_ne (by decide), z_up_ne (by decide), y3]; exact vB.2.2
                rw [p3, v1, v2, v3]
                have s4 : zm_st q n (j2 + 1) 0 (z_up (z_up N3 13 21 D) 13 2 (j2 + 1)) := zm_st_pl (zm_st_of s3 ⟨z_up_nj (by decide), z_up_nj (by decide), z_up_nj (by decide)⟩ (z_up_ne (by decide))) (by omega) (by omega)
                have ms4 : zs_ms D F2 m2 (z_up (z_up N3 13 21 D) 13 2 (j2 + 1)) := ⟨by rw [z_up_nj (by decide), z_up_nj (by decide)]; exact ms3.1, by rw [z_up_nj (by decide), z_up_eq], fun y a b => by rw [z_up_ne (by decide), z_up_ne (by decide)]; exact ms3.2.2 y a b⟩
                have fm4 : zs_fm D N (z_up (z_up N3 13 21 D) 13 2 (j2 + 1)) := zs_fm_tr fmD (zs_fm_of (zc_tr (zc_up rfl rfl) (zc_up rfl rfl)) (by rw [z_up_ne (by decide), z_up_ne (by decide)]) (by rw [z_up_ne (by decide), z_up_ne (by decide)]) (by rw [z_up_ne (by decide), z_up_ne (by decide)]))
                have bg4 : (z_up (z_up N3 13 21 D) 13 2 (j2 + 1)) 13 22 = 1 := by rw [z_up_nj (by decide), z_up_nj (by decide)]; exact bg3
                refine ⟨D0, by omega, D0, by omega, D0, by omega, ?_⟩
                unfold zs_rp at hok hbad
                refine kn_repeats d m0 (by omega) m295 htt.1 htt.2 (by omega) (by omega) s4 ms4 (fun c N5 wr5 s5 ms5 => ?_) (fun c N5 mv5 s5 => ?_)
                · rw [if_pos c] at hok
                  refine hok _ _ _ N5 rfl (zs_fm_tr fm4 (zs_fm_of (zs_wr_cc wr5) (wr5.1 _ (by decide) (by decide)) (wr5.1 _ (by decide) (by decide)) (wr5.1 _ (by decide) (by decide)))) s5 ms5 ?_
                  rw [wr5.2 _ (by decide)]; exact bg4
                · rw [if_neg c] at hbad
                  exact kn_bail (d + 2) (by omega) s5 (hbad _ _ N5 rfl (by omega) (zc_tr fm4.1 (zc_mm mv5)) s5)
              · rw [if_neg c41] at hbad
                have qe : q j2 = -1 := by
                  rcases q5 rfl with z | z
                  · exact z
                  · exact absurd z.2 c41
                have jn : n ≤ j2 := (zr_T_e hT (by omega)).mp qe
                exact atend (-1000 - j2) j2 N3 rfl (by omega) s3 jn (by rw [ms3.2.1]; omega) (fun j' N4 mv4 s4 => hbad _ j' N4 rfl (by omega) (zc_tr fmD.1 (zc_mm mv4)) s4)
            · rw [e5] at hbad
              exact hbad x j' N' rfl x0 (zc_tr ccN cc') s'
          · -- too many
            rw [if_pos (by omega)] at hbad
            rw [f2]
            refine kn_wrongs (d + 1) s1 (by decide) (by omega) (fun N2 m2 s2 => ?_)
            rw [zm_f0, show -1000 * 5 - j = -5000 - j from by omega] at s2
            exact rg_248_111 (d + 1) (kn_good0 (d + 1) (by omega) s2 (z_n2 (kn_bail (d + 2) (by omega) s2 (hbad _ j N2 rfl (by omega) (zc_tr (zc_mm m1) (zc_mm m2)) s2))))
        refine re_248 (d + 1) (kn_here (d + 1) st (z_viI ⟨fun c => ?_, fun c => ⟨fun c2 => ?_, fun c2 => ⟨fun c3 => ?_, fun c3 => ?_⟩⟩⟩))
        · rw [e2]; exact from80
        · rw [e2]; exact from80
        · rw [e2]; exact from80
        · exfalso
          rw [zm_h_s (by decide)] at c
          have : N 13 21 = D := ms.2.1
          rcases h41 with z | z | z
          · exact z c
          · omega
          · exact c3 z
      · -- the text ends here
        have ie : i = n := by omega
        have qe : q i = -1 := hT.2.2.2 i (by omega)
        have ej : zs_j q i = i := by unfold zs_j; rw [if_neg (by omega)]
        rw [ej, if_neg (by omega), if_neg (by unfold zs_c; omega)] at hbad
        have hD : 0 < D := by omega
        exact atend (-1000 - i) i N rfl (by omega) st (by omega) (by rw [ms.2.1]; exact hD) (fun j' N4 mv4 s4 => hbad _ j' N4 rfl (by omega) (zc_mm mv4) s4)
    · unfold zs at hok hbad
      refine ih1 D i F m N D0 D2 (by omega) i2 hin hor m0 m95 hr st ms h41 (fun F2 m2 j N2 e2 fm2 s2 ms2 bg2 => ?_) (fun x j N' e x0 cc s' => hbad x j N' (by rw [e]) x0 cc s')
      rw [e2] at hok hbad
      dsimp only at hok hbad
      obtain ⟨ij, jn, mm, m295, _⟩ := zs_end hT f false D i F m F2 m2 j (by omega) m0 e2
      by_cases c : q j = -1 ∨ (0 < D ∧ q j = 41)
      · rw [if_pos c] at hok
        exact hok F2 m2 j N2 rfl fm2 s2 ms2 bg2
      · rw [if_neg c] at hok hbad
        have hj : j < n := by
          by_cases z : j < n
          · exact z
          · exact absurd (Or.inl (hT.2.2.2 j (by omega))) c
        have h41' : q j ≠ 41 ∨ D = 0 ∨ N2 13 22 = 0 := by
          by_cases z : D = 0
          · exact Or.inr (Or.inl z)
          · exact Or.inl (fun y => c (Or.inr ⟨by omega, y⟩))
        exact ih2 D j F2 m2 N2 D0 D2 (by omega) (by omega) (by omega) (Or.inl hj) (by omega) m295 (fun x a b => by rw [zc_fn fm2.1 _ rfl]; exact hr x a b) s2 ms2 h41' (fun F3 m3 j3 N3 e3 fm3 s3 ms3 bg3 => hok F3 m3 j3 N3 e3 (zs_fm_tr fm2 fm3) s3 ms3 bg3) (fun x j' N' e3 x0 cc s' => hbad x j' N' e3 x0 (zc_tr fm2.1 cc) s')
end ZPN
