/-! TOWN: its text, the model -/
section ZTWM
variable {S M N : z_M} {Q : z_V → z_M → Prop} {q : Int → Int} {n i : Int}
def zw_frm (g : Int → Int) (N : z_M) : Prop := ∀ j : Int, 0 ≤ j → j < 100 → N 1001066 j = g j
theorem zw_ng_cor (j : Int) : z_cor 1001066 j = false := rfl
theorem kn_townLine (d : Nat) {k : Int} {g : Int → Int} (h : zm_st q n i 0 N) (hi : i ≤ 260) (hf : zw_frm g N)
    (h1 : ∀ (v a b : Int) (N' : z_M), zw_ln q k i = .inr (v, a, b) → k ≠ 26 → zc_c N N' → zm_st q n (i + 5) 0 N' → zw_frm (zw_pt g v a b) N' → Q z_U N')
    (h0 : ∀ (f j : Int) (N' : z_M), zw_ln q k i = .inl f → f < 0 → 0 ≤ j → j ≤ 300 → zc_c N N' → zm_st q n j f N' → Q z_U N') : z_Cl 0 (d + 3) 242 [z_R 13, z_I k] N Q := by
  have hp := h.2.2.1
  have hb := zm_hb h
  have e2 : N 13 2 = i := h.2.2.2.2.2.1
  unfold zw_ln at h1 h0
  have bad125 : ∀ (l1 l2 l3 l4 l5 s0 f j : Int) (N1 : z_M), f ≠ 0 → zm_st q n j f N1 → Q z_U N1 → z_G 0 (d + 3) z_m242 125 [z_R 13, z_I l1, z_I l2, z_I l3, z_I l4, z_I l5, z_U] [z_I s0] N1 Q := fun l1 l2 l3 l4 l5 s0 f j N1 f0 st hQ =>
    rg_242_125 (d + 2) (kn_good0 (d + 2) f0 st (z_n1 hQ))
  have bad108 : ∀ (l1 l2 l3 l4 s0 f j : Int) (N1 : z_M), f ≠ 0 → zm_st q n j f N1 → Q z_U N1 → z_G 0 (d + 3) z_m242 108 [z_R 13, z_I l1, z_I l2, z_I l3, z_I l4, z_U, z_U] [z_I s0] N1 Q := fun l1 l2 l3 l4 s0 f j N1 f0 st hQ =>
    rg_242_108 (d + 2) (kn_good0 (d + 2) f0 st (z_n1 (bad125 _ _ _ _ _ _ f j N1 f0 st hQ)))
  have bad91 : ∀ (l1 l2 l3 s0 f j : Int) (N1 : z_M), f ≠ 0 → zm_st q n j f N1 → Q z_U N1 → z_G 0 (d + 3) z_m242 91 [z_R 13, z_I l1, z_I l2, z_I l3, z_U, z_U, z_U] [z_I s0] N1 Q := fun l1 l2 l3 s0 f j N1 f0 st hQ =>
    rg_242_91 (d + 2) (kn_good0 (d + 2) f0 st (z_n1 (bad108 _ _ _ _ _ f j N1 f0 st hQ)))
  have bad75 : ∀ (l1 l2 s0 f j : Int) (N1 : z_M), f ≠ 0 → zm_st q n j f N1 → Q z_U N1 → z_G 0 (d + 3) z_m242 75 [z_R 13, z_I l1, z_I l2, z_U, z_U, z_U, z_U] [z_I s0] N1 Q := fun l1 l2 s0 f j N1 f0 st hQ =>
    rg_242_75 (d + 2) (kn_good0 (d + 2) f0 st (z_n1 (bad91 _ _ _ _ f j N1 f0 st hQ)))
  have bad50 : ∀ (l1 l2 f : Int) (N1 : z_M), f < 0 → zm_mv N N1 → zm_st q n i f N1 → (∀ N' : z_M, zm_mv N N' → zm_st q n (i + 1) f N' → Q z_U N') → z_G 0 (d + 3) z_m242 50 [z_R 13, z_I l1, z_I l2, z_U, z_U, z_U, z_U] [] N1 Q := by
    intro l1 l2 f N1 f0 m st hQ
    have e3 : N1 13 2 = i := st.2.2.2.2.2.1
    refine rg_242_50 (d + 2) ?_
    rw [e3, z_w_id (by omega) (by omega)]
    have st2 := zm_st_pl (i' := i + 1) st (by omega) (by omega)
    have m2 : zm_mv N (z_up N1 13 2 (i + 1)) := zm_mv_tr m (zm_mv_up (Or.inl rfl))
    generalize z_up N1 13 2 (i + 1) = N2 at st2 m2
    exact kn_good0 (d + 2) (by omega) st2 (z_n1 (bad75 _ _ _ f (i + 1) N2 (by omega) st2 (hQ N2 m2 st2)))
  -- a good kind
  have good : (zm_h q i = 35 ∨ zm_h q i = 99 ∨ zm_h q i = 46) → z_G 0 (d + 3) z_m242 35 [z_R 13, z_I k, z_I (zm_h q i), z_U, z_U, z_U, z_U] [] N Q := by
    intro ck
    have eh : zm_h q i = q i := by
      unfold zm_h at ck ⊢
      split at ck
      · omega
      · rename_i z; rw [if_neg z]
    rw [eh] at ck ⊢
    have ev : zw_kd (q i) = (if q i = 35 then 1 else if q i = 99 then 2 else 0) := by
      unfold zw_kd
      rcases ck with c | c | c <;> rw [c] <;> decide
    have nv : zw_kd (q i) ≠ -1 := by
      rcases ck with c | c | c <;> rw [c] <;> decide
    rw [if_neg nv] at h1 h0
    refine rg_242_35 (d + 2) ⟨fun c => ?_, fun c => kn_wrongs (d + 2) h (by omega) (by omega) (fun N1 m1 s1 => ?_)⟩
    · rw [if_neg c] at h1 h0
      refine rg_242_50 (d + 2) ?_
      rw [e2, z_w_id (by omega) (by omega)]
      have st1 := zm_st_pl (i' := i + 1) h (by omega) (by omega)
      have m1 : zm_mv N (z_up N 13 2 (i + 1)) := zm_mv_up (Or.inl rfl)
      generalize z_up N 13 2 (i + 1) = N1 at st1 m1
      refine kn_good1 (d + 2) st1 (z_y1 (kn_digit d st1 (by omega) (fun d1 N2 m2 s2 => z_viI (rg_242_75 (d + 2) (kn_good1 (d + 2) s2 (z_y1 (kn_digit d s2 (by omega) (fun d2 N3 m3 s3 => z_viI (rg_242_91 (d + 2) (kn_good1 (d + 2) s3 (z_y1 (kn_digit d s3 (by omega) (fun d3 N4 m4 s4 => z_viI (rg_242_108 (d + 2) (kn_good1 (d + 2) s4 (z_y1 (kn_digit d s4 (by omega) (fun d4 N5 m5 s5 => z_viI ?_) (fun d4 v N5 v0 v1 m5 s5 => z_viI ?_)))))) (fun d3 v N4 v0 v1 m4 s4 => z_viI ?_)))))) (fun d2 v N3 v0 v1 m3 s3 => z_viI ?_)))))) (fun d1 v N2 v0 v1 m2 s2 => z_viI ?_)))
      · -- all four digits
        have eA : zr_sp q (i + 1) = .inr (10 * (q (i + 1 + 1) - 48) + (q (i + 1) - 48)) := by unfold zr_sp; rw [if_pos d1, if_pos d2]
        have eB : zr_sp q (i + 3) = .inr (10 * (q (i + 1 + 1 + 1 + 1) - 48) + (q (i + 1 + 1 + 1) - 48)) := by
          unfold zr_sp
          rw [show i + 3 = i + 1 + 1 + 1 from by omega, if_pos d3, if_pos d4]
        rw [eA] at h1
        dsimp only at h1
        rw [eB] at h1
        dsimp only at h1
        have mA := zm_mv_tr m1 (zm_mv_tr m2 (zm_mv_tr m3 (zm_mv_tr m4 m5)))
        have paint : ∀ v : Int, zw_kd (q i) = v → z_Cl 0 (d + 2) 241 [z_R 13, z_I v, z_I (q (i + 1) - 48), z_I (q (i + 1 + 1) - 48), z_I (q (i + 1 + 1 + 1) - 48), z_I (q (i + 1 + 1 + 1 + 1) - 48)] N5 (fun _ M2 => Q z_U M2) := by
          intro v ev2
          refine c_paints (d + 1) (by omega) (by omega) (by omega) (by omega) ?_
          rw [ev2] at h1
          have r1 : (10 * (q (i + 1 + 1) - 48) + (q (i + 1) - 48)) % 10 = q (i + 1) - 48 := by omega
          have r2 : (10 * (q (i + 1 + 1) - 48) + (q (i + 1) - 48)) / 10 = q (i + 1 + 1) - 48 := by omega
          have r3 : (10 * (q (i + 1 + 1 + 1 + 1) - 48) + (q (i + 1 + 1 + 1) - 48)) % 10 = q (i + 1 + 1 + 1) - 48 := by omega
          have r4 : (10 * (q (i + 1 + 1 + 1 + 1) - 48) + (q (i + 1 + 1 + 1) - 48)) / 10 = q (i + 1 + 1 + 1 + 1) - 48 := by omega
          refine h1 v _ _ _ rfl c (zc_tr (zc_mm mA) (zc_pa zw_ng_cor rfl)) (by rw [show i + 5 = i + 1 + 1 + 1 + 1 + 1 from by omega]; exact zm_st_of s5 ⟨by rw [z_pa_ne (by decide)], by rw [z_pa_ne (by decide)], by rw [z_pa_ne (by decide)]⟩ (z_pa_ne (by decide))) (fun j j0 j1 => ?_)
          unfold zw_pt zw_rc
          rw [r1, r2, r3, r4]
          unfold z_pa
          rw [if_pos rfl, mA.1 _ (by decide), hf j j0 j1]
        refine rg_242_125 (d + 2) (kn_good1 (d + 2) s5 (z_y1 ⟨fun c35 => ⟨fun c99 => paint 0 ?_, fun c99 => paint 2 ?_⟩, fun c35 => paint 1 ?_⟩))
        · rw [ev, if_neg c35, if_neg c99]
        · rw [ev, if_neg c35, if_pos c99]
        · rw [ev, if_pos c35]
      · have eA : zr_sp q (i + 1) = .inr (10 * (q (i + 1 + 1) - 48) + (q (i + 1) - 48)) := by unfold zr_sp; rw [if_pos d1, if_pos d2]
        have eB : zr_sp q (i + 3) = .inl (-1000 - (i + 1 + 1 + 1 + 1)) := by
          unfold zr_sp
          rw [show i + 3 = i + 1 + 1 + 1 from by omega, if_pos d3, if_neg d4]
        rw [eA] at h0
        dsimp only at h0
        rw [eB] at h0
        exact bad125 _ _ _ _ _ _ _ _ N5 (by omega) s5 (h0 _ _ N5 rfl (by omega) (by omega) (by omega) (zc_mm (zm_mv_tr m1 (zm_mv_tr m2 (zm_mv_tr m3 (zm_mv_tr m4 m5))))) s5)
      · have eA : zr_sp q (i + 1) = .inr (10 * (q (i + 1 + 1) - 48) + (q (i + 1) - 48)) := by unfold zr_sp; rw [if_pos d1, if_pos d2]
        have eB : zr_sp q (i + 3) = .inl (-1000 - (i + 1 + 1 + 1)) := by
          unfold zr_sp
          rw [show i + 3 = i + 1 + 1 + 1 from by omega, if_neg d3]
        rw [eA] at h0
        dsimp only at h0
        rw [eB] at h0
        exact bad108 _ _ _ _ _ _ _ N4 (by omega) s4 (h0 _ _ N4 rfl (by omega) (by omega) (by omega) (zc_mm (zm_mv_tr m1 (zm_mv_tr m2 (zm_mv_tr m3 m4)))) s4)
      · have eA : zr_sp q (i + 1) = .inl (-1000 - (i + 1 + 1)) := by unfold zr_sp; rw [if_pos d1, if_neg d2]
        rw [eA] at h0
        exact bad91 _ _ _ _ _ _ N3 (by omega) s3 (h0 _ _ N3 rfl (by omega) (by omega) (by omega) (zc_mm (zm_mv_tr m1 (zm_mv_tr m2 m3))) s3)
      · have eA : zr_sp q (i + 1) = .inl (-1000 - (i + 1)) := by unfold zr_sp; rw [if_neg d1]
        rw [eA] at h0
        exact bad75 _ _ _ _ _ N2 (by omega) s2 (h0 _ _ N2 rfl (by omega) (by omega) (by omega) (zc_mm (zm_mv_tr m1 m2)) s2)
    · rw [if_pos c] at h0
      rw [zm_f0, e2, show -1000 * 4 - i = -4000 - i from by omega] at s1
      exact bad50 _ _ _ N1 (by omega) m1 s1 (fun N' m' s' => h0 _ (i + 1) N' rfl (by omega) (by omega) (by omega) (zc_mm m') s')
  refine re_242 (d + 2) (kn_here (d + 2) h (z_viI ⟨fun c => good (Or.inl c), fun c1 => ⟨fun c => good (Or.inr (Or.inl c)), fun c2 => ⟨fun c => good (Or.inr (Or.inr c)), fun c3 => kn_wrongs (d + 2) h (by omega) (by omega) (fun N1 m1 s1 => ?_)⟩⟩⟩))
  have ek : zw_kd (q i) = -1 := by
    have a1 : ¬ q i = 35 := fun z => c1 ((zm_h_s (by decide)).mpr z)
    have a2 : ¬ q i = 99 := fun z => c2 ((zm_h_s (by decide)).mpr z)
    have a3 : ¬ q i = 46 := fun z => c3 ((zm_h_s (by decide)).mpr z)
    unfold zw_kd
    rw [if_neg a1, if_neg a3, if_neg a2]
  rw [if_pos ek] at h0
  rw [zm_f0, e2, show -1000 * 1 - i = -1000 - i from by omega] at s1
  exact bad50 _ _ _ N1 (by omega) m1 s1 (fun N' m' s' => h0 _ (i + 1) N' rfl (by omega) (by omega) (by omega) (zc_mm m') s')
def zw_xm (a : Nat) (j : Int) : Bool := a == 1001065 || a == 28801071 || (a == 13 && j == 1)
theorem z_nnz_s (f : Int → Int) (m : Nat) : z_nnz f (m + 1) = z_nnz f m + (if f (m : Int) = 0 then 0 else 1) := rfl
theorem km_town (d : Nat) {a : Int} (hS : z_sit S M) (hT : 1 ≤ a → a ≤ 160 → a ≤ S 13 1 → zr_T q a ∧ ∀ i : Int, 0 ≤ i → i < a → z_and (S 2603064 i) 255 = q i) (hk : ∀ w : Int, 0 ≤ w → w < 30 → M 304067 w ≠ 0 → 0 ≤ M 301068 w ∧ M 301068 w < 100 ∧ M 301069 w ≤ 95)
    (h1 : 1 ≤ a → a ≤ 160 → a ≤ S 13 1 → ∀ (g : Int → Int) (N : z_M), zw_val q = .inr g → zc_x zw_xm M N → z_sit N N → N 13 1 = 0 → N 1001065 = zw_gr g (M 1001065) → (∀ w : Int, 0 ≤ w → w < 30 → M 304067 w ≠ 0 → ∀ t : Nat, t < 96 → N 28801071 (96 * w + (t : Int)) = zk_m M (N 1001065) w t) → Q (z_I (z_nnz (N 1001065) 100)) N)
    (h0 : 1 ≤ a → a ≤ 160 → a ≤ S 13 1 → ∀ (f : Int) (N : z_M), zw_val q = .inl f → z_sit (z_up S 13 1 0) N → Q (z_I f) N)
    (hn : ¬ (1 ≤ a ∧ a ≤ 160 ∧ a ≤ S 13 1) → Q (z_I (-1)) M) : z_Cl 0 (d + 4) 243 [z_R 13, z_I a] M Q := by
  have et : M 13 1 = S 13 1 := z_ff hS 13 1 rfl
  refine re_243 (d + 3) (km_lies (d + 3) (fun a1 a2 => z_y1 ⟨fun a3 => re_234 (d + 3) ?_, fun c => rg_243_20 (d + 3) (hn (by rw [et] at c; omega))⟩) (fun c => z_n1 (rg_243_20 (d + 3) (hn (by omega)))))
  rw [et] at a3
  obtain ⟨hq, hqt⟩ := hT a1 a2 a3
  have h1' := h1 a1 a2 a3
  have h0' := h0 a1 a2 a3
  have hq26 := hq.2.1
  have st0 : zm_st q a 0 0 (zm_bg M a) := zm_bg_st hq (fun j x y => by rw [z_fn hS 2603064 rfl]; exact hqt j x y)
  have sit0 : z_sit (z_up S 13 1 0) (zm_bg M a) := zm_bg_sit hS
  have e0 : z_up (z_up (z_up (z_up M 13 1 0) 13 2 0) 13 3 a) 13 4 0 = zm_bg M a := rfl
  rw [e0]
  have bg13 : ∀ k, k ≠ 13 → zm_bg M a k = M k := fun k hk => by unfold zm_bg; rw [z_up_ne hk, z_up_ne hk, z_up_ne hk, z_up_ne hk]
  have bgj : ∀ j, z_cor 13 j = true → j ≠ 1 → zm_bg M a 13 j = M 13 j := fun j hj h2 => by
    unfold zm_bg
    rw [z_up_nj (fun c => by rw [c] at hj; cases hj), z_up_nj (fun c => by rw [c] at hj; cases hj), z_up_nj (fun c => by rw [c] at hj; cases hj), z_up_nj h2]
  have bgt : zm_bg M a 13 1 = 0 := by unfold zm_bg; rw [z_up_nj (by decide), z_up_nj (by decide), z_up_nj (by decide), z_up_eq]
  generalize zm_bg M a = B at st0 sit0 bg13 bgj bgt
  -- all is plain ahead of the first line
  refine z_lpi (n := 100) (fun _ => ()) (fun x N => (∀ b, b ≠ 1001066 → N b = B b) ∧ ∀ j : Int, 0 ≤ j → j < (x : Int) → N 1001066 j = 0) (fun N _ x => z_G 0 (d + 4) z_m243 29 [z_R 13, z_I a, z_I x, z_U, z_U, z_U] [] N Q) B ⟨fun _ _ => rfl, fun j x y => absurd y (by omega)⟩ (fun x N hx hN nx => ?_) (fun L hL => ?_)
  · obtain ⟨g1, g2⟩ := hN
    refine rg_243_29 (d + 3) ⟨fun c => absurd c (by omega), fun _ => ⟨by omega, by omega, ?_⟩⟩
    rw [z_wq (by omega)]
    refine nx _ ⟨fun b hb => (z_up_ne hb).trans (g1 b hb), fun j x0 x1 => ?_⟩
    by_cases c : j = (x : Int)
    · rw [c, z_up_eq]
    · rw [z_up_nj c]; exact g2 j x0 (by omega)
  obtain ⟨l1, l2⟩ := hL
  refine rg_243_29 (d + 3) ⟨fun _ => ?_, fun c => absurd c (by decide)⟩
  have stL : zm_st q a 0 0 L := zm_st_of st0 ⟨by rw [l1 13 (by decide)], by rw [l1 13 (by decide)], by rw [l1 13 (by decide)]⟩ (l1 _ (by decide))
  have cL : zc_c B L := ⟨fun k j hk => congrFun (l1 k (fun c => by rw [c] at hk; cases hk)) j, fun k hk => l1 k (fun c => by rw [c] at hk; cases hk)⟩
  have frL : zw_frm (fun _ => 0) L := fun j x y => l2 j x y
  have out : ∀ (k l3 f j : Int) (N : z_M), f < 0 → zw_val q = .inl f → zc_c B N → zm_st q a j f N → z_G 0 (d + 4) z_m243 134 [z_R 13, z_I a, z_I k, z_I l3, z_U, z_U] [] N Q := by
    intro k l3 f j N f0 e c st
    have e4 : N 13 4 = f := st.2.2.2.2.2.2
    refine rg_243_134 (d + 3) ⟨fun c2 => absurd c2 (by omega), fun _ => ?_⟩
    rw [e4]
    exact h0' f N e (zc_sit sit0 c)
  have bad : ∀ (k l3 f j : Int) (N : z_M), f < 0 → zw_val q = .inl f → zc_c B N → zm_st q a j f N → z_G 0 (d + 4) z_m243 52 [z_R 13, z_I a, z_I k, z_I l3, z_U, z_U] [] N Q := by
    intro k l3 f j N f0 e c st
    exact rg_243_52 (d + 3) ⟨fun _ => out k l3 f j N f0 e c st, fun _ => kn_good0 (d + 3) (by omega) st (z_n1 (out k l3 f j N f0 e c st))⟩
  -- the end: the ground is laid, all walk
  have fin : ∀ (k l3 : Int) (g : Int → Int) (N : z_M) (j : Int), zw_val q = .inr g → zc_c B N → zm_st q a j 0 N → zw_frm g N → z_G 0 (d + 4) z_m243 134 [z_R 13, z_I a, z_I k, z_I l3, z_U, z_U] [] N Q := by
    intro k l3 g N j e c st fr
    have e4 : N 13 4 = 0 := st.2.2.2.2.2.2
    refine rg_243_134 (d + 3) ⟨fun _ => ?_, fun c2 => absurd c2 (by omega)⟩
    have eGo : ∀ b, b ≠ 13 → z_cak b = true → N b = M b := fun b b1 b2 => (zc_fn c b b2).trans (bg13 b b1)
    refine z_lpi (n := 100) (fun x => z_nnz g x) (fun x N2 => (∀ b, b ≠ 1001065 → N2 b = N b) ∧ ∀ j : Int, N2 1001065 j = if 0 ≤ j ∧ j < (x : Int) then g j else M 1001065 j) (fun N2 many x => z_G 0 (d + 4) z_m243 152 [z_R 13, z_I a, z_I k, z_I l3, z_I many, z_I x] [] N2 Q) N ⟨fun _ _ => rfl, fun j => by rw [if_neg (by omega)]; exact congrFun (eGo _ (by decide) rfl) j⟩ (fun x N2 hx hN2 nx => ?_) (fun N2 hN2 => ?_)
    · obtain ⟨g1, g2⟩ := hN2
      have hb := z_nnz_b g x
      have ef : N2 1001066 (x : Int) = g (x : Int) := by rw [g1 _ (by decide)]; exact fr (x : Int) (by omega) (by omega)
      have ex : (z_up N2 1001065 (x : Int) (N2 1001066 (x : Int))) 1001065 (x : Int) = g (x : Int) := by rw [z_up_eq]; exact ef
      refine rg_243_152 (d + 3) ⟨fun c2 => absurd c2 (by omega), fun _ => ⟨by omega, by omega, by omega, by omega, by omega, by omega, ?_⟩⟩
      rw [ex]
      have nxt : ∀ y : Int, y = (if g (x : Int) = 0 then 0 else 1) → z_G 0 (d + 4) z_m243 190 [z_R 13, z_I a, z_I k, z_I l3, z_I (z_nnz g x), z_I (x : Int)] [z_I y, z_I (z_nnz g x)] (z_up N2 1001065 (x : Int) (N2 1001066 (x : Int))) Q := by
        intro y ey
        have hy : 0 ≤ y ∧ y ≤ 1 := by rw [ey]; split <;> omega
        refine rg_243_190 (d + 3) ?_
        rw [z_w_id (x := z_nnz g x + y) (by omega) (by omega), z_wq (by omega)]
        have := nx (z_up N2 1001065 (x : Int) (N2 1001066 (x : Int))) ⟨fun b hb => (z_up_ne hb).trans (g1 b hb), fun j => ?_⟩
        · rw [z_nnz_s, ← ey] at this
          exact this
        · by_cases cj : j = (x : Int)
          · rw [cj, z_up_eq, if_pos (by omega)]; exact ef
          · rw [z_up_nj cj, g2 j]
            by_cases c3 : 0 ≤ j ∧ j < (x : Int)
            · rw [if_pos c3, if_pos (by omega)]
            · rw [if_neg c3, if_neg (by omega)]
      exact ⟨fun c2 => nxt 1 (by rw [if_neg c2]), fun c2 => nxt 0 (by rw [if_pos c2])⟩
    · obtain ⟨g1, g2⟩ := hN2
      refine rg_243_152 (d + 3) ⟨fun _ => ?_, fun c2 => absurd c2 (by decide)⟩
      have eg : N2 1001065 = zw_gr g (M 1001065) := by
        funext j
        unfold zw_gr
        exact g2 j
      have eK : ∀ b, b ≠ 13 → b ≠ 1001065 → z_cak b = true → N2 b = M b := fun b b1 b2 b3 => (g1 b b2).trans (eGo b b1 b3)
      refine z_lpi (n := 30) (fun _ => ()) (fun x N3 => (∀ b, b ≠ 28801071 → N3 b = N2 b) ∧ ∀ w : Int, 0 ≤ w → w < (x : Int) → M 304067 w ≠ 0 → ∀ t : Nat, t < 96 → N3 28801071 (96 * w + (t : Int)) = zk_m M (zw_gr g (M 1001065)) w t) (fun N3 _ x => z_G 0 (d + 4) z_m243 202 [z_R 13, z_I a, z_I k, z_I l3, z_I (z_nnz g 100), z_I x] [] N3 Q) N2 ⟨fun _ _ => rfl, fun w x y => absurd y (by omega)⟩ (fun x N3 hx hN3 nx => ?_) (fun N3 hN3 => ?_)
      · obtain ⟨p1, p2⟩ := hN3
        have q1 : N3 304067 = M 304067 := (p1 _ (by decide)).trans (eK _ (by decide) (by decide) rfl)
        have q2 : N3 301068 = M 301068 := (p1 _ (by decide)).trans (eK _ (by decide) (by decide) rfl)
        have q3 : N3 301069 = M 301069 := (p1 _ (by decide)).trans (eK _ (by decide) (by decide) rfl)
        have q4 : N3 28501070 = M 28501070 := (p1 _ (by decide)).trans (eK _ (by decide) (by decide) rfl)
        refine rg_243_202 (d + 3) ⟨fun c2 => absurd c2 (by omega), fun _ => ?_⟩
        refine km_walksAll (d + 1) (g := zw_gr g (M 1001065)) ((p1 _ (by decide)).trans eg) (by omega) (by omega) (fun cp => ?_) (fun cp N4 m1 m2 m3 => ?_) (fun cp => ?_)
        · rw [q1] at cp
          rw [q2, q3]
          exact hk (x : Int) (by omega) (by omega) cp
        · rw [z_wq (by omega)]
          refine nx N4 ⟨fun b hb => (m1 b hb).trans (p1 b hb), fun w a0 b0 cp2 t ht => ?_⟩
          by_cases cw : w = (x : Int)
          · rw [cw, m2 t ht]
            unfold zk_m
            rw [q2, q3, q4]
          · rw [m3 _ (by omega)]; exact p2 w a0 (by omega) cp2 t ht
        · rw [z_wq (by omega)]
          refine nx N3 ⟨p1, fun w a0 b0 cp2 t ht => ?_⟩
          by_cases cw : w = (x : Int)
          · rw [q1, ← cw] at cp; exact absurd cp cp2
          · exact p2 w a0 (by omega) cp2 t ht
      · obtain ⟨p1, p2⟩ := hN3
        refine rg_243_202 (d + 3) ⟨fun _ => ?_, fun c2 => absurd c2 (by decide)⟩
        have eg3 : N3 1001065 = zw_gr g (M 1001065) := (p1 _ (by decide)).trans eg
        have cx2 : zc_x zw_xm M N3 := by
          intro b j' hb hx
          unfold zw_xm at hx
          simp only [Bool.or_eq_false_iff, beq_eq_false_iff_ne] at hx
          obtain ⟨⟨x1, x2⟩, x3⟩ := hx
          rw [p1 b x2, g1 b x1, c.1 b j' hb]
          by_cases cb : b = 13
          · subst cb
            simp only [beq_self_eq_true, Bool.true_and, beq_eq_false_iff_ne] at x3
            exact bgj j' hb x3
          · rw [bg13 b cb]
        have ch2 : ∀ b, z_cch b = true → N3 b = M b := fun b hb => by
          have ne : ∀ c : Nat, z_cch c = false → b ≠ c := fun c hc2 e => by rw [e, hc2] at hb; cases hb
          rw [p1 b (ne _ rfl), g1 b (ne _ rfl), c.2 b hb, bg13 b (ne _ rfl)]
        have ez : z_nnz (N3 1001065) 100 = z_nnz g 100 := z_nnz_cg 100 (fun j j0 j1 => by rw [eg3]; unfold zw_gr; exact if_pos ⟨j0, j1⟩)
        have := h1' g N3 e cx2 (zz_self hS ch2 ⟨cx2 _ _ rfl rfl, zc_x_n cx2 _ rfl (fun _ => rfl), zc_x_n cx2 _ rfl (fun _ => rfl), zc_x_n cx2 _ rfl (fun _ => rfl), zc_x_n cx2 _ rfl (fun _ => rfl), zc_x_n cx2 _ rfl (fun _ => rfl), zc_x_n cx2 _ rfl (fun _ => rfl), zc_x_n cx2 _ rfl (fun _ => rfl), zc_x_n cx2 _ rfl (fun _ => rfl), zc_x_n cx2 _ rfl (fun _ => rfl)⟩) (by rw [p1 13 (by decide), g1 13 (by decide), c.1 13 _ rfl]; exact bgt) eg3 (fun w a0 b0 cp t ht => by rw [eg3]; exact p2 w a0 (by omega) cp t ht)
        rw [ez] at this
        exact this
  have key : ∀ (f : Nat) (k : Int) (g : Int → Int) (i : Int) (N : z_M), k + (f : Int) = 27 → 0 ≤ k → k ≤ 26 → i ≤ a → zm_st q a i 0 N → zc_c B N → zw_frm g N → zw_go q f k g i = zw_val q → z_G 0 (d + 4) z_m243 52 [z_R 13, z_I a, z_I k, z_I 1, z_U, z_U] [] N Q := by
    intro f
    induction f with
    | zero =>
      intro k g i N hk _ k26 ia st cc fr e
      exact absurd hk (by omega)
    | succ f ih =>
      intro k g i N hk k0 k26 ia st cc fr e
      have hp := st.2.2.1
      unfold zw_go at e
      have w1 : z_w (k + 1) = k + 1 := z_w_id (by omega) (by omega)
      refine rg_243_52 (d + 3) ⟨fun c => absurd c (by decide), fun _ => kn_good1 (d + 3) st (z_y1 (kn_townLine d st (by omega) fr (fun v x y N1 e1 kn c1 st1 fr1 => ?_) (fun x j N1 e1 x0 j0 j1 c1 st1 => ?_)))⟩
      · rw [w1]
        rw [e1] at e
        dsimp only at e
        have e2 : N1 13 2 = i + 5 := st1.2.2.2.2.2.1
        have e3 : N1 13 3 = a := st1.2.2.2.2.1
        refine kn_good1 (d + 3) st1 (z_y1 ?_)
        rw [e2, e3]
        refine ⟨fun c => ?_, fun c => ?_⟩
        · rw [if_pos (hq.2.2.2 (i + 5) c)] at e
          exact rg_243_93 (d + 3) (rg_243_94 (d + 3) ⟨fun _ => rg_243_117 (d + 3) ⟨fun _ => rg_243_52 (d + 3) ⟨fun _ => fin (k + 1) 0 _ N1 (i + 5) e.symm (zc_tr cc c1) st1 fr1, fun c2 => absurd rfl c2⟩, fun c2 => absurd rfl c2⟩, fun c2 => absurd rfl c2⟩)
        · have hqj := hq.2.2.1 (i + 5) (by omega) c
          rw [if_neg (by omega)] at e
          refine rg_243_94 (d + 3) ⟨fun c2 => absurd c2 (by decide), fun _ => kn_here (d + 3) st1 (z_viI ⟨fun c2 => ?_, fun c2 => ?_⟩)⟩
          · rw [zm_h_s (by decide)] at c2
            rw [if_pos c2] at e
            refine rg_243_117 (d + 3) ⟨fun c3 => absurd c3 (by decide), fun _ => ?_⟩
            rw [e2, z_w_id (by omega) (by omega)]
            refine ih (k + 1) _ (i + 6) _ (by omega) (by omega) (by omega) (by omega) (by rw [show i + 6 = i + 5 + 1 from by omega]; exact zm_st_pl st1 (by omega) (by omega)) (zc_tr (zc_tr cc c1) (zc_up rfl rfl)) (fun x y z => ?_) e
            rw [z_up_ne (by decide)]
            exact fr1 x y z
          · have c3 : ¬ q (i + 5) = 59 := fun z => c2 ((zm_h_s (by decide)).mpr z)
            rw [if_neg c3] at e
            rw [e2]
            refine kn_wrongs (d + 3) st1 (by omega) (by omega) (fun N2 m2 st2 => ?_)
            rw [zm_f0, show -1000 * 1 - (i + 5) = -1000 - (i + 5) from by omega] at st2
            have e5 : N2 13 2 = i + 5 := st2.2.2.2.2.2.1
            refine rg_243_117 (d + 3) ⟨fun c3 => absurd c3 (by decide), fun _ => ?_⟩
            rw [e5, z_w_id (by omega) (by omega)]
            exact bad (k + 1) 1 _ (i + 5 + 1) _ (by omega) e.symm (zc_tr (zc_tr (zc_tr cc c1) (zc_mm m2)) (zc_up rfl rfl)) (zm_st_pl st2 (by omega) (by omega))
      · rw [w1]
        rw [e1] at e
        exact kn_good0 (d + 3) (by omega) st1 (z_n1 (rg_243_93 (d + 3) (rg_243_94 (d + 3) ⟨fun _ => rg_243_117 (d + 3) ⟨fun _ => bad (k + 1) 0 x j N1 x0 e.symm (zc_tr cc c1) st1, fun c2 => absurd rfl c2⟩, fun c2 => absurd rfl c2⟩)))
  exact key 27 0 _ 0 L (by decide) (by decide) (by decide) (by omega) stL cL frL rfl
end ZTWM
