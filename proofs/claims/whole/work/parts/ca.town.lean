/-! TOWN: its text, the class -/
def zw_kd (c : Int) : Int := if c = 35 then 1 else if c = 46 then 0 else if c = 99 then 2 else -1
def zw_ln (q : Int → Int) (k i : Int) : Int ⊕ (Int × Int × Int) :=
  if zw_kd (q i) = -1 then .inl (-1000 - i) else if k = 26 then .inl (-4000 - i) else
  match zr_sp q (i + 1) with
  | .inl f => .inl f
  | .inr a => match zr_sp q (i + 3) with
    | .inl f => .inl f
    | .inr b => .inr (zw_kd (q i), a, b)
def zw_rc (a b : Int) : Int → Bool := z_rp (z_lo (a % 10) (b % 10)) (z_hi (a % 10) (b % 10)) (z_lo (a / 10) (b / 10)) (z_hi (a / 10) (b / 10) + 1) (z_lo (a % 10) (b % 10))
def zw_pt (g : Int → Int) (v a b : Int) : Int → Int := fun j => if zw_rc a b j = true then v else g j
def zw_go (q : Int → Int) : Nat → Int → (Int → Int) → Int → Int ⊕ (Int → Int)
  | 0, _, _, _ => .inl (-1)
  | f + 1, k, g, i => match zw_ln q k i with
    | .inl x => .inl x
    | .inr (v, a, b) => if q (i + 5) = -1 then .inr (zw_pt g v a b) else if q (i + 5) = 59 then zw_go q f (k + 1) (zw_pt g v a b) (i + 6) else .inl (-1000 - (i + 5))
def zw_val (q : Int → Int) : Int ⊕ (Int → Int) := zw_go q 27 0 (fun _ => 0) 0
theorem zw_kd_b (c : Int) : zw_kd c = -1 ∨ (0 ≤ zw_kd c ∧ zw_kd c ≤ 2) := by
  unfold zw_kd
  split
  · omega
  · split
    · omega
    · split <;> omega
theorem zw_ln_neg {q : Int → Int} {k i f : Int} (hi : 0 ≤ i) (h : zw_ln q k i = .inl f) : f < 0 := by
  have sp_neg : ∀ (j f : Int), 0 ≤ j → zr_sp q j = .inl f → f < 0 := by
    intro j f hj e
    unfold zr_sp at e
    split at e
    · split at e
      · cases e
      · have := Sum.inl.inj e; omega
    · have := Sum.inl.inj e; omega
  unfold zw_ln at h
  split at h
  · have := Sum.inl.inj h; omega
  · split at h
    · have := Sum.inl.inj h; omega
    · split at h
      · rename_i x e
        have := Sum.inl.inj h
        have := sp_neg _ _ (by omega) e
        omega
      · split at h
        · rename_i x e
          have := Sum.inl.inj h
          have := sp_neg _ _ (by omega) e
          omega
        · cases h
theorem zw_ln_k {q : Int → Int} {k i v a b : Int} (h : zw_ln q k i = .inr (v, a, b)) : 0 ≤ v ∧ v ≤ 2 := by
  unfold zw_ln at h
  split at h
  · cases h
  · rename_i hk
    split at h
    · cases h
    · split at h
      · cases h
      · split at h
        · cases h
        · have := congrArg (fun z => z.1) (Sum.inr.inj h)
          dsimp only at this
          have := zw_kd_b (q i)
          omega
theorem zw_go_neg {q : Int → Int} : ∀ (f : Nat) (k : Int) (g : Int → Int) (i x : Int), 0 ≤ i → zw_go q f k g i = .inl x → x < 0 := by
  intro f
  induction f with
  | zero => intro k g i x _ h; have := Sum.inl.inj h; omega
  | succ f ih =>
    intro k g i x hi h
    unfold zw_go at h
    split at h
    · rename_i y e
      have := Sum.inl.inj h
      have := zw_ln_neg hi e
      omega
    · split at h
      · cases h
      · split at h
        · exact ih _ _ _ _ (by omega) h
        · have := Sum.inl.inj h; omega
theorem zw_go_b {q : Int → Int} : ∀ (f : Nat) (k : Int) (g : Int → Int) (i : Int) (g' : Int → Int), (∀ j, 0 ≤ g j ∧ g j ≤ 2) → zw_go q f k g i = .inr g' → ∀ j, 0 ≤ g' j ∧ g' j ≤ 2 := by
  intro f
  induction f with
  | zero => intro k g i g' _ h; cases h
  | succ f ih =>
    intro k g i g' hg h
    unfold zw_go at h
    split at h
    · cases h
    · rename_i v a b e
      have hv := zw_ln_k e
      have hp : ∀ j, 0 ≤ zw_pt g v a b j ∧ zw_pt g v a b j ≤ 2 := by
        intro j
        unfold zw_pt
        split
        · exact hv
        · exact hg j
      split at h
      · rw [← Sum.inr.inj h]; exact hp
      · split at h
        · exact ih _ _ _ _ hp h
        · cases h
section ZTWN
variable {S M N : z_M} {Q : z_V → z_M → Prop} {q : Int → Int} {n i : Int}
theorem zc_pa {A : Nat} {v : Int} {P : Int → Bool} (hk : ∀ j, z_cor A j = false) (hc : z_cch A = false) : zc_c M (z_pa M A v P) := by
  refine ⟨fun k j h => ?_, fun k h => ?_⟩
  · unfold z_pa
    by_cases e : k = A
    · rw [e, hk j] at h; cases h
    · rw [if_neg e]
  · funext j
    unfold z_pa
    by_cases e : k = A
    · rw [e, hc] at h; cases h
    · rw [if_neg e]
theorem z_pa_ne {A k : Nat} {v : Int} {P : Int → Bool} (h : k ≠ A) : z_pa M A v P k = M k := by
  funext j
  unfold z_pa
  rw [if_neg h]
theorem zw_fresh_cor (j : Int) : z_cor 1001016 j = false := rfl
def zw_fr (g : Int → Int) (N : z_M) : Prop := ∀ j : Int, 0 ≤ j → j < 100 → N 1001016 j = g j
theorem kr_townLine (d : Nat) {k : Int} {g : Int → Int} (h : zr_st q n i N) (hf : zw_fr g N)
    (h1 : ∀ (v a b : Int) (N' : z_M), zw_ln q k i = .inr (v, a, b) → k ≠ 26 → zc_c N N' → zr_st q n (i + 5) N' → zw_fr (zw_pt g v a b) N' → Q (z_I 1) N')
    (h0 : ∀ (f : Int) (N' : z_M), zw_ln q k i = .inl f → zc_c N N' → N' 2 4 = f → Q (z_I 0) N') : z_Cl 0 (d + 3) 151 [z_R 3, z_R 2, z_I k] N Q := by
  have hp := h.2.2.1
  have hn := h.1.2.1
  have hpn := h.2.2.2.1
  unfold zw_ln at h1 h0
  -- the kind is good
  have good : ∀ v : Int, zw_kd (q i) = v → v ≠ -1 → q i ≠ -1 → (¬ k = 26 → z_Cl 0 (d + 2) 136 [z_R 2] N (fun _ M3 => z_Cl 0 (d + 2) 142 [z_R 2] M3 (fun v4 M4 => z_vi v4 fun x4 => ((0 ≤ x4 → z_Cl 0 (d + 2) 142 [z_R 2] M4 (fun v5 M5 => z_vi v5 fun x5 => ((0 ≤ x5 → z_Cl 0 (d + 2) 153 [z_R 3, z_I x4, z_I x5, z_I v] M5 (fun _ M6 => Q (z_I 1) M6)) ∧ (x5 < 0 → Q (z_I 0) M5)))) ∧ (x4 < 0 → (((0 : Int) ≤ (-1) → z_Cl 0 (d + 2) 153 [z_R 3, z_I x4, z_I (-1), z_I v] M4 (fun _ M8 => Q (z_I 1) M8)) ∧ ((-1) < (0 : Int) → Q (z_I 0) M4))))))) ∧ (k = 26 → z_Cl 0 (d + 2) 135 [z_R 2] N (fun v11 M11 => z_vi v11 fun x11 => z_Cl 0 (d + 2) 137 [z_R 2, z_I 4, z_I x11] M11 (fun v12 M12 => z_vi v12 fun x12 => z_bl x12 (Q (z_I x12) M12)))) := by
    intro v ev hv qn
    have hi : i < n := by
      by_cases c : i < n
      · exact c
      · exact absurd (h.1.2.2.2 i (by omega)) qn
    rw [ev, if_neg hv] at h1 h0
    refine ⟨fun c => ?_, fun c => kr_place (d + 2) h (z_viI (kr_fail (d + 2) (by omega) (by omega) (fun N' b => z_viI (z_bl_of (Or.inl rfl) (h0 (-4000 - i) N' (if_pos c) (zc_mv b.1) (by rw [b.2]; omega))))))⟩
    rw [if_neg c] at h1 h0
    refine kr_skip (d + 2) h hi (fun st1 => kr_spot d st1 (fun a N2 e2 a0 a1 an mv2 st2 => z_viI ⟨fun _ => ?_, fun c2 => absurd c2 (by omega)⟩) (fun f N2 e2 b2 => z_viI ⟨fun c2 => absurd c2 (by decide), fun _ => ⟨fun c2 => absurd c2 (by decide), fun _ => h0 f N2 (by rw [e2]) (zc_mv (zr_mv_tr (zr_mv_up (by decide)) b2.1)) b2.2⟩⟩))
    rw [e2] at h1 h0
    dsimp only at h1 h0
    rw [show i + 1 + 2 = i + 3 from by omega] at st2
    have mvA : zr_mv N N2 := zr_mv_tr (zr_mv_up (by decide)) mv2
    refine kr_spot d st2 (fun b N3 e3 b0 b1 bn mv3 st3 => z_viI ⟨fun _ => c_fillT (d + 2) ⟨a0, a1⟩ ⟨b0, b1⟩ ?_, fun c2 => absurd c2 (by omega)⟩) (fun f N3 e3 b3 => z_viI ⟨fun c2 => absurd c2 (by decide), fun _ => h0 f N3 (by rw [e3]) (zc_mv (zr_mv_tr mvA b3.1)) b3.2⟩)
    rw [e3] at h1
    have mvB := zr_mv_tr mvA mv3
    refine h1 v a b _ rfl c (zc_tr (zc_mv mvB) (zc_pa zw_fresh_cor rfl)) (zr_st_of (by rw [show i + 5 = i + 3 + 2 from by omega]; exact st3) (z_pa_ne (by decide)) (z_pa_ne (by decide))) (fun j j0 j1 => ?_)
    show (if 1001016 = 1001016 then (if zw_rc a b j = true then v else N3 1001016 j) else N3 1001016 j) = (if zw_rc a b j = true then v else g j)
    rw [if_pos rfl, mvB.1 _ (by decide), hf j j0 j1]
  refine re_151 (d + 2) (kr_next (d + 2) h (z_viI (re_152 (d + 2) ⟨fun c => z_viI ⟨fun _ => ?_, fun c2 => absurd c2 (by decide)⟩, fun c1 => ⟨fun c => z_viI ⟨fun _ => ?_, fun c2 => absurd c2 (by decide)⟩, fun c2 => ⟨fun c => z_viI ⟨fun _ => ?_, fun c3 => absurd c3 (by decide)⟩, fun c3 => z_viI ⟨fun c4 => absurd rfl c4, fun _ => kr_wrong (d + 1) h (fun N' b => z_viI (z_bl_of (Or.inl rfl) (h0 _ N' (if_pos ?_) (zc_mv b.1) b.2)))⟩⟩⟩⟩)))
  · exact good 1 (by unfold zw_kd; rw [if_pos c]) (by decide) (by omega)
  · exact good 0 (by unfold zw_kd; rw [if_neg c1, if_pos c]) (by decide) (by omega)
  · exact good 2 (by unfold zw_kd; rw [if_neg c1, if_neg c2, if_pos c]) (by decide) (by omega)
  · unfold zw_kd; rw [if_neg c1, if_neg c2, if_neg c3]
/-- the class's kinds when a text was read -/
def zw_gr (g old : Int → Int) : Int → Int := fun j => if 0 ≤ j ∧ j < 100 then g j else old j
theorem kr_town (d : Nat) (h : zr_st q n 0 M)
    (h1 : ∀ (g : Int → Int) (N : z_M), zw_val q = .inr g → zc_x (fun a _ => a == 1001015 || a == 100001017) M N → (∀ a, z_cch a = true → N a = M a) → N 2 4 = 0 → N 1001015 = zw_gr g (M 1001015) → (∀ f t : Int, 0 ≤ f → f < 100 → 0 ≤ t → t < 100 → N 100001017 (100 * f + t) = z_aw (N 1001015) f t) → Q (z_I 1) N)
    (h0 : ∀ (f : Int) (N : z_M), zw_val q = .inl f → zc_c M N → N 2 4 = f → Q (z_I 0) N) : z_Cl 0 (d + 4) 150 [z_R 3, z_R 2] M Q := by
  refine re_150 (d + 3) (c_fillI (n := 100) rfl rfl (by decide) ?_)
  have cc0 : zc_c M (z_fl M 1001016 0 100 0) := ⟨fun k j hk => by rw [z_fl_ne (fun c => by rw [c] at hk; cases hk)], fun k hk => z_fl_ne (fun c => by rw [c] at hk; cases hk)⟩
  have st0 : zr_st q n 0 (z_fl M 1001016 0 100 0) := zr_st_of h (z_fl_ne (by decide)) (z_fl_ne (by decide))
  have fr0 : zw_fr (fun _ => 0) (z_fl M 1001016 0 100 0) := fun j a b => z_fl_in a b
  generalize z_fl M 1001016 0 100 0 = M0 at cc0 st0 fr0
  have key : ∀ (f : Nat) (k : Int) (g : Int → Int) (i : Int) (N : z_M), k + (f : Int) = 27 → 0 ≤ k → k ≤ 26 → zr_st q n i N → zc_c M N → zw_fr g N → zw_go q f k g i = zw_val q → z_G 0 (d + 4) z_m150 10 [z_R 3, z_R 2, z_I k] [] N Q := by
    intro f
    induction f with
    | zero =>
      intro k g i N hk _ k26 st cc fr e
      exact absurd hk (by omega)
    | succ f ih =>
      intro k g i N hk k0 k26 st cc fr e
      unfold zw_go at e
      refine rg_150_10 (d + 3) ⟨fun c => absurd c (by omega), fun _ => kr_townLine d st fr (fun v a b N1 e1 kn c1 st1 fr1 => z_y2 ?_) (fun f N1 e1 c1 b1 => z_n2 (h0 f N1 ?_ (zc_tr cc c1) b1))⟩
      · rw [e1] at e
        dsimp only at e
        refine kr_atEnd (d + 3) st1 (fun je qe => z_y1 ⟨by omega, by omega, by omega, by omega, by omega, ?_⟩) (fun jl qn => z_n1 (kr_take (d + 2) st1 (by decide) (fun e59 _ st3 => z_y2 ?_) (fun ne N3 b3 => z_n2 (h0 _ N3 ?_ (zc_tr (zc_tr cc c1) (zc_mv b3.1)) b3.2))))
        · rw [if_pos qe] at e
          have c2 := zc_tr cc c1
          have eg : (z_cp N1 1001016 0 1001015 0 100) 1001015 = zw_gr (zw_pt g v a b) (M 1001015) := by
            funext j
            unfold zw_gr
            by_cases cj : 0 ≤ j ∧ j < 100
            · rw [if_pos cj, zy_cp_on cj.1 cj.2]
              exact fr1 j cj.1 cj.2
            · rw [if_neg cj]
              unfold z_cp
              rw [if_pos rfl, if_neg (by omega)]
              exact congrFun (zc_fn c2 _ rfl) j
          refine kc_measure (d + 1) eg (fun N4 m1 m2 => ?_)
          refine h1 _ N4 e.symm (fun a' j ha hx => ?_) (fun a' ha => ?_) ?_ ((m1 _ (by decide)).trans eg) (fun f t a b c e => ?_)
          · dsimp only at hx
            simp only [Bool.or_eq_false_iff, beq_eq_false_iff_ne] at hx
            rw [m1 _ hx.2, zy_cp_ne hx.1]
            exact c2.1 a' j ha
          · have ne : ∀ c : Nat, z_cch c = false → a' ≠ c := fun c hc2 e => by rw [e, hc2] at ha; cases ha
            rw [m1 _ (ne _ rfl), zy_cp_ne (ne _ rfl)]
            exact c2.2 a' ha
          · rw [m1 _ (by decide), zy_cp_ne (by decide)]
            exact st1.2.2.2.2.2.2
          · rw [m1 _ (show (1001015 : Nat) ≠ 100001017 from by decide), eg]
            exact m2 f t a b c e
        · rw [if_neg qn, if_pos e59] at e
          rw [z_w_id (x := k + 1) (by omega) (by omega)]
          refine ih (k + 1) _ (i + 6) _ (by omega) (by omega) (by omega) (by rw [show i + 6 = i + 5 + 1 from by omega]; exact st3) (zc_tr (zc_tr cc c1) (zc_up rfl rfl)) (fun j j0 j1 => ?_) e
          rw [z_up_ne (by decide)]; exact fr1 j j0 j1
        · rw [← e, if_neg qn, if_neg ne]
      · rw [← e, e1]
  exact key 27 0 _ 0 M0 (by decide) (by decide) (by decide) st0 cc0 fr0 rfl
/-- what was asked of the law is forgotten -/
def zz_fg (M : z_M) : z_M := z_fl (z_fl (z_fl (z_fl M 28801031 0 2880 (-1)) 28801032 0 2880 (-1)) 28801033 0 2880 (-1)) 1921034 0 192 (-1)
theorem zz_fg_n {k : Nat} (h : z_cch k = false) : zz_fg M k = M k := by
  have ne : ∀ c : Nat, z_cch c = true → k ≠ c := fun c hc e => by rw [e, hc] at h; cases h
  unfold zz_fg
  rw [z_fl_ne (ne _ rfl), z_fl_ne (ne _ rfl), z_fl_ne (ne _ rfl), z_fl_ne (ne _ rfl)]
theorem zz_fg_sit (hN : ∀ k, z_cch k = true → N k = zz_fg M k) : z_sit N N := by
  refine ⟨fun _ _ _ => rfl, fun w t a b c e => Or.inl ?_, fun w t a b c e => Or.inl ?_, fun w t a b c e => Or.inl ?_, fun u t a b c e => Or.inl ?_⟩
  · rw [hN _ rfl]
    unfold zz_fg
    rw [z_fl_ne (by decide), z_fl_ne (by decide), z_fl_ne (by decide), z_fl_in (by omega) (by omega)]
  · rw [hN _ rfl]
    unfold zz_fg
    rw [z_fl_ne (by decide), z_fl_ne (by decide), z_fl_in (by omega) (by omega)]
  · rw [hN _ rfl]
    unfold zz_fg
    rw [z_fl_ne (by decide), z_fl_in (by omega) (by omega)]
  · rw [hN _ rfl]
    unfold zz_fg
    rw [z_fl_in (by omega) (by omega)]
def zz_no (N : z_M) : Prop := (∀ w : Int, 0 ≤ w → w < 2880 → N 28801031 w = -1 ∧ N 28801032 w = -1 ∧ N 28801033 w = -1) ∧ ∀ w : Int, 0 ≤ w → w < 192 → N 1921034 w = -1
theorem zz_fg_no (hN : ∀ k, z_cch k = true → N k = zz_fg M k) : zz_no N := by
  refine ⟨fun w a b => ⟨?_, ?_, ?_⟩, fun w a b => ?_⟩
  · rw [hN _ rfl]
    unfold zz_fg
    rw [z_fl_ne (by decide), z_fl_ne (by decide), z_fl_ne (by decide), z_fl_in a b]
  · rw [hN _ rfl]
    unfold zz_fg
    rw [z_fl_ne (by decide), z_fl_ne (by decide), z_fl_in a b]
  · rw [hN _ rfl]
    unfold zz_fg
    rw [z_fl_ne (by decide), z_fl_in a b]
  · rw [hN _ rfl]
    unfold zz_fg
    rw [z_fl_in a b]
theorem zz_no_sit (h : zz_no N) : z_sit N N :=
  ⟨fun _ _ _ => rfl, fun w t a b c e => Or.inl (h.1 _ (by omega) (by omega)).1, fun w t a b c e => Or.inl (h.1 _ (by omega) (by omega)).2.1, fun w t a b c e => Or.inl (h.1 _ (by omega) (by omega)).2.2, fun u t a b c e => Or.inl (h.2 _ (by omega) (by omega))⟩
theorem zr_cl_n {k : Nat} (h : k ≠ 2) : zr_cl N k = N k := by unfold zr_cl; rw [z_up_ne h, z_up_ne h, z_up_ne h]
theorem zr_cl_s : zr_cl N 2 1 = 0 := by unfold zr_cl; rw [z_up_nj (by decide), z_up_nj (by decide), z_up_eq]
/-- of object 2 only the size is core -/
theorem z_cor2s {j : Int} (h : z_cor 2 j = true) : j = 1 := by
  unfold z_cor z_cof at h
  rw [show z_cak 2 = false from rfl] at h
  simp only [Bool.false_or, Bool.or_eq_true, Bool.and_eq_true, beq_iff_eq] at h
  omega
def zw_xc (a : Nat) (j : Int) : Bool := a == 1001015 || a == 100001017 || a == 28801021 || (a == 2 && j == 1)
theorem kc_town (d : Nat) {a : Int} (hS : z_sit S M) (hT : z_ITape S) (hk : ∀ w : Int, 0 ≤ w → w < 30 → 0 ≤ M 301019 w → zk_ok M w)
    (h1 : 1 ≤ a → a ≤ 160 → a ≤ S 2 1 → ∀ (g : Int → Int) (N : z_M), zw_val (zr_q S a) = .inr g → zc_x zw_xc M N → z_sit N N → N 2 1 = 0 → N 1001015 = zw_gr g (M 1001015) → (∀ f t : Int, 0 ≤ f → f < 100 → 0 ≤ t → t < 100 → N 100001017 (100 * f + t) = z_aw (N 1001015) f t) → (∀ w : Int, 0 ≤ w → w < 30 → 0 ≤ M 301019 w → ∀ t : Nat, t < 96 → N 28801021 (96 * w + (t : Int)) = zk_c M (N 1001015) w t) → Q (z_I (z_nnz (N 1001015) 100)) N)
    (h0 : 1 ≤ a → a ≤ 160 → a ≤ S 2 1 → ∀ (f : Int) (N : z_M), zw_val (zr_q S a) = .inl f → z_sit (z_up S 2 1 0) N → Q (z_I f) N)
    (hn : ¬ (1 ≤ a ∧ a ≤ 160 ∧ a ≤ S 2 1) → Q (z_I (-1)) M) : z_Cl 0 (d + 5) 168 [z_R 1, z_I a] M Q := by
  refine re_168 (d + 4) (kr_open (d + 4) hS hT (fun a1 a2 a3 N0 mv st => z_y2 (kr_town d st (fun g N e cx cc cf ek ea => z_y1 ?_) (fun f N e cc cf => z_n1 (c_notPlain (d + 4) (z_viI (kr_close (d + 3) (fun c => ?_) (fun c => z_viI ?_))))))) (fun c => z_n2 (hn c)))
  · have c0 := zc_mv mv
    have cx1 : zc_x (fun a _ => a == 1001015 || a == 100001017) M N := fun b j hb hx => (cx b j hb hx).trans (c0.1 b j hb)
    have e1 : N 301019 = M 301019 := zc_x_n cx1 _ rfl (fun _ => rfl)
    have e2 : N 301018 = M 301018 := zc_x_n cx1 _ rfl (fun _ => rfl)
    have e3 : N 28501020 = M 28501020 := zc_x_n cx1 _ rfl (fun _ => rfl)
    have eM : N0 1001015 = M 1001015 := mv.1 _ (by decide)
    refine kc_walk (d + 1) (g := N 1001015) rfl (fun w a b l => by unfold zk_ok; rw [e1, e2, e3]; rw [e1] at l; exact hk w a b l) (fun N2 m1 m2 => c_forget (d + 3) (c_notPlain (d + 4) (z_viI (kr_close (d + 3) (fun _ => z_viI ?_) (fun c => ?_)))))
    · show Q (z_I (z_nnz ((zz_fg N2) 1001015) 100)) (zr_cl (zz_fg N2))
      have eK : (zr_cl (zz_fg N2)) 1001015 = N 1001015 := by rw [zr_cl_n (by decide), zz_fg_n rfl]; exact m1 _ (by decide)
      have eK2 : (zz_fg N2) 1001015 = N 1001015 := by rw [zz_fg_n rfl]; exact m1 _ (by decide)
      have cx2 : zc_x zw_xc M (zr_cl (zz_fg N2)) := by
        intro b j hb hx
        unfold zw_xc at hx
        simp only [Bool.or_eq_false_iff, beq_eq_false_iff_ne] at hx
        obtain ⟨⟨⟨x1, x2⟩, x3⟩, x4⟩ := hx
        by_cases c : b = 2
        · subst c
          rw [z_cor2s hb] at x4; cases x4
        · have nc : z_cch b = false := by
            cases hc : z_cch b with
            | false => rfl
            | true =>
              unfold z_cch at hc
              simp only [Bool.or_eq_true, beq_iff_eq] at hc
              rcases hc with ((e | e) | e) | e <;> rw [e] at hb <;> cases hb
          rw [zr_cl_n c, zz_fg_n nc, m1 _ x3]
          exact cx1 b j hb (by simp only [Bool.or_eq_false_iff, beq_eq_false_iff_ne]; exact ⟨x1, x2⟩)
      have := h1 a1 a2 a3 g (zr_cl (zz_fg N2)) e cx2 (zz_fg_sit (M := N2) (fun k hk => zr_cl_n (fun c => by rw [c] at hk; cases hk))) zr_cl_s (by rw [eK, ek, eM]) (fun f t a b c e => ?_) (fun w a b l t ht => ?_)
      · rw [eK] at this; rw [eK2]; exact this
      · rw [eK, zr_cl_n (by decide), zz_fg_n rfl, m1 _ (by decide)]; exact ea f t a b c e
      · rw [eK, zr_cl_n (by decide), zz_fg_n rfl, m2 w a b (by rw [e1]; exact l) t ht]
        unfold zk_c
        rw [e1, e2, e3]
    · have : (zz_fg N2) 2 4 = 0 := by rw [zz_fg_n rfl, m1 _ (by decide)]; exact cf
      exact absurd this c
  · have := zw_go_neg _ _ _ _ _ (by omega) e
    omega
  · rw [cf]
    exact h0 a1 a2 a3 f _ e (zr_cl_sit (zc_sit (zc_sit hS (zc_mv mv)) cc))
end ZTWN
