/-! REPORTS: their text, the class -/
/-- the head of a line: who, when, the slip, the place behind -/
def zp_hd (q : Int → Int) (T : Int → Bool) (k i : Int) : Int ⊕ (Int × Int × Int × Int) :=
  if ¬ zr_l q i then .inl (-1000 - i) else if k = 40 then .inl (-4000 - i) else if T (q i - 97) = false then .inl (-7000 - i) else
  match zr_mn q (i + 1) with
  | .inl f => .inl f
  | .inr (m, j) => if q j = 126 then (if zr_d q (j + 1) then .inr (q i - 97, m, q (j + 1) - 48, j + 2) else .inl (-1000 - (j + 1))) else .inr (q i - 97, m, 0, j)
def zp_oth (q : Int → Int) (T : Int → Bool) (p i : Int) : Int ⊕ Int :=
  if ¬ zr_l q i then .inl (-1000 - i) else if T (q i - 97) = false then .inl (-7000 - i) else if q i - 97 = p then .inl (-6000 - i) else .inr (q i - 97)
def zp_cst (q : Int → Int) (i : Int) : Int ⊕ Int :=
  if ¬ zr_d q i then .inl (-1000 - i) else if 7 < q i - 48 then .inl (-3000 - i) else if ¬ zr_d q (i + 1) then .inl (-1000 - (i + 1)) else .inr (10 * (q i - 48) + (q (i + 1) - 48))
abbrev zp_kd (c : Int) : Prop := c = 115 ∨ c = 111 ∨ c = 104 ∨ c = 105 ∨ c = 119 ∨ c = 102
/-- what is told behind the other person's letter -/
def zp_of (q : Int → Int) (c o j : Int) : Int ⊕ (Int × Int × Int × Int) :=
  if c = 102 then (match zp_cst q j with
    | .inl f => .inl f
    | .inr v => .inr (c, o, v, j + 2))
  else if c = 105 ∨ c = 119 then (match zr_sp q j with
    | .inl f => .inl f
    | .inr v => .inr (c, o, v, j + 2))
  else .inr (c, o, -1, j)
/-- the tail of a line: kind, other, what, the place behind -/
def zp_ta (q : Int → Int) (T : Int → Bool) (p j : Int) : Int ⊕ (Int × Int × Int × Int) :=
  if ¬ zp_kd (q j) then .inl (-1000 - j) else
  if q j = 105 ∨ q j = 102 then zp_of q (q j) (-1) (j + 1) else
  match zp_oth q T p (j + 1) with
  | .inl f => .inl f
  | .inr o => zp_of q (q j) o (j + 2)
def zp_row (p m s c o t : Int) (x : Nat) : Int := if x = 0 then p else if x = 1 then m else if x = 2 then s else if x = 3 then c else if x = 4 then o else t
def zp_ln (q : Int → Int) (T : Int → Bool) (k i : Int) : Int ⊕ ((Nat → Int) × Int) :=
  match zp_hd q T k i with
  | .inl f => .inl f
  | .inr (p, m, s, j) => match zp_ta q T p j with
    | .inl f => .inl f
    | .inr (c, o, t, j2) => .inr (zp_row p m s c o t, j2)
def zp_put (R : Int → Nat → Int) (k : Int) (r : Nat → Int) : Int → Nat → Int := fun x => if x = k then r else R x
def zp_go (q : Int → Int) (T : Int → Bool) : Nat → Int → (Int → Nat → Int) → Int → Int ⊕ (Int × (Int → Nat → Int))
  | 0, _, _, _ => .inl (-1)
  | f + 1, k, R, i => match zp_ln q T k i with
    | .inl x => .inl x
    | .inr (r, j) => if q j = -1 then .inr (k + 1, zp_put R k r) else if q j = 59 then zp_go q T f (k + 1) (zp_put R k r) (j + 1) else .inl (-1000 - j)
def zp_v (q : Int → Int) (T : Int → Bool) (k : Int) (R : Int → Nat → Int) : Int ⊕ (Int × (Int → Nat → Int)) := zp_go q T (41 - k).toNat k R 0
/-- the class's way to write none -/
def zp_cv (c : Nat) (x : Int) : Int := if 4 ≤ c ∧ x = -1 then -2 else x
section ZRP
variable {S M N : z_M} {Q : z_V → z_M → Prop} {q : Int → Int} {n i : Int}
theorem zr_llt (h : zr_T q n) (hd : zr_l q i) : i < n := by
  by_cases c : i < n
  · exact c
  · have := h.2.2.2 i (by omega); omega
theorem kr_letter (d : Nat) (h : zr_st q n i N) (h1 : zr_l q i → i < n → zr_st q n (i + 1) (z_up N 2 3 (i + 1)) → Q (z_I (q i - 97)) (z_up N 2 3 (i + 1))) (h0 : ¬ zr_l q i → ∀ N', zr_bad (-1000 - i) N N' → Q (z_I (-1)) N') : z_Cl 0 (d + 2) 102 [z_R 2] N Q := by
  refine re_102 (d + 1) (kr_next (d + 1) h (z_viI ⟨fun c => kr_wrong d h (fun N' b => z_viI (h0 (by omega) N' b)), fun c => ⟨fun c2 => ?_, fun c2 => kr_wrong d h (fun N' b => z_viI (h0 (by omega) N' b))⟩⟩))
  have hl := zr_llt h.1 (q := q) (i := i) ⟨c, c2⟩
  refine kr_skip (d + 1) h hl (fun st => ?_)
  rw [z_w_id (x := q i - 97) (by omega) (by omega)]
  exact h1 ⟨c, c2⟩ hl st
/-- who is told, for letters -/
def zp_T (S : z_M) : Int → Bool := fun p => decide (S 304067 (3 * p) = 1)
theorem zp_Tt {p : Int} (h0 : 0 ≤ p) (h1 : p < 10) : z_tl S p ↔ zp_T S p = true := by
  unfold zp_T
  rw [decide_eq_true_iff]
  exact ⟨fun h => h.2.2, fun h => ⟨h0, h1, h⟩⟩
theorem kr_other (d : Nat) {p : Int} (hS : z_sit S N) (hI : z_IPeo S) (h : zr_st q n i N) (h1 : ∀ (o : Int) (N' : z_M), zp_oth q (zp_T S) p i = .inr o → 0 ≤ o → o < 10 → zr_mv N N' → zr_st q n (i + 1) N' → Q (z_I o) N') (h0 : ∀ (f : Int) (N' : z_M), zp_oth q (zp_T S) p i = .inl f → zr_bad f N N' → Q (z_I (-1)) N') : z_Cl 0 (d + 3) 103 [z_R 7, z_R 2, z_I p] N Q := by
  have hp := h.2.2.1
  have hn := h.1.2.1
  have hpn := h.2.2.2.1
  unfold zp_oth at h1 h0
  refine re_103 (d + 2) (kr_place (d + 2) h (z_viI (kr_letter d h (fun hl il st => z_viI ⟨fun _ => ?_, fun c => absurd c (by omega)⟩) (fun hl N' b => z_viI ⟨fun c => absurd c (by decide), fun _ => h0 _ N' (if_pos hl) b⟩))))
  have mv : zr_mv N (z_up N 2 3 (i + 1)) := zr_mv_up (by decide)
  generalize z_up N 2 3 (i + 1) = N1 at st mv
  rw [if_neg (fun z => z hl)] at h1 h0
  refine kc_isTold (d + 1) (zc_sit hS (zc_mv mv)) hI (fun ht => z_y2 ⟨fun c => ?_, fun c => kr_fail (d + 2) (by omega) (by omega) (fun N' b => z_viI (h0 (-6000 - i) N' ?_ ⟨zr_mv_tr mv b.1, by rw [b.2]; omega⟩))⟩) (fun ht => z_n2 (kr_fail (d + 2) (by omega) (by omega) (fun N' b => z_viI (h0 (-7000 - i) N' ?_ ⟨zr_mv_tr mv b.1, by rw [b.2]; omega⟩))))
  · have e : ¬ zp_T S (q i - 97) = false := by rw [(zp_Tt (by omega) (by omega)).mp ht]; decide
    rw [if_neg e, if_neg c] at h1
    exact h1 _ N1 rfl (by omega) (by omega) mv st
  · have e : ¬ zp_T S (q i - 97) = false := by rw [(zp_Tt (by omega) (by omega)).mp ht]; decide
    rw [if_neg e, if_pos c]
  · have e : zp_T S (q i - 97) = false := by
      cases e : zp_T S (q i - 97) with
      | false => rfl
      | true => exact absurd ((zp_Tt (by omega) (by omega)).mpr e) ht
    rw [if_pos e]
theorem kr_cast (d : Nat) (h : zr_st q n i N) (h1 : ∀ (v : Int) (N' : z_M), zp_cst q i = .inr v → 0 ≤ v → v < 80 → i + 2 ≤ n → zr_mv N N' → zr_st q n (i + 2) N' → Q (z_I v) N') (h0 : ∀ (f : Int) (N' : z_M), zp_cst q i = .inl f → zr_bad f N N' → Q (z_I (-1)) N') : z_Cl 0 (d + 2) 104 [z_R 2] N Q := by
  have hp := h.2.2.1
  have hn := h.1.2.1
  have hpn := h.2.2.2.1
  unfold zp_cst at h1 h0
  refine re_104 (d + 1) (kr_place (d + 1) h (z_viI (kr_digit d h (fun hd il st => z_viI ⟨fun c7 => ⟨fun _ => ?_, fun c => absurd c (by omega)⟩, fun c7 => kr_fail (d + 1) (by omega) (by omega) (fun N' b => z_viI (h0 (-3000 - i) N' (by rw [if_neg (fun z => z hd), if_pos c7]) ⟨zr_mv_tr (zr_mv_up (by decide)) b.1, by rw [b.2]; omega⟩))⟩) (fun hd N' b => z_viI ⟨fun _ => ⟨fun c => absurd c (by decide), fun _ => ⟨fun c => absurd c (by decide), fun _ => h0 _ N' (if_pos hd) b⟩⟩, fun c => absurd c (by decide)⟩))))
  refine kr_digit d st (fun hd2 il2 st2 => z_viI ⟨fun _ => ?_, fun c => absurd c (by omega)⟩) (fun hd2 N' b => z_viI ⟨fun c => absurd c (by decide), fun _ => h0 _ N' (by rw [if_neg (fun z => z hd), if_neg (by omega), if_pos hd2]) ⟨zr_mv_tr (zr_mv_up (by decide)) b.1, b.2⟩⟩)
  rw [z_w_id (x := 10 * (q i - 48)) (by omega) (by omega), z_w_id (by omega) (by omega)]
  have e2 : i + 1 + 1 = i + 2 := by omega
  rw [e2] at st2 ⊢
  exact h1 _ _ (by rw [if_neg (fun z => z hd), if_neg (by omega), if_neg (fun z => z hd2)]) (by omega) (by omega) (by omega) (zr_mv_tr (zr_mv_up (by decide)) (zr_mv_up (by decide))) st2
/-- a row's part is written -/
theorem kr_tell (d : Nat) {p k : Int} (hS : z_sit S N) (hI : z_IPeo S) (h : zr_st q n i N) (k0 : 0 ≤ k) (k1 : k < 40) (hk : N 7 6 = k)
    (h1 : ∀ (c o t j : Int) (N' : z_M), zp_ta q (zp_T S) p i = .inr (c, o, t, j) → zc_c N N' → zr_st q n j N' → N' 7 = N 7 → (∀ x : Int, x < 6 * k + 3 → N' 2401036 x = N 2401036 x) → N' 2401036 (6 * k + 3) = c → N' 2401036 (6 * k + 4) = zp_cv 4 o → N' 2401036 (6 * k + 5) = zp_cv 5 t → Q (z_I 1) N')
    (h0 : ∀ (f : Int) (N' : z_M), zp_ta q (zp_T S) p i = .inl f → zc_c N N' → N' 2 4 = f → Q (z_I 0) N') : z_Cl 0 (d + 4) 101 [z_R 7, z_R 2, z_I p] N Q := by
  have hp := h.2.2.1
  have hn := h.1.2.1
  have hpn := h.2.2.2.1
  -- the end: the row is written
  have fin : ∀ (o t o' t' j l4 l5 : Int) (N1 : z_M), o' = zp_cv 4 o → t' = zp_cv 5 t → t' ≠ -1 → zp_ta q (zp_T S) p i = .inr (q i, o, t, j) → zr_mv N N1 → zr_st q n j N1 → z_G 0 (d + 4) z_m101 136 [z_R 7, z_R 2, z_I p, z_I (q i), z_I l4, z_I l5, z_I o', z_I t'] [] N1 Q := by
    intro o t o' t' j l4 l5 N1 eo et tn e mv st
    have ek : N1 7 6 = k := by rw [mv.1 7 (by decide)]; exact hk
    have e1 : (z_up N1 2401036 (6 * k + 3) (q i)) 7 6 = k := by rw [z_up_ne (by decide)]; exact ek
    have e2 : (z_up (z_up N1 2401036 (6 * k + 3) (q i)) 2401036 (6 * k + 4) o') 7 6 = k := by rw [z_up_ne (by decide)]; exact e1
    refine rg_101_136 (d + 3) ⟨fun _ => ?_, fun c => absurd c tn⟩
    rw [ek, z_w_id (x := 6 * k) (by omega) (by omega), z_w_id (x := 6 * k + 3) (by omega) (by omega), e1, z_w_id (x := 6 * k) (by omega) (by omega), z_w_id (x := 6 * k + 4) (by omega) (by omega), e2, z_w_id (x := 6 * k) (by omega) (by omega), z_w_id (x := 6 * k + 5) (by omega) (by omega)]
    refine ⟨by omega, by omega, by omega, by omega, by omega, by omega, h1 (q i) o t j _ e (zc_tr (zc_mv mv) (zc_tr (zc_up rfl rfl) (zc_tr (zc_up rfl rfl) (zc_up rfl rfl)))) (zr_st_of st (by rw [z_up_ne (by decide), z_up_ne (by decide), z_up_ne (by decide)]) (by rw [z_up_ne (by decide), z_up_ne (by decide), z_up_ne (by decide)])) (by rw [z_up_ne (by decide), z_up_ne (by decide), z_up_ne (by decide)]; exact mv.1 7 (by decide)) (fun x hx => ?_) ?_ ?_ ?_⟩
    · rw [z_up_nj (by omega), z_up_nj (by omega), z_up_nj (by omega), mv.1 _ (by decide)]
    · rw [z_up_nj (by omega), z_up_nj (by omega), z_up_eq]
    · rw [z_up_nj (by omega), z_up_eq, eo]
    · rw [z_up_eq, et]
  -- behind the other one
  have mid : ∀ (o o' j l4 l5 : Int) (N1 : z_M), o' = zp_cv 4 o → o' ≠ -1 → zp_kd (q i) → (l5 = if q i = 105 ∨ q i = 119 then 1 else 0) → zp_ta q (zp_T S) p i = zp_of q (q i) o j → zr_mv N N1 → zr_st q n j N1 → z_G 0 (d + 4) z_m101 96 [z_R 7, z_R 2, z_I p, z_I (q i), z_I l4, z_I l5, z_U, z_U] [z_I o'] N1 Q := by
    intro o o' j l4 l5 N1 eo on kd e5 e mv st
    refine rg_101_96 (d + 3) ⟨fun _ => ⟨fun c => ⟨fun c2 => ?_, fun c2 => kr_cast (d + 1) st (fun v N2 e2 v0 v1 jn mv2 st2 => z_viI (fin o v o' v (j + 2) l4 l5 N2 eo ?_ (by omega) ?_ (zr_mv_tr mv mv2) st2)) (fun f N2 e2 b2 => z_viI ?_)⟩, fun c => kr_spot (d + 1) st (fun v N2 e2 v0 v1 jn mv2 st2 => z_viI (fin o v o' v (j + 2) l4 l5 N2 eo ?_ (by omega) ?_ (zr_mv_tr mv mv2) st2)) (fun f N2 e2 b2 => z_viI ?_)⟩, fun c => absurd c on⟩
    · have h5 : ¬ (q i = 105 ∨ q i = 119) := fun z => by rw [if_pos z] at e5; omega
      refine fin o (-1) o' (-2) j l4 l5 N1 eo rfl (by decide) ?_ mv st
      rw [e]; unfold zp_of; rw [if_neg c2, if_neg h5]
    · unfold zp_cv; rw [if_neg (by omega)]
    · rw [e]; unfold zp_of; rw [if_pos c2, e2, c2]
    · refine rg_101_136 (d + 3) ⟨fun z => absurd rfl z, fun _ => h0 f N2 ?_ (zc_tr (zc_mv mv) (zc_mv b2.1)) b2.2⟩
      rw [e]; unfold zp_of; rw [if_pos c2, e2]
    · unfold zp_cv; rw [if_neg (by omega)]
    · have h5 : q i = 105 ∨ q i = 119 := by
        by_cases z : q i = 105 ∨ q i = 119
        · exact z
        · rw [if_neg z] at e5; exact absurd e5 c
      rw [e]; unfold zp_of; rw [if_neg (by omega), if_pos h5, e2]
    · have h5 : q i = 105 ∨ q i = 119 := by
        by_cases z : q i = 105 ∨ q i = 119
        · exact z
        · rw [if_neg z] at e5; exact absurd e5 c
      refine rg_101_136 (d + 3) ⟨fun z => absurd rfl z, fun _ => h0 f N2 ?_ (zc_tr (zc_mv mv) (zc_mv b2.1)) b2.2⟩
      rw [e]; unfold zp_of; rw [if_neg (by omega), if_pos h5, e2]
  -- behind the kind
  have kind : ∀ (l4 l5 : Int), zp_kd (q i) → (l4 = if q i = 105 ∨ q i = 102 then 0 else 1) → (l5 = if q i = 105 ∨ q i = 119 then 1 else 0) → z_G 0 (d + 4) z_m101 76 [z_R 7, z_R 2, z_I p, z_I (q i), z_I l4, z_I l5, z_U, z_U] [] N Q := by
    intro l4 l5 kd e4 e5
    have hi : i < n := by
      by_cases c : i < n
      · exact c
      · have := h.1.2.2.2 i (by omega); omega
    refine rg_101_76 (d + 3) (kr_skip (d + 3) h hi (fun st => ?_))
    have mv : zr_mv N (z_up N 2 3 (i + 1)) := zr_mv_up (by decide)
    generalize z_up N 2 3 (i + 1) = N1 at st mv
    refine ⟨fun c => ?_, fun c => ?_⟩
    · have h4 : q i = 105 ∨ q i = 102 := by
        by_cases z : q i = 105 ∨ q i = 102
        · exact z
        · rw [if_neg z] at e4; omega
      refine mid (-1) (-2) (i + 1) l4 l5 N1 rfl (by decide) kd e5 ?_ mv st
      unfold zp_ta; rw [if_neg (fun z => z kd), if_pos h4]
    · have h4 : ¬ (q i = 105 ∨ q i = 102) := fun z => by rw [if_pos z] at e4; exact c e4
      have ez : zp_ta q (zp_T S) p i = (match zp_oth q (zp_T S) p (i + 1) with
        | .inl f => .inl f
        | .inr o => zp_of q (q i) o (i + 2)) := by unfold zp_ta; rw [if_neg (fun z => z kd), if_neg h4]
      refine kr_other d (zc_sit hS (zc_mv mv)) hI st (fun o N2 e2 o0 o1 mv2 st2 => z_viI (mid o o (i + 2) l4 l5 N2 ?_ (by omega) kd e5 (by rw [ez, e2]) (zr_mv_tr mv mv2) (by rw [show i + 2 = i + 1 + 1 from by omega]; exact st2))) (fun f N2 e2 b2 => z_viI (rg_101_96 (d + 3) ⟨fun z => absurd rfl z, fun _ => h0 f N2 (by rw [ez, e2]) (zc_tr (zc_mv mv) (zc_mv b2.1)) b2.2⟩))
      unfold zp_cv; rw [if_neg (by omega)]
  refine re_101 (d + 3) (kr_next (d + 3) h (z_viI ⟨fun c => ?_, fun c1 => ⟨fun c => ?_, fun c2 => ⟨fun c => ?_, fun c3 => ⟨fun c4 => ?_, fun c => ?_⟩⟩⟩⟩))
  · refine rg_101_29 (d + 3) (rg_101_34 (d + 3) ⟨fun z => absurd (c.symm.trans z) (by decide), fun _ => ⟨fun _ => rg_101_53 (d + 3) ⟨fun _ => kind 1 0 (Or.inl c) (by rw [if_neg (by omega)]) (by rw [if_neg (by omega)]), fun z => absurd z (by decide)⟩, fun z => absurd (c.symm.trans z) (by decide)⟩⟩)
  · refine rg_101_29 (d + 3) (rg_101_34 (d + 3) ⟨fun z => absurd (c.symm.trans z) (by decide), fun _ => ⟨fun _ => rg_101_53 (d + 3) ⟨fun _ => kind 1 0 (Or.inr (Or.inl c)) (by rw [if_neg (by omega)]) (by rw [if_neg (by omega)]), fun z => absurd z (by decide)⟩, fun z => absurd (c.symm.trans z) (by decide)⟩⟩)
  · refine rg_101_29 (d + 3) (rg_101_34 (d + 3) ⟨fun z => absurd (c.symm.trans z) (by decide), fun _ => ⟨fun _ => rg_101_53 (d + 3) ⟨fun _ => kind 1 0 (Or.inr (Or.inr (Or.inl c))) (by rw [if_neg (by omega)]) (by rw [if_neg (by omega)]), fun z => absurd z (by decide)⟩, fun z => absurd (c.symm.trans z) (by decide)⟩⟩)
  · refine rg_101_34 (d + 3) ⟨fun z => rg_101_48 (d + 3) (rg_101_53 (d + 3) ⟨fun z2 => absurd rfl z2, fun _ => ⟨fun _ => kind 0 1 (by unfold zp_kd; omega) (by rw [if_pos (Or.inl z)]) (by rw [if_pos (Or.inl z)]), fun z2 => absurd z2 (by decide)⟩⟩), fun c5 => ⟨fun _ => rg_101_53 (d + 3) ⟨fun z2 => absurd rfl z2, fun _ => ⟨fun z2 => absurd rfl z2, fun _ => ⟨fun z => kind 0 0 (by unfold zp_kd; omega) (by rw [if_pos (Or.inr z)]) (by rw [if_neg (by omega)]), fun c6 => kr_wrong (d + 2) h (fun N' b => z_viI (z_bl_of (Or.inl rfl) (h0 _ N' ?_ (zc_mv b.1) b.2)))⟩⟩⟩, fun z => absurd z c4⟩⟩
    unfold zp_ta; rw [if_pos (by unfold zp_kd; omega)]
  · refine rg_101_29 (d + 3) (rg_101_34 (d + 3) ⟨fun z => absurd (c.symm.trans z) (by decide), fun _ => ⟨fun z => absurd c z, fun _ => rg_101_48 (d + 3) (rg_101_53 (d + 3) ⟨fun _ => kind 1 1 (by unfold zp_kd; omega) (by rw [if_neg (by omega)]) (by rw [if_pos (Or.inr c)]), fun z => absurd z (by decide)⟩)⟩⟩)
end ZRP
