/-! WHAT DEPENDS ON WHAT STAYS; OPS: where, check, count -/
def z_cor2 (k : Nat) (j : Int) : Bool := z_cor k j && !(k == 2 && j == 1) && !(k == 13 && j == 1) && !(k == 10241045)
def z_eq2 (S S' : z_M) : Prop := ∀ k j, z_cor2 k j = true → S' k j = S k j
theorem z_e2k {S S' : z_M} (h : z_eq2 S S') (k : Nat) (hk : z_cak k = true) (h2 : (k == 2) = false) (h13 : (k == 13) = false) (hq : (k == 10241045) = false := by decide) : S' k = S k := funext fun j => h k j (by unfold z_cor2 z_cor; rw [hk, h2, h13, hq]; rfl)
section ZTRA
variable {S S' : z_M}
theorem z_evh_tr (h : z_eq2 S S') : z_evh S' = z_evh S := by
  funext nm a b
  unfold z_evh
  rw [z_e2k h 2401080 rfl rfl rfl, z_e2k h 2401081 rfl rfl rfl]
theorem z_tel_tr (h : z_eq2 S S') (nm : Int → Int) (le most : Int) : ∀ (n : Nat) (k : Int), z_tel S' nm le most n k = z_tel S nm le most n k := by
  intro n
  induction n with
  | zero => intro k; rfl
  | succ n ih =>
    intro k
    unfold z_tel
    rw [z_e2k h 161076 rfl rfl rfl, z_e2k h 161078 rfl rfl rfl, z_e2k h 161079 rfl rfl rfl, z_e2k h 161077 rfl rfl rfl, z_evh_tr h, ih]
theorem z_rk_tr (h : z_eq2 S S') : zv_rk S' = zv_rk S := by
  funext le most t u p s
  unfold zv_rk
  rw [h 13 29 rfl, z_tel_tr h]
theorem z_ps_tr (h : z_eq2 S S') : z_ps S' = z_ps S := by
  funext w t
  unfold z_ps
  rw [z_e2k h 28801021 rfl rfl rfl]
theorem z_ICa_tr {M : z_M} (h : z_eq2 S S') (g : z_ICa S M) : z_ICa S' M := by
  have e1 : z_vw S' = z_vw S := by funext w t; unfold z_vw; rw [z_rk_tr h, z_ps_tr h]
  have e2 : z_cw S' = z_cw S := by funext w t; unfold z_cw; rw [z_rk_tr h, z_ps_tr h]
  have e3 : z_ct S' = z_ct S := by funext t u; unfold z_ct; rw [z_rk_tr h]
  have e4 : zv_sn S' = zv_sn S := by
    funext w t
    unfold zv_sn z_snb
    rw [z_e2k h 304067 rfl rfl rfl, z_e2k h 1001015 rfl rfl rfl, z_ps_tr h, e1]
  unfold z_ICa
  rw [e1, e2, e3, e4]
  exact g
theorem z_IPeo_tr (h : z_eq2 S S') (g : z_IPeo S) : z_IPeo S' := by
  unfold z_IPeo
  rw [z_e2k h 304067 rfl rfl rfl, z_e2k h 301019 rfl rfl rfl, z_e2k h 301069 rfl rfl rfl, z_e2k h 101091 rfl rfl rfl, z_e2k h 101023 rfl rfl rfl, z_e2k h 28801071 rfl rfl rfl, z_e2k h 28801021 rfl rfl rfl, h 13 48 rfl, h 4 9 rfl]
  exact g
theorem z_ITown_tr (h : z_eq2 S S') (g : z_ITown S) : z_ITown S' := by
  unfold z_ITown
  rw [z_e2k h 1001015 rfl rfl rfl, z_e2k h 1001065 rfl rfl rfl, z_e2k h 100001017 rfl rfl rfl]
  exact g
theorem z_ILm_tr (h : z_eq2 S S') (g : z_ILm S) : z_ILm S' := by
  unfold z_ILm
  rw [h 13 29 rfl, z_e2k h 2401080 rfl rfl rfl, z_e2k h 161077 rfl rfl rfl, z_e2k h 161078 rfl rfl rfl, z_e2k h 161079 rfl rfl rfl]
  exact g
theorem z_ILc_tr (h : z_eq2 S S') (g : z_ILc S) : z_ILc S' := by
  unfold z_ILc
  rw [h 13 29 rfl, h 5 6 rfl, z_e2k h 641027 rfl rfl rfl, z_e2k h 2401025 rfl rfl rfl, z_e2k h 161076 rfl rfl rfl, z_e2k h 161077 rfl rfl rfl, z_e2k h 161078 rfl rfl rfl, z_e2k h 161079 rfl rfl rfl, z_evh_tr h]
  exact g
theorem z_IS_tr (h : z_eq2 S S') (g : z_IS S) : z_IS S' := ⟨z_IPeo_tr h g.1, z_ITown_tr h g.2.1, z_ILm_tr h g.2.2.1, z_ILc_tr h g.2.2.2⟩
theorem z_IRep_tr (h : z_eq2 S S') (g : z_IRep S) : z_IRep S' := by
  unfold z_IRep z_rowok z_oth
  rw [h 13 49 rfl, h 7 5 rfl, z_e2k h 2401035 rfl rfl rfl, z_e2k h 401092 rfl rfl rfl, z_e2k h 401093 rfl rfl rfl, z_e2k h 401094 rfl rfl rfl, z_e2k h 401095 rfl rfl rfl, z_e2k h 401096 rfl rfl rfl, z_e2k h 401097 rfl rfl rfl, z_e2k h 304067 rfl rfl rfl]
  exact g
theorem z_ITr_tr (h : z_eq2 S S') (g : z_ITr S) : z_ITr S' := by
  unfold z_ITr
  rw [h 13 81 rfl, h 11 5 rfl, z_e2k h 121050 rfl rfl rfl, z_e2k h 121112 rfl rfl rfl, z_e2k h 121051 rfl rfl rfl, z_e2k h 121113 rfl rfl rfl]
  exact g
theorem z_ITk_tr (h : z_eq2 S S') (g : z_ITk S) : z_ITk S' := by
  unfold z_ITk
  rw [z_e2k h 101056 rfl rfl rfl, z_e2k h 101116 rfl rfl rfl]
  exact g
/-- things -/
def z_ITh (S : z_M) : Prop := ∀ i : Int, 0 ≤ i → i < 6 → S 241058 (4 * i) = S 61120 i ∧ (S 61120 i = -1 ∨ (0 ≤ S 61120 i ∧ S 61120 i < 100)) ∧ ((S 64121 i = 0 ∧ S 241058 (4 * i + 1) = -1) ∨ (S 64121 i = 1 ∧ S 241058 (4 * i + 1) = S 61122 i ∧ (0 ≤ S 61122 i ∧ S 61122 i < 10 ∧ S 304067 (3 * S 61122 i) = 1) ∧ S 241058 (4 * i + 2) = S 61123 i ∧ S 241058 (4 * i + 3) = S 61124 i ∧ 0 ≤ S 61123 i ∧ S 61123 i ≤ S 61124 i ∧ S 61124 i < 96))
theorem z_ITh_tr (h : z_eq2 S S') (g : z_ITh S) : z_ITh S' := by
  unfold z_ITh
  rw [z_e2k h 241058 rfl rfl rfl, z_e2k h 61120 rfl rfl rfl, z_e2k h 64121 rfl rfl rfl, z_e2k h 61122 rfl rfl rfl, z_e2k h 61123 rfl rfl rfl, z_e2k h 61124 rfl rfl rfl, z_e2k h 304067 rfl rfl rfl]
  exact g
theorem z_eq2_2 (x : Int) : z_eq2 S (z_up S 2 1 x) := by
  intro k j hk
  unfold z_up
  by_cases e : k = 2
  · rw [if_pos e]
    by_cases e2 : j = 1
    · subst e; subst e2; cases hk
    · rw [if_neg e2, e]
  · rw [if_neg e]
theorem z_eq2_13 (x : Int) : z_eq2 S (z_up S 13 1 x) := by
  intro k j hk
  unfold z_up
  by_cases e : k = 13
  · rw [if_pos e]
    by_cases e2 : j = 1
    · subst e; subst e2; cases hk
    · rw [if_neg e2, e]
  · rw [if_neg e]
/-- the tape's length is told anew -/
theorem z_sit_2 {M : z_M} (h : z_sit S M) (x : Int) : z_sit (z_up S 2 1 x) (z_up M 2 1 x) := by
  refine ⟨fun k j hk => ?_, ?_⟩
  · unfold z_up
    by_cases e : k = 2
    · rw [if_pos e, if_pos e]
      by_cases e2 : j = 1
      · rw [if_pos e2, if_pos e2]
      · rw [if_neg e2, if_neg e2]; exact h.1 k j hk
    · rw [if_neg e, if_neg e]; exact h.1 k j hk
  · have g := z_ICa_tr (z_eq2_2 (S := S) x) h.2
    unfold z_ICa at g ⊢
    rw [z_up_ne (M := M) (by decide), z_up_ne (M := M) (by decide), z_up_ne (M := M) (by decide), z_up_ne (M := M) (by decide)]
    exact g
theorem z_sit_13 {M : z_M} (h : z_sit S M) (x : Int) : z_sit (z_up S 13 1 x) (z_up M 13 1 x) := by
  refine ⟨fun k j hk => ?_, ?_⟩
  · unfold z_up
    by_cases e : k = 13
    · rw [if_pos e, if_pos e]
      by_cases e2 : j = 1
      · rw [if_pos e2, if_pos e2]
      · rw [if_neg e2, if_neg e2]; exact h.1 k j hk
    · rw [if_neg e, if_neg e]; exact h.1 k j hk
  · have g := z_ICa_tr (z_eq2_13 (S := S) x) h.2
    unfold z_ICa at g ⊢
    rw [z_up_ne (M := M) (by decide), z_up_ne (M := M) (by decide), z_up_ne (M := M) (by decide), z_up_ne (M := M) (by decide)]
    exact g
end ZTRA
section ZOPG
variable {S M : z_M} {Q : z_V → z_M → Prop}
/-- where a thing is -/
def z_o37 (S : z_M) (i t : Int) : Int := if (0 ≤ i ∧ i < 6 ∧ S 61120 i ≠ -1) ∧ 0 ≤ t ∧ t < 96 then (if S 64121 i = 0 ∨ t < S 61123 i ∨ z_sp S (S 61122 i) (S 61123 i) ≠ S 61120 i then S 61120 i else z_sp S (S 61122 i) (z_min t (S 61124 i))) else -1
theorem kc_isLaid (d : Nat) {i : Int} (hS : z_sit S M) (hH : z_ITh S) (h1 : 0 ≤ i → i < 6 → S 61120 i ≠ -1 → Q (z_I 1) M) (h0 : ¬ (0 ≤ i ∧ i < 6 ∧ S 61120 i ≠ -1) → Q (z_I 0) M) : z_Cl 0 (d + 1) 55 [z_R 11, z_I i] M Q := by
  refine re_55 d (re_54 d ⟨fun c => z_n1 (h0 (by omega)), fun c => ⟨fun c2 => z_n1 (h0 (by omega)), fun c2 => z_y1 ?_⟩⟩)
  rw [z_w_id (x := 4 * i) (by omega) (by omega), z_w_id (x := 4 * i + 0) (by omega) (by omega), Int.add_zero, z_fn hS 241058 rfl, (hH i c c2).1]
  exact ⟨by omega, by omega, fun c3 => h0 (fun z => z.2.2 c3), fun c3 => h1 c c2 c3⟩
theorem km_isThing (d : Nat) {i : Int} (hS : z_sit S M) (h1 : 0 ≤ i → i < 6 → S 61120 i ≠ -1 → Q (z_I 1) M) (h0 : ¬ (0 ≤ i ∧ i < 6 ∧ S 61120 i ≠ -1) → Q (z_I 0) M) : z_Cl 0 (d + 1) 365 [z_R 13, z_I i] M Q := by
  refine re_365 d (km_lies d (fun c c2 => z_y1 ?_) (fun c => z_n1 (h0 (by omega))))
  rw [z_fn hS 61120 rfl]
  exact ⟨c, by omega, fun c3 => h0 (fun z => z.2.2 c3), fun c3 => h1 c (by omega) c3⟩
theorem kc_where (d : Nat) {i t : Int} (hS : z_sit S M) (hI : z_IS S) (hH : z_ITh S) (h : ∀ M' : z_M, z_sit S M' → Q (z_I (z_o37 S i t)) M') : z_Cl 0 (d + 3) 204 [z_R 1, z_I i, z_I t] M Q := by
  have h0 := h M hS
  unfold z_o37 at h0
  have no : ¬ ((0 ≤ i ∧ i < 6 ∧ S 61120 i ≠ -1) ∧ 0 ≤ t ∧ t < 96) → Q (z_I (-1)) M := fun c => by rw [if_neg c] at h0; exact h0
  refine re_204 (d + 2) (kc_isLaid (d + 1) hS hH (fun i0 i1 i2 => z_y1 (kc_isMinute (d + 2) (fun t0 t1 => z_y1 (re_59 (d + 1) ?_)) (fun c => z_n1 (no (fun z => by have := z.2; omega))))) (fun c => z_n1 (no (fun z => c z.1))))
  rw [if_pos ⟨⟨i0, i1, i2⟩, t0, t1⟩] at h0
  obtain ⟨q1, q2, q3⟩ := hH i i0 i1
  rw [z_w_id (x := 4 * i) (by omega) (by omega), z_w_id (x := 4 * i + 0) (by omega) (by omega), z_w_id (x := 4 * i + 1) (by omega) (by omega), z_w_id (x := 4 * i + 2) (by omega) (by omega), z_w_id (x := 4 * i + 3) (by omega) (by omega), Int.add_zero, z_fn hS 241058 rfl, q1]
  refine ⟨by omega, by omega, by omega, by omega, by omega, by omega, fun c => z_viI ?_, fun c => ?_⟩
  · rcases q3 with ⟨a, b⟩ | ⟨a, b, ⟨e, _⟩, _⟩
    · rw [if_pos (Or.inl a)] at h0; exact h0
    · omega
  · rcases q3 with ⟨a, b⟩ | ⟨a, b, e, f1, f2, f3, f4, f5⟩
    · exact absurd b c
    · rw [f1, b]
      refine ⟨fun c2 => z_viI ?_, fun c2 => kc_spotToday d hS hI.1 e f3 (by omega) (z_viI ⟨fun c3 => ⟨by omega, by omega, ?_⟩, fun c3 => z_viI ?_⟩)⟩
      · rw [if_pos (Or.inr (Or.inl c2))] at h0; exact h0
      · rw [z_fn hS 241058 rfl, f2]
        rw [if_neg (fun z => z.elim (fun z => by omega) (fun z => z.elim (fun z => by omega) (fun z => z c3)))] at h0
        refine kc_spotToday d hS hI.1 e ?_ ?_ (z_viI (z_viI h0))
        · unfold z_min; split <;> omega
        · unfold z_min; split <;> omega
      · rw [if_pos (Or.inr (Or.inr c3))] at h0; exact h0
theorem km_where (d : Nat) {i t : Int} (hS : z_sit S M) (hI : z_IS S) (hH : z_ITh S) (h : ∀ M' : z_M, z_sit S M' → Q (z_I (z_o37 S i t)) M') : z_Cl 0 (d + 2) 368 [z_R 13, z_I i, z_I t] M Q := by
  have h0 := h M hS
  unfold z_o37 at h0
  have no : ¬ ((0 ≤ i ∧ i < 6 ∧ S 61120 i ≠ -1) ∧ 0 ≤ t ∧ t < 96) → Q (z_I (-1)) M := fun c => by rw [if_neg c] at h0; exact h0
  refine re_368 (d + 1) (km_isThing d hS (fun i0 i1 i2 => z_y1 (km_isMinute d (fun t0 t1 => z_y2 ?_) (fun c => z_n2 (no (fun z => by have := z.2; omega))))) (fun c => z_n1 (no (fun z => c z.1))))
  rw [if_pos ⟨⟨i0, i1, i2⟩, t0, t1⟩] at h0
  obtain ⟨q1, q2, q3⟩ := hH i i0 i1
  rw [z_fn hS 64121 rfl, z_fn hS 61120 rfl, z_fn hS 61123 rfl, z_fn hS 61122 rfl]
  refine ⟨i0, i1, fun c => ⟨i0, i1, ?_⟩, fun c => ⟨i0, i1, ?_⟩⟩
  · rw [if_pos (Or.inl c)] at h0; exact h0
  · rcases q3 with ⟨a, b⟩ | ⟨a, b, e, f1, f2, f3, f4, f5⟩
    · exact absurd a c
    · refine ⟨fun c2 => ⟨i0, i1, ?_⟩, fun c2 => ⟨i0, i1, i0, i1, km_spotOf d hS hI.1 e f3 (by omega) (z_viI ⟨i0, i1, ?_⟩)⟩⟩
      · rw [if_pos (Or.inr (Or.inl c2))] at h0; exact h0
      · rw [z_fn hS 61124 rfl, z_fn hS 61122 rfl, z_fn hS 61120 rfl]
        refine ⟨fun c3 => ⟨i0, i1, i0, i1, fun c4 => ⟨i0, i1, ?_⟩, fun c4 => ?_⟩, fun c3 => ⟨i0, i1, ?_⟩⟩
        · rw [if_neg (fun z => z.elim (fun z => by omega) (fun z => z.elim (fun z => by omega) (fun z => z c3)))] at h0
          have em : z_min t (S 61124 i) = S 61124 i := by unfold z_min; split <;> omega
          rw [em] at h0
          exact km_spotOf d hS hI.1 e (by omega) f5 (z_viI h0)
        · rw [if_neg (fun z => z.elim (fun z => by omega) (fun z => z.elim (fun z => by omega) (fun z => z c3)))] at h0
          have em : z_min t (S 61124 i) = t := by unfold z_min; split <;> omega
          rw [em] at h0
          exact km_spotOf d hS hI.1 e t0 t1 (z_viI h0)
        · rw [if_pos (Or.inr (Or.inr c3))] at h0; exact h0
/-- check: the first that isn't so -/
def zw_ck (S : z_M) (p : Int) : Nat → Int
  | 0 => -1
  | n + 1 => if zw_ck S p n = -1 ∧ S 2601014 (n : Int) ≠ z_sp S p (n : Int) then (n : Int) else zw_ck S p n
theorem zw_ck_st {p : Int} {n : Nat} (h : zw_ck S p n ≠ -1) (m : Nat) : zw_ck S p (n + m) = zw_ck S p n := by
  induction m with
  | zero => rfl
  | succ m ih =>
    show (if zw_ck S p (n + m) = -1 ∧ _ then _ else zw_ck S p (n + m)) = _
    rw [if_neg (fun z => h (ih ▸ z.1)), ih]
abbrev zw_ck0 (S : z_M) (p n : Int) : Prop := z_tl S p ∧ (0 ≤ n ∧ n ≤ 96) ∧ n ≤ S 2 1
theorem kc_clear (d : Nat) (hS : z_sit S M) (h : ∀ N : z_M, z_sit (z_up S 2 1 0) N → Q z_U N) : z_Cl 0 d 130 [z_R 2] M Q :=
  re_130 d (h _ (z_at_up (z_at_up (z_sit_2 hS 0) _ _ _ rfl rfl) _ _ _ rfl rfl))
theorem kc_check (d : Nat) {p n : Int} (hS : z_sit S M) (hI : z_IS S) (hT : z_ITape S) (h1 : zw_ck0 S p n → ∀ N : z_M, z_sit (z_up S 2 1 0) N → Q (z_I (zw_ck S p n.toNat)) N) (h0 : ¬ zw_ck0 S p n → Q (z_I (-2)) M) : z_Cl 0 (d + 2) 212 [z_R 1, z_I p, z_I n] M Q := by
  obtain ⟨_, s0, s1, _⟩ := hT
  have es : M 2 1 = S 2 1 := z_ff hS 2 1 rfl
  refine re_212 (d + 1) (kc_isTold d hS hI.1 (fun hp => z_y1 ⟨fun c => h0 (fun z => by have := z.2.1; omega), fun c => ⟨fun c2 => h0 (fun z => by have := z.2.1; omega), fun c2 => re_128 (d + 1) ?_⟩⟩) (fun hp => z_n1 (h0 (fun z => hp z.1))))
  rw [es]
  refine ⟨fun c3 => z_n2 (h0 (fun z => by have := z.2.2; omega)), fun c3 => z_y2 ?_⟩
  have hh := h1 ⟨hp, ⟨c, c2⟩, c3⟩
  have fin : ∀ N : z_M, z_sit S N → z_Cl 0 (d + 1) 130 [z_R 2] N (fun _ M1 => Q (z_I (zw_ck S p n.toNat)) M1) := fun N hN => kc_clear (d + 1) hN (fun N2 h2 => hh N2 h2)
  refine z_lpi (n := n.toNat) (fun q => zw_ck S p q) (fun _ N => z_sit S N) (fun N v q => z_G 0 (d + 2) z_m212 40 [z_R 1, z_I p, z_I n, z_I v, z_I q] [] N Q) M hS (fun q N hq hN nx => ?_) (fun N hN => ?_)
  · have e2 : zw_ck S p (q + 1) = if zw_ck S p q = -1 ∧ S 2601014 (q : Int) ≠ z_sp S p (q : Int) then (q : Int) else zw_ck S p q := rfl
    refine rg_212_40 (d + 1) ⟨fun c4 => absurd c4 (by omega), fun _ => ⟨fun c4 => ?_, fun c4 => re_129 (d + 1) ?_⟩⟩
    · have := zw_ck_st (S := S) (p := p) (n := q) c4 (n.toNat - q)
      rw [show q + (n.toNat - q) = n.toNat from by omega] at this
      rw [← this]
      exact fin N hN
    · rw [z_ff hN 2 1 rfl, z_fn hN 2601014 rfl]
      refine ⟨fun c5 => absurd c5 (by omega), fun _ => ⟨fun c5 => absurd c5 (by omega), fun _ => ⟨by omega, by omega, z_viI (kc_spotToday d hN hI.1 hp (by omega) (by omega) (z_viI ?_))⟩⟩⟩
      have nx' := nx N hN
      rw [e2] at nx'
      rw [z_wq (by omega)]
      refine ⟨fun c5 => ?_, fun c5 => ?_⟩
      · rw [if_neg (fun z => z.2 c5)] at nx'; exact nx'
      · rw [if_pos ⟨c4, c5⟩] at nx'; exact nx'
  · exact rg_212_40 (d + 1) ⟨fun _ => fin N hN, fun c4 => absurd c4 (by omega)⟩
theorem km_check (d : Nat) {p n : Int} (hS : z_sit S M) (hI : z_IS S) {z0 : Int} (hz : S 13 1 = z0) (hz0 : z0 ≤ 260) (hT : ∀ j : Int, 0 ≤ j → j < z0 → S 2601014 j = z_and (S 2603064 j) 255) (h1 : z_tl S p ∧ (0 ≤ n ∧ n ≤ 96) ∧ n ≤ z0 → ∀ N : z_M, z_sit (z_up S 13 1 0) N → Q (z_I (zw_ck S p n.toNat)) N) (h0 : ¬ (z_tl S p ∧ (0 ≤ n ∧ n ≤ 96) ∧ n ≤ z0) → Q (z_I (-2)) M) : z_Cl 0 (d + 2) 383 [z_R 13, z_I p, z_I n] M Q := by
  refine re_383 (d + 1) (km_isTold d hS hI.1 (fun hp => z_y1 (km_lies (d + 1) (fun c c2 => z_y1 ?_) (fun c => z_n1 (h0 (fun z => by have := z.2.1; omega))))) (fun hp => z_n1 (h0 (fun z => hp z.1))))
  rw [z_ff hS 13 1 rfl, hz]
  refine ⟨fun c3 => ?_, fun c3 => h0 (fun z => by have := z.2.2; omega)⟩
  have hh := h1 ⟨hp, ⟨c, c2⟩, c3⟩
  have e13 := z_eq2_13 (S := S) 0
  have hI2 := z_IS_tr e13 hI
  have hp2 : z_tl (z_up S 13 1 0) p := by
    unfold z_tl
    rw [z_e2k e13 304067 rfl rfl rfl]; exact hp
  have esp : z_sp (z_up S 13 1 0) p = z_sp S p := by
    funext t
    unfold z_sp z_pd
    rw [z_ps_tr e13, z_e2k e13 101023 rfl rfl rfl]
  refine z_lpi (n := n.toNat) (fun q => ()) (fun q N => z_sit (z_up S 13 1 0) N ∧ zw_ck S p q = -1) (fun N _ q => z_G 0 (d + 2) z_m383 38 [z_R 13, z_I p, z_I n, z_I q] [] N Q) (z_up M 13 1 0) ⟨z_sit_13 hS 0, rfl⟩ (fun q N hq hI' nx => ?_) (fun N hI' => ?_)
  · obtain ⟨hN, hck⟩ := hI'
    have e2 : zw_ck S p (q + 1) = if zw_ck S p q = -1 ∧ S 2601014 (q : Int) ≠ z_sp S p (q : Int) then (q : Int) else zw_ck S p q := rfl
    refine rg_383_38 (d + 1) ⟨fun c4 => absurd c4 (by omega), fun _ => re_228 (d + 1) ?_⟩
    rw [z_fn hN 2603064 rfl, z_e2k e13 2603064 rfl rfl rfl, ← hT (q : Int) (by omega) (by omega)]
    refine ⟨by omega, by omega, z_viI (km_spotOf d hN hI2.1 hp2 (by omega) (by omega) (z_viI ?_))⟩
    rw [esp, z_wq (by omega)]
    refine ⟨fun c5 => nx N ⟨hN, by rw [e2, if_neg (fun z => z.2 c5), hck]⟩, fun c5 => ?_⟩
    rw [if_pos ⟨hck, c5⟩] at e2
    have := zw_ck_st (S := S) (p := p) (n := q + 1) (by rw [e2]; omega) (n.toNat - (q + 1))
    rw [show q + 1 + (n.toNat - (q + 1)) = n.toNat from by omega, e2] at this
    have h2 := hh N hN
    rw [this] at h2
    exact h2
  · obtain ⟨hN, hck⟩ := hI'
    have h2 := hh N hN
    rw [hck] at h2
    exact rg_383_38 (d + 1) ⟨fun _ => h2, fun c4 => absurd c4 (by omega)⟩
/-- count -/
def zw_tb (S : z_M) : Int := (z_bs 10 (fun p => decide (S 304067 (3 * (p : Int)) = 1)) : Int)
def zw_vb (S : z_M) (p : Int) : Int := (z_bs 3 (fun v => decide (S 304067 (3 * p + (v : Int)) = 1)) : Int)
def zw_hb6 (S : z_M) : Int := (z_bs 6 (fun i => decide (S 61120 (i : Int) ≠ -1)) : Int)
def zw_cp (S : z_M) (p k : Int) : Int := if k = 1 then S 101023 p else if k = 2 then zw_vb S p else if k = 3 then (if S 101116 p = -1 then -2 else S 101116 p) else S 301069 (z_pd S p)
def z_o46 (S : z_M) (a : Int) : Int :=
  if 100 ≤ a ∧ a < 200 then S 1001015 (a - 100) else if 10 ≤ a ∧ a < 50 then (if z_tl S (a % 10) then zw_cp S (a % 10) (a / 10) else -1)
  else if a = 0 then zw_tb S else if a = 1 then S 13 49 else if a = 2 then S 13 29 else if a = 3 then S 2 1 else if a = 4 then S 4 9 else if a = 5 then S 13 81 else if a = 6 then zw_hb6 S else -1
theorem kc_toldBits (d : Nat) (hS : z_sit S M) (hI : z_IPeo S) (h : Q (z_I (zw_tb S)) M) : z_Cl 0 (d + 2) 63 [z_R 4] M Q := by
  refine re_63 (d + 1) ?_
  refine z_lpi (n := 10) (fun q => (z_bs q (fun p => decide (S 304067 (3 * (p : Int)) = 1)) : Int)) (fun _ N => N = M) (fun N v q => z_G 0 (d + 2) z_m63 4 [z_R 4, z_I v, z_I q] [] N Q) M rfl (fun q N hq hN nx => ?_) (fun N hN => ?_)
  · subst hN
    have nx' := nx N rfl
    have lt := z_bs_lt q (fun p => decide (S 304067 (3 * (p : Int)) = 1))
    have h2 := z_2p (n := q) (by omega)
    refine rg_63_4 (d + 1) ⟨fun c => absurd c (by omega), fun _ => kc_isTold d hS hI (fun hp => z_y1 ?_) (fun hp => z_n1 ?_)⟩
    · rw [z_wq (by omega), z_bs_or (P := fun p => decide (S 304067 (3 * (p : Int)) = 1)) (by omega) (decide_eq_true hp.2.2)]; exact nx'
    · rw [z_wq (by omega), z_or_0 (by omega), z_bs_no (P := fun p => decide (S 304067 (3 * (p : Int)) = 1)) (decide_eq_false (fun z => hp ⟨by omega, by omega, z⟩))]; exact nx'
  · subst hN
    exact rg_63_4 (d + 1) ⟨fun _ => h, fun c => absurd c (by decide)⟩
theorem km_toldPeople (d : Nat) (hS : z_sit S M) (hI : z_IPeo S) (h : Q (z_I (zw_tb S)) M) : z_Cl 0 (d + 2) 384 [z_R 13] M Q := by
  refine re_384 (d + 1) ?_
  refine z_lpi (n := 10) (fun q => (z_bs q (fun p => decide (S 304067 (3 * (p : Int)) = 1)) : Int)) (fun _ N => N = M) (fun N v q => z_G 0 (d + 2) z_m384 4 [z_R 13, z_I v, z_I q] [] N Q) M rfl (fun q N hq hN nx => ?_) (fun N hN => ?_)
  · subst hN
    have nx' := nx N rfl
    have lt := z_bs_lt q (fun p => decide (S 304067 (3 * (p : Int)) = 1))
    have h2 := z_2p (n := q) (by omega)
    refine rg_384_4 (d + 1) ⟨fun c => absurd c (by omega), fun _ => km_isTold d hS hI (fun hp => z_y1 ?_) (fun hp => z_n1 ?_)⟩
    · rw [z_wq (by omega), z_bs_or (P := fun p => decide (S 304067 (3 * (p : Int)) = 1)) (by omega) (decide_eq_true hp.2.2)]; exact nx'
    · rw [z_wq (by omega), z_or_0 (by omega), z_bs_no (P := fun p => decide (S 304067 (3 * (p : Int)) = 1)) (decide_eq_false (fun z => hp ⟨by omega, by omega, z⟩))]; exact nx'
  · subst hN
    exact rg_384_4 (d + 1) ⟨fun _ => h, fun c => absurd c (by decide)⟩
theorem kc_versionBits (d : Nat) {p : Int} (hS : z_sit S M) (hI : z_IPeo S) (p0 : 0 ≤ p) (p1 : p < 10) (h : Q (z_I (zw_vb S p)) M) : z_Cl 0 (d + 1) 64 [z_R 4, z_I p] M Q := by
  refine re_64 d ?_
  refine z_lpi (n := 3) (fun q => (z_bs q (fun v => decide (S 304067 (3 * p + (v : Int)) = 1)) : Int)) (fun _ N => N = M) (fun N v q => z_G 0 (d + 1) z_m64 4 [z_R 4, z_I p, z_I v, z_I q] [] N Q) M rfl (fun q N hq hN nx => ?_) (fun N hN => ?_)
  · subst hN
    have nx' := nx N rfl
    have lt := z_bs_lt q (fun v => decide (S 304067 (3 * p + (v : Int)) = 1))
    have h2 := z_2p (n := q) (by omega)
    refine rg_64_4 d ⟨fun c => absurd c (by omega), fun _ => ?_⟩
    rw [z_w_id (x := 3 * p) (by omega) (by omega), z_w_id (x := 3 * p + (q : Int)) (by omega) (by omega)]
    refine kc_has d hS hI (by omega) (by omega) (fun hp => z_y1 ?_) (fun hp => z_n1 ?_)
    · rw [z_wq (by omega), z_bs_or (P := fun v => decide (S 304067 (3 * p + (v : Int)) = 1)) (by omega) (decide_eq_true hp)]; exact nx'
    · rw [z_wq (by omega), z_or_0 (by omega), z_bs_no (P := fun v => decide (S 304067 (3 * p + (v : Int)) = 1)) (decide_eq_false (by omega))]; exact nx'
  · subst hN
    exact rg_64_4 d ⟨fun _ => h, fun c => absurd c (by decide)⟩
theorem km_versionSet (d : Nat) {p : Int} (hS : z_sit S M) (hI : z_IPeo S) (p0 : 0 ≤ p) (p1 : p < 10) (h : Q (z_I (zw_vb S p)) M) : z_Cl 0 d 386 [z_R 13, z_I p] M Q := by
  refine re_386 d ?_
  refine z_lpi (n := 3) (fun q => (z_bs q (fun v => decide (S 304067 (3 * p + (v : Int)) = 1)) : Int)) (fun _ N => N = M) (fun N v q => z_G 0 d z_m386 4 [z_R 13, z_I p, z_I v, z_I q] [] N Q) M rfl (fun q N hq hN nx => ?_) (fun N hN => ?_)
  · subst hN
    have nx' := nx N rfl
    have lt := z_bs_lt q (fun v => decide (S 304067 (3 * p + (v : Int)) = 1))
    have h2 := z_2p (n := q) (by omega)
    have hw := hI.1 (3 * p + (q : Int)) (by omega) (by omega)
    refine rg_386_4 d ⟨fun c => absurd c (by omega), fun _ => ?_⟩
    rw [z_w_id (x := 3 * p) (by omega) (by omega), z_w_id (x := 3 * p + (q : Int)) (by omega) (by omega), z_fn hS 304067 rfl, z_wq (by omega), z_or_0 (by omega)]
    refine ⟨by omega, by omega, fun c => ?_, fun c => ?_⟩
    · rw [z_bs_no (P := fun v => decide (S 304067 (3 * p + (v : Int)) = 1)) (decide_eq_false (by omega))]; exact nx'
    · rw [z_bs_or (P := fun v => decide (S 304067 (3 * p + (v : Int)) = 1)) (by omega) (decide_eq_true (by omega))]; exact nx'
  · subst hN
    exact rg_386_4 d ⟨fun _ => h, fun c => absurd c (by decide)⟩
theorem kc_laidBits (d : Nat) (hS : z_sit S M) (hH : z_ITh S) (h : Q (z_I (zw_hb6 S)) M) : z_Cl 0 (d + 2) 56 [z_R 11] M Q := by
  refine re_56 (d + 1) ?_
  refine z_lpi (n := 6) (fun q => (z_bs q (fun i => decide (S 61120 (i : Int) ≠ -1)) : Int)) (fun _ N => N = M) (fun N v q => z_G 0 (d + 2) z_m56 4 [z_R 11, z_I v, z_I q] [] N Q) M rfl (fun q N hq hN nx => ?_) (fun N hN => ?_)
  · subst hN
    have nx' := nx N rfl
    have lt := z_bs_lt q (fun i => decide (S 61120 (i : Int) ≠ -1))
    have h2 := z_2p (n := q) (by omega)
    refine rg_56_4 (d + 1) ⟨fun c => absurd c (by omega), fun _ => kc_isLaid d hS hH (fun _ _ hp => z_y1 ?_) (fun hp => z_n1 ?_)⟩
    · rw [z_wq (by omega), z_bs_or (P := fun i => decide (S 61120 (i : Int) ≠ -1)) (by omega) (decide_eq_true hp)]; exact nx'
    · rw [z_wq (by omega), z_or_0 (by omega), z_bs_no (P := fun i => decide (S 61120 (i : Int) ≠ -1)) (decide_eq_false (fun z => hp ⟨by omega, by omega, z⟩))]; exact nx'
  · subst hN
    exact rg_56_4 (d + 1) ⟨fun _ => h, fun c => absurd c (by decide)⟩
theorem km_toldThings (d : Nat) (hS : z_sit S M) (h : Q (z_I (zw_hb6 S)) M) : z_Cl 0 (d + 2) 385 [z_R 13] M Q := by
  refine re_385 (d + 1) ?_
  refine z_lpi (n := 6) (fun q => (z_bs q (fun i => decide (S 61120 (i : Int) ≠ -1)) : Int)) (fun _ N => N = M) (fun N v q => z_G 0 (d + 2) z_m385 4 [z_R 13, z_I v, z_I q] [] N Q) M rfl (fun q N hq hN nx => ?_) (fun N hN => ?_)
  · subst hN
    have nx' := nx N rfl
    have lt := z_bs_lt q (fun i => decide (S 61120 (i : Int) ≠ -1))
    have h2 := z_2p (n := q) (by omega)
    refine rg_385_4 (d + 1) ⟨fun c => absurd c (by omega), fun _ => km_isThing d hS (fun _ _ hp => z_y1 ?_) (fun hp => z_n1 ?_)⟩
    · rw [z_wq (by omega), z_bs_or (P := fun i => decide (S 61120 (i : Int) ≠ -1)) (by omega) (decide_eq_true hp)]; exact nx'
    · rw [z_wq (by omega), z_or_0 (by omega), z_bs_no (P := fun i => decide (S 61120 (i : Int) ≠ -1)) (decide_eq_false (fun z => hp ⟨by omega, by omega, z⟩))]; exact nx'
  · subst hN
    exact rg_385_4 (d + 1) ⟨fun _ => h, fun c => absurd c (by decide)⟩
theorem kc_count (d : Nat) {a : Int} (ia : z_i32 a) (hS : z_sit S M) (hI : z_IS S) (hR : z_IRep S) (hT : z_ITr S) (hK : z_ITk S) (hH : z_ITh S) (h : Q (z_I (z_o46 S a)) M) : z_Cl 0 (d + 3) 213 [z_R 1, z_I a] M Q := by
  have i1 := ia.1
  have i2 := ia.2
  unfold z_o46 at h
  have low : (a < 10 ∨ 50 ≤ a) → (a < 100 ∨ 200 ≤ a) → z_G 0 (d + 3) z_m213 50 [z_R 1, z_I a] [] M Q := by
    intro g1 g2
    rw [if_neg (by omega), if_neg (by omega)] at h
    refine rg_213_50 (d + 2) ⟨⟨fun c => kc_toldBits d hS hI.1 (z_viI ?_), fun c => re_89 (d + 2) (z_viI ?_), fun c => re_25 (d + 2) (z_viI ?_), fun c => re_125 (d + 2) (z_viI ?_), fun c => re_67 (d + 2) (z_viI ?_), fun c => re_41 (d + 2) (z_viI ?_), fun c => kc_laidBits d hS hH (z_viI ?_), trivial⟩, fun c => ?_⟩
    · (repeat (first | rw [if_pos (by omega)] at h | rw [if_neg (by omega)] at h)); exact h
    · rw [z_ff hS 7 5 rfl, hR.1]; (repeat (first | rw [if_pos (by omega)] at h | rw [if_neg (by omega)] at h)); exact h
    · rw [z_ff hS 5 6 rfl, hI.2.2.2.1]; (repeat (first | rw [if_pos (by omega)] at h | rw [if_neg (by omega)] at h)); exact h
    · rw [z_ff hS 2 1 rfl]; (repeat (first | rw [if_pos (by omega)] at h | rw [if_neg (by omega)] at h)); exact h
    · rw [z_ff hS 4 9 rfl]; (repeat (first | rw [if_pos (by omega)] at h | rw [if_neg (by omega)] at h)); exact h
    · rw [z_ff hS 11 5 rfl, hT.1]; (repeat (first | rw [if_pos (by omega)] at h | rw [if_neg (by omega)] at h)); exact h
    · (repeat (first | rw [if_pos (by omega)] at h | rw [if_neg (by omega)] at h)); exact h
    · (repeat (first | rw [if_pos (by omega)] at h | rw [if_neg (by omega)] at h)); exact h
  have mid : (a < 100 ∨ 200 ≤ a) → z_G 0 (d + 3) z_m213 25 [z_R 1, z_I a] [] M Q := by
    intro g
    refine rg_213_25 (d + 2) ⟨fun c => low (Or.inl c) g, fun c => ⟨fun c2 => low (Or.inr c2) g, fun c2 => ?_⟩⟩
    rw [if_neg (by omega), if_pos ⟨c, c2⟩] at h
    rw [z_tm (by omega), z_td (by omega), z_w_id (x := a / 10) (by omega) (by omega)]
    refine re_214 (d + 1) (kc_isTold d hS hI.1 (fun hp => z_y2 ?_) (fun hp => z_n2 (z_viI ?_)))
    · rw [if_pos hp] at h
      unfold zw_cp at h
      obtain ⟨e1, e2, e3, _, _⟩ := z_pd_b hI.1 hp
      refine ⟨⟨fun c3 => kc_version (d + 1) hS hp.1 hp.2.1 (z_viI (z_viI ?_)), fun c3 => kc_versionBits d hS hI.1 hp.1 hp.2.1 (z_viI (z_viI ?_)), fun c3 => re_47 (d + 1) ⟨hp.1, hp.2.1, z_viI (z_viI ?_)⟩, fun c3 => kc_planToday (d + 1) hS hI.1 hp.1 hp.2.1 (z_viI (re_62 (d + 1) ⟨e1, e2, z_viI (z_viI ?_)⟩)), trivial⟩, fun c3 => absurd c3 (by omega)⟩
      · rw [if_pos c3] at h; exact h
      · rw [if_neg (by omega), if_pos c3] at h; exact h
      · rw [if_neg (by omega), if_neg (by omega), if_pos c3] at h
        rw [z_fn hS 101056 rfl, (hK _ hp.1 hp.2.1).1]; exact h
      · rw [if_neg (by omega), if_neg (by omega), if_neg (by omega)] at h
        rw [z_fn hS 301019 rfl]
        have := hI.1.1 (z_pd S (a % 10)) e1 e2
        rw [show S 301019 (z_pd S (a % 10)) = S 301069 (z_pd S (a % 10)) from by omega]
        exact h
    · rw [if_neg hp] at h; exact h
  refine re_213 (d + 2) ⟨fun c => mid (Or.inl c), fun c => ⟨fun c2 => mid (Or.inr c2), fun c2 => re_144 (d + 2) ?_⟩⟩
  rw [z_w_id (x := a - 100) (by omega) (by omega), z_fn hS 1001015 rfl]
  rw [if_pos ⟨c, c2⟩] at h
  exact ⟨by omega, by omega, z_viI h⟩
theorem km_count (d : Nat) {a : Int} (ia : z_i32 a) (hS : z_sit S M) (hI : z_IS S) (hz : S 13 1 = S 2 1) (h : Q (z_I (z_o46 S a)) M) : z_Cl 0 (d + 3) 388 [z_R 13, z_I a] M Q := by
  have i1 := ia.1
  have i2 := ia.2
  unfold z_o46 at h
  have ew : (0 ≤ z_w (a - 100) ∧ z_w (a - 100) < 100) ↔ (100 ≤ a ∧ a < 200) := by
    by_cases c3 : -2147483548 ≤ a
    · rw [z_w_id (x := a - 100) (by omega) (by omega)]; omega
    · have e : z_w (a - 100) = a - 100 + 4294967296 := by
        unfold z_w
        rw [Int.bmod_def]
        split <;> omega
      rw [e]; omega
  refine re_388 (d + 2) (km_isSpot (d + 1) (fun c c2 => z_y1 ?_) (fun c => z_n1 (km_lies (d + 2) (fun c2 c3 => z_y1 ?_) (fun c2 => z_n1 ?_))))
  · have g := ew.mp ⟨c, c2⟩
    rw [if_pos g] at h
    rw [z_fn hS 1001065 rfl, ← hI.2.1.1, z_w_id (x := a - 100) (by omega) (by omega)]
    exact ⟨by omega, by omega, h⟩
  · rw [if_neg (by omega), if_pos ⟨c2, by omega⟩] at h
    rw [z_tm (by omega), z_td (by omega), z_w_id (x := a / 10) (by omega) (by omega)]
    refine km_isTold (d + 1) hS hI.1 (fun hp => z_y1 (re_387 (d + 1) ?_)) (fun hp => z_n1 ?_)
    · rw [if_pos hp] at h
      unfold zw_cp at h
      obtain ⟨e1, e2, e3, _, _⟩ := z_pd_b hI.1 hp
      obtain ⟨ev, v0, v1, _⟩ := hI.1.2.2.1 _ hp.1 hp.2.1
      have epd : z_pd S (a % 10) = 3 * (a % 10) + S 101023 (a % 10) := rfl
      rw [z_fn hS 101091 rfl, z_fn hS 101116 rfl, z_fn hS 301069 rfl, ev, z_w_id (x := 3 * (a % 10)) (by omega) (by omega), z_w_id (x := 3 * (a % 10) + S 101023 (a % 10)) (by omega) (by omega), ← epd]
      refine ⟨⟨fun c4 => ⟨hp.1, hp.2.1, z_viI ?_⟩, fun c4 => km_versionSet (d + 1) hS hI.1 hp.1 hp.2.1 (z_viI (z_viI ?_)), fun c4 => ⟨hp.1, hp.2.1, fun c5 => ⟨hp.1, hp.2.1, z_viI ?_⟩, fun c5 => z_viI ?_⟩, trivial⟩, fun c4 => ⟨hp.1, hp.2.1, e1, e2, z_viI ?_⟩⟩
      · rw [if_pos c4] at h; exact h
      · rw [if_neg (by omega), if_pos c4] at h; exact h
      · rw [if_neg (by omega), if_neg (by omega), if_pos c4, if_neg c5] at h; exact h
      · rw [if_neg (by omega), if_neg (by omega), if_pos c4, if_pos c5] at h; exact h
      · rw [if_neg (by omega), if_neg (by omega), if_neg (by omega)] at h; exact h
    · rw [if_neg hp] at h; exact h
  · have g : ¬ (100 ≤ a ∧ a < 200) := fun z => by have := ew.mpr z; omega
    rw [if_neg g, if_neg (by omega)] at h
    rw [z_ff hS 13 49 rfl, z_ff hS 13 29 rfl, z_ff hS 13 1 rfl, z_ff hS 13 48 rfl, z_ff hS 13 81 rfl, hz, hI.1.2.2.2.2.1]
    refine ⟨⟨fun c => km_toldPeople d hS hI.1 (z_viI ?_), fun c => ?_, fun c => ?_, fun c => ?_, fun c => ?_, fun c => ?_, fun c => km_toldThings d hS (z_viI ?_), trivial⟩, fun c => ?_⟩
    all_goals ((repeat (first | rw [if_pos (by omega)] at h | rw [if_neg (by omega)] at h)); exact h)
end ZOPG
