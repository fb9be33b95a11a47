/-! REPORTS: what is so, what holds -/
def zv_b (b : Bool) : Int := if b = true then 1 else 0
abbrev z_oth (S : z_M) (i : Int) : Prop := 0 ≤ S 401096 i ∧ S 401096 i < 10 ∧ S 304067 (3 * S 401096 i) = 1
def z_rowok (S : z_M) (i : Int) : Prop :=
  S 2401035 (6 * i + 0) = S 401092 i ∧ (0 ≤ S 401092 i ∧ S 401092 i < 10 ∧ S 304067 (3 * S 401092 i) = 1) ∧
  S 2401035 (6 * i + 1) = S 401093 i ∧ (0 ≤ S 401093 i ∧ S 401093 i < 96) ∧
  S 2401035 (6 * i + 2) = S 401094 i ∧ (0 ≤ S 401094 i ∧ S 401094 i < 10) ∧
  S 2401035 (6 * i + 3) = S 401095 i ∧
  S 2401035 (6 * i + 4) = (if S 401096 i = -1 then -2 else S 401096 i) ∧
  S 2401035 (6 * i + 5) = (if S 401097 i = -1 then -2 else S 401097 i) ∧
  (((S 401095 i = 115 ∨ S 401095 i = 111 ∨ S 401095 i = 104) ∧ z_oth S i ∧ S 401097 i = -1) ∨
   (S 401095 i = 119 ∧ z_oth S i ∧ 0 ≤ S 401097 i ∧ S 401097 i < 100) ∨
   (S 401095 i = 105 ∧ S 401096 i = -1 ∧ 0 ≤ S 401097 i ∧ S 401097 i < 100) ∨
   (S 401095 i = 102 ∧ S 401096 i = -1 ∧ 0 ≤ S 401097 i ∧ S 401097 i < 80))
def z_IRep (S : z_M) : Prop := S 7 5 = S 13 49 ∧ 0 ≤ S 13 49 ∧ S 13 49 ≤ 40 ∧ ∀ i : Int, 0 ≤ i → i < S 13 49 → z_rowok S i
def z_so (S : z_M) (i pl op u t : Int) : Bool :=
  if S 401095 i = 115 then decide (z_aw (S 1001015) (z_ps S pl t) (z_ps S op t) ≤ z_vw S pl t)
  else if S 401095 i = 111 then decide (z_vw S pl t < z_aw (S 1001015) (z_ps S pl t) (z_ps S op t))
  else if S 401095 i = 104 then decide (z_ap (z_ps S pl t) (z_ps S op t) ≤ z_cw S op t)
  else if S 401095 i = 105 then decide (z_ps S pl t = S 401097 i)
  else if S 401095 i = 119 then decide (z_ps S op t = S 401097 i)
  else decide (z_ct S t u = S 401097 i)
def z_ex (P : Int → Bool) : Nat → Int → Bool
  | 0, _ => false
  | n + 1, i => P i || z_ex P n (i + 1)
def z_rlo (S : z_M) (i : Int) : Int := z_max 0 (S 401093 i - S 401094 i)
def z_rhi (S : z_M) (i : Int) : Int := z_min 95 (S 401093 i + S 401094 i)
def z_hld (S : z_M) (i pl op u : Int) : Bool := z_ex (fun t => z_so S i pl op u t) (z_rhi S i + 1 - z_rlo S i).toNat (z_rlo S i)
theorem z_rlohi {S : z_M} {i : Int} (h : z_rowok S i) : 0 ≤ z_rlo S i ∧ z_rlo S i ≤ z_rhi S i ∧ z_rhi S i ≤ 95 ∧ z_rlo S i < 96 := by
  obtain ⟨_, _, _, ⟨m0, m1⟩, _, ⟨s0, s1⟩, _⟩ := h
  unfold z_rlo z_rhi z_max z_min
  split <;> split <;> omega
section ZREP
variable {S M : z_M} {Q : z_V → z_M → Prop}
theorem kc_part (d : Nat) {i k : Int} (hS : z_sit S M) (i0 : 0 ≤ i) (i1 : i < 40) (k0 : 0 ≤ k) (k1 : k < 6) (h : Q (z_I (S 2401035 (6 * i + k))) M) : z_Cl 0 d 91 [z_R 7, z_I i, z_I k] M Q := by
  refine re_91 d ?_
  rw [z_w_id (x := 6 * i) (by omega) (by omega), z_w_id (by omega) (by omega), z_fn hS 2401035 rfl]
  exact ⟨by omega, by omega, h⟩
/-- what plans a report is asked by -/
abbrev z_askable (S : z_M) (i pl op u : Int) : Prop := (0 ≤ pl ∧ pl < 30) ∧ (0 ≤ op ∧ op < 30) ∧ (0 ≤ u ∧ u < 2) ∧ (S 401095 i ≠ 102 → S 304067 pl = 1) ∧ (S 401096 i ≠ -1 → S 304067 op = 1)
theorem kc_isSo (d : Nat) {i pl op u : Int} (hS : z_sit S M) (hI : z_IS S) (hr : z_rowok S i) (i0 : 0 ≤ i) (i1 : i < 40) (ha : z_askable S i pl op u) (h : ∀ M' : z_M, z_sit S M' → z_ag M M' → Q (z_I (zv_b (z_hld S i pl op u))) M') : z_Cl 0 (d + 4) 105 [z_R 7, z_I i, z_I pl, z_I op, z_I u] M Q := by
  have hlh := z_rlohi hr
  obtain ⟨r0, ⟨w0, w1, w2⟩, r1, ⟨m0, m1⟩, r2, ⟨s0, s1⟩, r3, r4, r5, kinds⟩ := id hr
  obtain ⟨⟨pl0, pl1⟩, ⟨op0, op1⟩, ⟨u0, u1⟩, hpl, hop⟩ := ha
  refine re_105 (d + 3) (kc_part (d + 3) hS i0 i1 (by decide) (by decide) (z_viI (kc_part (d + 3) hS i0 i1 (by decide) (by decide) (z_viI (kc_part (d + 3) hS i0 i1 (by decide) (by decide) (z_viI (kc_part (d + 3) hS i0 i1 (by decide) (by decide) (z_viI (kc_part (d + 3) hS i0 i1 (by decide) (by decide) (z_viI ?_))))))))))
  rw [r1, r2, r5, z_w_id (x := S 401093 i + S 401094 i) (by omega) (by omega), z_w_id (x := S 401093 i - S 401094 i) (by omega) (by omega)]
  have elo : z_max 0 (S 401093 i - S 401094 i) = z_rlo S i := rfl
  have ehi : z_min 95 (S 401093 i + S 401094 i) = z_rhi S i := rfl
  rw [elo, ehi]
  unfold z_hld at h
  generalize hspot : (if S 401097 i = -1 then (-2 : Int) else S 401097 i) = spot
  have key : ∀ (n : Nat) (t : Int) (N : z_M), 0 ≤ t → t ≤ z_rhi S i + 1 → (z_rhi S i + 1 - t).toNat = n → z_sit S N → z_ag M N → (∀ M' : z_M, z_sit S M' → z_ag M M' → Q (z_I (zv_b (z_ex (fun t => z_so S i pl op u t) n t))) M') → z_G 0 (d + 4) z_m105 50 [z_R 7, z_I i, z_I pl, z_I op, z_I u, z_I spot, z_I (z_rhi S i), z_I 0, z_I t] [] N Q := by
    intro n
    induction n with
    | zero =>
      intro t N t0 t1 tn hN gN hq
      exact rg_105_50 (d + 3) ⟨fun _ => z_bl_of (Or.inl rfl) (hq N hN gN), fun c => absurd c (by omega)⟩
    | succ n ih =>
      intro t N t0 t1 tn hN gN hq
      have ht95 : t < 96 := by omega
      have nx : ∀ (b : Bool) (N' : z_M), z_sit S N' → z_ag M N' → z_so S i pl op u t = b → z_G 0 (d + 4) z_m105 50 [z_R 7, z_I i, z_I pl, z_I op, z_I u, z_I spot, z_I (z_rhi S i), z_I (zv_b b), z_I (z_w (t + 1))] [] N' Q := by
        intro b N' hN' gN' e
        rw [z_w_id (by omega) (by omega)]
        have hq' : ∀ M' : z_M, z_sit S M' → z_ag M M' → Q (z_I (zv_b (b || z_ex (fun t => z_so S i pl op u t) n (t + 1)))) M' := fun M' a g => by
          have := hq M' a g
          have e2 : z_ex (fun t => z_so S i pl op u t) (n + 1) t = (z_so S i pl op u t || z_ex (fun t => z_so S i pl op u t) n (t + 1)) := rfl
          rw [e2, e] at this
          exact this
        cases b with
        | false => exact ih (t + 1) N' (by omega) (by omega) (by omega) hN' gN' (fun M' a g => hq' M' a g)
        | true =>
          have hh := hq' N' hN' gN'
          exact rg_105_50 (d + 3) ⟨fun _ => z_bl_of (Or.inr rfl) hh, fun _ => ⟨fun _ => z_bl_of (Or.inr rfl) hh, fun c => absurd c (by decide)⟩⟩
      refine rg_105_50 (d + 3) ⟨fun c => absurd c (by omega), fun _ => ⟨fun c => absurd rfl c, fun _ => kc_part (d + 3) hN i0 i1 (by decide) (by decide) (z_viI ?_)⟩⟩
      rw [r3]
      have so := fun b N' a g => nx b N' a g
      unfold z_so at so
      rcases kinds with ⟨hk, ⟨o0, o1, o2⟩, ht⟩ | ⟨hk, ⟨o0, o1, o2⟩, ht⟩ | ⟨hk, ho, ht⟩ | ⟨hk, ho, ht⟩
      · have hp := hpl (by rcases hk with hk | hk | hk <;> omega)
        have hp2 := hop (by omega)
        obtain ⟨b0, b1⟩ := z_ps_b hI.1 op0 op1 t0 ht95 hp2
        rcases hk with hk | hk | hk
        · rw [hk] at so ⊢
          (repeat' (first | with_reducible apply And.intro | with_reducible intro _)) <;> (try first | exact True.intro | omega)
          refine kc_spot (d + 3) hN op0 op1 t0 ht95 (z_viI (kc_canSee d hN hI pl0 pl1 t0 ht95 hp b0 b1 (fun N' a g c => z_viI (so true N' a (z_ag_tr gN g) ?_)) (fun N' a g c => z_viI (so false N' a (z_ag_tr gN g) ?_))))
          · rw [if_pos rfl]; exact decide_eq_true c
          · rw [if_pos rfl]; exact decide_eq_false (by omega)
        · rw [hk] at so ⊢
          (repeat' (first | with_reducible apply And.intro | with_reducible intro _)) <;> (try first | exact True.intro | omega)
          refine kc_spot (d + 3) hN op0 op1 t0 ht95 (z_viI (kc_canSee d hN hI pl0 pl1 t0 ht95 hp b0 b1 (fun N' a g c => z_y2 (rg_105_209 (d + 3) (so false N' a (z_ag_tr gN g) ?_))) (fun N' a g c => z_n2 (rg_105_209 (d + 3) (so true N' a (z_ag_tr gN g) ?_)))))
          · rw [if_neg (by decide), if_pos rfl]; exact decide_eq_false (by omega)
          · rw [if_neg (by decide), if_pos rfl]; exact decide_eq_true c
        · rw [hk] at so ⊢
          (repeat' (first | with_reducible apply And.intro | with_reducible intro _)) <;> (try first | exact True.intro | omega)
          refine kc_canHear d hN hI pl0 pl1 op0 op1 t0 ht95 hp hp2 (fun N' a g c => z_viI (so true N' a (z_ag_tr gN g) ?_)) (fun N' a g c => z_viI (so false N' a (z_ag_tr gN g) ?_))
          · rw [if_neg (by decide), if_neg (by decide), if_pos rfl]; exact decide_eq_true c
          · rw [if_neg (by decide), if_neg (by decide), if_pos rfl]; exact decide_eq_false (by omega)
      · have hp2 := hop (by omega)
        have es : spot = S 401097 i := by rw [← hspot, if_neg (by omega)]
        rw [hk] at so ⊢
        (repeat' (first | with_reducible apply And.intro | with_reducible intro _)) <;> (try first | exact True.intro | omega)
        refine kc_spot (d + 3) hN op0 op1 t0 ht95 (z_viI ⟨fun c => rg_105_275 (d + 3) (so false N hN gN ?_), fun c => rg_105_275 (d + 3) (so true N hN gN ?_)⟩)
        · rw [if_neg (by decide), if_neg (by decide), if_neg (by decide), if_neg (by decide), if_pos rfl]; exact decide_eq_false (by omega)
        · rw [if_neg (by decide), if_neg (by decide), if_neg (by decide), if_neg (by decide), if_pos rfl]; exact decide_eq_true (by omega)
      · have hp := hpl (by omega)
        have es : spot = S 401097 i := by rw [← hspot, if_neg (by omega)]
        rw [hk] at so ⊢
        (repeat' (first | with_reducible apply And.intro | with_reducible intro _)) <;> (try first | exact True.intro | omega)
        refine kc_spot (d + 3) hN pl0 pl1 t0 ht95 (z_viI ⟨fun c => rg_105_250 (d + 3) (so false N hN gN ?_), fun c => rg_105_250 (d + 3) (so true N hN gN ?_)⟩)
        · rw [if_neg (by decide), if_neg (by decide), if_neg (by decide), if_pos rfl]; exact decide_eq_false (by omega)
        · rw [if_neg (by decide), if_neg (by decide), if_neg (by decide), if_pos rfl]; exact decide_eq_true (by omega)
      · have es : spot = S 401097 i := by rw [← hspot, if_neg (by omega)]
        rw [hk] at so ⊢
        (repeat' (first | with_reducible apply And.intro | with_reducible intro _)) <;> (try first | exact True.intro | omega)
        refine kc_cast (d + 1) hN hI u0 u1 t0 ht95 (fun N' a g => z_viI ⟨fun c => so false N' a (z_ag_tr gN g) ?_, fun c => so true N' a (z_ag_tr gN g) ?_⟩)
        · rw [if_neg (by decide), if_neg (by decide), if_neg (by decide), if_neg (by decide), if_neg (by decide)]; exact decide_eq_false (by omega)
        · rw [if_neg (by decide), if_neg (by decide), if_neg (by decide), if_neg (by decide), if_neg (by decide)]; exact decide_eq_true (by omega)
  exact key (z_rhi S i + 1 - z_rlo S i).toNat (z_rlo S i) M hlh.1 (by omega) rfl hS (z_ag_rf M) h
/-- the model's: in one minute -/
theorem km_isSo (d : Nat) {i t v w u p q : Int} (hS : z_sit S M) (hI : z_IS S) (hr : z_rowok S i) (i0 : 0 ≤ i) (i1 : i < 40) (hp : p = S 401092 i) (hq : q = S 401096 i) (t0 : 0 ≤ t) (t1 : t < 96) (v0 : 0 ≤ v) (v1 : v < 3) (w0 : 0 ≤ w) (w1 : w < 3) (hpl : S 401095 i ≠ 102 → S 304067 (3 * p + v) = 1) (hop : q ≠ -1 → S 304067 (3 * q + w) = 1) (h : ∀ M' : z_M, z_sit S M' → z_ag M M' → Q (z_I (zv_b (z_so S i (3 * p + v) (3 * q + w) u t))) M') : z_Cl 0 (d + 5) 304 [z_R 13, z_I i, z_I t, z_I v, z_I w, z_I u] M Q := by
  obtain ⟨_, ⟨a0, a1, a2⟩, _, _, _, _, _, _, _, kinds⟩ := id hr
  rw [← hp] at a0 a1 a2
  have e1 : M 401095 = S 401095 := z_fn hS _ rfl
  have e2 : M 401092 = S 401092 := z_fn hS _ rfl
  have e3 : M 401096 = S 401096 := z_fn hS _ rfl
  have e4 : ∀ N : z_M, z_sit S N → N 401097 = S 401097 := fun N hN => z_fn hN _ rfl
  have ed3p : (3 * p + v) / 3 = p := by omega
  have so : ∀ (b : Bool) (N : z_M), z_sit S N → z_ag M N → z_so S i (3 * p + v) (3 * q + w) u t = b → Q (z_I (zv_b b)) N := fun b N a g e => by have := h N a g; rw [e] at this; exact this
  unfold z_so at so
  refine re_304 (d + 4) ⟨i0, i1, i0, i1, i0, i1, ?_⟩
  rw [e1, e2, e3, ← hp, ← hq]
  rcases kinds with ⟨hk, ⟨o0, o1, o2⟩, ht⟩ | ⟨hk, ⟨o0, o1, o2⟩, ht⟩ | ⟨hk, ho, ht⟩ | ⟨hk, ho, ht⟩
  · rw [← hq] at o0 o1 o2
    have ed3q : (3 * q + w) / 3 = q := by omega
    have hpp := hpl (by rcases hk with hk | hk | hk <;> omega)
    have hqq := hop (by omega)
    obtain ⟨b0, b1⟩ := z_ps_b hI.1 (w := 3 * p + v) (by omega) (by omega) t0 t1 hpp
    obtain ⟨c0, c1⟩ := z_ps_b hI.1 (w := 3 * q + w) (by omega) (by omega) t0 t1 hqq
    have evw : zv_rk S 118 14 t 0 p (z_ps S (3 * p + v) t) = z_vw S (3 * p + v) t := by unfold z_vw; rw [ed3p]
    have ecw : zv_rk S 104 18 t 0 q (z_ps S (3 * q + w) t) = z_cw S (3 * q + w) t := by unfold z_cw; rw [ed3q]
    obtain ⟨vw0, vw1⟩ := z_vw_b S (3 * p + v) t
    rcases hk with hk | hk | hk
    · rw [hk] at so ⊢
      refine ⟨fun c => absurd c (by decide), fun _ => ⟨fun c => absurd c (by decide), fun _ => ⟨fun c => absurd c (by decide), fun _ => ⟨fun _ => ?_, fun c => absurd rfl c⟩⟩⟩⟩
      refine km_spotBy (d + 4) hS hI.1 a0 a1 v0 v1 t0 t1 hpp (z_viI (km_spotBy (d + 4) hS hI.1 o0 o1 w0 w1 t0 t1 hqq (z_viI (km_spotBy (d + 4) hS hI.1 a0 a1 v0 v1 t0 t1 hpp (z_viI (km_sight d hS hI.2.2.1 t0 t1 b0 b1 (fun N aN gN => z_viI ?_)))))))
      rw [evw]
      have eg : N 1001065 = S 1001015 := by rw [z_fn aN _ rfl, hI.2.1.1]
      refine km_isInSight (d + 2) eg b0 b1 c0 c1 vw0 (by omega) (fun c => z_viI (z_bl_of (Or.inr rfl) (so true N aN gN ?_))) (fun c => z_viI (z_bl_of (Or.inl rfl) (so false N aN gN ?_)))
      · rw [if_pos rfl]; exact decide_eq_true c
      · rw [if_pos rfl]; exact decide_eq_false (by omega)
    · rw [hk] at so ⊢
      refine ⟨fun c => absurd c (by decide), fun _ => ⟨fun c => absurd c (by decide), fun _ => ⟨fun _ => ?_, fun c => absurd rfl c⟩⟩⟩
      refine km_spotBy (d + 4) hS hI.1 a0 a1 v0 v1 t0 t1 hpp (z_viI (km_spotBy (d + 4) hS hI.1 o0 o1 w0 w1 t0 t1 hqq (z_viI (km_spotBy (d + 4) hS hI.1 a0 a1 v0 v1 t0 t1 hpp (z_viI (km_sight d hS hI.2.2.1 t0 t1 b0 b1 (fun N aN gN => z_viI ?_)))))))
      rw [evw]
      have eg : N 1001065 = S 1001015 := by rw [z_fn aN _ rfl, hI.2.1.1]
      refine km_isInSight (d + 2) eg b0 b1 c0 c1 vw0 (by omega) (fun c => z_y2 (rg_304_153 (d + 4) (z_bl_of (Or.inl rfl) (so false N aN gN ?_)))) (fun c => z_n2 (rg_304_153 (d + 4) (z_bl_of (Or.inr rfl) (so true N aN gN ?_))))
      · rw [if_neg (by decide), if_pos rfl]; exact decide_eq_false (by omega)
      · rw [if_neg (by decide), if_pos rfl]; exact decide_eq_true c
    · rw [hk] at so ⊢
      refine ⟨fun _ => ?_, fun c => absurd rfl c⟩
      refine km_spotBy (d + 4) hS hI.1 a0 a1 v0 v1 t0 t1 hpp (z_viI (km_spotBy (d + 4) hS hI.1 o0 o1 w0 w1 t0 t1 hqq (z_viI (km_apartOf (d + 2) b0 b1 c0 c1 (z_viI (km_spotBy (d + 4) hS hI.1 o0 o1 w0 w1 t0 t1 hqq (z_viI (km_sound d hS hI.2.2.1 t0 t1 c0 c1 (fun N aN gN => z_viI ?_)))))))))
      rw [ecw]
      refine ⟨fun c => rg_304_198 (d + 4) (z_bl_of (Or.inl rfl) (so false N aN gN ?_)), fun c => rg_304_198 (d + 4) (z_bl_of (Or.inr rfl) (so true N aN gN ?_))⟩
      · rw [if_neg (by decide), if_neg (by decide), if_pos rfl]; exact decide_eq_false (by omega)
      · rw [if_neg (by decide), if_neg (by decide), if_pos rfl]; exact decide_eq_true c
  · rw [← hq] at o0 o1 o2
    have hqq := hop (by omega)
    rw [hk] at so ⊢
    refine ⟨fun c => absurd c (by decide), fun _ => ⟨fun c => absurd c (by decide), fun _ => ⟨fun c => absurd c (by decide), fun _ => ⟨fun c => absurd c (by decide), fun _ => ⟨fun _ => ?_, fun c => absurd rfl c⟩⟩⟩⟩⟩
    refine km_spotBy (d + 4) hS hI.1 o0 o1 w0 w1 t0 t1 hqq (z_viI ⟨i0, i1, ?_⟩)
    rw [e4 M hS]
    refine ⟨fun c => rg_304_245 (d + 4) (z_bl_of (Or.inl rfl) (so false M hS (z_ag_rf M) ?_)), fun c => rg_304_245 (d + 4) (z_bl_of (Or.inr rfl) (so true M hS (z_ag_rf M) ?_))⟩
    · rw [if_neg (by decide), if_neg (by decide), if_neg (by decide), if_neg (by decide), if_pos rfl]; exact decide_eq_false c
    · rw [if_neg (by decide), if_neg (by decide), if_neg (by decide), if_neg (by decide), if_pos rfl]; exact decide_eq_true c
  · have hpp := hpl (by omega)
    rw [hk] at so ⊢
    refine ⟨fun c => absurd c (by decide), fun _ => ⟨fun _ => ?_, fun c => absurd rfl c⟩⟩
    refine km_spotBy (d + 4) hS hI.1 a0 a1 v0 v1 t0 t1 hpp (z_viI ⟨i0, i1, ?_⟩)
    rw [e4 M hS]
    refine ⟨fun c => rg_304_221 (d + 4) (z_bl_of (Or.inl rfl) (so false M hS (z_ag_rf M) ?_)), fun c => rg_304_221 (d + 4) (z_bl_of (Or.inr rfl) (so true M hS (z_ag_rf M) ?_))⟩
    · rw [if_neg (by decide), if_neg (by decide), if_neg (by decide), if_pos rfl]; exact decide_eq_false c
    · rw [if_neg (by decide), if_neg (by decide), if_neg (by decide), if_pos rfl]; exact decide_eq_true c
  · rw [hk] at so ⊢
    refine ⟨fun c => absurd c (by decide), fun _ => ⟨fun c => absurd c (by decide), fun _ => ⟨fun c => absurd c (by decide), fun _ => ⟨fun c => absurd c (by decide), fun _ => ⟨fun c => absurd c (by decide), fun _ => ?_⟩⟩⟩⟩⟩
    refine km_shadowWay d hS hI.2.2.1 t0 t1 (fun N1 aN1 gN1 => z_viI (km_shadowLength d aN1 hI.2.2.1 t0 t1 (fun N aN gN => z_viI ⟨i0, i1, ?_⟩)))
    have q1 := z_rk_b S 97 7 t u 0 0 (by decide)
    have q2 := z_rk_b S 108 9 t u 0 0 (by decide)
    have ect : z_w (z_w (10 * zv_rk S 97 7 t u 0 0) + zv_rk S 108 9 t u 0 0) = z_ct S t u := by rw [z_w_id (x := 10 * zv_rk S 97 7 t u 0 0) (by omega) (by omega), z_w_id (by omega) (by omega)]; rfl
    rw [ect, e4 N aN]
    refine ⟨fun c => so false N aN (z_ag_tr gN1 gN) ?_, fun c => so true N aN (z_ag_tr gN1 gN) ?_⟩
    · rw [if_neg (by decide), if_neg (by decide), if_neg (by decide), if_neg (by decide), if_neg (by decide)]; exact decide_eq_false c
    · rw [if_neg (by decide), if_neg (by decide), if_neg (by decide), if_neg (by decide), if_neg (by decide)]; exact decide_eq_true c
theorem z_ex_cg {P P' : Int → Bool} : ∀ (n : Nat) (i : Int), (∀ j : Int, i ≤ j → j < i + (n : Int) → P j = P' j) → z_ex P n i = z_ex P' n i := by
  intro n
  induction n with
  | zero => intro i _; rfl
  | succ n ih =>
    intro i h
    show (P i || z_ex P n (i + 1)) = (P' i || z_ex P' n (i + 1))
    rw [h i (by omega) (by omega), ih (i + 1) (fun j a b => h j (by omega) (by omega))]
theorem km_canHold (d : Nat) {i v w u p q : Int} (hS : z_sit S M) (hI : z_IS S) (hr : z_rowok S i) (i0 : 0 ≤ i) (i1 : i < 40) (hp : p = S 401092 i) (hq : q = S 401096 i) (v0 : 0 ≤ v) (v1 : v < 3) (w0 : 0 ≤ w) (w1 : w < 3) (hpl : S 401095 i ≠ 102 → S 304067 (3 * p + v) = 1) (hop : q ≠ -1 → S 304067 (3 * q + w) = 1) (h : ∀ M' : z_M, z_sit S M' → z_ag M M' → Q (z_I (zv_b (z_hld S i (3 * p + v) (3 * q + w) u))) M') : z_Cl 0 (d + 6) 307 [z_R 13, z_I i, z_I v, z_I w, z_I u] M Q := by
  have hlh := z_rlohi hr
  obtain ⟨_, _, _, ⟨m0, m1⟩, _, ⟨s0, s1⟩, _⟩ := id hr
  have elo : z_rlo S i = if S 401094 i < S 401093 i then S 401093 i - S 401094 i else 0 := by
    unfold z_rlo z_max; split <;> split <;> omega
  have ehi : z_rhi S i = if S 401093 i + S 401094 i < 96 then S 401093 i + S 401094 i else 95 := by
    unfold z_rhi z_min; split <;> split <;> omega
  have first : ∀ (K : z_V → z_M → Prop) (N : z_M), z_sit S N → K (z_I (z_rlo S i)) N → z_Cl 0 (d + 5) 305 [z_R 13, z_I i] N K := by
    intro K N hN hK
    refine re_305 (d + 5) ?_
    rw [z_fn hN 401093 rfl, z_fn hN 401094 rfl, z_w_id (x := S 401093 i - S 401094 i) (by omega) (by omega)]
    refine ⟨i0, i1, i0, i1, fun c => ?_, fun c => ⟨i0, i1, i0, i1, ?_⟩⟩
    · rw [elo, if_neg (by omega)] at hK; exact hK
    · rw [elo, if_pos c] at hK; exact hK
  have last : ∀ (K : z_V → z_M → Prop) (N : z_M), z_sit S N → K (z_I (z_rhi S i)) N → z_Cl 0 (d + 5) 306 [z_R 13, z_I i] N K := by
    intro K N hN hK
    refine re_306 (d + 5) ?_
    rw [z_fn hN 401093 rfl, z_fn hN 401094 rfl, z_w_id (x := S 401093 i + S 401094 i) (by omega) (by omega)]
    refine ⟨i0, i1, i0, i1, fun c => ?_, fun c => ⟨i0, i1, i0, i1, ?_⟩⟩
    · rw [ehi, if_neg (by omega)] at hK; exact hK
    · rw [ehi, if_pos c] at hK; exact hK
  unfold z_hld at h
  have key : ∀ (n : Nat) (t : Int) (N : z_M), 0 ≤ t → t ≤ z_rhi S i + 1 → (z_rhi S i + 1 - t).toNat = n → z_sit S N → z_ag M N → (∀ M' : z_M, z_sit S M' → z_ag M M' → Q (z_I (zv_b (z_ex (fun t => z_so S i (3 * p + v) (3 * q + w) u t) n t))) M') → z_G 0 (d + 6) z_m307 7 [z_R 13, z_I i, z_I v, z_I w, z_I u, z_I t] [] N Q := by
    intro n
    induction n with
    | zero =>
      intro t N t0 t1 tn hN gN hq
      exact rg_307_7 (d + 5) (last _ N hN (z_viI ⟨fun _ => hq N hN gN, fun c => absurd c (by omega)⟩))
    | succ n ih =>
      intro t N t0 t1 tn hN gN hQ
      refine rg_307_7 (d + 5) (last _ N hN (z_viI ⟨fun c => absurd c (by omega), fun _ => km_isSo d hN hI hr i0 i1 hp hq t0 (by omega) v0 v1 w0 w1 hpl hop (fun N' hN' gN' => ?_)⟩))
      have e2 : z_ex (fun t => z_so S i (3 * p + v) (3 * q + w) u t) (n + 1) t = (z_so S i (3 * p + v) (3 * q + w) u t || z_ex (fun t => z_so S i (3 * p + v) (3 * q + w) u t) n (t + 1)) := rfl
      rw [e2] at hQ
      cases hb : z_so S i (3 * p + v) (3 * q + w) u t with
      | true =>
        rw [hb] at hQ
        exact z_y1 (hQ N' hN' (z_ag_tr gN gN'))
      | false =>
        rw [hb] at hQ
        refine z_n1 ?_
        rw [z_w_id (by omega) (by omega)]
        exact ih (t + 1) N' (by omega) (by omega) (by omega) hN' (z_ag_tr gN gN') hQ
  exact re_307 (d + 5) (first _ M hS (z_viI (key (z_rhi S i + 1 - z_rlo S i).toNat (z_rlo S i) M hlh.1 (by omega) rfl hS (z_ag_rf M) h)))
end ZREP
