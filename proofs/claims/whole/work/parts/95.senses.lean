/-! SENSES: what plans see and hear; the loops' own lemma -/
theorem z_lp {α : Type} {S M : z_M} {n : Nat} (V : Nat → α) (G : z_M → α → Int → Prop) (M0 : z_M) (h0 : z_sit S M0) (g0 : z_ag M M0)
    (step : ∀ (q : Nat) (M' : z_M), q < n → z_sit S M' → z_ag M M' → (∀ M'' : z_M, z_sit S M'' → z_ag M M'' → G M'' (V (q + 1)) ((q + 1 : Nat) : Int)) → G M' (V q) (q : Int))
    (done : ∀ M' : z_M, z_sit S M' → z_ag M M' → G M' (V n) (n : Int)) : G M0 (V 0) 0 := by
  have key : ∀ (k q : Nat) (M' : z_M), q + k = n → z_sit S M' → z_ag M M' → G M' (V q) (q : Int) := by
    intro k
    induction k with
    | zero => intro q M' e h g; rw [show q = n from e]; exact done M' h g
    | succ k ih => intro q M' e h g; exact step q M' (by omega) h g (fun M'' h2 g2 => ih (q + 1) M'' (by omega) h2 g2)
  exact key n 0 M0 (by omega) h0 g0
theorem z_wq {q : Nat} (h : q < 1000000) : z_w ((q : Int) + 1) = ((q + 1 : Nat) : Int) := by rw [z_w_id (by omega) (by omega)]; rfl
theorem z_up_eq {M : z_M} {a : Nat} {j x : Int} : z_up M a j x a j = x := by unfold z_up; rw [if_pos rfl, if_pos rfl]
theorem z_or_0 {a : Nat} (h : a < 2147483648) : z_or (a : Int) 0 = (a : Int) := by
  have := z_or_n (a := a) (b := 0) h (by decide)
  rw [Nat.or_zero] at this
  exact this
def z_ITown (S : z_M) : Prop := S 1001015 = S 1001065 ∧ (∀ j : Int, 0 ≤ j → j < 100 → 0 ≤ S 1001015 j ∧ S 1001015 j ≤ 2) ∧ (∀ f t : Int, 0 ≤ f → f < 100 → 0 ≤ t → t < 100 → S 100001017 (100 * f + t) = z_aw (S 1001015) f t)
def z_IS (S : z_M) : Prop := z_IPeo S ∧ z_ITown S ∧ z_ILm S ∧ z_ILc S
section ZSEN
variable {S M : z_M} {Q : z_V → z_M → Prop}
theorem z_at_views (hS : z_sit S M) {w t : Int} (h0 : 0 ≤ w) (h1 : w < 30) (h2 : 0 ≤ t) (h3 : t < 96) : z_sit S (z_up M 28801031 (96 * w + t) (z_vw S w t)) := by
  obtain ⟨g, a, b, c, e⟩ := hS
  refine ⟨fun k j hk => ?_, fun w' t' q0 q1 q2 q3 => ?_, ?_, ?_, ?_⟩
  · rw [z_up_ne (z_ne1 hk (fun _ => rfl))]; exact g k j hk
  · unfold z_up
    rw [if_pos rfl]
    by_cases e1 : 96 * w' + t' = 96 * w + t
    · have : w' = w := by omega
      have : t' = t := by omega
      subst w' t'
      rw [if_pos rfl]; exact Or.inr rfl
    · rw [if_neg e1]; exact a w' t' q0 q1 q2 q3
  · rw [z_up_ne (by decide)]; exact b
  · rw [z_up_ne (by decide)]; exact c
  · rw [z_up_ne (by decide)]; exact e
theorem z_at_calls (hS : z_sit S M) {w t : Int} (h0 : 0 ≤ w) (h1 : w < 30) (h2 : 0 ≤ t) (h3 : t < 96) : z_sit S (z_up M 28801032 (96 * w + t) (z_cw S w t)) := by
  obtain ⟨g, a, b, c, e⟩ := hS
  refine ⟨fun k j hk => ?_, ?_, fun w' t' q0 q1 q2 q3 => ?_, ?_, ?_⟩
  · rw [z_up_ne (z_ne1 hk (fun _ => rfl))]; exact g k j hk
  · rw [z_up_ne (by decide)]; exact a
  · unfold z_up
    rw [if_pos rfl]
    by_cases e1 : 96 * w' + t' = 96 * w + t
    · have : w' = w := by omega
      have : t' = t := by omega
      subst w' t'
      rw [if_pos rfl]; exact Or.inr rfl
    · rw [if_neg e1]; exact b w' t' q0 q1 q2 q3
  · rw [z_up_ne (by decide)]; exact c
  · rw [z_up_ne (by decide)]; exact e
theorem z_at_seen (hS : z_sit S M) {w t : Int} (h0 : 0 ≤ w) (h1 : w < 30) (h2 : 0 ≤ t) (h3 : t < 96) : z_sit S (z_up M 28801033 (96 * w + t) (zv_sn S w t : Int)) := by
  obtain ⟨g, a, b, c, e⟩ := hS
  refine ⟨fun k j hk => ?_, ?_, ?_, fun w' t' q0 q1 q2 q3 => ?_, ?_⟩
  · rw [z_up_ne (z_ne1 hk (fun _ => rfl))]; exact g k j hk
  · rw [z_up_ne (by decide)]; exact a
  · rw [z_up_ne (by decide)]; exact b
  · unfold z_up
    rw [if_pos rfl]
    by_cases e1 : 96 * w' + t' = 96 * w + t
    · have : w' = w := by omega
      have : t' = t := by omega
      subst w' t'
      rw [if_pos rfl]; exact Or.inr rfl
    · rw [if_neg e1]; exact c w' t' q0 q1 q2 q3
  · rw [z_up_ne (by decide)]; exact e
theorem z_at_casts (hS : z_sit S M) {u t : Int} (h0 : 0 ≤ u) (h1 : u < 2) (h2 : 0 ≤ t) (h3 : t < 96) : z_sit S (z_up M 1921034 (96 * u + t) (z_ct S t u)) := by
  obtain ⟨g, a, b, c, e⟩ := hS
  refine ⟨fun k j hk => ?_, ?_, ?_, ?_, fun w' t' q0 q1 q2 q3 => ?_⟩
  · rw [z_up_ne (z_ne1 hk (fun _ => rfl))]; exact g k j hk
  · rw [z_up_ne (by decide)]; exact a
  · rw [z_up_ne (by decide)]; exact b
  · rw [z_up_ne (by decide)]; exact c
  · unfold z_up
    rw [if_pos rfl]
    by_cases e1 : 96 * w' + t' = 96 * u + t
    · have : w' = u := by omega
      have : t' = t := by omega
      subst w' t'
      rw [if_pos rfl]; exact Or.inr rfl
    · rw [if_neg e1]; exact e w' t' q0 q1 q2 q3
theorem z_ag_upk (k : Nat) (j x : Int) (hk : z_hdk k = true) : z_ag M (z_up M k j x) := z_ag_up k j x (by unfold z_hid; rw [hk]; rfl)
theorem kc_view (d : Nat) {w t : Int} (hS : z_sit S M) (hI : z_IS S) (h0 : 0 ≤ w) (h1 : w < 30) (h2 : 0 ≤ t) (h3 : t < 96) (hp : S 304067 w = 1) (h : ∀ M' : z_M, z_sit S M' → z_ag M M' → Q (z_I (z_vw S w t)) M') : z_Cl 0 (d + 2) 112 [z_R 6, z_I w, z_I t] M Q := by
  refine re_112 (d + 1) ?_
  rw [z_w_id (x := 96 * w) (by omega) (by omega), z_w_id (x := 96 * w + t) (by omega) (by omega), z_td h0, z_w_id (x := w / 3) (by omega) (by omega)]
  refine ⟨by omega, by omega, fun c => ⟨by omega, by omega, ?_⟩, fun c => ?_⟩
  · rcases hS.2.1 w t h0 h1 h2 h3 with e | e
    · exact absurd e c
    · rw [e]; exact h M hS (z_ag_rf M)
  · obtain ⟨s0, s1⟩ := z_ps_b hI.1 h0 h1 h2 h3 hp
    refine kc_spot (d + 1) hS h0 h1 h2 h3 (z_viI (kc_reckon d hS hI.2.2.1 hI.2.2.2 (most := 14) (by omega) h2 h3 s0 s1 (fun M' a b _ => z_viI ⟨by omega, by omega, by omega, by omega, ?_⟩)))
    rw [z_up_eq]
    exact h _ (z_at_views a h0 h1 h2 h3) (z_ag_tr b (z_ag_upk _ _ _ rfl))
theorem kc_call (d : Nat) {w t : Int} (hS : z_sit S M) (hI : z_IS S) (h0 : 0 ≤ w) (h1 : w < 30) (h2 : 0 ≤ t) (h3 : t < 96) (hp : S 304067 w = 1) (h : ∀ M' : z_M, z_sit S M' → z_ag M M' → Q (z_I (z_cw S w t)) M') : z_Cl 0 (d + 2) 113 [z_R 6, z_I w, z_I t] M Q := by
  refine re_113 (d + 1) ?_
  rw [z_w_id (x := 96 * w) (by omega) (by omega), z_w_id (x := 96 * w + t) (by omega) (by omega), z_td h0, z_w_id (x := w / 3) (by omega) (by omega)]
  refine ⟨by omega, by omega, fun c => ⟨by omega, by omega, ?_⟩, fun c => ?_⟩
  · rcases hS.2.2.1 w t h0 h1 h2 h3 with e | e
    · exact absurd e c
    · rw [e]; exact h M hS (z_ag_rf M)
  · obtain ⟨s0, s1⟩ := z_ps_b hI.1 h0 h1 h2 h3 hp
    refine kc_spot (d + 1) hS h0 h1 h2 h3 (z_viI (kc_reckon d hS hI.2.2.1 hI.2.2.2 (most := 18) (by omega) h2 h3 s0 s1 (fun M' a b _ => z_viI ⟨by omega, by omega, by omega, by omega, ?_⟩)))
    rw [z_up_eq]
    exact h _ (z_at_calls a h0 h1 h2 h3) (z_ag_tr b (z_ag_upk _ _ _ rfl))
theorem kc_cast (d : Nat) {t u : Int} (hS : z_sit S M) (hI : z_IS S) (h0 : 0 ≤ u) (h1 : u < 2) (h2 : 0 ≤ t) (h3 : t < 96) (h : ∀ M' : z_M, z_sit S M' → z_ag M M' → Q (z_I (z_ct S t u)) M') : z_Cl 0 (d + 2) 114 [z_R 6, z_I t, z_I u] M Q := by
  refine re_114 (d + 1) ?_
  rw [z_w_id (x := 96 * u) (by omega) (by omega), z_w_id (x := 96 * u + t) (by omega) (by omega)]
  refine ⟨by omega, by omega, fun c => ⟨by omega, by omega, ?_⟩, fun c => ?_⟩
  · rcases hS.2.2.2.2 u t h0 h1 h2 h3 with e | e
    · exact absurd e c
    · rw [e]; exact h M hS (z_ag_rf M)
  · refine kc_reckon d hS hI.2.2.1 hI.2.2.2 (most := 7) (by omega) h2 h3 (by decide) (by decide) (fun M1 a b _ => z_viI (kc_reckon d a hI.2.2.1 hI.2.2.2 (most := 9) (by omega) h2 h3 (by decide) (by decide) (fun M' a2 b2 _ => z_viI ⟨by omega, by omega, by omega, by omega, ?_⟩)))
    rw [z_up_eq]
    have q1 := z_rk_b S 97 7 t u 0 0 (by decide)
    have q2 := z_rk_b S 108 9 t u 0 0 (by decide)
    have e : z_w (z_w (10 * zv_rk S 97 7 t u 0 0) + zv_rk S 108 9 t u 0 0) = z_ct S t u := by
      rw [z_w_id (x := 10 * zv_rk S 97 7 t u 0 0) (by omega) (by omega), z_w_id (by omega) (by omega)]; rfl
    rw [e]
    exact h _ (z_at_casts a2 h0 h1 h2 h3) (z_ag_tr (z_ag_tr b b2) (z_ag_upk _ _ _ rfl))
theorem kc_away (d : Nat) {f t : Int} (hS : z_sit S M) (hT : z_ITown S) (hf : 0 ≤ f) (hf1 : f < 100) (ht : 0 ≤ t) (ht1 : t < 100) (h : Q (z_I (z_aw (S 1001015) f t)) M) : z_Cl 0 d 148 [z_R 3, z_I f, z_I t] M Q := by
  have e : M 100001017 = S 100001017 := z_fn hS _ rfl
  refine re_148 d ?_
  rw [z_w_id (x := 100 * f) (by omega) (by omega), z_w_id (by omega) (by omega), e, hT.2.2 f t hf hf1 ht ht1]
  exact ⟨by omega, by omega, h⟩
theorem kc_canSee (d : Nat) {w t s : Int} (hS : z_sit S M) (hI : z_IS S) (h0 : 0 ≤ w) (h1 : w < 30) (h2 : 0 ≤ t) (h3 : t < 96) (hp : S 304067 w = 1) (hs : 0 ≤ s) (hs1 : s < 100) (ha : ∀ M' : z_M, z_sit S M' → z_ag M M' → z_aw (S 1001015) (z_ps S w t) s ≤ z_vw S w t → Q (z_I 1) M') (hb : ∀ M' : z_M, z_sit S M' → z_ag M M' → z_vw S w t < z_aw (S 1001015) (z_ps S w t) s → Q (z_I 0) M') : z_Cl 0 (d + 3) 116 [z_R 6, z_I w, z_I t, z_I s] M Q := by
  obtain ⟨s0, s1⟩ := z_ps_b hI.1 h0 h1 h2 h3 hp
  exact re_116 (d + 2) (kc_spot (d + 2) hS h0 h1 h2 h3 (z_viI (kc_away (d + 2) hS hI.2.1 s0 s1 hs hs1 (z_viI (kc_view d hS hI h0 h1 h2 h3 hp (fun M' a b => z_viI ⟨fun c => hb M' a b c, fun c => ha M' a b c⟩))))))
def z_ap (a b : Int) : Int := z_ab (a % 10 - b % 10) + z_ab (a / 10 - b / 10)
theorem z_abs_e {x : Int} (h0 : -1000 ≤ x) (h1 : x ≤ 1000) : z_abs x = z_ab x := by
  unfold z_abs z_ab
  split
  · rw [z_w_id (by omega) (by omega), if_neg (by omega)]
  · rw [if_pos (by omega)]
theorem kc_canHear (d : Nat) {w o t : Int} (hS : z_sit S M) (hI : z_IS S) (h0 : 0 ≤ w) (h1 : w < 30) (o0 : 0 ≤ o) (o1 : o < 30) (h2 : 0 ≤ t) (h3 : t < 96) (hp : S 304067 w = 1) (hp2 : S 304067 o = 1) (ha : ∀ M' : z_M, z_sit S M' → z_ag M M' → z_ap (z_ps S w t) (z_ps S o t) ≤ z_cw S o t → Q (z_I 1) M') (hb : ∀ M' : z_M, z_sit S M' → z_ag M M' → z_cw S o t < z_ap (z_ps S w t) (z_ps S o t) → Q (z_I 0) M') : z_Cl 0 (d + 3) 117 [z_R 6, z_I w, z_I o, z_I t] M Q := by
  obtain ⟨s0, s1⟩ := z_ps_b hI.1 h0 h1 h2 h3 hp
  obtain ⟨r0, r1⟩ := z_ps_b hI.1 o0 o1 h2 h3 hp2
  refine re_117 (d + 2) (kc_spot (d + 2) hS h0 h1 h2 h3 (z_viI (kc_spot (d + 2) hS o0 o1 h2 h3 (z_viI (kc_call d hS hI o0 o1 h2 h3 hp2 (fun M' a b => z_viI ?_))))))
  have ha' := ha M' a b
  have hb' := hb M' a b
  unfold z_ap at ha' hb'
  generalize z_ps S w t = x at *
  generalize z_ps S o t = y at *
  rw [z_tm s0, z_tm r0, z_td s0, z_td r0, z_w_id (x := x / 10) (by omega) (by omega), z_w_id (x := y / 10) (by omega) (by omega), z_w_id (x := x % 10 - y % 10) (by omega) (by omega), z_w_id (x := x / 10 - y / 10) (by omega) (by omega), z_abs_e (by omega) (by omega), z_abs_e (by omega) (by omega)]
  have a1 := z_ab_c (x % 10 - y % 10)
  have a2 := z_ab_c (x / 10 - y / 10)
  rw [z_w_id (by omega) (by omega)]
  exact ⟨hb', ha'⟩
theorem z_vw_b (S : z_M) (w t : Int) : 0 ≤ z_vw S w t ∧ z_vw S w t ≤ 14 := z_rk_b S _ _ _ _ _ _ (by decide)
theorem z_cw_b (S : z_M) (w t : Int) : 0 ≤ z_cw S w t ∧ z_cw S w t ≤ 18 := z_rk_b S _ _ _ _ _ _ (by decide)
theorem z_ct_b (S : z_M) (t u : Int) : 0 ≤ z_ct S t u ∧ z_ct S t u ≤ 79 ∧ z_ct S t u / 10 = zv_rk S 97 7 t u 0 0 ∧ z_ct S t u % 10 = zv_rk S 108 9 t u 0 0 := by
  have q1 := z_rk_b S 97 7 t u 0 0 (by decide)
  have q2 := z_rk_b S 108 9 t u 0 0 (by decide)
  unfold z_ct
  refine ⟨by omega, by omega, by omega, by omega⟩
/-- seenPlans -/
theorem kc_seenPlans (d : Nat) {w t : Int} (hS : z_sit S M) (hI : z_IS S) (h0 : 0 ≤ w) (h1 : w < 30) (h2 : 0 ≤ t) (h3 : t < 96) (hp : S 304067 w = 1) (h : ∀ M' : z_M, z_sit S M' → z_ag M M' → Q (z_I (zv_sn S w t : Int)) M') : z_Cl 0 (d + 3) 118 [z_R 6, z_I w, z_I t] M Q := by
  refine re_118 (d + 2) ?_
  rw [z_w_id (x := 96 * w) (by omega) (by omega), z_w_id (x := 96 * w + t) (by omega) (by omega)]
  refine ⟨by omega, by omega, fun c => ⟨by omega, by omega, ?_⟩, fun c => ?_⟩
  · rcases hS.2.2.2.1 w t h0 h1 h2 h3 with e | e
    · exact absurd e c
    · rw [e]; exact h M hS (z_ag_rf M)
  · obtain ⟨s0, s1⟩ := z_ps_b hI.1 h0 h1 h2 h3 hp
    refine kc_view d hS hI h0 h1 h2 h3 hp (fun M1 a1 b1 => z_viI (kc_spot (d + 2) a1 h0 h1 h2 h3 (z_viI ?_)))
    have z0 : (0 : Int) = (z_bs 30 (fun b => z_snb S w t (z_ob b) && decide (z_ob b < ((0 : Nat) : Int))) : Int) := by
      rw [z_bs_empty (fun i _ => ?_)]
      · rfl
      · have : ¬ z_ob i < ((0 : Nat) : Int) := by unfold z_ob; omega
        rw [decide_eq_false this, Bool.and_false]
    have := z_lp (S := S) (M := M) (n := 30) (fun q => (z_bs 30 (fun b => z_snb S w t (z_ob b) && decide (z_ob b < (q : Int))) : Int)) (fun N b q => z_G 0 (d + 3) z_m118 42 [z_R 6, z_I w, z_I t, z_I (96 * w + t), z_I (z_vw S w t), z_I (z_ps S w t), z_I b, z_I q, z_U] [] N Q) M1 a1 b1 (fun q N hq hN gN nx => ?_) (fun N hN gN => ?_)
    · rw [← z0] at this; exact this
    · have nx0 : z_snb S w t (q : Int) = false → ∀ N' : z_M, z_sit S N' → z_ag M N' → ∀ y : Int, z_G 0 (d + 3) z_m118 126 [z_R 6, z_I w, z_I t, z_I (96 * w + t), z_I (z_vw S w t), z_I (z_ps S w t), z_I (z_bs 30 (fun b => z_snb S w t (z_ob b) && decide (z_ob b < (q : Int))) : Int), z_I (q : Int), z_I y] [] N' Q := by
        intro hno N' hN' gN' y
        refine rg_118_126 (d + 2) ?_
        rw [z_wq (by omega)]
        have := nx N' hN' gN'
        rw [show z_bs 30 (fun b => z_snb S w t (z_ob b) && decide (z_ob b < (q : Int))) = z_bs 30 (fun b => z_snb S w t (z_ob b) && decide (z_ob b < ((q + 1 : Nat) : Int))) from z_bs_ext (fun i hi => ?_)]
        · exact this
        · by_cases e : z_ob i = (q : Int)
          · show (z_snb S w t (z_ob i) && decide (z_ob i < (q : Int))) = (z_snb S w t (z_ob i) && decide (z_ob i < ((q + 1 : Nat) : Int)))
            rw [e, hno]; rfl
          · show (z_snb S w t (z_ob i) && decide (z_ob i < (q : Int))) = (z_snb S w t (z_ob i) && decide (z_ob i < ((q + 1 : Nat) : Int)))
            congr 1
            exact decide_eq_decide.mpr (by omega)
      refine rg_118_42 (d + 2) ⟨fun c2 => absurd c2 (by omega), fun _ => ?_⟩
      rw [z_td h0, z_w_id (x := w / 3) (by omega) (by omega), z_td (x := (q : Int)) (by omega), z_w_id (x := (q : Int) / 3) (by omega) (by omega)]
      refine ⟨fun c2 => rg_118_75 (d + 2) (rg_118_76 (d + 2) ⟨fun _ => nx0 ?_ N hN gN _, fun c3 => absurd rfl c3⟩), fun c2 => kc_has (d + 2) hN hI.1 (by omega) (by omega) (fun g => z_viI ⟨fun c3 => absurd c3 (by decide), fun _ => rg_118_76 (d + 2) ⟨fun c3 => absurd c3 (by decide), fun _ => ?_⟩⟩) (fun g => z_viI ⟨fun _ => rg_118_75 (d + 2) (rg_118_76 (d + 2) ⟨fun _ => nx0 ?_ N hN gN _, fun c3 => absurd rfl c3⟩), fun c3 => absurd rfl c3⟩)⟩
      · unfold z_snb; exact decide_eq_false (fun z => z.1 c2)
      · obtain ⟨r0, r1⟩ := z_ps_b hI.1 (w := (q : Int)) (by omega) (by omega) h2 h3 g
        refine kc_spot (d + 2) hN (by omega) (by omega) h2 h3 (z_viI (kc_away (d + 2) hN hI.2.1 s0 s1 r0 r1 (z_viI ⟨fun c3 => nx0 ?_ N hN gN _, fun c3 => rg_118_126 (d + 2) ?_⟩)))
        · unfold z_snb; exact decide_eq_false (fun z => by have := z.2.2; omega)
        · rw [z_tm (x := (q : Int)) (by omega), z_td (x := (q : Int)) (by omega), z_w_id (x := (q : Int) / 3) (by omega) (by omega), z_w_id (x := 10 * ((q : Int) % 3)) (by omega) (by omega), z_w_id (x := 10 * ((q : Int) % 3) + (q : Int) / 3) (by omega) (by omega), z_wq (by omega)]
          have ei : 10 * ((q : Int) % 3) + (q : Int) / 3 = ((10 * (q % 3) + q / 3 : Nat) : Int) := by omega
          have hyes : z_snb S w t (q : Int) = true := by unfold z_snb; exact decide_eq_true ⟨c2, g, c3⟩
          rw [ei, z_bs_put (n := 30) (P' := fun b => z_snb S w t (z_ob b) && decide (z_ob b < ((q + 1 : Nat) : Int))) (by decide) (by omega) (fun j hj => ?_)]
          · exact nx N hN gN
          · show (z_snb S w t (z_ob j) && decide (z_ob j < ((q + 1 : Nat) : Int))) = ((z_snb S w t (z_ob j) && decide (z_ob j < (q : Int))) || decide (j = 10 * (q % 3) + q / 3))
            by_cases e : j = 10 * (q % 3) + q / 3
            · have eo : z_ob j = (q : Int) := by unfold z_ob; omega
              rw [eo, hyes, decide_eq_true e, decide_eq_true (by omega), Bool.or_true]; rfl
            · have eo : z_ob j ≠ (q : Int) := by unfold z_ob; omega
              rw [decide_eq_false e, Bool.or_false]
              congr 1
              exact decide_eq_decide.mpr (by omega)
      · unfold z_snb; exact decide_eq_false (fun z => by have := z.2.1; omega)
    · have e : z_bs 30 (fun b => z_snb S w t (z_ob b) && decide (z_ob b < ((30 : Nat) : Int))) = zv_sn S w t := by
        unfold zv_sn
        refine z_bs_ext (fun i hi => ?_)
        show (z_snb S w t (z_ob i) && decide (z_ob i < ((30 : Nat) : Int))) = z_snb S w t (z_ob i)
        rw [decide_eq_true (by unfold z_ob; omega), Bool.and_true]
      show z_G 0 (d + 3) z_m118 42 [z_R 6, z_I w, z_I t, z_I (96 * w + t), z_I (z_vw S w t), z_I (z_ps S w t), z_I (z_bs 30 (fun b => z_snb S w t (z_ob b) && decide (z_ob b < ((30 : Nat) : Int))) : Int), z_I ((30 : Nat) : Int), z_U] [] N Q
      rw [e]
      refine rg_118_42 (d + 2) ⟨fun _ => ⟨by omega, by omega, by omega, by omega, ?_⟩, fun c2 => absurd c2 (by decide)⟩
      rw [z_up_eq]
      exact h _ (z_at_seen hN h0 h1 h2 h3) (z_ag_tr gN (z_ag_upk _ _ _ rfl))
/-- whom one sees -/
def z_seb (S : z_M) (p t : Int) (q : Nat) : Bool := z_snb S (z_pd S p) t (z_pd S (q : Int))
def z_see (S : z_M) (p t : Int) : Int := (z_bs 10 (z_seb S p t) : Int)
theorem kc_seenToday (d : Nat) {p t : Int} (hS : z_sit S M) (hI : z_IS S) (hp : z_tl S p) (h2 : 0 ≤ t) (h3 : t < 96) (h : ∀ M' : z_M, z_sit S M' → z_ag M M' → Q (z_I (z_see S p t)) M') : z_Cl 0 (d + 4) 119 [z_R 6, z_I p, z_I t] M Q := by
  obtain ⟨a, b, c, _, _⟩ := z_pd_b hI.1 hp
  refine re_119 (d + 3) (kc_planToday (d + 3) hS hI.1 hp.1 hp.2.1 (z_viI (kc_seenPlans d hS hI a b h2 h3 c (fun M1 a1 b1 => z_viI ?_))))
  refine z_lp (S := S) (M := M) (n := 10) (fun q => (z_bs q (z_seb S p t) : Int)) (fun N b q => z_G 0 (d + 4) z_m119 20 [z_R 6, z_I p, z_I t, z_I (zv_sn S (z_pd S p) t : Int), z_I b, z_I q] [] N Q) M1 a1 b1 (fun q N hq hN gN nx => ?_) (fun N hN gN => ?_)
  · refine rg_119_20 (d + 3) ⟨fun c2 => absurd c2 (by omega), fun _ => kc_version (d + 3) hN (by omega) (by omega) (z_viI ?_)⟩
    obtain ⟨_, v0, v1, _⟩ := hI.1.2.2.1 (q : Int) (by omega) (by omega)
    have epd : z_pd S (q : Int) = 3 * (q : Int) + S 101023 (q : Int) := rfl
    generalize S 101023 (q : Int) = v at *
    rw [z_w_id (x := 10 * v) (by omega) (by omega), z_w_id (x := 10 * v + (q : Int)) (by omega) (by omega), z_wq (by omega)]
    obtain ⟨n, rfl⟩ := Int.eq_ofNat_of_zero_le v0
    have ei : 10 * (n : Int) + (q : Int) = ((10 * n + q : Nat) : Int) := by omega
    have eb : z_seb S p t q = z_snb S (z_pd S p) t (z_ob (10 * n + q)) := by
      unfold z_seb
      rw [epd]
      congr 1
      unfold z_ob
      omega
    have hlt := z_bs_lt q (z_seb S p t)
    have h2p := z_2p (n := q) (by omega)
    rw [ei]
    unfold zv_sn
    rw [z_bit_bs (by decide) (by omega)]
    cases hb : z_seb S p t q with
    | true =>
      rw [if_pos ⟨by omega, by rw [← eb]; exact hb⟩, z_bs_or (by omega) hb]
      exact nx N hN gN
    | false =>
      rw [if_neg (fun z => by have := z.2; rw [← eb, hb] at this; cases this), z_shl0_n (by omega), z_or_0 (by omega), z_bs_no hb]
      exact nx N hN gN
  · exact rg_119_20 (d + 3) ⟨fun _ => h N hN gN, fun c2 => absurd c2 (by decide)⟩
def z_hrb (S : z_M) (p t : Int) (q : Nat) : Bool := decide ((q : Int) ≠ p ∧ S 304067 (3 * (q : Int)) = 1 ∧ z_ap (z_sp S p t) (z_sp S (q : Int) t) ≤ z_cw S (z_pd S (q : Int)) t)
def z_hea (S : z_M) (p t : Int) : Nat := z_bs 10 (z_hrb S p t)
theorem kc_heardToday (d : Nat) {p t : Int} (hS : z_sit S M) (hI : z_IS S) (hp : z_tl S p) (h2 : 0 ≤ t) (h3 : t < 96) (h : ∀ M' : z_M, z_sit S M' → z_ag M M' → Q (z_I (z_hea S p t : Int)) M') : z_Cl 0 (d + 4) 120 [z_R 6, z_I p, z_I t] M Q := by
  obtain ⟨a, b, c, _, _⟩ := z_pd_b hI.1 hp
  refine re_120 (d + 3) ?_
  refine z_lp (S := S) (M := M) (n := 10) (fun q => (z_bs q (z_hrb S p t) : Int)) (fun N b q => z_G 0 (d + 4) z_m120 5 [z_R 6, z_I p, z_I t, z_I b, z_I q] [] N Q) M hS (z_ag_rf M) (fun q N hq hN gN nx => ?_) (fun N hN gN => ?_)
  · have no : z_hrb S p t q = false → ∀ N' : z_M, z_sit S N' → z_ag M N' → z_G 0 (d + 4) z_m120 5 [z_R 6, z_I p, z_I t, z_I (z_bs q (z_hrb S p t) : Int), z_I (z_w ((q : Int) + 1))] [] N' Q := by
      intro e N' hN' gN'
      rw [z_wq (by omega), z_bs_no e]
      exact nx N' hN' gN'
    refine rg_120_5 (d + 3) ⟨fun c2 => absurd c2 (by omega), fun _ => ⟨fun c2 => no ?_ N hN gN, fun c2 => kc_isTold (d + 2) hN hI.1 (fun hq2 => z_viI ⟨fun c3 => absurd c3 (by decide), fun _ => ?_⟩) (fun hq2 => z_viI ⟨fun _ => no ?_ N hN gN, fun c3 => absurd rfl c3⟩)⟩⟩
    · unfold z_hrb; exact decide_eq_false (fun z => z.1 c2)
    · obtain ⟨a', b', c', _, _⟩ := z_pd_b hI.1 hq2
      refine kc_planToday (d + 3) hN hI.1 hp.1 hp.2.1 (z_viI (kc_planToday (d + 3) hN hI.1 hq2.1 hq2.2.1 (z_viI (kc_canHear d hN hI a b a' b' h2 h3 c c' (fun N' hN' gN' c3 => z_viI ⟨fun c4 => absurd c4 (by decide), fun _ => ?_⟩) (fun N' hN' gN' c3 => z_viI ⟨fun _ => no ?_ N' hN' (z_ag_tr gN gN'), fun c4 => absurd rfl c4⟩)))))
      · have e : z_hrb S p t q = true := by unfold z_hrb; exact decide_eq_true ⟨c2, hq2.2.2, c3⟩
        rw [z_wq (by omega), z_bs_or (by omega) e]
        exact nx N' hN' (z_ag_tr gN gN')
      · unfold z_hrb
        refine decide_eq_false (fun z => ?_)
        have z3 : z_ap (z_ps S (z_pd S p) t) (z_ps S (z_pd S (q : Int)) t) ≤ z_cw S (z_pd S (q : Int)) t := z.2.2
        omega
    · unfold z_hrb; exact decide_eq_false (fun z => hq2 ⟨by omega, by omega, z.2.1⟩)
  · exact rg_120_5 (d + 3) ⟨fun _ => h N hN gN, fun c2 => absurd c2 (by decide)⟩
end ZSEN
