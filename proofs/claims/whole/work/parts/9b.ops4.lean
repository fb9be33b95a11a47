/-! OPS: unseen, never, blind -/
def z_wp (S : z_M) (t s : Int) (p : Nat) : Bool := decide (S 304067 (3 * (p : Int)) = 1 ∧ z_aw (S 1001015) (z_sp S (p : Int) t) s ≤ z_vw S (z_pd S (p : Int)) t)
def z_wt (S : z_M) (t s : Int) : Bool := z_exn (z_wp S t s) 10
def z_hdn (S : z_M) (a b s : Int) : Bool := decide (S 1001015 s = 1) || z_ex (fun t => z_wt S t s) (b + 1 - a).toNat a
def z_hv (S : z_M) (a b : Int) : Nat → Int × Int
  | 0 => (0, -2)
  | n + 1 => if z_hdn S a b (99 - (n : Int)) = true then z_hv S a b n else ((z_hv S a b n).1 + 1, 99 - (n : Int))
theorem z_hv_b (S : z_M) (a b : Int) (n : Nat) : 0 ≤ (z_hv S a b n).1 ∧ (z_hv S a b n).1 ≤ n := by
  induction n with
  | zero => exact ⟨Int.le_refl _, Int.le_refl _⟩
  | succ n ih =>
    unfold z_hv
    split
    · omega
    · exact ⟨by show 0 ≤ (z_hv S a b n).1 + 1; omega, by show (z_hv S a b n).1 + 1 ≤ _; omega⟩
theorem z_ex_snoc (P : Int → Bool) : ∀ (n : Nat) (i : Int), z_ex P (n + 1) i = (z_ex P n i || P (i + (n : Int))) := by
  intro n
  induction n with
  | zero =>
    intro i
    show (P i || false) = (false || P (i + ((0 : Nat) : Int)))
    rw [show i + ((0 : Nat) : Int) = i from by omega, Bool.or_false, Bool.false_or]
  | succ n ih =>
    intro i
    show (P i || z_ex P (n + 1) (i + 1)) = ((P i || z_ex P n (i + 1)) || P (i + ((n + 1 : Nat) : Int)))
    rw [ih (i + 1), show i + 1 + (n : Int) = i + ((n + 1 : Nat) : Int) from by omega, Bool.or_assoc]
section ZOPD
variable {S M : z_M} {Q : z_V → z_M → Prop}
theorem kc_isWatched (d : Nat) {t s : Int} (hS : z_sit S M) (hI : z_IS S) (t0 : 0 ≤ t) (t1 : t < 96) (s0 : 0 ≤ s) (s1 : s < 100) (h : ∀ M' : z_M, z_sit S M' → z_ag M M' → Q (z_I (zv_b (z_wt S t s))) M') : z_Cl 0 (d + 4) 122 [z_R 6, z_I s, z_I t] M Q := by
  refine re_122 (d + 3) ?_
  have := z_lp (S := S) (M := M) (n := 10) (fun q => ()) (fun N _ q => z_exn (z_wp S t s) q.toNat = false → z_G 0 (d + 4) z_m122 2 [z_R 6, z_I s, z_I t, z_I q] [] N Q) M hS (z_ag_rf M) (fun q N hq hN gN nx e => ?_) (fun N hN gN e => ?_)
  · exact this rfl
  · rw [show ((q : Int)).toNat = q from by omega] at e
    have no : z_wp S t s q = false → ∀ N' : z_M, z_sit S N' → z_ag M N' → z_G 0 (d + 4) z_m122 2 [z_R 6, z_I s, z_I t, z_I (z_w ((q : Int) + 1))] [] N' Q := by
      intro e2 N' hN' gN'
      rw [z_wq (by omega)]
      refine nx N' hN' gN' ?_
      rw [show (((q + 1 : Nat) : Int)).toNat = q + 1 from by omega]
      show (z_exn (z_wp S t s) q || z_wp S t s q) = false
      rw [e, e2]; rfl
    refine rg_122_2 (d + 3) ⟨fun c => absurd c (by omega), fun _ => kc_isTold (d + 2) hN hI.1 (fun hp => z_y1 ?_) (fun hp => z_n1 (no ?_ N hN gN))⟩
    · obtain ⟨a, b, c, _, _⟩ := z_pd_b hI.1 hp
      refine kc_planToday (d + 3) hN hI.1 hp.1 hp.2.1 (z_viI (kc_canSee d hN hI a b t0 t1 c s0 s1 (fun N' hN' gN' c3 => z_y1 ?_) (fun N' hN' gN' c3 => z_n1 (no ?_ N' hN' (z_ag_tr gN gN')))))
      · have e1 : z_wt S t s = true := z_exn_t.mpr ⟨q, hq, by unfold z_wp; exact decide_eq_true ⟨hp.2.2, c3⟩⟩
        have := h N' hN' (z_ag_tr gN gN')
        rw [e1] at this
        exact this
      · unfold z_wp
        refine decide_eq_false (fun z => ?_)
        have z2 : z_aw (S 1001015) (z_ps S (z_pd S (q : Int)) t) s ≤ z_vw S (z_pd S (q : Int)) t := z.2
        omega
    · unfold z_wp; exact decide_eq_false (fun z => hp ⟨by omega, by omega, z.1⟩)
  · have e1 : z_wt S t s = false := e
    have := h N hN gN
    rw [e1] at this
    exact rg_122_2 (d + 3) ⟨fun _ => this, fun c => absurd c (by decide)⟩
theorem kc_isWall (d : Nat) {s : Int} (hS : z_sit S M) (s0 : 0 ≤ s) (s1 : s < 100) (h : Q (z_I (zv_b (decide (S 1001015 s = 1)))) M) : z_Cl 0 (d + 1) 146 [z_R 3, z_I s] M Q := by
  refine re_146 d (kc_isSpot d (fun _ _ => z_y1 ⟨s0, s1, ?_⟩) (fun c => absurd c (by omega)))
  rw [z_fn hS 1001015 rfl]
  refine ⟨fun c => ?_, fun c => ?_⟩
  · rw [decide_eq_false c] at h; exact h
  · rw [decide_eq_true c] at h; exact h
theorem kc_hidden (d : Nat) {a b k : Int} (hS : z_sit S M) (hI : z_IS S) (a0 : 0 ≤ a) (ab : a ≤ b) (b1 : b < 96) (h : ∀ M' : z_M, z_sit S M' → z_ag M M' → Q (z_I (if k = 0 then (z_hv S a b 100).1 else (z_hv S a b 100).2)) M') : z_Cl 0 (d + 5) 123 [z_R 6, z_I a, z_I b, z_I k] M Q := by
  refine re_123 (d + 4) ?_
  have := z_lp (S := S) (M := M) (n := 100) (fun q => z_hv S a b q) (fun N v q => z_G 0 (d + 5) z_m123 11 [z_R 6, z_I a, z_I b, z_I k, z_I v.1, z_I v.2, z_I (99 - q), z_U, z_U] [] N Q) M hS (z_ag_rf M) (fun q N hq hN gN nx => ?_) (fun N hN gN => ?_)
  · exact this
  · refine rg_123_11 (d + 4) ⟨fun c => absurd c (by omega), fun _ => kc_isWall (d + 3) hN (by omega) (by omega) (z_viI ?_)⟩
    have bb := z_hv_b S a b q
    have e2 : z_hv S a b (q + 1) = if z_hdn S a b (99 - (q : Int)) = true then z_hv S a b q else ((z_hv S a b q).1 + 1, 99 - (q : Int)) := rfl
    -- the end of a spot
    have fin : ∀ (B : Bool) (N' : z_M), z_sit S N' → z_ag M N' → z_hdn S a b (99 - (q : Int)) = B → ((¬ zv_b B = 0 → z_G 0 (d + 5) z_m123 11 [z_R 6, z_I a, z_I b, z_I k, z_I (z_hv S a b q).1, z_I (z_hv S a b q).2, z_I (z_w (99 - (q : Int) + -1)), z_U, z_U] [] N' Q) ∧ (zv_b B = 0 → z_G 0 (d + 5) z_m123 11 [z_R 6, z_I a, z_I b, z_I k, z_I (z_w ((z_hv S a b q).1 + 1)), z_I (99 - (q : Int)), z_I (z_w (99 - (q : Int) + -1)), z_U, z_U] [] N' Q)) := by
      intro B N' hN' gN' eB
      have nx' := nx N' hN' gN'
      rw [e2, eB] at nx'
      rw [z_w_id (x := 99 - (q : Int) + -1) (by omega) (by omega), z_w_id (x := (z_hv S a b q).1 + 1) (by omega) (by omega)]
      rw [show 99 - ((q + 1 : Nat) : Int) = 99 - (q : Int) + -1 from by omega] at nx'
      cases B with
      | true => rw [if_pos rfl] at nx'; exact ⟨fun _ => nx', fun c => absurd c (by decide)⟩
      | false => rw [if_neg (by decide)] at nx'; exact ⟨fun c => absurd rfl c, fun _ => nx'⟩
    have key : ∀ (n : Nat) (t : Int) (N' : z_M) (B : Bool), a ≤ t → t ≤ b + 1 → (b + 1 - t).toNat = n → z_sit S N' → z_ag M N' → z_hdn S a b (99 - (q : Int)) = (B || z_ex (fun t => z_wt S t (99 - (q : Int))) n t) → z_G 0 (d + 5) z_m123 30 [z_R 6, z_I a, z_I b, z_I k, z_I (z_hv S a b q).1, z_I (z_hv S a b q).2, z_I (99 - (q : Int)), z_I (zv_b B), z_I t] [] N' Q := by
      intro n
      induction n with
      | zero =>
        intro t N' B t0 t1 tn hN' gN' e
        have e3 : z_hdn S a b (99 - (q : Int)) = B := by rw [e]; show (B || false) = B; rw [Bool.or_false]
        exact rg_123_30 (d + 4) ⟨fun _ => fin B N' hN' gN' e3, fun c => absurd c (by omega)⟩
      | succ n ih =>
        intro t N' B t0 t1 tn hN' gN' e
        refine rg_123_30 (d + 4) ⟨fun c => absurd c (by omega), fun _ => ⟨fun c => ?_, fun c => ?_⟩⟩
        · cases B with
          | false => exact absurd rfl c
          | true => exact fin true N' hN' gN' (by rw [e]; rfl)
        · cases B with
          | true => exact absurd c (by decide)
          | false =>
            refine kc_isWatched d hN' hI (by omega) (by omega) (by omega) (by omega) (fun N2 hN2 gN2 => z_viI ?_)
            rw [z_w_id (by omega) (by omega)]
            refine ih (t + 1) N2 _ (by omega) (by omega) (by omega) hN2 (z_ag_tr gN' gN2) ?_
            rw [e]; rfl
    exact key (b + 1 - a).toNat a N _ (Int.le_refl a) (by omega) rfl hN gN rfl
  · have h0 := h N hN gN
    refine rg_123_11 (d + 4) ⟨fun _ => ⟨fun c => ?_, fun c => ?_⟩, fun c => absurd c (by decide)⟩
    · rw [if_neg c] at h0; exact h0
    · rw [if_pos c] at h0; exact h0
/-- the model's laysSeen -/
theorem km_laysSeen (d : Nat) {t : Int} (hS : z_sit S M) (hI : z_IS S) (t0 : 0 ≤ t) (t1 : t < 96) (h : ∀ M' : z_M, z_sit S M' → M' 1004126 = M 1004126 → (∀ s : Int, 0 ≤ s → s < 100 → M' 1004125 s = zv_b (z_wt S t s)) → Q z_U M') : z_Cl 0 (d + 5) 369 [z_R 13, z_I t] M Q := by
  refine re_369 (d + 4) ?_
  have main : ∀ N : z_M, z_sit S N → N 1004126 = M 1004126 → (∀ s : Int, 0 ≤ s → s < 100 → N 1004125 s = 0) → z_G 0 (d + 5) z_m369 23 [z_R 13, z_I t, z_I 0, z_U, z_U, z_U] [] N Q := by
    intro N hN eN sN
    refine z_lpi (n := 10) (fun _ => ()) (fun q N => z_sit S N ∧ N 1004126 = M 1004126 ∧ ∀ s : Int, 0 ≤ s → s < 100 → N 1004125 s = zv_b (z_exn (z_wp S t s) q)) (fun N _ q => z_G 0 (d + 5) z_m369 23 [z_R 13, z_I t, z_I q, z_U, z_U, z_U] [] N Q) N ⟨hN, eN, fun s a b => sN s a b⟩ (fun q N1 hq hI1 nx => ?_) (fun N1 hI1 => ?_)
    · obtain ⟨hN1, eN1, sN1⟩ := hI1
      refine rg_369_23 (d + 4) ⟨fun c => absurd c (by omega), fun _ => km_isTold (d + 3) hN1 hI.1 (fun hp => z_y2 ?_) (fun hp => z_n2 ?_)⟩
      · obtain ⟨r0, r1⟩ := z_sp_b hI.1 hp t0 t1
        refine km_spotOf (d + 3) hN1 hI.1 hp t0 t1 (z_viI (km_sight d hN1 hI.2.2.1 t0 t1 r0 r1 (fun N2 hN2 gN2 => z_viI ?_)))
        have evw : zv_rk S 118 14 t 0 (q : Int) (z_sp S (q : Int) t) = z_vw S (z_pd S (q : Int)) t := by unfold z_vw; rw [z_pd3 hI.1 hp]; rfl
        rw [evw]
        obtain ⟨vw0, vw1⟩ := z_vw_b S (z_pd S (q : Int)) t
        have k1 : N2 1004125 = N1 1004125 := z_ag_k gN2 _ rfl rfl
        have k2 : N2 1004126 = N1 1004126 := z_ag_k gN2 _ rfl rfl
        refine z_lpi (n := 100) (fun _ => ()) (fun j N => z_sit S N ∧ N 1004126 = M 1004126 ∧ ∀ s : Int, 0 ≤ s → s < 100 → N 1004125 s = zv_b (if s < (j : Int) then z_exn (z_wp S t s) (q + 1) else z_exn (z_wp S t s) q)) (fun N _ j => z_G 0 (d + 5) z_m369 59 [z_R 13, z_I t, z_I (q : Int), z_I (z_sp S (q : Int) t), z_I (z_vw S (z_pd S (q : Int)) t), z_I j] [] N Q) N2 ⟨hN2, k2.trans eN1, fun s a b => ?_⟩ (fun j N3 hj hI3 nx3 => ?_) (fun N3 hI3 => ?_)
        · rw [k1, if_neg (by omega)]; exact sN1 s a b
        · obtain ⟨hN3, eN3, sN3⟩ := hI3
          have ej := sN3 (j : Int) (by omega) (by omega)
          rw [if_neg (by omega)] at ej
          have put : ∀ (B : Bool) (x : Int) (N4 : z_M), z_sit S N4 → N4 1004126 = N3 1004126 → N4 1004125 = N3 1004125 → x = zv_b B → z_exn (z_wp S t (j : Int)) (q + 1) = B → z_G 0 (d + 5) z_m369 59 [z_R 13, z_I t, z_I (q : Int), z_I (z_sp S (q : Int) t), z_I (z_vw S (z_pd S (q : Int)) t), z_I (z_w ((j : Int) + 1))] [] (z_up N4 1004125 (j : Int) x) Q := by
            intro B x N4 hN4 e4 s4 ex eB
            rw [z_wq (by omega)]
            refine nx3 _ ⟨z_at_up hN4 _ _ _ rfl rfl, ?_, fun s a b => ?_⟩
            · rw [z_up_ne (by decide), e4]; exact eN3
            · unfold z_up
              rw [if_pos rfl]
              by_cases es : s = (j : Int)
              · rw [if_pos es, es, if_pos (by omega), eB, ex]
              · rw [if_neg es, s4, sN3 s a b]
                by_cases c : s < (j : Int)
                · rw [if_pos c, if_pos (by omega)]
                · rw [if_neg c, if_neg (by omega)]
          have e5 : z_exn (z_wp S t (j : Int)) (q + 1) = (z_exn (z_wp S t (j : Int)) q || z_wp S t (j : Int) q) := rfl
          refine rg_369_59 (d + 4) ⟨fun c => absurd c (by omega), fun _ => ⟨by omega, by omega, fun c => ⟨by omega, by omega, ?_⟩, fun c => ?_⟩⟩
          · rw [ej] at c
            cases hb : z_exn (z_wp S t (j : Int)) q with
            | false => rw [hb] at c; exact absurd rfl c
            | true => exact put true 1 N3 hN3 rfl rfl rfl (by rw [e5, hb]; rfl)
          · rw [ej] at c
            have hb : z_exn (z_wp S t (j : Int)) q = false := by
              cases hb : z_exn (z_wp S t (j : Int)) q with
              | false => rfl
              | true => rw [hb] at c; exact absurd c (by decide)
            have eg : N3 1001065 = S 1001015 := by rw [z_fn hN3 _ rfl, hI.2.1.1]
            refine km_isInSight (d + 2) eg r0 r1 (by omega) (by omega) vw0 (by omega) (fun c3 => z_y1 ⟨by omega, by omega, put true 1 N3 hN3 rfl rfl rfl ?_⟩) (fun c3 => z_n1 ⟨by omega, by omega, put false 0 N3 hN3 rfl rfl rfl ?_⟩)
            · rw [e5, hb, Bool.false_or]; unfold z_wp; exact decide_eq_true ⟨hp.2.2, c3⟩
            · rw [e5, hb, Bool.false_or]; unfold z_wp; exact decide_eq_false (fun z => by have := z.2; omega)
        · obtain ⟨hN3, eN3, sN3⟩ := hI3
          refine rg_369_59 (d + 4) ⟨fun _ => ?_, fun c => absurd c (by decide)⟩
          rw [z_wq (by omega)]
          refine nx N3 ⟨hN3, eN3, fun s a b => ?_⟩
          have := sN3 s a b
          rw [if_pos (by omega)] at this
          exact this
      · rw [z_wq (by omega)]
        refine nx N1 ⟨hN1, eN1, fun s a b => ?_⟩
        rw [sN1 s a b]
        have e0 : z_wp S t s q = false := by unfold z_wp; exact decide_eq_false (fun z => hp ⟨by omega, by omega, z.1⟩)
        show _ = zv_b (z_exn (z_wp S t s) q || z_wp S t s q)
        rw [e0, Bool.or_false]
    · obtain ⟨hN1, eN1, sN1⟩ := hI1
      exact rg_369_23 (d + 4) ⟨fun _ => h N1 hN1 eN1 sN1, fun c => absurd c (by decide)⟩
  refine z_lpi (n := 100) (fun _ => ()) (fun q N => z_sit S N ∧ N 1004126 = M 1004126 ∧ ∀ s : Int, 0 ≤ s → s < (q : Int) → N 1004125 s = 0) (fun N _ q => z_G 0 (d + 5) z_m369 2 [z_R 13, z_I t, z_I q, z_U, z_U, z_U] [] N Q) M ⟨hS, rfl, fun s a b => absurd b (by omega)⟩ (fun q N hq hI0 nx => ?_) (fun N hI0 => ?_)
  · obtain ⟨hN, eN, sN⟩ := hI0
    refine rg_369_2 (d + 4) ⟨fun c => absurd c (by omega), fun _ => ⟨by omega, by omega, ?_⟩⟩
    rw [z_wq (by omega)]
    refine nx _ ⟨z_at_up hN _ _ _ rfl rfl, ?_, fun s a b => ?_⟩
    · rw [z_up_ne (by decide)]; exact eN
    · unfold z_up
      rw [if_pos rfl]
      by_cases es : s = (q : Int)
      · rw [if_pos es]
      · rw [if_neg es]; exact sN s a (by omega)
  · obtain ⟨hN, eN, sN⟩ := hI0
    exact rg_369_2 (d + 4) ⟨fun _ => main N hN eN sN, fun c => absurd c (by decide)⟩
theorem km_notSeen (d : Nat) {a b k : Int} (hS : z_sit S M) (hI : z_IS S) (a0 : 0 ≤ a) (ab : a ≤ b) (b1 : b < 96) (h : ∀ M' : z_M, z_sit S M' → Q (z_I (if k = 0 then (z_hv S a b 100).1 else (z_hv S a b 100).2)) M') : z_Cl 0 (d + 6) 370 [z_R 13, z_I a, z_I b, z_I k] M Q := by
  refine re_370 (d + 5) ?_
  -- the last loop
  have last : ∀ N : z_M, z_sit S N → (∀ s : Int, 0 ≤ s → s < 100 → N 1004126 s = zv_b (z_hdn S a b s)) → z_G 0 (d + 6) z_m370 119 [z_R 13, z_I a, z_I b, z_I k, z_I 0, z_I (-2), z_I 99] [] N Q := by
    intro N hN eN
    have := z_lpi (n := 100) (fun q => z_hv S a b q) (fun _ N' => N' = N) (fun N' v q => z_G 0 (d + 6) z_m370 119 [z_R 13, z_I a, z_I b, z_I k, z_I v.1, z_I v.2, z_I (99 - q)] [] N' Q) N rfl (fun q N' hq hN' nx => ?_) (fun N' hN' => ?_)
    · exact this
    · subst hN'
      have bb := z_hv_b S a b q
      have nx' := nx N' rfl
      have e2 : z_hv S a b (q + 1) = if z_hdn S a b (99 - (q : Int)) = true then z_hv S a b q else ((z_hv S a b q).1 + 1, 99 - (q : Int)) := rfl
      rw [e2, show 99 - ((q + 1 : Nat) : Int) = 99 - (q : Int) + -1 from by omega] at nx'
      refine rg_370_119 (d + 5) ⟨fun c => absurd c (by omega), fun _ => ⟨by omega, by omega, fun c => rg_370_144 (d + 5) ?_, fun c => rg_370_144 (d + 5) ?_⟩⟩
      · rw [eN _ (by omega) (by omega)] at c
        cases hb : z_hdn S a b (99 - (q : Int)) with
        | true => rw [hb] at c; exact absurd c (by decide)
        | false =>
          rw [hb, if_neg (by decide)] at nx'
          rw [z_w_id (x := 99 - (q : Int) + -1) (by omega) (by omega), z_w_id (x := (z_hv S a b q).1 + 1) (by omega) (by omega)]
          exact nx'
      · rw [eN _ (by omega) (by omega)] at c
        cases hb : z_hdn S a b (99 - (q : Int)) with
        | false => rw [hb] at c; exact absurd rfl c
        | true =>
          rw [hb, if_pos rfl] at nx'
          rw [z_w_id (x := 99 - (q : Int) + -1) (by omega) (by omega)]
          exact nx'
    · subst hN'
      have h0 := h N' hN
      refine rg_370_119 (d + 5) ⟨fun _ => ⟨fun c => ?_, fun c => ?_⟩, fun c => absurd c (by decide)⟩
      · rw [if_neg c] at h0; exact h0
      · rw [if_pos c] at h0; exact h0
  -- minute by minute
  have mid : ∀ (n : Nat) (t : Int) (N : z_M), a ≤ t → t ≤ b + 1 → (b + 1 - t).toNat = n → z_sit S N → (∀ s : Int, 0 ≤ s → s < 100 → N 1004126 s = zv_b (decide (S 1001015 s = 1) || z_ex (fun t => z_wt S t s) (t - a).toNat a)) → z_G 0 (d + 6) z_m370 42 [z_R 13, z_I a, z_I b, z_I k, z_I t, z_U, z_U] [] N Q := by
    intro n
    induction n with
    | zero =>
      intro t N t0 t1 tn hN eN
      refine rg_370_42 (d + 5) ⟨fun _ => last N hN (fun s s0 s1 => ?_), fun c => absurd c (by omega)⟩
      rw [eN s s0 s1, show t = b + 1 from by omega]
      rfl
    | succ n ih =>
      intro t N t0 t1 tn hN eN
      refine rg_370_42 (d + 5) ⟨fun c => absurd c (by omega), fun _ => km_laysSeen d hN hI (by omega) (by omega) (fun N1 hN1 e1 s1 => ?_)⟩
      refine z_lpi (n := 100) (fun _ => ()) (fun j N => z_sit S N ∧ N 1004125 = N1 1004125 ∧ ∀ s : Int, 0 ≤ s → s < 100 → N 1004126 s = zv_b (if s < (j : Int) then (decide (S 1001015 s = 1) || z_ex (fun t => z_wt S t s) (t + 1 - a).toNat a) else (decide (S 1001015 s = 1) || z_ex (fun t => z_wt S t s) (t - a).toNat a))) (fun N _ j => z_G 0 (d + 6) z_m370 57 [z_R 13, z_I a, z_I b, z_I k, z_I t, z_I j, z_U] [] N Q) N1 ⟨hN1, rfl, fun s a b => ?_⟩ (fun j N2 hj hI2 nx2 => ?_) (fun N2 hI2 => ?_)
      · rw [e1, if_neg (by omega)]; exact eN s a b
      · obtain ⟨hN2, e2, s2⟩ := hI2
        have ej := s2 (j : Int) (by omega) (by omega)
        rw [if_neg (by omega)] at ej
        have es : N2 1004125 (j : Int) = zv_b (z_wt S t (j : Int)) := by rw [e2]; exact s1 _ (by omega) (by omega)
        have esn : z_ex (fun t => z_wt S t (j : Int)) (t + 1 - a).toNat a = (z_ex (fun t => z_wt S t (j : Int)) (t - a).toNat a || z_wt S t (j : Int)) := by
          rw [show (t + 1 - a).toNat = (t - a).toNat + 1 from by omega, z_ex_snoc, show a + (((t - a).toNat : Nat) : Int) = t from by omega]
        have put : ∀ (B : Bool) (x : Int), x = zv_b B → (decide (S 1001015 (j : Int) = 1) || z_ex (fun t => z_wt S t (j : Int)) (t + 1 - a).toNat a) = B → z_G 0 (d + 6) z_m370 57 [z_R 13, z_I a, z_I b, z_I k, z_I t, z_I (z_w ((j : Int) + 1)), z_U] [] (z_up N2 1004126 (j : Int) x) Q := by
          intro B x ex eB
          rw [z_wq (by omega)]
          refine nx2 _ ⟨z_at_up hN2 _ _ _ rfl rfl, ?_, fun s a' b' => ?_⟩
          · rw [z_up_ne (by decide)]; exact e2
          · unfold z_up
            rw [if_pos rfl]
            by_cases e : s = (j : Int)
            · rw [if_pos e, e, if_pos (by omega), eB, ex]
            · rw [if_neg e, s2 s a' b']
              by_cases c : s < (j : Int)
              · rw [if_pos c, if_pos (by omega)]
              · rw [if_neg c, if_neg (by omega)]
        refine rg_370_57 (d + 5) ⟨fun c => absurd c (by omega), fun _ => ⟨by omega, by omega, fun c => rg_370_90 (d + 5) (rg_370_95 (d + 5) ⟨by omega, by omega, z_bl_of (Or.inr rfl) (put true 1 rfl ?_)⟩), fun c => ⟨by omega, by omega, fun c2 => rg_370_95 (d + 5) ⟨by omega, by omega, z_bl_of (Or.inl rfl) (put false 0 rfl ?_)⟩, fun c2 => rg_370_90 (d + 5) (rg_370_95 (d + 5) ⟨by omega, by omega, z_bl_of (Or.inr rfl) (put true 1 rfl ?_)⟩)⟩⟩⟩
        · rw [ej] at c
          cases hb : (decide (S 1001015 (j : Int) = 1) || z_ex (fun t => z_wt S t (j : Int)) (t - a).toNat a) with
          | false => rw [hb] at c; exact absurd rfl c
          | true => rw [esn, ← Bool.or_assoc, hb]; rfl
        · rw [ej] at c
          rw [es] at c2
          rw [esn, ← Bool.or_assoc]
          cases hb : (decide (S 1001015 (j : Int) = 1) || z_ex (fun t => z_wt S t (j : Int)) (t - a).toNat a) with
          | true => rw [hb] at c; exact absurd c (by decide)
          | false =>
            cases hc : z_wt S t (j : Int) with
            | true => rw [hc] at c2; exact absurd c2 (by decide)
            | false => rfl
        · rw [es] at c2
          rw [esn, ← Bool.or_assoc]
          cases hc : z_wt S t (j : Int) with
          | false => rw [hc] at c2; exact absurd rfl c2
          | true => rw [Bool.or_true]
      · obtain ⟨hN2, e2, s2⟩ := hI2
        refine rg_370_57 (d + 5) ⟨fun _ => ?_, fun c => absurd c (by decide)⟩
        rw [z_w_id (by omega) (by omega)]
        refine ih (t + 1) N2 (by omega) (by omega) (by omega) hN2 (fun s a' b' => ?_)
        have := s2 s a' b'
        rw [if_pos (by omega)] at this
        exact this
  -- the first loop
  refine z_lpi (n := 100) (fun _ => ()) (fun q N => z_sit S N ∧ ∀ s : Int, 0 ≤ s → s < (q : Int) → N 1004126 s = zv_b (decide (S 1001015 s = 1))) (fun N _ q => z_G 0 (d + 6) z_m370 3 [z_R 13, z_I a, z_I b, z_I k, z_I q, z_U, z_U] [] N Q) M ⟨hS, fun s a b => absurd b (by omega)⟩ (fun q N hq hI0 nx => ?_) (fun N hI0 => ?_)
  · obtain ⟨hN, eN⟩ := hI0
    have put : ∀ (B : Bool) (x : Int), x = zv_b B → decide (S 1001015 (q : Int) = 1) = B → z_G 0 (d + 6) z_m370 3 [z_R 13, z_I a, z_I b, z_I k, z_I (z_w ((q : Int) + 1)), z_U, z_U] [] (z_up N 1004126 (q : Int) x) Q := by
      intro B x ex eB
      rw [z_wq (by omega)]
      refine nx _ ⟨z_at_up hN _ _ _ rfl rfl, fun s a b => ?_⟩
      unfold z_up
      rw [if_pos rfl]
      by_cases es : s = (q : Int)
      · rw [if_pos es, es, eB, ex]
      · rw [if_neg es]; exact eN s a (by omega)
    refine rg_370_3 (d + 5) ⟨fun c => absurd c (by omega), fun _ => ⟨by omega, by omega, ?_⟩⟩
    rw [z_fn hN 1001065 rfl, ← hI.2.1.1]
    exact ⟨fun c => rg_370_32 (d + 5) ⟨by omega, by omega, z_bl_of (Or.inl rfl) (put false 0 rfl (decide_eq_false c))⟩, fun c => rg_370_32 (d + 5) ⟨by omega, by omega, z_bl_of (Or.inr rfl) (put true 1 rfl (decide_eq_true c))⟩⟩
  · obtain ⟨hN, eN⟩ := hI0
    refine rg_370_3 (d + 5) ⟨fun _ => mid (b + 1 - a).toNat a N (Int.le_refl a) (by omega) rfl hN (fun s s0 s1 => ?_), fun c => absurd c (by decide)⟩
    rw [eN s s0 s1, show (a - a).toNat = 0 from by omega]
    show _ = zv_b (_ || false)
    rw [Bool.or_false]
def z_o38 (S : z_M) (t k : Int) : Int := if (0 ≤ t ∧ t < 96) ∧ 0 ≤ k ∧ k ≤ 1 then (if k = 0 then (z_hv S t t 100).1 else (z_hv S t t 100).2) else -1
theorem kc_unseen (d : Nat) {t k : Int} (hS : z_sit S M) (hI : z_IS S) (h : ∀ M' : z_M, z_sit S M' → Q (z_I (z_o38 S t k)) M') : z_Cl 0 (d + 6) 205 [z_R 1, z_I t, z_I k] M Q := by
  unfold z_o38 at h
  have no : ¬ ((0 ≤ t ∧ t < 96) ∧ 0 ≤ k ∧ k ≤ 1) → Q (z_I (-1)) M := fun c => by have h0 := h M hS; rw [if_neg c] at h0; exact h0
  refine re_205 (d + 5) (kc_isMinute (d + 5) (fun a b => z_y1 ⟨fun c => no (by omega), fun c => ⟨fun c2 => kc_hidden d hS hI a (Int.le_refl t) b (fun M' e _ => z_viI ?_), fun c2 => no (by omega)⟩⟩) (fun c => z_n1 (no (by omega))))
  have h0 := h M' e
  rw [if_pos ⟨⟨a, b⟩, c, c2⟩] at h0; exact h0
theorem km_unseen (d : Nat) {t k : Int} (hS : z_sit S M) (hI : z_IS S) (h : ∀ M' : z_M, z_sit S M' → Q (z_I (z_o38 S t k)) M') : z_Cl 0 (d + 7) 371 [z_R 13, z_I t, z_I k] M Q := by
  unfold z_o38 at h
  have no : ¬ ((0 ≤ t ∧ t < 96) ∧ 0 ≤ k ∧ k ≤ 1) → Q (z_I (-1)) M := fun c => by have h0 := h M hS; rw [if_neg c] at h0; exact h0
  refine re_371 (d + 6) (km_isMinute (d + 5) (fun a b => z_y1 (km_lies (d + 6) (fun c c2 => z_y1 (km_notSeen d hS hI a (Int.le_refl t) b (fun M' e => z_viI ?_))) (fun c => z_n1 (no (by omega))))) (fun c => z_n1 (no (by omega))))
  have h0 := h M' e
  rw [if_pos ⟨⟨a, b⟩, c, c2⟩] at h0; exact h0
def z_o39 (S : z_M) (a b k : Int) : Int := if (0 ≤ a ∧ a ≤ b ∧ b < 96) ∧ 0 ≤ k ∧ k ≤ 1 then (if k = 0 then (z_hv S a b 100).1 else (z_hv S a b 100).2) else -1
theorem kc_never (d : Nat) {a b k : Int} (hS : z_sit S M) (hI : z_IS S) (h : ∀ M' : z_M, z_sit S M' → Q (z_I (z_o39 S a b k)) M') : z_Cl 0 (d + 6) 206 [z_R 1, z_I a, z_I b, z_I k] M Q := by
  unfold z_o39 at h
  have no : ¬ ((0 ≤ a ∧ a ≤ b ∧ b < 96) ∧ 0 ≤ k ∧ k ≤ 1) → Q (z_I (-1)) M := fun c => by have h0 := h M hS; rw [if_neg c] at h0; exact h0
  refine re_206 (d + 5) (kc_isMinute (d + 5) (fun a0 a1 => z_y1 (kc_isMinute (d + 5) (fun b0 b1 => z_y1 ⟨fun c => no (by omega), fun c0 => ⟨fun c => no (by omega), fun c => ⟨fun c2 => kc_hidden d hS hI a0 c0 b1 (fun M' e _ => z_viI ?_), fun c2 => no (by omega)⟩⟩⟩) (fun c => z_n1 (no (by omega))))) (fun c => z_n1 (no (by omega))))
  have h0 := h M' e
  rw [if_pos ⟨⟨a0, c0, b1⟩, c, c2⟩] at h0; exact h0
theorem km_never (d : Nat) {a b k : Int} (hS : z_sit S M) (hI : z_IS S) (h : ∀ M' : z_M, z_sit S M' → Q (z_I (z_o39 S a b k)) M') : z_Cl 0 (d + 7) 372 [z_R 13, z_I a, z_I b, z_I k] M Q := by
  unfold z_o39 at h
  have no : ¬ ((0 ≤ a ∧ a ≤ b ∧ b < 96) ∧ 0 ≤ k ∧ k ≤ 1) → Q (z_I (-1)) M := fun c => by have h0 := h M hS; rw [if_neg c] at h0; exact h0
  refine re_372 (d + 6) (km_isMinute (d + 5) (fun a0 a1 => z_y1 (km_lies (d + 6) (fun c0 b1 => z_y1 (km_lies (d + 6) (fun c c2 => z_y1 (km_notSeen d hS hI a0 c0 (by omega) (fun M' e => z_viI ?_))) (fun c => z_n1 (no (by omega))))) (fun c => z_n1 (no (by omega))))) (fun c => z_n1 (no (by omega))))
  have h0 := h M' e
  rw [if_pos ⟨⟨a0, c0, by omega⟩, c, c2⟩] at h0; exact h0
def z_blv (S : z_M) (s : Int) : Nat → Int × Int
  | 0 => (0, 0)
  | n + 1 => (z_max (z_blv S s n).1 (if z_wt S (n : Int) s = true then 0 else (z_blv S s n).2 + 1), if z_wt S (n : Int) s = true then 0 else (z_blv S s n).2 + 1)
theorem z_blv_b (S : z_M) (s : Int) (n : Nat) : 0 ≤ (z_blv S s n).1 ∧ (z_blv S s n).1 ≤ n ∧ 0 ≤ (z_blv S s n).2 ∧ (z_blv S s n).2 ≤ n := by
  induction n with
  | zero => exact ⟨Int.le_refl _, Int.le_refl _, Int.le_refl _, Int.le_refl _⟩
  | succ n ih =>
    unfold z_blv z_max
    dsimp only
    split <;> split <;> omega
def z_o40 (S : z_M) (s : Int) : Int := if (0 ≤ s ∧ s < 100) ∧ S 1001015 s ≠ 1 then (z_blv S s 96).1 else -1
theorem kc_blind (d : Nat) {s : Int} (hS : z_sit S M) (hI : z_IS S) (h : ∀ M' : z_M, z_sit S M' → Q (z_I (z_o40 S s)) M') : z_Cl 0 (d + 6) 207 [z_R 1, z_I s] M Q := by
  unfold z_o40 at h
  have no : ¬ ((0 ≤ s ∧ s < 100) ∧ S 1001015 s ≠ 1) → Q (z_I (-1)) M := fun c => by have h0 := h M hS; rw [if_neg c] at h0; exact h0
  refine re_207 (d + 5) (kc_isSpot (d + 5) (fun a b => z_y1 (kc_isWall (d + 4) hS a b ?_)) (fun c => z_n1 (no (by omega))))
  by_cases hw : S 1001015 s = 1
  · rw [decide_eq_true hw]
    exact z_y2 (no (fun z => z.2 hw))
  · rw [decide_eq_false hw]
    rw [if_pos ⟨⟨a, b⟩, hw⟩] at h
    refine z_n2 (re_124 (d + 4) ?_)
    refine z_lp (S := S) (M := M) (n := 96) (fun q => z_blv S s q) (fun N v q => z_G 0 (d + 5) z_m124 7 [z_R 6, z_I s, z_I v.1, z_I v.2, z_I q] [] N (fun v3 M3 => z_vi v3 fun x3 => Q (z_I x3) M3)) M hS (z_ag_rf M) (fun q N hq hN gN nx => ?_) (fun N hN gN => ?_)
    · refine rg_124_7 (d + 4) ⟨fun c => absurd c (by omega), fun _ => kc_isWatched d hN hI (by omega) (by omega) a b (fun N' hN' gN' => ?_)⟩
      have nx' := nx N' hN' (z_ag_tr gN gN')
      have bb := z_blv_b S s q
      have e2 : z_blv S s (q + 1) = (z_max (z_blv S s q).1 (if z_wt S (q : Int) s = true then 0 else (z_blv S s q).2 + 1), if z_wt S (q : Int) s = true then 0 else (z_blv S s q).2 + 1) := rfl
      rw [e2] at nx'
      cases hb : z_wt S (q : Int) s with
      | true =>
        rw [hb, if_pos rfl] at nx'
        refine z_y1 ?_
        rw [z_wq (by omega)]
        exact nx'
      | false =>
        rw [hb, if_neg (by decide)] at nx'
        refine z_n1 ?_
        rw [z_wq (by omega), z_w_id (x := (z_blv S s q).2 + 1) (by omega) (by omega)]
        exact nx'
    · exact rg_124_7 (d + 4) ⟨fun _ => z_viI (h N hN), fun c => absurd c (by decide)⟩
theorem km_blind (d : Nat) {s : Int} (hS : z_sit S M) (hI : z_IS S) (h : ∀ M' : z_M, z_sit S M' → Q (z_I (z_o40 S s)) M') : z_Cl 0 (d + 6) 373 [z_R 13, z_I s] M Q := by
  unfold z_o40 at h
  have no : ¬ ((0 ≤ s ∧ s < 100) ∧ S 1001015 s ≠ 1) → Q (z_I (-1)) M := fun c => by have h0 := h M hS; rw [if_neg c] at h0; exact h0
  refine re_373 (d + 5) (km_isSpot (d + 4) (fun a b => z_y1 ⟨a, b, ?_⟩) (fun c => z_n1 (no (by omega))))
  rw [z_fn hS 1001065 rfl, ← hI.2.1.1]
  refine ⟨fun hw => ?_, fun hw => no (fun z => z.2 hw)⟩
  rw [if_pos ⟨⟨a, b⟩, hw⟩] at h
  refine z_lpi (n := 96) (fun q => z_blv S s q) (fun _ N => z_sit S N) (fun N v q => z_G 0 (d + 6) z_m373 26 [z_R 13, z_I s, z_I v.1, z_I v.2, z_I q] [] N Q) M hS (fun q N hq hN nx => ?_) (fun N hN => ?_)
  · refine rg_373_26 (d + 5) ⟨fun c => absurd c (by omega), fun _ => km_laysSeen d hN hI (by omega) (by omega) (fun N' hN' _ sN' => ⟨a, b, ?_⟩)⟩
    rw [sN' s a b]
    have nx' := nx N' hN'
    have bb := z_blv_b S s q
    have e2 : z_blv S s (q + 1) = (z_max (z_blv S s q).1 (if z_wt S (q : Int) s = true then 0 else (z_blv S s q).2 + 1), if z_wt S (q : Int) s = true then 0 else (z_blv S s q).2 + 1) := rfl
    rw [e2] at nx'
    rw [z_wq (by omega), z_w_id (x := (z_blv S s q).2 + 1) (by omega) (by omega)]
    cases hb : z_wt S (q : Int) s with
    | true =>
      rw [hb, if_pos rfl] at nx'
      refine ⟨fun c => absurd c (by decide), fun _ => ⟨fun c => ?_, fun c => absurd c (by omega)⟩⟩
      have e3 : z_max (z_blv S s q).1 0 = (z_blv S s q).1 := by unfold z_max; rw [if_neg (by omega)]
      rw [e3] at nx'
      exact nx'
    | false =>
      rw [hb, if_neg (by decide)] at nx'
      refine ⟨fun _ => ⟨fun c => ?_, fun c => ?_⟩, fun c => absurd rfl c⟩
      · have e3 : z_max (z_blv S s q).1 ((z_blv S s q).2 + 1) = (z_blv S s q).1 := by unfold z_max; rw [if_neg (by omega)]
        rw [e3] at nx'; exact nx'
      · have e3 : z_max (z_blv S s q).1 ((z_blv S s q).2 + 1) = (z_blv S s q).2 + 1 := by unfold z_max; rw [if_pos c]
        rw [e3] at nx'; exact nx'
  · exact rg_373_26 (d + 5) ⟨fun _ => h N hN, fun c => absurd c (by decide)⟩
end ZOPD
