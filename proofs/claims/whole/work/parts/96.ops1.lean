/-! OPS: at, sees, hears, shadow, falls -/
theorem z_y1 {A B : Int → Prop} (h : B 1) : z_vi (z_I 1) (fun x => (x = 0 → A x) ∧ (¬ x = 0 → B x)) := ⟨fun c => absurd c (by decide), fun _ => h⟩
theorem z_n1 {A B : Int → Prop} (h : A 0) : z_vi (z_I 0) (fun x => (x = 0 → A x) ∧ (¬ x = 0 → B x)) := ⟨fun _ => h, fun c => absurd rfl c⟩
theorem z_y2 {A B : Int → Prop} (h : A 1) : z_vi (z_I 1) (fun x => (¬ x = 0 → A x) ∧ (x = 0 → B x)) := ⟨fun _ => h, fun c => absurd c (by decide)⟩
theorem z_n2 {A B : Int → Prop} (h : B 0) : z_vi (z_I 0) (fun x => (¬ x = 0 → A x) ∧ (x = 0 → B x)) := ⟨fun c => absurd rfl c, fun _ => h⟩
section ZOPA
variable {S M : z_M} {Q : z_V → z_M → Prop}
def z_o10 (S : z_M) (p t : Int) : Int := if z_tl S p ∧ 0 ≤ t ∧ t < 96 then z_sp S p t else -1
theorem kc_at (d : Nat) {p t : Int} (hS : z_sit S M) (hI : z_IS S) (h : ∀ M' : z_M, z_sit S M' → z_ag M M' → Q (z_I (z_o10 S p t)) M') : z_Cl 0 (d + 2) 177 [z_R 1, z_I p, z_I t] M Q := by
  have h0 := h M hS (z_ag_rf M)
  have no : ¬ (z_tl S p ∧ 0 ≤ t ∧ t < 96) → Q (z_I (-1)) M := fun c => by unfold z_o10 at h0; rw [if_neg c] at h0; exact h0
  have yes : z_tl S p ∧ 0 ≤ t ∧ t < 96 → Q (z_I (z_sp S p t)) M := fun c => by unfold z_o10 at h0; rw [if_pos c] at h0; exact h0
  exact re_177 (d + 1) (kc_isTold d hS hI.1 (fun hp => z_y1 (kc_isMinute (d + 1) (fun a b => z_y1 (kc_spotToday d hS hI.1 hp a b (z_viI (yes ⟨hp, a, b⟩)))) (fun c => z_n1 (no (fun z => by have := z.2.1; have := z.2.2; omega))))) (fun hp => z_n1 (no (fun z => hp z.1))))
theorem km_at (d : Nat) {p t : Int} (hS : z_sit S M) (hI : z_IS S) (h : ∀ M' : z_M, z_sit S M' → z_ag M M' → Q (z_I (z_o10 S p t)) M') : z_Cl 0 (d + 2) 288 [z_R 13, z_I p, z_I t] M Q := by
  have h0 := h M hS (z_ag_rf M)
  have no : ¬ (z_tl S p ∧ 0 ≤ t ∧ t < 96) → Q (z_I (-1)) M := fun c => by unfold z_o10 at h0; rw [if_neg c] at h0; exact h0
  have yes : z_tl S p ∧ 0 ≤ t ∧ t < 96 → Q (z_I (z_sp S p t)) M := fun c => by unfold z_o10 at h0; rw [if_pos c] at h0; exact h0
  exact re_288 (d + 1) (km_isTold d hS hI.1 (fun hp => z_y1 (km_isMinute d (fun a b => z_y1 (km_spotOf d hS hI.1 hp a b (z_viI (yes ⟨hp, a, b⟩)))) (fun c => z_n1 (no (fun z => by have := z.2.1; have := z.2.2; omega))))) (fun hp => z_n1 (no (fun z => hp z.1))))
def z_o11 (S : z_M) (p t : Int) : Int := if z_tl S p ∧ 0 ≤ t ∧ t < 96 then z_see S p t else -1
theorem kc_sees (d : Nat) {p t : Int} (hS : z_sit S M) (hI : z_IS S) (h : ∀ M' : z_M, z_sit S M' → z_ag M M' → Q (z_I (z_o11 S p t)) M') : z_Cl 0 (d + 5) 178 [z_R 1, z_I p, z_I t] M Q := by
  have no : ¬ (z_tl S p ∧ 0 ≤ t ∧ t < 96) → Q (z_I (-1)) M := fun c => by have h0 := h M hS (z_ag_rf M); unfold z_o11 at h0; rw [if_neg c] at h0; exact h0
  have yes : z_tl S p ∧ 0 ≤ t ∧ t < 96 → ∀ M' : z_M, z_sit S M' → z_ag M M' → Q (z_I (z_see S p t)) M' := fun c M' a b => by have h0 := h M' a b; unfold z_o11 at h0; rw [if_pos c] at h0; exact h0
  exact re_178 (d + 4) (kc_isTold (d + 3) hS hI.1 (fun hp => z_y1 (kc_isMinute (d + 4) (fun a b => z_y1 (kc_seenToday d hS hI hp a b (fun M' e f => z_viI (yes ⟨hp, a, b⟩ M' e f)))) (fun c => z_n1 (no (fun z => by have := z.2.1; have := z.2.2; omega))))) (fun hp => z_n1 (no (fun z => hp z.1))))
theorem z_pd3 (hI : z_IPeo S) {p : Int} (hp : z_tl S p) : z_pd S p / 3 = p := by
  obtain ⟨_, _, _, a, b⟩ := z_pd_b hI hp
  omega
/-- a plan of today that is there is a told person's -/
theorem z_pd_told (hI : z_IPeo S) {p : Int} (h0 : 0 ≤ p) (h1 : p < 10) (h : S 304067 (z_pd S p) = 1) : z_tl S p := by
  obtain ⟨_, v0, v1, _⟩ := hI.2.2.1 p h0 h1
  have e : z_pd S p = 3 * p + S 101023 p := rfl
  have := hI.2.1 (z_pd S p) (by omega) (by omega) h
  rw [show z_pd S p / 3 = p from by omega] at this
  exact ⟨h0, h1, this⟩
theorem km_sees (d : Nat) {p t : Int} (hS : z_sit S M) (hI : z_IS S) (h : ∀ M' : z_M, z_sit S M' → z_ag M M' → Q (z_I (z_o11 S p t)) M') : z_Cl 0 (d + 5) 289 [z_R 13, z_I p, z_I t] M Q := by
  have no : ¬ (z_tl S p ∧ 0 ≤ t ∧ t < 96) → Q (z_I (-1)) M := fun c => by have h0 := h M hS (z_ag_rf M); unfold z_o11 at h0; rw [if_neg c] at h0; exact h0
  have yes : z_tl S p ∧ 0 ≤ t ∧ t < 96 → ∀ M' : z_M, z_sit S M' → z_ag M M' → Q (z_I (z_see S p t)) M' := fun c M' a b => by have h0 := h M' a b; unfold z_o11 at h0; rw [if_pos c] at h0; exact h0
  refine re_289 (d + 4) (km_isTold (d + 3) hS hI.1 (fun hp => z_y1 (km_isMinute (d + 3) (fun h2 h3 => z_y2 (km_spotOf (d + 3) hS hI.1 hp h2 h3 (z_viI ?_))) (fun c => z_n2 (no (fun z => by have := z.2.1; have := z.2.2; omega))))) (fun hp => z_n1 (no (fun z => hp z.1))))
  obtain ⟨a, b, c, _, _⟩ := z_pd_b hI.1 hp
  obtain ⟨s0, s1⟩ := z_sp_b hI.1 hp h2 h3
  refine km_sight d hS hI.2.2.1 h2 h3 s0 s1 (fun M1 a1 b1 => z_viI ?_)
  have evw : zv_rk S 118 14 t 0 p (z_sp S p t) = z_vw S (z_pd S p) t := by unfold z_vw; rw [z_pd3 hI.1 hp]; rfl
  rw [evw]
  obtain ⟨vw0, vw1⟩ := z_vw_b S (z_pd S p) t
  refine z_lp (S := S) (M := M) (n := 10) (fun q => (z_bs q (z_seb S p t) : Int)) (fun N b q => z_G 0 (d + 5) z_m289 36 [z_R 13, z_I p, z_I t, z_I (z_vw S (z_pd S p) t), z_I b, z_I q] [] N Q) M1 a1 b1 (fun q N hq hN gN nx => ?_) (fun N hN gN => ?_)
  · have no : z_seb S p t q = false → ∀ N' : z_M, z_sit S N' → z_ag M N' → z_G 0 (d + 5) z_m289 36 [z_R 13, z_I p, z_I t, z_I (z_vw S (z_pd S p) t), z_I (z_bs q (z_seb S p t) : Int), z_I (z_w ((q : Int) + 1))] [] N' Q := by
      intro e N' hN' gN'
      rw [z_wq (by omega), z_bs_no e]
      exact nx N' hN' gN'
    refine rg_289_36 (d + 4) ⟨fun c2 => absurd c2 (by omega), fun _ => ⟨fun c2 => no ?_ N hN gN, fun c2 => km_isTold (d + 3) hN hI.1 (fun hq2 => z_y1 ?_) (fun hq2 => z_n1 (no ?_ N hN gN))⟩⟩
    · unfold z_seb z_snb; exact decide_eq_false (fun z => z.1 (by rw [c2]))
    · obtain ⟨r0, r1⟩ := z_sp_b hI.1 hq2 h2 h3
      obtain ⟨a', b', c', _, _⟩ := z_pd_b hI.1 hq2
      refine km_spotOf (d + 3) hN hI.1 hp h2 h3 (z_viI (km_spotOf (d + 3) hN hI.1 hq2 h2 h3 (z_viI ?_)))
      have eg : N 1001065 = S 1001015 := by rw [z_fn hN _ rfl, hI.2.1.1]
      refine km_isInSight (d + 2) eg s0 s1 r0 r1 vw0 (by omega) (fun c3 => z_y1 ?_) (fun c3 => z_n1 (no ?_ N hN gN))
      · have e : z_seb S p t q = true := by
          unfold z_seb z_snb
          refine decide_eq_true ⟨?_, c', c3⟩
          rw [z_pd3 hI.1 hp, z_pd3 hI.1 hq2]; exact c2
        rw [z_wq (by omega), z_bs_or (by omega) e]
        exact nx N hN gN
      · unfold z_seb z_snb
        refine decide_eq_false (fun z => ?_)
        have z3 : z_aw (S 1001015) (z_sp S p t) (z_sp S (q : Int) t) ≤ z_vw S (z_pd S p) t := z.2.2
        omega
    · unfold z_seb z_snb
      exact decide_eq_false (fun z => hq2 (z_pd_told hI.1 (by omega) (by omega) z.2.1))
  · exact rg_289_36 (d + 4) ⟨fun _ => yes ⟨hp, h2, h3⟩ N hN gN, fun c2 => absurd c2 (by decide)⟩
theorem km_apartOf (d : Nat) {a b : Int} (ha : 0 ≤ a) (ha1 : a < 100) (hb : 0 ≤ b) (hb1 : b < 100) (h : Q (z_I (z_ap a b)) M) : z_Cl 0 (d + 2) 290 [z_I a, z_I b] M Q := by
  refine re_290 (d + 1) (km_across d ha (by omega) hb (by omega) (z_viI (km_upward d ha (by omega) hb (by omega) (z_viI ?_))))
  have a1 := z_ab_c (a % 10 - b % 10)
  have a2 := z_ab_c (a / 10 - b / 10)
  rw [z_w_id (by omega) (by omega)]
  exact h
def z_o12 (S : z_M) (p t : Int) : Int := if z_tl S p ∧ 0 ≤ t ∧ t < 96 then (z_hea S p t : Int) else -1
theorem kc_hears (d : Nat) {p t : Int} (hS : z_sit S M) (hI : z_IS S) (h : ∀ M' : z_M, z_sit S M' → z_ag M M' → Q (z_I (z_o12 S p t)) M') : z_Cl 0 (d + 5) 179 [z_R 1, z_I p, z_I t] M Q := by
  have no : ¬ (z_tl S p ∧ 0 ≤ t ∧ t < 96) → Q (z_I (-1)) M := fun c => by have h0 := h M hS (z_ag_rf M); unfold z_o12 at h0; rw [if_neg c] at h0; exact h0
  have yes : z_tl S p ∧ 0 ≤ t ∧ t < 96 → ∀ M' : z_M, z_sit S M' → z_ag M M' → Q (z_I (z_hea S p t : Int)) M' := fun c M' a b => by have h0 := h M' a b; unfold z_o12 at h0; rw [if_pos c] at h0; exact h0
  exact re_179 (d + 4) (kc_isTold (d + 3) hS hI.1 (fun hp => z_y1 (kc_isMinute (d + 4) (fun a b => z_y1 (kc_heardToday d hS hI hp a b (fun M' e f => z_viI (yes ⟨hp, a, b⟩ M' e f)))) (fun c => z_n1 (no (fun z => by have := z.2.1; have := z.2.2; omega))))) (fun hp => z_n1 (no (fun z => hp z.1))))
theorem z_cwe (hI : z_IPeo S) {p t : Int} (hp : z_tl S p) : zv_rk S 104 18 t 0 p (z_sp S p t) = z_cw S (z_pd S p) t := by unfold z_cw; rw [z_pd3 hI hp]; rfl
theorem km_hears (d : Nat) {p t : Int} (hS : z_sit S M) (hI : z_IS S) (h : ∀ M' : z_M, z_sit S M' → z_ag M M' → Q (z_I (z_o12 S p t)) M') : z_Cl 0 (d + 5) 291 [z_R 13, z_I p, z_I t] M Q := by
  have no : ¬ (z_tl S p ∧ 0 ≤ t ∧ t < 96) → Q (z_I (-1)) M := fun c => by have h0 := h M hS (z_ag_rf M); unfold z_o12 at h0; rw [if_neg c] at h0; exact h0
  have yes : z_tl S p ∧ 0 ≤ t ∧ t < 96 → ∀ M' : z_M, z_sit S M' → z_ag M M' → Q (z_I (z_hea S p t : Int)) M' := fun c M' a b => by have h0 := h M' a b; unfold z_o12 at h0; rw [if_pos c] at h0; exact h0
  refine re_291 (d + 4) (km_isTold (d + 3) hS hI.1 (fun hp => z_y1 (km_isMinute (d + 3) (fun h2 h3 => z_y2 ?_) (fun c => z_n2 (no (fun z => by have := z.2.1; have := z.2.2; omega))))) (fun hp => z_n1 (no (fun z => hp z.1))))
  obtain ⟨s0, s1⟩ := z_sp_b hI.1 hp h2 h3
  refine z_lp (S := S) (M := M) (n := 10) (fun q => (z_bs q (z_hrb S p t) : Int)) (fun N b q => z_G 0 (d + 5) z_m291 22 [z_R 13, z_I p, z_I t, z_I b, z_I q] [] N Q) M hS (z_ag_rf M) (fun q N hq hN gN nx => ?_) (fun N hN gN => ?_)
  · have no : z_hrb S p t q = false → ∀ N' : z_M, z_sit S N' → z_ag M N' → z_G 0 (d + 5) z_m291 22 [z_R 13, z_I p, z_I t, z_I (z_bs q (z_hrb S p t) : Int), z_I (z_w ((q : Int) + 1))] [] N' Q := by
      intro e N' hN' gN'
      rw [z_wq (by omega), z_bs_no e]
      exact nx N' hN' gN'
    refine rg_291_22 (d + 4) ⟨fun c2 => absurd c2 (by omega), fun _ => ⟨fun c2 => no ?_ N hN gN, fun c2 => km_isTold (d + 3) hN hI.1 (fun hq2 => z_y1 ?_) (fun hq2 => z_n1 (no ?_ N hN gN))⟩⟩
    · unfold z_hrb; exact decide_eq_false (fun z => z.1 c2)
    · obtain ⟨r0, r1⟩ := z_sp_b hI.1 hq2 h2 h3
      refine km_spotOf (d + 3) hN hI.1 hp h2 h3 (z_viI (km_spotOf (d + 3) hN hI.1 hq2 h2 h3 (z_viI (km_apartOf (d + 2) s0 s1 r0 r1 (z_viI (km_spotOf (d + 3) hN hI.1 hq2 h2 h3 (z_viI (km_sound d hN hI.2.2.1 h2 h3 r0 r1 (fun N' hN' gN' => z_viI ?_)))))))))
      rw [z_cwe hI.1 hq2]
      refine ⟨fun c3 => no ?_ N' hN' (z_ag_tr gN gN'), fun c3 => ?_⟩
      · unfold z_hrb; exact decide_eq_false (fun z => by have := z.2.2; omega)
      · have e : z_hrb S p t q = true := by unfold z_hrb; exact decide_eq_true ⟨c2, hq2.2.2, c3⟩
        rw [z_wq (by omega), z_bs_or (by omega) e]
        exact nx N' hN' (z_ag_tr gN gN')
    · unfold z_hrb; exact decide_eq_false (fun z => hq2 ⟨by omega, by omega, z.2.1⟩)
  · exact rg_291_22 (d + 4) ⟨fun _ => yes ⟨hp, h2, h3⟩ N hN gN, fun c2 => absurd c2 (by decide)⟩
def z_o13 (S : z_M) (t u w : Int) : Int := if (0 ≤ t ∧ t < 96) ∧ (0 ≤ u ∧ u < 2) ∧ 0 ≤ w ∧ w ≤ 1 then (if w = 0 then zv_rk S 97 7 t u 0 0 else zv_rk S 108 9 t u 0 0) else -1
theorem kc_shadow (d : Nat) {t u w : Int} (hS : z_sit S M) (hI : z_IS S) (h : ∀ M' : z_M, z_sit S M' → z_ag M M' → Q (z_I (z_o13 S t u w)) M') : z_Cl 0 (d + 3) 180 [z_R 1, z_I t, z_I u, z_I w] M Q := by
  have no : ¬ ((0 ≤ t ∧ t < 96) ∧ (0 ≤ u ∧ u < 2) ∧ 0 ≤ w ∧ w ≤ 1) → Q (z_I (-1)) M := fun c => by have h0 := h M hS (z_ag_rf M); unfold z_o13 at h0; rw [if_neg c] at h0; exact h0
  refine re_180 (d + 2) (kc_isMinute (d + 2) (fun a b => z_y1 (kc_isSun (d + 2) (fun a2 b2 => z_y1 ⟨fun c => no (by omega), fun c => ⟨fun c2 => kc_cast d hS hI a2 b2 a b (fun M' e f => z_viI ?_), fun c2 => no (by omega)⟩⟩) (fun c => z_n1 (no (by omega))))) (fun c => z_n1 (no (by omega))))
  have h0 := h M' e f
  unfold z_o13 at h0
  rw [if_pos ⟨⟨a, b⟩, ⟨a2, b2⟩, c, c2⟩] at h0
  obtain ⟨q1, q2, q3, q4⟩ := z_ct_b S t u
  rw [z_tm q1, z_td q1, q3, q4]
  refine ⟨fun c3 => ?_, fun c3 => ?_⟩
  · rw [if_neg c3] at h0; exact h0
  · have := z_rk_b S 97 7 t u 0 0 (by decide)
    rw [if_pos c3] at h0; rw [z_w_id (by omega) (by omega)]; exact h0
theorem km_shadow (d : Nat) {t u w : Int} (hS : z_sit S M) (hI : z_IS S) (h : ∀ M' : z_M, z_sit S M' → z_ag M M' → Q (z_I (z_o13 S t u w)) M') : z_Cl 0 (d + 5) 292 [z_R 13, z_I t, z_I u, z_I w] M Q := by
  have no : ¬ ((0 ≤ t ∧ t < 96) ∧ (0 ≤ u ∧ u < 2) ∧ 0 ≤ w ∧ w ≤ 1) → Q (z_I (-1)) M := fun c => by have h0 := h M hS (z_ag_rf M); unfold z_o13 at h0; rw [if_neg c] at h0; exact h0
  refine re_292 (d + 4) (km_isMinute (d + 3) (fun a b => z_y1 (km_lies (d + 4) (fun a2 b2 => z_y1 (km_lies (d + 4) (fun a3 b3 => z_y2 ⟨fun c => ?_, fun c => ?_⟩) (fun c => z_n2 (no (by omega))))) (fun c => z_n1 (no (by omega))))) (fun c => z_n1 (no (by omega))))
  · refine km_shadowLength d hS hI.2.2.1 a b (fun M' e f => z_viI ?_)
    have h0 := h M' e f
    unfold z_o13 at h0
    rw [if_pos ⟨⟨a, b⟩, ⟨a2, by omega⟩, a3, b3⟩, if_neg c] at h0
    exact h0
  · refine km_shadowWay d hS hI.2.2.1 a b (fun M' e f => z_viI ?_)
    have h0 := h M' e f
    unfold z_o13 at h0
    rw [if_pos ⟨⟨a, b⟩, ⟨a2, by omega⟩, a3, b3⟩, if_pos c] at h0
    exact h0
/-- the minutes with a cast -/
def z_fal (S : z_M) (c u : Int) : Nat → Int × Int × Int
  | 0 => (0, -2, -2)
  | n + 1 => if z_ct S (n : Int) u = c then ((z_fal S c u n).1 + 1, (if (z_fal S c u n).2.1 = -2 then (n : Int) else (z_fal S c u n).2.1), (n : Int)) else z_fal S c u n
theorem z_fal_b (S : z_M) (c u : Int) (n : Nat) : 0 ≤ (z_fal S c u n).1 ∧ (z_fal S c u n).1 ≤ n := by
  induction n with
  | zero => exact ⟨Int.le_refl _, Int.le_refl _⟩
  | succ n ih =>
    unfold z_fal
    split
    · exact ⟨by show 0 ≤ (z_fal S c u n).1 + 1; omega, by show (z_fal S c u n).1 + 1 ≤ _; omega⟩
    · omega
def z_o26 (S : z_M) (w l u k : Int) : Int := if (0 ≤ w ∧ w ≤ 7) ∧ (0 ≤ l ∧ l ≤ 9) ∧ (0 ≤ u ∧ u < 2) ∧ 0 ≤ k ∧ k ≤ 2 then (if k = 0 then (z_fal S (10 * w + l) u 96).1 else if k = 1 then (z_fal S (10 * w + l) u 96).2.1 else (z_fal S (10 * w + l) u 96).2.2) else -1
theorem kc_falls (d : Nat) {w l u k : Int} (hS : z_sit S M) (hI : z_IS S) (h : ∀ M' : z_M, z_sit S M' → z_ag M M' → Q (z_I (z_o26 S w l u k)) M') : z_Cl 0 (d + 4) 193 [z_R 1, z_I w, z_I l, z_I u, z_I k] M Q := by
  have no : ¬ ((0 ≤ w ∧ w ≤ 7) ∧ (0 ≤ l ∧ l ≤ 9) ∧ (0 ≤ u ∧ u < 2) ∧ 0 ≤ k ∧ k ≤ 2) → Q (z_I (-1)) M := fun c => by have h0 := h M hS (z_ag_rf M); unfold z_o26 at h0; rw [if_neg c] at h0; exact h0
  refine re_193 (d + 3) ⟨fun c => no (by omega), fun c1 => ⟨fun c => no (by omega), fun c2 => ⟨fun c => no (by omega), fun c3 => ⟨fun c => no (by omega), fun c4 => kc_isSun (d + 3) (fun c5 c6 => z_y1 ⟨fun c => no (by omega), fun c7 => ⟨fun c8 => ?_, fun c => no (by omega)⟩⟩) (fun c => z_n1 (no (by omega)))⟩⟩⟩⟩
  rw [z_w_id (x := 10 * w) (by omega) (by omega), z_w_id (x := 10 * w + l) (by omega) (by omega)]
  refine re_115 (d + 2) ?_
  refine z_lp (S := S) (M := M) (n := 96) (fun q => z_fal S (10 * w + l) u q) (fun N b q => z_G 0 (d + 3) z_m115 14 [z_R 6, z_I (10 * w + l), z_I u, z_I k, z_I b.1, z_I b.2.1, z_I b.2.2, z_I q] [] N (fun v2 M2 => z_vi v2 fun x2 => Q (z_I x2) M2)) M hS (z_ag_rf M) (fun q N hq hN gN nx => ?_) (fun N hN gN => ?_)
  · refine rg_115_14 (d + 2) ⟨fun c => absurd c (by omega), fun _ => kc_cast d hN hI c5 c6 (by omega) (by omega) (fun N' hN' gN' => z_viI ?_)⟩
    have nx' := nx N' hN' (z_ag_tr gN gN')
    have bb := z_fal_b S (10 * w + l) u q
    rw [z_wq (by omega)]
    refine ⟨fun c => ?_, fun c => ⟨fun c' => ?_, fun c' => ?_⟩⟩
    · have e : z_fal S (10 * w + l) u (q + 1) = z_fal S (10 * w + l) u q := by
        show (if z_ct S (q : Int) u = 10 * w + l then _ else _) = _
        rw [if_neg c]
      rw [e] at nx'; exact nx'
    · have e : z_fal S (10 * w + l) u (q + 1) = ((z_fal S (10 * w + l) u q).1 + 1, (z_fal S (10 * w + l) u q).2.1, (q : Int)) := by
        show (if z_ct S (q : Int) u = 10 * w + l then _ else _) = _
        rw [if_pos c, if_neg c']
      rw [e] at nx'; rw [z_w_id (by omega) (by omega)]; exact nx'
    · have e : z_fal S (10 * w + l) u (q + 1) = ((z_fal S (10 * w + l) u q).1 + 1, (q : Int), (q : Int)) := by
        show (if z_ct S (q : Int) u = 10 * w + l then _ else _) = _
        rw [if_pos c, if_pos c']
      rw [e] at nx'; rw [z_w_id (by omega) (by omega)]; exact nx'
  · have h0 := h N hN gN
    unfold z_o26 at h0
    rw [if_pos ⟨⟨c1, c2⟩, ⟨c3, c4⟩, ⟨c5, c6⟩, c7, c8⟩] at h0
    refine rg_115_14 (d + 2) ⟨fun _ => ⟨fun c => ⟨fun c' => z_viI ?_, fun c' => z_viI ?_⟩, fun c => z_viI ?_⟩, fun c => absurd c (by decide)⟩
    · rw [if_neg c, if_neg c'] at h0; exact h0
    · rw [if_neg c, if_pos c'] at h0; exact h0
    · rw [if_pos c] at h0; exact h0
theorem km_falls (d : Nat) {w l u k : Int} (hS : z_sit S M) (hI : z_IS S) (h : ∀ M' : z_M, z_sit S M' → z_ag M M' → Q (z_I (z_o26 S w l u k)) M') : z_Cl 0 (d + 5) 346 [z_R 13, z_I w, z_I l, z_I u, z_I k] M Q := by
  have no : ¬ ((0 ≤ w ∧ w ≤ 7) ∧ (0 ≤ l ∧ l ≤ 9) ∧ (0 ≤ u ∧ u < 2) ∧ 0 ≤ k ∧ k ≤ 2) → Q (z_I (-1)) M := fun c => by have h0 := h M hS (z_ag_rf M); unfold z_o26 at h0; rw [if_neg c] at h0; exact h0
  refine re_346 (d + 4) (km_lies (d + 4) (fun c1 c2 => z_y1 (km_lies (d + 4) (fun c3 c4 => z_y1 (km_lies (d + 4) (fun c5 c6 => z_y1 (km_lies (d + 4) (fun c7 c8 => z_y2 ?_) (fun c => z_n2 (no (by omega))))) (fun c => z_n1 (no (by omega))))) (fun c => z_n1 (no (by omega))))) (fun c => z_n1 (no (by omega))))
  refine z_lp (S := S) (M := M) (n := 96) (fun q => z_fal S (10 * w + l) u q) (fun N b q => z_G 0 (d + 5) z_m346 63 [z_R 13, z_I w, z_I l, z_I u, z_I k, z_I b.1, z_I b.2.1, z_I b.2.2, z_I q] [] N Q) M hS (z_ag_rf M) (fun q N hq hN gN nx => ?_) (fun N hN gN => ?_)
  · have bb := z_fal_b S (10 * w + l) u q
    have q1 := z_rk_b S 97 7 (q : Int) u 0 0 (by decide)
    have q2 := z_rk_b S 108 9 (q : Int) u 0 0 (by decide)
    have ect : z_ct S (q : Int) u = 10 * zv_rk S 97 7 (q : Int) u 0 0 + zv_rk S 108 9 (q : Int) u 0 0 := rfl
    have skip : ∀ N' : z_M, z_sit S N' → z_ag M N' → ¬ z_ct S (q : Int) u = 10 * w + l → z_G 0 (d + 5) z_m346 63 [z_R 13, z_I w, z_I l, z_I u, z_I k, z_I (z_fal S (10 * w + l) u q).1, z_I (z_fal S (10 * w + l) u q).2.1, z_I (z_fal S (10 * w + l) u q).2.2, z_I (z_w ((q : Int) + 1))] [] N' Q := by
      intro N' hN' gN' c
      have nx' := nx N' hN' gN'
      have e : z_fal S (10 * w + l) u (q + 1) = z_fal S (10 * w + l) u q := by
        show (if z_ct S (q : Int) u = 10 * w + l then _ else _) = _
        rw [if_neg c]
      rw [e] at nx'; rw [z_wq (by omega)]; exact nx'
    refine rg_346_63 (d + 4) ⟨fun c => absurd c (by omega), fun _ => km_shadowWay d hN hI.2.2.1 (by omega) (by omega) (fun N1 hN1 gN1 => z_viI ⟨fun c => skip N1 hN1 (z_ag_tr gN gN1) (by omega), fun c => km_shadowLength d hN1 hI.2.2.1 (by omega) (by omega) (fun N' hN' gN' => z_viI ⟨fun c' => ?_, fun c' => skip N' hN' (z_ag_tr (z_ag_tr gN gN1) gN') (by omega)⟩)⟩)⟩
    have nx' := nx N' hN' (z_ag_tr (z_ag_tr gN gN1) gN')
    rw [z_wq (by omega), z_w_id (x := (z_fal S (10 * w + l) u q).1 + 1) (by omega) (by omega)]
    refine ⟨fun c2 => ?_, fun c2 => ?_⟩
    · have e : z_fal S (10 * w + l) u (q + 1) = ((z_fal S (10 * w + l) u q).1 + 1, (z_fal S (10 * w + l) u q).2.1, (q : Int)) := by
        show (if z_ct S (q : Int) u = 10 * w + l then _ else _) = _
        rw [if_pos (by omega), if_neg c2]
      rw [e] at nx'; exact nx'
    · have e : z_fal S (10 * w + l) u (q + 1) = ((z_fal S (10 * w + l) u q).1 + 1, (q : Int), (q : Int)) := by
        show (if z_ct S (q : Int) u = 10 * w + l then _ else _) = _
        rw [if_pos (by omega), if_pos c2]
      rw [e] at nx'; exact nx'
  · have h0 := h N hN gN
    unfold z_o26 at h0
    rw [if_pos ⟨⟨c1, c2⟩, ⟨c3, c4⟩, ⟨c5, by omega⟩, c7, c8⟩] at h0
    refine rg_346_63 (d + 4) ⟨fun _ => ⟨fun c => ⟨fun c' => ?_, fun c' => ?_⟩, fun c => ?_⟩, fun c => absurd c (by decide)⟩
    · rw [if_neg c, if_neg c'] at h0; exact h0
    · rw [if_neg c, if_pos c'] at h0; exact h0
    · rw [if_pos c] at h0; exact h0
end ZOPA
