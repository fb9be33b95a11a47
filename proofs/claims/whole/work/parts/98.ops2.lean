/-! OPS: report, holds, told, liar, argued -/
section ZOPB
variable {S M : z_M} {Q : z_V → z_M → Prop}
theorem z_or12 : z_or 0 0 = 0 ∧ z_or 0 2 = 2 ∧ z_or 1 0 = 1 ∧ z_or 1 2 = 3 := by decide
/-- a report in THE DAY -/
def z_hdt (S : z_M) (i : Int) : Bool := z_hld S i (z_pd S (S 401092 i)) (if S 401096 i = -1 then 0 else z_pd S (S 401096 i)) (S 4 9)
theorem z_hld_cg {S : z_M} {i pl op op' u : Int} (hr : z_rowok S i) (ho : S 401096 i = -1) : z_hld S i pl op u = z_hld S i pl op' u := by
  obtain ⟨_, _, _, _, _, _, _, _, _, kinds⟩ := id hr
  unfold z_hld
  refine z_ex_cg _ _ (fun t _ _ => ?_)
  unfold z_so
  rcases kinds with ⟨hk, ⟨o0, o1, o2⟩, ht⟩ | ⟨hk, ⟨o0, o1, o2⟩, ht⟩ | ⟨hk, ho, ht⟩ | ⟨hk, ho, ht⟩
  · exact absurd o0 (by omega)
  · exact absurd o0 (by omega)
  · rw [hk]; rfl
  · rw [hk]; rfl
theorem kc_has_r (d : Nat) {i : Int} (hS : z_sit S M) (hR : z_IRep S) (h1 : 0 ≤ i → i < S 13 49 → Q (z_I 1) M) (h0 : i < 0 ∨ S 13 49 ≤ i → Q (z_I 0) M) : z_Cl 0 d 90 [z_R 7, z_I i] M Q := by
  refine re_90 d ?_
  rw [z_ff hS 7 5 rfl, hR.1]
  exact ⟨fun c => h0 (Or.inl c), fun c => ⟨fun c2 => h0 (Or.inr c2), fun c2 => h1 c c2⟩⟩
theorem km_isReport (d : Nat) {i : Int} (hS : z_sit S M) (hR : z_IRep S) (h1 : 0 ≤ i → i < S 13 49 → Q (z_I 1) M) (h0 : i < 0 ∨ S 13 49 ≤ i → Q (z_I 0) M) : z_Cl 0 (d + 1) 300 [z_R 13, z_I i] M Q := by
  have r0 := hR.2.1
  have r1 := hR.2.2.1
  refine re_300 d ?_
  rw [z_ff hS 13 49 rfl, z_w_id (by omega) (by omega)]
  exact km_lies d (fun a b => z_viI (z_bl_of (Or.inr rfl) (h1 a (by omega)))) (fun a => z_viI (z_bl_of (Or.inl rfl) (h0 (by omega))))
theorem kc_isSoToday (d : Nat) {i : Int} (hS : z_sit S M) (hI : z_IS S) (hR : z_IRep S) (i0 : 0 ≤ i) (i1 : i < S 13 49) (h : ∀ M' : z_M, z_sit S M' → z_ag M M' → Q (z_I (zv_b (z_hdt S i))) M') : z_Cl 0 (d + 5) 106 [z_R 7, z_I i] M Q := by
  have hr := hR.2.2.2 i i0 i1
  have i40 : i < 40 := by have := hR.2.2.1; omega
  obtain ⟨r0, ⟨w0, w1, w2⟩, _, _, _, _, r3, r4, r5, kinds⟩ := id hr
  have hp : z_tl S (S 401092 i) := ⟨w0, w1, w2⟩
  obtain ⟨a, b, c, _, _⟩ := z_pd_b hI.1 hp
  have su := hI.1.2.2.2.2.2
  have hsun : M 4 9 = S 4 9 := z_ff hS 4 9 rfl
  refine re_106 (d + 4) (re_93 (d + 3) (kc_part (d + 3) hS i0 i40 (by decide) (by decide) (z_viI (z_viI (re_92 (d + 3) (kc_part (d + 3) hS i0 i40 (by decide) (by decide) (z_viI (z_viI ?_))))))))
  rw [r0, r4]
  refine kc_planToday (d + 4) hS hI.1 w0 w1 (z_viI ?_)
  have bl : ∀ (B : Bool) (N : z_M), Q (z_I (zv_b B)) N → z_vi (z_I (zv_b B)) (fun x6 => z_bl x6 (Q (z_I x6) N)) := by
    intro B N hB
    cases B with
    | true => exact z_viI (z_bl_of (Or.inr rfl) hB)
    | false => exact z_viI (z_bl_of (Or.inl rfl) hB)
  unfold z_hdt at h
  by_cases ho : S 401096 i = -1
  · rw [if_pos ho]
    rw [if_pos ho] at h
    have e0 : z_max 0 (-2) = 0 := by decide
    rw [e0]
    obtain ⟨_, v0, v1, _⟩ := hI.1.2.2.1 0 (by decide) (by decide)
    have e1 : z_pd S 0 = 3 * 0 + S 101023 0 := rfl
    refine kc_planToday (d + 4) hS hI.1 (by decide) (by decide) (z_viI (re_67 (d + 4) (z_viI ?_)))
    rw [hsun]
    refine kc_isSo d hS hI hr i0 i40 ⟨⟨a, b⟩, ⟨by omega, by omega⟩, ⟨by omega, by omega⟩, fun _ => c, fun q => absurd ho q⟩ (fun M' e f => bl _ M' ?_)
    have := h M' e f
    rw [z_hld_cg hr ho (op' := z_pd S 0)] at this
    exact this
  · rw [if_neg ho]
    rw [if_neg ho] at h
    have hoth : z_oth S i := by
      rcases kinds with ⟨_, q, _⟩ | ⟨_, q, _⟩ | ⟨_, q, _⟩ | ⟨_, q, _⟩
      · exact q
      · exact q
      · exact absurd q ho
      · exact absurd q ho
    have e0 : z_max 0 (S 401096 i) = S 401096 i := by unfold z_max; have := hoth.1; split <;> omega
    rw [e0]
    obtain ⟨a', b', c', _, _⟩ := z_pd_b hI.1 (p := S 401096 i) hoth
    refine kc_planToday (d + 4) hS hI.1 hoth.1 hoth.2.1 (z_viI (re_67 (d + 4) (z_viI ?_)))
    rw [hsun]
    exact kc_isSo d hS hI hr i0 i40 ⟨⟨a, b⟩, ⟨a', b'⟩, ⟨by omega, by omega⟩, fun _ => c, fun _ => c'⟩ (fun M' e f => bl _ M' (h M' e f))
theorem km_isHeld (d : Nat) {i : Int} (hS : z_sit S M) (hI : z_IS S) (hR : z_IRep S) (i0 : 0 ≤ i) (i1 : i < S 13 49) (h : ∀ M' : z_M, z_sit S M' → z_ag M M' → Q (z_I (zv_b (z_hdt S i))) M') : z_Cl 0 (d + 7) 308 [z_R 13, z_I i] M Q := by
  have hr := hR.2.2.2 i i0 i1
  have i40 : i < 40 := by have := hR.2.2.1; omega
  obtain ⟨r0, ⟨w0, w1, w2⟩, _, _, _, _, r3, r4, r5, kinds⟩ := id hr
  have hp : z_tl S (S 401092 i) := ⟨w0, w1, w2⟩
  obtain ⟨a, b, c, _, _⟩ := z_pd_b hI.1 hp
  have su := hI.1.2.2.2.2.2
  have bl : ∀ (B : Bool) (N : z_M), Q (z_I (zv_b B)) N → z_vi (z_I (zv_b B)) (fun x6 => z_bl x6 (Q (z_I x6) N)) := by
    intro B N hB
    cases B with
    | true => exact z_viI (z_bl_of (Or.inr rfl) hB)
    | false => exact z_viI (z_bl_of (Or.inl rfl) hB)
  obtain ⟨ev, v0, v1, _⟩ := hI.1.2.2.1 (S 401092 i) w0 w1
  refine re_308 (d + 6) ?_
  rw [z_fn hS 401092 rfl, z_fn hS 401096 rfl, z_fn hS 101091 rfl, z_ff hS 13 48 rfl, hI.1.2.2.2.2.1, ev]
  unfold z_hdt at h
  refine ⟨i0, i40, w0, w1, i0, i40, fun ho => ⟨i0, i40, ?_⟩, fun ho => ?_⟩
  · rw [if_neg ho] at h
    have hoth : z_oth S i := by
      rcases kinds with ⟨_, q, _⟩ | ⟨_, q, _⟩ | ⟨_, q, _⟩ | ⟨_, q, _⟩
      · exact q
      · exact q
      · exact absurd q ho
      · exact absurd q ho
    obtain ⟨ev2, u0, u1, _⟩ := hI.1.2.2.1 (S 401096 i) hoth.1 hoth.2.1
    obtain ⟨a', b', c', _, _⟩ := z_pd_b hI.1 (p := S 401096 i) hoth
    rw [ev2]
    exact ⟨hoth.1, hoth.2.1, km_canHold d hS hI hr i0 i40 rfl rfl v0 v1 u0 u1 (fun _ => c) (fun _ => c') (fun M' e f => bl _ M' (h M' e f))⟩
  · rw [if_pos ho] at h
    refine km_canHold d hS hI hr i0 i40 rfl rfl v0 v1 (by decide) (by decide) (fun _ => c) (fun q => absurd ho q) (fun M' e f => bl _ M' ?_)
    have := h M' e f
    rw [z_hld_cg hr ho (op' := 3 * S 401096 i + 0)] at this
    exact this
def z_o14 (S : z_M) (i : Int) : Int := if 0 ≤ i ∧ i < S 13 49 then zv_b (z_hdt S i) else -1
theorem kc_holds (d : Nat) {i : Int} (hS : z_sit S M) (hI : z_IS S) (hR : z_IRep S) (h : ∀ M' : z_M, z_sit S M' → z_ag M M' → Q (z_I (z_o14 S i)) M') : z_Cl 0 (d + 6) 181 [z_R 1, z_I i] M Q := by
  unfold z_o14 at h
  refine re_181 (d + 5) (kc_has_r (d + 5) hS hR (fun a b => z_y2 (kc_isSoToday d hS hI hR a b (fun M' e f => ?_))) (fun c => z_n2 ?_))
  · have h0 := h M' e f
    rw [if_pos ⟨a, b⟩] at h0
    cases hb : z_hdt S i with
    | true => rw [hb] at h0; exact z_y1 h0
    | false => rw [hb] at h0; exact z_n1 h0
  · have h0 := h M hS (z_ag_rf M)
    rw [if_neg (by omega)] at h0
    exact h0
theorem km_holds (d : Nat) {i : Int} (hS : z_sit S M) (hI : z_IS S) (hR : z_IRep S) (h : ∀ M' : z_M, z_sit S M' → z_ag M M' → Q (z_I (z_o14 S i)) M') : z_Cl 0 (d + 8) 309 [z_R 13, z_I i] M Q := by
  unfold z_o14 at h
  refine re_309 (d + 7) (km_isReport (d + 6) hS hR (fun a b => z_y1 (km_isHeld d hS hI hR a b (fun M' e f => ?_))) (fun c => z_n1 ?_))
  · have h0 := h M' e f
    rw [if_pos ⟨a, b⟩] at h0
    cases hb : z_hdt S i with
    | true => rw [hb] at h0; exact z_y1 h0
    | false => rw [hb] at h0; exact z_n1 h0
  · have h0 := h M hS (z_ag_rf M)
    rw [if_neg (by omega)] at h0
    exact h0
/-- how many hold; the first that doesn't -/
def z_cnt (P : Nat → Bool) : Nat → Int
  | 0 => 0
  | n + 1 => z_cnt P n + zv_b (P n)
def z_1st (P : Nat → Bool) : Nat → Int
  | 0 => -2
  | n + 1 => if z_1st P n = -2 ∧ P n = false then (n : Int) else z_1st P n
theorem z_cnt_b (P : Nat → Bool) (n : Nat) : 0 ≤ z_cnt P n ∧ z_cnt P n ≤ n := by
  induction n with
  | zero => exact ⟨Int.le_refl _, Int.le_refl _⟩
  | succ n ih =>
    have : 0 ≤ zv_b (P n) ∧ zv_b (P n) ≤ 1 := by cases P n <;> decide
    show 0 ≤ z_cnt P n + zv_b (P n) ∧ z_cnt P n + zv_b (P n) ≤ _
    omega
def z_hN (S : z_M) (n : Nat) : Bool := z_hdt S (n : Int)
def z_o15 (S : z_M) (k : Int) : Int := if k = 0 then z_cnt (z_hN S) (S 13 49).toNat else if k = 1 then z_1st (z_hN S) (S 13 49).toNat else -1
theorem z_1st_stay {P : Nat → Bool} {n : Nat} (h : z_1st P n ≠ -2) : ∀ m : Nat, z_1st P (n + m) = z_1st P n := by
  intro m
  induction m with
  | zero => rfl
  | succ m ih =>
    show (if z_1st P (n + m) = -2 ∧ P (n + m) = false then _ else z_1st P (n + m)) = _
    rw [if_neg (fun z => h (ih ▸ z.1)), ih]
theorem kc_told (d : Nat) {k : Int} (hS : z_sit S M) (hI : z_IS S) (hR : z_IRep S) (h : ∀ M' : z_M, z_sit S M' → z_ag M M' → Q (z_I (z_o15 S k)) M') : z_Cl 0 (d + 7) 182 [z_R 1, z_I k] M Q := by
  have r0 := hR.2.1
  have r1 := hR.2.2.1
  have en : (((S 13 49).toNat : Nat) : Int) = S 13 49 := by omega
  unfold z_o15 at h
  refine re_182 (d + 6) ⟨fun c => ⟨fun c2 => ?_, fun c2 => ?_⟩, fun c => ?_⟩
  · have h0 := h M hS (z_ag_rf M)
    rw [if_neg c, if_neg c2] at h0; exact h0
  · rw [if_neg c, if_pos c2] at h
    refine re_108 (d + 5) ?_
    have := z_lp (S := S) (M := M) (n := (S 13 49).toNat) (fun q => ()) (fun N _ q => z_1st (z_hN S) q.toNat = -2 → z_G 0 (d + 6) z_m108 2 [z_R 7, z_I q] [] N (fun v1 M1 => z_vi v1 fun x1 => Q (z_I x1) M1)) M hS (z_ag_rf M) (fun q N hq hN gN nx e => ?_) (fun N hN gN e => ?_)
    · exact this rfl
    · rw [show ((q : Int)).toNat = q from by omega] at e
      refine rg_108_2 (d + 5) ⟨fun c3 => ?_, fun _ => kc_isSoToday d hN hI hR (by omega) (by omega) (fun N' hN' gN' => ?_)⟩
      · rw [z_ff hN 7 5 rfl, hR.1] at c3; exact absurd c3 (by omega)
      · have e2 : z_1st (z_hN S) (q + 1) = if z_1st (z_hN S) q = -2 ∧ z_hN S q = false then (q : Int) else z_1st (z_hN S) q := rfl
        cases hb : z_hdt S (q : Int) with
        | true =>
          refine z_y2 ?_
          rw [z_wq (by omega)]
          refine nx N' hN' (z_ag_tr gN gN') ?_
          rw [show (((q + 1 : Nat) : Int)).toNat = q + 1 from by omega, e2, if_neg (fun z => by have := z.2; unfold z_hN at this; rw [hb] at this; cases this), e]
        | false =>
          refine z_n2 (z_viI ?_)
          have e3 : z_1st (z_hN S) (q + 1) = (q : Int) := by rw [e2, if_pos ⟨e, hb⟩]
          have e4 := z_1st_stay (P := z_hN S) (n := q + 1) (by rw [e3]; omega) ((S 13 49).toNat - (q + 1))
          rw [show q + 1 + ((S 13 49).toNat - (q + 1)) = (S 13 49).toNat from by omega, e3] at e4
          have := h N' hN' (z_ag_tr gN gN')
          rw [e4] at this
          exact this
    · rw [show ((((S 13 49).toNat : Nat) : Int)).toNat = (S 13 49).toNat from by omega] at e
      refine rg_108_2 (d + 5) ⟨fun _ => z_viI ?_, fun c3 => ?_⟩
      · have := h N hN gN
        rw [e] at this; exact this
      · rw [z_ff hN 7 5 rfl, hR.1] at c3; exact absurd c3 (by omega)
  · rw [if_pos c] at h
    refine re_107 (d + 5) ?_
    refine z_lp (S := S) (M := M) (n := (S 13 49).toNat) (fun q => z_cnt (z_hN S) q) (fun N b q => z_G 0 (d + 6) z_m107 4 [z_R 7, z_I b, z_I q] [] N (fun v1 M1 => z_vi v1 fun x1 => Q (z_I x1) M1)) M hS (z_ag_rf M) (fun q N hq hN gN nx => ?_) (fun N hN gN => ?_)
    · refine rg_107_4 (d + 5) ⟨fun c3 => ?_, fun _ => kc_isSoToday d hN hI hR (by omega) (by omega) (fun N' hN' gN' => ?_)⟩
      · rw [z_ff hN 7 5 rfl, hR.1] at c3; exact absurd c3 (by omega)
      · have bb := z_cnt_b (z_hN S) q
        have nx' := nx N' hN' (z_ag_tr gN gN')
        have e2 : z_cnt (z_hN S) (q + 1) = z_cnt (z_hN S) q + zv_b (z_hdt S (q : Int)) := rfl
        rw [e2] at nx'
        cases hb : z_hdt S (q : Int) with
        | true =>
          rw [hb] at nx'
          refine z_y1 ?_
          rw [z_wq (by omega), z_w_id (by omega) (by omega)]
          exact nx'
        | false =>
          rw [hb] at nx'
          refine z_n1 ?_
          rw [z_wq (by omega), z_w_id (by omega) (by omega)]
          exact nx'
    · refine rg_107_4 (d + 5) ⟨fun _ => z_viI (h N hN gN), fun c3 => ?_⟩
      rw [z_ff hN 7 5 rfl, hR.1] at c3; exact absurd c3 (by omega)
theorem km_told (d : Nat) {k : Int} (hS : z_sit S M) (hI : z_IS S) (hR : z_IRep S) (h : ∀ M' : z_M, z_sit S M' → z_ag M M' → Q (z_I (z_o15 S k)) M') : z_Cl 0 (d + 8) 310 [z_R 13, z_I k] M Q := by
  have r0 := hR.2.1
  have r1 := hR.2.2.1
  have en : (((S 13 49).toNat : Nat) : Int) = S 13 49 := by omega
  unfold z_o15 at h
  refine re_310 (d + 7) (km_lies (d + 7) (fun a b => z_y2 ?_) (fun c => z_n2 ?_))
  · refine z_lp (S := S) (M := M) (n := (S 13 49).toNat) (fun q => (z_cnt (z_hN S) q, z_1st (z_hN S) q)) (fun N b q => z_G 0 (d + 8) z_m310 20 [z_R 13, z_I k, z_I b.1, z_I b.2, z_I q, z_U] [] N Q) M hS (z_ag_rf M) (fun q N hq hN gN nx => ?_) (fun N hN gN => ?_)
    · refine rg_310_20 (d + 7) ⟨fun c3 => ?_, fun _ => km_isHeld d hN hI hR (by omega) (by omega) (fun N' hN' gN' => ?_)⟩
      · rw [z_ff hN 13 49 rfl] at c3; exact absurd c3 (by omega)
      · have bb := z_cnt_b (z_hN S) q
        have nx' := nx N' hN' (z_ag_tr gN gN')
        have e2 : z_cnt (z_hN S) (q + 1) = z_cnt (z_hN S) q + zv_b (z_hdt S (q : Int)) := rfl
        have e3 : z_1st (z_hN S) (q + 1) = if z_1st (z_hN S) q = -2 ∧ z_hdt S (q : Int) = false then (q : Int) else z_1st (z_hN S) q := rfl
        rw [e2, e3] at nx'
        cases hb : z_hdt S (q : Int) with
        | true =>
          rw [hb, if_neg (fun z => by cases z.2)] at nx'
          refine z_y1 ⟨fun _ => ?_, fun c => absurd c (by decide)⟩
          rw [z_wq (by omega), z_w_id (by omega) (by omega)]
          exact nx'
        | false =>
          rw [hb] at nx'
          refine z_n1 ⟨fun c => absurd rfl c, fun _ => ?_⟩
          rw [z_wq (by omega), z_w_id (by omega) (by omega)]
          refine ⟨fun c => ?_, fun c => ?_⟩
          · rw [if_neg (fun z => c z.1)] at nx'; exact nx'
          · rw [if_pos ⟨c, rfl⟩] at nx'; exact nx'
    · have h0 := h N hN gN
      refine rg_310_20 (d + 7) ⟨fun _ => ⟨fun c => ?_, fun c => ?_⟩, fun c3 => ?_⟩
      · rw [if_neg c, if_pos (by omega)] at h0; exact h0
      · rw [if_pos c] at h0; exact h0
      · rw [z_ff hN 13 49 rfl] at c3; exact absurd c3 (by omega)
  · have h0 := h M hS (z_ag_rf M)
    rw [if_neg (by omega), if_neg (by omega)] at h0; exact h0
/-- the suns of a report of the shadow -/
def z_sns (S : z_M) (i : Int) : Int := zv_b (z_hld S i 0 0 0) + 2 * zv_b (z_hld S i 0 0 1)
theorem kc_sunsFor (d : Nat) {i : Int} (hS : z_sit S M) (hI : z_IS S) (hR : z_IRep S) (i0 : 0 ≤ i) (i1 : i < S 13 49) (hk : S 401095 i = 102) (h : ∀ M' : z_M, z_sit S M' → z_ag M M' → Q (z_I (z_sns S i)) M') : z_Cl 0 (d + 5) 109 [z_R 7, z_I i] M Q := by
  have hr := hR.2.2.2 i i0 i1
  have i40 : i < 40 := by have := hR.2.2.1; omega
  have ho : S 401096 i = -1 := by
    obtain ⟨_, _, _, _, _, _, _, _, _, kinds⟩ := id hr
    rcases kinds with ⟨hk, _⟩ | ⟨hk, _⟩ | ⟨_, q, _⟩ | ⟨_, q, _⟩
    · omega
    · omega
    · exact q
    · exact q
  have ask : ∀ u : Int, 0 ≤ u → u < 2 → z_askable S i 0 0 u := fun u a b => ⟨⟨by decide, by decide⟩, ⟨by decide, by decide⟩, ⟨a, b⟩, fun q => absurd hk q, fun q => absurd ho q⟩
  obtain ⟨o1, o2, o3, o4⟩ := z_or12
  unfold z_sns at h
  refine re_109 (d + 4) (kc_isSo d hS hI hr i0 i40 (ask 0 (by decide) (by decide)) (fun M1 e f => ?_))
  rw [o1, o2, o3, o4]
  cases hb : z_hld S i 0 0 0 with
  | true =>
    rw [hb] at h
    refine z_y1 (kc_isSo d e hI hr i0 i40 (ask 1 (by decide) (by decide)) (fun M' e2 f2 => ?_))
    have h0 := h M' e2 (z_ag_tr f f2)
    cases hc : z_hld S i 0 0 1 with
    | true => rw [hc] at h0; exact z_y1 h0
    | false => rw [hc] at h0; exact z_n1 h0
  | false =>
    rw [hb] at h
    refine z_n1 (kc_isSo d e hI hr i0 i40 (ask 1 (by decide) (by decide)) (fun M' e2 f2 => ?_))
    have h0 := h M' e2 (z_ag_tr f f2)
    cases hc : z_hld S i 0 0 1 with
    | true => rw [hc] at h0; exact z_y1 h0
    | false => rw [hc] at h0; exact z_n1 h0
theorem km_sunsOf (d : Nat) {i : Int} (hS : z_sit S M) (hI : z_IS S) (hR : z_IRep S) (i0 : 0 ≤ i) (i1 : i < S 13 49) (hk : S 401095 i = 102) (h : ∀ M' : z_M, z_sit S M' → z_ag M M' → Q (z_I (z_sns S i)) M') : z_Cl 0 (d + 7) 344 [z_R 13, z_I i] M Q := by
  have hr := hR.2.2.2 i i0 i1
  have i40 : i < 40 := by have := hR.2.2.1; omega
  have ho : S 401096 i = -1 := by
    obtain ⟨_, _, _, _, _, _, _, _, _, kinds⟩ := id hr
    rcases kinds with ⟨hk, _⟩ | ⟨hk, _⟩ | ⟨_, q, _⟩ | ⟨_, q, _⟩
    · omega
    · omega
    · exact q
    · exact q
  have any : ∀ (pl op pl' op' u : Int), z_hld S i pl op u = z_hld S i pl' op' u := by
    intro pl op pl' op' u
    unfold z_hld
    refine z_ex_cg _ _ (fun t _ _ => ?_)
    unfold z_so
    rw [hk]; rfl
  have hold : ∀ (u : Int) (K : z_V → z_M → Prop) (N : z_M), z_sit S N → (∀ M' : z_M, z_sit S M' → z_ag N M' → K (z_I (zv_b (z_hld S i 0 0 u))) M') → z_Cl 0 (d + 6) 307 [z_R 13, z_I i, z_I 0, z_I 0, z_I u] N K := by
    intro u K N hN hK
    refine km_canHold d hN hI hr i0 i40 rfl rfl (by decide) (by decide) (by decide) (by decide) (fun q => absurd hk q) (fun q => absurd ho q) (fun M' e f => ?_)
    rw [any _ _ 0 0 u]
    exact hK M' e f
  unfold z_sns at h
  refine re_344 (d + 6) (hold 0 _ M hS (fun M1 e f => ?_))
  have w0 : z_w (0 + 0) = 0 := by decide
  have w2 : z_w (0 + 2) = 2 := by decide
  have w1 : z_w (1 + 0) = 1 := by decide
  have w3 : z_w (1 + 2) = 3 := by decide
  rw [w0, w1, w2, w3]
  cases hb : z_hld S i 0 0 0 with
  | true =>
    rw [hb] at h
    refine z_y1 (hold 1 _ M1 e (fun M' e2 f2 => ?_))
    have h0 := h M' e2 (z_ag_tr f f2)
    cases hc : z_hld S i 0 0 1 with
    | true => rw [hc] at h0; exact z_y1 h0
    | false => rw [hc] at h0; exact z_n1 h0
  | false =>
    rw [hb] at h
    refine z_n1 (hold 1 _ M1 e (fun M' e2 f2 => ?_))
    have h0 := h M' e2 (z_ag_tr f f2)
    cases hc : z_hld S i 0 0 1 with
    | true => rw [hc] at h0; exact z_y1 h0
    | false => rw [hc] at h0; exact z_n1 h0
theorem kc_isOfShadow (d : Nat) {i : Int} (hS : z_sit S M) (hR : z_IRep S) (h1 : 0 ≤ i → i < S 13 49 → S 401095 i = 102 → Q (z_I 1) M) (h0 : ¬ (0 ≤ i ∧ i < S 13 49 ∧ S 401095 i = 102) → Q (z_I 0) M) : z_Cl 0 (d + 1) 94 [z_R 7, z_I i] M Q := by
  refine re_94 d (kc_has_r d hS hR (fun a b => z_y1 (kc_part d hS a (by have := hR.2.2.1; omega) (by decide) (by decide) (z_viI ?_))) (fun c => z_n1 (h0 (by omega))))
  obtain ⟨_, _, _, _, _, _, r3, _⟩ := hR.2.2.2 i a b
  rw [r3]
  exact ⟨fun c => h0 (fun z => c z.2.2), fun c => h1 a b c⟩
def z_o25 (S : z_M) (i : Int) : Int := if 0 ≤ i ∧ i < S 13 49 ∧ S 401095 i = 102 then z_sns S i else -1
theorem kc_liar (d : Nat) {i : Int} (hS : z_sit S M) (hI : z_IS S) (hR : z_IRep S) (h : ∀ M' : z_M, z_sit S M' → z_ag M M' → Q (z_I (z_o25 S i)) M') : z_Cl 0 (d + 6) 192 [z_R 1, z_I i] M Q := by
  unfold z_o25 at h
  refine re_192 (d + 5) (kc_isOfShadow (d + 4) hS hR (fun a b c => z_y1 (kc_sunsFor d hS hI hR a b c (fun M' e f => z_viI ?_))) (fun c => z_n1 ?_))
  · have h0 := h M' e f
    rw [if_pos ⟨a, b, c⟩] at h0; exact h0
  · have h0 := h M hS (z_ag_rf M)
    rw [if_neg c] at h0; exact h0
theorem km_liar (d : Nat) {i : Int} (hS : z_sit S M) (hI : z_IS S) (hR : z_IRep S) (h : ∀ M' : z_M, z_sit S M' → z_ag M M' → Q (z_I (z_o25 S i)) M') : z_Cl 0 (d + 8) 345 [z_R 13, z_I i] M Q := by
  unfold z_o25 at h
  have no : ¬ (0 ≤ i ∧ i < S 13 49 ∧ S 401095 i = 102) → Q (z_I (-1)) M := fun c => by
    have h0 := h M hS (z_ag_rf M)
    rw [if_neg c] at h0; exact h0
  refine re_345 (d + 7) (km_isReport (d + 6) hS hR (fun a b => z_y1 ⟨a, by have := hR.2.2.1; omega, ?_⟩) (fun c => z_n1 (no (by omega))))
  rw [z_fn hS 401095 rfl]
  refine ⟨fun c => no (fun z => c z.2.2), fun c => km_sunsOf d hS hI hR a b c (fun M' e f => z_viI ?_)⟩
  have h0 := h M' e f
  rw [if_pos ⟨a, b, c⟩] at h0; exact h0
def z_agb (S : z_M) (u : Int) (n : Nat) : Bool := decide (S 401095 (n : Int) = 102) && (if u = 0 then z_hld S (n : Int) 0 0 0 else z_hld S (n : Int) 0 0 1)
def z_o27 (S : z_M) (u : Int) : Int := if 0 ≤ u ∧ u < 2 then z_cnt (z_agb S u) (S 13 49).toNat else -1
theorem z_sns_bit (S : z_M) (i u : Int) (u0 : 0 ≤ u) (u1 : u < 2) : z_and (z_shr (z_sns S i) u) 1 = zv_b (if u = 0 then z_hld S i 0 0 0 else z_hld S i 0 0 1) := by
  unfold z_sns
  have : u = 0 ∨ u = 1 := by omega
  rcases this with rfl | rfl <;> cases z_hld S i 0 0 0 <;> cases z_hld S i 0 0 1 <;> decide
theorem kc_argued (d : Nat) {u : Int} (hS : z_sit S M) (hI : z_IS S) (hR : z_IRep S) (h : ∀ M' : z_M, z_sit S M' → z_ag M M' → Q (z_I (z_o27 S u)) M') : z_Cl 0 (d + 7) 194 [z_R 1, z_I u] M Q := by
  have r0 := hR.2.1
  have r1 := hR.2.2.1
  have en : (((S 13 49).toNat : Nat) : Int) = S 13 49 := by omega
  unfold z_o27 at h
  refine re_194 (d + 6) (kc_isSun (d + 6) (fun a b => z_y1 (re_110 (d + 5) ?_)) (fun c => z_n1 ?_))
  · rw [if_pos ⟨a, b⟩] at h
    refine z_lp (S := S) (M := M) (n := (S 13 49).toNat) (fun q => z_cnt (z_agb S u) q) (fun N b q => z_G 0 (d + 6) z_m110 4 [z_R 7, z_I u, z_I b, z_I q] [] N (fun v1 M1 => z_vi v1 fun x1 => Q (z_I x1) M1)) M hS (z_ag_rf M) (fun q N hq hN gN nx => ?_) (fun N hN gN => ?_)
    · have bb := z_cnt_b (z_agb S u) q
      have e2 : z_cnt (z_agb S u) (q + 1) = z_cnt (z_agb S u) q + zv_b (z_agb S u q) := rfl
      rw [e2] at nx
      refine rg_110_4 (d + 5) ⟨fun c3 => ?_, fun _ => kc_isOfShadow (d + 4) hN hR (fun a1 b1 c1 => z_y1 (kc_sunsFor d hN hI hR a1 b1 c1 (fun N' hN' gN' => z_viI ?_))) (fun c1 => z_n1 ?_)⟩
      · rw [z_ff hN 7 5 rfl, hR.1] at c3; exact absurd c3 (by omega)
      · rw [z_sns_bit S _ u a b]
        have e3 : z_agb S u q = if u = 0 then z_hld S (q : Int) 0 0 0 else z_hld S (q : Int) 0 0 1 := by unfold z_agb; rw [decide_eq_true c1, Bool.true_and]
        have nx' := nx N' hN' (z_ag_tr gN gN')
        rw [e3] at nx'
        have b01 : ∀ B : Bool, 0 ≤ zv_b B ∧ zv_b B ≤ 1 := fun B => by cases B <;> decide
        have := b01 (if u = 0 then z_hld S (q : Int) 0 0 0 else z_hld S (q : Int) 0 0 1)
        rw [z_wq (by omega), z_w_id (by omega) (by omega)]
        exact nx'
      · have e3 : z_agb S u q = false := by unfold z_agb; rw [decide_eq_false (fun z => c1 ⟨by omega, by omega, z⟩), Bool.false_and]
        have nx' := nx N hN gN
        rw [e3] at nx'
        rw [z_wq (by omega), z_w_id (by omega) (by omega)]
        exact nx'
    · refine rg_110_4 (d + 5) ⟨fun _ => z_viI (h N hN gN), fun c3 => ?_⟩
      rw [z_ff hN 7 5 rfl, hR.1] at c3; exact absurd c3 (by omega)
  · have h0 := h M hS (z_ag_rf M)
    rw [if_neg (by omega)] at h0; exact h0
theorem km_argued (d : Nat) {u : Int} (hS : z_sit S M) (hI : z_IS S) (hR : z_IRep S) (h : ∀ M' : z_M, z_sit S M' → z_ag M M' → Q (z_I (z_o27 S u)) M') : z_Cl 0 (d + 8) 347 [z_R 13, z_I u] M Q := by
  have r0 := hR.2.1
  have r1 := hR.2.2.1
  have en : (((S 13 49).toNat : Nat) : Int) = S 13 49 := by omega
  unfold z_o27 at h
  refine re_347 (d + 7) (km_lies (d + 7) (fun a b => z_y2 ?_) (fun c => z_n2 ?_))
  · rw [if_pos ⟨a, by omega⟩] at h
    refine z_lp (S := S) (M := M) (n := (S 13 49).toNat) (fun q => z_cnt (z_agb S u) q) (fun N b q => z_G 0 (d + 8) z_m347 16 [z_R 13, z_I u, z_I b, z_I q] [] N Q) M hS (z_ag_rf M) (fun q N hq hN gN nx => ?_) (fun N hN gN => ?_)
    · have bb := z_cnt_b (z_agb S u) q
      have e2 : z_cnt (z_agb S u) (q + 1) = z_cnt (z_agb S u) q + zv_b (z_agb S u q) := rfl
      rw [e2] at nx
      refine rg_347_16 (d + 7) ⟨fun c3 => ?_, fun _ => ⟨by omega, by omega, ?_⟩⟩
      · rw [z_ff hN 13 49 rfl] at c3; exact absurd c3 (by omega)
      · rw [z_fn hN 401095 rfl]
        refine ⟨fun c => ?_, fun c => km_sunsOf d hN hI hR (by omega) (by omega) c (fun N' hN' gN' => z_viI (re_223 (d + 7) ?_))⟩
        · have e3 : z_agb S u q = false := by unfold z_agb; rw [decide_eq_false c, Bool.false_and]
          have nx' := nx N hN gN
          rw [e3] at nx'
          rw [z_wq (by omega)]
          have e0 : z_cnt (z_agb S u) q + zv_b false = z_cnt (z_agb S u) q := by show _ + (0 : Int) = _; omega
          rw [e0] at nx'
          exact nx'
        · rw [z_sns_bit S _ u a (by omega)]
          have e3 : z_agb S u q = if u = 0 then z_hld S (q : Int) 0 0 0 else z_hld S (q : Int) 0 0 1 := by unfold z_agb; rw [decide_eq_true c, Bool.true_and]
          have nx' := nx N' hN' (z_ag_tr gN gN')
          rw [e3] at nx'
          cases hb : (if u = 0 then z_hld S (q : Int) 0 0 0 else z_hld S (q : Int) 0 0 1) with
          | true =>
            rw [hb] at nx'
            refine ⟨fun c2 => absurd rfl c2, fun _ => z_y1 ?_⟩
            rw [z_wq (by omega), z_w_id (by omega) (by omega)]
            exact nx'
          | false =>
            rw [hb] at nx'
            refine ⟨fun _ => z_n1 ?_, fun c2 => absurd c2 (by decide)⟩
            rw [z_wq (by omega)]
            have e0 : z_cnt (z_agb S u) q + zv_b false = z_cnt (z_agb S u) q := by show _ + (0 : Int) = _; omega
            rw [e0] at nx'
            exact nx'
    · refine rg_347_16 (d + 7) ⟨fun _ => h N hN gN, fun c3 => ?_⟩
      rw [z_ff hN 13 49 rfl] at c3; exact absurd c3 (by omega)
  · have h0 := h M hS (z_ag_rf M)
    rw [if_neg (by omega)] at h0; exact h0
def z_o9 (S : z_M) (i k : Int) : Int := if 0 ≤ i ∧ i < S 13 49 ∧ 0 ≤ k ∧ k < 6 then S 2401035 (6 * i + k) else -1
theorem kc_report (d : Nat) {i k : Int} (hS : z_sit S M) (hR : z_IRep S) (h : Q (z_I (z_o9 S i k)) M) : z_Cl 0 (d + 1) 176 [z_R 1, z_I i, z_I k] M Q := by
  unfold z_o9 at h
  have no : ¬ (0 ≤ i ∧ i < S 13 49 ∧ 0 ≤ k ∧ k < 6) → Q (z_I (-1)) M := fun c => by rw [if_neg c] at h; exact h
  have r1 := hR.2.2.1
  refine re_176 d (kc_has_r d hS hR (fun a b => z_y1 ⟨fun c => no (by omega), fun c => ⟨fun c2 => no (by omega), fun c2 => ?_⟩⟩) (fun c => z_n1 (no (by omega))))
  rw [if_pos (by omega)] at h
  exact kc_part d hS a (by omega) (by omega) (by omega) (z_viI h)
theorem km_report (d : Nat) {i k : Int} (hS : z_sit S M) (hR : z_IRep S) (h : Q (z_I (z_o9 S i k)) M) : z_Cl 0 (d + 2) 303 [z_R 13, z_I i, z_I k] M Q := by
  unfold z_o9 at h
  have no : ¬ (0 ≤ i ∧ i < S 13 49 ∧ 0 ≤ k ∧ k < 6) → Q (z_I (-1)) M := fun c => by rw [if_neg c] at h; exact h
  have r1 := hR.2.2.1
  refine re_303 (d + 1) (km_isReport d hS hR (fun a b => z_y2 ?_) (fun c => z_n2 (no (by omega))))
  obtain ⟨q0, _, q1, _, q2, _, q3, q4, q5, _⟩ := hR.2.2.2 i a b
  rw [z_fn hS 401092 rfl, z_fn hS 401093 rfl, z_fn hS 401094 rfl, z_fn hS 401095 rfl, z_fn hS 401096 rfl, z_fn hS 401097 rfl]
  by_cases hk : 0 ≤ k ∧ k < 6
  · rw [if_pos ⟨a, b, hk⟩] at h
    have : k = 0 ∨ k = 1 ∨ k = 2 ∨ k = 3 ∨ k = 4 ∨ k = 5 := by omega
    rcases this with rfl | rfl | rfl | rfl | rfl | rfl
    · rw [q0] at h; (repeat' (first | with_reducible apply And.intro | with_reducible intro _)) <;> (try first | exact True.intro | omega); all_goals exact h
    · rw [q1] at h; (repeat' (first | with_reducible apply And.intro | with_reducible intro _)) <;> (try first | exact True.intro | omega); all_goals exact h
    · rw [q2] at h; (repeat' (first | with_reducible apply And.intro | with_reducible intro _)) <;> (try first | exact True.intro | omega); all_goals exact h
    · rw [q3] at h; (repeat' (first | with_reducible apply And.intro | with_reducible intro _)) <;> (try first | exact True.intro | omega); all_goals exact h
    · rw [q4] at h
      (repeat' (first | with_reducible apply And.intro | with_reducible intro _)) <;> (try first | exact True.intro | omega)
      · rename_i c; rw [if_neg c] at h; exact h
      · rename_i c; rw [if_pos c] at h; exact h
    · rw [q5] at h
      (repeat' (first | with_reducible apply And.intro | with_reducible intro _)) <;> (try first | exact True.intro | omega)
      · rename_i c; rw [if_neg c] at h; exact h
      · rename_i c; rw [if_pos c] at h; exact h
  · have h1 := no (fun z => hk z.2.2)
    (repeat' (first | with_reducible apply And.intro | with_reducible intro _)) <;> (try first | exact True.intro | omega)
    all_goals exact h1
end ZOPB
