/-! DAYS: the class's judge -/
section ZDA3
variable {S M : z_M} {Q : z_V → z_M → Prop}
def zx_n (S : z_M) : Nat := (S 13 49).toNat
def zx_cd (S : z_M) (D : Nat) : Int := z_cnt (fun i => zx_H S i D) (zx_n S)
def zx_bm (S : z_M) : Nat → Int × Int × Int
  | 0 => (-1, 0, 0)
  | q + 1 => if (zx_bm S q).1 < zx_cd S q then (zx_cd S q, (q : Int), 1) else if zx_cd S q = (zx_bm S q).1 then ((zx_bm S q).1, (zx_bm S q).2.1, (zx_bm S q).2.2 + 1) else zx_bm S q
theorem zx_bm_b (S : z_M) : ∀ q, (-1 ≤ (zx_bm S q).1 ∧ (zx_bm S q).1 ≤ (zx_n S : Int)) ∧ (0 ≤ (zx_bm S q).2.1 ∧ (zx_bm S q).2.1 ≤ (q : Int)) ∧ (0 ≤ (zx_bm S q).2.2 ∧ (zx_bm S q).2.2 ≤ (q : Int)) ∧ (q ≠ 0 → (zx_bm S q).2.1 < (q : Int) ∧ 0 ≤ (zx_bm S q).1) := by
  intro q
  induction q with
  | zero => exact ⟨⟨by show (-1 : Int) ≤ -1; omega, by show (-1 : Int) ≤ _; omega⟩, ⟨by show (0 : Int) ≤ 0; omega, by show (0 : Int) ≤ 0; omega⟩, ⟨by show (0 : Int) ≤ 0; omega, by show (0 : Int) ≤ 0; omega⟩, fun c => absurd rfl c⟩
  | succ q ih =>
    have cb := z_cnt_b (fun i => zx_H S i q) (zx_n S)
    have e : zx_cd S q = z_cnt (fun i => zx_H S i q) (zx_n S) := rfl
    rw [← e] at cb
    unfold zx_bm
    split
    · exact ⟨⟨by dsimp only; omega, by dsimp only; omega⟩, ⟨by dsimp only; omega, by dsimp only; omega⟩, ⟨by dsimp only; omega, by dsimp only; omega⟩, fun _ => ⟨by dsimp only; omega, by dsimp only; omega⟩⟩
    · split
      · exact ⟨⟨by dsimp only; omega, by dsimp only; omega⟩, ⟨by dsimp only; omega, by dsimp only; omega⟩, ⟨by dsimp only; omega, by dsimp only; omega⟩, fun _ => ⟨by dsimp only; omega, by dsimp only; omega⟩⟩
      · exact ⟨⟨by omega, by omega⟩, ⟨by omega, by omega⟩, ⟨by omega, by omega⟩, fun _ => ⟨by omega, by omega⟩⟩
theorem zx_cnt_bs {n : Nat} (hn : n ≤ 40) (P : Nat → Bool) : z_cnt (fun i => (z_bs n P).testBit i) 40 = z_cnt P n := by
  have e : (40 : Nat) = n + (40 - n) := by omega
  rw [e, zx_cnt_sh]
  have e1 : z_cnt (fun i => (z_bs n P).testBit i) n = z_cnt P n := z_cnt_cg n (fun j hj => by
    rw [z_bs_bit, decide_eq_true hj, Bool.true_and])
  have e2 : ∀ m, z_cnt (fun i => (z_bs n P).testBit (n + i)) m = 0 := by
    intro m
    induction m with
    | zero => rfl
    | succ m ih =>
      show z_cnt (fun i => (z_bs n P).testBit (n + i)) m + zv_b ((z_bs n P).testBit (n + m)) = 0
      rw [ih, z_bs_bit, decide_eq_false (by omega), Bool.false_and]; rfl
  rw [e1, e2]; omega
theorem kc_versionIn (d : Nat) {p k : Nat} (ht : z_tl S (p : Int)) (h : Q (z_I (zx_ver S p k : Int)) M) : z_Cl 0 d 8 [z_I (z_bs 30 (zx_rb S k 10) : Int), z_I (p : Int)] M Q := by
  have hp : p < 10 := by have := ht.2.1; omega
  have hv := zx_ver_b (S := S) p k
  have b1 : ∀ v : Nat, v < 2 → (zx_rb S k 10 (10 * v + p) = true ↔ zx_ver S p k = v) := by
    intro v hv
    unfold zx_rb
    rw [show (10 * v + p) % 10 = p from by omega, show (10 * v + p) / 10 = v from by omega, decide_eq_true hp, decide_eq_true ht, Bool.true_and, Bool.true_and]
    exact ⟨fun h => of_decide_eq_true h, fun h => decide_eq_true h⟩
  have e0 := b1 0 (by decide)
  have e1 := b1 1 (by decide)
  rw [show 10 * 0 + p = p from by omega] at e0
  rw [show 10 * 1 + p = 10 + p from by omega] at e1
  refine re_8 d ?_
  have ew : z_w (10 + (p : Int)) = ((10 + p : Nat) : Int) := by rw [z_w_id (by omega) (by omega)]; omega
  rw [ew, z_bit_bs (by decide) (by omega), z_bit_bs (by decide) (by omega)]
  by_cases c0 : zx_ver S p k = 0
  · rw [if_pos (show p < 30 ∧ zx_rb S k 10 p = true from ⟨by omega, e0.mpr c0⟩)]
    rw [c0] at h
    exact ⟨fun c => absurd rfl c, fun _ => h⟩
  · rw [if_neg (show ¬ (p < 30 ∧ zx_rb S k 10 p = true) from fun z => c0 (e0.mp z.2))]
    refine ⟨fun _ => ?_, fun c => absurd c (by decide)⟩
    by_cases c1 : zx_ver S p k = 1
    · rw [if_pos (show 10 + p < 30 ∧ zx_rb S k 10 (10 + p) = true from ⟨by omega, e1.mpr c1⟩)]
      rw [c1] at h
      exact ⟨fun c => absurd rfl c, fun _ => h⟩
    · rw [if_neg (show ¬ (10 + p < 30 ∧ zx_rb S k 10 (10 + p) = true) from fun z => c1 (e1.mp z.2))]
      rw [show zx_ver S p k = 2 from by omega] at h
      exact ⟨fun _ => h, fun c => absurd c (by decide)⟩
def zx_dq (S N : z_M) (D i : Nat) : Prop := ∀ i' w j : Nat, i' < zx_n S → w < 23 → j < 64 → zx_lb (N 9202041 (23 * (i' : Int) + (w : Int))) j = (decide (64 * w + j < D ∨ (64 * w + j = D ∧ i' < i)) && zx_H S i' (64 * w + j))
theorem zx_dq_no {N : z_M} {D i : Nat} (h : zx_dq S N D i) (hh : zx_H S i D = false) : zx_dq S N D (i + 1) := by
  intro i' w j h1 h2 h3
  rw [h i' w j h1 h2 h3]
  by_cases c : 64 * w + j = D ∧ i' = i
  · rw [c.1, c.2, hh, Bool.and_false, Bool.and_false]
  · congr 1
    exact decide_eq_decide.mpr (by omega)
theorem zx_dq_ye {N : z_M} {D i : Nat} (hi : i < zx_n S) (hD : D < 1458) (h : zx_dq S N D i) (hh : zx_H S i D = true) : zx_dq S (z_up N 9202041 (23 * (i : Int) + ((D / 64 : Nat) : Int)) (z_orl (N 9202041 (23 * (i : Int) + ((D / 64 : Nat) : Int))) (z_shll 1 ((D % 64 : Nat) : Int)))) D (i + 1) := by
  intro i' w j h1 h2 h3
  by_cases c : i' = i ∧ w = D / 64
  · rw [c.1, c.2, z_up_eq, zx_lb_or, zx_lb_sh (by omega) h3, h i (D / 64) j hi (by omega) h3]
    by_cases cj : j = D % 64
    · have e : 64 * (D / 64) + j = D := by omega
      rw [e, decide_eq_true cj, Bool.or_true, hh, decide_eq_true (show D < D ∨ D = D ∧ i < i + 1 from Or.inr ⟨rfl, by omega⟩)]; rfl
    · rw [decide_eq_false cj, Bool.or_false]
      congr 1
      exact decide_eq_decide.mpr (by omega)
  · rw [z_up_nj (by omega), h i' w j h1 h2 h3]
    congr 1
    exact decide_eq_decide.mpr (by omega)
theorem zx_dq_nx {N : z_M} {D : Nat} (h : zx_dq S N D (zx_n S)) : zx_dq S N (D + 1) 0 := by
  intro i' w j h1 h2 h3
  rw [h i' w j h1 h2 h3]
  congr 1
  exact decide_eq_decide.mpr (by omega)
def zx_rwo (S N : z_M) : Prop := ∀ k : Nat, k < zx_R S → N 7291038 (k : Int) = (z_bs 30 (zx_rb S k 10) : Int)
theorem zx_nI (hR : z_IRep S) : (zx_n S : Int) = S 13 49 ∧ zx_n S ≤ 40 := by
  have e : (zx_n S : Int) = S 13 49 := Int.toNat_of_nonneg hR.2.1
  exact ⟨e, by have := hR.2.2.1; omega⟩
theorem kc_heldIn (d : Nat) {D : Nat} (hS : z_sit S M) (hR : z_IRep S) (hr : zx_rwo S M) (h7 : zx_R S ≤ 729) (hD : D < 2 * zx_R S) (hso : zx_sok S M (zx_n S) 0) (hq : zx_dq S M D 0) (h : ∀ N : z_M, z_sit S N → (∀ k, k ≠ 9202041 → N k = M k) → zx_dq S N (D + 1) 0 → Q (z_J (z_bs (zx_n S) (fun i => zx_H S i D) : Int)) N) : z_Cl 0 (d + 3) 14 [z_R 8, z_I (D : Int)] M Q := by
  obtain ⟨en, n40⟩ := zx_nI hR
  refine re_14 (d + 2) ?_
  rw [zx_d2 (by omega), hr (D / 2) (by omega)]
  refine ⟨by omega, by omega, ?_⟩
  refine z_lpi (n := zx_n S) (fun q => (z_bs q (fun i => zx_H S i D) : Int)) (fun q N => z_sit S N ∧ (∀ k, k ≠ 9202041 → N k = M k) ∧ zx_dq S N D q) (fun N v q => z_G 0 (d + 3) z_m14 14 [z_R 8, z_I (D : Int), z_I (z_bs 30 (zx_rb S (D / 2) 10) : Int), z_J v, z_U, z_I q, z_U] [] N Q) M ⟨hS, fun _ _ => rfl, hq⟩ (fun i N hi hI' nx => ?_) (fun N hI' => ?_)
  · obtain ⟨hN, hk, hdq⟩ := hI'
    have hi40 : i < 40 := by omega
    have hrow := hR.2.2.2 (i : Int) (by omega) (by omega)
    obtain ⟨we, w1, wt⟩ := zx_wtI hrow
    have pqb := zx_pq_b (S := S) (i := i) (D := D)
    have rest : z_G 0 (d + 3) z_m14 68 [z_R 8, z_I (D : Int), z_I (z_bs 30 (zx_rb S (D / 2) 10) : Int), z_J (z_bs i (fun i => zx_H S i D) : Int), z_U, z_I (i : Int), z_I (zx_pq S i D : Int)] [] N Q := by
      refine rg_14_68 (d + 2) ?_
      have es : N 3604039 (9 * (i : Int) + (zx_pq S i D : Int)) = zv_b (zx_H S i D) := by
        rw [hk _ (by decide), hso i (zx_pq S i D) pqb (Or.inl hi), zx_s1_H hrow]
      rw [zx_ix9 hi40 pqb, es, zx_d64 (by omega), zx_m64, z_w_id (x := 23 * (i : Int)) (by omega) (by omega), z_w_id (x := 23 * (i : Int) + ((D / 64 : Nat) : Int)) (by omega) (by omega), z_wq (by omega)]
      refine ⟨by omega, by omega, fun c => ?_, fun c => ⟨by omega, by omega, by omega, by omega, ?_⟩⟩
      · have hh := zx_0ne c
        have nx' := nx N ⟨hN, hk, zx_dq_no hdq hh⟩
        have e := z_bs_no (n := i) (P := fun i => zx_H S i D) hh
        rw [← e] at nx'; exact nx'
      · have hh := zx_0eq c
        have nx' := nx _ ⟨z_at_up hN _ _ _ rfl rfl, fun k hk2 => by rw [z_up_ne hk2]; exact hk k hk2, zx_dq_ye hi (by omega) hdq hh⟩
        rw [zx_bsl_or (P := fun i => zx_H S i D) hi40 hh]
        exact nx'
    refine rg_14_14 (d + 2) (re_89 (d + 2) ?_)
    rw [z_ff hN 7 5 rfl, hR.1, ← en]
    refine z_viI ⟨fun c => absurd c (by omega), fun _ => kc_isOfShadow (d + 1) hN hR (fun _ _ k => z_y2 ?_) (fun c => z_n2 ?_)⟩
    · have : Int.tmod (D : Int) 2 = (zx_pq S i D : Int) := by unfold zx_pq; rw [if_pos k]; rfl
      rw [this]; exact rest
    · have kn : S 401095 (i : Int) ≠ 102 := fun k => c ⟨by omega, by omega, k⟩
      have v1 := zx_ver_b (S := S) (zx_wt S i) (D / 2)
      refine kc_wt (d + 1) hN hrow hi40 (z_viI (kc_versionIn (d + 2) wt (z_viI (re_15 (d + 1) (kc_ot d hN hrow hi40 (z_viI ?_))))))
      by_cases o : S 401096 (i : Int) = -1
      · have e : z_w (z_w (3 * (zx_ver S (zx_wt S i) (D / 2) : Int)) + 0) = (zx_pq S i D : Int) := by
          rw [z_w_id (x := 3 * (zx_ver S (zx_wt S i) (D / 2) : Int)) (by omega) (by omega), z_w_id (by omega) (by omega)]
          unfold zx_pq; rw [if_neg kn, if_pos o]; omega
        rw [if_pos o]
        refine ⟨fun c => absurd c (by decide), fun _ => z_viI ?_⟩
        rw [e]; exact rest
      · have ho : z_oth S (i : Int) := by
          rcases zx_srt hrow with ⟨_, o2⟩ | ⟨_, o2⟩ | ⟨_, o2⟩
          · exact o2
          · exact absurd o2 o
          · exact absurd o2 o
        obtain ⟨oe, o1, ot⟩ := zx_otI ho
        have v2 := zx_ver_b (S := S) (zx_ot S i) (D / 2)
        have e : z_w (z_w (3 * (zx_ver S (zx_wt S i) (D / 2) : Int)) + (zx_ver S (zx_ot S i) (D / 2) : Int)) = (zx_pq S i D : Int) := by
          rw [z_w_id (x := 3 * (zx_ver S (zx_wt S i) (D / 2) : Int)) (by omega) (by omega), z_w_id (by omega) (by omega)]
          unfold zx_pq; rw [if_neg kn, if_neg o]; omega
        rw [if_neg o]
        refine ⟨fun _ => kc_ot d hN hrow hi40 (z_viI ?_), fun c => absurd c (by omega)⟩
        rw [if_neg o]
        refine kc_versionIn (d + 1) ot (z_viI (z_viI ?_))
        rw [e]; exact rest
  · obtain ⟨hN, hk, hdq⟩ := hI'
    refine rg_14_14 (d + 2) (re_89 (d + 2) ?_)
    rw [z_ff hN 7 5 rfl, hR.1, ← en]
    exact z_viI ⟨fun _ => h N hN hk (zx_dq_nx hdq), fun c => absurd c (by omega)⟩
/-- all that the class's judge lays -/
def zx_DC (S N : z_M) : Prop := N 8 6 = 2 * (zx_R S : Int) ∧ zx_rwo S N ∧ (∀ D : Nat, D < 2 * zx_R S → N 14582040 (D : Int) = (z_bs (zx_n S) (fun i => zx_H S i D) : Int)) ∧ zx_dq S N (2 * zx_R S) 0 ∧ N 8 7 = (zx_bm S (2 * zx_R S)).1 ∧ N 8 8 = (zx_bm S (2 * zx_R S)).2.1 ∧ N 8 9 = (zx_bm S (2 * zx_R S)).2.2
theorem zx_R1 (S : z_M) : 1 ≤ zx_R S := (zx_U_b S 10).1
theorem kc_rate (d : Nat) (hS : z_sit S M) (hR : z_IRep S) (hr : zx_rwo S M) (h7 : zx_R S ≤ 729) (e6 : M 8 6 = 2 * (zx_R S : Int)) (hso : zx_sok S M (zx_n S) 0) (h : ∀ N : z_M, z_sit S N → zx_DC S N → Q z_U N) : z_Cl 0 (d + 4) 13 [z_R 8] M Q := by
  obtain ⟨en, n40⟩ := zx_nI hR
  have R1 := zx_R1 S
  refine re_13 (d + 3) (c_fillL (a := 9202041) (n := 920) rfl rfl (by decide) ?_)
  have hS1 : z_sit S (z_fl M 9202041 0 920 0) := z_at_of hS (fun k j hk => by rw [z_fl_ne (z_ne1 hk (fun j => rfl))]) (fun k hk => z_fl_ne (z_ne0 hk rfl))
  refine z_lpi (n := 2 * zx_R S) (fun _ => ()) (fun D N => z_sit S N ∧ N 8 6 = 2 * (zx_R S : Int) ∧ zx_rwo S N ∧ zx_sok S N (zx_n S) 0 ∧ (∀ D' : Nat, D' < D → N 14582040 (D' : Int) = (z_bs (zx_n S) (fun i => zx_H S i D') : Int)) ∧ zx_dq S N D 0 ∧ N 8 7 = (zx_bm S D).1 ∧ (D ≠ 0 → N 8 8 = (zx_bm S D).2.1 ∧ N 8 9 = (zx_bm S D).2.2)) (fun N _ q => z_G 0 (d + 4) z_m13 15 [z_R 8, z_I q, z_U] [] N Q) _ ⟨z_at_up hS1 _ _ _ rfl rfl, by rw [z_up_nj (by decide), z_fl_ne (by decide)]; exact e6, fun k hk => by rw [z_up_ne (by decide), z_fl_ne (by decide)]; exact hr k hk, fun i pr a b => by rw [z_up_ne (by decide), z_fl_ne (by decide)]; exact hso i pr a b, fun D' hD' => absurd hD' (Nat.not_lt_zero _), fun i w j a b c => ?_, z_up_eq, fun c => absurd rfl c⟩ (fun D N hD hI' nx => ?_) (fun N hI' => ?_)
  · rw [z_up_ne (by decide), z_fl_in (by omega) (by omega), zx_lb_0, decide_eq_false (by omega), Bool.false_and]
  · obtain ⟨hN, i6, ir, iso, ih, iq, im, ifa⟩ := hI'
    refine rg_13_15 (d + 3) ⟨fun c => absurd c (by omega), fun _ => kc_heldIn d hN hR ir h7 hD iso iq (fun N2 hN2 hk hq2 => z_vlJ ⟨by omega, by omega, by omega, by omega, ?_⟩)⟩
    rw [z_up_eq]
    have lt40 := zx_bsl_lt n40 (fun i => zx_H S i D)
    refine kc_bitCountL (d + 3) (by rw [show (256 : Nat) ^ 5 = 1099511627776 from by decide]; exact lt40) ?_
    rw [zx_cnt_bs n40, show z_cnt (fun i => zx_H S i D) (zx_n S) = zx_cd S D from rfl]
    have j8 : (z_up N2 14582040 (D : Int) (z_bs (zx_n S) (fun i => zx_H S i D) : Int)) 8 = N 8 := by rw [z_up_ne (by decide), hk 8 (by decide)]
    have hN3 := z_at_up hN2 14582040 (D : Int) (z_bs (zx_n S) (fun i => zx_H S i D) : Int) rfl rfl
    have jr : zx_rwo S (z_up N2 14582040 (D : Int) (z_bs (zx_n S) (fun i => zx_H S i D) : Int)) := fun k hk2 => by rw [z_up_ne (by decide), hk _ (by decide)]; exact ir k hk2
    have js : zx_sok S (z_up N2 14582040 (D : Int) (z_bs (zx_n S) (fun i => zx_H S i D) : Int)) (zx_n S) 0 := fun i pr a b => by rw [z_up_ne (by decide), hk _ (by decide)]; exact iso i pr a b
    have jq : zx_dq S (z_up N2 14582040 (D : Int) (z_bs (zx_n S) (fun i => zx_H S i D) : Int)) (D + 1) 0 := fun i w j a b c => by rw [z_up_ne (by decide)]; exact hq2 i w j a b c
    have jh : ∀ D' : Nat, D' < D + 1 → (z_up N2 14582040 (D : Int) (z_bs (zx_n S) (fun i => zx_H S i D) : Int)) 14582040 (D' : Int) = (z_bs (zx_n S) (fun i => zx_H S i D') : Int) := by
      intro D' hD'
      by_cases e : D' = D
      · rw [e, z_up_eq]
      · rw [z_up_nj (by omega), hk _ (by decide)]; exact ih D' (by omega)
    generalize z_up N2 14582040 (D : Int) (z_bs (zx_n S) (fun i => zx_H S i D) : Int) = N3 at *
    have cb := z_cnt_b (fun i => zx_H S i D) (zx_n S)
    rw [show z_cnt (fun i => zx_H S i D) (zx_n S) = zx_cd S D from rfl] at cb
    have bb := zx_bm_b S D
    have eb : zx_bm S (D + 1) = if (zx_bm S D).1 < zx_cd S D then (zx_cd S D, (D : Int), 1) else if zx_cd S D = (zx_bm S D).1 then ((zx_bm S D).1, (zx_bm S D).2.1, (zx_bm S D).2.2 + 1) else zx_bm S D := rfl
    rw [j8, im]
    have go : ∀ N4 : z_M, (∀ k, k ≠ 8 → N4 k = N3 k) → z_sit S N4 → N4 8 6 = 2 * (zx_R S : Int) → N4 8 7 = (zx_bm S (D + 1)).1 → N4 8 8 = (zx_bm S (D + 1)).2.1 → N4 8 9 = (zx_bm S (D + 1)).2.2 → z_G 0 (d + 4) z_m13 15 [z_R 8, z_I (z_w ((D : Int) + 1)), z_U] [] N4 Q := by
      intro N4 k4 s4 a b c e
      rw [z_wq (by omega)]
      exact nx N4 ⟨s4, a, fun k hk2 => by rw [k4 _ (by decide)]; exact jr k hk2, fun i pr x y => by rw [k4 _ (by decide)]; exact js i pr x y, fun D' hD' => by rw [k4 _ (by decide)]; exact jh D' hD', fun i w j x y z => by rw [k4 _ (by decide)]; exact jq i w j x y z, b, fun _ => ⟨c, e⟩⟩
    refine z_viI ⟨fun c => ?_, fun c => ?_⟩
    · have hD0 : D ≠ 0 := by
        intro z
        subst z
        have : (zx_bm S 0).1 = -1 := rfl
        omega
      obtain ⟨f8, f9⟩ := ifa hD0
      rw [if_neg (by omega)] at eb
      rw [f9]
      refine ⟨fun c2 => ?_, fun c2 => ?_⟩
      · rw [if_neg c2] at eb
        rw [z_w_id (x := (zx_bm S D).2.2 + 0) (by omega) (by omega)]
        refine go _ (fun k hk2 => z_up_ne hk2) (z_at_up hN3 _ _ _ rfl rfl) ?_ ?_ ?_ ?_
        · rw [z_up_nj (by decide), j8]; exact i6
        · rw [z_up_nj (by decide), j8, eb]; exact im
        · rw [z_up_nj (by decide), j8, eb]; exact f8
        · rw [z_up_eq, eb]; omega
      · rw [if_pos c2] at eb
        rw [z_w_id (x := (zx_bm S D).2.2 + 1) (by omega) (by omega)]
        refine go _ (fun k hk2 => z_up_ne hk2) (z_at_up hN3 _ _ _ rfl rfl) ?_ ?_ ?_ ?_
        · rw [z_up_nj (by decide), j8]; exact i6
        · rw [z_up_nj (by decide), j8, eb]; exact im
        · rw [z_up_nj (by decide), j8, eb]; exact f8
        · rw [z_up_eq, eb]
    · rw [if_pos c] at eb
      refine ⟨fun c2 => absurd (by rw [z_up_nj (by decide), z_up_nj (by decide), z_up_eq]) c2, fun _ => ?_⟩
      rw [z_up_eq (j := 9), show z_w ((0 : Int) + 1) = 1 from by decide]
      refine go _ (fun k hk2 => by rw [z_up_ne hk2, z_up_ne hk2, z_up_ne hk2, z_up_ne hk2]) (z_at_up (z_at_up (z_at_up (z_at_up hN3 _ _ _ rfl rfl) _ _ _ rfl rfl) _ _ _ rfl rfl) _ _ _ rfl rfl) ?_ ?_ ?_ ?_
      · rw [z_up_nj (by decide), z_up_nj (by decide), z_up_nj (by decide), z_up_nj (by decide), j8]; exact i6
      · rw [z_up_nj (by decide), z_up_nj (by decide), z_up_nj (by decide), z_up_eq, eb]
      · rw [z_up_nj (by decide), z_up_nj (by decide), z_up_eq, eb]
      · rw [z_up_eq, eb]
  · obtain ⟨hN, i6, ir, iso, ih, iq, im, ifa⟩ := hI'
    exact rg_13_15 (d + 3) ⟨fun _ => h N hN ⟨i6, ir, ih, iq, im, ifa (by omega)⟩, fun c => absurd c (by omega)⟩
theorem kc_judge (d : Nat) (hS : z_sit S M) (hI : z_IS S) (hR : z_IRep S) (h1 : zx_R S ≤ 729 → ∀ N : z_M, z_sit S N → zx_DC S N → Q (z_I 1) N) (h0 : 729 < zx_R S → Q (z_I 0) M) : z_Cl 0 (d + 6) 9 [z_R 8] M Q := by
  refine re_9 (d + 5) (kc_layRows (d + 2) hS hI.1 (fun h7 N hN e6 hr => z_y2 ?_) (fun h7 => z_n2 (h0 h7)))
  refine kc_judgeSo d hN hI hR (fun N2 hN2 k8 kr hso => kc_rate (d + 1) hN2 hR (fun k hk => by rw [kr]; exact hr k hk) h7 (by rw [k8]; exact e6) hso (fun N3 hN3 hd => h1 h7 N3 hN3 hd))
end ZDA3
