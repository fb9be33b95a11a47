/-! DAYS: the model's judge; best, struck -/
section ZDA5
variable {S M : z_M} {Q : z_V → z_M → Prop}
def zx_m1 (S : z_M) (i k : Nat) : Bool := (zx_pv S (zx_wt S i) (k / 6) && (if S 401096 (i : Int) = -1 then decide (k / 2 % 3 = 0) else zx_pv S (zx_ot S i) (k / 2 % 3))) && z_hld S (i : Int) (3 * (zx_wt S i : Int) + ((k / 6 : Nat) : Int)) (3 * S 401096 (i : Int) + ((k / 2 % 3 : Nat) : Int)) ((k % 2 : Nat) : Int)
def zx_mk (S : z_M) (i D : Nat) : Nat := 6 * zx_ver S (zx_wt S i) (D / 2) + (if S 401096 (i : Int) = -1 then 0 else 2 * zx_ver S (zx_ot S i) (D / 2)) + D % 2
theorem zx_mk_b {i D : Nat} : zx_mk S i D < 18 := by
  have := zx_ver_b (S := S) (zx_wt S i) (D / 2)
  have := zx_ver_b (S := S) (zx_ot S i) (D / 2)
  unfold zx_mk
  split <;> omega
theorem zx_m1_H {i : Nat} (hr : z_rowok S (i : Int)) (D : Nat) : zx_m1 S i (zx_mk S i D) = zx_H S i D := by
  obtain ⟨we, w1, wt⟩ := zx_wtI hr
  have wv := zx_ver_pl (D / 2) wt
  have v1 := wv.1
  by_cases o : S 401096 (i : Int) = -1
  · unfold zx_m1 zx_mk zx_H
    rw [if_pos o, if_pos o, if_pos o]
    rw [show (6 * zx_ver S (zx_wt S i) (D / 2) + 0 + D % 2) / 6 = zx_ver S (zx_wt S i) (D / 2) from by omega, show (6 * zx_ver S (zx_wt S i) (D / 2) + 0 + D % 2) / 2 % 3 = 0 from by omega, show (6 * zx_ver S (zx_wt S i) (D / 2) + 0 + D % 2) % 2 = D % 2 from by omega, wv.2, o]
    rfl
  · have ho : z_oth S (i : Int) := by
      rcases zx_srt hr with ⟨_, o2⟩ | ⟨_, o2⟩ | ⟨_, o2⟩
      · exact o2
      · exact absurd o2 o
      · exact absurd o2 o
    obtain ⟨oe, o1, ot⟩ := zx_otI ho
    have ov := zx_ver_pl (D / 2) ot
    have v2 := ov.1
    unfold zx_m1 zx_mk zx_H
    rw [if_neg o, if_neg o, if_neg o]
    rw [show (6 * zx_ver S (zx_wt S i) (D / 2) + 2 * zx_ver S (zx_ot S i) (D / 2) + D % 2) / 6 = zx_ver S (zx_wt S i) (D / 2) from by omega, show (6 * zx_ver S (zx_wt S i) (D / 2) + 2 * zx_ver S (zx_ot S i) (D / 2) + D % 2) / 2 % 3 = zx_ver S (zx_ot S i) (D / 2) from by omega, show (6 * zx_ver S (zx_wt S i) (D / 2) + 2 * zx_ver S (zx_ot S i) (D / 2) + D % 2) % 2 = D % 2 from by omega, wv.2, ov.2, oe]
    rfl
def zx_hb (S N : z_M) (i k : Nat) : Prop := ∀ i' k' : Nat, k' < 18 → (i' < i ∨ (i' = i ∧ k' < k)) → N 7204099 (18 * (i' : Int) + (k' : Int)) = zv_b (zx_m1 S i' k')
theorem zx_d6 {x : Nat} (h : x < 18) : z_w (Int.tdiv (x : Int) 6) = ((x / 6 : Nat) : Int) := by
  have : Int.tdiv (x : Int) 6 = ((x / 6 : Nat) : Int) := rfl
  rw [this, zx_wN (by omega)]
theorem zx_d23 {x : Nat} (h : x < 18) : Int.tmod (z_w (Int.tdiv (x : Int) 2)) 3 = ((x / 2 % 3 : Nat) : Int) := by
  rw [zx_d2 (by omega)]; rfl
theorem zx_ix18 {i k : Nat} (hi : i < 40) (h : k < 18) : z_w (z_w (18 * (i : Int)) + (k : Int)) = 18 * (i : Int) + (k : Int) := by
  rw [z_w_id (x := 18 * (i : Int)) (by omega) (by omega), z_w_id (by omega) (by omega)]
theorem km_laysHolds (d : Nat) (hS : z_sit S M) (hI : z_IS S) (hR : z_IRep S) (h : ∀ N : z_M, z_sit S N → N 13 57 = M 13 57 → zx_hb S N (zx_n S) 0 → Q z_U N) : z_Cl 0 (d + 7) 314 [z_R 13] M Q := by
  obtain ⟨en, n40⟩ := zx_nI hR
  refine re_314 (d + 6) ?_
  refine z_lpi (n := zx_n S) (fun _ => ()) (fun i N => z_sit S N ∧ N 13 57 = M 13 57 ∧ zx_hb S N i 0) (fun N _ q => z_G 0 (d + 7) z_m314 2 [z_R 13, z_I q, z_U, z_U, z_U, z_U] [] N Q) M ⟨hS, rfl, fun i' k' _ c => by omega⟩ (fun i N hi hI' nx => ?_) (fun N hI' => ?_)
  · obtain ⟨hN, k13, hh⟩ := hI'
    have hi40 : i < 40 := by omega
    have hr := hR.2.2.2 (i : Int) (by omega) (by omega)
    obtain ⟨we, w1, wt⟩ := zx_wtI hr
    refine rg_314_2 (d + 6) ?_
    rw [z_ff hN 13 49 rfl, ← en]
    refine ⟨fun c => absurd c (by omega), fun _ => ?_⟩
    refine z_lpi (n := 18) (fun _ => ()) (fun k N' => z_sit S N' ∧ N' 13 57 = M 13 57 ∧ zx_hb S N' i k) (fun N' _ q => z_G 0 (d + 7) z_m314 12 [z_R 13, z_I (i : Int), z_I q, z_U, z_U, z_U] [] N' Q) N ⟨hN, k13, fun i' k' a b => hh i' k' a b⟩ (fun k N' hk hI2 nx2 => ?_) (fun N' hI2 => ?_)
    · obtain ⟨hN', k13', hh'⟩ := hI2
      have wr : ∀ (N2 : z_M) (b : Bool), z_sit S N2 → N2 13 57 = M 13 57 → zx_hb S N2 i k → zx_m1 S i k = b → z_G 0 (d + 7) z_m314 12 [z_R 13, z_I (i : Int), z_I (z_w ((k : Int) + 1)), z_U, z_U, z_U] [] (z_up N2 7204099 (18 * (i : Int) + (k : Int)) (zv_b b)) Q := by
        intro N2 b a1 a2 a3 eb
        rw [z_wq (by omega)]
        refine nx2 _ ⟨z_at_up a1 _ _ _ rfl rfl, by rw [z_up_ne (by decide)]; exact a2, fun i' k' h1 h2 => ?_⟩
        by_cases e : i' = i ∧ k' = k
        · rw [e.1, e.2, z_up_eq, eb]
        · rw [z_up_nj (by omega)]
          exact a3 i' k' h1 (by omega)
      have no : zx_m1 S i k = false → z_G 0 (d + 7) z_m314 89 [z_R 13, z_I (i : Int), z_I (k : Int), z_I ((k / 6 : Nat) : Int), z_I ((k / 2 % 3 : Nat) : Int), z_U] [] N' Q := by
        intro e
        refine rg_314_89 (d + 6) (rg_314_90 (d + 6) ⟨fun _ => rg_314_125 (d + 6) ?_, fun c => absurd rfl c⟩)
        rw [zx_ix18 hi40 hk]
        exact ⟨by omega, by omega, wr N' false hN' k13' hh' e⟩
      have ys : zx_pv S (zx_wt S i) (k / 6) = true → (if S 401096 (i : Int) = -1 then decide (k / 2 % 3 = 0) else zx_pv S (zx_ot S i) (k / 2 % 3)) = true → z_G 0 (d + 7) z_m314 85 [z_R 13, z_I (i : Int), z_I (k : Int), z_I ((k / 6 : Nat) : Int), z_I ((k / 2 % 3 : Nat) : Int), z_U] [] N' Q := by
        intro q1 q2
        refine rg_314_85 (d + 6) (rg_314_90 (d + 6) ⟨fun c => absurd c (by decide), fun _ => ?_⟩)
        rw [zx_m2, zx_ix18 hi40 hk]
        refine km_canHold d hN' hI hr (by omega) (by omega) we rfl (by omega) (by omega) (by omega) (by omega) (fun _ => zx_pv_t.mp q1) (fun c => ?_) (fun N2 hN2 g2 => z_viI ?_)
        · rw [if_neg c] at q2
          have ho : z_oth S (i : Int) := by
            rcases zx_srt hr with ⟨_, o2⟩ | ⟨_, o2⟩ | ⟨_, o2⟩
            · exact o2
            · exact absurd o2 c
            · exact absurd o2 c
          rw [← (zx_otI ho).1]
          exact zx_pv_t.mp q2
        · have b13 : N2 13 57 = M 13 57 := by rw [g2 13 57 rfl]; exact k13'
          have bs : zx_hb S N2 i k := fun i' k' h1 h2 => by rw [z_ag_k g2 7204099 rfl rfl]; exact hh' i' k' h1 h2
          cases hx : z_hld S (i : Int) (3 * (zx_wt S i : Int) + ((k / 6 : Nat) : Int)) (3 * S 401096 (i : Int) + ((k / 2 % 3 : Nat) : Int)) ((k % 2 : Nat) : Int) with
          | true => exact ⟨fun c => absurd (show zv_b true = 0 from c) (by decide), fun _ => ⟨by omega, by omega, wr N2 true hN2 b13 bs (by unfold zx_m1; rw [q1, q2, hx]; rfl)⟩⟩
          | false => exact ⟨fun _ => rg_314_125 (d + 6) ⟨by omega, by omega, wr N2 false hN2 b13 bs (by unfold zx_m1; rw [hx, Bool.and_false])⟩, fun c => absurd rfl c⟩
      refine rg_314_12 (d + 6) ⟨fun c => absurd c (by omega), fun _ => ⟨by omega, by omega, ?_⟩⟩
      rw [z_fn hN' 401092 rfl, z_fn hN' 401096 rfl, z_fn hN' 304067 rfl, zx_d6 hk, zx_d23 hk, ← we, z_w_id (x := 3 * (zx_wt S i : Int)) (by omega) (by omega), z_w_id (x := 3 * (zx_wt S i : Int) + ((k / 6 : Nat) : Int)) (by omega) (by omega), zx_pv01 hI.1 w1 (by omega)]
      refine ⟨by omega, by omega, fun c => no ?_, fun c => ⟨by omega, by omega, fun on => ?_, fun o => ?_⟩⟩
      · unfold zx_m1; rw [zx_0ne c, Bool.false_and, Bool.false_and]
      · have ho : z_oth S (i : Int) := by
          rcases zx_srt hr with ⟨_, o2⟩ | ⟨_, o2⟩ | ⟨_, o2⟩
          · exact o2
          · exact absurd o2 on
          · exact absurd o2 on
        obtain ⟨oe, o1, ot⟩ := zx_otI ho
        rw [← oe, z_w_id (x := 3 * (zx_ot S i : Int)) (by omega) (by omega), z_w_id (x := 3 * (zx_ot S i : Int) + ((k / 2 % 3 : Nat) : Int)) (by omega) (by omega), zx_pv01 hI.1 o1 (by omega)]
        refine ⟨by omega, by omega, by omega, by omega, fun c2 => no ?_, fun c2 => ys (zx_0eq c) (by rw [if_neg on]; exact zx_0eq c2)⟩
        unfold zx_m1
        rw [if_neg on, zx_0ne c2, Bool.and_false, Bool.false_and]
      · refine ⟨fun c2 => no ?_, fun c2 => ys (zx_0eq c) (by rw [if_pos o]; exact decide_eq_true (by omega))⟩
        unfold zx_m1
        rw [if_pos o, decide_eq_false (by omega), Bool.and_false, Bool.false_and]
    · obtain ⟨hN', k13', hh'⟩ := hI2
      refine rg_314_12 (d + 6) ⟨fun _ => ?_, fun c => absurd c (by decide)⟩
      rw [z_wq (by omega)]
      exact nx N' ⟨hN', k13', fun i' k' h1 h2 => hh' i' k' h1 (by omega)⟩
  · obtain ⟨hN, k13, hh⟩ := hI'
    refine rg_314_2 (d + 6) ?_
    rw [z_ff hN 13 49 rfl, ← en]
    exact ⟨fun _ => h N hN k13 hh, fun c => absurd c (by omega)⟩
theorem km_isHeldIn (d : Nat) {i D : Nat} (hS : z_sit S M) (hR : z_IRep S) (hh : zx_hb S M (zx_n S) 0) (hv : zx_vi S M D) (hi : i < zx_n S) (h : Q (z_I (zv_b (zx_H S i D))) M) : z_Cl 0 d 315 [z_R 13, z_I (i : Int)] M Q := by
  obtain ⟨en, n40⟩ := zx_nI hR
  have hr := hR.2.2.2 (i : Int) (by omega) (by omega)
  obtain ⟨we, w1, wt⟩ := zx_wtI hr
  have v1 := zx_ver_b (S := S) (zx_wt S i) (D / 2)
  have v2 := zx_ver_b (S := S) (zx_ot S i) (D / 2)
  have hv1 := hv.2 (zx_wt S i) w1
  have key : ∀ x : Int, x = 18 * (i : Int) + (zx_mk S i D : Int) → ((0 : Int) ≤ x ∧ x < 720 ∧ z_bl (M 7204099 x) (Q (z_I (M 7204099 x)) M)) := by
    intro x ex
    have mb := zx_mk_b (S := S) (i := i) (D := D)
    have e := hh i (zx_mk S i D) mb (Or.inl hi)
    rw [← ex, zx_m1_H hr] at e
    rw [e]
    exact ⟨by omega, by omega, z_bl_of (by cases zx_H S i D <;> simp [zv_b]) h⟩
  refine re_315 d ?_
  rw [z_fn hS 401092 rfl, z_fn hS 401096 rfl, ← we, hv1, hv.1]
  refine ⟨by omega, by omega, by omega, by omega, by omega, by omega, fun on => ⟨by omega, by omega, ?_⟩, fun o => key _ ?_⟩
  · have ho : z_oth S (i : Int) := by
      rcases zx_srt hr with ⟨_, o2⟩ | ⟨_, o2⟩ | ⟨_, o2⟩
      · exact o2
      · exact absurd o2 on
      · exact absurd o2 on
    obtain ⟨oe, o1, ot⟩ := zx_otI ho
    have hv2 := hv.2 (zx_ot S i) o1
    rw [← oe, hv2]
    refine ⟨by omega, by omega, key _ ?_⟩
    rw [z_w_id (x := 18 * (i : Int)) (by omega) (by omega), z_w_id (x := 6 * (zx_ver S (zx_wt S i) (D / 2) : Int)) (by omega) (by omega), z_w_id (x := 2 * (zx_ver S (zx_ot S i) (D / 2) : Int)) (by omega) (by omega), z_w_id (x := 18 * (i : Int) + 6 * (zx_ver S (zx_wt S i) (D / 2) : Int)) (by omega) (by omega), z_w_id (x := 18 * (i : Int) + 6 * (zx_ver S (zx_wt S i) (D / 2) : Int) + 2 * (zx_ver S (zx_ot S i) (D / 2) : Int)) (by omega) (by omega), z_w_id (by omega) (by omega)]
    unfold zx_mk
    rw [if_neg on]
    omega
  · rw [z_w_id (x := 18 * (i : Int)) (by omega) (by omega), z_w_id (x := 6 * (zx_ver S (zx_wt S i) (D / 2) : Int)) (by omega) (by omega), z_w_id (x := 18 * (i : Int) + 6 * (zx_ver S (zx_wt S i) (D / 2) : Int)) (by omega) (by omega), z_w_id (x := 18 * (i : Int) + 6 * (zx_ver S (zx_wt S i) (D / 2) : Int) + 0) (by omega) (by omega), z_w_id (by omega) (by omega)]
    unfold zx_mk
    rw [if_pos o]
    omega
/-- all that the model's judge lays -/
def zx_DM (S N : z_M) : Prop := N 13 57 = 2 * (zx_R S : Int) ∧ zx_hb S N (zx_n S) 0 ∧ (∀ D : Nat, D < 2 * zx_R S → N 14581100 (D : Int) = zx_cd S D) ∧ N 13 62 = (zx_bm S (2 * zx_R S)).1 ∧ N 13 63 = (zx_bm S (2 * zx_R S)).2.1
theorem zx_hb_of {N N' : z_M} {i k : Nat} (h : zx_hb S N i k) (e : N' 7204099 = N 7204099) : zx_hb S N' i k := fun i' k' a b => by rw [e]; exact h i' k' a b
theorem km_laysDays (d : Nat) (hS : z_sit S M) (hI : z_IS S) (hR : z_IRep S) (h1 : zx_R S ≤ 729 → ∀ N : z_M, z_sit S N → zx_DM S N → Q (z_I 1) N) (h0 : 729 < zx_R S → ∀ N : z_M, z_sit S N → Q (z_I 0) N) : z_Cl 0 (d + 8) 316 [z_R 13] M Q := by
  obtain ⟨en, n40⟩ := zx_nI hR
  have R1 := zx_R1 S
  refine re_316 (d + 7) (km_countsDays (d + 5) hS hI.1 (fun h7 => ?_) (fun h7 x hx => ?_))
  · have hS1 := z_at_up hS 13 57 (2 * (zx_R S : Int)) rfl rfl
    refine ⟨fun _ => km_laysHolds d hS1 hI hR (fun N hN k13 hh => ?_), fun c => absurd c (by rw [z_up_eq]; omega)⟩
    rw [z_up_eq] at k13
    refine z_lpi (n := 2 * zx_R S) (fun _ => ()) (fun D N => z_sit S N ∧ N 13 57 = 2 * (zx_R S : Int) ∧ zx_hb S N (zx_n S) 0 ∧ (∀ D' : Nat, D' < D → N 14581100 (D' : Int) = zx_cd S D') ∧ N 13 62 = (zx_bm S D).1 ∧ (D ≠ 0 → N 13 63 = (zx_bm S D).2.1)) (fun N _ q => z_G 0 (d + 8) z_m316 27 [z_R 13, z_I q, z_U] [] N Q) _ ⟨z_at_up hN _ _ _ rfl rfl, by rw [z_up_nj (by decide)]; exact k13, zx_hb_of hh (z_up_ne (by decide)), fun D' hD' => absurd hD' (Nat.not_lt_zero _), z_up_eq, fun c => absurd rfl c⟩ (fun D N hD hI' nx => ?_) (fun N hI' => ?_)
    · obtain ⟨hN, i1, i2, i3, i4, i5⟩ := hI'
      refine rg_316_27 (d + 7) ⟨fun c => absurd c (by omega), fun _ => km_opensDay (d + 5) hN hI.1 (by omega) (fun N2 hN2 hf hv => ⟨by omega, by omega, ?_⟩)⟩
      refine z_lpi (n := zx_n S) (fun _ => ()) (fun i N3 => z_sit S N3 ∧ (∀ k, k ≠ 14581100 → N3 k = N2 k) ∧ (∀ D' : Nat, D' < D → N3 14581100 (D' : Int) = zx_cd S D') ∧ N3 14581100 (D : Int) = z_cnt (fun i => zx_H S i D) i) (fun N3 _ q => z_G 0 (d + 8) z_m316 49 [z_R 13, z_I (D : Int), z_I q] [] N3 Q) _ ⟨z_at_up hN2 _ _ _ rfl rfl, fun k hk => z_up_ne hk, fun D' hD' => by rw [z_up_nj (by omega), hf.1 _ (by decide) (by decide)]; exact i3 D' hD', z_up_eq⟩ (fun i N3 hi hI3 nx3 => ?_) (fun N3 hI3 => ?_)
      · obtain ⟨hN3, f3, g3, c3⟩ := hI3
        have cb := z_cnt_b (fun i => zx_H S i D) i
        have e : z_cnt (fun i => zx_H S i D) (i + 1) = z_cnt (fun i => zx_H S i D) i + zv_b (zx_H S i D) := rfl
        refine rg_316_49 (d + 7) ?_
        rw [z_ff hN3 13 49 rfl, ← en]
        refine ⟨fun c => absurd c (by omega), fun _ => ⟨by omega, by omega, km_isHeldIn (d + 7) hN3 hR (zx_hb_of i2 ((f3 _ (by decide)).trans (hf.1 _ (by decide) (by decide)))) ⟨by rw [f3 _ (by decide)]; exact hv.1, fun p hp => by rw [f3 _ (by decide)]; exact hv.2 p hp⟩ hi (z_viI ?_)⟩⟩
        have go : ∀ x : Int, x = z_cnt (fun i => zx_H S i D) (i + 1) → z_G 0 (d + 8) z_m316 49 [z_R 13, z_I (D : Int), z_I (z_w ((i : Int) + 1))] [] (z_up N3 14581100 (D : Int) x) Q := by
          intro x ex
          rw [z_wq (by omega)]
          exact nx3 _ ⟨z_at_up hN3 _ _ _ rfl rfl, fun k hk => by rw [z_up_ne hk]; exact f3 k hk, fun D' hD' => by rw [z_up_nj (by omega)]; exact g3 D' hD', by rw [z_up_eq]; exact ex⟩
        rw [c3]
        refine ⟨fun c => ⟨by omega, by omega, go _ ?_⟩, fun c => ⟨by omega, by omega, go _ ?_⟩⟩
        · rw [z_w_id (by omega) (by omega), e, c]
        · rw [z_w_id (by omega) (by omega), e, zx_0eq c]; rfl
      · obtain ⟨hN3, f3, g3, c3⟩ := hI3
        have cb := z_cnt_b (fun i => zx_H S i D) (zx_n S)
        have c3' : N3 14581100 (D : Int) = zx_cd S D := c3
        rw [show z_cnt (fun i => zx_H S i D) (zx_n S) = zx_cd S D from rfl] at cb
        have bb := zx_bm_b S D
        have eb : zx_bm S (D + 1) = if (zx_bm S D).1 < zx_cd S D then (zx_cd S D, (D : Int), 1) else if zx_cd S D = (zx_bm S D).1 then ((zx_bm S D).1, (zx_bm S D).2.1, (zx_bm S D).2.2 + 1) else zx_bm S D := rfl
        have e13 : ∀ j, j ≠ 59 → N3 13 j = N 13 j := fun j hj => by rw [f3 _ (by decide)]; exact hf.2 j hj
        have hbN3 : zx_hb S N3 (zx_n S) 0 := zx_hb_of i2 ((f3 _ (by decide)).trans (hf.1 _ (by decide) (by decide)))
        have hall : ∀ D' : Nat, D' < D + 1 → N3 14581100 (D' : Int) = zx_cd S D' := by
          intro D' hD'
          by_cases e : D' = D
          · rw [e]; exact c3'
          · exact g3 D' (by omega)
        refine rg_316_49 (d + 7) ?_
        rw [z_ff hN3 13 49 rfl, ← en, c3', e13 62 (by decide), i4]
        refine ⟨fun _ => ⟨by omega, by omega, fun c => ⟨by omega, by omega, ?_⟩, fun c => ?_⟩, fun c => absurd c (by omega)⟩
        · rw [if_pos c] at eb
          rw [z_wq (by omega)]
          refine nx _ ⟨z_at_up (z_at_up hN3 _ _ _ rfl rfl) _ _ _ rfl rfl, ?_, zx_hb_of hbN3 (by rw [z_up_ne (by decide), z_up_ne (by decide)]), fun D' hD' => ?_, ?_, fun _ => ?_⟩
          · rw [z_up_nj (by decide), z_up_nj (by decide), e13 _ (by decide)]; exact i1
          · rw [z_up_ne (by decide), z_up_ne (by decide)]; exact hall D' hD'
          · rw [z_up_nj (by decide), z_up_eq, eb]
          · rw [z_up_eq, eb]
        · have hD0 : D ≠ 0 := by
            intro z
            subst z
            have : (zx_bm S 0).1 = -1 := rfl
            omega
          rw [if_neg (by omega)] at eb
          rw [z_wq (by omega)]
          refine nx _ ⟨hN3, ?_, hbN3, hall, ?_, fun _ => ?_⟩
          · rw [e13 _ (by decide)]; exact i1
          · rw [e13 _ (by decide), i4, eb]; split <;> rfl
          · rw [e13 _ (by decide), i5 hD0, eb]; split <;> rfl
    · obtain ⟨hN, i1, i2, i3, i4, i5⟩ := hI'
      exact rg_316_27 (d + 7) ⟨fun _ => z_bl_of (Or.inr rfl) (h1 h7 N hN ⟨i1, i2, i3, i4, i5 (by omega)⟩), fun c => absurd c (by omega)⟩
  · exact ⟨fun c => absurd c (by rw [z_up_eq]; omega), fun _ => z_bl_of (Or.inl rfl) (h0 h7 _ (z_at_up hS _ _ _ rfl rfl))⟩
end ZDA5
