/-! OPS: quarrel, the model -/
theorem zx_m32 {x : Nat} : Int.tmod (x : Int) 32 = ((x % 32 : Nat) : Int) := rfl
theorem zx_d32 {x : Nat} (h : x < 1000000) : z_w (Int.tdiv (x : Int) 32) = ((x / 32 : Nat) : Int) := by
  have : Int.tdiv (x : Int) 32 = ((x / 32 : Nat) : Int) := rfl
  rw [this, zx_wN (by omega)]
section ZQU2
variable {S M : z_M} {Q : z_V → z_M → Prop}
def zx_dw (S N : z_M) (D i : Nat) : Prop := ∀ i' w j : Nat, i' < zx_n S → w < 46 → j < 32 → zx_ib (N 18401101 (46 * (i' : Int) + (w : Int))) j = (decide (32 * w + j < D ∨ (32 * w + j = D ∧ i' < i)) && zx_H S i' (32 * w + j))
theorem zx_dw_no {N : z_M} {D i : Nat} (h : zx_dw S N D i) (hh : zx_H S i D = false) : zx_dw S N D (i + 1) := by
  intro i' w j h1 h2 h3
  rw [h i' w j h1 h2 h3]
  by_cases c : 32 * w + j = D ∧ i' = i
  · rw [c.1, c.2, hh, Bool.and_false, Bool.and_false]
  · congr 1
    exact decide_eq_decide.mpr (by omega)
theorem zx_dw_ye {N : z_M} {D i : Nat} (hi : i < zx_n S) (hD : D < 1458) (h : zx_dw S N D i) (hh : zx_H S i D = true) : zx_dw S (z_up N 18401101 (46 * (i : Int) + ((D / 32 : Nat) : Int)) (z_or (N 18401101 (46 * (i : Int) + ((D / 32 : Nat) : Int))) (z_shl 1 ((D % 32 : Nat) : Int)))) D (i + 1) := by
  intro i' w j h1 h2 h3
  by_cases c : i' = i ∧ w = D / 32
  · rw [c.1, c.2, z_up_eq, zx_ib_or, zx_ib_sh (by omega) h3, h i (D / 32) j hi (by omega) h3]
    by_cases cj : j = D % 32
    · have e : 32 * (D / 32) + j = D := by omega
      rw [e, decide_eq_true cj, Bool.or_true, hh, decide_eq_true (show D < D ∨ D = D ∧ i < i + 1 from Or.inr ⟨rfl, by omega⟩)]; rfl
    · rw [decide_eq_false cj, Bool.or_false]
      congr 1
      exact decide_eq_decide.mpr (by omega)
  · rw [z_up_nj (by omega), h i' w j h1 h2 h3]
    congr 1
    exact decide_eq_decide.mpr (by omega)
theorem zx_dw_nx {N : z_M} {D : Nat} (h : zx_dw S N D (zx_n S)) : zx_dw S N (D + 1) 0 := by
  intro i' w j h1 h2 h3
  rw [h i' w j h1 h2 h3]
  congr 1
  exact decide_eq_decide.mpr (by omega)
theorem km_laysDaysOf (d : Nat) (hS : z_sit S M) (hI : z_IS S) (hR : z_IRep S) (h7 : zx_R S ≤ 729) (hm : M 13 57 = 2 * (zx_R S : Int)) (hh : zx_hb S M (zx_n S) 0) (h : ∀ N : z_M, z_sit S N → zx_dw S N (2 * zx_R S) 0 → Q z_U N) : z_Cl 0 (d + 3) 320 [z_R 13] M Q := by
  obtain ⟨en, n40⟩ := zx_nI hR
  refine re_320 (d + 2) ?_
  refine z_lpi (n := 1840) (fun _ => ()) (fun q N => z_sit S N ∧ (∀ k, k ≠ 18401101 → N k = M k) ∧ ∀ j : Int, 0 ≤ j → j < (q : Int) → N 18401101 j = 0) (fun N _ q => z_G 0 (d + 3) z_m320 2 [z_R 13, z_I q, z_U] [] N Q) M ⟨hS, fun _ _ => rfl, fun j a b => by omega⟩ (fun q N hq hI' nx => ?_) (fun N hI' => ?_)
  · obtain ⟨a, b, c⟩ := hI'
    refine rg_320_2 (d + 2) ⟨fun c => absurd c (by omega), fun _ => ⟨by omega, by omega, ?_⟩⟩
    rw [z_wq (by omega)]
    refine nx _ ⟨z_at_up a _ _ _ rfl rfl, fun k hk => by rw [z_up_ne hk]; exact b k hk, fun j j0 j1 => ?_⟩
    by_cases e : j = (q : Int)
    · rw [e, z_up_eq]
    · rw [z_up_nj e]; exact c j j0 (by omega)
  · obtain ⟨a, b, c⟩ := hI'
    refine rg_320_2 (d + 2) ⟨fun _ => ?_, fun c => absurd c (by decide)⟩
    refine z_lpi (n := 2 * zx_R S) (fun _ => ()) (fun D N' => z_sit S N' ∧ N' 13 57 = 2 * (zx_R S : Int) ∧ zx_hb S N' (zx_n S) 0 ∧ zx_dw S N' D 0) (fun N' _ q => z_G 0 (d + 3) z_m320 24 [z_R 13, z_I q, z_U] [] N' Q) N ⟨a, by rw [b 13 (by decide)]; exact hm, zx_hb_of hh (b _ (by decide)), fun i w j h1 h2 h3 => ?_⟩ (fun D N' hD hI2 nx => ?_) (fun N' hI2 => ?_)
    · rw [c _ (by omega) (by omega), zx_ib_0, decide_eq_false (by omega), Bool.false_and]
    · obtain ⟨a', b', c', e'⟩ := hI2
      refine rg_320_24 (d + 2) ⟨fun c => absurd c (by rw [b']; omega), fun _ => km_opensDay d a' hI.1 (by omega) (fun N2 hN2 hf hv => ?_)⟩
      refine z_lpi (n := zx_n S) (fun _ => ()) (fun i N3 => z_sit S N3 ∧ (∀ k, k ≠ 18401101 → N3 k = N2 k) ∧ zx_dw S N3 D i) (fun N3 _ q => z_G 0 (d + 3) z_m320 39 [z_R 13, z_I (D : Int), z_I q] [] N3 Q) N2 ⟨hN2, fun _ _ => rfl, fun i w j h1 h2 h3 => by rw [hf.1 _ (by decide) (by decide)]; exact e' i w j h1 h2 h3⟩ (fun i N3 hi hI3 nx3 => ?_) (fun N3 hI3 => ?_)
      · obtain ⟨a3, b3, c3⟩ := hI3
        refine rg_320_39 (d + 2) ?_
        rw [z_ff a3 13 49 rfl, ← en, zx_d32 (by omega), zx_m32, z_w_id (x := 46 * (i : Int)) (by omega) (by omega), z_w_id (x := 46 * (i : Int) + ((D / 32 : Nat) : Int)) (by omega) (by omega), z_wq (q := i) (by omega)]
        refine ⟨fun c => absurd c (by omega), fun _ => km_isHeldIn (d + 2) a3 hR (zx_hb_of c' ((b3 _ (by decide)).trans (hf.1 _ (by decide) (by decide)))) ⟨by rw [b3 _ (by decide)]; exact hv.1, fun p hp => by rw [b3 _ (by decide)]; exact hv.2 p hp⟩ hi (z_viI ⟨fun c => ?_, fun c => ⟨by omega, by omega, by omega, by omega, ?_⟩⟩)⟩
        · exact nx3 N3 ⟨a3, b3, zx_dw_no c3 (zx_0ne c)⟩
        · exact nx3 _ ⟨z_at_up a3 _ _ _ rfl rfl, fun k hk => by rw [z_up_ne hk]; exact b3 k hk, zx_dw_ye hi (by omega) c3 (zx_0eq c)⟩
      · obtain ⟨a3, b3, c3⟩ := hI3
        refine rg_320_39 (d + 2) ?_
        rw [z_ff a3 13 49 rfl, ← en, z_wq (by omega)]
        refine ⟨fun _ => nx N3 ⟨a3, ?_, zx_hb_of c' ((b3 _ (by decide)).trans (hf.1 _ (by decide) (by decide))), zx_dw_nx c3⟩, fun c => absurd c (by omega)⟩
        rw [b3 _ (by decide), hf.2 _ (by decide)]; exact b'
    · obtain ⟨a', b', c', e'⟩ := hI2
      exact rg_320_24 (d + 2) ⟨fun _ => h N' a' e', fun c => absurd c (by rw [b']; omega)⟩
theorem km_areApart (d : Nat) {i j k : Nat} (n40 : zx_n S ≤ 40) (h7 : zx_R S ≤ 729) (hq : zx_dw S M (2 * zx_R S) 0) (hi : i < zx_n S) (hj : j < zx_n S) (hk : k < zx_n S) (h : Q (z_I (zv_b (zx_ap S i j k))) M) : z_Cl 0 d 321 [z_R 13, z_I (i : Int), z_I (j : Int), z_I (k : Int)] M Q := by
  unfold zx_ap at h
  refine re_321 d ?_
  refine z_lpi (n := 46) (fun _ => ()) (fun w N => N = M ∧ ∀ D, D < 32 * w → D < 2 * zx_R S → zx_hc S i j k D = false) (fun N _ q => z_G 0 d z_m321 3 [z_R 13, z_I (i : Int), z_I (j : Int), z_I (k : Int), z_I q] [] N Q) M ⟨rfl, fun D c => absurd c (Nat.not_lt_zero D)⟩ (fun w N hw hI nx => ?_) (fun N hI => ?_)
  · obtain ⟨rfl, ha⟩ := hI
    have ix : ∀ x : Nat, x < zx_n S → z_w (z_w (46 * (x : Int)) + (w : Int)) = 46 * (x : Int) + (w : Int) := fun x hx => by rw [z_w_id (x := 46 * (x : Int)) (by omega) (by omega), z_w_id (by omega) (by omega)]
    refine rg_321_3 d ⟨fun c => absurd c (by omega), fun _ => ?_⟩
    rw [ix i hi, ix j hj, ix k hk]
    clear ix
    refine ⟨by omega, by omega, by omega, by omega, by omega, by omega, ?_⟩
    have bit : ∀ c, c < 32 → (zx_ib (z_and (N 18401101 (46 * (i : Int) + (w : Int))) (N 18401101 (46 * (j : Int) + (w : Int)))) c && zx_ib (N 18401101 (46 * (k : Int) + (w : Int))) c) = (decide (32 * w + c < 2 * zx_R S) && zx_hc S i j k (32 * w + c)) := by
      intro c hc
      rw [zx_ib_and, hq i w c hi hw hc, hq j w c hj hw hc, hq k w c hk hw hc]
      have ed : decide (32 * w + c < 2 * zx_R S ∨ 32 * w + c = 2 * zx_R S ∧ i < 0) = decide (32 * w + c < 2 * zx_R S) := decide_eq_decide.mpr (by omega)
      have ed2 : decide (32 * w + c < 2 * zx_R S ∨ 32 * w + c = 2 * zx_R S ∧ j < 0) = decide (32 * w + c < 2 * zx_R S) := decide_eq_decide.mpr (by omega)
      have ed3 : decide (32 * w + c < 2 * zx_R S ∨ 32 * w + c = 2 * zx_R S ∧ k < 0) = decide (32 * w + c < 2 * zx_R S) := decide_eq_decide.mpr (by omega)
      rw [ed, ed2, ed3]
      unfold zx_hc
      cases decide (32 * w + c < 2 * zx_R S) <;> simp
    refine ⟨fun c => ?_, fun c => ?_⟩
    · have c2 := (zx_and0 _ _).mp c
      rw [z_wq (by omega)]
      refine nx N ⟨rfl, fun D h1 h2 => ?_⟩
      by_cases e : D < 32 * w
      · exact ha D e h2
      · have := c2 (D - 32 * w) (by omega)
        rw [bit _ (by omega), show 32 * w + (D - 32 * w) = D from by omega, decide_eq_true h2, Bool.true_and] at this
        exact this
    · have c2 : ∃ c, c < 32 ∧ (decide (32 * w + c < 2 * zx_R S) && zx_hc S i j k (32 * w + c)) = true := by
        by_cases e : ∃ c, c < 32 ∧ (decide (32 * w + c < 2 * zx_R S) && zx_hc S i j k (32 * w + c)) = true
        · exact e
        · refine absurd ((zx_and0 _ _).mpr (fun c hc => ?_)) c
          rw [bit c hc]
          cases hx : (decide (32 * w + c < 2 * zx_R S) && zx_hc S i j k (32 * w + c)) with
          | false => rfl
          | true => exact absurd ⟨c, hc, hx⟩ e
      obtain ⟨c, hc, e⟩ := c2
      have e2 := (Bool.and_eq_true _ _).mp e
      rw [z_exn_t.mpr ⟨32 * w + c, of_decide_eq_true e2.1, e2.2⟩] at h
      exact h
  · obtain ⟨rfl, ha⟩ := hI
    rw [z_exn_f.mpr (fun D hD => ha D (by omega) hD)] at h
    exact rg_321_3 d ⟨fun _ => h, fun c => absurd c (by decide)⟩
def zx_cm (S M0 N : z_M) (size : Int) (s : zx_Z) : Prop := z_sit S N ∧ N 18401101 = M0 18401101 ∧ N 13 67 = s.1 ∧ (s.1 ≠ 0 → N 31102 0 = s.2.1 ∧ N 31102 1 = s.2.2.1 ∧ N 31102 2 = s.2.2.2 ∧ N 13 66 = size) ∧ (s.1 = 0 → N 13 66 = 0)
theorem km_comesApart (d : Nat) {M0 : z_M} {size : Int} {i j k : Nat} {s : zx_Z} {B : Int} (h7 : zx_R S ≤ 729) (n40 : zx_n S ≤ 40) (hq : zx_dw S M0 (2 * zx_R S) 0) (hi : i < zx_n S) (hj : j < zx_n S) (hk : k < zx_n S) (hs : zx_cm S M0 M size s) (s0 : 0 ≤ s.1) (s1 : s.1 ≤ B) (hB : B < 1000000) (h : ∀ N : z_M, zx_cm S M0 N size (zx_qn S i j k s) → Q z_U N) : z_Cl 0 (d + 1) 322 [z_R 13, z_I size, z_I (i : Int), z_I (j : Int), z_I (k : Int)] M Q := by
  obtain ⟨a, b, c, e, f⟩ := hs
  have hq2 : zx_dw S M (2 * zx_R S) 0 := fun i w j h1 h2 h3 => by rw [b]; exact hq i w j h1 h2 h3
  refine re_322 d (km_areApart d n40 h7 hq2 hi hj hk (z_viI ?_))
  unfold zx_qn at h
  cases hx : zx_ap S i j k with
  | false =>
    rw [hx, if_neg (by decide)] at h
    exact ⟨fun c => absurd rfl c, fun _ => h M ⟨a, b, c, e, f⟩⟩
  | true =>
    rw [hx, if_pos rfl] at h
    refine ⟨fun _ => ?_, fun c => absurd (show zv_b true = 0 from c) (by decide)⟩
    rw [c]
    refine ⟨fun c1 => ?_, fun c1 => ⟨by omega, by omega, by omega, by omega, by omega, by omega, ?_⟩⟩
    · rw [if_neg c1] at h
      rw [z_w_id (by omega) (by omega)]
      refine h _ ⟨z_at_up a _ _ _ rfl rfl, by rw [z_up_ne (by decide)]; exact b, z_up_eq, fun _ => ?_, fun c2 => ?_⟩
      · obtain ⟨e1, e2, e3, e4⟩ := e c1
        rw [z_up_ne (k := 31102) (by decide), z_up_nj (by decide)]
        exact ⟨e1, e2, e3, e4⟩
      · have c3 : s.1 + 1 = 0 := c2
        omega
    · rw [if_pos c1] at h
      rw [z_up_ne (k := 13) (by decide), z_up_ne (k := 13) (by decide), z_up_ne (k := 13) (by decide), z_up_nj (by decide), c, c1, show z_w ((0 : Int) + 1) = 1 from by decide]
      refine h _ ⟨z_at_up (z_at_up (z_at_up (z_at_up (z_at_up a _ _ _ rfl rfl) _ _ _ rfl rfl) _ _ _ rfl rfl) _ _ _ rfl rfl) _ _ _ rfl rfl, by rw [z_up_ne (by decide), z_up_ne (by decide), z_up_ne (by decide), z_up_ne (by decide), z_up_ne (by decide)]; exact b, z_up_eq, fun _ => ⟨?_, ?_, ?_, ?_⟩, fun c2 => absurd (show (1 : Int) = 0 from c2) (by decide)⟩
      · rw [z_up_ne (by decide), z_up_nj (by decide), z_up_nj (by decide), z_up_eq]
      · rw [z_up_ne (by decide), z_up_nj (by decide), z_up_eq]
      · rw [z_up_ne (by decide), z_up_eq]
      · rw [z_up_nj (by decide), z_up_ne (by decide), z_up_ne (by decide), z_up_ne (by decide), z_up_eq]
theorem zx_qK_one {m i j : Nat} {s : zx_Z} (hm : m ≤ 2) : zx_qK S m i j s = zx_qn S i j j s := by
  unfold zx_qK zx_lo zx_hi
  rw [decide_eq_false (by omega), if_neg (by decide), if_neg (by decide), Nat.add_sub_cancel_left]
  rfl
theorem zx_qJ_one {i : Nat} {s : zx_Z} : zx_qJ S 1 i s = zx_qn S i i i s := by
  unfold zx_qJ zx_lo zx_hi
  rw [decide_eq_false (by omega), if_neg (by decide), if_neg (by decide), Nat.add_sub_cancel_left]
  exact zx_qK_one (by decide)
theorem zx_qJ_two {m i : Nat} {s : zx_Z} (hm : 1 < m) : zx_qJ S m i s = zx_fo (fun j s => zx_qK S m i j s) (i + 1) s (zx_n S - (i + 1)) := by
  unfold zx_qJ zx_lo zx_hi
  rw [decide_eq_true hm, if_pos rfl, if_pos rfl]
theorem zx_qK_tri {i j : Nat} {s : zx_Z} : zx_qK S 3 i j s = zx_fo (fun k s => zx_qn S i j k s) (j + 1) s (zx_n S - (j + 1)) := by
  unfold zx_qK zx_lo zx_hi
  rw [decide_eq_true (by omega), if_pos rfl, if_pos rfl]
theorem km_laysQuarrels (d : Nat) (hR : z_IRep S) (h7 : zx_R S ≤ 729) (hq : zx_dw S M (2 * zx_R S) 0) (hS : z_sit S M)
    (h1 : 0 < (zx_qA S 1).1 → ∀ N : z_M, zx_cm S M N 1 (zx_qA S 1) → Q z_U N)
    (h2 : ¬ 0 < (zx_qA S 1).1 → 0 < (zx_qA S 2).1 → ∀ N : z_M, zx_cm S M N 2 (zx_qA S 2) → Q z_U N)
    (h3 : ¬ 0 < (zx_qA S 1).1 → ¬ 0 < (zx_qA S 2).1 → 0 ≤ (zx_qA S 3).1 → ∀ N : z_M, zx_cm S M N 3 (zx_qA S 3) → Q z_U N) : z_Cl 0 (d + 2) 323 [z_R 13] M Q := by
  obtain ⟨en, n40⟩ := zx_nI hR
  have fresh : ∀ (N : z_M) (s : zx_Z) (sz sz2 : Int), zx_cm S M N sz s → s.1 = 0 → zx_cm S M N sz2 (0, 0, 0, 0) := fun N s sz sz2 h e => ⟨h.1, h.2.1, by rw [h.2.2.1]; exact e, fun c => absurd rfl c, fun _ => h.2.2.2.2 e⟩
  -- the third round
  have r3 : ¬ 0 < (zx_qA S 1).1 → ¬ 0 < (zx_qA S 2).1 → ∀ N : z_M, zx_cm S M N 3 (0, 0, 0, 0) → z_G 0 (d + 2) z_m323 94 [z_R 13, z_I 0, z_U, z_U] [] N Q := by
    intro c1 c2 N hN
    refine zx_lpf (fun i s => zx_qJ S 3 i s) 0 (zx_n S) (0, 0, 0, 0) (fun i s N => zx_cm S M N 3 s ∧ 0 ≤ s.1 ∧ s.1 ≤ 1600 * (i : Int)) (fun N i => z_G 0 (d + 2) z_m323 94 [z_R 13, z_I (i : Int), z_U, z_U] [] N Q) N ⟨hN, by show (0 : Int) ≤ 0; omega, by show (0 : Int) ≤ _; omega⟩ (fun i s N _ hi hI nx => ?_) (fun N hI => ?_)
    · rw [Nat.zero_add] at hi
      obtain ⟨hs, s0, s1⟩ := hI
      rw [zx_qJ_two (by decide)] at nx
      refine rg_323_94 (d + 1) ?_
      rw [z_ff hs.1 13 49 rfl, ← en, z_wq (q := i) (by omega)]
      refine ⟨fun c => absurd c (by omega), fun _ => ?_⟩
      refine zx_lpf (fun j s => zx_qK S 3 i j s) (i + 1) (zx_n S - (i + 1)) s (fun j s' N => zx_cm S M N 3 s' ∧ 0 ≤ s'.1 ∧ s'.1 ≤ s.1 + 40 * ((j : Int) - (i + 1))) (fun N j => z_G 0 (d + 2) z_m323 106 [z_R 13, z_I (i : Int), z_I (j : Int), z_U] [] N Q) N ⟨hs, s0, by omega⟩ (fun j s2 N2 j0 hj hI2 nx2 => ?_) (fun N2 hI2 => ?_)
      · obtain ⟨hs2, t0, t1⟩ := hI2
        rw [zx_qK_tri] at nx2
        refine rg_323_106 (d + 1) ?_
        rw [z_ff hs2.1 13 49 rfl, ← en, z_wq (q := j) (by omega)]
        refine ⟨fun c => absurd c (by omega), fun _ => ?_⟩
        refine zx_lpf (fun k s => zx_qn S i j k s) (j + 1) (zx_n S - (j + 1)) s2 (fun k s' N => zx_cm S M N 3 s' ∧ 0 ≤ s'.1 ∧ s'.1 ≤ s2.1 + ((k : Int) - (j + 1))) (fun N k => z_G 0 (d + 2) z_m323 118 [z_R 13, z_I (i : Int), z_I (j : Int), z_I (k : Int)] [] N Q) N2 ⟨hs2, t0, by omega⟩ (fun k s3 N3 k0 hk hI3 nx3 => ?_) (fun N3 hI3 => ?_)
        · obtain ⟨hs3, u0, u1⟩ := hI3
          have qb := zx_qn_b (S := S) (i := i) (j := j) (k := k) u0
          refine rg_323_118 (d + 1) ?_
          rw [z_ff hs3.1 13 49 rfl, ← en, z_wq (q := k) (by omega)]
          exact ⟨fun c => absurd c (by omega), fun _ => km_comesApart d (B := 200000) h7 n40 hq hi (by omega) (by omega) hs3 u0 (by omega) (by decide) (fun N4 h4 => nx3 N4 ⟨h4, qb.1, by omega⟩)⟩
        · obtain ⟨hs3, u0, u1⟩ := hI3
          refine rg_323_118 (d + 1) ?_
          rw [z_ff hs3.1 13 49 rfl, ← en, z_wq (q := j) (by omega)]
          exact ⟨fun _ => nx2 N3 ⟨hs3, u0, by omega⟩, fun c => absurd c (by omega)⟩
      · obtain ⟨hs2, t0, t1⟩ := hI2
        refine rg_323_106 (d + 1) ?_
        rw [z_ff hs2.1 13 49 rfl, ← en, z_wq (q := i) (by omega)]
        exact ⟨fun _ => nx N2 ⟨hs2, t0, by omega⟩, fun c => absurd c (by omega)⟩
    · obtain ⟨hs, s0, s1⟩ := hI
      refine rg_323_94 (d + 1) ?_
      rw [z_ff hs.1 13 49 rfl, ← en]
      exact ⟨fun _ => h3 c1 c2 s0 N hs, fun c => absurd c (by omega)⟩
  -- the second round
  have r2 : ¬ 0 < (zx_qA S 1).1 → ∀ N : z_M, zx_cm S M N 2 (0, 0, 0, 0) → z_G 0 (d + 2) z_m323 44 [z_R 13, z_I 0, z_U, z_U] [] N Q := by
    intro c1 N hN
    refine zx_lpf (fun i s => zx_qJ S 2 i s) 0 (zx_n S) (0, 0, 0, 0) (fun i s N => zx_cm S M N 2 s ∧ 0 ≤ s.1 ∧ s.1 ≤ 40 * (i : Int)) (fun N i => z_G 0 (d + 2) z_m323 44 [z_R 13, z_I (i : Int), z_U, z_U] [] N Q) N ⟨hN, by show (0 : Int) ≤ 0; omega, by show (0 : Int) ≤ _; omega⟩ (fun i s N _ hi hI nx => ?_) (fun N hI => ?_)
    · rw [Nat.zero_add] at hi
      obtain ⟨hs, s0, s1⟩ := hI
      rw [zx_qJ_two (by decide)] at nx
      refine rg_323_44 (d + 1) ?_
      rw [z_ff hs.1 13 49 rfl, ← en, z_wq (q := i) (by omega)]
      refine ⟨fun c => absurd c (by omega), fun _ => ?_⟩
      refine zx_lpf (fun j s => zx_qK S 2 i j s) (i + 1) (zx_n S - (i + 1)) s (fun j s' N => zx_cm S M N 2 s' ∧ 0 ≤ s'.1 ∧ s'.1 ≤ s.1 + ((j : Int) - (i + 1))) (fun N j => z_G 0 (d + 2) z_m323 56 [z_R 13, z_I (i : Int), z_I (j : Int), z_U] [] N Q) N ⟨hs, s0, by omega⟩ (fun j s2 N2 j0 hj hI2 nx2 => ?_) (fun N2 hI2 => ?_)
      · obtain ⟨hs2, t0, t1⟩ := hI2
        rw [zx_qK_one (by decide)] at nx2
        have qb := zx_qn_b (S := S) (i := i) (j := j) (k := j) t0
        refine rg_323_56 (d + 1) ?_
        rw [z_ff hs2.1 13 49 rfl, ← en, z_wq (q := j) (by omega)]
        exact ⟨fun c => absurd c (by omega), fun _ => km_comesApart d (B := 200000) h7 n40 hq hi (by omega) (by omega) hs2 t0 (by omega) (by decide) (fun N4 h4 => nx2 N4 ⟨h4, qb.1, by omega⟩)⟩
      · obtain ⟨hs2, t0, t1⟩ := hI2
        refine rg_323_56 (d + 1) ?_
        rw [z_ff hs2.1 13 49 rfl, ← en, z_wq (q := i) (by omega)]
        exact ⟨fun _ => nx N2 ⟨hs2, t0, by omega⟩, fun c => absurd c (by omega)⟩
    · obtain ⟨hs, s0, s1⟩ := hI
      refine rg_323_44 (d + 1) ?_
      rw [z_ff hs.1 13 49 rfl, ← en, hs.2.2.1]
      exact ⟨fun _ => ⟨fun c => r3 c1 (by show ¬ 0 < (zx_qA S 2).1; exact fun z => absurd (show (zx_qA S 2).1 ≤ 0 from c) (by omega)) N (fresh N _ 2 3 hs (by omega)), fun c => h2 c1 c N hs⟩, fun c => absurd c (by omega)⟩
  refine re_323 (d + 1) ?_
  have hN0 : zx_cm S M (z_up (z_up M 13 66 0) 13 67 0) 1 (0, 0, 0, 0) := ⟨z_at_up (z_at_up hS _ _ _ rfl rfl) _ _ _ rfl rfl, by rw [z_up_ne (by decide), z_up_ne (by decide)], z_up_eq, fun c => absurd rfl c, fun _ => by rw [z_up_nj (by decide), z_up_eq]⟩
  refine zx_lpf (fun i s => zx_qJ S 1 i s) 0 (zx_n S) (0, 0, 0, 0) (fun i s N => zx_cm S M N 1 s ∧ 0 ≤ s.1 ∧ s.1 ≤ (i : Int)) (fun N i => z_G 0 (d + 2) z_m323 12 [z_R 13, z_I (i : Int), z_U, z_U] [] N Q) _ ⟨hN0, by show (0 : Int) ≤ 0; omega, by show (0 : Int) ≤ _; omega⟩ (fun i s N _ hi hI nx => ?_) (fun N hI => ?_)
  · rw [Nat.zero_add] at hi
    obtain ⟨hs, s0, s1⟩ := hI
    rw [zx_qJ_one] at nx
    have qb := zx_qn_b (S := S) (i := i) (j := i) (k := i) s0
    refine rg_323_12 (d + 1) ?_
    rw [z_ff hs.1 13 49 rfl, ← en, z_wq (by omega)]
    exact ⟨fun c => absurd c (by omega), fun _ => km_comesApart d (B := 200000) h7 n40 hq hi hi hi hs s0 (by omega) (by decide) (fun N4 h4 => nx N4 ⟨h4, qb.1, by omega⟩)⟩
  · obtain ⟨hs, s0, s1⟩ := hI
    refine rg_323_12 (d + 1) ?_
    rw [z_ff hs.1 13 49 rfl, ← en, hs.2.2.1]
    exact ⟨fun _ => ⟨fun c => r2 (fun z => absurd (show (zx_qA S 1).1 ≤ 0 from c) (by omega)) N (fresh N _ 1 2 hs (by omega)), fun c => h1 c N hs⟩, fun c => absurd c (by omega)⟩
theorem km_quarrel (d : Nat) {a : Int} (hS : z_sit S M) (hI : z_IS S) (hR : z_IRep S) (h : ∀ N : z_M, z_sit S N → Q (z_I (zx_quv S a)) N) : z_Cl 0 (d + 9) 324 [z_R 13, z_I a] M Q := by
  unfold zx_quv at h
  refine re_324 (d + 8) (km_lies (d + 8) (fun a0 a4 => z_y2 ?_) (fun c => z_n2 ?_))
  · rw [if_neg (fun c => c ⟨a0, a4⟩)] at h
    refine km_laysDays d hS hI hR (fun h7 N hN hd => z_y2 ?_) (fun h7 N hN => z_n2 ?_)
    · rw [if_neg (by omega)] at h
      refine km_laysDaysOf (d + 5) hN hI hR h7 hd.1 hd.2.1 (fun N2 hN2 hq => ?_)
      -- what is answered when the quarrels are counted
      have ans : ∀ (m : Int) (s : zx_Z) (N3 : z_M), 1 ≤ m → m ≤ 3 → 0 < s.1 → zx_cm S N2 N3 m s → (∀ N : z_M, z_sit S N → Q (z_I (zx_qa m s a)) N) → ((¬ a = 4 → ((¬ a = 0 → (((N3 13 66) < a → Q (z_I (-2)) N3) ∧ (a ≤ (N3 13 66) → ((0 : Int) ≤ (z_w (a - 1)) ∧ (z_w (a - 1)) < (3 : Int) ∧ Q (z_I (N3 31102 (z_w (a - 1)))) N3)))) ∧ (a = 0 → ((¬ (N3 13 66) = 0 → Q (z_I (N3 13 66)) N3) ∧ ((N3 13 66) = 0 → Q (z_I (-2)) N3))))) ∧ (a = 4 → Q (z_I (N3 13 67)) N3)) := by
        intro m s N3 m1 m3 hp hc hh
        obtain ⟨c1, c2, c3, c4, c5⟩ := hc
        obtain ⟨t0, t1, t2, t3⟩ := c4 (by omega)
        have h' := hh N3 c1
        unfold zx_qa at h'
        rw [t3, c3]
        refine ⟨fun e4 => ⟨fun e => ⟨fun c => ?_, fun c => ?_⟩, fun e => ⟨fun _ => ?_, fun c => by omega⟩⟩, fun e4 => ?_⟩
        · rw [if_neg e4, if_neg e, if_neg (by omega)] at h'; exact h'
        · rw [if_neg e4, if_neg e, if_pos c] at h'
          rw [z_w_id (by omega) (by omega)]
          refine ⟨by omega, by omega, ?_⟩
          have : a = 1 ∨ a = 2 ∨ a = 3 := by omega
          rcases this with rfl | rfl | rfl
          · rw [show (1 : Int) - 1 = 0 from rfl, t0]; exact h'
          · rw [show (2 : Int) - 1 = 1 from rfl, t1]; exact h'
          · rw [show (3 : Int) - 1 = 2 from rfl, t2]; exact h'
        · rw [if_neg e4, if_pos e] at h'; exact h'
        · rw [if_pos e4] at h'; exact h'
      refine km_laysQuarrels (d + 6) hR h7 hq hN2 (fun c1 N3 hc => ans 1 _ N3 (by decide) (by decide) c1 hc (fun N4 hN4 => ?_)) (fun c1 c2 N3 hc => ans 2 _ N3 (by decide) (by decide) c2 hc (fun N4 hN4 => ?_)) (fun c1 c2 s0 N3 hc => ?_)
      · have h' := h N4 hN4
        rw [if_pos c1] at h'; exact h'
      · have h' := h N4 hN4
        rw [if_neg c1, if_pos c2] at h'; exact h'
      · by_cases c3 : 0 < (zx_qA S 3).1
        · refine ans 3 _ N3 (by decide) (by decide) c3 hc (fun N4 hN4 => ?_)
          have h' := h N4 hN4
          rw [if_neg c1, if_neg c2, if_pos c3] at h'; exact h'
        · have h' := h N3 hc.1
          rw [if_neg c1, if_neg c2, if_neg c3] at h'
          have z : (zx_qA S 3).1 = 0 := by omega
          rw [hc.2.2.2.2 z, hc.2.2.1, z]
          refine ⟨fun e4 => ⟨fun e => ⟨fun c => ?_, fun c => by omega⟩, fun e => ⟨fun c => absurd rfl c, fun _ => ?_⟩⟩, fun e4 => ?_⟩
          · rw [if_neg e4] at h'; exact h'
          · rw [if_neg e4] at h'; exact h'
          · rw [if_pos e4] at h'; exact h'
    · have h' := h N hN
      rw [if_pos h7] at h'; exact h'
  · have h' := h M hS
    rw [if_pos (by omega)] at h'; exact h'
end ZQU2
