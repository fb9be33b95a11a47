/-! OPS: halves, both sides -/
theorem zx_ft_of {a b : Bool} (h : a = b) : a = b := h
section ZHA2
variable {S M : z_M} {Q : z_V → z_M → Prop} {B : Int → Int} {ap : Int} {n : Nat}
theorem zx_0eq {x : Bool} (h : ¬ zv_b x = 0) : x = true := by
  cases x with
  | true => rfl
  | false => exact absurd rfl h
theorem zx_0ne {x : Bool} (h : zv_b x = 0) : x = false := by
  cases x with
  | true => exact absurd h (by decide)
  | false => rfl
theorem zx_pgf {B : Int → Int} {ap : Int} {n i u j : Nat} (h : ¬ (B (3 * (i : Int)) = 0 ∧ u.testBit j = false ∧ zw_ft B ap i j = true ∧ 1 + zw_kf B ap n (n - i - 1) (i + 1) (u ||| 2 ^ j) = zw_kf B ap n (n - i) i u)) : zx_pg B ap n i u j = false := by
  cases hx : zx_pg B ap n i u j with
  | false => rfl
  | true =>
    unfold zx_pg zw_cn at hx
    rw [Bool.and_eq_true, Bool.and_eq_true, Bool.and_eq_true] at hx
    obtain ⟨⟨h1, h2, h3⟩, h4⟩ := hx
    refine absurd ⟨of_decide_eq_true h1, ?_, h3, of_decide_eq_true h4⟩ h
    cases hy : u.testBit j with
    | false => rfl
    | true => rw [hy] at h2; cases h2
theorem zx_pgt {B : Int → Int} {ap : Int} {n i u j : Nat} (h1 : B (3 * (i : Int)) = 0) (h2 : u.testBit j = false) (h3 : zw_ft B ap i j = true) (h4 : 1 + zw_kf B ap n (n - i - 1) (i + 1) (u ||| 2 ^ j) = zw_kf B ap n (n - i) i u) : zx_pg B ap n i u j = true := by
  unfold zx_pg zw_cn
  rw [decide_eq_true h1, h2, h3, decide_eq_true h4]; rfl
theorem zx_exs {g : Nat → Bool} {q : Nat} (h : z_exn g q = false) (h2 : g q = false) : z_exn g (q + 1) = false := by
  show (z_exn g q || g q) = false
  rw [h, h2]; rfl
theorem kc_partner (d : Nat) {S2 : z_M} {what : Int} (hS : z_sit S2 M) (hb : zw_by3 B n) (hn : n ≤ 10) (hl : zw_kl B ap n M) (w0 : 0 ≤ what) (w1 : what < n) (h : ∀ N : z_M, z_sit S2 N → Q (z_I ((zw_pr B ap n n).2 what)) N) : z_Cl 0 (d + 12) 24 [z_R 12, z_I what] M Q := by
  refine re_24 (d + 11) (c_fillI (a := 101063) (n := 10) rfl rfl (by decide) ?_)
  refine z_lpi (n := n) (fun q => ((zw_pr B ap n q).1 : Int)) (fun q N => z_sit S2 N ∧ zw_kl B ap n N ∧ ∀ k : Int, 0 ≤ k → k < 10 → N 101063 k = (zw_pr B ap n q).2 k) (fun N v q => z_G 0 (d + 12) z_m24 13 [z_R 12, z_I what, z_I v, z_I q, z_U, z_U, z_U] [] N Q) _ ⟨z_at_of hS (fun k j hk => by rw [z_fl_ne (z_ne1 hk (fun j => rfl))]) (fun k hk => z_fl_ne (z_ne0 hk rfl)), zw_kl_of hl (z_fl_ne (by decide)) (z_fl_ne (by decide)) (z_fl_ne (by decide)) (z_fl_ne (by decide)), fun k k0 k1 => z_fl_in k0 k1⟩ (fun i N hi hI' nx => ?_) (fun N hI' => ?_)
  · obtain ⟨hN, hlN, hP⟩ := hI'
    have hu := zw_pr_u (B := B) (ap := ap) hn i
    obtain ⟨u, P, eP⟩ : ∃ u P, zw_pr B ap n i = (u, P) := ⟨_, _, rfl⟩
    rw [eP] at hu hP
    rw [eP]
    dsimp only at hu hP
    dsimp only
    have kb := zw_kf_b (B := B) (ap := ap) (n := n)
    -- what follows the inner loop
    have none : z_exn (zx_pg B ap n i u) n = false → ∀ l5 l6 most : Int, z_G 0 (d + 12) z_m24 142 [z_R 12, z_I what, z_I (u : Int), z_I (i : Int), z_I most, z_I l5, z_I l6] [] N Q := by
      intro hx l5 l6 most
      have e := zw_pr_no eP hx
      have nx' := nx N ⟨hN, hlN, by rw [e]; exact hP⟩
      rw [e] at nx'
      refine rg_24_142 (d + 11) ?_
      rw [z_wq (by omega)]; exact nx'
    refine rg_24_13 (d + 11) ⟨fun c => absurd c (by rw [hlN.2.1]; omega), fun _ => kc_most hb hn hlN (n - i) i u (d + 11) _ (by omega) hu (by omega) (z_viI ⟨by omega, by omega, ?_⟩)⟩
    rw [(hlN.1 i hi).1]
    refine ⟨fun c0 => rg_24_43 (d + 11) ?_, fun c0 => rg_24_43 (d + 11) (rg_24_48 (d + 11) ⟨fun c => absurd c (by rw [hlN.2.1]; omega), fun _ => ⟨fun _ => none (z_exn_f.mpr (fun j _ => zx_pgf (fun z => c0 z.1))) _ _ _, fun c => absurd c (by decide)⟩⟩)⟩
    refine z_lpi (n := n) (fun _ => ()) (fun q N' => N' = N ∧ z_exn (zx_pg B ap n i u) q = false) (fun N _ q => z_G 0 (d + 12) z_m24 48 [z_R 12, z_I what, z_I (u : Int), z_I (i : Int), z_I (zw_kf B ap n (n - i) i u), z_I 0, z_I q] [] N Q) N ⟨rfl, rfl⟩ (fun j N' hj hI2 nx2 => ?_) (fun N' hI2 => ?_)
    · obtain ⟨rfl, hx⟩ := hI2
      have go : zx_pg B ap n i u j = false → z_G 0 (d + 12) z_m24 105 [z_R 12, z_I what, z_I (u : Int), z_I (i : Int), z_I (zw_kf B ap n (n - i) i u), z_I 0, z_I (j : Int)] [] N' Q := by
        intro hp
        refine rg_24_105 (d + 11) (rg_24_106 (d + 11) ⟨fun _ => rg_24_136 (d + 11) ?_, fun c => absurd rfl c⟩)
        rw [z_wq (by omega)]
        exact nx2 N' ⟨rfl, zx_exs hx hp⟩
      refine rg_24_48 (d + 11) ⟨fun c => absurd c (by rw [hlN.2.1]; omega), fun _ => ⟨fun c => absurd rfl c, fun _ => ⟨fun cb => go (zx_pgf (fun z => cb ((zw_kbit hu (by omega)).mpr z.2.1))), fun cb => kc_fits (d + 11) hlN hb hn hi hj (z_viI ⟨fun cz => go (zx_pgf (fun z => by rw [zx_0ne cz] at z; cases z.2.2.1)), fun cz => ?_⟩)⟩⟩⟩
      obtain ⟨eo, ob⟩ := zw_orb (u := u) (j := j) hu (by omega)
      have k1 := kb (n - i - 1) (i + 1) (u ||| 2 ^ j)
      rw [z_wq (by omega), eo]
      refine kc_most hb hn hlN (n - i - 1) (i + 1) (u ||| 2 ^ j) (d + 11) _ (by omega) ob (by omega) (z_viI ?_)
      rw [z_w_id (by omega) (by omega)]
      refine ⟨fun c => go (zx_pgf (fun z => c z.2.2.2)), fun c => rg_24_106 (d + 11) ⟨fun c2 => absurd c2 (by decide), fun _ => ⟨by omega, by omega, by omega, by omega, ?_⟩⟩⟩
      rw [eo]
      have hp := zx_pgt c0 ((zw_kbit hu (by omega)).mp cb) (zx_0eq cz) c
      have e := zw_pr_ye eP hx hp hj
      have nx' := nx (z_up (z_up N' 101063 (i : Int) (j : Int)) 101063 (j : Int) (i : Int)) ⟨z_at_up (z_at_up hN _ _ _ rfl rfl) _ _ _ rfl rfl, zw_kl_of hlN (by rw [z_up_ne (by decide), z_up_ne (by decide)]) (by rw [z_up_ne (by decide), z_up_ne (by decide)]) (by rw [z_up_ne (by decide), z_up_ne (by decide)]) (by rw [z_up_ne (by decide), z_up_ne (by decide)]), fun k k0 k1 => ?_⟩
      · rw [e] at nx'
        refine rg_24_136 (d + 11) (rg_24_48 (d + 11) ⟨fun _ => rg_24_142 (d + 11) ?_, fun _ => ⟨fun _ => rg_24_142 (d + 11) ?_, fun c2 => absurd c2 (by decide)⟩⟩)
        · rw [z_wq (q := i) (by omega)]; exact nx'
        · rw [z_wq (q := i) (by omega)]; exact nx'
      · rw [e]
        show _ = if k = (j : Int) then (i : Int) else if k = (i : Int) then (j : Int) else P k
        by_cases e1 : k = (j : Int)
        · rw [if_pos e1, e1, z_up_eq]
        · rw [if_neg e1, z_up_nj e1]
          by_cases e2 : k = (i : Int)
          · rw [if_pos e2, e2, z_up_eq]
          · rw [if_neg e2, z_up_nj e2]; exact hP k k0 k1
    · obtain ⟨rfl, hx⟩ := hI2
      exact rg_24_48 (d + 11) ⟨fun _ => none hx _ _ _, fun c => absurd c (by rw [hlN.2.1]; omega)⟩
  · obtain ⟨hN, hlN, hP⟩ := hI'
    refine rg_24_13 (d + 11) ⟨fun _ => ⟨by omega, by omega, ?_⟩, fun c => absurd c (by rw [hlN.2.1]; omega)⟩
    rw [hP what w0 (by omega)]
    exact h N hN
abbrev zx_h0 (n ap sz : Int) : Prop := (1 ≤ n ∧ n ≤ 10) ∧ (0 ≤ ap ∧ ap ≤ 95) ∧ 3 * n ≤ sz
def zx_hg (B : Int → Int) (q : Nat) : Bool := decide (B (3 * (q : Int)) ≤ 1 ∧ B (3 * (q : Int) + 1) < 96 ∧ B (3 * (q : Int) + 2) < 100)
def zx_hv (B : Int → Int) (ap : Int) (n : Nat) (what : Int) : Int :=
  if z_exn (fun q => !zx_hg B q) n = true then -2 else if what = 20 then zw_kf B ap n n 0 0 else if 0 ≤ what ∧ what < (n : Int) then (zw_pr B ap n n).2 what else -4
theorem kc_load (d : Nat) (hS : z_sit S M) (hT : z_ITape S) (hn : n ≤ 10) (hz : 3 * (n : Int) ≤ S 2 1) (h : ∀ N : z_M, z_sit S N → zw_kl (S 2601014) ap n N → Q (z_I (zv_b (!z_exn (fun q => !zx_hg (S 2601014) q) n))) N) : z_Cl 0 (d + 1) 20 [z_R 12, z_R 2, z_I (n : Int), z_I ap] M Q := by
  obtain ⟨_, s0, s1, _⟩ := id hT
  refine re_20 d ?_
  refine z_lpi (n := n) (fun q => zv_b (!z_exn (fun q => !zx_hg (S 2601014) q) q)) (fun q N => z_sit S N ∧ (∀ i : Nat, i < q → N 101060 (i : Int) = S 2601014 (3 * (i : Int)) ∧ N 101061 (i : Int) = S 2601014 (3 * (i : Int) + 1) ∧ N 101062 (i : Int) = S 2601014 (3 * (i : Int) + 2)) ∧ N 12 4 = (n : Int) ∧ N 12 5 = ap) (fun N v q => z_G 0 (d + 1) z_m20 16 [z_R 12, z_R 2, z_I (n : Int), z_I ap, z_I v, z_I q] [] N Q) _ ⟨z_at_up (z_at_up hS _ _ _ rfl rfl) _ _ _ rfl rfl, fun i hi => absurd hi (Nat.not_lt_zero i), by rw [z_up_nj (by decide), z_up_eq], z_up_eq⟩ (fun q N hq hI' nx => ?_) (fun N hI' => ?_)
  · obtain ⟨hN, hl, e4, e5⟩ := hI'
    have b0 := zw_by hT (j := 3 * (q : Int)) (by omega) (by omega)
    have b1 := zw_by hT (j := 3 * (q : Int) + 1) (by omega) (by omega)
    have b2 := zw_by hT (j := 3 * (q : Int) + 2) (by omega) (by omega)
    have e3 : z_exn (fun q => !zx_hg (S 2601014) q) (q + 1) = (z_exn (fun q => !zx_hg (S 2601014) q) q || !zx_hg (S 2601014) q) := rfl
    have rd : ∀ (j : Int) (N' : z_M) (K : z_V → z_M → Prop), 0 ≤ j → j < S 2 1 → z_sit S N' → K (z_I (S 2601014 j)) N' → z_Cl 0 d 129 [z_R 2, z_I j] N' K := by
      intro j N' K j0 j1 hN' hK
      refine re_129 d ?_
      rw [z_ff hN' 2 1 rfl, z_fn hN' 2601014 rfl]
      exact ⟨fun c => absurd c (by omega), fun _ => ⟨fun c => absurd c (by omega), fun _ => ⟨by omega, by omega, hK⟩⟩⟩
    refine rg_20_16 d ⟨fun c => absurd c (by omega), fun _ => ?_⟩
    rw [z_w_id (x := 3 * (q : Int)) (by omega) (by omega), z_w_id (x := 3 * (q : Int) + 1) (by omega) (by omega), z_w_id (x := 3 * (q : Int) + 2) (by omega) (by omega), z_wq (by omega)]
    have h1 := z_at_up hN 101060 (q : Int) (S 2601014 (3 * (q : Int))) rfl rfl
    have h2 := z_at_up h1 101061 (q : Int) (S 2601014 (3 * (q : Int) + 1)) rfl rfl
    have h3 := z_at_up h2 101062 (q : Int) (S 2601014 (3 * (q : Int) + 2)) rfl rfl
    refine rd _ _ _ (by omega) (by omega) hN (z_viI ⟨by omega, by omega, rd _ _ _ (by omega) (by omega) h1 (z_viI ⟨by omega, by omega, rd _ _ _ (by omega) (by omega) h2 (z_viI ⟨by omega, by omega, ?_⟩)⟩)⟩)
    have hl2 : ∀ i : Nat, i < q + 1 → (z_up (z_up (z_up N 101060 (q : Int) (S 2601014 (3 * (q : Int)))) 101061 (q : Int) (S 2601014 (3 * (q : Int) + 1))) 101062 (q : Int) (S 2601014 (3 * (q : Int) + 2))) 101060 (i : Int) = S 2601014 (3 * (i : Int)) ∧ (z_up (z_up (z_up N 101060 (q : Int) (S 2601014 (3 * (q : Int)))) 101061 (q : Int) (S 2601014 (3 * (q : Int) + 1))) 101062 (q : Int) (S 2601014 (3 * (q : Int) + 2))) 101061 (i : Int) = S 2601014 (3 * (i : Int) + 1) ∧ (z_up (z_up (z_up N 101060 (q : Int) (S 2601014 (3 * (q : Int)))) 101061 (q : Int) (S 2601014 (3 * (q : Int) + 1))) 101062 (q : Int) (S 2601014 (3 * (q : Int) + 2))) 101062 (i : Int) = S 2601014 (3 * (i : Int) + 2) := by
      intro i hi
      rw [z_up_ne (M := z_up (z_up N 101060 (q : Int) (S 2601014 (3 * (q : Int)))) 101061 (q : Int) (S 2601014 (3 * (q : Int) + 1))) (k := 101060) (by decide), z_up_ne (M := z_up (z_up N 101060 (q : Int) (S 2601014 (3 * (q : Int)))) 101061 (q : Int) (S 2601014 (3 * (q : Int) + 1))) (k := 101061) (by decide), z_up_ne (M := z_up N 101060 (q : Int) (S 2601014 (3 * (q : Int)))) (k := 101060) (by decide)]
      by_cases e : i = q
      · subst e
        rw [z_up_eq, z_up_eq, z_up_eq]; exact ⟨rfl, rfl, rfl⟩
      · have ne : (i : Int) ≠ (q : Int) := by omega
        rw [z_up_nj ne, z_up_nj ne, z_up_nj ne, z_up_ne (k := 101061) (by decide), z_up_ne (k := 101062) (by decide), z_up_ne (k := 101062) (by decide)]
        exact hl i (by omega)
    have k4 : (z_up (z_up (z_up N 101060 (q : Int) (S 2601014 (3 * (q : Int)))) 101061 (q : Int) (S 2601014 (3 * (q : Int) + 1))) 101062 (q : Int) (S 2601014 (3 * (q : Int) + 2))) 12 = N 12 := by rw [z_up_ne (by decide), z_up_ne (by decide), z_up_ne (by decide)]
    have hq1 := hl2 q (by omega)
    generalize z_up (z_up (z_up N 101060 (q : Int) (S 2601014 (3 * (q : Int)))) 101061 (q : Int) (S 2601014 (3 * (q : Int) + 1))) 101062 (q : Int) (S 2601014 (3 * (q : Int) + 2)) = N3 at *
    have nx' := nx N3 ⟨h3, hl2, by rw [k4]; exact e4, by rw [k4]; exact e5⟩
    rw [e3] at nx'
    have bad : zx_hg (S 2601014) q = false → z_G 0 (d + 1) z_m20 16 [z_R 12, z_R 2, z_I (n : Int), z_I ap, z_I 0, z_I ((q + 1 : Nat) : Int)] [] N3 Q := by
      intro e
      rw [e, Bool.not_false, Bool.or_true] at nx'
      exact nx'
    cases he : z_exn (fun q => !zx_hg (S 2601014) q) q with
    | true =>
      rw [he, Bool.true_or] at nx'
      exact ⟨fun _ => nx', fun c => absurd rfl c⟩
    | false =>
      rw [he, Bool.false_or] at nx'
      refine ⟨fun c => absurd (show zv_b (!false) = 0 from c) (by decide), fun _ => ⟨by omega, by omega, ?_⟩⟩
      rw [hq1.1]
      have two : S 2601014 (3 * (q : Int)) ≤ 1 → z_G 0 (d + 1) z_m20 97 [z_R 12, z_R 2, z_I (n : Int), z_I ap, z_I (zv_b (!false)), z_I (q : Int)] [] N3 Q := by
        intro c1
        refine rg_20_97 d ⟨by omega, by omega, ?_⟩
        rw [hq1.2.1, z_wq (by omega)]
        refine kc_isMinute d (fun c c2 => z_y1 ⟨by omega, by omega, ?_⟩) (fun c => z_n1 (bad (decide_eq_false (fun z => by omega))))
        rw [hq1.2.2]
        refine kc_isSpot d (fun c3 c4 => z_y1 ?_) (fun c3 => z_n1 (bad ?_))
        · have : zx_hg (S 2601014) q = true := decide_eq_true ⟨c1, c2, c4⟩
          rw [this] at nx'; exact nx'
        · exact decide_eq_false (fun z => by omega)
      refine ⟨fun c => two (by omega), fun c => ⟨by omega, by omega, fun c2 => bad ?_, fun c2 => two (by omega)⟩⟩
      exact decide_eq_false (fun z => by omega)
  · obtain ⟨hN, hl, e4, e5⟩ := hI'
    have hh := h N hN ⟨hl, e4, e5⟩
    refine rg_20_16 d ⟨fun _ => z_bl_of ?_ hh, fun c => absurd c (by omega)⟩
    cases z_exn (fun q => !zx_hg (S 2601014) q) n with
    | true => exact Or.inl rfl
    | false => exact Or.inr rfl
theorem kc_clear2 (d : Nat) (hS : z_sit S M) (h : ∀ N : z_M, z_sit (z_up S 2 1 0) N → (∀ k, k ≠ 2 → N k = M k) → Q z_U N) : z_Cl 0 d 130 [z_R 2] M Q :=
  re_130 d (h _ (z_at_up (z_at_up (z_sit_2 hS 0) _ _ _ rfl rfl) _ _ _ rfl rfl) (fun k hk => by rw [z_up_ne hk, z_up_ne hk, z_up_ne hk]))
theorem kc_halves (d : Nat) {n ap what : Int} (hS : z_sit S M) (hT : z_ITape S) (h1 : zx_h0 n ap (S 2 1) → ∀ N : z_M, z_sit (z_up S 2 1 0) N → Q (z_I (zx_hv (S 2601014) ap n.toNat what)) N) (h0 : ¬ zx_h0 n ap (S 2 1) → Q (z_I (-1)) M) : z_Cl 0 (d + 14) 208 [z_R 1, z_I n, z_I ap, z_I what] M Q := by
  refine re_208 (d + 13) ⟨fun c => h0 (fun z => by have := z.1; omega), fun n0 => ⟨fun c => h0 (fun z => by have := z.1; omega), fun n1 => kc_isMinute (d + 13) (fun a0 a1 => z_y1 ?_) (fun c => z_n1 (h0 (fun z => by have := z.2.1; omega)))⟩⟩
  obtain ⟨m, rfl⟩ := Int.eq_ofNat_of_zero_le (a := n) (by omega)
  refine re_128 (d + 13) ?_
  rw [z_w_id (x := 3 * (m : Int)) (by omega) (by omega), z_ff hS 2 1 rfl]
  refine ⟨fun c => z_n2 (h0 (fun z => by have := z.2.2; omega)), fun c => z_y2 ?_⟩
  have hh := h1 ⟨⟨n0, n1⟩, ⟨a0, by omega⟩, c⟩
  rw [show ((m : Int)).toNat = m from by omega] at hh
  have hb : zw_by3 (S 2601014) m := fun j j0 j1 => zw_by hT j0 (by omega)
  refine kc_load (d + 12) hS hT (by omega) c (fun N1 hN1 hl1 => z_viI (kc_clear2 (d + 13) hN1 (fun N hN hk => ?_)))
  have hl := zw_kl_of hl1 (hk _ (by decide)) (hk _ (by decide)) (hk _ (by decide)) (hk _ (by decide))
  have hN2 := hh N hN
  unfold zx_hv at hN2
  cases he : z_exn (fun q => !zx_hg (S 2601014) q) m with
  | true =>
    rw [if_pos he] at hN2
    exact ⟨fun c => absurd rfl c, fun _ => hN2⟩
  | false =>
    rw [if_neg (by rw [he]; decide)] at hN2
    refine ⟨fun _ => ⟨fun c20 => re_21 (d + 12) ⟨fun c2 => absurd c20 c2, fun _ => ?_⟩, fun c20 => ?_⟩, fun c => absurd (show zv_b (!false) = 0 from c) (by decide)⟩
    · rw [if_pos c20] at hN2
      exact kc_most hb (by omega) hl m 0 0 (d + 12) _ (by omega) (by decide) (by omega) (z_viI (z_viI hN2))
    · rw [if_neg c20] at hN2
      refine ⟨fun c2 => ?_, fun c2 => ⟨fun c3 => re_21 (d + 12) ⟨fun _ => ?_, fun c4 => absurd c4 c20⟩, fun c3 => ?_⟩⟩
      · rw [if_neg (by omega)] at hN2; exact hN2
      · rw [if_pos (by omega)] at hN2
        refine kc_partner d hN hb (by omega) hl c2 c3 (fun N3 hN3 => z_viI (z_viI ?_))
        have := hh N3 hN3
        unfold zx_hv at this
        rw [if_neg (by rw [he]; decide), if_neg c20, if_pos (by omega)] at this
        exact this
      · rw [if_neg (by omega)] at hN2; exact hN2
end ZHA2
