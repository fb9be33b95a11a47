/-! OPS: ask, enough, the class's answers -/
section ZAS2
variable {S M : z_M} {Q : z_V → z_M → Prop}
def zy_be (S : z_M) (D : Nat) : Bool := decide (zx_cd S D = (zx_bm S (2 * zx_R S)).1)
def zy_W0 (S : z_M) : zy_F := fun P => z_cnt (fun D => zy_be S D && P (D / 2)) (2 * zx_R S)
theorem kc_among (d : Nat) {D : Nat} (n40 : zx_n S ≤ 40) (h7 : zx_R S ≤ 729) (hD : D < 2 * zx_R S) (hd : M 14582040 (D : Int) = (z_bs (zx_n S) (fun i => zx_H S i D) : Int)) (hm : M 8 7 = (zx_bm S (2 * zx_R S)).1) (h : Q (z_I (zv_b (zy_be S D))) M) : z_Cl 0 (d + 1) 7 [z_R 8, z_I (D : Int)] M Q := by
  refine re_7 d ⟨by omega, by omega, ?_⟩
  rw [hd]
  have lt40 := zx_bsl_lt n40 (fun i => zx_H S i D)
  refine kc_bitCountL d (by rw [show (256 : Nat) ^ 5 = 1099511627776 from by decide]; exact lt40) ?_
  rw [zx_cnt_bs n40, show z_cnt (fun i => zx_H S i D) (zx_n S) = zx_cd S D from rfl, hm]
  unfold zy_be at h
  refine z_viI ⟨fun c => ?_, fun c => ?_⟩
  · rw [decide_eq_false c] at h; exact h
  · rw [decide_eq_true c] at h; exact h
theorem kc_gather (d : Nat) (hS : z_sit S M) (hR : z_IRep S) (h7 : zx_R S ≤ 729) (hd : zx_DC S M) (h : ∀ (N : z_M) (n : Nat) (kk : Nat → Nat) (ww : Nat → Int), n ≤ 729 → (∀ i, i < n → 0 ≤ ww i ∧ ww i ≤ 2) → zy_ql S N n kk ww → zy_W kk ww n = zy_W0 S → Q z_U N) : z_Cl 0 (d + 2) 83 [z_R 9] M Q := by
  obtain ⟨en, n40⟩ := zx_nI hR
  obtain ⟨d6, dr, dh, dq, d7, d8, d9⟩ := hd
  have eR : z_w (Int.tdiv (M 8 6) 2) = (zx_R S : Int) := by
    rw [d6, show 2 * (zx_R S : Int) = ((2 * zx_R S : Nat) : Int) from by omega, zx_d2 (by omega)]
    omega
  refine re_83 (d + 1) ?_
  have key : ∀ (r k n : Nat) (N : z_M) (kk : Nat → Nat) (ww : Nat → Int), k + r = zx_R S → n ≤ k → (∀ i, i < n → 0 ≤ ww i ∧ ww i ≤ 2) → zy_ql S N n kk ww → (∀ j, j ≠ 7291043 → j ≠ 7291044 → j ≠ 9 → N j = M j) → (∀ P : Nat → Bool, zx_sw P kk ww n = z_cnt (fun D => zy_be S D && P (D / 2)) (2 * k)) → z_G 0 (d + 2) z_m83 12 [z_R 9, z_I (k : Int), z_U] [] N Q := by
    intro r
    induction r with
    | zero =>
      intro k n N kk ww hk hnk hw hq hf hs
      have ek : k = zx_R S := by omega
      refine rg_83_12 (d + 1) (re_0 (d + 1) ?_)
      rw [hf 8 (by decide) (by decide) (by decide)]
      refine z_viI ?_
      rw [eR]
      exact ⟨fun _ => h N n kk ww (by omega) hw hq (funext fun P => by
        have e := hs P
        rw [ek] at e
        exact e), fun c => absurd c (by omega)⟩
    | succ r ih =>
      intro k n N kk ww hk hnk hw hq hf hs
      have among : ∀ (D : Nat) (K : z_V → z_M → Prop), D < 2 * zx_R S → K (z_I (zv_b (zy_be S D))) N → z_Cl 0 (d + 1) 7 [z_R 8, z_I (D : Int)] N K := fun D K hD hK => kc_among d n40 h7 hD (by rw [hf _ (by decide) (by decide) (by decide)]; exact dh D hD) (by rw [hf _ (by decide) (by decide) (by decide)]; exact d7) hK
      have ec : ∀ P : Nat → Bool, z_cnt (fun D => zy_be S D && P (D / 2)) (2 * (k + 1)) = z_cnt (fun D => zy_be S D && P (D / 2)) (2 * k) + zv_b (zy_be S (2 * k) && P k) + zv_b (zy_be S (2 * k + 1) && P k) := by
        intro P
        show z_cnt _ (2 * k) + zv_b (zy_be S (2 * k) && P (2 * k / 2)) + zv_b (zy_be S (2 * k + 1) && P ((2 * k + 1) / 2)) = _
        rw [show 2 * k / 2 = k from by omega, show (2 * k + 1) / 2 = k from by omega]
      have swb := zx_sw_b (P := zy_tt) (kk := kk) n hw
      have fin : z_G 0 (d + 2) z_m83 63 [z_R 9, z_I (k : Int), z_U] [z_I (zv_b (zy_be S (2 * k + 1))), z_I (zv_b (zy_be S (2 * k)))] N Q := by
        have wb : 0 ≤ zv_b (zy_be S (2 * k)) + zv_b (zy_be S (2 * k + 1)) ∧ zv_b (zy_be S (2 * k)) + zv_b (zy_be S (2 * k + 1)) ≤ 2 := by
          unfold zv_b; split <;> split <;> omega
        have ew : ∀ P : Nat → Bool, (if P k = true then zv_b (zy_be S (2 * k)) + zv_b (zy_be S (2 * k + 1)) else 0) = zv_b (zy_be S (2 * k) && P k) + zv_b (zy_be S (2 * k + 1) && P k) := by
          intro P
          cases P k <;> cases zy_be S (2 * k) <;> cases zy_be S (2 * k + 1) <;> rfl
        generalize ew0 : zv_b (zy_be S (2 * k)) + zv_b (zy_be S (2 * k + 1)) = w at *
        have e0 : N 9 7 = (n : Int) := hq.2.1.1
        have el : N 9 8 = zx_sw zy_tt kk ww n := hq.2.2
        refine rg_83_63 (d + 1) ?_
        rw [ew0, z_w_id (x := w) (by omega) (by omega), z_wq (q := k) (by omega)]
        refine ⟨fun c => ?_, fun c => re_6 (d + 1) ⟨by omega, by omega, z_viI ⟨by omega, by omega, ?_⟩⟩⟩
        · refine ih (k + 1) n N kk ww (by omega) (by omega) hw hq hf (fun P => ?_)
          have := ew P
          rw [show w = 0 from by omega] at this
          rw [hs P, ec P]
          have z0 : (if P k = true then (0 : Int) else 0) = 0 := by split <;> rfl
          omega
        · rw [hf 7291038 (by decide) (by decide) (by decide), dr k (by omega)]
          rw [z_up_ne (M := N) (k := 9) (by decide), e0, z_up_nj (M := z_up (z_up N 7291043 (n : Int) (z_bs 30 (zx_rb S k 10) : Int)) 7291044 (n : Int) w) (by decide), z_up_ne (M := z_up N 7291043 (n : Int) (z_bs 30 (zx_rb S k 10) : Int)) (k := 9) (by decide), z_up_ne (M := N) (k := 9) (by decide), e0, el, z_wq (q := n) (by omega), z_w_id (x := zx_sw zy_tt kk ww n + w) (by omega) (by omega)]
          refine ⟨by omega, by omega, ?_⟩
          have hsw : ∀ P : Nat → Bool, zx_sw P (fun m => if m = n then k else kk m) (fun m => if m = n then w else ww m) (n + 1) = zx_sw P kk ww n + (if P k = true then w else 0) := by
            intro P
            show zx_sw P _ _ n + (if P (if n = n then k else kk n) = true then (if n = n then w else ww n) else 0) = _
            rw [if_pos rfl, if_pos rfl]
            congr 1
            exact zx_sw_ext n (fun m hm => by rw [if_neg (by omega), if_neg (by omega)]; exact ⟨rfl, rfl⟩)
          refine ih (k + 1) (n + 1) _ (fun m => if m = n then k else kk m) (fun m => if m = n then w else ww m) (by omega) (by omega) (fun i hi => ?_) ⟨z_at_up (z_at_up (z_at_up (z_at_up hq.1 _ _ _ rfl rfl) _ _ _ rfl rfl) _ _ _ rfl rfl) _ _ _ rfl rfl, ⟨by rw [z_up_nj (by decide), z_up_eq], fun i hi => ?_⟩, ?_⟩ (fun j a b c => by rw [z_up_ne c, z_up_ne c, z_up_ne b, z_up_ne a]; exact hf j a b c) (fun P => ?_)
          · by_cases e : i = n
            · rw [if_pos e]; omega
            · rw [if_neg e]; exact hw i (by omega)
          · rw [z_up_ne (k := 7291043) (by decide), z_up_ne (k := 7291043) (by decide), z_up_ne (k := 7291043) (by decide), z_up_ne (k := 7291044) (by decide), z_up_ne (k := 7291044) (by decide)]
            by_cases e : i = n
            · dsimp only
              rw [if_pos e, if_pos e, e, z_up_eq, z_up_eq]; exact ⟨rfl, rfl⟩
            · dsimp only
              rw [if_neg e, if_neg e, z_up_nj (by omega), z_up_nj (by omega), z_up_ne (by decide)]
              exact hq.2.1.2 i (by omega)
          · rw [z_up_eq]
            show _ = zx_sw zy_tt _ _ (n + 1)
            rw [hsw zy_tt]
            rfl
          · rw [hsw P, hs P, ec P, ew P]; omega
      have e2k : z_w (2 * (k : Int)) = ((2 * k : Nat) : Int) := by rw [z_w_id (by omega) (by omega)]; omega
      have e2k1 : z_w (z_w (2 * (k : Int)) + 1) = ((2 * k + 1 : Nat) : Int) := by rw [e2k, z_w_id (by omega) (by omega)]; omega
      have sec : ∀ b : Bool, b = zy_be S (2 * k) → z_G 0 (d + 2) z_m83 43 [z_R 9, z_I (k : Int), z_U] [z_I (zv_b b)] N Q := by
        intro b eb
        refine rg_83_43 (d + 1) ?_
        rw [e2k1, eb]
        refine among (2 * k + 1) _ (by omega) (z_viI ?_)
        cases hx : zy_be S (2 * k + 1) with
        | true => rw [hx] at fin; exact ⟨fun c => absurd (show zv_b true = 0 from c) (by decide), fun _ => fin⟩
        | false => rw [hx] at fin; exact ⟨fun _ => fin, fun c => absurd rfl c⟩
      refine rg_83_12 (d + 1) (re_0 (d + 1) ?_)
      rw [hf 8 (by decide) (by decide) (by decide)]
      refine z_viI ?_
      rw [eR, e2k]
      refine ⟨fun c => absurd c (by omega), fun _ => among (2 * k) _ (by omega) (z_viI ?_)⟩
      cases hx : zy_be S (2 * k) with
      | true => exact ⟨fun c => absurd (show zv_b true = 0 from c) (by decide), fun _ => sec true hx.symm⟩
      | false => exact ⟨fun _ => sec false hx.symm, fun c => absurd rfl c⟩
  refine key (zx_R S) 0 0 _ (fun _ => 0) (fun _ => 0) (by omega) (Nat.le_refl 0) (fun i hi => absurd hi (Nat.not_lt_zero i)) ⟨z_at_up (z_at_up hS _ _ _ rfl rfl) _ _ _ rfl rfl, ⟨by rw [z_up_nj (by decide), z_up_eq]; rfl, fun i hi => absurd hi (Nat.not_lt_zero i)⟩, by rw [z_up_eq]; rfl⟩ (fun j a b c => by rw [z_up_ne c, z_up_ne c]) (fun P => rfl)
def zy_askv (S : z_M) (a : Int) : Int := if ¬ (0 ≤ a ∧ a ≤ 3) then -1 else if 729 < zx_R S then -3 else
  if a = 0 then (zy_pk S (zy_W0 S) (zy_W0 S zy_tt + 1)).2.1 else if a = 1 then (zy_pk S (zy_W0 S) (zy_W0 S zy_tt + 1)).2.2
  else if a = 2 then z_min (zy_pk S (zy_W0 S) (zy_W0 S zy_tt + 1)).1 (zy_W0 S zy_tt) else zy_W0 S zy_tt
theorem kc_ask (d : Nat) {a : Int} (hS : z_sit S M) (hI : z_IS S) (hR : z_IRep S) (h0 : zx_Q0 S) (h : ∀ N : z_M, z_sit S N → Q (z_I (zy_askv S a)) N) : z_Cl 0 (d + 7) 186 [z_R 1, z_I a] M Q := by
  unfold zy_askv at h
  have no : ¬ (0 ≤ a ∧ a ≤ 3) → Q (z_I (-1)) M := fun c => by
    have h' := h M hS
    rw [if_pos c] at h'; exact h'
  refine re_186 (d + 6) ⟨fun c => no (by omega), fun a0 => ⟨fun a3 => kc_judge d hS hI hR (fun h7 N hN hd => z_y1 ?_) (fun h7 => z_n1 ?_), fun c => no (by omega)⟩⟩
  · refine re_81 (d + 5) (kc_gather (d + 3) hN hR h7 hd (fun N2 n kk ww hn hw hq eW => kc_pick d hI h0 hn hw hq (fun N3 q3 e9 e10 e11 => ?_)))
    have h' := h N3 q3.1
    rw [if_neg (fun c => c ⟨a0, a3⟩), if_neg (by omega)] at h'
    have el := q3.2.2
    rw [eW] at e9 e10 e11 el
    refine ⟨⟨fun c => z_viI ?_, fun c => z_viI ?_, fun c => z_viI ?_, trivial⟩, fun c => z_viI ?_⟩
    · rw [if_pos c] at h'; rw [e9]; exact h'
    · rw [if_neg (by omega), if_pos c] at h'; rw [e10]; exact h'
    · rw [if_neg (by omega), if_neg (by omega), if_pos c] at h'; rw [e11]; exact h'
    · rw [if_neg (by omega), if_neg (by omega), if_neg (by omega)] at h'; rw [el]; exact h'
  · have h' := h M hS
    rw [if_neg (fun c => c ⟨a0, a3⟩), if_pos h7] at h'; exact h'
/-- all questions -/
def zy_nw (S : z_M) (W : zy_F) : zy_F := zy_nx W (zx_A S (zy_pk S W (W zy_tt + 1)).2.1.toNat (zy_pk S W (W zy_tt + 1)).2.2) (zy_lk W (zx_A S (zy_pk S W (W zy_tt + 1)).2.1.toNat (zy_pk S W (W zy_tt + 1)).2.2) 1024)
def zy_en (S : z_M) : Nat → zy_F → Int × Int
  | 0 => fun W => (0, W zy_tt)
  | f + 1 => fun W => if 1 < W zy_tt ∧ (zy_pk S W (W zy_tt + 1)).1 < W zy_tt then ((zy_en S f (zy_nw S W)).1 + 1, (zy_en S f (zy_nw S W)).2) else (0, W zy_tt)
theorem zy_nw_tt {W : zy_F} (hp : ∀ P, 0 ≤ W P) (h : (zy_pk S W (W zy_tt + 1)).1 < W zy_tt) : zy_nw S W zy_tt = (zy_pk S W (W zy_tt + 1)).1 := by
  rcases zy_pk_i (S := S) W (W zy_tt + 1) with ⟨_, e⟩ | ⟨w, v, _, _, e⟩
  · rw [e] at h; omega
  · unfold zy_nw zy_nx
    rw [e]
    dsimp only
    rw [Int.toNat_natCast, ← zy_lk_mx hp]
    rfl
theorem zy_W_p {kk : Nat → Nat} {ww : Nat → Int} {n : Nat} (hw : ∀ i, i < n → 0 ≤ ww i ∧ ww i ≤ 2) : ∀ P, 0 ≤ zy_W kk ww n P := fun P => (zx_sw_b (P := P) (kk := kk) n hw).1
theorem kc_all (d : Nat) {a : Int} (hI : z_IS S) (h0 : zx_Q0 S) : ∀ (f : Nat) (n : Nat) (kk : Nat → Nat) (ww : Nat → Int) (M : z_M) (asked : Int) (Q : z_V → z_M → Prop), n ≤ 729 → (∀ i, i < n → 0 ≤ ww i ∧ ww i ≤ 2) → zy_ql S M n kk ww → M 9 9 = (zy_pk S (zy_W kk ww n) (zy_W kk ww n zy_tt + 1)).2.1 → M 9 10 = (zy_pk S (zy_W kk ww n) (zy_W kk ww n zy_tt + 1)).2.2 → M 9 11 = z_min (zy_pk S (zy_W kk ww n) (zy_W kk ww n zy_tt + 1)).1 (zy_W kk ww n zy_tt) → 0 ≤ asked → zy_W kk ww n zy_tt ≤ (f : Int) → asked + (f : Int) ≤ 1458 → (∀ N : z_M, z_sit S N → Q (z_I (if a = 0 then asked + (zy_en S f (zy_W kk ww n)).1 else (zy_en S f (zy_W kk ww n)).2)) N) → z_G 0 (d + 6) z_m82 10 [z_R 9, z_I a, z_I asked] [] M Q := by
  intro f
  induction f with
  | zero =>
    intro n kk ww M asked Q hn hw hq _ _ _ as0 hf _ h
    have h' := h M hq.1
    have el := hq.2.2
    have e1 : zy_en S 0 (zy_W kk ww n) = (0, zy_W kk ww n zy_tt) := rfl
    rw [e1] at h'
    refine rg_82_10 (d + 5) ?_
    rw [el]
    refine ⟨fun _ => ⟨fun c => ?_, fun c => ?_⟩, fun c => absurd c (by omega)⟩
    · rw [if_neg c] at h'; exact h'
    · rw [if_pos c] at h'
      dsimp only at h'
      rw [Int.add_zero] at h'; exact h'
  | succ f ih =>
    intro n kk ww M asked Q hn hw hq e9 e10 e11 as0 hf ha h
    have el := hq.2.2
    have hp := zy_W_p (kk := kk) hw
    have e1 : zy_en S (f + 1) (zy_W kk ww n) = if 1 < zy_W kk ww n zy_tt ∧ (zy_pk S (zy_W kk ww n) (zy_W kk ww n zy_tt + 1)).1 < zy_W kk ww n zy_tt then ((zy_en S f (zy_nw S (zy_W kk ww n))).1 + 1, (zy_en S f (zy_nw S (zy_W kk ww n))).2) else (0, zy_W kk ww n zy_tt) := rfl
    have stop : ¬ (1 < zy_W kk ww n zy_tt ∧ (zy_pk S (zy_W kk ww n) (zy_W kk ww n zy_tt + 1)).1 < zy_W kk ww n zy_tt) → (¬ a = 0 → Q (z_I (zy_W kk ww n zy_tt)) M) ∧ (a = 0 → Q (z_I asked) M) := by
      intro c
      have h' := h M hq.1
      rw [e1, if_neg c] at h'
      dsimp only at h'
      refine ⟨fun c => ?_, fun c => ?_⟩
      · rw [if_neg c] at h'; exact h'
      · rw [if_pos c, Int.add_zero] at h'; exact h'
    have mn : (zy_pk S (zy_W kk ww n) (zy_W kk ww n zy_tt + 1)).1 < zy_W kk ww n zy_tt → z_min (zy_pk S (zy_W kk ww n) (zy_W kk ww n zy_tt + 1)).1 (zy_W kk ww n zy_tt) = (zy_pk S (zy_W kk ww n) (zy_W kk ww n zy_tt + 1)).1 := fun c => by unfold z_min; rw [if_neg (by omega)]
    have mn2 : ¬ (zy_pk S (zy_W kk ww n) (zy_W kk ww n zy_tt + 1)).1 < zy_W kk ww n zy_tt → zy_W kk ww n zy_tt ≤ z_min (zy_pk S (zy_W kk ww n) (zy_W kk ww n zy_tt + 1)).1 (zy_W kk ww n zy_tt) := fun c => by unfold z_min; split <;> omega
    refine rg_82_10 (d + 5) ?_
    rw [el, e11]
    refine ⟨fun c => stop (fun z => by omega), fun c1 => ⟨fun c => stop (fun z => by rw [mn z.2] at c; omega), fun c2 => ⟨fun c => absurd c (by omega), fun _ => ?_⟩⟩⟩
    have c3 : (zy_pk S (zy_W kk ww n) (zy_W kk ww n zy_tt + 1)).1 < zy_W kk ww n zy_tt := by
      by_cases c : (zy_pk S (zy_W kk ww n) (zy_W kk ww n zy_tt + 1)).1 < zy_W kk ww n zy_tt
      · exact c
      · have := mn2 c; omega
    have ntt := zy_nw_tt (S := S) hp c3
    rcases zy_pk_i (S := S) (zy_W kk ww n) (zy_W kk ww n zy_tt + 1) with ⟨_, e⟩ | ⟨w, v, hv, hwt, e⟩
    · rw [e] at c3; omega
    · have enw : zy_nw S (zy_W kk ww n) = zy_nx (zy_W kk ww n) (zx_A S w (v : Int)) (zy_lk (zy_W kk ww n) (zx_A S w (v : Int)) 1024) := by
        unfold zy_nw
        rw [e]
        dsimp only
        rw [Int.toNat_natCast]
      have f9 : M 9 9 = (w : Int) := by rw [e9, e]
      have f10 : M 9 10 = (v : Int) := by rw [e10, e]
      refine kc_keepMost d hI h0 hn hw hq hwt hv f9 f10 (fun N n' kk' ww' hn' hw' hq' eW' => kc_pick d hI h0 hn' hw' hq' (fun N2 q2 g9 g10 g11 => ?_))
      rw [← enw] at eW'
      rw [z_w_id (x := asked + 1) (by omega) (by omega)]
      refine ih n' kk' ww' N2 (asked + 1) Q hn' hw' q2 g9 g10 g11 (by omega) (by rw [eW', ntt]; omega) (by omega) (fun N3 hN3 => ?_)
      have h' := h N3 hN3
      rw [e1, if_pos (show 1 < zy_W kk ww n zy_tt ∧ (zy_pk S (zy_W kk ww n) (zy_W kk ww n zy_tt + 1)).1 < zy_W kk ww n zy_tt from ⟨c1, c3⟩)] at h'
      dsimp only at h'
      rw [eW']
      rw [show asked + ((zy_en S f (zy_nw S (zy_W kk ww n))).1 + 1) = asked + 1 + (zy_en S f (zy_nw S (zy_W kk ww n))).1 from by omega] at h'
      exact h'
def zy_env (S : z_M) (a : Int) : Int := if ¬ (0 ≤ a ∧ a ≤ 1) then -1 else if 729 < zx_R S then -3 else if a = 0 then (zy_en S 1458 (zy_W0 S)).1 else (zy_en S 1458 (zy_W0 S)).2
theorem kc_enough (d : Nat) {a : Int} (hS : z_sit S M) (hI : z_IS S) (hR : z_IRep S) (h0 : zx_Q0 S) (h : ∀ N : z_M, z_sit S N → Q (z_I (zy_env S a)) N) : z_Cl 0 (d + 7) 187 [z_R 1, z_I a] M Q := by
  unfold zy_env at h
  have no : ¬ (0 ≤ a ∧ a ≤ 1) → Q (z_I (-1)) M := fun c => by
    have h' := h M hS
    rw [if_pos c] at h'; exact h'
  refine re_187 (d + 6) ⟨fun c => no (by omega), fun a0 => ⟨fun a3 => kc_judge d hS hI hR (fun h7 N hN hd => z_y1 ?_) (fun h7 => z_n1 ?_), fun c => no (by omega)⟩⟩
  · refine re_82 (d + 5) (kc_gather (d + 3) hN hR h7 hd (fun N2 n kk ww hn hw hq eW => kc_pick d hI h0 hn hw hq (fun N3 q3 e9 e10 e11 => ?_)))
    have lb := zx_sw_b (P := zy_tt) (kk := kk) n hw
    refine kc_all d hI h0 1458 n kk ww N3 0 _ hn hw q3 e9 e10 e11 (by decide) (by show zx_sw zy_tt kk ww n ≤ _; omega) (by decide) (fun N4 hN4 => z_viI ?_)
    have h' := h N4 hN4
    rw [if_neg (fun c => c ⟨a0, a3⟩), if_neg (by omega)] at h'
    rw [eW, Int.zero_add]
    exact h'
  · have h' := h M hS
    rw [if_neg (fun c => c ⟨a0, a3⟩), if_pos h7] at h'; exact h'
end ZAS2
