/-! DAYS: what holds in each -/
def zx_lb (v : Int) (j : Nat) : Bool := (Int64.ofInt v).toBitVec.getLsbD j
theorem zx_lb_or (a b : Int) (j : Nat) : zx_lb (z_orl a b) j = (zx_lb a j || zx_lb b j) := by
  unfold z_orl zx_lb
  rw [Int64.ofInt_toInt, Int64.toBitVec_or, BitVec.getLsbD_or]
theorem zx_lb_and (a b : Int) (j : Nat) : zx_lb (z_andl a b) j = (zx_lb a j && zx_lb b j) := by
  unfold z_andl zx_lb
  rw [Int64.ofInt_toInt, Int64.toBitVec_and, BitVec.getLsbD_and]
theorem zx_lb_0 (j : Nat) : zx_lb 0 j = false := by
  show (0#64).getLsbD j = false
  exact BitVec.getLsbD_zero
theorem zx_lb_sh {m j : Nat} (hm : m < 64) (hj : j < 64) : zx_lb (z_shll 1 (m : Int)) j = decide (j = m) := by
  have : ∀ a b : Fin 64, zx_lb (z_shll 1 ((a.val : Nat) : Int)) b.val = decide (b.val = a.val) := by decide +kernel
  exact this ⟨m, hm⟩ ⟨j, hj⟩
theorem zx_andl0 (a b : Int) : z_andl a b = 0 ↔ ∀ j, j < 64 → (zx_lb a j && zx_lb b j) = false := by
  constructor
  · intro h j _
    rw [← zx_lb_and, h, zx_lb_0]
  · intro h
    have e : (Int64.ofInt a &&& Int64.ofInt b) = 0 := by
      apply Int64.toBitVec_inj.mp
      apply BitVec.eq_of_getLsbD_eq
      intro j hj
      rw [Int64.toBitVec_and, BitVec.getLsbD_and]
      have := h j hj
      unfold zx_lb at this
      rw [this]
      exact BitVec.getLsbD_zero.symm
    unfold z_andl
    rw [e]; rfl
theorem zx_bsl_lt {n : Nat} (hn : n ≤ 40) (P : Nat → Bool) : z_bs n P < 1099511627776 := Nat.lt_of_lt_of_le (z_bs_lt n P) (Nat.le_trans (Nat.pow_le_pow_right (by decide) hn) (by decide))
theorem zx_bsl_or {n : Nat} {P : Nat → Bool} (hn : n < 40) (hp : P n = true) : z_orl (z_bs n P : Int) (z_shll 1 (n : Int)) = (z_bs (n + 1) P : Int) := by
  have h1 := zx_bsl_lt (n := n) (by omega) P
  have h2 : 2 ^ n < 2 ^ 40 := Nat.pow_lt_pow_right (by decide) hn
  have h3 : (2 : Nat) ^ 40 = 1099511627776 := by decide
  rw [zx_shll1_n (by omega), zx_orl_n (by omega) (by omega)]
  show _ = ((z_bs n P ||| (if P n = true then 2 ^ n else 0) : Nat) : Int)
  rw [if_pos hp]
theorem zx_m3 {x : Nat} : Int.tmod (x : Int) 3 = ((x % 3 : Nat) : Int) := rfl
theorem zx_m2 {x : Nat} : Int.tmod (x : Int) 2 = ((x % 2 : Nat) : Int) := rfl
theorem zx_d2 {x : Nat} (h : x < 1000000) : z_w (Int.tdiv (x : Int) 2) = ((x / 2 : Nat) : Int) := by
  have : Int.tdiv (x : Int) 2 = ((x / 2 : Nat) : Int) := rfl
  rw [this, z_w_id (by omega) (by omega)]
theorem zx_m64 {x : Nat} : Int.tmod (x : Int) 64 = ((x % 64 : Nat) : Int) := rfl
theorem zx_d64 {x : Nat} (h : x < 1000000) : z_w (Int.tdiv (x : Int) 64) = ((x / 64 : Nat) : Int) := by
  have : Int.tdiv (x : Int) 64 = ((x / 64 : Nat) : Int) := rfl
  rw [this, z_w_id (by omega) (by omega)]
theorem zx_dv3 {pr : Nat} (h : pr < 9) : z_w (Int.tdiv (pr : Int) 3) = ((pr / 3 : Nat) : Int) := by
  rw [z_td (by omega), z_w_id (by omega) (by omega)]; omega
theorem zx_ix9 {i pr : Nat} (hi : i < 40) (h : pr < 9) : z_w (z_w (9 * (i : Int)) + (pr : Int)) = 9 * (i : Int) + (pr : Int) := by
  rw [z_w_id (x := 9 * (i : Int)) (by omega) (by omega), z_w_id (by omega) (by omega)]
section ZDA2
variable {S M : z_M} {Q : z_V → z_M → Prop}
def zx_wt (S : z_M) (i : Nat) : Nat := (S 401092 (i : Int)).toNat
def zx_ot (S : z_M) (i : Nat) : Nat := (S 401096 (i : Int)).toNat
def zx_H (S : z_M) (i D : Nat) : Bool := z_hld S (i : Int) (3 * (zx_wt S i : Int) + (zx_ver S (zx_wt S i) (D / 2) : Int)) (if S 401096 (i : Int) = -1 then -3 else 3 * (zx_ot S i : Int) + (zx_ver S (zx_ot S i) (D / 2) : Int)) ((D % 2 : Nat) : Int)
theorem zx_hld_cg {i a b u a' b' u' : Int} (h : ∀ t, z_so S i a b u t = z_so S i a' b' u' t) : z_hld S i a b u = z_hld S i a' b' u' := by
  unfold z_hld
  exact z_ex_cg _ _ (fun j _ _ => h j)
theorem zx_hld_sh {i a b u a' b' : Int} (h : S 401095 i = 102) : z_hld S i a b u = z_hld S i a' b' u := zx_hld_cg (fun t => by unfold z_so; rw [h]; rfl)
theorem zx_hld_ns {i a b u u' : Int} (h : S 401095 i = 115 ∨ S 401095 i = 111 ∨ S 401095 i = 104 ∨ S 401095 i = 105 ∨ S 401095 i = 119) : z_hld S i a b u = z_hld S i a b u' := zx_hld_cg (fun t => by
  unfold z_so
  rcases h with h | h | h | h | h <;> rw [h] <;> rfl)
theorem zx_hld_al {i a b u b' u' : Int} (h : S 401095 i = 105) : z_hld S i a b u = z_hld S i a b' u' := zx_hld_cg (fun t => by unfold z_so; rw [h]; rfl)
/-- of one report and a pair of versions -/
def zx_th (S : z_M) (i pr : Nat) : Bool := decide (S 401095 (i : Int) = 102) || (zx_pv S (zx_wt S i) (pr / 3) && (decide (S 401096 (i : Int) = -1) || zx_pv S (zx_ot S i) (pr % 3)))
def zx_s1 (S : z_M) (i pr : Nat) : Bool := zx_th S i pr && z_hld S (i : Int) (3 * (zx_wt S i : Int) + ((pr / 3 : Nat) : Int)) (3 * (zx_ot S i : Int) + ((pr % 3 : Nat) : Int)) ((pr % 3 % 2 : Nat) : Int)
def zx_pq (S : z_M) (i D : Nat) : Nat := if S 401095 (i : Int) = 102 then D % 2 else 3 * zx_ver S (zx_wt S i) (D / 2) + (if S 401096 (i : Int) = -1 then 0 else zx_ver S (zx_ot S i) (D / 2))
theorem zx_pq_b {i D : Nat} : zx_pq S i D < 9 := by
  have := zx_ver_b (S := S) (zx_wt S i) (D / 2)
  have := zx_ver_b (S := S) (zx_ot S i) (D / 2)
  unfold zx_pq
  split
  · omega
  · split <;> omega
theorem zx_wtI {i : Nat} (hr : z_rowok S (i : Int)) : (zx_wt S i : Int) = S 401092 (i : Int) ∧ zx_wt S i < 10 ∧ z_tl S (zx_wt S i : Int) := by
  obtain ⟨_, ⟨w0, w1, w2⟩, _⟩ := hr
  have e : (zx_wt S i : Int) = S 401092 (i : Int) := Int.toNat_of_nonneg w0
  exact ⟨e, by omega, by rw [e]; exact ⟨w0, w1, w2⟩⟩
theorem zx_otI {i : Nat} (h : z_oth S (i : Int)) : (zx_ot S i : Int) = S 401096 (i : Int) ∧ zx_ot S i < 10 ∧ z_tl S (zx_ot S i : Int) := by
  obtain ⟨w0, w1, w2⟩ := h
  have e : (zx_ot S i : Int) = S 401096 (i : Int) := Int.toNat_of_nonneg w0
  exact ⟨e, by omega, by rw [e]; exact ⟨w0, w1, w2⟩⟩
/-- four sorts of rows -/
theorem zx_srt {i : Nat} (hr : z_rowok S (i : Int)) : ((S 401095 (i : Int) = 115 ∨ S 401095 (i : Int) = 111 ∨ S 401095 (i : Int) = 104 ∨ S 401095 (i : Int) = 119) ∧ z_oth S (i : Int)) ∨ (S 401095 (i : Int) = 105 ∧ S 401096 (i : Int) = -1) ∨ (S 401095 (i : Int) = 102 ∧ S 401096 (i : Int) = -1) := by
  obtain ⟨_, _, _, _, _, _, _, _, _, k⟩ := hr
  rcases k with ⟨a, b, _⟩ | ⟨a, b, _⟩ | ⟨a, b, _⟩ | ⟨a, b, _⟩
  · rcases a with a | a | a
    · exact Or.inl ⟨Or.inl a, b⟩
    · exact Or.inl ⟨Or.inr (Or.inl a), b⟩
    · exact Or.inl ⟨Or.inr (Or.inr (Or.inl a)), b⟩
  · exact Or.inl ⟨Or.inr (Or.inr (Or.inr a)), b⟩
  · exact Or.inr (Or.inl ⟨a, b⟩)
  · exact Or.inr (Or.inr ⟨a, b⟩)
theorem zx_s1_H {i : Nat} (hr : z_rowok S (i : Int)) (D : Nat) : zx_s1 S i (zx_pq S i D) = zx_H S i D := by
  obtain ⟨we, w1, wt⟩ := zx_wtI hr
  have wv := zx_ver_pl (D / 2) wt
  rcases zx_srt hr with ⟨k, o⟩ | ⟨k, o⟩ | ⟨k, o⟩
  · obtain ⟨oe, o1, ot⟩ := zx_otI o
    have ov := zx_ver_pl (D / 2) ot
    have kn : S 401095 (i : Int) ≠ 102 := by omega
    have on : S 401096 (i : Int) ≠ -1 := by have := o.1; omega
    unfold zx_s1 zx_th zx_pq zx_H
    rw [if_neg kn, if_neg on, if_neg on, decide_eq_false kn, decide_eq_false on]
    rw [show (3 * zx_ver S (zx_wt S i) (D / 2) + zx_ver S (zx_ot S i) (D / 2)) / 3 = zx_ver S (zx_wt S i) (D / 2) from by omega, show (3 * zx_ver S (zx_wt S i) (D / 2) + zx_ver S (zx_ot S i) (D / 2)) % 3 = zx_ver S (zx_ot S i) (D / 2) from by omega]
    rw [wv.2, ov.2]
    exact zx_hld_ns (by omega)
  · have kn : S 401095 (i : Int) ≠ 102 := by omega
    unfold zx_s1 zx_th zx_pq zx_H
    rw [if_neg kn, if_pos o, if_pos o, decide_eq_false kn, decide_eq_true o]
    rw [show (3 * zx_ver S (zx_wt S i) (D / 2) + 0) / 3 = zx_ver S (zx_wt S i) (D / 2) from by omega]
    rw [wv.2]
    exact zx_hld_al k
  · unfold zx_s1 zx_th zx_pq zx_H
    rw [if_pos k, if_pos o, decide_eq_true k]
    rw [show D % 2 % 3 % 2 = D % 2 from by omega]
    exact zx_hld_sh k
theorem kc_wt (d : Nat) {i : Nat} (hS : z_sit S M) (hr : z_rowok S (i : Int)) (hi : i < 40) (h : Q (z_I (zx_wt S i : Int)) M) : z_Cl 0 (d + 1) 92 [z_R 7, z_I (i : Int)] M Q := by
  refine re_92 d (kc_part d hS (by omega) (by omega) (by decide) (by decide) (z_viI ?_))
  rw [hr.1, ← (zx_wtI hr).1]; exact h
theorem kc_ot (d : Nat) {i : Nat} (hS : z_sit S M) (hr : z_rowok S (i : Int)) (hi : i < 40) (h : Q (z_I (if S 401096 (i : Int) = -1 then -2 else (zx_ot S i : Int))) M) : z_Cl 0 (d + 1) 93 [z_R 7, z_I (i : Int)] M Q := by
  refine re_93 d (kc_part d hS (by omega) (by omega) (by decide) (by decide) (z_viI ?_))
  obtain ⟨_, _, _, _, _, _, _, e, _⟩ := id hr
  rw [e]
  rcases zx_srt hr with ⟨_, o⟩ | ⟨_, o⟩ | ⟨_, o⟩
  · have on : S 401096 (i : Int) ≠ -1 := by have := o.1; omega
    rw [if_neg on] at h ⊢
    rw [← (zx_otI o).1]; exact h
  · rw [if_pos o] at h ⊢; exact h
  · rw [if_pos o] at h ⊢; exact h
/-- the pairs of all reports -/
def zx_sok (S N : z_M) (i pr : Nat) : Prop := ∀ i' pr' : Nat, pr' < 9 → (i' < i ∨ (i' = i ∧ pr' < pr)) → N 3604039 (9 * (i' : Int) + (pr' : Int)) = zv_b (zx_s1 S i' pr')
theorem kc_judgeSo (d : Nat) (hS : z_sit S M) (hI : z_IS S) (hR : z_IRep S) (h : ∀ N : z_M, z_sit S N → N 8 = M 8 → N 7291038 = M 7291038 → zx_sok S N (S 13 49).toNat 0 → z_Cl 0 (d + 5) 13 [z_R 8] N (fun _ N2 => Q (z_I 1) N2)) : z_G 0 (d + 6) z_m9 11 [z_R 8, z_I 0, z_U, z_U, z_U, z_U, z_U, z_U, z_U, z_U] [] M Q := by
  obtain ⟨r1, r2, r3, r4⟩ := id hR
  refine z_lpi (n := (S 13 49).toNat) (fun _ => ()) (fun i N => z_sit S N ∧ N 8 = M 8 ∧ N 7291038 = M 7291038 ∧ zx_sok S N i 0) (fun N _ q => z_G 0 (d + 6) z_m9 11 [z_R 8, z_I q, z_U, z_U, z_U, z_U, z_U, z_U, z_U, z_U] [] N Q) M ⟨hS, rfl, rfl, fun i' pr' _ c => by omega⟩ (fun i N hi hI' nx => ?_) (fun N hI' => ?_)
  · obtain ⟨hN, k8, kr, hso⟩ := hI'
    have hi40 : i < 40 := by omega
    have hr := r4 (i : Int) (by omega) (by omega)
    obtain ⟨we, w1, wt⟩ := zx_wtI hr
    refine rg_9_11 (d + 5) (re_89 (d + 5) ?_)
    rw [z_ff hN 7 5 rfl, r1]
    refine z_viI ⟨fun c => absurd c (by omega), fun _ => ?_⟩
    -- the row's pairs
    have pairs : ∀ (l2 l3 : Int), (l2 = zv_b (decide (S 401095 (i : Int) = 102))) → l3 = zv_b (decide (S 401096 (i : Int) = -1)) → z_G 0 (d + 6) z_m9 79 [z_R 8, z_I (i : Int), z_I l2, z_I l3, z_I (3 * (zx_wt S i : Int)), z_I (3 * (zx_ot S i : Int)), z_I 0, z_U, z_U, z_U] [] N Q := by
      intro l2 l3 e2 e3
      have ot10 : zx_ot S i < 10 := by
        rcases zx_srt hr with ⟨_, o⟩ | ⟨_, o⟩ | ⟨_, o⟩
        · exact (zx_otI o).2.1
        · unfold zx_ot; rw [o]; decide
        · unfold zx_ot; rw [o]; decide
      refine z_lpi (n := 9) (fun _ => ()) (fun pr N' => z_sit S N' ∧ N' 8 = M 8 ∧ N' 7291038 = M 7291038 ∧ zx_sok S N' i pr) (fun N' _ q => z_G 0 (d + 6) z_m9 79 [z_R 8, z_I (i : Int), z_I l2, z_I l3, z_I (3 * (zx_wt S i : Int)), z_I (3 * (zx_ot S i : Int)), z_I q, z_U, z_U, z_U] [] N' Q) N ⟨hN, k8, kr, fun i' pr' a b => hso i' pr' a b⟩ (fun pr N' hpr hI2 nx2 => ?_) (fun N' hI2 => ?_)
      · obtain ⟨hN', k8', kr', hso'⟩ := hI2
        -- what is written
        have wr : ∀ (N2 : z_M) (b : Bool), z_sit S N2 → N2 8 = M 8 → N2 7291038 = M 7291038 → zx_sok S N2 i pr → zx_s1 S i pr = b → ∀ l9 : Int, z_G 0 (d + 6) z_m9 189 [z_R 8, z_I (i : Int), z_I l2, z_I l3, z_I (3 * (zx_wt S i : Int)), z_I (3 * (zx_ot S i : Int)), z_I (pr : Int), z_I ((pr / 3 : Nat) : Int), z_I ((pr % 3 : Nat) : Int), z_I l9] [z_I (zv_b b), z_I (9 * (i : Int) + (pr : Int)), z_R 3604039] N2 Q := by
          intro N2 b a1 a2 a3 a4 eb l9
          refine rg_9_189 (d + 5) ⟨by omega, by omega, z_bl_of (by cases b <;> simp [zv_b]) ?_⟩
          rw [z_wq (by omega)]
          refine nx2 _ ⟨z_at_up a1 _ _ _ rfl rfl, by rw [z_up_ne (by decide)]; exact a2, by rw [z_up_ne (by decide)]; exact a3, fun i' pr' h1 h2 => ?_⟩
          by_cases e : i' = i ∧ pr' = pr
          · rw [e.1, e.2, z_up_eq, eb]
          · rw [z_up_nj (by omega)]
            exact a4 i' pr' h1 (by omega)
        have no : zx_th S i pr = false → z_G 0 (d + 6) z_m9 140 [z_R 8, z_I (i : Int), z_I l2, z_I l3, z_I (3 * (zx_wt S i : Int)), z_I (3 * (zx_ot S i : Int)), z_I (pr : Int), z_I ((pr / 3 : Nat) : Int), z_I ((pr % 3 : Nat) : Int), z_U] [] N' Q := by
          intro hth
          refine rg_9_140 (d + 5) (rg_9_141 (d + 5) ⟨fun _ => rg_9_188 (d + 5) ?_, fun c => absurd rfl c⟩)
          rw [zx_ix9 hi40 hpr]
          exact wr N' false hN' k8' kr' hso' (by unfold zx_s1; rw [hth, Bool.false_and]) 0
        have ys : zx_th S i pr = true → z_askable S (i : Int) (3 * (zx_wt S i : Int) + ((pr / 3 : Nat) : Int)) (3 * (zx_ot S i : Int) + ((pr % 3 : Nat) : Int)) ((pr % 3 % 2 : Nat) : Int) → z_G 0 (d + 6) z_m9 136 [z_R 8, z_I (i : Int), z_I l2, z_I l3, z_I (3 * (zx_wt S i : Int)), z_I (3 * (zx_ot S i : Int)), z_I (pr : Int), z_I ((pr / 3 : Nat) : Int), z_I ((pr % 3 : Nat) : Int), z_U] [] N' Q := by
          intro hth ask
          refine rg_9_136 (d + 5) (rg_9_141 (d + 5) ⟨fun c => absurd c (by decide), fun _ => ?_⟩)
          rw [zx_ix9 hi40 hpr, zx_m2, z_w_id (x := 3 * (zx_wt S i : Int) + ((pr / 3 : Nat) : Int)) (by omega) (by omega), z_w_id (x := 3 * (zx_ot S i : Int) + ((pr % 3 : Nat) : Int)) (by omega) (by omega)]
          refine kc_isSo (d + 1) hN' hI hr (by omega) (by omega) ask (fun N2 hN2 g2 => z_viI ?_)
          have b8 : N2 8 = M 8 := by rw [z_ag_k g2 8 rfl rfl]; exact k8'
          have br : N2 7291038 = M 7291038 := by rw [z_ag_k g2 7291038 rfl rfl]; exact kr'
          have bs : zx_sok S N2 i pr := fun i' pr' h1 h2 => by rw [z_ag_k g2 3604039 rfl rfl]; exact hso' i' pr' h1 h2
          cases hh : z_hld S (i : Int) (3 * (zx_wt S i : Int) + ((pr / 3 : Nat) : Int)) (3 * (zx_ot S i : Int) + ((pr % 3 : Nat) : Int)) ((pr % 3 % 2 : Nat) : Int) with
          | true => exact ⟨fun c => absurd (show zv_b true = 0 from c) (by decide), fun _ => wr N2 true hN2 b8 br bs (by unfold zx_s1; rw [hth, hh]; rfl) 1⟩
          | false => exact ⟨fun _ => rg_9_188 (d + 5) (wr N2 false hN2 b8 br bs (by unfold zx_s1; rw [hth, hh]; rfl) 1), fun c => absurd rfl c⟩
        have pl3 : (3 * (zx_wt S i : Int) + ((pr / 3 : Nat) : Int)) / 3 = (zx_wt S i : Int) := by omega
        refine rg_9_79 (d + 5) ⟨fun c => absurd c (by omega), fun _ => ?_⟩
        rw [zx_dv3 hpr, zx_m3, z_w_id (x := 3 * (zx_wt S i : Int) + ((pr / 3 : Nat) : Int)) (by omega) (by omega), z_w_id (x := 3 * (zx_ot S i : Int) + ((pr % 3 : Nat) : Int)) (by omega) (by omega)]
        refine ⟨fun c => ?_, fun c => kc_has (d + 5) hN' hI.1 (by omega) (by omega) (fun hp => z_y1 ⟨fun c3 => ?_, fun c3 => kc_has (d + 5) hN' hI.1 (by omega) (by omega) (fun hq => z_y1 ?_) (fun hq => z_n1 (no ?_))⟩) (fun hp => z_n1 (no ?_))⟩
        · have k : S 401095 (i : Int) = 102 := by
            by_cases k : S 401095 (i : Int) = 102
            · exact k
            · rw [decide_eq_false k] at e2; exact absurd e2 c
          refine ys (by unfold zx_th; rw [decide_eq_true k]; rfl) ⟨⟨by omega, by omega⟩, ⟨by omega, by omega⟩, ⟨by omega, by omega⟩, fun c => absurd k c, fun c => ?_⟩
          rcases zx_srt hr with ⟨k2, _⟩ | ⟨_, o⟩ | ⟨_, o⟩
          · omega
          · exact absurd o c
          · exact absurd o c
        · have o : S 401096 (i : Int) = -1 := by
            by_cases k : S 401096 (i : Int) = -1
            · exact k
            · rw [decide_eq_false k] at e3; exact absurd e3 c3
          exact ys (by unfold zx_th; rw [zx_pv_t.mpr hp, decide_eq_true o]; simp) ⟨⟨by omega, by omega⟩, ⟨by omega, by omega⟩, ⟨by omega, by omega⟩, fun _ => hp, fun c => absurd o c⟩
        · exact ys (by unfold zx_th; rw [zx_pv_t.mpr hp, zx_pv_t.mpr hq]; simp) ⟨⟨by omega, by omega⟩, ⟨by omega, by omega⟩, ⟨by omega, by omega⟩, fun _ => hp, fun _ => hq⟩
        · have k : ¬ S 401095 (i : Int) = 102 := fun k => by rw [decide_eq_true k] at e2; rw [c] at e2; exact absurd e2 (by decide)
          have o : ¬ S 401096 (i : Int) = -1 := fun k => by rw [decide_eq_true k] at e3; rw [c3] at e3; exact absurd e3 (by decide)
          have hq2 : zx_pv S (zx_ot S i) (pr % 3) = false := decide_eq_false (by rw [hq]; decide)
          unfold zx_th
          rw [decide_eq_false k, decide_eq_false o, hq2]; simp
        · have k : ¬ S 401095 (i : Int) = 102 := fun k => by rw [decide_eq_true k] at e2; rw [c] at e2; exact absurd e2 (by decide)
          have hq2 : zx_pv S (zx_wt S i) (pr / 3) = false := decide_eq_false (by rw [hp]; decide)
          unfold zx_th
          rw [decide_eq_false k, hq2]; simp
      · obtain ⟨hN', k8', kr', hso'⟩ := hI2
        refine rg_9_79 (d + 5) ⟨fun _ => ?_, fun c => absurd c (by decide)⟩
        rw [z_wq (by omega)]
        exact nx N' ⟨hN', k8', kr', fun i' pr' h1 h2 => hso' i' pr' h1 (by omega)⟩
    have go2 : ∀ l2 : Int, l2 = zv_b (decide (S 401095 (i : Int) = 102)) → z_Cl 0 (d + 5) 93 [z_R 7, z_I (i : Int)] N (fun v4 M4 => z_vi v4 fun x4 => ((0 ≤ x4 → z_G 0 (d + 5 + 1) z_m9 47 [z_R 8, z_I (i : Int), z_I l2, z_U, z_U, z_U, z_U, z_U, z_U, z_U] [z_I 0] M4 Q) ∧ (x4 < 0 → z_G 0 (d + 5 + 1) z_m9 47 [z_R 8, z_I (i : Int), z_I l2, z_U, z_U, z_U, z_U, z_U, z_U, z_U] [z_I 1] M4 Q))) := by
      intro l2 e2
      have fin : ∀ l3 : Int, l3 = zv_b (decide (S 401096 (i : Int) = -1)) → z_G 0 (d + 6) z_m9 47 [z_R 8, z_I (i : Int), z_I l2, z_U, z_U, z_U, z_U, z_U, z_U, z_U] [z_I l3] N Q := by
        intro l3 e3
        refine rg_9_47 (d + 5) (kc_wt (d + 4) hN hr hi40 (z_viI (kc_ot (d + 4) hN hr hi40 (z_viI ?_))))
        have em : z_w (3 * z_max 0 (if S 401096 (i : Int) = -1 then -2 else (zx_ot S i : Int))) = 3 * (zx_ot S i : Int) := by
          rcases zx_srt hr with ⟨_, o⟩ | ⟨_, o⟩ | ⟨_, o⟩
          · have := zx_otI o
            rw [if_neg (by have := o.1; omega)]
            unfold z_max
            split
            · rw [z_w_id (by omega) (by omega)]
            · have : (zx_ot S i : Int) = 0 := by omega
              rw [this]; decide
          · rw [if_pos o]; unfold zx_ot; rw [o]; decide
          · rw [if_pos o]; unfold zx_ot; rw [o]; decide
        rw [em, z_w_id (by omega) (by omega)]
        exact pairs l2 l3 e2 e3
      refine kc_ot (d + 4) hN hr hi40 (z_viI ?_)
      by_cases o : S 401096 (i : Int) = -1
      · rw [if_pos o]
        exact ⟨fun c => absurd c (by decide), fun _ => fin 1 (by rw [decide_eq_true o]; rfl)⟩
      · rw [if_neg o]
        exact ⟨fun _ => fin 0 (by rw [decide_eq_false o]; rfl), fun c => absurd c (by omega)⟩
    refine kc_isOfShadow (d + 4) hN hR (fun _ _ k => z_viI (go2 1 (by rw [decide_eq_true k]; rfl))) (fun c => z_viI (go2 0 ?_))
    rw [decide_eq_false (fun k => c ⟨by omega, by omega, k⟩)]; rfl
  · obtain ⟨hN, k8, kr, hso⟩ := hI'
    refine rg_9_11 (d + 5) (re_89 (d + 5) ?_)
    rw [z_ff hN 7 5 rfl, r1]
    exact z_viI ⟨fun _ => h N hN k8 kr hso, fun c => absurd c (by omega)⟩
end ZDA2
