/-! DAYS: rows -/
theorem zx_sdiv {q st : Nat} (h : 0 < st) : (q + 1) / st = (if (q + 1) % st = 0 then q / st + 1 else q / st) := by
  have hr := Nat.mod_lt q h
  have e := Nat.div_add_mod q st
  by_cases c : q % st + 1 = st
  · have e1 : q + 1 = st * (q / st + 1) := by rw [Nat.mul_add, Nat.mul_one]; omega
    rw [e1, Nat.mul_mod_right, if_pos rfl, Nat.mul_div_cancel_left _ h]
  · have e1 : q + 1 = st * (q / st) + (q % st + 1) := by omega
    have e2 : (q + 1) % st = q % st + 1 := by
      rw [e1, Nat.mul_add_mod]
      exact Nat.mod_eq_of_lt (by omega)
    rw [e2, if_neg (by omega)]
    have e3 : (q % st + 1) / st = 0 := Nat.div_eq_of_lt (by omega)
    rw [e1, Nat.mul_add_div h, e3, Nat.add_zero]
theorem zx_max1 {x : Nat} (h : 1 ≤ x) : z_max 1 (x : Int) = (x : Int) := by
  unfold z_max
  split <;> omega
section ZDAY
variable {S M : z_M} {Q : z_V → z_M → Prop}
def zx_pv (S : z_M) (p v : Nat) : Bool := decide (S 304067 (3 * (p : Int) + (v : Int)) = 1)
theorem zx_pv_t {p v : Nat} : zx_pv S p v = true ↔ S 304067 (3 * (p : Int) + (v : Int)) = 1 := ⟨fun h => of_decide_eq_true h, fun h => decide_eq_true h⟩
theorem zx_pv_f {p v : Nat} (h : S 304067 (3 * (p : Int) + (v : Int)) = 0) : ¬ zx_pv S p v = true := fun c => by
  have := zx_pv_t.mp c
  rw [h] at this; exact absurd this (by decide)
theorem zx_pv0 {p : Nat} (ht : z_tl S (p : Int)) : zx_pv S p 0 = true := by
  refine zx_pv_t.mpr ?_
  rw [show 3 * (p : Int) + ((0 : Nat) : Int) = 3 * (p : Int) from by omega]; exact ht.2.2
def zx_nv (S : z_M) (p : Nat) : Nat := (if zx_pv S p 0 then 1 else 0) + (if zx_pv S p 1 then 1 else 0) + (if zx_pv S p 2 then 1 else 0)
def zx_g (S : z_M) (p : Nat) : Nat := if z_tl S (p : Int) then zx_nv S p else 1
def zx_U (S : z_M) : Nat → Nat
  | 0 => 1
  | m + 1 => zx_g S (9 - m) * zx_U S m
def zx_P (S : z_M) : Nat → Nat
  | 0 => 1
  | p + 1 => zx_P S p * zx_g S p
theorem zx_g_b (S : z_M) (p : Nat) : 1 ≤ zx_g S p ∧ zx_g S p ≤ 3 := by
  unfold zx_g
  split
  · next c =>
    unfold zx_nv
    have := zx_pv0 c
    rw [if_pos this]
    split <;> split <;> omega
  · omega
theorem zx_PU (S : z_M) : ∀ p, p ≤ 10 → zx_P S p * zx_U S (10 - p) = zx_U S 10 := by
  intro p
  induction p with
  | zero => intro _; exact Nat.one_mul _
  | succ p ih =>
    intro hp
    rw [← ih (by omega)]
    show zx_P S p * zx_g S p * zx_U S (10 - (p + 1)) = zx_P S p * zx_U S (10 - p)
    have e : zx_U S (10 - p) = zx_g S p * zx_U S (10 - (p + 1)) := by
      rw [show 10 - p = (10 - (p + 1)) + 1 from by omega]
      show zx_g S (9 - (10 - (p + 1))) * _ = _
      rw [show 9 - (10 - (p + 1)) = p from by omega]
    rw [e, Nat.mul_assoc]
def zx_R (S : z_M) : Nat := zx_U S 10
theorem zx_P10 (S : z_M) : zx_P S 10 = zx_R S := by
  have := zx_PU S 10 (by omega)
  exact (Nat.mul_one _).symm.trans this
theorem zx_U_b (S : z_M) : ∀ m, 1 ≤ zx_U S m ∧ zx_U S m ≤ 3 ^ m := by
  intro m
  induction m with
  | zero => exact ⟨Nat.le_refl _, Nat.le_refl _⟩
  | succ m ih =>
    have g := zx_g_b S (9 - m)
    show 1 ≤ zx_g S (9 - m) * zx_U S m ∧ zx_g S (9 - m) * zx_U S m ≤ 3 ^ (m + 1)
    refine ⟨Nat.mul_pos (by omega) (by omega), ?_⟩
    rw [Nat.pow_succ, Nat.mul_comm]
    exact Nat.mul_le_mul ih.2 g.2
theorem zx_P_b (S : z_M) : ∀ m, 1 ≤ zx_P S m ∧ zx_P S m ≤ 3 ^ m := by
  intro m
  induction m with
  | zero => exact ⟨Nat.le_refl _, Nat.le_refl _⟩
  | succ m ih =>
    have g := zx_g_b S m
    show 1 ≤ zx_P S m * zx_g S m ∧ zx_P S m * zx_g S m ≤ 3 ^ (m + 1)
    refine ⟨Nat.mul_pos (by omega) (by omega), ?_⟩
    rw [Nat.pow_succ]
    exact Nat.mul_le_mul ih.2 g.2
theorem zx_P_mono (S : z_M) (p : Nat) : zx_P S p ≤ zx_P S (p + 1) := Nat.le_mul_of_pos_right _ (zx_g_b S p).1
def zx_vn (S : z_M) (p m : Nat) : Nat := if m = 0 then 0 else if m = 1 ∧ zx_pv S p 1 then 1 else 2
def zx_ver (S : z_M) (p k : Nat) : Nat := if z_tl S (p : Int) then zx_vn S p ((k / zx_U S (9 - p)) % zx_g S p) else 0
theorem zx_vn_pl {p m : Nat} (ht : z_tl S (p : Int)) (hm : m < zx_g S p) : zx_vn S p m < 3 ∧ zx_pv S p (zx_vn S p m) := by
  have p0 := zx_pv0 ht
  unfold zx_g at hm
  rw [if_pos ht] at hm
  unfold zx_nv at hm
  rw [if_pos p0] at hm
  unfold zx_vn
  by_cases c0 : m = 0
  · rw [if_pos c0]; exact ⟨by omega, p0⟩
  · rw [if_neg c0]
    by_cases c1 : m = 1 ∧ zx_pv S p 1
    · rw [if_pos c1]; exact ⟨by omega, c1.2⟩
    · rw [if_neg c1]
      refine ⟨by omega, ?_⟩
      by_cases p2 : zx_pv S p 2
      · exact p2
      · rw [if_neg p2] at hm
        by_cases p1 : zx_pv S p 1
        · rw [if_pos p1] at hm
          exact absurd ⟨by omega, p1⟩ c1
        · rw [if_neg p1] at hm
          omega
theorem zx_ver_pl {p : Nat} (k : Nat) (ht : z_tl S (p : Int)) : zx_ver S p k < 3 ∧ zx_pv S p (zx_ver S p k) := by
  unfold zx_ver
  rw [if_pos ht]
  exact zx_vn_pl ht (Nat.mod_lt _ (zx_g_b S p).1)
theorem zx_ver_b (p k : Nat) : zx_ver S p k < 3 := by
  by_cases ht : z_tl S (p : Int)
  · exact (zx_ver_pl k ht).1
  · unfold zx_ver; rw [if_neg ht]; decide
def zx_nx (S : z_M) (p a : Nat) : Nat := if a < 1 ∧ zx_pv S p 1 then 1 else if a < 2 ∧ zx_pv S p 2 then 2 else 0
theorem zx_nx_vn {p m : Nat} (ht : z_tl S (p : Int)) (hm : m < zx_g S p) : zx_nx S p (zx_vn S p m) = zx_vn S p ((m + 1) % zx_g S p) := by
  have p0 := zx_pv0 ht
  unfold zx_g at hm ⊢
  rw [if_pos ht] at hm ⊢
  unfold zx_nv at hm ⊢
  rw [if_pos p0] at hm ⊢
  unfold zx_nx zx_vn
  by_cases p1 : zx_pv S p 1
  · rw [if_pos p1] at hm ⊢
    by_cases p2 : zx_pv S p 2
    · rw [if_pos p2] at hm ⊢
      have : m = 0 ∨ m = 1 ∨ m = 2 := by omega
      rcases this with rfl | rfl | rfl <;> simp [p1, p2]
    · rw [if_neg p2] at hm ⊢
      have : m = 0 ∨ m = 1 := by omega
      rcases this with rfl | rfl <;> simp [p1, p2]
  · rw [if_neg p1] at hm ⊢
    by_cases p2 : zx_pv S p 2
    · rw [if_pos p2] at hm ⊢
      have : m = 0 ∨ m = 1 := by omega
      rcases this with rfl | rfl <;> simp [p1, p2]
    · rw [if_neg p2] at hm ⊢
      have : m = 0 := by omega
      subst this
      simp [p1, p2]
theorem kc_next (d : Nat) {p a : Nat} (hS : z_sit S M) (hI : z_IPeo S) (hp : p < 10) (ha : a < 3) (h : Q (z_I (zx_nx S p a : Int)) M) : z_Cl 0 (d + 1) 12 [z_R 8, z_I (p : Int), z_I (a : Int)] M Q := by
  unfold zx_nx at h
  refine re_12 d ?_
  rw [z_wq (by omega)]
  have l3 : ((if a < 1 ∧ zx_pv S p 1 then 1 else if a < 2 ∧ zx_pv S p 2 then 2 else 0) = 0) → z_G 0 (d + 1) z_m12 4 [z_R 8, z_I (p : Int), z_I (a : Int), z_I 3] [] M Q := fun c => by
    rw [c] at h
    exact rg_12_4 d ⟨fun _ => h, fun c => absurd c (by decide)⟩
  have e2 : z_w (z_w (3 * (p : Int)) + 2) = 3 * (p : Int) + ((2 : Nat) : Int) := by rw [z_w_id (x := 3 * (p : Int)) (by omega) (by omega), z_w_id (by omega) (by omega)]; rfl
  have e1 : z_w (z_w (3 * (p : Int)) + 1) = 3 * (p : Int) + ((1 : Nat) : Int) := by rw [z_w_id (x := 3 * (p : Int)) (by omega) (by omega), z_w_id (by omega) (by omega)]; rfl
  have w2 : z_w (2 + 1) = 3 := by decide
  have w1 : z_w (1 + 1) = 2 := by decide
  have l2 : a < 2 → ¬ (a < 1 ∧ zx_pv S p 1) → z_G 0 (d + 1) z_m12 4 [z_R 8, z_I (p : Int), z_I (a : Int), z_I 2] [] M Q := fun c c1 => by
    rw [if_neg c1] at h l3
    refine rg_12_4 d ⟨fun c => absurd c (by decide), fun _ => ?_⟩
    rw [e2, w2]
    refine kc_has d hS hI (by omega) (by omega) (fun q => z_y1 ?_) (fun q => z_n1 (l3 (if_neg (fun z => ?_))))
    · rw [if_pos ⟨c, zx_pv_t.mpr q⟩] at h; exact h
    · exact zx_pv_f q z.2
  have : a = 0 ∨ a = 1 ∨ a = 2 := by omega
  rcases this with rfl | rfl | rfl
  · refine rg_12_4 d ⟨fun c => absurd c (by decide), fun _ => ?_⟩
    show z_Cl 0 d 60 [z_R 4, z_I (z_w (z_w (3 * (p : Int)) + 1))] M _
    rw [e1, show z_w (((0 + 1 : Nat) : Int) + 1) = 2 from by decide]
    refine kc_has d hS hI (by omega) (by omega) (fun q => z_y1 ?_) (fun q => z_n1 (l2 (by decide) (fun z => ?_)))
    · rw [if_pos ⟨by decide, zx_pv_t.mpr q⟩] at h; exact h
    · exact zx_pv_f q z.2
  · exact l2 (by decide) (fun z => absurd z.1 (by decide))
  · exact l3 (by rw [if_neg (fun z => absurd z.1 (by decide)), if_neg (fun z => absurd z.1 (by decide))])
/-- the bits of row k of the first p persons -/
def zx_rb (S : z_M) (k p : Nat) (b : Nat) : Bool := decide (b % 10 < p) && (decide (z_tl S ((b % 10 : Nat) : Int)) && decide (zx_ver S (b % 10) k = b / 10))
theorem zx_rb_put {k p : Nat} (ht : z_tl S (p : Int)) (j : Nat) (hj : j < 30) : zx_rb S k (p + 1) j = (zx_rb S k p j || decide (j = 10 * zx_ver S p k + p)) := by
  have hp : p < 10 := by have := ht.2.1; omega
  have hv := zx_ver_b (S := S) p k
  unfold zx_rb
  by_cases c : j % 10 = p
  · rw [c, decide_eq_true (show p < p + 1 from by omega), decide_eq_true ht, decide_eq_false (Nat.lt_irrefl p), Bool.true_and, Bool.true_and, Bool.false_and, Bool.false_or]
    exact decide_eq_decide.mpr (by omega)
  · rw [decide_eq_false (show ¬ j = 10 * zx_ver S p k + p from fun z => c (by omega)), Bool.or_false]
    congr 1
    exact decide_eq_decide.mpr (by omega)
theorem zx_rb_no {k p : Nat} (ht : ¬ z_tl S (p : Int)) (j : Nat) : zx_rb S k (p + 1) j = zx_rb S k p j := by
  unfold zx_rb
  by_cases c : j % 10 = p
  · rw [c, decide_eq_false ht, Bool.false_and, Bool.and_false, Bool.and_false]
  · congr 1
    exact decide_eq_decide.mpr (by omega)
theorem kc_layPerson (d : Nat) {p many : Nat} (hS : z_sit S M) (hI : z_IPeo S) (ht : z_tl S (p : Int)) (hm : many ≤ 729) (hr : ∀ k : Nat, k < many → M 7291038 (k : Int) = (z_bs 30 (zx_rb S k p) : Int)) (h : ∀ N : z_M, z_sit S N → (∀ k, k ≠ 7291038 → N k = M k) → (∀ k : Nat, k < many → N 7291038 (k : Int) = (z_bs 30 (zx_rb S k (p + 1)) : Int)) → Q z_U N) : z_Cl 0 (d + 2) 11 [z_R 8, z_I (p : Int), z_I (zx_U S (9 - p) : Int), z_I (many : Int)] M Q := by
  have hp : p < 10 := by have := ht.2.1; omega
  have hU := zx_U_b S (9 - p)
  have hU2 : zx_U S (9 - p) ≤ 19683 := Nat.le_trans hU.2 (Nat.le_trans (Nat.pow_le_pow_right (by decide) (by omega : 9 - p ≤ 9)) (by decide))
  have hg := zx_g_b S p
  refine re_11 (d + 1) ?_
  refine z_lpi (n := many) (fun q => if q = 0 then 0 else ((zx_ver S p (q - 1) : Nat) : Int)) (fun q N => z_sit S N ∧ (∀ k, k ≠ 7291038 → N k = M k) ∧ (∀ k : Nat, k < q → N 7291038 (k : Int) = (z_bs 30 (zx_rb S k (p + 1)) : Int)) ∧ (∀ k : Nat, q ≤ k → k < many → N 7291038 (k : Int) = (z_bs 30 (zx_rb S k p) : Int))) (fun N v q => z_G 0 (d + 2) z_m11 6 [z_R 8, z_I (p : Int), z_I (zx_U S (9 - p) : Int), z_I (many : Int), z_I v, z_I q] [] N Q) M ⟨hS, fun _ _ => rfl, fun k hk => absurd hk (Nat.not_lt_zero k), fun k _ hk => hr k hk⟩ (fun q N hq hI' nx => ?_) (fun N hI' => ?_)
  · obtain ⟨hN, hk, hd, hl⟩ := hI'
    have hv := zx_ver_b (S := S) p q
    -- the write
    have wr : z_G 0 (d + 2) z_m11 6 [z_R 8, z_I (p : Int), z_I (zx_U S (9 - p) : Int), z_I (many : Int), z_I ((zx_ver S p q : Nat) : Int), z_I (z_w ((q : Int) + 1))] [] (z_up N 7291038 (q : Int) (z_or (N 7291038 (q : Int)) (z_shl 1 (z_w (z_w (10 * ((zx_ver S p q : Nat) : Int)) + (p : Int)))))) Q := by
      have nx' := nx (z_up N 7291038 (q : Int) (z_or (N 7291038 (q : Int)) (z_shl 1 (z_w (z_w (10 * ((zx_ver S p q : Nat) : Int)) + (p : Int)))))) ⟨z_at_up hN _ _ _ rfl rfl, fun k hk2 => by rw [z_up_ne hk2]; exact hk k hk2, fun k hk2 => ?_, fun k h1 h2 => ?_⟩
      · rw [if_neg (by omega)] at nx'
        rw [z_wq (by omega)]; exact nx'
      · by_cases e : k = q
        · rw [e, z_up_eq, hl q (by omega) hq, z_w_id (x := 10 * ((zx_ver S p q : Nat) : Int)) (by omega) (by omega), z_w_id (by omega) (by omega)]
          have e2 : 10 * ((zx_ver S p q : Nat) : Int) + (p : Int) = ((10 * zx_ver S p q + p : Nat) : Int) := by omega
          rw [e2]
          exact z_bs_put (by decide) (by omega) (fun j hj => zx_rb_put ht j hj)
        · rw [z_up_nj (by omega)]; exact hd k (by omega)
      · rw [z_up_nj (by omega)]; exact hl k (by omega) h2
    refine rg_11_6 (d + 1) ⟨fun c => absurd c (by omega), fun _ => ⟨fun c => ⟨by omega, by omega, by omega, by omega, ?_⟩, fun c => z_nz_of (by omega) ⟨fun c2 => ⟨by omega, by omega, by omega, by omega, ?_⟩, fun c2 => ?_⟩⟩⟩
    · have : q = 0 := by omega
      subst this
      have e : ((zx_ver S p 0 : Nat) : Int) = 0 := by
        unfold zx_ver
        rw [if_pos ht, Nat.zero_div, Nat.zero_mod]; rfl
      rw [e] at wr
      exact wr
    · obtain ⟨r, rfl⟩ : ∃ r, q = r + 1 := ⟨q - 1, by omega⟩
      rw [zw_tmN] at c2
      have e : zx_ver S p (r + 1) = zx_ver S p r := by
        unfold zx_ver
        rw [if_pos ht, if_pos ht, zx_sdiv (by omega), if_neg (by omega)]
      rw [e] at wr
      exact wr
    · obtain ⟨r, rfl⟩ : ∃ r, q = r + 1 := ⟨q - 1, by omega⟩
      rw [zw_tmN] at c2
      rw [if_neg (by omega)]
      have e : ((zx_nx S p (zx_ver S p r) : Nat) : Int) = ((zx_ver S p (r + 1) : Nat) : Int) := by
        unfold zx_ver
        rw [if_pos ht, if_pos ht, zx_nx_vn ht (Nat.mod_lt _ hg.1), zx_sdiv (by omega), if_pos (by omega), Nat.mod_add_mod]
      refine kc_next d hN hI hp (zx_ver_b p r) (z_viI ⟨by omega, by omega, by omega, by omega, ?_⟩)
      rw [Nat.add_sub_cancel, e]
      exact wr
  · obtain ⟨hN, hk, hd, hl⟩ := hI'
    exact rg_11_6 (d + 1) ⟨fun _ => h N hN hk hd, fun c => absurd c (by omega)⟩
theorem zx_cnt3 (p : Nat) : z_cnt (fun v => decide (S 304067 (3 * (p : Int) + (v : Int)) = 1)) 3 = ((zx_nv S p : Nat) : Int) := by
  show 0 + zv_b (zx_pv S p 0) + zv_b (zx_pv S p 1) + zv_b (zx_pv S p 2) = _
  unfold zx_nv zv_b
  generalize zx_pv S p 0 = a
  generalize zx_pv S p 1 = b
  generalize zx_pv S p 2 = c
  cases a <;> cases b <;> cases c <;> rfl
theorem kc_layRows (d : Nat) (hS : z_sit S M) (hI : z_IPeo S) (h1 : zx_R S ≤ 729 → ∀ N : z_M, z_sit S N → N 8 6 = 2 * (zx_R S : Int) → (∀ k : Nat, k < zx_R S → N 7291038 (k : Int) = (z_bs 30 (zx_rb S k 10) : Int)) → Q (z_I 1) N) (h0 : 729 < zx_R S → Q (z_I 0) M) : z_Cl 0 (d + 3) 10 [z_R 8] M Q := by
  refine re_10 (d + 2) ?_
  have b10 : (3 : Nat) ^ 10 = 59049 := by decide
  have pb : ∀ q, q ≤ 10 → zx_P S q ≤ 59049 := fun q hq => Nat.le_trans (zx_P_b S q).2 (Nat.le_trans (Nat.pow_le_pow_right (by decide) hq) (by decide))
  refine z_lpi (n := 10) (fun q => (zx_P S q : Int)) (fun _ N => N = M) (fun N v q => z_G 0 (d + 3) z_m10 4 [z_R 8, z_I v, z_I q, z_U] [] N Q) M rfl (fun q N hq hN nx => ?_) (fun N hN => ?_)
  · subst hN
    have nx' := nx N rfl
    have pq := pb q (by omega)
    have pq1 := pb (q + 1) (by omega)
    have e : zx_P S (q + 1) = zx_P S q * zx_g S q := rfl
    refine rg_10_4 (d + 2) ⟨fun c => absurd c (by omega), fun _ => kc_isTold (d + 1) hS hI (fun ht => z_y1 (kc_versionBits (d + 1) hS hI (by omega) (by omega) (z_viI ?_))) (fun ht => z_n1 ?_)⟩
    · unfold zw_vb
      refine kc_bitCount (d + 2) (by decide) (z_viI ?_)
      rw [zx_cnt3]
      have eg : zx_g S q = zx_nv S q := by unfold zx_g; rw [if_pos ht]
      rw [e, eg] at pq1
      rw [e, eg, Int.natCast_mul] at nx'
      rw [z_wq (by omega), z_w_id (x := (zx_P S q : Int) * (zx_nv S q : Int)) (by have := Int.mul_nonneg (Int.natCast_nonneg (zx_P S q)) (Int.natCast_nonneg (zx_nv S q)); omega) (by rw [← Int.natCast_mul]; omega)]
      exact nx'
    · have eg : zx_g S q = 1 := by unfold zx_g; rw [if_neg ht]
      rw [e, eg, Nat.mul_one] at nx'
      rw [z_wq (by omega), Int.mul_one, z_w_id (by omega) (by omega)]; exact nx'
  · subst hN
    have pR := zx_P10 S
    refine rg_10_4 (d + 2) ⟨fun _ => ⟨fun c => ?_, fun c => h0 (by omega)⟩, fun c => absurd c (by decide)⟩
    rw [pR]
    have hR : zx_R S ≤ 729 := by omega
    rw [z_w_id (x := 2 * (zx_R S : Int)) (by omega) (by omega)]
    have hS0 := z_at_up hS 8 6 (2 * (zx_R S : Int)) rfl rfl
    refine c_fillR (a := 7291038) (n := 729) rfl rfl (by decide) (by omega) (by omega) (by omega) ?_
    refine z_lpi (n := 10) (fun q => (zx_U S (10 - q) : Int)) (fun q N' => z_sit S N' ∧ N' 8 6 = 2 * (zx_R S : Int) ∧ ∀ k : Nat, k < zx_R S → N' 7291038 (k : Int) = (z_bs 30 (zx_rb S k q) : Int)) (fun N v q => z_G 0 (d + 3) z_m10 77 [z_R 8, z_I (zx_R S : Int), z_I v, z_I q] [] N Q) _ ⟨z_at_of hS0 (fun k j hk => by rw [z_fl_ne (z_ne1 hk (fun j => rfl))]) (fun k hk => z_fl_ne (z_ne0 hk rfl)), by rw [z_fl_ne (by decide), z_up_eq], fun k hk => ?_⟩ (fun p N' hp hI' nx => ?_) (fun N' hI' => ?_)
    · rw [z_fl_in (by omega) (by omega), z_bs_empty (fun i _ => by unfold zx_rb; rw [decide_eq_false (Nat.not_lt_zero _), Bool.false_and])]; rfl
    · obtain ⟨hN, e6, hr⟩ := hI'
      have hU := zx_U_b S (9 - p)
      have e : zx_U S (10 - p) = zx_g S p * zx_U S (9 - p) := by
        rw [show 10 - p = (9 - p) + 1 from by omega]
        show zx_g S (9 - (9 - p)) * _ = _
        rw [show 9 - (9 - p) = p from by omega]
      refine rg_10_77 (d + 2) ⟨fun c => absurd c (by omega), fun _ => kc_isTold (d + 1) hN hI (fun ht => z_y1 (kc_versionBits (d + 1) hN hI (by omega) (by omega) (z_viI ?_))) (fun ht => z_n1 ?_)⟩
      · unfold zw_vb
        refine kc_bitCount (d + 2) (by decide) (z_viI ?_)
        rw [zx_cnt3]
        have eg : zx_g S p = zx_nv S p := by unfold zx_g; rw [if_pos ht]
        have gb := zx_g_b S p
        have em : z_max 1 ((zx_nv S p : Nat) : Int) = ((zx_g S p : Nat) : Int) := by
          rw [← eg]; exact zx_max1 gb.1
        have hU2 : zx_U S (9 - p) ≤ 19683 := Nat.le_trans hU.2 (Nat.le_trans (Nat.pow_le_pow_right (by decide) (by omega : 9 - p ≤ 9)) (by decide))
        have ed : z_w (Int.tdiv ((zx_U S (10 - p) : Nat) : Int) ((zx_g S p : Nat) : Int)) = ((zx_U S (9 - p) : Nat) : Int) := by
          rw [e]
          have : Int.tdiv ((zx_g S p * zx_U S (9 - p) : Nat) : Int) ((zx_g S p : Nat) : Int) = (((zx_g S p * zx_U S (9 - p)) / zx_g S p : Nat) : Int) := rfl
          rw [this, Nat.mul_div_cancel_left _ (by omega), z_w_id (by omega) (by omega)]
        have em2 := zx_max1 hU.1
        rw [em, ed, em2, z_wq (by omega)]
        refine z_nz_of (by omega) (kc_layPerson d hN hI ht hR hr (fun N2 hN2 hk2 hr2 => ?_))
        have := nx N2 ⟨hN2, by rw [hk2 8 (by decide)]; exact e6, hr2⟩
        rw [show 10 - (p + 1) = 9 - p from by omega] at this
        exact this
      · have eg : zx_g S p = 1 := by unfold zx_g; rw [if_neg ht]
        have := nx N' ⟨hN, e6, fun k hk => by rw [hr k hk]; exact congrArg Int.ofNat (z_bs_ext (fun j _ => (zx_rb_no ht j).symm))⟩
        rw [eg, Nat.one_mul] at e
        rw [show 10 - (p + 1) = 9 - p from by omega, ← e] at this
        rw [z_wq (by omega)]; exact this
    · obtain ⟨hN, e6, hr⟩ := hI'
      exact rg_10_77 (d + 2) ⟨fun _ => h1 hR N' hN e6 hr, fun c => absurd c (by decide)⟩
end ZDAY
