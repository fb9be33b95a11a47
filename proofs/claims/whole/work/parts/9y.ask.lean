/-! OPS: ask, enough; the class's tally -/
theorem zx_and_bs2 (P P' : Nat → Bool) : z_and (z_bs 30 P : Int) (z_bs 30 P' : Int) = (z_bs 30 (fun b => P b && P' b) : Int) := by
  have h1 := z_bs_lt 30 P
  have h2 := z_bs_lt 30 P'
  have h3 := z_2p (n := 30) (by decide)
  rw [z_and_n (by omega) (by omega)]
  congr 1
  apply Nat.eq_of_testBit_eq
  intro i
  rw [Nat.testBit_and, z_bs_bit, z_bs_bit, z_bs_bit]
  cases decide (i < 30) <;> simp
theorem zx_ansN (P : Nat → Bool) : z_and (z_or (z_or (z_bs 30 P : Int) (z_shr (z_bs 30 P : Int) 10)) (z_shr (z_bs 30 P : Int) 20)) 1023 = (z_bs 10 (fun q => P q || (P (10 + q) || P (20 + q))) : Int) := by
  have h1 := z_bs_lt 30 P
  have h3 := z_2p (n := 30) (by decide)
  have h4 : z_bs 30 P < 2147483648 := by omega
  have e1 := z_shr_n (a := z_bs 30 P) (i := 10) h4 (by decide)
  have e2 := z_shr_n (a := z_bs 30 P) (i := 20) h4 (by decide)
  rw [show ((10 : Nat) : Int) = 10 from rfl] at e1
  rw [show ((20 : Nat) : Int) = 20 from rfl] at e2
  have l1 := Nat.lt_of_le_of_lt (Nat.shiftRight_le (z_bs 30 P) 10) h4
  have l2 := Nat.lt_of_le_of_lt (Nat.shiftRight_le (z_bs 30 P) 20) h4
  have l3 : (z_bs 30 P ||| z_bs 30 P >>> 10) < 2147483648 := Nat.or_lt_two_pow (n := 31) h4 l1
  have l4 : (z_bs 30 P ||| z_bs 30 P >>> 10 ||| z_bs 30 P >>> 20) < 2147483648 := Nat.or_lt_two_pow (n := 31) l3 l2
  have e3 := z_and_n (a := z_bs 30 P ||| z_bs 30 P >>> 10 ||| z_bs 30 P >>> 20) (b := 1023) l4 (by decide)
  rw [show ((1023 : Nat) : Int) = 1023 from rfl] at e3
  rw [e1, e2, z_or_n h4 l1, z_or_n l3 l2, e3]
  congr 1
  apply Nat.eq_of_testBit_eq
  intro i
  rw [Nat.testBit_and, Nat.testBit_or, Nat.testBit_or, Nat.testBit_shiftRight, Nat.testBit_shiftRight, z_bs_bit, z_bs_bit, z_bs_bit, z_bs_bit, show (1023 : Nat) = 2 ^ 10 - 1 from rfl, Nat.testBit_two_pow_sub_one]
  by_cases c : i < 10
  · rw [decide_eq_true c, decide_eq_true (show i < 30 from by omega), decide_eq_true (show 10 + i < 30 from by omega), decide_eq_true (show 20 + i < 30 from by omega)]
    simp [Bool.or_assoc]
  · rw [decide_eq_false c, Bool.and_false, Bool.false_and]
section ZASK
variable {S M : z_M} {Q : z_V → z_M → Prop}
def zx_q (S : z_M) (T : Int → Int) : z_M := fun k => if k = 10241045 then T else S k
theorem zx_q_t {T : Int → Int} : zx_q S T 10241045 = T := if_pos rfl
theorem zx_q_id : zx_q S (S 10241045) = S := by
  funext k
  unfold zx_q
  split
  · next e => rw [e]
  · rfl
theorem zx_q_e (T : Int → Int) : z_eq2 S (zx_q S T) := by
  intro k j hk
  unfold zx_q
  by_cases e : k = 10241045
  · subst e
    unfold z_cor2 at hk
    rw [show ((10241045 : Nat) == 10241045) = true from rfl, Bool.not_true, Bool.and_false] at hk
    cases hk
  · rw [if_neg e]
theorem zx_q_up {N : z_M} {T : Int → Int} (h : z_sit (zx_q S T) N) (c x : Int) : z_sit (zx_q S (fun j => if j = c then x else T j)) (z_up N 10241045 c x) := by
  refine ⟨fun k j hk => ?_, ?_⟩
  · have h1 := h.1 k j hk
    unfold zx_q at h1 ⊢
    by_cases e : k = 10241045
    · rw [if_pos e] at h1 ⊢
      rw [e] at h1 ⊢
      by_cases e2 : j = c
      · rw [e2, z_up_eq, if_pos rfl]
      · rw [z_up_nj e2, if_neg e2]; exact h1
    · rw [if_neg e] at h1 ⊢
      rw [z_up_ne e]; exact h1
  · have e1 : z_eq2 (zx_q S T) (zx_q S (fun j => if j = c then x else T j)) := fun k j hk => (zx_q_e _ k j hk).trans (zx_q_e T k j hk).symm
    have g := z_ICa_tr e1 h.2
    unfold z_ICa at g ⊢
    rw [z_up_ne (M := N) (by decide), z_up_ne (M := N) (by decide), z_up_ne (M := N) (by decide), z_up_ne (M := N) (by decide)]
    exact g
theorem zx_sn_q (T : Int → Int) : zv_sn (zx_q S T) = zv_sn S := by
  have e := zx_q_e (S := S) T
  funext w t
  unfold zv_sn z_snb z_vw
  rw [z_rk_tr e, z_ps_tr e, z_e2k e 304067 rfl rfl rfl, z_e2k e 1001015 rfl rfl rfl]
/-- the answer of one in a minute, in a row of versions -/
def zx_A (S : z_M) (p : Nat) (t : Int) (k : Nat) : Nat := z_bs 10 (fun q => decide (z_tl S (q : Int)) && z_snb S (3 * (p : Int) + (zx_ver S p k : Int)) t (3 * (q : Int) + (zx_ver S q k : Int)))
theorem zx_A_lt {p : Nat} {t : Int} {k : Nat} : zx_A S p t k < 1024 := z_bs_lt 10 _
theorem zx_A_e {p : Nat} {t : Int} {k : Nat} : z_and (z_or (z_or (z_and (zv_sn S (3 * (p : Int) + (zx_ver S p k : Int)) t : Int) (z_bs 30 (zx_rb S k 10) : Int)) (z_shr (z_and (zv_sn S (3 * (p : Int) + (zx_ver S p k : Int)) t : Int) (z_bs 30 (zx_rb S k 10) : Int)) 10)) (z_shr (z_and (zv_sn S (3 * (p : Int) + (zx_ver S p k : Int)) t : Int) (z_bs 30 (zx_rb S k 10) : Int)) 20)) 1023 = (zx_A S p t k : Int) := by
  unfold zv_sn
  rw [zx_and_bs2, zx_ansN]
  unfold zx_A
  congr 1
  refine z_bs_ext (fun q hq => ?_)
  have hv := zx_ver_b (S := S) q k
  have r : ∀ v, v < 3 → zx_rb S k 10 (10 * v + q) = (decide (z_tl S (q : Int)) && decide (zx_ver S q k = v)) := by
    intro v hv
    unfold zx_rb
    rw [show (10 * v + q) % 10 = q from by omega, show (10 * v + q) / 10 = v from by omega, decide_eq_true hq, Bool.true_and]
  have o : ∀ v, v < 3 → z_ob (10 * v + q) = 3 * (q : Int) + (v : Int) := by
    intro v hv
    unfold z_ob
    rw [show (10 * v + q) % 10 = q from by omega, show (10 * v + q) / 10 = v from by omega]
  have r0 := r 0 (by decide)
  have r1 := r 1 (by decide)
  have r2 := r 2 (by decide)
  have o0 := o 0 (by decide)
  have o1 := o 1 (by decide)
  have o2 := o 2 (by decide)
  rw [show 10 * 0 + q = q from by omega] at r0 o0
  rw [show 10 * 1 + q = 10 + q from by omega] at r1 o1
  rw [show 10 * 2 + q = 20 + q from by omega] at r2 o2
  rw [r0, r1, r2, o0, o1, o2]
  have : zx_ver S q k = 0 ∨ zx_ver S q k = 1 ∨ zx_ver S q k = 2 := by omega
  rcases this with e | e | e
  · rw [e]; simp [Bool.and_comm]
  · rw [e]; simp [Bool.and_comm]
  · rw [e]; simp [Bool.and_comm]
theorem kc_ask1 (D : Nat) {T : Int → Int} {i : Int} {p k : Nat} {t : Int} {tt : z_M → Int} {K : z_V → z_M → Prop} (hS : z_sit (zx_q S T) M) (hI : z_IS S) (ht : z_tl S (p : Int)) (t0 : 0 ≤ t) (t1 : t < 96) (i0 : 0 ≤ i) (i1 : i < 729) (hr : M 7291043 i = (z_bs 30 (zx_rb S k 10) : Int)) (htt : tt M = t) (h : ∀ N : z_M, z_sit (zx_q S T) N → z_ag M N → K (z_I (zx_A S p t k : Int)) N) : z_Cl 0 (D + 3) 8 [z_I (M 7291043 i), z_I (p : Int)] M (fun v1 M1 => z_vi v1 fun x1 => z_Cl 0 (D + 3) 118 [z_R 6, z_I (z_w ((z_w (3 * (p : Int))) + x1)), z_I (tt M1)] M1 (fun v2 M2 => z_vi v2 fun x2 => ((0 : Int) ≤ i ∧ i < (729 : Int) ∧ z_Cl 0 (D + 3) 87 [z_I (z_and x2 (M2 7291043 i))] M2 K))) := by
  have hp : p < 10 := by have := ht.2.1; omega
  have hv := zx_ver_pl k ht
  have v3 := hv.1
  rw [hr]
  refine kc_versionIn (D + 3) ht (z_viI ?_)
  rw [htt, z_w_id (x := 3 * (p : Int)) (by omega) (by omega), z_w_id (x := 3 * (p : Int) + (zx_ver S p k : Int)) (by omega) (by omega)]
  have hI2 := z_IS_tr (zx_q_e (S := S) T) hI
  refine kc_seenPlans D hS hI2 (by omega) (by omega) t0 t1 ?_ (fun N hN g => z_viI ⟨i0, i1, re_87 (D + 3) ?_⟩)
  · rw [z_e2k (zx_q_e (S := S) T) 304067 rfl rfl rfl]
    exact zx_pv_t.mp hv.2
  · rw [z_ag_k g 7291043 rfl rfl, hr, zx_sn_q, zx_A_e]
    exact h N hN g
/-- sums over rows -/
def zx_sw (P : Nat → Bool) (kk : Nat → Nat) (ww : Nat → Int) : Nat → Int
  | 0 => 0
  | m + 1 => zx_sw P kk ww m + (if P (kk m) = true then ww m else 0)
abbrev zx_is (A : Nat → Nat) (c : Nat) : Nat → Bool := fun k => decide (A k = c)
theorem zx_sw_b {P : Nat → Bool} {kk : Nat → Nat} {ww : Nat → Int} : ∀ m, (∀ i, i < m → 0 ≤ ww i ∧ ww i ≤ 2) → 0 ≤ zx_sw P kk ww m ∧ zx_sw P kk ww m ≤ 2 * (m : Int) := by
  intro m
  induction m with
  | zero => intro _; exact ⟨Int.le_refl _, Int.le_refl _⟩
  | succ m ih =>
    intro h
    have i1 := ih (fun i hi => h i (by omega))
    have := h m (by omega)
    unfold zx_sw
    split <;> omega
theorem zx_sw_mono {P : Nat → Bool} {kk : Nat → Nat} {ww : Nat → Int} {m : Nat} : ∀ k, (∀ i, i < m + k → 0 ≤ ww i) → zx_sw P kk ww m ≤ zx_sw P kk ww (m + k) := by
  intro k
  induction k with
  | zero => intro _; exact Int.le_refl _
  | succ k ih =>
    intro h
    have i1 := ih (fun i hi => h i (by omega))
    have := h (m + k) (by omega)
    show _ ≤ zx_sw P kk ww (m + k) + (if P (kk (m + k)) = true then ww (m + k) else 0)
    split <;> omega
theorem zx_sw_cg {P P' : Nat → Bool} {kk : Nat → Nat} {ww : Nat → Int} (h : ∀ k, P k = P' k) (m : Nat) : zx_sw P kk ww m = zx_sw P' kk ww m := by
  rw [show P = P' from funext h]
def zx_mm (A : Nat → Nat) (kk : Nat → Nat) (ww : Nat → Int) : Nat → Int
  | 0 => 0
  | m + 1 => z_max (zx_mm A kk ww m) (zx_sw (zx_is A (A (kk m))) kk ww (m + 1))
theorem zx_mm_ge {A : Nat → Nat} {kk : Nat → Nat} {ww : Nat → Int} : ∀ m, (∀ i, i < m → 0 ≤ ww i) → 0 ≤ zx_mm A kk ww m ∧ ∀ c, zx_sw (zx_is A c) kk ww m ≤ zx_mm A kk ww m := by
  intro m
  induction m with
  | zero => intro _; exact ⟨Int.le_refl _, fun c => Int.le_refl _⟩
  | succ m ih =>
    intro h
    obtain ⟨i0, i1⟩ := ih (fun i hi => h i (by omega))
    unfold zx_mm z_max
    refine ⟨by split <;> omega, fun c => ?_⟩
    by_cases e : A (kk m) = c
    · rw [e]; split <;> omega
    · have e1 : zx_sw (zx_is A c) kk ww (m + 1) = zx_sw (zx_is A c) kk ww m := by
        show _ + (if zx_is A c (kk m) = true then _ else _) = _
        rw [if_neg (by unfold zx_is; rw [decide_eq_false e]; decide)]; omega
      have := i1 c
      rw [e1]
      split <;> omega
theorem zx_mm_le {A : Nat → Nat} {kk : Nat → Nat} {ww : Nat → Int} {B : Int} (hB : 0 ≤ B) {n : Nat} (hw : ∀ i, i < n → 0 ≤ ww i) (h : ∀ c, (∃ k, A k = c) → zx_sw (zx_is A c) kk ww n ≤ B) : ∀ m, m ≤ n → zx_mm A kk ww m ≤ B := by
  intro m
  induction m with
  | zero => intro _; exact hB
  | succ m ih =>
    intro hm
    have i1 := ih (by omega)
    have h2 := h (A (kk m)) ⟨_, rfl⟩
    have h3 := zx_sw_mono (P := zx_is A (A (kk m))) (kk := kk) (ww := ww) (m := m + 1) (n - (m + 1)) (fun i hi => hw i (by omega))
    rw [show m + 1 + (n - (m + 1)) = n from by omega] at h3
    unfold zx_mm z_max
    split <;> omega
/-- the greatest share of one answer -/
def zx_mx (W : (Nat → Bool) → Int) (A : Nat → Nat) : Nat → Int
  | 0 => 0
  | c + 1 => z_max (zx_mx W A c) (W (zx_is A c))
theorem zx_mx_ge {W : (Nat → Bool) → Int} {A : Nat → Nat} : ∀ m, 0 ≤ zx_mx W A m ∧ ∀ c, c < m → W (zx_is A c) ≤ zx_mx W A m := by
  intro m
  induction m with
  | zero => exact ⟨Int.le_refl _, fun c h => absurd h (Nat.not_lt_zero c)⟩
  | succ m ih =>
    unfold zx_mx z_max
    refine ⟨by have := ih.1; split <;> omega, fun c hc => ?_⟩
    by_cases e : c = m
    · rw [e]; split <;> omega
    · have := ih.2 c (by omega)
      split <;> omega
theorem zx_mx_le {W : (Nat → Bool) → Int} {A : Nat → Nat} {B : Int} (hB : 0 ≤ B) (h : ∀ c, W (zx_is A c) ≤ B) : ∀ m, zx_mx W A m ≤ B := by
  intro m
  induction m with
  | zero => exact hB
  | succ m ih =>
    have := h m
    unfold zx_mx z_max
    split <;> omega
theorem zx_mm_mx {W : (Nat → Bool) → Int} {A : Nat → Nat} {kk : Nat → Nat} {ww : Nat → Int} {n : Nat} (hA : ∀ k, A k < 1024) (hw : ∀ i, i < n → 0 ≤ ww i) (hW : ∀ P, W P = zx_sw P kk ww n) : zx_mm A kk ww n = zx_mx W A 1024 := by
  have g1 := zx_mm_ge (A := A) (kk := kk) n hw
  have g2 := zx_mx_ge (W := W) (A := A) 1024
  refine Int.le_antisymm (zx_mm_le g2.1 hw (fun c ⟨k, hk⟩ => ?_) n (Nat.le_refl n)) (zx_mx_le g1.1 (fun c => ?_) 1024)
  · rw [hW]; exact g1.2 c
  · rw [← hW]; exact g2.2 c (by rw [← hk]; exact hA k)
theorem zx_mm_mo {A : Nat → Nat} {kk : Nat → Nat} {ww : Nat → Int} {m : Nat} : ∀ k, zx_mm A kk ww m ≤ zx_mm A kk ww (m + k) := by
  intro k
  induction k with
  | zero => exact Int.le_refl _
  | succ k ih =>
    show _ ≤ z_max (zx_mm A kk ww (m + k)) _
    unfold z_max
    split <;> omega
def zx_T (S : z_M) (A : Nat → Nat) (kk : Nat → Nat) (ww : Nat → Int) (i : Nat) : Int → Int := fun j => if 0 ≤ j ∧ j < 1024 then zx_sw (zx_is A j.toNat) kk ww i else S 10241045 j
def zx_T2 (S : z_M) (A : Nat → Nat) (kk : Nat → Nat) (ww : Nat → Int) (n i : Nat) : Int → Int := fun j => if 0 ≤ j ∧ j < 1024 then (if z_exn (fun m => decide (A (kk m) = j.toNat)) i = true then 0 else zx_sw (zx_is A j.toNat) kk ww n) else S 10241045 j
theorem zx_T_s {A : Nat → Nat} {kk : Nat → Nat} {ww : Nat → Int} {i : Nat} (hA : ∀ k, A k < 1024) : zx_T S A kk ww (i + 1) = fun j => if j = (A (kk i) : Int) then zx_sw (zx_is A (A (kk i))) kk ww (i + 1) else zx_T S A kk ww i j := by
  funext j
  have ha := hA (kk i)
  unfold zx_T
  by_cases e : j = (A (kk i) : Int)
  · rw [if_pos e, if_pos (by omega), e, Int.toNat_natCast]
  · rw [if_neg e]
    by_cases c : 0 ≤ j ∧ j < 1024
    · rw [if_pos c, if_pos c]
      show _ + (if zx_is A j.toNat (kk i) = true then _ else _) = _
      rw [if_neg (by unfold zx_is; rw [decide_eq_false (by omega)]; decide)]; omega
    · rw [if_neg c, if_neg c]
theorem zx_T2_s {A : Nat → Nat} {kk : Nat → Nat} {ww : Nat → Int} {n i : Nat} (hA : ∀ k, A k < 1024) : zx_T2 S A kk ww n (i + 1) = fun j => if j = (A (kk i) : Int) then 0 else zx_T2 S A kk ww n i j := by
  funext j
  have ha := hA (kk i)
  unfold zx_T2
  have e2 : z_exn (fun m => decide (A (kk m) = j.toNat)) (i + 1) = (z_exn (fun m => decide (A (kk m) = j.toNat)) i || decide (A (kk i) = j.toNat)) := rfl
  by_cases e : j = (A (kk i) : Int)
  · rw [if_pos e, if_pos (by omega), e2, decide_eq_true (by omega), Bool.or_true, if_pos rfl]
  · rw [if_neg e]
    by_cases c : 0 ≤ j ∧ j < 1024
    · rw [if_pos c, if_pos c, e2, decide_eq_false (show ¬ A (kk i) = j.toNat from by omega), Bool.or_false]
    · rw [if_neg c, if_neg c]
theorem zx_T2_0 {A : Nat → Nat} {kk : Nat → Nat} {ww : Nat → Int} {n : Nat} : zx_T2 S A kk ww n 0 = zx_T S A kk ww n := by
  funext j
  unfold zx_T2 zx_T
  split
  · exact if_neg (by show ¬ false = true; decide)
  · rfl
abbrev zx_Q0 (S : z_M) : Prop := ∀ j : Int, 0 ≤ j → j < 1024 → S 10241045 j = 0
theorem zx_T_0 {A : Nat → Nat} {kk : Nat → Nat} {ww : Nat → Int} (h : zx_Q0 S) : zx_T S A kk ww 0 = S 10241045 := by
  funext j
  unfold zx_T
  split
  · next c => exact (h j c.1 c.2).symm
  · rfl
theorem zx_T2_n {A : Nat → Nat} {kk : Nat → Nat} {ww : Nat → Int} {n : Nat} (h : zx_Q0 S) : zx_T2 S A kk ww n n = S 10241045 := by
  funext j
  unfold zx_T2
  split
  · next c =>
    rw [h j c.1 c.2]
    split
    · rfl
    · next e =>
      have e2 : z_exn (fun m => decide (A (kk m) = j.toNat)) n = false := by
        cases hx : z_exn (fun m => decide (A (kk m) = j.toNat)) n with
        | true => exact absurd hx e
        | false => rfl
      have e3 := z_exn_f.mp e2
      have : ∀ m, m ≤ n → zx_sw (zx_is A j.toNat) kk ww m = 0 := by
        intro m
        induction m with
        | zero => intro _; rfl
        | succ m ih =>
          intro hm
          show zx_sw _ kk ww m + (if zx_is A j.toNat (kk m) = true then _ else _) = 0
          rw [ih (by omega), if_neg (by show ¬ decide (A (kk m) = j.toNat) = true; rw [e3 m (by omega)]; decide)]; rfl
      exact this n (Nat.le_refl n)
  · rfl
/-- the rows that are left -/
def zx_QL (S N : z_M) (n : Nat) (kk : Nat → Nat) (ww : Nat → Int) : Prop := N 9 7 = (n : Int) ∧ ∀ i : Nat, i < n → N 7291043 (i : Int) = (z_bs 30 (zx_rb S (kk i) 10) : Int) ∧ N 7291044 (i : Int) = ww i
def zx_fr (M N : z_M) : Prop := N 7291043 = M 7291043 ∧ N 7291044 = M 7291044 ∧ ∀ j, j ≠ 6 → N 9 j = M 9 j
theorem zx_fr_QL {N : z_M} {n : Nat} {kk : Nat → Nat} {ww : Nat → Int} (h : zx_fr M N) (hl : zx_QL S M n kk ww) : zx_QL S N n kk ww := ⟨by rw [h.2.2 _ (by decide)]; exact hl.1, fun i hi => by rw [h.1, h.2.1]; exact hl.2 i hi⟩
theorem zx_fr_tr {N L : z_M} (h : zx_fr M N) (g : zx_fr N L) : zx_fr M L := ⟨g.1.trans h.1, g.2.1.trans h.2.1, fun j hj => (g.2.2 j hj).trans (h.2.2 j hj)⟩
theorem zx_fr_ag {N : z_M} (g : z_ag M N) : zx_fr M N := ⟨z_ag_k g _ rfl rfl, z_ag_k g _ rfl rfl, fun j _ => by rw [z_ag_k g 9 rfl rfl]⟩
theorem kc_tallyUp (d : Nat) {p n : Nat} {t bound : Int} {kk : Nat → Nat} {ww : Nat → Int} (hS : z_sit S M) (hI : z_IS S) (h0 : zx_Q0 S) (ht : z_tl S (p : Int)) (t0 : 0 ≤ t) (t1 : t < 96) (hn : n ≤ 729) (hl : zx_QL S M n kk ww) (hw : ∀ i, i < n → 0 ≤ ww i ∧ ww i ≤ 2) (h : ∀ (i : Nat) (N : z_M), i ≤ n → z_sit (zx_q S (zx_T S (zx_A S p t) kk ww i)) N → zx_fr M N → N 9 6 = (i : Int) → (i = n ∨ bound ≤ zx_mm (zx_A S p t) kk ww i) → Q (z_I (zx_mm (zx_A S p t) kk ww i)) N) : z_Cl 0 (d + 4) 85 [z_R 9, z_I (p : Int), z_I t, z_I bound] M Q := by
  refine re_85 (d + 3) ?_
  have hA : ∀ k, zx_A S p t k < 1024 := fun k => zx_A_lt
  have hfr0 : zx_fr M (z_up M 9 6 0) := ⟨z_up_ne (by decide), z_up_ne (by decide), fun j hj => z_up_nj hj⟩
  refine z_lpi (n := n) (fun q => zx_mm (zx_A S p t) kk ww q) (fun q N => z_sit (zx_q S (zx_T S (zx_A S p t) kk ww q)) N ∧ zx_fr M N ∧ N 9 6 = (q : Int)) (fun N v q => z_G 0 (d + 4) z_m85 11 [z_R 9, z_I (p : Int), z_I t, z_I bound, z_I v, z_I q, z_U] [] N Q) _ ⟨by rw [zx_T_0 h0, zx_q_id]; exact z_at_up hS _ _ _ rfl rfl, hfr0, z_up_eq⟩ (fun q N hq hI' nx => ?_) (fun N hI' => ?_)
  · obtain ⟨hN, hf, hc⟩ := hI'
    have hlN := zx_fr_QL hf hl
    obtain ⟨r1, r2⟩ := hlN.2 q hq
    have e0 : N 9 7 = (n : Int) := hlN.1
    refine rg_85_11 (d + 3) ⟨fun c => absurd c (by omega), fun _ => ⟨fun c => h q N (by omega) hN hf hc (Or.inr c), fun c => ⟨by omega, by omega, ?_⟩⟩⟩
    refine kc_ask1 d (tt := fun _ => t) hN hI ht t0 t1 (by omega) (by omega) r1 rfl (fun N2 hN2 g => z_viI ?_)
    have hA2 := hA (kk q)
    have hf2 := zx_fr_ag g
    have sb := zx_sw_b (P := zx_is (zx_A S p t) (zx_A S p t (kk q))) (kk := kk) (ww := ww) q (fun i hi => hw i (by omega))
    have wq := hw q hq
    have eT : N2 10241045 (zx_A S p t (kk q) : Int) = zx_sw (zx_is (zx_A S p t) (zx_A S p t (kk q))) kk ww q := by
      rw [z_fn hN2 10241045 rfl, zx_q_t]
      unfold zx_T
      rw [if_pos (by omega), Int.toNat_natCast]
    have eW : N2 7291044 (q : Int) = ww q := by rw [hf2.2.1]; exact r2
    have es : zx_sw (zx_is (zx_A S p t) (zx_A S p t (kk q))) kk ww (q + 1) = zx_sw (zx_is (zx_A S p t) (zx_A S p t (kk q))) kk ww q + ww q := by
      show _ + (if zx_is (zx_A S p t) (zx_A S p t (kk q)) (kk q) = true then _ else _) = _
      rw [if_pos (decide_eq_true rfl)]
    have eC : N2 9 6 = (q : Int) := by rw [z_ag_k g 9 rfl rfl]; exact hc
    rw [eT, eW, z_w_id (x := zx_sw (zx_is (zx_A S p t) (zx_A S p t (kk q))) kk ww q + ww q) (by omega) (by omega), ← es, z_up_eq, z_up_ne (k := 9) (by decide), eC, z_wq (by omega)]
    refine ⟨by omega, by omega, by omega, by omega, by omega, by omega, by omega, by omega, ?_⟩
    have hN3 := zx_q_up hN2 (zx_A S p t (kk q) : Int) (zx_sw (zx_is (zx_A S p t) (zx_A S p t (kk q))) kk ww (q + 1))
    rw [← zx_T_s hA] at hN3
    refine nx _ ⟨z_at_up hN3 _ _ _ rfl rfl, zx_fr_tr hf (zx_fr_tr hf2 ⟨by rw [z_up_ne (by decide), z_up_ne (by decide)], by rw [z_up_ne (by decide), z_up_ne (by decide)], fun j hj => by rw [z_up_nj hj, z_up_ne (by decide)]⟩), z_up_eq⟩
  · obtain ⟨hN, hf, hc⟩ := hI'
    have e0 : N 9 7 = (n : Int) := (zx_fr_QL hf hl).1
    exact rg_85_11 (d + 3) ⟨fun _ => h n N (Nat.le_refl n) hN hf hc (Or.inl rfl), fun c => absurd c (by omega)⟩
theorem kc_wipe (d : Nat) {p n m : Nat} {t : Int} {kk : Nat → Nat} {ww : Nat → Int} (hS : z_sit (zx_q S (zx_T S (zx_A S p t) kk ww m)) M) (hI : z_IS S) (h0 : zx_Q0 S) (ht : z_tl S (p : Int)) (t0 : 0 ≤ t) (t1 : t < 96) (hn : n ≤ 729) (hm : m ≤ n) (hl : zx_QL S M n kk ww) (hc : M 9 6 = (m : Int)) (h : ∀ N : z_M, z_sit S N → zx_fr M N → Q z_U N) : z_Cl 0 (d + 4) 86 [z_R 9, z_I (p : Int), z_I t] M Q := by
  refine re_86 (d + 3) ?_
  have hA : ∀ k, zx_A S p t k < 1024 := fun k => zx_A_lt
  refine z_lpi (n := m) (fun _ => ()) (fun q N => z_sit (zx_q S (zx_T2 S (zx_A S p t) kk ww m q)) N ∧ zx_fr M N ∧ N 9 = M 9) (fun N _ q => z_G 0 (d + 4) z_m86 2 [z_R 9, z_I (p : Int), z_I t, z_I q] [] N Q) M ⟨by rw [zx_T2_0]; exact hS, ⟨rfl, rfl, fun _ _ => rfl⟩, rfl⟩ (fun q N hq hI' nx => ?_) (fun N hI' => ?_)
  · obtain ⟨hN, hf, h9⟩ := hI'
    have hlN := zx_fr_QL hf hl
    obtain ⟨r1, r2⟩ := hlN.2 q (by omega)
    refine rg_86_2 (d + 3) ⟨fun c => absurd c (by rw [h9, hc]; omega), fun _ => ⟨by omega, by omega, ?_⟩⟩
    refine kc_ask1 d (tt := fun _ => t) hN hI ht t0 t1 (by omega) (by omega) r1 rfl (fun N2 hN2 g => z_viI ?_)
    have hA2 := hA (kk q)
    have hf2 := zx_fr_ag g
    have hN3 := zx_q_up hN2 (zx_A S p t (kk q) : Int) 0
    rw [← zx_T2_s hA] at hN3
    rw [z_wq (by omega)]
    refine ⟨by omega, by omega, nx _ ⟨hN3, zx_fr_tr hf (zx_fr_tr hf2 ⟨by rw [z_up_ne (by decide)], by rw [z_up_ne (by decide)], fun j hj => by rw [z_up_ne (by decide)]⟩), ?_⟩⟩
    rw [z_up_ne (by decide), z_ag_k g 9 rfl rfl, h9]
  · obtain ⟨hN, hf, h9⟩ := hI'
    rw [zx_T2_n h0, zx_q_id] at hN
    exact rg_86_2 (d + 3) ⟨fun _ => h N hN hf, fun c => absurd c (by rw [h9, hc]; omega)⟩
end ZASK
