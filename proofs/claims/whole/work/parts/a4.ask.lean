/-! OPS: ask, enough; the model's answer of a day -/
def zy_dn (g : Nat → Nat) : Nat → Nat
  | 0 => 0
  | q + 1 => zy_dn g q + g q * 4 ^ q
theorem zy_dn_lt {g : Nat → Nat} (hg : ∀ i, g i < 3) : ∀ q, zy_dn g q < 4 ^ q := by
  intro q
  induction q with
  | zero => exact (by decide : (0 : Nat) < 1)
  | succ q ih =>
    have := hg q
    have e4 : (4 : Nat) ^ (q + 1) = 4 ^ q * 4 := Nat.pow_succ ..
    have hm : g q * 4 ^ q ≤ 2 * 4 ^ q := Nat.mul_le_mul_right _ (by omega)
    show zy_dn g q + g q * 4 ^ q < _
    omega
theorem zy_dn_md {g : Nat → Nat} (hg : ∀ i, g i < 3) (q : Nat) : zy_dn g (q + 1) % 4 ^ q = zy_dn g q ∧ zy_dn g (q + 1) / 4 ^ q = g q := by
  have h := zy_dn_lt hg q
  have hb : 0 < 4 ^ q := Nat.pow_pos (by decide)
  constructor
  · show (zy_dn g q + g q * 4 ^ q) % 4 ^ q = _
    rw [Nat.add_mul_mod_self_right]; exact Nat.mod_eq_of_lt h
  · show (zy_dn g q + g q * 4 ^ q) / 4 ^ q = _
    rw [Nat.add_mul_div_right _ _ hb, Nat.div_eq_of_lt h, Nat.zero_add]
theorem zy_dn_vd {g : Nat → Nat} (hg : ∀ i, g i < 3) : ∀ q, zy_vd q (zy_dn g q) := by
  intro q
  induction q with
  | zero => rfl
  | succ q ih =>
    obtain ⟨e1, e2⟩ := zy_dn_md hg q
    show zy_vd q (zy_dn g (q + 1) % 4 ^ q) ∧ zy_dn g (q + 1) / 4 ^ q < 3
    rw [e1, e2]
    exact ⟨ih, hg q⟩
theorem zy_dn_bit {g : Nat → Nat} (hg : ∀ i, g i < 3) (f : Nat → Nat → Bool) (fr j : Nat) : ∀ q, (zy_sl f fr q (zy_dn g q)).testBit j = (decide (fr ≤ j ∧ j < fr + q) && f j (g (j - fr))) := by
  intro q
  induction q with
  | zero =>
    show (0 : Nat).testBit j = _
    rw [Nat.zero_testBit, decide_eq_false (by omega), Bool.false_and]
  | succ q ih =>
    obtain ⟨e1, e2⟩ := zy_dn_md hg q
    show (zy_sl f fr q (zy_dn g (q + 1) % 4 ^ q) ||| (if f (fr + q) (zy_dn g (q + 1) / 4 ^ q) = true then 2 ^ (fr + q) else 0)).testBit j = _
    rw [e1, e2, Nat.testBit_or, ih]
    by_cases c : j = fr + q
    · subst c
      rw [decide_eq_false (by omega), Bool.false_and, Bool.false_or, decide_eq_true (by omega), Bool.true_and, show fr + q - fr = q from by omega]
      cases hf : f (fr + q) (g q) with
      | true => rw [if_pos rfl, Nat.testBit_two_pow_self]
      | false => rw [if_neg (by decide), Nat.zero_testBit]
    · have ez : (if f (fr + q) (g q) = true then 2 ^ (fr + q) else 0).testBit j = false := by
        split
        · exact Nat.testBit_two_pow_of_ne (by omega)
        · exact Nat.zero_testBit j
      rw [ez, Bool.or_false]
      congr 1
      exact decide_eq_decide.mpr (by omega)
theorem zy_dn_sp {g : Nat → Nat} (m : Nat) : ∀ n, zy_dn g (m + n) = zy_dn g m + 4 ^ m * zy_dn (fun i => g (m + i)) n := by
  intro n
  induction n with
  | zero => show zy_dn g m = zy_dn g m + 4 ^ m * 0; omega
  | succ n ih =>
    show zy_dn g (m + n) + g (m + n) * 4 ^ (m + n) = zy_dn g m + 4 ^ m * (zy_dn (fun i => g (m + i)) n + g (m + n) * 4 ^ n)
    rw [ih, Nat.mul_add, Nat.pow_add, Nat.mul_left_comm]
    omega
theorem zy_dn_dv {g : Nat → Nat} (hg : ∀ i, g i < 3) (m n : Nat) : zy_dn g (m + n) / 4 ^ m = zy_dn (fun i => g (m + i)) n ∧ zy_dn g (m + n) % 4 ^ m = zy_dn g m := by
  have h := zy_dn_lt hg m
  have hb : 0 < 4 ^ m := Nat.pow_pos (by decide)
  rw [zy_dn_sp, Nat.add_mul_div_left _ _ hb, Nat.div_eq_of_lt h, Nat.zero_add, Nat.add_mul_mod_self_left, Nat.mod_eq_of_lt h]
  exact ⟨rfl, rfl⟩
section ZAS6
variable {S M : z_M} {Q : z_V → z_M → Prop}
theorem zy_vs_dn (k : Nat) : ∀ q, zy_vs S k q = zy_dn (fun p => zx_ver S p k) q := by
  intro q
  induction q with
  | zero => rfl
  | succ q ih => show zy_vs S k q + _ = zy_dn _ q + _; rw [ih]
theorem zy_vs_at {k p : Nat} (hp : p < 10) : zy_vs S k 10 / 4 ^ p % 4 = zx_ver S p k := by
  have hv : ∀ i, zx_ver S i k < 3 := fun i => zx_ver_b i k
  have e := (zy_dn_dv (g := fun p => zx_ver S p k) hv p (10 - p)).1
  rw [show p + (10 - p) = 10 from by omega] at e
  rw [zy_vs_dn, e]
  have e2 := (zy_dn_dv (g := fun i => zx_ver S (p + i) k) (fun i => hv _) 1 (9 - p)).2
  rw [show 1 + (9 - p) = 10 - p from by omega] at e2
  rw [show (4 : Nat) ^ 1 = 4 from rfl] at e2
  rw [e2]
  show 0 + zx_ver S (p + 0) k * 4 ^ 0 = _
  rw [Nat.pow_zero]; simp
theorem zy_sh {x i : Nat} (hx : x < 2147483648) (hi : i < 32) : z_shr (x : Int) (i : Int) = ((x / 2 ^ i : Nat) : Int) := by
  rw [z_shr_n hx hi, Nat.shiftRight_eq_div_pow]
theorem zy_an {x n : Nat} (hx : x < 2147483648) (hn : n ≤ 10) : z_and (x : Int) ((2 ^ n - 1 : Nat) : Int) = ((x % 2 ^ n : Nat) : Int) := by
  have h1 : 2 ^ n ≤ 2 ^ 10 := Nat.pow_le_pow_right (by decide) hn
  have h2 : (2 : Nat) ^ 10 = 1024 := by decide
  rw [z_and_n hx (by omega), Nat.and_two_pow_sub_one_eq_mod]
/-- the tables of one and a minute -/
def zy_tb (S N : z_M) (p : Nat) (t : Int) : Prop := ∀ v c : Nat, v < 3 → zx_pv S p v = true → zy_vd 5 c → N 30721108 (1024 * (v : Int) + (c : Int)) = (zy_sl (zy_fv S p t v) 0 5 c : Int) ∧ N 30721109 (1024 * (v : Int) + (c : Int)) = (zy_sl (zy_fv S p t v) 5 5 c : Int)
theorem zy_A_or {p k : Nat} {t : Int} (ht : z_tl S (p : Int)) : zy_sl (zy_fv S p t (zx_ver S p k)) 0 5 (zy_vs S k 10 % 1024) ||| zy_sl (zy_fv S p t (zx_ver S p k)) 5 5 (zy_vs S k 10 / 1024) = zx_A S p t k := by
  have hv : ∀ i, zx_ver S i k < 3 := fun i => zx_ver_b i k
  have e := zy_dn_dv (g := fun p => zx_ver S p k) hv 5 5
  rw [show (4 : Nat) ^ 5 = 1024 from rfl] at e
  rw [zy_vs_dn, show (10 : Nat) = 5 + 5 from rfl, e.1, e.2]
  apply Nat.eq_of_testBit_eq
  intro j
  unfold zx_A
  rw [Nat.testBit_or, zy_dn_bit hv, zy_dn_bit (g := fun i => zx_ver S (5 + i) k) (fun i => hv _), z_bs_bit]
  have key : ∀ j, j < 10 → zy_fv S p t (zx_ver S p k) j (zx_ver S j k) = (decide (z_tl S (j : Int)) && z_snb S (3 * (p : Int) + (zx_ver S p k : Int)) t (3 * (j : Int) + (zx_ver S j k : Int))) := by
    intro j _
    unfold zy_fv zy_is
    have := hv j
    rw [show (3 * j + zx_ver S j k) / 3 = j from by omega, show ((3 * j + zx_ver S j k : Nat) : Int) = 3 * (j : Int) + (zx_ver S j k : Int) from by omega]
  by_cases c1 : j < 5
  · rw [decide_eq_true (show 0 ≤ j ∧ j < 0 + 5 from by omega), decide_eq_false (show ¬ (5 ≤ j ∧ j < 5 + 5) from by omega), decide_eq_true (show j < 5 + 5 from by omega), Bool.true_and, Bool.false_and, Bool.or_false, Bool.true_and, Nat.sub_zero]
    exact key j (by omega)
  · by_cases c2 : j < 10
    · rw [decide_eq_false (show ¬ (0 ≤ j ∧ j < 0 + 5) from by omega), decide_eq_true (show 5 ≤ j ∧ j < 5 + 5 from by omega), decide_eq_true (show j < 5 + 5 from by omega), Bool.true_and, Bool.false_and, Bool.false_or, Bool.true_and, show 5 + (j - 5) = j from by omega]
      exact key j c2
    · rw [decide_eq_false (show ¬ (0 ≤ j ∧ j < 0 + 5) from by omega), decide_eq_false (show ¬ (5 ≤ j ∧ j < 5 + 5) from by omega), decide_eq_false (show ¬ j < 5 + 5 from by omega), Bool.false_and, Bool.false_and, Bool.false_and]; rfl
theorem km_answerIn (d : Nat) {p k : Nat} {i : Int} {t : Int} (ht : z_tl S (p : Int)) (htb : zy_tb S M p t) (i0 : 0 ≤ i) (i1 : i < 1458) (hi : M 14581107 i = (zy_vs S k 10 : Int)) (h : Q (z_I (zx_A S p t k : Int)) M) : z_Cl 0 d 329 [z_R 13, z_I (p : Int), z_I i] M Q := by
  have hp : p < 10 := by have := ht.2.1; omega
  have hv : ∀ i, zx_ver S i k < 3 := fun i => zx_ver_b i k
  have vl : zy_vs S k 10 < 1048576 := zy_vs_lt k 10
  have v3 := zx_ver_pl k ht
  have ee := zy_dn_dv (g := fun p => zx_ver S p k) hv 5 5
  rw [show (4 : Nat) ^ 5 = 1024 from rfl, show (5 + 5 : Nat) = 10 from rfl, ← zy_vs_dn] at ee
  have vd1 : zy_vd 5 (zy_vs S k 10 % 1024) := by rw [ee.2]; exact zy_dn_vd hv 5
  have vd2 : zy_vd 5 (zy_vs S k 10 / 1024) := by rw [ee.1]; exact zy_dn_vd (fun i => hv _) 5
  have s1 : z_and (z_shr (zy_vs S k 10 : Int) (z_w (2 * (p : Int)))) 3 = (zx_ver S p k : Int) := by
    rw [z_w_id (by omega) (by omega), show 2 * (p : Int) = ((2 * p : Nat) : Int) from by omega, zy_sh (by omega) (by omega)]
    have h4 : zy_vs S k 10 / 2 ^ (2 * p) < 2147483648 := Nat.lt_of_le_of_lt (Nat.div_le_self _ _) (by omega)
    have := zy_an (x := zy_vs S k 10 / 2 ^ (2 * p)) (n := 2) h4 (by decide)
    rw [show ((2 ^ 2 - 1 : Nat) : Int) = 3 from rfl, show (2 : Nat) ^ 2 = 4 from rfl, ← zy_p4, zy_vs_at hp] at this
    rw [← zy_p4]; exact this
  have s2 : z_and (zy_vs S k 10 : Int) 1023 = ((zy_vs S k 10 % 1024 : Nat) : Int) := zy_an (n := 10) (by omega) (by decide)
  have s3 : z_shr (zy_vs S k 10 : Int) 10 = ((zy_vs S k 10 / 1024 : Nat) : Int) := zy_sh (i := 10) (by omega) (by decide)
  obtain ⟨b1, _⟩ := htb (zx_ver S p k) (zy_vs S k 10 % 1024) v3.1 v3.2 vd1
  obtain ⟨_, b2⟩ := htb (zx_ver S p k) (zy_vs S k 10 / 1024) v3.1 v3.2 vd2
  have l1 := zy_sl_lt (f := zy_fv S p t (zx_ver S p k)) (fr := 0) 5 (zy_vs S k 10 % 1024) (by decide)
  have l2 := zy_sl_lt (f := zy_fv S p t (zx_ver S p k)) (fr := 5) 5 (zy_vs S k 10 / 1024) (by decide)
  have vv := v3.1
  have m1 : zy_vs S k 10 % 1024 < 1024 := Nat.mod_lt _ (by decide)
  have m2 : zy_vs S k 10 / 1024 < 1024 := by omega
  refine re_329 d ?_
  rw [hi, s1, s2, s3]
  clear s1 s2 s3
  rw [z_w_id (x := 1024 * (zx_ver S p k : Int)) (by omega) (by omega), z_w_id (x := 1024 * (zx_ver S p k : Int) + ((zy_vs S k 10 % 1024 : Nat) : Int)) (by omega) (by omega), z_w_id (x := 1024 * (zx_ver S p k : Int) + ((zy_vs S k 10 / 1024 : Nat) : Int)) (by omega) (by omega), b1, b2, z_or_n (by omega) (by omega), zy_A_or ht]
  exact ⟨by omega, by omega, by omega, by omega, by omega, by omega, by omega, by omega, by omega, by omega, h⟩
end ZAS6
