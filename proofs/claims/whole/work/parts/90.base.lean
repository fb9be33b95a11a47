/-! THE FOUNDATION: what stays between calls, what is hidden, what the answers stand for -/
/-- sets of places as numbers -/
def z_bs : Nat → (Nat → Bool) → Nat
  | 0, _ => 0
  | n + 1, P => z_bs n P ||| (if P n = true then 2 ^ n else 0)
theorem z_bs_bit (n : Nat) (P : Nat → Bool) (i : Nat) : (z_bs n P).testBit i = (decide (i < n) && P i) := by
  induction n with
  | zero =>
    show (0 : Nat).testBit i = _
    rw [Nat.zero_testBit, decide_eq_false (by omega), Bool.false_and]
  | succ n ih =>
    show (z_bs n P ||| (if P n = true then 2 ^ n else 0)).testBit i = _
    rw [Nat.testBit_or, ih]
    by_cases hi : i = n
    · subst hi
      rw [decide_eq_false (by omega), Bool.false_and, Bool.false_or, decide_eq_true (by omega), Bool.true_and]
      split
      · rename_i h
        rw [Nat.testBit_two_pow_self, h]
      · rename_i h
        rw [Nat.zero_testBit]
        cases hp : P i with
        | true => exact absurd hp h
        | false => rfl
    · have e1 : (if P n = true then 2 ^ n else 0).testBit i = false := by
        split
        · rw [Nat.testBit_two_pow_of_ne (fun e => hi e.symm)]
        · exact Nat.zero_testBit i
      rw [e1, Bool.or_false]
      congr 1
      exact decide_eq_decide.mpr (by omega)
theorem z_bs_ext {n : Nat} {P P' : Nat → Bool} (h : ∀ i, i < n → P i = P' i) : z_bs n P = z_bs n P' := by
  apply Nat.eq_of_testBit_eq
  intro i
  rw [z_bs_bit, z_bs_bit]
  by_cases hi : i < n
  · rw [h i hi]
  · rw [decide_eq_false hi, Bool.false_and, Bool.false_and]
theorem z_bs_lt (n : Nat) (P : Nat → Bool) : z_bs n P < 2 ^ n := by
  induction n with
  | zero => exact Nat.one_pos
  | succ n ih =>
    show (z_bs n P ||| (if P n = true then 2 ^ n else 0)) < _
    apply Nat.or_lt_two_pow
    · exact Nat.lt_trans ih (Nat.pow_lt_pow_right (by decide) (by omega))
    · split
      · exact Nat.pow_lt_pow_right (by decide) (by omega)
      · exact Nat.two_pow_pos _
/-- Int32's words on small numbers -/
theorem z_toNat32 {a : Nat} (h : a < 2147483648) : (Int32.ofInt (a : Int)).toBitVec.toNat = a := by
  show (BitVec.ofInt 32 (a : Int)).toNat = a
  rw [BitVec.ofInt_natCast, BitVec.toNat_ofNat]
  exact Nat.mod_eq_of_lt (by omega)
theorem z_ofBits32 {x : Int32} {a : Nat} (h : x.toBitVec.toNat = a) (ha : a < 2147483648) : x.toInt = (a : Int) := by
  show x.toBitVec.toInt = _
  rw [BitVec.toInt_eq_toNat_cond, h]
  rw [if_pos (by omega)]
theorem z_and_n {a b : Nat} (ha : a < 2147483648) (hb : b < 2147483648) : z_and (a : Int) (b : Int) = ((a &&& b : Nat) : Int) := by
  unfold z_and
  refine z_ofBits32 ?_ (Nat.lt_of_le_of_lt Nat.and_le_left ha)
  rw [Int32.toBitVec_and, BitVec.toNat_and, z_toNat32 ha, z_toNat32 hb]
theorem z_or_n {a b : Nat} (ha : a < 2147483648) (hb : b < 2147483648) : z_or (a : Int) (b : Int) = ((a ||| b : Nat) : Int) := by
  unfold z_or
  refine z_ofBits32 ?_ (Nat.or_lt_two_pow (n := 31) ha hb)
  rw [Int32.toBitVec_or, BitVec.toNat_or, z_toNat32 ha, z_toNat32 hb]
theorem z_shr_n {a i : Nat} (ha : a < 2147483648) (hi : i < 32) : z_shr (a : Int) (i : Int) = ((a >>> i : Nat) : Int) := by
  unfold z_shr
  have e : ((Int32.ofInt (i : Int)) &&& 31).toBitVec.toNat = i := by
    rw [Int32.toBitVec_and, BitVec.toNat_and, z_toNat32 (by omega)]
    show i &&& 31 = i
    have := Nat.and_two_pow_sub_one_eq_mod i 5
    rw [show (31 : Nat) = 2 ^ 5 - 1 from rfl, this]
    omega
  refine z_ofBits32 ?_ (Nat.lt_of_le_of_lt (Nat.shiftRight_le a i) ha)
  rw [Int32.toBitVec_shiftRight]
  have e2 : ((Int32.ofInt (i : Int)) &&& 31).toBitVec.smod 32 = ((Int32.ofInt (i : Int)) &&& 31).toBitVec := by
    apply BitVec.eq_of_toInt_eq
    rw [BitVec.toInt_smod]
    have hx : ((Int32.ofInt (i : Int)) &&& 31).toBitVec.toInt = (i : Int) := z_ofBits32 e (by omega)
    rw [hx]
    show (i : Int).fmod 32 = i
    rw [Int.fmod_eq_emod_of_nonneg _ (by decide)]
    omega
  rw [e2]
  have hm : (Int32.ofInt (a : Int)).toBitVec.msb = false := by
    rw [BitVec.msb_eq_decide, z_toNat32 ha]
    exact decide_eq_false (by omega)
  rw [BitVec.sshiftRight_eq', BitVec.sshiftRight_eq_of_msb_false hm, BitVec.toNat_ushiftRight, z_toNat32 ha, e]
theorem z_shl1_n {i : Nat} (hi : i < 31) : z_shl 1 (i : Int) = ((2 ^ i : Nat) : Int) := by
  have : ∀ j : Fin 31, z_shl 1 ((j.val : Nat) : Int) = ((2 ^ j.val : Nat) : Int) := by decide +kernel
  exact this ⟨i, hi⟩
theorem z_shl0_n {i : Nat} (hi : i < 31) : z_shl 0 (i : Int) = 0 := by
  have : ∀ j : Fin 31, z_shl 0 ((j.val : Nat) : Int) = 0 := by decide +kernel
  exact this ⟨i, hi⟩
theorem z_2p {n : Nat} (h : n ≤ 31) : 2 ^ n ≤ 2147483648 := Nat.le_trans (Nat.pow_le_pow_right (by decide) h) (by decide)
/-- one bit more: the loop over rising places -/
theorem z_bs_or {n : Nat} {P : Nat → Bool} (hn : n < 31) (hp : P n = true) : z_or (z_bs n P : Int) (z_shl 1 (n : Int)) = (z_bs (n + 1) P : Int) := by
  have h1 := z_bs_lt n P
  have h2 := z_2p (n := n) (by omega)
  have h3 : 2 ^ n < 2 ^ 31 := Nat.pow_lt_pow_right (by decide) hn
  rw [z_shl1_n hn, z_or_n (by omega) (by omega)]
  show _ = ((z_bs n P ||| (if P n = true then 2 ^ n else 0) : Nat) : Int)
  rw [if_pos hp]
theorem z_bs_no {n : Nat} {P : Nat → Bool} (hp : P n = false) : (z_bs n P : Int) = (z_bs (n + 1) P : Int) := by
  show _ = ((z_bs n P ||| (if P n = true then 2 ^ n else 0) : Nat) : Int)
  rw [if_neg (by rw [hp]; decide), Nat.or_zero]
/-- a bit put in at any place -/
theorem z_bs_put {n i : Nat} {P P' : Nat → Bool} (hn : n ≤ 31) (hi : i < n) (h : ∀ j, j < n → P' j = (P j || decide (j = i))) : z_or (z_bs n P : Int) (z_shl 1 (i : Int)) = (z_bs n P' : Int) := by
  have h1 := z_bs_lt n P
  have h2 := z_2p hn
  have h3 : 2 ^ i < 2 ^ 31 := Nat.pow_lt_pow_right (by decide) (by omega)
  rw [z_shl1_n (by omega), z_or_n (by omega) (by omega)]
  congr 1
  apply Nat.eq_of_testBit_eq
  intro j
  rw [Nat.testBit_or, z_bs_bit, z_bs_bit]
  by_cases hj : j < n
  · rw [decide_eq_true hj, Bool.true_and, Bool.true_and, h j hj]
    by_cases e : j = i
    · rw [e, Nat.testBit_two_pow_self, decide_eq_true rfl]
    · rw [Nat.testBit_two_pow_of_ne (fun q => e q.symm), decide_eq_false e]
  · rw [decide_eq_false hj, Bool.false_and, Bool.false_and, Nat.testBit_two_pow_of_ne (by omega)]
    rfl
theorem z_bs_empty {n : Nat} {P : Nat → Bool} (h : ∀ i, i < n → P i = false) : z_bs n P = 0 := by
  apply Nat.eq_of_testBit_eq
  intro i
  rw [z_bs_bit, Nat.zero_testBit]
  by_cases hi : i < n
  · rw [h i hi, Bool.and_false]
  · rw [decide_eq_false hi, Bool.false_and]
/-- a bit asked -/
theorem z_bit_n {a i : Nat} (ha : a < 2147483648) (hi : i < 32) : z_and (z_shr (a : Int) (i : Int)) 1 = if a.testBit i = true then 1 else 0 := by
  rw [z_shr_n ha hi]
  have h1 : a >>> i < 2147483648 := Nat.lt_of_le_of_lt (Nat.shiftRight_le a i) ha
  have := z_and_n (a := a >>> i) (b := 1) h1 (by decide)
  rw [show ((1 : Nat) : Int) = (1 : Int) from rfl] at this
  rw [this]
  have e : (a >>> i) &&& 1 = (a.testBit i).toNat := by
    rw [Nat.testBit, Nat.and_comm]
    have h2 : 1 &&& (a >>> i) = 0 ∨ 1 &&& (a >>> i) = 1 := by
      have := Nat.and_le_left (n := 1) (m := a >>> i)
      omega
    rcases h2 with h2 | h2 <;> rw [h2] <;> rfl
  rw [e]
  cases a.testBit i <;> rfl
theorem z_bit_bs {n i : Nat} {P : Nat → Bool} (hn : n ≤ 31) (hi : i < 32) : z_and (z_shr (z_bs n P : Int) (i : Int)) 1 = if i < n ∧ P i = true then 1 else 0 := by
  have h1 := z_bs_lt n P
  have h2 := z_2p hn
  rw [z_bit_n (by omega) hi, z_bs_bit]
  by_cases hj : i < n
  · rw [decide_eq_true hj, Bool.true_and]
    cases hp : P i with
    | true => rw [if_pos rfl, if_pos ⟨hj, rfl⟩]
    | false => rw [if_neg (by decide), if_neg (fun q => by cases q.2)]
  · rw [decide_eq_false hj, Bool.false_and, if_neg (by decide), if_neg (fun q => hj q.1)]
/-! the law: what the model's codes are worth -/
def zv_wk (c x y : Int) : Int :=
  if c = 43 then z_w (x + y) else if c = 45 then z_w (x - y) else if c = 42 then z_w (x * y)
  else if c = 47 then (if y = 0 then 0 else z_w (Int.tdiv x y)) else if c = 37 then (if y = 0 then 0 else Int.tmod x y)
  else if c = 60 then (if x < y then 1 else 0) else if c = 62 then (if y < x then 1 else 0) else (if x = y then 1 else 0)
def z_o2 (c : Int) (a b : Option Int) : Option Int :=
  if c = 38 then (if a = some 1 then b else a)
  else if c = 124 then (if a = some 0 then b else a)
  else match a, b with
    | some x, some y => if (c = 47 ∨ c = 37) ∧ y = 0 then none else some (zv_wk c x y)
    | _, _ => none
def z_o1 (c a : Int) (nm : Int → Int) (s : List (Option Int)) : List (Option Int) :=
  if c = 0 then some a :: s else if c = 1 then some (nm a) :: s
  else if c = 2 then (match s with
    | x :: r => x.map (fun w => z_w (1 - w)) :: r
    | [] => [])
  else match s with
    | b :: a :: r => z_o2 c a b :: r
    | _ => s
def z_ev (cd ar nm : Int → Int) : Nat → Int → List (Option Int) → List (Option Int)
  | 0, _, s => s
  | n + 1, i, s => z_ev cd ar nm n (i + 1) (z_o1 (cd i) (ar i) nm s)
def z_nm6 (t u p s c : Int) : Int := if c = 116 then t else if c = 113 then t / 4 else if c = 117 then u else if c = 112 then p else if c = 120 then s % 10 else s / 10
def z_evh (S : z_M) (nm : Int → Int) (a b : Int) : Option Int := (z_ev (S 2401080) (S 2401081) nm (b - a).toNat a []).headD none
def z_clp (v most : Int) : Int := if v < 0 then 0 else if most < v then most else v
def z_tel (S : z_M) (nm : Int → Int) (le most : Int) : Nat → Int → Int
  | 0, _ => 0
  | n + 1, k => if S 161076 k = le ∧ z_evh S nm (S 161078 k) (S 161079 k) = some 1 then z_clp ((z_evh S nm (S 161077 k) (S 161078 k)).getD 0) most else z_tel S nm le most n (k + 1)
def zv_rk (S : z_M) (le most t u p s : Int) : Int := z_tel S (z_nm6 t u p s) le most (S 13 29).toNat 0
theorem z_tel_b (S : z_M) (nm : Int → Int) (le most : Int) (hm : 0 ≤ most) : ∀ (n : Nat) (k : Int), 0 ≤ z_tel S nm le most n k ∧ z_tel S nm le most n k ≤ most := by
  intro n
  induction n with
  | zero => intro k; exact ⟨Int.le_refl _, hm⟩
  | succ n ih =>
    intro k
    unfold z_tel
    split
    · unfold z_clp
      split
      · omega
      · split <;> omega
    · exact ih (k + 1)
theorem z_rk_b (S : z_M) (le most t u p s : Int) (hm : 0 ≤ most) : 0 ≤ zv_rk S le most t u p s ∧ zv_rk S le most t u p s ≤ most := z_tel_b S _ le most hm _ _
/-! the town: how far one looks from spot to spot -/
def z_ab (x : Int) : Int := if 0 ≤ x then x else -x
def z_sg (x : Int) : Int := if 0 < x then 1 else if x < 0 then -1 else 0
def z_clr (g : Int → Int) (f dl : Int) : Nat → Bool
  | 0 => true
  | k + 1 => z_clr g f dl k && decide (g (f + dl * ((k + 1 : Nat) : Int)) ≠ 1)
def z_ds (f t : Int) : Int := if z_ab (t % 10 - f % 10) < z_ab (t / 10 - f / 10) then z_ab (t / 10 - f / 10) else z_ab (t % 10 - f % 10)
abbrev z_al (f t : Int) : Prop := t % 10 = f % 10 ∨ t / 10 = f / 10 ∨ z_ab (t % 10 - f % 10) = z_ab (t / 10 - f / 10)
def z_aw (g : Int → Int) (f t : Int) : Int := if f = t then 0 else if z_al f t ∧ z_clr g f (10 * z_sg (t / 10 - f / 10) + z_sg (t % 10 - f % 10)) (z_ds f t - 1).toNat = true then z_ds f t else 99
/-! persons -/
abbrev z_pl (S : z_M) (w : Int) : Prop := S 304067 w = 1
abbrev z_tl (S : z_M) (p : Int) : Prop := 0 ≤ p ∧ p < 10 ∧ S 304067 (3 * p) = 1
def z_ps (S : z_M) (w t : Int) : Int := S 28801021 (96 * w + t)
def z_pd (S : z_M) (p : Int) : Int := 3 * p + S 101023 p
def z_sp (S : z_M) (p t : Int) : Int := z_ps S (z_pd S p) t
/-! what the law says of plans, and what is kept of it -/
def z_vw (S : z_M) (w t : Int) : Int := zv_rk S 118 14 t 0 (w / 3) (z_ps S w t)
def z_cw (S : z_M) (w t : Int) : Int := zv_rk S 104 18 t 0 (w / 3) (z_ps S w t)
def z_ct (S : z_M) (t u : Int) : Int := 10 * zv_rk S 97 7 t u 0 0 + zv_rk S 108 9 t u 0 0
def z_snb (S : z_M) (w t : Int) (o : Int) : Bool := decide (o / 3 ≠ w / 3 ∧ S 304067 o = 1 ∧ z_aw (S 1001015) (z_ps S w t) (z_ps S o t) ≤ z_vw S w t)
def z_ob (b : Nat) : Int := 3 * ((b % 10 : Nat) : Int) + ((b / 10 : Nat) : Int)
def zv_sn (S : z_M) (w t : Int) : Nat := z_bs 30 (fun b => z_snb S w t (z_ob b))
def z_ICa (S M : z_M) : Prop :=
  (∀ w t : Int, 0 ≤ w → w < 30 → 0 ≤ t → t < 96 → M 28801031 (96 * w + t) = -1 ∨ M 28801031 (96 * w + t) = z_vw S w t) ∧
  (∀ w t : Int, 0 ≤ w → w < 30 → 0 ≤ t → t < 96 → M 28801032 (96 * w + t) = -1 ∨ M 28801032 (96 * w + t) = z_cw S w t) ∧
  (∀ w t : Int, 0 ≤ w → w < 30 → 0 ≤ t → t < 96 → M 28801033 (96 * w + t) = -1 ∨ M 28801033 (96 * w + t) = (zv_sn S w t : Int)) ∧
  (∀ u t : Int, 0 ≤ u → u < 2 → 0 ≤ t → t < 96 → M 1921034 (96 * u + t) = -1 ∨ M 1921034 (96 * u + t) = z_ct S t u)
/-! what stays -/
def z_cal : List Nat := [2601014, 1001015, 100001017, 301018, 301019, 28501020, 28801021, 101023, 101024, 2401025, 641027, 2401035, 2401037, 10241045, 121050, 121051, 101056, 101057, 241058, 241059, 2603064, 1001065, 304067, 301068, 301069, 28501070, 28801071, 161076, 161077, 161078, 161079, 2401080, 2401081, 101091, 401092, 401093, 401094, 401095, 401096, 401097, 121112, 121113, 101116, 61120, 64121, 61122, 61123, 61124, 101129, 101130, 2401131, 301132]
def z_cak (k : Nat) : Bool := z_cal.contains k
def z_cof (k : Nat) (j : Int) : Bool := (k == 13 && (j == 1 || j == 29 || j == 48 || j == 49 || j == 81 || j == 100 || j == 105 || j == 106)) || (k == 1 && j == 11) || (k == 2 && j == 1) || (k == 4 && (j == 9 || j == 10)) || (k == 5 && j == 6) || (k == 7 && (j == 5 || j == 7)) || (k == 11 && j == 5)
def z_cor (k : Nat) (j : Int) : Bool := z_cak k || z_cof k j
/-- the hidden places: what is kept of the law's answers, and the law's own rows -/
def z_hdk (k : Nat) : Bool := k == 28801031 || k == 28801032 || k == 28801033 || k == 1921034 || k == 2401029 || k == 61030 || k == 2401089 || k == 2404090
def z_hid (k : Nat) (j : Int) : Bool := z_hdk k || (k == 13 && decide (39 ≤ j ∧ j ≤ 44))
def z_cch (k : Nat) : Bool := k == 28801031 || k == 28801032 || k == 28801033 || k == 1921034
def z_sit (S M : z_M) : Prop := (∀ k j, z_cor k j = true → M k j = S k j) ∧ z_ICa S M
/-- nothing changed but hidden places -/
def z_ag (M M' : z_M) : Prop := ∀ k j, z_hid k j = false → M' k j = M k j
theorem z_ag_rf (M : z_M) : z_ag M M := fun _ _ _ => rfl
theorem z_ag_tr {A B C : z_M} (h : z_ag A B) (g : z_ag B C) : z_ag A C := fun k j hk => (g k j hk).trans (h k j hk)
theorem z_ag_k {M M' : z_M} (h : z_ag M M') (k : Nat) (hk : z_hdk k = false) (h13 : (k == 13) = false) : M' k = M k := funext fun j => h k j (by unfold z_hid; rw [hk, h13]; rfl)
theorem z_fn {S M : z_M} (h : z_sit S M) (k : Nat) (hk : z_cak k = true) : M k = S k := funext fun j => h.1 k j (by unfold z_cor; rw [hk]; rfl)
theorem z_ff {S M : z_M} (h : z_sit S M) (k : Nat) (j : Int) (hk : z_cor k j = true) : M k j = S k j := h.1 k j hk
/-- a place that doesn't stay and isn't of the caches is written -/
theorem z_at_up {S M : z_M} (h : z_sit S M) (k : Nat) (j x : Int) (hk : z_cor k j = false) (hc : z_cch k = false) : z_sit S (z_up M k j x) := by
  refine ⟨fun k' j' h' => ?_, ?_⟩
  · unfold z_up
    by_cases e : k' = k
    · rw [if_pos e]
      by_cases e2 : j' = j
      · rw [e, e2, hk] at h'; cases h'
      · rw [if_neg e2]; exact h.1 k' j' h'
    · rw [if_neg e]; exact h.1 k' j' h'
  · have f : ∀ q, z_cch q = true → z_up M k j x q = M q := fun q hq => z_up_ne (fun e => by rw [e, hc] at hq; cases hq)
    obtain ⟨h1, h2, h3, h4⟩ := h.2
    unfold z_ICa
    rw [f 28801031 rfl, f 28801032 rfl, f 28801033 rfl, f 1921034 rfl]
    exact ⟨h1, h2, h3, h4⟩
/-- anything that leaves what stays and the caches -/
theorem z_at_of {S M M' : z_M} (h : z_sit S M) (hk : ∀ k j, z_cor k j = true → M' k j = M k j) (hc : ∀ k, z_cch k = true → M' k = M k) : z_sit S M' := by
  refine ⟨fun k j q => (hk k j q).trans (h.1 k j q), ?_⟩
  obtain ⟨h1, h2, h3, h4⟩ := h.2
  unfold z_ICa
  rw [hc 28801031 rfl, hc 28801032 rfl, hc 28801033 rfl, hc 1921034 rfl]
  exact ⟨h1, h2, h3, h4⟩
theorem z_ag_up {M : z_M} (k : Nat) (j x : Int) (hk : z_hid k j = true) : z_ag M (z_up M k j x) := by
  intro k' j' h'
  unfold z_up
  by_cases e : k' = k
  · rw [if_pos e]
    by_cases e2 : j' = j
    · rw [e, e2, hk] at h'; cases h'
    · rw [if_neg e2, e]
  · rw [if_neg e]
theorem z_ne1 {f : Nat → Int → Bool} {b : Bool} {k k' : Nat} {j : Int} (h : f k j = b) (h' : ∀ j, f k' j = !b) : k ≠ k' := fun e => by
  rw [e, h'] at h
  cases b <;> cases h
theorem z_ne0 {f : Nat → Bool} {b : Bool} {k k' : Nat} (h : f k = b) (h' : f k' = !b) : k ≠ k' := fun e => by
  rw [e, h'] at h
  cases b <;> cases h
