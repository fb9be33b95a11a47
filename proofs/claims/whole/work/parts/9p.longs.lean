/-! LONGS -/
theorem zx_toNat64 {a : Nat} (h : a < 9223372036854775808) : (Int64.ofInt (a : Int)).toBitVec.toNat = a := by
  show (BitVec.ofInt 64 (a : Int)).toNat = a
  rw [BitVec.ofInt_natCast, BitVec.toNat_ofNat]
  exact Nat.mod_eq_of_lt (by omega)
theorem zx_ofBits64 {x : Int64} {a : Nat} (h : x.toBitVec.toNat = a) (ha : a < 9223372036854775808) : x.toInt = (a : Int) := by
  show x.toBitVec.toInt = _
  rw [BitVec.toInt_eq_toNat_cond, h]
  rw [if_pos (by omega)]
theorem zx_andl_n {a b : Nat} (ha : a < 9223372036854775808) (hb : b < 9223372036854775808) : z_andl (a : Int) (b : Int) = ((a &&& b : Nat) : Int) := by
  unfold z_andl
  refine zx_ofBits64 ?_ (Nat.lt_of_le_of_lt Nat.and_le_left ha)
  rw [Int64.toBitVec_and, BitVec.toNat_and, zx_toNat64 ha, zx_toNat64 hb]
theorem zx_orl_n {a b : Nat} (ha : a < 9223372036854775808) (hb : b < 9223372036854775808) : z_orl (a : Int) (b : Int) = ((a ||| b : Nat) : Int) := by
  unfold z_orl
  refine zx_ofBits64 ?_ (Nat.or_lt_two_pow (n := 63) ha hb)
  rw [Int64.toBitVec_or, BitVec.toNat_or, zx_toNat64 ha, zx_toNat64 hb]
theorem zx_shll1_n {i : Nat} (hi : i < 63) : z_shll 1 (i : Int) = ((2 ^ i : Nat) : Int) := by
  have : ∀ j : Fin 63, z_shll 1 ((j.val : Nat) : Int) = ((2 ^ j.val : Nat) : Int) := by decide +kernel
  exact this ⟨i, hi⟩
theorem zx_ushrl_n {a i : Nat} (ha : a < 9223372036854775808) (hi : i < 64) : z_ushrl (a : Int) (i : Int) = ((a / 2 ^ i : Nat) : Int) := by
  unfold z_ushrl
  have e : (((Int32.ofInt (i : Int)).toInt64.toUInt64 &&& Int64.toUInt64 63)).toBitVec.toNat = i := by
    have : ∀ j : Fin 64, (((Int32.ofInt ((j.val : Nat) : Int)).toInt64.toUInt64 &&& Int64.toUInt64 63)).toBitVec.toNat = j.val := by decide +kernel
    exact this ⟨i, hi⟩
  refine zx_ofBits64 ?_ (Nat.lt_of_le_of_lt (Nat.div_le_self _ _) ha)
  show ((Int64.ofInt (a : Int)).toUInt64 >>> ((Int32.ofInt (i : Int)).toInt64.toUInt64 &&& Int64.toUInt64 63)).toBitVec.toNat = _
  rw [UInt64.toBitVec_shiftRight]
  have e2 : (((Int32.ofInt (i : Int)).toInt64.toUInt64 &&& Int64.toUInt64 63).toBitVec % 64).toNat = i := by
    rw [BitVec.toNat_umod, e]
    exact Nat.mod_eq_of_lt hi
  rw [BitVec.ushiftRight_eq', e2, BitVec.toNat_ushiftRight, Nat.shiftRight_eq_div_pow]
  congr 1
  exact zx_toNat64 ha
/-- bytes -/
theorem zx_and_by {h l m n : Nat} (hl : l < 256) (hn : n < 256) : (256 * h + l) &&& (256 * m + n) = 256 * (h &&& m) + (l &&& n) := by
  have e1 := Nat.and_div_two_pow (a := 256 * h + l) (b := 256 * m + n) (n := 8)
  have e2 := Nat.and_mod_two_pow (a := 256 * h + l) (b := 256 * m + n) (n := 8)
  have e3 : (2 : Nat) ^ 8 = 256 := by decide
  rw [e3, show (256 * h + l) / 256 = h from by omega, show (256 * m + n) / 256 = m from by omega] at e1
  rw [e3, show (256 * h + l) % 256 = l from by omega, show (256 * m + n) % 256 = n from by omega] at e2
  omega
def zx_rep (c : Nat) : Nat → Nat
  | 0 => 0
  | k + 1 => 256 * zx_rep c k + c
def zx_p1 (m x : Nat) : Nat := x - (x / 2 &&& m)
def zx_p2 (m x : Nat) : Nat := (x &&& m) + (x / 4 &&& m)
def zx_p3 (m x : Nat) : Nat := (x + x / 16) &&& m
def zx_c1 (x : Nat) : Nat := zx_p1 85 x
def zx_c2 (x : Nat) : Nat := zx_p2 51 (zx_c1 x)
def zx_c3 (x : Nat) : Nat := zx_p3 15 (zx_c2 x)
theorem zx_c1_lt : ∀ l : Fin 256, zx_c1 l.val < 256 ∧ zx_c2 l.val < 256 ∧ zx_c2 l.val % 16 ≤ 4 ∧ zx_c2 l.val ≤ 68 ∧ zx_c3 l.val ≤ 8 ∧ zx_c3 l.val < 256 := by decide +kernel
theorem zx_cnt8 : ∀ l : Fin 256, (zx_c3 l.val : Int) = z_cnt (fun i => l.val.testBit i) 8 := by decide +kernel
theorem zx_p1_by {h l m : Nat} (hl : l < 256) : zx_p1 (256 * m + 85) (256 * h + l) = 256 * zx_p1 m h + zx_c1 l := by
  have e : (256 * h + l) / 2 = 256 * (h / 2) + (128 * (h % 2) + l / 2) := by omega
  have k : ∀ (a : Fin 2) (b : Fin 128), (128 * a.val + b.val) &&& 85 = b.val &&& 85 := by decide +kernel
  have k1 := k ⟨h % 2, by omega⟩ ⟨l / 2, by omega⟩
  dsimp only at k1
  unfold zx_c1 zx_p1
  rw [e, zx_and_by (by omega) (by decide), k1]
  have a1 : (h / 2 &&& m) ≤ h / 2 := Nat.and_le_left
  have a2 : (l / 2 &&& 85) ≤ l / 2 := Nat.and_le_left
  omega
theorem zx_p2_by {h l m : Nat} (hl : l < 256) : zx_p2 (256 * m + 51) (256 * h + l) = 256 * zx_p2 m h + zx_p2 51 l := by
  have e : (256 * h + l) / 4 = 256 * (h / 4) + (64 * (h % 4) + l / 4) := by omega
  have k : ∀ (a : Fin 4) (b : Fin 64), (64 * a.val + b.val) &&& 51 = b.val &&& 51 := by decide +kernel
  have k1 := k ⟨h % 4, by omega⟩ ⟨l / 4, by omega⟩
  dsimp only at k1
  unfold zx_p2
  rw [e, zx_and_by hl (by decide), zx_and_by (by omega) (by decide), k1]
  omega
theorem zx_p3_by {h l m : Nat} (hl : l ≤ 68) (hh : h % 16 ≤ 4) : zx_p3 (256 * m + 15) (256 * h + l) = 256 * zx_p3 m h + zx_p3 15 l := by
  have e : (256 * h + l) + (256 * h + l) / 16 = 256 * (h + h / 16) + (16 * (h % 16) + (l + l / 16)) := by omega
  have k : ∀ (a : Fin 5) (b : Fin 73), (16 * a.val + b.val) &&& 15 = b.val &&& 15 := by decide +kernel
  have k1 := k ⟨h % 16, by omega⟩ ⟨l + l / 16, by omega⟩
  unfold zx_p3
  rw [e, zx_and_by (by omega) (by decide), k1]
/-- k bytes -/
def zx_a3 (k x : Nat) : Nat := zx_p3 (zx_rep 15 k) (zx_p2 (zx_rep 51 k) (zx_p1 (zx_rep 85 k) x))
def zx_sum : Nat → Nat → Nat
  | 0, _ => 0
  | k + 1, x => 256 * zx_sum k (x / 256) + zx_c3 (x % 256)
theorem zx_a_by : ∀ (k x : Nat), x < 256 ^ k → zx_p2 (zx_rep 51 k) (zx_p1 (zx_rep 85 k) x) % 16 ≤ 4 ∧ zx_a3 k x = zx_sum k x := by
  intro k
  induction k with
  | zero =>
    intro x hx
    have : x = 0 := by have : (256 : Nat) ^ 0 = 1 := rfl; omega
    subst this
    exact ⟨by decide, by decide⟩
  | succ k ih =>
    intro x hx
    have hx2 : x / 256 < 256 ^ k := by
      rw [Nat.pow_succ] at hx
      exact Nat.div_lt_of_lt_mul (by omega)
    obtain ⟨i1, i2⟩ := ih (x / 256) hx2
    have hl : x % 256 < 256 := by omega
    have cl := zx_c1_lt ⟨x % 256, hl⟩
    dsimp only at cl
    have e1 : zx_p1 (zx_rep 85 (k + 1)) x = 256 * zx_p1 (zx_rep 85 k) (x / 256) + zx_c1 (x % 256) := by
      have := zx_p1_by (h := x / 256) (l := x % 256) (m := zx_rep 85 k) hl
      rw [show 256 * (x / 256) + x % 256 = x from by omega] at this
      exact this
    have e2 : zx_p2 (zx_rep 51 (k + 1)) (zx_p1 (zx_rep 85 (k + 1)) x) = 256 * zx_p2 (zx_rep 51 k) (zx_p1 (zx_rep 85 k) (x / 256)) + zx_c2 (x % 256) := by
      rw [e1]
      exact zx_p2_by cl.1
    refine ⟨by rw [e2]; omega, ?_⟩
    unfold zx_a3
    rw [e2]
    have e3 := zx_p3_by (h := zx_p2 (zx_rep 51 k) (zx_p1 (zx_rep 85 k) (x / 256))) (l := zx_c2 (x % 256)) (m := zx_rep 15 k) cl.2.2.2.1 i1
    show zx_p3 (256 * zx_rep 15 k + 15) _ = 256 * zx_sum k (x / 256) + zx_c3 (x % 256)
    rw [e3, ← i2]
    rfl
theorem zx_cnt_sh (P : Nat → Bool) (m : Nat) : ∀ n, z_cnt P (m + n) = z_cnt P m + z_cnt (fun i => P (m + i)) n := by
  intro n
  induction n with
  | zero => show z_cnt P m = z_cnt P m + 0; omega
  | succ n ih =>
    show z_cnt P (m + n) + zv_b (P (m + n)) = z_cnt P m + (z_cnt (fun i => P (m + i)) n + zv_b (P (m + n)))
    omega
theorem zx_cnt_by (x n : Nat) : z_cnt (fun i => x.testBit i) (8 + n) = (zx_c3 (x % 256) : Int) + z_cnt (fun i => (x / 256).testBit i) n := by
  rw [zx_cnt_sh, zx_cnt8 ⟨x % 256, by omega⟩]
  congr 1
  · refine z_cnt_cg 8 (fun j hj => ?_)
    have := Nat.testBit_mod_two_pow x 8 j
    rw [decide_eq_true hj, Bool.true_and] at this
    exact this.symm
  · refine z_cnt_cg n (fun j _ => ?_)
    have := Nat.testBit_div_two_pow (x := x) (n := 8) j
    rw [Nat.add_comm 8 j]
    exact this.symm
theorem zx_and127 (x : Int) : z_and x 127 = x % 128 := by
  unfold z_and
  have h : (Int32.ofInt x &&& Int32.ofInt 127).toBitVec = BitVec.ofInt 32 x &&& 127#32 := rfl
  rw [← Int32.toInt_toBitVec, h]
  have hn : (BitVec.ofInt 32 x &&& 127#32).toNat = (BitVec.ofInt 32 x).toNat % 128 := by
    rw [BitVec.toNat_and]
    exact Nat.and_two_pow_sub_one_eq_mod _ 7
  have h2 : (BitVec.ofInt 32 x).toNat = (x % 4294967296).toNat := by rw [BitVec.toNat_ofInt]; rfl
  rw [BitVec.toInt_eq_toNat_of_lt (by omega), hn, h2]
  omega
theorem zx_w_mod (x : Int) : z_w x % 128 = x % 128 := by
  unfold z_w
  have := Int.bmod_emod (x := x) (m := 4294967296)
  omega
theorem kc_bitCountL (d : Nat) {M : z_M} {Q : z_V → z_M → Prop} {x : Nat} (hx : x < 256 ^ 5) (h : Q (z_I (z_cnt (fun i => x.testBit i) 40)) M) : z_Cl 0 d 390 [z_J (x : Int)] M Q := by
  have b5 : (256 : Nat) ^ 5 = 1099511627776 := by decide
  rw [b5] at hx
  refine re_390 d ?_
  -- the masks, cut to five bytes
  have hm : ∀ (y c : Nat), y < 1099511627776 → c < 256 → y &&& (256 ^ 5 * zx_rep c 3 + zx_rep c 5) = y &&& zx_rep c 5 := by
    intro y c hy hc
    apply Nat.eq_of_testBit_eq
    intro i
    rw [Nat.testBit_and, Nat.testBit_and]
    by_cases hi : i < 40
    · congr 1
      have h5 : zx_rep c 5 < 2 ^ 40 := by
        show 256 * (256 * (256 * (256 * (256 * 0 + c) + c) + c) + c) + c < 2 ^ 40
        have : (2 : Nat) ^ 40 = 1099511627776 := by decide
        omega
      have e : (256 : Nat) ^ 5 = 2 ^ 40 := by decide
      rw [e, Nat.testBit_two_pow_mul_add _ h5, if_pos hi]
    · have : y.testBit i = false := Nat.testBit_lt_two_pow (Nat.lt_of_lt_of_le hy (show 1099511627776 ≤ 2 ^ i from by
        have e : (2 : Nat) ^ 40 = 1099511627776 := by decide
        rw [← e]; exact Nat.pow_le_pow_right (by decide) (by omega)))
      rw [this, Bool.false_and, Bool.false_and]
  have m5 : ∀ y : Nat, y < 1099511627776 → z_andl (y : Int) 6148914691236517205 = ((y &&& zx_rep 85 5 : Nat) : Int) := fun y hy => by
    have := zx_andl_n (a := y) (b := 6148914691236517205) (by omega) (by decide)
    rw [← hm y 85 hy (by decide)]
    exact this
  have m3 : ∀ y : Nat, y < 1099511627776 → z_andl (y : Int) 3689348814741910323 = ((y &&& zx_rep 51 5 : Nat) : Int) := fun y hy => by
    have := zx_andl_n (a := y) (b := 3689348814741910323) (by omega) (by decide)
    rw [← hm y 51 hy (by decide)]
    exact this
  have m1 : ∀ y : Nat, y < 1099511627776 → z_andl (y : Int) 1085102592571150095 = ((y &&& zx_rep 15 5 : Nat) : Int) := fun y hy => by
    have := zx_andl_n (a := y) (b := 1085102592571150095) (by omega) (by decide)
    rw [← hm y 15 hy (by decide)]
    exact this
  have sh : ∀ (y i : Nat), y < 9223372036854775808 → i < 64 → z_ushrl (y : Int) (i : Int) = ((y / 2 ^ i : Nat) : Int) := fun y i hy hi => zx_ushrl_n hy hi
  have s1 := sh x 1 (by omega) (by decide)
  rw [show ((1 : Nat) : Int) = 1 from rfl, show (2 : Nat) ^ 1 = 2 from rfl] at s1
  have l1 : (x / 2 &&& zx_rep 85 5) ≤ x / 2 := Nat.and_le_left
  rw [s1, m5 (x / 2) (by omega), z_wl_id (x := (x : Int) - ((x / 2 &&& zx_rep 85 5 : Nat) : Int)) (by omega) (by omega)]
  have ea : ∃ a : Nat, a = zx_p1 (zx_rep 85 5) x ∧ (x : Int) - ((x / 2 &&& zx_rep 85 5 : Nat) : Int) = (a : Int) ∧ a < 1099511627776 := ⟨_, rfl, by unfold zx_p1; omega, by unfold zx_p1; omega⟩
  obtain ⟨a, ea1, ea2, ea3⟩ := ea
  rw [ea2]
  have s2 := sh a 2 (by omega) (by decide)
  rw [show ((2 : Nat) : Int) = 2 from rfl, show (2 : Nat) ^ 2 = 4 from rfl] at s2
  have l2 : (a &&& zx_rep 51 5) ≤ zx_rep 51 5 := Nat.and_le_right
  have l3 : (a / 4 &&& zx_rep 51 5) ≤ zx_rep 51 5 := Nat.and_le_right
  have r51 : zx_rep 51 5 = 219902325555 := by decide
  rw [s2, m3 a ea3, m3 (a / 4) (by omega), z_wl_id (x := ((a &&& zx_rep 51 5 : Nat) : Int) + ((a / 4 &&& zx_rep 51 5 : Nat) : Int)) (by omega) (by omega)]
  have eb : ∃ b : Nat, b = zx_p2 (zx_rep 51 5) a ∧ ((a &&& zx_rep 51 5 : Nat) : Int) + ((a / 4 &&& zx_rep 51 5 : Nat) : Int) = (b : Int) ∧ b ≤ 439804651110 := ⟨_, rfl, by unfold zx_p2; omega, by unfold zx_p2; omega⟩
  obtain ⟨b, eb1, eb2, eb3⟩ := eb
  rw [eb2]
  have s4 := sh b 4 (by omega) (by decide)
  rw [show ((4 : Nat) : Int) = 4 from rfl, show (2 : Nat) ^ 4 = 16 from rfl] at s4
  have e4 : (b : Int) + ((b / 16 : Nat) : Int) = ((b + b / 16 : Nat) : Int) := by omega
  rw [s4, e4, z_wl_id (x := ((b + b / 16 : Nat) : Int)) (by omega) (by omega), m1 (b + b / 16) (by omega)]
  have ec : ∃ c : Nat, c = zx_a3 5 x ∧ (b + b / 16 &&& zx_rep 15 5) = c := ⟨_, rfl, by rw [eb1, ea1]; rfl⟩
  obtain ⟨c, ec1, ec2⟩ := ec
  rw [ec2]
  have ab := zx_a_by 5 x (by rw [b5]; exact hx)
  rw [← ec1] at ab
  have ecs : c = 256 * (256 * (256 * (256 * (256 * 0 + zx_c3 (x / 256 / 256 / 256 / 256 % 256)) + zx_c3 (x / 256 / 256 / 256 % 256)) + zx_c3 (x / 256 / 256 % 256)) + zx_c3 (x / 256 % 256)) + zx_c3 (x % 256) := ab.2
  have ecn : z_cnt (fun i => x.testBit i) 40 = (zx_c3 (x % 256) : Int) + ((zx_c3 (x / 256 % 256) : Int) + ((zx_c3 (x / 256 / 256 % 256) : Int) + ((zx_c3 (x / 256 / 256 / 256 % 256) : Int) + ((zx_c3 (x / 256 / 256 / 256 / 256 % 256) : Int) + 0)))) := by
    rw [show (40 : Nat) = 8 + 32 from rfl, zx_cnt_by, show (32 : Nat) = 8 + 24 from rfl, zx_cnt_by, show (24 : Nat) = 8 + 16 from rfl, zx_cnt_by, show (16 : Nat) = 8 + 8 from rfl, zx_cnt_by, show (8 : Nat) = 8 + 0 from rfl, zx_cnt_by]
    rfl
  have g0 := (zx_c1_lt ⟨x % 256, by omega⟩).2.2.2.2.1
  have g1 := (zx_c1_lt ⟨x / 256 % 256, by omega⟩).2.2.2.2.1
  have g2 := (zx_c1_lt ⟨x / 256 / 256 % 256, by omega⟩).2.2.2.2.1
  have g3 := (zx_c1_lt ⟨x / 256 / 256 / 256 % 256, by omega⟩).2.2.2.2.1
  have g4 := (zx_c1_lt ⟨x / 256 / 256 / 256 / 256 % 256, by omega⟩).2.2.2.2.1
  dsimp only at g0 g1 g2 g3 g4
  generalize zx_c3 (x % 256) = c0 at *
  generalize zx_c3 (x / 256 % 256) = c1 at *
  generalize zx_c3 (x / 256 / 256 % 256) = c2 at *
  generalize zx_c3 (x / 256 / 256 / 256 % 256) = c3 at *
  generalize zx_c3 (x / 256 / 256 / 256 / 256 % 256) = c4 at *
  have s8 := sh c 8 (by omega) (by decide)
  rw [show ((8 : Nat) : Int) = 8 from rfl, show (2 : Nat) ^ 8 = 256 from rfl] at s8
  have e8 : (c : Int) + ((c / 256 : Nat) : Int) = ((c + c / 256 : Nat) : Int) := by omega
  rw [s8, e8, z_wl_id (x := ((c + c / 256 : Nat) : Int)) (by omega) (by omega)]
  have s16 := sh (c + c / 256) 16 (by omega) (by decide)
  rw [show ((16 : Nat) : Int) = 16 from rfl, show (2 : Nat) ^ 16 = 65536 from rfl] at s16
  have e16 : ((c + c / 256 : Nat) : Int) + (((c + c / 256) / 65536 : Nat) : Int) = ((c + c / 256 + (c + c / 256) / 65536 : Nat) : Int) := by omega
  rw [s16, e16, z_wl_id (x := ((c + c / 256 + (c + c / 256) / 65536 : Nat) : Int)) (by omega) (by omega)]
  have s32 := sh (c + c / 256 + (c + c / 256) / 65536) 32 (by omega) (by decide)
  rw [show ((32 : Nat) : Int) = 32 from rfl, show (2 : Nat) ^ 32 = 4294967296 from rfl] at s32
  have e32 : ((c + c / 256 + (c + c / 256) / 65536 : Nat) : Int) + (((c + c / 256 + (c + c / 256) / 65536) / 4294967296 : Nat) : Int) = ((c + c / 256 + (c + c / 256) / 65536 + (c + c / 256 + (c + c / 256) / 65536) / 4294967296 : Nat) : Int) := by omega
  rw [s32, e32, z_wl_id (x := ((c + c / 256 + (c + c / 256) / 65536 + (c + c / 256 + (c + c / 256) / 65536) / 4294967296 : Nat) : Int)) (by omega) (by omega), zx_and127, zx_w_mod]
  clear e8 e16 e32 s8 s16 s32 s4 e4 s2 s1 hm m5 m3 m1 sh ea1 ea2 ea3 eb1 eb2 eb3 ec1 ec2 l1 l2 l3 ab
  have f1 : c + c / 256 = (c0 + c1) + 256 * (c1 + c2) + 65536 * (c2 + c3) + 16777216 * (c3 + c4) + 4294967296 * c4 := by omega
  rw [f1]
  have f2 : ((c0 + c1) + 256 * (c1 + c2) + 65536 * (c2 + c3) + 16777216 * (c3 + c4) + 4294967296 * c4) / 65536 = (c2 + c3) + 256 * (c3 + c4) + 65536 * c4 := by omega
  rw [f2]
  have f3 : ((c0 + c1) + 256 * (c1 + c2) + 65536 * (c2 + c3) + 16777216 * (c3 + c4) + 4294967296 * c4 + ((c2 + c3) + 256 * (c3 + c4) + 65536 * c4)) / 4294967296 = c4 := by omega
  rw [f3]
  have : ((c0 + c1 + 256 * (c1 + c2) + 65536 * (c2 + c3) + 16777216 * (c3 + c4) + 4294967296 * c4 + (c2 + c3 + 256 * (c3 + c4) + 65536 * c4) + c4 : Nat) : Int) % 128 = (c0 : Int) + ((c1 : Int) + ((c2 : Int) + ((c3 : Int) + ((c4 : Int) + 0)))) := by omega
  rw [this, ← ecn]
  exact h
