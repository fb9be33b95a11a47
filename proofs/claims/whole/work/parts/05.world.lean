/-! numbers -/
def z_i32 (x : Int) : Prop := -2147483648 ≤ x ∧ x < 2147483648
def z_i64 (x : Int) : Prop := -9223372036854775808 ≤ x ∧ x < 9223372036854775808
theorem z_w_in (x : Int) : z_i32 (z_w x) := by
  unfold z_i32 z_w
  have h1 := @Int.le_bmod x 4294967296 (by decide)
  have h2 := @Int.bmod_lt x 4294967296 (by decide)
  constructor <;> omega
theorem z_wl_in (x : Int) : z_i64 (z_wl x) := by
  unfold z_i64 z_wl
  have h1 := @Int.le_bmod x 18446744073709551616 (by decide)
  have h2 := @Int.bmod_lt x 18446744073709551616 (by decide)
  constructor <;> omega
theorem z_w_id {x : Int} (h1 : -2147483648 ≤ x) (h2 : x < 2147483648) : z_w x = x := by
  unfold z_w
  exact Int.bmod_eq_of_le (by omega) (by omega)
theorem z_wl_id {x : Int} (h1 : -9223372036854775808 ≤ x) (h2 : x < 9223372036854775808) : z_wl x = x := by
  unfold z_wl
  exact Int.bmod_eq_of_le (by omega) (by omega)
theorem z_n_in (y : Int32) : z_i32 y.toInt := ⟨by have := y.le_toInt; omega, by have := y.toInt_lt; omega⟩
theorem z_l_in (y : Int64) : z_i64 y.toInt := ⟨by have := y.le_toInt; omega, by have := y.toInt_lt; omega⟩
theorem z_nt {x : Int} (h : z_i32 x) : (Int32.ofInt x).toInt = x := Int32.toInt_ofInt_of_le (by have := h.1; omega) (by have := h.2; omega)
theorem z_lt {x : Int} (h : z_i64 x) : (Int64.ofInt x).toInt = x := Int64.toInt_ofInt_of_le (by have := h.1; omega) (by have := h.2; omega)
theorem z_nw (x : Int) : Int32.ofInt (z_w x) = Int32.ofInt x := Int32.toInt_inj.1 (by simp [z_w, Int32.toInt_ofInt, Int32.size])
theorem z_lw (x : Int) : Int64.ofInt (z_wl x) = Int64.ofInt x := Int64.toInt_inj.1 (by simp [z_wl, Int64.toInt_ofInt, Int64.size])
theorem z_n_add (x y : Int) : Int32.ofInt x + Int32.ofInt y = Int32.ofInt (z_w (x + y)) := by rw [z_nw, Int32.ofInt_add]
theorem z_n_sub (x y : Int) : Int32.ofInt x - Int32.ofInt y = Int32.ofInt (z_w (x - y)) := by rw [z_nw, Int32.ofInt_sub]
theorem z_n_mul (x y : Int) : Int32.ofInt x * Int32.ofInt y = Int32.ofInt (z_w (x * y)) := by rw [z_nw, Int32.ofInt_mul]
theorem z_n_neg (x : Int) : - Int32.ofInt x = Int32.ofInt (z_w (-x)) := by rw [z_nw, Int32.ofInt_neg]
theorem z_l_add (x y : Int) : Int64.ofInt x + Int64.ofInt y = Int64.ofInt (z_wl (x + y)) := by rw [z_lw, Int64.ofInt_add]
theorem z_l_sub (x y : Int) : Int64.ofInt x - Int64.ofInt y = Int64.ofInt (z_wl (x - y)) := by rw [z_lw, Int64.ofInt_sub]
theorem z_l_mul (x y : Int) : Int64.ofInt x * Int64.ofInt y = Int64.ofInt (z_wl (x * y)) := by rw [z_lw, Int64.ofInt_mul]
theorem z_n_eq {x y : Int} (hx : z_i32 x) (hy : z_i32 y) : Int32.ofInt x = Int32.ofInt y ↔ x = y := ⟨fun h => by rw [← z_nt hx, h, z_nt hy], fun h => by rw [h]⟩
theorem z_n_lt {x y : Int} (hx : z_i32 x) (hy : z_i32 y) : Int32.ofInt x < Int32.ofInt y ↔ x < y := by rw [Int32.lt_iff_toInt_lt, z_nt hx, z_nt hy]
theorem z_n_le {x y : Int} (hx : z_i32 x) (hy : z_i32 y) : Int32.ofInt x ≤ Int32.ofInt y ↔ x ≤ y := by rw [Int32.le_iff_toInt_le, z_nt hx, z_nt hy]
theorem z_l_eq {x y : Int} (hx : z_i64 x) (hy : z_i64 y) : Int64.ofInt x = Int64.ofInt y ↔ x = y := ⟨fun h => by rw [← z_lt hx, h, z_lt hy], fun h => by rw [h]⟩
theorem z_l_lt {x y : Int} (hx : z_i64 x) (hy : z_i64 y) : Int64.ofInt x < Int64.ofInt y ↔ x < y := by rw [Int64.lt_iff_toInt_lt, z_lt hx, z_lt hy]
theorem z_n_div {x y : Int} (hx : z_i32 x) (hy : z_i32 y) : Int32.ofInt x / Int32.ofInt y = Int32.ofInt (z_w (Int.tdiv x y)) := by
  apply Int32.toInt_inj.1
  rw [Int32.toInt_div, z_nt hx, z_nt hy, z_nt (z_w_in _)]
  rfl
theorem z_l_div {x y : Int} (hx : z_i64 x) (hy : z_i64 y) : Int64.ofInt x / Int64.ofInt y = Int64.ofInt (z_wl (Int.tdiv x y)) := by
  apply Int64.toInt_inj.1
  rw [Int64.toInt_div, z_lt hx, z_lt hy, z_lt (z_wl_in _)]
  rfl
theorem z_n_rem {x y : Int} (hx : z_i32 x) (hy : z_i32 y) : Int32.ofInt x - Int32.ofInt x / Int32.ofInt y * Int32.ofInt y = Int32.ofInt (Int.tmod x y) := by
  rw [z_n_div hx hy, z_nw, ← Int32.ofInt_mul, ← Int32.ofInt_sub, Int.tmod_def, Int.mul_comm]
theorem z_l_rem {x y : Int} (hx : z_i64 x) (hy : z_i64 y) : Int64.ofInt x - Int64.ofInt x / Int64.ofInt y * Int64.ofInt y = Int64.ofInt (Int.tmod x y) := by
  rw [z_l_div hx hy, z_lw, ← Int64.ofInt_mul, ← Int64.ofInt_sub, Int.tmod_def, Int.mul_comm]
theorem z_tmod_in {x y : Int} (hx : z_i32 x) : z_i32 (Int.tmod x y) := by
  unfold z_i32 at *
  have h : (Int.tmod x y).natAbs ≤ x.natAbs := by rw [Int.natAbs_tmod]; exact Nat.mod_le _ _
  rcases Int.le_total 0 x with h0 | h0
  · have := Int.tmod_nonneg y h0
    omega
  · have e : Int.tmod x y = -(Int.tmod (-x) y) := by rw [Int.neg_tmod, Int.neg_neg]
    have := Int.tmod_nonneg (a := -x) y (by omega)
    omega
theorem z_tmodl_in {x y : Int} (hx : z_i64 x) : z_i64 (Int.tmod x y) := by
  unfold z_i64 at *
  have h : (Int.tmod x y).natAbs ≤ x.natAbs := by rw [Int.natAbs_tmod]; exact Nat.mod_le _ _
  rcases Int.le_total 0 x with h0 | h0
  · have := Int.tmod_nonneg y h0
    omega
  · have e : Int.tmod x y = -(Int.tmod (-x) y) := by rw [Int.neg_tmod, Int.neg_neg]
    have := Int.tmod_nonneg (a := -x) y (by omega)
    omega
theorem z_i2l {x : Int} (h : z_i32 x) : (Int32.ofInt x).toInt64 = Int64.ofInt x := Int64.toInt_inj.1 (by rw [Int32.toInt_toInt64, z_nt h, z_lt ⟨by have := h.1; omega, by have := h.2; omega⟩])
theorem z_l2i {x : Int} (h : z_i64 x) : (Int64.ofInt x).toInt32 = Int32.ofInt (z_w x) := Int32.toInt_inj.1 (by rw [Int64.toInt_toInt32, z_lt h, z_nt (z_w_in _)]; rfl)
theorem z_i2b {x : Int} (h : z_i32 x) : (Int32.ofInt x).toInt8.toInt32 = Int32.ofInt (z_wb x) := Int32.toInt_inj.1 (by
  rw [Int8.toInt_toInt32, Int32.toInt_toInt8, z_nt h, z_nt]
  · rfl
  · unfold z_i32 z_wb
    have h1 := @Int.le_bmod x 256 (by decide)
    have h2 := @Int.bmod_lt x 256 (by decide)
    constructor <;> omega)
theorem z_wb_in (x : Int) : z_i32 (z_wb x) := by
  unfold z_i32 z_wb
  have h1 := @Int.le_bmod x 256 (by decide)
  have h2 := @Int.bmod_lt x 256 (by decide)
  constructor <;> omega
theorem z_cmp_in (x y : Int) : z_i32 (z_cmp x y) := by
  unfold z_cmp z_i32
  split
  · omega
  · split <;> omega
theorem z_cmp_eq {x y : Int} (hx : z_i64 x) (hy : z_i64 y) : lg_cmp (Int64.ofInt x) (Int64.ofInt y) = Int32.ofInt (z_cmp x y) := by
  unfold lg_cmp z_cmp
  by_cases h1 : x < y
  · rw [if_neg (fun q => by have := (z_l_lt hy hx).mp q; omega), if_neg (fun q => by have := (z_l_eq hx hy).mp q; omega), if_pos h1]
    rfl
  · rw [if_neg h1]
    by_cases h2 : x = y
    · rw [if_neg (fun q => by have := (z_l_lt hy hx).mp q; omega), if_pos ((z_l_eq hx hy).mpr h2), if_pos h2]
      rfl
    · rw [if_pos ((z_l_lt hy hx).mpr (by omega)), if_neg h2]
      rfl
theorem z_max_eq {x y : Int} (hx : z_i32 x) (hy : z_i32 y) : (if Int32.ofInt x < Int32.ofInt y then Int32.ofInt y else Int32.ofInt x) = Int32.ofInt (z_max x y) := by
  unfold z_max
  by_cases h : x < y
  · rw [if_pos ((z_n_lt hx hy).mpr h), if_pos h]
  · rw [if_neg (fun q => h ((z_n_lt hx hy).mp q)), if_neg h]
theorem z_clamp {x : Int} (h : z_i32 x) : (Int32.ofInt x).toNatClampNeg = x.toNat := by
  show (Int32.ofInt x).toInt.toNat = x.toNat
  rw [z_nt h]
theorem z_inb {x : Int} {n : Nat} (h : z_i32 x) (h0 : 0 ≤ x) (h1 : x < Int.ofNat n) : vp_in (Int32.ofInt x) n := by
  rw [vp_in_iff, z_nt h]
  exact ⟨h0, h1⟩
/-! worlds -/
abbrev z_C : Type := va_G × ((Nat → ClassId) × (Nat → Nat))
def z_v (ad : Nat → Nat) : z_V → Value
  | .inl x => .int (Int32.ofInt x)
  | .inr (.inl x) => .long (Int64.ofInt x)
  | .inr (.inr (.inl k)) => .ref (ad k)
  | .inr (.inr (.inr _)) => .null
def z_out (ad : Nat → Nat) : z_V → Option Value
  | .inr (.inr (.inr _)) => none
  | v => some (z_v ad v)
def z_vok (w : Nat) : z_V → Prop
  | .inl x => z_i32 x
  | .inr (.inl x) => z_i64 x
  | .inr (.inr (.inl k)) => k ∈ z_ids w ∨ k ∈ z_cons
  | .inr (.inr (.inr _)) => True
def z_fld (cx : z_C) (M : z_M) (k : Nat) (q : Nat × Nat) : Value := if q.1 = 0 then .int (Int32.ofInt (M k (Int.ofNat q.2))) else .ref (cx.2.2 q.1)
def z_flds (cx : z_C) (M : z_M) (k : Nat) : List Value := (z_fts k).zipIdx.map (z_fld cx M k)
def z_cell (cx : z_C) (M : z_M) (k : Nat) : va_E :=
  if z_knd k = 0 then .inr (z_cix k, z_flds cx M k)
  else if z_knd k = 2 then .inl (cx.2.1 2, (z_len k, .inr (.inl (fun j => Int64.ofInt (M k (Int.ofNat j))))))
  else .inl (cx.2.1 (z_knd k), (z_len k, .inl (fun j => Int32.ofInt (M k (Int.ofNat j)))))
def z_ws (w : Nat) (cx : z_C) (M : z_M) : va_W := (z_ids w).map fun k => (cx.2.2 k, z_cell cx M k)
def z_tys (cx : z_C) : List (ClassId × FieldType) := [(cx.2.1 1, .int), (cx.2.1 2, .long), (cx.2.1 3, .byte), (cx.2.1 4, .boolean)]
def z_St (cx : z_C) (A : Nat → Prop) (U : State) (H : Heap) : Prop := (∀ k ∈ z_cons, va_Z (z_sn k).1 (z_sn k).2.1 (z_sn k).2.2 (.ref (cx.2.2 k)) A U H ∧ va_T (if z_knd k = 6 then .int else .char) (cx.2.2 k) (z_len k) (fun j => .int (Int32.ofInt (z_cv k (Int.ofNat j)))) A U H) ∧ ∀ w ∈ z_nest, va_Nw w U
theorem z_St.warm {cx : z_C} {A A' : Nat → Prop} {s U : State} {H H1 : Heap} (h : z_St cx A s H) (hW : s.WarmedH U.vm) (hq : ∀ a : Nat, a < H.size → ¬ A a → H1[a]? = H[a]?) (hA : ∀ q, A' q → A q) : z_St cx A' U H1 := by
  refine ⟨fun k hk => ⟨((h.1 k hk).1.kept hq).moved hW.alike |>.narrow hA, ((h.1 k hk).2.kept hq).moved hW.alike |>.narrow hA⟩, fun w hw => ?_⟩
  have h2 := h.2 w hw
  simp only [z_nest, List.mem_cons, List.not_mem_nil, or_false] at hw
  rcases hw with rfl | rfl | rfl | rfl | rfl | rfl | rfl | rfl | rfl <;> exact va_Nw.warmM hW h2
def z_A (w : Nat) (cx : z_C) (sz : Nat) : Nat → Prop := fun q => (∃ k, k ∈ z_ids w ∧ q = cx.2.2 k) ∨ sz ≤ q
def z_MR (w : Nat) (M : z_M) : Prop := ∀ k ∈ z_ids w, ∀ j : Int, 0 ≤ j → (j < Int.ofNat (z_len k) ∨ z_knd k = 0) → if z_knd k = 2 then z_i64 (M k j) else z_i32 (M k j)
theorem z_nd (w : Nat) : (z_ids w).Nodup := by
  match w with
  | 0 => decide +kernel
  | 1 => decide +kernel
  | 2 => decide +kernel
  | 3 => decide +kernel
  | 4 => decide +kernel
  | n + 5 => show (z_ids 5).Nodup; decide +kernel
theorem z_ws_at {w : Nat} {k : Nat} (h : k ∈ z_ids w) (cx : z_C) (M : z_M) : ∃ q0 : Nat, (z_ids w)[q0]? = some k ∧ (z_ws w cx M)[q0]? = some (cx.2.2 k, z_cell cx M k) := by
  obtain ⟨q0, hq⟩ := List.getElem?_of_mem h
  exact ⟨q0, hq, by unfold z_ws; rw [List.getElem?_map, hq]; rfl⟩
theorem z_ws_set {w k q0 : Nat} {cx : z_C} {M M' : z_M} {e : va_E} (hq : (z_ids w)[q0]? = some k) (he : e = z_cell cx M' k) (hoff : ∀ k', k' ≠ k → z_cell cx M' k' = z_cell cx M k') : (z_ws w cx M).set q0 (cx.2.2 k, e) = z_ws w cx M' := by
  subst he
  unfold z_ws
  apply List.ext_getElem?
  intro i
  rw [List.getElem?_set]
  by_cases hi : q0 = i
  · subst hi
    have hl : q0 < (z_ids w).length := (List.getElem?_eq_some_iff.mp hq).1
    rw [if_pos rfl, List.length_map, if_pos hl, List.getElem?_map, hq]
    rfl
  · rw [if_neg hi, List.getElem?_map, List.getElem?_map]
    cases hk : (z_ids w)[i]? with
    | none => rfl
    | some k' =>
      have hne : k' ≠ k := by
        intro e
        subst e
        have hl : q0 < (z_ids w).length := (List.getElem?_eq_some_iff.mp hq).1
        exact hi ((List.getElem?_inj hl (z_nd w)).mp (hq.trans hk.symm))
      simp only [Option.map_some]
      rw [hoff k' hne]
theorem z_cell_arr {cx : z_C} {M : z_M} {k : Nat} (h0 : z_knd k ≠ 0) (h2 : z_knd k ≠ 2) : z_cell cx M k = .inl (cx.2.1 (z_knd k), (z_len k, .inl (fun j => Int32.ofInt (M k (Int.ofNat j))))) := by
  unfold z_cell
  rw [if_neg h0, if_neg h2]
theorem z_cell_long {cx : z_C} {M : z_M} {k : Nat} (h2 : z_knd k = 2) : z_cell cx M k = .inl (cx.2.1 2, (z_len k, .inr (.inl (fun j => Int64.ofInt (M k (Int.ofNat j)))))) := by
  unfold z_cell
  rw [if_neg (by omega), if_pos h2]
theorem z_cell_obj {cx : z_C} {M : z_M} {k : Nat} (h : z_knd k = 0) : z_cell cx M k = .inr (z_cix k, z_flds cx M k) := by
  unfold z_cell
  rw [if_pos h]
theorem z_cell_off {cx : z_C} {M M' : z_M} {k : Nat} (h : ∀ j, M' k j = M k j) : z_cell cx M' k = z_cell cx M k := by
  have : M' k = M k := funext h
  unfold z_cell z_flds z_fld
  rw [this]
theorem z_up_off {M : z_M} {a k : Nat} {i x : Int} (h : k ≠ a) (j : Int) : z_up M a i x k j = M k j := by
  unfold z_up
  rw [if_neg h]
theorem z_flds_at {cx : z_C} {M : z_M} {k j t : Nat} (h : z_nth (z_fts k) j = some t) : (z_flds cx M k)[j]? = some (z_fld cx M k (t, j)) := by
  rw [z_nth_eq] at h
  unfold z_flds
  rw [List.getElem?_map, List.getElem?_zipIdx, h]
  simp
theorem z_flds_set {cx : z_C} {M : z_M} {k j : Nat} {x : Int} (h : z_nth (z_fts k) j = some 0) : (z_flds cx M k).set j (.int (Int32.ofInt x)) = z_flds cx (z_up M k (Int.ofNat j) x) k := by
  rw [z_nth_eq] at h
  apply List.ext_getElem?
  intro i
  rw [List.getElem?_set]
  have hl : j < (z_fts k).length := (List.getElem?_eq_some_iff.mp h).1
  by_cases hi : j = i
  · subst hi
    rw [if_pos rfl]
    unfold z_flds
    rw [List.length_map, List.length_zipIdx, if_pos hl, List.getElem?_map, List.getElem?_zipIdx, h]
    simp [z_fld, z_up]
  · rw [if_neg hi]
    unfold z_flds
    rw [List.getElem?_map, List.getElem?_map, List.getElem?_zipIdx]
    cases hk : (z_fts k)[i]? with
    | none => rfl
    | some t =>
      have hne : (Int.ofNat i = Int.ofNat j) = False := eq_false (fun e => hi (Int.ofNat.inj e).symm)
      simp only [Option.map_some, z_fld, z_up, Nat.zero_add, hne, if_true, if_false]
theorem z_i_upd {M : z_M} {k : Nat} {i x : Int} (h0 : 0 ≤ i) : upd (fun j => Int32.ofInt (M k (Int.ofNat j))) i.toNat (Int32.ofInt x) = fun j => Int32.ofInt (z_up M k i x k (Int.ofNat j)) := by
  funext j
  unfold upd z_up
  rw [if_pos rfl]
  by_cases hj : j = i.toNat
  · rw [if_pos hj, if_pos (by subst hj; show ((i.toNat : Nat) : Int) = i; omega)]
  · rw [if_neg hj, if_neg (fun e => hj (by rw [← e]; rfl))]
theorem z_l_upd {M : z_M} {k : Nat} {i x : Int} (h0 : 0 ≤ i) : vp_updL (fun j => Int64.ofInt (M k (Int.ofNat j))) i.toNat (Int64.ofInt x) = fun j => Int64.ofInt (z_up M k i x k (Int.ofNat j)) := by
  funext j
  unfold vp_updL z_up
  rw [if_pos rfl]
  by_cases hj : j = i.toNat
  · rw [if_pos hj, if_pos (by subst hj; show ((i.toNat : Nat) : Int) = i; omega)]
  · rw [if_neg hj, if_neg (fun e => hj (by rw [← e]; rfl))]
theorem z_MR_up {w k : Nat} {M : z_M} {i x : Int} (h : z_MR w M) (hx : if z_knd k = 2 then z_i64 x else z_i32 x) : z_MR w (z_up M k i x) := by
  intro k' hk' j h0 hj
  unfold z_up
  by_cases e : k' = k
  · subst e
    rw [if_pos rfl]
    by_cases e2 : j = i
    · rw [if_pos e2]; exact hx
    · rw [if_neg e2]; exact h k' hk' j h0 hj
  · rw [if_neg e]
    exact h k' hk' j h0 hj
theorem z_MR_cp {w a b : Nat} {M : z_M} {i j n : Int} (h : z_MR w M) (ha : a ∈ z_ids w) (hka : z_knd a = 1) (hkb : z_knd b = 1) (hi : 0 ≤ i) (hn : i + n ≤ Int.ofNat (z_len a)) : z_MR w (z_cp M a i b j n) := by
  intro k' hk' q h0 hj
  unfold z_cp
  by_cases e : k' = b
  · subst e
    rw [if_pos rfl]
    by_cases e2 : j ≤ q ∧ q < j + n
    · rw [if_pos e2]
      have := h a ha (i + (q - j)) (by omega) (Or.inl (by omega))
      rw [hka] at this
      rw [hkb]
      exact this
    · rw [if_neg e2]; exact h k' hk' q h0 hj
  · rw [if_neg e]
    exact h k' hk' q h0 hj
/-! locals -/
def z_lx (ad : Nat → Nat) : Nat → List z_V → List (Nat × Value)
  | _, [] => []
  | i, .inr (.inr (.inr _)) :: t => z_lx ad (i + 1) t
  | i, v :: t => (i, z_v ad v) :: z_lx ad (i + 1) t
theorem z_lx_mem {ad : Nat → Nat} {L : List z_V} : ∀ {j i : Nat} {x : Value}, (i, x) ∈ z_lx ad j L → ∃ v n, i = j + n ∧ z_nth L n = some v ∧ v ≠ z_U ∧ x = z_v ad v := by
  induction L with
  | nil => intro j i x h; cases h
  | cons u t ih =>
    intro j i x h
    have step : ∀ (h2 : (i, x) ∈ z_lx ad (j + 1) t), ∃ v n, i = j + n ∧ z_nth (u :: t) n = some v ∧ v ≠ z_U ∧ x = z_v ad v := by
      intro h2
      obtain ⟨v, n, e1, e2, e3, e4⟩ := ih h2
      exact ⟨v, n + 1, by omega, e2, e3, e4⟩
    have hd : u ≠ z_U → (i, x) ∈ (j, z_v ad u) :: z_lx ad (j + 1) t → ∃ v n, i = j + n ∧ z_nth (u :: t) n = some v ∧ v ≠ z_U ∧ x = z_v ad v := by
      intro hu h2
      rcases List.mem_cons.mp h2 with h3 | h3
      · cases h3
        exact ⟨u, 0, rfl, rfl, hu, rfl⟩
      · exact step h3
    match u, h, hd, step with
    | .inl y, h, hd, _ => exact hd (fun q => by cases q) h
    | .inr (.inl y), h, hd, _ => exact hd (fun q => by cases q) h
    | .inr (.inr (.inl y)), h, hd, _ => exact hd (fun q => by cases q) h
    | .inr (.inr (.inr ())), h, _, step => exact step h
theorem z_lx_in {ad : Nat → Nat} {L : List z_V} : ∀ {j n : Nat} {v : z_V}, z_nth L n = some v → v ≠ z_U → (j + n, z_v ad v) ∈ z_lx ad j L := by
  induction L with
  | nil => intro j n v h; cases n <;> cases h
  | cons u t ih =>
    intro j n v h hv
    cases n with
    | zero =>
      have e : u = v := Option.some.inj h
      subst e
      match u, hv with
      | .inl y, _ => exact List.mem_cons_self
      | .inr (.inl y), _ => exact List.mem_cons_self
      | .inr (.inr (.inl y)), _ => exact List.mem_cons_self
      | .inr (.inr (.inr ())), hv => exact absurd rfl hv
    | succ n =>
      have h2 := ih (j := j + 1) (n := n) h hv
      rw [show j + 1 + n = j + (n + 1) by omega] at h2
      match u with
      | .inl y => exact List.mem_cons_of_mem _ h2
      | .inr (.inl y) => exact List.mem_cons_of_mem _ h2
      | .inr (.inr (.inl y)) => exact List.mem_cons_of_mem _ h2
      | .inr (.inr (.inr ())) => exact h2
theorem z_kl_ok {a v : z_V} (h : z_kl a = v) (hv : v ≠ z_U) : a = v ∧ z_k1 v = true := by
  match a, h with
  | .inl y, h => subst h; exact ⟨rfl, rfl⟩
  | .inr (.inl y), h => exact absurd h.symm hv
  | .inr (.inr (.inl y)), h => subst h; exact ⟨rfl, rfl⟩
  | .inr (.inr (.inr ())), h => exact absurd h.symm hv
theorem z_st_nth : ∀ {L : List z_V} {i : Nat} {v : z_V} {n : Nat} {u : z_V}, i < L.length → z_nth (z_st L i v) n = some u → u ≠ z_U → (n = i ∧ u = v) ∨ (n ≠ i ∧ z_nth L n = some u ∧ (n + 1 = i → z_k1 u = true)) := by
  intro L i v
  fun_induction z_st L i v with
  | case1 => intro n u hi; exact absurd hi (by simp)
  | case2 a t v =>
    intro n u _ h hu
    cases n with
    | zero => exact Or.inl ⟨rfl, (Option.some.inj h).symm⟩
    | succ n => exact Or.inr ⟨by omega, h, fun q => by omega⟩
  | case3 => intro n u hi; exact absurd hi (by simp)
  | case4 a b t v =>
    intro n u _ h hu
    match n, h with
    | 0, h =>
      obtain ⟨e1, e2⟩ := z_kl_ok (Option.some.inj h) hu
      exact Or.inr ⟨by omega, by rw [e1]; rfl, fun _ => e2⟩
    | 1, h => exact Or.inl ⟨rfl, (Option.some.inj h).symm⟩
    | n + 2, h => exact Or.inr ⟨by omega, h, fun q => by omega⟩
  | case5 v a t m ih =>
    intro n u hi h hu
    cases n with
    | zero => exact Or.inr ⟨by omega, h, fun q => by omega⟩
    | succ n =>
      rcases ih (by simpa using hi) h hu with ⟨e1, e2⟩ | ⟨e1, e2, e3⟩
      · exact Or.inl ⟨by omega, e2⟩
      · exact Or.inr ⟨by omega, e2, fun q => e3 (by omega)⟩
theorem z_st_len (L : List z_V) (i : Nat) (v : z_V) : (z_st L i v).length = L.length := by
  fun_induction z_st L i v <;> simp_all
theorem z_st_ok {w : Nat} {L : List z_V} {i : Nat} {v : z_V} (h : ∀ u ∈ L, z_vok w u) (hv : z_vok w v) : ∀ u ∈ z_st L i v, z_vok w u := by
  have hk : ∀ a, z_vok w a → z_vok w (z_kl a) := by
    intro a ha
    match a, ha with
    | .inl y, ha => exact ha
    | .inr (.inl y), _ => exact trivial
    | .inr (.inr (.inl y)), ha => exact ha
    | .inr (.inr (.inr ())), _ => exact trivial
  fun_induction z_st L i v <;> simp_all
theorem z_set_nth {L : List z_V} {i n : Nat} {u : z_V} (h : z_nth (L.set i z_U) n = some u) (hu : u ≠ z_U) : n ≠ i ∧ z_nth L n = some u := by
  rw [z_nth_eq, List.getElem?_set] at h
  by_cases e : i = n
  · subst e
    rw [if_pos rfl] at h
    split at h
    · exact absurd (Option.some.inj h).symm hu
    · cases h
  · rw [if_neg e] at h
    exact ⟨fun q => e q.symm, by rw [z_nth_eq]; exact h⟩
