/-! the JDK's max, min, abs, arraycopy; every instruction; whole methods -/
theorem z_ini_math : Cond.initialized "java/lang/Math" ∈ z_ts := z_wd_in (ci := (1, 15)) (by decide +kernel)
theorem z_ini_sys : Cond.initialized "java/lang/System" ∈ z_ts := z_wd_in (ci := (1, 16)) (by decide +kernel)
theorem z_st_copy : Cond.static arraycopyName ∈ z_ts := z_wd_in (ci := (3, 54)) (by decide +kernel)
theorem z_na_copy : Cond.native arraycopyName ∈ z_ts := z_wd_in (ci := (3, 55)) (by decide +kernel)
theorem z_st_max : Cond.static Lib.Math.max.name ∈ z_ts := z_wd_in (ci := (3, 44)) (by decide +kernel)
theorem z_co_max : Cond.code Lib.Math.max.name Lib.Math.max.code 2 (some .int) ∈ z_ts := z_wd_in (ci := (3, 45)) (by decide +kernel)
theorem z_st_min : Cond.static Lib.Math.min.name ∈ z_ts := z_wd_in (ci := (3, 47)) (by decide +kernel)
theorem z_co_min : Cond.code Lib.Math.min.name Lib.Math.min.code 2 (some .int) ∈ z_ts := z_wd_in (ci := (3, 48)) (by decide +kernel)
theorem z_st_abs : Cond.static Lib.Math.abs.name ∈ z_ts := z_wd_in (ci := (4, 133)) (by decide +kernel)
theorem z_co_abs : Cond.code Lib.Math.abs.name Lib.Math.abs.code 1 (some .int) ∈ z_ts := z_wd_in (ci := (4, 134)) (by decide +kernel)
theorem z_min_eq {x y : Int} (hx : z_i32 x) (hy : z_i32 y) : (if Int32.ofInt y < Int32.ofInt x then Int32.ofInt y else Int32.ofInt x) = Int32.ofInt (z_min x y) := by
  unfold z_min
  by_cases h : y < x
  · rw [if_pos ((z_n_lt hy hx).mpr h), if_pos h]
  · rw [if_neg (fun q => h ((z_n_lt hy hx).mp q)), if_neg h]
theorem z_abs_eq {x : Int} (hx : z_i32 x) : (if 0 ≤ Int32.ofInt x then Int32.ofInt x else 0 - Int32.ofInt x) = Int32.ofInt (z_abs x) := by
  unfold z_abs
  have h0 : z_i32 0 := ⟨by decide, by decide⟩
  have e0 : (0 : Int32) = Int32.ofInt 0 := rfl
  by_cases h : x < 0
  · rw [if_neg (fun q => by rw [e0, z_n_le h0 hx] at q; omega), if_pos h, e0, z_n_sub]
    congr 2
    omega
  · rw [if_pos (by rw [e0, z_n_le h0 hx]; omega), if_neg h]
section ZE
variable {w d : Nat} {t : z_MT} {pc : Nat} {L S : List z_V} {M : z_M} {Q : z_V → z_M → Prop} {K : Nat → List z_V → List z_V → z_M → Prop}
theorem z_s_max {ix : Nat} {lk : Nat × Nat} (hd : decode t.2.1 pc = .ok (.invokestatic ix, 3)) (hc : z_wd lk (.methodLink t.1.cls ix Lib.Math.max.name) = true) (hK : ∀ pc L S M, K pc L S M → z_G w d t pc L S M Q) (h : z_p2 S fun x y r => if z_cat r ≤ 8 then K (pc + 3) L (z_I (z_max x y) :: r) M else False) : z_G w d t pc L S M Q := by
  replace h := z_p2_inv h
  obtain ⟨x, y, r, rfl, h⟩ := h
  split at h
  case isFalse => exact h.elim
  rename_i hcat
  intro p l e R CC SS s m args below meth c cx H locs ls F C
  obtain ⟨hx, hb, hr, hml, hown, hts, hlk, hKk, hSt, hRm⟩ := id F
  obtain ⟨hP, hD, hS, hMR, hl, hLn, hL, hSk⟩ := id C
  have vy : z_i32 y := hSk (z_I y) (by simp)
  have vx : z_i32 x := hSk (z_I x) (by simp)
  have vr : ∀ v ∈ r, z_vok w v := fun v hv => hSk v (by simp [hv])
  show W p l e R s m args below meth c H locs CC SS _ (F0 m pc ls (.int (Int32.ofInt y) :: .int (Int32.ofInt x) :: r.map (z_v cx.2.2)))
  refine va_mmax hx hb (hml.trans hl.1.symm) hown (hts _ (z_wd_in hc)) (hts _ z_st_max) (hts _ z_ini_math) (hts _ z_co_max) (by have := hRm.1; omega) (by rw [z_cat_eq]; have := hRm.2.1; omega) hRm.2.2.1 hRm.2.2.2 hd ?_
  rw [z_max_eq vx vy]
  have vm : z_i32 (z_max x y) := by unfold z_max; split <;> assumption
  exact hK _ _ _ _ h p l e R CC SS s m args below meth c cx _ _ ls F ⟨hP, hD, hS, hMR, hl, hLn, hL, List.forall_mem_cons.mpr ⟨vm, vr⟩⟩
theorem z_s_min {ix : Nat} {lk : Nat × Nat} (hd : decode t.2.1 pc = .ok (.invokestatic ix, 3)) (hc : z_wd lk (.methodLink t.1.cls ix Lib.Math.min.name) = true) (hK : ∀ pc L S M, K pc L S M → z_G w d t pc L S M Q) (h : z_p2 S fun x y r => if z_cat r ≤ 8 then K (pc + 3) L (z_I (z_min x y) :: r) M else False) : z_G w d t pc L S M Q := by
  replace h := z_p2_inv h
  obtain ⟨x, y, r, rfl, h⟩ := h
  split at h
  case isFalse => exact h.elim
  rename_i hcat
  intro p l e R CC SS s m args below meth c cx H locs ls F C
  obtain ⟨hx, hb, hr, hml, hown, hts, hlk, hKk, hSt, hRm⟩ := id F
  obtain ⟨hP, hD, hS, hMR, hl, hLn, hL, hSk⟩ := id C
  have vy : z_i32 y := hSk (z_I y) (by simp)
  have vx : z_i32 x := hSk (z_I x) (by simp)
  have vr : ∀ v ∈ r, z_vok w v := fun v hv => hSk v (by simp [hv])
  show W p l e R s m args below meth c H locs CC SS _ (F0 m pc ls (.int (Int32.ofInt y) :: .int (Int32.ofInt x) :: r.map (z_v cx.2.2)))
  refine va_mmin hx hb (hml.trans hl.1.symm) hown (hts _ (z_wd_in hc)) (hts _ z_st_min) (hts _ z_ini_math) (hts _ z_co_min) (by have := hRm.1; omega) (by rw [z_cat_eq]; have := hRm.2.1; omega) hRm.2.2.1 hRm.2.2.2 hd ?_
  rw [z_min_eq vx vy]
  have vm : z_i32 (z_min x y) := by unfold z_min; split <;> assumption
  exact hK _ _ _ _ h p l e R CC SS s m args below meth c cx _ _ ls F ⟨hP, hD, hS, hMR, hl, hLn, hL, List.forall_mem_cons.mpr ⟨vm, vr⟩⟩
theorem z_s_abs {ix : Nat} {lk : Nat × Nat} (hd : decode t.2.1 pc = .ok (.invokestatic ix, 3)) (hc : z_wd lk (.methodLink t.1.cls ix Lib.Math.abs.name) = true) (hK : ∀ pc L S M, K pc L S M → z_G w d t pc L S M Q) (h : z_p1 S fun x r => if z_cat r ≤ 8 then K (pc + 3) L (z_I (z_abs x) :: r) M else False) : z_G w d t pc L S M Q := by
  replace h := z_p1_inv h
  obtain ⟨x, r, rfl, h⟩ := h
  split at h
  case isFalse => exact h.elim
  rename_i hcat
  intro p l e R CC SS s m args below meth c cx H locs ls F C
  obtain ⟨hx, hb, hr, hml, hown, hts, hlk, hKk, hSt, hRm⟩ := id F
  obtain ⟨hP, hD, hS, hMR, hl, hLn, hL, hSk⟩ := id C
  have vx : z_i32 x := hSk (z_I x) (by simp)
  have vr : ∀ v ∈ r, z_vok w v := fun v hv => hSk v (by simp [hv])
  show W p l e R s m args below meth c H locs CC SS _ (F0 m pc ls (.int (Int32.ofInt x) :: r.map (z_v cx.2.2)))
  refine va_mabs hx hb (hml.trans hl.1.symm) hown (hts _ (z_wd_in hc)) (hts _ z_st_abs) (hts _ z_ini_math) (hts _ z_co_abs) (by have := hRm.1; omega) (by rw [z_cat_eq]; have := hRm.2.1; omega) hRm.2.2.1 hRm.2.2.2 hd ?_
  rw [z_abs_eq vx]
  have vm : z_i32 (z_abs x) := by
    unfold z_abs
    split
    · exact z_w_in _
    · exact vx
  exact hK _ _ _ _ h p l e R CC SS s m args below meth c cx _ _ ls F ⟨hP, hD, hS, hMR, hl, hLn, hL, List.forall_mem_cons.mpr ⟨vm, vr⟩⟩
theorem z_cpy_eq {M : z_M} {a b : Nat} {i j n : Int} (hi : 0 ≤ i) (hj : 0 ≤ j) (hn : 0 ≤ n) : va_cpy (fun k => Int32.ofInt (M a (Int.ofNat k))) (fun k => Int32.ofInt (M b (Int.ofNat k))) i.toNat j.toNat n.toNat = fun k => Int32.ofInt (z_cp M a i b j n b (Int.ofNat k)) := by
  funext k
  unfold va_cpy z_cp
  rw [if_pos rfl]
  have ek : Int.ofNat k = (k : Int) := rfl
  by_cases h : j.toNat ≤ k ∧ k < j.toNat + n.toNat
  · rw [if_pos h, if_pos (by omega)]
    have e : Int.ofNat (i.toNat + (k - j.toNat)) = i + (Int.ofNat k - j) := by
      show ((i.toNat + (k - j.toNat) : Nat) : Int) = i + (Int.ofNat k - j)
      omega
    show Int32.ofInt (M a (Int.ofNat (i.toNat + (k - j.toNat)))) = _
    rw [e]
  · rw [if_neg h, if_neg (by omega)]
theorem z_cp_off {M : z_M} {a b k : Nat} {i j n : Int} (h : k ≠ b) (q : Int) : z_cp M a i b j n k q = M k q := by
  unfold z_cp
  rw [if_neg h]
theorem z_s_copy {ix : Nat} {lk : Nat × Nat} (hd : decode t.2.1 pc = .ok (.invokestatic ix, 3)) (hc : z_wd lk (.methodLink t.1.cls ix arraycopyName) = true) (hK : ∀ pc L S M, K pc L S M → z_G w d t pc L S M Q) (h : z_pc5 S fun a i b j n r => if z_cat r ≤ 8 then z_copy a i b j n M fun M' => K (pc + 3) L r M' else False) : z_G w d t pc L S M Q := by
  replace h := z_pc5_inv h
  obtain ⟨a, i, b, j, n, r, rfl, h⟩ := h
  split at h
  case isFalse => exact h.elim
  rename_i hcat
  unfold z_copy at h
  split at h
  case isFalse => exact h.elim
  rename_i hka
  split at h
  case isFalse => exact h.elim
  rename_i hkb
  obtain ⟨h1, h2, h3, h4, h5, h⟩ := h
  intro p l e R CC SS s m args below meth c cx H locs ls F C
  obtain ⟨hx, hb, hr, hml, hown, hts, hlk, hKk, hSt, hRm⟩ := id F
  obtain ⟨hP, hD, hS, hMR, hl, hLn, hL, hSk⟩ := id C
  have vi : z_i32 i := hSk (z_I i) (by simp)
  have vj : z_i32 j := hSk (z_I j) (by simp)
  have vn : z_i32 n := hSk (z_I n) (by simp)
  have va : z_vok w (z_R a) := hSk (z_R a) (by simp)
  have vb : z_vok w (z_R b) := hSk (z_R b) (by simp)
  have vr : ∀ v ∈ r, z_vok w v := fun v hv => hSk v (by simp [hv])
  show W p l e R s m args below meth c H locs CC SS _ (F0 m pc ls (.int (Int32.ofInt n) :: .int (Int32.ofInt j) :: .ref (cx.2.2 b) :: .int (Int32.ofInt i) :: .ref (cx.2.2 a) :: r.map (z_v cx.2.2)))
  have hina := z_live va (by omega) (by omega)
  have hinb := z_live vb (by omega) (by omega)
  obtain ⟨q0, -, hq⟩ := z_ws_at hina cx M
  obtain ⟨q1, hq1', hq1⟩ := z_ws_at hinb cx M
  rw [z_cell_arr (by omega) (by omega), hka] at hq
  rw [z_cell_arr (by omega) (by omega), hkb] at hq1
  have h0 : z_i32 0 := ⟨by decide, by decide⟩
  have e0 : (0 : Int32) = Int32.ofInt 0 := rfl
  have en : ∀ k : Nat, Int.ofNat k = (k : Int) := fun _ => rfl
  have hfr : 1 ≤ R.frames := by have := hRm.1; omega
  have hlo : ((r.map (z_v cx.2.2)).map fun v => v.category).sum + (nativeFrameWords "java/lang/System" "arraycopy" 5 + 11) ≤ R.locals := by
    have h7 : nativeFrameWords "java/lang/System" "arraycopy" 5 = 7 := by decide +kernel
    rw [z_cat_eq, h7]
    have := hRm.2.1
    omega
  refine va_copyi hx hb (hml.trans hl.1.symm) hown (hts _ (z_wd_in hc)) (hts _ z_na_copy) (hts _ z_st_copy) (hts _ z_ini_sys) hKk hP hD hS q0 q1 0 0 hq hq1 rfl rfl rfl
    (by rw [e0, z_n_lt vi h0]; omega) (by rw [e0, z_n_lt vj h0]; omega) (by rw [e0, z_n_lt vn h0]; omega) (by rw [z_clamp vi, z_clamp vn]; rw [en] at h4; omega) (by rw [z_clamp vj, z_clamp vn]; rw [en] at h5; omega) (fun _ _ => rfl) hfr hlo hd (fun H1 locs1 hP1 hD1 hS1 => ?_)
  rw [z_clamp vi, z_clamp vj, z_clamp vn, z_cpy_eq h1 h2 h3] at hP1 hD1
  have ews := z_ws_set (cx := cx) (M := M) (M' := z_cp M a i b j n) hq1' (by rw [z_cell_arr (by omega) (by omega), hkb]) (fun k' hne => z_cell_off (z_cp_off hne))
  rw [ews] at hP1 hD1
  exact hK _ _ _ _ h p l e R CC SS s m args below meth c cx _ _ ls F ⟨hP1, hD1, hS1, z_MR_cp hMR hina hka hkb h1 h4, hl, hLn, hL, vr⟩
/-- every instruction -/
theorem z_step_ok {e : z_E} (hE : z_chkE t.1.cls t.2.1 t.2.2.1 t.2.2.2.1 e = true) (hK : ∀ pc L S M, K pc L S M → z_G w d t pc L S M Q) (h : z_stp w (z_CC w d) e L S M Q K) : z_G w d t e.1 L S M Q := by
  obtain ⟨pc, ⟨⟨ins, len⟩, ⟨⟨x1, ⟨x2, x3⟩⟩, lk⟩⟩⟩ := e
  unfold z_chkE at hE
  simp only [Bool.and_eq_true, Bool.or_eq_true] at hE
  obtain ⟨hd, hlen, hc⟩ := hE
  replace hd := of_decide_eq_true hd
  have hL0 : ∀ n, z_ilen ins = n → n ≠ 0 → len = n := by
    intro n hn h0
    rcases hlen with q | q
    · have := Nat.eq_of_beq_eq_true q
      omega
    · have := Nat.eq_of_beq_eq_true q
      omega
  cases ins with

  | iadd =>
    have hl := hL0 1 rfl (by decide)
    subst hl
    exact z_s_iadd hd hK h
  | isub =>
    have hl := hL0 1 rfl (by decide)
    subst hl
    exact z_s_isub hd hK h
  | imul =>
    have hl := hL0 1 rfl (by decide)
    subst hl
    exact z_s_imul hd hK h
  | idiv =>
    have hl := hL0 1 rfl (by decide)
    subst hl
    exact z_s_idiv hd hK h
  | irem =>
    have hl := hL0 1 rfl (by decide)
    subst hl
    exact z_s_irem hd hK h
  | iand =>
    have hl := hL0 1 rfl (by decide)
    subst hl
    exact z_s_iand hd hK h
  | ior =>
    have hl := hL0 1 rfl (by decide)
    subst hl
    exact z_s_ior hd hK h
  | ishl =>
    have hl := hL0 1 rfl (by decide)
    subst hl
    exact z_s_ishl hd hK h
  | ishr =>
    have hl := hL0 1 rfl (by decide)
    subst hl
    exact z_s_ishr hd hK h
  | iushr =>
    have hl := hL0 1 rfl (by decide)
    subst hl
    exact z_s_iushr hd hK h
  | ladd =>
    have hl := hL0 1 rfl (by decide)
    subst hl
    exact z_s_ladd hd hK h
  | lsub =>
    have hl := hL0 1 rfl (by decide)
    subst hl
    exact z_s_lsub hd hK h
  | lmul =>
    have hl := hL0 1 rfl (by decide)
    subst hl
    exact z_s_lmul hd hK h
  | ldiv =>
    have hl := hL0 1 rfl (by decide)
    subst hl
    exact z_s_ldiv hd hK h
  | lrem =>
    have hl := hL0 1 rfl (by decide)
    subst hl
    exact z_s_lrem hd hK h
  | land =>
    have hl := hL0 1 rfl (by decide)
    subst hl
    exact z_s_land hd hK h
  | lor =>
    have hl := hL0 1 rfl (by decide)
    subst hl
    exact z_s_lor hd hK h
  | lxor =>
    have hl := hL0 1 rfl (by decide)
    subst hl
    exact z_s_lxor hd hK h
  | lshl =>
    have hl := hL0 1 rfl (by decide)
    subst hl
    exact z_s_lshl hd hK h
  | lushr =>
    have hl := hL0 1 rfl (by decide)
    subst hl
    exact z_s_lushr hd hK h
  | lcmp =>
    have hl := hL0 1 rfl (by decide)
    subst hl
    exact z_s_lcmp hd hK h
  | ineg =>
    have hl := hL0 1 rfl (by decide)
    subst hl
    exact z_s_ineg hd hK h
  | i2l =>
    have hl := hL0 1 rfl (by decide)
    subst hl
    exact z_s_i2l hd hK h
  | l2i =>
    have hl := hL0 1 rfl (by decide)
    subst hl
    exact z_s_l2i hd hK h
  | i2b =>
    have hl := hL0 1 rfl (by decide)
    subst hl
    exact z_s_i2b hd hK h
  | dup =>
    have hl := hL0 1 rfl (by decide)
    subst hl
    exact z_s_dup hd hK h
  | pop =>
    have hl := hL0 1 rfl (by decide)
    subst hl
    exact z_s_pop hd hK h
  | dup2 =>
    have hl := hL0 1 rfl (by decide)
    subst hl
    exact z_s_dup2 hd hK h
  | iaload =>
    have hl := hL0 1 rfl (by decide)
    subst hl
    exact z_s_iaload hd hK h
  | caload =>
    have hl := hL0 1 rfl (by decide)
    subst hl
    exact z_s_caload hd hK h
  | baload =>
    have hl := hL0 1 rfl (by decide)
    subst hl
    exact z_s_baload hd hK h
  | laload =>
    have hl := hL0 1 rfl (by decide)
    subst hl
    exact z_s_laload hd hK h
  | iastore =>
    have hl := hL0 1 rfl (by decide)
    subst hl
    exact z_s_iastore hd hK h
  | bastore =>
    have hl := hL0 1 rfl (by decide)
    subst hl
    exact z_s_bastore hd hK h
  | lastore =>
    have hl := hL0 1 rfl (by decide)
    subst hl
    exact z_s_lastore hd hK h
  | arraylength =>
    have hl := hL0 1 rfl (by decide)
    subst hl
    exact z_s_arraylength hd hK h
  | iload_n n =>
    have hl := hL0 1 rfl (by decide)
    subst hl
    exact z_s_iload_n hd hK h
  | iload i =>
    have hl := hL0 2 rfl (by decide)
    subst hl
    exact z_s_iload hd hK h
  | lload_n n =>
    have hl := hL0 1 rfl (by decide)
    subst hl
    exact z_s_lload_n hd hK h
  | lload i =>
    have hl := hL0 2 rfl (by decide)
    subst hl
    exact z_s_lload hd hK h
  | aload_n n =>
    have hl := hL0 1 rfl (by decide)
    subst hl
    exact z_s_aload_n hd hK h
  | aload i =>
    have hl := hL0 2 rfl (by decide)
    subst hl
    exact z_s_aload hd hK h
  | istore_n n =>
    have hl := hL0 1 rfl (by decide)
    subst hl
    exact z_s_istore_n hd (Nat.le_of_ble_eq_true hc) hK h
  | istore i =>
    have hl := hL0 2 rfl (by decide)
    subst hl
    exact z_s_istore hd (Nat.le_of_ble_eq_true hc) hK h
  | lstore_n n =>
    have hl := hL0 1 rfl (by decide)
    subst hl
    exact z_s_lstore_n hd (Nat.le_of_ble_eq_true hc) hK h
  | lstore i =>
    have hl := hL0 2 rfl (by decide)
    subst hl
    exact z_s_lstore hd (Nat.le_of_ble_eq_true hc) hK h
  | iinc i n =>
    have hl := hL0 3 rfl (by decide)
    subst hl
    rw [Bool.and_eq_true] at hc
    exact z_s_iinc hd (Nat.le_of_ble_eq_true hc.1) hK h
  | iconst n =>
    have hl := hL0 1 rfl (by decide)
    subst hl
    exact z_s_iconst hd (of_decide_eq_true hc) hK h
  | bipush n =>
    have hl := hL0 2 rfl (by decide)
    subst hl
    exact z_s_bipush hd (of_decide_eq_true hc) hK h
  | sipush n =>
    have hl := hL0 3 rfl (by decide)
    subst hl
    exact z_s_sipush hd (of_decide_eq_true hc) hK h
  | lconst n =>
    have hl := hL0 1 rfl (by decide)
    subst hl
    exact z_s_lconst hd hK h
  | ldc_w i =>
    have hl := hL0 3 rfl (by decide)
    subst hl
    exact z_s_ldc_w hd hc hK h
  | ldc2_w i =>
    have hl := hL0 3 rfl (by decide)
    subst hl
    exact z_s_ldc2_w hd hc hK h
  | goto o =>
    have hl := hL0 3 rfl (by decide)
    subst hl
    exact z_s_goto hd (of_decide_eq_true hc) hK h
  | ifCond c o =>
    have hl := hL0 3 rfl (by decide)
    subst hl
    exact z_s_ifCond hd (of_decide_eq_true hc) hK h
  | if_icmp c o =>
    have hl := hL0 3 rfl (by decide)
    subst hl
    exact z_s_if_icmp hd (of_decide_eq_true hc) hK h
  | tableswitch df lo hi os => exact z_s_tableswitch hd hc hK h
  | lookupswitch df ps => exact z_s_lookupswitch hd hc hK h
  | getfield i =>
    have hl := hL0 3 rfl (by decide)
    subst hl
    exact z_s_getfield hd hc hK h
  | putfield i =>
    have hl := hL0 3 rfl (by decide)
    subst hl
    exact z_s_putfield hd hc hK h
  | getstatic i =>
    have hl := hL0 3 rfl (by decide)
    subst hl
    exact z_s_getstatic hd hc hK h
  | ireturn =>
    have hl := hL0 1 rfl (by decide)
    subst hl
    exact z_s_ireturn hd hc h
  | lreturn =>
    have hl := hL0 1 rfl (by decide)
    subst hl
    exact z_s_lreturn hd hc h
  | return_ =>
    have hl := hL0 1 rfl (by decide)
    subst hl
    exact z_s_return hd hc h
  | invokevirtual i =>
    have hl := hL0 3 rfl (by decide)
    subst hl
    exact z_s_invokevirtual hd hc hK h
  | invokestatic ix =>
    have hl := hL0 3 rfl (by decide)
    subst hl
    by_cases h1 : x1 = 1001
    · subst h1; exact z_s_max hd hc hK h
    by_cases h2 : x1 = 1002
    · subst h2; exact z_s_min hd hc hK h
    by_cases h3 : x1 = 1003
    · subst h3; exact z_s_abs hd hc hK h
    by_cases h4 : x1 = 1004
    · subst h4; exact z_s_copy hd hc hK h
    unfold z_stp at h
    simp only [h1, h2, h3, h4] at h hc
    exact z_s_static hd hc hK h
  | _ => exact h.elim
end ZE

/-- the code of a place is a tail of the method's code -/
theorem z_from_suf {code : List z_E} {pc : Nat} {e : z_E} {r : List z_E} (h : z_from code pc = e :: r) : e.1 = pc ∧ (e :: r) <:+ code := by
  induction code with
  | nil => cases h
  | cons a t ih =>
    unfold z_from at h
    split at h
    next ha =>
      cases h
      exact ⟨ha, List.suffix_refl _⟩
    next =>
      obtain ⟨h1, h2⟩ := ih h
      exact ⟨h1, h2.trans (List.suffix_cons a t)⟩
theorem z_chain_suf : ∀ {code : List z_E} {e f : z_E} {r : List z_E}, z_chain code = true → (e :: f :: r) <:+ code → f.1 = e.1 + e.2.1.2 := by
  intro code
  induction code with
  | nil => intro e f r _ h; have := h.length_le; simp at this
  | cons a t ih =>
    intro e f r hc h
    rcases List.suffix_cons_iff.mp h with q | q
    · cases q
      unfold z_chain at hc
      rw [Bool.and_eq_true] at hc
      exact Nat.eq_of_beq_eq_true hc.1
    · refine ih ?_ q
      cases t with
      | nil => rfl
      | cons b u =>
        unfold z_chain at hc
        rw [Bool.and_eq_true] at hc
        exact hc.2
section ZF
variable {w d : Nat} {t : z_MT} {Q : z_V → z_M → Prop}
theorem z_blk_ok (ht : z_chkM t = true) {cuts : List Nat} : ∀ (n : Nat) (e : z_E) (r : List z_E) (L S : List z_V) (M : z_M), (e :: r) <:+ t.2.2.2.2.1 → z_blk w (z_CC w d) (fun pc L S M => z_G w d t pc L S M Q) cuts t.2.2.2.2.1 Q n (e :: r) L S M → z_G w d t e.1 L S M Q := by
  have hE := (z_chkM_inv ht).1
  have hCh := (z_chkM_inv ht).2.1
  intro n
  induction n with
  | zero => intro e r L S M _ h; exact h.elim
  | succ n ih =>
    intro e r L S M hsuf h
    refine z_step_ok (hE e (hsuf.subset List.mem_cons_self)) ?_ h
    intro pc L' S' M' hk
    split at hk
    · exact hk
    · split at hk
      next hpc =>
        cases r with
        | nil => cases n <;> exact hk.elim
        | cons f u =>
          have e1 := z_chain_suf hCh hsuf
          rw [hpc, ← e1]
          exact ih f u L' S' M' ((List.suffix_cons e (f :: u)).trans hsuf) hk
      next hpc =>
        cases hf : z_from t.2.2.2.2.1 pc with
        | nil => rw [hf] at hk; cases n <;> exact hk.elim
        | cons f u =>
          rw [hf] at hk
          obtain ⟨e1, e2⟩ := z_from_suf hf
          rw [← e1]
          exact ih f u L' S' M' e2 hk
/-- from a place on: its code, symbolically, up to the cuts -/
theorem z_run_ok (ht : z_chkM t = true) (n pc : Nat) (cuts : List Nat) {L S : List z_V} {M : z_M} (h : z_blk w (z_CC w d) (fun pc L S M => z_G w d t pc L S M Q) cuts t.2.2.2.2.1 Q n (z_from t.2.2.2.2.1 pc) L S M) : z_G w d t pc L S M Q := by
  cases hf : z_from t.2.2.2.2.1 pc with
  | nil => rw [hf] at h; cases n <;> exact h.elim
  | cons e r =>
    rw [hf] at h
    obtain ⟨e1, e2⟩ := z_from_suf hf
    rw [← e1]
    exact z_blk_ok ht n e r L S M e2 h
end ZF
/-! the locals with which a method begins -/
def z_lay : List z_V → List z_V
  | [] => []
  | .inr (.inl x) :: r => z_J x :: z_U :: z_lay r
  | v :: r => v :: z_lay r
def z_pad (L : List z_V) (n : Nat) : List z_V := L ++ List.replicate (n - L.length) z_U
theorem z_lx_app (ad : Nat → Nat) (n : Nat) : ∀ (L : List z_V) (i : Nat), z_lx ad i (L ++ List.replicate n z_U) = z_lx ad i L := by
  intro L
  induction L with
  | nil =>
    intro i
    rw [List.nil_append]
    induction n generalizing i with
    | zero => rfl
    | succ n ih => exact ih (i + 1)
  | cons v r ih =>
    intro i
    rw [List.cons_append]
    match v with
    | .inl x => exact congrArg (fun z => (i, z_v ad (.inl x)) :: z) (ih (i + 1))
    | .inr (.inl x) => exact congrArg (fun z => (i, z_v ad (.inr (.inl x))) :: z) (ih (i + 1))
    | .inr (.inr (.inl x)) => exact congrArg (fun z => (i, z_v ad (.inr (.inr (.inl x)))) :: z) (ih (i + 1))
    | .inr (.inr (.inr ())) => exact ih (i + 1)
theorem z_lay_args (ad : Nat → Nat) : ∀ (a : List z_V) (i : Nat), (∀ v ∈ a, v ≠ z_U) → z_lx ad i (z_lay a) = lv_args i (a.map (z_v ad)) := by
  intro a
  induction a with
  | nil => intro i _; rfl
  | cons v r ih =>
    intro i h
    have hr := fun i => ih i (fun u hu => h u (List.mem_cons_of_mem _ hu))
    have hv := h v List.mem_cons_self
    match v, hv with
    | .inl x, _ => exact congrArg _ (hr (i + 1))
    | .inr (.inl x), _ => exact congrArg _ (hr (i + 2))
    | .inr (.inr (.inl x)), _ => exact congrArg _ (hr (i + 1))
    | .inr (.inr (.inr ())), hv => exact absurd rfl hv
theorem z_lay_len (ad : Nat → Nat) : ∀ (a : List z_V), (lg_sl (a.map (z_v ad))).length = (z_lay a).length := by
  intro a
  induction a with
  | nil => rfl
  | cons v r ih =>
    have e : ∀ u : Value, lg_sl (u :: r.map (z_v ad)) = (if u.category = 2 then [Slot.val u, .second] else [Slot.val u]) ++ lg_sl (r.map (z_v ad)) := fun u => rfl
    rw [List.map_cons, e, List.length_append, ih]
    match v with
    | .inl x => show 1 + _ = _; simp [z_lay]; omega
    | .inr (.inl x) => show 2 + _ = _; simp [z_lay]; omega
    | .inr (.inr (.inl x)) => show 1 + _ = _; simp [z_lay]; omega
    | .inr (.inr (.inr ())) => show 1 + _ = _; simp [z_lay]; omega
theorem z_lay_ok {w : Nat} : ∀ (a : List z_V), (∀ v ∈ a, z_vok w v) → ∀ v ∈ z_lay a, z_vok w v := by
  intro a
  induction a with
  | nil => intro _ v hv; cases hv
  | cons u r ih =>
    intro h v hv
    have hr := ih (fun q hq => h q (List.mem_cons_of_mem _ hq))
    have hu := h u List.mem_cons_self
    match u, hu, hv with
    | .inl x, hu, hv =>
      rcases List.mem_cons.mp hv with e | e
      · rw [e]; exact hu
      · exact hr v e
    | .inr (.inl x), hu, hv =>
      rcases List.mem_cons.mp hv with e | e
      · rw [e]; exact hu
      · rcases List.mem_cons.mp e with e | e
        · rw [e]; exact trivial
        · exact hr v e
    | .inr (.inr (.inl x)), hu, hv =>
      rcases List.mem_cons.mp hv with e | e
      · rw [e]; exact hu
      · exact hr v e
    | .inr (.inr (.inr ())), hu, hv =>
      rcases List.mem_cons.mp hv with e | e
      · rw [e]; exact hu
      · exact hr v e
/-- a method's contract out of its walk from its entry -/
theorem z_Cl_of {w d k : Nat} {t : z_MT} {a : List z_V} {M : z_M} {Q : z_V → z_M → Prop} (hk : z_nth z_mt k = some t) (ha : ∀ v ∈ a, v ≠ z_U) (hlen : (z_lay a).length ≤ t.2.2.1) (h : z_G w d t 0 (z_pad (z_lay a) t.2.2.1) [] M Q) : z_Cl w d k a M Q := by
  have ht := z_mt_ok t (z_nth_mem hk)
  obtain ⟨-, -, -, g4, g5, g6, g7, g8, -, -⟩ := z_chkM_inv ht
  refine ⟨t, hk, fun l cx sz hva hMR => ?_⟩
  refine Met.ofW (cc := t.2.1) (maxL := t.2.2.1) (ret := t.2.2.2.1) g6 rfl ?_
  intro p e s m args below meth c s₁ B hml hv
  obtain ⟨rfl, hsz, hP, hKk, hD, hSt⟩ := hv
  subst hsz
  have hx := B.exec
  have hb := B.bytes
  have hr := B.returns
  have hts := atoms_spec (ws := z_WS t) B.pre
  have hown : s.vm.findClass t.1.cls = some m.cls := findClass_of_methodNamed B.named
  have hlocks := B.notSynchronized
  have hl := lv_entry (a.map (z_v cx.2.2)) (n := t.2.2.1) (by rw [z_lay_len]; exact hlen)
  rw [lg_entry_eq]
  have hS : va_S (z_A w cx s.heap.size) s.heap s.heap [] := va_S.rf
  refine h p l e _ 0 0 s m _ below meth c cx s.heap [] _ ⟨hx, hb, hr, hml, hown, fun x hx => hts x (List.mem_cons_of_mem _ hx), hlocks, hKk, hSt, Nat.le_refl _, Nat.le_refl _, Nat.le_refl _, Nat.le_refl _⟩ ⟨hP, hD, hS, hMR, ?_, ?_, ?_, fun v hv => by cases hv⟩
  · unfold z_pad
    rw [z_lx_app, z_lay_args cx.2.2 a 0 ha]
    exact hl
  · unfold z_pad
    rw [List.length_append, List.length_replicate]
    omega
  · intro v hv
    unfold z_pad at hv
    rcases List.mem_append.mp hv with e | e
    · exact z_lay_ok a hva v e
    · rw [List.eq_of_mem_replicate e]; exact trivial
/-- the same with the code at hand -/
theorem z_Cl_run {w d k : Nat} {t : z_MT} {a : List z_V} {M : z_M} {Q : z_V → z_M → Prop} (hk : z_nth z_mt k = some t) (ha : ∀ v ∈ a, v ≠ z_U) (hlen : (z_lay a).length ≤ t.2.2.1) (n : Nat) (cuts : List Nat) (h : z_blk w (z_CC w d) (fun pc L S M => z_G w d t pc L S M Q) cuts t.2.2.2.2.1 Q n t.2.2.2.2.1 (z_pad (z_lay a) t.2.2.1) [] M) : z_Cl w d k a M Q := by
  refine z_Cl_of hk ha hlen ?_
  have ht := z_mt_ok t (z_nth_mem hk)
  obtain ⟨-, -, ⟨e, r, h1, h2⟩, -⟩ := z_chkM_inv ht
  rw [h1] at h
  rw [← h2]
  exact z_blk_ok ht n e r _ _ M (by rw [h1]; exact List.suffix_refl _) (by rw [h1]; exact h)

