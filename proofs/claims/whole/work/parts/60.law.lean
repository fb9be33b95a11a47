/-! THE LAW's loop, by program (wip/whole/gen_law.py) -/
def z_lc0 : List (Nat × (Instr × Nat)) := [(0, (.new 7, 3)), (3, (.dup, 1)), (4, (.invokespecial 9, 3)), (7, (.astore_n 1, 1)), (8, (.new 10, 3)), (11, (.dup, 1)), (12, (.invokespecial 12, 3)), (15, (.astore_n 2, 1)), (16, (.iconst 0, 1)), (17, (.istore_n 3, 1)), (18, (.iload_n 3, 1)), (19, (.aload_n 0, 1)), (20, (.arraylength, 1)), (21, (.bipush 7, 2)), (23, (.isub, 1)), (24, (.if_icmp .gt 1785, 3)), (27, (.aload_n 0, 1)), (28, (.iload_n 3, 1)), (29, (.iaload, 1)), (30, (.bipush 63, 2)), (32, (.iand, 1)), (33, (.tableswitch 1770 0 46 #[203, 266, 289, 332, 355, 378, 401, 424, 457, 480, 513, 546, 579, 612, 655, 678, 701, 724, 738, 761, 784, 807, 861, 937, 1000, 1053, 1076, 1129, 1152, 1175, 1208, 1231, 1254, 1297, 1340, 1383, 1416, 1469, 1502, 1535, 1578, 1601, 1644, 1688, 1701, 1714, 1747], 203)), (1803, (.iinc 3 7, 3)), (1806, (.goto (-1788), 3)), (1809, (.iconst 1, 1)), (1810, (.ireturn, 1))]
theorem z_lc0_ok : z_lc0.all (fun q => decide (decode code q.1 = .ok q.2)) = true := by decide +kernel
theorem z_ldc {l : List (Nat × (Instr × Nat))} (h : l.all (fun q => decide (decode code q.1 = .ok q.2)) = true) (i : Nat) {q : Nat × (Instr × Nat)} (hq : z_nth l i = some q) : decode code q.1 = .ok q.2 := of_decide_eq_true (List.all_eq_true.mp h q (z_nth_mem hq))

def z_lcfg (cx : z_C) (s : State) (H : Heap) (locs : List Loc) (M : z_M) : Prop := va_P cx.1 z_cl (z_ws 0 cx M) H ∧ va_D (z_A 0 cx s.heap.size) (z_ws 0 cx M) ∧ va_S (z_A 0 cx s.heap.size) s.heap H locs ∧ z_MR 0 M
/-- what stays through the law's loop -/
def z_lfix (cx : z_C) (p : Program) (s : State) (m : MethodId) (meth : Method) (c : Code) (b L : Nat) (xs : Nat → Int32) : Prop := lw_At p s m meth c b L xs ∧ L ≤ 3584 ∧ va_K cx.1 z_cl (z_tys cx) s ∧ z_St cx (z_A 0 cx s.heap.size) s s.heap ∧ ∀ k ∈ z_all, s.heap.size ≤ cx.2.2 k
section LW
variable {p : Program} {l : Launch} {e : Env} {s : State} {m : MethodId} {below : List Frame} {meth : Method} {c : Code} {b L : Nat} {xs : Nat → Int32} {H : Heap} {locs : List Loc} {ls : Array Slot} {cx : z_C} {M : z_M} {CC SS pc : Nat} {QQ : State → Prop} {rest : List Value} {R : Room}
theorem lw_notA (F : z_lfix cx p s m meth c b L xs) : ¬ z_A 0 cx s.heap.size b := by
  obtain ⟨⟨-, -, -, -, -, -, -, hbl, -⟩, -, -, -, had⟩ := F
  intro h
  rcases h with ⟨k, hk, e⟩ | h
  · have := had k hk
    omega
  · omega
/-- one int of the script -/
theorem lw_arg (F : z_lfix cx p s m meth c b L xs) (Cf : z_lcfg cx s H locs M) {k : Nat} {j : Int} (hj0 : 0 ≤ j) (hj6 : j ≤ 6) (hk : 7 * k + 7 ≤ L) (h0 : ls[0]? = some (.val (.ref b))) (h3 : ls[3]? = some (.val (.int (nI (7 * k))))) {cc n2 : Nat} {ins : Instr} (d0 : decode code pc = .ok (.aload_n 0, 1)) (d1 : decode code (pc + 1) = .ok (.iload_n 3, 1)) (d2 : (decode code (pc + 2) = .ok (.iconst j, 1) ∧ cc = pc + 3) ∨ (decode code (pc + 2) = .ok (.bipush j, 2) ∧ cc = pc + 4)) (d3 : decode code cc = .ok (.iadd, 1)) (d4 : decode code (cc + 1) = .ok (.iaload, 1))
    (kk : W p l e R s m #[Value.ref b] below meth c H locs CC SS QQ (F0 m (cc + 2) ls (.int (xs (7 * k + j.toNat)) :: rest))) : W p l e R s m #[Value.ref b] below meth c H locs CC SS QQ (F0 m pc ls rest) := by
  have hbA := lw_notA F
  obtain ⟨⟨hx, hb, -, -, -, -, hX, hbl, -⟩, hL, -⟩ := F
  refine lv_aload_n hx hb d0 rfl h0 ?_
  refine lv_iload_n hx hb d1 rfl h3 ?_
  have hjn : Int32.ofInt j = nI j.toNat := by
    unfold nI
    rw [← Int32.ofInt_eq_ofNat, Int.toNat_of_nonneg hj0]
  have fin : ∀ q, decode code q = .ok (.iadd, 1) → decode code (q + 1) = .ok (.iaload, 1) → W p l e R s m #[Value.ref b] below meth c H locs CC SS QQ (F0 m (q + 2) ls (.int (xs (7 * k + j.toNat)) :: rest)) → W p l e R s m #[Value.ref b] below meth c H locs CC SS QQ (F0 m q ls (.int (Int32.ofInt j) :: .int (nI (7 * k)) :: .ref b :: rest)) := by
    intro q e3 e4 kk
    refine lv_iadd hx hb e3 ?_
    rw [hjn, nI_add]
    refine va_sld hx hb hX hbl hbA Cf.2.2.1 (vp_in_nI (by omega) (by omega)) e4 ?_
    rw [nI_clamp (by omega)]
    exact kk
  rcases d2 with ⟨d2, rfl⟩ | ⟨d2, rfl⟩
  · exact lv_iconst hx hb d2 rfl (fin _ d3 d4 kk)
  · exact lv_bipush (v := Int32.ofInt j) hx hb d2 (Int32.toInt_inj.1 (by rw [Int8.toInt_toInt32, Int8.toInt_ofInt_of_le (by omega) (by omega), z_nt ⟨by omega, by omega⟩])) (fin _ d3 d4 kk)
theorem lw_vI (ad : Nat → Nat) (y : Int32) : z_v ad (z_I y.toInt) = .int y := by
  show Value.int (Int32.ofInt y.toInt) = _
  rw [Int32.ofInt_toInt]
theorem lw_call (F : z_lfix cx p s m meth c b L xs) (Cf : z_lcfg cx s H locs M) {k o ix d : Nat} {a : List z_V} {t' : z_MT} {Q' : z_V → z_M → Prop} {lk : Nat × Nat} (hk : z_nth z_mt k = some t') (hCl : z_Cl 0 d k (z_R o :: a) M Q') (hst : t'.2.2.2.2.2.1 = false) (hnp : z_np t'.1 = some a.length) (ho : o ∈ z_all) (hko : z_knd o = 0) (hcn : z_cnm o = t'.1.cls) (hlink : z_wd lk (.methodLink R_law ix t'.1) = true) (ha : ∀ v ∈ a, z_vok 0 v) (hrest : (rest.map fun v => v.category).sum ≤ 8) (hml : ls.size = 4) (hR : d + 2 ≤ R.frames ∧ 64 * (d + 2) ≤ R.locals) (hCC : CC ≤ R.cells ∧ SS ≤ R.slots)
    (hd : decode code pc = .ok (.invokevirtual ix, 3))
    (kk : ∀ (v : z_V) (M' : z_M) (H1 : Heap) (locs1 : List Loc), (t'.2.2.2.1 = none → v = z_U) → z_vok 0 v → Q' v M' → z_lcfg cx s H1 locs1 M' → W p l e R s m #[Value.ref b] below meth c H1 locs1 CC SS QQ (F0 m (pc + 3) ls ((z_out cx.2.2 v).toList ++ rest))) :
    W p l e R s m #[Value.ref b] below meth c H locs CC SS QQ (F0 m pc ls ((a.map (z_v cx.2.2)).reverse ++ .ref (cx.2.2 o) :: rest)) := by
  obtain ⟨⟨hx, hb, hr, hmlc, hown, hts, hX, hbl, hlocks, hgv⟩, hL, hKk, hSt, had⟩ := F
  obtain ⟨hP, hD, hS, hMR⟩ := Cf
  obtain ⟨t, ht, hM⟩ := hCl
  rw [hk] at ht
  cases ht
  have hok := z_mt_ok t' (z_nth_mem hk)
  obtain ⟨-, -, -, g4, g5, g6, g7, g8, -, g10⟩ := z_chkM_inv hok
  obtain ⟨gi, gs⟩ := g10 hst
  have vp : ∀ v ∈ z_R o :: a, z_vok 0 v := List.forall_mem_cons.mpr ⟨Or.inl ho, ha⟩
  obtain ⟨q0, -, hq⟩ := z_ws_at (w := 0) (k := o) ho cx M
  rw [z_cell_obj hko] at hq
  obtain ⟨qc, hqc⟩ : ∃ qc, z_nth z_cl (z_cix o) = some qc := by
    cases hz : z_nth z_cl (z_cix o) with
    | some qc => exact ⟨qc, rfl⟩
    | none =>
      have : ∀ k ∈ z_all, z_knd k = 0 → (z_nth z_cl (z_cix k)).isSome = true := by decide +kernel
      have := this _ ho hko
      rw [hz] at this
      cases this
  have hnm : qc.1 = t'.1.cls := by
    rw [← hcn]; unfold z_cnm; rw [hqc]
  have hrec := va_recv hKk hP (by rw [← z_nth_eq]; exact hqc) hq
  rw [hnm] at hrec
  have hMm := hM l cx H.size vp hMR
  have hWS := z_WS_in hok
  have up : ∀ w, w ∈ z_ts → w ∈ lw_tbl ∧ ((w.onTables && w.keeps) = true ∨ ∃ ty, w = .arrayClass ty) := fun w h => ⟨(z_ts_good w h).1, good_of_word (z_ts_good w h).2⟩
  have hGI : GoodIn lw_tbl (wsV R_law ix t'.1.cls t'.1 (z_WS t')) := by
    intro x hx
    refine up x ?_
    unfold wsV at hx
    simp only [List.cons_append, List.nil_append, List.mem_cons] at hx
    rcases hx with rfl | rfl | rfl | rfl | hx
    · exact z_wd_in hlink
    · exact gi
    · exact gs
    · exact g8
    · exact hWS x hx
  have hrun := va_runV (p := p) (l := l) (e := e) (R := R) (below := below) (meth := meth) (H := H) (locs := locs) (cells := CC) (slots := SS) (g := F0 m pc ls (((a.map (z_v cx.2.2)).reverse) ++ .ref (cx.2.2 o) :: rest)) (C := t'.1.cls) (b := cx.2.2 o) (As := a.map (z_v cx.2.2)) (rest := rest) (n := a.length) ⟨hx, hb, hmlc, hown, hts⟩ hMm
    (cwV a.length hts hGI rfl rfl rfl ⟨rfl, g5.1, g5.2, hnp⟩ ⟨hR.1, by show 8 + (t'.2.2.1 + 11) + 64 * (d + 1) ≤ R.locals; omega⟩)
    ⟨z_blind, hrec, fun U hU hW => ⟨rfl, by rw [hU], z_Wd_at hKk hSt hP hD hS hU hW⟩⟩ rfl (by rw [List.length_map]) hml rfl (lv_room hrest) hd ⟨hCC.1, hCC.2⟩
  exact z_called hrun (Nat.le_refl _) hS (fun v M' H1 locs1 hn hok2 hq2 hP1 hD1 hR1 hS1 _ _ => kk v M' H1 locs1 hn hok2 hq2 ⟨hP1, hD1, hS1, hR1⟩)

def z_lq0 : List (Nat × (Instr × Nat)) := [(236, (.aload_n 1, 1)), (237, (.aload_n 0, 1)), (238, (.iload_n 3, 1)), (239, (.iconst 1, 1)), (240, (.iadd, 1)), (241, (.iaload, 1)), (242, (.aload_n 0, 1)), (243, (.iload_n 3, 1)), (244, (.iconst 2, 1)), (245, (.iadd, 1)), (246, (.iaload, 1)), (247, (.aload_n 0, 1)), (248, (.iload_n 3, 1)), (249, (.iconst 3, 1)), (250, (.iadd, 1)), (251, (.iaload, 1)), (252, (.aload_n 0, 1)), (253, (.iload_n 3, 1)), (254, (.iconst 4, 1)), (255, (.iadd, 1)), (256, (.iaload, 1)), (257, (.aload_n 0, 1)), (258, (.iload_n 3, 1)), (259, (.iconst 5, 1)), (260, (.iadd, 1)), (261, (.iaload, 1)), (262, (.invokevirtual 13, 3)), (265, (.aload_n 2, 1)), (266, (.aload_n 0, 1)), (267, (.iload_n 3, 1)), (268, (.iconst 1, 1)), (269, (.iadd, 1)), (270, (.iaload, 1)), (271, (.aload_n 0, 1)), (272, (.iload_n 3, 1)), (273, (.iconst 2, 1)), (274, (.iadd, 1)), (275, (.iaload, 1)), (276, (.aload_n 0, 1)), (277, (.iload_n 3, 1)), (278, (.iconst 3, 1)), (279, (.iadd, 1)), (280, (.iaload, 1)), (281, (.aload_n 0, 1)), (282, (.iload_n 3, 1)), (283, (.iconst 4, 1)), (284, (.iadd, 1)), (285, (.iaload, 1)), (286, (.aload_n 0, 1)), (287, (.iload_n 3, 1)), (288, (.iconst 5, 1)), (289, (.iadd, 1)), (290, (.iaload, 1)), (291, (.invokevirtual 17, 3)), (294, (.if_icmp .eq 1509, 3))]
theorem z_lq0_ok : z_lq0.all (fun q => decide (decode code q.1 = .ok q.2)) = true := by decide +kernel
theorem lw_case0 (F : z_lfix cx p s m meth c b L xs) (Cf : z_lcfg cx s H locs M) {k d : Nat} {P : z_M → Prop} (hk : 7 * k + 7 ≤ L) (hl : lv_has ls 4 [(0, .ref b), (1, .ref (cx.2.2 1)), (2, .ref (cx.2.2 13)), (3, .int (nI (7 * k)))]) (hR : d + 2 ≤ R.frames ∧ 64 * (d + 2) ≤ R.locals) (hCC : CC ≤ R.cells ∧ SS ≤ R.slots)
    (hCl : z_Cl 0 d 167 [z_R 1, z_I (xs (7 * k + 1)).toInt, z_I (xs (7 * k + 2)).toInt, z_I (xs (7 * k + 3)).toInt, z_I (xs (7 * k + 4)).toInt, z_I (xs (7 * k + 5)).toInt] M (fun v M1 => (∃ x, v = z_I x) ∧ z_Cl 0 d 227 [z_R 13, z_I (xs (7 * k + 1)).toInt, z_I (xs (7 * k + 2)).toInt, z_I (xs (7 * k + 3)).toInt, z_I (xs (7 * k + 4)).toInt, z_I (xs (7 * k + 5)).toInt] M1 (fun v2 M2 => v2 = v ∧ P M2)))
    (kk : ∀ (M2 : z_M) (H1 : Heap) (locs1 : List Loc), P M2 → z_lcfg cx s H1 locs1 M2 → W p l e R s m #[Value.ref b] below meth c H1 locs1 CC SS QQ (F0 m 1803 ls [])) : W p l e R s m #[Value.ref b] below meth c H locs CC SS QQ (F0 m 236 ls []) := by
  obtain ⟨hx, hb, -⟩ := id F.1
  have va : ∀ v ∈ [(z_I (xs (7 * k + 1)).toInt : z_V), (z_I (xs (7 * k + 2)).toInt : z_V), (z_I (xs (7 * k + 3)).toInt : z_V), (z_I (xs (7 * k + 4)).toInt : z_V), (z_I (xs (7 * k + 5)).toInt : z_V)], z_vok 0 v := by
    intro v hv
    simp only [List.mem_cons, List.not_mem_nil, or_false] at hv
    rcases hv with rfl | rfl | rfl | rfl | rfl <;> exact z_n_in _
  refine lv_aload_n hx hb (z_ldc z_lq0_ok 0 (q := (236, (.aload_n 1, 1))) rfl) rfl (lv_at hl 1 rfl) ?_
  refine lw_arg F Cf (j := 1) (by decide) (by decide) hk (lv_at hl 0 rfl) (lv_at hl 3 rfl) (ins := .iadd) (n2 := 0) (z_ldc z_lq0_ok 1 (q := (237, (.aload_n 0, 1))) rfl) (z_ldc z_lq0_ok 2 (q := (238, (.iload_n 3, 1))) rfl) (Or.inl ⟨(z_ldc z_lq0_ok 3 (q := (239, (.iconst 1, 1))) rfl), rfl⟩) (z_ldc z_lq0_ok 4 (q := (240, (.iadd, 1))) rfl) (z_ldc z_lq0_ok 5 (q := (241, (.iaload, 1))) rfl) ?_
  refine lw_arg F Cf (j := 2) (by decide) (by decide) hk (lv_at hl 0 rfl) (lv_at hl 3 rfl) (ins := .iadd) (n2 := 0) (z_ldc z_lq0_ok 6 (q := (242, (.aload_n 0, 1))) rfl) (z_ldc z_lq0_ok 7 (q := (243, (.iload_n 3, 1))) rfl) (Or.inl ⟨(z_ldc z_lq0_ok 8 (q := (244, (.iconst 2, 1))) rfl), rfl⟩) (z_ldc z_lq0_ok 9 (q := (245, (.iadd, 1))) rfl) (z_ldc z_lq0_ok 10 (q := (246, (.iaload, 1))) rfl) ?_
  refine lw_arg F Cf (j := 3) (by decide) (by decide) hk (lv_at hl 0 rfl) (lv_at hl 3 rfl) (ins := .iadd) (n2 := 0) (z_ldc z_lq0_ok 11 (q := (247, (.aload_n 0, 1))) rfl) (z_ldc z_lq0_ok 12 (q := (248, (.iload_n 3, 1))) rfl) (Or.inl ⟨(z_ldc z_lq0_ok 13 (q := (249, (.iconst 3, 1))) rfl), rfl⟩) (z_ldc z_lq0_ok 14 (q := (250, (.iadd, 1))) rfl) (z_ldc z_lq0_ok 15 (q := (251, (.iaload, 1))) rfl) ?_
  refine lw_arg F Cf (j := 4) (by decide) (by decide) hk (lv_at hl 0 rfl) (lv_at hl 3 rfl) (ins := .iadd) (n2 := 0) (z_ldc z_lq0_ok 16 (q := (252, (.aload_n 0, 1))) rfl) (z_ldc z_lq0_ok 17 (q := (253, (.iload_n 3, 1))) rfl) (Or.inl ⟨(z_ldc z_lq0_ok 18 (q := (254, (.iconst 4, 1))) rfl), rfl⟩) (z_ldc z_lq0_ok 19 (q := (255, (.iadd, 1))) rfl) (z_ldc z_lq0_ok 20 (q := (256, (.iaload, 1))) rfl) ?_
  refine lw_arg F Cf (j := 5) (by decide) (by decide) hk (lv_at hl 0 rfl) (lv_at hl 3 rfl) (ins := .iadd) (n2 := 0) (z_ldc z_lq0_ok 21 (q := (257, (.aload_n 0, 1))) rfl) (z_ldc z_lq0_ok 22 (q := (258, (.iload_n 3, 1))) rfl) (Or.inl ⟨(z_ldc z_lq0_ok 23 (q := (259, (.iconst 5, 1))) rfl), rfl⟩) (z_ldc z_lq0_ok 24 (q := (260, (.iadd, 1))) rfl) (z_ldc z_lq0_ok 25 (q := (261, (.iaload, 1))) rfl) ?_
  have eS1 : (([z_I (xs (7 * k + 1)).toInt, z_I (xs (7 * k + 2)).toInt, z_I (xs (7 * k + 3)).toInt, z_I (xs (7 * k + 4)).toInt, z_I (xs (7 * k + 5)).toInt] : List z_V).map (z_v cx.2.2)).reverse ++ .ref (cx.2.2 1) :: [] = (.int (xs (7 * k + 5)) :: .int (xs (7 * k + 4)) :: .int (xs (7 * k + 3)) :: .int (xs (7 * k + 2)) :: .int (xs (7 * k + 1)) :: .ref (cx.2.2 1) :: [] : List Value) := by
    simp only [List.map_cons, List.map_nil, lw_vI, List.reverse_cons, List.reverse_nil, List.nil_append, List.cons_append]
  show W p l e R s m #[Value.ref b] below meth c _ _ CC SS QQ (F0 m 262 ls (.int (xs (7 * k + 5)) :: .int (xs (7 * k + 4)) :: .int (xs (7 * k + 3)) :: .int (xs (7 * k + 2)) :: .int (xs (7 * k + 1)) :: .ref (cx.2.2 1) :: []))
  rw [← eS1]
  refine lw_call F Cf (k := 167) (o := 1) (lk := (2, 214)) (t' := z_m167) rfl hCl rfl (show z_np z_m167.1 = some 5 by decide +kernel) (by decide +kernel) (by decide) (by decide +kernel) (by decide +kernel) va (by decide) hl.1 hR hCC (z_ldc z_lq0_ok 26 (q := (262, (.invokevirtual 13, 3))) rfl) (fun v1 M1 H1 locs1 hn1 hok1 hq1 Cf1 => ?_)
  obtain ⟨hty1, hq1⟩ := hq1
  obtain ⟨x1, rfl⟩ := hty1
  show W p l e R s m #[Value.ref b] below meth c H1 locs1 CC SS QQ (F0 m 265 ls [.int (Int32.ofInt x1)])
  refine lv_aload_n hx hb (z_ldc z_lq0_ok 27 (q := (265, (.aload_n 2, 1))) rfl) rfl (lv_at hl 2 rfl) ?_
  refine lw_arg F Cf1 (j := 1) (by decide) (by decide) hk (lv_at hl 0 rfl) (lv_at hl 3 rfl) (ins := .iadd) (n2 := 0) (z_ldc z_lq0_ok 28 (q := (266, (.aload_n 0, 1))) rfl) (z_ldc z_lq0_ok 29 (q := (267, (.iload_n 3, 1))) rfl) (Or.inl ⟨(z_ldc z_lq0_ok 30 (q := (268, (.iconst 1, 1))) rfl), rfl⟩) (z_ldc z_lq0_ok 31 (q := (269, (.iadd, 1))) rfl) (z_ldc z_lq0_ok 32 (q := (270, (.iaload, 1))) rfl) ?_
  refine lw_arg F Cf1 (j := 2) (by decide) (by decide) hk (lv_at hl 0 rfl) (lv_at hl 3 rfl) (ins := .iadd) (n2 := 0) (z_ldc z_lq0_ok 33 (q := (271, (.aload_n 0, 1))) rfl) (z_ldc z_lq0_ok 34 (q := (272, (.iload_n 3, 1))) rfl) (Or.inl ⟨(z_ldc z_lq0_ok 35 (q := (273, (.iconst 2, 1))) rfl), rfl⟩) (z_ldc z_lq0_ok 36 (q := (274, (.iadd, 1))) rfl) (z_ldc z_lq0_ok 37 (q := (275, (.iaload, 1))) rfl) ?_
  refine lw_arg F Cf1 (j := 3) (by decide) (by decide) hk (lv_at hl 0 rfl) (lv_at hl 3 rfl) (ins := .iadd) (n2 := 0) (z_ldc z_lq0_ok 38 (q := (276, (.aload_n 0, 1))) rfl) (z_ldc z_lq0_ok 39 (q := (277, (.iload_n 3, 1))) rfl) (Or.inl ⟨(z_ldc z_lq0_ok 40 (q := (278, (.iconst 3, 1))) rfl), rfl⟩) (z_ldc z_lq0_ok 41 (q := (279, (.iadd, 1))) rfl) (z_ldc z_lq0_ok 42 (q := (280, (.iaload, 1))) rfl) ?_
  refine lw_arg F Cf1 (j := 4) (by decide) (by decide) hk (lv_at hl 0 rfl) (lv_at hl 3 rfl) (ins := .iadd) (n2 := 0) (z_ldc z_lq0_ok 43 (q := (281, (.aload_n 0, 1))) rfl) (z_ldc z_lq0_ok 44 (q := (282, (.iload_n 3, 1))) rfl) (Or.inl ⟨(z_ldc z_lq0_ok 45 (q := (283, (.iconst 4, 1))) rfl), rfl⟩) (z_ldc z_lq0_ok 46 (q := (284, (.iadd, 1))) rfl) (z_ldc z_lq0_ok 47 (q := (285, (.iaload, 1))) rfl) ?_
  refine lw_arg F Cf1 (j := 5) (by decide) (by decide) hk (lv_at hl 0 rfl) (lv_at hl 3 rfl) (ins := .iadd) (n2 := 0) (z_ldc z_lq0_ok 48 (q := (286, (.aload_n 0, 1))) rfl) (z_ldc z_lq0_ok 49 (q := (287, (.iload_n 3, 1))) rfl) (Or.inl ⟨(z_ldc z_lq0_ok 50 (q := (288, (.iconst 5, 1))) rfl), rfl⟩) (z_ldc z_lq0_ok 51 (q := (289, (.iadd, 1))) rfl) (z_ldc z_lq0_ok 52 (q := (290, (.iaload, 1))) rfl) ?_
  have eS13 : (([z_I (xs (7 * k + 1)).toInt, z_I (xs (7 * k + 2)).toInt, z_I (xs (7 * k + 3)).toInt, z_I (xs (7 * k + 4)).toInt, z_I (xs (7 * k + 5)).toInt] : List z_V).map (z_v cx.2.2)).reverse ++ .ref (cx.2.2 13) :: [.int (Int32.ofInt x1)] = (.int (xs (7 * k + 5)) :: .int (xs (7 * k + 4)) :: .int (xs (7 * k + 3)) :: .int (xs (7 * k + 2)) :: .int (xs (7 * k + 1)) :: .ref (cx.2.2 13) :: [.int (Int32.ofInt x1)] : List Value) := by
    simp only [List.map_cons, List.map_nil, lw_vI, List.reverse_cons, List.reverse_nil, List.nil_append, List.cons_append]
  show W p l e R s m #[Value.ref b] below meth c _ _ CC SS QQ (F0 m 291 ls (.int (xs (7 * k + 5)) :: .int (xs (7 * k + 4)) :: .int (xs (7 * k + 3)) :: .int (xs (7 * k + 2)) :: .int (xs (7 * k + 1)) :: .ref (cx.2.2 13) :: [.int (Int32.ofInt x1)]))
  rw [← eS13]
  refine lw_call F Cf1 (k := 227) (o := 13) (lk := (8, 109)) (t' := z_m227) rfl hq1 rfl (show z_np z_m227.1 = some 5 by decide +kernel) (by decide +kernel) (by decide) (by decide +kernel) (by decide +kernel) va (by simp [Value.category]) hl.1 hR hCC (z_ldc z_lq0_ok 53 (q := (291, (.invokevirtual 17, 3))) rfl) (fun v2 M2 H2 locs2 hn2 hok2 hq2 Cf2 => ?_)
  obtain ⟨rfl, hP2⟩ := hq2
  show W p l e R s m #[Value.ref b] below meth c H2 locs2 CC SS QQ (F0 m 294 ls [.int (Int32.ofInt x1), .int (Int32.ofInt x1)])
  refine lv_icmp_eq (tgt := 1803) hx hb (z_ldc z_lq0_ok 54 (q := (294, (.if_icmp .eq 1509, 3))) rfl) (by decide) (fun _ => ?_) (fun q => absurd rfl q)
  exact kk M2 H2 locs2 hP2 Cf2
def z_lq1 : List (Nat × (Instr × Nat)) := [(299, (.aload_n 1, 1)), (300, (.aload_n 0, 1)), (301, (.iload_n 3, 1)), (302, (.iconst 1, 1)), (303, (.iadd, 1)), (304, (.iaload, 1)), (305, (.invokevirtual 18, 3)), (308, (.aload_n 2, 1)), (309, (.aload_n 0, 1)), (310, (.iload_n 3, 1)), (311, (.iconst 1, 1)), (312, (.iadd, 1)), (313, (.iaload, 1)), (314, (.invokevirtual 22, 3)), (317, (.if_icmp .eq 1486, 3))]
theorem z_lq1_ok : z_lq1.all (fun q => decide (decode code q.1 = .ok q.2)) = true := by decide +kernel
theorem lw_case1 (F : z_lfix cx p s m meth c b L xs) (Cf : z_lcfg cx s H locs M) {k d : Nat} {P : z_M → Prop} (hk : 7 * k + 7 ≤ L) (hl : lv_has ls 4 [(0, .ref b), (1, .ref (cx.2.2 1)), (2, .ref (cx.2.2 13)), (3, .int (nI (7 * k)))]) (hR : d + 2 ≤ R.frames ∧ 64 * (d + 2) ≤ R.locals) (hCC : CC ≤ R.cells ∧ SS ≤ R.slots)
    (hCl : z_Cl 0 d 168 [z_R 1, z_I (xs (7 * k + 1)).toInt] M (fun v M1 => (∃ x, v = z_I x) ∧ z_Cl 0 d 243 [z_R 13, z_I (xs (7 * k + 1)).toInt] M1 (fun v2 M2 => v2 = v ∧ P M2)))
    (kk : ∀ (M2 : z_M) (H1 : Heap) (locs1 : List Loc), P M2 → z_lcfg cx s H1 locs1 M2 → W p l e R s m #[Value.ref b] below meth c H1 locs1 CC SS QQ (F0 m 1803 ls [])) : W p l e R s m #[Value.ref b] below meth c H locs CC SS QQ (F0 m 299 ls []) := by
  obtain ⟨hx, hb, -⟩ := id F.1
  have va : ∀ v ∈ [(z_I (xs (7 * k + 1)).toInt : z_V)], z_vok 0 v := by
    intro v hv
    simp only [List.mem_cons, List.not_mem_nil, or_false] at hv
    rcases hv with rfl <;> exact z_n_in _
  refine lv_aload_n hx hb (z_ldc z_lq1_ok 0 (q := (299, (.aload_n 1, 1))) rfl) rfl (lv_at hl 1 rfl) ?_
  refine lw_arg F Cf (j := 1) (by decide) (by decide) hk (lv_at hl 0 rfl) (lv_at hl 3 rfl) (ins := .iadd) (n2 := 0) (z_ldc z_lq1_ok 1 (q := (300, (.aload_n 0, 1))) rfl) (z_ldc z_lq1_ok 2 (q := (301, (.iload_n 3, 1))) rfl) (Or.inl ⟨(z_ldc z_lq1_ok 3 (q := (302, (.iconst 1, 1))) rfl), rfl⟩) (z_ldc z_lq1_ok 4 (q := (303, (.iadd, 1))) rfl) (z_ldc z_lq1_ok 5 (q := (304, (.iaload, 1))) rfl) ?_
  have eS1 : (([z_I (xs (7 * k + 1)).toInt] : List z_V).map (z_v cx.2.2)).reverse ++ .ref (cx.2.2 1) :: [] = (.int (xs (7 * k + 1)) :: .ref (cx.2.2 1) :: [] : List Value) := by
    simp only [List.map_cons, List.map_nil, lw_vI, List.reverse_cons, List.reverse_nil, List.nil_append, List.cons_append]
  show W p l e R s m #[Value.ref b] below meth c _ _ CC SS QQ (F0 m 305 ls (.int (xs (7 * k + 1)) :: .ref (cx.2.2 1) :: []))
  rw [← eS1]
  refine lw_call F Cf (k := 168) (o := 1) (lk := (2, 230)) (t' := z_m168) rfl hCl rfl (show z_np z_m168.1 = some 1 by decide +kernel) (by decide +kernel) (by decide) (by decide +kernel) (by decide +kernel) va (by decide) hl.1 hR hCC (z_ldc z_lq1_ok 6 (q := (305, (.invokevirtual 18, 3))) rfl) (fun v1 M1 H1 locs1 hn1 hok1 hq1 Cf1 => ?_)
  obtain ⟨hty1, hq1⟩ := hq1
  obtain ⟨x1, rfl⟩ := hty1
  show W p l e R s m #[Value.ref b] below meth c H1 locs1 CC SS QQ (F0 m 308 ls [.int (Int32.ofInt x1)])
  refine lv_aload_n hx hb (z_ldc z_lq1_ok 7 (q := (308, (.aload_n 2, 1))) rfl) rfl (lv_at hl 2 rfl) ?_
  refine lw_arg F Cf1 (j := 1) (by decide) (by decide) hk (lv_at hl 0 rfl) (lv_at hl 3 rfl) (ins := .iadd) (n2 := 0) (z_ldc z_lq1_ok 8 (q := (309, (.aload_n 0, 1))) rfl) (z_ldc z_lq1_ok 9 (q := (310, (.iload_n 3, 1))) rfl) (Or.inl ⟨(z_ldc z_lq1_ok 10 (q := (311, (.iconst 1, 1))) rfl), rfl⟩) (z_ldc z_lq1_ok 11 (q := (312, (.iadd, 1))) rfl) (z_ldc z_lq1_ok 12 (q := (313, (.iaload, 1))) rfl) ?_
  have eS13 : (([z_I (xs (7 * k + 1)).toInt] : List z_V).map (z_v cx.2.2)).reverse ++ .ref (cx.2.2 13) :: [.int (Int32.ofInt x1)] = (.int (xs (7 * k + 1)) :: .ref (cx.2.2 13) :: [.int (Int32.ofInt x1)] : List Value) := by
    simp only [List.map_cons, List.map_nil, lw_vI, List.reverse_cons, List.reverse_nil, List.nil_append, List.cons_append]
  show W p l e R s m #[Value.ref b] below meth c _ _ CC SS QQ (F0 m 314 ls (.int (xs (7 * k + 1)) :: .ref (cx.2.2 13) :: [.int (Int32.ofInt x1)]))
  rw [← eS13]
  refine lw_call F Cf1 (k := 243) (o := 13) (lk := (8, 117)) (t' := z_m243) rfl hq1 rfl (show z_np z_m243.1 = some 1 by decide +kernel) (by decide +kernel) (by decide) (by decide +kernel) (by decide +kernel) va (by simp [Value.category]) hl.1 hR hCC (z_ldc z_lq1_ok 13 (q := (314, (.invokevirtual 22, 3))) rfl) (fun v2 M2 H2 locs2 hn2 hok2 hq2 Cf2 => ?_)
  obtain ⟨rfl, hP2⟩ := hq2
  show W p l e R s m #[Value.ref b] below meth c H2 locs2 CC SS QQ (F0 m 317 ls [.int (Int32.ofInt x1), .int (Int32.ofInt x1)])
  refine lv_icmp_eq (tgt := 1803) hx hb (z_ldc z_lq1_ok 14 (q := (317, (.if_icmp .eq 1486, 3))) rfl) (by decide) (fun _ => ?_) (fun q => absurd rfl q)
  exact kk M2 H2 locs2 hP2 Cf2
def z_lq2 : List (Nat × (Instr × Nat)) := [(322, (.aload_n 1, 1)), (323, (.aload_n 0, 1)), (324, (.iload_n 3, 1)), (325, (.iconst 1, 1)), (326, (.iadd, 1)), (327, (.iaload, 1)), (328, (.aload_n 0, 1)), (329, (.iload_n 3, 1)), (330, (.iconst 2, 1)), (331, (.iadd, 1)), (332, (.iaload, 1)), (333, (.aload_n 0, 1)), (334, (.iload_n 3, 1)), (335, (.iconst 3, 1)), (336, (.iadd, 1)), (337, (.iaload, 1)), (338, (.invokevirtual 23, 3)), (341, (.aload_n 2, 1)), (342, (.aload_n 0, 1)), (343, (.iload_n 3, 1)), (344, (.iconst 1, 1)), (345, (.iadd, 1)), (346, (.iaload, 1)), (347, (.aload_n 0, 1)), (348, (.iload_n 3, 1)), (349, (.iconst 2, 1)), (350, (.iadd, 1)), (351, (.iaload, 1)), (352, (.aload_n 0, 1)), (353, (.iload_n 3, 1)), (354, (.iconst 3, 1)), (355, (.iadd, 1)), (356, (.iaload, 1)), (357, (.invokevirtual 27, 3)), (360, (.if_icmp .eq 1443, 3))]
theorem z_lq2_ok : z_lq2.all (fun q => decide (decode code q.1 = .ok q.2)) = true := by decide +kernel
theorem lw_case2 (F : z_lfix cx p s m meth c b L xs) (Cf : z_lcfg cx s H locs M) {k d : Nat} {P : z_M → Prop} (hk : 7 * k + 7 ≤ L) (hl : lv_has ls 4 [(0, .ref b), (1, .ref (cx.2.2 1)), (2, .ref (cx.2.2 13)), (3, .int (nI (7 * k)))]) (hR : d + 2 ≤ R.frames ∧ 64 * (d + 2) ≤ R.locals) (hCC : CC ≤ R.cells ∧ SS ≤ R.slots)
    (hCl : z_Cl 0 d 169 [z_R 1, z_I (xs (7 * k + 1)).toInt, z_I (xs (7 * k + 2)).toInt, z_I (xs (7 * k + 3)).toInt] M (fun v M1 => (∃ x, v = z_I x) ∧ z_Cl 0 d 249 [z_R 13, z_I (xs (7 * k + 1)).toInt, z_I (xs (7 * k + 2)).toInt, z_I (xs (7 * k + 3)).toInt] M1 (fun v2 M2 => v2 = v ∧ P M2)))
    (kk : ∀ (M2 : z_M) (H1 : Heap) (locs1 : List Loc), P M2 → z_lcfg cx s H1 locs1 M2 → W p l e R s m #[Value.ref b] below meth c H1 locs1 CC SS QQ (F0 m 1803 ls [])) : W p l e R s m #[Value.ref b] below meth c H locs CC SS QQ (F0 m 322 ls []) := by
  obtain ⟨hx, hb, -⟩ := id F.1
  have va : ∀ v ∈ [(z_I (xs (7 * k + 1)).toInt : z_V), (z_I (xs (7 * k + 2)).toInt : z_V), (z_I (xs (7 * k + 3)).toInt : z_V)], z_vok 0 v := by
    intro v hv
    simp only [List.mem_cons, List.not_mem_nil, or_false] at hv
    rcases hv with rfl | rfl | rfl <;> exact z_n_in _
  refine lv_aload_n hx hb (z_ldc z_lq2_ok 0 (q := (322, (.aload_n 1, 1))) rfl) rfl (lv_at hl 1 rfl) ?_
  refine lw_arg F Cf (j := 1) (by decide) (by decide) hk (lv_at hl 0 rfl) (lv_at hl 3 rfl) (ins := .iadd) (n2 := 0) (z_ldc z_lq2_ok 1 (q := (323, (.aload_n 0, 1))) rfl) (z_ldc z_lq2_ok 2 (q := (324, (.iload_n 3, 1))) rfl) (Or.inl ⟨(z_ldc z_lq2_ok 3 (q := (325, (.iconst 1, 1))) rfl), rfl⟩) (z_ldc z_lq2_ok 4 (q := (326, (.iadd, 1))) rfl) (z_ldc z_lq2_ok 5 (q := (327, (.iaload, 1))) rfl) ?_
  refine lw_arg F Cf (j := 2) (by decide) (by decide) hk (lv_at hl 0 rfl) (lv_at hl 3 rfl) (ins := .iadd) (n2 := 0) (z_ldc z_lq2_ok 6 (q := (328, (.aload_n 0, 1))) rfl) (z_ldc z_lq2_ok 7 (q := (329, (.iload_n 3, 1))) rfl) (Or.inl ⟨(z_ldc z_lq2_ok 8 (q := (330, (.iconst 2, 1))) rfl), rfl⟩) (z_ldc z_lq2_ok 9 (q := (331, (.iadd, 1))) rfl) (z_ldc z_lq2_ok 10 (q := (332, (.iaload, 1))) rfl) ?_
  refine lw_arg F Cf (j := 3) (by decide) (by decide) hk (lv_at hl 0 rfl) (lv_at hl 3 rfl) (ins := .iadd) (n2 := 0) (z_ldc z_lq2_ok 11 (q := (333, (.aload_n 0, 1))) rfl) (z_ldc z_lq2_ok 12 (q := (334, (.iload_n 3, 1))) rfl) (Or.inl ⟨(z_ldc z_lq2_ok 13 (q := (335, (.iconst 3, 1))) rfl), rfl⟩) (z_ldc z_lq2_ok 14 (q := (336, (.iadd, 1))) rfl) (z_ldc z_lq2_ok 15 (q := (337, (.iaload, 1))) rfl) ?_
  have eS1 : (([z_I (xs (7 * k + 1)).toInt, z_I (xs (7 * k + 2)).toInt, z_I (xs (7 * k + 3)).toInt] : List z_V).map (z_v cx.2.2)).reverse ++ .ref (cx.2.2 1) :: [] = (.int (xs (7 * k + 3)) :: .int (xs (7 * k + 2)) :: .int (xs (7 * k + 1)) :: .ref (cx.2.2 1) :: [] : List Value) := by
    simp only [List.map_cons, List.map_nil, lw_vI, List.reverse_cons, List.reverse_nil, List.nil_append, List.cons_append]
  show W p l e R s m #[Value.ref b] below meth c _ _ CC SS QQ (F0 m 338 ls (.int (xs (7 * k + 3)) :: .int (xs (7 * k + 2)) :: .int (xs (7 * k + 1)) :: .ref (cx.2.2 1) :: []))
  rw [← eS1]
  refine lw_call F Cf (k := 169) (o := 1) (lk := (3, 93)) (t' := z_m169) rfl hCl rfl (show z_np z_m169.1 = some 3 by decide +kernel) (by decide +kernel) (by decide) (by decide +kernel) (by decide +kernel) va (by decide) hl.1 hR hCC (z_ldc z_lq2_ok 16 (q := (338, (.invokevirtual 23, 3))) rfl) (fun v1 M1 H1 locs1 hn1 hok1 hq1 Cf1 => ?_)
  obtain ⟨hty1, hq1⟩ := hq1
  obtain ⟨x1, rfl⟩ := hty1
  show W p l e R s m #[Value.ref b] below meth c H1 locs1 CC SS QQ (F0 m 341 ls [.int (Int32.ofInt x1)])
  refine lv_aload_n hx hb (z_ldc z_lq2_ok 17 (q := (341, (.aload_n 2, 1))) rfl) rfl (lv_at hl 2 rfl) ?_
  refine lw_arg F Cf1 (j := 1) (by decide) (by decide) hk (lv_at hl 0 rfl) (lv_at hl 3 rfl) (ins := .iadd) (n2 := 0) (z_ldc z_lq2_ok 18 (q := (342, (.aload_n 0, 1))) rfl) (z_ldc z_lq2_ok 19 (q := (343, (.iload_n 3, 1))) rfl) (Or.inl ⟨(z_ldc z_lq2_ok 20 (q := (344, (.iconst 1, 1))) rfl), rfl⟩) (z_ldc z_lq2_ok 21 (q := (345, (.iadd, 1))) rfl) (z_ldc z_lq2_ok 22 (q := (346, (.iaload, 1))) rfl) ?_
  refine lw_arg F Cf1 (j := 2) (by decide) (by decide) hk (lv_at hl 0 rfl) (lv_at hl 3 rfl) (ins := .iadd) (n2 := 0) (z_ldc z_lq2_ok 23 (q := (347, (.aload_n 0, 1))) rfl) (z_ldc z_lq2_ok 24 (q := (348, (.iload_n 3, 1))) rfl) (Or.inl ⟨(z_ldc z_lq2_ok 25 (q := (349, (.iconst 2, 1))) rfl), rfl⟩) (z_ldc z_lq2_ok 26 (q := (350, (.iadd, 1))) rfl) (z_ldc z_lq2_ok 27 (q := (351, (.iaload, 1))) rfl) ?_
  refine lw_arg F Cf1 (j := 3) (by decide) (by decide) hk (lv_at hl 0 rfl) (lv_at hl 3 rfl) (ins := .iadd) (n2 := 0) (z_ldc z_lq2_ok 28 (q := (352, (.aload_n 0, 1))) rfl) (z_ldc z_lq2_ok 29 (q := (353, (.iload_n 3, 1))) rfl) (Or.inl ⟨(z_ldc z_lq2_ok 30 (q := (354, (.iconst 3, 1))) rfl), rfl⟩) (z_ldc z_lq2_ok 31 (q := (355, (.iadd, 1))) rfl) (z_ldc z_lq2_ok 32 (q := (356, (.iaload, 1))) rfl) ?_
  have eS13 : (([z_I (xs (7 * k + 1)).toInt, z_I (xs (7 * k + 2)).toInt, z_I (xs (7 * k + 3)).toInt] : List z_V).map (z_v cx.2.2)).reverse ++ .ref (cx.2.2 13) :: [.int (Int32.ofInt x1)] = (.int (xs (7 * k + 3)) :: .int (xs (7 * k + 2)) :: .int (xs (7 * k + 1)) :: .ref (cx.2.2 13) :: [.int (Int32.ofInt x1)] : List Value) := by
    simp only [List.map_cons, List.map_nil, lw_vI, List.reverse_cons, List.reverse_nil, List.nil_append, List.cons_append]
  show W p l e R s m #[Value.ref b] below meth c _ _ CC SS QQ (F0 m 357 ls (.int (xs (7 * k + 3)) :: .int (xs (7 * k + 2)) :: .int (xs (7 * k + 1)) :: .ref (cx.2.2 13) :: [.int (Int32.ofInt x1)]))
  rw [← eS13]
  refine lw_call F Cf1 (k := 249) (o := 13) (lk := (8, 170)) (t' := z_m249) rfl hq1 rfl (show z_np z_m249.1 = some 3 by decide +kernel) (by decide +kernel) (by decide) (by decide +kernel) (by decide +kernel) va (by simp [Value.category]) hl.1 hR hCC (z_ldc z_lq2_ok 33 (q := (357, (.invokevirtual 27, 3))) rfl) (fun v2 M2 H2 locs2 hn2 hok2 hq2 Cf2 => ?_)
  obtain ⟨rfl, hP2⟩ := hq2
  show W p l e R s m #[Value.ref b] below meth c H2 locs2 CC SS QQ (F0 m 360 ls [.int (Int32.ofInt x1), .int (Int32.ofInt x1)])
  refine lv_icmp_eq (tgt := 1803) hx hb (z_ldc z_lq2_ok 34 (q := (360, (.if_icmp .eq 1443, 3))) rfl) (by decide) (fun _ => ?_) (fun q => absurd rfl q)
  exact kk M2 H2 locs2 hP2 Cf2
def z_lq3 : List (Nat × (Instr × Nat)) := [(365, (.aload_n 1, 1)), (366, (.aload_n 0, 1)), (367, (.iload_n 3, 1)), (368, (.iconst 1, 1)), (369, (.iadd, 1)), (370, (.iaload, 1)), (371, (.invokevirtual 28, 3)), (374, (.aload_n 2, 1)), (375, (.aload_n 0, 1)), (376, (.iload_n 3, 1)), (377, (.iconst 1, 1)), (378, (.iadd, 1)), (379, (.iaload, 1)), (380, (.invokevirtual 31, 3)), (383, (.if_icmp .eq 1420, 3))]
theorem z_lq3_ok : z_lq3.all (fun q => decide (decode code q.1 = .ok q.2)) = true := by decide +kernel
theorem lw_case3 (F : z_lfix cx p s m meth c b L xs) (Cf : z_lcfg cx s H locs M) {k d : Nat} {P : z_M → Prop} (hk : 7 * k + 7 ≤ L) (hl : lv_has ls 4 [(0, .ref b), (1, .ref (cx.2.2 1)), (2, .ref (cx.2.2 13)), (3, .int (nI (7 * k)))]) (hR : d + 2 ≤ R.frames ∧ 64 * (d + 2) ≤ R.locals) (hCC : CC ≤ R.cells ∧ SS ≤ R.slots)
    (hCl : z_Cl 0 d 170 [z_R 1, z_I (xs (7 * k + 1)).toInt] M (fun v M1 => (∃ x, v = z_I x) ∧ z_Cl 0 d 270 [z_R 13, z_I (xs (7 * k + 1)).toInt] M1 (fun v2 M2 => v2 = v ∧ P M2)))
    (kk : ∀ (M2 : z_M) (H1 : Heap) (locs1 : List Loc), P M2 → z_lcfg cx s H1 locs1 M2 → W p l e R s m #[Value.ref b] below meth c H1 locs1 CC SS QQ (F0 m 1803 ls [])) : W p l e R s m #[Value.ref b] below meth c H locs CC SS QQ (F0 m 365 ls []) := by
  obtain ⟨hx, hb, -⟩ := id F.1
  have va : ∀ v ∈ [(z_I (xs (7 * k + 1)).toInt : z_V)], z_vok 0 v := by
    intro v hv
    simp only [List.mem_cons, List.not_mem_nil, or_false] at hv
    rcases hv with rfl <;> exact z_n_in _
  refine lv_aload_n hx hb (z_ldc z_lq3_ok 0 (q := (365, (.aload_n 1, 1))) rfl) rfl (lv_at hl 1 rfl) ?_
  refine lw_arg F Cf (j := 1) (by decide) (by decide) hk (lv_at hl 0 rfl) (lv_at hl 3 rfl) (ins := .iadd) (n2 := 0) (z_ldc z_lq3_ok 1 (q := (366, (.aload_n 0, 1))) rfl) (z_ldc z_lq3_ok 2 (q := (367, (.iload_n 3, 1))) rfl) (Or.inl ⟨(z_ldc z_lq3_ok 3 (q := (368, (.iconst 1, 1))) rfl), rfl⟩) (z_ldc z_lq3_ok 4 (q := (369, (.iadd, 1))) rfl) (z_ldc z_lq3_ok 5 (q := (370, (.iaload, 1))) rfl) ?_
  have eS1 : (([z_I (xs (7 * k + 1)).toInt] : List z_V).map (z_v cx.2.2)).reverse ++ .ref (cx.2.2 1) :: [] = (.int (xs (7 * k + 1)) :: .ref (cx.2.2 1) :: [] : List Value) := by
    simp only [List.map_cons, List.map_nil, lw_vI, List.reverse_cons, List.reverse_nil, List.nil_append, List.cons_append]
  show W p l e R s m #[Value.ref b] below meth c _ _ CC SS QQ (F0 m 371 ls (.int (xs (7 * k + 1)) :: .ref (cx.2.2 1) :: []))
  rw [← eS1]
  refine lw_call F Cf (k := 170) (o := 1) (lk := (3, 141)) (t' := z_m170) rfl hCl rfl (show z_np z_m170.1 = some 1 by decide +kernel) (by decide +kernel) (by decide) (by decide +kernel) (by decide +kernel) va (by decide) hl.1 hR hCC (z_ldc z_lq3_ok 6 (q := (371, (.invokevirtual 28, 3))) rfl) (fun v1 M1 H1 locs1 hn1 hok1 hq1 Cf1 => ?_)
  obtain ⟨hty1, hq1⟩ := hq1
  obtain ⟨x1, rfl⟩ := hty1
  show W p l e R s m #[Value.ref b] below meth c H1 locs1 CC SS QQ (F0 m 374 ls [.int (Int32.ofInt x1)])
  refine lv_aload_n hx hb (z_ldc z_lq3_ok 7 (q := (374, (.aload_n 2, 1))) rfl) rfl (lv_at hl 2 rfl) ?_
  refine lw_arg F Cf1 (j := 1) (by decide) (by decide) hk (lv_at hl 0 rfl) (lv_at hl 3 rfl) (ins := .iadd) (n2 := 0) (z_ldc z_lq3_ok 8 (q := (375, (.aload_n 0, 1))) rfl) (z_ldc z_lq3_ok 9 (q := (376, (.iload_n 3, 1))) rfl) (Or.inl ⟨(z_ldc z_lq3_ok 10 (q := (377, (.iconst 1, 1))) rfl), rfl⟩) (z_ldc z_lq3_ok 11 (q := (378, (.iadd, 1))) rfl) (z_ldc z_lq3_ok 12 (q := (379, (.iaload, 1))) rfl) ?_
  have eS13 : (([z_I (xs (7 * k + 1)).toInt] : List z_V).map (z_v cx.2.2)).reverse ++ .ref (cx.2.2 13) :: [.int (Int32.ofInt x1)] = (.int (xs (7 * k + 1)) :: .ref (cx.2.2 13) :: [.int (Int32.ofInt x1)] : List Value) := by
    simp only [List.map_cons, List.map_nil, lw_vI, List.reverse_cons, List.reverse_nil, List.nil_append, List.cons_append]
  show W p l e R s m #[Value.ref b] below meth c _ _ CC SS QQ (F0 m 380 ls (.int (xs (7 * k + 1)) :: .ref (cx.2.2 13) :: [.int (Int32.ofInt x1)]))
  rw [← eS13]
  refine lw_call F Cf1 (k := 270) (o := 13) (lk := (8, 196)) (t' := z_m270) rfl hq1 rfl (show z_np z_m270.1 = some 1 by decide +kernel) (by decide +kernel) (by decide) (by decide +kernel) (by decide +kernel) va (by simp [Value.category]) hl.1 hR hCC (z_ldc z_lq3_ok 13 (q := (380, (.invokevirtual 31, 3))) rfl) (fun v2 M2 H2 locs2 hn2 hok2 hq2 Cf2 => ?_)
  obtain ⟨rfl, hP2⟩ := hq2
  show W p l e R s m #[Value.ref b] below meth c H2 locs2 CC SS QQ (F0 m 383 ls [.int (Int32.ofInt x1), .int (Int32.ofInt x1)])
  refine lv_icmp_eq (tgt := 1803) hx hb (z_ldc z_lq3_ok 14 (q := (383, (.if_icmp .eq 1420, 3))) rfl) (by decide) (fun _ => ?_) (fun q => absurd rfl q)
  exact kk M2 H2 locs2 hP2 Cf2
def z_lq4 : List (Nat × (Instr × Nat)) := [(388, (.aload_n 1, 1)), (389, (.aload_n 0, 1)), (390, (.iload_n 3, 1)), (391, (.iconst 1, 1)), (392, (.iadd, 1)), (393, (.iaload, 1)), (394, (.invokevirtual 32, 3)), (397, (.aload_n 2, 1)), (398, (.aload_n 0, 1)), (399, (.iload_n 3, 1)), (400, (.iconst 1, 1)), (401, (.iadd, 1)), (402, (.iaload, 1)), (403, (.invokevirtual 35, 3)), (406, (.if_icmp .eq 1397, 3))]
theorem z_lq4_ok : z_lq4.all (fun q => decide (decode code q.1 = .ok q.2)) = true := by decide +kernel
theorem lw_case4 (F : z_lfix cx p s m meth c b L xs) (Cf : z_lcfg cx s H locs M) {k d : Nat} {P : z_M → Prop} (hk : 7 * k + 7 ≤ L) (hl : lv_has ls 4 [(0, .ref b), (1, .ref (cx.2.2 1)), (2, .ref (cx.2.2 13)), (3, .int (nI (7 * k)))]) (hR : d + 2 ≤ R.frames ∧ 64 * (d + 2) ≤ R.locals) (hCC : CC ≤ R.cells ∧ SS ≤ R.slots)
    (hCl : z_Cl 0 d 171 [z_R 1, z_I (xs (7 * k + 1)).toInt] M (fun v M1 => (∃ x, v = z_I x) ∧ z_Cl 0 d 298 [z_R 13, z_I (xs (7 * k + 1)).toInt] M1 (fun v2 M2 => v2 = v ∧ P M2)))
    (kk : ∀ (M2 : z_M) (H1 : Heap) (locs1 : List Loc), P M2 → z_lcfg cx s H1 locs1 M2 → W p l e R s m #[Value.ref b] below meth c H1 locs1 CC SS QQ (F0 m 1803 ls [])) : W p l e R s m #[Value.ref b] below meth c H locs CC SS QQ (F0 m 388 ls []) := by
  obtain ⟨hx, hb, -⟩ := id F.1
  have va : ∀ v ∈ [(z_I (xs (7 * k + 1)).toInt : z_V)], z_vok 0 v := by
    intro v hv
    simp only [List.mem_cons, List.not_mem_nil, or_false] at hv
    rcases hv with rfl <;> exact z_n_in _
  refine lv_aload_n hx hb (z_ldc z_lq4_ok 0 (q := (388, (.aload_n 1, 1))) rfl) rfl (lv_at hl 1 rfl) ?_
  refine lw_arg F Cf (j := 1) (by decide) (by decide) hk (lv_at hl 0 rfl) (lv_at hl 3 rfl) (ins := .iadd) (n2 := 0) (z_ldc z_lq4_ok 1 (q := (389, (.aload_n 0, 1))) rfl) (z_ldc z_lq4_ok 2 (q := (390, (.iload_n 3, 1))) rfl) (Or.inl ⟨(z_ldc z_lq4_ok 3 (q := (391, (.iconst 1, 1))) rfl), rfl⟩) (z_ldc z_lq4_ok 4 (q := (392, (.iadd, 1))) rfl) (z_ldc z_lq4_ok 5 (q := (393, (.iaload, 1))) rfl) ?_
  have eS1 : (([z_I (xs (7 * k + 1)).toInt] : List z_V).map (z_v cx.2.2)).reverse ++ .ref (cx.2.2 1) :: [] = (.int (xs (7 * k + 1)) :: .ref (cx.2.2 1) :: [] : List Value) := by
    simp only [List.map_cons, List.map_nil, lw_vI, List.reverse_cons, List.reverse_nil, List.nil_append, List.cons_append]
  show W p l e R s m #[Value.ref b] below meth c _ _ CC SS QQ (F0 m 394 ls (.int (xs (7 * k + 1)) :: .ref (cx.2.2 1) :: []))
  rw [← eS1]
  refine lw_call F Cf (k := 171) (o := 1) (lk := (3, 203)) (t' := z_m171) rfl hCl rfl (show z_np z_m171.1 = some 1 by decide +kernel) (by decide +kernel) (by decide) (by decide +kernel) (by decide +kernel) va (by decide) hl.1 hR hCC (z_ldc z_lq4_ok 6 (q := (394, (.invokevirtual 32, 3))) rfl) (fun v1 M1 H1 locs1 hn1 hok1 hq1 Cf1 => ?_)
  obtain ⟨hty1, hq1⟩ := hq1
  obtain ⟨x1, rfl⟩ := hty1
  show W p l e R s m #[Value.ref b] below meth c H1 locs1 CC SS QQ (F0 m 397 ls [.int (Int32.ofInt x1)])
  refine lv_aload_n hx hb (z_ldc z_lq4_ok 7 (q := (397, (.aload_n 2, 1))) rfl) rfl (lv_at hl 2 rfl) ?_
  refine lw_arg F Cf1 (j := 1) (by decide) (by decide) hk (lv_at hl 0 rfl) (lv_at hl 3 rfl) (ins := .iadd) (n2 := 0) (z_ldc z_lq4_ok 8 (q := (398, (.aload_n 0, 1))) rfl) (z_ldc z_lq4_ok 9 (q := (399, (.iload_n 3, 1))) rfl) (Or.inl ⟨(z_ldc z_lq4_ok 10 (q := (400, (.iconst 1, 1))) rfl), rfl⟩) (z_ldc z_lq4_ok 11 (q := (401, (.iadd, 1))) rfl) (z_ldc z_lq4_ok 12 (q := (402, (.iaload, 1))) rfl) ?_
  have eS13 : (([z_I (xs (7 * k + 1)).toInt] : List z_V).map (z_v cx.2.2)).reverse ++ .ref (cx.2.2 13) :: [.int (Int32.ofInt x1)] = (.int (xs (7 * k + 1)) :: .ref (cx.2.2 13) :: [.int (Int32.ofInt x1)] : List Value) := by
    simp only [List.map_cons, List.map_nil, lw_vI, List.reverse_cons, List.reverse_nil, List.nil_append, List.cons_append]
  show W p l e R s m #[Value.ref b] below meth c _ _ CC SS QQ (F0 m 403 ls (.int (xs (7 * k + 1)) :: .ref (cx.2.2 13) :: [.int (Int32.ofInt x1)]))
  rw [← eS13]
  refine lw_call F Cf1 (k := 298) (o := 13) (lk := (9, 124)) (t' := z_m298) rfl hq1 rfl (show z_np z_m298.1 = some 1 by decide +kernel) (by decide +kernel) (by decide) (by decide +kernel) (by decide +kernel) va (by simp [Value.category]) hl.1 hR hCC (z_ldc z_lq4_ok 13 (q := (403, (.invokevirtual 35, 3))) rfl) (fun v2 M2 H2 locs2 hn2 hok2 hq2 Cf2 => ?_)
  obtain ⟨rfl, hP2⟩ := hq2
  show W p l e R s m #[Value.ref b] below meth c H2 locs2 CC SS QQ (F0 m 406 ls [.int (Int32.ofInt x1), .int (Int32.ofInt x1)])
  refine lv_icmp_eq (tgt := 1803) hx hb (z_ldc z_lq4_ok 14 (q := (406, (.if_icmp .eq 1397, 3))) rfl) (by decide) (fun _ => ?_) (fun q => absurd rfl q)
  exact kk M2 H2 locs2 hP2 Cf2
def z_lq5 : List (Nat × (Instr × Nat)) := [(411, (.aload_n 1, 1)), (412, (.aload_n 0, 1)), (413, (.iload_n 3, 1)), (414, (.iconst 1, 1)), (415, (.iadd, 1)), (416, (.iaload, 1)), (417, (.invokevirtual 36, 3)), (420, (.aload_n 2, 1)), (421, (.aload_n 0, 1)), (422, (.iload_n 3, 1)), (423, (.iconst 1, 1)), (424, (.iadd, 1)), (425, (.iaload, 1)), (426, (.invokevirtual 40, 3)), (429, (.if_icmp .eq 1374, 3))]
theorem z_lq5_ok : z_lq5.all (fun q => decide (decode code q.1 = .ok q.2)) = true := by decide +kernel
theorem lw_case5 (F : z_lfix cx p s m meth c b L xs) (Cf : z_lcfg cx s H locs M) {k d : Nat} {P : z_M → Prop} (hk : 7 * k + 7 ≤ L) (hl : lv_has ls 4 [(0, .ref b), (1, .ref (cx.2.2 1)), (2, .ref (cx.2.2 13)), (3, .int (nI (7 * k)))]) (hR : d + 2 ≤ R.frames ∧ 64 * (d + 2) ≤ R.locals) (hCC : CC ≤ R.cells ∧ SS ≤ R.slots)
    (hCl : z_Cl 0 d 172 [z_R 1, z_I (xs (7 * k + 1)).toInt] M (fun v M1 => (∃ x, v = z_I x) ∧ z_Cl 0 d 301 [z_R 13, z_I (xs (7 * k + 1)).toInt] M1 (fun v2 M2 => v2 = v ∧ P M2)))
    (kk : ∀ (M2 : z_M) (H1 : Heap) (locs1 : List Loc), P M2 → z_lcfg cx s H1 locs1 M2 → W p l e R s m #[Value.ref b] below meth c H1 locs1 CC SS QQ (F0 m 1803 ls [])) : W p l e R s m #[Value.ref b] below meth c H locs CC SS QQ (F0 m 411 ls []) := by
  obtain ⟨hx, hb, -⟩ := id F.1
  have va : ∀ v ∈ [(z_I (xs (7 * k + 1)).toInt : z_V)], z_vok 0 v := by
    intro v hv
    simp only [List.mem_cons, List.not_mem_nil, or_false] at hv
    rcases hv with rfl <;> exact z_n_in _
  refine lv_aload_n hx hb (z_ldc z_lq5_ok 0 (q := (411, (.aload_n 1, 1))) rfl) rfl (lv_at hl 1 rfl) ?_
  refine lw_arg F Cf (j := 1) (by decide) (by decide) hk (lv_at hl 0 rfl) (lv_at hl 3 rfl) (ins := .iadd) (n2 := 0) (z_ldc z_lq5_ok 1 (q := (412, (.aload_n 0, 1))) rfl) (z_ldc z_lq5_ok 2 (q := (413, (.iload_n 3, 1))) rfl) (Or.inl ⟨(z_ldc z_lq5_ok 3 (q := (414, (.iconst 1, 1))) rfl), rfl⟩) (z_ldc z_lq5_ok 4 (q := (415, (.iadd, 1))) rfl) (z_ldc z_lq5_ok 5 (q := (416, (.iaload, 1))) rfl) ?_
  have eS1 : (([z_I (xs (7 * k + 1)).toInt] : List z_V).map (z_v cx.2.2)).reverse ++ .ref (cx.2.2 1) :: [] = (.int (xs (7 * k + 1)) :: .ref (cx.2.2 1) :: [] : List Value) := by
    simp only [List.map_cons, List.map_nil, lw_vI, List.reverse_cons, List.reverse_nil, List.nil_append, List.cons_append]
  show W p l e R s m #[Value.ref b] below meth c _ _ CC SS QQ (F0 m 417 ls (.int (xs (7 * k + 1)) :: .ref (cx.2.2 1) :: []))
  rw [← eS1]
  refine lw_call F Cf (k := 172) (o := 1) (lk := (4, 9)) (t' := z_m172) rfl hCl rfl (show z_np z_m172.1 = some 1 by decide +kernel) (by decide +kernel) (by decide) (by decide +kernel) (by decide +kernel) va (by decide) hl.1 hR hCC (z_ldc z_lq5_ok 6 (q := (417, (.invokevirtual 36, 3))) rfl) (fun v1 M1 H1 locs1 hn1 hok1 hq1 Cf1 => ?_)
  obtain ⟨hty1, hq1⟩ := hq1
  obtain ⟨x1, rfl⟩ := hty1
  show W p l e R s m #[Value.ref b] below meth c H1 locs1 CC SS QQ (F0 m 420 ls [.int (Int32.ofInt x1)])
  refine lv_aload_n hx hb (z_ldc z_lq5_ok 7 (q := (420, (.aload_n 2, 1))) rfl) rfl (lv_at hl 2 rfl) ?_
  refine lw_arg F Cf1 (j := 1) (by decide) (by decide) hk (lv_at hl 0 rfl) (lv_at hl 3 rfl) (ins := .iadd) (n2 := 0) (z_ldc z_lq5_ok 8 (q := (421, (.aload_n 0, 1))) rfl) (z_ldc z_lq5_ok 9 (q := (422, (.iload_n 3, 1))) rfl) (Or.inl ⟨(z_ldc z_lq5_ok 10 (q := (423, (.iconst 1, 1))) rfl), rfl⟩) (z_ldc z_lq5_ok 11 (q := (424, (.iadd, 1))) rfl) (z_ldc z_lq5_ok 12 (q := (425, (.iaload, 1))) rfl) ?_
  have eS13 : (([z_I (xs (7 * k + 1)).toInt] : List z_V).map (z_v cx.2.2)).reverse ++ .ref (cx.2.2 13) :: [.int (Int32.ofInt x1)] = (.int (xs (7 * k + 1)) :: .ref (cx.2.2 13) :: [.int (Int32.ofInt x1)] : List Value) := by
    simp only [List.map_cons, List.map_nil, lw_vI, List.reverse_cons, List.reverse_nil, List.nil_append, List.cons_append]
  show W p l e R s m #[Value.ref b] below meth c _ _ CC SS QQ (F0 m 426 ls (.int (xs (7 * k + 1)) :: .ref (cx.2.2 13) :: [.int (Int32.ofInt x1)]))
  rw [← eS13]
  refine lw_call F Cf1 (k := 301) (o := 13) (lk := (9, 158)) (t' := z_m301) rfl hq1 rfl (show z_np z_m301.1 = some 1 by decide +kernel) (by decide +kernel) (by decide) (by decide +kernel) (by decide +kernel) va (by simp [Value.category]) hl.1 hR hCC (z_ldc z_lq5_ok 13 (q := (426, (.invokevirtual 40, 3))) rfl) (fun v2 M2 H2 locs2 hn2 hok2 hq2 Cf2 => ?_)
  obtain ⟨rfl, hP2⟩ := hq2
  show W p l e R s m #[Value.ref b] below meth c H2 locs2 CC SS QQ (F0 m 429 ls [.int (Int32.ofInt x1), .int (Int32.ofInt x1)])
  refine lv_icmp_eq (tgt := 1803) hx hb (z_ldc z_lq5_ok 14 (q := (429, (.if_icmp .eq 1374, 3))) rfl) (by decide) (fun _ => ?_) (fun q => absurd rfl q)
  exact kk M2 H2 locs2 hP2 Cf2
def z_lq6 : List (Nat × (Instr × Nat)) := [(434, (.aload_n 1, 1)), (435, (.aload_n 0, 1)), (436, (.iload_n 3, 1)), (437, (.iconst 1, 1)), (438, (.iadd, 1)), (439, (.iaload, 1)), (440, (.invokevirtual 41, 3)), (443, (.aload_n 2, 1)), (444, (.aload_n 0, 1)), (445, (.iload_n 3, 1)), (446, (.iconst 1, 1)), (447, (.iadd, 1)), (448, (.iaload, 1)), (449, (.invokevirtual 44, 3)), (452, (.if_icmp .eq 1351, 3))]
theorem z_lq6_ok : z_lq6.all (fun q => decide (decode code q.1 = .ok q.2)) = true := by decide +kernel
theorem lw_case6 (F : z_lfix cx p s m meth c b L xs) (Cf : z_lcfg cx s H locs M) {k d : Nat} {P : z_M → Prop} (hk : 7 * k + 7 ≤ L) (hl : lv_has ls 4 [(0, .ref b), (1, .ref (cx.2.2 1)), (2, .ref (cx.2.2 13)), (3, .int (nI (7 * k)))]) (hR : d + 2 ≤ R.frames ∧ 64 * (d + 2) ≤ R.locals) (hCC : CC ≤ R.cells ∧ SS ≤ R.slots)
    (hCl : z_Cl 0 d 173 [z_R 1, z_I (xs (7 * k + 1)).toInt] M (fun v M1 => (∃ x, v = z_I x) ∧ z_Cl 0 d 302 [z_R 13, z_I (xs (7 * k + 1)).toInt] M1 (fun v2 M2 => v2 = v ∧ P M2)))
    (kk : ∀ (M2 : z_M) (H1 : Heap) (locs1 : List Loc), P M2 → z_lcfg cx s H1 locs1 M2 → W p l e R s m #[Value.ref b] below meth c H1 locs1 CC SS QQ (F0 m 1803 ls [])) : W p l e R s m #[Value.ref b] below meth c H locs CC SS QQ (F0 m 434 ls []) := by
  obtain ⟨hx, hb, -⟩ := id F.1
  have va : ∀ v ∈ [(z_I (xs (7 * k + 1)).toInt : z_V)], z_vok 0 v := by
    intro v hv
    simp only [List.mem_cons, List.not_mem_nil, or_false] at hv
    rcases hv with rfl <;> exact z_n_in _
  refine lv_aload_n hx hb (z_ldc z_lq6_ok 0 (q := (434, (.aload_n 1, 1))) rfl) rfl (lv_at hl 1 rfl) ?_
  refine lw_arg F Cf (j := 1) (by decide) (by decide) hk (lv_at hl 0 rfl) (lv_at hl 3 rfl) (ins := .iadd) (n2 := 0) (z_ldc z_lq6_ok 1 (q := (435, (.aload_n 0, 1))) rfl) (z_ldc z_lq6_ok 2 (q := (436, (.iload_n 3, 1))) rfl) (Or.inl ⟨(z_ldc z_lq6_ok 3 (q := (437, (.iconst 1, 1))) rfl), rfl⟩) (z_ldc z_lq6_ok 4 (q := (438, (.iadd, 1))) rfl) (z_ldc z_lq6_ok 5 (q := (439, (.iaload, 1))) rfl) ?_
  have eS1 : (([z_I (xs (7 * k + 1)).toInt] : List z_V).map (z_v cx.2.2)).reverse ++ .ref (cx.2.2 1) :: [] = (.int (xs (7 * k + 1)) :: .ref (cx.2.2 1) :: [] : List Value) := by
    simp only [List.map_cons, List.map_nil, lw_vI, List.reverse_cons, List.reverse_nil, List.nil_append, List.cons_append]
  show W p l e R s m #[Value.ref b] below meth c _ _ CC SS QQ (F0 m 440 ls (.int (xs (7 * k + 1)) :: .ref (cx.2.2 1) :: []))
  rw [← eS1]
  refine lw_call F Cf (k := 173) (o := 1) (lk := (4, 21)) (t' := z_m173) rfl hCl rfl (show z_np z_m173.1 = some 1 by decide +kernel) (by decide +kernel) (by decide) (by decide +kernel) (by decide +kernel) va (by decide) hl.1 hR hCC (z_ldc z_lq6_ok 6 (q := (440, (.invokevirtual 41, 3))) rfl) (fun v1 M1 H1 locs1 hn1 hok1 hq1 Cf1 => ?_)
  obtain ⟨hty1, hq1⟩ := hq1
  obtain ⟨x1, rfl⟩ := hty1
  show W p l e R s m #[Value.ref b] below meth c H1 locs1 CC SS QQ (F0 m 443 ls [.int (Int32.ofInt x1)])
  refine lv_aload_n hx hb (z_ldc z_lq6_ok 7 (q := (443, (.aload_n 2, 1))) rfl) rfl (lv_at hl 2 rfl) ?_
  refine lw_arg F Cf1 (j := 1) (by decide) (by decide) hk (lv_at hl 0 rfl) (lv_at hl 3 rfl) (ins := .iadd) (n2 := 0) (z_ldc z_lq6_ok 8 (q := (444, (.aload_n 0, 1))) rfl) (z_ldc z_lq6_ok 9 (q := (445, (.iload_n 3, 1))) rfl) (Or.inl ⟨(z_ldc z_lq6_ok 10 (q := (446, (.iconst 1, 1))) rfl), rfl⟩) (z_ldc z_lq6_ok 11 (q := (447, (.iadd, 1))) rfl) (z_ldc z_lq6_ok 12 (q := (448, (.iaload, 1))) rfl) ?_
  have eS13 : (([z_I (xs (7 * k + 1)).toInt] : List z_V).map (z_v cx.2.2)).reverse ++ .ref (cx.2.2 13) :: [.int (Int32.ofInt x1)] = (.int (xs (7 * k + 1)) :: .ref (cx.2.2 13) :: [.int (Int32.ofInt x1)] : List Value) := by
    simp only [List.map_cons, List.map_nil, lw_vI, List.reverse_cons, List.reverse_nil, List.nil_append, List.cons_append]
  show W p l e R s m #[Value.ref b] below meth c _ _ CC SS QQ (F0 m 449 ls (.int (xs (7 * k + 1)) :: .ref (cx.2.2 13) :: [.int (Int32.ofInt x1)]))
  rw [← eS13]
  refine lw_call F Cf1 (k := 302) (o := 13) (lk := (9, 170)) (t' := z_m302) rfl hq1 rfl (show z_np z_m302.1 = some 1 by decide +kernel) (by decide +kernel) (by decide) (by decide +kernel) (by decide +kernel) va (by simp [Value.category]) hl.1 hR hCC (z_ldc z_lq6_ok 13 (q := (449, (.invokevirtual 44, 3))) rfl) (fun v2 M2 H2 locs2 hn2 hok2 hq2 Cf2 => ?_)
  obtain ⟨rfl, hP2⟩ := hq2
  show W p l e R s m #[Value.ref b] below meth c H2 locs2 CC SS QQ (F0 m 452 ls [.int (Int32.ofInt x1), .int (Int32.ofInt x1)])
  refine lv_icmp_eq (tgt := 1803) hx hb (z_ldc z_lq6_ok 14 (q := (452, (.if_icmp .eq 1351, 3))) rfl) (by decide) (fun _ => ?_) (fun q => absurd rfl q)
  exact kk M2 H2 locs2 hP2 Cf2
def z_lq7 : List (Nat × (Instr × Nat)) := [(457, (.aload_n 1, 1)), (458, (.aload_n 0, 1)), (459, (.iload_n 3, 1)), (460, (.iconst 1, 1)), (461, (.iadd, 1)), (462, (.iaload, 1)), (463, (.aload_n 0, 1)), (464, (.iload_n 3, 1)), (465, (.iconst 2, 1)), (466, (.iadd, 1)), (467, (.iaload, 1)), (468, (.invokevirtual 45, 3)), (471, (.aload_n 2, 1)), (472, (.aload_n 0, 1)), (473, (.iload_n 3, 1)), (474, (.iconst 1, 1)), (475, (.iadd, 1)), (476, (.iaload, 1)), (477, (.aload_n 0, 1)), (478, (.iload_n 3, 1)), (479, (.iconst 2, 1)), (480, (.iadd, 1)), (481, (.iaload, 1)), (482, (.invokevirtual 49, 3)), (485, (.if_icmp .eq 1318, 3))]
theorem z_lq7_ok : z_lq7.all (fun q => decide (decode code q.1 = .ok q.2)) = true := by decide +kernel
theorem lw_case7 (F : z_lfix cx p s m meth c b L xs) (Cf : z_lcfg cx s H locs M) {k d : Nat} {P : z_M → Prop} (hk : 7 * k + 7 ≤ L) (hl : lv_has ls 4 [(0, .ref b), (1, .ref (cx.2.2 1)), (2, .ref (cx.2.2 13)), (3, .int (nI (7 * k)))]) (hR : d + 2 ≤ R.frames ∧ 64 * (d + 2) ≤ R.locals) (hCC : CC ≤ R.cells ∧ SS ≤ R.slots)
    (hCl : z_Cl 0 d 174 [z_R 1, z_I (xs (7 * k + 1)).toInt, z_I (xs (7 * k + 2)).toInt] M (fun v M1 => (∃ x, v = z_I x) ∧ z_Cl 0 d 286 [z_R 13, z_I (xs (7 * k + 1)).toInt, z_I (xs (7 * k + 2)).toInt] M1 (fun v2 M2 => v2 = v ∧ P M2)))
    (kk : ∀ (M2 : z_M) (H1 : Heap) (locs1 : List Loc), P M2 → z_lcfg cx s H1 locs1 M2 → W p l e R s m #[Value.ref b] below meth c H1 locs1 CC SS QQ (F0 m 1803 ls [])) : W p l e R s m #[Value.ref b] below meth c H locs CC SS QQ (F0 m 457 ls []) := by
  obtain ⟨hx, hb, -⟩ := id F.1
  have va : ∀ v ∈ [(z_I (xs (7 * k + 1)).toInt : z_V), (z_I (xs (7 * k + 2)).toInt : z_V)], z_vok 0 v := by
    intro v hv
    simp only [List.mem_cons, List.not_mem_nil, or_false] at hv
    rcases hv with rfl | rfl <;> exact z_n_in _
  refine lv_aload_n hx hb (z_ldc z_lq7_ok 0 (q := (457, (.aload_n 1, 1))) rfl) rfl (lv_at hl 1 rfl) ?_
  refine lw_arg F Cf (j := 1) (by decide) (by decide) hk (lv_at hl 0 rfl) (lv_at hl 3 rfl) (ins := .iadd) (n2 := 0) (z_ldc z_lq7_ok 1 (q := (458, (.aload_n 0, 1))) rfl) (z_ldc z_lq7_ok 2 (q := (459, (.iload_n 3, 1))) rfl) (Or.inl ⟨(z_ldc z_lq7_ok 3 (q := (460, (.iconst 1, 1))) rfl), rfl⟩) (z_ldc z_lq7_ok 4 (q := (461, (.iadd, 1))) rfl) (z_ldc z_lq7_ok 5 (q := (462, (.iaload, 1))) rfl) ?_
  refine lw_arg F Cf (j := 2) (by decide) (by decide) hk (lv_at hl 0 rfl) (lv_at hl 3 rfl) (ins := .iadd) (n2 := 0) (z_ldc z_lq7_ok 6 (q := (463, (.aload_n 0, 1))) rfl) (z_ldc z_lq7_ok 7 (q := (464, (.iload_n 3, 1))) rfl) (Or.inl ⟨(z_ldc z_lq7_ok 8 (q := (465, (.iconst 2, 1))) rfl), rfl⟩) (z_ldc z_lq7_ok 9 (q := (466, (.iadd, 1))) rfl) (z_ldc z_lq7_ok 10 (q := (467, (.iaload, 1))) rfl) ?_
  have eS1 : (([z_I (xs (7 * k + 1)).toInt, z_I (xs (7 * k + 2)).toInt] : List z_V).map (z_v cx.2.2)).reverse ++ .ref (cx.2.2 1) :: [] = (.int (xs (7 * k + 2)) :: .int (xs (7 * k + 1)) :: .ref (cx.2.2 1) :: [] : List Value) := by
    simp only [List.map_cons, List.map_nil, lw_vI, List.reverse_cons, List.reverse_nil, List.nil_append, List.cons_append]
  show W p l e R s m #[Value.ref b] below meth c _ _ CC SS QQ (F0 m 468 ls (.int (xs (7 * k + 2)) :: .int (xs (7 * k + 1)) :: .ref (cx.2.2 1) :: []))
  rw [← eS1]
  refine lw_call F Cf (k := 174) (o := 1) (lk := (4, 38)) (t' := z_m174) rfl hCl rfl (show z_np z_m174.1 = some 2 by decide +kernel) (by decide +kernel) (by decide) (by decide +kernel) (by decide +kernel) va (by decide) hl.1 hR hCC (z_ldc z_lq7_ok 11 (q := (468, (.invokevirtual 45, 3))) rfl) (fun v1 M1 H1 locs1 hn1 hok1 hq1 Cf1 => ?_)
  obtain ⟨hty1, hq1⟩ := hq1
  obtain ⟨x1, rfl⟩ := hty1
  show W p l e R s m #[Value.ref b] below meth c H1 locs1 CC SS QQ (F0 m 471 ls [.int (Int32.ofInt x1)])
  refine lv_aload_n hx hb (z_ldc z_lq7_ok 12 (q := (471, (.aload_n 2, 1))) rfl) rfl (lv_at hl 2 rfl) ?_
  refine lw_arg F Cf1 (j := 1) (by decide) (by decide) hk (lv_at hl 0 rfl) (lv_at hl 3 rfl) (ins := .iadd) (n2 := 0) (z_ldc z_lq7_ok 13 (q := (472, (.aload_n 0, 1))) rfl) (z_ldc z_lq7_ok 14 (q := (473, (.iload_n 3, 1))) rfl) (Or.inl ⟨(z_ldc z_lq7_ok 15 (q := (474, (.iconst 1, 1))) rfl), rfl⟩) (z_ldc z_lq7_ok 16 (q := (475, (.iadd, 1))) rfl) (z_ldc z_lq7_ok 17 (q := (476, (.iaload, 1))) rfl) ?_
  refine lw_arg F Cf1 (j := 2) (by decide) (by decide) hk (lv_at hl 0 rfl) (lv_at hl 3 rfl) (ins := .iadd) (n2 := 0) (z_ldc z_lq7_ok 18 (q := (477, (.aload_n 0, 1))) rfl) (z_ldc z_lq7_ok 19 (q := (478, (.iload_n 3, 1))) rfl) (Or.inl ⟨(z_ldc z_lq7_ok 20 (q := (479, (.iconst 2, 1))) rfl), rfl⟩) (z_ldc z_lq7_ok 21 (q := (480, (.iadd, 1))) rfl) (z_ldc z_lq7_ok 22 (q := (481, (.iaload, 1))) rfl) ?_
  have eS13 : (([z_I (xs (7 * k + 1)).toInt, z_I (xs (7 * k + 2)).toInt] : List z_V).map (z_v cx.2.2)).reverse ++ .ref (cx.2.2 13) :: [.int (Int32.ofInt x1)] = (.int (xs (7 * k + 2)) :: .int (xs (7 * k + 1)) :: .ref (cx.2.2 13) :: [.int (Int32.ofInt x1)] : List Value) := by
    simp only [List.map_cons, List.map_nil, lw_vI, List.reverse_cons, List.reverse_nil, List.nil_append, List.cons_append]
  show W p l e R s m #[Value.ref b] below meth c _ _ CC SS QQ (F0 m 482 ls (.int (xs (7 * k + 2)) :: .int (xs (7 * k + 1)) :: .ref (cx.2.2 13) :: [.int (Int32.ofInt x1)]))
  rw [← eS13]
  refine lw_call F Cf1 (k := 286) (o := 13) (lk := (9, 33)) (t' := z_m286) rfl hq1 rfl (show z_np z_m286.1 = some 2 by decide +kernel) (by decide +kernel) (by decide) (by decide +kernel) (by decide +kernel) va (by simp [Value.category]) hl.1 hR hCC (z_ldc z_lq7_ok 23 (q := (482, (.invokevirtual 49, 3))) rfl) (fun v2 M2 H2 locs2 hn2 hok2 hq2 Cf2 => ?_)
  obtain ⟨rfl, hP2⟩ := hq2
  show W p l e R s m #[Value.ref b] below meth c H2 locs2 CC SS QQ (F0 m 485 ls [.int (Int32.ofInt x1), .int (Int32.ofInt x1)])
  refine lv_icmp_eq (tgt := 1803) hx hb (z_ldc z_lq7_ok 24 (q := (485, (.if_icmp .eq 1318, 3))) rfl) (by decide) (fun _ => ?_) (fun q => absurd rfl q)
  exact kk M2 H2 locs2 hP2 Cf2
def z_lq8 : List (Nat × (Instr × Nat)) := [(490, (.aload_n 1, 1)), (491, (.aload_n 0, 1)), (492, (.iload_n 3, 1)), (493, (.iconst 1, 1)), (494, (.iadd, 1)), (495, (.iaload, 1)), (496, (.invokevirtual 50, 3)), (499, (.aload_n 2, 1)), (500, (.aload_n 0, 1)), (501, (.iload_n 3, 1)), (502, (.iconst 1, 1)), (503, (.iadd, 1)), (504, (.iaload, 1)), (505, (.invokevirtual 53, 3)), (508, (.if_icmp .eq 1295, 3))]
theorem z_lq8_ok : z_lq8.all (fun q => decide (decode code q.1 = .ok q.2)) = true := by decide +kernel
theorem lw_case8 (F : z_lfix cx p s m meth c b L xs) (Cf : z_lcfg cx s H locs M) {k d : Nat} {P : z_M → Prop} (hk : 7 * k + 7 ≤ L) (hl : lv_has ls 4 [(0, .ref b), (1, .ref (cx.2.2 1)), (2, .ref (cx.2.2 13)), (3, .int (nI (7 * k)))]) (hR : d + 2 ≤ R.frames ∧ 64 * (d + 2) ≤ R.locals) (hCC : CC ≤ R.cells ∧ SS ≤ R.slots)
    (hCl : z_Cl 0 d 175 [z_R 1, z_I (xs (7 * k + 1)).toInt] M (fun v M1 => (∃ x, v = z_I x) ∧ z_Cl 0 d 287 [z_R 13, z_I (xs (7 * k + 1)).toInt] M1 (fun v2 M2 => v2 = v ∧ P M2)))
    (kk : ∀ (M2 : z_M) (H1 : Heap) (locs1 : List Loc), P M2 → z_lcfg cx s H1 locs1 M2 → W p l e R s m #[Value.ref b] below meth c H1 locs1 CC SS QQ (F0 m 1803 ls [])) : W p l e R s m #[Value.ref b] below meth c H locs CC SS QQ (F0 m 490 ls []) := by
  obtain ⟨hx, hb, -⟩ := id F.1
  have va : ∀ v ∈ [(z_I (xs (7 * k + 1)).toInt : z_V)], z_vok 0 v := by
    intro v hv
    simp only [List.mem_cons, List.not_mem_nil, or_false] at hv
    rcases hv with rfl <;> exact z_n_in _
  refine lv_aload_n hx hb (z_ldc z_lq8_ok 0 (q := (490, (.aload_n 1, 1))) rfl) rfl (lv_at hl 1 rfl) ?_
  refine lw_arg F Cf (j := 1) (by decide) (by decide) hk (lv_at hl 0 rfl) (lv_at hl 3 rfl) (ins := .iadd) (n2 := 0) (z_ldc z_lq8_ok 1 (q := (491, (.aload_n 0, 1))) rfl) (z_ldc z_lq8_ok 2 (q := (492, (.iload_n 3, 1))) rfl) (Or.inl ⟨(z_ldc z_lq8_ok 3 (q := (493, (.iconst 1, 1))) rfl), rfl⟩) (z_ldc z_lq8_ok 4 (q := (494, (.iadd, 1))) rfl) (z_ldc z_lq8_ok 5 (q := (495, (.iaload, 1))) rfl) ?_
  have eS1 : (([z_I (xs (7 * k + 1)).toInt] : List z_V).map (z_v cx.2.2)).reverse ++ .ref (cx.2.2 1) :: [] = (.int (xs (7 * k + 1)) :: .ref (cx.2.2 1) :: [] : List Value) := by
    simp only [List.map_cons, List.map_nil, lw_vI, List.reverse_cons, List.reverse_nil, List.nil_append, List.cons_append]
  show W p l e R s m #[Value.ref b] below meth c _ _ CC SS QQ (F0 m 496 ls (.int (xs (7 * k + 1)) :: .ref (cx.2.2 1) :: []))
  rw [← eS1]
  refine lw_call F Cf (k := 175) (o := 1) (lk := (4, 47)) (t' := z_m175) rfl hCl rfl (show z_np z_m175.1 = some 1 by decide +kernel) (by decide +kernel) (by decide) (by decide +kernel) (by decide +kernel) va (by decide) hl.1 hR hCC (z_ldc z_lq8_ok 6 (q := (496, (.invokevirtual 50, 3))) rfl) (fun v1 M1 H1 locs1 hn1 hok1 hq1 Cf1 => ?_)
  obtain ⟨hty1, hq1⟩ := hq1
  obtain ⟨x1, rfl⟩ := hty1
  show W p l e R s m #[Value.ref b] below meth c H1 locs1 CC SS QQ (F0 m 499 ls [.int (Int32.ofInt x1)])
  refine lv_aload_n hx hb (z_ldc z_lq8_ok 7 (q := (499, (.aload_n 2, 1))) rfl) rfl (lv_at hl 2 rfl) ?_
  refine lw_arg F Cf1 (j := 1) (by decide) (by decide) hk (lv_at hl 0 rfl) (lv_at hl 3 rfl) (ins := .iadd) (n2 := 0) (z_ldc z_lq8_ok 8 (q := (500, (.aload_n 0, 1))) rfl) (z_ldc z_lq8_ok 9 (q := (501, (.iload_n 3, 1))) rfl) (Or.inl ⟨(z_ldc z_lq8_ok 10 (q := (502, (.iconst 1, 1))) rfl), rfl⟩) (z_ldc z_lq8_ok 11 (q := (503, (.iadd, 1))) rfl) (z_ldc z_lq8_ok 12 (q := (504, (.iaload, 1))) rfl) ?_
  have eS13 : (([z_I (xs (7 * k + 1)).toInt] : List z_V).map (z_v cx.2.2)).reverse ++ .ref (cx.2.2 13) :: [.int (Int32.ofInt x1)] = (.int (xs (7 * k + 1)) :: .ref (cx.2.2 13) :: [.int (Int32.ofInt x1)] : List Value) := by
    simp only [List.map_cons, List.map_nil, lw_vI, List.reverse_cons, List.reverse_nil, List.nil_append, List.cons_append]
  show W p l e R s m #[Value.ref b] below meth c _ _ CC SS QQ (F0 m 505 ls (.int (xs (7 * k + 1)) :: .ref (cx.2.2 13) :: [.int (Int32.ofInt x1)]))
  rw [← eS13]
  refine lw_call F Cf1 (k := 287) (o := 13) (lk := (9, 37)) (t' := z_m287) rfl hq1 rfl (show z_np z_m287.1 = some 1 by decide +kernel) (by decide +kernel) (by decide) (by decide +kernel) (by decide +kernel) va (by simp [Value.category]) hl.1 hR hCC (z_ldc z_lq8_ok 13 (q := (505, (.invokevirtual 53, 3))) rfl) (fun v2 M2 H2 locs2 hn2 hok2 hq2 Cf2 => ?_)
  obtain ⟨rfl, hP2⟩ := hq2
  show W p l e R s m #[Value.ref b] below meth c H2 locs2 CC SS QQ (F0 m 508 ls [.int (Int32.ofInt x1), .int (Int32.ofInt x1)])
  refine lv_icmp_eq (tgt := 1803) hx hb (z_ldc z_lq8_ok 14 (q := (508, (.if_icmp .eq 1295, 3))) rfl) (by decide) (fun _ => ?_) (fun q => absurd rfl q)
  exact kk M2 H2 locs2 hP2 Cf2
def z_lq9 : List (Nat × (Instr × Nat)) := [(513, (.aload_n 1, 1)), (514, (.aload_n 0, 1)), (515, (.iload_n 3, 1)), (516, (.iconst 1, 1)), (517, (.iadd, 1)), (518, (.iaload, 1)), (519, (.aload_n 0, 1)), (520, (.iload_n 3, 1)), (521, (.iconst 2, 1)), (522, (.iadd, 1)), (523, (.iaload, 1)), (524, (.invokevirtual 54, 3)), (527, (.aload_n 2, 1)), (528, (.aload_n 0, 1)), (529, (.iload_n 3, 1)), (530, (.iconst 1, 1)), (531, (.iadd, 1)), (532, (.iaload, 1)), (533, (.aload_n 0, 1)), (534, (.iload_n 3, 1)), (535, (.iconst 2, 1)), (536, (.iadd, 1)), (537, (.iaload, 1)), (538, (.invokevirtual 58, 3)), (541, (.if_icmp .eq 1262, 3))]
theorem z_lq9_ok : z_lq9.all (fun q => decide (decode code q.1 = .ok q.2)) = true := by decide +kernel
theorem lw_case9 (F : z_lfix cx p s m meth c b L xs) (Cf : z_lcfg cx s H locs M) {k d : Nat} {P : z_M → Prop} (hk : 7 * k + 7 ≤ L) (hl : lv_has ls 4 [(0, .ref b), (1, .ref (cx.2.2 1)), (2, .ref (cx.2.2 13)), (3, .int (nI (7 * k)))]) (hR : d + 2 ≤ R.frames ∧ 64 * (d + 2) ≤ R.locals) (hCC : CC ≤ R.cells ∧ SS ≤ R.slots)
    (hCl : z_Cl 0 d 176 [z_R 1, z_I (xs (7 * k + 1)).toInt, z_I (xs (7 * k + 2)).toInt] M (fun v M1 => (∃ x, v = z_I x) ∧ z_Cl 0 d 303 [z_R 13, z_I (xs (7 * k + 1)).toInt, z_I (xs (7 * k + 2)).toInt] M1 (fun v2 M2 => v2 = v ∧ P M2)))
    (kk : ∀ (M2 : z_M) (H1 : Heap) (locs1 : List Loc), P M2 → z_lcfg cx s H1 locs1 M2 → W p l e R s m #[Value.ref b] below meth c H1 locs1 CC SS QQ (F0 m 1803 ls [])) : W p l e R s m #[Value.ref b] below meth c H locs CC SS QQ (F0 m 513 ls []) := by
  obtain ⟨hx, hb, -⟩ := id F.1
  have va : ∀ v ∈ [(z_I (xs (7 * k + 1)).toInt : z_V), (z_I (xs (7 * k + 2)).toInt : z_V)], z_vok 0 v := by
    intro v hv
    simp only [List.mem_cons, List.not_mem_nil, or_false] at hv
    rcases hv with rfl | rfl <;> exact z_n_in _
  refine lv_aload_n hx hb (z_ldc z_lq9_ok 0 (q := (513, (.aload_n 1, 1))) rfl) rfl (lv_at hl 1 rfl) ?_
  refine lw_arg F Cf (j := 1) (by decide) (by decide) hk (lv_at hl 0 rfl) (lv_at hl 3 rfl) (ins := .iadd) (n2 := 0) (z_ldc z_lq9_ok 1 (q := (514, (.aload_n 0, 1))) rfl) (z_ldc z_lq9_ok 2 (q := (515, (.iload_n 3, 1))) rfl) (Or.inl ⟨(z_ldc z_lq9_ok 3 (q := (516, (.iconst 1, 1))) rfl), rfl⟩) (z_ldc z_lq9_ok 4 (q := (517, (.iadd, 1))) rfl) (z_ldc z_lq9_ok 5 (q := (518, (.iaload, 1))) rfl) ?_
  refine lw_arg F Cf (j := 2) (by decide) (by decide) hk (lv_at hl 0 rfl) (lv_at hl 3 rfl) (ins := .iadd) (n2 := 0) (z_ldc z_lq9_ok 6 (q := (519, (.aload_n 0, 1))) rfl) (z_ldc z_lq9_ok 7 (q := (520, (.iload_n 3, 1))) rfl) (Or.inl ⟨(z_ldc z_lq9_ok 8 (q := (521, (.iconst 2, 1))) rfl), rfl⟩) (z_ldc z_lq9_ok 9 (q := (522, (.iadd, 1))) rfl) (z_ldc z_lq9_ok 10 (q := (523, (.iaload, 1))) rfl) ?_
  have eS1 : (([z_I (xs (7 * k + 1)).toInt, z_I (xs (7 * k + 2)).toInt] : List z_V).map (z_v cx.2.2)).reverse ++ .ref (cx.2.2 1) :: [] = (.int (xs (7 * k + 2)) :: .int (xs (7 * k + 1)) :: .ref (cx.2.2 1) :: [] : List Value) := by
    simp only [List.map_cons, List.map_nil, lw_vI, List.reverse_cons, List.reverse_nil, List.nil_append, List.cons_append]
  show W p l e R s m #[Value.ref b] below meth c _ _ CC SS QQ (F0 m 524 ls (.int (xs (7 * k + 2)) :: .int (xs (7 * k + 1)) :: .ref (cx.2.2 1) :: []))
  rw [← eS1]
  refine lw_call F Cf (k := 176) (o := 1) (lk := (4, 58)) (t' := z_m176) rfl hCl rfl (show z_np z_m176.1 = some 2 by decide +kernel) (by decide +kernel) (by decide) (by decide +kernel) (by decide +kernel) va (by decide) hl.1 hR hCC (z_ldc z_lq9_ok 11 (q := (524, (.invokevirtual 54, 3))) rfl) (fun v1 M1 H1 locs1 hn1 hok1 hq1 Cf1 => ?_)
  obtain ⟨hty1, hq1⟩ := hq1
  obtain ⟨x1, rfl⟩ := hty1
  show W p l e R s m #[Value.ref b] below meth c H1 locs1 CC SS QQ (F0 m 527 ls [.int (Int32.ofInt x1)])
  refine lv_aload_n hx hb (z_ldc z_lq9_ok 12 (q := (527, (.aload_n 2, 1))) rfl) rfl (lv_at hl 2 rfl) ?_
  refine lw_arg F Cf1 (j := 1) (by decide) (by decide) hk (lv_at hl 0 rfl) (lv_at hl 3 rfl) (ins := .iadd) (n2 := 0) (z_ldc z_lq9_ok 13 (q := (528, (.aload_n 0, 1))) rfl) (z_ldc z_lq9_ok 14 (q := (529, (.iload_n 3, 1))) rfl) (Or.inl ⟨(z_ldc z_lq9_ok 15 (q := (530, (.iconst 1, 1))) rfl), rfl⟩) (z_ldc z_lq9_ok 16 (q := (531, (.iadd, 1))) rfl) (z_ldc z_lq9_ok 17 (q := (532, (.iaload, 1))) rfl) ?_
  refine lw_arg F Cf1 (j := 2) (by decide) (by decide) hk (lv_at hl 0 rfl) (lv_at hl 3 rfl) (ins := .iadd) (n2 := 0) (z_ldc z_lq9_ok 18 (q := (533, (.aload_n 0, 1))) rfl) (z_ldc z_lq9_ok 19 (q := (534, (.iload_n 3, 1))) rfl) (Or.inl ⟨(z_ldc z_lq9_ok 20 (q := (535, (.iconst 2, 1))) rfl), rfl⟩) (z_ldc z_lq9_ok 21 (q := (536, (.iadd, 1))) rfl) (z_ldc z_lq9_ok 22 (q := (537, (.iaload, 1))) rfl) ?_
  have eS13 : (([z_I (xs (7 * k + 1)).toInt, z_I (xs (7 * k + 2)).toInt] : List z_V).map (z_v cx.2.2)).reverse ++ .ref (cx.2.2 13) :: [.int (Int32.ofInt x1)] = (.int (xs (7 * k + 2)) :: .int (xs (7 * k + 1)) :: .ref (cx.2.2 13) :: [.int (Int32.ofInt x1)] : List Value) := by
    simp only [List.map_cons, List.map_nil, lw_vI, List.reverse_cons, List.reverse_nil, List.nil_append, List.cons_append]
  show W p l e R s m #[Value.ref b] below meth c _ _ CC SS QQ (F0 m 538 ls (.int (xs (7 * k + 2)) :: .int (xs (7 * k + 1)) :: .ref (cx.2.2 13) :: [.int (Int32.ofInt x1)]))
  rw [← eS13]
  refine lw_call F Cf1 (k := 303) (o := 13) (lk := (9, 174)) (t' := z_m303) rfl hq1 rfl (show z_np z_m303.1 = some 2 by decide +kernel) (by decide +kernel) (by decide) (by decide +kernel) (by decide +kernel) va (by simp [Value.category]) hl.1 hR hCC (z_ldc z_lq9_ok 23 (q := (538, (.invokevirtual 58, 3))) rfl) (fun v2 M2 H2 locs2 hn2 hok2 hq2 Cf2 => ?_)
  obtain ⟨rfl, hP2⟩ := hq2
  show W p l e R s m #[Value.ref b] below meth c H2 locs2 CC SS QQ (F0 m 541 ls [.int (Int32.ofInt x1), .int (Int32.ofInt x1)])
  refine lv_icmp_eq (tgt := 1803) hx hb (z_ldc z_lq9_ok 24 (q := (541, (.if_icmp .eq 1262, 3))) rfl) (by decide) (fun _ => ?_) (fun q => absurd rfl q)
  exact kk M2 H2 locs2 hP2 Cf2
def z_lq10 : List (Nat × (Instr × Nat)) := [(546, (.aload_n 1, 1)), (547, (.aload_n 0, 1)), (548, (.iload_n 3, 1)), (549, (.iconst 1, 1)), (550, (.iadd, 1)), (551, (.iaload, 1)), (552, (.aload_n 0, 1)), (553, (.iload_n 3, 1)), (554, (.iconst 2, 1)), (555, (.iadd, 1)), (556, (.iaload, 1)), (557, (.invokevirtual 59, 3)), (560, (.aload_n 2, 1)), (561, (.aload_n 0, 1)), (562, (.iload_n 3, 1)), (563, (.iconst 1, 1)), (564, (.iadd, 1)), (565, (.iaload, 1)), (566, (.aload_n 0, 1)), (567, (.iload_n 3, 1)), (568, (.iconst 2, 1)), (569, (.iadd, 1)), (570, (.iaload, 1)), (571, (.invokevirtual 62, 3)), (574, (.if_icmp .eq 1229, 3))]
theorem z_lq10_ok : z_lq10.all (fun q => decide (decode code q.1 = .ok q.2)) = true := by decide +kernel
theorem lw_case10 (F : z_lfix cx p s m meth c b L xs) (Cf : z_lcfg cx s H locs M) {k d : Nat} {P : z_M → Prop} (hk : 7 * k + 7 ≤ L) (hl : lv_has ls 4 [(0, .ref b), (1, .ref (cx.2.2 1)), (2, .ref (cx.2.2 13)), (3, .int (nI (7 * k)))]) (hR : d + 2 ≤ R.frames ∧ 64 * (d + 2) ≤ R.locals) (hCC : CC ≤ R.cells ∧ SS ≤ R.slots)
    (hCl : z_Cl 0 d 177 [z_R 1, z_I (xs (7 * k + 1)).toInt, z_I (xs (7 * k + 2)).toInt] M (fun v M1 => (∃ x, v = z_I x) ∧ z_Cl 0 d 288 [z_R 13, z_I (xs (7 * k + 1)).toInt, z_I (xs (7 * k + 2)).toInt] M1 (fun v2 M2 => v2 = v ∧ P M2)))
    (kk : ∀ (M2 : z_M) (H1 : Heap) (locs1 : List Loc), P M2 → z_lcfg cx s H1 locs1 M2 → W p l e R s m #[Value.ref b] below meth c H1 locs1 CC SS QQ (F0 m 1803 ls [])) : W p l e R s m #[Value.ref b] below meth c H locs CC SS QQ (F0 m 546 ls []) := by
  obtain ⟨hx, hb, -⟩ := id F.1
  have va : ∀ v ∈ [(z_I (xs (7 * k + 1)).toInt : z_V), (z_I (xs (7 * k + 2)).toInt : z_V)], z_vok 0 v := by
    intro v hv
    simp only [List.mem_cons, List.not_mem_nil, or_false] at hv
    rcases hv with rfl | rfl <;> exact z_n_in _
  refine lv_aload_n hx hb (z_ldc z_lq10_ok 0 (q := (546, (.aload_n 1, 1))) rfl) rfl (lv_at hl 1 rfl) ?_
  refine lw_arg F Cf (j := 1) (by decide) (by decide) hk (lv_at hl 0 rfl) (lv_at hl 3 rfl) (ins := .iadd) (n2 := 0) (z_ldc z_lq10_ok 1 (q := (547, (.aload_n 0, 1))) rfl) (z_ldc z_lq10_ok 2 (q := (548, (.iload_n 3, 1))) rfl) (Or.inl ⟨(z_ldc z_lq10_ok 3 (q := (549, (.iconst 1, 1))) rfl), rfl⟩) (z_ldc z_lq10_ok 4 (q := (550, (.iadd, 1))) rfl) (z_ldc z_lq10_ok 5 (q := (551, (.iaload, 1))) rfl) ?_
  refine lw_arg F Cf (j := 2) (by decide) (by decide) hk (lv_at hl 0 rfl) (lv_at hl 3 rfl) (ins := .iadd) (n2 := 0) (z_ldc z_lq10_ok 6 (q := (552, (.aload_n 0, 1))) rfl) (z_ldc z_lq10_ok 7 (q := (553, (.iload_n 3, 1))) rfl) (Or.inl ⟨(z_ldc z_lq10_ok 8 (q := (554, (.iconst 2, 1))) rfl), rfl⟩) (z_ldc z_lq10_ok 9 (q := (555, (.iadd, 1))) rfl) (z_ldc z_lq10_ok 10 (q := (556, (.iaload, 1))) rfl) ?_
  have eS1 : (([z_I (xs (7 * k + 1)).toInt, z_I (xs (7 * k + 2)).toInt] : List z_V).map (z_v cx.2.2)).reverse ++ .ref (cx.2.2 1) :: [] = (.int (xs (7 * k + 2)) :: .int (xs (7 * k + 1)) :: .ref (cx.2.2 1) :: [] : List Value) := by
    simp only [List.map_cons, List.map_nil, lw_vI, List.reverse_cons, List.reverse_nil, List.nil_append, List.cons_append]
  show W p l e R s m #[Value.ref b] below meth c _ _ CC SS QQ (F0 m 557 ls (.int (xs (7 * k + 2)) :: .int (xs (7 * k + 1)) :: .ref (cx.2.2 1) :: []))
  rw [← eS1]
  refine lw_call F Cf (k := 177) (o := 1) (lk := (4, 63)) (t' := z_m177) rfl hCl rfl (show z_np z_m177.1 = some 2 by decide +kernel) (by decide +kernel) (by decide) (by decide +kernel) (by decide +kernel) va (by decide) hl.1 hR hCC (z_ldc z_lq10_ok 11 (q := (557, (.invokevirtual 59, 3))) rfl) (fun v1 M1 H1 locs1 hn1 hok1 hq1 Cf1 => ?_)
  obtain ⟨hty1, hq1⟩ := hq1
  obtain ⟨x1, rfl⟩ := hty1
  show W p l e R s m #[Value.ref b] below meth c H1 locs1 CC SS QQ (F0 m 560 ls [.int (Int32.ofInt x1)])
  refine lv_aload_n hx hb (z_ldc z_lq10_ok 12 (q := (560, (.aload_n 2, 1))) rfl) rfl (lv_at hl 2 rfl) ?_
  refine lw_arg F Cf1 (j := 1) (by decide) (by decide) hk (lv_at hl 0 rfl) (lv_at hl 3 rfl) (ins := .iadd) (n2 := 0) (z_ldc z_lq10_ok 13 (q := (561, (.aload_n 0, 1))) rfl) (z_ldc z_lq10_ok 14 (q := (562, (.iload_n 3, 1))) rfl) (Or.inl ⟨(z_ldc z_lq10_ok 15 (q := (563, (.iconst 1, 1))) rfl), rfl⟩) (z_ldc z_lq10_ok 16 (q := (564, (.iadd, 1))) rfl) (z_ldc z_lq10_ok 17 (q := (565, (.iaload, 1))) rfl) ?_
  refine lw_arg F Cf1 (j := 2) (by decide) (by decide) hk (lv_at hl 0 rfl) (lv_at hl 3 rfl) (ins := .iadd) (n2 := 0) (z_ldc z_lq10_ok 18 (q := (566, (.aload_n 0, 1))) rfl) (z_ldc z_lq10_ok 19 (q := (567, (.iload_n 3, 1))) rfl) (Or.inl ⟨(z_ldc z_lq10_ok 20 (q := (568, (.iconst 2, 1))) rfl), rfl⟩) (z_ldc z_lq10_ok 21 (q := (569, (.iadd, 1))) rfl) (z_ldc z_lq10_ok 22 (q := (570, (.iaload, 1))) rfl) ?_
  have eS13 : (([z_I (xs (7 * k + 1)).toInt, z_I (xs (7 * k + 2)).toInt] : List z_V).map (z_v cx.2.2)).reverse ++ .ref (cx.2.2 13) :: [.int (Int32.ofInt x1)] = (.int (xs (7 * k + 2)) :: .int (xs (7 * k + 1)) :: .ref (cx.2.2 13) :: [.int (Int32.ofInt x1)] : List Value) := by
    simp only [List.map_cons, List.map_nil, lw_vI, List.reverse_cons, List.reverse_nil, List.nil_append, List.cons_append]
  show W p l e R s m #[Value.ref b] below meth c _ _ CC SS QQ (F0 m 571 ls (.int (xs (7 * k + 2)) :: .int (xs (7 * k + 1)) :: .ref (cx.2.2 13) :: [.int (Int32.ofInt x1)]))
  rw [← eS13]
  refine lw_call F Cf1 (k := 288) (o := 13) (lk := (9, 41)) (t' := z_m288) rfl hq1 rfl (show z_np z_m288.1 = some 2 by decide +kernel) (by decide +kernel) (by decide) (by decide +kernel) (by decide +kernel) va (by simp [Value.category]) hl.1 hR hCC (z_ldc z_lq10_ok 23 (q := (571, (.invokevirtual 62, 3))) rfl) (fun v2 M2 H2 locs2 hn2 hok2 hq2 Cf2 => ?_)
  obtain ⟨rfl, hP2⟩ := hq2
  show W p l e R s m #[Value.ref b] below meth c H2 locs2 CC SS QQ (F0 m 574 ls [.int (Int32.ofInt x1), .int (Int32.ofInt x1)])
  refine lv_icmp_eq (tgt := 1803) hx hb (z_ldc z_lq10_ok 24 (q := (574, (.if_icmp .eq 1229, 3))) rfl) (by decide) (fun _ => ?_) (fun q => absurd rfl q)
  exact kk M2 H2 locs2 hP2 Cf2
def z_lq11 : List (Nat × (Instr × Nat)) := [(579, (.aload_n 1, 1)), (580, (.aload_n 0, 1)), (581, (.iload_n 3, 1)), (582, (.iconst 1, 1)), (583, (.iadd, 1)), (584, (.iaload, 1)), (585, (.aload_n 0, 1)), (586, (.iload_n 3, 1)), (587, (.iconst 2, 1)), (588, (.iadd, 1)), (589, (.iaload, 1)), (590, (.invokevirtual 63, 3)), (593, (.aload_n 2, 1)), (594, (.aload_n 0, 1)), (595, (.iload_n 3, 1)), (596, (.iconst 1, 1)), (597, (.iadd, 1)), (598, (.iaload, 1)), (599, (.aload_n 0, 1)), (600, (.iload_n 3, 1)), (601, (.iconst 2, 1)), (602, (.iadd, 1)), (603, (.iaload, 1)), (604, (.invokevirtual 66, 3)), (607, (.if_icmp .eq 1196, 3))]
theorem z_lq11_ok : z_lq11.all (fun q => decide (decode code q.1 = .ok q.2)) = true := by decide +kernel
theorem lw_case11 (F : z_lfix cx p s m meth c b L xs) (Cf : z_lcfg cx s H locs M) {k d : Nat} {P : z_M → Prop} (hk : 7 * k + 7 ≤ L) (hl : lv_has ls 4 [(0, .ref b), (1, .ref (cx.2.2 1)), (2, .ref (cx.2.2 13)), (3, .int (nI (7 * k)))]) (hR : d + 2 ≤ R.frames ∧ 64 * (d + 2) ≤ R.locals) (hCC : CC ≤ R.cells ∧ SS ≤ R.slots)
    (hCl : z_Cl 0 d 178 [z_R 1, z_I (xs (7 * k + 1)).toInt, z_I (xs (7 * k + 2)).toInt] M (fun v M1 => (∃ x, v = z_I x) ∧ z_Cl 0 d 289 [z_R 13, z_I (xs (7 * k + 1)).toInt, z_I (xs (7 * k + 2)).toInt] M1 (fun v2 M2 => v2 = v ∧ P M2)))
    (kk : ∀ (M2 : z_M) (H1 : Heap) (locs1 : List Loc), P M2 → z_lcfg cx s H1 locs1 M2 → W p l e R s m #[Value.ref b] below meth c H1 locs1 CC SS QQ (F0 m 1803 ls [])) : W p l e R s m #[Value.ref b] below meth c H locs CC SS QQ (F0 m 579 ls []) := by
  obtain ⟨hx, hb, -⟩ := id F.1
  have va : ∀ v ∈ [(z_I (xs (7 * k + 1)).toInt : z_V), (z_I (xs (7 * k + 2)).toInt : z_V)], z_vok 0 v := by
    intro v hv
    simp only [List.mem_cons, List.not_mem_nil, or_false] at hv
    rcases hv with rfl | rfl <;> exact z_n_in _
  refine lv_aload_n hx hb (z_ldc z_lq11_ok 0 (q := (579, (.aload_n 1, 1))) rfl) rfl (lv_at hl 1 rfl) ?_
  refine lw_arg F Cf (j := 1) (by decide) (by decide) hk (lv_at hl 0 rfl) (lv_at hl 3 rfl) (ins := .iadd) (n2 := 0) (z_ldc z_lq11_ok 1 (q := (580, (.aload_n 0, 1))) rfl) (z_ldc z_lq11_ok 2 (q := (581, (.iload_n 3, 1))) rfl) (Or.inl ⟨(z_ldc z_lq11_ok 3 (q := (582, (.iconst 1, 1))) rfl), rfl⟩) (z_ldc z_lq11_ok 4 (q := (583, (.iadd, 1))) rfl) (z_ldc z_lq11_ok 5 (q := (584, (.iaload, 1))) rfl) ?_
  refine lw_arg F Cf (j := 2) (by decide) (by decide) hk (lv_at hl 0 rfl) (lv_at hl 3 rfl) (ins := .iadd) (n2 := 0) (z_ldc z_lq11_ok 6 (q := (585, (.aload_n 0, 1))) rfl) (z_ldc z_lq11_ok 7 (q := (586, (.iload_n 3, 1))) rfl) (Or.inl ⟨(z_ldc z_lq11_ok 8 (q := (587, (.iconst 2, 1))) rfl), rfl⟩) (z_ldc z_lq11_ok 9 (q := (588, (.iadd, 1))) rfl) (z_ldc z_lq11_ok 10 (q := (589, (.iaload, 1))) rfl) ?_
  have eS1 : (([z_I (xs (7 * k + 1)).toInt, z_I (xs (7 * k + 2)).toInt] : List z_V).map (z_v cx.2.2)).reverse ++ .ref (cx.2.2 1) :: [] = (.int (xs (7 * k + 2)) :: .int (xs (7 * k + 1)) :: .ref (cx.2.2 1) :: [] : List Value) := by
    simp only [List.map_cons, List.map_nil, lw_vI, List.reverse_cons, List.reverse_nil, List.nil_append, List.cons_append]
  show W p l e R s m #[Value.ref b] below meth c _ _ CC SS QQ (F0 m 590 ls (.int (xs (7 * k + 2)) :: .int (xs (7 * k + 1)) :: .ref (cx.2.2 1) :: []))
  rw [← eS1]
  refine lw_call F Cf (k := 178) (o := 1) (lk := (4, 82)) (t' := z_m178) rfl hCl rfl (show z_np z_m178.1 = some 2 by decide +kernel) (by decide +kernel) (by decide) (by decide +kernel) (by decide +kernel) va (by decide) hl.1 hR hCC (z_ldc z_lq11_ok 11 (q := (590, (.invokevirtual 63, 3))) rfl) (fun v1 M1 H1 locs1 hn1 hok1 hq1 Cf1 => ?_)
  obtain ⟨hty1, hq1⟩ := hq1
  obtain ⟨x1, rfl⟩ := hty1
  show W p l e R s m #[Value.ref b] below meth c H1 locs1 CC SS QQ (F0 m 593 ls [.int (Int32.ofInt x1)])
  refine lv_aload_n hx hb (z_ldc z_lq11_ok 12 (q := (593, (.aload_n 2, 1))) rfl) rfl (lv_at hl 2 rfl) ?_
  refine lw_arg F Cf1 (j := 1) (by decide) (by decide) hk (lv_at hl 0 rfl) (lv_at hl 3 rfl) (ins := .iadd) (n2 := 0) (z_ldc z_lq11_ok 13 (q := (594, (.aload_n 0, 1))) rfl) (z_ldc z_lq11_ok 14 (q := (595, (.iload_n 3, 1))) rfl) (Or.inl ⟨(z_ldc z_lq11_ok 15 (q := (596, (.iconst 1, 1))) rfl), rfl⟩) (z_ldc z_lq11_ok 16 (q := (597, (.iadd, 1))) rfl) (z_ldc z_lq11_ok 17 (q := (598, (.iaload, 1))) rfl) ?_
  refine lw_arg F Cf1 (j := 2) (by decide) (by decide) hk (lv_at hl 0 rfl) (lv_at hl 3 rfl) (ins := .iadd) (n2 := 0) (z_ldc z_lq11_ok 18 (q := (599, (.aload_n 0, 1))) rfl) (z_ldc z_lq11_ok 19 (q := (600, (.iload_n 3, 1))) rfl) (Or.inl ⟨(z_ldc z_lq11_ok 20 (q := (601, (.iconst 2, 1))) rfl), rfl⟩) (z_ldc z_lq11_ok 21 (q := (602, (.iadd, 1))) rfl) (z_ldc z_lq11_ok 22 (q := (603, (.iaload, 1))) rfl) ?_
  have eS13 : (([z_I (xs (7 * k + 1)).toInt, z_I (xs (7 * k + 2)).toInt] : List z_V).map (z_v cx.2.2)).reverse ++ .ref (cx.2.2 13) :: [.int (Int32.ofInt x1)] = (.int (xs (7 * k + 2)) :: .int (xs (7 * k + 1)) :: .ref (cx.2.2 13) :: [.int (Int32.ofInt x1)] : List Value) := by
    simp only [List.map_cons, List.map_nil, lw_vI, List.reverse_cons, List.reverse_nil, List.nil_append, List.cons_append]
  show W p l e R s m #[Value.ref b] below meth c _ _ CC SS QQ (F0 m 604 ls (.int (xs (7 * k + 2)) :: .int (xs (7 * k + 1)) :: .ref (cx.2.2 13) :: [.int (Int32.ofInt x1)]))
  rw [← eS13]
  refine lw_call F Cf1 (k := 289) (o := 13) (lk := (9, 57)) (t' := z_m289) rfl hq1 rfl (show z_np z_m289.1 = some 2 by decide +kernel) (by decide +kernel) (by decide) (by decide +kernel) (by decide +kernel) va (by simp [Value.category]) hl.1 hR hCC (z_ldc z_lq11_ok 23 (q := (604, (.invokevirtual 66, 3))) rfl) (fun v2 M2 H2 locs2 hn2 hok2 hq2 Cf2 => ?_)
  obtain ⟨rfl, hP2⟩ := hq2
  show W p l e R s m #[Value.ref b] below meth c H2 locs2 CC SS QQ (F0 m 607 ls [.int (Int32.ofInt x1), .int (Int32.ofInt x1)])
  refine lv_icmp_eq (tgt := 1803) hx hb (z_ldc z_lq11_ok 24 (q := (607, (.if_icmp .eq 1196, 3))) rfl) (by decide) (fun _ => ?_) (fun q => absurd rfl q)
  exact kk M2 H2 locs2 hP2 Cf2
def z_lq12 : List (Nat × (Instr × Nat)) := [(612, (.aload_n 1, 1)), (613, (.aload_n 0, 1)), (614, (.iload_n 3, 1)), (615, (.iconst 1, 1)), (616, (.iadd, 1)), (617, (.iaload, 1)), (618, (.aload_n 0, 1)), (619, (.iload_n 3, 1)), (620, (.iconst 2, 1)), (621, (.iadd, 1)), (622, (.iaload, 1)), (623, (.invokevirtual 67, 3)), (626, (.aload_n 2, 1)), (627, (.aload_n 0, 1)), (628, (.iload_n 3, 1)), (629, (.iconst 1, 1)), (630, (.iadd, 1)), (631, (.iaload, 1)), (632, (.aload_n 0, 1)), (633, (.iload_n 3, 1)), (634, (.iconst 2, 1)), (635, (.iadd, 1)), (636, (.iaload, 1)), (637, (.invokevirtual 70, 3)), (640, (.if_icmp .eq 1163, 3))]
theorem z_lq12_ok : z_lq12.all (fun q => decide (decode code q.1 = .ok q.2)) = true := by decide +kernel
theorem lw_case12 (F : z_lfix cx p s m meth c b L xs) (Cf : z_lcfg cx s H locs M) {k d : Nat} {P : z_M → Prop} (hk : 7 * k + 7 ≤ L) (hl : lv_has ls 4 [(0, .ref b), (1, .ref (cx.2.2 1)), (2, .ref (cx.2.2 13)), (3, .int (nI (7 * k)))]) (hR : d + 2 ≤ R.frames ∧ 64 * (d + 2) ≤ R.locals) (hCC : CC ≤ R.cells ∧ SS ≤ R.slots)
    (hCl : z_Cl 0 d 179 [z_R 1, z_I (xs (7 * k + 1)).toInt, z_I (xs (7 * k + 2)).toInt] M (fun v M1 => (∃ x, v = z_I x) ∧ z_Cl 0 d 291 [z_R 13, z_I (xs (7 * k + 1)).toInt, z_I (xs (7 * k + 2)).toInt] M1 (fun v2 M2 => v2 = v ∧ P M2)))
    (kk : ∀ (M2 : z_M) (H1 : Heap) (locs1 : List Loc), P M2 → z_lcfg cx s H1 locs1 M2 → W p l e R s m #[Value.ref b] below meth c H1 locs1 CC SS QQ (F0 m 1803 ls [])) : W p l e R s m #[Value.ref b] below meth c H locs CC SS QQ (F0 m 612 ls []) := by
  obtain ⟨hx, hb, -⟩ := id F.1
  have va : ∀ v ∈ [(z_I (xs (7 * k + 1)).toInt : z_V), (z_I (xs (7 * k + 2)).toInt : z_V)], z_vok 0 v := by
    intro v hv
    simp only [List.mem_cons, List.not_mem_nil, or_false] at hv
    rcases hv with rfl | rfl <;> exact z_n_in _
  refine lv_aload_n hx hb (z_ldc z_lq12_ok 0 (q := (612, (.aload_n 1, 1))) rfl) rfl (lv_at hl 1 rfl) ?_
  refine lw_arg F Cf (j := 1) (by decide) (by decide) hk (lv_at hl 0 rfl) (lv_at hl 3 rfl) (ins := .iadd) (n2 := 0) (z_ldc z_lq12_ok 1 (q := (613, (.aload_n 0, 1))) rfl) (z_ldc z_lq12_ok 2 (q := (614, (.iload_n 3, 1))) rfl) (Or.inl ⟨(z_ldc z_lq12_ok 3 (q := (615, (.iconst 1, 1))) rfl), rfl⟩) (z_ldc z_lq12_ok 4 (q := (616, (.iadd, 1))) rfl) (z_ldc z_lq12_ok 5 (q := (617, (.iaload, 1))) rfl) ?_
  refine lw_arg F Cf (j := 2) (by decide) (by decide) hk (lv_at hl 0 rfl) (lv_at hl 3 rfl) (ins := .iadd) (n2 := 0) (z_ldc z_lq12_ok 6 (q := (618, (.aload_n 0, 1))) rfl) (z_ldc z_lq12_ok 7 (q := (619, (.iload_n 3, 1))) rfl) (Or.inl ⟨(z_ldc z_lq12_ok 8 (q := (620, (.iconst 2, 1))) rfl), rfl⟩) (z_ldc z_lq12_ok 9 (q := (621, (.iadd, 1))) rfl) (z_ldc z_lq12_ok 10 (q := (622, (.iaload, 1))) rfl) ?_
  have eS1 : (([z_I (xs (7 * k + 1)).toInt, z_I (xs (7 * k + 2)).toInt] : List z_V).map (z_v cx.2.2)).reverse ++ .ref (cx.2.2 1) :: [] = (.int (xs (7 * k + 2)) :: .int (xs (7 * k + 1)) :: .ref (cx.2.2 1) :: [] : List Value) := by
    simp only [List.map_cons, List.map_nil, lw_vI, List.reverse_cons, List.reverse_nil, List.nil_append, List.cons_append]
  show W p l e R s m #[Value.ref b] below meth c _ _ CC SS QQ (F0 m 623 ls (.int (xs (7 * k + 2)) :: .int (xs (7 * k + 1)) :: .ref (cx.2.2 1) :: []))
  rw [← eS1]
  refine lw_call F Cf (k := 179) (o := 1) (lk := (4, 119)) (t' := z_m179) rfl hCl rfl (show z_np z_m179.1 = some 2 by decide +kernel) (by decide +kernel) (by decide) (by decide +kernel) (by decide +kernel) va (by decide) hl.1 hR hCC (z_ldc z_lq12_ok 11 (q := (623, (.invokevirtual 67, 3))) rfl) (fun v1 M1 H1 locs1 hn1 hok1 hq1 Cf1 => ?_)
  obtain ⟨hty1, hq1⟩ := hq1
  obtain ⟨x1, rfl⟩ := hty1
  show W p l e R s m #[Value.ref b] below meth c H1 locs1 CC SS QQ (F0 m 626 ls [.int (Int32.ofInt x1)])
  refine lv_aload_n hx hb (z_ldc z_lq12_ok 12 (q := (626, (.aload_n 2, 1))) rfl) rfl (lv_at hl 2 rfl) ?_
  refine lw_arg F Cf1 (j := 1) (by decide) (by decide) hk (lv_at hl 0 rfl) (lv_at hl 3 rfl) (ins := .iadd) (n2 := 0) (z_ldc z_lq12_ok 13 (q := (627, (.aload_n 0, 1))) rfl) (z_ldc z_lq12_ok 14 (q := (628, (.iload_n 3, 1))) rfl) (Or.inl ⟨(z_ldc z_lq12_ok 15 (q := (629, (.iconst 1, 1))) rfl), rfl⟩) (z_ldc z_lq12_ok 16 (q := (630, (.iadd, 1))) rfl) (z_ldc z_lq12_ok 17 (q := (631, (.iaload, 1))) rfl) ?_
  refine lw_arg F Cf1 (j := 2) (by decide) (by decide) hk (lv_at hl 0 rfl) (lv_at hl 3 rfl) (ins := .iadd) (n2 := 0) (z_ldc z_lq12_ok 18 (q := (632, (.aload_n 0, 1))) rfl) (z_ldc z_lq12_ok 19 (q := (633, (.iload_n 3, 1))) rfl) (Or.inl ⟨(z_ldc z_lq12_ok 20 (q := (634, (.iconst 2, 1))) rfl), rfl⟩) (z_ldc z_lq12_ok 21 (q := (635, (.iadd, 1))) rfl) (z_ldc z_lq12_ok 22 (q := (636, (.iaload, 1))) rfl) ?_
  have eS13 : (([z_I (xs (7 * k + 1)).toInt, z_I (xs (7 * k + 2)).toInt] : List z_V).map (z_v cx.2.2)).reverse ++ .ref (cx.2.2 13) :: [.int (Int32.ofInt x1)] = (.int (xs (7 * k + 2)) :: .int (xs (7 * k + 1)) :: .ref (cx.2.2 13) :: [.int (Int32.ofInt x1)] : List Value) := by
    simp only [List.map_cons, List.map_nil, lw_vI, List.reverse_cons, List.reverse_nil, List.nil_append, List.cons_append]
  show W p l e R s m #[Value.ref b] below meth c _ _ CC SS QQ (F0 m 637 ls (.int (xs (7 * k + 2)) :: .int (xs (7 * k + 1)) :: .ref (cx.2.2 13) :: [.int (Int32.ofInt x1)]))
  rw [← eS13]
  refine lw_call F Cf1 (k := 291) (o := 13) (lk := (9, 101)) (t' := z_m291) rfl hq1 rfl (show z_np z_m291.1 = some 2 by decide +kernel) (by decide +kernel) (by decide) (by decide +kernel) (by decide +kernel) va (by simp [Value.category]) hl.1 hR hCC (z_ldc z_lq12_ok 23 (q := (637, (.invokevirtual 70, 3))) rfl) (fun v2 M2 H2 locs2 hn2 hok2 hq2 Cf2 => ?_)
  obtain ⟨rfl, hP2⟩ := hq2
  show W p l e R s m #[Value.ref b] below meth c H2 locs2 CC SS QQ (F0 m 640 ls [.int (Int32.ofInt x1), .int (Int32.ofInt x1)])
  refine lv_icmp_eq (tgt := 1803) hx hb (z_ldc z_lq12_ok 24 (q := (640, (.if_icmp .eq 1163, 3))) rfl) (by decide) (fun _ => ?_) (fun q => absurd rfl q)
  exact kk M2 H2 locs2 hP2 Cf2
def z_lq13 : List (Nat × (Instr × Nat)) := [(645, (.aload_n 1, 1)), (646, (.aload_n 0, 1)), (647, (.iload_n 3, 1)), (648, (.iconst 1, 1)), (649, (.iadd, 1)), (650, (.iaload, 1)), (651, (.aload_n 0, 1)), (652, (.iload_n 3, 1)), (653, (.iconst 2, 1)), (654, (.iadd, 1)), (655, (.iaload, 1)), (656, (.aload_n 0, 1)), (657, (.iload_n 3, 1)), (658, (.iconst 3, 1)), (659, (.iadd, 1)), (660, (.iaload, 1)), (661, (.invokevirtual 71, 3)), (664, (.aload_n 2, 1)), (665, (.aload_n 0, 1)), (666, (.iload_n 3, 1)), (667, (.iconst 1, 1)), (668, (.iadd, 1)), (669, (.iaload, 1)), (670, (.aload_n 0, 1)), (671, (.iload_n 3, 1)), (672, (.iconst 2, 1)), (673, (.iadd, 1)), (674, (.iaload, 1)), (675, (.aload_n 0, 1)), (676, (.iload_n 3, 1)), (677, (.iconst 3, 1)), (678, (.iadd, 1)), (679, (.iaload, 1)), (680, (.invokevirtual 74, 3)), (683, (.if_icmp .eq 1120, 3))]
theorem z_lq13_ok : z_lq13.all (fun q => decide (decode code q.1 = .ok q.2)) = true := by decide +kernel
theorem lw_case13 (F : z_lfix cx p s m meth c b L xs) (Cf : z_lcfg cx s H locs M) {k d : Nat} {P : z_M → Prop} (hk : 7 * k + 7 ≤ L) (hl : lv_has ls 4 [(0, .ref b), (1, .ref (cx.2.2 1)), (2, .ref (cx.2.2 13)), (3, .int (nI (7 * k)))]) (hR : d + 2 ≤ R.frames ∧ 64 * (d + 2) ≤ R.locals) (hCC : CC ≤ R.cells ∧ SS ≤ R.slots)
    (hCl : z_Cl 0 d 180 [z_R 1, z_I (xs (7 * k + 1)).toInt, z_I (xs (7 * k + 2)).toInt, z_I (xs (7 * k + 3)).toInt] M (fun v M1 => (∃ x, v = z_I x) ∧ z_Cl 0 d 292 [z_R 13, z_I (xs (7 * k + 1)).toInt, z_I (xs (7 * k + 2)).toInt, z_I (xs (7 * k + 3)).toInt] M1 (fun v2 M2 => v2 = v ∧ P M2)))
    (kk : ∀ (M2 : z_M) (H1 : Heap) (locs1 : List Loc), P M2 → z_lcfg cx s H1 locs1 M2 → W p l e R s m #[Value.ref b] below meth c H1 locs1 CC SS QQ (F0 m 1803 ls [])) : W p l e R s m #[Value.ref b] below meth c H locs CC SS QQ (F0 m 645 ls []) := by
  obtain ⟨hx, hb, -⟩ := id F.1
  have va : ∀ v ∈ [(z_I (xs (7 * k + 1)).toInt : z_V), (z_I (xs (7 * k + 2)).toInt : z_V), (z_I (xs (7 * k + 3)).toInt : z_V)], z_vok 0 v := by
    intro v hv
    simp only [List.mem_cons, List.not_mem_nil, or_false] at hv
    rcases hv with rfl | rfl | rfl <;> exact z_n_in _
  refine lv_aload_n hx hb (z_ldc z_lq13_ok 0 (q := (645, (.aload_n 1, 1))) rfl) rfl (lv_at hl 1 rfl) ?_
  refine lw_arg F Cf (j := 1) (by decide) (by decide) hk (lv_at hl 0 rfl) (lv_at hl 3 rfl) (ins := .iadd) (n2 := 0) (z_ldc z_lq13_ok 1 (q := (646, (.aload_n 0, 1))) rfl) (z_ldc z_lq13_ok 2 (q := (647, (.iload_n 3, 1))) rfl) (Or.inl ⟨(z_ldc z_lq13_ok 3 (q := (648, (.iconst 1, 1))) rfl), rfl⟩) (z_ldc z_lq13_ok 4 (q := (649, (.iadd, 1))) rfl) (z_ldc z_lq13_ok 5 (q := (650, (.iaload, 1))) rfl) ?_
  refine lw_arg F Cf (j := 2) (by decide) (by decide) hk (lv_at hl 0 rfl) (lv_at hl 3 rfl) (ins := .iadd) (n2 := 0) (z_ldc z_lq13_ok 6 (q := (651, (.aload_n 0, 1))) rfl) (z_ldc z_lq13_ok 7 (q := (652, (.iload_n 3, 1))) rfl) (Or.inl ⟨(z_ldc z_lq13_ok 8 (q := (653, (.iconst 2, 1))) rfl), rfl⟩) (z_ldc z_lq13_ok 9 (q := (654, (.iadd, 1))) rfl) (z_ldc z_lq13_ok 10 (q := (655, (.iaload, 1))) rfl) ?_
  refine lw_arg F Cf (j := 3) (by decide) (by decide) hk (lv_at hl 0 rfl) (lv_at hl 3 rfl) (ins := .iadd) (n2 := 0) (z_ldc z_lq13_ok 11 (q := (656, (.aload_n 0, 1))) rfl) (z_ldc z_lq13_ok 12 (q := (657, (.iload_n 3, 1))) rfl) (Or.inl ⟨(z_ldc z_lq13_ok 13 (q := (658, (.iconst 3, 1))) rfl), rfl⟩) (z_ldc z_lq13_ok 14 (q := (659, (.iadd, 1))) rfl) (z_ldc z_lq13_ok 15 (q := (660, (.iaload, 1))) rfl) ?_
  have eS1 : (([z_I (xs (7 * k + 1)).toInt, z_I (xs (7 * k + 2)).toInt, z_I (xs (7 * k + 3)).toInt] : List z_V).map (z_v cx.2.2)).reverse ++ .ref (cx.2.2 1) :: [] = (.int (xs (7 * k + 3)) :: .int (xs (7 * k + 2)) :: .int (xs (7 * k + 1)) :: .ref (cx.2.2 1) :: [] : List Value) := by
    simp only [List.map_cons, List.map_nil, lw_vI, List.reverse_cons, List.reverse_nil, List.nil_append, List.cons_append]
  show W p l e R s m #[Value.ref b] below meth c _ _ CC SS QQ (F0 m 661 ls (.int (xs (7 * k + 3)) :: .int (xs (7 * k + 2)) :: .int (xs (7 * k + 1)) :: .ref (cx.2.2 1) :: []))
  rw [← eS1]
  refine lw_call F Cf (k := 180) (o := 1) (lk := (4, 139)) (t' := z_m180) rfl hCl rfl (show z_np z_m180.1 = some 3 by decide +kernel) (by decide +kernel) (by decide) (by decide +kernel) (by decide +kernel) va (by decide) hl.1 hR hCC (z_ldc z_lq13_ok 16 (q := (661, (.invokevirtual 71, 3))) rfl) (fun v1 M1 H1 locs1 hn1 hok1 hq1 Cf1 => ?_)
  obtain ⟨hty1, hq1⟩ := hq1
  obtain ⟨x1, rfl⟩ := hty1
  show W p l e R s m #[Value.ref b] below meth c H1 locs1 CC SS QQ (F0 m 664 ls [.int (Int32.ofInt x1)])
  refine lv_aload_n hx hb (z_ldc z_lq13_ok 17 (q := (664, (.aload_n 2, 1))) rfl) rfl (lv_at hl 2 rfl) ?_
  refine lw_arg F Cf1 (j := 1) (by decide) (by decide) hk (lv_at hl 0 rfl) (lv_at hl 3 rfl) (ins := .iadd) (n2 := 0) (z_ldc z_lq13_ok 18 (q := (665, (.aload_n 0, 1))) rfl) (z_ldc z_lq13_ok 19 (q := (666, (.iload_n 3, 1))) rfl) (Or.inl ⟨(z_ldc z_lq13_ok 20 (q := (667, (.iconst 1, 1))) rfl), rfl⟩) (z_ldc z_lq13_ok 21 (q := (668, (.iadd, 1))) rfl) (z_ldc z_lq13_ok 22 (q := (669, (.iaload, 1))) rfl) ?_
  refine lw_arg F Cf1 (j := 2) (by decide) (by decide) hk (lv_at hl 0 rfl) (lv_at hl 3 rfl) (ins := .iadd) (n2 := 0) (z_ldc z_lq13_ok 23 (q := (670, (.aload_n 0, 1))) rfl) (z_ldc z_lq13_ok 24 (q := (671, (.iload_n 3, 1))) rfl) (Or.inl ⟨(z_ldc z_lq13_ok 25 (q := (672, (.iconst 2, 1))) rfl), rfl⟩) (z_ldc z_lq13_ok 26 (q := (673, (.iadd, 1))) rfl) (z_ldc z_lq13_ok 27 (q := (674, (.iaload, 1))) rfl) ?_
  refine lw_arg F Cf1 (j := 3) (by decide) (by decide) hk (lv_at hl 0 rfl) (lv_at hl 3 rfl) (ins := .iadd) (n2 := 0) (z_ldc z_lq13_ok 28 (q := (675, (.aload_n 0, 1))) rfl) (z_ldc z_lq13_ok 29 (q := (676, (.iload_n 3, 1))) rfl) (Or.inl ⟨(z_ldc z_lq13_ok 30 (q := (677, (.iconst 3, 1))) rfl), rfl⟩) (z_ldc z_lq13_ok 31 (q := (678, (.iadd, 1))) rfl) (z_ldc z_lq13_ok 32 (q := (679, (.iaload, 1))) rfl) ?_
  have eS13 : (([z_I (xs (7 * k + 1)).toInt, z_I (xs (7 * k + 2)).toInt, z_I (xs (7 * k + 3)).toInt] : List z_V).map (z_v cx.2.2)).reverse ++ .ref (cx.2.2 13) :: [.int (Int32.ofInt x1)] = (.int (xs (7 * k + 3)) :: .int (xs (7 * k + 2)) :: .int (xs (7 * k + 1)) :: .ref (cx.2.2 13) :: [.int (Int32.ofInt x1)] : List Value) := by
    simp only [List.map_cons, List.map_nil, lw_vI, List.reverse_cons, List.reverse_nil, List.nil_append, List.cons_append]
  show W p l e R s m #[Value.ref b] below meth c _ _ CC SS QQ (F0 m 680 ls (.int (xs (7 * k + 3)) :: .int (xs (7 * k + 2)) :: .int (xs (7 * k + 1)) :: .ref (cx.2.2 13) :: [.int (Int32.ofInt x1)]))
  rw [← eS13]
  refine lw_call F Cf1 (k := 292) (o := 13) (lk := (9, 112)) (t' := z_m292) rfl hq1 rfl (show z_np z_m292.1 = some 3 by decide +kernel) (by decide +kernel) (by decide) (by decide +kernel) (by decide +kernel) va (by simp [Value.category]) hl.1 hR hCC (z_ldc z_lq13_ok 33 (q := (680, (.invokevirtual 74, 3))) rfl) (fun v2 M2 H2 locs2 hn2 hok2 hq2 Cf2 => ?_)
  obtain ⟨rfl, hP2⟩ := hq2
  show W p l e R s m #[Value.ref b] below meth c H2 locs2 CC SS QQ (F0 m 683 ls [.int (Int32.ofInt x1), .int (Int32.ofInt x1)])
  refine lv_icmp_eq (tgt := 1803) hx hb (z_ldc z_lq13_ok 34 (q := (683, (.if_icmp .eq 1120, 3))) rfl) (by decide) (fun _ => ?_) (fun q => absurd rfl q)
  exact kk M2 H2 locs2 hP2 Cf2
def z_lq14 : List (Nat × (Instr × Nat)) := [(688, (.aload_n 1, 1)), (689, (.aload_n 0, 1)), (690, (.iload_n 3, 1)), (691, (.iconst 1, 1)), (692, (.iadd, 1)), (693, (.iaload, 1)), (694, (.invokevirtual 75, 3)), (697, (.aload_n 2, 1)), (698, (.aload_n 0, 1)), (699, (.iload_n 3, 1)), (700, (.iconst 1, 1)), (701, (.iadd, 1)), (702, (.iaload, 1)), (703, (.invokevirtual 78, 3)), (706, (.if_icmp .eq 1097, 3))]
theorem z_lq14_ok : z_lq14.all (fun q => decide (decode code q.1 = .ok q.2)) = true := by decide +kernel
theorem lw_case14 (F : z_lfix cx p s m meth c b L xs) (Cf : z_lcfg cx s H locs M) {k d : Nat} {P : z_M → Prop} (hk : 7 * k + 7 ≤ L) (hl : lv_has ls 4 [(0, .ref b), (1, .ref (cx.2.2 1)), (2, .ref (cx.2.2 13)), (3, .int (nI (7 * k)))]) (hR : d + 2 ≤ R.frames ∧ 64 * (d + 2) ≤ R.locals) (hCC : CC ≤ R.cells ∧ SS ≤ R.slots)
    (hCl : z_Cl 0 d 181 [z_R 1, z_I (xs (7 * k + 1)).toInt] M (fun v M1 => (∃ x, v = z_I x) ∧ z_Cl 0 d 309 [z_R 13, z_I (xs (7 * k + 1)).toInt] M1 (fun v2 M2 => v2 = v ∧ P M2)))
    (kk : ∀ (M2 : z_M) (H1 : Heap) (locs1 : List Loc), P M2 → z_lcfg cx s H1 locs1 M2 → W p l e R s m #[Value.ref b] below meth c H1 locs1 CC SS QQ (F0 m 1803 ls [])) : W p l e R s m #[Value.ref b] below meth c H locs CC SS QQ (F0 m 688 ls []) := by
  obtain ⟨hx, hb, -⟩ := id F.1
  have va : ∀ v ∈ [(z_I (xs (7 * k + 1)).toInt : z_V)], z_vok 0 v := by
    intro v hv
    simp only [List.mem_cons, List.not_mem_nil, or_false] at hv
    rcases hv with rfl <;> exact z_n_in _
  refine lv_aload_n hx hb (z_ldc z_lq14_ok 0 (q := (688, (.aload_n 1, 1))) rfl) rfl (lv_at hl 1 rfl) ?_
  refine lw_arg F Cf (j := 1) (by decide) (by decide) hk (lv_at hl 0 rfl) (lv_at hl 3 rfl) (ins := .iadd) (n2 := 0) (z_ldc z_lq14_ok 1 (q := (689, (.aload_n 0, 1))) rfl) (z_ldc z_lq14_ok 2 (q := (690, (.iload_n 3, 1))) rfl) (Or.inl ⟨(z_ldc z_lq14_ok 3 (q := (691, (.iconst 1, 1))) rfl), rfl⟩) (z_ldc z_lq14_ok 4 (q := (692, (.iadd, 1))) rfl) (z_ldc z_lq14_ok 5 (q := (693, (.iaload, 1))) rfl) ?_
  have eS1 : (([z_I (xs (7 * k + 1)).toInt] : List z_V).map (z_v cx.2.2)).reverse ++ .ref (cx.2.2 1) :: [] = (.int (xs (7 * k + 1)) :: .ref (cx.2.2 1) :: [] : List Value) := by
    simp only [List.map_cons, List.map_nil, lw_vI, List.reverse_cons, List.reverse_nil, List.nil_append, List.cons_append]
  show W p l e R s m #[Value.ref b] below meth c _ _ CC SS QQ (F0 m 694 ls (.int (xs (7 * k + 1)) :: .ref (cx.2.2 1) :: []))
  rw [← eS1]
  refine lw_call F Cf (k := 181) (o := 1) (lk := (4, 147)) (t' := z_m181) rfl hCl rfl (show z_np z_m181.1 = some 1 by decide +kernel) (by decide +kernel) (by decide) (by decide +kernel) (by decide +kernel) va (by decide) hl.1 hR hCC (z_ldc z_lq14_ok 6 (q := (694, (.invokevirtual 75, 3))) rfl) (fun v1 M1 H1 locs1 hn1 hok1 hq1 Cf1 => ?_)
  obtain ⟨hty1, hq1⟩ := hq1
  obtain ⟨x1, rfl⟩ := hty1
  show W p l e R s m #[Value.ref b] below meth c H1 locs1 CC SS QQ (F0 m 697 ls [.int (Int32.ofInt x1)])
  refine lv_aload_n hx hb (z_ldc z_lq14_ok 7 (q := (697, (.aload_n 2, 1))) rfl) rfl (lv_at hl 2 rfl) ?_
  refine lw_arg F Cf1 (j := 1) (by decide) (by decide) hk (lv_at hl 0 rfl) (lv_at hl 3 rfl) (ins := .iadd) (n2 := 0) (z_ldc z_lq14_ok 8 (q := (698, (.aload_n 0, 1))) rfl) (z_ldc z_lq14_ok 9 (q := (699, (.iload_n 3, 1))) rfl) (Or.inl ⟨(z_ldc z_lq14_ok 10 (q := (700, (.iconst 1, 1))) rfl), rfl⟩) (z_ldc z_lq14_ok 11 (q := (701, (.iadd, 1))) rfl) (z_ldc z_lq14_ok 12 (q := (702, (.iaload, 1))) rfl) ?_
  have eS13 : (([z_I (xs (7 * k + 1)).toInt] : List z_V).map (z_v cx.2.2)).reverse ++ .ref (cx.2.2 13) :: [.int (Int32.ofInt x1)] = (.int (xs (7 * k + 1)) :: .ref (cx.2.2 13) :: [.int (Int32.ofInt x1)] : List Value) := by
    simp only [List.map_cons, List.map_nil, lw_vI, List.reverse_cons, List.reverse_nil, List.nil_append, List.cons_append]
  show W p l e R s m #[Value.ref b] below meth c _ _ CC SS QQ (F0 m 703 ls (.int (xs (7 * k + 1)) :: .ref (cx.2.2 13) :: [.int (Int32.ofInt x1)]))
  rw [← eS13]
  refine lw_call F Cf1 (k := 309) (o := 13) (lk := (9, 178)) (t' := z_m309) rfl hq1 rfl (show z_np z_m309.1 = some 1 by decide +kernel) (by decide +kernel) (by decide) (by decide +kernel) (by decide +kernel) va (by simp [Value.category]) hl.1 hR hCC (z_ldc z_lq14_ok 13 (q := (703, (.invokevirtual 78, 3))) rfl) (fun v2 M2 H2 locs2 hn2 hok2 hq2 Cf2 => ?_)
  obtain ⟨rfl, hP2⟩ := hq2
  show W p l e R s m #[Value.ref b] below meth c H2 locs2 CC SS QQ (F0 m 706 ls [.int (Int32.ofInt x1), .int (Int32.ofInt x1)])
  refine lv_icmp_eq (tgt := 1803) hx hb (z_ldc z_lq14_ok 14 (q := (706, (.if_icmp .eq 1097, 3))) rfl) (by decide) (fun _ => ?_) (fun q => absurd rfl q)
  exact kk M2 H2 locs2 hP2 Cf2
def z_lq15 : List (Nat × (Instr × Nat)) := [(711, (.aload_n 1, 1)), (712, (.aload_n 0, 1)), (713, (.iload_n 3, 1)), (714, (.iconst 1, 1)), (715, (.iadd, 1)), (716, (.iaload, 1)), (717, (.invokevirtual 79, 3)), (720, (.aload_n 2, 1)), (721, (.aload_n 0, 1)), (722, (.iload_n 3, 1)), (723, (.iconst 1, 1)), (724, (.iadd, 1)), (725, (.iaload, 1)), (726, (.invokevirtual 82, 3)), (729, (.if_icmp .eq 1074, 3))]
theorem z_lq15_ok : z_lq15.all (fun q => decide (decode code q.1 = .ok q.2)) = true := by decide +kernel
theorem lw_case15 (F : z_lfix cx p s m meth c b L xs) (Cf : z_lcfg cx s H locs M) {k d : Nat} {P : z_M → Prop} (hk : 7 * k + 7 ≤ L) (hl : lv_has ls 4 [(0, .ref b), (1, .ref (cx.2.2 1)), (2, .ref (cx.2.2 13)), (3, .int (nI (7 * k)))]) (hR : d + 2 ≤ R.frames ∧ 64 * (d + 2) ≤ R.locals) (hCC : CC ≤ R.cells ∧ SS ≤ R.slots)
    (hCl : z_Cl 0 d 182 [z_R 1, z_I (xs (7 * k + 1)).toInt] M (fun v M1 => (∃ x, v = z_I x) ∧ z_Cl 0 d 310 [z_R 13, z_I (xs (7 * k + 1)).toInt] M1 (fun v2 M2 => v2 = v ∧ P M2)))
    (kk : ∀ (M2 : z_M) (H1 : Heap) (locs1 : List Loc), P M2 → z_lcfg cx s H1 locs1 M2 → W p l e R s m #[Value.ref b] below meth c H1 locs1 CC SS QQ (F0 m 1803 ls [])) : W p l e R s m #[Value.ref b] below meth c H locs CC SS QQ (F0 m 711 ls []) := by
  obtain ⟨hx, hb, -⟩ := id F.1
  have va : ∀ v ∈ [(z_I (xs (7 * k + 1)).toInt : z_V)], z_vok 0 v := by
    intro v hv
    simp only [List.mem_cons, List.not_mem_nil, or_false] at hv
    rcases hv with rfl <;> exact z_n_in _
  refine lv_aload_n hx hb (z_ldc z_lq15_ok 0 (q := (711, (.aload_n 1, 1))) rfl) rfl (lv_at hl 1 rfl) ?_
  refine lw_arg F Cf (j := 1) (by decide) (by decide) hk (lv_at hl 0 rfl) (lv_at hl 3 rfl) (ins := .iadd) (n2 := 0) (z_ldc z_lq15_ok 1 (q := (712, (.aload_n 0, 1))) rfl) (z_ldc z_lq15_ok 2 (q := (713, (.iload_n 3, 1))) rfl) (Or.inl ⟨(z_ldc z_lq15_ok 3 (q := (714, (.iconst 1, 1))) rfl), rfl⟩) (z_ldc z_lq15_ok 4 (q := (715, (.iadd, 1))) rfl) (z_ldc z_lq15_ok 5 (q := (716, (.iaload, 1))) rfl) ?_
  have eS1 : (([z_I (xs (7 * k + 1)).toInt] : List z_V).map (z_v cx.2.2)).reverse ++ .ref (cx.2.2 1) :: [] = (.int (xs (7 * k + 1)) :: .ref (cx.2.2 1) :: [] : List Value) := by
    simp only [List.map_cons, List.map_nil, lw_vI, List.reverse_cons, List.reverse_nil, List.nil_append, List.cons_append]
  show W p l e R s m #[Value.ref b] below meth c _ _ CC SS QQ (F0 m 717 ls (.int (xs (7 * k + 1)) :: .ref (cx.2.2 1) :: []))
  rw [← eS1]
  refine lw_call F Cf (k := 182) (o := 1) (lk := (4, 177)) (t' := z_m182) rfl hCl rfl (show z_np z_m182.1 = some 1 by decide +kernel) (by decide +kernel) (by decide) (by decide +kernel) (by decide +kernel) va (by decide) hl.1 hR hCC (z_ldc z_lq15_ok 6 (q := (717, (.invokevirtual 79, 3))) rfl) (fun v1 M1 H1 locs1 hn1 hok1 hq1 Cf1 => ?_)
  obtain ⟨hty1, hq1⟩ := hq1
  obtain ⟨x1, rfl⟩ := hty1
  show W p l e R s m #[Value.ref b] below meth c H1 locs1 CC SS QQ (F0 m 720 ls [.int (Int32.ofInt x1)])
  refine lv_aload_n hx hb (z_ldc z_lq15_ok 7 (q := (720, (.aload_n 2, 1))) rfl) rfl (lv_at hl 2 rfl) ?_
  refine lw_arg F Cf1 (j := 1) (by decide) (by decide) hk (lv_at hl 0 rfl) (lv_at hl 3 rfl) (ins := .iadd) (n2 := 0) (z_ldc z_lq15_ok 8 (q := (721, (.aload_n 0, 1))) rfl) (z_ldc z_lq15_ok 9 (q := (722, (.iload_n 3, 1))) rfl) (Or.inl ⟨(z_ldc z_lq15_ok 10 (q := (723, (.iconst 1, 1))) rfl), rfl⟩) (z_ldc z_lq15_ok 11 (q := (724, (.iadd, 1))) rfl) (z_ldc z_lq15_ok 12 (q := (725, (.iaload, 1))) rfl) ?_
  have eS13 : (([z_I (xs (7 * k + 1)).toInt] : List z_V).map (z_v cx.2.2)).reverse ++ .ref (cx.2.2 13) :: [.int (Int32.ofInt x1)] = (.int (xs (7 * k + 1)) :: .ref (cx.2.2 13) :: [.int (Int32.ofInt x1)] : List Value) := by
    simp only [List.map_cons, List.map_nil, lw_vI, List.reverse_cons, List.reverse_nil, List.nil_append, List.cons_append]
  show W p l e R s m #[Value.ref b] below meth c _ _ CC SS QQ (F0 m 726 ls (.int (xs (7 * k + 1)) :: .ref (cx.2.2 13) :: [.int (Int32.ofInt x1)]))
  rw [← eS13]
  refine lw_call F Cf1 (k := 310) (o := 13) (lk := (9, 202)) (t' := z_m310) rfl hq1 rfl (show z_np z_m310.1 = some 1 by decide +kernel) (by decide +kernel) (by decide) (by decide +kernel) (by decide +kernel) va (by simp [Value.category]) hl.1 hR hCC (z_ldc z_lq15_ok 13 (q := (726, (.invokevirtual 82, 3))) rfl) (fun v2 M2 H2 locs2 hn2 hok2 hq2 Cf2 => ?_)
  obtain ⟨rfl, hP2⟩ := hq2
  show W p l e R s m #[Value.ref b] below meth c H2 locs2 CC SS QQ (F0 m 729 ls [.int (Int32.ofInt x1), .int (Int32.ofInt x1)])
  refine lv_icmp_eq (tgt := 1803) hx hb (z_ldc z_lq15_ok 14 (q := (729, (.if_icmp .eq 1074, 3))) rfl) (by decide) (fun _ => ?_) (fun q => absurd rfl q)
  exact kk M2 H2 locs2 hP2 Cf2
def z_lq16 : List (Nat × (Instr × Nat)) := [(734, (.aload_n 1, 1)), (735, (.aload_n 0, 1)), (736, (.iload_n 3, 1)), (737, (.iconst 1, 1)), (738, (.iadd, 1)), (739, (.iaload, 1)), (740, (.invokevirtual 83, 3)), (743, (.aload_n 2, 1)), (744, (.aload_n 0, 1)), (745, (.iload_n 3, 1)), (746, (.iconst 1, 1)), (747, (.iadd, 1)), (748, (.iaload, 1)), (749, (.invokevirtual 86, 3)), (752, (.if_icmp .eq 1051, 3))]
theorem z_lq16_ok : z_lq16.all (fun q => decide (decode code q.1 = .ok q.2)) = true := by decide +kernel
theorem lw_case16 (F : z_lfix cx p s m meth c b L xs) (Cf : z_lcfg cx s H locs M) {k d : Nat} {P : z_M → Prop} (hk : 7 * k + 7 ≤ L) (hl : lv_has ls 4 [(0, .ref b), (1, .ref (cx.2.2 1)), (2, .ref (cx.2.2 13)), (3, .int (nI (7 * k)))]) (hR : d + 2 ≤ R.frames ∧ 64 * (d + 2) ≤ R.locals) (hCC : CC ≤ R.cells ∧ SS ≤ R.slots)
    (hCl : z_Cl 0 d 183 [z_R 1, z_I (xs (7 * k + 1)).toInt] M (fun v M1 => (∃ x, v = z_I x) ∧ z_Cl 0 d 318 [z_R 13, z_I (xs (7 * k + 1)).toInt] M1 (fun v2 M2 => v2 = v ∧ P M2)))
    (kk : ∀ (M2 : z_M) (H1 : Heap) (locs1 : List Loc), P M2 → z_lcfg cx s H1 locs1 M2 → W p l e R s m #[Value.ref b] below meth c H1 locs1 CC SS QQ (F0 m 1803 ls [])) : W p l e R s m #[Value.ref b] below meth c H locs CC SS QQ (F0 m 734 ls []) := by
  obtain ⟨hx, hb, -⟩ := id F.1
  have va : ∀ v ∈ [(z_I (xs (7 * k + 1)).toInt : z_V)], z_vok 0 v := by
    intro v hv
    simp only [List.mem_cons, List.not_mem_nil, or_false] at hv
    rcases hv with rfl <;> exact z_n_in _
  refine lv_aload_n hx hb (z_ldc z_lq16_ok 0 (q := (734, (.aload_n 1, 1))) rfl) rfl (lv_at hl 1 rfl) ?_
  refine lw_arg F Cf (j := 1) (by decide) (by decide) hk (lv_at hl 0 rfl) (lv_at hl 3 rfl) (ins := .iadd) (n2 := 0) (z_ldc z_lq16_ok 1 (q := (735, (.aload_n 0, 1))) rfl) (z_ldc z_lq16_ok 2 (q := (736, (.iload_n 3, 1))) rfl) (Or.inl ⟨(z_ldc z_lq16_ok 3 (q := (737, (.iconst 1, 1))) rfl), rfl⟩) (z_ldc z_lq16_ok 4 (q := (738, (.iadd, 1))) rfl) (z_ldc z_lq16_ok 5 (q := (739, (.iaload, 1))) rfl) ?_
  have eS1 : (([z_I (xs (7 * k + 1)).toInt] : List z_V).map (z_v cx.2.2)).reverse ++ .ref (cx.2.2 1) :: [] = (.int (xs (7 * k + 1)) :: .ref (cx.2.2 1) :: [] : List Value) := by
    simp only [List.map_cons, List.map_nil, lw_vI, List.reverse_cons, List.reverse_nil, List.nil_append, List.cons_append]
  show W p l e R s m #[Value.ref b] below meth c _ _ CC SS QQ (F0 m 740 ls (.int (xs (7 * k + 1)) :: .ref (cx.2.2 1) :: []))
  rw [← eS1]
  refine lw_call F Cf (k := 183) (o := 1) (lk := (4, 190)) (t' := z_m183) rfl hCl rfl (show z_np z_m183.1 = some 1 by decide +kernel) (by decide +kernel) (by decide) (by decide +kernel) (by decide +kernel) va (by decide) hl.1 hR hCC (z_ldc z_lq16_ok 6 (q := (740, (.invokevirtual 83, 3))) rfl) (fun v1 M1 H1 locs1 hn1 hok1 hq1 Cf1 => ?_)
  obtain ⟨hty1, hq1⟩ := hq1
  obtain ⟨x1, rfl⟩ := hty1
  show W p l e R s m #[Value.ref b] below meth c H1 locs1 CC SS QQ (F0 m 743 ls [.int (Int32.ofInt x1)])
  refine lv_aload_n hx hb (z_ldc z_lq16_ok 7 (q := (743, (.aload_n 2, 1))) rfl) rfl (lv_at hl 2 rfl) ?_
  refine lw_arg F Cf1 (j := 1) (by decide) (by decide) hk (lv_at hl 0 rfl) (lv_at hl 3 rfl) (ins := .iadd) (n2 := 0) (z_ldc z_lq16_ok 8 (q := (744, (.aload_n 0, 1))) rfl) (z_ldc z_lq16_ok 9 (q := (745, (.iload_n 3, 1))) rfl) (Or.inl ⟨(z_ldc z_lq16_ok 10 (q := (746, (.iconst 1, 1))) rfl), rfl⟩) (z_ldc z_lq16_ok 11 (q := (747, (.iadd, 1))) rfl) (z_ldc z_lq16_ok 12 (q := (748, (.iaload, 1))) rfl) ?_
  have eS13 : (([z_I (xs (7 * k + 1)).toInt] : List z_V).map (z_v cx.2.2)).reverse ++ .ref (cx.2.2 13) :: [.int (Int32.ofInt x1)] = (.int (xs (7 * k + 1)) :: .ref (cx.2.2 13) :: [.int (Int32.ofInt x1)] : List Value) := by
    simp only [List.map_cons, List.map_nil, lw_vI, List.reverse_cons, List.reverse_nil, List.nil_append, List.cons_append]
  show W p l e R s m #[Value.ref b] below meth c _ _ CC SS QQ (F0 m 749 ls (.int (xs (7 * k + 1)) :: .ref (cx.2.2 13) :: [.int (Int32.ofInt x1)]))
  rw [← eS13]
  refine lw_call F Cf1 (k := 318) (o := 13) (lk := (9, 206)) (t' := z_m318) rfl hq1 rfl (show z_np z_m318.1 = some 1 by decide +kernel) (by decide +kernel) (by decide) (by decide +kernel) (by decide +kernel) va (by simp [Value.category]) hl.1 hR hCC (z_ldc z_lq16_ok 13 (q := (749, (.invokevirtual 86, 3))) rfl) (fun v2 M2 H2 locs2 hn2 hok2 hq2 Cf2 => ?_)
  obtain ⟨rfl, hP2⟩ := hq2
  show W p l e R s m #[Value.ref b] below meth c H2 locs2 CC SS QQ (F0 m 752 ls [.int (Int32.ofInt x1), .int (Int32.ofInt x1)])
  refine lv_icmp_eq (tgt := 1803) hx hb (z_ldc z_lq16_ok 14 (q := (752, (.if_icmp .eq 1051, 3))) rfl) (by decide) (fun _ => ?_) (fun q => absurd rfl q)
  exact kk M2 H2 locs2 hP2 Cf2
def z_lq17 : List (Nat × (Instr × Nat)) := [(757, (.aload_n 1, 1)), (758, (.invokevirtual 87, 3)), (761, (.aload_n 2, 1)), (762, (.invokevirtual 91, 3)), (765, (.lcmp, 1)), (766, (.ifCond .eq 1037, 3))]
theorem z_lq17_ok : z_lq17.all (fun q => decide (decode code q.1 = .ok q.2)) = true := by decide +kernel
theorem lw_case17 (F : z_lfix cx p s m meth c b L xs) (Cf : z_lcfg cx s H locs M) {k d : Nat} {P : z_M → Prop} (hk : 7 * k + 7 ≤ L) (hl : lv_has ls 4 [(0, .ref b), (1, .ref (cx.2.2 1)), (2, .ref (cx.2.2 13)), (3, .int (nI (7 * k)))]) (hR : d + 2 ≤ R.frames ∧ 64 * (d + 2) ≤ R.locals) (hCC : CC ≤ R.cells ∧ SS ≤ R.slots)
    (hCl : z_Cl 0 d 184 [z_R 1] M (fun v M1 => (∃ x, v = z_J x) ∧ z_Cl 0 d 319 [z_R 13] M1 (fun v2 M2 => v2 = v ∧ P M2)))
    (kk : ∀ (M2 : z_M) (H1 : Heap) (locs1 : List Loc), P M2 → z_lcfg cx s H1 locs1 M2 → W p l e R s m #[Value.ref b] below meth c H1 locs1 CC SS QQ (F0 m 1803 ls [])) : W p l e R s m #[Value.ref b] below meth c H locs CC SS QQ (F0 m 757 ls []) := by
  obtain ⟨hx, hb, -⟩ := id F.1
  have va : ∀ v ∈ ([] : List z_V), z_vok 0 v := by
    intro v hv
    cases hv
  refine lv_aload_n hx hb (z_ldc z_lq17_ok 0 (q := (757, (.aload_n 1, 1))) rfl) rfl (lv_at hl 1 rfl) ?_
  have eS1 : (([] : List z_V).map (z_v cx.2.2)).reverse ++ .ref (cx.2.2 1) :: [] = (.ref (cx.2.2 1) :: [] : List Value) := by
    simp only [List.map_cons, List.map_nil, lw_vI, List.reverse_cons, List.reverse_nil, List.nil_append, List.cons_append]
  show W p l e R s m #[Value.ref b] below meth c _ _ CC SS QQ (F0 m 758 ls (.ref (cx.2.2 1) :: []))
  rw [← eS1]
  refine lw_call F Cf (k := 184) (o := 1) (lk := (5, 45)) (t' := z_m184) rfl hCl rfl (show z_np z_m184.1 = some 0 by decide +kernel) (by decide +kernel) (by decide) (by decide +kernel) (by decide +kernel) va (by decide) hl.1 hR hCC (z_ldc z_lq17_ok 1 (q := (758, (.invokevirtual 87, 3))) rfl) (fun v1 M1 H1 locs1 hn1 hok1 hq1 Cf1 => ?_)
  obtain ⟨hty1, hq1⟩ := hq1
  obtain ⟨x1, rfl⟩ := hty1
  show W p l e R s m #[Value.ref b] below meth c H1 locs1 CC SS QQ (F0 m 761 ls [.long (Int64.ofInt x1)])
  refine lv_aload_n hx hb (z_ldc z_lq17_ok 2 (q := (761, (.aload_n 2, 1))) rfl) rfl (lv_at hl 2 rfl) ?_
  have eS13 : (([] : List z_V).map (z_v cx.2.2)).reverse ++ .ref (cx.2.2 13) :: [.long (Int64.ofInt x1)] = (.ref (cx.2.2 13) :: [.long (Int64.ofInt x1)] : List Value) := by
    simp only [List.map_cons, List.map_nil, lw_vI, List.reverse_cons, List.reverse_nil, List.nil_append, List.cons_append]
  show W p l e R s m #[Value.ref b] below meth c _ _ CC SS QQ (F0 m 762 ls (.ref (cx.2.2 13) :: [.long (Int64.ofInt x1)]))
  rw [← eS13]
  refine lw_call F Cf1 (k := 319) (o := 13) (lk := (9, 239)) (t' := z_m319) rfl hq1 rfl (show z_np z_m319.1 = some 0 by decide +kernel) (by decide +kernel) (by decide) (by decide +kernel) (by decide +kernel) va (by simp [Value.category]) hl.1 hR hCC (z_ldc z_lq17_ok 3 (q := (762, (.invokevirtual 91, 3))) rfl) (fun v2 M2 H2 locs2 hn2 hok2 hq2 Cf2 => ?_)
  obtain ⟨rfl, hP2⟩ := hq2
  show W p l e R s m #[Value.ref b] below meth c H2 locs2 CC SS QQ (F0 m 765 ls [.long (Int64.ofInt x1), .long (Int64.ofInt x1)])
  refine W.lcmp hx hb (z_ldc z_lq17_ok 4 (q := (765, (.lcmp, 1))) rfl) ?_
  have e0 : lg_cmp (Int64.ofInt x1) (Int64.ofInt x1) = 0 := by unfold lg_cmp; rw [if_neg (Int64.lt_irrefl), if_pos rfl]
  rw [e0]
  refine lv_if_eq (tgt := 1803) hx hb (z_ldc z_lq17_ok 5 (q := (766, (.ifCond .eq 1037, 3))) rfl) (by decide) (fun _ => ?_) (fun q => absurd rfl q)
  exact kk M2 H2 locs2 hP2 Cf2
def z_lq18 : List (Nat × (Instr × Nat)) := [(771, (.aload_n 1, 1)), (772, (.aload_n 0, 1)), (773, (.iload_n 3, 1)), (774, (.iconst 1, 1)), (775, (.iadd, 1)), (776, (.iaload, 1)), (777, (.invokevirtual 92, 3)), (780, (.aload_n 2, 1)), (781, (.aload_n 0, 1)), (782, (.iload_n 3, 1)), (783, (.iconst 1, 1)), (784, (.iadd, 1)), (785, (.iaload, 1)), (786, (.invokevirtual 95, 3)), (789, (.if_icmp .eq 1014, 3))]
theorem z_lq18_ok : z_lq18.all (fun q => decide (decode code q.1 = .ok q.2)) = true := by decide +kernel
theorem lw_case18 (F : z_lfix cx p s m meth c b L xs) (Cf : z_lcfg cx s H locs M) {k d : Nat} {P : z_M → Prop} (hk : 7 * k + 7 ≤ L) (hl : lv_has ls 4 [(0, .ref b), (1, .ref (cx.2.2 1)), (2, .ref (cx.2.2 13)), (3, .int (nI (7 * k)))]) (hR : d + 2 ≤ R.frames ∧ 64 * (d + 2) ≤ R.locals) (hCC : CC ≤ R.cells ∧ SS ≤ R.slots)
    (hCl : z_Cl 0 d 185 [z_R 1, z_I (xs (7 * k + 1)).toInt] M (fun v M1 => (∃ x, v = z_I x) ∧ z_Cl 0 d 324 [z_R 13, z_I (xs (7 * k + 1)).toInt] M1 (fun v2 M2 => v2 = v ∧ P M2)))
    (kk : ∀ (M2 : z_M) (H1 : Heap) (locs1 : List Loc), P M2 → z_lcfg cx s H1 locs1 M2 → W p l e R s m #[Value.ref b] below meth c H1 locs1 CC SS QQ (F0 m 1803 ls [])) : W p l e R s m #[Value.ref b] below meth c H locs CC SS QQ (F0 m 771 ls []) := by
  obtain ⟨hx, hb, -⟩ := id F.1
  have va : ∀ v ∈ [(z_I (xs (7 * k + 1)).toInt : z_V)], z_vok 0 v := by
    intro v hv
    simp only [List.mem_cons, List.not_mem_nil, or_false] at hv
    rcases hv with rfl <;> exact z_n_in _
  refine lv_aload_n hx hb (z_ldc z_lq18_ok 0 (q := (771, (.aload_n 1, 1))) rfl) rfl (lv_at hl 1 rfl) ?_
  refine lw_arg F Cf (j := 1) (by decide) (by decide) hk (lv_at hl 0 rfl) (lv_at hl 3 rfl) (ins := .iadd) (n2 := 0) (z_ldc z_lq18_ok 1 (q := (772, (.aload_n 0, 1))) rfl) (z_ldc z_lq18_ok 2 (q := (773, (.iload_n 3, 1))) rfl) (Or.inl ⟨(z_ldc z_lq18_ok 3 (q := (774, (.iconst 1, 1))) rfl), rfl⟩) (z_ldc z_lq18_ok 4 (q := (775, (.iadd, 1))) rfl) (z_ldc z_lq18_ok 5 (q := (776, (.iaload, 1))) rfl) ?_
  have eS1 : (([z_I (xs (7 * k + 1)).toInt] : List z_V).map (z_v cx.2.2)).reverse ++ .ref (cx.2.2 1) :: [] = (.int (xs (7 * k + 1)) :: .ref (cx.2.2 1) :: [] : List Value) := by
    simp only [List.map_cons, List.map_nil, lw_vI, List.reverse_cons, List.reverse_nil, List.nil_append, List.cons_append]
  show W p l e R s m #[Value.ref b] below meth c _ _ CC SS QQ (F0 m 777 ls (.int (xs (7 * k + 1)) :: .ref (cx.2.2 1) :: []))
  rw [← eS1]
  refine lw_call F Cf (k := 185) (o := 1) (lk := (5, 55)) (t' := z_m185) rfl hCl rfl (show z_np z_m185.1 = some 1 by decide +kernel) (by decide +kernel) (by decide) (by decide +kernel) (by decide +kernel) va (by decide) hl.1 hR hCC (z_ldc z_lq18_ok 6 (q := (777, (.invokevirtual 92, 3))) rfl) (fun v1 M1 H1 locs1 hn1 hok1 hq1 Cf1 => ?_)
  obtain ⟨hty1, hq1⟩ := hq1
  obtain ⟨x1, rfl⟩ := hty1
  show W p l e R s m #[Value.ref b] below meth c H1 locs1 CC SS QQ (F0 m 780 ls [.int (Int32.ofInt x1)])
  refine lv_aload_n hx hb (z_ldc z_lq18_ok 7 (q := (780, (.aload_n 2, 1))) rfl) rfl (lv_at hl 2 rfl) ?_
  refine lw_arg F Cf1 (j := 1) (by decide) (by decide) hk (lv_at hl 0 rfl) (lv_at hl 3 rfl) (ins := .iadd) (n2 := 0) (z_ldc z_lq18_ok 8 (q := (781, (.aload_n 0, 1))) rfl) (z_ldc z_lq18_ok 9 (q := (782, (.iload_n 3, 1))) rfl) (Or.inl ⟨(z_ldc z_lq18_ok 10 (q := (783, (.iconst 1, 1))) rfl), rfl⟩) (z_ldc z_lq18_ok 11 (q := (784, (.iadd, 1))) rfl) (z_ldc z_lq18_ok 12 (q := (785, (.iaload, 1))) rfl) ?_
  have eS13 : (([z_I (xs (7 * k + 1)).toInt] : List z_V).map (z_v cx.2.2)).reverse ++ .ref (cx.2.2 13) :: [.int (Int32.ofInt x1)] = (.int (xs (7 * k + 1)) :: .ref (cx.2.2 13) :: [.int (Int32.ofInt x1)] : List Value) := by
    simp only [List.map_cons, List.map_nil, lw_vI, List.reverse_cons, List.reverse_nil, List.nil_append, List.cons_append]
  show W p l e R s m #[Value.ref b] below meth c _ _ CC SS QQ (F0 m 786 ls (.int (xs (7 * k + 1)) :: .ref (cx.2.2 13) :: [.int (Int32.ofInt x1)]))
  rw [← eS13]
  refine lw_call F Cf1 (k := 324) (o := 13) (lk := (10, 4)) (t' := z_m324) rfl hq1 rfl (show z_np z_m324.1 = some 1 by decide +kernel) (by decide +kernel) (by decide) (by decide +kernel) (by decide +kernel) va (by simp [Value.category]) hl.1 hR hCC (z_ldc z_lq18_ok 13 (q := (786, (.invokevirtual 95, 3))) rfl) (fun v2 M2 H2 locs2 hn2 hok2 hq2 Cf2 => ?_)
  obtain ⟨rfl, hP2⟩ := hq2
  show W p l e R s m #[Value.ref b] below meth c H2 locs2 CC SS QQ (F0 m 789 ls [.int (Int32.ofInt x1), .int (Int32.ofInt x1)])
  refine lv_icmp_eq (tgt := 1803) hx hb (z_ldc z_lq18_ok 14 (q := (789, (.if_icmp .eq 1014, 3))) rfl) (by decide) (fun _ => ?_) (fun q => absurd rfl q)
  exact kk M2 H2 locs2 hP2 Cf2
def z_lq19 : List (Nat × (Instr × Nat)) := [(794, (.aload_n 1, 1)), (795, (.aload_n 0, 1)), (796, (.iload_n 3, 1)), (797, (.iconst 1, 1)), (798, (.iadd, 1)), (799, (.iaload, 1)), (800, (.invokevirtual 96, 3)), (803, (.aload_n 2, 1)), (804, (.aload_n 0, 1)), (805, (.iload_n 3, 1)), (806, (.iconst 1, 1)), (807, (.iadd, 1)), (808, (.iaload, 1)), (809, (.invokevirtual 99, 3)), (812, (.if_icmp .eq 991, 3))]
theorem z_lq19_ok : z_lq19.all (fun q => decide (decode code q.1 = .ok q.2)) = true := by decide +kernel
theorem lw_case19 (F : z_lfix cx p s m meth c b L xs) (Cf : z_lcfg cx s H locs M) {k d : Nat} {P : z_M → Prop} (hk : 7 * k + 7 ≤ L) (hl : lv_has ls 4 [(0, .ref b), (1, .ref (cx.2.2 1)), (2, .ref (cx.2.2 13)), (3, .int (nI (7 * k)))]) (hR : d + 2 ≤ R.frames ∧ 64 * (d + 2) ≤ R.locals) (hCC : CC ≤ R.cells ∧ SS ≤ R.slots)
    (hCl : z_Cl 0 d 186 [z_R 1, z_I (xs (7 * k + 1)).toInt] M (fun v M1 => (∃ x, v = z_I x) ∧ z_Cl 0 d 332 [z_R 13, z_I (xs (7 * k + 1)).toInt] M1 (fun v2 M2 => v2 = v ∧ P M2)))
    (kk : ∀ (M2 : z_M) (H1 : Heap) (locs1 : List Loc), P M2 → z_lcfg cx s H1 locs1 M2 → W p l e R s m #[Value.ref b] below meth c H1 locs1 CC SS QQ (F0 m 1803 ls [])) : W p l e R s m #[Value.ref b] below meth c H locs CC SS QQ (F0 m 794 ls []) := by
  obtain ⟨hx, hb, -⟩ := id F.1
  have va : ∀ v ∈ [(z_I (xs (7 * k + 1)).toInt : z_V)], z_vok 0 v := by
    intro v hv
    simp only [List.mem_cons, List.not_mem_nil, or_false] at hv
    rcases hv with rfl <;> exact z_n_in _
  refine lv_aload_n hx hb (z_ldc z_lq19_ok 0 (q := (794, (.aload_n 1, 1))) rfl) rfl (lv_at hl 1 rfl) ?_
  refine lw_arg F Cf (j := 1) (by decide) (by decide) hk (lv_at hl 0 rfl) (lv_at hl 3 rfl) (ins := .iadd) (n2 := 0) (z_ldc z_lq19_ok 1 (q := (795, (.aload_n 0, 1))) rfl) (z_ldc z_lq19_ok 2 (q := (796, (.iload_n 3, 1))) rfl) (Or.inl ⟨(z_ldc z_lq19_ok 3 (q := (797, (.iconst 1, 1))) rfl), rfl⟩) (z_ldc z_lq19_ok 4 (q := (798, (.iadd, 1))) rfl) (z_ldc z_lq19_ok 5 (q := (799, (.iaload, 1))) rfl) ?_
  have eS1 : (([z_I (xs (7 * k + 1)).toInt] : List z_V).map (z_v cx.2.2)).reverse ++ .ref (cx.2.2 1) :: [] = (.int (xs (7 * k + 1)) :: .ref (cx.2.2 1) :: [] : List Value) := by
    simp only [List.map_cons, List.map_nil, lw_vI, List.reverse_cons, List.reverse_nil, List.nil_append, List.cons_append]
  show W p l e R s m #[Value.ref b] below meth c _ _ CC SS QQ (F0 m 800 ls (.int (xs (7 * k + 1)) :: .ref (cx.2.2 1) :: []))
  rw [← eS1]
  refine lw_call F Cf (k := 186) (o := 1) (lk := (5, 75)) (t' := z_m186) rfl hCl rfl (show z_np z_m186.1 = some 1 by decide +kernel) (by decide +kernel) (by decide) (by decide +kernel) (by decide +kernel) va (by decide) hl.1 hR hCC (z_ldc z_lq19_ok 6 (q := (800, (.invokevirtual 96, 3))) rfl) (fun v1 M1 H1 locs1 hn1 hok1 hq1 Cf1 => ?_)
  obtain ⟨hty1, hq1⟩ := hq1
  obtain ⟨x1, rfl⟩ := hty1
  show W p l e R s m #[Value.ref b] below meth c H1 locs1 CC SS QQ (F0 m 803 ls [.int (Int32.ofInt x1)])
  refine lv_aload_n hx hb (z_ldc z_lq19_ok 7 (q := (803, (.aload_n 2, 1))) rfl) rfl (lv_at hl 2 rfl) ?_
  refine lw_arg F Cf1 (j := 1) (by decide) (by decide) hk (lv_at hl 0 rfl) (lv_at hl 3 rfl) (ins := .iadd) (n2 := 0) (z_ldc z_lq19_ok 8 (q := (804, (.aload_n 0, 1))) rfl) (z_ldc z_lq19_ok 9 (q := (805, (.iload_n 3, 1))) rfl) (Or.inl ⟨(z_ldc z_lq19_ok 10 (q := (806, (.iconst 1, 1))) rfl), rfl⟩) (z_ldc z_lq19_ok 11 (q := (807, (.iadd, 1))) rfl) (z_ldc z_lq19_ok 12 (q := (808, (.iaload, 1))) rfl) ?_
  have eS13 : (([z_I (xs (7 * k + 1)).toInt] : List z_V).map (z_v cx.2.2)).reverse ++ .ref (cx.2.2 13) :: [.int (Int32.ofInt x1)] = (.int (xs (7 * k + 1)) :: .ref (cx.2.2 13) :: [.int (Int32.ofInt x1)] : List Value) := by
    simp only [List.map_cons, List.map_nil, lw_vI, List.reverse_cons, List.reverse_nil, List.nil_append, List.cons_append]
  show W p l e R s m #[Value.ref b] below meth c _ _ CC SS QQ (F0 m 809 ls (.int (xs (7 * k + 1)) :: .ref (cx.2.2 13) :: [.int (Int32.ofInt x1)]))
  rw [← eS13]
  refine lw_call F Cf1 (k := 332) (o := 13) (lk := (10, 25)) (t' := z_m332) rfl hq1 rfl (show z_np z_m332.1 = some 1 by decide +kernel) (by decide +kernel) (by decide) (by decide +kernel) (by decide +kernel) va (by simp [Value.category]) hl.1 hR hCC (z_ldc z_lq19_ok 13 (q := (809, (.invokevirtual 99, 3))) rfl) (fun v2 M2 H2 locs2 hn2 hok2 hq2 Cf2 => ?_)
  obtain ⟨rfl, hP2⟩ := hq2
  show W p l e R s m #[Value.ref b] below meth c H2 locs2 CC SS QQ (F0 m 812 ls [.int (Int32.ofInt x1), .int (Int32.ofInt x1)])
  refine lv_icmp_eq (tgt := 1803) hx hb (z_ldc z_lq19_ok 14 (q := (812, (.if_icmp .eq 991, 3))) rfl) (by decide) (fun _ => ?_) (fun q => absurd rfl q)
  exact kk M2 H2 locs2 hP2 Cf2
def z_lq20 : List (Nat × (Instr × Nat)) := [(817, (.aload_n 1, 1)), (818, (.aload_n 0, 1)), (819, (.iload_n 3, 1)), (820, (.iconst 1, 1)), (821, (.iadd, 1)), (822, (.iaload, 1)), (823, (.invokevirtual 100, 3)), (826, (.aload_n 2, 1)), (827, (.aload_n 0, 1)), (828, (.iload_n 3, 1)), (829, (.iconst 1, 1)), (830, (.iadd, 1)), (831, (.iaload, 1)), (832, (.invokevirtual 103, 3)), (835, (.if_icmp .eq 968, 3))]
theorem z_lq20_ok : z_lq20.all (fun q => decide (decode code q.1 = .ok q.2)) = true := by decide +kernel
theorem lw_case20 (F : z_lfix cx p s m meth c b L xs) (Cf : z_lcfg cx s H locs M) {k d : Nat} {P : z_M → Prop} (hk : 7 * k + 7 ≤ L) (hl : lv_has ls 4 [(0, .ref b), (1, .ref (cx.2.2 1)), (2, .ref (cx.2.2 13)), (3, .int (nI (7 * k)))]) (hR : d + 2 ≤ R.frames ∧ 64 * (d + 2) ≤ R.locals) (hCC : CC ≤ R.cells ∧ SS ≤ R.slots)
    (hCl : z_Cl 0 d 187 [z_R 1, z_I (xs (7 * k + 1)).toInt] M (fun v M1 => (∃ x, v = z_I x) ∧ z_Cl 0 d 334 [z_R 13, z_I (xs (7 * k + 1)).toInt] M1 (fun v2 M2 => v2 = v ∧ P M2)))
    (kk : ∀ (M2 : z_M) (H1 : Heap) (locs1 : List Loc), P M2 → z_lcfg cx s H1 locs1 M2 → W p l e R s m #[Value.ref b] below meth c H1 locs1 CC SS QQ (F0 m 1803 ls [])) : W p l e R s m #[Value.ref b] below meth c H locs CC SS QQ (F0 m 817 ls []) := by
  obtain ⟨hx, hb, -⟩ := id F.1
  have va : ∀ v ∈ [(z_I (xs (7 * k + 1)).toInt : z_V)], z_vok 0 v := by
    intro v hv
    simp only [List.mem_cons, List.not_mem_nil, or_false] at hv
    rcases hv with rfl <;> exact z_n_in _
  refine lv_aload_n hx hb (z_ldc z_lq20_ok 0 (q := (817, (.aload_n 1, 1))) rfl) rfl (lv_at hl 1 rfl) ?_
  refine lw_arg F Cf (j := 1) (by decide) (by decide) hk (lv_at hl 0 rfl) (lv_at hl 3 rfl) (ins := .iadd) (n2 := 0) (z_ldc z_lq20_ok 1 (q := (818, (.aload_n 0, 1))) rfl) (z_ldc z_lq20_ok 2 (q := (819, (.iload_n 3, 1))) rfl) (Or.inl ⟨(z_ldc z_lq20_ok 3 (q := (820, (.iconst 1, 1))) rfl), rfl⟩) (z_ldc z_lq20_ok 4 (q := (821, (.iadd, 1))) rfl) (z_ldc z_lq20_ok 5 (q := (822, (.iaload, 1))) rfl) ?_
  have eS1 : (([z_I (xs (7 * k + 1)).toInt] : List z_V).map (z_v cx.2.2)).reverse ++ .ref (cx.2.2 1) :: [] = (.int (xs (7 * k + 1)) :: .ref (cx.2.2 1) :: [] : List Value) := by
    simp only [List.map_cons, List.map_nil, lw_vI, List.reverse_cons, List.reverse_nil, List.nil_append, List.cons_append]
  show W p l e R s m #[Value.ref b] below meth c _ _ CC SS QQ (F0 m 823 ls (.int (xs (7 * k + 1)) :: .ref (cx.2.2 1) :: []))
  rw [← eS1]
  refine lw_call F Cf (k := 187) (o := 1) (lk := (5, 116)) (t' := z_m187) rfl hCl rfl (show z_np z_m187.1 = some 1 by decide +kernel) (by decide +kernel) (by decide) (by decide +kernel) (by decide +kernel) va (by decide) hl.1 hR hCC (z_ldc z_lq20_ok 6 (q := (823, (.invokevirtual 100, 3))) rfl) (fun v1 M1 H1 locs1 hn1 hok1 hq1 Cf1 => ?_)
  obtain ⟨hty1, hq1⟩ := hq1
  obtain ⟨x1, rfl⟩ := hty1
  show W p l e R s m #[Value.ref b] below meth c H1 locs1 CC SS QQ (F0 m 826 ls [.int (Int32.ofInt x1)])
  refine lv_aload_n hx hb (z_ldc z_lq20_ok 7 (q := (826, (.aload_n 2, 1))) rfl) rfl (lv_at hl 2 rfl) ?_
  refine lw_arg F Cf1 (j := 1) (by decide) (by decide) hk (lv_at hl 0 rfl) (lv_at hl 3 rfl) (ins := .iadd) (n2 := 0) (z_ldc z_lq20_ok 8 (q := (827, (.aload_n 0, 1))) rfl) (z_ldc z_lq20_ok 9 (q := (828, (.iload_n 3, 1))) rfl) (Or.inl ⟨(z_ldc z_lq20_ok 10 (q := (829, (.iconst 1, 1))) rfl), rfl⟩) (z_ldc z_lq20_ok 11 (q := (830, (.iadd, 1))) rfl) (z_ldc z_lq20_ok 12 (q := (831, (.iaload, 1))) rfl) ?_
  have eS13 : (([z_I (xs (7 * k + 1)).toInt] : List z_V).map (z_v cx.2.2)).reverse ++ .ref (cx.2.2 13) :: [.int (Int32.ofInt x1)] = (.int (xs (7 * k + 1)) :: .ref (cx.2.2 13) :: [.int (Int32.ofInt x1)] : List Value) := by
    simp only [List.map_cons, List.map_nil, lw_vI, List.reverse_cons, List.reverse_nil, List.nil_append, List.cons_append]
  show W p l e R s m #[Value.ref b] below meth c _ _ CC SS QQ (F0 m 832 ls (.int (xs (7 * k + 1)) :: .ref (cx.2.2 13) :: [.int (Int32.ofInt x1)]))
  rw [← eS13]
  refine lw_call F Cf1 (k := 334) (o := 13) (lk := (10, 58)) (t' := z_m334) rfl hq1 rfl (show z_np z_m334.1 = some 1 by decide +kernel) (by decide +kernel) (by decide) (by decide +kernel) (by decide +kernel) va (by simp [Value.category]) hl.1 hR hCC (z_ldc z_lq20_ok 13 (q := (832, (.invokevirtual 103, 3))) rfl) (fun v2 M2 H2 locs2 hn2 hok2 hq2 Cf2 => ?_)
  obtain ⟨rfl, hP2⟩ := hq2
  show W p l e R s m #[Value.ref b] below meth c H2 locs2 CC SS QQ (F0 m 835 ls [.int (Int32.ofInt x1), .int (Int32.ofInt x1)])
  refine lv_icmp_eq (tgt := 1803) hx hb (z_ldc z_lq20_ok 14 (q := (835, (.if_icmp .eq 968, 3))) rfl) (by decide) (fun _ => ?_) (fun q => absurd rfl q)
  exact kk M2 H2 locs2 hP2 Cf2
def z_lq21 : List (Nat × (Instr × Nat)) := [(840, (.aload_n 1, 1)), (841, (.aload_n 0, 1)), (842, (.iload_n 3, 1)), (843, (.iconst 1, 1)), (844, (.iadd, 1)), (845, (.iaload, 1)), (846, (.aload_n 0, 1)), (847, (.iload_n 3, 1)), (848, (.iconst 2, 1)), (849, (.iadd, 1)), (850, (.iaload, 1)), (851, (.aload_n 0, 1)), (852, (.iload_n 3, 1)), (853, (.iconst 3, 1)), (854, (.iadd, 1)), (855, (.iaload, 1)), (856, (.aload_n 0, 1)), (857, (.iload_n 3, 1)), (858, (.iconst 4, 1)), (859, (.iadd, 1)), (860, (.iaload, 1)), (861, (.invokevirtual 104, 3)), (864, (.aload_n 2, 1)), (865, (.aload_n 0, 1)), (866, (.iload_n 3, 1)), (867, (.iconst 1, 1)), (868, (.iadd, 1)), (869, (.iaload, 1)), (870, (.aload_n 0, 1)), (871, (.iload_n 3, 1)), (872, (.iconst 2, 1)), (873, (.iadd, 1)), (874, (.iaload, 1)), (875, (.aload_n 0, 1)), (876, (.iload_n 3, 1)), (877, (.iconst 3, 1)), (878, (.iadd, 1)), (879, (.iaload, 1)), (880, (.aload_n 0, 1)), (881, (.iload_n 3, 1)), (882, (.iconst 4, 1)), (883, (.iadd, 1)), (884, (.iaload, 1)), (885, (.invokevirtual 108, 3)), (888, (.lcmp, 1)), (889, (.ifCond .eq 914, 3))]
theorem z_lq21_ok : z_lq21.all (fun q => decide (decode code q.1 = .ok q.2)) = true := by decide +kernel
theorem lw_case21 (F : z_lfix cx p s m meth c b L xs) (Cf : z_lcfg cx s H locs M) {k d : Nat} {P : z_M → Prop} (hk : 7 * k + 7 ≤ L) (hl : lv_has ls 4 [(0, .ref b), (1, .ref (cx.2.2 1)), (2, .ref (cx.2.2 13)), (3, .int (nI (7 * k)))]) (hR : d + 2 ≤ R.frames ∧ 64 * (d + 2) ≤ R.locals) (hCC : CC ≤ R.cells ∧ SS ≤ R.slots)
    (hCl : z_Cl 0 d 188 [z_R 1, z_I (xs (7 * k + 1)).toInt, z_I (xs (7 * k + 2)).toInt, z_I (xs (7 * k + 3)).toInt, z_I (xs (7 * k + 4)).toInt] M (fun v M1 => (∃ x, v = z_J x) ∧ z_Cl 0 d 339 [z_R 13, z_I (xs (7 * k + 1)).toInt, z_I (xs (7 * k + 2)).toInt, z_I (xs (7 * k + 3)).toInt, z_I (xs (7 * k + 4)).toInt] M1 (fun v2 M2 => v2 = v ∧ P M2)))
    (kk : ∀ (M2 : z_M) (H1 : Heap) (locs1 : List Loc), P M2 → z_lcfg cx s H1 locs1 M2 → W p l e R s m #[Value.ref b] below meth c H1 locs1 CC SS QQ (F0 m 1803 ls [])) : W p l e R s m #[Value.ref b] below meth c H locs CC SS QQ (F0 m 840 ls []) := by
  obtain ⟨hx, hb, -⟩ := id F.1
  have va : ∀ v ∈ [(z_I (xs (7 * k + 1)).toInt : z_V), (z_I (xs (7 * k + 2)).toInt : z_V), (z_I (xs (7 * k + 3)).toInt : z_V), (z_I (xs (7 * k + 4)).toInt : z_V)], z_vok 0 v := by
    intro v hv
    simp only [List.mem_cons, List.not_mem_nil, or_false] at hv
    rcases hv with rfl | rfl | rfl | rfl <;> exact z_n_in _
  refine lv_aload_n hx hb (z_ldc z_lq21_ok 0 (q := (840, (.aload_n 1, 1))) rfl) rfl (lv_at hl 1 rfl) ?_
  refine lw_arg F Cf (j := 1) (by decide) (by decide) hk (lv_at hl 0 rfl) (lv_at hl 3 rfl) (ins := .iadd) (n2 := 0) (z_ldc z_lq21_ok 1 (q := (841, (.aload_n 0, 1))) rfl) (z_ldc z_lq21_ok 2 (q := (842, (.iload_n 3, 1))) rfl) (Or.inl ⟨(z_ldc z_lq21_ok 3 (q := (843, (.iconst 1, 1))) rfl), rfl⟩) (z_ldc z_lq21_ok 4 (q := (844, (.iadd, 1))) rfl) (z_ldc z_lq21_ok 5 (q := (845, (.iaload, 1))) rfl) ?_
  refine lw_arg F Cf (j := 2) (by decide) (by decide) hk (lv_at hl 0 rfl) (lv_at hl 3 rfl) (ins := .iadd) (n2 := 0) (z_ldc z_lq21_ok 6 (q := (846, (.aload_n 0, 1))) rfl) (z_ldc z_lq21_ok 7 (q := (847, (.iload_n 3, 1))) rfl) (Or.inl ⟨(z_ldc z_lq21_ok 8 (q := (848, (.iconst 2, 1))) rfl), rfl⟩) (z_ldc z_lq21_ok 9 (q := (849, (.iadd, 1))) rfl) (z_ldc z_lq21_ok 10 (q := (850, (.iaload, 1))) rfl) ?_
  refine lw_arg F Cf (j := 3) (by decide) (by decide) hk (lv_at hl 0 rfl) (lv_at hl 3 rfl) (ins := .iadd) (n2 := 0) (z_ldc z_lq21_ok 11 (q := (851, (.aload_n 0, 1))) rfl) (z_ldc z_lq21_ok 12 (q := (852, (.iload_n 3, 1))) rfl) (Or.inl ⟨(z_ldc z_lq21_ok 13 (q := (853, (.iconst 3, 1))) rfl), rfl⟩) (z_ldc z_lq21_ok 14 (q := (854, (.iadd, 1))) rfl) (z_ldc z_lq21_ok 15 (q := (855, (.iaload, 1))) rfl) ?_
  refine lw_arg F Cf (j := 4) (by decide) (by decide) hk (lv_at hl 0 rfl) (lv_at hl 3 rfl) (ins := .iadd) (n2 := 0) (z_ldc z_lq21_ok 16 (q := (856, (.aload_n 0, 1))) rfl) (z_ldc z_lq21_ok 17 (q := (857, (.iload_n 3, 1))) rfl) (Or.inl ⟨(z_ldc z_lq21_ok 18 (q := (858, (.iconst 4, 1))) rfl), rfl⟩) (z_ldc z_lq21_ok 19 (q := (859, (.iadd, 1))) rfl) (z_ldc z_lq21_ok 20 (q := (860, (.iaload, 1))) rfl) ?_
  have eS1 : (([z_I (xs (7 * k + 1)).toInt, z_I (xs (7 * k + 2)).toInt, z_I (xs (7 * k + 3)).toInt, z_I (xs (7 * k + 4)).toInt] : List z_V).map (z_v cx.2.2)).reverse ++ .ref (cx.2.2 1) :: [] = (.int (xs (7 * k + 4)) :: .int (xs (7 * k + 3)) :: .int (xs (7 * k + 2)) :: .int (xs (7 * k + 1)) :: .ref (cx.2.2 1) :: [] : List Value) := by
    simp only [List.map_cons, List.map_nil, lw_vI, List.reverse_cons, List.reverse_nil, List.nil_append, List.cons_append]
  show W p l e R s m #[Value.ref b] below meth c _ _ CC SS QQ (F0 m 861 ls (.int (xs (7 * k + 4)) :: .int (xs (7 * k + 3)) :: .int (xs (7 * k + 2)) :: .int (xs (7 * k + 1)) :: .ref (cx.2.2 1) :: []))
  rw [← eS1]
  refine lw_call F Cf (k := 188) (o := 1) (lk := (5, 128)) (t' := z_m188) rfl hCl rfl (show z_np z_m188.1 = some 4 by decide +kernel) (by decide +kernel) (by decide) (by decide +kernel) (by decide +kernel) va (by decide) hl.1 hR hCC (z_ldc z_lq21_ok 21 (q := (861, (.invokevirtual 104, 3))) rfl) (fun v1 M1 H1 locs1 hn1 hok1 hq1 Cf1 => ?_)
  obtain ⟨hty1, hq1⟩ := hq1
  obtain ⟨x1, rfl⟩ := hty1
  show W p l e R s m #[Value.ref b] below meth c H1 locs1 CC SS QQ (F0 m 864 ls [.long (Int64.ofInt x1)])
  refine lv_aload_n hx hb (z_ldc z_lq21_ok 22 (q := (864, (.aload_n 2, 1))) rfl) rfl (lv_at hl 2 rfl) ?_
  refine lw_arg F Cf1 (j := 1) (by decide) (by decide) hk (lv_at hl 0 rfl) (lv_at hl 3 rfl) (ins := .iadd) (n2 := 0) (z_ldc z_lq21_ok 23 (q := (865, (.aload_n 0, 1))) rfl) (z_ldc z_lq21_ok 24 (q := (866, (.iload_n 3, 1))) rfl) (Or.inl ⟨(z_ldc z_lq21_ok 25 (q := (867, (.iconst 1, 1))) rfl), rfl⟩) (z_ldc z_lq21_ok 26 (q := (868, (.iadd, 1))) rfl) (z_ldc z_lq21_ok 27 (q := (869, (.iaload, 1))) rfl) ?_
  refine lw_arg F Cf1 (j := 2) (by decide) (by decide) hk (lv_at hl 0 rfl) (lv_at hl 3 rfl) (ins := .iadd) (n2 := 0) (z_ldc z_lq21_ok 28 (q := (870, (.aload_n 0, 1))) rfl) (z_ldc z_lq21_ok 29 (q := (871, (.iload_n 3, 1))) rfl) (Or.inl ⟨(z_ldc z_lq21_ok 30 (q := (872, (.iconst 2, 1))) rfl), rfl⟩) (z_ldc z_lq21_ok 31 (q := (873, (.iadd, 1))) rfl) (z_ldc z_lq21_ok 32 (q := (874, (.iaload, 1))) rfl) ?_
  refine lw_arg F Cf1 (j := 3) (by decide) (by decide) hk (lv_at hl 0 rfl) (lv_at hl 3 rfl) (ins := .iadd) (n2 := 0) (z_ldc z_lq21_ok 33 (q := (875, (.aload_n 0, 1))) rfl) (z_ldc z_lq21_ok 34 (q := (876, (.iload_n 3, 1))) rfl) (Or.inl ⟨(z_ldc z_lq21_ok 35 (q := (877, (.iconst 3, 1))) rfl), rfl⟩) (z_ldc z_lq21_ok 36 (q := (878, (.iadd, 1))) rfl) (z_ldc z_lq21_ok 37 (q := (879, (.iaload, 1))) rfl) ?_
  refine lw_arg F Cf1 (j := 4) (by decide) (by decide) hk (lv_at hl 0 rfl) (lv_at hl 3 rfl) (ins := .iadd) (n2 := 0) (z_ldc z_lq21_ok 38 (q := (880, (.aload_n 0, 1))) rfl) (z_ldc z_lq21_ok 39 (q := (881, (.iload_n 3, 1))) rfl) (Or.inl ⟨(z_ldc z_lq21_ok 40 (q := (882, (.iconst 4, 1))) rfl), rfl⟩) (z_ldc z_lq21_ok 41 (q := (883, (.iadd, 1))) rfl) (z_ldc z_lq21_ok 42 (q := (884, (.iaload, 1))) rfl) ?_
  have eS13 : (([z_I (xs (7 * k + 1)).toInt, z_I (xs (7 * k + 2)).toInt, z_I (xs (7 * k + 3)).toInt, z_I (xs (7 * k + 4)).toInt] : List z_V).map (z_v cx.2.2)).reverse ++ .ref (cx.2.2 13) :: [.long (Int64.ofInt x1)] = (.int (xs (7 * k + 4)) :: .int (xs (7 * k + 3)) :: .int (xs (7 * k + 2)) :: .int (xs (7 * k + 1)) :: .ref (cx.2.2 13) :: [.long (Int64.ofInt x1)] : List Value) := by
    simp only [List.map_cons, List.map_nil, lw_vI, List.reverse_cons, List.reverse_nil, List.nil_append, List.cons_append]
  show W p l e R s m #[Value.ref b] below meth c _ _ CC SS QQ (F0 m 885 ls (.int (xs (7 * k + 4)) :: .int (xs (7 * k + 3)) :: .int (xs (7 * k + 2)) :: .int (xs (7 * k + 1)) :: .ref (cx.2.2 13) :: [.long (Int64.ofInt x1)]))
  rw [← eS13]
  refine lw_call F Cf1 (k := 339) (o := 13) (lk := (10, 66)) (t' := z_m339) rfl hq1 rfl (show z_np z_m339.1 = some 4 by decide +kernel) (by decide +kernel) (by decide) (by decide +kernel) (by decide +kernel) va (by simp [Value.category]) hl.1 hR hCC (z_ldc z_lq21_ok 43 (q := (885, (.invokevirtual 108, 3))) rfl) (fun v2 M2 H2 locs2 hn2 hok2 hq2 Cf2 => ?_)
  obtain ⟨rfl, hP2⟩ := hq2
  show W p l e R s m #[Value.ref b] below meth c H2 locs2 CC SS QQ (F0 m 888 ls [.long (Int64.ofInt x1), .long (Int64.ofInt x1)])
  refine W.lcmp hx hb (z_ldc z_lq21_ok 44 (q := (888, (.lcmp, 1))) rfl) ?_
  have e0 : lg_cmp (Int64.ofInt x1) (Int64.ofInt x1) = 0 := by unfold lg_cmp; rw [if_neg (Int64.lt_irrefl), if_pos rfl]
  rw [e0]
  refine lv_if_eq (tgt := 1803) hx hb (z_ldc z_lq21_ok 45 (q := (889, (.ifCond .eq 914, 3))) rfl) (by decide) (fun _ => ?_) (fun q => absurd rfl q)
  exact kk M2 H2 locs2 hP2 Cf2
def z_lq22 : List (Nat × (Instr × Nat)) := [(894, (.aload_n 1, 1)), (895, (.aload_n 0, 1)), (896, (.iload_n 3, 1)), (897, (.iconst 1, 1)), (898, (.iadd, 1)), (899, (.iaload, 1)), (900, (.aload_n 0, 1)), (901, (.iload_n 3, 1)), (902, (.iconst 2, 1)), (903, (.iadd, 1)), (904, (.iaload, 1)), (905, (.aload_n 0, 1)), (906, (.iload_n 3, 1)), (907, (.iconst 3, 1)), (908, (.iadd, 1)), (909, (.iaload, 1)), (910, (.aload_n 0, 1)), (911, (.iload_n 3, 1)), (912, (.iconst 4, 1)), (913, (.iadd, 1)), (914, (.iaload, 1)), (915, (.aload_n 0, 1)), (916, (.iload_n 3, 1)), (917, (.iconst 5, 1)), (918, (.iadd, 1)), (919, (.iaload, 1)), (920, (.aload_n 0, 1)), (921, (.iload_n 3, 1)), (922, (.bipush 6, 2)), (924, (.iadd, 1)), (925, (.iaload, 1)), (926, (.invokevirtual 109, 3)), (929, (.aload_n 2, 1)), (930, (.aload_n 0, 1)), (931, (.iload_n 3, 1)), (932, (.iconst 1, 1)), (933, (.iadd, 1)), (934, (.iaload, 1)), (935, (.aload_n 0, 1)), (936, (.iload_n 3, 1)), (937, (.iconst 2, 1)), (938, (.iadd, 1)), (939, (.iaload, 1)), (940, (.aload_n 0, 1)), (941, (.iload_n 3, 1)), (942, (.iconst 3, 1)), (943, (.iadd, 1)), (944, (.iaload, 1)), (945, (.aload_n 0, 1)), (946, (.iload_n 3, 1)), (947, (.iconst 4, 1)), (948, (.iadd, 1)), (949, (.iaload, 1)), (950, (.aload_n 0, 1)), (951, (.iload_n 3, 1)), (952, (.iconst 5, 1)), (953, (.iadd, 1)), (954, (.iaload, 1)), (955, (.aload_n 0, 1)), (956, (.iload_n 3, 1)), (957, (.bipush 6, 2)), (959, (.iadd, 1)), (960, (.iaload, 1)), (961, (.invokevirtual 113, 3)), (964, (.lcmp, 1)), (965, (.ifCond .eq 838, 3))]
theorem z_lq22_ok : z_lq22.all (fun q => decide (decode code q.1 = .ok q.2)) = true := by decide +kernel
theorem lw_case22 (F : z_lfix cx p s m meth c b L xs) (Cf : z_lcfg cx s H locs M) {k d : Nat} {P : z_M → Prop} (hk : 7 * k + 7 ≤ L) (hl : lv_has ls 4 [(0, .ref b), (1, .ref (cx.2.2 1)), (2, .ref (cx.2.2 13)), (3, .int (nI (7 * k)))]) (hR : d + 2 ≤ R.frames ∧ 64 * (d + 2) ≤ R.locals) (hCC : CC ≤ R.cells ∧ SS ≤ R.slots)
    (hCl : z_Cl 0 d 189 [z_R 1, z_I (xs (7 * k + 1)).toInt, z_I (xs (7 * k + 2)).toInt, z_I (xs (7 * k + 3)).toInt, z_I (xs (7 * k + 4)).toInt, z_I (xs (7 * k + 5)).toInt, z_I (xs (7 * k + 6)).toInt] M (fun v M1 => (∃ x, v = z_J x) ∧ z_Cl 0 d 341 [z_R 13, z_I (xs (7 * k + 1)).toInt, z_I (xs (7 * k + 2)).toInt, z_I (xs (7 * k + 3)).toInt, z_I (xs (7 * k + 4)).toInt, z_I (xs (7 * k + 5)).toInt, z_I (xs (7 * k + 6)).toInt] M1 (fun v2 M2 => v2 = v ∧ P M2)))
    (kk : ∀ (M2 : z_M) (H1 : Heap) (locs1 : List Loc), P M2 → z_lcfg cx s H1 locs1 M2 → W p l e R s m #[Value.ref b] below meth c H1 locs1 CC SS QQ (F0 m 1803 ls [])) : W p l e R s m #[Value.ref b] below meth c H locs CC SS QQ (F0 m 894 ls []) := by
  obtain ⟨hx, hb, -⟩ := id F.1
  have va : ∀ v ∈ [(z_I (xs (7 * k + 1)).toInt : z_V), (z_I (xs (7 * k + 2)).toInt : z_V), (z_I (xs (7 * k + 3)).toInt : z_V), (z_I (xs (7 * k + 4)).toInt : z_V), (z_I (xs (7 * k + 5)).toInt : z_V), (z_I (xs (7 * k + 6)).toInt : z_V)], z_vok 0 v := by
    intro v hv
    simp only [List.mem_cons, List.not_mem_nil, or_false] at hv
    rcases hv with rfl | rfl | rfl | rfl | rfl | rfl <;> exact z_n_in _
  refine lv_aload_n hx hb (z_ldc z_lq22_ok 0 (q := (894, (.aload_n 1, 1))) rfl) rfl (lv_at hl 1 rfl) ?_
  refine lw_arg F Cf (j := 1) (by decide) (by decide) hk (lv_at hl 0 rfl) (lv_at hl 3 rfl) (ins := .iadd) (n2 := 0) (z_ldc z_lq22_ok 1 (q := (895, (.aload_n 0, 1))) rfl) (z_ldc z_lq22_ok 2 (q := (896, (.iload_n 3, 1))) rfl) (Or.inl ⟨(z_ldc z_lq22_ok 3 (q := (897, (.iconst 1, 1))) rfl), rfl⟩) (z_ldc z_lq22_ok 4 (q := (898, (.iadd, 1))) rfl) (z_ldc z_lq22_ok 5 (q := (899, (.iaload, 1))) rfl) ?_
  refine lw_arg F Cf (j := 2) (by decide) (by decide) hk (lv_at hl 0 rfl) (lv_at hl 3 rfl) (ins := .iadd) (n2 := 0) (z_ldc z_lq22_ok 6 (q := (900, (.aload_n 0, 1))) rfl) (z_ldc z_lq22_ok 7 (q := (901, (.iload_n 3, 1))) rfl) (Or.inl ⟨(z_ldc z_lq22_ok 8 (q := (902, (.iconst 2, 1))) rfl), rfl⟩) (z_ldc z_lq22_ok 9 (q := (903, (.iadd, 1))) rfl) (z_ldc z_lq22_ok 10 (q := (904, (.iaload, 1))) rfl) ?_
  refine lw_arg F Cf (j := 3) (by decide) (by decide) hk (lv_at hl 0 rfl) (lv_at hl 3 rfl) (ins := .iadd) (n2 := 0) (z_ldc z_lq22_ok 11 (q := (905, (.aload_n 0, 1))) rfl) (z_ldc z_lq22_ok 12 (q := (906, (.iload_n 3, 1))) rfl) (Or.inl ⟨(z_ldc z_lq22_ok 13 (q := (907, (.iconst 3, 1))) rfl), rfl⟩) (z_ldc z_lq22_ok 14 (q := (908, (.iadd, 1))) rfl) (z_ldc z_lq22_ok 15 (q := (909, (.iaload, 1))) rfl) ?_
  refine lw_arg F Cf (j := 4) (by decide) (by decide) hk (lv_at hl 0 rfl) (lv_at hl 3 rfl) (ins := .iadd) (n2 := 0) (z_ldc z_lq22_ok 16 (q := (910, (.aload_n 0, 1))) rfl) (z_ldc z_lq22_ok 17 (q := (911, (.iload_n 3, 1))) rfl) (Or.inl ⟨(z_ldc z_lq22_ok 18 (q := (912, (.iconst 4, 1))) rfl), rfl⟩) (z_ldc z_lq22_ok 19 (q := (913, (.iadd, 1))) rfl) (z_ldc z_lq22_ok 20 (q := (914, (.iaload, 1))) rfl) ?_
  refine lw_arg F Cf (j := 5) (by decide) (by decide) hk (lv_at hl 0 rfl) (lv_at hl 3 rfl) (ins := .iadd) (n2 := 0) (z_ldc z_lq22_ok 21 (q := (915, (.aload_n 0, 1))) rfl) (z_ldc z_lq22_ok 22 (q := (916, (.iload_n 3, 1))) rfl) (Or.inl ⟨(z_ldc z_lq22_ok 23 (q := (917, (.iconst 5, 1))) rfl), rfl⟩) (z_ldc z_lq22_ok 24 (q := (918, (.iadd, 1))) rfl) (z_ldc z_lq22_ok 25 (q := (919, (.iaload, 1))) rfl) ?_
  refine lw_arg F Cf (j := 6) (by decide) (by decide) hk (lv_at hl 0 rfl) (lv_at hl 3 rfl) (ins := .iadd) (n2 := 0) (z_ldc z_lq22_ok 26 (q := (920, (.aload_n 0, 1))) rfl) (z_ldc z_lq22_ok 27 (q := (921, (.iload_n 3, 1))) rfl) (Or.inr ⟨(z_ldc z_lq22_ok 28 (q := (922, (.bipush 6, 2))) rfl), rfl⟩) (z_ldc z_lq22_ok 29 (q := (924, (.iadd, 1))) rfl) (z_ldc z_lq22_ok 30 (q := (925, (.iaload, 1))) rfl) ?_
  have eS1 : (([z_I (xs (7 * k + 1)).toInt, z_I (xs (7 * k + 2)).toInt, z_I (xs (7 * k + 3)).toInt, z_I (xs (7 * k + 4)).toInt, z_I (xs (7 * k + 5)).toInt, z_I (xs (7 * k + 6)).toInt] : List z_V).map (z_v cx.2.2)).reverse ++ .ref (cx.2.2 1) :: [] = (.int (xs (7 * k + 6)) :: .int (xs (7 * k + 5)) :: .int (xs (7 * k + 4)) :: .int (xs (7 * k + 3)) :: .int (xs (7 * k + 2)) :: .int (xs (7 * k + 1)) :: .ref (cx.2.2 1) :: [] : List Value) := by
    simp only [List.map_cons, List.map_nil, lw_vI, List.reverse_cons, List.reverse_nil, List.nil_append, List.cons_append]
  show W p l e R s m #[Value.ref b] below meth c _ _ CC SS QQ (F0 m 926 ls (.int (xs (7 * k + 6)) :: .int (xs (7 * k + 5)) :: .int (xs (7 * k + 4)) :: .int (xs (7 * k + 3)) :: .int (xs (7 * k + 2)) :: .int (xs (7 * k + 1)) :: .ref (cx.2.2 1) :: []))
  rw [← eS1]
  refine lw_call F Cf (k := 189) (o := 1) (lk := (5, 154)) (t' := z_m189) rfl hCl rfl (show z_np z_m189.1 = some 6 by decide +kernel) (by decide +kernel) (by decide) (by decide +kernel) (by decide +kernel) va (by decide) hl.1 hR hCC (z_ldc z_lq22_ok 31 (q := (926, (.invokevirtual 109, 3))) rfl) (fun v1 M1 H1 locs1 hn1 hok1 hq1 Cf1 => ?_)
  obtain ⟨hty1, hq1⟩ := hq1
  obtain ⟨x1, rfl⟩ := hty1
  show W p l e R s m #[Value.ref b] below meth c H1 locs1 CC SS QQ (F0 m 929 ls [.long (Int64.ofInt x1)])
  refine lv_aload_n hx hb (z_ldc z_lq22_ok 32 (q := (929, (.aload_n 2, 1))) rfl) rfl (lv_at hl 2 rfl) ?_
  refine lw_arg F Cf1 (j := 1) (by decide) (by decide) hk (lv_at hl 0 rfl) (lv_at hl 3 rfl) (ins := .iadd) (n2 := 0) (z_ldc z_lq22_ok 33 (q := (930, (.aload_n 0, 1))) rfl) (z_ldc z_lq22_ok 34 (q := (931, (.iload_n 3, 1))) rfl) (Or.inl ⟨(z_ldc z_lq22_ok 35 (q := (932, (.iconst 1, 1))) rfl), rfl⟩) (z_ldc z_lq22_ok 36 (q := (933, (.iadd, 1))) rfl) (z_ldc z_lq22_ok 37 (q := (934, (.iaload, 1))) rfl) ?_
  refine lw_arg F Cf1 (j := 2) (by decide) (by decide) hk (lv_at hl 0 rfl) (lv_at hl 3 rfl) (ins := .iadd) (n2 := 0) (z_ldc z_lq22_ok 38 (q := (935, (.aload_n 0, 1))) rfl) (z_ldc z_lq22_ok 39 (q := (936, (.iload_n 3, 1))) rfl) (Or.inl ⟨(z_ldc z_lq22_ok 40 (q := (937, (.iconst 2, 1))) rfl), rfl⟩) (z_ldc z_lq22_ok 41 (q := (938, (.iadd, 1))) rfl) (z_ldc z_lq22_ok 42 (q := (939, (.iaload, 1))) rfl) ?_
  refine lw_arg F Cf1 (j := 3) (by decide) (by decide) hk (lv_at hl 0 rfl) (lv_at hl 3 rfl) (ins := .iadd) (n2 := 0) (z_ldc z_lq22_ok 43 (q := (940, (.aload_n 0, 1))) rfl) (z_ldc z_lq22_ok 44 (q := (941, (.iload_n 3, 1))) rfl) (Or.inl ⟨(z_ldc z_lq22_ok 45 (q := (942, (.iconst 3, 1))) rfl), rfl⟩) (z_ldc z_lq22_ok 46 (q := (943, (.iadd, 1))) rfl) (z_ldc z_lq22_ok 47 (q := (944, (.iaload, 1))) rfl) ?_
  refine lw_arg F Cf1 (j := 4) (by decide) (by decide) hk (lv_at hl 0 rfl) (lv_at hl 3 rfl) (ins := .iadd) (n2 := 0) (z_ldc z_lq22_ok 48 (q := (945, (.aload_n 0, 1))) rfl) (z_ldc z_lq22_ok 49 (q := (946, (.iload_n 3, 1))) rfl) (Or.inl ⟨(z_ldc z_lq22_ok 50 (q := (947, (.iconst 4, 1))) rfl), rfl⟩) (z_ldc z_lq22_ok 51 (q := (948, (.iadd, 1))) rfl) (z_ldc z_lq22_ok 52 (q := (949, (.iaload, 1))) rfl) ?_
  refine lw_arg F Cf1 (j := 5) (by decide) (by decide) hk (lv_at hl 0 rfl) (lv_at hl 3 rfl) (ins := .iadd) (n2 := 0) (z_ldc z_lq22_ok 53 (q := (950, (.aload_n 0, 1))) rfl) (z_ldc z_lq22_ok 54 (q := (951, (.iload_n 3, 1))) rfl) (Or.inl ⟨(z_ldc z_lq22_ok 55 (q := (952, (.iconst 5, 1))) rfl), rfl⟩) (z_ldc z_lq22_ok 56 (q := (953, (.iadd, 1))) rfl) (z_ldc z_lq22_ok 57 (q := (954, (.iaload, 1))) rfl) ?_
  refine lw_arg F Cf1 (j := 6) (by decide) (by decide) hk (lv_at hl 0 rfl) (lv_at hl 3 rfl) (ins := .iadd) (n2 := 0) (z_ldc z_lq22_ok 58 (q := (955, (.aload_n 0, 1))) rfl) (z_ldc z_lq22_ok 59 (q := (956, (.iload_n 3, 1))) rfl) (Or.inr ⟨(z_ldc z_lq22_ok 60 (q := (957, (.bipush 6, 2))) rfl), rfl⟩) (z_ldc z_lq22_ok 61 (q := (959, (.iadd, 1))) rfl) (z_ldc z_lq22_ok 62 (q := (960, (.iaload, 1))) rfl) ?_
  have eS13 : (([z_I (xs (7 * k + 1)).toInt, z_I (xs (7 * k + 2)).toInt, z_I (xs (7 * k + 3)).toInt, z_I (xs (7 * k + 4)).toInt, z_I (xs (7 * k + 5)).toInt, z_I (xs (7 * k + 6)).toInt] : List z_V).map (z_v cx.2.2)).reverse ++ .ref (cx.2.2 13) :: [.long (Int64.ofInt x1)] = (.int (xs (7 * k + 6)) :: .int (xs (7 * k + 5)) :: .int (xs (7 * k + 4)) :: .int (xs (7 * k + 3)) :: .int (xs (7 * k + 2)) :: .int (xs (7 * k + 1)) :: .ref (cx.2.2 13) :: [.long (Int64.ofInt x1)] : List Value) := by
    simp only [List.map_cons, List.map_nil, lw_vI, List.reverse_cons, List.reverse_nil, List.nil_append, List.cons_append]
  show W p l e R s m #[Value.ref b] below meth c _ _ CC SS QQ (F0 m 961 ls (.int (xs (7 * k + 6)) :: .int (xs (7 * k + 5)) :: .int (xs (7 * k + 4)) :: .int (xs (7 * k + 3)) :: .int (xs (7 * k + 2)) :: .int (xs (7 * k + 1)) :: .ref (cx.2.2 13) :: [.long (Int64.ofInt x1)]))
  rw [← eS13]
  refine lw_call F Cf1 (k := 341) (o := 13) (lk := (10, 88)) (t' := z_m341) rfl hq1 rfl (show z_np z_m341.1 = some 6 by decide +kernel) (by decide +kernel) (by decide) (by decide +kernel) (by decide +kernel) va (by simp [Value.category]) hl.1 hR hCC (z_ldc z_lq22_ok 63 (q := (961, (.invokevirtual 113, 3))) rfl) (fun v2 M2 H2 locs2 hn2 hok2 hq2 Cf2 => ?_)
  obtain ⟨rfl, hP2⟩ := hq2
  show W p l e R s m #[Value.ref b] below meth c H2 locs2 CC SS QQ (F0 m 964 ls [.long (Int64.ofInt x1), .long (Int64.ofInt x1)])
  refine W.lcmp hx hb (z_ldc z_lq22_ok 64 (q := (964, (.lcmp, 1))) rfl) ?_
  have e0 : lg_cmp (Int64.ofInt x1) (Int64.ofInt x1) = 0 := by unfold lg_cmp; rw [if_neg (Int64.lt_irrefl), if_pos rfl]
  rw [e0]
  refine lv_if_eq (tgt := 1803) hx hb (z_ldc z_lq22_ok 65 (q := (965, (.ifCond .eq 838, 3))) rfl) (by decide) (fun _ => ?_) (fun q => absurd rfl q)
  exact kk M2 H2 locs2 hP2 Cf2
def z_lq23 : List (Nat × (Instr × Nat)) := [(970, (.aload_n 1, 1)), (971, (.aload_n 0, 1)), (972, (.iload_n 3, 1)), (973, (.iconst 1, 1)), (974, (.iadd, 1)), (975, (.iaload, 1)), (976, (.aload_n 0, 1)), (977, (.iload_n 3, 1)), (978, (.iconst 2, 1)), (979, (.iadd, 1)), (980, (.iaload, 1)), (981, (.aload_n 0, 1)), (982, (.iload_n 3, 1)), (983, (.iconst 3, 1)), (984, (.iadd, 1)), (985, (.iaload, 1)), (986, (.aload_n 0, 1)), (987, (.iload_n 3, 1)), (988, (.iconst 4, 1)), (989, (.iadd, 1)), (990, (.iaload, 1)), (991, (.aload_n 0, 1)), (992, (.iload_n 3, 1)), (993, (.iconst 5, 1)), (994, (.iadd, 1)), (995, (.iaload, 1)), (996, (.invokevirtual 114, 3)), (999, (.aload_n 2, 1)), (1000, (.aload_n 0, 1)), (1001, (.iload_n 3, 1)), (1002, (.iconst 1, 1)), (1003, (.iadd, 1)), (1004, (.iaload, 1)), (1005, (.aload_n 0, 1)), (1006, (.iload_n 3, 1)), (1007, (.iconst 2, 1)), (1008, (.iadd, 1)), (1009, (.iaload, 1)), (1010, (.aload_n 0, 1)), (1011, (.iload_n 3, 1)), (1012, (.iconst 3, 1)), (1013, (.iadd, 1)), (1014, (.iaload, 1)), (1015, (.aload_n 0, 1)), (1016, (.iload_n 3, 1)), (1017, (.iconst 4, 1)), (1018, (.iadd, 1)), (1019, (.iaload, 1)), (1020, (.aload_n 0, 1)), (1021, (.iload_n 3, 1)), (1022, (.iconst 5, 1)), (1023, (.iadd, 1)), (1024, (.iaload, 1)), (1025, (.invokevirtual 117, 3)), (1028, (.if_icmp .eq 775, 3))]
theorem z_lq23_ok : z_lq23.all (fun q => decide (decode code q.1 = .ok q.2)) = true := by decide +kernel
theorem lw_case23 (F : z_lfix cx p s m meth c b L xs) (Cf : z_lcfg cx s H locs M) {k d : Nat} {P : z_M → Prop} (hk : 7 * k + 7 ≤ L) (hl : lv_has ls 4 [(0, .ref b), (1, .ref (cx.2.2 1)), (2, .ref (cx.2.2 13)), (3, .int (nI (7 * k)))]) (hR : d + 2 ≤ R.frames ∧ 64 * (d + 2) ≤ R.locals) (hCC : CC ≤ R.cells ∧ SS ≤ R.slots)
    (hCl : z_Cl 0 d 190 [z_R 1, z_I (xs (7 * k + 1)).toInt, z_I (xs (7 * k + 2)).toInt, z_I (xs (7 * k + 3)).toInt, z_I (xs (7 * k + 4)).toInt, z_I (xs (7 * k + 5)).toInt] M (fun v M1 => (∃ x, v = z_I x) ∧ z_Cl 0 d 342 [z_R 13, z_I (xs (7 * k + 1)).toInt, z_I (xs (7 * k + 2)).toInt, z_I (xs (7 * k + 3)).toInt, z_I (xs (7 * k + 4)).toInt, z_I (xs (7 * k + 5)).toInt] M1 (fun v2 M2 => v2 = v ∧ P M2)))
    (kk : ∀ (M2 : z_M) (H1 : Heap) (locs1 : List Loc), P M2 → z_lcfg cx s H1 locs1 M2 → W p l e R s m #[Value.ref b] below meth c H1 locs1 CC SS QQ (F0 m 1803 ls [])) : W p l e R s m #[Value.ref b] below meth c H locs CC SS QQ (F0 m 970 ls []) := by
  obtain ⟨hx, hb, -⟩ := id F.1
  have va : ∀ v ∈ [(z_I (xs (7 * k + 1)).toInt : z_V), (z_I (xs (7 * k + 2)).toInt : z_V), (z_I (xs (7 * k + 3)).toInt : z_V), (z_I (xs (7 * k + 4)).toInt : z_V), (z_I (xs (7 * k + 5)).toInt : z_V)], z_vok 0 v := by
    intro v hv
    simp only [List.mem_cons, List.not_mem_nil, or_false] at hv
    rcases hv with rfl | rfl | rfl | rfl | rfl <;> exact z_n_in _
  refine lv_aload_n hx hb (z_ldc z_lq23_ok 0 (q := (970, (.aload_n 1, 1))) rfl) rfl (lv_at hl 1 rfl) ?_
  refine lw_arg F Cf (j := 1) (by decide) (by decide) hk (lv_at hl 0 rfl) (lv_at hl 3 rfl) (ins := .iadd) (n2 := 0) (z_ldc z_lq23_ok 1 (q := (971, (.aload_n 0, 1))) rfl) (z_ldc z_lq23_ok 2 (q := (972, (.iload_n 3, 1))) rfl) (Or.inl ⟨(z_ldc z_lq23_ok 3 (q := (973, (.iconst 1, 1))) rfl), rfl⟩) (z_ldc z_lq23_ok 4 (q := (974, (.iadd, 1))) rfl) (z_ldc z_lq23_ok 5 (q := (975, (.iaload, 1))) rfl) ?_
  refine lw_arg F Cf (j := 2) (by decide) (by decide) hk (lv_at hl 0 rfl) (lv_at hl 3 rfl) (ins := .iadd) (n2 := 0) (z_ldc z_lq23_ok 6 (q := (976, (.aload_n 0, 1))) rfl) (z_ldc z_lq23_ok 7 (q := (977, (.iload_n 3, 1))) rfl) (Or.inl ⟨(z_ldc z_lq23_ok 8 (q := (978, (.iconst 2, 1))) rfl), rfl⟩) (z_ldc z_lq23_ok 9 (q := (979, (.iadd, 1))) rfl) (z_ldc z_lq23_ok 10 (q := (980, (.iaload, 1))) rfl) ?_
  refine lw_arg F Cf (j := 3) (by decide) (by decide) hk (lv_at hl 0 rfl) (lv_at hl 3 rfl) (ins := .iadd) (n2 := 0) (z_ldc z_lq23_ok 11 (q := (981, (.aload_n 0, 1))) rfl) (z_ldc z_lq23_ok 12 (q := (982, (.iload_n 3, 1))) rfl) (Or.inl ⟨(z_ldc z_lq23_ok 13 (q := (983, (.iconst 3, 1))) rfl), rfl⟩) (z_ldc z_lq23_ok 14 (q := (984, (.iadd, 1))) rfl) (z_ldc z_lq23_ok 15 (q := (985, (.iaload, 1))) rfl) ?_
  refine lw_arg F Cf (j := 4) (by decide) (by decide) hk (lv_at hl 0 rfl) (lv_at hl 3 rfl) (ins := .iadd) (n2 := 0) (z_ldc z_lq23_ok 16 (q := (986, (.aload_n 0, 1))) rfl) (z_ldc z_lq23_ok 17 (q := (987, (.iload_n 3, 1))) rfl) (Or.inl ⟨(z_ldc z_lq23_ok 18 (q := (988, (.iconst 4, 1))) rfl), rfl⟩) (z_ldc z_lq23_ok 19 (q := (989, (.iadd, 1))) rfl) (z_ldc z_lq23_ok 20 (q := (990, (.iaload, 1))) rfl) ?_
  refine lw_arg F Cf (j := 5) (by decide) (by decide) hk (lv_at hl 0 rfl) (lv_at hl 3 rfl) (ins := .iadd) (n2 := 0) (z_ldc z_lq23_ok 21 (q := (991, (.aload_n 0, 1))) rfl) (z_ldc z_lq23_ok 22 (q := (992, (.iload_n 3, 1))) rfl) (Or.inl ⟨(z_ldc z_lq23_ok 23 (q := (993, (.iconst 5, 1))) rfl), rfl⟩) (z_ldc z_lq23_ok 24 (q := (994, (.iadd, 1))) rfl) (z_ldc z_lq23_ok 25 (q := (995, (.iaload, 1))) rfl) ?_
  have eS1 : (([z_I (xs (7 * k + 1)).toInt, z_I (xs (7 * k + 2)).toInt, z_I (xs (7 * k + 3)).toInt, z_I (xs (7 * k + 4)).toInt, z_I (xs (7 * k + 5)).toInt] : List z_V).map (z_v cx.2.2)).reverse ++ .ref (cx.2.2 1) :: [] = (.int (xs (7 * k + 5)) :: .int (xs (7 * k + 4)) :: .int (xs (7 * k + 3)) :: .int (xs (7 * k + 2)) :: .int (xs (7 * k + 1)) :: .ref (cx.2.2 1) :: [] : List Value) := by
    simp only [List.map_cons, List.map_nil, lw_vI, List.reverse_cons, List.reverse_nil, List.nil_append, List.cons_append]
  show W p l e R s m #[Value.ref b] below meth c _ _ CC SS QQ (F0 m 996 ls (.int (xs (7 * k + 5)) :: .int (xs (7 * k + 4)) :: .int (xs (7 * k + 3)) :: .int (xs (7 * k + 2)) :: .int (xs (7 * k + 1)) :: .ref (cx.2.2 1) :: []))
  rw [← eS1]
  refine lw_call F Cf (k := 190) (o := 1) (lk := (5, 167)) (t' := z_m190) rfl hCl rfl (show z_np z_m190.1 = some 5 by decide +kernel) (by decide +kernel) (by decide) (by decide +kernel) (by decide +kernel) va (by decide) hl.1 hR hCC (z_ldc z_lq23_ok 26 (q := (996, (.invokevirtual 114, 3))) rfl) (fun v1 M1 H1 locs1 hn1 hok1 hq1 Cf1 => ?_)
  obtain ⟨hty1, hq1⟩ := hq1
  obtain ⟨x1, rfl⟩ := hty1
  show W p l e R s m #[Value.ref b] below meth c H1 locs1 CC SS QQ (F0 m 999 ls [.int (Int32.ofInt x1)])
  refine lv_aload_n hx hb (z_ldc z_lq23_ok 27 (q := (999, (.aload_n 2, 1))) rfl) rfl (lv_at hl 2 rfl) ?_
  refine lw_arg F Cf1 (j := 1) (by decide) (by decide) hk (lv_at hl 0 rfl) (lv_at hl 3 rfl) (ins := .iadd) (n2 := 0) (z_ldc z_lq23_ok 28 (q := (1000, (.aload_n 0, 1))) rfl) (z_ldc z_lq23_ok 29 (q := (1001, (.iload_n 3, 1))) rfl) (Or.inl ⟨(z_ldc z_lq23_ok 30 (q := (1002, (.iconst 1, 1))) rfl), rfl⟩) (z_ldc z_lq23_ok 31 (q := (1003, (.iadd, 1))) rfl) (z_ldc z_lq23_ok 32 (q := (1004, (.iaload, 1))) rfl) ?_
  refine lw_arg F Cf1 (j := 2) (by decide) (by decide) hk (lv_at hl 0 rfl) (lv_at hl 3 rfl) (ins := .iadd) (n2 := 0) (z_ldc z_lq23_ok 33 (q := (1005, (.aload_n 0, 1))) rfl) (z_ldc z_lq23_ok 34 (q := (1006, (.iload_n 3, 1))) rfl) (Or.inl ⟨(z_ldc z_lq23_ok 35 (q := (1007, (.iconst 2, 1))) rfl), rfl⟩) (z_ldc z_lq23_ok 36 (q := (1008, (.iadd, 1))) rfl) (z_ldc z_lq23_ok 37 (q := (1009, (.iaload, 1))) rfl) ?_
  refine lw_arg F Cf1 (j := 3) (by decide) (by decide) hk (lv_at hl 0 rfl) (lv_at hl 3 rfl) (ins := .iadd) (n2 := 0) (z_ldc z_lq23_ok 38 (q := (1010, (.aload_n 0, 1))) rfl) (z_ldc z_lq23_ok 39 (q := (1011, (.iload_n 3, 1))) rfl) (Or.inl ⟨(z_ldc z_lq23_ok 40 (q := (1012, (.iconst 3, 1))) rfl), rfl⟩) (z_ldc z_lq23_ok 41 (q := (1013, (.iadd, 1))) rfl) (z_ldc z_lq23_ok 42 (q := (1014, (.iaload, 1))) rfl) ?_
  refine lw_arg F Cf1 (j := 4) (by decide) (by decide) hk (lv_at hl 0 rfl) (lv_at hl 3 rfl) (ins := .iadd) (n2 := 0) (z_ldc z_lq23_ok 43 (q := (1015, (.aload_n 0, 1))) rfl) (z_ldc z_lq23_ok 44 (q := (1016, (.iload_n 3, 1))) rfl) (Or.inl ⟨(z_ldc z_lq23_ok 45 (q := (1017, (.iconst 4, 1))) rfl), rfl⟩) (z_ldc z_lq23_ok 46 (q := (1018, (.iadd, 1))) rfl) (z_ldc z_lq23_ok 47 (q := (1019, (.iaload, 1))) rfl) ?_
  refine lw_arg F Cf1 (j := 5) (by decide) (by decide) hk (lv_at hl 0 rfl) (lv_at hl 3 rfl) (ins := .iadd) (n2 := 0) (z_ldc z_lq23_ok 48 (q := (1020, (.aload_n 0, 1))) rfl) (z_ldc z_lq23_ok 49 (q := (1021, (.iload_n 3, 1))) rfl) (Or.inl ⟨(z_ldc z_lq23_ok 50 (q := (1022, (.iconst 5, 1))) rfl), rfl⟩) (z_ldc z_lq23_ok 51 (q := (1023, (.iadd, 1))) rfl) (z_ldc z_lq23_ok 52 (q := (1024, (.iaload, 1))) rfl) ?_
  have eS13 : (([z_I (xs (7 * k + 1)).toInt, z_I (xs (7 * k + 2)).toInt, z_I (xs (7 * k + 3)).toInt, z_I (xs (7 * k + 4)).toInt, z_I (xs (7 * k + 5)).toInt] : List z_V).map (z_v cx.2.2)).reverse ++ .ref (cx.2.2 13) :: [.int (Int32.ofInt x1)] = (.int (xs (7 * k + 5)) :: .int (xs (7 * k + 4)) :: .int (xs (7 * k + 3)) :: .int (xs (7 * k + 2)) :: .int (xs (7 * k + 1)) :: .ref (cx.2.2 13) :: [.int (Int32.ofInt x1)] : List Value) := by
    simp only [List.map_cons, List.map_nil, lw_vI, List.reverse_cons, List.reverse_nil, List.nil_append, List.cons_append]
  show W p l e R s m #[Value.ref b] below meth c _ _ CC SS QQ (F0 m 1025 ls (.int (xs (7 * k + 5)) :: .int (xs (7 * k + 4)) :: .int (xs (7 * k + 3)) :: .int (xs (7 * k + 2)) :: .int (xs (7 * k + 1)) :: .ref (cx.2.2 13) :: [.int (Int32.ofInt x1)]))
  rw [← eS13]
  refine lw_call F Cf1 (k := 342) (o := 13) (lk := (10, 100)) (t' := z_m342) rfl hq1 rfl (show z_np z_m342.1 = some 5 by decide +kernel) (by decide +kernel) (by decide) (by decide +kernel) (by decide +kernel) va (by simp [Value.category]) hl.1 hR hCC (z_ldc z_lq23_ok 53 (q := (1025, (.invokevirtual 117, 3))) rfl) (fun v2 M2 H2 locs2 hn2 hok2 hq2 Cf2 => ?_)
  obtain ⟨rfl, hP2⟩ := hq2
  show W p l e R s m #[Value.ref b] below meth c H2 locs2 CC SS QQ (F0 m 1028 ls [.int (Int32.ofInt x1), .int (Int32.ofInt x1)])
  refine lv_icmp_eq (tgt := 1803) hx hb (z_ldc z_lq23_ok 54 (q := (1028, (.if_icmp .eq 775, 3))) rfl) (by decide) (fun _ => ?_) (fun q => absurd rfl q)
  exact kk M2 H2 locs2 hP2 Cf2
def z_lq24 : List (Nat × (Instr × Nat)) := [(1033, (.aload_n 1, 1)), (1034, (.aload_n 0, 1)), (1035, (.iload_n 3, 1)), (1036, (.iconst 1, 1)), (1037, (.iadd, 1)), (1038, (.iaload, 1)), (1039, (.aload_n 0, 1)), (1040, (.iload_n 3, 1)), (1041, (.iconst 2, 1)), (1042, (.iadd, 1)), (1043, (.iaload, 1)), (1044, (.aload_n 0, 1)), (1045, (.iload_n 3, 1)), (1046, (.iconst 3, 1)), (1047, (.iadd, 1)), (1048, (.iaload, 1)), (1049, (.aload_n 0, 1)), (1050, (.iload_n 3, 1)), (1051, (.iconst 4, 1)), (1052, (.iadd, 1)), (1053, (.iaload, 1)), (1054, (.invokevirtual 118, 3)), (1057, (.aload_n 2, 1)), (1058, (.aload_n 0, 1)), (1059, (.iload_n 3, 1)), (1060, (.iconst 1, 1)), (1061, (.iadd, 1)), (1062, (.iaload, 1)), (1063, (.aload_n 0, 1)), (1064, (.iload_n 3, 1)), (1065, (.iconst 2, 1)), (1066, (.iadd, 1)), (1067, (.iaload, 1)), (1068, (.aload_n 0, 1)), (1069, (.iload_n 3, 1)), (1070, (.iconst 3, 1)), (1071, (.iadd, 1)), (1072, (.iaload, 1)), (1073, (.aload_n 0, 1)), (1074, (.iload_n 3, 1)), (1075, (.iconst 4, 1)), (1076, (.iadd, 1)), (1077, (.iaload, 1)), (1078, (.invokevirtual 122, 3)), (1081, (.if_icmp .eq 722, 3))]
theorem z_lq24_ok : z_lq24.all (fun q => decide (decode code q.1 = .ok q.2)) = true := by decide +kernel
theorem lw_case24 (F : z_lfix cx p s m meth c b L xs) (Cf : z_lcfg cx s H locs M) {k d : Nat} {P : z_M → Prop} (hk : 7 * k + 7 ≤ L) (hl : lv_has ls 4 [(0, .ref b), (1, .ref (cx.2.2 1)), (2, .ref (cx.2.2 13)), (3, .int (nI (7 * k)))]) (hR : d + 2 ≤ R.frames ∧ 64 * (d + 2) ≤ R.locals) (hCC : CC ≤ R.cells ∧ SS ≤ R.slots)
    (hCl : z_Cl 0 d 191 [z_R 1, z_I (xs (7 * k + 1)).toInt, z_I (xs (7 * k + 2)).toInt, z_I (xs (7 * k + 3)).toInt, z_I (xs (7 * k + 4)).toInt] M (fun v M1 => (∃ x, v = z_I x) ∧ z_Cl 0 d 343 [z_R 13, z_I (xs (7 * k + 1)).toInt, z_I (xs (7 * k + 2)).toInt, z_I (xs (7 * k + 3)).toInt, z_I (xs (7 * k + 4)).toInt] M1 (fun v2 M2 => v2 = v ∧ P M2)))
    (kk : ∀ (M2 : z_M) (H1 : Heap) (locs1 : List Loc), P M2 → z_lcfg cx s H1 locs1 M2 → W p l e R s m #[Value.ref b] below meth c H1 locs1 CC SS QQ (F0 m 1803 ls [])) : W p l e R s m #[Value.ref b] below meth c H locs CC SS QQ (F0 m 1033 ls []) := by
  obtain ⟨hx, hb, -⟩ := id F.1
  have va : ∀ v ∈ [(z_I (xs (7 * k + 1)).toInt : z_V), (z_I (xs (7 * k + 2)).toInt : z_V), (z_I (xs (7 * k + 3)).toInt : z_V), (z_I (xs (7 * k + 4)).toInt : z_V)], z_vok 0 v := by
    intro v hv
    simp only [List.mem_cons, List.not_mem_nil, or_false] at hv
    rcases hv with rfl | rfl | rfl | rfl <;> exact z_n_in _
  refine lv_aload_n hx hb (z_ldc z_lq24_ok 0 (q := (1033, (.aload_n 1, 1))) rfl) rfl (lv_at hl 1 rfl) ?_
  refine lw_arg F Cf (j := 1) (by decide) (by decide) hk (lv_at hl 0 rfl) (lv_at hl 3 rfl) (ins := .iadd) (n2 := 0) (z_ldc z_lq24_ok 1 (q := (1034, (.aload_n 0, 1))) rfl) (z_ldc z_lq24_ok 2 (q := (1035, (.iload_n 3, 1))) rfl) (Or.inl ⟨(z_ldc z_lq24_ok 3 (q := (1036, (.iconst 1, 1))) rfl), rfl⟩) (z_ldc z_lq24_ok 4 (q := (1037, (.iadd, 1))) rfl) (z_ldc z_lq24_ok 5 (q := (1038, (.iaload, 1))) rfl) ?_
  refine lw_arg F Cf (j := 2) (by decide) (by decide) hk (lv_at hl 0 rfl) (lv_at hl 3 rfl) (ins := .iadd) (n2 := 0) (z_ldc z_lq24_ok 6 (q := (1039, (.aload_n 0, 1))) rfl) (z_ldc z_lq24_ok 7 (q := (1040, (.iload_n 3, 1))) rfl) (Or.inl ⟨(z_ldc z_lq24_ok 8 (q := (1041, (.iconst 2, 1))) rfl), rfl⟩) (z_ldc z_lq24_ok 9 (q := (1042, (.iadd, 1))) rfl) (z_ldc z_lq24_ok 10 (q := (1043, (.iaload, 1))) rfl) ?_
  refine lw_arg F Cf (j := 3) (by decide) (by decide) hk (lv_at hl 0 rfl) (lv_at hl 3 rfl) (ins := .iadd) (n2 := 0) (z_ldc z_lq24_ok 11 (q := (1044, (.aload_n 0, 1))) rfl) (z_ldc z_lq24_ok 12 (q := (1045, (.iload_n 3, 1))) rfl) (Or.inl ⟨(z_ldc z_lq24_ok 13 (q := (1046, (.iconst 3, 1))) rfl), rfl⟩) (z_ldc z_lq24_ok 14 (q := (1047, (.iadd, 1))) rfl) (z_ldc z_lq24_ok 15 (q := (1048, (.iaload, 1))) rfl) ?_
  refine lw_arg F Cf (j := 4) (by decide) (by decide) hk (lv_at hl 0 rfl) (lv_at hl 3 rfl) (ins := .iadd) (n2 := 0) (z_ldc z_lq24_ok 16 (q := (1049, (.aload_n 0, 1))) rfl) (z_ldc z_lq24_ok 17 (q := (1050, (.iload_n 3, 1))) rfl) (Or.inl ⟨(z_ldc z_lq24_ok 18 (q := (1051, (.iconst 4, 1))) rfl), rfl⟩) (z_ldc z_lq24_ok 19 (q := (1052, (.iadd, 1))) rfl) (z_ldc z_lq24_ok 20 (q := (1053, (.iaload, 1))) rfl) ?_
  have eS1 : (([z_I (xs (7 * k + 1)).toInt, z_I (xs (7 * k + 2)).toInt, z_I (xs (7 * k + 3)).toInt, z_I (xs (7 * k + 4)).toInt] : List z_V).map (z_v cx.2.2)).reverse ++ .ref (cx.2.2 1) :: [] = (.int (xs (7 * k + 4)) :: .int (xs (7 * k + 3)) :: .int (xs (7 * k + 2)) :: .int (xs (7 * k + 1)) :: .ref (cx.2.2 1) :: [] : List Value) := by
    simp only [List.map_cons, List.map_nil, lw_vI, List.reverse_cons, List.reverse_nil, List.nil_append, List.cons_append]
  show W p l e R s m #[Value.ref b] below meth c _ _ CC SS QQ (F0 m 1054 ls (.int (xs (7 * k + 4)) :: .int (xs (7 * k + 3)) :: .int (xs (7 * k + 2)) :: .int (xs (7 * k + 1)) :: .ref (cx.2.2 1) :: []))
  rw [← eS1]
  refine lw_call F Cf (k := 191) (o := 1) (lk := (5, 175)) (t' := z_m191) rfl hCl rfl (show z_np z_m191.1 = some 4 by decide +kernel) (by decide +kernel) (by decide) (by decide +kernel) (by decide +kernel) va (by decide) hl.1 hR hCC (z_ldc z_lq24_ok 21 (q := (1054, (.invokevirtual 118, 3))) rfl) (fun v1 M1 H1 locs1 hn1 hok1 hq1 Cf1 => ?_)
  obtain ⟨hty1, hq1⟩ := hq1
  obtain ⟨x1, rfl⟩ := hty1
  show W p l e R s m #[Value.ref b] below meth c H1 locs1 CC SS QQ (F0 m 1057 ls [.int (Int32.ofInt x1)])
  refine lv_aload_n hx hb (z_ldc z_lq24_ok 22 (q := (1057, (.aload_n 2, 1))) rfl) rfl (lv_at hl 2 rfl) ?_
  refine lw_arg F Cf1 (j := 1) (by decide) (by decide) hk (lv_at hl 0 rfl) (lv_at hl 3 rfl) (ins := .iadd) (n2 := 0) (z_ldc z_lq24_ok 23 (q := (1058, (.aload_n 0, 1))) rfl) (z_ldc z_lq24_ok 24 (q := (1059, (.iload_n 3, 1))) rfl) (Or.inl ⟨(z_ldc z_lq24_ok 25 (q := (1060, (.iconst 1, 1))) rfl), rfl⟩) (z_ldc z_lq24_ok 26 (q := (1061, (.iadd, 1))) rfl) (z_ldc z_lq24_ok 27 (q := (1062, (.iaload, 1))) rfl) ?_
  refine lw_arg F Cf1 (j := 2) (by decide) (by decide) hk (lv_at hl 0 rfl) (lv_at hl 3 rfl) (ins := .iadd) (n2 := 0) (z_ldc z_lq24_ok 28 (q := (1063, (.aload_n 0, 1))) rfl) (z_ldc z_lq24_ok 29 (q := (1064, (.iload_n 3, 1))) rfl) (Or.inl ⟨(z_ldc z_lq24_ok 30 (q := (1065, (.iconst 2, 1))) rfl), rfl⟩) (z_ldc z_lq24_ok 31 (q := (1066, (.iadd, 1))) rfl) (z_ldc z_lq24_ok 32 (q := (1067, (.iaload, 1))) rfl) ?_
  refine lw_arg F Cf1 (j := 3) (by decide) (by decide) hk (lv_at hl 0 rfl) (lv_at hl 3 rfl) (ins := .iadd) (n2 := 0) (z_ldc z_lq24_ok 33 (q := (1068, (.aload_n 0, 1))) rfl) (z_ldc z_lq24_ok 34 (q := (1069, (.iload_n 3, 1))) rfl) (Or.inl ⟨(z_ldc z_lq24_ok 35 (q := (1070, (.iconst 3, 1))) rfl), rfl⟩) (z_ldc z_lq24_ok 36 (q := (1071, (.iadd, 1))) rfl) (z_ldc z_lq24_ok 37 (q := (1072, (.iaload, 1))) rfl) ?_
  refine lw_arg F Cf1 (j := 4) (by decide) (by decide) hk (lv_at hl 0 rfl) (lv_at hl 3 rfl) (ins := .iadd) (n2 := 0) (z_ldc z_lq24_ok 38 (q := (1073, (.aload_n 0, 1))) rfl) (z_ldc z_lq24_ok 39 (q := (1074, (.iload_n 3, 1))) rfl) (Or.inl ⟨(z_ldc z_lq24_ok 40 (q := (1075, (.iconst 4, 1))) rfl), rfl⟩) (z_ldc z_lq24_ok 41 (q := (1076, (.iadd, 1))) rfl) (z_ldc z_lq24_ok 42 (q := (1077, (.iaload, 1))) rfl) ?_
  have eS13 : (([z_I (xs (7 * k + 1)).toInt, z_I (xs (7 * k + 2)).toInt, z_I (xs (7 * k + 3)).toInt, z_I (xs (7 * k + 4)).toInt] : List z_V).map (z_v cx.2.2)).reverse ++ .ref (cx.2.2 13) :: [.int (Int32.ofInt x1)] = (.int (xs (7 * k + 4)) :: .int (xs (7 * k + 3)) :: .int (xs (7 * k + 2)) :: .int (xs (7 * k + 1)) :: .ref (cx.2.2 13) :: [.int (Int32.ofInt x1)] : List Value) := by
    simp only [List.map_cons, List.map_nil, lw_vI, List.reverse_cons, List.reverse_nil, List.nil_append, List.cons_append]
  show W p l e R s m #[Value.ref b] below meth c _ _ CC SS QQ (F0 m 1078 ls (.int (xs (7 * k + 4)) :: .int (xs (7 * k + 3)) :: .int (xs (7 * k + 2)) :: .int (xs (7 * k + 1)) :: .ref (cx.2.2 13) :: [.int (Int32.ofInt x1)]))
  rw [← eS13]
  refine lw_call F Cf1 (k := 343) (o := 13) (lk := (10, 104)) (t' := z_m343) rfl hq1 rfl (show z_np z_m343.1 = some 4 by decide +kernel) (by decide +kernel) (by decide) (by decide +kernel) (by decide +kernel) va (by simp [Value.category]) hl.1 hR hCC (z_ldc z_lq24_ok 43 (q := (1078, (.invokevirtual 122, 3))) rfl) (fun v2 M2 H2 locs2 hn2 hok2 hq2 Cf2 => ?_)
  obtain ⟨rfl, hP2⟩ := hq2
  show W p l e R s m #[Value.ref b] below meth c H2 locs2 CC SS QQ (F0 m 1081 ls [.int (Int32.ofInt x1), .int (Int32.ofInt x1)])
  refine lv_icmp_eq (tgt := 1803) hx hb (z_ldc z_lq24_ok 44 (q := (1081, (.if_icmp .eq 722, 3))) rfl) (by decide) (fun _ => ?_) (fun q => absurd rfl q)
  exact kk M2 H2 locs2 hP2 Cf2
def z_lq25 : List (Nat × (Instr × Nat)) := [(1086, (.aload_n 1, 1)), (1087, (.aload_n 0, 1)), (1088, (.iload_n 3, 1)), (1089, (.iconst 1, 1)), (1090, (.iadd, 1)), (1091, (.iaload, 1)), (1092, (.invokevirtual 123, 3)), (1095, (.aload_n 2, 1)), (1096, (.aload_n 0, 1)), (1097, (.iload_n 3, 1)), (1098, (.iconst 1, 1)), (1099, (.iadd, 1)), (1100, (.iaload, 1)), (1101, (.invokevirtual 126, 3)), (1104, (.if_icmp .eq 699, 3))]
theorem z_lq25_ok : z_lq25.all (fun q => decide (decode code q.1 = .ok q.2)) = true := by decide +kernel
theorem lw_case25 (F : z_lfix cx p s m meth c b L xs) (Cf : z_lcfg cx s H locs M) {k d : Nat} {P : z_M → Prop} (hk : 7 * k + 7 ≤ L) (hl : lv_has ls 4 [(0, .ref b), (1, .ref (cx.2.2 1)), (2, .ref (cx.2.2 13)), (3, .int (nI (7 * k)))]) (hR : d + 2 ≤ R.frames ∧ 64 * (d + 2) ≤ R.locals) (hCC : CC ≤ R.cells ∧ SS ≤ R.slots)
    (hCl : z_Cl 0 d 192 [z_R 1, z_I (xs (7 * k + 1)).toInt] M (fun v M1 => (∃ x, v = z_I x) ∧ z_Cl 0 d 345 [z_R 13, z_I (xs (7 * k + 1)).toInt] M1 (fun v2 M2 => v2 = v ∧ P M2)))
    (kk : ∀ (M2 : z_M) (H1 : Heap) (locs1 : List Loc), P M2 → z_lcfg cx s H1 locs1 M2 → W p l e R s m #[Value.ref b] below meth c H1 locs1 CC SS QQ (F0 m 1803 ls [])) : W p l e R s m #[Value.ref b] below meth c H locs CC SS QQ (F0 m 1086 ls []) := by
  obtain ⟨hx, hb, -⟩ := id F.1
  have va : ∀ v ∈ [(z_I (xs (7 * k + 1)).toInt : z_V)], z_vok 0 v := by
    intro v hv
    simp only [List.mem_cons, List.not_mem_nil, or_false] at hv
    rcases hv with rfl <;> exact z_n_in _
  refine lv_aload_n hx hb (z_ldc z_lq25_ok 0 (q := (1086, (.aload_n 1, 1))) rfl) rfl (lv_at hl 1 rfl) ?_
  refine lw_arg F Cf (j := 1) (by decide) (by decide) hk (lv_at hl 0 rfl) (lv_at hl 3 rfl) (ins := .iadd) (n2 := 0) (z_ldc z_lq25_ok 1 (q := (1087, (.aload_n 0, 1))) rfl) (z_ldc z_lq25_ok 2 (q := (1088, (.iload_n 3, 1))) rfl) (Or.inl ⟨(z_ldc z_lq25_ok 3 (q := (1089, (.iconst 1, 1))) rfl), rfl⟩) (z_ldc z_lq25_ok 4 (q := (1090, (.iadd, 1))) rfl) (z_ldc z_lq25_ok 5 (q := (1091, (.iaload, 1))) rfl) ?_
  have eS1 : (([z_I (xs (7 * k + 1)).toInt] : List z_V).map (z_v cx.2.2)).reverse ++ .ref (cx.2.2 1) :: [] = (.int (xs (7 * k + 1)) :: .ref (cx.2.2 1) :: [] : List Value) := by
    simp only [List.map_cons, List.map_nil, lw_vI, List.reverse_cons, List.reverse_nil, List.nil_append, List.cons_append]
  show W p l e R s m #[Value.ref b] below meth c _ _ CC SS QQ (F0 m 1092 ls (.int (xs (7 * k + 1)) :: .ref (cx.2.2 1) :: []))
  rw [← eS1]
  refine lw_call F Cf (k := 192) (o := 1) (lk := (5, 184)) (t' := z_m192) rfl hCl rfl (show z_np z_m192.1 = some 1 by decide +kernel) (by decide +kernel) (by decide) (by decide +kernel) (by decide +kernel) va (by decide) hl.1 hR hCC (z_ldc z_lq25_ok 6 (q := (1092, (.invokevirtual 123, 3))) rfl) (fun v1 M1 H1 locs1 hn1 hok1 hq1 Cf1 => ?_)
  obtain ⟨hty1, hq1⟩ := hq1
  obtain ⟨x1, rfl⟩ := hty1
  show W p l e R s m #[Value.ref b] below meth c H1 locs1 CC SS QQ (F0 m 1095 ls [.int (Int32.ofInt x1)])
  refine lv_aload_n hx hb (z_ldc z_lq25_ok 7 (q := (1095, (.aload_n 2, 1))) rfl) rfl (lv_at hl 2 rfl) ?_
  refine lw_arg F Cf1 (j := 1) (by decide) (by decide) hk (lv_at hl 0 rfl) (lv_at hl 3 rfl) (ins := .iadd) (n2 := 0) (z_ldc z_lq25_ok 8 (q := (1096, (.aload_n 0, 1))) rfl) (z_ldc z_lq25_ok 9 (q := (1097, (.iload_n 3, 1))) rfl) (Or.inl ⟨(z_ldc z_lq25_ok 10 (q := (1098, (.iconst 1, 1))) rfl), rfl⟩) (z_ldc z_lq25_ok 11 (q := (1099, (.iadd, 1))) rfl) (z_ldc z_lq25_ok 12 (q := (1100, (.iaload, 1))) rfl) ?_
  have eS13 : (([z_I (xs (7 * k + 1)).toInt] : List z_V).map (z_v cx.2.2)).reverse ++ .ref (cx.2.2 13) :: [.int (Int32.ofInt x1)] = (.int (xs (7 * k + 1)) :: .ref (cx.2.2 13) :: [.int (Int32.ofInt x1)] : List Value) := by
    simp only [List.map_cons, List.map_nil, lw_vI, List.reverse_cons, List.reverse_nil, List.nil_append, List.cons_append]
  show W p l e R s m #[Value.ref b] below meth c _ _ CC SS QQ (F0 m 1101 ls (.int (xs (7 * k + 1)) :: .ref (cx.2.2 13) :: [.int (Int32.ofInt x1)]))
  rw [← eS13]
  refine lw_call F Cf1 (k := 345) (o := 13) (lk := (10, 108)) (t' := z_m345) rfl hq1 rfl (show z_np z_m345.1 = some 1 by decide +kernel) (by decide +kernel) (by decide) (by decide +kernel) (by decide +kernel) va (by simp [Value.category]) hl.1 hR hCC (z_ldc z_lq25_ok 13 (q := (1101, (.invokevirtual 126, 3))) rfl) (fun v2 M2 H2 locs2 hn2 hok2 hq2 Cf2 => ?_)
  obtain ⟨rfl, hP2⟩ := hq2
  show W p l e R s m #[Value.ref b] below meth c H2 locs2 CC SS QQ (F0 m 1104 ls [.int (Int32.ofInt x1), .int (Int32.ofInt x1)])
  refine lv_icmp_eq (tgt := 1803) hx hb (z_ldc z_lq25_ok 14 (q := (1104, (.if_icmp .eq 699, 3))) rfl) (by decide) (fun _ => ?_) (fun q => absurd rfl q)
  exact kk M2 H2 locs2 hP2 Cf2
def z_lq26 : List (Nat × (Instr × Nat)) := [(1109, (.aload_n 1, 1)), (1110, (.aload_n 0, 1)), (1111, (.iload_n 3, 1)), (1112, (.iconst 1, 1)), (1113, (.iadd, 1)), (1114, (.iaload, 1)), (1115, (.aload_n 0, 1)), (1116, (.iload_n 3, 1)), (1117, (.iconst 2, 1)), (1118, (.iadd, 1)), (1119, (.iaload, 1)), (1120, (.aload_n 0, 1)), (1121, (.iload_n 3, 1)), (1122, (.iconst 3, 1)), (1123, (.iadd, 1)), (1124, (.iaload, 1)), (1125, (.aload_n 0, 1)), (1126, (.iload_n 3, 1)), (1127, (.iconst 4, 1)), (1128, (.iadd, 1)), (1129, (.iaload, 1)), (1130, (.invokevirtual 127, 3)), (1133, (.aload_n 2, 1)), (1134, (.aload_n 0, 1)), (1135, (.iload_n 3, 1)), (1136, (.iconst 1, 1)), (1137, (.iadd, 1)), (1138, (.iaload, 1)), (1139, (.aload_n 0, 1)), (1140, (.iload_n 3, 1)), (1141, (.iconst 2, 1)), (1142, (.iadd, 1)), (1143, (.iaload, 1)), (1144, (.aload_n 0, 1)), (1145, (.iload_n 3, 1)), (1146, (.iconst 3, 1)), (1147, (.iadd, 1)), (1148, (.iaload, 1)), (1149, (.aload_n 0, 1)), (1150, (.iload_n 3, 1)), (1151, (.iconst 4, 1)), (1152, (.iadd, 1)), (1153, (.iaload, 1)), (1154, (.invokevirtual 130, 3)), (1157, (.if_icmp .eq 646, 3))]
theorem z_lq26_ok : z_lq26.all (fun q => decide (decode code q.1 = .ok q.2)) = true := by decide +kernel
theorem lw_case26 (F : z_lfix cx p s m meth c b L xs) (Cf : z_lcfg cx s H locs M) {k d : Nat} {P : z_M → Prop} (hk : 7 * k + 7 ≤ L) (hl : lv_has ls 4 [(0, .ref b), (1, .ref (cx.2.2 1)), (2, .ref (cx.2.2 13)), (3, .int (nI (7 * k)))]) (hR : d + 2 ≤ R.frames ∧ 64 * (d + 2) ≤ R.locals) (hCC : CC ≤ R.cells ∧ SS ≤ R.slots)
    (hCl : z_Cl 0 d 193 [z_R 1, z_I (xs (7 * k + 1)).toInt, z_I (xs (7 * k + 2)).toInt, z_I (xs (7 * k + 3)).toInt, z_I (xs (7 * k + 4)).toInt] M (fun v M1 => (∃ x, v = z_I x) ∧ z_Cl 0 d 346 [z_R 13, z_I (xs (7 * k + 1)).toInt, z_I (xs (7 * k + 2)).toInt, z_I (xs (7 * k + 3)).toInt, z_I (xs (7 * k + 4)).toInt] M1 (fun v2 M2 => v2 = v ∧ P M2)))
    (kk : ∀ (M2 : z_M) (H1 : Heap) (locs1 : List Loc), P M2 → z_lcfg cx s H1 locs1 M2 → W p l e R s m #[Value.ref b] below meth c H1 locs1 CC SS QQ (F0 m 1803 ls [])) : W p l e R s m #[Value.ref b] below meth c H locs CC SS QQ (F0 m 1109 ls []) := by
  obtain ⟨hx, hb, -⟩ := id F.1
  have va : ∀ v ∈ [(z_I (xs (7 * k + 1)).toInt : z_V), (z_I (xs (7 * k + 2)).toInt : z_V), (z_I (xs (7 * k + 3)).toInt : z_V), (z_I (xs (7 * k + 4)).toInt : z_V)], z_vok 0 v := by
    intro v hv
    simp only [List.mem_cons, List.not_mem_nil, or_false] at hv
    rcases hv with rfl | rfl | rfl | rfl <;> exact z_n_in _
  refine lv_aload_n hx hb (z_ldc z_lq26_ok 0 (q := (1109, (.aload_n 1, 1))) rfl) rfl (lv_at hl 1 rfl) ?_
  refine lw_arg F Cf (j := 1) (by decide) (by decide) hk (lv_at hl 0 rfl) (lv_at hl 3 rfl) (ins := .iadd) (n2 := 0) (z_ldc z_lq26_ok 1 (q := (1110, (.aload_n 0, 1))) rfl) (z_ldc z_lq26_ok 2 (q := (1111, (.iload_n 3, 1))) rfl) (Or.inl ⟨(z_ldc z_lq26_ok 3 (q := (1112, (.iconst 1, 1))) rfl), rfl⟩) (z_ldc z_lq26_ok 4 (q := (1113, (.iadd, 1))) rfl) (z_ldc z_lq26_ok 5 (q := (1114, (.iaload, 1))) rfl) ?_
  refine lw_arg F Cf (j := 2) (by decide) (by decide) hk (lv_at hl 0 rfl) (lv_at hl 3 rfl) (ins := .iadd) (n2 := 0) (z_ldc z_lq26_ok 6 (q := (1115, (.aload_n 0, 1))) rfl) (z_ldc z_lq26_ok 7 (q := (1116, (.iload_n 3, 1))) rfl) (Or.inl ⟨(z_ldc z_lq26_ok 8 (q := (1117, (.iconst 2, 1))) rfl), rfl⟩) (z_ldc z_lq26_ok 9 (q := (1118, (.iadd, 1))) rfl) (z_ldc z_lq26_ok 10 (q := (1119, (.iaload, 1))) rfl) ?_
  refine lw_arg F Cf (j := 3) (by decide) (by decide) hk (lv_at hl 0 rfl) (lv_at hl 3 rfl) (ins := .iadd) (n2 := 0) (z_ldc z_lq26_ok 11 (q := (1120, (.aload_n 0, 1))) rfl) (z_ldc z_lq26_ok 12 (q := (1121, (.iload_n 3, 1))) rfl) (Or.inl ⟨(z_ldc z_lq26_ok 13 (q := (1122, (.iconst 3, 1))) rfl), rfl⟩) (z_ldc z_lq26_ok 14 (q := (1123, (.iadd, 1))) rfl) (z_ldc z_lq26_ok 15 (q := (1124, (.iaload, 1))) rfl) ?_
  refine lw_arg F Cf (j := 4) (by decide) (by decide) hk (lv_at hl 0 rfl) (lv_at hl 3 rfl) (ins := .iadd) (n2 := 0) (z_ldc z_lq26_ok 16 (q := (1125, (.aload_n 0, 1))) rfl) (z_ldc z_lq26_ok 17 (q := (1126, (.iload_n 3, 1))) rfl) (Or.inl ⟨(z_ldc z_lq26_ok 18 (q := (1127, (.iconst 4, 1))) rfl), rfl⟩) (z_ldc z_lq26_ok 19 (q := (1128, (.iadd, 1))) rfl) (z_ldc z_lq26_ok 20 (q := (1129, (.iaload, 1))) rfl) ?_
  have eS1 : (([z_I (xs (7 * k + 1)).toInt, z_I (xs (7 * k + 2)).toInt, z_I (xs (7 * k + 3)).toInt, z_I (xs (7 * k + 4)).toInt] : List z_V).map (z_v cx.2.2)).reverse ++ .ref (cx.2.2 1) :: [] = (.int (xs (7 * k + 4)) :: .int (xs (7 * k + 3)) :: .int (xs (7 * k + 2)) :: .int (xs (7 * k + 1)) :: .ref (cx.2.2 1) :: [] : List Value) := by
    simp only [List.map_cons, List.map_nil, lw_vI, List.reverse_cons, List.reverse_nil, List.nil_append, List.cons_append]
  show W p l e R s m #[Value.ref b] below meth c _ _ CC SS QQ (F0 m 1130 ls (.int (xs (7 * k + 4)) :: .int (xs (7 * k + 3)) :: .int (xs (7 * k + 2)) :: .int (xs (7 * k + 1)) :: .ref (cx.2.2 1) :: []))
  rw [← eS1]
  refine lw_call F Cf (k := 193) (o := 1) (lk := (5, 193)) (t' := z_m193) rfl hCl rfl (show z_np z_m193.1 = some 4 by decide +kernel) (by decide +kernel) (by decide) (by decide +kernel) (by decide +kernel) va (by decide) hl.1 hR hCC (z_ldc z_lq26_ok 21 (q := (1130, (.invokevirtual 127, 3))) rfl) (fun v1 M1 H1 locs1 hn1 hok1 hq1 Cf1 => ?_)
  obtain ⟨hty1, hq1⟩ := hq1
  obtain ⟨x1, rfl⟩ := hty1
  show W p l e R s m #[Value.ref b] below meth c H1 locs1 CC SS QQ (F0 m 1133 ls [.int (Int32.ofInt x1)])
  refine lv_aload_n hx hb (z_ldc z_lq26_ok 22 (q := (1133, (.aload_n 2, 1))) rfl) rfl (lv_at hl 2 rfl) ?_
  refine lw_arg F Cf1 (j := 1) (by decide) (by decide) hk (lv_at hl 0 rfl) (lv_at hl 3 rfl) (ins := .iadd) (n2 := 0) (z_ldc z_lq26_ok 23 (q := (1134, (.aload_n 0, 1))) rfl) (z_ldc z_lq26_ok 24 (q := (1135, (.iload_n 3, 1))) rfl) (Or.inl ⟨(z_ldc z_lq26_ok 25 (q := (1136, (.iconst 1, 1))) rfl), rfl⟩) (z_ldc z_lq26_ok 26 (q := (1137, (.iadd, 1))) rfl) (z_ldc z_lq26_ok 27 (q := (1138, (.iaload, 1))) rfl) ?_
  refine lw_arg F Cf1 (j := 2) (by decide) (by decide) hk (lv_at hl 0 rfl) (lv_at hl 3 rfl) (ins := .iadd) (n2 := 0) (z_ldc z_lq26_ok 28 (q := (1139, (.aload_n 0, 1))) rfl) (z_ldc z_lq26_ok 29 (q := (1140, (.iload_n 3, 1))) rfl) (Or.inl ⟨(z_ldc z_lq26_ok 30 (q := (1141, (.iconst 2, 1))) rfl), rfl⟩) (z_ldc z_lq26_ok 31 (q := (1142, (.iadd, 1))) rfl) (z_ldc z_lq26_ok 32 (q := (1143, (.iaload, 1))) rfl) ?_
  refine lw_arg F Cf1 (j := 3) (by decide) (by decide) hk (lv_at hl 0 rfl) (lv_at hl 3 rfl) (ins := .iadd) (n2 := 0) (z_ldc z_lq26_ok 33 (q := (1144, (.aload_n 0, 1))) rfl) (z_ldc z_lq26_ok 34 (q := (1145, (.iload_n 3, 1))) rfl) (Or.inl ⟨(z_ldc z_lq26_ok 35 (q := (1146, (.iconst 3, 1))) rfl), rfl⟩) (z_ldc z_lq26_ok 36 (q := (1147, (.iadd, 1))) rfl) (z_ldc z_lq26_ok 37 (q := (1148, (.iaload, 1))) rfl) ?_
  refine lw_arg F Cf1 (j := 4) (by decide) (by decide) hk (lv_at hl 0 rfl) (lv_at hl 3 rfl) (ins := .iadd) (n2 := 0) (z_ldc z_lq26_ok 38 (q := (1149, (.aload_n 0, 1))) rfl) (z_ldc z_lq26_ok 39 (q := (1150, (.iload_n 3, 1))) rfl) (Or.inl ⟨(z_ldc z_lq26_ok 40 (q := (1151, (.iconst 4, 1))) rfl), rfl⟩) (z_ldc z_lq26_ok 41 (q := (1152, (.iadd, 1))) rfl) (z_ldc z_lq26_ok 42 (q := (1153, (.iaload, 1))) rfl) ?_
  have eS13 : (([z_I (xs (7 * k + 1)).toInt, z_I (xs (7 * k + 2)).toInt, z_I (xs (7 * k + 3)).toInt, z_I (xs (7 * k + 4)).toInt] : List z_V).map (z_v cx.2.2)).reverse ++ .ref (cx.2.2 13) :: [.int (Int32.ofInt x1)] = (.int (xs (7 * k + 4)) :: .int (xs (7 * k + 3)) :: .int (xs (7 * k + 2)) :: .int (xs (7 * k + 1)) :: .ref (cx.2.2 13) :: [.int (Int32.ofInt x1)] : List Value) := by
    simp only [List.map_cons, List.map_nil, lw_vI, List.reverse_cons, List.reverse_nil, List.nil_append, List.cons_append]
  show W p l e R s m #[Value.ref b] below meth c _ _ CC SS QQ (F0 m 1154 ls (.int (xs (7 * k + 4)) :: .int (xs (7 * k + 3)) :: .int (xs (7 * k + 2)) :: .int (xs (7 * k + 1)) :: .ref (cx.2.2 13) :: [.int (Int32.ofInt x1)]))
  rw [← eS13]
  refine lw_call F Cf1 (k := 346) (o := 13) (lk := (10, 116)) (t' := z_m346) rfl hq1 rfl (show z_np z_m346.1 = some 4 by decide +kernel) (by decide +kernel) (by decide) (by decide +kernel) (by decide +kernel) va (by simp [Value.category]) hl.1 hR hCC (z_ldc z_lq26_ok 43 (q := (1154, (.invokevirtual 130, 3))) rfl) (fun v2 M2 H2 locs2 hn2 hok2 hq2 Cf2 => ?_)
  obtain ⟨rfl, hP2⟩ := hq2
  show W p l e R s m #[Value.ref b] below meth c H2 locs2 CC SS QQ (F0 m 1157 ls [.int (Int32.ofInt x1), .int (Int32.ofInt x1)])
  refine lv_icmp_eq (tgt := 1803) hx hb (z_ldc z_lq26_ok 44 (q := (1157, (.if_icmp .eq 646, 3))) rfl) (by decide) (fun _ => ?_) (fun q => absurd rfl q)
  exact kk M2 H2 locs2 hP2 Cf2
def z_lq27 : List (Nat × (Instr × Nat)) := [(1162, (.aload_n 1, 1)), (1163, (.aload_n 0, 1)), (1164, (.iload_n 3, 1)), (1165, (.iconst 1, 1)), (1166, (.iadd, 1)), (1167, (.iaload, 1)), (1168, (.invokevirtual 131, 3)), (1171, (.aload_n 2, 1)), (1172, (.aload_n 0, 1)), (1173, (.iload_n 3, 1)), (1174, (.iconst 1, 1)), (1175, (.iadd, 1)), (1176, (.iaload, 1)), (1177, (.invokevirtual 134, 3)), (1180, (.if_icmp .eq 623, 3))]
theorem z_lq27_ok : z_lq27.all (fun q => decide (decode code q.1 = .ok q.2)) = true := by decide +kernel
theorem lw_case27 (F : z_lfix cx p s m meth c b L xs) (Cf : z_lcfg cx s H locs M) {k d : Nat} {P : z_M → Prop} (hk : 7 * k + 7 ≤ L) (hl : lv_has ls 4 [(0, .ref b), (1, .ref (cx.2.2 1)), (2, .ref (cx.2.2 13)), (3, .int (nI (7 * k)))]) (hR : d + 2 ≤ R.frames ∧ 64 * (d + 2) ≤ R.locals) (hCC : CC ≤ R.cells ∧ SS ≤ R.slots)
    (hCl : z_Cl 0 d 194 [z_R 1, z_I (xs (7 * k + 1)).toInt] M (fun v M1 => (∃ x, v = z_I x) ∧ z_Cl 0 d 347 [z_R 13, z_I (xs (7 * k + 1)).toInt] M1 (fun v2 M2 => v2 = v ∧ P M2)))
    (kk : ∀ (M2 : z_M) (H1 : Heap) (locs1 : List Loc), P M2 → z_lcfg cx s H1 locs1 M2 → W p l e R s m #[Value.ref b] below meth c H1 locs1 CC SS QQ (F0 m 1803 ls [])) : W p l e R s m #[Value.ref b] below meth c H locs CC SS QQ (F0 m 1162 ls []) := by
  obtain ⟨hx, hb, -⟩ := id F.1
  have va : ∀ v ∈ [(z_I (xs (7 * k + 1)).toInt : z_V)], z_vok 0 v := by
    intro v hv
    simp only [List.mem_cons, List.not_mem_nil, or_false] at hv
    rcases hv with rfl <;> exact z_n_in _
  refine lv_aload_n hx hb (z_ldc z_lq27_ok 0 (q := (1162, (.aload_n 1, 1))) rfl) rfl (lv_at hl 1 rfl) ?_
  refine lw_arg F Cf (j := 1) (by decide) (by decide) hk (lv_at hl 0 rfl) (lv_at hl 3 rfl) (ins := .iadd) (n2 := 0) (z_ldc z_lq27_ok 1 (q := (1163, (.aload_n 0, 1))) rfl) (z_ldc z_lq27_ok 2 (q := (1164, (.iload_n 3, 1))) rfl) (Or.inl ⟨(z_ldc z_lq27_ok 3 (q := (1165, (.iconst 1, 1))) rfl), rfl⟩) (z_ldc z_lq27_ok 4 (q := (1166, (.iadd, 1))) rfl) (z_ldc z_lq27_ok 5 (q := (1167, (.iaload, 1))) rfl) ?_
  have eS1 : (([z_I (xs (7 * k + 1)).toInt] : List z_V).map (z_v cx.2.2)).reverse ++ .ref (cx.2.2 1) :: [] = (.int (xs (7 * k + 1)) :: .ref (cx.2.2 1) :: [] : List Value) := by
    simp only [List.map_cons, List.map_nil, lw_vI, List.reverse_cons, List.reverse_nil, List.nil_append, List.cons_append]
  show W p l e R s m #[Value.ref b] below meth c _ _ CC SS QQ (F0 m 1168 ls (.int (xs (7 * k + 1)) :: .ref (cx.2.2 1) :: []))
  rw [← eS1]
  refine lw_call F Cf (k := 194) (o := 1) (lk := (5, 202)) (t' := z_m194) rfl hCl rfl (show z_np z_m194.1 = some 1 by decide +kernel) (by decide +kernel) (by decide) (by decide +kernel) (by decide +kernel) va (by decide) hl.1 hR hCC (z_ldc z_lq27_ok 6 (q := (1168, (.invokevirtual 131, 3))) rfl) (fun v1 M1 H1 locs1 hn1 hok1 hq1 Cf1 => ?_)
  obtain ⟨hty1, hq1⟩ := hq1
  obtain ⟨x1, rfl⟩ := hty1
  show W p l e R s m #[Value.ref b] below meth c H1 locs1 CC SS QQ (F0 m 1171 ls [.int (Int32.ofInt x1)])
  refine lv_aload_n hx hb (z_ldc z_lq27_ok 7 (q := (1171, (.aload_n 2, 1))) rfl) rfl (lv_at hl 2 rfl) ?_
  refine lw_arg F Cf1 (j := 1) (by decide) (by decide) hk (lv_at hl 0 rfl) (lv_at hl 3 rfl) (ins := .iadd) (n2 := 0) (z_ldc z_lq27_ok 8 (q := (1172, (.aload_n 0, 1))) rfl) (z_ldc z_lq27_ok 9 (q := (1173, (.iload_n 3, 1))) rfl) (Or.inl ⟨(z_ldc z_lq27_ok 10 (q := (1174, (.iconst 1, 1))) rfl), rfl⟩) (z_ldc z_lq27_ok 11 (q := (1175, (.iadd, 1))) rfl) (z_ldc z_lq27_ok 12 (q := (1176, (.iaload, 1))) rfl) ?_
  have eS13 : (([z_I (xs (7 * k + 1)).toInt] : List z_V).map (z_v cx.2.2)).reverse ++ .ref (cx.2.2 13) :: [.int (Int32.ofInt x1)] = (.int (xs (7 * k + 1)) :: .ref (cx.2.2 13) :: [.int (Int32.ofInt x1)] : List Value) := by
    simp only [List.map_cons, List.map_nil, lw_vI, List.reverse_cons, List.reverse_nil, List.nil_append, List.cons_append]
  show W p l e R s m #[Value.ref b] below meth c _ _ CC SS QQ (F0 m 1177 ls (.int (xs (7 * k + 1)) :: .ref (cx.2.2 13) :: [.int (Int32.ofInt x1)]))
  rw [← eS13]
  refine lw_call F Cf1 (k := 347) (o := 13) (lk := (10, 121)) (t' := z_m347) rfl hq1 rfl (show z_np z_m347.1 = some 1 by decide +kernel) (by decide +kernel) (by decide) (by decide +kernel) (by decide +kernel) va (by simp [Value.category]) hl.1 hR hCC (z_ldc z_lq27_ok 13 (q := (1177, (.invokevirtual 134, 3))) rfl) (fun v2 M2 H2 locs2 hn2 hok2 hq2 Cf2 => ?_)
  obtain ⟨rfl, hP2⟩ := hq2
  show W p l e R s m #[Value.ref b] below meth c H2 locs2 CC SS QQ (F0 m 1180 ls [.int (Int32.ofInt x1), .int (Int32.ofInt x1)])
  refine lv_icmp_eq (tgt := 1803) hx hb (z_ldc z_lq27_ok 14 (q := (1180, (.if_icmp .eq 623, 3))) rfl) (by decide) (fun _ => ?_) (fun q => absurd rfl q)
  exact kk M2 H2 locs2 hP2 Cf2
def z_lq28 : List (Nat × (Instr × Nat)) := [(1185, (.aload_n 1, 1)), (1186, (.aload_n 0, 1)), (1187, (.iload_n 3, 1)), (1188, (.iconst 1, 1)), (1189, (.iadd, 1)), (1190, (.iaload, 1)), (1191, (.invokevirtual 135, 3)), (1194, (.aload_n 2, 1)), (1195, (.aload_n 0, 1)), (1196, (.iload_n 3, 1)), (1197, (.iconst 1, 1)), (1198, (.iadd, 1)), (1199, (.iaload, 1)), (1200, (.invokevirtual 138, 3)), (1203, (.if_icmp .eq 600, 3))]
theorem z_lq28_ok : z_lq28.all (fun q => decide (decode code q.1 = .ok q.2)) = true := by decide +kernel
theorem lw_case28 (F : z_lfix cx p s m meth c b L xs) (Cf : z_lcfg cx s H locs M) {k d : Nat} {P : z_M → Prop} (hk : 7 * k + 7 ≤ L) (hl : lv_has ls 4 [(0, .ref b), (1, .ref (cx.2.2 1)), (2, .ref (cx.2.2 13)), (3, .int (nI (7 * k)))]) (hR : d + 2 ≤ R.frames ∧ 64 * (d + 2) ≤ R.locals) (hCC : CC ≤ R.cells ∧ SS ≤ R.slots)
    (hCl : z_Cl 0 d 195 [z_R 1, z_I (xs (7 * k + 1)).toInt] M (fun v M1 => (∃ x, v = z_I x) ∧ z_Cl 0 d 349 [z_R 13, z_I (xs (7 * k + 1)).toInt] M1 (fun v2 M2 => v2 = v ∧ P M2)))
    (kk : ∀ (M2 : z_M) (H1 : Heap) (locs1 : List Loc), P M2 → z_lcfg cx s H1 locs1 M2 → W p l e R s m #[Value.ref b] below meth c H1 locs1 CC SS QQ (F0 m 1803 ls [])) : W p l e R s m #[Value.ref b] below meth c H locs CC SS QQ (F0 m 1185 ls []) := by
  obtain ⟨hx, hb, -⟩ := id F.1
  have va : ∀ v ∈ [(z_I (xs (7 * k + 1)).toInt : z_V)], z_vok 0 v := by
    intro v hv
    simp only [List.mem_cons, List.not_mem_nil, or_false] at hv
    rcases hv with rfl <;> exact z_n_in _
  refine lv_aload_n hx hb (z_ldc z_lq28_ok 0 (q := (1185, (.aload_n 1, 1))) rfl) rfl (lv_at hl 1 rfl) ?_
  refine lw_arg F Cf (j := 1) (by decide) (by decide) hk (lv_at hl 0 rfl) (lv_at hl 3 rfl) (ins := .iadd) (n2 := 0) (z_ldc z_lq28_ok 1 (q := (1186, (.aload_n 0, 1))) rfl) (z_ldc z_lq28_ok 2 (q := (1187, (.iload_n 3, 1))) rfl) (Or.inl ⟨(z_ldc z_lq28_ok 3 (q := (1188, (.iconst 1, 1))) rfl), rfl⟩) (z_ldc z_lq28_ok 4 (q := (1189, (.iadd, 1))) rfl) (z_ldc z_lq28_ok 5 (q := (1190, (.iaload, 1))) rfl) ?_
  have eS1 : (([z_I (xs (7 * k + 1)).toInt] : List z_V).map (z_v cx.2.2)).reverse ++ .ref (cx.2.2 1) :: [] = (.int (xs (7 * k + 1)) :: .ref (cx.2.2 1) :: [] : List Value) := by
    simp only [List.map_cons, List.map_nil, lw_vI, List.reverse_cons, List.reverse_nil, List.nil_append, List.cons_append]
  show W p l e R s m #[Value.ref b] below meth c _ _ CC SS QQ (F0 m 1191 ls (.int (xs (7 * k + 1)) :: .ref (cx.2.2 1) :: []))
  rw [← eS1]
  refine lw_call F Cf (k := 195) (o := 1) (lk := (5, 212)) (t' := z_m195) rfl hCl rfl (show z_np z_m195.1 = some 1 by decide +kernel) (by decide +kernel) (by decide) (by decide +kernel) (by decide +kernel) va (by decide) hl.1 hR hCC (z_ldc z_lq28_ok 6 (q := (1191, (.invokevirtual 135, 3))) rfl) (fun v1 M1 H1 locs1 hn1 hok1 hq1 Cf1 => ?_)
  obtain ⟨hty1, hq1⟩ := hq1
  obtain ⟨x1, rfl⟩ := hty1
  show W p l e R s m #[Value.ref b] below meth c H1 locs1 CC SS QQ (F0 m 1194 ls [.int (Int32.ofInt x1)])
  refine lv_aload_n hx hb (z_ldc z_lq28_ok 7 (q := (1194, (.aload_n 2, 1))) rfl) rfl (lv_at hl 2 rfl) ?_
  refine lw_arg F Cf1 (j := 1) (by decide) (by decide) hk (lv_at hl 0 rfl) (lv_at hl 3 rfl) (ins := .iadd) (n2 := 0) (z_ldc z_lq28_ok 8 (q := (1195, (.aload_n 0, 1))) rfl) (z_ldc z_lq28_ok 9 (q := (1196, (.iload_n 3, 1))) rfl) (Or.inl ⟨(z_ldc z_lq28_ok 10 (q := (1197, (.iconst 1, 1))) rfl), rfl⟩) (z_ldc z_lq28_ok 11 (q := (1198, (.iadd, 1))) rfl) (z_ldc z_lq28_ok 12 (q := (1199, (.iaload, 1))) rfl) ?_
  have eS13 : (([z_I (xs (7 * k + 1)).toInt] : List z_V).map (z_v cx.2.2)).reverse ++ .ref (cx.2.2 13) :: [.int (Int32.ofInt x1)] = (.int (xs (7 * k + 1)) :: .ref (cx.2.2 13) :: [.int (Int32.ofInt x1)] : List Value) := by
    simp only [List.map_cons, List.map_nil, lw_vI, List.reverse_cons, List.reverse_nil, List.nil_append, List.cons_append]
  show W p l e R s m #[Value.ref b] below meth c _ _ CC SS QQ (F0 m 1200 ls (.int (xs (7 * k + 1)) :: .ref (cx.2.2 13) :: [.int (Int32.ofInt x1)]))
  rw [← eS13]
  refine lw_call F Cf1 (k := 349) (o := 13) (lk := (10, 128)) (t' := z_m349) rfl hq1 rfl (show z_np z_m349.1 = some 1 by decide +kernel) (by decide +kernel) (by decide) (by decide +kernel) (by decide +kernel) va (by simp [Value.category]) hl.1 hR hCC (z_ldc z_lq28_ok 13 (q := (1200, (.invokevirtual 138, 3))) rfl) (fun v2 M2 H2 locs2 hn2 hok2 hq2 Cf2 => ?_)
  obtain ⟨rfl, hP2⟩ := hq2
  show W p l e R s m #[Value.ref b] below meth c H2 locs2 CC SS QQ (F0 m 1203 ls [.int (Int32.ofInt x1), .int (Int32.ofInt x1)])
  refine lv_icmp_eq (tgt := 1803) hx hb (z_ldc z_lq28_ok 14 (q := (1203, (.if_icmp .eq 600, 3))) rfl) (by decide) (fun _ => ?_) (fun q => absurd rfl q)
  exact kk M2 H2 locs2 hP2 Cf2
def z_lq29 : List (Nat × (Instr × Nat)) := [(1208, (.aload_n 1, 1)), (1209, (.aload_n 0, 1)), (1210, (.iload_n 3, 1)), (1211, (.iconst 1, 1)), (1212, (.iadd, 1)), (1213, (.iaload, 1)), (1214, (.aload_n 0, 1)), (1215, (.iload_n 3, 1)), (1216, (.iconst 2, 1)), (1217, (.iadd, 1)), (1218, (.iaload, 1)), (1219, (.invokevirtual 139, 3)), (1222, (.aload_n 2, 1)), (1223, (.aload_n 0, 1)), (1224, (.iload_n 3, 1)), (1225, (.iconst 1, 1)), (1226, (.iadd, 1)), (1227, (.iaload, 1)), (1228, (.aload_n 0, 1)), (1229, (.iload_n 3, 1)), (1230, (.iconst 2, 1)), (1231, (.iadd, 1)), (1232, (.iaload, 1)), (1233, (.invokevirtual 142, 3)), (1236, (.if_icmp .eq 567, 3))]
theorem z_lq29_ok : z_lq29.all (fun q => decide (decode code q.1 = .ok q.2)) = true := by decide +kernel
theorem lw_case29 (F : z_lfix cx p s m meth c b L xs) (Cf : z_lcfg cx s H locs M) {k d : Nat} {P : z_M → Prop} (hk : 7 * k + 7 ≤ L) (hl : lv_has ls 4 [(0, .ref b), (1, .ref (cx.2.2 1)), (2, .ref (cx.2.2 13)), (3, .int (nI (7 * k)))]) (hR : d + 2 ≤ R.frames ∧ 64 * (d + 2) ≤ R.locals) (hCC : CC ≤ R.cells ∧ SS ≤ R.slots)
    (hCl : z_Cl 0 d 196 [z_R 1, z_I (xs (7 * k + 1)).toInt, z_I (xs (7 * k + 2)).toInt] M (fun v M1 => (∃ x, v = z_I x) ∧ z_Cl 0 d 350 [z_R 13, z_I (xs (7 * k + 1)).toInt, z_I (xs (7 * k + 2)).toInt] M1 (fun v2 M2 => v2 = v ∧ P M2)))
    (kk : ∀ (M2 : z_M) (H1 : Heap) (locs1 : List Loc), P M2 → z_lcfg cx s H1 locs1 M2 → W p l e R s m #[Value.ref b] below meth c H1 locs1 CC SS QQ (F0 m 1803 ls [])) : W p l e R s m #[Value.ref b] below meth c H locs CC SS QQ (F0 m 1208 ls []) := by
  obtain ⟨hx, hb, -⟩ := id F.1
  have va : ∀ v ∈ [(z_I (xs (7 * k + 1)).toInt : z_V), (z_I (xs (7 * k + 2)).toInt : z_V)], z_vok 0 v := by
    intro v hv
    simp only [List.mem_cons, List.not_mem_nil, or_false] at hv
    rcases hv with rfl | rfl <;> exact z_n_in _
  refine lv_aload_n hx hb (z_ldc z_lq29_ok 0 (q := (1208, (.aload_n 1, 1))) rfl) rfl (lv_at hl 1 rfl) ?_
  refine lw_arg F Cf (j := 1) (by decide) (by decide) hk (lv_at hl 0 rfl) (lv_at hl 3 rfl) (ins := .iadd) (n2 := 0) (z_ldc z_lq29_ok 1 (q := (1209, (.aload_n 0, 1))) rfl) (z_ldc z_lq29_ok 2 (q := (1210, (.iload_n 3, 1))) rfl) (Or.inl ⟨(z_ldc z_lq29_ok 3 (q := (1211, (.iconst 1, 1))) rfl), rfl⟩) (z_ldc z_lq29_ok 4 (q := (1212, (.iadd, 1))) rfl) (z_ldc z_lq29_ok 5 (q := (1213, (.iaload, 1))) rfl) ?_
  refine lw_arg F Cf (j := 2) (by decide) (by decide) hk (lv_at hl 0 rfl) (lv_at hl 3 rfl) (ins := .iadd) (n2 := 0) (z_ldc z_lq29_ok 6 (q := (1214, (.aload_n 0, 1))) rfl) (z_ldc z_lq29_ok 7 (q := (1215, (.iload_n 3, 1))) rfl) (Or.inl ⟨(z_ldc z_lq29_ok 8 (q := (1216, (.iconst 2, 1))) rfl), rfl⟩) (z_ldc z_lq29_ok 9 (q := (1217, (.iadd, 1))) rfl) (z_ldc z_lq29_ok 10 (q := (1218, (.iaload, 1))) rfl) ?_
  have eS1 : (([z_I (xs (7 * k + 1)).toInt, z_I (xs (7 * k + 2)).toInt] : List z_V).map (z_v cx.2.2)).reverse ++ .ref (cx.2.2 1) :: [] = (.int (xs (7 * k + 2)) :: .int (xs (7 * k + 1)) :: .ref (cx.2.2 1) :: [] : List Value) := by
    simp only [List.map_cons, List.map_nil, lw_vI, List.reverse_cons, List.reverse_nil, List.nil_append, List.cons_append]
  show W p l e R s m #[Value.ref b] below meth c _ _ CC SS QQ (F0 m 1219 ls (.int (xs (7 * k + 2)) :: .int (xs (7 * k + 1)) :: .ref (cx.2.2 1) :: []))
  rw [← eS1]
  refine lw_call F Cf (k := 196) (o := 1) (lk := (5, 237)) (t' := z_m196) rfl hCl rfl (show z_np z_m196.1 = some 2 by decide +kernel) (by decide +kernel) (by decide) (by decide +kernel) (by decide +kernel) va (by decide) hl.1 hR hCC (z_ldc z_lq29_ok 11 (q := (1219, (.invokevirtual 139, 3))) rfl) (fun v1 M1 H1 locs1 hn1 hok1 hq1 Cf1 => ?_)
  obtain ⟨hty1, hq1⟩ := hq1
  obtain ⟨x1, rfl⟩ := hty1
  show W p l e R s m #[Value.ref b] below meth c H1 locs1 CC SS QQ (F0 m 1222 ls [.int (Int32.ofInt x1)])
  refine lv_aload_n hx hb (z_ldc z_lq29_ok 12 (q := (1222, (.aload_n 2, 1))) rfl) rfl (lv_at hl 2 rfl) ?_
  refine lw_arg F Cf1 (j := 1) (by decide) (by decide) hk (lv_at hl 0 rfl) (lv_at hl 3 rfl) (ins := .iadd) (n2 := 0) (z_ldc z_lq29_ok 13 (q := (1223, (.aload_n 0, 1))) rfl) (z_ldc z_lq29_ok 14 (q := (1224, (.iload_n 3, 1))) rfl) (Or.inl ⟨(z_ldc z_lq29_ok 15 (q := (1225, (.iconst 1, 1))) rfl), rfl⟩) (z_ldc z_lq29_ok 16 (q := (1226, (.iadd, 1))) rfl) (z_ldc z_lq29_ok 17 (q := (1227, (.iaload, 1))) rfl) ?_
  refine lw_arg F Cf1 (j := 2) (by decide) (by decide) hk (lv_at hl 0 rfl) (lv_at hl 3 rfl) (ins := .iadd) (n2 := 0) (z_ldc z_lq29_ok 18 (q := (1228, (.aload_n 0, 1))) rfl) (z_ldc z_lq29_ok 19 (q := (1229, (.iload_n 3, 1))) rfl) (Or.inl ⟨(z_ldc z_lq29_ok 20 (q := (1230, (.iconst 2, 1))) rfl), rfl⟩) (z_ldc z_lq29_ok 21 (q := (1231, (.iadd, 1))) rfl) (z_ldc z_lq29_ok 22 (q := (1232, (.iaload, 1))) rfl) ?_
  have eS13 : (([z_I (xs (7 * k + 1)).toInt, z_I (xs (7 * k + 2)).toInt] : List z_V).map (z_v cx.2.2)).reverse ++ .ref (cx.2.2 13) :: [.int (Int32.ofInt x1)] = (.int (xs (7 * k + 2)) :: .int (xs (7 * k + 1)) :: .ref (cx.2.2 13) :: [.int (Int32.ofInt x1)] : List Value) := by
    simp only [List.map_cons, List.map_nil, lw_vI, List.reverse_cons, List.reverse_nil, List.nil_append, List.cons_append]
  show W p l e R s m #[Value.ref b] below meth c _ _ CC SS QQ (F0 m 1233 ls (.int (xs (7 * k + 2)) :: .int (xs (7 * k + 1)) :: .ref (cx.2.2 13) :: [.int (Int32.ofInt x1)]))
  rw [← eS13]
  refine lw_call F Cf1 (k := 350) (o := 13) (lk := (10, 136)) (t' := z_m350) rfl hq1 rfl (show z_np z_m350.1 = some 2 by decide +kernel) (by decide +kernel) (by decide) (by decide +kernel) (by decide +kernel) va (by simp [Value.category]) hl.1 hR hCC (z_ldc z_lq29_ok 23 (q := (1233, (.invokevirtual 142, 3))) rfl) (fun v2 M2 H2 locs2 hn2 hok2 hq2 Cf2 => ?_)
  obtain ⟨rfl, hP2⟩ := hq2
  show W p l e R s m #[Value.ref b] below meth c H2 locs2 CC SS QQ (F0 m 1236 ls [.int (Int32.ofInt x1), .int (Int32.ofInt x1)])
  refine lv_icmp_eq (tgt := 1803) hx hb (z_ldc z_lq29_ok 24 (q := (1236, (.if_icmp .eq 567, 3))) rfl) (by decide) (fun _ => ?_) (fun q => absurd rfl q)
  exact kk M2 H2 locs2 hP2 Cf2
def z_lq30 : List (Nat × (Instr × Nat)) := [(1241, (.aload_n 1, 1)), (1242, (.aload_n 0, 1)), (1243, (.iload_n 3, 1)), (1244, (.iconst 1, 1)), (1245, (.iadd, 1)), (1246, (.iaload, 1)), (1247, (.invokevirtual 143, 3)), (1250, (.aload_n 2, 1)), (1251, (.aload_n 0, 1)), (1252, (.iload_n 3, 1)), (1253, (.iconst 1, 1)), (1254, (.iadd, 1)), (1255, (.iaload, 1)), (1256, (.invokevirtual 146, 3)), (1259, (.if_icmp .eq 544, 3))]
theorem z_lq30_ok : z_lq30.all (fun q => decide (decode code q.1 = .ok q.2)) = true := by decide +kernel
theorem lw_case30 (F : z_lfix cx p s m meth c b L xs) (Cf : z_lcfg cx s H locs M) {k d : Nat} {P : z_M → Prop} (hk : 7 * k + 7 ≤ L) (hl : lv_has ls 4 [(0, .ref b), (1, .ref (cx.2.2 1)), (2, .ref (cx.2.2 13)), (3, .int (nI (7 * k)))]) (hR : d + 2 ≤ R.frames ∧ 64 * (d + 2) ≤ R.locals) (hCC : CC ≤ R.cells ∧ SS ≤ R.slots)
    (hCl : z_Cl 0 d 197 [z_R 1, z_I (xs (7 * k + 1)).toInt] M (fun v M1 => (∃ x, v = z_I x) ∧ z_Cl 0 d 356 [z_R 13, z_I (xs (7 * k + 1)).toInt] M1 (fun v2 M2 => v2 = v ∧ P M2)))
    (kk : ∀ (M2 : z_M) (H1 : Heap) (locs1 : List Loc), P M2 → z_lcfg cx s H1 locs1 M2 → W p l e R s m #[Value.ref b] below meth c H1 locs1 CC SS QQ (F0 m 1803 ls [])) : W p l e R s m #[Value.ref b] below meth c H locs CC SS QQ (F0 m 1241 ls []) := by
  obtain ⟨hx, hb, -⟩ := id F.1
  have va : ∀ v ∈ [(z_I (xs (7 * k + 1)).toInt : z_V)], z_vok 0 v := by
    intro v hv
    simp only [List.mem_cons, List.not_mem_nil, or_false] at hv
    rcases hv with rfl <;> exact z_n_in _
  refine lv_aload_n hx hb (z_ldc z_lq30_ok 0 (q := (1241, (.aload_n 1, 1))) rfl) rfl (lv_at hl 1 rfl) ?_
  refine lw_arg F Cf (j := 1) (by decide) (by decide) hk (lv_at hl 0 rfl) (lv_at hl 3 rfl) (ins := .iadd) (n2 := 0) (z_ldc z_lq30_ok 1 (q := (1242, (.aload_n 0, 1))) rfl) (z_ldc z_lq30_ok 2 (q := (1243, (.iload_n 3, 1))) rfl) (Or.inl ⟨(z_ldc z_lq30_ok 3 (q := (1244, (.iconst 1, 1))) rfl), rfl⟩) (z_ldc z_lq30_ok 4 (q := (1245, (.iadd, 1))) rfl) (z_ldc z_lq30_ok 5 (q := (1246, (.iaload, 1))) rfl) ?_
  have eS1 : (([z_I (xs (7 * k + 1)).toInt] : List z_V).map (z_v cx.2.2)).reverse ++ .ref (cx.2.2 1) :: [] = (.int (xs (7 * k + 1)) :: .ref (cx.2.2 1) :: [] : List Value) := by
    simp only [List.map_cons, List.map_nil, lw_vI, List.reverse_cons, List.reverse_nil, List.nil_append, List.cons_append]
  show W p l e R s m #[Value.ref b] below meth c _ _ CC SS QQ (F0 m 1247 ls (.int (xs (7 * k + 1)) :: .ref (cx.2.2 1) :: []))
  rw [← eS1]
  refine lw_call F Cf (k := 197) (o := 1) (lk := (6, 5)) (t' := z_m197) rfl hCl rfl (show z_np z_m197.1 = some 1 by decide +kernel) (by decide +kernel) (by decide) (by decide +kernel) (by decide +kernel) va (by decide) hl.1 hR hCC (z_ldc z_lq30_ok 6 (q := (1247, (.invokevirtual 143, 3))) rfl) (fun v1 M1 H1 locs1 hn1 hok1 hq1 Cf1 => ?_)
  obtain ⟨hty1, hq1⟩ := hq1
  obtain ⟨x1, rfl⟩ := hty1
  show W p l e R s m #[Value.ref b] below meth c H1 locs1 CC SS QQ (F0 m 1250 ls [.int (Int32.ofInt x1)])
  refine lv_aload_n hx hb (z_ldc z_lq30_ok 7 (q := (1250, (.aload_n 2, 1))) rfl) rfl (lv_at hl 2 rfl) ?_
  refine lw_arg F Cf1 (j := 1) (by decide) (by decide) hk (lv_at hl 0 rfl) (lv_at hl 3 rfl) (ins := .iadd) (n2 := 0) (z_ldc z_lq30_ok 8 (q := (1251, (.aload_n 0, 1))) rfl) (z_ldc z_lq30_ok 9 (q := (1252, (.iload_n 3, 1))) rfl) (Or.inl ⟨(z_ldc z_lq30_ok 10 (q := (1253, (.iconst 1, 1))) rfl), rfl⟩) (z_ldc z_lq30_ok 11 (q := (1254, (.iadd, 1))) rfl) (z_ldc z_lq30_ok 12 (q := (1255, (.iaload, 1))) rfl) ?_
  have eS13 : (([z_I (xs (7 * k + 1)).toInt] : List z_V).map (z_v cx.2.2)).reverse ++ .ref (cx.2.2 13) :: [.int (Int32.ofInt x1)] = (.int (xs (7 * k + 1)) :: .ref (cx.2.2 13) :: [.int (Int32.ofInt x1)] : List Value) := by
    simp only [List.map_cons, List.map_nil, lw_vI, List.reverse_cons, List.reverse_nil, List.nil_append, List.cons_append]
  show W p l e R s m #[Value.ref b] below meth c _ _ CC SS QQ (F0 m 1256 ls (.int (xs (7 * k + 1)) :: .ref (cx.2.2 13) :: [.int (Int32.ofInt x1)]))
  rw [← eS13]
  refine lw_call F Cf1 (k := 356) (o := 13) (lk := (10, 140)) (t' := z_m356) rfl hq1 rfl (show z_np z_m356.1 = some 1 by decide +kernel) (by decide +kernel) (by decide) (by decide +kernel) (by decide +kernel) va (by simp [Value.category]) hl.1 hR hCC (z_ldc z_lq30_ok 13 (q := (1256, (.invokevirtual 146, 3))) rfl) (fun v2 M2 H2 locs2 hn2 hok2 hq2 Cf2 => ?_)
  obtain ⟨rfl, hP2⟩ := hq2
  show W p l e R s m #[Value.ref b] below meth c H2 locs2 CC SS QQ (F0 m 1259 ls [.int (Int32.ofInt x1), .int (Int32.ofInt x1)])
  refine lv_icmp_eq (tgt := 1803) hx hb (z_ldc z_lq30_ok 14 (q := (1259, (.if_icmp .eq 544, 3))) rfl) (by decide) (fun _ => ?_) (fun q => absurd rfl q)
  exact kk M2 H2 locs2 hP2 Cf2
def z_lq31 : List (Nat × (Instr × Nat)) := [(1264, (.aload_n 1, 1)), (1265, (.aload_n 0, 1)), (1266, (.iload_n 3, 1)), (1267, (.iconst 1, 1)), (1268, (.iadd, 1)), (1269, (.iaload, 1)), (1270, (.invokevirtual 147, 3)), (1273, (.aload_n 2, 1)), (1274, (.aload_n 0, 1)), (1275, (.iload_n 3, 1)), (1276, (.iconst 1, 1)), (1277, (.iadd, 1)), (1278, (.iaload, 1)), (1279, (.invokevirtual 150, 3)), (1282, (.if_icmp .eq 521, 3))]
theorem z_lq31_ok : z_lq31.all (fun q => decide (decode code q.1 = .ok q.2)) = true := by decide +kernel
theorem lw_case31 (F : z_lfix cx p s m meth c b L xs) (Cf : z_lcfg cx s H locs M) {k d : Nat} {P : z_M → Prop} (hk : 7 * k + 7 ≤ L) (hl : lv_has ls 4 [(0, .ref b), (1, .ref (cx.2.2 1)), (2, .ref (cx.2.2 13)), (3, .int (nI (7 * k)))]) (hR : d + 2 ≤ R.frames ∧ 64 * (d + 2) ≤ R.locals) (hCC : CC ≤ R.cells ∧ SS ≤ R.slots)
    (hCl : z_Cl 0 d 198 [z_R 1, z_I (xs (7 * k + 1)).toInt] M (fun v M1 => (∃ x, v = z_I x) ∧ z_Cl 0 d 357 [z_R 13, z_I (xs (7 * k + 1)).toInt] M1 (fun v2 M2 => v2 = v ∧ P M2)))
    (kk : ∀ (M2 : z_M) (H1 : Heap) (locs1 : List Loc), P M2 → z_lcfg cx s H1 locs1 M2 → W p l e R s m #[Value.ref b] below meth c H1 locs1 CC SS QQ (F0 m 1803 ls [])) : W p l e R s m #[Value.ref b] below meth c H locs CC SS QQ (F0 m 1264 ls []) := by
  obtain ⟨hx, hb, -⟩ := id F.1
  have va : ∀ v ∈ [(z_I (xs (7 * k + 1)).toInt : z_V)], z_vok 0 v := by
    intro v hv
    simp only [List.mem_cons, List.not_mem_nil, or_false] at hv
    rcases hv with rfl <;> exact z_n_in _
  refine lv_aload_n hx hb (z_ldc z_lq31_ok 0 (q := (1264, (.aload_n 1, 1))) rfl) rfl (lv_at hl 1 rfl) ?_
  refine lw_arg F Cf (j := 1) (by decide) (by decide) hk (lv_at hl 0 rfl) (lv_at hl 3 rfl) (ins := .iadd) (n2 := 0) (z_ldc z_lq31_ok 1 (q := (1265, (.aload_n 0, 1))) rfl) (z_ldc z_lq31_ok 2 (q := (1266, (.iload_n 3, 1))) rfl) (Or.inl ⟨(z_ldc z_lq31_ok 3 (q := (1267, (.iconst 1, 1))) rfl), rfl⟩) (z_ldc z_lq31_ok 4 (q := (1268, (.iadd, 1))) rfl) (z_ldc z_lq31_ok 5 (q := (1269, (.iaload, 1))) rfl) ?_
  have eS1 : (([z_I (xs (7 * k + 1)).toInt] : List z_V).map (z_v cx.2.2)).reverse ++ .ref (cx.2.2 1) :: [] = (.int (xs (7 * k + 1)) :: .ref (cx.2.2 1) :: [] : List Value) := by
    simp only [List.map_cons, List.map_nil, lw_vI, List.reverse_cons, List.reverse_nil, List.nil_append, List.cons_append]
  show W p l e R s m #[Value.ref b] below meth c _ _ CC SS QQ (F0 m 1270 ls (.int (xs (7 * k + 1)) :: .ref (cx.2.2 1) :: []))
  rw [← eS1]
  refine lw_call F Cf (k := 198) (o := 1) (lk := (6, 41)) (t' := z_m198) rfl hCl rfl (show z_np z_m198.1 = some 1 by decide +kernel) (by decide +kernel) (by decide) (by decide +kernel) (by decide +kernel) va (by decide) hl.1 hR hCC (z_ldc z_lq31_ok 6 (q := (1270, (.invokevirtual 147, 3))) rfl) (fun v1 M1 H1 locs1 hn1 hok1 hq1 Cf1 => ?_)
  obtain ⟨hty1, hq1⟩ := hq1
  obtain ⟨x1, rfl⟩ := hty1
  show W p l e R s m #[Value.ref b] below meth c H1 locs1 CC SS QQ (F0 m 1273 ls [.int (Int32.ofInt x1)])
  refine lv_aload_n hx hb (z_ldc z_lq31_ok 7 (q := (1273, (.aload_n 2, 1))) rfl) rfl (lv_at hl 2 rfl) ?_
  refine lw_arg F Cf1 (j := 1) (by decide) (by decide) hk (lv_at hl 0 rfl) (lv_at hl 3 rfl) (ins := .iadd) (n2 := 0) (z_ldc z_lq31_ok 8 (q := (1274, (.aload_n 0, 1))) rfl) (z_ldc z_lq31_ok 9 (q := (1275, (.iload_n 3, 1))) rfl) (Or.inl ⟨(z_ldc z_lq31_ok 10 (q := (1276, (.iconst 1, 1))) rfl), rfl⟩) (z_ldc z_lq31_ok 11 (q := (1277, (.iadd, 1))) rfl) (z_ldc z_lq31_ok 12 (q := (1278, (.iaload, 1))) rfl) ?_
  have eS13 : (([z_I (xs (7 * k + 1)).toInt] : List z_V).map (z_v cx.2.2)).reverse ++ .ref (cx.2.2 13) :: [.int (Int32.ofInt x1)] = (.int (xs (7 * k + 1)) :: .ref (cx.2.2 13) :: [.int (Int32.ofInt x1)] : List Value) := by
    simp only [List.map_cons, List.map_nil, lw_vI, List.reverse_cons, List.reverse_nil, List.nil_append, List.cons_append]
  show W p l e R s m #[Value.ref b] below meth c _ _ CC SS QQ (F0 m 1279 ls (.int (xs (7 * k + 1)) :: .ref (cx.2.2 13) :: [.int (Int32.ofInt x1)]))
  rw [← eS13]
  refine lw_call F Cf1 (k := 357) (o := 13) (lk := (10, 164)) (t' := z_m357) rfl hq1 rfl (show z_np z_m357.1 = some 1 by decide +kernel) (by decide +kernel) (by decide) (by decide +kernel) (by decide +kernel) va (by simp [Value.category]) hl.1 hR hCC (z_ldc z_lq31_ok 13 (q := (1279, (.invokevirtual 150, 3))) rfl) (fun v2 M2 H2 locs2 hn2 hok2 hq2 Cf2 => ?_)
  obtain ⟨rfl, hP2⟩ := hq2
  show W p l e R s m #[Value.ref b] below meth c H2 locs2 CC SS QQ (F0 m 1282 ls [.int (Int32.ofInt x1), .int (Int32.ofInt x1)])
  refine lv_icmp_eq (tgt := 1803) hx hb (z_ldc z_lq31_ok 14 (q := (1282, (.if_icmp .eq 521, 3))) rfl) (by decide) (fun _ => ?_) (fun q => absurd rfl q)
  exact kk M2 H2 locs2 hP2 Cf2
def z_lq32 : List (Nat × (Instr × Nat)) := [(1287, (.aload_n 1, 1)), (1288, (.aload_n 0, 1)), (1289, (.iload_n 3, 1)), (1290, (.iconst 1, 1)), (1291, (.iadd, 1)), (1292, (.iaload, 1)), (1293, (.aload_n 0, 1)), (1294, (.iload_n 3, 1)), (1295, (.iconst 2, 1)), (1296, (.iadd, 1)), (1297, (.iaload, 1)), (1298, (.aload_n 0, 1)), (1299, (.iload_n 3, 1)), (1300, (.iconst 3, 1)), (1301, (.iadd, 1)), (1302, (.iaload, 1)), (1303, (.invokevirtual 151, 3)), (1306, (.aload_n 2, 1)), (1307, (.aload_n 0, 1)), (1308, (.iload_n 3, 1)), (1309, (.iconst 1, 1)), (1310, (.iadd, 1)), (1311, (.iaload, 1)), (1312, (.aload_n 0, 1)), (1313, (.iload_n 3, 1)), (1314, (.iconst 2, 1)), (1315, (.iadd, 1)), (1316, (.iaload, 1)), (1317, (.aload_n 0, 1)), (1318, (.iload_n 3, 1)), (1319, (.iconst 3, 1)), (1320, (.iadd, 1)), (1321, (.iaload, 1)), (1322, (.invokevirtual 154, 3)), (1325, (.if_icmp .eq 478, 3))]
theorem z_lq32_ok : z_lq32.all (fun q => decide (decode code q.1 = .ok q.2)) = true := by decide +kernel
theorem lw_case32 (F : z_lfix cx p s m meth c b L xs) (Cf : z_lcfg cx s H locs M) {k d : Nat} {P : z_M → Prop} (hk : 7 * k + 7 ≤ L) (hl : lv_has ls 4 [(0, .ref b), (1, .ref (cx.2.2 1)), (2, .ref (cx.2.2 13)), (3, .int (nI (7 * k)))]) (hR : d + 2 ≤ R.frames ∧ 64 * (d + 2) ≤ R.locals) (hCC : CC ≤ R.cells ∧ SS ≤ R.slots)
    (hCl : z_Cl 0 d 199 [z_R 1, z_I (xs (7 * k + 1)).toInt, z_I (xs (7 * k + 2)).toInt, z_I (xs (7 * k + 3)).toInt] M (fun v M1 => (∃ x, v = z_I x) ∧ z_Cl 0 d 359 [z_R 13, z_I (xs (7 * k + 1)).toInt, z_I (xs (7 * k + 2)).toInt, z_I (xs (7 * k + 3)).toInt] M1 (fun v2 M2 => v2 = v ∧ P M2)))
    (kk : ∀ (M2 : z_M) (H1 : Heap) (locs1 : List Loc), P M2 → z_lcfg cx s H1 locs1 M2 → W p l e R s m #[Value.ref b] below meth c H1 locs1 CC SS QQ (F0 m 1803 ls [])) : W p l e R s m #[Value.ref b] below meth c H locs CC SS QQ (F0 m 1287 ls []) := by
  obtain ⟨hx, hb, -⟩ := id F.1
  have va : ∀ v ∈ [(z_I (xs (7 * k + 1)).toInt : z_V), (z_I (xs (7 * k + 2)).toInt : z_V), (z_I (xs (7 * k + 3)).toInt : z_V)], z_vok 0 v := by
    intro v hv
    simp only [List.mem_cons, List.not_mem_nil, or_false] at hv
    rcases hv with rfl | rfl | rfl <;> exact z_n_in _
  refine lv_aload_n hx hb (z_ldc z_lq32_ok 0 (q := (1287, (.aload_n 1, 1))) rfl) rfl (lv_at hl 1 rfl) ?_
  refine lw_arg F Cf (j := 1) (by decide) (by decide) hk (lv_at hl 0 rfl) (lv_at hl 3 rfl) (ins := .iadd) (n2 := 0) (z_ldc z_lq32_ok 1 (q := (1288, (.aload_n 0, 1))) rfl) (z_ldc z_lq32_ok 2 (q := (1289, (.iload_n 3, 1))) rfl) (Or.inl ⟨(z_ldc z_lq32_ok 3 (q := (1290, (.iconst 1, 1))) rfl), rfl⟩) (z_ldc z_lq32_ok 4 (q := (1291, (.iadd, 1))) rfl) (z_ldc z_lq32_ok 5 (q := (1292, (.iaload, 1))) rfl) ?_
  refine lw_arg F Cf (j := 2) (by decide) (by decide) hk (lv_at hl 0 rfl) (lv_at hl 3 rfl) (ins := .iadd) (n2 := 0) (z_ldc z_lq32_ok 6 (q := (1293, (.aload_n 0, 1))) rfl) (z_ldc z_lq32_ok 7 (q := (1294, (.iload_n 3, 1))) rfl) (Or.inl ⟨(z_ldc z_lq32_ok 8 (q := (1295, (.iconst 2, 1))) rfl), rfl⟩) (z_ldc z_lq32_ok 9 (q := (1296, (.iadd, 1))) rfl) (z_ldc z_lq32_ok 10 (q := (1297, (.iaload, 1))) rfl) ?_
  refine lw_arg F Cf (j := 3) (by decide) (by decide) hk (lv_at hl 0 rfl) (lv_at hl 3 rfl) (ins := .iadd) (n2 := 0) (z_ldc z_lq32_ok 11 (q := (1298, (.aload_n 0, 1))) rfl) (z_ldc z_lq32_ok 12 (q := (1299, (.iload_n 3, 1))) rfl) (Or.inl ⟨(z_ldc z_lq32_ok 13 (q := (1300, (.iconst 3, 1))) rfl), rfl⟩) (z_ldc z_lq32_ok 14 (q := (1301, (.iadd, 1))) rfl) (z_ldc z_lq32_ok 15 (q := (1302, (.iaload, 1))) rfl) ?_
  have eS1 : (([z_I (xs (7 * k + 1)).toInt, z_I (xs (7 * k + 2)).toInt, z_I (xs (7 * k + 3)).toInt] : List z_V).map (z_v cx.2.2)).reverse ++ .ref (cx.2.2 1) :: [] = (.int (xs (7 * k + 3)) :: .int (xs (7 * k + 2)) :: .int (xs (7 * k + 1)) :: .ref (cx.2.2 1) :: [] : List Value) := by
    simp only [List.map_cons, List.map_nil, lw_vI, List.reverse_cons, List.reverse_nil, List.nil_append, List.cons_append]
  show W p l e R s m #[Value.ref b] below meth c _ _ CC SS QQ (F0 m 1303 ls (.int (xs (7 * k + 3)) :: .int (xs (7 * k + 2)) :: .int (xs (7 * k + 1)) :: .ref (cx.2.2 1) :: []))
  rw [← eS1]
  refine lw_call F Cf (k := 199) (o := 1) (lk := (6, 50)) (t' := z_m199) rfl hCl rfl (show z_np z_m199.1 = some 3 by decide +kernel) (by decide +kernel) (by decide) (by decide +kernel) (by decide +kernel) va (by decide) hl.1 hR hCC (z_ldc z_lq32_ok 16 (q := (1303, (.invokevirtual 151, 3))) rfl) (fun v1 M1 H1 locs1 hn1 hok1 hq1 Cf1 => ?_)
  obtain ⟨hty1, hq1⟩ := hq1
  obtain ⟨x1, rfl⟩ := hty1
  show W p l e R s m #[Value.ref b] below meth c H1 locs1 CC SS QQ (F0 m 1306 ls [.int (Int32.ofInt x1)])
  refine lv_aload_n hx hb (z_ldc z_lq32_ok 17 (q := (1306, (.aload_n 2, 1))) rfl) rfl (lv_at hl 2 rfl) ?_
  refine lw_arg F Cf1 (j := 1) (by decide) (by decide) hk (lv_at hl 0 rfl) (lv_at hl 3 rfl) (ins := .iadd) (n2 := 0) (z_ldc z_lq32_ok 18 (q := (1307, (.aload_n 0, 1))) rfl) (z_ldc z_lq32_ok 19 (q := (1308, (.iload_n 3, 1))) rfl) (Or.inl ⟨(z_ldc z_lq32_ok 20 (q := (1309, (.iconst 1, 1))) rfl), rfl⟩) (z_ldc z_lq32_ok 21 (q := (1310, (.iadd, 1))) rfl) (z_ldc z_lq32_ok 22 (q := (1311, (.iaload, 1))) rfl) ?_
  refine lw_arg F Cf1 (j := 2) (by decide) (by decide) hk (lv_at hl 0 rfl) (lv_at hl 3 rfl) (ins := .iadd) (n2 := 0) (z_ldc z_lq32_ok 23 (q := (1312, (.aload_n 0, 1))) rfl) (z_ldc z_lq32_ok 24 (q := (1313, (.iload_n 3, 1))) rfl) (Or.inl ⟨(z_ldc z_lq32_ok 25 (q := (1314, (.iconst 2, 1))) rfl), rfl⟩) (z_ldc z_lq32_ok 26 (q := (1315, (.iadd, 1))) rfl) (z_ldc z_lq32_ok 27 (q := (1316, (.iaload, 1))) rfl) ?_
  refine lw_arg F Cf1 (j := 3) (by decide) (by decide) hk (lv_at hl 0 rfl) (lv_at hl 3 rfl) (ins := .iadd) (n2 := 0) (z_ldc z_lq32_ok 28 (q := (1317, (.aload_n 0, 1))) rfl) (z_ldc z_lq32_ok 29 (q := (1318, (.iload_n 3, 1))) rfl) (Or.inl ⟨(z_ldc z_lq32_ok 30 (q := (1319, (.iconst 3, 1))) rfl), rfl⟩) (z_ldc z_lq32_ok 31 (q := (1320, (.iadd, 1))) rfl) (z_ldc z_lq32_ok 32 (q := (1321, (.iaload, 1))) rfl) ?_
  have eS13 : (([z_I (xs (7 * k + 1)).toInt, z_I (xs (7 * k + 2)).toInt, z_I (xs (7 * k + 3)).toInt] : List z_V).map (z_v cx.2.2)).reverse ++ .ref (cx.2.2 13) :: [.int (Int32.ofInt x1)] = (.int (xs (7 * k + 3)) :: .int (xs (7 * k + 2)) :: .int (xs (7 * k + 1)) :: .ref (cx.2.2 13) :: [.int (Int32.ofInt x1)] : List Value) := by
    simp only [List.map_cons, List.map_nil, lw_vI, List.reverse_cons, List.reverse_nil, List.nil_append, List.cons_append]
  show W p l e R s m #[Value.ref b] below meth c _ _ CC SS QQ (F0 m 1322 ls (.int (xs (7 * k + 3)) :: .int (xs (7 * k + 2)) :: .int (xs (7 * k + 1)) :: .ref (cx.2.2 13) :: [.int (Int32.ofInt x1)]))
  rw [← eS13]
  refine lw_call F Cf1 (k := 359) (o := 13) (lk := (10, 168)) (t' := z_m359) rfl hq1 rfl (show z_np z_m359.1 = some 3 by decide +kernel) (by decide +kernel) (by decide) (by decide +kernel) (by decide +kernel) va (by simp [Value.category]) hl.1 hR hCC (z_ldc z_lq32_ok 33 (q := (1322, (.invokevirtual 154, 3))) rfl) (fun v2 M2 H2 locs2 hn2 hok2 hq2 Cf2 => ?_)
  obtain ⟨rfl, hP2⟩ := hq2
  show W p l e R s m #[Value.ref b] below meth c H2 locs2 CC SS QQ (F0 m 1325 ls [.int (Int32.ofInt x1), .int (Int32.ofInt x1)])
  refine lv_icmp_eq (tgt := 1803) hx hb (z_ldc z_lq32_ok 34 (q := (1325, (.if_icmp .eq 478, 3))) rfl) (by decide) (fun _ => ?_) (fun q => absurd rfl q)
  exact kk M2 H2 locs2 hP2 Cf2
def z_lq33 : List (Nat × (Instr × Nat)) := [(1330, (.aload_n 1, 1)), (1331, (.aload_n 0, 1)), (1332, (.iload_n 3, 1)), (1333, (.iconst 1, 1)), (1334, (.iadd, 1)), (1335, (.iaload, 1)), (1336, (.aload_n 0, 1)), (1337, (.iload_n 3, 1)), (1338, (.iconst 2, 1)), (1339, (.iadd, 1)), (1340, (.iaload, 1)), (1341, (.aload_n 0, 1)), (1342, (.iload_n 3, 1)), (1343, (.iconst 3, 1)), (1344, (.iadd, 1)), (1345, (.iaload, 1)), (1346, (.invokevirtual 155, 3)), (1349, (.aload_n 2, 1)), (1350, (.aload_n 0, 1)), (1351, (.iload_n 3, 1)), (1352, (.iconst 1, 1)), (1353, (.iadd, 1)), (1354, (.iaload, 1)), (1355, (.aload_n 0, 1)), (1356, (.iload_n 3, 1)), (1357, (.iconst 2, 1)), (1358, (.iadd, 1)), (1359, (.iaload, 1)), (1360, (.aload_n 0, 1)), (1361, (.iload_n 3, 1)), (1362, (.iconst 3, 1)), (1363, (.iadd, 1)), (1364, (.iaload, 1)), (1365, (.invokevirtual 158, 3)), (1368, (.if_icmp .eq 435, 3))]
theorem z_lq33_ok : z_lq33.all (fun q => decide (decode code q.1 = .ok q.2)) = true := by decide +kernel
theorem lw_case33 (F : z_lfix cx p s m meth c b L xs) (Cf : z_lcfg cx s H locs M) {k d : Nat} {P : z_M → Prop} (hk : 7 * k + 7 ≤ L) (hl : lv_has ls 4 [(0, .ref b), (1, .ref (cx.2.2 1)), (2, .ref (cx.2.2 13)), (3, .int (nI (7 * k)))]) (hR : d + 2 ≤ R.frames ∧ 64 * (d + 2) ≤ R.locals) (hCC : CC ≤ R.cells ∧ SS ≤ R.slots)
    (hCl : z_Cl 0 d 200 [z_R 1, z_I (xs (7 * k + 1)).toInt, z_I (xs (7 * k + 2)).toInt, z_I (xs (7 * k + 3)).toInt] M (fun v M1 => (∃ x, v = z_I x) ∧ z_Cl 0 d 360 [z_R 13, z_I (xs (7 * k + 1)).toInt, z_I (xs (7 * k + 2)).toInt, z_I (xs (7 * k + 3)).toInt] M1 (fun v2 M2 => v2 = v ∧ P M2)))
    (kk : ∀ (M2 : z_M) (H1 : Heap) (locs1 : List Loc), P M2 → z_lcfg cx s H1 locs1 M2 → W p l e R s m #[Value.ref b] below meth c H1 locs1 CC SS QQ (F0 m 1803 ls [])) : W p l e R s m #[Value.ref b] below meth c H locs CC SS QQ (F0 m 1330 ls []) := by
  obtain ⟨hx, hb, -⟩ := id F.1
  have va : ∀ v ∈ [(z_I (xs (7 * k + 1)).toInt : z_V), (z_I (xs (7 * k + 2)).toInt : z_V), (z_I (xs (7 * k + 3)).toInt : z_V)], z_vok 0 v := by
    intro v hv
    simp only [List.mem_cons, List.not_mem_nil, or_false] at hv
    rcases hv with rfl | rfl | rfl <;> exact z_n_in _
  refine lv_aload_n hx hb (z_ldc z_lq33_ok 0 (q := (1330, (.aload_n 1, 1))) rfl) rfl (lv_at hl 1 rfl) ?_
  refine lw_arg F Cf (j := 1) (by decide) (by decide) hk (lv_at hl 0 rfl) (lv_at hl 3 rfl) (ins := .iadd) (n2 := 0) (z_ldc z_lq33_ok 1 (q := (1331, (.aload_n 0, 1))) rfl) (z_ldc z_lq33_ok 2 (q := (1332, (.iload_n 3, 1))) rfl) (Or.inl ⟨(z_ldc z_lq33_ok 3 (q := (1333, (.iconst 1, 1))) rfl), rfl⟩) (z_ldc z_lq33_ok 4 (q := (1334, (.iadd, 1))) rfl) (z_ldc z_lq33_ok 5 (q := (1335, (.iaload, 1))) rfl) ?_
  refine lw_arg F Cf (j := 2) (by decide) (by decide) hk (lv_at hl 0 rfl) (lv_at hl 3 rfl) (ins := .iadd) (n2 := 0) (z_ldc z_lq33_ok 6 (q := (1336, (.aload_n 0, 1))) rfl) (z_ldc z_lq33_ok 7 (q := (1337, (.iload_n 3, 1))) rfl) (Or.inl ⟨(z_ldc z_lq33_ok 8 (q := (1338, (.iconst 2, 1))) rfl), rfl⟩) (z_ldc z_lq33_ok 9 (q := (1339, (.iadd, 1))) rfl) (z_ldc z_lq33_ok 10 (q := (1340, (.iaload, 1))) rfl) ?_
  refine lw_arg F Cf (j := 3) (by decide) (by decide) hk (lv_at hl 0 rfl) (lv_at hl 3 rfl) (ins := .iadd) (n2 := 0) (z_ldc z_lq33_ok 11 (q := (1341, (.aload_n 0, 1))) rfl) (z_ldc z_lq33_ok 12 (q := (1342, (.iload_n 3, 1))) rfl) (Or.inl ⟨(z_ldc z_lq33_ok 13 (q := (1343, (.iconst 3, 1))) rfl), rfl⟩) (z_ldc z_lq33_ok 14 (q := (1344, (.iadd, 1))) rfl) (z_ldc z_lq33_ok 15 (q := (1345, (.iaload, 1))) rfl) ?_
  have eS1 : (([z_I (xs (7 * k + 1)).toInt, z_I (xs (7 * k + 2)).toInt, z_I (xs (7 * k + 3)).toInt] : List z_V).map (z_v cx.2.2)).reverse ++ .ref (cx.2.2 1) :: [] = (.int (xs (7 * k + 3)) :: .int (xs (7 * k + 2)) :: .int (xs (7 * k + 1)) :: .ref (cx.2.2 1) :: [] : List Value) := by
    simp only [List.map_cons, List.map_nil, lw_vI, List.reverse_cons, List.reverse_nil, List.nil_append, List.cons_append]
  show W p l e R s m #[Value.ref b] below meth c _ _ CC SS QQ (F0 m 1346 ls (.int (xs (7 * k + 3)) :: .int (xs (7 * k + 2)) :: .int (xs (7 * k + 1)) :: .ref (cx.2.2 1) :: []))
  rw [← eS1]
  refine lw_call F Cf (k := 200) (o := 1) (lk := (6, 59)) (t' := z_m200) rfl hCl rfl (show z_np z_m200.1 = some 3 by decide +kernel) (by decide +kernel) (by decide) (by decide +kernel) (by decide +kernel) va (by decide) hl.1 hR hCC (z_ldc z_lq33_ok 16 (q := (1346, (.invokevirtual 155, 3))) rfl) (fun v1 M1 H1 locs1 hn1 hok1 hq1 Cf1 => ?_)
  obtain ⟨hty1, hq1⟩ := hq1
  obtain ⟨x1, rfl⟩ := hty1
  show W p l e R s m #[Value.ref b] below meth c H1 locs1 CC SS QQ (F0 m 1349 ls [.int (Int32.ofInt x1)])
  refine lv_aload_n hx hb (z_ldc z_lq33_ok 17 (q := (1349, (.aload_n 2, 1))) rfl) rfl (lv_at hl 2 rfl) ?_
  refine lw_arg F Cf1 (j := 1) (by decide) (by decide) hk (lv_at hl 0 rfl) (lv_at hl 3 rfl) (ins := .iadd) (n2 := 0) (z_ldc z_lq33_ok 18 (q := (1350, (.aload_n 0, 1))) rfl) (z_ldc z_lq33_ok 19 (q := (1351, (.iload_n 3, 1))) rfl) (Or.inl ⟨(z_ldc z_lq33_ok 20 (q := (1352, (.iconst 1, 1))) rfl), rfl⟩) (z_ldc z_lq33_ok 21 (q := (1353, (.iadd, 1))) rfl) (z_ldc z_lq33_ok 22 (q := (1354, (.iaload, 1))) rfl) ?_
  refine lw_arg F Cf1 (j := 2) (by decide) (by decide) hk (lv_at hl 0 rfl) (lv_at hl 3 rfl) (ins := .iadd) (n2 := 0) (z_ldc z_lq33_ok 23 (q := (1355, (.aload_n 0, 1))) rfl) (z_ldc z_lq33_ok 24 (q := (1356, (.iload_n 3, 1))) rfl) (Or.inl ⟨(z_ldc z_lq33_ok 25 (q := (1357, (.iconst 2, 1))) rfl), rfl⟩) (z_ldc z_lq33_ok 26 (q := (1358, (.iadd, 1))) rfl) (z_ldc z_lq33_ok 27 (q := (1359, (.iaload, 1))) rfl) ?_
  refine lw_arg F Cf1 (j := 3) (by decide) (by decide) hk (lv_at hl 0 rfl) (lv_at hl 3 rfl) (ins := .iadd) (n2 := 0) (z_ldc z_lq33_ok 28 (q := (1360, (.aload_n 0, 1))) rfl) (z_ldc z_lq33_ok 29 (q := (1361, (.iload_n 3, 1))) rfl) (Or.inl ⟨(z_ldc z_lq33_ok 30 (q := (1362, (.iconst 3, 1))) rfl), rfl⟩) (z_ldc z_lq33_ok 31 (q := (1363, (.iadd, 1))) rfl) (z_ldc z_lq33_ok 32 (q := (1364, (.iaload, 1))) rfl) ?_
  have eS13 : (([z_I (xs (7 * k + 1)).toInt, z_I (xs (7 * k + 2)).toInt, z_I (xs (7 * k + 3)).toInt] : List z_V).map (z_v cx.2.2)).reverse ++ .ref (cx.2.2 13) :: [.int (Int32.ofInt x1)] = (.int (xs (7 * k + 3)) :: .int (xs (7 * k + 2)) :: .int (xs (7 * k + 1)) :: .ref (cx.2.2 13) :: [.int (Int32.ofInt x1)] : List Value) := by
    simp only [List.map_cons, List.map_nil, lw_vI, List.reverse_cons, List.reverse_nil, List.nil_append, List.cons_append]
  show W p l e R s m #[Value.ref b] below meth c _ _ CC SS QQ (F0 m 1365 ls (.int (xs (7 * k + 3)) :: .int (xs (7 * k + 2)) :: .int (xs (7 * k + 1)) :: .ref (cx.2.2 13) :: [.int (Int32.ofInt x1)]))
  rw [← eS13]
  refine lw_call F Cf1 (k := 360) (o := 13) (lk := (10, 176)) (t' := z_m360) rfl hq1 rfl (show z_np z_m360.1 = some 3 by decide +kernel) (by decide +kernel) (by decide) (by decide +kernel) (by decide +kernel) va (by simp [Value.category]) hl.1 hR hCC (z_ldc z_lq33_ok 33 (q := (1365, (.invokevirtual 158, 3))) rfl) (fun v2 M2 H2 locs2 hn2 hok2 hq2 Cf2 => ?_)
  obtain ⟨rfl, hP2⟩ := hq2
  show W p l e R s m #[Value.ref b] below meth c H2 locs2 CC SS QQ (F0 m 1368 ls [.int (Int32.ofInt x1), .int (Int32.ofInt x1)])
  refine lv_icmp_eq (tgt := 1803) hx hb (z_ldc z_lq33_ok 34 (q := (1368, (.if_icmp .eq 435, 3))) rfl) (by decide) (fun _ => ?_) (fun q => absurd rfl q)
  exact kk M2 H2 locs2 hP2 Cf2
def z_lq34 : List (Nat × (Instr × Nat)) := [(1373, (.aload_n 1, 1)), (1374, (.aload_n 0, 1)), (1375, (.iload_n 3, 1)), (1376, (.iconst 1, 1)), (1377, (.iadd, 1)), (1378, (.iaload, 1)), (1379, (.aload_n 0, 1)), (1380, (.iload_n 3, 1)), (1381, (.iconst 2, 1)), (1382, (.iadd, 1)), (1383, (.iaload, 1)), (1384, (.aload_n 0, 1)), (1385, (.iload_n 3, 1)), (1386, (.iconst 3, 1)), (1387, (.iadd, 1)), (1388, (.iaload, 1)), (1389, (.invokevirtual 159, 3)), (1392, (.aload_n 2, 1)), (1393, (.aload_n 0, 1)), (1394, (.iload_n 3, 1)), (1395, (.iconst 1, 1)), (1396, (.iadd, 1)), (1397, (.iaload, 1)), (1398, (.aload_n 0, 1)), (1399, (.iload_n 3, 1)), (1400, (.iconst 2, 1)), (1401, (.iadd, 1)), (1402, (.iaload, 1)), (1403, (.aload_n 0, 1)), (1404, (.iload_n 3, 1)), (1405, (.iconst 3, 1)), (1406, (.iadd, 1)), (1407, (.iaload, 1)), (1408, (.invokevirtual 162, 3)), (1411, (.if_icmp .eq 392, 3))]
theorem z_lq34_ok : z_lq34.all (fun q => decide (decode code q.1 = .ok q.2)) = true := by decide +kernel
theorem lw_case34 (F : z_lfix cx p s m meth c b L xs) (Cf : z_lcfg cx s H locs M) {k d : Nat} {P : z_M → Prop} (hk : 7 * k + 7 ≤ L) (hl : lv_has ls 4 [(0, .ref b), (1, .ref (cx.2.2 1)), (2, .ref (cx.2.2 13)), (3, .int (nI (7 * k)))]) (hR : d + 2 ≤ R.frames ∧ 64 * (d + 2) ≤ R.locals) (hCC : CC ≤ R.cells ∧ SS ≤ R.slots)
    (hCl : z_Cl 0 d 201 [z_R 1, z_I (xs (7 * k + 1)).toInt, z_I (xs (7 * k + 2)).toInt, z_I (xs (7 * k + 3)).toInt] M (fun v M1 => (∃ x, v = z_I x) ∧ z_Cl 0 d 364 [z_R 13, z_I (xs (7 * k + 1)).toInt, z_I (xs (7 * k + 2)).toInt, z_I (xs (7 * k + 3)).toInt] M1 (fun v2 M2 => v2 = v ∧ P M2)))
    (kk : ∀ (M2 : z_M) (H1 : Heap) (locs1 : List Loc), P M2 → z_lcfg cx s H1 locs1 M2 → W p l e R s m #[Value.ref b] below meth c H1 locs1 CC SS QQ (F0 m 1803 ls [])) : W p l e R s m #[Value.ref b] below meth c H locs CC SS QQ (F0 m 1373 ls []) := by
  obtain ⟨hx, hb, -⟩ := id F.1
  have va : ∀ v ∈ [(z_I (xs (7 * k + 1)).toInt : z_V), (z_I (xs (7 * k + 2)).toInt : z_V), (z_I (xs (7 * k + 3)).toInt : z_V)], z_vok 0 v := by
    intro v hv
    simp only [List.mem_cons, List.not_mem_nil, or_false] at hv
    rcases hv with rfl | rfl | rfl <;> exact z_n_in _
  refine lv_aload_n hx hb (z_ldc z_lq34_ok 0 (q := (1373, (.aload_n 1, 1))) rfl) rfl (lv_at hl 1 rfl) ?_
  refine lw_arg F Cf (j := 1) (by decide) (by decide) hk (lv_at hl 0 rfl) (lv_at hl 3 rfl) (ins := .iadd) (n2 := 0) (z_ldc z_lq34_ok 1 (q := (1374, (.aload_n 0, 1))) rfl) (z_ldc z_lq34_ok 2 (q := (1375, (.iload_n 3, 1))) rfl) (Or.inl ⟨(z_ldc z_lq34_ok 3 (q := (1376, (.iconst 1, 1))) rfl), rfl⟩) (z_ldc z_lq34_ok 4 (q := (1377, (.iadd, 1))) rfl) (z_ldc z_lq34_ok 5 (q := (1378, (.iaload, 1))) rfl) ?_
  refine lw_arg F Cf (j := 2) (by decide) (by decide) hk (lv_at hl 0 rfl) (lv_at hl 3 rfl) (ins := .iadd) (n2 := 0) (z_ldc z_lq34_ok 6 (q := (1379, (.aload_n 0, 1))) rfl) (z_ldc z_lq34_ok 7 (q := (1380, (.iload_n 3, 1))) rfl) (Or.inl ⟨(z_ldc z_lq34_ok 8 (q := (1381, (.iconst 2, 1))) rfl), rfl⟩) (z_ldc z_lq34_ok 9 (q := (1382, (.iadd, 1))) rfl) (z_ldc z_lq34_ok 10 (q := (1383, (.iaload, 1))) rfl) ?_
  refine lw_arg F Cf (j := 3) (by decide) (by decide) hk (lv_at hl 0 rfl) (lv_at hl 3 rfl) (ins := .iadd) (n2 := 0) (z_ldc z_lq34_ok 11 (q := (1384, (.aload_n 0, 1))) rfl) (z_ldc z_lq34_ok 12 (q := (1385, (.iload_n 3, 1))) rfl) (Or.inl ⟨(z_ldc z_lq34_ok 13 (q := (1386, (.iconst 3, 1))) rfl), rfl⟩) (z_ldc z_lq34_ok 14 (q := (1387, (.iadd, 1))) rfl) (z_ldc z_lq34_ok 15 (q := (1388, (.iaload, 1))) rfl) ?_
  have eS1 : (([z_I (xs (7 * k + 1)).toInt, z_I (xs (7 * k + 2)).toInt, z_I (xs (7 * k + 3)).toInt] : List z_V).map (z_v cx.2.2)).reverse ++ .ref (cx.2.2 1) :: [] = (.int (xs (7 * k + 3)) :: .int (xs (7 * k + 2)) :: .int (xs (7 * k + 1)) :: .ref (cx.2.2 1) :: [] : List Value) := by
    simp only [List.map_cons, List.map_nil, lw_vI, List.reverse_cons, List.reverse_nil, List.nil_append, List.cons_append]
  show W p l e R s m #[Value.ref b] below meth c _ _ CC SS QQ (F0 m 1389 ls (.int (xs (7 * k + 3)) :: .int (xs (7 * k + 2)) :: .int (xs (7 * k + 1)) :: .ref (cx.2.2 1) :: []))
  rw [← eS1]
  refine lw_call F Cf (k := 201) (o := 1) (lk := (6, 63)) (t' := z_m201) rfl hCl rfl (show z_np z_m201.1 = some 3 by decide +kernel) (by decide +kernel) (by decide) (by decide +kernel) (by decide +kernel) va (by decide) hl.1 hR hCC (z_ldc z_lq34_ok 16 (q := (1389, (.invokevirtual 159, 3))) rfl) (fun v1 M1 H1 locs1 hn1 hok1 hq1 Cf1 => ?_)
  obtain ⟨hty1, hq1⟩ := hq1
  obtain ⟨x1, rfl⟩ := hty1
  show W p l e R s m #[Value.ref b] below meth c H1 locs1 CC SS QQ (F0 m 1392 ls [.int (Int32.ofInt x1)])
  refine lv_aload_n hx hb (z_ldc z_lq34_ok 17 (q := (1392, (.aload_n 2, 1))) rfl) rfl (lv_at hl 2 rfl) ?_
  refine lw_arg F Cf1 (j := 1) (by decide) (by decide) hk (lv_at hl 0 rfl) (lv_at hl 3 rfl) (ins := .iadd) (n2 := 0) (z_ldc z_lq34_ok 18 (q := (1393, (.aload_n 0, 1))) rfl) (z_ldc z_lq34_ok 19 (q := (1394, (.iload_n 3, 1))) rfl) (Or.inl ⟨(z_ldc z_lq34_ok 20 (q := (1395, (.iconst 1, 1))) rfl), rfl⟩) (z_ldc z_lq34_ok 21 (q := (1396, (.iadd, 1))) rfl) (z_ldc z_lq34_ok 22 (q := (1397, (.iaload, 1))) rfl) ?_
  refine lw_arg F Cf1 (j := 2) (by decide) (by decide) hk (lv_at hl 0 rfl) (lv_at hl 3 rfl) (ins := .iadd) (n2 := 0) (z_ldc z_lq34_ok 23 (q := (1398, (.aload_n 0, 1))) rfl) (z_ldc z_lq34_ok 24 (q := (1399, (.iload_n 3, 1))) rfl) (Or.inl ⟨(z_ldc z_lq34_ok 25 (q := (1400, (.iconst 2, 1))) rfl), rfl⟩) (z_ldc z_lq34_ok 26 (q := (1401, (.iadd, 1))) rfl) (z_ldc z_lq34_ok 27 (q := (1402, (.iaload, 1))) rfl) ?_
  refine lw_arg F Cf1 (j := 3) (by decide) (by decide) hk (lv_at hl 0 rfl) (lv_at hl 3 rfl) (ins := .iadd) (n2 := 0) (z_ldc z_lq34_ok 28 (q := (1403, (.aload_n 0, 1))) rfl) (z_ldc z_lq34_ok 29 (q := (1404, (.iload_n 3, 1))) rfl) (Or.inl ⟨(z_ldc z_lq34_ok 30 (q := (1405, (.iconst 3, 1))) rfl), rfl⟩) (z_ldc z_lq34_ok 31 (q := (1406, (.iadd, 1))) rfl) (z_ldc z_lq34_ok 32 (q := (1407, (.iaload, 1))) rfl) ?_
  have eS13 : (([z_I (xs (7 * k + 1)).toInt, z_I (xs (7 * k + 2)).toInt, z_I (xs (7 * k + 3)).toInt] : List z_V).map (z_v cx.2.2)).reverse ++ .ref (cx.2.2 13) :: [.int (Int32.ofInt x1)] = (.int (xs (7 * k + 3)) :: .int (xs (7 * k + 2)) :: .int (xs (7 * k + 1)) :: .ref (cx.2.2 13) :: [.int (Int32.ofInt x1)] : List Value) := by
    simp only [List.map_cons, List.map_nil, lw_vI, List.reverse_cons, List.reverse_nil, List.nil_append, List.cons_append]
  show W p l e R s m #[Value.ref b] below meth c _ _ CC SS QQ (F0 m 1408 ls (.int (xs (7 * k + 3)) :: .int (xs (7 * k + 2)) :: .int (xs (7 * k + 1)) :: .ref (cx.2.2 13) :: [.int (Int32.ofInt x1)]))
  rw [← eS13]
  refine lw_call F Cf1 (k := 364) (o := 13) (lk := (10, 180)) (t' := z_m364) rfl hq1 rfl (show z_np z_m364.1 = some 3 by decide +kernel) (by decide +kernel) (by decide) (by decide +kernel) (by decide +kernel) va (by simp [Value.category]) hl.1 hR hCC (z_ldc z_lq34_ok 33 (q := (1408, (.invokevirtual 162, 3))) rfl) (fun v2 M2 H2 locs2 hn2 hok2 hq2 Cf2 => ?_)
  obtain ⟨rfl, hP2⟩ := hq2
  show W p l e R s m #[Value.ref b] below meth c H2 locs2 CC SS QQ (F0 m 1411 ls [.int (Int32.ofInt x1), .int (Int32.ofInt x1)])
  refine lv_icmp_eq (tgt := 1803) hx hb (z_ldc z_lq34_ok 34 (q := (1411, (.if_icmp .eq 392, 3))) rfl) (by decide) (fun _ => ?_) (fun q => absurd rfl q)
  exact kk M2 H2 locs2 hP2 Cf2
def z_lq35 : List (Nat × (Instr × Nat)) := [(1416, (.aload_n 1, 1)), (1417, (.aload_n 0, 1)), (1418, (.iload_n 3, 1)), (1419, (.iconst 1, 1)), (1420, (.iadd, 1)), (1421, (.iaload, 1)), (1422, (.aload_n 0, 1)), (1423, (.iload_n 3, 1)), (1424, (.iconst 2, 1)), (1425, (.iadd, 1)), (1426, (.iaload, 1)), (1427, (.invokevirtual 163, 3)), (1430, (.aload_n 2, 1)), (1431, (.aload_n 0, 1)), (1432, (.iload_n 3, 1)), (1433, (.iconst 1, 1)), (1434, (.iadd, 1)), (1435, (.iaload, 1)), (1436, (.aload_n 0, 1)), (1437, (.iload_n 3, 1)), (1438, (.iconst 2, 1)), (1439, (.iadd, 1)), (1440, (.iaload, 1)), (1441, (.invokevirtual 166, 3)), (1444, (.if_icmp .eq 359, 3))]
theorem z_lq35_ok : z_lq35.all (fun q => decide (decode code q.1 = .ok q.2)) = true := by decide +kernel
theorem lw_case35 (F : z_lfix cx p s m meth c b L xs) (Cf : z_lcfg cx s H locs M) {k d : Nat} {P : z_M → Prop} (hk : 7 * k + 7 ≤ L) (hl : lv_has ls 4 [(0, .ref b), (1, .ref (cx.2.2 1)), (2, .ref (cx.2.2 13)), (3, .int (nI (7 * k)))]) (hR : d + 2 ≤ R.frames ∧ 64 * (d + 2) ≤ R.locals) (hCC : CC ≤ R.cells ∧ SS ≤ R.slots)
    (hCl : z_Cl 0 d 202 [z_R 1, z_I (xs (7 * k + 1)).toInt, z_I (xs (7 * k + 2)).toInt] M (fun v M1 => (∃ x, v = z_I x) ∧ z_Cl 0 d 366 [z_R 13, z_I (xs (7 * k + 1)).toInt, z_I (xs (7 * k + 2)).toInt] M1 (fun v2 M2 => v2 = v ∧ P M2)))
    (kk : ∀ (M2 : z_M) (H1 : Heap) (locs1 : List Loc), P M2 → z_lcfg cx s H1 locs1 M2 → W p l e R s m #[Value.ref b] below meth c H1 locs1 CC SS QQ (F0 m 1803 ls [])) : W p l e R s m #[Value.ref b] below meth c H locs CC SS QQ (F0 m 1416 ls []) := by
  obtain ⟨hx, hb, -⟩ := id F.1
  have va : ∀ v ∈ [(z_I (xs (7 * k + 1)).toInt : z_V), (z_I (xs (7 * k + 2)).toInt : z_V)], z_vok 0 v := by
    intro v hv
    simp only [List.mem_cons, List.not_mem_nil, or_false] at hv
    rcases hv with rfl | rfl <;> exact z_n_in _
  refine lv_aload_n hx hb (z_ldc z_lq35_ok 0 (q := (1416, (.aload_n 1, 1))) rfl) rfl (lv_at hl 1 rfl) ?_
  refine lw_arg F Cf (j := 1) (by decide) (by decide) hk (lv_at hl 0 rfl) (lv_at hl 3 rfl) (ins := .iadd) (n2 := 0) (z_ldc z_lq35_ok 1 (q := (1417, (.aload_n 0, 1))) rfl) (z_ldc z_lq35_ok 2 (q := (1418, (.iload_n 3, 1))) rfl) (Or.inl ⟨(z_ldc z_lq35_ok 3 (q := (1419, (.iconst 1, 1))) rfl), rfl⟩) (z_ldc z_lq35_ok 4 (q := (1420, (.iadd, 1))) rfl) (z_ldc z_lq35_ok 5 (q := (1421, (.iaload, 1))) rfl) ?_
  refine lw_arg F Cf (j := 2) (by decide) (by decide) hk (lv_at hl 0 rfl) (lv_at hl 3 rfl) (ins := .iadd) (n2 := 0) (z_ldc z_lq35_ok 6 (q := (1422, (.aload_n 0, 1))) rfl) (z_ldc z_lq35_ok 7 (q := (1423, (.iload_n 3, 1))) rfl) (Or.inl ⟨(z_ldc z_lq35_ok 8 (q := (1424, (.iconst 2, 1))) rfl), rfl⟩) (z_ldc z_lq35_ok 9 (q := (1425, (.iadd, 1))) rfl) (z_ldc z_lq35_ok 10 (q := (1426, (.iaload, 1))) rfl) ?_
  have eS1 : (([z_I (xs (7 * k + 1)).toInt, z_I (xs (7 * k + 2)).toInt] : List z_V).map (z_v cx.2.2)).reverse ++ .ref (cx.2.2 1) :: [] = (.int (xs (7 * k + 2)) :: .int (xs (7 * k + 1)) :: .ref (cx.2.2 1) :: [] : List Value) := by
    simp only [List.map_cons, List.map_nil, lw_vI, List.reverse_cons, List.reverse_nil, List.nil_append, List.cons_append]
  show W p l e R s m #[Value.ref b] below meth c _ _ CC SS QQ (F0 m 1427 ls (.int (xs (7 * k + 2)) :: .int (xs (7 * k + 1)) :: .ref (cx.2.2 1) :: []))
  rw [← eS1]
  refine lw_call F Cf (k := 202) (o := 1) (lk := (6, 82)) (t' := z_m202) rfl hCl rfl (show z_np z_m202.1 = some 2 by decide +kernel) (by decide +kernel) (by decide) (by decide +kernel) (by decide +kernel) va (by decide) hl.1 hR hCC (z_ldc z_lq35_ok 11 (q := (1427, (.invokevirtual 163, 3))) rfl) (fun v1 M1 H1 locs1 hn1 hok1 hq1 Cf1 => ?_)
  obtain ⟨hty1, hq1⟩ := hq1
  obtain ⟨x1, rfl⟩ := hty1
  show W p l e R s m #[Value.ref b] below meth c H1 locs1 CC SS QQ (F0 m 1430 ls [.int (Int32.ofInt x1)])
  refine lv_aload_n hx hb (z_ldc z_lq35_ok 12 (q := (1430, (.aload_n 2, 1))) rfl) rfl (lv_at hl 2 rfl) ?_
  refine lw_arg F Cf1 (j := 1) (by decide) (by decide) hk (lv_at hl 0 rfl) (lv_at hl 3 rfl) (ins := .iadd) (n2 := 0) (z_ldc z_lq35_ok 13 (q := (1431, (.aload_n 0, 1))) rfl) (z_ldc z_lq35_ok 14 (q := (1432, (.iload_n 3, 1))) rfl) (Or.inl ⟨(z_ldc z_lq35_ok 15 (q := (1433, (.iconst 1, 1))) rfl), rfl⟩) (z_ldc z_lq35_ok 16 (q := (1434, (.iadd, 1))) rfl) (z_ldc z_lq35_ok 17 (q := (1435, (.iaload, 1))) rfl) ?_
  refine lw_arg F Cf1 (j := 2) (by decide) (by decide) hk (lv_at hl 0 rfl) (lv_at hl 3 rfl) (ins := .iadd) (n2 := 0) (z_ldc z_lq35_ok 18 (q := (1436, (.aload_n 0, 1))) rfl) (z_ldc z_lq35_ok 19 (q := (1437, (.iload_n 3, 1))) rfl) (Or.inl ⟨(z_ldc z_lq35_ok 20 (q := (1438, (.iconst 2, 1))) rfl), rfl⟩) (z_ldc z_lq35_ok 21 (q := (1439, (.iadd, 1))) rfl) (z_ldc z_lq35_ok 22 (q := (1440, (.iaload, 1))) rfl) ?_
  have eS13 : (([z_I (xs (7 * k + 1)).toInt, z_I (xs (7 * k + 2)).toInt] : List z_V).map (z_v cx.2.2)).reverse ++ .ref (cx.2.2 13) :: [.int (Int32.ofInt x1)] = (.int (xs (7 * k + 2)) :: .int (xs (7 * k + 1)) :: .ref (cx.2.2 13) :: [.int (Int32.ofInt x1)] : List Value) := by
    simp only [List.map_cons, List.map_nil, lw_vI, List.reverse_cons, List.reverse_nil, List.nil_append, List.cons_append]
  show W p l e R s m #[Value.ref b] below meth c _ _ CC SS QQ (F0 m 1441 ls (.int (xs (7 * k + 2)) :: .int (xs (7 * k + 1)) :: .ref (cx.2.2 13) :: [.int (Int32.ofInt x1)]))
  rw [← eS13]
  refine lw_call F Cf1 (k := 366) (o := 13) (lk := (10, 196)) (t' := z_m366) rfl hq1 rfl (show z_np z_m366.1 = some 2 by decide +kernel) (by decide +kernel) (by decide) (by decide +kernel) (by decide +kernel) va (by simp [Value.category]) hl.1 hR hCC (z_ldc z_lq35_ok 23 (q := (1441, (.invokevirtual 166, 3))) rfl) (fun v2 M2 H2 locs2 hn2 hok2 hq2 Cf2 => ?_)
  obtain ⟨rfl, hP2⟩ := hq2
  show W p l e R s m #[Value.ref b] below meth c H2 locs2 CC SS QQ (F0 m 1444 ls [.int (Int32.ofInt x1), .int (Int32.ofInt x1)])
  refine lv_icmp_eq (tgt := 1803) hx hb (z_ldc z_lq35_ok 24 (q := (1444, (.if_icmp .eq 359, 3))) rfl) (by decide) (fun _ => ?_) (fun q => absurd rfl q)
  exact kk M2 H2 locs2 hP2 Cf2
def z_lq36 : List (Nat × (Instr × Nat)) := [(1449, (.aload_n 1, 1)), (1450, (.aload_n 0, 1)), (1451, (.iload_n 3, 1)), (1452, (.iconst 1, 1)), (1453, (.iadd, 1)), (1454, (.iaload, 1)), (1455, (.aload_n 0, 1)), (1456, (.iload_n 3, 1)), (1457, (.iconst 2, 1)), (1458, (.iadd, 1)), (1459, (.iaload, 1)), (1460, (.aload_n 0, 1)), (1461, (.iload_n 3, 1)), (1462, (.iconst 3, 1)), (1463, (.iadd, 1)), (1464, (.iaload, 1)), (1465, (.aload_n 0, 1)), (1466, (.iload_n 3, 1)), (1467, (.iconst 4, 1)), (1468, (.iadd, 1)), (1469, (.iaload, 1)), (1470, (.invokevirtual 167, 3)), (1473, (.aload_n 2, 1)), (1474, (.aload_n 0, 1)), (1475, (.iload_n 3, 1)), (1476, (.iconst 1, 1)), (1477, (.iadd, 1)), (1478, (.iaload, 1)), (1479, (.aload_n 0, 1)), (1480, (.iload_n 3, 1)), (1481, (.iconst 2, 1)), (1482, (.iadd, 1)), (1483, (.iaload, 1)), (1484, (.aload_n 0, 1)), (1485, (.iload_n 3, 1)), (1486, (.iconst 3, 1)), (1487, (.iadd, 1)), (1488, (.iaload, 1)), (1489, (.aload_n 0, 1)), (1490, (.iload_n 3, 1)), (1491, (.iconst 4, 1)), (1492, (.iadd, 1)), (1493, (.iaload, 1)), (1494, (.invokevirtual 171, 3)), (1497, (.if_icmp .eq 306, 3))]
theorem z_lq36_ok : z_lq36.all (fun q => decide (decode code q.1 = .ok q.2)) = true := by decide +kernel
theorem lw_case36 (F : z_lfix cx p s m meth c b L xs) (Cf : z_lcfg cx s H locs M) {k d : Nat} {P : z_M → Prop} (hk : 7 * k + 7 ≤ L) (hl : lv_has ls 4 [(0, .ref b), (1, .ref (cx.2.2 1)), (2, .ref (cx.2.2 13)), (3, .int (nI (7 * k)))]) (hR : d + 2 ≤ R.frames ∧ 64 * (d + 2) ≤ R.locals) (hCC : CC ≤ R.cells ∧ SS ≤ R.slots)
    (hCl : z_Cl 0 d 203 [z_R 1, z_I (xs (7 * k + 1)).toInt, z_I (xs (7 * k + 2)).toInt, z_I (xs (7 * k + 3)).toInt, z_I (xs (7 * k + 4)).toInt] M (fun v M1 => (∃ x, v = z_I x) ∧ z_Cl 0 d 367 [z_R 13, z_I (xs (7 * k + 1)).toInt, z_I (xs (7 * k + 2)).toInt, z_I (xs (7 * k + 3)).toInt, z_I (xs (7 * k + 4)).toInt] M1 (fun v2 M2 => v2 = v ∧ P M2)))
    (kk : ∀ (M2 : z_M) (H1 : Heap) (locs1 : List Loc), P M2 → z_lcfg cx s H1 locs1 M2 → W p l e R s m #[Value.ref b] below meth c H1 locs1 CC SS QQ (F0 m 1803 ls [])) : W p l e R s m #[Value.ref b] below meth c H locs CC SS QQ (F0 m 1449 ls []) := by
  obtain ⟨hx, hb, -⟩ := id F.1
  have va : ∀ v ∈ [(z_I (xs (7 * k + 1)).toInt : z_V), (z_I (xs (7 * k + 2)).toInt : z_V), (z_I (xs (7 * k + 3)).toInt : z_V), (z_I (xs (7 * k + 4)).toInt : z_V)], z_vok 0 v := by
    intro v hv
    simp only [List.mem_cons, List.not_mem_nil, or_false] at hv
    rcases hv with rfl | rfl | rfl | rfl <;> exact z_n_in _
  refine lv_aload_n hx hb (z_ldc z_lq36_ok 0 (q := (1449, (.aload_n 1, 1))) rfl) rfl (lv_at hl 1 rfl) ?_
  refine lw_arg F Cf (j := 1) (by decide) (by decide) hk (lv_at hl 0 rfl) (lv_at hl 3 rfl) (ins := .iadd) (n2 := 0) (z_ldc z_lq36_ok 1 (q := (1450, (.aload_n 0, 1))) rfl) (z_ldc z_lq36_ok 2 (q := (1451, (.iload_n 3, 1))) rfl) (Or.inl ⟨(z_ldc z_lq36_ok 3 (q := (1452, (.iconst 1, 1))) rfl), rfl⟩) (z_ldc z_lq36_ok 4 (q := (1453, (.iadd, 1))) rfl) (z_ldc z_lq36_ok 5 (q := (1454, (.iaload, 1))) rfl) ?_
  refine lw_arg F Cf (j := 2) (by decide) (by decide) hk (lv_at hl 0 rfl) (lv_at hl 3 rfl) (ins := .iadd) (n2 := 0) (z_ldc z_lq36_ok 6 (q := (1455, (.aload_n 0, 1))) rfl) (z_ldc z_lq36_ok 7 (q := (1456, (.iload_n 3, 1))) rfl) (Or.inl ⟨(z_ldc z_lq36_ok 8 (q := (1457, (.iconst 2, 1))) rfl), rfl⟩) (z_ldc z_lq36_ok 9 (q := (1458, (.iadd, 1))) rfl) (z_ldc z_lq36_ok 10 (q := (1459, (.iaload, 1))) rfl) ?_
  refine lw_arg F Cf (j := 3) (by decide) (by decide) hk (lv_at hl 0 rfl) (lv_at hl 3 rfl) (ins := .iadd) (n2 := 0) (z_ldc z_lq36_ok 11 (q := (1460, (.aload_n 0, 1))) rfl) (z_ldc z_lq36_ok 12 (q := (1461, (.iload_n 3, 1))) rfl) (Or.inl ⟨(z_ldc z_lq36_ok 13 (q := (1462, (.iconst 3, 1))) rfl), rfl⟩) (z_ldc z_lq36_ok 14 (q := (1463, (.iadd, 1))) rfl) (z_ldc z_lq36_ok 15 (q := (1464, (.iaload, 1))) rfl) ?_
  refine lw_arg F Cf (j := 4) (by decide) (by decide) hk (lv_at hl 0 rfl) (lv_at hl 3 rfl) (ins := .iadd) (n2 := 0) (z_ldc z_lq36_ok 16 (q := (1465, (.aload_n 0, 1))) rfl) (z_ldc z_lq36_ok 17 (q := (1466, (.iload_n 3, 1))) rfl) (Or.inl ⟨(z_ldc z_lq36_ok 18 (q := (1467, (.iconst 4, 1))) rfl), rfl⟩) (z_ldc z_lq36_ok 19 (q := (1468, (.iadd, 1))) rfl) (z_ldc z_lq36_ok 20 (q := (1469, (.iaload, 1))) rfl) ?_
  have eS1 : (([z_I (xs (7 * k + 1)).toInt, z_I (xs (7 * k + 2)).toInt, z_I (xs (7 * k + 3)).toInt, z_I (xs (7 * k + 4)).toInt] : List z_V).map (z_v cx.2.2)).reverse ++ .ref (cx.2.2 1) :: [] = (.int (xs (7 * k + 4)) :: .int (xs (7 * k + 3)) :: .int (xs (7 * k + 2)) :: .int (xs (7 * k + 1)) :: .ref (cx.2.2 1) :: [] : List Value) := by
    simp only [List.map_cons, List.map_nil, lw_vI, List.reverse_cons, List.reverse_nil, List.nil_append, List.cons_append]
  show W p l e R s m #[Value.ref b] below meth c _ _ CC SS QQ (F0 m 1470 ls (.int (xs (7 * k + 4)) :: .int (xs (7 * k + 3)) :: .int (xs (7 * k + 2)) :: .int (xs (7 * k + 1)) :: .ref (cx.2.2 1) :: []))
  rw [← eS1]
  refine lw_call F Cf (k := 203) (o := 1) (lk := (6, 93)) (t' := z_m203) rfl hCl rfl (show z_np z_m203.1 = some 4 by decide +kernel) (by decide +kernel) (by decide) (by decide +kernel) (by decide +kernel) va (by decide) hl.1 hR hCC (z_ldc z_lq36_ok 21 (q := (1470, (.invokevirtual 167, 3))) rfl) (fun v1 M1 H1 locs1 hn1 hok1 hq1 Cf1 => ?_)
  obtain ⟨hty1, hq1⟩ := hq1
  obtain ⟨x1, rfl⟩ := hty1
  show W p l e R s m #[Value.ref b] below meth c H1 locs1 CC SS QQ (F0 m 1473 ls [.int (Int32.ofInt x1)])
  refine lv_aload_n hx hb (z_ldc z_lq36_ok 22 (q := (1473, (.aload_n 2, 1))) rfl) rfl (lv_at hl 2 rfl) ?_
  refine lw_arg F Cf1 (j := 1) (by decide) (by decide) hk (lv_at hl 0 rfl) (lv_at hl 3 rfl) (ins := .iadd) (n2 := 0) (z_ldc z_lq36_ok 23 (q := (1474, (.aload_n 0, 1))) rfl) (z_ldc z_lq36_ok 24 (q := (1475, (.iload_n 3, 1))) rfl) (Or.inl ⟨(z_ldc z_lq36_ok 25 (q := (1476, (.iconst 1, 1))) rfl), rfl⟩) (z_ldc z_lq36_ok 26 (q := (1477, (.iadd, 1))) rfl) (z_ldc z_lq36_ok 27 (q := (1478, (.iaload, 1))) rfl) ?_
  refine lw_arg F Cf1 (j := 2) (by decide) (by decide) hk (lv_at hl 0 rfl) (lv_at hl 3 rfl) (ins := .iadd) (n2 := 0) (z_ldc z_lq36_ok 28 (q := (1479, (.aload_n 0, 1))) rfl) (z_ldc z_lq36_ok 29 (q := (1480, (.iload_n 3, 1))) rfl) (Or.inl ⟨(z_ldc z_lq36_ok 30 (q := (1481, (.iconst 2, 1))) rfl), rfl⟩) (z_ldc z_lq36_ok 31 (q := (1482, (.iadd, 1))) rfl) (z_ldc z_lq36_ok 32 (q := (1483, (.iaload, 1))) rfl) ?_
  refine lw_arg F Cf1 (j := 3) (by decide) (by decide) hk (lv_at hl 0 rfl) (lv_at hl 3 rfl) (ins := .iadd) (n2 := 0) (z_ldc z_lq36_ok 33 (q := (1484, (.aload_n 0, 1))) rfl) (z_ldc z_lq36_ok 34 (q := (1485, (.iload_n 3, 1))) rfl) (Or.inl ⟨(z_ldc z_lq36_ok 35 (q := (1486, (.iconst 3, 1))) rfl), rfl⟩) (z_ldc z_lq36_ok 36 (q := (1487, (.iadd, 1))) rfl) (z_ldc z_lq36_ok 37 (q := (1488, (.iaload, 1))) rfl) ?_
  refine lw_arg F Cf1 (j := 4) (by decide) (by decide) hk (lv_at hl 0 rfl) (lv_at hl 3 rfl) (ins := .iadd) (n2 := 0) (z_ldc z_lq36_ok 38 (q := (1489, (.aload_n 0, 1))) rfl) (z_ldc z_lq36_ok 39 (q := (1490, (.iload_n 3, 1))) rfl) (Or.inl ⟨(z_ldc z_lq36_ok 40 (q := (1491, (.iconst 4, 1))) rfl), rfl⟩) (z_ldc z_lq36_ok 41 (q := (1492, (.iadd, 1))) rfl) (z_ldc z_lq36_ok 42 (q := (1493, (.iaload, 1))) rfl) ?_
  have eS13 : (([z_I (xs (7 * k + 1)).toInt, z_I (xs (7 * k + 2)).toInt, z_I (xs (7 * k + 3)).toInt, z_I (xs (7 * k + 4)).toInt] : List z_V).map (z_v cx.2.2)).reverse ++ .ref (cx.2.2 13) :: [.int (Int32.ofInt x1)] = (.int (xs (7 * k + 4)) :: .int (xs (7 * k + 3)) :: .int (xs (7 * k + 2)) :: .int (xs (7 * k + 1)) :: .ref (cx.2.2 13) :: [.int (Int32.ofInt x1)] : List Value) := by
    simp only [List.map_cons, List.map_nil, lw_vI, List.reverse_cons, List.reverse_nil, List.nil_append, List.cons_append]
  show W p l e R s m #[Value.ref b] below meth c _ _ CC SS QQ (F0 m 1494 ls (.int (xs (7 * k + 4)) :: .int (xs (7 * k + 3)) :: .int (xs (7 * k + 2)) :: .int (xs (7 * k + 1)) :: .ref (cx.2.2 13) :: [.int (Int32.ofInt x1)]))
  rw [← eS13]
  refine lw_call F Cf1 (k := 367) (o := 13) (lk := (10, 201)) (t' := z_m367) rfl hq1 rfl (show z_np z_m367.1 = some 4 by decide +kernel) (by decide +kernel) (by decide) (by decide +kernel) (by decide +kernel) va (by simp [Value.category]) hl.1 hR hCC (z_ldc z_lq36_ok 43 (q := (1494, (.invokevirtual 171, 3))) rfl) (fun v2 M2 H2 locs2 hn2 hok2 hq2 Cf2 => ?_)
  obtain ⟨rfl, hP2⟩ := hq2
  show W p l e R s m #[Value.ref b] below meth c H2 locs2 CC SS QQ (F0 m 1497 ls [.int (Int32.ofInt x1), .int (Int32.ofInt x1)])
  refine lv_icmp_eq (tgt := 1803) hx hb (z_ldc z_lq36_ok 44 (q := (1497, (.if_icmp .eq 306, 3))) rfl) (by decide) (fun _ => ?_) (fun q => absurd rfl q)
  exact kk M2 H2 locs2 hP2 Cf2
def z_lq37 : List (Nat × (Instr × Nat)) := [(1502, (.aload_n 1, 1)), (1503, (.aload_n 0, 1)), (1504, (.iload_n 3, 1)), (1505, (.iconst 1, 1)), (1506, (.iadd, 1)), (1507, (.iaload, 1)), (1508, (.aload_n 0, 1)), (1509, (.iload_n 3, 1)), (1510, (.iconst 2, 1)), (1511, (.iadd, 1)), (1512, (.iaload, 1)), (1513, (.invokevirtual 172, 3)), (1516, (.aload_n 2, 1)), (1517, (.aload_n 0, 1)), (1518, (.iload_n 3, 1)), (1519, (.iconst 1, 1)), (1520, (.iadd, 1)), (1521, (.iaload, 1)), (1522, (.aload_n 0, 1)), (1523, (.iload_n 3, 1)), (1524, (.iconst 2, 1)), (1525, (.iadd, 1)), (1526, (.iaload, 1)), (1527, (.invokevirtual 175, 3)), (1530, (.if_icmp .eq 273, 3))]
theorem z_lq37_ok : z_lq37.all (fun q => decide (decode code q.1 = .ok q.2)) = true := by decide +kernel
theorem lw_case37 (F : z_lfix cx p s m meth c b L xs) (Cf : z_lcfg cx s H locs M) {k d : Nat} {P : z_M → Prop} (hk : 7 * k + 7 ≤ L) (hl : lv_has ls 4 [(0, .ref b), (1, .ref (cx.2.2 1)), (2, .ref (cx.2.2 13)), (3, .int (nI (7 * k)))]) (hR : d + 2 ≤ R.frames ∧ 64 * (d + 2) ≤ R.locals) (hCC : CC ≤ R.cells ∧ SS ≤ R.slots)
    (hCl : z_Cl 0 d 204 [z_R 1, z_I (xs (7 * k + 1)).toInt, z_I (xs (7 * k + 2)).toInt] M (fun v M1 => (∃ x, v = z_I x) ∧ z_Cl 0 d 368 [z_R 13, z_I (xs (7 * k + 1)).toInt, z_I (xs (7 * k + 2)).toInt] M1 (fun v2 M2 => v2 = v ∧ P M2)))
    (kk : ∀ (M2 : z_M) (H1 : Heap) (locs1 : List Loc), P M2 → z_lcfg cx s H1 locs1 M2 → W p l e R s m #[Value.ref b] below meth c H1 locs1 CC SS QQ (F0 m 1803 ls [])) : W p l e R s m #[Value.ref b] below meth c H locs CC SS QQ (F0 m 1502 ls []) := by
  obtain ⟨hx, hb, -⟩ := id F.1
  have va : ∀ v ∈ [(z_I (xs (7 * k + 1)).toInt : z_V), (z_I (xs (7 * k + 2)).toInt : z_V)], z_vok 0 v := by
    intro v hv
    simp only [List.mem_cons, List.not_mem_nil, or_false] at hv
    rcases hv with rfl | rfl <;> exact z_n_in _
  refine lv_aload_n hx hb (z_ldc z_lq37_ok 0 (q := (1502, (.aload_n 1, 1))) rfl) rfl (lv_at hl 1 rfl) ?_
  refine lw_arg F Cf (j := 1) (by decide) (by decide) hk (lv_at hl 0 rfl) (lv_at hl 3 rfl) (ins := .iadd) (n2 := 0) (z_ldc z_lq37_ok 1 (q := (1503, (.aload_n 0, 1))) rfl) (z_ldc z_lq37_ok 2 (q := (1504, (.iload_n 3, 1))) rfl) (Or.inl ⟨(z_ldc z_lq37_ok 3 (q := (1505, (.iconst 1, 1))) rfl), rfl⟩) (z_ldc z_lq37_ok 4 (q := (1506, (.iadd, 1))) rfl) (z_ldc z_lq37_ok 5 (q := (1507, (.iaload, 1))) rfl) ?_
  refine lw_arg F Cf (j := 2) (by decide) (by decide) hk (lv_at hl 0 rfl) (lv_at hl 3 rfl) (ins := .iadd) (n2 := 0) (z_ldc z_lq37_ok 6 (q := (1508, (.aload_n 0, 1))) rfl) (z_ldc z_lq37_ok 7 (q := (1509, (.iload_n 3, 1))) rfl) (Or.inl ⟨(z_ldc z_lq37_ok 8 (q := (1510, (.iconst 2, 1))) rfl), rfl⟩) (z_ldc z_lq37_ok 9 (q := (1511, (.iadd, 1))) rfl) (z_ldc z_lq37_ok 10 (q := (1512, (.iaload, 1))) rfl) ?_
  have eS1 : (([z_I (xs (7 * k + 1)).toInt, z_I (xs (7 * k + 2)).toInt] : List z_V).map (z_v cx.2.2)).reverse ++ .ref (cx.2.2 1) :: [] = (.int (xs (7 * k + 2)) :: .int (xs (7 * k + 1)) :: .ref (cx.2.2 1) :: [] : List Value) := by
    simp only [List.map_cons, List.map_nil, lw_vI, List.reverse_cons, List.reverse_nil, List.nil_append, List.cons_append]
  show W p l e R s m #[Value.ref b] below meth c _ _ CC SS QQ (F0 m 1513 ls (.int (xs (7 * k + 2)) :: .int (xs (7 * k + 1)) :: .ref (cx.2.2 1) :: []))
  rw [← eS1]
  refine lw_call F Cf (k := 204) (o := 1) (lk := (6, 106)) (t' := z_m204) rfl hCl rfl (show z_np z_m204.1 = some 2 by decide +kernel) (by decide +kernel) (by decide) (by decide +kernel) (by decide +kernel) va (by decide) hl.1 hR hCC (z_ldc z_lq37_ok 11 (q := (1513, (.invokevirtual 172, 3))) rfl) (fun v1 M1 H1 locs1 hn1 hok1 hq1 Cf1 => ?_)
  obtain ⟨hty1, hq1⟩ := hq1
  obtain ⟨x1, rfl⟩ := hty1
  show W p l e R s m #[Value.ref b] below meth c H1 locs1 CC SS QQ (F0 m 1516 ls [.int (Int32.ofInt x1)])
  refine lv_aload_n hx hb (z_ldc z_lq37_ok 12 (q := (1516, (.aload_n 2, 1))) rfl) rfl (lv_at hl 2 rfl) ?_
  refine lw_arg F Cf1 (j := 1) (by decide) (by decide) hk (lv_at hl 0 rfl) (lv_at hl 3 rfl) (ins := .iadd) (n2 := 0) (z_ldc z_lq37_ok 13 (q := (1517, (.aload_n 0, 1))) rfl) (z_ldc z_lq37_ok 14 (q := (1518, (.iload_n 3, 1))) rfl) (Or.inl ⟨(z_ldc z_lq37_ok 15 (q := (1519, (.iconst 1, 1))) rfl), rfl⟩) (z_ldc z_lq37_ok 16 (q := (1520, (.iadd, 1))) rfl) (z_ldc z_lq37_ok 17 (q := (1521, (.iaload, 1))) rfl) ?_
  refine lw_arg F Cf1 (j := 2) (by decide) (by decide) hk (lv_at hl 0 rfl) (lv_at hl 3 rfl) (ins := .iadd) (n2 := 0) (z_ldc z_lq37_ok 18 (q := (1522, (.aload_n 0, 1))) rfl) (z_ldc z_lq37_ok 19 (q := (1523, (.iload_n 3, 1))) rfl) (Or.inl ⟨(z_ldc z_lq37_ok 20 (q := (1524, (.iconst 2, 1))) rfl), rfl⟩) (z_ldc z_lq37_ok 21 (q := (1525, (.iadd, 1))) rfl) (z_ldc z_lq37_ok 22 (q := (1526, (.iaload, 1))) rfl) ?_
  have eS13 : (([z_I (xs (7 * k + 1)).toInt, z_I (xs (7 * k + 2)).toInt] : List z_V).map (z_v cx.2.2)).reverse ++ .ref (cx.2.2 13) :: [.int (Int32.ofInt x1)] = (.int (xs (7 * k + 2)) :: .int (xs (7 * k + 1)) :: .ref (cx.2.2 13) :: [.int (Int32.ofInt x1)] : List Value) := by
    simp only [List.map_cons, List.map_nil, lw_vI, List.reverse_cons, List.reverse_nil, List.nil_append, List.cons_append]
  show W p l e R s m #[Value.ref b] below meth c _ _ CC SS QQ (F0 m 1527 ls (.int (xs (7 * k + 2)) :: .int (xs (7 * k + 1)) :: .ref (cx.2.2 13) :: [.int (Int32.ofInt x1)]))
  rw [← eS13]
  refine lw_call F Cf1 (k := 368) (o := 13) (lk := (10, 209)) (t' := z_m368) rfl hq1 rfl (show z_np z_m368.1 = some 2 by decide +kernel) (by decide +kernel) (by decide) (by decide +kernel) (by decide +kernel) va (by simp [Value.category]) hl.1 hR hCC (z_ldc z_lq37_ok 23 (q := (1527, (.invokevirtual 175, 3))) rfl) (fun v2 M2 H2 locs2 hn2 hok2 hq2 Cf2 => ?_)
  obtain ⟨rfl, hP2⟩ := hq2
  show W p l e R s m #[Value.ref b] below meth c H2 locs2 CC SS QQ (F0 m 1530 ls [.int (Int32.ofInt x1), .int (Int32.ofInt x1)])
  refine lv_icmp_eq (tgt := 1803) hx hb (z_ldc z_lq37_ok 24 (q := (1530, (.if_icmp .eq 273, 3))) rfl) (by decide) (fun _ => ?_) (fun q => absurd rfl q)
  exact kk M2 H2 locs2 hP2 Cf2
def z_lq38 : List (Nat × (Instr × Nat)) := [(1535, (.aload_n 1, 1)), (1536, (.aload_n 0, 1)), (1537, (.iload_n 3, 1)), (1538, (.iconst 1, 1)), (1539, (.iadd, 1)), (1540, (.iaload, 1)), (1541, (.aload_n 0, 1)), (1542, (.iload_n 3, 1)), (1543, (.iconst 2, 1)), (1544, (.iadd, 1)), (1545, (.iaload, 1)), (1546, (.invokevirtual 176, 3)), (1549, (.aload_n 2, 1)), (1550, (.aload_n 0, 1)), (1551, (.iload_n 3, 1)), (1552, (.iconst 1, 1)), (1553, (.iadd, 1)), (1554, (.iaload, 1)), (1555, (.aload_n 0, 1)), (1556, (.iload_n 3, 1)), (1557, (.iconst 2, 1)), (1558, (.iadd, 1)), (1559, (.iaload, 1)), (1560, (.invokevirtual 179, 3)), (1563, (.if_icmp .eq 240, 3))]
theorem z_lq38_ok : z_lq38.all (fun q => decide (decode code q.1 = .ok q.2)) = true := by decide +kernel
theorem lw_case38 (F : z_lfix cx p s m meth c b L xs) (Cf : z_lcfg cx s H locs M) {k d : Nat} {P : z_M → Prop} (hk : 7 * k + 7 ≤ L) (hl : lv_has ls 4 [(0, .ref b), (1, .ref (cx.2.2 1)), (2, .ref (cx.2.2 13)), (3, .int (nI (7 * k)))]) (hR : d + 2 ≤ R.frames ∧ 64 * (d + 2) ≤ R.locals) (hCC : CC ≤ R.cells ∧ SS ≤ R.slots)
    (hCl : z_Cl 0 d 205 [z_R 1, z_I (xs (7 * k + 1)).toInt, z_I (xs (7 * k + 2)).toInt] M (fun v M1 => (∃ x, v = z_I x) ∧ z_Cl 0 d 371 [z_R 13, z_I (xs (7 * k + 1)).toInt, z_I (xs (7 * k + 2)).toInt] M1 (fun v2 M2 => v2 = v ∧ P M2)))
    (kk : ∀ (M2 : z_M) (H1 : Heap) (locs1 : List Loc), P M2 → z_lcfg cx s H1 locs1 M2 → W p l e R s m #[Value.ref b] below meth c H1 locs1 CC SS QQ (F0 m 1803 ls [])) : W p l e R s m #[Value.ref b] below meth c H locs CC SS QQ (F0 m 1535 ls []) := by
  obtain ⟨hx, hb, -⟩ := id F.1
  have va : ∀ v ∈ [(z_I (xs (7 * k + 1)).toInt : z_V), (z_I (xs (7 * k + 2)).toInt : z_V)], z_vok 0 v := by
    intro v hv
    simp only [List.mem_cons, List.not_mem_nil, or_false] at hv
    rcases hv with rfl | rfl <;> exact z_n_in _
  refine lv_aload_n hx hb (z_ldc z_lq38_ok 0 (q := (1535, (.aload_n 1, 1))) rfl) rfl (lv_at hl 1 rfl) ?_
  refine lw_arg F Cf (j := 1) (by decide) (by decide) hk (lv_at hl 0 rfl) (lv_at hl 3 rfl) (ins := .iadd) (n2 := 0) (z_ldc z_lq38_ok 1 (q := (1536, (.aload_n 0, 1))) rfl) (z_ldc z_lq38_ok 2 (q := (1537, (.iload_n 3, 1))) rfl) (Or.inl ⟨(z_ldc z_lq38_ok 3 (q := (1538, (.iconst 1, 1))) rfl), rfl⟩) (z_ldc z_lq38_ok 4 (q := (1539, (.iadd, 1))) rfl) (z_ldc z_lq38_ok 5 (q := (1540, (.iaload, 1))) rfl) ?_
  refine lw_arg F Cf (j := 2) (by decide) (by decide) hk (lv_at hl 0 rfl) (lv_at hl 3 rfl) (ins := .iadd) (n2 := 0) (z_ldc z_lq38_ok 6 (q := (1541, (.aload_n 0, 1))) rfl) (z_ldc z_lq38_ok 7 (q := (1542, (.iload_n 3, 1))) rfl) (Or.inl ⟨(z_ldc z_lq38_ok 8 (q := (1543, (.iconst 2, 1))) rfl), rfl⟩) (z_ldc z_lq38_ok 9 (q := (1544, (.iadd, 1))) rfl) (z_ldc z_lq38_ok 10 (q := (1545, (.iaload, 1))) rfl) ?_
  have eS1 : (([z_I (xs (7 * k + 1)).toInt, z_I (xs (7 * k + 2)).toInt] : List z_V).map (z_v cx.2.2)).reverse ++ .ref (cx.2.2 1) :: [] = (.int (xs (7 * k + 2)) :: .int (xs (7 * k + 1)) :: .ref (cx.2.2 1) :: [] : List Value) := by
    simp only [List.map_cons, List.map_nil, lw_vI, List.reverse_cons, List.reverse_nil, List.nil_append, List.cons_append]
  show W p l e R s m #[Value.ref b] below meth c _ _ CC SS QQ (F0 m 1546 ls (.int (xs (7 * k + 2)) :: .int (xs (7 * k + 1)) :: .ref (cx.2.2 1) :: []))
  rw [← eS1]
  refine lw_call F Cf (k := 205) (o := 1) (lk := (6, 115)) (t' := z_m205) rfl hCl rfl (show z_np z_m205.1 = some 2 by decide +kernel) (by decide +kernel) (by decide) (by decide +kernel) (by decide +kernel) va (by decide) hl.1 hR hCC (z_ldc z_lq38_ok 11 (q := (1546, (.invokevirtual 176, 3))) rfl) (fun v1 M1 H1 locs1 hn1 hok1 hq1 Cf1 => ?_)
  obtain ⟨hty1, hq1⟩ := hq1
  obtain ⟨x1, rfl⟩ := hty1
  show W p l e R s m #[Value.ref b] below meth c H1 locs1 CC SS QQ (F0 m 1549 ls [.int (Int32.ofInt x1)])
  refine lv_aload_n hx hb (z_ldc z_lq38_ok 12 (q := (1549, (.aload_n 2, 1))) rfl) rfl (lv_at hl 2 rfl) ?_
  refine lw_arg F Cf1 (j := 1) (by decide) (by decide) hk (lv_at hl 0 rfl) (lv_at hl 3 rfl) (ins := .iadd) (n2 := 0) (z_ldc z_lq38_ok 13 (q := (1550, (.aload_n 0, 1))) rfl) (z_ldc z_lq38_ok 14 (q := (1551, (.iload_n 3, 1))) rfl) (Or.inl ⟨(z_ldc z_lq38_ok 15 (q := (1552, (.iconst 1, 1))) rfl), rfl⟩) (z_ldc z_lq38_ok 16 (q := (1553, (.iadd, 1))) rfl) (z_ldc z_lq38_ok 17 (q := (1554, (.iaload, 1))) rfl) ?_
  refine lw_arg F Cf1 (j := 2) (by decide) (by decide) hk (lv_at hl 0 rfl) (lv_at hl 3 rfl) (ins := .iadd) (n2 := 0) (z_ldc z_lq38_ok 18 (q := (1555, (.aload_n 0, 1))) rfl) (z_ldc z_lq38_ok 19 (q := (1556, (.iload_n 3, 1))) rfl) (Or.inl ⟨(z_ldc z_lq38_ok 20 (q := (1557, (.iconst 2, 1))) rfl), rfl⟩) (z_ldc z_lq38_ok 21 (q := (1558, (.iadd, 1))) rfl) (z_ldc z_lq38_ok 22 (q := (1559, (.iaload, 1))) rfl) ?_
  have eS13 : (([z_I (xs (7 * k + 1)).toInt, z_I (xs (7 * k + 2)).toInt] : List z_V).map (z_v cx.2.2)).reverse ++ .ref (cx.2.2 13) :: [.int (Int32.ofInt x1)] = (.int (xs (7 * k + 2)) :: .int (xs (7 * k + 1)) :: .ref (cx.2.2 13) :: [.int (Int32.ofInt x1)] : List Value) := by
    simp only [List.map_cons, List.map_nil, lw_vI, List.reverse_cons, List.reverse_nil, List.nil_append, List.cons_append]
  show W p l e R s m #[Value.ref b] below meth c _ _ CC SS QQ (F0 m 1560 ls (.int (xs (7 * k + 2)) :: .int (xs (7 * k + 1)) :: .ref (cx.2.2 13) :: [.int (Int32.ofInt x1)]))
  rw [← eS13]
  refine lw_call F Cf1 (k := 371) (o := 13) (lk := (10, 213)) (t' := z_m371) rfl hq1 rfl (show z_np z_m371.1 = some 2 by decide +kernel) (by decide +kernel) (by decide) (by decide +kernel) (by decide +kernel) va (by simp [Value.category]) hl.1 hR hCC (z_ldc z_lq38_ok 23 (q := (1560, (.invokevirtual 179, 3))) rfl) (fun v2 M2 H2 locs2 hn2 hok2 hq2 Cf2 => ?_)
  obtain ⟨rfl, hP2⟩ := hq2
  show W p l e R s m #[Value.ref b] below meth c H2 locs2 CC SS QQ (F0 m 1563 ls [.int (Int32.ofInt x1), .int (Int32.ofInt x1)])
  refine lv_icmp_eq (tgt := 1803) hx hb (z_ldc z_lq38_ok 24 (q := (1563, (.if_icmp .eq 240, 3))) rfl) (by decide) (fun _ => ?_) (fun q => absurd rfl q)
  exact kk M2 H2 locs2 hP2 Cf2
def z_lq39 : List (Nat × (Instr × Nat)) := [(1568, (.aload_n 1, 1)), (1569, (.aload_n 0, 1)), (1570, (.iload_n 3, 1)), (1571, (.iconst 1, 1)), (1572, (.iadd, 1)), (1573, (.iaload, 1)), (1574, (.aload_n 0, 1)), (1575, (.iload_n 3, 1)), (1576, (.iconst 2, 1)), (1577, (.iadd, 1)), (1578, (.iaload, 1)), (1579, (.aload_n 0, 1)), (1580, (.iload_n 3, 1)), (1581, (.iconst 3, 1)), (1582, (.iadd, 1)), (1583, (.iaload, 1)), (1584, (.invokevirtual 180, 3)), (1587, (.aload_n 2, 1)), (1588, (.aload_n 0, 1)), (1589, (.iload_n 3, 1)), (1590, (.iconst 1, 1)), (1591, (.iadd, 1)), (1592, (.iaload, 1)), (1593, (.aload_n 0, 1)), (1594, (.iload_n 3, 1)), (1595, (.iconst 2, 1)), (1596, (.iadd, 1)), (1597, (.iaload, 1)), (1598, (.aload_n 0, 1)), (1599, (.iload_n 3, 1)), (1600, (.iconst 3, 1)), (1601, (.iadd, 1)), (1602, (.iaload, 1)), (1603, (.invokevirtual 183, 3)), (1606, (.if_icmp .eq 197, 3))]
theorem z_lq39_ok : z_lq39.all (fun q => decide (decode code q.1 = .ok q.2)) = true := by decide +kernel
theorem lw_case39 (F : z_lfix cx p s m meth c b L xs) (Cf : z_lcfg cx s H locs M) {k d : Nat} {P : z_M → Prop} (hk : 7 * k + 7 ≤ L) (hl : lv_has ls 4 [(0, .ref b), (1, .ref (cx.2.2 1)), (2, .ref (cx.2.2 13)), (3, .int (nI (7 * k)))]) (hR : d + 2 ≤ R.frames ∧ 64 * (d + 2) ≤ R.locals) (hCC : CC ≤ R.cells ∧ SS ≤ R.slots)
    (hCl : z_Cl 0 d 206 [z_R 1, z_I (xs (7 * k + 1)).toInt, z_I (xs (7 * k + 2)).toInt, z_I (xs (7 * k + 3)).toInt] M (fun v M1 => (∃ x, v = z_I x) ∧ z_Cl 0 d 372 [z_R 13, z_I (xs (7 * k + 1)).toInt, z_I (xs (7 * k + 2)).toInt, z_I (xs (7 * k + 3)).toInt] M1 (fun v2 M2 => v2 = v ∧ P M2)))
    (kk : ∀ (M2 : z_M) (H1 : Heap) (locs1 : List Loc), P M2 → z_lcfg cx s H1 locs1 M2 → W p l e R s m #[Value.ref b] below meth c H1 locs1 CC SS QQ (F0 m 1803 ls [])) : W p l e R s m #[Value.ref b] below meth c H locs CC SS QQ (F0 m 1568 ls []) := by
  obtain ⟨hx, hb, -⟩ := id F.1
  have va : ∀ v ∈ [(z_I (xs (7 * k + 1)).toInt : z_V), (z_I (xs (7 * k + 2)).toInt : z_V), (z_I (xs (7 * k + 3)).toInt : z_V)], z_vok 0 v := by
    intro v hv
    simp only [List.mem_cons, List.not_mem_nil, or_false] at hv
    rcases hv with rfl | rfl | rfl <;> exact z_n_in _
  refine lv_aload_n hx hb (z_ldc z_lq39_ok 0 (q := (1568, (.aload_n 1, 1))) rfl) rfl (lv_at hl 1 rfl) ?_
  refine lw_arg F Cf (j := 1) (by decide) (by decide) hk (lv_at hl 0 rfl) (lv_at hl 3 rfl) (ins := .iadd) (n2 := 0) (z_ldc z_lq39_ok 1 (q := (1569, (.aload_n 0, 1))) rfl) (z_ldc z_lq39_ok 2 (q := (1570, (.iload_n 3, 1))) rfl) (Or.inl ⟨(z_ldc z_lq39_ok 3 (q := (1571, (.iconst 1, 1))) rfl), rfl⟩) (z_ldc z_lq39_ok 4 (q := (1572, (.iadd, 1))) rfl) (z_ldc z_lq39_ok 5 (q := (1573, (.iaload, 1))) rfl) ?_
  refine lw_arg F Cf (j := 2) (by decide) (by decide) hk (lv_at hl 0 rfl) (lv_at hl 3 rfl) (ins := .iadd) (n2 := 0) (z_ldc z_lq39_ok 6 (q := (1574, (.aload_n 0, 1))) rfl) (z_ldc z_lq39_ok 7 (q := (1575, (.iload_n 3, 1))) rfl) (Or.inl ⟨(z_ldc z_lq39_ok 8 (q := (1576, (.iconst 2, 1))) rfl), rfl⟩) (z_ldc z_lq39_ok 9 (q := (1577, (.iadd, 1))) rfl) (z_ldc z_lq39_ok 10 (q := (1578, (.iaload, 1))) rfl) ?_
  refine lw_arg F Cf (j := 3) (by decide) (by decide) hk (lv_at hl 0 rfl) (lv_at hl 3 rfl) (ins := .iadd) (n2 := 0) (z_ldc z_lq39_ok 11 (q := (1579, (.aload_n 0, 1))) rfl) (z_ldc z_lq39_ok 12 (q := (1580, (.iload_n 3, 1))) rfl) (Or.inl ⟨(z_ldc z_lq39_ok 13 (q := (1581, (.iconst 3, 1))) rfl), rfl⟩) (z_ldc z_lq39_ok 14 (q := (1582, (.iadd, 1))) rfl) (z_ldc z_lq39_ok 15 (q := (1583, (.iaload, 1))) rfl) ?_
  have eS1 : (([z_I (xs (7 * k + 1)).toInt, z_I (xs (7 * k + 2)).toInt, z_I (xs (7 * k + 3)).toInt] : List z_V).map (z_v cx.2.2)).reverse ++ .ref (cx.2.2 1) :: [] = (.int (xs (7 * k + 3)) :: .int (xs (7 * k + 2)) :: .int (xs (7 * k + 1)) :: .ref (cx.2.2 1) :: [] : List Value) := by
    simp only [List.map_cons, List.map_nil, lw_vI, List.reverse_cons, List.reverse_nil, List.nil_append, List.cons_append]
  show W p l e R s m #[Value.ref b] below meth c _ _ CC SS QQ (F0 m 1584 ls (.int (xs (7 * k + 3)) :: .int (xs (7 * k + 2)) :: .int (xs (7 * k + 1)) :: .ref (cx.2.2 1) :: []))
  rw [← eS1]
  refine lw_call F Cf (k := 206) (o := 1) (lk := (6, 132)) (t' := z_m206) rfl hCl rfl (show z_np z_m206.1 = some 3 by decide +kernel) (by decide +kernel) (by decide) (by decide +kernel) (by decide +kernel) va (by decide) hl.1 hR hCC (z_ldc z_lq39_ok 16 (q := (1584, (.invokevirtual 180, 3))) rfl) (fun v1 M1 H1 locs1 hn1 hok1 hq1 Cf1 => ?_)
  obtain ⟨hty1, hq1⟩ := hq1
  obtain ⟨x1, rfl⟩ := hty1
  show W p l e R s m #[Value.ref b] below meth c H1 locs1 CC SS QQ (F0 m 1587 ls [.int (Int32.ofInt x1)])
  refine lv_aload_n hx hb (z_ldc z_lq39_ok 17 (q := (1587, (.aload_n 2, 1))) rfl) rfl (lv_at hl 2 rfl) ?_
  refine lw_arg F Cf1 (j := 1) (by decide) (by decide) hk (lv_at hl 0 rfl) (lv_at hl 3 rfl) (ins := .iadd) (n2 := 0) (z_ldc z_lq39_ok 18 (q := (1588, (.aload_n 0, 1))) rfl) (z_ldc z_lq39_ok 19 (q := (1589, (.iload_n 3, 1))) rfl) (Or.inl ⟨(z_ldc z_lq39_ok 20 (q := (1590, (.iconst 1, 1))) rfl), rfl⟩) (z_ldc z_lq39_ok 21 (q := (1591, (.iadd, 1))) rfl) (z_ldc z_lq39_ok 22 (q := (1592, (.iaload, 1))) rfl) ?_
  refine lw_arg F Cf1 (j := 2) (by decide) (by decide) hk (lv_at hl 0 rfl) (lv_at hl 3 rfl) (ins := .iadd) (n2 := 0) (z_ldc z_lq39_ok 23 (q := (1593, (.aload_n 0, 1))) rfl) (z_ldc z_lq39_ok 24 (q := (1594, (.iload_n 3, 1))) rfl) (Or.inl ⟨(z_ldc z_lq39_ok 25 (q := (1595, (.iconst 2, 1))) rfl), rfl⟩) (z_ldc z_lq39_ok 26 (q := (1596, (.iadd, 1))) rfl) (z_ldc z_lq39_ok 27 (q := (1597, (.iaload, 1))) rfl) ?_
  refine lw_arg F Cf1 (j := 3) (by decide) (by decide) hk (lv_at hl 0 rfl) (lv_at hl 3 rfl) (ins := .iadd) (n2 := 0) (z_ldc z_lq39_ok 28 (q := (1598, (.aload_n 0, 1))) rfl) (z_ldc z_lq39_ok 29 (q := (1599, (.iload_n 3, 1))) rfl) (Or.inl ⟨(z_ldc z_lq39_ok 30 (q := (1600, (.iconst 3, 1))) rfl), rfl⟩) (z_ldc z_lq39_ok 31 (q := (1601, (.iadd, 1))) rfl) (z_ldc z_lq39_ok 32 (q := (1602, (.iaload, 1))) rfl) ?_
  have eS13 : (([z_I (xs (7 * k + 1)).toInt, z_I (xs (7 * k + 2)).toInt, z_I (xs (7 * k + 3)).toInt] : List z_V).map (z_v cx.2.2)).reverse ++ .ref (cx.2.2 13) :: [.int (Int32.ofInt x1)] = (.int (xs (7 * k + 3)) :: .int (xs (7 * k + 2)) :: .int (xs (7 * k + 1)) :: .ref (cx.2.2 13) :: [.int (Int32.ofInt x1)] : List Value) := by
    simp only [List.map_cons, List.map_nil, lw_vI, List.reverse_cons, List.reverse_nil, List.nil_append, List.cons_append]
  show W p l e R s m #[Value.ref b] below meth c _ _ CC SS QQ (F0 m 1603 ls (.int (xs (7 * k + 3)) :: .int (xs (7 * k + 2)) :: .int (xs (7 * k + 1)) :: .ref (cx.2.2 13) :: [.int (Int32.ofInt x1)]))
  rw [← eS13]
  refine lw_call F Cf1 (k := 372) (o := 13) (lk := (10, 225)) (t' := z_m372) rfl hq1 rfl (show z_np z_m372.1 = some 3 by decide +kernel) (by decide +kernel) (by decide) (by decide +kernel) (by decide +kernel) va (by simp [Value.category]) hl.1 hR hCC (z_ldc z_lq39_ok 33 (q := (1603, (.invokevirtual 183, 3))) rfl) (fun v2 M2 H2 locs2 hn2 hok2 hq2 Cf2 => ?_)
  obtain ⟨rfl, hP2⟩ := hq2
  show W p l e R s m #[Value.ref b] below meth c H2 locs2 CC SS QQ (F0 m 1606 ls [.int (Int32.ofInt x1), .int (Int32.ofInt x1)])
  refine lv_icmp_eq (tgt := 1803) hx hb (z_ldc z_lq39_ok 34 (q := (1606, (.if_icmp .eq 197, 3))) rfl) (by decide) (fun _ => ?_) (fun q => absurd rfl q)
  exact kk M2 H2 locs2 hP2 Cf2
def z_lq40 : List (Nat × (Instr × Nat)) := [(1611, (.aload_n 1, 1)), (1612, (.aload_n 0, 1)), (1613, (.iload_n 3, 1)), (1614, (.iconst 1, 1)), (1615, (.iadd, 1)), (1616, (.iaload, 1)), (1617, (.invokevirtual 184, 3)), (1620, (.aload_n 2, 1)), (1621, (.aload_n 0, 1)), (1622, (.iload_n 3, 1)), (1623, (.iconst 1, 1)), (1624, (.iadd, 1)), (1625, (.iaload, 1)), (1626, (.invokevirtual 187, 3)), (1629, (.if_icmp .eq 174, 3))]
theorem z_lq40_ok : z_lq40.all (fun q => decide (decode code q.1 = .ok q.2)) = true := by decide +kernel
theorem lw_case40 (F : z_lfix cx p s m meth c b L xs) (Cf : z_lcfg cx s H locs M) {k d : Nat} {P : z_M → Prop} (hk : 7 * k + 7 ≤ L) (hl : lv_has ls 4 [(0, .ref b), (1, .ref (cx.2.2 1)), (2, .ref (cx.2.2 13)), (3, .int (nI (7 * k)))]) (hR : d + 2 ≤ R.frames ∧ 64 * (d + 2) ≤ R.locals) (hCC : CC ≤ R.cells ∧ SS ≤ R.slots)
    (hCl : z_Cl 0 d 207 [z_R 1, z_I (xs (7 * k + 1)).toInt] M (fun v M1 => (∃ x, v = z_I x) ∧ z_Cl 0 d 373 [z_R 13, z_I (xs (7 * k + 1)).toInt] M1 (fun v2 M2 => v2 = v ∧ P M2)))
    (kk : ∀ (M2 : z_M) (H1 : Heap) (locs1 : List Loc), P M2 → z_lcfg cx s H1 locs1 M2 → W p l e R s m #[Value.ref b] below meth c H1 locs1 CC SS QQ (F0 m 1803 ls [])) : W p l e R s m #[Value.ref b] below meth c H locs CC SS QQ (F0 m 1611 ls []) := by
  obtain ⟨hx, hb, -⟩ := id F.1
  have va : ∀ v ∈ [(z_I (xs (7 * k + 1)).toInt : z_V)], z_vok 0 v := by
    intro v hv
    simp only [List.mem_cons, List.not_mem_nil, or_false] at hv
    rcases hv with rfl <;> exact z_n_in _
  refine lv_aload_n hx hb (z_ldc z_lq40_ok 0 (q := (1611, (.aload_n 1, 1))) rfl) rfl (lv_at hl 1 rfl) ?_
  refine lw_arg F Cf (j := 1) (by decide) (by decide) hk (lv_at hl 0 rfl) (lv_at hl 3 rfl) (ins := .iadd) (n2 := 0) (z_ldc z_lq40_ok 1 (q := (1612, (.aload_n 0, 1))) rfl) (z_ldc z_lq40_ok 2 (q := (1613, (.iload_n 3, 1))) rfl) (Or.inl ⟨(z_ldc z_lq40_ok 3 (q := (1614, (.iconst 1, 1))) rfl), rfl⟩) (z_ldc z_lq40_ok 4 (q := (1615, (.iadd, 1))) rfl) (z_ldc z_lq40_ok 5 (q := (1616, (.iaload, 1))) rfl) ?_
  have eS1 : (([z_I (xs (7 * k + 1)).toInt] : List z_V).map (z_v cx.2.2)).reverse ++ .ref (cx.2.2 1) :: [] = (.int (xs (7 * k + 1)) :: .ref (cx.2.2 1) :: [] : List Value) := by
    simp only [List.map_cons, List.map_nil, lw_vI, List.reverse_cons, List.reverse_nil, List.nil_append, List.cons_append]
  show W p l e R s m #[Value.ref b] below meth c _ _ CC SS QQ (F0 m 1617 ls (.int (xs (7 * k + 1)) :: .ref (cx.2.2 1) :: []))
  rw [← eS1]
  refine lw_call F Cf (k := 207) (o := 1) (lk := (6, 136)) (t' := z_m207) rfl hCl rfl (show z_np z_m207.1 = some 1 by decide +kernel) (by decide +kernel) (by decide) (by decide +kernel) (by decide +kernel) va (by decide) hl.1 hR hCC (z_ldc z_lq40_ok 6 (q := (1617, (.invokevirtual 184, 3))) rfl) (fun v1 M1 H1 locs1 hn1 hok1 hq1 Cf1 => ?_)
  obtain ⟨hty1, hq1⟩ := hq1
  obtain ⟨x1, rfl⟩ := hty1
  show W p l e R s m #[Value.ref b] below meth c H1 locs1 CC SS QQ (F0 m 1620 ls [.int (Int32.ofInt x1)])
  refine lv_aload_n hx hb (z_ldc z_lq40_ok 7 (q := (1620, (.aload_n 2, 1))) rfl) rfl (lv_at hl 2 rfl) ?_
  refine lw_arg F Cf1 (j := 1) (by decide) (by decide) hk (lv_at hl 0 rfl) (lv_at hl 3 rfl) (ins := .iadd) (n2 := 0) (z_ldc z_lq40_ok 8 (q := (1621, (.aload_n 0, 1))) rfl) (z_ldc z_lq40_ok 9 (q := (1622, (.iload_n 3, 1))) rfl) (Or.inl ⟨(z_ldc z_lq40_ok 10 (q := (1623, (.iconst 1, 1))) rfl), rfl⟩) (z_ldc z_lq40_ok 11 (q := (1624, (.iadd, 1))) rfl) (z_ldc z_lq40_ok 12 (q := (1625, (.iaload, 1))) rfl) ?_
  have eS13 : (([z_I (xs (7 * k + 1)).toInt] : List z_V).map (z_v cx.2.2)).reverse ++ .ref (cx.2.2 13) :: [.int (Int32.ofInt x1)] = (.int (xs (7 * k + 1)) :: .ref (cx.2.2 13) :: [.int (Int32.ofInt x1)] : List Value) := by
    simp only [List.map_cons, List.map_nil, lw_vI, List.reverse_cons, List.reverse_nil, List.nil_append, List.cons_append]
  show W p l e R s m #[Value.ref b] below meth c _ _ CC SS QQ (F0 m 1626 ls (.int (xs (7 * k + 1)) :: .ref (cx.2.2 13) :: [.int (Int32.ofInt x1)]))
  rw [← eS13]
  refine lw_call F Cf1 (k := 373) (o := 13) (lk := (10, 229)) (t' := z_m373) rfl hq1 rfl (show z_np z_m373.1 = some 1 by decide +kernel) (by decide +kernel) (by decide) (by decide +kernel) (by decide +kernel) va (by simp [Value.category]) hl.1 hR hCC (z_ldc z_lq40_ok 13 (q := (1626, (.invokevirtual 187, 3))) rfl) (fun v2 M2 H2 locs2 hn2 hok2 hq2 Cf2 => ?_)
  obtain ⟨rfl, hP2⟩ := hq2
  show W p l e R s m #[Value.ref b] below meth c H2 locs2 CC SS QQ (F0 m 1629 ls [.int (Int32.ofInt x1), .int (Int32.ofInt x1)])
  refine lv_icmp_eq (tgt := 1803) hx hb (z_ldc z_lq40_ok 14 (q := (1629, (.if_icmp .eq 174, 3))) rfl) (by decide) (fun _ => ?_) (fun q => absurd rfl q)
  exact kk M2 H2 locs2 hP2 Cf2
def z_lq41 : List (Nat × (Instr × Nat)) := [(1634, (.aload_n 1, 1)), (1635, (.aload_n 0, 1)), (1636, (.iload_n 3, 1)), (1637, (.iconst 1, 1)), (1638, (.iadd, 1)), (1639, (.iaload, 1)), (1640, (.aload_n 0, 1)), (1641, (.iload_n 3, 1)), (1642, (.iconst 2, 1)), (1643, (.iadd, 1)), (1644, (.iaload, 1)), (1645, (.aload_n 0, 1)), (1646, (.iload_n 3, 1)), (1647, (.iconst 3, 1)), (1648, (.iadd, 1)), (1649, (.iaload, 1)), (1650, (.invokevirtual 188, 3)), (1653, (.aload_n 2, 1)), (1654, (.aload_n 0, 1)), (1655, (.iload_n 3, 1)), (1656, (.iconst 1, 1)), (1657, (.iadd, 1)), (1658, (.iaload, 1)), (1659, (.aload_n 0, 1)), (1660, (.iload_n 3, 1)), (1661, (.iconst 2, 1)), (1662, (.iadd, 1)), (1663, (.iaload, 1)), (1664, (.aload_n 0, 1)), (1665, (.iload_n 3, 1)), (1666, (.iconst 3, 1)), (1667, (.iadd, 1)), (1668, (.iaload, 1)), (1669, (.invokevirtual 191, 3)), (1672, (.if_icmp .eq 131, 3))]
theorem z_lq41_ok : z_lq41.all (fun q => decide (decode code q.1 = .ok q.2)) = true := by decide +kernel
theorem lw_case41 (F : z_lfix cx p s m meth c b L xs) (Cf : z_lcfg cx s H locs M) {k d : Nat} {P : z_M → Prop} (hk : 7 * k + 7 ≤ L) (hl : lv_has ls 4 [(0, .ref b), (1, .ref (cx.2.2 1)), (2, .ref (cx.2.2 13)), (3, .int (nI (7 * k)))]) (hR : d + 2 ≤ R.frames ∧ 64 * (d + 2) ≤ R.locals) (hCC : CC ≤ R.cells ∧ SS ≤ R.slots)
    (hCl : z_Cl 0 d 208 [z_R 1, z_I (xs (7 * k + 1)).toInt, z_I (xs (7 * k + 2)).toInt, z_I (xs (7 * k + 3)).toInt] M (fun v M1 => (∃ x, v = z_I x) ∧ z_Cl 0 d 379 [z_R 13, z_I (xs (7 * k + 1)).toInt, z_I (xs (7 * k + 2)).toInt, z_I (xs (7 * k + 3)).toInt] M1 (fun v2 M2 => v2 = v ∧ P M2)))
    (kk : ∀ (M2 : z_M) (H1 : Heap) (locs1 : List Loc), P M2 → z_lcfg cx s H1 locs1 M2 → W p l e R s m #[Value.ref b] below meth c H1 locs1 CC SS QQ (F0 m 1803 ls [])) : W p l e R s m #[Value.ref b] below meth c H locs CC SS QQ (F0 m 1634 ls []) := by
  obtain ⟨hx, hb, -⟩ := id F.1
  have va : ∀ v ∈ [(z_I (xs (7 * k + 1)).toInt : z_V), (z_I (xs (7 * k + 2)).toInt : z_V), (z_I (xs (7 * k + 3)).toInt : z_V)], z_vok 0 v := by
    intro v hv
    simp only [List.mem_cons, List.not_mem_nil, or_false] at hv
    rcases hv with rfl | rfl | rfl <;> exact z_n_in _
  refine lv_aload_n hx hb (z_ldc z_lq41_ok 0 (q := (1634, (.aload_n 1, 1))) rfl) rfl (lv_at hl 1 rfl) ?_
  refine lw_arg F Cf (j := 1) (by decide) (by decide) hk (lv_at hl 0 rfl) (lv_at hl 3 rfl) (ins := .iadd) (n2 := 0) (z_ldc z_lq41_ok 1 (q := (1635, (.aload_n 0, 1))) rfl) (z_ldc z_lq41_ok 2 (q := (1636, (.iload_n 3, 1))) rfl) (Or.inl ⟨(z_ldc z_lq41_ok 3 (q := (1637, (.iconst 1, 1))) rfl), rfl⟩) (z_ldc z_lq41_ok 4 (q := (1638, (.iadd, 1))) rfl) (z_ldc z_lq41_ok 5 (q := (1639, (.iaload, 1))) rfl) ?_
  refine lw_arg F Cf (j := 2) (by decide) (by decide) hk (lv_at hl 0 rfl) (lv_at hl 3 rfl) (ins := .iadd) (n2 := 0) (z_ldc z_lq41_ok 6 (q := (1640, (.aload_n 0, 1))) rfl) (z_ldc z_lq41_ok 7 (q := (1641, (.iload_n 3, 1))) rfl) (Or.inl ⟨(z_ldc z_lq41_ok 8 (q := (1642, (.iconst 2, 1))) rfl), rfl⟩) (z_ldc z_lq41_ok 9 (q := (1643, (.iadd, 1))) rfl) (z_ldc z_lq41_ok 10 (q := (1644, (.iaload, 1))) rfl) ?_
  refine lw_arg F Cf (j := 3) (by decide) (by decide) hk (lv_at hl 0 rfl) (lv_at hl 3 rfl) (ins := .iadd) (n2 := 0) (z_ldc z_lq41_ok 11 (q := (1645, (.aload_n 0, 1))) rfl) (z_ldc z_lq41_ok 12 (q := (1646, (.iload_n 3, 1))) rfl) (Or.inl ⟨(z_ldc z_lq41_ok 13 (q := (1647, (.iconst 3, 1))) rfl), rfl⟩) (z_ldc z_lq41_ok 14 (q := (1648, (.iadd, 1))) rfl) (z_ldc z_lq41_ok 15 (q := (1649, (.iaload, 1))) rfl) ?_
  have eS1 : (([z_I (xs (7 * k + 1)).toInt, z_I (xs (7 * k + 2)).toInt, z_I (xs (7 * k + 3)).toInt] : List z_V).map (z_v cx.2.2)).reverse ++ .ref (cx.2.2 1) :: [] = (.int (xs (7 * k + 3)) :: .int (xs (7 * k + 2)) :: .int (xs (7 * k + 1)) :: .ref (cx.2.2 1) :: [] : List Value) := by
    simp only [List.map_cons, List.map_nil, lw_vI, List.reverse_cons, List.reverse_nil, List.nil_append, List.cons_append]
  show W p l e R s m #[Value.ref b] below meth c _ _ CC SS QQ (F0 m 1650 ls (.int (xs (7 * k + 3)) :: .int (xs (7 * k + 2)) :: .int (xs (7 * k + 1)) :: .ref (cx.2.2 1) :: []))
  rw [← eS1]
  refine lw_call F Cf (k := 208) (o := 1) (lk := (6, 146)) (t' := z_m208) rfl hCl rfl (show z_np z_m208.1 = some 3 by decide +kernel) (by decide +kernel) (by decide) (by decide +kernel) (by decide +kernel) va (by decide) hl.1 hR hCC (z_ldc z_lq41_ok 16 (q := (1650, (.invokevirtual 188, 3))) rfl) (fun v1 M1 H1 locs1 hn1 hok1 hq1 Cf1 => ?_)
  obtain ⟨hty1, hq1⟩ := hq1
  obtain ⟨x1, rfl⟩ := hty1
  show W p l e R s m #[Value.ref b] below meth c H1 locs1 CC SS QQ (F0 m 1653 ls [.int (Int32.ofInt x1)])
  refine lv_aload_n hx hb (z_ldc z_lq41_ok 17 (q := (1653, (.aload_n 2, 1))) rfl) rfl (lv_at hl 2 rfl) ?_
  refine lw_arg F Cf1 (j := 1) (by decide) (by decide) hk (lv_at hl 0 rfl) (lv_at hl 3 rfl) (ins := .iadd) (n2 := 0) (z_ldc z_lq41_ok 18 (q := (1654, (.aload_n 0, 1))) rfl) (z_ldc z_lq41_ok 19 (q := (1655, (.iload_n 3, 1))) rfl) (Or.inl ⟨(z_ldc z_lq41_ok 20 (q := (1656, (.iconst 1, 1))) rfl), rfl⟩) (z_ldc z_lq41_ok 21 (q := (1657, (.iadd, 1))) rfl) (z_ldc z_lq41_ok 22 (q := (1658, (.iaload, 1))) rfl) ?_
  refine lw_arg F Cf1 (j := 2) (by decide) (by decide) hk (lv_at hl 0 rfl) (lv_at hl 3 rfl) (ins := .iadd) (n2 := 0) (z_ldc z_lq41_ok 23 (q := (1659, (.aload_n 0, 1))) rfl) (z_ldc z_lq41_ok 24 (q := (1660, (.iload_n 3, 1))) rfl) (Or.inl ⟨(z_ldc z_lq41_ok 25 (q := (1661, (.iconst 2, 1))) rfl), rfl⟩) (z_ldc z_lq41_ok 26 (q := (1662, (.iadd, 1))) rfl) (z_ldc z_lq41_ok 27 (q := (1663, (.iaload, 1))) rfl) ?_
  refine lw_arg F Cf1 (j := 3) (by decide) (by decide) hk (lv_at hl 0 rfl) (lv_at hl 3 rfl) (ins := .iadd) (n2 := 0) (z_ldc z_lq41_ok 28 (q := (1664, (.aload_n 0, 1))) rfl) (z_ldc z_lq41_ok 29 (q := (1665, (.iload_n 3, 1))) rfl) (Or.inl ⟨(z_ldc z_lq41_ok 30 (q := (1666, (.iconst 3, 1))) rfl), rfl⟩) (z_ldc z_lq41_ok 31 (q := (1667, (.iadd, 1))) rfl) (z_ldc z_lq41_ok 32 (q := (1668, (.iaload, 1))) rfl) ?_
  have eS13 : (([z_I (xs (7 * k + 1)).toInt, z_I (xs (7 * k + 2)).toInt, z_I (xs (7 * k + 3)).toInt] : List z_V).map (z_v cx.2.2)).reverse ++ .ref (cx.2.2 13) :: [.int (Int32.ofInt x1)] = (.int (xs (7 * k + 3)) :: .int (xs (7 * k + 2)) :: .int (xs (7 * k + 1)) :: .ref (cx.2.2 13) :: [.int (Int32.ofInt x1)] : List Value) := by
    simp only [List.map_cons, List.map_nil, lw_vI, List.reverse_cons, List.reverse_nil, List.nil_append, List.cons_append]
  show W p l e R s m #[Value.ref b] below meth c _ _ CC SS QQ (F0 m 1669 ls (.int (xs (7 * k + 3)) :: .int (xs (7 * k + 2)) :: .int (xs (7 * k + 1)) :: .ref (cx.2.2 13) :: [.int (Int32.ofInt x1)]))
  rw [← eS13]
  refine lw_call F Cf1 (k := 379) (o := 13) (lk := (10, 233)) (t' := z_m379) rfl hq1 rfl (show z_np z_m379.1 = some 3 by decide +kernel) (by decide +kernel) (by decide) (by decide +kernel) (by decide +kernel) va (by simp [Value.category]) hl.1 hR hCC (z_ldc z_lq41_ok 33 (q := (1669, (.invokevirtual 191, 3))) rfl) (fun v2 M2 H2 locs2 hn2 hok2 hq2 Cf2 => ?_)
  obtain ⟨rfl, hP2⟩ := hq2
  show W p l e R s m #[Value.ref b] below meth c H2 locs2 CC SS QQ (F0 m 1672 ls [.int (Int32.ofInt x1), .int (Int32.ofInt x1)])
  refine lv_icmp_eq (tgt := 1803) hx hb (z_ldc z_lq41_ok 34 (q := (1672, (.if_icmp .eq 131, 3))) rfl) (by decide) (fun _ => ?_) (fun q => absurd rfl q)
  exact kk M2 H2 locs2 hP2 Cf2
def z_lq42 : List (Nat × (Instr × Nat)) := [(1677, (.aload_n 1, 1)), (1678, (.aload_n 0, 1)), (1679, (.iload_n 3, 1)), (1680, (.iconst 1, 1)), (1681, (.iadd, 1)), (1682, (.iaload, 1)), (1683, (.aload_n 0, 1)), (1684, (.iload_n 3, 1)), (1685, (.iconst 2, 1)), (1686, (.iadd, 1)), (1687, (.iaload, 1)), (1688, (.aload_n 0, 1)), (1689, (.iload_n 3, 1)), (1690, (.iconst 3, 1)), (1691, (.iadd, 1)), (1692, (.iaload, 1)), (1693, (.invokevirtual 192, 3)), (1696, (.aload_n 2, 1)), (1697, (.aload_n 0, 1)), (1698, (.iload_n 3, 1)), (1699, (.iconst 1, 1)), (1700, (.iadd, 1)), (1701, (.iaload, 1)), (1702, (.aload_n 0, 1)), (1703, (.iload_n 3, 1)), (1704, (.iconst 2, 1)), (1705, (.iadd, 1)), (1706, (.iaload, 1)), (1707, (.aload_n 0, 1)), (1708, (.iload_n 3, 1)), (1709, (.iconst 3, 1)), (1710, (.iadd, 1)), (1711, (.iaload, 1)), (1712, (.invokevirtual 196, 3)), (1715, (.lcmp, 1)), (1716, (.ifCond .eq 87, 3))]
theorem z_lq42_ok : z_lq42.all (fun q => decide (decode code q.1 = .ok q.2)) = true := by decide +kernel
theorem lw_case42 (F : z_lfix cx p s m meth c b L xs) (Cf : z_lcfg cx s H locs M) {k d : Nat} {P : z_M → Prop} (hk : 7 * k + 7 ≤ L) (hl : lv_has ls 4 [(0, .ref b), (1, .ref (cx.2.2 1)), (2, .ref (cx.2.2 13)), (3, .int (nI (7 * k)))]) (hR : d + 2 ≤ R.frames ∧ 64 * (d + 2) ≤ R.locals) (hCC : CC ≤ R.cells ∧ SS ≤ R.slots)
    (hCl : z_Cl 0 d 209 [z_R 1, z_I (xs (7 * k + 1)).toInt, z_I (xs (7 * k + 2)).toInt, z_I (xs (7 * k + 3)).toInt] M (fun v M1 => (∃ x, v = z_J x) ∧ z_Cl 0 d 380 [z_R 13, z_I (xs (7 * k + 1)).toInt, z_I (xs (7 * k + 2)).toInt, z_I (xs (7 * k + 3)).toInt] M1 (fun v2 M2 => v2 = v ∧ P M2)))
    (kk : ∀ (M2 : z_M) (H1 : Heap) (locs1 : List Loc), P M2 → z_lcfg cx s H1 locs1 M2 → W p l e R s m #[Value.ref b] below meth c H1 locs1 CC SS QQ (F0 m 1803 ls [])) : W p l e R s m #[Value.ref b] below meth c H locs CC SS QQ (F0 m 1677 ls []) := by
  obtain ⟨hx, hb, -⟩ := id F.1
  have va : ∀ v ∈ [(z_I (xs (7 * k + 1)).toInt : z_V), (z_I (xs (7 * k + 2)).toInt : z_V), (z_I (xs (7 * k + 3)).toInt : z_V)], z_vok 0 v := by
    intro v hv
    simp only [List.mem_cons, List.not_mem_nil, or_false] at hv
    rcases hv with rfl | rfl | rfl <;> exact z_n_in _
  refine lv_aload_n hx hb (z_ldc z_lq42_ok 0 (q := (1677, (.aload_n 1, 1))) rfl) rfl (lv_at hl 1 rfl) ?_
  refine lw_arg F Cf (j := 1) (by decide) (by decide) hk (lv_at hl 0 rfl) (lv_at hl 3 rfl) (ins := .iadd) (n2 := 0) (z_ldc z_lq42_ok 1 (q := (1678, (.aload_n 0, 1))) rfl) (z_ldc z_lq42_ok 2 (q := (1679, (.iload_n 3, 1))) rfl) (Or.inl ⟨(z_ldc z_lq42_ok 3 (q := (1680, (.iconst 1, 1))) rfl), rfl⟩) (z_ldc z_lq42_ok 4 (q := (1681, (.iadd, 1))) rfl) (z_ldc z_lq42_ok 5 (q := (1682, (.iaload, 1))) rfl) ?_
  refine lw_arg F Cf (j := 2) (by decide) (by decide) hk (lv_at hl 0 rfl) (lv_at hl 3 rfl) (ins := .iadd) (n2 := 0) (z_ldc z_lq42_ok 6 (q := (1683, (.aload_n 0, 1))) rfl) (z_ldc z_lq42_ok 7 (q := (1684, (.iload_n 3, 1))) rfl) (Or.inl ⟨(z_ldc z_lq42_ok 8 (q := (1685, (.iconst 2, 1))) rfl), rfl⟩) (z_ldc z_lq42_ok 9 (q := (1686, (.iadd, 1))) rfl) (z_ldc z_lq42_ok 10 (q := (1687, (.iaload, 1))) rfl) ?_
  refine lw_arg F Cf (j := 3) (by decide) (by decide) hk (lv_at hl 0 rfl) (lv_at hl 3 rfl) (ins := .iadd) (n2 := 0) (z_ldc z_lq42_ok 11 (q := (1688, (.aload_n 0, 1))) rfl) (z_ldc z_lq42_ok 12 (q := (1689, (.iload_n 3, 1))) rfl) (Or.inl ⟨(z_ldc z_lq42_ok 13 (q := (1690, (.iconst 3, 1))) rfl), rfl⟩) (z_ldc z_lq42_ok 14 (q := (1691, (.iadd, 1))) rfl) (z_ldc z_lq42_ok 15 (q := (1692, (.iaload, 1))) rfl) ?_
  have eS1 : (([z_I (xs (7 * k + 1)).toInt, z_I (xs (7 * k + 2)).toInt, z_I (xs (7 * k + 3)).toInt] : List z_V).map (z_v cx.2.2)).reverse ++ .ref (cx.2.2 1) :: [] = (.int (xs (7 * k + 3)) :: .int (xs (7 * k + 2)) :: .int (xs (7 * k + 1)) :: .ref (cx.2.2 1) :: [] : List Value) := by
    simp only [List.map_cons, List.map_nil, lw_vI, List.reverse_cons, List.reverse_nil, List.nil_append, List.cons_append]
  show W p l e R s m #[Value.ref b] below meth c _ _ CC SS QQ (F0 m 1693 ls (.int (xs (7 * k + 3)) :: .int (xs (7 * k + 2)) :: .int (xs (7 * k + 1)) :: .ref (cx.2.2 1) :: []))
  rw [← eS1]
  refine lw_call F Cf (k := 209) (o := 1) (lk := (6, 184)) (t' := z_m209) rfl hCl rfl (show z_np z_m209.1 = some 3 by decide +kernel) (by decide +kernel) (by decide) (by decide +kernel) (by decide +kernel) va (by decide) hl.1 hR hCC (z_ldc z_lq42_ok 16 (q := (1693, (.invokevirtual 192, 3))) rfl) (fun v1 M1 H1 locs1 hn1 hok1 hq1 Cf1 => ?_)
  obtain ⟨hty1, hq1⟩ := hq1
  obtain ⟨x1, rfl⟩ := hty1
  show W p l e R s m #[Value.ref b] below meth c H1 locs1 CC SS QQ (F0 m 1696 ls [.long (Int64.ofInt x1)])
  refine lv_aload_n hx hb (z_ldc z_lq42_ok 17 (q := (1696, (.aload_n 2, 1))) rfl) rfl (lv_at hl 2 rfl) ?_
  refine lw_arg F Cf1 (j := 1) (by decide) (by decide) hk (lv_at hl 0 rfl) (lv_at hl 3 rfl) (ins := .iadd) (n2 := 0) (z_ldc z_lq42_ok 18 (q := (1697, (.aload_n 0, 1))) rfl) (z_ldc z_lq42_ok 19 (q := (1698, (.iload_n 3, 1))) rfl) (Or.inl ⟨(z_ldc z_lq42_ok 20 (q := (1699, (.iconst 1, 1))) rfl), rfl⟩) (z_ldc z_lq42_ok 21 (q := (1700, (.iadd, 1))) rfl) (z_ldc z_lq42_ok 22 (q := (1701, (.iaload, 1))) rfl) ?_
  refine lw_arg F Cf1 (j := 2) (by decide) (by decide) hk (lv_at hl 0 rfl) (lv_at hl 3 rfl) (ins := .iadd) (n2 := 0) (z_ldc z_lq42_ok 23 (q := (1702, (.aload_n 0, 1))) rfl) (z_ldc z_lq42_ok 24 (q := (1703, (.iload_n 3, 1))) rfl) (Or.inl ⟨(z_ldc z_lq42_ok 25 (q := (1704, (.iconst 2, 1))) rfl), rfl⟩) (z_ldc z_lq42_ok 26 (q := (1705, (.iadd, 1))) rfl) (z_ldc z_lq42_ok 27 (q := (1706, (.iaload, 1))) rfl) ?_
  refine lw_arg F Cf1 (j := 3) (by decide) (by decide) hk (lv_at hl 0 rfl) (lv_at hl 3 rfl) (ins := .iadd) (n2 := 0) (z_ldc z_lq42_ok 28 (q := (1707, (.aload_n 0, 1))) rfl) (z_ldc z_lq42_ok 29 (q := (1708, (.iload_n 3, 1))) rfl) (Or.inl ⟨(z_ldc z_lq42_ok 30 (q := (1709, (.iconst 3, 1))) rfl), rfl⟩) (z_ldc z_lq42_ok 31 (q := (1710, (.iadd, 1))) rfl) (z_ldc z_lq42_ok 32 (q := (1711, (.iaload, 1))) rfl) ?_
  have eS13 : (([z_I (xs (7 * k + 1)).toInt, z_I (xs (7 * k + 2)).toInt, z_I (xs (7 * k + 3)).toInt] : List z_V).map (z_v cx.2.2)).reverse ++ .ref (cx.2.2 13) :: [.long (Int64.ofInt x1)] = (.int (xs (7 * k + 3)) :: .int (xs (7 * k + 2)) :: .int (xs (7 * k + 1)) :: .ref (cx.2.2 13) :: [.long (Int64.ofInt x1)] : List Value) := by
    simp only [List.map_cons, List.map_nil, lw_vI, List.reverse_cons, List.reverse_nil, List.nil_append, List.cons_append]
  show W p l e R s m #[Value.ref b] below meth c _ _ CC SS QQ (F0 m 1712 ls (.int (xs (7 * k + 3)) :: .int (xs (7 * k + 2)) :: .int (xs (7 * k + 1)) :: .ref (cx.2.2 13) :: [.long (Int64.ofInt x1)]))
  rw [← eS13]
  refine lw_call F Cf1 (k := 380) (o := 13) (lk := (11, 22)) (t' := z_m380) rfl hq1 rfl (show z_np z_m380.1 = some 3 by decide +kernel) (by decide +kernel) (by decide) (by decide +kernel) (by decide +kernel) va (by simp [Value.category]) hl.1 hR hCC (z_ldc z_lq42_ok 33 (q := (1712, (.invokevirtual 196, 3))) rfl) (fun v2 M2 H2 locs2 hn2 hok2 hq2 Cf2 => ?_)
  obtain ⟨rfl, hP2⟩ := hq2
  show W p l e R s m #[Value.ref b] below meth c H2 locs2 CC SS QQ (F0 m 1715 ls [.long (Int64.ofInt x1), .long (Int64.ofInt x1)])
  refine W.lcmp hx hb (z_ldc z_lq42_ok 34 (q := (1715, (.lcmp, 1))) rfl) ?_
  have e0 : lg_cmp (Int64.ofInt x1) (Int64.ofInt x1) = 0 := by unfold lg_cmp; rw [if_neg (Int64.lt_irrefl), if_pos rfl]
  rw [e0]
  refine lv_if_eq (tgt := 1803) hx hb (z_ldc z_lq42_ok 35 (q := (1716, (.ifCond .eq 87, 3))) rfl) (by decide) (fun _ => ?_) (fun q => absurd rfl q)
  exact kk M2 H2 locs2 hP2 Cf2
def z_lq43 : List (Nat × (Instr × Nat)) := [(1721, (.aload_n 1, 1)), (1722, (.invokevirtual 197, 3)), (1725, (.aload_n 2, 1)), (1726, (.invokevirtual 201, 3)), (1729, (.if_icmp .eq 74, 3))]
theorem z_lq43_ok : z_lq43.all (fun q => decide (decode code q.1 = .ok q.2)) = true := by decide +kernel
theorem lw_case43 (F : z_lfix cx p s m meth c b L xs) (Cf : z_lcfg cx s H locs M) {k d : Nat} {P : z_M → Prop} (hk : 7 * k + 7 ≤ L) (hl : lv_has ls 4 [(0, .ref b), (1, .ref (cx.2.2 1)), (2, .ref (cx.2.2 13)), (3, .int (nI (7 * k)))]) (hR : d + 2 ≤ R.frames ∧ 64 * (d + 2) ≤ R.locals) (hCC : CC ≤ R.cells ∧ SS ≤ R.slots)
    (hCl : z_Cl 0 d 210 [z_R 1] M (fun v M1 => (∃ x, v = z_I x) ∧ z_Cl 0 d 381 [z_R 13] M1 (fun v2 M2 => v2 = v ∧ P M2)))
    (kk : ∀ (M2 : z_M) (H1 : Heap) (locs1 : List Loc), P M2 → z_lcfg cx s H1 locs1 M2 → W p l e R s m #[Value.ref b] below meth c H1 locs1 CC SS QQ (F0 m 1803 ls [])) : W p l e R s m #[Value.ref b] below meth c H locs CC SS QQ (F0 m 1721 ls []) := by
  obtain ⟨hx, hb, -⟩ := id F.1
  have va : ∀ v ∈ ([] : List z_V), z_vok 0 v := by
    intro v hv
    cases hv
  refine lv_aload_n hx hb (z_ldc z_lq43_ok 0 (q := (1721, (.aload_n 1, 1))) rfl) rfl (lv_at hl 1 rfl) ?_
  have eS1 : (([] : List z_V).map (z_v cx.2.2)).reverse ++ .ref (cx.2.2 1) :: [] = (.ref (cx.2.2 1) :: [] : List Value) := by
    simp only [List.map_cons, List.map_nil, lw_vI, List.reverse_cons, List.reverse_nil, List.nil_append, List.cons_append]
  show W p l e R s m #[Value.ref b] below meth c _ _ CC SS QQ (F0 m 1722 ls (.ref (cx.2.2 1) :: []))
  rw [← eS1]
  refine lw_call F Cf (k := 210) (o := 1) (lk := (6, 194)) (t' := z_m210) rfl hCl rfl (show z_np z_m210.1 = some 0 by decide +kernel) (by decide +kernel) (by decide) (by decide +kernel) (by decide +kernel) va (by decide) hl.1 hR hCC (z_ldc z_lq43_ok 1 (q := (1722, (.invokevirtual 197, 3))) rfl) (fun v1 M1 H1 locs1 hn1 hok1 hq1 Cf1 => ?_)
  obtain ⟨hty1, hq1⟩ := hq1
  obtain ⟨x1, rfl⟩ := hty1
  show W p l e R s m #[Value.ref b] below meth c H1 locs1 CC SS QQ (F0 m 1725 ls [.int (Int32.ofInt x1)])
  refine lv_aload_n hx hb (z_ldc z_lq43_ok 2 (q := (1725, (.aload_n 2, 1))) rfl) rfl (lv_at hl 2 rfl) ?_
  have eS13 : (([] : List z_V).map (z_v cx.2.2)).reverse ++ .ref (cx.2.2 13) :: [.int (Int32.ofInt x1)] = (.ref (cx.2.2 13) :: [.int (Int32.ofInt x1)] : List Value) := by
    simp only [List.map_cons, List.map_nil, lw_vI, List.reverse_cons, List.reverse_nil, List.nil_append, List.cons_append]
  show W p l e R s m #[Value.ref b] below meth c _ _ CC SS QQ (F0 m 1726 ls (.ref (cx.2.2 13) :: [.int (Int32.ofInt x1)]))
  rw [← eS13]
  refine lw_call F Cf1 (k := 381) (o := 13) (lk := (11, 31)) (t' := z_m381) rfl hq1 rfl (show z_np z_m381.1 = some 0 by decide +kernel) (by decide +kernel) (by decide) (by decide +kernel) (by decide +kernel) va (by simp [Value.category]) hl.1 hR hCC (z_ldc z_lq43_ok 3 (q := (1726, (.invokevirtual 201, 3))) rfl) (fun v2 M2 H2 locs2 hn2 hok2 hq2 Cf2 => ?_)
  obtain ⟨rfl, hP2⟩ := hq2
  show W p l e R s m #[Value.ref b] below meth c H2 locs2 CC SS QQ (F0 m 1729 ls [.int (Int32.ofInt x1), .int (Int32.ofInt x1)])
  refine lv_icmp_eq (tgt := 1803) hx hb (z_ldc z_lq43_ok 4 (q := (1729, (.if_icmp .eq 74, 3))) rfl) (by decide) (fun _ => ?_) (fun q => absurd rfl q)
  exact kk M2 H2 locs2 hP2 Cf2
def z_lq44 : List (Nat × (Instr × Nat)) := [(1734, (.aload_n 1, 1)), (1735, (.invokevirtual 202, 3)), (1738, (.aload_n 2, 1)), (1739, (.invokevirtual 206, 3)), (1742, (.if_icmp .eq 61, 3))]
theorem z_lq44_ok : z_lq44.all (fun q => decide (decode code q.1 = .ok q.2)) = true := by decide +kernel
theorem lw_case44 (F : z_lfix cx p s m meth c b L xs) (Cf : z_lcfg cx s H locs M) {k d : Nat} {P : z_M → Prop} (hk : 7 * k + 7 ≤ L) (hl : lv_has ls 4 [(0, .ref b), (1, .ref (cx.2.2 1)), (2, .ref (cx.2.2 13)), (3, .int (nI (7 * k)))]) (hR : d + 2 ≤ R.frames ∧ 64 * (d + 2) ≤ R.locals) (hCC : CC ≤ R.cells ∧ SS ≤ R.slots)
    (hCl : z_Cl 0 d 211 [z_R 1] M (fun v M1 => (∃ x, v = z_I x) ∧ z_Cl 0 d 382 [z_R 13] M1 (fun v2 M2 => v2 = v ∧ P M2)))
    (kk : ∀ (M2 : z_M) (H1 : Heap) (locs1 : List Loc), P M2 → z_lcfg cx s H1 locs1 M2 → W p l e R s m #[Value.ref b] below meth c H1 locs1 CC SS QQ (F0 m 1803 ls [])) : W p l e R s m #[Value.ref b] below meth c H locs CC SS QQ (F0 m 1734 ls []) := by
  obtain ⟨hx, hb, -⟩ := id F.1
  have va : ∀ v ∈ ([] : List z_V), z_vok 0 v := by
    intro v hv
    cases hv
  refine lv_aload_n hx hb (z_ldc z_lq44_ok 0 (q := (1734, (.aload_n 1, 1))) rfl) rfl (lv_at hl 1 rfl) ?_
  have eS1 : (([] : List z_V).map (z_v cx.2.2)).reverse ++ .ref (cx.2.2 1) :: [] = (.ref (cx.2.2 1) :: [] : List Value) := by
    simp only [List.map_cons, List.map_nil, lw_vI, List.reverse_cons, List.reverse_nil, List.nil_append, List.cons_append]
  show W p l e R s m #[Value.ref b] below meth c _ _ CC SS QQ (F0 m 1735 ls (.ref (cx.2.2 1) :: []))
  rw [← eS1]
  refine lw_call F Cf (k := 211) (o := 1) (lk := (6, 210)) (t' := z_m211) rfl hCl rfl (show z_np z_m211.1 = some 0 by decide +kernel) (by decide +kernel) (by decide) (by decide +kernel) (by decide +kernel) va (by decide) hl.1 hR hCC (z_ldc z_lq44_ok 1 (q := (1735, (.invokevirtual 202, 3))) rfl) (fun v1 M1 H1 locs1 hn1 hok1 hq1 Cf1 => ?_)
  obtain ⟨hty1, hq1⟩ := hq1
  obtain ⟨x1, rfl⟩ := hty1
  show W p l e R s m #[Value.ref b] below meth c H1 locs1 CC SS QQ (F0 m 1738 ls [.int (Int32.ofInt x1)])
  refine lv_aload_n hx hb (z_ldc z_lq44_ok 2 (q := (1738, (.aload_n 2, 1))) rfl) rfl (lv_at hl 2 rfl) ?_
  have eS13 : (([] : List z_V).map (z_v cx.2.2)).reverse ++ .ref (cx.2.2 13) :: [.int (Int32.ofInt x1)] = (.ref (cx.2.2 13) :: [.int (Int32.ofInt x1)] : List Value) := by
    simp only [List.map_cons, List.map_nil, lw_vI, List.reverse_cons, List.reverse_nil, List.nil_append, List.cons_append]
  show W p l e R s m #[Value.ref b] below meth c _ _ CC SS QQ (F0 m 1739 ls (.ref (cx.2.2 13) :: [.int (Int32.ofInt x1)]))
  rw [← eS13]
  refine lw_call F Cf1 (k := 382) (o := 13) (lk := (11, 35)) (t' := z_m382) rfl hq1 rfl (show z_np z_m382.1 = some 0 by decide +kernel) (by decide +kernel) (by decide) (by decide +kernel) (by decide +kernel) va (by simp [Value.category]) hl.1 hR hCC (z_ldc z_lq44_ok 3 (q := (1739, (.invokevirtual 206, 3))) rfl) (fun v2 M2 H2 locs2 hn2 hok2 hq2 Cf2 => ?_)
  obtain ⟨rfl, hP2⟩ := hq2
  show W p l e R s m #[Value.ref b] below meth c H2 locs2 CC SS QQ (F0 m 1742 ls [.int (Int32.ofInt x1), .int (Int32.ofInt x1)])
  refine lv_icmp_eq (tgt := 1803) hx hb (z_ldc z_lq44_ok 4 (q := (1742, (.if_icmp .eq 61, 3))) rfl) (by decide) (fun _ => ?_) (fun q => absurd rfl q)
  exact kk M2 H2 locs2 hP2 Cf2
def z_lq45 : List (Nat × (Instr × Nat)) := [(1747, (.aload_n 1, 1)), (1748, (.aload_n 0, 1)), (1749, (.iload_n 3, 1)), (1750, (.iconst 1, 1)), (1751, (.iadd, 1)), (1752, (.iaload, 1)), (1753, (.aload_n 0, 1)), (1754, (.iload_n 3, 1)), (1755, (.iconst 2, 1)), (1756, (.iadd, 1)), (1757, (.iaload, 1)), (1758, (.invokevirtual 207, 3)), (1761, (.aload_n 2, 1)), (1762, (.aload_n 0, 1)), (1763, (.iload_n 3, 1)), (1764, (.iconst 1, 1)), (1765, (.iadd, 1)), (1766, (.iaload, 1)), (1767, (.aload_n 0, 1)), (1768, (.iload_n 3, 1)), (1769, (.iconst 2, 1)), (1770, (.iadd, 1)), (1771, (.iaload, 1)), (1772, (.invokevirtual 210, 3)), (1775, (.if_icmp .eq 28, 3))]
theorem z_lq45_ok : z_lq45.all (fun q => decide (decode code q.1 = .ok q.2)) = true := by decide +kernel
theorem lw_case45 (F : z_lfix cx p s m meth c b L xs) (Cf : z_lcfg cx s H locs M) {k d : Nat} {P : z_M → Prop} (hk : 7 * k + 7 ≤ L) (hl : lv_has ls 4 [(0, .ref b), (1, .ref (cx.2.2 1)), (2, .ref (cx.2.2 13)), (3, .int (nI (7 * k)))]) (hR : d + 2 ≤ R.frames ∧ 64 * (d + 2) ≤ R.locals) (hCC : CC ≤ R.cells ∧ SS ≤ R.slots)
    (hCl : z_Cl 0 d 212 [z_R 1, z_I (xs (7 * k + 1)).toInt, z_I (xs (7 * k + 2)).toInt] M (fun v M1 => (∃ x, v = z_I x) ∧ z_Cl 0 d 383 [z_R 13, z_I (xs (7 * k + 1)).toInt, z_I (xs (7 * k + 2)).toInt] M1 (fun v2 M2 => v2 = v ∧ P M2)))
    (kk : ∀ (M2 : z_M) (H1 : Heap) (locs1 : List Loc), P M2 → z_lcfg cx s H1 locs1 M2 → W p l e R s m #[Value.ref b] below meth c H1 locs1 CC SS QQ (F0 m 1803 ls [])) : W p l e R s m #[Value.ref b] below meth c H locs CC SS QQ (F0 m 1747 ls []) := by
  obtain ⟨hx, hb, -⟩ := id F.1
  have va : ∀ v ∈ [(z_I (xs (7 * k + 1)).toInt : z_V), (z_I (xs (7 * k + 2)).toInt : z_V)], z_vok 0 v := by
    intro v hv
    simp only [List.mem_cons, List.not_mem_nil, or_false] at hv
    rcases hv with rfl | rfl <;> exact z_n_in _
  refine lv_aload_n hx hb (z_ldc z_lq45_ok 0 (q := (1747, (.aload_n 1, 1))) rfl) rfl (lv_at hl 1 rfl) ?_
  refine lw_arg F Cf (j := 1) (by decide) (by decide) hk (lv_at hl 0 rfl) (lv_at hl 3 rfl) (ins := .iadd) (n2 := 0) (z_ldc z_lq45_ok 1 (q := (1748, (.aload_n 0, 1))) rfl) (z_ldc z_lq45_ok 2 (q := (1749, (.iload_n 3, 1))) rfl) (Or.inl ⟨(z_ldc z_lq45_ok 3 (q := (1750, (.iconst 1, 1))) rfl), rfl⟩) (z_ldc z_lq45_ok 4 (q := (1751, (.iadd, 1))) rfl) (z_ldc z_lq45_ok 5 (q := (1752, (.iaload, 1))) rfl) ?_
  refine lw_arg F Cf (j := 2) (by decide) (by decide) hk (lv_at hl 0 rfl) (lv_at hl 3 rfl) (ins := .iadd) (n2 := 0) (z_ldc z_lq45_ok 6 (q := (1753, (.aload_n 0, 1))) rfl) (z_ldc z_lq45_ok 7 (q := (1754, (.iload_n 3, 1))) rfl) (Or.inl ⟨(z_ldc z_lq45_ok 8 (q := (1755, (.iconst 2, 1))) rfl), rfl⟩) (z_ldc z_lq45_ok 9 (q := (1756, (.iadd, 1))) rfl) (z_ldc z_lq45_ok 10 (q := (1757, (.iaload, 1))) rfl) ?_
  have eS1 : (([z_I (xs (7 * k + 1)).toInt, z_I (xs (7 * k + 2)).toInt] : List z_V).map (z_v cx.2.2)).reverse ++ .ref (cx.2.2 1) :: [] = (.int (xs (7 * k + 2)) :: .int (xs (7 * k + 1)) :: .ref (cx.2.2 1) :: [] : List Value) := by
    simp only [List.map_cons, List.map_nil, lw_vI, List.reverse_cons, List.reverse_nil, List.nil_append, List.cons_append]
  show W p l e R s m #[Value.ref b] below meth c _ _ CC SS QQ (F0 m 1758 ls (.int (xs (7 * k + 2)) :: .int (xs (7 * k + 1)) :: .ref (cx.2.2 1) :: []))
  rw [← eS1]
  refine lw_call F Cf (k := 212) (o := 1) (lk := (6, 226)) (t' := z_m212) rfl hCl rfl (show z_np z_m212.1 = some 2 by decide +kernel) (by decide +kernel) (by decide) (by decide +kernel) (by decide +kernel) va (by decide) hl.1 hR hCC (z_ldc z_lq45_ok 11 (q := (1758, (.invokevirtual 207, 3))) rfl) (fun v1 M1 H1 locs1 hn1 hok1 hq1 Cf1 => ?_)
  obtain ⟨hty1, hq1⟩ := hq1
  obtain ⟨x1, rfl⟩ := hty1
  show W p l e R s m #[Value.ref b] below meth c H1 locs1 CC SS QQ (F0 m 1761 ls [.int (Int32.ofInt x1)])
  refine lv_aload_n hx hb (z_ldc z_lq45_ok 12 (q := (1761, (.aload_n 2, 1))) rfl) rfl (lv_at hl 2 rfl) ?_
  refine lw_arg F Cf1 (j := 1) (by decide) (by decide) hk (lv_at hl 0 rfl) (lv_at hl 3 rfl) (ins := .iadd) (n2 := 0) (z_ldc z_lq45_ok 13 (q := (1762, (.aload_n 0, 1))) rfl) (z_ldc z_lq45_ok 14 (q := (1763, (.iload_n 3, 1))) rfl) (Or.inl ⟨(z_ldc z_lq45_ok 15 (q := (1764, (.iconst 1, 1))) rfl), rfl⟩) (z_ldc z_lq45_ok 16 (q := (1765, (.iadd, 1))) rfl) (z_ldc z_lq45_ok 17 (q := (1766, (.iaload, 1))) rfl) ?_
  refine lw_arg F Cf1 (j := 2) (by decide) (by decide) hk (lv_at hl 0 rfl) (lv_at hl 3 rfl) (ins := .iadd) (n2 := 0) (z_ldc z_lq45_ok 18 (q := (1767, (.aload_n 0, 1))) rfl) (z_ldc z_lq45_ok 19 (q := (1768, (.iload_n 3, 1))) rfl) (Or.inl ⟨(z_ldc z_lq45_ok 20 (q := (1769, (.iconst 2, 1))) rfl), rfl⟩) (z_ldc z_lq45_ok 21 (q := (1770, (.iadd, 1))) rfl) (z_ldc z_lq45_ok 22 (q := (1771, (.iaload, 1))) rfl) ?_
  have eS13 : (([z_I (xs (7 * k + 1)).toInt, z_I (xs (7 * k + 2)).toInt] : List z_V).map (z_v cx.2.2)).reverse ++ .ref (cx.2.2 13) :: [.int (Int32.ofInt x1)] = (.int (xs (7 * k + 2)) :: .int (xs (7 * k + 1)) :: .ref (cx.2.2 13) :: [.int (Int32.ofInt x1)] : List Value) := by
    simp only [List.map_cons, List.map_nil, lw_vI, List.reverse_cons, List.reverse_nil, List.nil_append, List.cons_append]
  show W p l e R s m #[Value.ref b] below meth c _ _ CC SS QQ (F0 m 1772 ls (.int (xs (7 * k + 2)) :: .int (xs (7 * k + 1)) :: .ref (cx.2.2 13) :: [.int (Int32.ofInt x1)]))
  rw [← eS13]
  refine lw_call F Cf1 (k := 383) (o := 13) (lk := (11, 39)) (t' := z_m383) rfl hq1 rfl (show z_np z_m383.1 = some 2 by decide +kernel) (by decide +kernel) (by decide) (by decide +kernel) (by decide +kernel) va (by simp [Value.category]) hl.1 hR hCC (z_ldc z_lq45_ok 23 (q := (1772, (.invokevirtual 210, 3))) rfl) (fun v2 M2 H2 locs2 hn2 hok2 hq2 Cf2 => ?_)
  obtain ⟨rfl, hP2⟩ := hq2
  show W p l e R s m #[Value.ref b] below meth c H2 locs2 CC SS QQ (F0 m 1775 ls [.int (Int32.ofInt x1), .int (Int32.ofInt x1)])
  refine lv_icmp_eq (tgt := 1803) hx hb (z_ldc z_lq45_ok 24 (q := (1775, (.if_icmp .eq 28, 3))) rfl) (by decide) (fun _ => ?_) (fun q => absurd rfl q)
  exact kk M2 H2 locs2 hP2 Cf2
def z_lq46 : List (Nat × (Instr × Nat)) := [(1780, (.aload_n 1, 1)), (1781, (.aload_n 0, 1)), (1782, (.iload_n 3, 1)), (1783, (.iconst 1, 1)), (1784, (.iadd, 1)), (1785, (.iaload, 1)), (1786, (.invokevirtual 211, 3)), (1789, (.aload_n 2, 1)), (1790, (.aload_n 0, 1)), (1791, (.iload_n 3, 1)), (1792, (.iconst 1, 1)), (1793, (.iadd, 1)), (1794, (.iaload, 1)), (1795, (.invokevirtual 214, 3)), (1798, (.if_icmp .eq 5, 3))]
theorem z_lq46_ok : z_lq46.all (fun q => decide (decode code q.1 = .ok q.2)) = true := by decide +kernel
theorem lw_case46 (F : z_lfix cx p s m meth c b L xs) (Cf : z_lcfg cx s H locs M) {k d : Nat} {P : z_M → Prop} (hk : 7 * k + 7 ≤ L) (hl : lv_has ls 4 [(0, .ref b), (1, .ref (cx.2.2 1)), (2, .ref (cx.2.2 13)), (3, .int (nI (7 * k)))]) (hR : d + 2 ≤ R.frames ∧ 64 * (d + 2) ≤ R.locals) (hCC : CC ≤ R.cells ∧ SS ≤ R.slots)
    (hCl : z_Cl 0 d 213 [z_R 1, z_I (xs (7 * k + 1)).toInt] M (fun v M1 => (∃ x, v = z_I x) ∧ z_Cl 0 d 388 [z_R 13, z_I (xs (7 * k + 1)).toInt] M1 (fun v2 M2 => v2 = v ∧ P M2)))
    (kk : ∀ (M2 : z_M) (H1 : Heap) (locs1 : List Loc), P M2 → z_lcfg cx s H1 locs1 M2 → W p l e R s m #[Value.ref b] below meth c H1 locs1 CC SS QQ (F0 m 1803 ls [])) : W p l e R s m #[Value.ref b] below meth c H locs CC SS QQ (F0 m 1780 ls []) := by
  obtain ⟨hx, hb, -⟩ := id F.1
  have va : ∀ v ∈ [(z_I (xs (7 * k + 1)).toInt : z_V)], z_vok 0 v := by
    intro v hv
    simp only [List.mem_cons, List.not_mem_nil, or_false] at hv
    rcases hv with rfl <;> exact z_n_in _
  refine lv_aload_n hx hb (z_ldc z_lq46_ok 0 (q := (1780, (.aload_n 1, 1))) rfl) rfl (lv_at hl 1 rfl) ?_
  refine lw_arg F Cf (j := 1) (by decide) (by decide) hk (lv_at hl 0 rfl) (lv_at hl 3 rfl) (ins := .iadd) (n2 := 0) (z_ldc z_lq46_ok 1 (q := (1781, (.aload_n 0, 1))) rfl) (z_ldc z_lq46_ok 2 (q := (1782, (.iload_n 3, 1))) rfl) (Or.inl ⟨(z_ldc z_lq46_ok 3 (q := (1783, (.iconst 1, 1))) rfl), rfl⟩) (z_ldc z_lq46_ok 4 (q := (1784, (.iadd, 1))) rfl) (z_ldc z_lq46_ok 5 (q := (1785, (.iaload, 1))) rfl) ?_
  have eS1 : (([z_I (xs (7 * k + 1)).toInt] : List z_V).map (z_v cx.2.2)).reverse ++ .ref (cx.2.2 1) :: [] = (.int (xs (7 * k + 1)) :: .ref (cx.2.2 1) :: [] : List Value) := by
    simp only [List.map_cons, List.map_nil, lw_vI, List.reverse_cons, List.reverse_nil, List.nil_append, List.cons_append]
  show W p l e R s m #[Value.ref b] below meth c _ _ CC SS QQ (F0 m 1786 ls (.int (xs (7 * k + 1)) :: .ref (cx.2.2 1) :: []))
  rw [← eS1]
  refine lw_call F Cf (k := 213) (o := 1) (lk := (6, 230)) (t' := z_m213) rfl hCl rfl (show z_np z_m213.1 = some 1 by decide +kernel) (by decide +kernel) (by decide) (by decide +kernel) (by decide +kernel) va (by decide) hl.1 hR hCC (z_ldc z_lq46_ok 6 (q := (1786, (.invokevirtual 211, 3))) rfl) (fun v1 M1 H1 locs1 hn1 hok1 hq1 Cf1 => ?_)
  obtain ⟨hty1, hq1⟩ := hq1
  obtain ⟨x1, rfl⟩ := hty1
  show W p l e R s m #[Value.ref b] below meth c H1 locs1 CC SS QQ (F0 m 1789 ls [.int (Int32.ofInt x1)])
  refine lv_aload_n hx hb (z_ldc z_lq46_ok 7 (q := (1789, (.aload_n 2, 1))) rfl) rfl (lv_at hl 2 rfl) ?_
  refine lw_arg F Cf1 (j := 1) (by decide) (by decide) hk (lv_at hl 0 rfl) (lv_at hl 3 rfl) (ins := .iadd) (n2 := 0) (z_ldc z_lq46_ok 8 (q := (1790, (.aload_n 0, 1))) rfl) (z_ldc z_lq46_ok 9 (q := (1791, (.iload_n 3, 1))) rfl) (Or.inl ⟨(z_ldc z_lq46_ok 10 (q := (1792, (.iconst 1, 1))) rfl), rfl⟩) (z_ldc z_lq46_ok 11 (q := (1793, (.iadd, 1))) rfl) (z_ldc z_lq46_ok 12 (q := (1794, (.iaload, 1))) rfl) ?_
  have eS13 : (([z_I (xs (7 * k + 1)).toInt] : List z_V).map (z_v cx.2.2)).reverse ++ .ref (cx.2.2 13) :: [.int (Int32.ofInt x1)] = (.int (xs (7 * k + 1)) :: .ref (cx.2.2 13) :: [.int (Int32.ofInt x1)] : List Value) := by
    simp only [List.map_cons, List.map_nil, lw_vI, List.reverse_cons, List.reverse_nil, List.nil_append, List.cons_append]
  show W p l e R s m #[Value.ref b] below meth c _ _ CC SS QQ (F0 m 1795 ls (.int (xs (7 * k + 1)) :: .ref (cx.2.2 13) :: [.int (Int32.ofInt x1)]))
  rw [← eS13]
  refine lw_call F Cf1 (k := 388) (o := 13) (lk := (11, 44)) (t' := z_m388) rfl hq1 rfl (show z_np z_m388.1 = some 1 by decide +kernel) (by decide +kernel) (by decide) (by decide +kernel) (by decide +kernel) va (by simp [Value.category]) hl.1 hR hCC (z_ldc z_lq46_ok 13 (q := (1795, (.invokevirtual 214, 3))) rfl) (fun v2 M2 H2 locs2 hn2 hok2 hq2 Cf2 => ?_)
  obtain ⟨rfl, hP2⟩ := hq2
  show W p l e R s m #[Value.ref b] below meth c H2 locs2 CC SS QQ (F0 m 1798 ls [.int (Int32.ofInt x1), .int (Int32.ofInt x1)])
  refine lv_icmp_eq (tgt := 1803) hx hb (z_ldc z_lq46_ok 14 (q := (1798, (.if_icmp .eq 5, 3))) rfl) (by decide) (fun _ => ?_) (fun q => absurd rfl q)
  exact kk M2 H2 locs2 hP2 Cf2
end LW
/-- what a call of the law needs: both answer, and alike -/
def z_case (d : Nat) (P : z_M → Prop) (M : z_M) (a1 a2 a3 a4 a5 a6 : Int) (op : Nat) : Prop := match op with
  | 0 => z_Cl 0 d 167 [z_R 1, z_I a1, z_I a2, z_I a3, z_I a4, z_I a5] M (fun v M1 => (∃ x, v = z_I x) ∧ z_Cl 0 d 227 [z_R 13, z_I a1, z_I a2, z_I a3, z_I a4, z_I a5] M1 (fun v2 M2 => v2 = v ∧ P M2))
  | 1 => z_Cl 0 d 168 [z_R 1, z_I a1] M (fun v M1 => (∃ x, v = z_I x) ∧ z_Cl 0 d 243 [z_R 13, z_I a1] M1 (fun v2 M2 => v2 = v ∧ P M2))
  | 2 => z_Cl 0 d 169 [z_R 1, z_I a1, z_I a2, z_I a3] M (fun v M1 => (∃ x, v = z_I x) ∧ z_Cl 0 d 249 [z_R 13, z_I a1, z_I a2, z_I a3] M1 (fun v2 M2 => v2 = v ∧ P M2))
  | 3 => z_Cl 0 d 170 [z_R 1, z_I a1] M (fun v M1 => (∃ x, v = z_I x) ∧ z_Cl 0 d 270 [z_R 13, z_I a1] M1 (fun v2 M2 => v2 = v ∧ P M2))
  | 4 => z_Cl 0 d 171 [z_R 1, z_I a1] M (fun v M1 => (∃ x, v = z_I x) ∧ z_Cl 0 d 298 [z_R 13, z_I a1] M1 (fun v2 M2 => v2 = v ∧ P M2))
  | 5 => z_Cl 0 d 172 [z_R 1, z_I a1] M (fun v M1 => (∃ x, v = z_I x) ∧ z_Cl 0 d 301 [z_R 13, z_I a1] M1 (fun v2 M2 => v2 = v ∧ P M2))
  | 6 => z_Cl 0 d 173 [z_R 1, z_I a1] M (fun v M1 => (∃ x, v = z_I x) ∧ z_Cl 0 d 302 [z_R 13, z_I a1] M1 (fun v2 M2 => v2 = v ∧ P M2))
  | 7 => z_Cl 0 d 174 [z_R 1, z_I a1, z_I a2] M (fun v M1 => (∃ x, v = z_I x) ∧ z_Cl 0 d 286 [z_R 13, z_I a1, z_I a2] M1 (fun v2 M2 => v2 = v ∧ P M2))
  | 8 => z_Cl 0 d 175 [z_R 1, z_I a1] M (fun v M1 => (∃ x, v = z_I x) ∧ z_Cl 0 d 287 [z_R 13, z_I a1] M1 (fun v2 M2 => v2 = v ∧ P M2))
  | 9 => z_Cl 0 d 176 [z_R 1, z_I a1, z_I a2] M (fun v M1 => (∃ x, v = z_I x) ∧ z_Cl 0 d 303 [z_R 13, z_I a1, z_I a2] M1 (fun v2 M2 => v2 = v ∧ P M2))
  | 10 => z_Cl 0 d 177 [z_R 1, z_I a1, z_I a2] M (fun v M1 => (∃ x, v = z_I x) ∧ z_Cl 0 d 288 [z_R 13, z_I a1, z_I a2] M1 (fun v2 M2 => v2 = v ∧ P M2))
  | 11 => z_Cl 0 d 178 [z_R 1, z_I a1, z_I a2] M (fun v M1 => (∃ x, v = z_I x) ∧ z_Cl 0 d 289 [z_R 13, z_I a1, z_I a2] M1 (fun v2 M2 => v2 = v ∧ P M2))
  | 12 => z_Cl 0 d 179 [z_R 1, z_I a1, z_I a2] M (fun v M1 => (∃ x, v = z_I x) ∧ z_Cl 0 d 291 [z_R 13, z_I a1, z_I a2] M1 (fun v2 M2 => v2 = v ∧ P M2))
  | 13 => z_Cl 0 d 180 [z_R 1, z_I a1, z_I a2, z_I a3] M (fun v M1 => (∃ x, v = z_I x) ∧ z_Cl 0 d 292 [z_R 13, z_I a1, z_I a2, z_I a3] M1 (fun v2 M2 => v2 = v ∧ P M2))
  | 14 => z_Cl 0 d 181 [z_R 1, z_I a1] M (fun v M1 => (∃ x, v = z_I x) ∧ z_Cl 0 d 309 [z_R 13, z_I a1] M1 (fun v2 M2 => v2 = v ∧ P M2))
  | 15 => z_Cl 0 d 182 [z_R 1, z_I a1] M (fun v M1 => (∃ x, v = z_I x) ∧ z_Cl 0 d 310 [z_R 13, z_I a1] M1 (fun v2 M2 => v2 = v ∧ P M2))
  | 16 => z_Cl 0 d 183 [z_R 1, z_I a1] M (fun v M1 => (∃ x, v = z_I x) ∧ z_Cl 0 d 318 [z_R 13, z_I a1] M1 (fun v2 M2 => v2 = v ∧ P M2))
  | 17 => z_Cl 0 d 184 [z_R 1] M (fun v M1 => (∃ x, v = z_J x) ∧ z_Cl 0 d 319 [z_R 13] M1 (fun v2 M2 => v2 = v ∧ P M2))
  | 18 => z_Cl 0 d 185 [z_R 1, z_I a1] M (fun v M1 => (∃ x, v = z_I x) ∧ z_Cl 0 d 324 [z_R 13, z_I a1] M1 (fun v2 M2 => v2 = v ∧ P M2))
  | 19 => z_Cl 0 d 186 [z_R 1, z_I a1] M (fun v M1 => (∃ x, v = z_I x) ∧ z_Cl 0 d 332 [z_R 13, z_I a1] M1 (fun v2 M2 => v2 = v ∧ P M2))
  | 20 => z_Cl 0 d 187 [z_R 1, z_I a1] M (fun v M1 => (∃ x, v = z_I x) ∧ z_Cl 0 d 334 [z_R 13, z_I a1] M1 (fun v2 M2 => v2 = v ∧ P M2))
  | 21 => z_Cl 0 d 188 [z_R 1, z_I a1, z_I a2, z_I a3, z_I a4] M (fun v M1 => (∃ x, v = z_J x) ∧ z_Cl 0 d 339 [z_R 13, z_I a1, z_I a2, z_I a3, z_I a4] M1 (fun v2 M2 => v2 = v ∧ P M2))
  | 22 => z_Cl 0 d 189 [z_R 1, z_I a1, z_I a2, z_I a3, z_I a4, z_I a5, z_I a6] M (fun v M1 => (∃ x, v = z_J x) ∧ z_Cl 0 d 341 [z_R 13, z_I a1, z_I a2, z_I a3, z_I a4, z_I a5, z_I a6] M1 (fun v2 M2 => v2 = v ∧ P M2))
  | 23 => z_Cl 0 d 190 [z_R 1, z_I a1, z_I a2, z_I a3, z_I a4, z_I a5] M (fun v M1 => (∃ x, v = z_I x) ∧ z_Cl 0 d 342 [z_R 13, z_I a1, z_I a2, z_I a3, z_I a4, z_I a5] M1 (fun v2 M2 => v2 = v ∧ P M2))
  | 24 => z_Cl 0 d 191 [z_R 1, z_I a1, z_I a2, z_I a3, z_I a4] M (fun v M1 => (∃ x, v = z_I x) ∧ z_Cl 0 d 343 [z_R 13, z_I a1, z_I a2, z_I a3, z_I a4] M1 (fun v2 M2 => v2 = v ∧ P M2))
  | 25 => z_Cl 0 d 192 [z_R 1, z_I a1] M (fun v M1 => (∃ x, v = z_I x) ∧ z_Cl 0 d 345 [z_R 13, z_I a1] M1 (fun v2 M2 => v2 = v ∧ P M2))
  | 26 => z_Cl 0 d 193 [z_R 1, z_I a1, z_I a2, z_I a3, z_I a4] M (fun v M1 => (∃ x, v = z_I x) ∧ z_Cl 0 d 346 [z_R 13, z_I a1, z_I a2, z_I a3, z_I a4] M1 (fun v2 M2 => v2 = v ∧ P M2))
  | 27 => z_Cl 0 d 194 [z_R 1, z_I a1] M (fun v M1 => (∃ x, v = z_I x) ∧ z_Cl 0 d 347 [z_R 13, z_I a1] M1 (fun v2 M2 => v2 = v ∧ P M2))
  | 28 => z_Cl 0 d 195 [z_R 1, z_I a1] M (fun v M1 => (∃ x, v = z_I x) ∧ z_Cl 0 d 349 [z_R 13, z_I a1] M1 (fun v2 M2 => v2 = v ∧ P M2))
  | 29 => z_Cl 0 d 196 [z_R 1, z_I a1, z_I a2] M (fun v M1 => (∃ x, v = z_I x) ∧ z_Cl 0 d 350 [z_R 13, z_I a1, z_I a2] M1 (fun v2 M2 => v2 = v ∧ P M2))
  | 30 => z_Cl 0 d 197 [z_R 1, z_I a1] M (fun v M1 => (∃ x, v = z_I x) ∧ z_Cl 0 d 356 [z_R 13, z_I a1] M1 (fun v2 M2 => v2 = v ∧ P M2))
  | 31 => z_Cl 0 d 198 [z_R 1, z_I a1] M (fun v M1 => (∃ x, v = z_I x) ∧ z_Cl 0 d 357 [z_R 13, z_I a1] M1 (fun v2 M2 => v2 = v ∧ P M2))
  | 32 => z_Cl 0 d 199 [z_R 1, z_I a1, z_I a2, z_I a3] M (fun v M1 => (∃ x, v = z_I x) ∧ z_Cl 0 d 359 [z_R 13, z_I a1, z_I a2, z_I a3] M1 (fun v2 M2 => v2 = v ∧ P M2))
  | 33 => z_Cl 0 d 200 [z_R 1, z_I a1, z_I a2, z_I a3] M (fun v M1 => (∃ x, v = z_I x) ∧ z_Cl 0 d 360 [z_R 13, z_I a1, z_I a2, z_I a3] M1 (fun v2 M2 => v2 = v ∧ P M2))
  | 34 => z_Cl 0 d 201 [z_R 1, z_I a1, z_I a2, z_I a3] M (fun v M1 => (∃ x, v = z_I x) ∧ z_Cl 0 d 364 [z_R 13, z_I a1, z_I a2, z_I a3] M1 (fun v2 M2 => v2 = v ∧ P M2))
  | 35 => z_Cl 0 d 202 [z_R 1, z_I a1, z_I a2] M (fun v M1 => (∃ x, v = z_I x) ∧ z_Cl 0 d 366 [z_R 13, z_I a1, z_I a2] M1 (fun v2 M2 => v2 = v ∧ P M2))
  | 36 => z_Cl 0 d 203 [z_R 1, z_I a1, z_I a2, z_I a3, z_I a4] M (fun v M1 => (∃ x, v = z_I x) ∧ z_Cl 0 d 367 [z_R 13, z_I a1, z_I a2, z_I a3, z_I a4] M1 (fun v2 M2 => v2 = v ∧ P M2))
  | 37 => z_Cl 0 d 204 [z_R 1, z_I a1, z_I a2] M (fun v M1 => (∃ x, v = z_I x) ∧ z_Cl 0 d 368 [z_R 13, z_I a1, z_I a2] M1 (fun v2 M2 => v2 = v ∧ P M2))
  | 38 => z_Cl 0 d 205 [z_R 1, z_I a1, z_I a2] M (fun v M1 => (∃ x, v = z_I x) ∧ z_Cl 0 d 371 [z_R 13, z_I a1, z_I a2] M1 (fun v2 M2 => v2 = v ∧ P M2))
  | 39 => z_Cl 0 d 206 [z_R 1, z_I a1, z_I a2, z_I a3] M (fun v M1 => (∃ x, v = z_I x) ∧ z_Cl 0 d 372 [z_R 13, z_I a1, z_I a2, z_I a3] M1 (fun v2 M2 => v2 = v ∧ P M2))
  | 40 => z_Cl 0 d 207 [z_R 1, z_I a1] M (fun v M1 => (∃ x, v = z_I x) ∧ z_Cl 0 d 373 [z_R 13, z_I a1] M1 (fun v2 M2 => v2 = v ∧ P M2))
  | 41 => z_Cl 0 d 208 [z_R 1, z_I a1, z_I a2, z_I a3] M (fun v M1 => (∃ x, v = z_I x) ∧ z_Cl 0 d 379 [z_R 13, z_I a1, z_I a2, z_I a3] M1 (fun v2 M2 => v2 = v ∧ P M2))
  | 42 => z_Cl 0 d 209 [z_R 1, z_I a1, z_I a2, z_I a3] M (fun v M1 => (∃ x, v = z_J x) ∧ z_Cl 0 d 380 [z_R 13, z_I a1, z_I a2, z_I a3] M1 (fun v2 M2 => v2 = v ∧ P M2))
  | 43 => z_Cl 0 d 210 [z_R 1] M (fun v M1 => (∃ x, v = z_I x) ∧ z_Cl 0 d 381 [z_R 13] M1 (fun v2 M2 => v2 = v ∧ P M2))
  | 44 => z_Cl 0 d 211 [z_R 1] M (fun v M1 => (∃ x, v = z_I x) ∧ z_Cl 0 d 382 [z_R 13] M1 (fun v2 M2 => v2 = v ∧ P M2))
  | 45 => z_Cl 0 d 212 [z_R 1, z_I a1, z_I a2] M (fun v M1 => (∃ x, v = z_I x) ∧ z_Cl 0 d 383 [z_R 13, z_I a1, z_I a2] M1 (fun v2 M2 => v2 = v ∧ P M2))
  | 46 => z_Cl 0 d 213 [z_R 1, z_I a1] M (fun v M1 => (∃ x, v = z_I x) ∧ z_Cl 0 d 388 [z_R 13, z_I a1] M1 (fun v2 M2 => v2 = v ∧ P M2))
  | _ => P M
section LW2
variable {p : Program} {l : Launch} {e : Env} {s : State} {m : MethodId} {below : List Frame} {meth : Method} {c : Code} {b L : Nat} {xs : Nat → Int32} {cx : z_C}
theorem lw_and63 (x : Int32) : ∃ j : Nat, j < 64 ∧ x &&& 63 = nI j := by
  obtain ⟨j, h1, h2⟩ := pk_andE x (m := 63) 6 (by decide)
  exact ⟨j, h1, h2⟩
theorem lw_loop (F : z_lfix cx p s m meth c b L xs) {d : Nat} {CC SS : Nat} (hR : d + 2 ≤ 2048 ∧ 64 * (d + 2) ≤ 84000) (hCC : CC ≤ 600000 ∧ SS ≤ 7302249) (Inv : Nat → z_M → Prop)
    (hcase : ∀ (k : Nat) (M : z_M), 7 * k + 7 ≤ L → Inv k M → ∀ (a1 a2 a3 a4 a5 a6 : Int), z_i32 a1 → z_i32 a2 → z_i32 a3 → z_i32 a4 → z_i32 a5 → z_i32 a6 → ∀ op, op < 64 → z_case d (Inv (k + 1)) M a1 a2 a3 a4 a5 a6 op) :
    ∀ (n k : Nat) (M : z_M) (H : Heap) (locs : List Loc) (ls : Array Slot), 7 * k ≤ L + 7 → L + 8 ≤ 7 * k + n → Inv k M → z_lcfg cx s H locs M → lv_has ls 4 [(0, .ref b), (1, .ref (cx.2.2 1)), (2, .ref (cx.2.2 13)), (3, .int (nI (7 * k)))] → W p l e room_1 s m #[Value.ref b] below meth c H locs CC SS (lw_Z below #[Value.ref b] s) (F0 m 18 ls []) := by
  have hbA := lw_notA F
  obtain ⟨⟨hx, hb, hr, hmlc, hown, hts, hX, hbl, hlocks, hgv⟩, hL, hKk, hSt, had⟩ := id F
  intro n
  induction n with
  | zero => intro k M H locs ls h1 h2; exact absurd h2 (by omega)
  | succ n ih =>
    intro k M H locs ls h1 h2 hI Cf hl
    have hS := Cf.2.2.1
    refine lv_iload_n hx hb (z_ldc z_lc0_ok 10 (q := (18, (.iload_n 3, 1))) rfl) rfl (lv_at hl 3 rfl) ?_
    refine lv_aload_n hx hb (z_ldc z_lc0_ok 11 (q := (19, (.aload_n 0, 1))) rfl) rfl (lv_at hl 0 rfl) ?_
    refine va_slen hx hb hX hbl hbA hS (z_ldc z_lc0_ok 12 (q := (20, (.arraylength, 1))) rfl) ?_
    refine lv_bipush (v := 7) hx hb (z_ldc z_lc0_ok 13 (q := (21, (.bipush 7, 2))) rfl) (by decide) ?_
    refine lv_isub hx hb (z_ldc z_lc0_ok 14 (q := (23, (.isub, 1))) rfl) ?_
    refine lv_icmp_gt (tgt := 1809) hx hb (z_ldc z_lc0_ok 15 (q := (24, (.if_icmp .gt 1785, 3))) rfl) (by decide) (fun q => ?_) (fun q => ?_)
    · refine lv_iconst (v := 1) hx hb (z_ldc z_lc0_ok 24 (q := (1809, (.iconst 1, 1))) rfl) (by decide) ?_
      refine va_forget (fun q hq => ?_) ?_
      · rcases hS.2.2 q hq with ⟨k, hk, e⟩ | e
        · rw [e]; exact had k hk
        · exact e
      · refine W.widen (k := 600000) (n := 7302249) hCC.1 hCC.2 ?_
        exact lw_ret hx hb hr hlocks (z_ldc z_lc0_ok 25 (q := (1810, (.ireturn, 1))) rfl)
    · have hsub : (nI L - 7).toInt = (L : Int) - 7 := by
        have e7 : (7 : Int32) = nI 7 := rfl
        rw [e7]
        exact pk_sub_toInt (by omega) (by decide)
      have hk : 7 * k + 7 ≤ L := by
        have q2 : ¬ (nI L - 7 < nI (7 * k)) := q
        rw [Int32.lt_iff_toInt_lt, hsub, nI_toInt (by omega)] at q2
        omega
      refine lv_aload_n hx hb (z_ldc z_lc0_ok 16 (q := (27, (.aload_n 0, 1))) rfl) rfl (lv_at hl 0 rfl) ?_
      refine lv_iload_n hx hb (z_ldc z_lc0_ok 17 (q := (28, (.iload_n 3, 1))) rfl) rfl (lv_at hl 3 rfl) ?_
      refine va_sld hx hb hX hbl hbA hS (vp_in_nI (by omega) (by omega)) (z_ldc z_lc0_ok 18 (q := (29, (.iaload, 1))) rfl) ?_
      refine lv_bipush (v := 63) hx hb (z_ldc z_lc0_ok 19 (q := (30, (.bipush 63, 2))) rfl) (by decide) ?_
      refine lv_iand hx hb (z_ldc z_lc0_ok 20 (q := (32, (.iand, 1))) rfl) ?_
      obtain ⟨op, hop, eop⟩ := lw_and63 (xs (nI (7 * k)).toNatClampNeg)
      rw [eop]
      have hc := hcase k M hk hI _ _ _ _ _ _ (z_n_in (xs (7 * k + 1))) (z_n_in (xs (7 * k + 2))) (z_n_in (xs (7 * k + 3))) (z_n_in (xs (7 * k + 4))) (z_n_in (xs (7 * k + 5))) (z_n_in (xs (7 * k + 6))) op hop
      have next : ∀ (M2 : z_M) (H1 : Heap) (locs1 : List Loc), Inv (k + 1) M2 → z_lcfg cx s H1 locs1 M2 → W p l e room_1 s m #[Value.ref b] below meth c H1 locs1 CC SS (lw_Z below #[Value.ref b] s) (F0 m 1803 ls []) := by
        intro M2 H1 locs1 hI2 Cf2
        refine lv_iinc (v := nI (7 * (k + 1))) (k := 3) (lv' := [(3, .int (nI (7 * (k + 1)))), (0, .ref b), (1, .ref (cx.2.2 1)), (2, .ref (cx.2.2 13))]) hx hb (z_ldc z_lc0_ok 22 (q := (1803, (.iinc 3 7, 3))) rfl) hl rfl ?_ (by decide) rfl (fun ls hl => ?_)
        · show nI (7 * k) + nI 7 = nI (7 * (k + 1))
          rw [nI_add]; rfl
        · refine lv_goto (tgt := 18) hx hb (z_ldc z_lc0_ok 23 (q := (1806, (.goto (-1788), 3))) rfl) (by decide) ?_
          exact ih (k + 1) M2 H1 locs1 ls (by omega) (by omega) hI2 Cf2 (lv_sub hl [1, 2, 3, 0] rfl)
      have hti : (nI op).toInt = (op : Int) := nI_toInt (by omega)
      by_cases h46 : op ≤ 46
      · have tin : ∀ (off : Int) (tgt : Nat), (#[203, 266, 289, 332, 355, 378, 401, 424, 457, 480, 513, 546, 579, 612, 655, 678, 701, 724, 738, 761, 784, 807, 861, 937, 1000, 1053, 1076, 1129, 1152, 1175, 1208, 1231, 1254, 1297, 1340, 1383, 1416, 1469, 1502, 1535, 1578, 1601, 1644, 1688, 1701, 1714, 1747] : Array Int)[op]? = some off → ((33 : Nat) : Int) + off = (tgt : Int) → W p l e room_1 s m #[Value.ref b] below meth c H locs CC SS (lw_Z below #[Value.ref b] s) (F0 m tgt ls []) → W p l e room_1 s m #[Value.ref b] below meth c H locs CC SS (lw_Z below #[Value.ref b] s) (F0 m 33 ls [.int (nI op)]) := by
          intro off tgt ho ht hw
          exact lv_tableIn hx hb (z_ldc z_lc0_ok 21 (q := (33, (.tableswitch 1770 0 46 #[203, 266, 289, 332, 355, 378, 401, 424, 457, 480, 513, 546, 579, 612, 655, 678, 701, 724, 738, 761, 784, 807, 861, 937, 1000, 1053, 1076, 1129, 1152, 1175, 1208, 1231, 1254, 1297, 1340, 1383, 1416, 1469, 1502, 1535, 1578, 1601, 1644, 1688, 1701, 1714, 1747], 203))) rfl) (by omega) (by omega) (by rw [hti]; simpa using ho) ht hw
        match op, h46, hc, tin with

        | 0, _, hc, tin => exact tin 203 236 rfl (by decide) (lw_case0 F Cf hk hl hR hCC hc next)
        | 1, _, hc, tin => exact tin 266 299 rfl (by decide) (lw_case1 F Cf hk hl hR hCC hc next)
        | 2, _, hc, tin => exact tin 289 322 rfl (by decide) (lw_case2 F Cf hk hl hR hCC hc next)
        | 3, _, hc, tin => exact tin 332 365 rfl (by decide) (lw_case3 F Cf hk hl hR hCC hc next)
        | 4, _, hc, tin => exact tin 355 388 rfl (by decide) (lw_case4 F Cf hk hl hR hCC hc next)
        | 5, _, hc, tin => exact tin 378 411 rfl (by decide) (lw_case5 F Cf hk hl hR hCC hc next)
        | 6, _, hc, tin => exact tin 401 434 rfl (by decide) (lw_case6 F Cf hk hl hR hCC hc next)
        | 7, _, hc, tin => exact tin 424 457 rfl (by decide) (lw_case7 F Cf hk hl hR hCC hc next)
        | 8, _, hc, tin => exact tin 457 490 rfl (by decide) (lw_case8 F Cf hk hl hR hCC hc next)
        | 9, _, hc, tin => exact tin 480 513 rfl (by decide) (lw_case9 F Cf hk hl hR hCC hc next)
        | 10, _, hc, tin => exact tin 513 546 rfl (by decide) (lw_case10 F Cf hk hl hR hCC hc next)
        | 11, _, hc, tin => exact tin 546 579 rfl (by decide) (lw_case11 F Cf hk hl hR hCC hc next)
        | 12, _, hc, tin => exact tin 579 612 rfl (by decide) (lw_case12 F Cf hk hl hR hCC hc next)
        | 13, _, hc, tin => exact tin 612 645 rfl (by decide) (lw_case13 F Cf hk hl hR hCC hc next)
        | 14, _, hc, tin => exact tin 655 688 rfl (by decide) (lw_case14 F Cf hk hl hR hCC hc next)
        | 15, _, hc, tin => exact tin 678 711 rfl (by decide) (lw_case15 F Cf hk hl hR hCC hc next)
        | 16, _, hc, tin => exact tin 701 734 rfl (by decide) (lw_case16 F Cf hk hl hR hCC hc next)
        | 17, _, hc, tin => exact tin 724 757 rfl (by decide) (lw_case17 F Cf hk hl hR hCC hc next)
        | 18, _, hc, tin => exact tin 738 771 rfl (by decide) (lw_case18 F Cf hk hl hR hCC hc next)
        | 19, _, hc, tin => exact tin 761 794 rfl (by decide) (lw_case19 F Cf hk hl hR hCC hc next)
        | 20, _, hc, tin => exact tin 784 817 rfl (by decide) (lw_case20 F Cf hk hl hR hCC hc next)
        | 21, _, hc, tin => exact tin 807 840 rfl (by decide) (lw_case21 F Cf hk hl hR hCC hc next)
        | 22, _, hc, tin => exact tin 861 894 rfl (by decide) (lw_case22 F Cf hk hl hR hCC hc next)
        | 23, _, hc, tin => exact tin 937 970 rfl (by decide) (lw_case23 F Cf hk hl hR hCC hc next)
        | 24, _, hc, tin => exact tin 1000 1033 rfl (by decide) (lw_case24 F Cf hk hl hR hCC hc next)
        | 25, _, hc, tin => exact tin 1053 1086 rfl (by decide) (lw_case25 F Cf hk hl hR hCC hc next)
        | 26, _, hc, tin => exact tin 1076 1109 rfl (by decide) (lw_case26 F Cf hk hl hR hCC hc next)
        | 27, _, hc, tin => exact tin 1129 1162 rfl (by decide) (lw_case27 F Cf hk hl hR hCC hc next)
        | 28, _, hc, tin => exact tin 1152 1185 rfl (by decide) (lw_case28 F Cf hk hl hR hCC hc next)
        | 29, _, hc, tin => exact tin 1175 1208 rfl (by decide) (lw_case29 F Cf hk hl hR hCC hc next)
        | 30, _, hc, tin => exact tin 1208 1241 rfl (by decide) (lw_case30 F Cf hk hl hR hCC hc next)
        | 31, _, hc, tin => exact tin 1231 1264 rfl (by decide) (lw_case31 F Cf hk hl hR hCC hc next)
        | 32, _, hc, tin => exact tin 1254 1287 rfl (by decide) (lw_case32 F Cf hk hl hR hCC hc next)
        | 33, _, hc, tin => exact tin 1297 1330 rfl (by decide) (lw_case33 F Cf hk hl hR hCC hc next)
        | 34, _, hc, tin => exact tin 1340 1373 rfl (by decide) (lw_case34 F Cf hk hl hR hCC hc next)
        | 35, _, hc, tin => exact tin 1383 1416 rfl (by decide) (lw_case35 F Cf hk hl hR hCC hc next)
        | 36, _, hc, tin => exact tin 1416 1449 rfl (by decide) (lw_case36 F Cf hk hl hR hCC hc next)
        | 37, _, hc, tin => exact tin 1469 1502 rfl (by decide) (lw_case37 F Cf hk hl hR hCC hc next)
        | 38, _, hc, tin => exact tin 1502 1535 rfl (by decide) (lw_case38 F Cf hk hl hR hCC hc next)
        | 39, _, hc, tin => exact tin 1535 1568 rfl (by decide) (lw_case39 F Cf hk hl hR hCC hc next)
        | 40, _, hc, tin => exact tin 1578 1611 rfl (by decide) (lw_case40 F Cf hk hl hR hCC hc next)
        | 41, _, hc, tin => exact tin 1601 1634 rfl (by decide) (lw_case41 F Cf hk hl hR hCC hc next)
        | 42, _, hc, tin => exact tin 1644 1677 rfl (by decide) (lw_case42 F Cf hk hl hR hCC hc next)
        | 43, _, hc, tin => exact tin 1688 1721 rfl (by decide) (lw_case43 F Cf hk hl hR hCC hc next)
        | 44, _, hc, tin => exact tin 1701 1734 rfl (by decide) (lw_case44 F Cf hk hl hR hCC hc next)
        | 45, _, hc, tin => exact tin 1714 1747 rfl (by decide) (lw_case45 F Cf hk hl hR hCC hc next)
        | 46, _, hc, tin => exact tin 1747 1780 rfl (by decide) (lw_case46 F Cf hk hl hR hCC hc next)
        | op + 47, h46, _, _ => exact absurd h46 (by omega)
      · refine lv_tableOut (tgt := 1803) hx hb (z_ldc z_lc0_ok 21 (q := (33, (.tableswitch 1770 0 46 #[203, 266, 289, 332, 355, 378, 401, 424, 457, 480, 513, 546, 579, 612, 655, 678, 701, 724, 738, 761, 784, 807, 861, 937, 1000, 1053, 1076, 1129, 1152, 1175, 1208, 1231, 1254, 1297, 1340, 1383, 1416, 1469, 1502, 1535, 1578, 1601, 1644, 1688, 1701, 1714, 1747], 203))) rfl) (Or.inr (by omega)) (by decide) ?_
        have hc2 : Inv (k + 1) M := by
          match op, h46, hc with
          | op + 47, _, hc => exact hc
          | 0, h, _ => exact absurd (by omega) h
          | 1, h, _ => exact absurd (by omega) h
          | 2, h, _ => exact absurd (by omega) h
          | 3, h, _ => exact absurd (by omega) h
          | 4, h, _ => exact absurd (by omega) h
          | 5, h, _ => exact absurd (by omega) h
          | 6, h, _ => exact absurd (by omega) h
          | 7, h, _ => exact absurd (by omega) h
          | 8, h, _ => exact absurd (by omega) h
          | 9, h, _ => exact absurd (by omega) h
          | 10, h, _ => exact absurd (by omega) h
          | 11, h, _ => exact absurd (by omega) h
          | 12, h, _ => exact absurd (by omega) h
          | 13, h, _ => exact absurd (by omega) h
          | 14, h, _ => exact absurd (by omega) h
          | 15, h, _ => exact absurd (by omega) h
          | 16, h, _ => exact absurd (by omega) h
          | 17, h, _ => exact absurd (by omega) h
          | 18, h, _ => exact absurd (by omega) h
          | 19, h, _ => exact absurd (by omega) h
          | 20, h, _ => exact absurd (by omega) h
          | 21, h, _ => exact absurd (by omega) h
          | 22, h, _ => exact absurd (by omega) h
          | 23, h, _ => exact absurd (by omega) h
          | 24, h, _ => exact absurd (by omega) h
          | 25, h, _ => exact absurd (by omega) h
          | 26, h, _ => exact absurd (by omega) h
          | 27, h, _ => exact absurd (by omega) h
          | 28, h, _ => exact absurd (by omega) h
          | 29, h, _ => exact absurd (by omega) h
          | 30, h, _ => exact absurd (by omega) h
          | 31, h, _ => exact absurd (by omega) h
          | 32, h, _ => exact absurd (by omega) h
          | 33, h, _ => exact absurd (by omega) h
          | 34, h, _ => exact absurd (by omega) h
          | 35, h, _ => exact absurd (by omega) h
          | 36, h, _ => exact absurd (by omega) h
          | 37, h, _ => exact absurd (by omega) h
          | 38, h, _ => exact absurd (by omega) h
          | 39, h, _ => exact absurd (by omega) h
          | 40, h, _ => exact absurd (by omega) h
          | 41, h, _ => exact absurd (by omega) h
          | 42, h, _ => exact absurd (by omega) h
          | 43, h, _ => exact absurd (by omega) h
          | 44, h, _ => exact absurd (by omega) h
          | 45, h, _ => exact absurd (by omega) h
          | 46, h, _ => exact absurd (by omega) h
        exact next M H locs hc2 Cf
end LW2
