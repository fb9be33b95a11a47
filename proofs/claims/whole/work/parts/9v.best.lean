/-! OPS: best, struck -/
theorem zx_lb_n {x j : Nat} (hj : j < 64) : zx_lb (x : Int) j = x.testBit j := by
  unfold zx_lb
  show (BitVec.ofInt 64 (x : Int)).getLsbD j = _
  rw [BitVec.ofInt_natCast, BitVec.getLsbD_ofNat, decide_eq_true hj, Bool.true_and]
theorem zx_lb_xor (a b : Int) (j : Nat) : zx_lb (z_xorl a b) j = (zx_lb a j ^^ zx_lb b j) := by
  unfold z_xorl zx_lb
  rw [Int64.ofInt_toInt, Int64.toBitVec_xor, BitVec.getLsbD_xor]
theorem zx_lb_m1 {j : Nat} (hj : j < 64) : zx_lb (-1) j = true := by
  have : ∀ b : Fin 64, zx_lb (-1) b.val = true := by decide +kernel
  exact this ⟨j, hj⟩
theorem zx_andl_eq {a b : Int} {n : Nat} (hn : n < 9223372036854775808) (h : ∀ j, j < 64 → (zx_lb a j && zx_lb b j) = n.testBit j) : z_andl a b = (n : Int) := by
  have e : (Int64.ofInt a &&& Int64.ofInt b) = Int64.ofInt (n : Int) := by
    apply Int64.toBitVec_inj.mp
    apply BitVec.eq_of_getLsbD_eq
    intro j hj
    rw [Int64.toBitVec_and, BitVec.getLsbD_and]
    have h1 := h j hj
    have h2 := zx_lb_n (x := n) hj
    unfold zx_lb at h1 h2
    rw [h1, h2]
  unfold z_andl
  rw [e]
  exact zx_ofBits64 (zx_toNat64 hn) hn
section ZBST
variable {S M : z_M} {Q : z_V → z_M → Prop}
def zx_bd (S : z_M) : Nat := (zx_bm S (2 * zx_R S)).2.1.toNat
theorem zx_bd_e (S : z_M) : (zx_bm S (2 * zx_R S)).2.1 = (zx_bd S : Int) ∧ zx_bd S < 2 * zx_R S := by
  have b := zx_bm_b S (2 * zx_R S)
  have R1 := zx_R1 S
  have := b.2.2.2 (by omega)
  unfold zx_bd
  omega
def zx_bst (S : z_M) (a : Int) : Int :=
  if ¬ ((0 ≤ a ∧ a ≤ 3) ∨ z_tl S (a - 10)) then -1 else if 729 < zx_R S then -3 else if z_tl S (a - 10) then (zx_ver S (a - 10).toNat (zx_bd S / 2) : Int)
  else if a = 0 then (zx_bm S (2 * zx_R S)).1 else if a = 1 then ((zx_bd S % 2 : Nat) : Int) else if a = 2 then (zx_bm S (2 * zx_R S)).2.2 else 2 * (zx_R S : Int)
theorem kc_less (d : Nat) {a b : Int} (ha : z_i32 a) (b0 : 0 ≤ b) (h1 : b ≤ a → Q (z_I (a - b)) M) (h0 : a < b → Q (z_I (-1)) M) : z_Cl 0 d 215 [z_I a, z_I b] M Q := by
  refine re_215 d ⟨fun c => ?_, h0⟩
  unfold z_i32 at ha
  rw [z_w_id (by omega) (by omega)]
  exact h1 c
theorem kc_best (d : Nat) {a : Int} (ha : z_i32 a) (hS : z_sit S M) (hI : z_IS S) (hR : z_IRep S) (h : ∀ N : z_M, z_sit S N → Q (z_I (zx_bst S a)) N) : z_Cl 0 (d + 7) 183 [z_R 1, z_I a] M Q := by
  have ha' := ha
  unfold z_i32 at ha'
  have D1 := zx_bd_e S
  unfold zx_bst at h
  -- behind the question who
  have jd : ∀ l2 : Int, (l2 = zv_b (decide (z_tl S (a - 10)))) → ((0 ≤ a ∧ a ≤ 3) ∨ z_tl S (a - 10)) → z_G 0 (d + 7) z_m183 29 [z_R 1, z_I a, z_I l2] [] M Q := by
    intro l2 e2 hc
    rw [if_neg (fun c => c hc)] at h
    refine rg_183_29 (d + 6) (kc_judge d hS hI hR (fun h7 N hN hd => z_y2 ?_) (fun h7 => z_n2 ?_))
    · have h' := h N hN
      rw [if_neg (by omega)] at h'
      obtain ⟨d6, dr, dh, dq, d7, d8, d9⟩ := hd
      refine ⟨fun c0 => ?_, fun c0 => ?_⟩
      · have nt : ¬ z_tl S (a - 10) := fun z => by rw [decide_eq_true z, c0] at e2; exact absurd e2 (by decide)
        rw [if_neg nt] at h'
        have a03 : 0 ≤ a ∧ a ≤ 3 := by rcases hc with c | c; exact c; exact absurd c nt
        refine ⟨fun c1 => ?_, fun c1 => ?_⟩
        · rw [if_neg c1] at h'
          refine ⟨fun c2 => ?_, fun c2 => ?_⟩
          · rw [if_neg c2] at h'
            refine ⟨fun c3 => re_0 (d + 6) (z_viI ?_), fun c3 => re_2 (d + 6) (z_viI ?_)⟩
            · rw [if_neg c3] at h'; rw [d6]; exact h'
            · rw [if_pos c3] at h'; rw [d9]; exact h'
          · rw [if_pos c2] at h'
            refine re_3 (d + 6) (z_viI ?_)
            rw [d8, D1.1]; exact h'
        · rw [if_pos c1] at h'
          refine re_1 (d + 6) (z_viI ?_)
          rw [d7]; exact h'
      · have ht : z_tl S (a - 10) := by
          by_cases z : z_tl S (a - 10)
          · exact z
          · rw [decide_eq_false z] at e2; exact absurd e2 c0
        rw [if_pos ht] at h'
        have ep : ((a - 10).toNat : Int) = a - 10 := Int.toNat_of_nonneg ht.1
        rw [z_w_id (x := a - 10) (by omega) (by omega)]
        refine re_4 (d + 5) ?_
        rw [d8, D1.1, zx_d2 (by omega), dr _ (by omega)]
        refine ⟨by omega, by omega, ?_⟩
        rw [← ep]
        exact kc_versionIn (d + 5) (by rw [ep]; exact ht) (z_viI (z_viI h'))
    · have h' := h M hS
      rw [if_pos h7] at h'; exact h'
  have no : ¬ ((0 ≤ a ∧ a ≤ 3) ∨ z_tl S (a - 10)) → Q (z_I (-1)) M := fun c => by
    have h' := h M hS
    rw [if_pos c] at h'; exact h'
  have two : ∀ l2 : Int, (l2 = zv_b (decide (z_tl S (a - 10)))) → ((a < 0 → z_G 0 (d + 6 + 1) z_m183 23 [z_R 1, z_I a, z_I l2] [] M Q) ∧ (0 ≤ a → ((a ≤ 3 → z_G 0 (d + 6 + 1) z_m183 29 [z_R 1, z_I a, z_I l2] [] M Q) ∧ (3 < a → z_G 0 (d + 6 + 1) z_m183 23 [z_R 1, z_I a, z_I l2] [] M Q)))) := by
    intro l2 e2
    have t3 : (a < 0 ∨ 3 < a) → z_G 0 (d + 6 + 1) z_m183 23 [z_R 1, z_I a, z_I l2] [] M Q := fun c => by
      refine rg_183_23 (d + 6) ⟨fun c0 => jd l2 e2 (Or.inr ?_), fun c0 => no (fun z => ?_)⟩
      · by_cases z : z_tl S (a - 10)
        · exact z
        · rw [decide_eq_false z] at e2; exact absurd e2 c0
      · rcases z with z | z
        · omega
        · rw [decide_eq_true z, c0] at e2; exact absurd e2 (by decide)
    exact ⟨fun c => t3 (Or.inl c), fun c => ⟨fun c2 => jd l2 e2 (Or.inl ⟨c, c2⟩), fun c2 => t3 (Or.inr c2)⟩⟩
  refine re_183 (d + 6) (kc_less (d + 6) ha (by decide) (fun c => z_viI ?_) (fun c => z_viI ?_))
  · exact kc_isTold (d + 5) hS hI.1 (fun ht => z_viI (two 1 (by rw [decide_eq_true ht]; rfl))) (fun ht => z_viI (two 0 (by rw [decide_eq_false ht]; rfl)))
  · exact kc_isTold (d + 5) hS hI.1 (fun ht => absurd ht.1 (by decide)) (fun ht => z_viI (two 0 (by rw [decide_eq_false (fun z => by have := z.1; omega)]; rfl)))
/-- as many as the best -/
theorem zx_alike (S : z_M) : ∀ q, (∀ D, D < q → zx_cd S D ≤ (zx_bm S q).1) ∧ (zx_bm S q).2.2 = z_cnt (fun D => decide (zx_cd S D = (zx_bm S q).1)) q := by
  intro q
  induction q with
  | zero => exact ⟨fun D hD => absurd hD (Nat.not_lt_zero D), rfl⟩
  | succ q ih =>
    obtain ⟨i1, i2⟩ := ih
    have eb : zx_bm S (q + 1) = if (zx_bm S q).1 < zx_cd S q then (zx_cd S q, (q : Int), 1) else if zx_cd S q = (zx_bm S q).1 then ((zx_bm S q).1, (zx_bm S q).2.1, (zx_bm S q).2.2 + 1) else zx_bm S q := rfl
    have ec : ∀ x : Int, z_cnt (fun D => decide (zx_cd S D = x)) (q + 1) = z_cnt (fun D => decide (zx_cd S D = x)) q + zv_b (decide (zx_cd S q = x)) := fun x => rfl
    by_cases c : (zx_bm S q).1 < zx_cd S q
    · rw [if_pos c] at eb
      rw [eb]
      dsimp only
      refine ⟨fun D hD => ?_, ?_⟩
      · by_cases e : D = q
        · rw [e]; omega
        · have := i1 D (by omega); omega
      · rw [ec, decide_eq_true rfl]
        have : z_cnt (fun D => decide (zx_cd S D = zx_cd S q)) q = 0 := by
          have e0 : ∀ m, z_cnt (fun _ => false) m = 0 := by
            intro m
            induction m with
            | zero => rfl
            | succ m ih => show z_cnt (fun _ => false) m + 0 = 0; omega
          rw [← e0 q]
          exact z_cnt_cg q (fun D hD => decide_eq_false (by have := i1 D hD; omega))
        rw [this]; rfl
    · rw [if_neg c] at eb
      by_cases c2 : zx_cd S q = (zx_bm S q).1
      · rw [if_pos c2] at eb
        rw [eb]
        dsimp only
        refine ⟨fun D hD => ?_, ?_⟩
        · by_cases e : D = q
          · rw [e]; omega
          · exact i1 D (by omega)
        · rw [ec, decide_eq_true c2, ← i2]; rfl
      · rw [if_neg c2] at eb
        rw [eb]
        refine ⟨fun D hD => ?_, ?_⟩
        · by_cases e : D = q
          · rw [e]; omega
          · exact i1 D (by omega)
        · rw [ec, decide_eq_false c2, ← i2]
          show _ = _ + 0
          omega
theorem km_asMany (d : Nat) {b : Int} {N2 : z_M} (h7 : zx_R S ≤ 729) (hd : zx_DM S N2) (e1 : M 13 57 = N2 13 57) (e2 : M 14581100 = N2 14581100) (e3 : M 13 62 = N2 13 62) (h : Q (z_I (zx_bm S (2 * zx_R S)).2.2) M) : z_Cl 0 d 317 [z_R 13] M Q := by
  obtain ⟨d1, d2, d3, d4, d5⟩ := hd
  rw [(zx_alike S (2 * zx_R S)).2] at h
  refine re_317 d ?_
  refine z_lpi (n := 2 * zx_R S) (fun q => z_cnt (fun D => decide (zx_cd S D = (zx_bm S (2 * zx_R S)).1)) q) (fun _ N => N = M) (fun N v q => z_G 0 d z_m317 4 [z_R 13, z_I v, z_I q] [] N Q) M rfl (fun q N hq hN nx => ?_) (fun N hN => ?_)
  · subst hN
    have nx' := nx N rfl
    have cb := z_cnt_b (fun D => decide (zx_cd S D = (zx_bm S (2 * zx_R S)).1)) q
    have e : z_cnt (fun D => decide (zx_cd S D = (zx_bm S (2 * zx_R S)).1)) (q + 1) = z_cnt (fun D => decide (zx_cd S D = (zx_bm S (2 * zx_R S)).1)) q + zv_b (decide (zx_cd S q = (zx_bm S (2 * zx_R S)).1)) := rfl
    rw [e] at nx'
    refine rg_317_4 d ⟨fun c => absurd c (by rw [e1, d1]; omega), fun _ => ⟨by omega, by omega, ?_⟩⟩
    rw [e2, e3, d3 q hq, d4, z_wq (by omega), z_w_id (x := z_cnt (fun D => decide (zx_cd S D = (zx_bm S (2 * zx_R S)).1)) q + 0) (by omega) (by omega), z_w_id (x := z_cnt (fun D => decide (zx_cd S D = (zx_bm S (2 * zx_R S)).1)) q + 1) (by omega) (by omega)]
    refine ⟨fun c => ?_, fun c => ?_⟩
    · rw [decide_eq_false c] at nx'; exact nx'
    · rw [decide_eq_true c] at nx'; exact nx'
  · subst hN
    exact rg_317_4 d ⟨fun _ => h, fun c => absurd c (by rw [e1, d1]; omega)⟩
theorem km_best (d : Nat) {a : Int} (ha : z_i32 a) (hS : z_sit S M) (hI : z_IS S) (hR : z_IRep S) (h : ∀ N : z_M, z_sit S N → Q (z_I (zx_bst S a)) N) : z_Cl 0 (d + 9) 318 [z_R 13, z_I a] M Q := by
  have ha' := ha
  unfold z_i32 at ha'
  have D1 := zx_bd_e S
  unfold zx_bst at h
  have D3 : zx_bd S < 2 * zx_R S := D1.2
  have no : ¬ ((0 ≤ a ∧ a ≤ 3) ∨ z_tl S (a - 10)) → Q (z_I (-1)) M := fun c => by
    have h' := h M hS
    rw [if_pos c] at h'; exact h'
  refine re_318 (d + 8) (km_lies (d + 8) (fun c0 c3 => z_y2 ?_) (fun c => z_n2 ?_))
  · have nt : ¬ z_tl S (a - 10) := fun z => by have := z.1; omega
    rw [if_neg (fun c => c (Or.inl ⟨c0, c3⟩))] at h
    refine km_laysDays d hS hI hR (fun h7 N hN hd => z_y2 ?_) (fun h7 N hN => z_n2 ?_)
    · rw [hd.2.2.2.2, D1.1]
      refine km_opensDay (d + 6) hN hI.1 (by omega) (fun N2 hN2 hf hv => ⟨⟨fun e => ?_, fun e => ?_, fun e => ?_, fun e => ?_, trivial⟩, fun c => by omega⟩)
      · have h' := h N2 hN2
        rw [if_neg (by omega), if_neg nt, if_pos e] at h'
        rw [hf.2 _ (by decide), hd.2.2.2.1]; exact h'
      · have h' := h N2 hN2
        rw [if_neg (by omega), if_neg nt, if_neg (by omega), if_pos e] at h'
        rw [hv.1]; exact h'
      · have h' := h N2 hN2
        rw [if_neg (by omega), if_neg nt, if_neg (by omega), if_neg (by omega), if_pos e] at h'
        exact km_asMany (b := 0) (d + 8) h7 hd (hf.2 _ (by decide)) (hf.1 _ (by decide) (by decide)) (hf.2 _ (by decide)) (z_viI h')
      · have h' := h N2 hN2
        rw [if_neg (by omega), if_neg nt, if_neg (by omega), if_neg (by omega), if_neg (by omega)] at h'
        rw [hf.2 _ (by decide), hd.1]; exact h'
    · have h' := h N hN
      rw [if_pos h7] at h'; exact h'
  · have wa : z_tl S (z_w (a - 10)) ↔ z_tl S (a - 10) := by
      by_cases c2 : -2147483648 ≤ a - 10
      · rw [z_w_id c2 (by omega)]
      · have : z_w (a - 10) = a - 10 + 4294967296 := by
          unfold z_w
          rw [Int.bmod_def]
          rw [if_pos (by omega)]
          omega
        rw [this]
        exact ⟨fun z => by have := z.2.1; omega, fun z => by have := z.1; omega⟩
    refine km_isTold (d + 7) hS hI.1 (fun ht => z_y2 ?_) (fun ht => z_n2 (no (fun z => ?_)))
    · have ht2 := wa.mp ht
      rw [if_neg (fun c => c (Or.inr ht2))] at h
      refine km_laysDays d hS hI hR (fun h7 N hN hd => z_y2 ?_) (fun h7 N hN => z_n2 ?_)
      · rw [hd.2.2.2.2, D1.1]
        have ep : ((a - 10).toNat : Int) = a - 10 := Int.toNat_of_nonneg ht2.1
        have p1 := ht2.1
        have p2 := ht2.2.1
        refine km_opensDay (d + 6) hN hI.1 (by omega) (fun N2 hN2 hf hv => ⟨⟨fun e => by omega, fun e => by omega, fun e => by omega, fun e => by omega, trivial⟩, fun c => ?_⟩)
        have h' := h N2 hN2
        rw [if_neg (by omega), if_pos ht2] at h'
        rw [z_w_id (x := a - 10) (by omega) (by omega), ← ep, hv.2 _ (by omega)]
        exact ⟨by omega, by omega, h'⟩
      · have h' := h N hN
        rw [if_pos h7] at h'; exact h'
    · rcases z with z | z
      · omega
      · exact ht (wa.mpr z)
def zx_stk (S : z_M) : Int := if 729 < zx_R S then -3 else (z_bs (zx_n S) (fun i => !zx_H S i (zx_bd S)) : Int)
theorem kc_struck (d : Nat) (hS : z_sit S M) (hI : z_IS S) (hR : z_IRep S) (h : ∀ N : z_M, z_sit S N → Q (z_J (zx_stk S)) N) : z_Cl 0 (d + 7) 184 [z_R 1] M Q := by
  have D1 := zx_bd_e S
  obtain ⟨en, n40⟩ := zx_nI hR
  unfold zx_stk at h
  refine re_184 (d + 6) (kc_judge d hS hI hR (fun h7 N hN hd => z_y1 ?_) (fun h7 => z_n1 ?_))
  · have h' := h N hN
    rw [if_neg (by omega)] at h'
    obtain ⟨d6, dr, dh, dq, d7, d8, d9⟩ := hd
    refine re_5 (d + 5) (re_89 (d + 5) ?_)
    rw [z_ff hN 7 5 rfl, hR.1, ← en, d8, D1.1, dh _ D1.2]
    refine z_viI ⟨by omega, by omega, z_vlJ ?_⟩
    have p2 : 2 ^ zx_n S ≤ 2 ^ 40 := Nat.pow_le_pow_right (by decide) n40
    have p3 : (2 : Nat) ^ 40 = 1099511627776 := by decide
    have p4 : 0 < 2 ^ zx_n S := Nat.two_pow_pos _
    have lt40 := zx_bsl_lt n40 (fun i => !zx_H S i (zx_bd S))
    have e : z_andl (z_wl (z_shll 1 (zx_n S : Int) - 1)) (z_xorl (z_bs (zx_n S) (fun i => zx_H S i (zx_bd S)) : Int) (-1)) = (z_bs (zx_n S) (fun i => !zx_H S i (zx_bd S)) : Int) := by
      refine zx_andl_eq (by omega) (fun j hj => ?_)
      rw [zx_shll1_n (by omega), z_wl_id (by omega) (by omega), show ((2 ^ zx_n S : Nat) : Int) - 1 = ((2 ^ zx_n S - 1 : Nat) : Int) from by omega, zx_lb_n hj, Nat.testBit_two_pow_sub_one, zx_lb_xor, zx_lb_n hj, zx_lb_m1 hj, z_bs_bit, z_bs_bit]
      cases decide (j < zx_n S) <;> cases zx_H S j (zx_bd S) <;> rfl
    rw [e]; exact h'
  · have h' := h M hS
    rw [if_pos h7] at h'; exact h'
theorem km_struck (d : Nat) (hS : z_sit S M) (hI : z_IS S) (hR : z_IRep S) (h : ∀ N : z_M, z_sit S N → Q (z_J (zx_stk S)) N) : z_Cl 0 (d + 9) 319 [z_R 13] M Q := by
  have D1 := zx_bd_e S
  have D3 := D1.2
  obtain ⟨en, n40⟩ := zx_nI hR
  unfold zx_stk at h
  refine re_319 (d + 8) (km_laysDays d hS hI hR (fun h7 N hN hd => z_y2 ?_) (fun h7 N hN => z_n2 ?_))
  · rw [hd.2.2.2.2, D1.1]
    refine km_opensDay (d + 6) hN hI.1 (by omega) (fun N2 hN2 hf hv => ?_)
    have hb := zx_hb_of hd.2.1 (hf.1 7204099 (by decide) (by decide))
    refine z_lpi (n := zx_n S) (fun q => (z_bs q (fun i => !zx_H S i (zx_bd S)) : Int)) (fun _ N => N = N2) (fun N v q => z_G 0 (d + 9) z_m319 23 [z_R 13, z_J v, z_U, z_I q] [] N Q) N2 rfl (fun q N3 hq hN3 nx => ?_) (fun N3 hN3 => ?_)
    · subst hN3
      have nx' := nx N3 rfl
      refine rg_319_23 (d + 8) ?_
      rw [z_ff hN2 13 49 rfl, ← en]
      refine ⟨fun c => absurd c (by omega), fun _ => km_isHeldIn (d + 8) hN2 hR hb hv hq (z_viI ⟨fun c => ?_, fun c => ?_⟩)⟩
      · have e := z_bs_no (n := q) (P := fun i => !zx_H S i (zx_bd S)) (by show (!zx_H S q (zx_bd S)) = false; rw [zx_0eq c]; rfl)
        rw [← e] at nx'
        rw [z_wq (by omega)]; exact nx'
      · rw [zx_bsl_or (P := fun i => !zx_H S i (zx_bd S)) (by omega) (by show (!zx_H S q (zx_bd S)) = true; rw [zx_0ne c]; rfl), z_wq (by omega)]; exact nx'
    · subst hN3
      have h' := h N3 hN2
      rw [if_neg (by omega)] at h'
      refine rg_319_23 (d + 8) ?_
      rw [z_ff hN2 13 49 rfl, ← en]
      exact ⟨fun _ => h', fun c => absurd c (by omega)⟩
  · have h' := h N hN
    rw [if_pos h7] at h'; exact h'
end ZBST
