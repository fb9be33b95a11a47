/-! DAYS: the model's days -/
theorem zx_wN {x : Nat} (h : x < 1000000) : z_w (x : Int) = (x : Int) := z_w_id (by omega) (by omega)
section ZDA4
variable {S M : z_M} {Q : z_V → z_M → Prop}
theorem zx_pv01 (hI : z_IPeo S) {p v : Nat} (hp : p < 10) (hv : v < 3) : S 304067 (3 * (p : Int) + (v : Int)) = zv_b (zx_pv S p v) := by
  rcases hI.1 (3 * (p : Int) + (v : Int)) (by omega) (by omega) with h | h
  · unfold zx_pv; rw [h.1]; rfl
  · unfold zx_pv; rw [h.1]; rfl
theorem km_versionsOf (d : Nat) {p : Nat} (hS : z_sit S M) (hI : z_IPeo S) (hp : p < 10) (h : Q (z_I (zx_nv S p : Int)) M) : z_Cl 0 d 311 [z_R 13, z_I (p : Int)] M Q := by
  refine re_311 d ?_
  rw [← zx_cnt3 p] at h
  refine z_lpi (n := 3) (fun q => z_cnt (fun v => decide (S 304067 (3 * (p : Int) + (v : Int)) = 1)) q) (fun _ N => N = M) (fun N v q => z_G 0 d z_m311 4 [z_R 13, z_I (p : Int), z_I v, z_I q] [] N Q) M rfl (fun q N hq hN nx => ?_) (fun N hN => ?_)
  · subst hN
    have nx' := nx N rfl
    have cb := z_cnt_b (fun v => decide (S 304067 (3 * (p : Int) + (v : Int)) = 1)) q
    have e : z_cnt (fun v => decide (S 304067 (3 * (p : Int) + (v : Int)) = 1)) (q + 1) = z_cnt (fun v => decide (S 304067 (3 * (p : Int) + (v : Int)) = 1)) q + zv_b (zx_pv S p q) := rfl
    rw [e] at nx'
    refine rg_311_4 d ⟨fun c => absurd c (by omega), fun _ => ?_⟩
    rw [z_w_id (x := 3 * (p : Int)) (by omega) (by omega), z_w_id (x := 3 * (p : Int) + (q : Int)) (by omega) (by omega), z_fn hS 304067 rfl, zx_pv01 hI hp hq, z_wq (by omega), z_w_id (x := z_cnt (fun v => decide (S 304067 (3 * (p : Int) + (v : Int)) = 1)) q + 0) (by omega) (by omega), z_w_id (x := z_cnt (fun v => decide (S 304067 (3 * (p : Int) + (v : Int)) = 1)) q + 1) (by omega) (by omega)]
    refine ⟨by omega, by omega, fun c => ?_, fun c => ?_⟩
    · rw [zx_0ne c] at nx'; exact nx'
    · rw [zx_0eq c] at nx'; exact nx'
  · subst hN
    exact rg_311_4 d ⟨fun _ => h, fun c => absurd c (by decide)⟩
def zx_dm (S : z_M) : Nat → Nat
  | 0 => 2
  | p + 1 => if z_tl S (p : Int) ∧ zx_dm S p ≤ 1458 then zx_dm S p * zx_nv S p else zx_dm S p
theorem zx_nv_b (S : z_M) (p : Nat) : zx_nv S p ≤ 3 := by
  unfold zx_nv
  split <;> split <;> split <;> omega
theorem zx_dm_b : ∀ p, 1 ≤ zx_dm S p ∧ zx_dm S p ≤ 4374 ∧ (zx_dm S p = 2 * zx_P S p ∨ (1458 < zx_dm S p ∧ 729 < zx_P S p)) := by
  intro p
  induction p with
  | zero => exact ⟨by show 1 ≤ 2; omega, by show 2 ≤ 4374; omega, Or.inl rfl⟩
  | succ p ih =>
    obtain ⟨i0, i1, i2⟩ := ih
    have gb := zx_g_b S p
    have nb := zx_nv_b S p
    have mono := zx_P_mono S p
    have eP : zx_P S (p + 1) = zx_P S p * zx_g S p := rfl
    unfold zx_dm
    split
    · next c =>
      have eg : zx_g S p = zx_nv S p := by unfold zx_g; rw [if_pos c.1]
      rw [eg] at gb eP
      have h1 : zx_dm S p * zx_nv S p ≤ 1458 * 3 := Nat.mul_le_mul c.2 nb
      have h2 : 1 ≤ zx_dm S p * zx_nv S p := Nat.mul_pos (by omega) (by omega)
      refine ⟨h2, by omega, Or.inl ?_⟩
      rcases i2 with e | e
      · rw [eP, e, Nat.mul_assoc]
      · omega
    · next c =>
      refine ⟨i0, i1, ?_⟩
      rcases i2 with e | e
      · by_cases ht : z_tl S (p : Int)
        · have : ¬ zx_dm S p ≤ 1458 := fun z => c ⟨ht, z⟩
          exact Or.inr ⟨by omega, by omega⟩
        · have eg : zx_g S p = 1 := by unfold zx_g; rw [if_neg ht]
          rw [eg, Nat.mul_one] at eP
          exact Or.inl (by omega)
      · exact Or.inr ⟨e.1, by omega⟩
theorem km_countsDays (d : Nat) (hS : z_sit S M) (hI : z_IPeo S) (h1 : zx_R S ≤ 729 → Q z_U (z_up M 13 57 (2 * (zx_R S : Int)))) (h0 : 729 < zx_R S → ∀ x : Int, 1458 < x → Q z_U (z_up M 13 57 x)) : z_Cl 0 (d + 2) 312 [z_R 13] M Q := by
  refine re_312 (d + 1) ?_
  refine z_lpi (n := 10) (fun q => (zx_dm S q : Int)) (fun _ N => N = M) (fun N v q => z_G 0 (d + 2) z_m312 4 [z_R 13, z_I v, z_I q] [] N Q) M rfl (fun q N hq hN nx => ?_) (fun N hN => ?_)
  · subst hN
    have nx' := nx N rfl
    obtain ⟨b0, b1, _⟩ := zx_dm_b (S := S) q
    obtain ⟨c0, c1, _⟩ := zx_dm_b (S := S) (q + 1)
    have e : zx_dm S (q + 1) = if z_tl S (q : Int) ∧ zx_dm S q ≤ 1458 then zx_dm S q * zx_nv S q else zx_dm S q := rfl
    refine rg_312_4 (d + 1) ⟨fun c => absurd c (by omega), fun _ => km_isTold d hS hI (fun ht => z_y1 ⟨fun c => ?_, fun c => km_versionsOf (d + 1) hS hI (by omega) (z_viI ?_)⟩) (fun ht => z_n1 ?_)⟩
    · rw [e, if_neg (fun z => by omega)] at nx'
      rw [Int.mul_one, z_w_id (by omega) (by omega), z_wq (by omega)]; exact nx'
    · have e2 : zx_dm S (q + 1) = zx_dm S q * zx_nv S q := by rw [e, if_pos ⟨ht, by omega⟩]
      rw [e2] at c1 nx'
      rw [Int.natCast_mul] at nx'
      rw [z_wq (by omega), z_w_id (x := (zx_dm S q : Int) * (zx_nv S q : Int)) (by rw [← Int.natCast_mul]; omega) (by rw [← Int.natCast_mul]; omega)]; exact nx'
    · rw [e, if_neg (fun z => ht z.1)] at nx'
      rw [Int.mul_one, z_w_id (by omega) (by omega), z_wq (by omega)]; exact nx'
  · subst hN
    refine rg_312_4 (d + 1) ⟨fun _ => ?_, fun c => absurd c (by decide)⟩
    obtain ⟨b0, b1, b2⟩ := zx_dm_b (S := S) 10
    rw [zx_P10] at b2
    by_cases c : zx_R S ≤ 729
    · have e : (zx_dm S 10 : Int) = 2 * (zx_R S : Int) := by omega
      have := h1 c
      rw [← e] at this
      exact this
    · exact h0 (by omega) _ (by omega)
def zx_of (M N : z_M) : Prop := (∀ k, k ≠ 101098 → k ≠ 13 → N k = M k) ∧ (∀ j, j ≠ 59 → N 13 j = M 13 j)
def zx_vi (S N : z_M) (D : Nat) : Prop := N 13 59 = ((D % 2 : Nat) : Int) ∧ ∀ p : Nat, p < 10 → N 101098 (p : Int) = (zx_ver S p (D / 2) : Int)
theorem km_opensDay (d : Nat) {D : Nat} (hS : z_sit S M) (hI : z_IPeo S) (hD : D < 100000) (h : ∀ N : z_M, z_sit S N → zx_of M N → zx_vi S N D → Q z_U N) : z_Cl 0 (d + 2) 313 [z_R 13, z_I (D : Int)] M Q := by
  refine re_313 (d + 1) ?_
  have m2 : Int.tmod (D : Int) 2 = ((D % 2 : Nat) : Int) := rfl
  rw [zx_d2 (by omega), m2]
  clear m2
  have key : ∀ (k : Nat) (N : z_M), k ≤ 10 → z_sit S N → zx_of M N → N 13 59 = ((D % 2 : Nat) : Int) → (∀ p : Nat, p < 10 → k ≤ p → N 101098 (p : Int) = (zx_ver S p (D / 2) : Int)) → z_G 0 (d + 2) z_m313 14 [z_R 13, z_I (D : Int), z_I ((D / 2 / zx_U S (10 - k) : Nat) : Int), z_I ((k : Int) - 1), z_U, z_U] [] N Q := by
    intro k
    induction k with
    | zero => intro N _ hN hf hs hv; exact rg_313_14 (d + 1) ⟨fun _ => h N hN hf ⟨hs, fun p hp => hv p hp (by omega)⟩, fun c => absurd c (by omega)⟩
    | succ p ih =>
      intro N hp hN hf hs hv
      have ep : ((p + 1 : Nat) : Int) - 1 = (p : Int) := by omega
      have hU := zx_U_b S (9 - p)
      have gb := zx_g_b S p
      have eU : zx_U S (10 - p) = zx_g S p * zx_U S (9 - p) := by
        rw [show 10 - p = (9 - p) + 1 from by omega]
        show zx_g S (9 - (9 - p)) * _ = _
        rw [show 9 - (9 - p) = p from by omega]
      rw [ep, show 10 - (p + 1) = 9 - p from by omega]
      have hN1 := z_at_up hN 101098 (p : Int) 0 rfl rfl
      have hlt : D / 2 / zx_U S (9 - p) < 100000 := Nat.lt_of_le_of_lt (Nat.div_le_self _ _) (by omega)
      have wd : z_w ((p : Int) + -1) = (p : Int) - 1 := by rw [z_w_id (by omega) (by omega)]; omega
      -- the version is written last
      have fin : ∀ (N2 : z_M) (x : Int), z_sit S N2 → zx_of M N2 → N2 13 59 = ((D % 2 : Nat) : Int) → (∀ p' : Nat, p' < 10 → p + 1 ≤ p' → N2 101098 (p' : Int) = (zx_ver S p' (D / 2) : Int)) → x = (zx_ver S p (D / 2) : Int) → z_G 0 (d + 2) z_m313 14 [z_R 13, z_I (D : Int), z_I ((D / 2 / zx_U S (10 - p) : Nat) : Int), z_I ((p : Int) - 1), z_U, z_U] [] (z_up N2 101098 (p : Int) x) Q := by
        intro N2 x a b c e ex
        refine ih _ (by omega) (z_at_up a _ _ _ rfl rfl) ⟨fun k h1 h2 => by rw [z_up_ne h1]; exact b.1 k h1 h2, fun j hj => by rw [z_up_ne (by decide)]; exact b.2 j hj⟩ (by rw [z_up_ne (by decide)]; exact c) (fun p' h1 h2 => ?_)
        by_cases e1 : p' = p
        · rw [e1, z_up_eq, ex]
        · rw [z_up_nj (by omega)]; exact e p' h1 (by omega)
      have hf1 : zx_of M (z_up N 101098 (p : Int) 0) := ⟨fun k h1 h2 => by rw [z_up_ne h1]; exact hf.1 k h1 h2, fun j hj => by rw [z_up_ne (by decide)]; exact hf.2 j hj⟩
      have hs1 : (z_up N 101098 (p : Int) 0) 13 59 = ((D % 2 : Nat) : Int) := by rw [z_up_ne (by decide)]; exact hs
      have hv1 : ∀ p' : Nat, p' < 10 → p + 1 ≤ p' → (z_up N 101098 (p : Int) 0) 101098 (p' : Int) = (zx_ver S p' (D / 2) : Int) := fun p' h1 h2 => by rw [z_up_nj (by omega)]; exact hv p' h1 h2
      refine rg_313_14 (d + 1) ⟨fun c => absurd c (by omega), fun _ => ⟨by omega, by omega, km_isTold d hN1 hI (fun ht => z_y2 ?_) (fun ht => z_n2 ?_)⟩⟩
      · have eg : zx_g S p = zx_nv S p := by unfold zx_g; rw [if_pos ht]
        have pv0 := zx_pv0 ht
        refine km_versionsOf (d + 1) hN1 hI (by omega) (z_viI (z_nz_of (by omega) (km_versionsOf (d + 1) hN1 hI (by omega) (z_viI (z_nz_of (by omega) ?_)))))
        rw [← eg, zw_tmN]
        have ed : z_w (Int.tdiv ((D / 2 / zx_U S (9 - p) : Nat) : Int) (zx_g S p : Int)) = ((D / 2 / zx_U S (10 - p) : Nat) : Int) := by
          have : Int.tdiv ((D / 2 / zx_U S (9 - p) : Nat) : Int) (zx_g S p : Int) = ((D / 2 / zx_U S (9 - p) / zx_g S p : Nat) : Int) := rfl
          rw [this, eU, Nat.div_div_eq_div_mul, Nat.mul_comm (zx_U S (9 - p)), zx_wN (Nat.lt_of_le_of_lt (Nat.div_le_self _ _) (by omega))]
        rw [ed]
        have ev : zx_ver S p (D / 2) = zx_vn S p (D / 2 / zx_U S (9 - p) % zx_g S p) := by unfold zx_ver; rw [if_pos ht]
        have hm := Nat.mod_lt (D / 2 / zx_U S (9 - p)) (show zx_g S p > 0 from gb.1)
        generalize D / 2 / zx_U S (9 - p) % zx_g S p = m at *
        have pl : ∀ v : Nat, v < 3 → (z_up N 101098 (p : Int) 0) 304067 (3 * (p : Int) + (v : Int)) = zv_b (zx_pv S p v) := fun v hv => by rw [z_fn hN1 304067 rfl, zx_pv01 hI (by omega) hv]
        have p0 := pl 0 (by decide)
        have p1 := pl 1 (by decide)
        have p2 := pl 2 (by decide)
        rw [show 3 * (p : Int) + ((0 : Nat) : Int) = 3 * (p : Int) from by omega] at p0
        rw [show ((1 : Nat) : Int) = 1 from rfl] at p1
        rw [show ((2 : Nat) : Int) = 2 from rfl] at p2
        have fin2 := fun x hx => fin (z_up N 101098 (p : Int) 0) x hN1 hf1 hs1 hv1 hx
        generalize z_up N 101098 (p : Int) 0 = N1 at *
        have w3 : z_w (3 * (p : Int)) = 3 * (p : Int) := z_w_id (by omega) (by omega)
        have ix0 : z_w (z_w (3 * (p : Int)) + 0) = 3 * (p : Int) := by rw [w3, Int.add_zero, w3]
        have ix1 : z_w (z_w (3 * (p : Int)) + 1) = 3 * (p : Int) + 1 := by rw [w3, z_w_id (by omega) (by omega)]
        have ix2 : z_w (z_w (3 * (p : Int)) + 2) = 3 * (p : Int) + 2 := by rw [w3, z_w_id (by omega) (by omega)]
        have a01 : z_w (0 + 1) = 1 := by decide
        have a11 : z_w (1 + 1) = 2 := by decide
        have s11 : z_w (1 - 1) = 0 := by decide
        have s21 : z_w (2 - 1) = 1 := by decide
        have s00 : z_w (0 - 0) = 0 := by decide
        have at2 : zx_pv S p 2 = true → zx_vn S p m = 2 → z_G 0 (d + 2) z_m313 56 [z_R 13, z_I (D : Int), z_I ((D / 2 / zx_U S (10 - p) : Nat) : Int), z_I (p : Int), z_I 0, z_I 2] [] N1 Q := fun q2 e2 => by
          refine rg_313_56 (d + 1) ?_
          rw [ix2, p2, q2, wd]
          exact ⟨fun c => absurd c (by decide), fun _ => ⟨by omega, by omega, fun _ => ⟨by omega, by omega, fin2 2 (by rw [ev, e2]; rfl)⟩, fun c => absurd (show zv_b true = 0 from c) (by decide)⟩⟩
        have at1 : (zx_pv S p 1 = true → zx_vn S p m = 1) → (zx_pv S p 1 = false → zx_pv S p 2 = true ∧ zx_vn S p m = 2) → z_G 0 (d + 2) z_m313 56 [z_R 13, z_I (D : Int), z_I ((D / 2 / zx_U S (10 - p) : Nat) : Int), z_I (p : Int), z_I 0, z_I 1] [] N1 Q := fun q1 q2 => by
          refine rg_313_56 (d + 1) ?_
          rw [ix1, p1, wd, s00, a11]
          refine ⟨fun c => absurd c (by decide), fun _ => ⟨by omega, by omega, fun c => ⟨by omega, by omega, fin2 1 (by rw [ev, q1 (zx_0eq c)]; rfl)⟩, fun c => ⟨by omega, by omega, fun _ => ?_, fun c2 => absurd c c2⟩⟩⟩
          exact at2 (q2 (zx_0ne c)).1 (q2 (zx_0ne c)).2
        have at1k : zx_pv S p 1 = true → zx_pv S p 2 = true → zx_vn S p m = 2 → z_G 0 (d + 2) z_m313 56 [z_R 13, z_I (D : Int), z_I ((D / 2 / zx_U S (10 - p) : Nat) : Int), z_I (p : Int), z_I 1, z_I 1] [] N1 Q := fun q1 q2 e2 => by
          refine rg_313_56 (d + 1) ?_
          rw [ix1, p1, q1, a11, s11]
          exact ⟨fun _ => ⟨by omega, by omega, fun c => absurd (show zv_b true = 0 from c) (by decide), fun _ => at2 q2 e2⟩, fun c => absurd c (by decide)⟩
        unfold zx_nv at eg
        rw [if_pos pv0] at eg
        have vn0 : m = 0 → zx_vn S p m = 0 := fun e => by unfold zx_vn; rw [if_pos e]
        have vn1 : m = 1 → zx_pv S p 1 = true → zx_vn S p m = 1 := fun e q => by unfold zx_vn; rw [if_neg (by omega), if_pos ⟨e, q⟩]
        have vn2 : m ≠ 0 → ¬ (m = 1 ∧ zx_pv S p 1 = true) → zx_vn S p m = 2 := fun e q => by unfold zx_vn; rw [if_neg e, if_neg q]
        have : m = 0 ∨ m = 1 ∨ m = 2 := by omega
        rcases this with hm0 | hm0 | hm0
        · rw [hm0]
          refine rg_313_56 (d + 1) ?_
          rw [ix0, p0, pv0, wd]
          exact ⟨fun c => absurd c (by decide), fun _ => ⟨by omega, by omega, fun _ => ⟨by omega, by omega, fin2 0 (by rw [ev, vn0 hm0]; rfl)⟩, fun c => absurd (show zv_b true = 0 from c) (by decide)⟩⟩
        · rw [hm0]
          refine rg_313_56 (d + 1) ?_
          rw [show ((1 : Nat) : Int) = 1 from rfl, ix0, p0, pv0, a01, s11]
          refine ⟨fun _ => ⟨by omega, by omega, fun c => absurd (show zv_b true = 0 from c) (by decide), fun _ => at1 (fun q => vn1 hm0 q) (fun q => ⟨?_, vn2 (by omega) (fun z => by rw [q] at z; cases z.2)⟩)⟩, fun c => absurd c (by decide)⟩
          cases q2 : zx_pv S p 2 with
          | true => rfl
          | false => rw [q, q2] at eg; simp at eg; omega
        · rw [hm0]
          refine rg_313_56 (d + 1) ?_
          have q1 : zx_pv S p 1 = true := by
            cases q1 : zx_pv S p 1 with
            | true => rfl
            | false => rw [q1] at eg; cases q2 : zx_pv S p 2 <;> rw [q2] at eg <;> simp at eg <;> omega
          have q2 : zx_pv S p 2 = true := by
            cases q2 : zx_pv S p 2 with
            | true => rfl
            | false => rw [q1, q2] at eg; simp at eg; omega
          rw [show ((2 : Nat) : Int) = 2 from rfl, ix0, p0, pv0, a01, s21]
          exact ⟨fun _ => ⟨by omega, by omega, fun c => absurd (show zv_b true = 0 from c) (by decide), fun _ => at1k q1 q2 (vn2 (by omega) (fun z => by omega))⟩, fun c => absurd c (by decide)⟩
      · have eg : zx_g S p = 1 := by unfold zx_g; rw [if_neg ht]
        rw [eg, Nat.one_mul] at eU
        rw [wd]
        have := fin N 0 hN hf hs (fun p' h1 h2 => hv p' h1 h2) (by unfold zx_ver; rw [if_neg ht]; rfl)
        rw [eU] at this
        exact this
  have := key 10 (z_up M 13 59 ((D % 2 : Nat) : Int)) (by omega) (z_at_up hS _ _ _ rfl rfl) ⟨fun k _ h2 => z_up_ne h2, fun j hj => z_up_nj hj⟩ z_up_eq (fun p h1 h2 => by omega)
  have e1 : D / 2 / zx_U S (10 - 10) = D / 2 := Nat.div_one _
  rw [e1] at this
  exact this
end ZDA4
