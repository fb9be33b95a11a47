/-! UPDATES: undo -/
section ZUPB
variable {S M N : z_M} {Q : z_V → z_M → Prop}
def zy_uck (k : Nat) : Bool := k == 4 || k == 7 || k == 101023 || k == 2401035 || k == 101056 || k == 241058
def zy_unc (M N : z_M) : Prop := (∀ k, zy_uck k = false → N k = M k) ∧ (∀ j, j ≠ 9 → N 4 j = M 4 j) ∧ N 4 9 = M 4 10 ∧ (∀ j, j ≠ 5 → N 7 j = M 7 j) ∧ N 7 5 = M 7 7 ∧
  (∀ j : Int, 0 ≤ j → j < 10 → N 101023 j = M 101024 j) ∧ (∀ j : Int, 0 ≤ j → j < 240 → N 2401035 j = M 2401037 j) ∧ (∀ j : Int, 0 ≤ j → j < 10 → N 101056 j = M 101057 j) ∧ (∀ j : Int, 0 ≤ j → j < 24 → N 241058 j = M 241059 j)
theorem kc_undo (d : Nat) (hS : z_sit S M) (h1 : M 1 11 ≠ 0 → ∀ N : z_M, z_sit N N → zy_unc M N → Q (z_I 1) N) (h0 : M 1 11 = 0 → Q (z_I 0) M) : z_Cl 0 (d + 1) 211 [z_R 1] M Q := by
  refine re_211 d ⟨fun c => re_73 d ⟨by omega, by omega, by omega, by omega, by omega, re_96 d ⟨by omega, by omega, by omega, by omega, by omega, re_40 d ⟨by omega, by omega, by omega, by omega, by omega, by omega, by omega, by omega, by omega, by omega, ?_⟩⟩⟩, h0⟩
  refine h1 c _ (zz_self hS (fun k hk => ?_) ⟨rfl, rfl, rfl, rfl, rfl, rfl, rfl, rfl, rfl, rfl⟩) ⟨fun k hk => ?_, fun j hj => ?_, rfl, fun j hj => ?_, rfl, fun j a b => ?_, fun j a b => ?_, fun j a b => ?_, fun j a b => ?_⟩
  · have ne : ∀ c : Nat, z_cch c = false → k ≠ c := fun c hc2 e => by rw [e, hc2] at hk; cases hk
    rw [zy_cp_ne (ne _ rfl), zy_cp_ne (ne _ rfl), z_up_ne (ne _ rfl), zy_cp_ne (ne _ rfl), z_up_ne (ne _ rfl), zy_cp_ne (ne _ rfl)]
  · have ne : ∀ c : Nat, zy_uck c = true → k ≠ c := fun c hc2 e => by rw [e, hc2] at hk; cases hk
    rw [zy_cp_ne (ne _ rfl), zy_cp_ne (ne _ rfl), z_up_ne (ne _ rfl), zy_cp_ne (ne _ rfl), z_up_ne (ne _ rfl), zy_cp_ne (ne _ rfl)]
  · rw [zy_cp_ne (by decide), zy_cp_ne (by decide), z_up_ne (by decide), zy_cp_ne (by decide), z_up_nj hj, zy_cp_ne (by decide)]
  · rw [zy_cp_ne (by decide), zy_cp_ne (by decide), z_up_nj hj, zy_cp_ne (by decide), z_up_ne (by decide), zy_cp_ne (by decide)]
  · rw [zy_cp_ne (by decide), zy_cp_ne (by decide), z_up_ne (by decide), zy_cp_ne (by decide), z_up_ne (by decide), zy_cp_on a b]
  · rw [zy_cp_ne (by decide), zy_cp_ne (by decide), z_up_ne (by decide), zy_cp_on a b, z_up_ne (by decide), zy_cp_ne (by decide)]
  · rw [zy_cp_ne (by decide), zy_cp_on a b, z_up_ne (by decide), zy_cp_ne (by decide), z_up_ne (by decide), zy_cp_ne (by decide)]
  · rw [zy_cp_on a b, zy_cp_ne (by decide), z_up_ne (by decide), zy_cp_ne (by decide), z_up_ne (by decide), zy_cp_ne (by decide)]
def zy_umk (k : Nat) : Bool := k == 13 || k == 101091 || k == 101116 || k == 401092 || k == 401093 || k == 401094 || k == 401095 || k == 401096 || k == 401097 || k == 61120 || k == 64121 || k == 61122 || k == 61123 || k == 61124
def zy_unm (M N : z_M) : Prop := (∀ k, zy_umk k = false → N k = M k) ∧ (∀ j, j ≠ 48 → j ≠ 49 → N 13 j = M 13 j) ∧ N 13 48 = M 13 105 ∧ N 13 49 = M 13 106 ∧
  (∀ j : Int, 0 ≤ j → j < 10 → N 101091 j = M 101129 j ∧ N 101116 j = M 101130 j) ∧
  (∀ (i : Int) (c : Nat), 0 ≤ i → i < M 13 106 → c < 6 → N (zy_r6 c) i = M 2401131 (6 * i + (c : Int))) ∧
  (∀ (i : Int) (c : Nat), 0 ≤ i → i < 6 → c < 5 → N (zy_r5 c) i = M 301132 (5 * i + (c : Int)))
theorem km_undo (d : Nat) (hS : z_sit S M) (hk0 : M 13 100 ≠ 0 → (0 ≤ M 13 106 ∧ M 13 106 ≤ 40) ∧ (∀ i : Int, 0 ≤ i → i < 6 → M 301132 (5 * i + 1) = 0 ∨ M 301132 (5 * i + 1) = 1) ∧ (∀ p : Int, 0 ≤ p → p < 10 → 0 ≤ M 101129 p ∧ M 101129 p < 3 ∧ (M 101129 p = 0 ∨ M 304067 (3 * p + M 101129 p) = 1))) (h1 : M 13 100 ≠ 0 → ∀ N : z_M, z_sit N N → zy_unm M N → Q (z_I 1) N) (h0 : M 13 100 = 0 → Q (z_I 0) M) : z_Cl 0 d 382 [z_R 13] M Q := by
  refine re_382 d ⟨fun ck => ?_, h0⟩
  obtain ⟨⟨r0, r1⟩, hb, hv⟩ := hk0 ck
  have h := h1 ck
  clear h1 h0 hk0
  refine z_lpi (n := 10) (fun _ => ()) (fun q N => (∀ k, k ≠ 101091 → k ≠ 101116 → N k = M k) ∧ ∀ j : Int, 0 ≤ j → j < (q : Int) → N 101091 j = M 101129 j ∧ N 101116 j = M 101130 j) (fun N _ q => z_G 0 d z_m382 11 [z_R 13, z_I q] [] N Q) M ⟨fun _ _ _ => rfl, fun j a b => absurd b (by omega)⟩ (fun q N hq hN nx => ?_) (fun N hN => ?_)
  · obtain ⟨n1, n3⟩ := hN
    obtain ⟨v0, v1, v2⟩ := hv (q : Int) (by omega) (by omega)
    have cont : ∀ s0 : Int, s0 = M 101129 (q : Int) → z_G 0 d z_m382 50 [z_R 13, z_I (q : Int)] [z_I s0, z_I (q : Int), z_R 101091] N Q := by
      intro s0 es
      refine rg_382_50 d ⟨by omega, by omega, by omega, by omega, by omega, by omega, ?_⟩
      rw [z_wq (by omega)]
      refine nx _ ⟨fun k a b => ?_, fun j a b => ?_⟩
      · rw [z_up_ne b, z_up_ne a]; exact n1 k a b
      · by_cases c : j = (q : Int)
        · subst c
          refine ⟨?_, ?_⟩
          · rw [z_up_ne (by decide), z_up_eq]; exact es
          · rw [z_up_eq, z_up_ne (by decide), n1 _ (by decide) (by decide)]
        · obtain ⟨a1, a2⟩ := n3 j a (by omega)
          refine ⟨?_, ?_⟩
          · rw [z_up_ne (by decide), z_up_nj c]; exact a1
          · rw [z_up_nj c, z_up_ne (by decide)]; exact a2
    refine rg_382_11 d ⟨fun c => absurd c (by omega), fun _ => ?_⟩
    rw [n1 101129 (by decide) (by decide), n1 304067 (by decide) (by decide), z_w_id (x := 3 * (q : Int)) (by omega) (by omega), z_w_id (x := 3 * (q : Int) + M 101129 (q : Int)) (by omega) (by omega)]
    refine ⟨by omega, by omega, by omega, by omega, fun c => cont 0 ?_, fun c => ⟨by omega, by omega, cont _ rfl⟩⟩
    rcases v2 with v2 | v2
    · exact v2.symm
    · omega
  obtain ⟨n1, n3⟩ := hN
  refine rg_382_11 d ⟨fun _ => ?_, fun c => absurd c (by decide)⟩
  have e105 : N 13 105 = M 13 105 := by rw [n1 _ (by decide) (by decide)]
  have e106 : (z_up N 13 48 (N 13 105)) 13 106 = M 13 106 := by rw [z_up_nj (by decide), n1 _ (by decide) (by decide)]
  rw [e106, e105]
  have b1 : ∀ k, zy_umk k = false → (z_up (z_up N 13 48 (M 13 105)) 13 49 (M 13 106)) k = M k := fun k hk => by
    have ne : ∀ c : Nat, zy_umk c = true → k ≠ c := fun c hc2 e => by rw [e, hc2] at hk; cases hk
    rw [z_up_ne (ne _ rfl), z_up_ne (ne _ rfl)]; exact n1 k (ne _ rfl) (ne _ rfl)
  have b2 : (z_up (z_up N 13 48 (M 13 105)) 13 49 (M 13 106)) 13 = fun j => if j = 49 then M 13 106 else if j = 48 then M 13 105 else M 13 j := by
    funext j
    unfold z_up
    rw [if_pos rfl, if_pos rfl, n1 _ (by decide) (by decide)]
  have b3 : ∀ j : Int, 0 ≤ j → j < 10 → (z_up (z_up N 13 48 (M 13 105)) 13 49 (M 13 106)) 101091 j = M 101129 j ∧ (z_up (z_up N 13 48 (M 13 105)) 13 49 (M 13 106)) 101116 j = M 101130 j := fun j a b => by
    rw [z_up_ne (by decide), z_up_ne (by decide), z_up_ne (by decide), z_up_ne (by decide)]
    exact n3 j a b
  generalize z_up (z_up N 13 48 (M 13 105)) 13 49 (M 13 106) = L at b1 b2 b3
  have hm : ((M 13 106).toNat : Int) = M 13 106 := by omega
  have f49 : L 13 49 = M 13 106 := by rw [b2]; rfl
  have last : ∀ N : z_M, (∀ k, k ≠ 401092 → k ≠ 401093 → k ≠ 401094 → k ≠ 401095 → k ≠ 401096 → k ≠ 401097 → N k = L k) → (∀ (i : Int) (c : Nat), 0 ≤ i → i < M 13 106 → c < 6 → N (zy_r6 c) i = M 2401131 (6 * i + (c : Int))) → z_G 0 d z_m382 203 [z_R 13, z_I 0] [] N Q := by
    intro N0 p1 p2
    refine z_lpi (n := 6) (fun _ => ()) (fun q N => (∀ k, k ≠ 61120 → k ≠ 64121 → k ≠ 61122 → k ≠ 61123 → k ≠ 61124 → N k = N0 k) ∧ ∀ (i : Int) (c : Nat), 0 ≤ i → i < (q : Int) → c < 5 → N (zy_r5 c) i = M 301132 (5 * i + (c : Int))) (fun N _ q => z_G 0 d z_m382 203 [z_R 13, z_I q] [] N Q) N0 ⟨fun _ _ _ _ _ _ => rfl, fun i c a b => absurd b (by omega)⟩ (fun q N hq hN nx => ?_) (fun N hN => ?_)
    · obtain ⟨g1, g2⟩ := hN
      have eT : N 301132 = M 301132 := by rw [g1 _ (by decide) (by decide) (by decide) (by decide) (by decide), p1 _ (by decide) (by decide) (by decide) (by decide) (by decide) (by decide)]; exact b1 _ rfl
      have hq6 := hb (q : Int) (by omega) (by omega)
      have cont : ∀ (s0 : Int), s0 = M 301132 (5 * (q : Int) + 1) → z_G 0 d z_m382 247 [z_R 13, z_I (q : Int)] [z_I s0, z_I (q : Int), z_R 64121] (z_up N 61120 (q : Int) (N 301132 (5 * (q : Int)))) Q := by
        intro s0 es
        refine rg_382_247 d ?_
        rw [z_w_id (x := 5 * (q : Int)) (by omega) (by omega), z_w_id (x := 5 * (q : Int) + 2) (by omega) (by omega), z_w_id (x := 5 * (q : Int) + 3) (by omega) (by omega), z_w_id (x := 5 * (q : Int) + 4) (by omega) (by omega), z_wq (by omega)]
        refine ⟨by omega, by omega, z_bl_of (by omega) ⟨by omega, by omega, by omega, by omega, by omega, by omega, by omega, by omega, by omega, by omega, by omega, by omega, nx _ ⟨fun k k1 k2 k3 k4 k5 => ?_, fun i c a b c5 => ?_⟩⟩⟩
        · rw [z_up_ne k5, z_up_ne k4, z_up_ne k3, z_up_ne k2, z_up_ne k1]; exact g1 k k1 k2 k3 k4 k5
        · have hc : c = 0 ∨ c = 1 ∨ c = 2 ∨ c = 3 ∨ c = 4 := by omega
          by_cases ci : i = (q : Int)
          · subst ci
            rcases hc with rfl | rfl | rfl | rfl | rfl
            · show (_ : z_M) 61120 _ = _
              rw [z_up_ne (by decide), z_up_ne (by decide), z_up_ne (by decide), z_up_ne (by decide), z_up_eq, eT, show 5 * (q : Int) + ((0 : Nat) : Int) = 5 * (q : Int) from by omega]
            · show (_ : z_M) 64121 _ = _
              rw [z_up_ne (by decide), z_up_ne (by decide), z_up_ne (by decide), z_up_eq]; exact es
            · show (_ : z_M) 61122 _ = _
              rw [z_up_ne (by decide), z_up_ne (by decide), z_up_eq, z_up_ne (by decide), z_up_ne (by decide), eT]; rfl
            · show (_ : z_M) 61123 _ = _
              rw [z_up_ne (by decide), z_up_eq, z_up_ne (by decide), z_up_ne (by decide), z_up_ne (by decide), eT]; rfl
            · show (_ : z_M) 61124 _ = _
              rw [z_up_eq, z_up_ne (by decide), z_up_ne (by decide), z_up_ne (by decide), z_up_ne (by decide), eT]; rfl
          · have g := g2 i c a (by omega) c5
            rw [← g]
            rcases hc with rfl | rfl | rfl | rfl | rfl
            · show (_ : z_M) 61120 _ = N 61120 _
              rw [z_up_ne (by decide), z_up_ne (by decide), z_up_ne (by decide), z_up_ne (by decide), z_up_nj ci]
            · show (_ : z_M) 64121 _ = N 64121 _
              rw [z_up_ne (by decide), z_up_ne (by decide), z_up_ne (by decide), z_up_nj ci, z_up_ne (by decide)]
            · show (_ : z_M) 61122 _ = N 61122 _
              rw [z_up_ne (by decide), z_up_ne (by decide), z_up_nj ci, z_up_ne (by decide), z_up_ne (by decide)]
            · show (_ : z_M) 61123 _ = N 61123 _
              rw [z_up_ne (by decide), z_up_nj ci, z_up_ne (by decide), z_up_ne (by decide), z_up_ne (by decide)]
            · show (_ : z_M) 61124 _ = N 61124 _
              rw [z_up_nj ci, z_up_ne (by decide), z_up_ne (by decide), z_up_ne (by decide), z_up_ne (by decide)]
      have e1 : (z_up N 61120 (q : Int) (N 301132 (5 * (q : Int)))) 301132 (5 * (q : Int) + 1) = M 301132 (5 * (q : Int) + 1) := by rw [z_up_ne (by decide), eT]
      refine rg_382_203 d ⟨fun c => absurd c (by omega), fun _ => ?_⟩
      rw [z_w_id (x := 5 * (q : Int)) (by omega) (by omega), z_w_id (x := 5 * (q : Int) + 1) (by omega) (by omega), e1]
      exact ⟨by omega, by omega, by omega, by omega, by omega, by omega, fun c => cont 0 (by omega), fun c => cont 1 c.symm⟩
    · obtain ⟨g1, g2⟩ := hN
      refine rg_382_203 d ⟨fun _ => ?_, fun c => absurd c (by decide)⟩
      have ge : ∀ k, zy_umk k = false → N k = M k := fun k hk => by
        have ne : ∀ c : Nat, zy_umk c = true → k ≠ c := fun c hc2 e => by rw [e, hc2] at hk; cases hk
        rw [g1 k (ne _ rfl) (ne _ rfl) (ne _ rfl) (ne _ rfl) (ne _ rfl), p1 k (ne _ rfl) (ne _ rfl) (ne _ rfl) (ne _ rfl) (ne _ rfl) (ne _ rfl)]; exact b1 k hk
      have g13 : N 13 = L 13 := by rw [g1 13 (by decide) (by decide) (by decide) (by decide) (by decide), p1 13 (by decide) (by decide) (by decide) (by decide) (by decide) (by decide)]
      have gL : ∀ k, (zy_umk k = false ∨ k = 101091 ∨ k = 101116) → N k = L k := fun k hk => by
        rcases hk with hk | rfl | rfl
        · rw [ge k hk, b1 k hk]
        · rw [g1 _ (by decide) (by decide) (by decide) (by decide) (by decide), p1 _ (by decide) (by decide) (by decide) (by decide) (by decide) (by decide)]
        · rw [g1 _ (by decide) (by decide) (by decide) (by decide) (by decide), p1 _ (by decide) (by decide) (by decide) (by decide) (by decide) (by decide)]
      refine h N (zz_self hS (fun k hk => ge k ?_) ⟨by rw [g13, b2]; rfl, ge _ rfl, ge _ rfl, ge _ rfl, ge _ rfl, ge _ rfl, ge _ rfl, ge _ rfl, ge _ rfl, ge _ rfl⟩) ⟨ge, fun j j1 j2 => ?_, by rw [g13, b2]; rfl, by rw [g13, b2]; rfl, fun j a b => ?_, fun i c a b c6 => ?_, g2⟩
      · unfold z_cch at hk
        simp only [Bool.or_eq_true, beq_iff_eq] at hk
        rcases hk with ((e | e) | e) | e <;> rw [e] <;> rfl
      · rw [g13, b2]
        show (if j = 49 then _ else if j = 48 then _ else _) = _
        rw [if_neg j2, if_neg j1]
      · rw [gL _ (Or.inr (Or.inl rfl)), gL _ (Or.inr (Or.inr rfl))]; exact b3 j a b
      · rw [← p2 i c a b c6]
        have hc : c = 0 ∨ c = 1 ∨ c = 2 ∨ c = 3 ∨ c = 4 ∨ c = 5 := by omega
        rcases hc with rfl | rfl | rfl | rfl | rfl | rfl
        all_goals exact congrFun (g1 _ (by decide) (by decide) (by decide) (by decide) (by decide)) i
  refine z_lpi (n := (M 13 106).toNat) (fun _ => ()) (fun q N => (∀ k, k ≠ 401092 → k ≠ 401093 → k ≠ 401094 → k ≠ 401095 → k ≠ 401096 → k ≠ 401097 → N k = L k) ∧ ∀ (i : Int) (c : Nat), 0 ≤ i → i < (q : Int) → c < 6 → N (zy_r6 c) i = M 2401131 (6 * i + (c : Int))) (fun N _ q => z_G 0 d z_m382 87 [z_R 13, z_I q] [] N Q) L ⟨fun _ _ _ _ _ _ _ => rfl, fun i c a b => absurd b (by omega)⟩ (fun q N hq hN nx => ?_) (fun N hN => ?_)
  · obtain ⟨g1, g2⟩ := hN
    have eR : N 2401131 = M 2401131 := by rw [g1 _ (by decide) (by decide) (by decide) (by decide) (by decide) (by decide)]; exact b1 _ rfl
    refine rg_382_87 d ⟨fun c => ?_, fun _ => ?_⟩
    · rw [g1 13 (by decide) (by decide) (by decide) (by decide) (by decide) (by decide), f49] at c; exact absurd c (by omega)
    rw [z_w_id (x := 6 * (q : Int)) (by omega) (by omega), z_w_id (x := 6 * (q : Int) + 1) (by omega) (by omega), z_w_id (x := 6 * (q : Int) + 2) (by omega) (by omega), z_w_id (x := 6 * (q : Int) + 3) (by omega) (by omega), z_w_id (x := 6 * (q : Int) + 4) (by omega) (by omega), z_w_id (x := 6 * (q : Int) + 5) (by omega) (by omega), z_wq (by omega)]
    refine ⟨by omega, by omega, by omega, by omega, by omega, by omega, by omega, by omega, by omega, by omega, by omega, by omega, by omega, by omega, by omega, by omega, by omega, by omega, by omega, by omega, by omega, by omega, by omega, by omega, nx _ ⟨fun k k1 k2 k3 k4 k5 k6 => ?_, fun i c a b c6 => ?_⟩⟩
    · rw [z_up_ne k6, z_up_ne k5, z_up_ne k4, z_up_ne k3, z_up_ne k2, z_up_ne k1]; exact g1 k k1 k2 k3 k4 k5 k6
    · have hc : c = 0 ∨ c = 1 ∨ c = 2 ∨ c = 3 ∨ c = 4 ∨ c = 5 := by omega
      by_cases ci : i = (q : Int)
      · subst ci
        rcases hc with rfl | rfl | rfl | rfl | rfl | rfl
        · show (_ : z_M) 401092 _ = _
          rw [z_up_ne (by decide), z_up_ne (by decide), z_up_ne (by decide), z_up_ne (by decide), z_up_ne (by decide), z_up_eq, eR, show 6 * (q : Int) + ((0 : Nat) : Int) = 6 * (q : Int) from by omega]
        · show (_ : z_M) 401093 _ = _
          rw [z_up_ne (by decide), z_up_ne (by decide), z_up_ne (by decide), z_up_ne (by decide), z_up_eq, z_up_ne (by decide), eR]; rfl
        · show (_ : z_M) 401094 _ = _
          rw [z_up_ne (by decide), z_up_ne (by decide), z_up_ne (by decide), z_up_eq, z_up_ne (by decide), z_up_ne (by decide), eR]; rfl
        · show (_ : z_M) 401095 _ = _
          rw [z_up_ne (by decide), z_up_ne (by decide), z_up_eq, z_up_ne (by decide), z_up_ne (by decide), z_up_ne (by decide), eR]; rfl
        · show (_ : z_M) 401096 _ = _
          rw [z_up_ne (by decide), z_up_eq, z_up_ne (by decide), z_up_ne (by decide), z_up_ne (by decide), z_up_ne (by decide), eR]; rfl
        · show (_ : z_M) 401097 _ = _
          rw [z_up_eq, z_up_ne (by decide), z_up_ne (by decide), z_up_ne (by decide), z_up_ne (by decide), z_up_ne (by decide), eR]; rfl
      · have g := g2 i c a (by omega) c6
        rw [← g]
        rcases hc with rfl | rfl | rfl | rfl | rfl | rfl
        · show (_ : z_M) 401092 _ = N 401092 _
          rw [z_up_ne (by decide), z_up_ne (by decide), z_up_ne (by decide), z_up_ne (by decide), z_up_ne (by decide), z_up_nj ci]
        · show (_ : z_M) 401093 _ = N 401093 _
          rw [z_up_ne (by decide), z_up_ne (by decide), z_up_ne (by decide), z_up_ne (by decide), z_up_nj ci, z_up_ne (by decide)]
        · show (_ : z_M) 401094 _ = N 401094 _
          rw [z_up_ne (by decide), z_up_ne (by decide), z_up_ne (by decide), z_up_nj ci, z_up_ne (by decide), z_up_ne (by decide)]
        · show (_ : z_M) 401095 _ = N 401095 _
          rw [z_up_ne (by decide), z_up_ne (by decide), z_up_nj ci, z_up_ne (by decide), z_up_ne (by decide), z_up_ne (by decide)]
        · show (_ : z_M) 401096 _ = N 401096 _
          rw [z_up_ne (by decide), z_up_nj ci, z_up_ne (by decide), z_up_ne (by decide), z_up_ne (by decide), z_up_ne (by decide)]
        · show (_ : z_M) 401097 _ = N 401097 _
          rw [z_up_nj ci, z_up_ne (by decide), z_up_ne (by decide), z_up_ne (by decide), z_up_ne (by decide), z_up_ne (by decide)]
  · obtain ⟨g1, g2⟩ := hN
    refine rg_382_87 d ⟨fun _ => last N g1 (fun i c a b c6 => g2 i c a (by omega) c6), fun c => ?_⟩
    rw [g1 13 (by decide) (by decide) (by decide) (by decide) (by decide) (by decide), f49] at c; exact absurd c (by omega)
end ZUPB
