/-! UPDATES: a state of its own; keep -/
section ZUPA
variable {S M N : z_M} {Q : z_V → z_M → Prop}
theorem zy_ev_of (h : z_sit S M) : zy_ev S M := ⟨z_ff h _ _ rfl, z_fn h _ rfl, z_fn h _ rfl, z_fn h _ rfl, z_fn h _ rfl, z_fn h _ rfl, z_fn h _ rfl, z_fn h _ rfl, z_fn h _ rfl, z_fn h _ rfl⟩
/-- a memory is its own state -/
theorem zz_self (h : z_sit S M) (hc : ∀ k, z_cch k = true → N k = M k) (hv : zy_ev M N) : z_sit N N := by
  refine ⟨fun _ _ _ => rfl, ?_⟩
  have g := zy_ICa_v hv (zy_ICa_v (zy_ev_of h) h.2)
  unfold z_ICa at g ⊢
  rw [hc 28801031 rfl, hc 28801032 rfl, hc 28801033 rfl, hc 1921034 rfl]
  exact g
def zy_kck (k : Nat) : Bool := k == 1 || k == 4 || k == 7 || k == 101024 || k == 2401037 || k == 101057 || k == 241059
/-- kept by the class -/
def zy_kpc (M N : z_M) : Prop := (∀ k, zy_kck k = false → N k = M k) ∧ N 1 11 = 1 ∧ (∀ j, j ≠ 10 → N 4 j = M 4 j) ∧ N 4 10 = M 4 9 ∧ (∀ j, j ≠ 7 → N 7 j = M 7 j) ∧ N 7 7 = M 7 5 ∧
  (∀ j : Int, 0 ≤ j → j < 10 → N 101024 j = M 101023 j) ∧ (∀ j : Int, 0 ≤ j → j < 240 → N 2401037 j = M 2401035 j) ∧ (∀ j : Int, 0 ≤ j → j < 10 → N 101057 j = M 101056 j) ∧ (∀ j : Int, 0 ≤ j → j < 24 → N 241059 j = M 241058 j)
theorem zy_cp_on {a b : Nat} {n j : Int} (h0 : 0 ≤ j) (h1 : j < n) : z_cp M a 0 b 0 n b j = M a j := by
  unfold z_cp
  rw [if_pos rfl, if_pos (by omega), show (0 : Int) + (j - 0) = j from by omega]
theorem zy_cp_ne {a b k : Nat} {i j n : Int} (h : k ≠ b) : z_cp M a i b j n k = M k := funext fun q => z_cp_off h q
theorem kc_keep (d : Nat) (hS : z_sit S M) (h : ∀ N : z_M, z_sit N N → zy_kpc M N → Q (z_I (M 7 5)) N) : z_Cl 0 (d + 1) 210 [z_R 1] M Q := by
  refine re_210 d (re_72 d ⟨by omega, by omega, by omega, by omega, by omega, re_95 d ⟨by omega, by omega, by omega, by omega, by omega, re_39 d ⟨by omega, by omega, by omega, by omega, by omega, by omega, by omega, by omega, by omega, by omega, re_89 d (z_viI ?_)⟩⟩⟩)
  refine h _ (zz_self hS (fun k hk => ?_) ⟨rfl, rfl, rfl, rfl, rfl, rfl, rfl, rfl, rfl, rfl⟩) ⟨fun k hk => ?_, rfl, fun j hj => ?_, rfl, fun j hj => ?_, rfl, fun j a b => ?_, fun j a b => ?_, fun j a b => ?_, fun j a b => ?_⟩
  · have ne : ∀ c : Nat, z_cch c = false → k ≠ c := fun c hc2 e => by rw [e, hc2] at hk; cases hk
    rw [zy_cp_ne (ne _ rfl), zy_cp_ne (ne _ rfl), z_up_ne (ne _ rfl), zy_cp_ne (ne _ rfl), z_up_ne (ne _ rfl), zy_cp_ne (ne _ rfl), z_up_ne (ne _ rfl)]
  · have ne : ∀ c : Nat, zy_kck c = true → k ≠ c := fun c hc2 e => by rw [e, hc2] at hk; cases hk
    rw [zy_cp_ne (ne _ rfl), zy_cp_ne (ne _ rfl), z_up_ne (ne _ rfl), zy_cp_ne (ne _ rfl), z_up_ne (ne _ rfl), zy_cp_ne (ne _ rfl), z_up_ne (ne _ rfl)]
  · rw [zy_cp_ne (by decide), zy_cp_ne (by decide), z_up_ne (by decide), zy_cp_ne (by decide), z_up_nj hj, zy_cp_ne (by decide), z_up_ne (by decide)]
  · rw [zy_cp_ne (by decide), zy_cp_ne (by decide), z_up_nj hj, zy_cp_ne (by decide), z_up_ne (by decide), zy_cp_ne (by decide), z_up_ne (by decide)]
  · rw [zy_cp_ne (by decide), zy_cp_ne (by decide), z_up_ne (by decide), zy_cp_ne (by decide), z_up_ne (by decide), zy_cp_on a b, z_up_ne (by decide)]
  · rw [zy_cp_ne (by decide), zy_cp_ne (by decide), z_up_ne (by decide), zy_cp_on a b, z_up_ne (by decide), zy_cp_ne (by decide), z_up_ne (by decide)]
  · rw [zy_cp_ne (by decide), zy_cp_on a b, z_up_ne (by decide), zy_cp_ne (by decide), z_up_ne (by decide), zy_cp_ne (by decide), z_up_ne (by decide)]
  · rw [zy_cp_on a b, zy_cp_ne (by decide), z_up_ne (by decide), zy_cp_ne (by decide), z_up_ne (by decide), zy_cp_ne (by decide), z_up_ne (by decide)]
def zy_kmk (k : Nat) : Bool := k == 13 || k == 101129 || k == 101130 || k == 2401131 || k == 301132
/-- the six rows of the model's reports -/
def zy_r6 (c : Nat) : Nat := if c = 0 then 401092 else if c = 1 then 401093 else if c = 2 then 401094 else if c = 3 then 401095 else if c = 4 then 401096 else 401097
/-- the five of its things -/
def zy_r5 (c : Nat) : Nat := if c = 0 then 61120 else if c = 1 then 64121 else if c = 2 then 61122 else if c = 3 then 61123 else 61124
def zy_kpm (M N : z_M) : Prop := (∀ k, zy_kmk k = false → N k = M k) ∧ (∀ j, j ≠ 100 → j ≠ 105 → j ≠ 106 → N 13 j = M 13 j) ∧ N 13 100 = 1 ∧ N 13 105 = M 13 48 ∧ N 13 106 = M 13 49 ∧
  (∀ j : Int, 0 ≤ j → j < 10 → N 101129 j = M 101091 j ∧ N 101130 j = M 101116 j) ∧
  (∀ (i : Int) (c : Nat), 0 ≤ i → i < M 13 49 → c < 6 → N 2401131 (6 * i + (c : Int)) = M (zy_r6 c) i) ∧
  (∀ (i : Int) (c : Nat), 0 ≤ i → i < 6 → c < 5 → N 301132 (5 * i + (c : Int)) = M (zy_r5 c) i)
theorem km_keep (d : Nat) (hS : z_sit S M) (r0 : 0 ≤ M 13 49) (r1 : M 13 49 ≤ 40) (hb : ∀ i : Int, 0 ≤ i → i < 6 → M 64121 i = 0 ∨ M 64121 i = 1) (h : ∀ N : z_M, z_sit N N → zy_kpm M N → Q (z_I (M 13 49)) N) : z_Cl 0 d 381 [z_R 13] M Q := by
  refine re_381 d ?_
  refine z_lpi (n := 10) (fun _ => ()) (fun q N => (∀ k, zy_kmk k = false → N k = M k) ∧ N 13 = (z_up M 13 100 1) 13 ∧ ∀ j : Int, 0 ≤ j → j < (q : Int) → N 101129 j = M 101091 j ∧ N 101130 j = M 101116 j) (fun N _ q => z_G 0 d z_m381 7 [z_R 13, z_I q] [] N Q) (z_up M 13 100 1) ⟨fun k hk => z_up_ne (fun e => by rw [e] at hk; cases hk), rfl, fun j a b => absurd b (by omega)⟩ (fun q N hq hN nx => ?_) (fun N hN => ?_)
  · obtain ⟨n1, n2, n3⟩ := hN
    refine rg_381_7 d ⟨fun c => absurd c (by omega), fun _ => ⟨by omega, by omega, by omega, by omega, by omega, by omega, by omega, by omega, ?_⟩⟩
    rw [z_wq (by omega)]
    refine nx _ ⟨fun k hk => ?_, ?_, fun j a b => ?_⟩
    · have ne : ∀ c : Nat, zy_kmk c = true → k ≠ c := fun c hc2 e => by rw [e, hc2] at hk; cases hk
      rw [z_up_ne (ne _ rfl), z_up_ne (ne _ rfl)]; exact n1 k hk
    · rw [z_up_ne (by decide), z_up_ne (by decide)]; exact n2
    · by_cases c : j = (q : Int)
      · subst c
        refine ⟨?_, ?_⟩
        · rw [z_up_ne (by decide), z_up_eq, n1 _ rfl]
        · rw [z_up_eq, z_up_ne (by decide), n1 _ rfl]
      · obtain ⟨a1, a2⟩ := n3 j a (by omega)
        refine ⟨?_, ?_⟩
        · rw [z_up_ne (by decide), z_up_nj c]; exact a1
        · rw [z_up_nj c, z_up_ne (by decide)]; exact a2
  obtain ⟨n1, n2, n3⟩ := hN
  refine rg_381_7 d ⟨fun _ => ?_, fun c => absurd c (by decide)⟩
  have e48 : N 13 48 = M 13 48 := by rw [n2]; rfl
  have e49 : N 13 49 = M 13 49 := by rw [n2]; rfl
  have e49' : (z_up N 13 105 (N 13 48)) 13 49 = M 13 49 := by rw [z_up_nj (by decide)]; exact e49
  rw [e49', e48]
  have b1 : ∀ k, zy_kmk k = false → (z_up (z_up N 13 105 (M 13 48)) 13 106 (M 13 49)) k = M k := fun k hk => by
    have ne : k ≠ 13 := fun e => by rw [e] at hk; cases hk
    rw [z_up_ne ne, z_up_ne ne]; exact n1 k hk
  have b2 : (z_up (z_up N 13 105 (M 13 48)) 13 106 (M 13 49)) 13 = fun j => if j = 106 then M 13 49 else if j = 105 then M 13 48 else if j = 100 then 1 else M 13 j := by
    funext j
    unfold z_up
    rw [if_pos rfl, if_pos rfl, n2]
    unfold z_up
    rw [if_pos rfl]
  have b3 : ∀ j : Int, 0 ≤ j → j < 10 → (z_up (z_up N 13 105 (M 13 48)) 13 106 (M 13 49)) 101129 j = M 101091 j ∧ (z_up (z_up N 13 105 (M 13 48)) 13 106 (M 13 49)) 101130 j = M 101116 j := fun j a b => by
    rw [z_up_ne (by decide), z_up_ne (by decide), z_up_ne (by decide), z_up_ne (by decide)]
    exact n3 j a b
  generalize z_up (z_up N 13 105 (M 13 48)) 13 106 (M 13 49) = L at b1 b2 b3
  have hm : ((M 13 49).toNat : Int) = M 13 49 := by omega
  have f49 : L 13 49 = M 13 49 := by rw [b2]; rfl
  have last : ∀ N : z_M, (∀ k, k ≠ 2401131 → N k = L k) → (∀ (i : Int) (c : Nat), 0 ≤ i → i < M 13 49 → c < 6 → N 2401131 (6 * i + (c : Int)) = M (zy_r6 c) i) → z_G 0 d z_m381 177 [z_R 13, z_I 0] [] N Q := by
    intro N0 p1 p2
    refine z_lpi (n := 6) (fun _ => ()) (fun q N => (∀ k, k ≠ 301132 → N k = N0 k) ∧ ∀ (i : Int) (c : Nat), 0 ≤ i → i < (q : Int) → c < 5 → N 301132 (5 * i + (c : Int)) = M (zy_r5 c) i) (fun N _ q => z_G 0 d z_m381 177 [z_R 13, z_I q] [] N Q) N0 ⟨fun _ _ => rfl, fun i c a b => absurd b (by omega)⟩ (fun q N hq hN nx => ?_) (fun N hN => ?_)
    · obtain ⟨g1, g2⟩ := hN
      have old : ∀ k, zy_kmk k = false → N k = M k := fun k hk => by
        rw [g1 k (fun e => by rw [e] at hk; cases hk), p1 k (fun e => by rw [e] at hk; cases hk)]; exact b1 k hk
      have cont : ∀ (s0 : Int), s0 = M 64121 (q : Int) → z_G 0 d z_m381 220 [z_R 13, z_I (q : Int)] [z_I s0, z_I (5 * (q : Int) + 1), z_R 301132] (z_up N 301132 (5 * (q : Int)) (N 61120 (q : Int))) Q := by
        intro s0 es
        refine rg_381_220 d ?_
        rw [z_w_id (x := 5 * (q : Int)) (by omega) (by omega), z_w_id (x := 5 * (q : Int) + 2) (by omega) (by omega), z_w_id (x := 5 * (q : Int) + 3) (by omega) (by omega), z_w_id (x := 5 * (q : Int) + 4) (by omega) (by omega), z_wq (by omega)]
        refine ⟨by omega, by omega, by omega, by omega, by omega, by omega, by omega, by omega, by omega, by omega, by omega, by omega, by omega, by omega, nx _ ⟨fun k hk => ?_, fun i c a b c5 => ?_⟩⟩
        · rw [z_up_ne hk, z_up_ne hk, z_up_ne hk, z_up_ne hk, z_up_ne hk]; exact g1 k hk
        · have hc : c = 0 ∨ c = 1 ∨ c = 2 ∨ c = 3 ∨ c = 4 := by omega
          by_cases ci : i = (q : Int)
          · subst ci
            rcases hc with rfl | rfl | rfl | rfl | rfl
            · rw [z_up_nj (by omega), z_up_nj (by omega), z_up_nj (by omega), z_up_nj (by omega), show 5 * (q : Int) + ((0 : Nat) : Int) = 5 * (q : Int) from by omega, z_up_eq]; exact congrFun (old _ rfl) _
            · rw [z_up_nj (by omega), z_up_nj (by omega), z_up_nj (by omega), show 5 * (q : Int) + ((1 : Nat) : Int) = 5 * (q : Int) + 1 from rfl, z_up_eq]; exact es
            · rw [z_up_nj (by omega), z_up_nj (by omega), show 5 * (q : Int) + ((2 : Nat) : Int) = 5 * (q : Int) + 2 from rfl, z_up_eq, z_up_ne (by decide), z_up_ne (by decide)]; exact congrFun (old _ rfl) _
            · rw [z_up_nj (by omega), show 5 * (q : Int) + ((3 : Nat) : Int) = 5 * (q : Int) + 3 from rfl, z_up_eq, z_up_ne (by decide), z_up_ne (by decide), z_up_ne (by decide)]; exact congrFun (old _ rfl) _
            · rw [show 5 * (q : Int) + ((4 : Nat) : Int) = 5 * (q : Int) + 4 from rfl, z_up_eq, z_up_ne (by decide), z_up_ne (by decide), z_up_ne (by decide), z_up_ne (by decide)]; exact congrFun (old _ rfl) _
          · rw [z_up_nj (by omega), z_up_nj (by omega), z_up_nj (by omega), z_up_nj (by omega), z_up_nj (by omega)]
            exact g2 i c a (by omega) c5
      have e1 : (z_up N 301132 (5 * (q : Int)) (N 61120 (q : Int))) 64121 (q : Int) = M 64121 (q : Int) := by rw [z_up_ne (by decide)]; exact congrFun (old _ rfl) _
      have hq6 := hb (q : Int) (by omega) (by omega)
      refine rg_381_177 d ⟨fun c => absurd c (by omega), fun _ => ?_⟩
      rw [z_w_id (x := 5 * (q : Int)) (by omega) (by omega), z_w_id (x := 5 * (q : Int) + 1) (by omega) (by omega), e1]
      exact ⟨by omega, by omega, by omega, by omega, by omega, by omega, fun c => cont 0 c.symm, fun c => cont 1 (by omega)⟩
    · obtain ⟨g1, g2⟩ := hN
      refine rg_381_177 d ⟨fun _ => ?_, fun c => absurd c (by decide)⟩
      have g13 : N 13 = L 13 := by rw [g1 13 (by decide), p1 13 (by decide)]
      rw [g13, f49]
      have old : ∀ k, zy_kmk k = false → N k = M k := fun k hk => by
        rw [g1 k (fun e => by rw [e] at hk; cases hk), p1 k (fun e => by rw [e] at hk; cases hk)]; exact b1 k hk
      refine h N (zz_self hS (fun k hk => old k ?_) ⟨by rw [g13, b2]; rfl, old _ rfl, old _ rfl, old _ rfl, old _ rfl, old _ rfl, old _ rfl, old _ rfl, old _ rfl, old _ rfl⟩) ⟨old, fun j j1 j2 j3 => ?_, by rw [g13, b2]; rfl, by rw [g13, b2]; rfl, by rw [g13, b2]; rfl, fun j a b => ?_, fun i c a b c6 => ?_, fun i c a b c5 => g2 i c a b c5⟩
      · unfold z_cch at hk
        simp only [Bool.or_eq_true, beq_iff_eq] at hk
        rcases hk with ((e | e) | e) | e <;> rw [e] <;> rfl
      · rw [g13, b2]
        show (if j = 106 then _ else if j = 105 then _ else if j = 100 then _ else _) = _
        rw [if_neg j3, if_neg j2, if_neg j1]
      · rw [g1 _ (by decide), g1 _ (by decide), p1 _ (by decide), p1 _ (by decide)]; exact b3 j a b
      · rw [g1 _ (by decide)]; exact p2 i c a b c6
  refine z_lpi (n := (M 13 49).toNat) (fun _ => ()) (fun q N => (∀ k, k ≠ 2401131 → N k = L k) ∧ ∀ (i : Int) (c : Nat), 0 ≤ i → i < (q : Int) → c < 6 → N 2401131 (6 * i + (c : Int)) = M (zy_r6 c) i) (fun N _ q => z_G 0 d z_m381 61 [z_R 13, z_I q] [] N Q) L ⟨fun _ _ => rfl, fun i c a b => absurd b (by omega)⟩ (fun q N hq hN nx => ?_) (fun N hN => ?_)
  · obtain ⟨g1, g2⟩ := hN
    have old : ∀ k, zy_kmk k = false → N k = M k := fun k hk => by
      rw [g1 k (fun e => by rw [e] at hk; cases hk)]; exact b1 k hk
    refine rg_381_61 d ⟨fun c => ?_, fun _ => ?_⟩
    · rw [g1 13 (by decide), f49] at c; exact absurd c (by omega)
    rw [z_w_id (x := 6 * (q : Int)) (by omega) (by omega), z_w_id (x := 6 * (q : Int) + 1) (by omega) (by omega), z_w_id (x := 6 * (q : Int) + 2) (by omega) (by omega), z_w_id (x := 6 * (q : Int) + 3) (by omega) (by omega), z_w_id (x := 6 * (q : Int) + 4) (by omega) (by omega), z_w_id (x := 6 * (q : Int) + 5) (by omega) (by omega), z_wq (by omega)]
    refine ⟨by omega, by omega, by omega, by omega, by omega, by omega, by omega, by omega, by omega, by omega, by omega, by omega, by omega, by omega, by omega, by omega, by omega, by omega, by omega, by omega, by omega, by omega, by omega, by omega, nx _ ⟨fun k hk => ?_, fun i c a b c6 => ?_⟩⟩
    · rw [z_up_ne hk, z_up_ne hk, z_up_ne hk, z_up_ne hk, z_up_ne hk, z_up_ne hk]; exact g1 k hk
    · have hc : c = 0 ∨ c = 1 ∨ c = 2 ∨ c = 3 ∨ c = 4 ∨ c = 5 := by omega
      by_cases ci : i = (q : Int)
      · subst ci
        rcases hc with rfl | rfl | rfl | rfl | rfl | rfl
        · rw [z_up_nj (by omega), z_up_nj (by omega), z_up_nj (by omega), z_up_nj (by omega), z_up_nj (by omega), show 6 * (q : Int) + ((0 : Nat) : Int) = 6 * (q : Int) from by omega, z_up_eq]; exact congrFun (old _ rfl) _
        · rw [z_up_nj (by omega), z_up_nj (by omega), z_up_nj (by omega), z_up_nj (by omega), show 6 * (q : Int) + ((1 : Nat) : Int) = 6 * (q : Int) + 1 from rfl, z_up_eq, z_up_ne (by decide)]; exact congrFun (old _ rfl) _
        · rw [z_up_nj (by omega), z_up_nj (by omega), z_up_nj (by omega), show 6 * (q : Int) + ((2 : Nat) : Int) = 6 * (q : Int) + 2 from rfl, z_up_eq, z_up_ne (by decide), z_up_ne (by decide)]; exact congrFun (old _ rfl) _
        · rw [z_up_nj (by omega), z_up_nj (by omega), show 6 * (q : Int) + ((3 : Nat) : Int) = 6 * (q : Int) + 3 from rfl, z_up_eq, z_up_ne (by decide), z_up_ne (by decide), z_up_ne (by decide)]; exact congrFun (old _ rfl) _
        · rw [z_up_nj (by omega), show 6 * (q : Int) + ((4 : Nat) : Int) = 6 * (q : Int) + 4 from rfl, z_up_eq, z_up_ne (by decide), z_up_ne (by decide), z_up_ne (by decide), z_up_ne (by decide)]; exact congrFun (old _ rfl) _
        · rw [show 6 * (q : Int) + ((5 : Nat) : Int) = 6 * (q : Int) + 5 from rfl, z_up_eq, z_up_ne (by decide), z_up_ne (by decide), z_up_ne (by decide), z_up_ne (by decide), z_up_ne (by decide)]; exact congrFun (old _ rfl) _
      · rw [z_up_nj (by omega), z_up_nj (by omega), z_up_nj (by omega), z_up_nj (by omega), z_up_nj (by omega), z_up_nj (by omega)]
        exact g2 i c a (by omega) c6
  · obtain ⟨g1, g2⟩ := hN
    refine rg_381_61 d ⟨fun _ => last N g1 (fun i c a b c6 => g2 i c a (by omega) c6), fun c => ?_⟩
    rw [g1 13 (by decide), f49] at c; exact absurd c (by omega)
end ZUPA
