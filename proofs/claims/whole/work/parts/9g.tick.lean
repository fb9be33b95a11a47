/-! OPS: tickets, mayHave -/
def z_ITr (S : z_M) : Prop := S 11 5 = S 13 81 ∧ 0 ≤ S 13 81 ∧ S 13 81 ≤ 12 ∧ ∀ k : Int, 0 ≤ k → k < S 13 81 → S 121050 k = S 121112 k ∧ S 121051 k = S 121113 k ∧ 0 ≤ S 121113 k ∧ S 121113 k < 96
def z_ITk (S : z_M) : Prop := ∀ p : Int, 0 ≤ p → p < 10 → S 101056 p = (if S 101116 p = -1 then -2 else S 101116 p) ∧ -1 ≤ S 101116 p ∧ S 101116 p ≤ 9
/-- where one came aboard, of the first k stops -/
def zw_ab (S : z_M) : Nat → Nat → Int
  | 0, _ => -2
  | k + 1, p => if zw_ab S k p = -2 ∧ S 304067 (3 * (p : Int)) = 1 ∧ z_sp S (p : Int) (S 121113 (k : Int)) = S 121112 (k : Int) then (k : Int) else zw_ab S k p
def zw_nx (S : z_M) (k : Nat) : Int := z_cnt (fun p => decide (zw_ab S k p ≠ -2)) 10
theorem zw_ab_c (S : z_M) (k p : Nat) : zw_ab S k p = -2 ∨ (0 ≤ zw_ab S k p ∧ zw_ab S k p < (k : Int)) := by
  induction k with
  | zero => exact Or.inl rfl
  | succ k ih =>
    unfold zw_ab
    split
    · exact Or.inr ⟨by omega, by omega⟩
    · omega
theorem zw_ab_st {S : z_M} {k p : Nat} (h : zw_ab S k p ≠ -2) (m : Nat) : zw_ab S (k + m) p = zw_ab S k p := by
  induction m with
  | zero => rfl
  | succ m ih =>
    show (if zw_ab S (k + m) p = -2 ∧ _ then _ else zw_ab S (k + m) p) = _
    rw [if_neg (fun z => h (ih ▸ z.1)), ih]
theorem z_cnt_cg {P P' : Nat → Bool} : ∀ n, (∀ j, j < n → P j = P' j) → z_cnt P n = z_cnt P' n := by
  intro n
  induction n with
  | zero => intro _; rfl
  | succ n ih =>
    intro h
    show z_cnt P n + zv_b (P n) = z_cnt P' n + zv_b (P' n)
    rw [ih (fun j hj => h j (by omega)), h n (by omega)]
/-- counts add up -/
theorem z_cnt_add {P A B : Nat → Bool} : ∀ n, (∀ j, j < n → zv_b (P j) = zv_b (A j) + zv_b (B j)) → z_cnt P n = z_cnt A n + z_cnt B n := by
  intro n
  induction n with
  | zero => intro _; rfl
  | succ n ih =>
    intro h
    show z_cnt P n + zv_b (P n) = (z_cnt A n + zv_b (A n)) + (z_cnt B n + zv_b (B n))
    rw [ih (fun j hj => h j (by omega)), h n (by omega)]
    omega
theorem zw_ab_at {S : z_M} {k n p : Nat} (hk : k < n) : zw_ab S n p = (k : Int) ↔ (zw_ab S k p = -2 ∧ zw_ab S (k + 1) p ≠ -2) := by
  constructor
  · intro h
    constructor
    · by_cases c : zw_ab S k p = -2
      · exact c
      · have := zw_ab_st c (n - k)
        rw [show k + (n - k) = n from by omega, h] at this
        have := zw_ab_c S k p
        omega
    · intro c
      have key : ∀ m, zw_ab S (k + 1 + m) p = -2 ∨ ((k : Int) + 1 ≤ zw_ab S (k + 1 + m) p) := by
        intro m
        induction m with
        | zero => exact Or.inl c
        | succ m ih =>
          show (if zw_ab S (k + 1 + m) p = -2 ∧ _ then ((k + 1 + m : Nat) : Int) else zw_ab S (k + 1 + m) p) = -2 ∨ (k : Int) + 1 ≤ (if zw_ab S (k + 1 + m) p = -2 ∧ _ then ((k + 1 + m : Nat) : Int) else zw_ab S (k + 1 + m) p)
          split
          · exact Or.inr (by omega)
          · exact ih
      have := key (n - (k + 1))
      rw [show k + 1 + (n - (k + 1)) = n from by omega, h] at this
      omega
  · rintro ⟨h1, h2⟩
    have e : zw_ab S (k + 1) p = (k : Int) := by
      have e2 : zw_ab S (k + 1) p = if zw_ab S k p = -2 ∧ S 304067 (3 * (p : Int)) = 1 ∧ z_sp S (p : Int) (S 121113 (k : Int)) = S 121112 (k : Int) then (k : Int) else zw_ab S k p := rfl
      rw [e2] at h2 ⊢
      by_cases c : zw_ab S k p = -2 ∧ S 304067 (3 * (p : Int)) = 1 ∧ z_sp S (p : Int) (S 121113 (k : Int)) = S 121112 (k : Int)
      · rw [if_pos c]
      · rw [if_neg c] at h2; exact absurd h1 h2
    have := zw_ab_st h2 (n - (k + 1))
    rw [show k + 1 + (n - (k + 1)) = n from by omega, e] at this
    exact this
theorem zw_nx_step (S : z_M) {k n : Nat} (hk : k < n) : zw_nx S (k + 1) = zw_nx S k + z_cnt (fun p => decide (zw_ab S n p = (k : Int))) 10 := by
  unfold zw_nx
  refine z_cnt_add 10 (fun p _ => ?_)
  have i := zw_ab_at (S := S) (p := p) hk
  have st : zw_ab S k p ≠ -2 → zw_ab S (k + 1) p = zw_ab S k p := fun h => zw_ab_st h 1
  show zv_b (decide (zw_ab S (k + 1) p ≠ -2)) = zv_b (decide (zw_ab S k p ≠ -2)) + zv_b (decide (zw_ab S n p = (k : Int)))
  by_cases c : zw_ab S k p = -2
  · by_cases c2 : zw_ab S (k + 1) p = -2
    · rw [decide_eq_false (fun z => z c2), decide_eq_false (fun z => z c), decide_eq_false (fun z => (i.mp z).2 c2)]; rfl
    · rw [decide_eq_true c2, decide_eq_false (fun z => z c), decide_eq_true (i.mpr ⟨c, c2⟩)]; rfl
  · rw [decide_eq_true (by rw [st c]; exact c), decide_eq_true c, decide_eq_false (fun z => c (i.mp z).1)]; rfl
theorem zw_nx_b (S : z_M) (k : Nat) : 0 ≤ zw_nx S k ∧ zw_nx S k ≤ 10 := z_cnt_b _ 10
theorem zw_nx_mono (S : z_M) {k m : Nat} (h : k ≤ m) : zw_nx S k ≤ zw_nx S m := by
  have key : ∀ j, zw_nx S k ≤ zw_nx S (k + j) := by
    intro j
    induction j with
    | zero => exact Int.le_refl _
    | succ j ih =>
      have := zw_nx_step S (k := k + j) (n := k + j + 1) (by omega)
      have := (z_cnt_b (fun p => decide (zw_ab S (k + j + 1) p = ((k + j : Nat) : Int))) 10).1
      show zw_nx S k ≤ zw_nx S (k + j + 1)
      omega
  have := key (m - k)
  rw [show k + (m - k) = m from by omega] at this
  exact this
/-- who stands in the middle of a stop's loop -/
def zw_mx (S : z_M) (k p0 p : Nat) : Int := if p < p0 then zw_ab S (k + 1) p else zw_ab S k p
def zw_mc (S : z_M) (k p0 : Nat) : Int := z_cnt (fun p => decide (zw_mx S k p0 p ≠ -2)) 10
theorem zw_mc_0 (S : z_M) (k : Nat) : zw_mc S k 0 = zw_nx S k := z_cnt_cg 10 (fun j _ => by show decide (zw_mx S k 0 j ≠ -2) = _; unfold zw_mx; rw [if_neg (by omega)])
theorem zw_mc_10 (S : z_M) (k : Nat) : zw_mc S k 10 = zw_nx S (k + 1) := z_cnt_cg 10 (fun j hj => by show decide (zw_mx S k 10 j ≠ -2) = _; unfold zw_mx; rw [if_pos (by omega)])
theorem zw_mc_b (S : z_M) (k p : Nat) : 0 ≤ zw_mc S k p ∧ zw_mc S k p ≤ 10 := z_cnt_b _ 10
theorem zw_mc_same {S : z_M} {k p : Nat} (h : zw_ab S (k + 1) p = zw_ab S k p) : zw_mc S k (p + 1) = zw_mc S k p := z_cnt_cg 10 (fun j _ => by
  show decide (zw_mx S k (p + 1) j ≠ -2) = decide (zw_mx S k p j ≠ -2)
  unfold zw_mx
  by_cases e : j = p
  · subst e; rw [if_pos (by omega), if_neg (by omega), h]
  · by_cases c : j < p
    · rw [if_pos (by omega), if_pos c]
    · rw [if_neg (by omega), if_neg c])
theorem zw_mc_new {S : z_M} {k p : Nat} (hp : p < 10) (h : zw_ab S (k + 1) p = (k : Int)) (h0 : zw_ab S k p = -2) : zw_mc S k (p + 1) = zw_mc S k p + 1 := by
  have := z_cnt_put (P := fun j => decide (zw_mx S k p j ≠ -2)) (P' := fun j => decide (zw_mx S k (p + 1) j ≠ -2)) (i := p) (fun j => ?_) ?_ 10
  · rw [if_pos hp] at this; exact this
  · show decide (zw_mx S k (p + 1) j ≠ -2) = (decide (zw_mx S k p j ≠ -2) || decide (j = p))
    unfold zw_mx
    by_cases e : j = p
    · subst e
      rw [if_pos (by omega), h, decide_eq_true (by omega), decide_eq_true rfl, Bool.or_true]
    · rw [decide_eq_false e, Bool.or_false]
      by_cases c : j < p
      · rw [if_pos (by omega), if_pos c]
      · rw [if_neg (by omega), if_neg c]
  · show decide (zw_mx S k p p ≠ -2) = false
    unfold zw_mx
    rw [if_neg (by omega), h0]; rfl
section ZTIC
variable {S M : z_M} {Q : z_V → z_M → Prop}
/-- aboard, as an array holds it -/
def zw_bd (S N : z_M) (B F : Nat) (n : Nat) : Prop := (∀ p : Nat, p < 10 → N B (p : Int) = zw_ab S n p) ∧ (∀ k : Nat, k ≤ n → N F (k : Int) = zw_nx S k)
theorem kc_board (d : Nat) (hS : z_sit S M) (hI : z_IS S) (hT : z_ITr S) (h : ∀ N : z_M, z_sit S N → zw_bd S N 101054 131055 (S 13 81).toNat → Q z_U N) : z_Cl 0 (d + 2) 44 [z_R 11] M Q := by
  obtain ⟨t1, t2, t3, t4⟩ := hT
  have en : (((S 13 81).toNat : Nat) : Int) = S 13 81 := by omega
  refine re_44 (d + 1) (c_fillI (a := 101054) (n := 10) rfl rfl (by decide) ?_)
  have hS0 : z_sit S (z_fl M 101054 0 10 (-2)) := z_o1a_sit (A := 101054) hS (fun k hk => z_fl_ne hk) (fun _ => rfl) rfl
  have hB0 : ∀ p : Nat, p < 10 → (z_fl M 101054 0 10 (-2)) 101054 (p : Int) = zw_ab S 0 p := fun p hp => z_fl_in (by omega) (by omega)
  generalize z_fl M 101054 0 10 (-2) = M0 at hS0 hB0
  have e0 : zw_nx S 0 = 0 := (z_cnt_cg (P' := fun _ => false) 10 (fun j _ => rfl)).trans rfl
  have := z_lpi (n := (S 13 81).toNat) (fun k => zw_nx S k) (fun k N => z_sit S N ∧ (∀ p : Nat, p < 10 → N 101054 (p : Int) = zw_ab S k p) ∧ (∀ j : Nat, j < k → N 131055 (j : Int) = zw_nx S j)) (fun N v k => z_G 0 (d + 2) z_m44 13 [z_R 11, z_I v, z_I k, z_U, z_U] [] N Q) M0 ⟨hS0, hB0, fun j hj => absurd hj (Nat.not_lt_zero j)⟩ (fun k N hk hI0 nx => ?_) (fun N hI0 => ?_)
  · rw [e0] at this; exact this
  · obtain ⟨hN, hb, hf⟩ := hI0
    obtain ⟨q1, q2, q3, q4⟩ := t4 (k : Int) (by omega) (by omega)
    refine rg_44_13 (d + 1) ⟨fun c => ?_, fun _ => ⟨by omega, by omega, ?_⟩⟩
    · rw [z_ff hN 11 5 rfl, t1] at c; exact absurd c (by omega)
    · have hN1 : z_sit S (z_up N 131055 (k : Int) (zw_nx S k)) := z_at_up hN _ _ _ rfl rfl
      have hb1 : ∀ p : Nat, p < 10 → (z_up N 131055 (k : Int) (zw_nx S k)) 101054 (p : Int) = zw_ab S k p := fun p hp => by rw [z_up_ne (by decide)]; exact hb p hp
      have hf1 : ∀ j : Nat, j < k + 1 → (z_up N 131055 (k : Int) (zw_nx S k)) 131055 (j : Int) = zw_nx S j := fun j hj => by
        unfold z_up
        rw [if_pos rfl]
        by_cases e : j = k
        · rw [if_pos (by omega), e]
        · rw [if_neg (by omega)]; exact hf j (by omega)
      generalize z_up N 131055 (k : Int) (zw_nx S k) = N1 at hN1 hb1 hf1
      have inner := z_lpi (n := 10) (fun p => zw_mc S k p) (fun p N2 => z_sit S N2 ∧ (∀ q : Nat, q < 10 → N2 101054 (q : Int) = zw_mx S k p q) ∧ (∀ j : Nat, j < k + 1 → N2 131055 (j : Int) = zw_nx S j)) (fun N2 v p => z_G 0 (d + 2) z_m44 30 [z_R 11, z_I v, z_I (k : Int), z_I p, z_U] [] N2 Q) N1 ⟨hN1, fun q hq => by unfold zw_mx; rw [if_neg (by omega)]; exact hb1 q hq, hf1⟩ (fun p N2 hp hI2 nx2 => ?_) (fun N2 hI2 => ?_)
      · rw [zw_mc_0] at inner; exact inner
      · obtain ⟨hN2, hb2, hf2⟩ := hI2
        have ep := hb2 p hp
        have emx : zw_mx S k p p = zw_ab S k p := by unfold zw_mx; rw [if_neg (by omega)]
        rw [emx] at ep
        have bb := zw_mc_b S k p
        have e5 : zw_ab S (k + 1) p = if zw_ab S k p = -2 ∧ S 304067 (3 * (p : Int)) = 1 ∧ z_sp S (p : Int) (S 121113 (k : Int)) = S 121112 (k : Int) then (k : Int) else zw_ab S k p := rfl
        have no : ∀ y : Int, ¬ (zw_ab S k p = -2 ∧ S 304067 (3 * (p : Int)) = 1 ∧ z_sp S (p : Int) (S 121113 (k : Int)) = S 121112 (k : Int)) → z_G 0 (d + 2) z_m44 103 [z_R 11, z_I (zw_mc S k p), z_I (k : Int), z_I (p : Int), z_I y] [] N2 Q := by
          intro y c
          rw [if_neg c] at e5
          refine rg_44_103 (d + 1) ?_
          rw [z_wq (by omega), ← zw_mc_same e5]
          refine nx2 N2 ⟨hN2, fun q hq => ?_, hf2⟩
          rw [hb2 q hq]
          unfold zw_mx
          by_cases e : q = p
          · subst e; rw [if_neg (by omega), if_pos (by omega), e5]
          · by_cases c3 : q < p
            · rw [if_pos c3, if_pos (by omega)]
            · rw [if_neg c3, if_neg (by omega)]
        refine rg_44_30 (d + 1) ⟨fun c => absurd c (by omega), fun _ => kc_isTold d hN2 hI.1 (fun ht => z_y1 ⟨by omega, by omega, fun c => rg_44_62 (d + 1) (rg_44_63 (d + 1) ⟨fun _ => no _ (fun z => ?_), fun c2 => absurd rfl c2⟩), fun c => rg_44_63 (d + 1) ⟨fun c2 => absurd c2 (by decide), fun _ => ⟨by omega, by omega, ?_⟩⟩⟩) (fun ht => z_n1 (rg_44_62 (d + 1) (rg_44_63 (d + 1) ⟨fun _ => no _ (fun z => ht ⟨by omega, by omega, z.2.1⟩), fun c2 => absurd rfl c2⟩)))⟩
        · rw [ep] at c; exact c z.1
        · rw [ep] at c
          rw [z_fn hN2 121051 rfl, q2]
          refine kc_spotToday d hN2 hI.1 ht q3 q4 (z_viI ?_)
          rw [z_fn hN2 121050 rfl, q1]
          refine ⟨by omega, by omega, fun c2 => no _ (fun z => c2 z.2.2), fun c2 => ⟨by omega, by omega, ?_⟩⟩
          rw [if_pos ⟨c, ht.2.2, c2⟩] at e5
          refine rg_44_103 (d + 1) ?_
          rw [z_wq (by omega), z_w_id (x := zw_mc S k p + 1) (by omega) (by omega), ← zw_mc_new hp e5 c]
          refine nx2 _ ⟨z_at_up hN2 _ _ _ rfl rfl, fun q hq => ?_, fun j hj => ?_⟩
          · unfold z_up
            rw [if_pos rfl]
            unfold zw_mx
            by_cases e : q = p
            · subst e; rw [if_pos rfl, if_pos (by omega), e5]
            · have := hb2 q hq
              unfold zw_mx at this
              rw [if_neg (by omega), this]
              by_cases c3 : q < p
              · rw [if_pos c3, if_pos (by omega)]
              · rw [if_neg c3, if_neg (by omega)]
          · rw [z_up_ne (by decide)]; exact hf2 j hj
      · obtain ⟨hN2, hb2, hf2⟩ := hI2
        refine rg_44_30 (d + 1) ⟨fun _ => ?_, fun c => absurd c (by decide)⟩
        rw [z_wq (by omega)]
        have := nx N2 ⟨hN2, fun q hq => ?_, hf2⟩
        · rw [← zw_mc_10] at this; exact this
        · rw [hb2 q hq]; unfold zw_mx; rw [if_pos (by omega)]
  · obtain ⟨hN, hb, hf⟩ := hI0
    refine rg_44_13 (d + 1) ⟨fun _ => ?_, fun c => ?_⟩
    · rw [z_ff hN 11 5 rfl, t1, ← en]
      refine ⟨by omega, by omega, h _ (z_at_up hN _ _ _ rfl rfl) ⟨fun p hp => ?_, fun k hk => ?_⟩⟩
      · rw [z_up_ne (by decide)]; exact hb p hp
      · unfold z_up
        rw [if_pos rfl]
        by_cases e : k = (S 13 81).toNat
        · rw [if_pos (by omega), e]; rfl
        · rw [if_neg (by omega)]; exact hf k (by omega)
    · rw [z_ff hN 11 5 rfl, t1] at c; exact absurd c (by omega)
theorem km_boards (d : Nat) (hS : z_sit S M) (hI : z_IS S) (hT : z_ITr S) (h : ∀ N : z_M, z_sit S N → zw_bd S N 101117 131118 (S 13 81).toNat → Q z_U N) : z_Cl 0 (d + 2) 351 [z_R 13] M Q := by
  obtain ⟨t1, t2, t3, t4⟩ := hT
  have en : (((S 13 81).toNat : Nat) : Int) = S 13 81 := by omega
  have e0 : zw_nx S 0 = 0 := (z_cnt_cg (P' := fun _ => false) 10 (fun j _ => rfl)).trans rfl
  have main : ∀ M0 : z_M, z_sit S M0 → (∀ p : Nat, p < 10 → M0 101117 (p : Int) = zw_ab S 0 p) → z_G 0 (d + 2) z_m351 26 [z_R 13, z_I 0, z_I 0, z_U] [] M0 Q := by
    intro M0 hS0 hB0
    have := z_lpi (n := (S 13 81).toNat) (fun k => zw_nx S k) (fun k N => z_sit S N ∧ (∀ p : Nat, p < 10 → N 101117 (p : Int) = zw_ab S k p) ∧ (∀ j : Nat, j < k → N 131118 (j : Int) = zw_nx S j)) (fun N v k => z_G 0 (d + 2) z_m351 26 [z_R 13, z_I v, z_I k, z_U] [] N Q) M0 ⟨hS0, hB0, fun j hj => absurd hj (Nat.not_lt_zero j)⟩ (fun k N hk hI0 nx => ?_) (fun N hI0 => ?_)
    · rw [e0] at this; exact this
    · obtain ⟨hN, hb, hf⟩ := hI0
      obtain ⟨q1, q2, q3, q4⟩ := t4 (k : Int) (by omega) (by omega)
      refine rg_351_26 (d + 1) ⟨fun c => ?_, fun _ => ⟨by omega, by omega, ?_⟩⟩
      · rw [z_ff hN 13 81 rfl] at c; exact absurd c (by omega)
      · have hN1 : z_sit S (z_up N 131118 (k : Int) (zw_nx S k)) := z_at_up hN _ _ _ rfl rfl
        have hb1 : ∀ p : Nat, p < 10 → (z_up N 131118 (k : Int) (zw_nx S k)) 101117 (p : Int) = zw_ab S k p := fun p hp => by rw [z_up_ne (by decide)]; exact hb p hp
        have hf1 : ∀ j : Nat, j < k + 1 → (z_up N 131118 (k : Int) (zw_nx S k)) 131118 (j : Int) = zw_nx S j := fun j hj => by
          unfold z_up
          rw [if_pos rfl]
          by_cases e : j = k
          · rw [if_pos (by omega), e]
          · rw [if_neg (by omega)]; exact hf j (by omega)
        generalize z_up N 131118 (k : Int) (zw_nx S k) = N1 at hN1 hb1 hf1
        have inner := z_lpi (n := 10) (fun p => zw_mc S k p) (fun p N2 => z_sit S N2 ∧ (∀ q : Nat, q < 10 → N2 101117 (q : Int) = zw_mx S k p q) ∧ (∀ j : Nat, j < k + 1 → N2 131118 (j : Int) = zw_nx S j)) (fun N2 v p => z_G 0 (d + 2) z_m351 43 [z_R 13, z_I v, z_I (k : Int), z_I p] [] N2 Q) N1 ⟨hN1, fun q hq => by unfold zw_mx; rw [if_neg (by omega)]; exact hb1 q hq, hf1⟩ (fun p N2 hp hI2 nx2 => ?_) (fun N2 hI2 => ?_)
        · rw [zw_mc_0] at inner; exact inner
        · obtain ⟨hN2, hb2, hf2⟩ := hI2
          have ep := hb2 p hp
          have emx : zw_mx S k p p = zw_ab S k p := by unfold zw_mx; rw [if_neg (by omega)]
          rw [emx] at ep
          have bb := zw_mc_b S k p
          have e5 : zw_ab S (k + 1) p = if zw_ab S k p = -2 ∧ S 304067 (3 * (p : Int)) = 1 ∧ z_sp S (p : Int) (S 121113 (k : Int)) = S 121112 (k : Int) then (k : Int) else zw_ab S k p := rfl
          have no : ¬ (zw_ab S k p = -2 ∧ S 304067 (3 * (p : Int)) = 1 ∧ z_sp S (p : Int) (S 121113 (k : Int)) = S 121112 (k : Int)) → z_G 0 (d + 2) z_m351 43 [z_R 13, z_I (zw_mc S k p), z_I (k : Int), z_I (z_w ((p : Int) + 1))] [] N2 Q := by
            intro c
            rw [if_neg c] at e5
            rw [z_wq (by omega), ← zw_mc_same e5]
            refine nx2 N2 ⟨hN2, fun q hq => ?_, hf2⟩
            rw [hb2 q hq]
            unfold zw_mx
            by_cases e : q = p
            · subst e; rw [if_neg (by omega), if_pos (by omega), e5]
            · by_cases c3 : q < p
              · rw [if_pos c3, if_pos (by omega)]
              · rw [if_neg c3, if_neg (by omega)]
          refine rg_351_43 (d + 1) ⟨fun c => absurd c (by omega), fun _ => km_isTold d hN2 hI.1 (fun ht => z_y1 ⟨by omega, by omega, fun c => no (fun z => ?_), fun c => ⟨by omega, by omega, ?_⟩⟩) (fun ht => z_n1 (no (fun z => ht ⟨by omega, by omega, z.2.1⟩)))⟩
          · rw [ep] at c; exact c z.1
          · rw [ep] at c
            rw [z_fn hN2 121113 rfl]
            refine km_spotOf d hN2 hI.1 ht q3 q4 (z_viI ?_)
            rw [z_fn hN2 121112 rfl]
            refine ⟨by omega, by omega, fun c2 => ⟨by omega, by omega, ?_⟩, fun c2 => no (fun z => c2 z.2.2)⟩
            rw [if_pos ⟨c, ht.2.2, c2⟩] at e5
            rw [z_wq (by omega), z_w_id (x := zw_mc S k p + 1) (by omega) (by omega), ← zw_mc_new hp e5 c]
            refine nx2 _ ⟨z_at_up hN2 _ _ _ rfl rfl, fun q hq => ?_, fun j hj => ?_⟩
            · unfold z_up
              rw [if_pos rfl]
              unfold zw_mx
              by_cases e : q = p
              · subst e; rw [if_pos rfl, if_pos (by omega), e5]
              · have := hb2 q hq
                unfold zw_mx at this
                rw [if_neg (by omega), this]
                by_cases c3 : q < p
                · rw [if_pos c3, if_pos (by omega)]
                · rw [if_neg c3, if_neg (by omega)]
            · rw [z_up_ne (by decide)]; exact hf2 j hj
        · obtain ⟨hN2, hb2, hf2⟩ := hI2
          refine rg_351_43 (d + 1) ⟨fun _ => ?_, fun c => absurd c (by decide)⟩
          rw [z_wq (by omega)]
          have := nx N2 ⟨hN2, fun q hq => ?_, hf2⟩
          · rw [← zw_mc_10] at this; exact this
          · rw [hb2 q hq]; unfold zw_mx; rw [if_pos (by omega)]
    · obtain ⟨hN, hb, hf⟩ := hI0
      refine rg_351_26 (d + 1) ⟨fun _ => ?_, fun c => ?_⟩
      · rw [z_ff hN 13 81 rfl, ← en]
        refine ⟨by omega, by omega, h _ (z_at_up hN _ _ _ rfl rfl) ⟨fun p hp => ?_, fun k hk => ?_⟩⟩
        · rw [z_up_ne (by decide)]; exact hb p hp
        · unfold z_up
          rw [if_pos rfl]
          by_cases e : k = (S 13 81).toNat
          · rw [if_pos (by omega), e]; rfl
          · rw [if_neg (by omega)]; exact hf k (by omega)
      · rw [z_ff hN 13 81 rfl] at c; exact absurd c (by omega)
  refine re_351 (d + 1) ?_
  refine z_lpi (n := 10) (fun _ => ()) (fun q N => z_sit S N ∧ ∀ p : Nat, p < q → N 101117 (p : Int) = -2) (fun N _ q => z_G 0 (d + 2) z_m351 2 [z_R 13, z_I q, z_U, z_U] [] N Q) M ⟨hS, fun p hp => absurd hp (Nat.not_lt_zero p)⟩ (fun q N hq hI0 nx => ?_) (fun N hI0 => ?_)
  · obtain ⟨hN, hb⟩ := hI0
    refine rg_351_2 (d + 1) ⟨fun c => absurd c (by omega), fun _ => ⟨by omega, by omega, ?_⟩⟩
    rw [z_wq (by omega)]
    refine nx _ ⟨z_at_up hN _ _ _ rfl rfl, fun p hp => ?_⟩
    unfold z_up
    rw [if_pos rfl]
    by_cases e : p = q
    · rw [if_pos (by omega)]
    · rw [if_neg (by omega)]; exact hb p (by omega)
  · obtain ⟨hN, hb⟩ := hI0
    exact rg_351_2 (d + 1) ⟨fun _ => main N hN hb, fun c => absurd c (by decide)⟩
end ZTIC
