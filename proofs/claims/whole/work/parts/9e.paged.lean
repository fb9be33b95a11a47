/-! PAGED: steps over plain spots, by a queue and by levels -/
theorem z_cnt_put {P P' : Nat → Bool} {i : Nat} (h : ∀ j, P' j = (P j || decide (j = i))) (h0 : P i = false) : ∀ n, z_cnt P' n = z_cnt P n + (if i < n then 1 else 0) := by
  intro n
  induction n with
  | zero => rfl
  | succ n ih =>
    show z_cnt P' n + zv_b (P' n) = z_cnt P n + zv_b (P n) + _
    rw [ih, h n]
    by_cases e : n = i
    · subst e
      rw [h0, decide_eq_true rfl, if_neg (by omega), if_pos (by omega)]
      show _ + 0 + (1 : Int) = _ + (0 : Int) + 1
      omega
    · rw [decide_eq_false e, Bool.or_false]
      by_cases c : i < n
      · rw [if_pos c, if_pos (by omega)]; omega
      · rw [if_neg c, if_neg (by omega)]; omega
theorem z_cnt_lt {P P' : Nat → Bool} (h : ∀ j, P j = true → P' j = true) : ∀ n, z_cnt P n ≤ z_cnt P' n ∧ ((∃ i, i < n ∧ P i = false ∧ P' i = true) → z_cnt P n + 1 ≤ z_cnt P' n) := by
  intro n
  induction n with
  | zero => exact ⟨Int.le_refl _, fun ⟨i, hi, _⟩ => absurd hi (Nat.not_lt_zero i)⟩
  | succ n ih =>
    have hb : zv_b (P n) ≤ zv_b (P' n) := by
      cases hp : P n with
      | true => rw [h n hp]; exact Int.le_refl _
      | false => cases P' n <;> decide
    show z_cnt P n + zv_b (P n) ≤ z_cnt P' n + zv_b (P' n) ∧ _
    refine ⟨by omega, fun ⟨i, hi, h1, h2⟩ => ?_⟩
    show z_cnt P n + zv_b (P n) + 1 ≤ z_cnt P' n + zv_b (P' n)
    by_cases e : i = n
    · subst e
      rw [h1, h2]
      have : zv_b false = 0 := rfl
      have : zv_b true = 1 := rfl
      omega
    · have := ih.2 ⟨i, by omega, h1, h2⟩
      omega
theorem z_nxt_sym {x : Int} (h0 : 0 ≤ x) (h1 : x < 100) (j : Nat) (hj : j < 4) (hn : z_nxt x (2 * (j : Int)) ≠ -1) : ∃ k : Nat, k < 4 ∧ z_nxt (z_nxt x (2 * (j : Int))) (2 * (k : Int)) = x := by
  have key : ∀ j : Nat, j < 4 → ∀ dx dy ex ey : Int, z_cv 86901 (2 * (j : Int)) = dx → z_cv 86902 (2 * (j : Int)) = dy → ∀ k : Nat, z_cv 86901 (2 * (k : Int)) = -dx → z_cv 86902 (2 * (k : Int)) = -dy → z_nxt x (2 * (j : Int)) ≠ -1 → z_nxt (z_nxt x (2 * (j : Int))) (2 * (k : Int)) = x := by
    intro j _ dx dy _ _ e1 e2 k e3 e4 hn
    unfold z_nxt at hn ⊢
    rw [e1, e2] at hn ⊢
    by_cases c : 0 ≤ x % 10 + dx ∧ x % 10 + dx ≤ 9 ∧ 0 ≤ x / 10 + dy ∧ x / 10 + dy ≤ 9
    · rw [if_pos c, e3, e4]
      have f1 : (10 * (x / 10 + dy) + (x % 10 + dx)) % 10 = x % 10 + dx := by omega
      have f2 : (10 * (x / 10 + dy) + (x % 10 + dx)) / 10 = x / 10 + dy := by omega
      rw [f1, f2, if_pos (by omega)]
      omega
    · rw [if_neg c] at hn; exact absurd rfl hn
  have : j = 0 ∨ j = 1 ∨ j = 2 ∨ j = 3 := by omega
  rcases this with rfl | rfl | rfl | rfl
  · exact ⟨2, by decide, key 0 (by decide) 1 0 0 0 rfl rfl 2 rfl rfl hn⟩
  · exact ⟨3, by decide, key 1 (by decide) 0 1 0 0 rfl rfl 3 rfl rfl hn⟩
  · exact ⟨0, by decide, key 2 (by decide) (-1) 0 0 0 rfl rfl 0 rfl rfl hn⟩
  · exact ⟨1, by decide, key 3 (by decide) 0 (-1) 0 0 rfl rfl 1 rfl rfl hn⟩
/-- what is reached in n steps -/
def z_rc (S : z_M) (sp : Int) : Nat → Int → Bool
  | 0, s => decide (s = sp)
  | n + 1, s => z_rc S sp n s || (decide (S 1001015 s = 0) && z_exn (fun j => decide (z_nxt s (2 * (j : Int)) ≠ -1) && z_rc S sp n (z_nxt s (2 * (j : Int)))) 4)
theorem z_rc_up {S : z_M} {sp s : Int} {n : Nat} (h : z_rc S sp n s = true) : ∀ m, z_rc S sp (n + m) s = true := by
  intro m
  induction m with
  | zero => exact h
  | succ m ih => show (z_rc S sp (n + m) s || _) = true; rw [ih]; rfl
theorem z_rc_nb {S : z_M} {sp s : Int} {n : Nat} {j : Nat} (hj : j < 4) (hp : S 1001015 s = 0) (hn : z_nxt s (2 * (j : Int)) ≠ -1) (h : z_rc S sp n (z_nxt s (2 * (j : Int))) = true) : z_rc S sp (n + 1) s = true := by
  show (z_rc S sp n s || (decide (S 1001015 s = 0) && _)) = true
  rw [decide_eq_true hp, z_exn_t.mpr ⟨j, hj, by rw [decide_eq_true hn, h]; rfl⟩, Bool.and_self, Bool.or_true]
theorem z_rc_inv {S : z_M} {sp s : Int} {n : Nat} (h : z_rc S sp (n + 1) s = true) : z_rc S sp n s = true ∨ (S 1001015 s = 0 ∧ ∃ j : Nat, j < 4 ∧ z_nxt s (2 * (j : Int)) ≠ -1 ∧ z_rc S sp n (z_nxt s (2 * (j : Int))) = true) := by
  have h2 : (z_rc S sp n s || (decide (S 1001015 s = 0) && z_exn (fun j => decide (z_nxt s (2 * (j : Int)) ≠ -1) && z_rc S sp n (z_nxt s (2 * (j : Int)))) 4)) = true := h
  rw [Bool.or_eq_true, Bool.and_eq_true] at h2
  rcases h2 with h2 | ⟨h2, h3⟩
  · exact Or.inl h2
  · obtain ⟨j, hj, h4⟩ := z_exn_t.mp h3
    rw [Bool.and_eq_true] at h4
    exact Or.inr ⟨of_decide_eq_true h2, j, hj, of_decide_eq_true h4.1, h4.2⟩
def z_fst (P : Nat → Bool) : Nat → Nat → Int
  | 0, _ => 1000
  | f + 1, n => if P n = true then (n : Int) else z_fst P f (n + 1)
theorem z_fst_c (P : Nat → Bool) : ∀ f n : Nat, (z_fst P f n = 1000 ∧ ∀ m, n ≤ m → m < n + f → P m = false) ∨ (∃ m, n ≤ m ∧ m < n + f ∧ z_fst P f n = (m : Int) ∧ P m = true ∧ ∀ j, n ≤ j → j < m → P j = false) := by
  intro f
  induction f with
  | zero => intro n; exact Or.inl ⟨rfl, fun m a b => absurd b (by omega)⟩
  | succ f ih =>
    intro n
    show ((if P n = true then (n : Int) else z_fst P f (n + 1)) = 1000 ∧ _) ∨ (∃ m, n ≤ m ∧ m < n + (f + 1) ∧ (if P n = true then (n : Int) else z_fst P f (n + 1)) = (m : Int) ∧ _)
    by_cases c : P n = true
    · rw [if_pos c]
      exact Or.inr ⟨n, Nat.le_refl n, by omega, rfl, c, fun j a b => absurd b (by omega)⟩
    · rw [if_neg c]
      have c' : P n = false := by cases hp : P n with
        | true => exact absurd hp c
        | false => rfl
      rcases ih (n + 1) with ⟨e, h⟩ | ⟨m, a, b, e, h, g⟩
      · refine Or.inl ⟨e, fun m a b => ?_⟩
        by_cases e2 : m = n
        · rw [e2]; exact c'
        · exact h m (by omega) (by omega)
      · refine Or.inr ⟨m, by omega, by omega, e, h, fun j a2 b2 => ?_⟩
        by_cases e2 : j = n
        · rw [e2]; exact c'
        · exact g j (by omega) b2
def z_D (S : z_M) (sp s : Int) : Int := z_fst (fun n => z_rc S sp n s) 100 0
theorem z_D_c (S : z_M) (sp s : Int) : (z_D S sp s = 1000 ∧ ∀ m : Nat, m < 100 → z_rc S sp m s = false) ∨ (∃ m : Nat, m < 100 ∧ z_D S sp s = (m : Int) ∧ z_rc S sp m s = true ∧ ∀ j : Nat, j < m → z_rc S sp j s = false) := by
  rcases z_fst_c (fun n => z_rc S sp n s) 100 0 with ⟨e, h⟩ | ⟨m, a, b, e, h, g⟩
  · exact Or.inl ⟨e, fun m hm => h m (by omega) (by omega)⟩
  · exact Or.inr ⟨m, by omega, e, h, fun j hj => g j (by omega) hj⟩
theorem z_D_b (S : z_M) (sp s : Int) : z_D S sp s = 1000 ∨ (0 ≤ z_D S sp s ∧ z_D S sp s < 100) := by
  rcases z_D_c S sp s with ⟨e, _⟩ | ⟨m, hm, e, _⟩
  · exact Or.inl e
  · exact Or.inr ⟨by omega, by omega⟩
theorem z_D_eq {S : z_M} {sp s : Int} {k : Nat} (hk : k < 100) (h : z_rc S sp k s = true) (g : ∀ n, z_rc S sp n s = true → k ≤ n) : z_D S sp s = (k : Int) := by
  rcases z_D_c S sp s with ⟨_, q⟩ | ⟨m, hm, e, q, r⟩
  · rw [q k hk] at h; cases h
  · have := g m q
    have : ¬ k < m := fun c => by rw [r k c] at h; cases h
    rw [e]; omega
theorem z_D_no {S : z_M} {sp s : Int} (h : ∀ n, n < 100 → z_rc S sp n s = false) : z_D S sp s = 1000 := by
  rcases z_D_c S sp s with ⟨e, _⟩ | ⟨m, hm, _, q, _⟩
  · exact e
  · rw [h m hm] at q; cases q
/-- a plain spot beside a reached one -/
theorem z_D_nb {S : z_M} {sp s : Int} {j : Nat} (hj : j < 4) (hp : S 1001015 s = 0) (hn : z_nxt s (2 * (j : Int)) ≠ -1) (hs : z_D S sp s ≠ 1000) (h : z_D S sp (z_nxt s (2 * (j : Int))) ≠ 1000) : z_D S sp s ≤ z_D S sp (z_nxt s (2 * (j : Int))) + 1 := by
  rcases z_D_c S sp (z_nxt s (2 * (j : Int))) with ⟨e, _⟩ | ⟨m, hm, e, q, _⟩
  · exact absurd e h
  · rcases z_D_c S sp s with ⟨e2, _⟩ | ⟨m2, hm2, e2, q2, r2⟩
    · exact absurd e2 hs
    · have := z_rc_nb hj hp hn q
      have : ¬ m + 1 < m2 := fun c => by rw [r2 _ c] at this; cases this
      omega
section ZPAG
variable {S M : z_M} {Q : z_V → z_M → Prop}
/-- the queue's state -/
def z_BF (S : z_M) (sp i n : Int) (w : Nat) (N : z_M) : Prop :=
  (1 ≤ n ∧ n ≤ 100 ∧ 0 ≤ i ∧ i ≤ n) ∧
  (∀ j : Int, 0 ≤ j → j < n → 0 ≤ N 1001049 j ∧ N 1001049 j < 100 ∧ 0 ≤ N 1001048 (N 1001049 j) ∧ N 1001048 (N 1001049 j) ≤ j) ∧
  (∀ s : Int, 0 ≤ s → s < 100 → N 1001048 s ≠ 1000 → (∃ j : Int, 0 ≤ j ∧ j < n ∧ N 1001049 j = s) ∧ z_rc S sp (N 1001048 s).toNat s = true) ∧
  (∀ j k : Int, 0 ≤ j → j < k → k < n → N 1001048 (N 1001049 j) ≤ N 1001048 (N 1001049 k)) ∧
  (i < n → ∀ s : Int, 0 ≤ s → s < 100 → N 1001048 s ≠ 1000 → N 1001048 s ≤ N 1001048 (N 1001049 i) + 1) ∧
  (∀ (j : Int) (v : Nat), 0 ≤ j → j < n → (j < i ∨ (j = i ∧ v < w)) → v < 4 → z_nxt (N 1001049 j) (2 * (v : Int)) ≠ -1 → S 1001015 (z_nxt (N 1001049 j) (2 * (v : Int))) = 0 → N 1001048 (z_nxt (N 1001049 j) (2 * (v : Int))) ≠ 1000 ∧ N 1001048 (z_nxt (N 1001049 j) (2 * (v : Int))) ≤ N 1001048 (N 1001049 j) + 1) ∧
  z_cnt (fun s => decide (N 1001048 (s : Int) ≠ 1000)) 100 = n ∧
  N 1001048 sp = 0
theorem z_sit2 {N : z_M} (A B : Nat) (hS : z_sit S M) (h : ∀ k, k ≠ A → k ≠ B → N k = M k) (h1 : ∀ j, z_cor A j = false) (h2 : z_cch A = false) (h3 : ∀ j, z_cor B j = false) (h4 : z_cch B = false) : z_sit S N := z_at_of hS (fun k j hk => congrFun (h k (z_ne1 hk (fun j => h1 j)) (z_ne1 hk (fun j => h3 j))) j) (fun k hk => h k (z_ne0 hk h2) (z_ne0 hk h4))
theorem kc_measure_w (d : Nat) {sp : Int} (hS : z_sit S M) (s0 : 0 ≤ sp) (s1 : sp < 100) (sp0 : S 1001015 sp = 0) (h : ∀ N : z_M, z_sit S N → (∀ s : Int, 0 ≤ s → s < 100 → N 1001048 s = z_D S sp s) → Q z_U N) : z_Cl 0 (d + 2) 165 [z_R 10, z_I sp] M Q := by
  refine re_165 (d + 1) (c_fillI (a := 1001048) (n := 100) rfl rfl (by decide) ⟨s0, s1, by decide, by decide, ?_⟩)
  have fin : ∀ (i n : Int) (N : z_M), z_sit S N → z_BF S sp i n 0 N → n ≤ i → Q z_U N := by
    intro i n N hN hB hi
    obtain ⟨⟨n1, n2, i0, i1⟩, hq, hset, _, _, hcl, _, hsp⟩ := hB
    have claim : ∀ (m : Nat) (s : Int), 0 ≤ s → s < 100 → z_rc S sp m s = true → N 1001048 s ≠ 1000 ∧ N 1001048 s ≤ (m : Int) := by
      intro m
      induction m with
      | zero =>
        intro s _ _ e
        have es : s = sp := of_decide_eq_true e
        rw [es, hsp]; exact ⟨by decide, by decide⟩
      | succ m ih =>
        intro s a b e
        rcases z_rc_inv e with e | ⟨hp, j, hj, hn, e⟩
        · have := ih s a b e
          exact ⟨this.1, by omega⟩
        · have hy : 0 ≤ z_nxt s (2 * (j : Int)) ∧ z_nxt s (2 * (j : Int)) < 100 := by
            rcases z_nxt_in s (2 * (j : Int)) with q | q
            · exact absurd q hn
            · exact q
          obtain ⟨g1, g2⟩ := ih _ hy.1 hy.2 e
          obtain ⟨⟨jj, j0, j1, ej⟩, _⟩ := hset _ hy.1 hy.2 g1
          obtain ⟨v, hv, ev⟩ := z_nxt_sym a b j hj hn
          rw [← ej] at ev
          have := hcl jj v j0 j1 (Or.inl (by omega)) hv (by rw [ev]; omega) (by rw [ev]; exact hp)
          rw [ev, ej] at this
          exact ⟨this.1, by omega⟩
    refine h N hN (fun s a b => ?_)
    by_cases e : N 1001048 s = 1000
    · rw [e, z_D_no (fun m hm => ?_)]
      cases hr : z_rc S sp m s with
      | false => rfl
      | true => exact absurd e (claim m s a b hr).1
    · obtain ⟨⟨j, j0, j1, ej⟩, hr⟩ := hset s a b e
      have hb := hq j j0 j1
      rw [ej] at hb
      have := z_D_eq (S := S) (sp := sp) (s := s) (k := (N 1001048 s).toNat) (by omega) hr (fun m hm => by have := (claim m s a b hm).2; omega)
      rw [this]; omega
  have head : ∀ (f : Nat) (i n : Int) (N : z_M), (100 - i).toNat = f → z_sit S N → z_BF S sp i n 0 N → z_G 0 (d + 2) z_m165 28 [z_R 10, z_I sp, z_I n, z_I i, z_U, z_U] [] N Q := by
    intro f
    induction f with
    | zero =>
      intro i n N hf hN hB
      have hb := hB.1
      exact rg_165_28 (d + 1) ⟨fun c => fin i n N hN hB c, fun c => ⟨fun c2 => absurd c (by omega), fun c2 => absurd c2 (by omega)⟩⟩
    | succ f ih =>
      intro i n N hf hN hB
      refine rg_165_28 (d + 1) ⟨fun c => fin i n N hN hB c, fun c => ⟨fun c2 => absurd hB.1 (by omega), fun c2 => ?_⟩⟩
      have ways : ∀ (g w : Nat) (n : Int) (N : z_M), 4 - w = g → w ≤ 4 → i < n → z_sit S N → z_BF S sp i n w N → z_G 0 (d + 2) z_m165 42 [z_R 10, z_I sp, z_I n, z_I i, z_I (2 * (w : Int)), z_U] [] N Q := by
        intro g
        induction g with
        | zero =>
          intro w n N hg hw hin hN hB
          have ew : w = 4 := by omega
          subst ew
          refine rg_165_42 (d + 1) ⟨fun _ => ?_, fun c => absurd c (by decide)⟩
          obtain ⟨⟨n1, n2, i0, i1⟩, hq, hset, hmono, htop, hcl, hcnt, hsp⟩ := hB
          rw [z_w_id (x := i + 1) (by omega) (by omega)]
          refine ih (i + 1) n N (by omega) hN ?_
          refine ⟨⟨n1, n2, by omega, by omega⟩, hq, hset, hmono, fun c3 s a b e => ?_, fun j v j0 j1 hjv hv hn hp => ?_, hcnt, hsp⟩
          · have := htop hin s a b e
            have := hmono i (i + 1) i0 (by omega) c3
            omega
          · exact hcl j v j0 j1 (by omega) hv hn hp
        | succ g ihg =>
          intro w n N hg hw hin hN hB
          obtain ⟨⟨n1, n2, i0, i1⟩, hq, hset, hmono, htop, hcl, hcnt, hsp⟩ := id hB
          obtain ⟨q0, q1, q2, q3⟩ := hq i i0 hin
          have skip : (∀ (hn : z_nxt (N 1001049 i) (2 * (w : Int)) ≠ -1) (hp : S 1001015 (z_nxt (N 1001049 i) (2 * (w : Int))) = 0), N 1001048 (z_nxt (N 1001049 i) (2 * (w : Int))) ≠ 1000) → z_G 0 (d + 2) z_m165 42 [z_R 10, z_I sp, z_I n, z_I i, z_I (z_w (2 * (w : Int) + 2)), z_U] [] N Q := by
            intro hno
            rw [z_w_id (by omega) (by omega), show 2 * (w : Int) + 2 = 2 * ((w + 1 : Nat) : Int) from by omega]
            refine ihg (w + 1) n N (by omega) (by omega) hin hN ⟨⟨n1, n2, i0, i1⟩, hq, hset, hmono, htop, fun j v j0 j1 hjv hv hn hp => ?_, hcnt, hsp⟩
            by_cases e : j = i ∧ v = w
            · obtain ⟨e1, e2⟩ := e
              subst e1 e2
              have g1 := hno hn hp
              rcases z_nxt_in (N 1001049 j) (2 * (v : Int)) with e3 | ⟨e3, e4⟩
              · exact absurd e3 hn
              · exact ⟨g1, htop hin _ e3 e4 g1⟩
            · exact hcl j v j0 j1 (by omega) hv hn hp
          refine rg_165_42 (d + 1) ⟨fun c3 => absurd c3 (by omega), fun _ => ⟨by omega, by omega, c_next (d + 1) q0 q1 (by omega) (by omega) (z_viI (kc_isPlain d hN (fun x0 x1 xp => z_y1 ⟨x0, x1, ?_⟩) (fun hx => z_n1 (skip (fun hn hp => ?_)))))⟩⟩
          · refine ⟨fun c3 => skip (fun _ _ => c3), fun c3 => ?_⟩
            have hne : z_nxt (N 1001049 i) (2 * (w : Int)) ≠ -1 := by omega
            have eqx : ∀ j : Int, 0 ≤ j → j < n → N 1001049 j ≠ z_nxt (N 1001049 i) (2 * (w : Int)) := by
              intro j j0 j1 e
              have := hq j j0 j1
              rw [e, c3] at this
              omega
            have hrq := (hset _ q0 q1 (by omega)).2
            obtain ⟨v, hv, ev⟩ := z_nxt_sym q0 q1 w (by omega) hne
            have hcn := z_cnt_b (fun s => decide (N 1001048 (s : Int) ≠ 1000)) 100
            generalize hx : z_nxt (N 1001049 i) (2 * (w : Int)) = x at *
            obtain ⟨xn, rfl⟩ := Int.eq_ofNat_of_zero_le x0
            have nlt : n < 100 := by
              have := (z_cnt_lt (P := fun s => decide (N 1001048 (s : Int) ≠ 1000)) (P' := fun _ => true) (fun _ _ => rfl) 100).2 ⟨xn, by omega, decide_eq_false (fun z => z c3), rfl⟩
              have e100 : z_cnt (fun _ => true) 100 = 100 := by decide +kernel
              omega
            have hst : z_w (N 1001048 (N 1001049 i) + 1) = N 1001048 (N 1001049 i) + 1 := z_w_id (by omega) (by omega)
            rw [hst]
            refine ⟨by omega, by omega, q0, q1, x0, x1, by omega, nlt, ?_⟩
            rw [z_w_id (x := n + 1) (by omega) (by omega), z_w_id (x := 2 * (w : Int) + 2) (by omega) (by omega), show 2 * (w : Int) + 2 = 2 * ((w + 1 : Nat) : Int) from by omega]
            -- the new memory
            have fk : ∀ k, k ≠ 1001048 → k ≠ 1001049 → (z_up (z_up N 1001048 (xn : Int) (N 1001048 (N 1001049 i) + 1)) 1001049 n (xn : Int)) k = N k := fun k k1 k2 => by rw [z_up_ne k2, z_up_ne k1]
            have eQ : ∀ j : Int, (z_up (z_up N 1001048 (xn : Int) (N 1001048 (N 1001049 i) + 1)) 1001049 n (xn : Int)) 1001049 j = if j = n then (xn : Int) else N 1001049 j := by
              intro j
              unfold z_up
              rw [if_pos rfl]
              by_cases e : j = n
              · rw [if_pos e, if_pos e]
              · rw [if_neg e, if_neg e, if_neg (by decide)]
            have eS : ∀ s : Int, (z_up (z_up N 1001048 (xn : Int) (N 1001048 (N 1001049 i) + 1)) 1001049 n (xn : Int)) 1001048 s = if s = (xn : Int) then N 1001048 (N 1001049 i) + 1 else N 1001048 s := by
              intro s
              rw [z_up_ne (by decide)]
              unfold z_up
              rw [if_pos rfl]
            have hN2 : z_sit S (z_up (z_up N 1001048 (xn : Int) (N 1001048 (N 1001049 i) + 1)) 1001049 n (xn : Int)) := z_sit2 1001048 1001049 hN fk (fun _ => rfl) rfl (fun _ => rfl) rfl
            generalize z_up (z_up N 1001048 (xn : Int) (N 1001048 (N 1001049 i) + 1)) 1001049 n (xn : Int) = N2 at fk eQ eS hN2
            have qo : ∀ j : Int, j < n → N2 1001049 j = N 1001049 j := fun j hj => by rw [eQ, if_neg (by omega)]
            have so : ∀ s : Int, s ≠ (xn : Int) → N2 1001048 s = N 1001048 s := fun s hs => by rw [eS, if_neg hs]
            have sx : N2 1001048 (xn : Int) = N 1001048 (N 1001049 i) + 1 := by rw [eS, if_pos rfl]
            have sq : ∀ j : Int, 0 ≤ j → j < n → N2 1001048 (N2 1001049 j) = N 1001048 (N 1001049 j) := fun j j0 j1 => by rw [qo j j1]; exact so _ (eqx j j0 j1)
            refine ihg (w + 1) (n + 1) N2 (by omega) (by omega) (by omega) hN2 ⟨⟨by omega, by omega, i0, by omega⟩, fun j j0 j1 => ?_, fun s a b e => ?_, fun j k j0 jk k1 => ?_, fun _ s a b e => ?_, fun j v' j0 j1 hjv hv' hn hp => ?_, ?_, ?_⟩
            · by_cases e : j = n
              · rw [e, eQ, if_pos rfl, sx]
                exact ⟨x0, x1, by omega, by omega⟩
              · have := hq j j0 (by omega)
                rw [sq j j0 (by omega), qo j (by omega)]
                exact this
            · by_cases es : s = (xn : Int)
              · subst es
                refine ⟨⟨n, by omega, by omega, by rw [eQ, if_pos rfl]⟩, ?_⟩
                rw [sx, show (N 1001048 (N 1001049 i) + 1).toNat = (N 1001048 (N 1001049 i)).toNat + 1 from by omega]
                exact z_rc_nb hv xp (by rw [ev]; omega) (by rw [ev]; exact hrq)
              · rw [so s es] at e ⊢
                obtain ⟨⟨j, j0, j1, ej⟩, hr⟩ := hset s a b e
                exact ⟨⟨j, j0, by omega, by rw [qo j j1]; exact ej⟩, hr⟩
            · by_cases e : k = n
              · rw [e, eQ n, if_pos rfl, sx, sq j j0 (by omega)]
                have hj := hq j j0 (by omega)
                exact htop hin _ hj.1 hj.2.1 (by omega)
              · rw [sq j j0 (by omega), sq k (by omega) (by omega)]
                exact hmono j k j0 jk (by omega)
            · rw [sq i i0 hin]
              by_cases es : s = (xn : Int)
              · rw [es, sx]; exact Int.le_refl _
              · rw [so s es] at e ⊢
                exact htop hin s a b e
            · have jn : j < n := by
                rcases hjv with g | g
                · omega
                · omega
              rw [qo j jn] at hn hp ⊢
              rw [so _ (eqx j j0 jn)]
              by_cases ex : z_nxt (N 1001049 j) (2 * (v' : Int)) = (xn : Int)
              · rw [ex, sx]
                refine ⟨by omega, ?_⟩
                by_cases ei : j = i
                · rw [ei]; exact Int.le_refl _
                · have := hcl j v' j0 jn (by omega) hv' hn hp
                  rw [ex, c3] at this
                  exact absurd rfl this.1
              · rw [so _ ex]
                by_cases ei : j = i ∧ v' = w
                · obtain ⟨e1, e2⟩ := ei
                  subst e1 e2
                  exact absurd hx ex
                · exact hcl j v' j0 jn (by omega) hv' hn hp
            · have := z_cnt_put (P := fun s => decide (N 1001048 (s : Int) ≠ 1000)) (P' := fun s => decide (N2 1001048 (s : Int) ≠ 1000)) (i := xn) (fun j => ?_) (decide_eq_false (fun z => z c3)) 100
              · rw [this, hcnt, if_pos (by omega)]
              · show decide (N2 1001048 (j : Int) ≠ 1000) = (decide (N 1001048 (j : Int) ≠ 1000) || decide (j = xn))
                by_cases e : j = xn
                · subst e
                  rw [decide_eq_true (show N2 1001048 (j : Int) ≠ 1000 by rw [sx]; omega), decide_eq_true rfl, Bool.or_true]
                · rw [decide_eq_false e, Bool.or_false, so _ (by omega)]
            · rw [so sp (fun e => ?_)]
              · exact hsp
              · rw [← e, hsp] at c3; exact absurd c3 (by decide)
          · exact absurd ⟨by rcases z_nxt_in (N 1001049 i) (2 * (w : Int)) with e3 | ⟨e3, e4⟩; exact absurd e3 hn; exact e3, by rcases z_nxt_in (N 1001049 i) (2 * (w : Int)) with e3 | ⟨e3, e4⟩; exact absurd e3 hn; exact e4, hp⟩ hx
      have := ways 4 0 n N rfl (by decide) c hN hB
      exact this
  -- the start
  have eQ : (z_up (z_up (z_fl M 1001048 0 100 1000) 1001048 sp 0) 1001049 0 sp) 1001049 0 = sp := z_up_eq
  have eS : ∀ s : Int, 0 ≤ s → s < 100 → (z_up (z_up (z_fl M 1001048 0 100 1000) 1001048 sp 0) 1001049 0 sp) 1001048 s = if s = sp then 0 else 1000 := by
    intro s a b
    rw [z_up_ne (by decide)]
    unfold z_up
    rw [if_pos rfl]
    by_cases e : s = sp
    · rw [if_pos e, if_pos e]
    · rw [if_neg e, if_neg e, z_fl_in a b]
  have hN : z_sit S (z_up (z_up (z_fl M 1001048 0 100 1000) 1001048 sp 0) 1001049 0 sp) := z_sit2 1001048 1001049 hS (fun k k1 k2 => by rw [z_up_ne k2, z_up_ne k1, z_fl_ne k1]) (fun _ => rfl) rfl (fun _ => rfl) rfl
  generalize z_up (z_up (z_fl M 1001048 0 100 1000) 1001048 sp 0) 1001049 0 sp = N at eQ eS hN
  have esp : N 1001048 sp = 0 := by rw [eS sp s0 s1, if_pos rfl]
  refine head 100 0 1 N rfl hN ⟨⟨by decide, by decide, by decide, by decide⟩, fun j j0 j1 => ?_, fun s a b e => ?_, fun j k j0 jk k1 => absurd k1 (by omega), fun _ s a b e => ?_, fun j v j0 j1 hjv hv => ?_, ?_, esp⟩
  · have ej : j = 0 := by omega
    rw [ej, eQ, esp]; exact ⟨s0, s1, by decide, by decide⟩
  · have es : s = sp := by
      by_cases e2 : s = sp
      · exact e2
      · rw [eS s a b, if_neg e2] at e; exact absurd rfl e
    subst es
    refine ⟨⟨0, by decide, by decide, eQ⟩, ?_⟩
    rw [esp]; exact decide_eq_true rfl
  · have es : s = sp := by
      by_cases e2 : s = sp
      · exact e2
      · rw [eS s a b, if_neg e2] at e; exact absurd rfl e
    rw [es, esp]; rw [eQ, esp]; decide
  · rcases hjv with g | g
    · omega
    · omega
  · obtain ⟨n, rfl⟩ := Int.eq_ofNat_of_zero_le s0
    have := z_cnt_put (P := fun _ => false) (P' := fun j => decide (j = n)) (i := n) (fun j => (Bool.false_or _).symm) rfl 100
    rw [if_pos (by omega)] at this
    have e0 : z_cnt (fun _ => false) 100 = 0 := by decide +kernel
    rw [e0] at this
    have cg : ∀ (P P' : Nat → Bool) (m : Nat), (∀ j, j < m → P j = P' j) → z_cnt P m = z_cnt P' m := by
      intro P P' m
      induction m with
      | zero => intro _; rfl
      | succ m ih =>
        intro hh
        show z_cnt P m + zv_b (P m) = z_cnt P' m + zv_b (P' m)
        rw [ih (fun j hj => hh j (by omega)), hh m (by omega)]
    rw [cg (fun s => decide (N 1001048 (s : Int) ≠ 1000)) (fun j => decide (j = n)) 100 (fun j hj => ?_)]
    · rw [this]; rfl
    · show decide (N 1001048 (j : Int) ≠ 1000) = decide (j = n)
      apply decide_eq_decide.mpr
      rw [eS (j : Int) (by omega) (by omega)]
      by_cases e : (j : Int) = (n : Int)
      · rw [if_pos e]; exact ⟨fun _ => by omega, fun _ => by decide⟩
      · rw [if_neg e]; exact ⟨fun z => absurd rfl z, fun z => by omega⟩
/-- the model's levels -/
def zv_m9 (x : Int) : Int := if x = 1000 then 1000000000 else x
def zv_lv (S : z_M) (sp : Int) (n : Nat) (s : Int) : Int := if z_rc S sp n s = true then z_D S sp s else 1000000000
theorem km_isNextTo (d : Nat) {s n : Int} (s0 : 0 ≤ s) (s1 : s < 100) (h1 : (∃ j : Nat, j < 4 ∧ z_nxt s (2 * (j : Int)) ≠ -1 ∧ M 1001119 (z_nxt s (2 * (j : Int))) = n) → Q (z_I 1) M) (h0 : (∀ j : Nat, j < 4 → z_nxt s (2 * (j : Int)) ≠ -1 → M 1001119 (z_nxt s (2 * (j : Int))) ≠ n) → Q (z_I 0) M) : z_Cl 0 (d + 2) 362 [z_R 13, z_I s, z_I n] M Q := by
  refine re_362 (d + 1) ?_
  have := z_lpi (n := 4) (fun _ => ()) (fun q N => N = M ∧ ∀ j : Nat, j < q → z_nxt s (2 * (j : Int)) ≠ -1 → M 1001119 (z_nxt s (2 * (j : Int))) ≠ n) (fun N _ q => z_G 0 (d + 2) z_m362 2 [z_R 13, z_I s, z_I n, z_I (2 * q)] [] N Q) M ⟨rfl, fun j hj => absurd hj (Nat.not_lt_zero j)⟩ (fun q N hq hI nx => ?_) (fun N hI => ?_)
  · exact this
  · obtain ⟨rfl, hno⟩ := hI
    have go : (z_nxt s (2 * (q : Int)) ≠ -1 → N 1001119 (z_nxt s (2 * (q : Int))) ≠ n) → z_G 0 (d + 2) z_m362 2 [z_R 13, z_I s, z_I n, z_I (z_w (2 * (q : Int) + 2))] [] N Q := by
      intro hh
      rw [z_w_id (by omega) (by omega), show 2 * (q : Int) + 2 = 2 * ((q + 1 : Nat) : Int) from by omega]
      refine nx N ⟨rfl, fun j hj => ?_⟩
      by_cases e : j = q
      · rw [e]; exact hh
      · exact hno j (by omega)
    refine rg_362_2 (d + 1) ⟨fun c => absurd c (by omega), fun _ => km_beside d s0 s1 (by omega) (by omega) (z_viI ⟨fun c => go (fun z => absurd c z), fun c => km_beside d s0 s1 (by omega) (by omega) (z_viI ?_)⟩)⟩
    rcases z_nxt_in s (2 * (q : Int)) with e | ⟨e1, e2⟩
    · exact absurd e c
    · exact ⟨e1, e2, fun c2 => go (fun _ => c2), fun c2 => h1 ⟨q, hq, c, c2⟩⟩
  · obtain ⟨rfl, hno⟩ := hI
    exact rg_362_2 (d + 1) ⟨fun _ => h0 hno, fun c => absurd c (by decide)⟩
/-- who is new at a level stands beside the level before -/
theorem z_lv_new {sp s : Int} {n : Nat} (hn : n < 99) (s0 : 0 ≤ s) (s1 : s < 100) (hp : S 1001015 s = 0) (hr : z_rc S sp n s = false) : z_rc S sp (n + 1) s = true ↔ ∃ j : Nat, j < 4 ∧ z_nxt s (2 * (j : Int)) ≠ -1 ∧ z_D S sp (z_nxt s (2 * (j : Int))) = (n : Int) := by
  constructor
  · intro h
    rcases z_rc_inv h with h | ⟨_, j, hj, hne, h2⟩
    · rw [hr] at h; cases h
    · refine ⟨j, hj, hne, ?_⟩
      refine z_D_eq (by omega) h2 (fun m hm => ?_)
      have : ¬ m < n := by
        intro c
        have h3 := z_rc_nb hj hp hne hm
        have h4 := z_rc_up h3 (n - (m + 1))
        rw [show m + 1 + (n - (m + 1)) = n from by omega, hr] at h4
        cases h4
      omega
  · rintro ⟨j, hj, hne, e⟩
    rcases z_D_c S sp (z_nxt s (2 * (j : Int))) with ⟨e2, _⟩ | ⟨m, hm, e2, q, _⟩
    · rw [e2] at e; omega
    · have em : m = n := by omega
      subst em
      exact z_rc_nb hj hp hne q
theorem z_lv_D {sp s : Int} {n : Nat} (hn : n < 99) (hr : z_rc S sp n s = false) (h : z_rc S sp (n + 1) s = true) : z_D S sp s = (n : Int) + 1 := by
  have := z_D_eq (S := S) (sp := sp) (s := s) (k := n + 1) (by omega) h (fun m hm => ?_)
  · rw [this]; omega
  · have : ¬ m < n + 1 := by
      intro c
      have h4 := z_rc_up hm (n - m)
      rw [show m + (n - m) = n from by omega, hr] at h4
      cases h4
    omega
def z_cn (S : z_M) (sp : Int) (n : Nat) : Int := z_cnt (fun s => z_rc S sp n (s : Int)) 100
theorem km_laysFarTo (d : Nat) {sp : Int} (hS : z_sit S M) (hI : z_IS S) (s0 : 0 ≤ sp) (s1 : sp < 100) (h : ∀ N : z_M, z_sit S N → (∀ s : Int, 0 ≤ s → s < 100 → N 1001119 s = zv_m9 (z_D S sp s)) → Q z_U N) : z_Cl 0 (d + 3) 361 [z_R 13, z_I sp] M Q := by
  refine re_361 (d + 2) ?_
  have c100 : ∀ n, z_cn S sp n ≤ 100 := fun n => (z_cnt_b _ 100).2
  have stop : ∀ (n : Nat) (N : z_M), n < 100 → z_sit S N → (∀ s : Int, 0 ≤ s → s < 100 → N 1001119 s = zv_lv S sp n s) → (∀ m : Nat, n ≤ m → ∀ s : Int, 0 ≤ s → s < 100 → z_rc S sp m s = z_rc S sp n s) → Q z_U N := by
    intro n N hn hN hf hst
    refine h N hN (fun s a b => ?_)
    rw [hf s a b]
    unfold zv_lv zv_m9
    by_cases hr : z_rc S sp n s = true
    · rw [if_pos hr]
      rcases z_D_c S sp s with ⟨e, q⟩ | ⟨m, hm, e, _⟩
      · rw [q n hn] at hr; cases hr
      · rw [if_neg (by omega)]
    · rw [if_neg hr]
      have hr' : z_rc S sp n s = false := by cases hq : z_rc S sp n s with
        | true => exact absurd hq hr
        | false => rfl
      rw [z_D_no (fun m hm => ?_), if_pos rfl]
      by_cases c : n ≤ m
      · rw [hst m c s a b]; exact hr'
      · cases hq : z_rc S sp m s with
        | false => rfl
        | true =>
          have := z_rc_up hq (n - m)
          rw [show m + (n - m) = n from by omega, hr'] at this
          cases this
  have head : ∀ (f n : Nat) (N : z_M), 99 - n = f → (n : Int) + 1 ≤ z_cn S sp n → z_sit S N → (∀ s : Int, 0 ≤ s → s < 100 → N 1001119 s = zv_lv S sp n s) → z_G 0 (d + 3) z_m361 36 [z_R 13, z_I sp, z_I 1, z_I (n : Int), z_U] [] N Q := by
    intro f
    induction f with
    | zero =>
      intro n N hf hc hN hfar
      have := c100 n
      have en : n = 99 := by omega
      subst en
      -- all are reached: nothing is new
      have hall : ∀ s : Int, 0 ≤ s → s < 100 → z_rc S sp 99 s = true := by
        intro s a b
        cases hq : z_rc S sp 99 s with
        | true => rfl
        | false =>
          obtain ⟨k, rfl⟩ := Int.eq_ofNat_of_zero_le a
          have := (z_cnt_lt (P := fun s => z_rc S sp 99 (s : Int)) (P' := fun _ => true) (fun _ _ => rfl) 100).2 ⟨k, by omega, hq, rfl⟩
          have e100 : z_cnt (fun _ => true) 100 = 100 := by decide +kernel
          have : z_cn S sp 99 = z_cnt (fun s => z_rc S sp 99 (s : Int)) 100 := rfl
          omega
      refine rg_361_36 (d + 2) ⟨fun c => absurd c (by decide), fun _ => ?_⟩
      refine z_lpi (n := 100) (fun _ => ()) (fun _ N' => N' = N) (fun N' _ q => z_G 0 (d + 3) z_m361 45 [z_R 13, z_I sp, z_I 0, z_I ((99 : Nat) : Int), z_I q] [] N' Q) N rfl (fun q N' hq hN' nx => ?_) (fun N' hN' => ?_)
      · subst hN'
        refine rg_361_45 (d + 2) ⟨fun c => absurd c (by omega), fun _ => ⟨by omega, by omega, fun _ => ?_, fun c => ?_⟩⟩
        · rw [z_wq (by omega)]; exact nx N' rfl
        · rw [hfar (q : Int) (by omega) (by omega)] at c
          unfold zv_lv at c
          rw [if_pos (hall _ (by omega) (by omega))] at c
          have := z_D_b S sp (q : Int)
          omega
      · subst hN'
        refine rg_361_45 (d + 2) ⟨fun _ => rg_361_36 (d + 2) ⟨fun _ => ?_, fun c => absurd rfl c⟩, fun c => absurd c (by decide)⟩
        refine stop 99 N' (by decide) hN hfar (fun m hm s a b => ?_)
        have := z_rc_up (hall s a b) (m - 99)
        rw [show 99 + (m - 99) = m from by omega] at this
        rw [this, hall s a b]
    | succ f ih =>
      intro n N hf hc hN hfar
      have hn : n < 99 := by omega
      refine rg_361_36 (d + 2) ⟨fun c => absurd c (by decide), fun _ => ?_⟩
      refine z_lpi (n := 100) (fun q => zv_b (z_exn (fun s => z_rc S sp (n + 1) (s : Int) && !z_rc S sp n (s : Int)) q)) (fun q N' => z_sit S N' ∧ ∀ s : Int, 0 ≤ s → s < 100 → N' 1001119 s = if s < (q : Int) then zv_lv S sp (n + 1) s else zv_lv S sp n s) (fun N' v q => z_G 0 (d + 3) z_m361 45 [z_R 13, z_I sp, z_I v, z_I (n : Int), z_I q] [] N' Q) N ⟨hN, fun s a b => by rw [if_neg (by omega)]; exact hfar s a b⟩ (fun q N' hq hI' nx => ?_) (fun N' hI' => ?_)
      · obtain ⟨hN', hf'⟩ := hI'
        have eq' := hf' (q : Int) (by omega) (by omega)
        rw [if_neg (by omega)] at eq'
        have ev : z_exn (fun s => z_rc S sp (n + 1) (s : Int) && !z_rc S sp n (s : Int)) (q + 1) = (z_exn (fun s => z_rc S sp (n + 1) (s : Int) && !z_rc S sp n (s : Int)) q || (z_rc S sp (n + 1) (q : Int) && !z_rc S sp n (q : Int))) := rfl
        -- nothing new here
        have keep : (z_rc S sp (n + 1) (q : Int) && !z_rc S sp n (q : Int)) = false → z_G 0 (d + 3) z_m361 45 [z_R 13, z_I sp, z_I (zv_b (z_exn (fun s => z_rc S sp (n + 1) (s : Int) && !z_rc S sp n (s : Int)) q)), z_I (n : Int), z_I (z_w ((q : Int) + 1))] [] N' Q := by
          intro e
          have nx' := nx N' ⟨hN', fun s a b => ?_⟩
          · rw [ev, e, Bool.or_false] at nx'
            rw [z_wq (by omega)]; exact nx'
          · rw [hf' s a b]
            by_cases es : s = (q : Int)
            · subst es
              rw [if_neg (by omega), if_pos (by omega)]
              unfold zv_lv
              cases h1 : z_rc S sp n (q : Int) with
              | true => rw [z_rc_up h1 1]
              | false =>
                rw [h1] at e
                cases h2 : z_rc S sp (n + 1) (q : Int) with
                | true => rw [h2] at e; cases e
                | false => rfl
            · by_cases c : s < (q : Int)
              · rw [if_pos c, if_pos (by omega)]
              · rw [if_neg c, if_neg (by omega)]
        refine rg_361_45 (d + 2) ⟨fun c => absurd c (by omega), fun _ => ⟨by omega, by omega, fun c => keep ?_, fun c => ⟨by omega, by omega, ?_⟩⟩⟩
        · rw [eq'] at c
          unfold zv_lv at c
          by_cases h1 : z_rc S sp n (q : Int) = true
          · rw [h1]; cases z_rc S sp (n + 1) (q : Int) <;> rfl
          · rw [if_neg h1] at c; exact absurd rfl c
        · rw [eq'] at c
          have hr : z_rc S sp n (q : Int) = false := by
            unfold zv_lv at c
            cases h1 : z_rc S sp n (q : Int) with
            | false => rfl
            | true =>
              rw [h1, if_pos rfl] at c
              have := z_D_b S sp (q : Int)
              omega
          rw [z_fn hN' 1001065 rfl, ← hI.2.1.1]
          refine ⟨fun c2 => keep ?_, fun c2 => ?_⟩
          · cases h2 : z_rc S sp (n + 1) (q : Int) with
            | false => rfl
            | true =>
              rcases z_rc_inv h2 with h3 | ⟨h3, _⟩
              · rw [hr] at h3; cases h3
              · exact absurd h3 c2
          · -- the level's own neighbours
            have near : ∀ y : Int, 0 ≤ y → y < 100 → (N' 1001119 y = (n : Int) ↔ z_D S sp y = (n : Int)) := by
              intro y a b
              rw [hf' y a b]
              rcases z_D_c S sp y with ⟨e, g⟩ | ⟨m, hm, e, g, r⟩
              · have l1 : zv_lv S sp (n + 1) y = 1000000000 := by unfold zv_lv; rw [g (n + 1) (by omega), if_neg (by decide)]
                have l2 : zv_lv S sp n y = 1000000000 := by unfold zv_lv; rw [g n (by omega), if_neg (by decide)]
                rw [l1, l2, e]
                split <;> omega
              · have lv : ∀ k : Nat, k < 100 → zv_lv S sp k y = if m ≤ k then (m : Int) else 1000000000 := by
                  intro k hk
                  unfold zv_lv
                  by_cases c3 : m ≤ k
                  · have := z_rc_up g (k - m)
                    rw [show m + (k - m) = k from by omega] at this
                    rw [this, if_pos rfl, if_pos c3, e]
                  · rw [r k (by omega), if_neg (by decide), if_neg c3]
                rw [lv (n + 1) (by omega), lv n (by omega), e]
                split <;> split <;> omega
            have iff := z_lv_new (S := S) (sp := sp) (s := (q : Int)) hn (by omega) (by omega) c2 hr
            refine km_isNextTo (d) (by omega) (by omega) (fun ⟨j, hj, hne, hfj⟩ => z_y2 ⟨by omega, by omega, ?_⟩) (fun hno => z_n2 (keep ?_))
            · have hy : 0 ≤ z_nxt (q : Int) (2 * (j : Int)) ∧ z_nxt (q : Int) (2 * (j : Int)) < 100 := by
                rcases z_nxt_in (q : Int) (2 * (j : Int)) with g | g
                · exact absurd g hne
                · exact g
              have hnew := iff.mpr ⟨j, hj, hne, (near _ hy.1 hy.2).mp hfj⟩
              have eD := z_lv_D hn hr hnew
              have nx' := nx (z_up N' 1001119 (q : Int) ((n : Int) + 1)) ⟨z_at_up hN' _ _ _ rfl rfl, fun s a b => ?_⟩
              · rw [ev, hnew, hr] at nx'
                have e1 : zv_b (z_exn (fun s => z_rc S sp (n + 1) (s : Int) && !z_rc S sp n (s : Int)) q || (true && !false)) = 1 := by
                  rw [show (true && !false) = true from rfl, Bool.or_true]; rfl
                rw [e1] at nx'
                rw [z_wq (by omega), z_w_id (x := (n : Int) + 1) (by omega) (by omega)]
                exact nx'
              · unfold z_up
                rw [if_pos rfl]
                by_cases es : s = (q : Int)
                · rw [if_pos es, es, if_pos (by omega)]
                  unfold zv_lv
                  rw [hnew, if_pos rfl, eD]
                · rw [if_neg es, hf' s a b]
                  by_cases c3 : s < (q : Int)
                  · rw [if_pos c3, if_pos (by omega)]
                  · rw [if_neg c3, if_neg (by omega)]
            · cases h2 : z_rc S sp (n + 1) (q : Int) with
              | false => rfl
              | true =>
                obtain ⟨j, hj, hne, e⟩ := iff.mp h2
                have hy : 0 ≤ z_nxt (q : Int) (2 * (j : Int)) ∧ z_nxt (q : Int) (2 * (j : Int)) < 100 := by
                  rcases z_nxt_in (q : Int) (2 * (j : Int)) with g | g
                  · exact absurd g hne
                  · exact g
                exact absurd ((near _ hy.1 hy.2).mpr e) (hno j hj hne)
      · obtain ⟨hN', hf'⟩ := hI'
        refine rg_361_45 (d + 2) ⟨fun _ => ?_, fun c => absurd c (by decide)⟩
        have hf2 : ∀ s : Int, 0 ≤ s → s < 100 → N' 1001119 s = zv_lv S sp (n + 1) s := fun s a b => by
          have := hf' s a b
          rw [if_pos (by omega)] at this
          exact this
        rw [z_wq (by omega)]
        cases hb : z_exn (fun s => z_rc S sp (n + 1) (s : Int) && !z_rc S sp n (s : Int)) 100 with
        | true =>
          obtain ⟨i, hi, e⟩ := z_exn_t.mp hb
          rw [Bool.and_eq_true] at e
          have := (z_cnt_lt (P := fun s => z_rc S sp n (s : Int)) (P' := fun s => z_rc S sp (n + 1) (s : Int)) (fun j hj => z_rc_up hj 1) 100).2 ⟨i, hi, (by have := e.2; cases h2 : z_rc S sp n (i : Int) with
            | false => rfl
            | true => rw [h2] at this; cases this), e.1⟩
          refine ih (n + 1) N' (by omega) ?_ hN' hf2
          show ((n + 1 : Nat) : Int) + 1 ≤ z_cnt (fun s => z_rc S sp (n + 1) (s : Int)) 100
          have : z_cn S sp n = z_cnt (fun s => z_rc S sp n (s : Int)) 100 := rfl
          omega
        | false =>
          refine rg_361_36 (d + 2) ⟨fun _ => ?_, fun c => absurd rfl c⟩
          have step1 : ∀ s : Int, 0 ≤ s → s < 100 → z_rc S sp (n + 1) s = z_rc S sp n s := by
            intro s a b
            obtain ⟨k, rfl⟩ := Int.eq_ofNat_of_zero_le a
            have := z_exn_f.mp hb k (by omega)
            cases h1 : z_rc S sp n (k : Int) with
            | true => exact z_rc_up h1 1
            | false =>
              cases h2 : z_rc S sp (n + 1) (k : Int) with
              | false => rfl
              | true => rw [h1, h2] at this; cases this
          have stepm : ∀ m : Nat, ∀ s : Int, 0 ≤ s → s < 100 → z_rc S sp (n + 1 + m) s = z_rc S sp (n + 1) s := by
            intro m
            induction m with
            | zero => intro s _ _; rfl
            | succ m ihm =>
              intro s a b
              cases h2 : z_rc S sp (n + 1 + (m + 1)) s with
              | false =>
                cases h3 : z_rc S sp (n + 1) s with
                | false => rfl
                | true => rw [z_rc_up h3 (m + 1)] at h2; cases h2
              | true =>
                have h2' : z_rc S sp ((n + 1 + m) + 1) s = true := h2
                rcases z_rc_inv h2' with h3 | ⟨hp, j, hj, hne, h3⟩
                · rw [ihm s a b] at h3; exact h3.symm
                · have hy : 0 ≤ z_nxt s (2 * (j : Int)) ∧ z_nxt s (2 * (j : Int)) < 100 := by
                    rcases z_nxt_in s (2 * (j : Int)) with g | g
                    · exact absurd g hne
                    · exact g
                  rw [ihm _ hy.1 hy.2, step1 _ hy.1 hy.2] at h3
                  exact (z_rc_nb hj hp hne h3).symm
          refine stop (n + 1) N' (by omega) hN' hf2 (fun m hm s a b => ?_)
          have := stepm (m - (n + 1)) s a b
          rw [show n + 1 + (m - (n + 1)) = m from by omega] at this
          exact this
  have start : ∀ N : z_M, z_sit S N → (∀ s : Int, 0 ≤ s → s < 100 → N 1001119 s = if s = sp then 0 else 1000000000) → z_G 0 (d + 3) z_m361 36 [z_R 13, z_I sp, z_I 1, z_I 0, z_U] [] N Q := by
    intro N hN hfar
    have D0 : z_D S sp sp = 0 := z_D_eq (k := 0) (by decide) (decide_eq_true rfl) (fun n _ => Nat.zero_le n)
    refine head 99 0 N rfl ?_ hN (fun s a b => ?_)
    · obtain ⟨k, rfl⟩ := Int.eq_ofNat_of_zero_le s0
      have := (z_cnt_lt (P := fun _ => false) (P' := fun s => z_rc S (k : Int) 0 (s : Int)) (fun j hj => by cases hj) 100).2 ⟨k, by omega, rfl, decide_eq_true rfl⟩
      have e0 : z_cnt (fun _ => false) 100 = 0 := by decide +kernel
      rw [e0] at this
      exact this
    · rw [hfar s a b]
      unfold zv_lv
      by_cases e : s = sp
      · rw [if_pos e, e, if_pos (show z_rc S sp 0 sp = true from decide_eq_true rfl), D0]
      · rw [if_neg e, if_neg (show ¬ z_rc S sp 0 s = true from fun z => e (of_decide_eq_true z))]
  refine z_lpi (n := 100) (fun _ => ()) (fun q N => z_sit S N ∧ ∀ s : Int, 0 ≤ s → s < (q : Int) → N 1001119 s = if s = sp then 0 else 1000000000) (fun N _ q => z_G 0 (d + 3) z_m361 2 [z_R 13, z_I sp, z_I q, z_U, z_U] [] N Q) M ⟨hS, fun s a b => absurd b (by omega)⟩ (fun q N hq hI0 nx => ?_) (fun N hI0 => ?_)
  · obtain ⟨hN, hf⟩ := hI0
    have put : ∀ x : Int, x = (if (q : Int) = sp then 0 else 1000000000) → z_G 0 (d + 3) z_m361 2 [z_R 13, z_I sp, z_I (z_w ((q : Int) + 1)), z_U, z_U] [] (z_up N 1001119 (q : Int) x) Q := by
      intro x ex
      rw [z_wq (by omega)]
      refine nx _ ⟨z_at_up hN _ _ _ rfl rfl, fun s a b => ?_⟩
      unfold z_up
      rw [if_pos rfl]
      by_cases es : s = (q : Int)
      · rw [if_pos es, ex, es]
      · rw [if_neg es]; exact hf s a (by omega)
    exact rg_361_2 (d + 2) ⟨fun c => absurd c (by omega), fun _ => ⟨fun c => ⟨by omega, by omega, put _ (by rw [if_neg c])⟩, fun c => ⟨by omega, by omega, put _ (by rw [if_pos c])⟩⟩⟩
  · obtain ⟨hN, hf⟩ := hI0
    exact rg_361_2 (d + 2) ⟨fun _ => start N hN (fun s a b => hf s a (by omega)), fun c => absurd c (by decide)⟩
end ZPAG
