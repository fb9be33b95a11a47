/-! OPS: ask, enough; the model's answers by quarters -/
def zy_vd : Nat → Nat → Prop
  | 0, c => c = 0
  | q + 1, c => zy_vd q (c % 4 ^ q) ∧ c / 4 ^ q < 3
theorem zy_vd_lt : ∀ q c, zy_vd q c → c < 4 ^ q := by
  intro q
  induction q with
  | zero => intro c h; have : c = 0 := h; subst this; decide
  | succ q ih =>
    intro c h
    obtain ⟨h1, h2⟩ := h
    have hb : 0 < 4 ^ q := Nat.pow_pos (by decide)
    have e := Nat.div_add_mod c (4 ^ q)
    have h3 := Nat.mod_lt c hb
    have h4 : 4 ^ q * (c / 4 ^ q) ≤ 4 ^ q * 2 := Nat.mul_le_mul_left _ (by omega)
    rw [Nat.pow_succ]
    omega
def zy_sl (f : Nat → Nat → Bool) (fr : Nat) : Nat → Nat → Nat
  | 0, _ => 0
  | q + 1, c => zy_sl f fr q (c % 4 ^ q) ||| (if f (fr + q) (c / 4 ^ q) = true then 2 ^ (fr + q) else 0)
theorem zy_sl_lt {f : Nat → Nat → Bool} {fr : Nat} : ∀ q c, fr + q ≤ 10 → zy_sl f fr q c < 1024 := by
  intro q
  induction q with
  | zero => intro c _; exact (by decide : (0 : Nat) < 1024)
  | succ q ih =>
    intro c h
    unfold zy_sl
    refine Nat.or_lt_two_pow (n := 10) (ih _ (by omega)) ?_
    split
    · exact Nat.pow_lt_pow_right (by decide) (by omega)
    · decide
def zy_mr (f : Nat → Nat → Bool) (x w : Nat) : Nat := if f x w = true then 2 ^ x else 0
theorem zy_4q {q : Nat} (h : q < 5) : 1 ≤ (4 : Nat) ^ q ∧ (4 : Nat) ^ q ≤ 256 := by
  have : ∀ j : Fin 5, 1 ≤ (4 : Nat) ^ j.val ∧ (4 : Nat) ^ j.val ≤ 256 := by decide
  exact this ⟨q, h⟩
theorem zy_i1 {v c : Nat} (h : v < 3) (h2 : c < 256) : z_w (z_w (1024 * (v : Int)) + (c : Int)) = 1024 * (v : Int) + (c : Int) := by rw [z_w_id (x := 1024 * (v : Int)) (by omega) (by omega), z_w_id (by omega) (by omega)]
theorem zy_i2 {v a b c : Nat} (h : v < 3) (h1 : a * b ≤ 512) (h2 : c < 256) : z_w (z_w (z_w (1024 * (v : Int)) + z_w (((a : Nat) : Int) * (b : Int))) + (c : Int)) = 1024 * (v : Int) + ((a * b + c : Nat) : Int) := by
  rw [← Int.natCast_mul]
  generalize a * b = x at *
  rw [z_w_id (x := 1024 * (v : Int)) (by omega) (by omega), z_w_id (x := (x : Int)) (by omega) (by omega), z_w_id (x := 1024 * (v : Int) + (x : Int)) (by omega) (by omega), z_w_id (by omega) (by omega)]
  omega
section ZAS5
variable {S M : z_M} {Q : z_V → z_M → Prop}
def zy_fv (S : z_M) (p : Nat) (t : Int) (v : Nat) : Nat → Nat → Bool := fun q w => zy_is S p t v (3 * q + w)

theorem km_laysSeenl (d : Nat) {p v fr : Nat} {t : Int} (hS : z_sit S M) (hI : z_IPeo S) (hp : p < 10) (hv : v < 3) (pv : zx_pv S p v = true) (hfr : fr = 0 ∨ fr = 5) (hit : zy_it S M p t 3 0) (h : ∀ N : z_M, z_sit S N → (∀ k, k ≠ 30721108 → N k = M k) → (∀ j : Int, (j < 1024 * (v : Int) ∨ 1024 * (v : Int) + 1024 ≤ j) → N 30721108 j = M 30721108 j) → (∀ c, zy_vd 5 c → N 30721108 (1024 * (v : Int) + (c : Int)) = (zy_sl (zy_fv S p t v) fr 5 c : Int)) → Q z_U N) : z_Cl 0 d 327 [z_R 13, z_R 30721108, z_I (v : Int), z_I (fr : Int)] M Q := by
  have hfr2 : fr ≤ 5 := by omega
  refine re_327l d ?_
  rw [z_w_id (x := 1024 * (v : Int)) (by omega) (by omega)]
  refine ⟨by omega, by omega, ?_⟩
  have key : ∀ (r q : Nat) (N : z_M), q + r = 5 → z_sit S N → (∀ k, k ≠ 30721108 → N k = M k) → (∀ j : Int, (j < 1024 * (v : Int) ∨ 1024 * (v : Int) + 1024 ≤ j) → N 30721108 j = M 30721108 j) → (∀ c, zy_vd q c → N 30721108 (1024 * (v : Int) + (c : Int)) = (zy_sl (zy_fv S p t v) fr q c : Int)) → z_G 0 d z_m327 14 [z_R 13, z_R 30721108, z_I (v : Int), z_I (fr : Int), z_I ((4 ^ q : Nat) : Int), z_I ((fr + q : Nat) : Int), z_U, z_U, z_U] [] N Q := by
    intro r
    induction r with
    | zero =>
      intro q N hq a b b2 c
      have : q = 5 := by omega
      subst this
      refine rg_327_14l d ⟨fun _ => h N a b b2 c, fun c => ?_⟩
      rw [z_w_id (by omega) (by omega)] at c
      omega
    | succ r ih =>
      intro q N hq a b b2 c
      have h4 := zy_4q (q := q) (by omega)
      have e4 : (4 : Nat) ^ (q + 1) = 4 ^ q * 4 := Nat.pow_succ ..
      refine rg_327_14l d ⟨fun c => ?_, fun _ => ?_⟩
      · rw [z_w_id (by omega) (by omega)] at c
        omega
      -- the three versions, downwards
      have key2 : ∀ (k : Nat) (N2 : z_M), k ≤ 3 → z_sit S N2 → (∀ k, k ≠ 30721108 → N2 k = M k) → (∀ j : Int, (j < 1024 * (v : Int) ∨ 1024 * (v : Int) + 1024 ≤ j) → N2 30721108 j = M 30721108 j) → (∀ w' c' : Nat, w' < 3 → k ≤ w' → zy_vd q c' → N2 30721108 (1024 * (v : Int) + ((4 ^ q * w' + c' : Nat) : Int)) = ((zy_sl (zy_fv S p t v) fr q c' ||| zy_mr (zy_fv S p t v) (fr + q) w' : Nat) : Int)) → (0 < k → ∀ c', zy_vd q c' → N2 30721108 (1024 * (v : Int) + (c' : Int)) = (zy_sl (zy_fv S p t v) fr q c' : Int)) → z_G 0 d z_m327 25 [z_R 13, z_R 30721108, z_I (v : Int), z_I (fr : Int), z_I ((4 ^ q : Nat) : Int), z_I ((fr + q : Nat) : Int), z_I ((k : Int) - 1), z_U, z_U] [] N2 Q := by
        intro k
        induction k with
        | zero =>
          intro N2 _ a2 b2' b22 A B
          refine rg_327_25l d ⟨fun _ => ?_, fun c => absurd c (by omega)⟩
          have e5 : z_w (((4 ^ q : Nat) : Int) * 4) = ((4 ^ (q + 1) : Nat) : Int) := by
            rw [e4, z_w_id (by omega) (by omega)]; omega
          rw [e5, z_wq (by omega), show fr + q + 1 = fr + (q + 1) from by omega]
          refine ih (q + 1) N2 (by omega) a2 b2' b22 (fun c' hc' => ?_)
          obtain ⟨g1, g2⟩ := hc'
          have := A (c' / 4 ^ q) (c' % 4 ^ q) g2 (Nat.zero_le _) g1
          rw [Nat.div_add_mod] at this
          rw [this]; rfl
        | succ w ihw =>
          intro N2 hw a2 b2' b22 A B
          have hw3 : w < 3 := by omega
          rw [show ((w + 1 : Nat) : Int) - 1 = (w : Int) from by omega]
          have hsw : 4 ^ q * w ≤ 4 ^ q * 2 := Nat.mul_le_mul_left _ (by omega)
          refine rg_327_25l d ⟨fun c => absurd c (by omega), fun _ => ?_⟩
          have ei : N2 9004104 (z_w (z_w (z_w (30 * (v : Int)) + z_w (3 * ((fr + q : Nat) : Int))) + (w : Int))) = zv_b (zy_fv S p t v (fr + q) w) := by
            rw [z_w_id (x := 30 * (v : Int)) (by omega) (by omega), z_w_id (x := 3 * ((fr + q : Nat) : Int)) (by omega) (by omega), z_w_id (x := 30 * (v : Int) + 3 * ((fr + q : Nat) : Int)) (by omega) (by omega), z_w_id (by omega) (by omega), b2' _ (by decide)]
            have := hit v (3 * (fr + q) + w) hv (by omega) pv (Or.inl hv)
            rw [show 30 * (v : Int) + ((3 * (fr + q) + w : Nat) : Int) = 30 * (v : Int) + 3 * ((fr + q : Nat) : Int) + (w : Int) from by omega] at this
            exact this
          have eb : (0 : Int) ≤ z_w (z_w (z_w (30 * (v : Int)) + z_w (3 * ((fr + q : Nat) : Int))) + (w : Int)) ∧ z_w (z_w (z_w (30 * (v : Int)) + z_w (3 * ((fr + q : Nat) : Int))) + (w : Int)) < 900 := by
            rw [z_w_id (x := 30 * (v : Int)) (by omega) (by omega), z_w_id (x := 3 * ((fr + q : Nat) : Int)) (by omega) (by omega), z_w_id (x := 30 * (v : Int) + 3 * ((fr + q : Nat) : Int)) (by omega) (by omega), z_w_id (by omega) (by omega)]
            omega
          have row : z_G 0 d z_m327 63 [z_R 13, z_R 30721108, z_I (v : Int), z_I (fr : Int), z_I ((4 ^ q : Nat) : Int), z_I ((fr + q : Nat) : Int), z_I (w : Int), z_I ((zy_mr (zy_fv S p t v) (fr + q) w : Nat) : Int), z_I 0] [] N2 Q := by
            have mrb : zy_mr (zy_fv S p t v) (fr + q) w < 1024 := by
              unfold zy_mr
              split
              · exact Nat.pow_lt_pow_right (by decide) (by omega : fr + q < 10)
              · decide
            refine z_lpi (n := 4 ^ q) (fun _ => ()) (fun c N3 => z_sit S N3 ∧ (∀ k, k ≠ 30721108 → N3 k = M k) ∧ (∀ j : Int, (j < 1024 * (v : Int) ∨ 1024 * (v : Int) + 1024 ≤ j) → N3 30721108 j = M 30721108 j) ∧ (∀ w' c' : Nat, w' < 3 → (w + 1 ≤ w' ∨ (w' = w ∧ c' < c)) → zy_vd q c' → N3 30721108 (1024 * (v : Int) + ((4 ^ q * w' + c' : Nat) : Int)) = ((zy_sl (zy_fv S p t v) fr q c' ||| zy_mr (zy_fv S p t v) (fr + q) w' : Nat) : Int)) ∧ (∀ c', (0 < w ∨ c ≤ c') → zy_vd q c' → N3 30721108 (1024 * (v : Int) + (c' : Int)) = (zy_sl (zy_fv S p t v) fr q c' : Int))) (fun N3 _ c => z_G 0 d z_m327 63 [z_R 13, z_R 30721108, z_I (v : Int), z_I (fr : Int), z_I ((4 ^ q : Nat) : Int), z_I ((fr + q : Nat) : Int), z_I (w : Int), z_I ((zy_mr (zy_fv S p t v) (fr + q) w : Nat) : Int), z_I c] [] N3 Q) N2 ⟨a2, b2', b22, fun w' c' g1 g2 g3 => A w' c' g1 (by omega) g3, fun c' _ g => B (by omega) c' g⟩ (fun c0 N3 hc0 hI3 nx => ?_) (fun N3 hI3 => ?_)
            · obtain ⟨a3, b3, b33, A3, B3⟩ := hI3
              refine rg_327_63l d ⟨fun c => absurd c (by omega), fun _ => ?_⟩
              rw [zy_i1 hv (show c0 < 256 from by omega), zy_i2 hv (show 4 ^ q * w ≤ 512 from by omega) (show c0 < 256 from by omega), z_wq (by omega)]
              refine ⟨by omega, by omega, by omega, by omega, nx _ ⟨z_at_up a3 _ _ _ rfl rfl, fun k hk => by rw [z_up_ne hk]; exact b3 k hk, fun j hj => by rw [z_up_nj (by omega)]; exact b33 j hj, fun w' c' g1 g2 g3 => ?_, fun c' g1 g2 => ?_⟩⟩
              · have lt' := zy_vd_lt q c' g3
                by_cases e : w' = w ∧ c' = c0
                · rw [e.1, e.2, z_up_eq]
                  rw [e.2] at g3
                  have sb := zy_sl_lt (f := zy_fv S p t v) (fr := fr) q c0 (by omega)
                  rw [B3 c0 (Or.inr (Nat.le_refl _)) g3, z_or_n (by omega) (by omega)]
                · have ne : 4 ^ q * w' + c' ≠ 4 ^ q * w + c0 := by
                    have : w' = 0 ∨ w' = 1 ∨ w' = 2 := by omega
                    have : w = 0 ∨ w = 1 ∨ w = 2 := by omega
                    generalize 4 ^ q = s at *
                    rcases ‹w' = 0 ∨ w' = 1 ∨ w' = 2› with rfl | rfl | rfl <;> rcases ‹w = 0 ∨ w = 1 ∨ w = 2› with rfl | rfl | rfl <;> omega
                  rw [z_up_nj (by omega)]
                  exact A3 w' c' g1 (by omega) g3
              · have lt' := zy_vd_lt q c' g2
                have ne : c' ≠ 4 ^ q * w + c0 := by
                  by_cases e : w = 0
                  · subst e; omega
                  · have : 4 ^ q * 1 ≤ 4 ^ q * w := Nat.mul_le_mul_left _ (by omega)
                    omega
                rw [z_up_nj (by omega)]
                exact B3 c' (by omega) g2
            · obtain ⟨a3, b3, b33, A3, B3⟩ := hI3
              refine rg_327_63l d ⟨fun _ => ?_, fun c => absurd c (by omega)⟩
              rw [z_w_id (x := (w : Int) + -1) (by omega) (by omega)]
              exact ihw N3 (by omega) a3 b3 b33 (fun w' c' g1 g2 g3 => A3 w' c' g1 (by have := zy_vd_lt q c' g3; omega) g3) (fun g c' g2 => B3 c' (Or.inl g) g2)
          rw [ei, z_shl1_n (by omega)]
          refine ⟨eb.1, eb.2, fun c => ?_, fun c => ?_⟩
          · have : zy_mr (zy_fv S p t v) (fr + q) w = 0 := by unfold zy_mr; rw [if_neg (by rw [zx_0ne c]; decide)]
            rw [this] at row; exact row
          · have : zy_mr (zy_fv S p t v) (fr + q) w = 2 ^ (fr + q) := by unfold zy_mr; rw [if_pos (zx_0eq c)]
            rw [this] at row; exact row
      exact key2 3 N (Nat.le_refl 3) a b b2 (fun w' c' g1 g2 _ => by omega) (fun _ c' g => c c' g)
  have := key 5 0 (z_up M 30721108 (1024 * (v : Int)) 0) (by omega) (z_at_up hS _ _ _ rfl rfl) (fun k hk => z_up_ne hk) (fun j hj => z_up_nj (by omega)) (fun c hc => by
    have e : c = 0 := hc
    subst e
    rw [show 1024 * (v : Int) + ((0 : Nat) : Int) = 1024 * (v : Int) from by omega, z_up_eq]; rfl)
  exact this

theorem km_laysSeenh (d : Nat) {p v fr : Nat} {t : Int} (hS : z_sit S M) (hI : z_IPeo S) (hp : p < 10) (hv : v < 3) (pv : zx_pv S p v = true) (hfr : fr = 0 ∨ fr = 5) (hit : zy_it S M p t 3 0) (h : ∀ N : z_M, z_sit S N → (∀ k, k ≠ 30721109 → N k = M k) → (∀ j : Int, (j < 1024 * (v : Int) ∨ 1024 * (v : Int) + 1024 ≤ j) → N 30721109 j = M 30721109 j) → (∀ c, zy_vd 5 c → N 30721109 (1024 * (v : Int) + (c : Int)) = (zy_sl (zy_fv S p t v) fr 5 c : Int)) → Q z_U N) : z_Cl 0 d 327 [z_R 13, z_R 30721109, z_I (v : Int), z_I (fr : Int)] M Q := by
  have hfr2 : fr ≤ 5 := by omega
  refine re_327h d ?_
  rw [z_w_id (x := 1024 * (v : Int)) (by omega) (by omega)]
  refine ⟨by omega, by omega, ?_⟩
  have key : ∀ (r q : Nat) (N : z_M), q + r = 5 → z_sit S N → (∀ k, k ≠ 30721109 → N k = M k) → (∀ j : Int, (j < 1024 * (v : Int) ∨ 1024 * (v : Int) + 1024 ≤ j) → N 30721109 j = M 30721109 j) → (∀ c, zy_vd q c → N 30721109 (1024 * (v : Int) + (c : Int)) = (zy_sl (zy_fv S p t v) fr q c : Int)) → z_G 0 d z_m327 14 [z_R 13, z_R 30721109, z_I (v : Int), z_I (fr : Int), z_I ((4 ^ q : Nat) : Int), z_I ((fr + q : Nat) : Int), z_U, z_U, z_U] [] N Q := by
    intro r
    induction r with
    | zero =>
      intro q N hq a b b2 c
      have : q = 5 := by omega
      subst this
      refine rg_327_14h d ⟨fun _ => h N a b b2 c, fun c => ?_⟩
      rw [z_w_id (by omega) (by omega)] at c
      omega
    | succ r ih =>
      intro q N hq a b b2 c
      have h4 := zy_4q (q := q) (by omega)
      have e4 : (4 : Nat) ^ (q + 1) = 4 ^ q * 4 := Nat.pow_succ ..
      refine rg_327_14h d ⟨fun c => ?_, fun _ => ?_⟩
      · rw [z_w_id (by omega) (by omega)] at c
        omega
      -- the three versions, downwards
      have key2 : ∀ (k : Nat) (N2 : z_M), k ≤ 3 → z_sit S N2 → (∀ k, k ≠ 30721109 → N2 k = M k) → (∀ j : Int, (j < 1024 * (v : Int) ∨ 1024 * (v : Int) + 1024 ≤ j) → N2 30721109 j = M 30721109 j) → (∀ w' c' : Nat, w' < 3 → k ≤ w' → zy_vd q c' → N2 30721109 (1024 * (v : Int) + ((4 ^ q * w' + c' : Nat) : Int)) = ((zy_sl (zy_fv S p t v) fr q c' ||| zy_mr (zy_fv S p t v) (fr + q) w' : Nat) : Int)) → (0 < k → ∀ c', zy_vd q c' → N2 30721109 (1024 * (v : Int) + (c' : Int)) = (zy_sl (zy_fv S p t v) fr q c' : Int)) → z_G 0 d z_m327 25 [z_R 13, z_R 30721109, z_I (v : Int), z_I (fr : Int), z_I ((4 ^ q : Nat) : Int), z_I ((fr + q : Nat) : Int), z_I ((k : Int) - 1), z_U, z_U] [] N2 Q := by
        intro k
        induction k with
        | zero =>
          intro N2 _ a2 b2' b22 A B
          refine rg_327_25h d ⟨fun _ => ?_, fun c => absurd c (by omega)⟩
          have e5 : z_w (((4 ^ q : Nat) : Int) * 4) = ((4 ^ (q + 1) : Nat) : Int) := by
            rw [e4, z_w_id (by omega) (by omega)]; omega
          rw [e5, z_wq (by omega), show fr + q + 1 = fr + (q + 1) from by omega]
          refine ih (q + 1) N2 (by omega) a2 b2' b22 (fun c' hc' => ?_)
          obtain ⟨g1, g2⟩ := hc'
          have := A (c' / 4 ^ q) (c' % 4 ^ q) g2 (Nat.zero_le _) g1
          rw [Nat.div_add_mod] at this
          rw [this]; rfl
        | succ w ihw =>
          intro N2 hw a2 b2' b22 A B
          have hw3 : w < 3 := by omega
          rw [show ((w + 1 : Nat) : Int) - 1 = (w : Int) from by omega]
          have hsw : 4 ^ q * w ≤ 4 ^ q * 2 := Nat.mul_le_mul_left _ (by omega)
          refine rg_327_25h d ⟨fun c => absurd c (by omega), fun _ => ?_⟩
          have ei : N2 9004104 (z_w (z_w (z_w (30 * (v : Int)) + z_w (3 * ((fr + q : Nat) : Int))) + (w : Int))) = zv_b (zy_fv S p t v (fr + q) w) := by
            rw [z_w_id (x := 30 * (v : Int)) (by omega) (by omega), z_w_id (x := 3 * ((fr + q : Nat) : Int)) (by omega) (by omega), z_w_id (x := 30 * (v : Int) + 3 * ((fr + q : Nat) : Int)) (by omega) (by omega), z_w_id (by omega) (by omega), b2' _ (by decide)]
            have := hit v (3 * (fr + q) + w) hv (by omega) pv (Or.inl hv)
            rw [show 30 * (v : Int) + ((3 * (fr + q) + w : Nat) : Int) = 30 * (v : Int) + 3 * ((fr + q : Nat) : Int) + (w : Int) from by omega] at this
            exact this
          have eb : (0 : Int) ≤ z_w (z_w (z_w (30 * (v : Int)) + z_w (3 * ((fr + q : Nat) : Int))) + (w : Int)) ∧ z_w (z_w (z_w (30 * (v : Int)) + z_w (3 * ((fr + q : Nat) : Int))) + (w : Int)) < 900 := by
            rw [z_w_id (x := 30 * (v : Int)) (by omega) (by omega), z_w_id (x := 3 * ((fr + q : Nat) : Int)) (by omega) (by omega), z_w_id (x := 30 * (v : Int) + 3 * ((fr + q : Nat) : Int)) (by omega) (by omega), z_w_id (by omega) (by omega)]
            omega
          have row : z_G 0 d z_m327 63 [z_R 13, z_R 30721109, z_I (v : Int), z_I (fr : Int), z_I ((4 ^ q : Nat) : Int), z_I ((fr + q : Nat) : Int), z_I (w : Int), z_I ((zy_mr (zy_fv S p t v) (fr + q) w : Nat) : Int), z_I 0] [] N2 Q := by
            have mrb : zy_mr (zy_fv S p t v) (fr + q) w < 1024 := by
              unfold zy_mr
              split
              · exact Nat.pow_lt_pow_right (by decide) (by omega : fr + q < 10)
              · decide
            refine z_lpi (n := 4 ^ q) (fun _ => ()) (fun c N3 => z_sit S N3 ∧ (∀ k, k ≠ 30721109 → N3 k = M k) ∧ (∀ j : Int, (j < 1024 * (v : Int) ∨ 1024 * (v : Int) + 1024 ≤ j) → N3 30721109 j = M 30721109 j) ∧ (∀ w' c' : Nat, w' < 3 → (w + 1 ≤ w' ∨ (w' = w ∧ c' < c)) → zy_vd q c' → N3 30721109 (1024 * (v : Int) + ((4 ^ q * w' + c' : Nat) : Int)) = ((zy_sl (zy_fv S p t v) fr q c' ||| zy_mr (zy_fv S p t v) (fr + q) w' : Nat) : Int)) ∧ (∀ c', (0 < w ∨ c ≤ c') → zy_vd q c' → N3 30721109 (1024 * (v : Int) + (c' : Int)) = (zy_sl (zy_fv S p t v) fr q c' : Int))) (fun N3 _ c => z_G 0 d z_m327 63 [z_R 13, z_R 30721109, z_I (v : Int), z_I (fr : Int), z_I ((4 ^ q : Nat) : Int), z_I ((fr + q : Nat) : Int), z_I (w : Int), z_I ((zy_mr (zy_fv S p t v) (fr + q) w : Nat) : Int), z_I c] [] N3 Q) N2 ⟨a2, b2', b22, fun w' c' g1 g2 g3 => A w' c' g1 (by omega) g3, fun c' _ g => B (by omega) c' g⟩ (fun c0 N3 hc0 hI3 nx => ?_) (fun N3 hI3 => ?_)
            · obtain ⟨a3, b3, b33, A3, B3⟩ := hI3
              refine rg_327_63h d ⟨fun c => absurd c (by omega), fun _ => ?_⟩
              rw [zy_i1 hv (show c0 < 256 from by omega), zy_i2 hv (show 4 ^ q * w ≤ 512 from by omega) (show c0 < 256 from by omega), z_wq (by omega)]
              refine ⟨by omega, by omega, by omega, by omega, nx _ ⟨z_at_up a3 _ _ _ rfl rfl, fun k hk => by rw [z_up_ne hk]; exact b3 k hk, fun j hj => by rw [z_up_nj (by omega)]; exact b33 j hj, fun w' c' g1 g2 g3 => ?_, fun c' g1 g2 => ?_⟩⟩
              · have lt' := zy_vd_lt q c' g3
                by_cases e : w' = w ∧ c' = c0
                · rw [e.1, e.2, z_up_eq]
                  rw [e.2] at g3
                  have sb := zy_sl_lt (f := zy_fv S p t v) (fr := fr) q c0 (by omega)
                  rw [B3 c0 (Or.inr (Nat.le_refl _)) g3, z_or_n (by omega) (by omega)]
                · have ne : 4 ^ q * w' + c' ≠ 4 ^ q * w + c0 := by
                    have : w' = 0 ∨ w' = 1 ∨ w' = 2 := by omega
                    have : w = 0 ∨ w = 1 ∨ w = 2 := by omega
                    generalize 4 ^ q = s at *
                    rcases ‹w' = 0 ∨ w' = 1 ∨ w' = 2› with rfl | rfl | rfl <;> rcases ‹w = 0 ∨ w = 1 ∨ w = 2› with rfl | rfl | rfl <;> omega
                  rw [z_up_nj (by omega)]
                  exact A3 w' c' g1 (by omega) g3
              · have lt' := zy_vd_lt q c' g2
                have ne : c' ≠ 4 ^ q * w + c0 := by
                  by_cases e : w = 0
                  · subst e; omega
                  · have : 4 ^ q * 1 ≤ 4 ^ q * w := Nat.mul_le_mul_left _ (by omega)
                    omega
                rw [z_up_nj (by omega)]
                exact B3 c' (by omega) g2
            · obtain ⟨a3, b3, b33, A3, B3⟩ := hI3
              refine rg_327_63h d ⟨fun _ => ?_, fun c => absurd c (by omega)⟩
              rw [z_w_id (x := (w : Int) + -1) (by omega) (by omega)]
              exact ihw N3 (by omega) a3 b3 b33 (fun w' c' g1 g2 g3 => A3 w' c' g1 (by have := zy_vd_lt q c' g3; omega) g3) (fun g c' g2 => B3 c' (Or.inl g) g2)
          rw [ei, z_shl1_n (by omega)]
          refine ⟨eb.1, eb.2, fun c => ?_, fun c => ?_⟩
          · have : zy_mr (zy_fv S p t v) (fr + q) w = 0 := by unfold zy_mr; rw [if_neg (by rw [zx_0ne c]; decide)]
            rw [this] at row; exact row
          · have : zy_mr (zy_fv S p t v) (fr + q) w = 2 ^ (fr + q) := by unfold zy_mr; rw [if_pos (zx_0eq c)]
            rw [this] at row; exact row
      exact key2 3 N (Nat.le_refl 3) a b b2 (fun w' c' g1 g2 _ => by omega) (fun _ c' g => c c' g)
  have := key 5 0 (z_up M 30721109 (1024 * (v : Int)) 0) (by omega) (z_at_up hS _ _ _ rfl rfl) (fun k hk => z_up_ne hk) (fun j hj => z_up_nj (by omega)) (fun c hc => by
    have e : c = 0 := hc
    subst e
    rw [show 1024 * (v : Int) + ((0 : Nat) : Int) = 1024 * (v : Int) from by omega, z_up_eq]; rfl)
  exact this
end ZAS5
