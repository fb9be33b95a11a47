/-! OPS: between, through, maybe, met -/
def z_5 : Nat → Int
  | 0 => 1
  | n + 1 => 5 * z_5 n
theorem z_5_add (m : Nat) : ∀ n : Nat, z_5 m * z_5 n = z_5 (m + n) := by
  intro n
  induction n with
  | zero => exact Int.mul_one _
  | succ n ih =>
    show z_5 m * (5 * z_5 n) = 5 * z_5 (m + n)
    rw [← ih, Int.mul_left_comm]
theorem z_5_b (n : Nat) : 1 ≤ z_5 n := by
  induction n with
  | zero => exact Int.le_refl _
  | succ n ih => show 1 ≤ 5 * z_5 n; omega
theorem z_5_20 {n : Nat} (h : n ≤ 20) : z_5 n ≤ 95367431640625 := by
  have : ∀ j : Fin 21, z_5 j.val ≤ 95367431640625 := by decide +kernel
  exact this ⟨n, by omega⟩
theorem z_gat_b {f : Int → Int} {s B : Int} (hs : 0 ≤ s) (hs1 : s < 100) (hB : 0 ≤ B) (hB2 : B ≤ 95367431640625) (h : ∀ x : Int, 0 ≤ x → x < 100 → 0 ≤ f x ∧ f x ≤ B) : 0 ≤ z_gat f s ∧ z_gat f s ≤ 5 * B := by
  have nb : ∀ w : Int, 0 ≤ z_nb f s w ∧ z_nb f s w ≤ B := by
    intro w
    unfold z_nb
    rcases z_nxt_in s w with e | ⟨e1, e2⟩
    · rw [if_pos e]; omega
    · rw [if_neg (by omega)]; exact h _ e1 e2
  have h0 := h s hs hs1
  have n0 := nb (2 * ((0 : Nat) : Int))
  have n1 := nb (2 * ((1 : Nat) : Int))
  have n2 := nb (2 * ((2 : Nat) : Int))
  have n3 := nb (2 * ((3 : Nat) : Int))
  have g0 : z_gs f s 0 = f s := rfl
  have g1 : z_gs f s 1 = f s + z_nb f s (2 * ((0 : Nat) : Int)) := by show z_wl (z_gs f s 0 + z_nb f s (2 * ((0 : Nat) : Int))) = _; rw [g0]; exact z_wl_id (by omega) (by omega)
  have g2 : z_gs f s 2 = f s + z_nb f s (2 * ((0 : Nat) : Int)) + z_nb f s (2 * ((1 : Nat) : Int)) := by show z_wl (z_gs f s 1 + z_nb f s (2 * ((1 : Nat) : Int))) = _; rw [g1]; exact z_wl_id (by omega) (by omega)
  have g3 : z_gs f s 3 = f s + z_nb f s (2 * ((0 : Nat) : Int)) + z_nb f s (2 * ((1 : Nat) : Int)) + z_nb f s (2 * ((2 : Nat) : Int)) := by show z_wl (z_gs f s 2 + z_nb f s (2 * ((2 : Nat) : Int))) = _; rw [g2]; exact z_wl_id (by omega) (by omega)
  have g4 : z_gs f s 4 = f s + z_nb f s (2 * ((0 : Nat) : Int)) + z_nb f s (2 * ((1 : Nat) : Int)) + z_nb f s (2 * ((2 : Nat) : Int)) + z_nb f s (2 * ((3 : Nat) : Int)) := by show z_wl (z_gs f s 3 + z_nb f s (2 * ((3 : Nat) : Int))) = _; rw [g3]; exact z_wl_id (by omega) (by omega)
  unfold z_gat
  rw [g4]
  omega
theorem z_wa_b (S : z_M) (fr but a : Int) : ∀ (k : Nat) (s : Int), k ≤ 20 → 0 ≤ s → s < 100 → 0 ≤ z_wa S fr but a k s ∧ z_wa S fr but a k s ≤ z_5 k := by
  intro k
  induction k with
  | zero =>
    intro s _ _ _
    show 0 ≤ (if z_can S but a s = true then (if s = fr then (1 : Int) else 0) else 0) ∧ (if z_can S but a s = true then (if s = fr then (1 : Int) else 0) else 0) ≤ 1
    split
    · split <;> omega
    · omega
  | succ k ih =>
    intro s hk s0 s1
    have h5 := z_5_b (k + 1)
    show 0 ≤ (if z_can S but (a + ((k + 1 : Nat) : Int)) s = true then z_gat (z_wa S fr but a k) s else 0) ∧ (if z_can S but (a + ((k + 1 : Nat) : Int)) s = true then z_gat (z_wa S fr but a k) s else 0) ≤ z_5 (k + 1)
    split
    · have := z_gat_b (f := z_wa S fr but a k) s0 s1 (B := z_5 k) (by have := z_5_b k; omega) (z_5_20 (by omega)) (fun x x0 x1 => ih x (by omega) x0 x1)
      exact this
    · omega
theorem z_wb2_b (S : z_M) (to : Int) : ∀ (k : Nat) (s : Int), k ≤ 20 → 0 ≤ s → s < 100 → 0 ≤ z_wb2 S to k s ∧ z_wb2 S to k s ≤ z_5 k := by
  intro k
  induction k with
  | zero =>
    intro s _ _ _
    show 0 ≤ (if S 1001015 s = 0 then (if s = to then (1 : Int) else 0) else 0) ∧ (if S 1001015 s = 0 then (if s = to then (1 : Int) else 0) else 0) ≤ 1
    split
    · split <;> omega
    · omega
  | succ k ih =>
    intro s hk s0 s1
    have h5 := z_5_b (k + 1)
    show 0 ≤ (if S 1001015 s = 0 then z_gat (z_wb2 S to k) s else 0) ∧ (if S 1001015 s = 0 then z_gat (z_wb2 S to k) s else 0) ≤ z_5 (k + 1)
    split
    · have := z_gat_b (f := z_wb2 S to k) s0 s1 (B := z_5 k) (by have := z_5_b k; omega) (z_5_20 (by omega)) (fun x x0 x1 => ih x (by omega) x0 x1)
      exact this
    · omega
/-- the product never wraps -/
theorem z_prod {x y : Int} {k j : Nat} (hkj : k + j ≤ 20) (hx : 0 ≤ x ∧ x ≤ z_5 k) (hy : 0 ≤ y ∧ y ≤ z_5 j) : z_wl (x * y) = x * y ∧ 0 ≤ x * y := by
  have h1 : x * y ≤ z_5 k * z_5 j := Int.mul_le_mul hx.2 hy.2 hy.1 (by have := z_5_b k; omega)
  rw [z_5_add] at h1
  have h2 := z_5_20 hkj
  have h3 : 0 ≤ x * y := Int.mul_nonneg hx.1 hy.1
  exact ⟨z_wl_id (by omega) (by omega), h3⟩
section ZWAO
variable {S M : z_M} {Q : z_V → z_M → Prop}
abbrev z_str (S : z_M) (fr a to b : Int) : Prop := (0 ≤ fr ∧ fr < 100 ∧ S 1001015 fr = 0) ∧ (0 ≤ to ∧ to < 100 ∧ S 1001015 to = 0) ∧ 0 ≤ a ∧ a ≤ b ∧ b < 96 ∧ b - a ≤ 20
theorem kc_open_w (d : Nat) {fr a to b : Int} (hS : z_sit S M) (h1 : z_str S fr a to b → ∀ N : z_M, z_sit S N → N 10 6 = fr → N 10 7 = to → N 10 8 = a → N 10 9 = b - a → Q (z_I 1) N) (h0 : ¬ z_str S fr a to b → Q (z_I 0) M) : z_Cl 0 (d + 2) 156 [z_R 10, z_I fr, z_I a, z_I to, z_I b] M Q := by
  refine re_156 (d + 1) (kc_isMinute (d + 1) (fun a0 a1 => z_y1 (kc_isMinute (d + 1) (fun b0 b1 => z_y1 ⟨fun c => h0 (fun z => by have := z.2.2.2.1; omega), fun c => ?_⟩) (fun c => z_n1 (h0 (fun z => by have := z.2.2.1; have := z.2.2.2.1; have := z.2.2.2.2.1; omega))))) (fun c => z_n1 (h0 (fun z => by have := z.2.2.1; have := z.2.2.2.1; have := z.2.2.2.2.1; omega))))
  rw [z_w_id (x := b - a) (by omega) (by omega)]
  refine ⟨fun c2 => h0 (fun z => by have := z.2.2.2.2.2; omega), fun c2 => kc_isPlain d hS (fun f0 f1 fp => z_y1 (kc_isPlain d hS (fun t0 t1 tp => z_y2 ?_) (fun q => z_n2 (h0 (fun z => q z.2.1))))) (fun q => z_n1 (h0 (fun z => q z.1)))⟩
  exact h1 ⟨⟨f0, f1, fp⟩, ⟨t0, t1, tp⟩, a0, c, b1, c2⟩ _ (z_at_up (z_at_up (z_at_up (z_at_up hS _ _ _ rfl rfl) _ _ _ rfl rfl) _ _ _ rfl rfl) _ _ _ rfl rfl) rfl rfl rfl rfl
theorem km_isStretch (d : Nat) {fr a to b : Int} (hS : z_sit S M) (hI : z_IS S) (h1 : z_str S fr a to b → Q (z_I 1) M) (h0 : ¬ z_str S fr a to b → Q (z_I 0) M) (ia : z_i32 a) (ib : z_i32 b) : z_Cl 0 (d + 2) 335 [z_R 13, z_I fr, z_I a, z_I to, z_I b] M Q := by
  refine re_335 (d + 1) (km_isSpot d (fun f0 f1 => z_y1 (km_isSpot d (fun t0 t1 => z_y1 ⟨f0, f1, ?_⟩) (fun c => z_n1 (h0 (fun z => by have := z.2.1; omega))))) (fun c => z_n1 (h0 (fun z => by have := z.1; omega))))
  rw [z_fn hS 1001065 rfl, ← hI.2.1.1]
  refine ⟨fun c => h0 (fun z => c z.1.2.2), fun fp => ⟨t0, t1, fun c => h0 (fun z => c z.2.1.2.2), fun tp => km_isMinute d (fun a0 a1 => z_y1 (km_isMinute d (fun b0 b1 => z_y1 ?_) (fun c => z_n1 (h0 (fun z => by have := z.2.2.1; have := z.2.2.2.1; have := z.2.2.2.2.1; omega))))) (fun c => z_n1 (h0 (fun z => by have := z.2.2.1; have := z.2.2.2.1; have := z.2.2.2.2.1; omega)))⟩⟩
  rw [z_w_id (x := b - a) (by omega) (by omega)]
  exact km_lies (d + 1) (fun c c2 => z_y1 (h1 ⟨⟨f0, f1, fp⟩, ⟨t0, t1, tp⟩, a0, by omega, b1, c2⟩)) (fun c => z_n1 (h0 (fun z => by have := z.2.2.2.1; have := z.2.2.2.2.2; omega)))
def z_o21 (S : z_M) (fr a to b : Int) : Int := if z_str S fr a to b then z_wa S fr (-1) a (b - a).toNat to else -1
theorem kc_between (d : Nat) {fr a to b : Int} (hS : z_sit S M) (hI : z_IS S) (h : ∀ M' : z_M, z_sit S M' → Q (z_J (z_o21 S fr a to b)) M') : z_Cl 0 (d + 5) 188 [z_R 1, z_I fr, z_I a, z_I to, z_I b] M Q := by
  unfold z_o21 at h
  refine re_188 (d + 4) (kc_open_w (d + 2) hS (fun hz N hN e6 e7 e8 e9 => z_y1 (re_157 (d + 3) ?_)) (fun hz => z_n1 ?_))
  · obtain ⟨⟨f0, f1, fp⟩, ⟨t0, t1, tp⟩, a0, ab, b1, ba⟩ := id hz
    refine kc_countAhead d hN hI f0 f1 fp (Or.inl rfl) a0 (L := b - a) (by omega) ba (by omega) e6 e8 e9 (fun N2 F R => ?_)
    rw [F 10 (by decide), e9, e7, z_w_id (x := 100 * (b - a)) (by omega) (by omega), z_w_id (x := 100 * (b - a) + to) (by omega) (by omega)]
    refine ⟨by omega, by omega, ?_⟩
    have e := R (b - a).toNat (by omega) to t0 t1
    rw [show (((b - a).toNat : Nat) : Int) = b - a from by omega] at e
    rw [e]
    have h0 := h N2 (z_o1a_sit hN F (fun _ => rfl) rfl)
    rw [if_pos hz] at h0
    exact h0
  · have h0 := h M hS
    rw [if_neg hz] at h0; exact h0
theorem km_between (d : Nat) {fr a to b : Int} (hS : z_sit S M) (hI : z_IS S) (ia : z_i32 a) (ib : z_i32 b) (h : ∀ M' : z_M, z_sit S M' → Q (z_J (z_o21 S fr a to b)) M') : z_Cl 0 (d + 4) 339 [z_R 13, z_I fr, z_I a, z_I to, z_I b] M Q := by
  unfold z_o21 at h
  refine re_339 (d + 3) (km_isStretch (d + 1) hS hI (fun hz => z_y2 ?_) (fun hz => z_n2 ?_) ia ib)
  · obtain ⟨⟨f0, f1, fp⟩, ⟨t0, t1, tp⟩, a0, ab, b1, ba⟩ := id hz
    refine km_laysTo d hS hI f0 f1 (Or.inl rfl) a0 ab b1 ba (fun N2 F R => ?_)
    rw [z_w_id (x := b - a) (by omega) (by omega), z_w_id (x := 100 * (b - a)) (by omega) (by omega), z_w_id (x := 100 * (b - a) + to) (by omega) (by omega)]
    refine ⟨by omega, by omega, ?_⟩
    have e := R (b - a).toNat (by omega) to t0 t1
    rw [show (((b - a).toNat : Nat) : Int) = b - a from by omega] at e
    rw [e]
    have h0 := h N2 (z_o1a_sit hS F (fun _ => rfl) rfl)
    rw [if_pos hz] at h0
    exact h0
  · have h0 := h M hS
    rw [if_neg hz] at h0; exact h0
def z_o22 (S : z_M) (fr a to b s m : Int) : Int := if z_str S fr a to b ∧ (0 ≤ s ∧ s < 100) ∧ a ≤ m ∧ m ≤ b then z_wa S fr (-1) a (m - a).toNat s * z_wb2 S to (b - m).toNat s else -1
theorem kc_through (d : Nat) {fr a to b s m : Int} (hS : z_sit S M) (hI : z_IS S) (h : ∀ M' : z_M, z_sit S M' → Q (z_J (z_o22 S fr a to b s m)) M') : z_Cl 0 (d + 5) 189 [z_R 1, z_I fr, z_I a, z_I to, z_I b, z_I s, z_I m] M Q := by
  unfold z_o22 at h
  have no : ¬ (z_str S fr a to b ∧ (0 ≤ s ∧ s < 100) ∧ a ≤ m ∧ m ≤ b) → ∀ N : z_M, z_sit S N → Q (z_J (-1)) N := fun c N hN => by have h0 := h N hN; rw [if_neg c] at h0; exact h0
  refine re_189 (d + 4) (kc_open_w (d + 2) hS (fun hz N hN e6 e7 e8 e9 => z_y1 (kc_isSpot (d + 4) (fun s0 s1 => z_y1 ⟨fun c => no (fun z => by have := z.2.2; omega) N hN, fun c => ⟨fun c2 => re_158 (d + 3) ?_, fun c2 => no (fun z => by have := z.2.2; omega) N hN⟩⟩) (fun c => z_n1 (no (fun z => by have := z.2.1; omega) N hN)))) (fun hz => z_n1 (no (fun z => hz z.1) M hS)))
  obtain ⟨⟨f0, f1, fp⟩, ⟨t0, t1, tp⟩, a0, ab, b1, ba⟩ := id hz
  refine kc_countAhead d hN hI f0 f1 fp (Or.inl rfl) a0 (L := b - a) (by omega) ba (by omega) e6 e8 e9 (fun N2 F R => ?_)
  have hN2 := z_o1a_sit hN F (fun _ => rfl) rfl
  have f10 := F 10 (by decide)
  refine kc_countBehind d hN2 t0 t1 tp (L := b - a) (by omega) ba (by rw [f10]; exact e7) (by rw [f10]; exact e9) (fun N3 F3 R3 => ?_)
  have hN3 := z_o1a_sit hN2 F3 (fun _ => rfl) rfl
  rw [F3 10 (by decide), f10, e8, F3 21002046 (by decide), z_w_id (x := m - a) (by omega) (by omega), z_w_id (x := 100 * (m - a)) (by omega) (by omega), z_w_id (x := 100 * (m - a) + s) (by omega) (by omega)]
  refine ⟨by omega, by omega, by omega, by omega, ?_⟩
  have e := R (m - a).toNat (by omega) s s0 s1
  rw [show (((m - a).toNat : Nat) : Int) = m - a from by omega] at e
  have e3 := R3 (b - m).toNat (by omega) s s0 s1
  rw [show b - a - (((b - m).toNat : Nat) : Int) = m - a from by omega] at e3
  rw [e, e3, (z_prod (k := (m - a).toNat) (j := (b - m).toNat) (by omega) (z_wa_b S fr (-1) a _ s (by omega) s0 s1) (z_wb2_b S to _ s (by omega) s0 s1)).1]
  have h0 := h N3 hN3
  rw [if_pos ⟨hz, ⟨s0, s1⟩, c, c2⟩] at h0
  exact h0
theorem km_through (d : Nat) {fr a to b s m : Int} (hS : z_sit S M) (hI : z_IS S) (ia : z_i32 a) (ib : z_i32 b) (h : ∀ M' : z_M, z_sit S M' → Q (z_J (z_o22 S fr a to b s m)) M') : z_Cl 0 (d + 4) 341 [z_R 13, z_I fr, z_I a, z_I to, z_I b, z_I s, z_I m] M Q := by
  unfold z_o22 at h
  have no : ¬ (z_str S fr a to b ∧ (0 ≤ s ∧ s < 100) ∧ a ≤ m ∧ m ≤ b) → Q (z_J (-1)) M := fun c => by have h0 := h M hS; rw [if_neg c] at h0; exact h0
  refine re_341 (d + 3) (km_isStretch (d + 1) hS hI (fun hz => z_y1 (km_isSpot (d + 2) (fun s0 s1 => z_y1 (km_lies (d + 3) (fun c c2 => z_y2 ?_) (fun c => z_n2 (no (fun z => by have := z.2.2; omega))))) (fun c => z_n1 (no (fun z => by have := z.2.1; omega))))) (fun hz => z_n1 (no (fun z => hz z.1))) ia ib)
  obtain ⟨⟨f0, f1, fp⟩, ⟨t0, t1, tp⟩, a0, ab, b1, ba⟩ := id hz
  refine km_laysTo d hS hI f0 f1 (Or.inl rfl) a0 ab b1 ba (fun N2 F R => ?_)
  have hN2 := z_o1a_sit hS F (fun _ => rfl) rfl
  refine km_laysFrom d hN2 hI a0 ab b1 ba (fun N3 F3 R3 => ?_)
  have hN3 := z_o1a_sit hN2 F3 (fun _ => rfl) rfl
  refine re_340 (d + 3) ?_
  rw [F3 21002110 (by decide), z_w_id (x := m - a) (by omega) (by omega), z_w_id (x := 100 * (m - a)) (by omega) (by omega), z_w_id (x := 100 * (m - a) + s) (by omega) (by omega)]
  refine ⟨by omega, by omega, by omega, by omega, ?_⟩
  have e := R (m - a).toNat (by omega) s s0 s1
  rw [show (((m - a).toNat : Nat) : Int) = m - a from by omega] at e
  have e3 := R3 (b - m).toNat (by omega) s s0 s1
  rw [show b - a - (((b - m).toNat : Nat) : Int) = m - a from by omega] at e3
  rw [e, e3, (z_prod (k := (m - a).toNat) (j := (b - m).toNat) (by omega) (z_wa_b S fr (-1) a _ s (by omega) s0 s1) (z_wb2_b S to _ s (by omega) s0 s1)).1]
  have h0 := h N3 hN3
  rw [if_pos ⟨hz, ⟨s0, s1⟩, c, c2⟩] at h0
  exact h0
def z_myb (S : z_M) (fr a to b m : Int) (s : Nat) : Bool := decide (z_wa S fr (-1) a (m - a).toNat (s : Int) ≠ 0 ∧ z_wb2 S to (b - m).toNat (s : Int) ≠ 0)
def z_o23 (S : z_M) (fr a to b m : Int) : Int := if z_str S fr a to b ∧ a ≤ m ∧ m ≤ b then z_cnt (z_myb S fr a to b m) 100 else -1
theorem kc_maybe (d : Nat) {fr a to b m : Int} (hS : z_sit S M) (hI : z_IS S) (h : ∀ M' : z_M, z_sit S M' → Q (z_I (z_o23 S fr a to b m)) M') : z_Cl 0 (d + 5) 190 [z_R 1, z_I fr, z_I a, z_I to, z_I b, z_I m] M Q := by
  unfold z_o23 at h
  have no : ¬ (z_str S fr a to b ∧ a ≤ m ∧ m ≤ b) → ∀ N : z_M, z_sit S N → Q (z_I (-1)) N := fun c N hN => by have h0 := h N hN; rw [if_neg c] at h0; exact h0
  refine re_190 (d + 4) (kc_open_w (d + 2) hS (fun hz N hN e6 e7 e8 e9 => z_y1 ⟨fun c => no (fun z => by have := z.2; omega) N hN, fun c => ⟨fun c2 => no (fun z => by have := z.2; omega) N hN, fun c2 => re_159 (d + 3) ?_⟩⟩) (fun hz => z_n1 (no (fun z => hz z.1) M hS)))
  obtain ⟨⟨f0, f1, fp⟩, ⟨t0, t1, tp⟩, a0, ab, b1, ba⟩ := id hz
  refine kc_countAhead d hN hI f0 f1 fp (Or.inl rfl) a0 (L := b - a) (by omega) ba (by omega) e6 e8 e9 (fun N2 F R => ?_)
  have hN2 := z_o1a_sit hN F (fun _ => rfl) rfl
  have f10 := F 10 (by decide)
  refine kc_countBehind d hN2 t0 t1 tp (L := b - a) (by omega) ba (by rw [f10]; exact e7) (by rw [f10]; exact e9) (fun N3 F3 R3 => ?_)
  have hN3 := z_o1a_sit hN2 F3 (fun _ => rfl) rfl
  have g8 : N3 10 8 = a := by rw [F3 10 (by decide), f10]; exact e8
  rw [g8, z_w_id (x := m - a) (by omega) (by omega), z_w_id (x := 100 * (m - a)) (by omega) (by omega)]
  have h0 := h N3 hN3
  rw [if_pos ⟨hz, c, c2⟩] at h0
  have := z_lpi (n := 100) (fun q => z_cnt (z_myb S fr a to b m) q) (fun _ N => N = N3) (fun N v q => z_G 0 (d + 4) z_m159 21 [z_R 10, z_I m, z_I v, z_I (100 * (m - a) + q)] [] N (fun v2 M2 => z_vi v2 fun x2 => Q (z_I x2) M2)) N3 rfl (fun q N4 hq hN4 nx => ?_) (fun N4 hN4 => ?_)
  · rw [Int.add_zero] at this; exact this
  · subst hN4
    have nx' := nx N4 rfl
    have bb := z_cnt_b (z_myb S fr a to b m) q
    have e2 : z_cnt (z_myb S fr a to b m) (q + 1) = z_cnt (z_myb S fr a to b m) q + zv_b (z_myb S fr a to b m q) := rfl
    rw [e2, show 100 * (m - a) + ((q + 1 : Nat) : Int) = 100 * (m - a) + (q : Int) + 1 from by omega] at nx'
    have e := R (m - a).toNat (by omega) (q : Int) (by omega) (by omega)
    rw [show (((m - a).toNat : Nat) : Int) = m - a from by omega] at e
    have e3 := R3 (b - m).toNat (by omega) (q : Int) (by omega) (by omega)
    rw [show b - a - (((b - m).toNat : Nat) : Int) = m - a from by omega] at e3
    refine rg_159_21 (d + 3) ?_
    rw [g8, z_w_id (x := m - a) (by omega) (by omega), z_w_id (x := m - a + 1) (by omega) (by omega), z_w_id (x := 100 * (m - a + 1)) (by omega) (by omega), F3 21002046 (by decide), e, e3, z_w_id (x := 100 * (m - a) + (q : Int) + 1) (by omega) (by omega), z_w_id (x := z_cnt (z_myb S fr a to b m) q + 1) (by omega) (by omega), z_w_id (x := z_cnt (z_myb S fr a to b m) q + 0) (by omega) (by omega)]
    simp only [z_cmp_e0]
    unfold z_myb at nx' ⊢
    refine ⟨fun c3 => absurd c3 (by omega), fun _ => ⟨by omega, by omega, fun c3 => ?_, fun c3 => ⟨by omega, by omega, fun c4 => ?_, fun c4 => ?_⟩⟩⟩
    · rw [decide_eq_false (fun z => z.1 c3)] at nx'; exact nx'
    · rw [decide_eq_false (fun z => z.2 c4)] at nx'; exact nx'
    · rw [decide_eq_true ⟨c3, c4⟩] at nx'; exact nx'
  · subst hN4
    refine rg_159_21 (d + 3) ?_
    rw [g8, z_w_id (x := m - a) (by omega) (by omega), z_w_id (x := m - a + 1) (by omega) (by omega), z_w_id (x := 100 * (m - a + 1)) (by omega) (by omega)]
    exact ⟨fun _ => z_viI h0, fun c3 => absurd c3 (by omega)⟩
theorem km_maybe (d : Nat) {fr a to b m : Int} (hS : z_sit S M) (hI : z_IS S) (ia : z_i32 a) (ib : z_i32 b) (h : ∀ M' : z_M, z_sit S M' → Q (z_I (z_o23 S fr a to b m)) M') : z_Cl 0 (d + 4) 342 [z_R 13, z_I fr, z_I a, z_I to, z_I b, z_I m] M Q := by
  unfold z_o23 at h
  have no : ¬ (z_str S fr a to b ∧ a ≤ m ∧ m ≤ b) → Q (z_I (-1)) M := fun c => by have h0 := h M hS; rw [if_neg c] at h0; exact h0
  refine re_342 (d + 3) (km_isStretch (d + 1) hS hI (fun hz => z_y1 (km_lies (d + 3) (fun c c2 => z_y2 ?_) (fun c => z_n2 (no (fun z => by have := z.2; omega))))) (fun hz => z_n1 (no (fun z => hz z.1))) ia ib)
  obtain ⟨⟨f0, f1, fp⟩, ⟨t0, t1, tp⟩, a0, ab, b1, ba⟩ := id hz
  refine km_laysTo d hS hI f0 f1 (Or.inl rfl) a0 ab b1 ba (fun N2 F R => ?_)
  have hN2 := z_o1a_sit hS F (fun _ => rfl) rfl
  refine km_laysFrom d hN2 hI a0 ab b1 ba (fun N3 F3 R3 => ?_)
  have hN3 := z_o1a_sit hN2 F3 (fun _ => rfl) rfl
  have h0 := h N3 hN3
  rw [if_pos ⟨hz, c, c2⟩] at h0
  refine z_lpi (n := 100) (fun q => z_cnt (z_myb S fr a to b m) q) (fun _ N => N = N3) (fun N v q => z_G 0 (d + 4) z_m342 51 [z_R 13, z_I fr, z_I a, z_I to, z_I b, z_I m, z_I v, z_I q] [] N Q) N3 rfl (fun q N4 hq hN4 nx => ?_) (fun N4 hN4 => ?_)
  · subst hN4
    have nx' := nx N4 rfl
    have bb := z_cnt_b (z_myb S fr a to b m) q
    have e2 : z_cnt (z_myb S fr a to b m) (q + 1) = z_cnt (z_myb S fr a to b m) q + zv_b (z_myb S fr a to b m q) := rfl
    rw [e2] at nx'
    have e := R (m - a).toNat (by omega) (q : Int) (by omega) (by omega)
    rw [show (((m - a).toNat : Nat) : Int) = m - a from by omega] at e
    have e3 := R3 (b - m).toNat (by omega) (q : Int) (by omega) (by omega)
    rw [show b - a - (((b - m).toNat : Nat) : Int) = m - a from by omega] at e3
    refine rg_342_51 (d + 3) ⟨fun c3 => absurd c3 (by omega), fun _ => re_340 (d + 3) ?_⟩
    rw [F3 21002110 (by decide), z_w_id (x := m - a) (by omega) (by omega), z_w_id (x := 100 * (m - a)) (by omega) (by omega), z_w_id (x := 100 * (m - a) + (q : Int)) (by omega) (by omega), e, e3]
    have b1' := z_wa_b S fr (-1) a (m - a).toNat (q : Int) (by omega) (by omega) (by omega)
    have b2' := z_wb2_b S to (b - m).toNat (q : Int) (by omega) (by omega) (by omega)
    obtain ⟨p1, p2⟩ := z_prod (k := (m - a).toNat) (j := (b - m).toNat) (by omega) b1' b2'
    rw [p1]
    refine ⟨by omega, by omega, by omega, by omega, ?_⟩
    unfold z_myb at nx'
    show z_vl (z_J _) _
    unfold z_vl
    dsimp only
    rw [z_wq (by omega), z_w_id (x := z_cnt (z_myb S fr a to b m) q + 1) (by omega) (by omega), z_w_id (x := z_cnt (z_myb S fr a to b m) q + 0) (by omega) (by omega)]
    simp only [z_cmp_le, z_cmp_gt]
    refine ⟨fun c3 => ?_, fun c3 => ?_⟩
    · have : ¬ (z_wa S fr (-1) a (m - a).toNat (q : Int) ≠ 0 ∧ z_wb2 S to (b - m).toNat (q : Int) ≠ 0) := by
        intro z
        have := Int.mul_pos (show 0 < z_wa S fr (-1) a (m - a).toNat (q : Int) by omega) (show 0 < z_wb2 S to (b - m).toNat (q : Int) by omega)
        omega
      rw [decide_eq_false this] at nx'; exact nx'
    · have : z_wa S fr (-1) a (m - a).toNat (q : Int) ≠ 0 ∧ z_wb2 S to (b - m).toNat (q : Int) ≠ 0 := by
        constructor
        · intro z; rw [z, Int.zero_mul] at c3; exact absurd c3 (by decide)
        · intro z; rw [z, Int.mul_zero] at c3; exact absurd c3 (by decide)
      rw [decide_eq_true this] at nx'; exact nx'
  · subst hN4
    exact rg_342_51 (d + 3) ⟨fun _ => h0, fun c3 => absurd c3 (by decide)⟩
def z_mtb (S : z_M) (fr a to b : Int) (p : Nat) : Bool := decide (S 304067 (3 * (p : Int)) = 1 ∧ z_wa S fr (p : Int) a (b - a).toNat to = 0)
def z_o24 (S : z_M) (fr a to b : Int) : Int := if z_str S fr a to b then (if z_wa S fr (-1) a (b - a).toNat to = 0 then -2 else (z_bs 10 (z_mtb S fr a to b) : Int)) else -1
theorem kc_met (d : Nat) {fr a to b : Int} (hS : z_sit S M) (hI : z_IS S) (h : ∀ M' : z_M, z_sit S M' → Q (z_I (z_o24 S fr a to b)) M') : z_Cl 0 (d + 5) 191 [z_R 1, z_I fr, z_I a, z_I to, z_I b] M Q := by
  unfold z_o24 at h
  refine re_191 (d + 4) (kc_open_w (d + 2) hS (fun hz N hN e6 e7 e8 e9 => z_y2 (re_157 (d + 3) ?_)) (fun hz => z_n2 ?_))
  · obtain ⟨⟨f0, f1, fp⟩, ⟨t0, t1, tp⟩, a0, ab, b1, ba⟩ := id hz
    rw [if_pos hz] at h
    refine kc_countAhead d hN hI f0 f1 fp (Or.inl rfl) a0 (L := b - a) (by omega) ba (by omega) e6 e8 e9 (fun N2 F R => ?_)
    rw [F 10 (by decide), e9, e7, z_w_id (x := 100 * (b - a)) (by omega) (by omega), z_w_id (x := 100 * (b - a) + to) (by omega) (by omega)]
    refine ⟨by omega, by omega, ?_⟩
    have e := R (b - a).toNat (by omega) to t0 t1
    rw [show (((b - a).toNat : Nat) : Int) = b - a from by omega] at e
    rw [e]
    have hN2 := z_o1a_sit hN F (fun _ => rfl) rfl
    show z_vl (z_J _) _
    unfold z_vl
    dsimp only
    simp only [z_cmp_e0]
    refine ⟨fun c => re_160 (d + 3) ?_, fun c => ?_⟩
    · rw [if_neg c] at h
      refine z_lpi (n := 10) (fun q => (z_bs q (z_mtb S fr a to b) : Int)) (fun _ N3 => z_sit S N3 ∧ N3 10 = N 10) (fun N3 v q => z_G 0 (d + 4) z_m160 4 [z_R 10, z_I v, z_I q] [] N3 (fun v3 M3 => z_vi v3 fun x3 => Q (z_I x3) M3)) N2 ⟨hN2, F 10 (by decide)⟩ (fun q N3 hq hI3 nx => ?_) (fun N3 hI3 => ?_)
      · obtain ⟨hN3, f10⟩ := hI3
        have hlt := z_bs_lt q (z_mtb S fr a to b)
        have h2p := z_2p (n := q) (by omega)
        refine rg_160_4 (d + 3) ⟨fun c2 => absurd c2 (by omega), fun _ => kc_isTold (d + 2) hN3 hI.1 (fun hp => z_y1 ?_) (fun hp => z_n1 ?_)⟩
        · refine kc_countAhead d hN3 hI f0 f1 fp (Or.inr hp) a0 (L := b - a) (by omega) ba (by omega) (by rw [f10]; exact e6) (by rw [f10]; exact e8) (by rw [f10]; exact e9) (fun N4 F4 R4 => ?_)
          have hN4 := z_o1a_sit hN3 F4 (fun _ => rfl) rfl
          have g10 : N4 10 = N 10 := (F4 10 (by decide)).trans f10
          rw [g10, e9, e7, z_w_id (x := 100 * (b - a)) (by omega) (by omega), z_w_id (x := 100 * (b - a) + to) (by omega) (by omega)]
          refine ⟨by omega, by omega, ?_⟩
          have e4 := R4 (b - a).toNat (by omega) to t0 t1
          rw [show (((b - a).toNat : Nat) : Int) = b - a from by omega] at e4
          rw [e4, z_wq (by omega)]
          simp only [z_cmp_e0]
          refine ⟨fun c2 => ?_, fun c2 => ?_⟩
          · rw [z_or_0 (by omega), z_bs_no (P := z_mtb S fr a to b) (by unfold z_mtb; exact decide_eq_false (fun z => c2 z.2))]
            exact nx N4 ⟨hN4, g10⟩
          · rw [z_bs_or (P := z_mtb S fr a to b) (by omega) (by unfold z_mtb; exact decide_eq_true ⟨hp.2.2, c2⟩)]
            exact nx N4 ⟨hN4, g10⟩
        · rw [z_wq (by omega), z_bs_no (P := z_mtb S fr a to b) (by unfold z_mtb; exact decide_eq_false (fun z => hp ⟨by omega, by omega, z.1⟩))]
          exact nx N3 ⟨hN3, f10⟩
      · exact rg_160_4 (d + 3) ⟨fun _ => z_viI (h N3 hI3.1), fun c2 => absurd c2 (by decide)⟩
    · rw [if_pos c] at h; exact h N2 hN2
  · have h0 := h M hS
    rw [if_neg hz] at h0; exact h0
theorem km_met (d : Nat) {fr a to b : Int} (hS : z_sit S M) (hI : z_IS S) (ia : z_i32 a) (ib : z_i32 b) (h : ∀ M' : z_M, z_sit S M' → Q (z_I (z_o24 S fr a to b)) M') : z_Cl 0 (d + 4) 343 [z_R 13, z_I fr, z_I a, z_I to, z_I b] M Q := by
  unfold z_o24 at h
  refine re_343 (d + 3) (km_isStretch (d + 1) hS hI (fun hz => z_y2 ?_) (fun hz => z_n2 ?_) ia ib)
  · obtain ⟨⟨f0, f1, fp⟩, ⟨t0, t1, tp⟩, a0, ab, b1, ba⟩ := id hz
    rw [if_pos hz] at h
    refine km_laysTo d hS hI f0 f1 (Or.inl rfl) a0 ab b1 ba (fun N2 F R => ?_)
    have hN2 := z_o1a_sit hS F (fun _ => rfl) rfl
    rw [z_w_id (x := b - a) (by omega) (by omega), z_w_id (x := 100 * (b - a)) (by omega) (by omega), z_w_id (x := 100 * (b - a) + to) (by omega) (by omega)]
    refine ⟨by omega, by omega, ?_⟩
    have e := R (b - a).toNat (by omega) to t0 t1
    rw [show (((b - a).toNat : Nat) : Int) = b - a from by omega] at e
    rw [e]
    simp only [z_cmp_e0]
    refine ⟨fun c => ?_, fun c => ?_⟩
    · rw [if_neg c] at h
      refine z_lpi (n := 10) (fun q => (z_bs q (z_mtb S fr a to b) : Int)) (fun _ N3 => z_sit S N3) (fun N3 v q => z_G 0 (d + 4) z_m343 51 [z_R 13, z_I fr, z_I a, z_I to, z_I b, z_I v, z_I q] [] N3 Q) N2 hN2 (fun q N3 hq hN3 nx => ?_) (fun N3 hN3 => ?_)
      · refine rg_343_51 (d + 3) ⟨fun c2 => absurd c2 (by omega), fun _ => km_isTold (d + 2) hN3 hI.1 (fun hp => z_y2 ?_) (fun hp => z_n2 ?_)⟩
        · refine km_laysTo d hN3 hI f0 f1 (Or.inr hp) a0 ab b1 ba (fun N4 F4 R4 => ?_)
          have hN4 := z_o1a_sit hN3 F4 (fun _ => rfl) rfl
          rw [z_w_id (x := b - a) (by omega) (by omega), z_w_id (x := 100 * (b - a)) (by omega) (by omega), z_w_id (x := 100 * (b - a) + to) (by omega) (by omega)]
          refine ⟨by omega, by omega, ?_⟩
          have e4 := R4 (b - a).toNat (by omega) to t0 t1
          rw [show (((b - a).toNat : Nat) : Int) = b - a from by omega] at e4
          rw [e4, z_wq (by omega)]
          simp only [z_cmp_e0]
          refine ⟨fun c2 => ?_, fun c2 => ?_⟩
          · rw [z_bs_no (P := z_mtb S fr a to b) (by unfold z_mtb; exact decide_eq_false (fun z => c2 z.2))]
            exact nx N4 hN4
          · rw [z_bs_or (P := z_mtb S fr a to b) (by omega) (by unfold z_mtb; exact decide_eq_true ⟨hp.2.2, c2⟩)]
            exact nx N4 hN4
        · rw [z_wq (by omega), z_bs_no (P := z_mtb S fr a to b) (by unfold z_mtb; exact decide_eq_false (fun z => hp ⟨by omega, by omega, z.1⟩))]
          exact nx N3 hN3
      · exact rg_343_51 (d + 3) ⟨fun _ => h N3 hN3, fun c2 => absurd c2 (by decide)⟩
    · rw [if_pos c] at h; exact h N2 hN2
  · have h0 := h M hS
    rw [if_neg hz] at h0; exact h0
end ZWAO
