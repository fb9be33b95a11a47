/-! THE TOWN MEASURED: how far one looks, exactly -/
def zw_x (w : Int) : Int := if w = 0 ∨ w = 1 ∨ w = 7 then 1 else if w = 3 ∨ w = 4 ∨ w = 5 then -1 else 0
def zw_y (w : Int) : Int := if w = 1 ∨ w = 2 ∨ w = 3 then 1 else if w = 5 ∨ w = 6 ∨ w = 7 then -1 else 0
/-- the way in which a spot lies -/
def zw_dr (f t : Int) : Int := if f % 10 < t % 10 then (if t / 10 = f / 10 then 0 else if f / 10 < t / 10 then 1 else 7) else if t % 10 = f % 10 then (if f / 10 < t / 10 then 2 else 6) else (if t / 10 = f / 10 then 4 else if f / 10 < t / 10 then 3 else 5)
theorem zw_cv {w : Int} (h0 : 0 ≤ w) (h1 : w < 8) : z_cv 86901 w = zw_x w ∧ z_cv 86902 w = zw_y w := by
  have : w = 0 ∨ w = 1 ∨ w = 2 ∨ w = 3 ∨ w = 4 ∨ w = 5 ∨ w = 6 ∨ w = 7 := by omega
  rcases this with rfl | rfl | rfl | rfl | rfl | rfl | rfl | rfl <;> decide
theorem zwm_ab (x : Int) : (0 ≤ x ∧ z_ab x = x) ∨ (x < 0 ∧ z_ab x = -x) := by
  unfold z_ab
  by_cases h : 0 ≤ x
  · rw [if_pos h]; exact Or.inl ⟨h, rfl⟩
  · rw [if_neg h]; exact Or.inr ⟨by omega, rfl⟩
theorem zw_sg (x : Int) : (0 < x ∧ z_sg x = 1) ∨ (x = 0 ∧ z_sg x = 0) ∨ (x < 0 ∧ z_sg x = -1) := by
  unfold z_sg
  by_cases h : 0 < x
  · rw [if_pos h]; exact Or.inl ⟨h, rfl⟩
  · rw [if_neg h]
    by_cases h2 : x < 0
    · rw [if_pos h2]; exact Or.inr (Or.inr ⟨h2, rfl⟩)
    · rw [if_neg h2]; exact Or.inr (Or.inl ⟨by omega, rfl⟩)
theorem zw_dr_c (f t : Int) : (zw_dr f t = 0 ∧ f % 10 < t % 10 ∧ t / 10 = f / 10) ∨ (zw_dr f t = 1 ∧ f % 10 < t % 10 ∧ f / 10 < t / 10) ∨ (zw_dr f t = 7 ∧ f % 10 < t % 10 ∧ t / 10 < f / 10) ∨ (zw_dr f t = 2 ∧ t % 10 = f % 10 ∧ f / 10 < t / 10) ∨ (zw_dr f t = 6 ∧ t % 10 = f % 10 ∧ t / 10 ≤ f / 10) ∨ (zw_dr f t = 4 ∧ t % 10 < f % 10 ∧ t / 10 = f / 10) ∨ (zw_dr f t = 3 ∧ t % 10 < f % 10 ∧ f / 10 < t / 10) ∨ (zw_dr f t = 5 ∧ t % 10 < f % 10 ∧ t / 10 < f / 10) := by
  unfold zw_dr
  split
  · split
    · exact Or.inl ⟨rfl, ‹_›, ‹_›⟩
    · split
      · exact Or.inr (Or.inl ⟨rfl, ‹_›, ‹_›⟩)
      · exact Or.inr (Or.inr (Or.inl ⟨rfl, ‹_›, by omega⟩))
  · split
    · split
      · exact Or.inr (Or.inr (Or.inr (Or.inl ⟨rfl, ‹_›, ‹_›⟩)))
      · exact Or.inr (Or.inr (Or.inr (Or.inr (Or.inl ⟨rfl, ‹_›, by omega⟩))))
    · split
      · exact Or.inr (Or.inr (Or.inr (Or.inr (Or.inr (Or.inl ⟨rfl, by omega, ‹_›⟩)))))
      · split
        · exact Or.inr (Or.inr (Or.inr (Or.inr (Or.inr (Or.inr (Or.inl ⟨rfl, by omega, ‹_›⟩))))))
        · exact Or.inr (Or.inr (Or.inr (Or.inr (Or.inr (Or.inr (Or.inr ⟨rfl, by omega, by omega⟩))))))
/-- the distance, without ifs -/
theorem zw_ds (f t : Int) : (z_ab (t % 10 - f % 10) < z_ab (t / 10 - f / 10) ∧ z_ds f t = z_ab (t / 10 - f / 10)) ∨ (z_ab (t / 10 - f / 10) ≤ z_ab (t % 10 - f % 10) ∧ z_ds f t = z_ab (t % 10 - f % 10)) := by
  unfold z_ds
  by_cases h : z_ab (t % 10 - f % 10) < z_ab (t / 10 - f / 10)
  · rw [if_pos h]; exact Or.inl ⟨h, rfl⟩
  · rw [if_neg h]; exact Or.inr ⟨by omega, rfl⟩
/-- an aligned spot: by its way and its distance -/
theorem zw_al {f t : Int} (hf : 0 ≤ f) (ht : 0 ≤ t) (ne : f ≠ t) (ha : z_al f t) : 0 ≤ zw_dr f t ∧ zw_dr f t < 8 ∧ 1 ≤ z_ds f t ∧ t % 10 = f % 10 + zw_x (zw_dr f t) * z_ds f t ∧ t / 10 = f / 10 + zw_y (zw_dr f t) * z_ds f t ∧ 10 * z_sg (t / 10 - f / 10) + z_sg (t % 10 - f % 10) = 10 * zw_y (zw_dr f t) + zw_x (zw_dr f t) := by
  have hx := zwm_ab (t % 10 - f % 10)
  have hy := zwm_ab (t / 10 - f / 10)
  have hd := zw_ds f t
  have sx := zw_sg (t % 10 - f % 10)
  have sy := zw_sg (t / 10 - f / 10)
  have hne : ¬ (t % 10 = f % 10 ∧ t / 10 = f / 10) := fun z => ne (by omega)
  unfold z_al at ha
  rcases zw_dr_c f t with h | h | h | h | h | h | h | h
  all_goals
    obtain ⟨e, h1, h2⟩ := h
    rw [e]
    have xx : zw_x 0 = 1 ∧ zw_x 1 = 1 ∧ zw_x 2 = 0 ∧ zw_x 3 = -1 ∧ zw_x 4 = -1 ∧ zw_x 5 = -1 ∧ zw_x 6 = 0 ∧ zw_x 7 = 1 := by decide
    have yy : zw_y 0 = 0 ∧ zw_y 1 = 1 ∧ zw_y 2 = 1 ∧ zw_y 3 = 1 ∧ zw_y 4 = 0 ∧ zw_y 5 = -1 ∧ zw_y 6 = -1 ∧ zw_y 7 = -1 := by decide
    obtain ⟨x0, x1, x2, x3, x4, x5, x6, x7⟩ := xx
    obtain ⟨y0, y1, y2, y3, y4, y5, y6, y7⟩ := yy
    simp only [x0, x1, x2, x3, x4, x5, x6, x7, y0, y1, y2, y3, y4, y5, y6, y7]
    generalize z_ab (t % 10 - f % 10) = ax at *
    generalize z_ab (t / 10 - f / 10) = ay at *
    generalize z_sg (t % 10 - f % 10) = gx at *
    generalize z_sg (t / 10 - f / 10) = gy at *
    generalize z_ds f t = dd at *
    refine ⟨by omega, by omega, by omega, by omega, by omega, by omega⟩
/-- the k-th spot along a way -/
def zw_at (w f s k : Int) : Prop := s % 10 = f % 10 + zw_x w * k ∧ s / 10 = f / 10 + zw_y w * k
theorem zw_at_al {w f s k : Int} (w0 : 0 ≤ w) (w1 : w < 8) (hk : 1 ≤ k) (h : zw_at w f s k) : z_al f s ∧ zw_dr f s = w ∧ z_ds f s = k ∧ f ≠ s := by
  obtain ⟨h1, h2⟩ := h
  have hx := zwm_ab (s % 10 - f % 10)
  have hy := zwm_ab (s / 10 - f / 10)
  have hd := zw_ds f s
  have hr := zw_dr_c f s
  have : w = 0 ∨ w = 1 ∨ w = 2 ∨ w = 3 ∨ w = 4 ∨ w = 5 ∨ w = 6 ∨ w = 7 := by omega
  have xx : zw_x 0 = 1 ∧ zw_x 1 = 1 ∧ zw_x 2 = 0 ∧ zw_x 3 = -1 ∧ zw_x 4 = -1 ∧ zw_x 5 = -1 ∧ zw_x 6 = 0 ∧ zw_x 7 = 1 := by decide
  have yy : zw_y 0 = 0 ∧ zw_y 1 = 1 ∧ zw_y 2 = 1 ∧ zw_y 3 = 1 ∧ zw_y 4 = 0 ∧ zw_y 5 = -1 ∧ zw_y 6 = -1 ∧ zw_y 7 = -1 := by decide
  obtain ⟨x0, x1, x2, x3, x4, x5, x6, x7⟩ := xx
  obtain ⟨y0, y1, y2, y3, y4, y5, y6, y7⟩ := yy
  rcases this with rfl | rfl | rfl | rfl | rfl | rfl | rfl | rfl
  all_goals
    simp only [x0, x1, x2, x3, x4, x5, x6, x7, y0, y1, y2, y3, y4, y5, y6, y7] at h1 h2
    unfold z_al
    generalize z_ab (s % 10 - f % 10) = ax at *
    generalize z_ab (s / 10 - f / 10) = ay at *
    generalize z_ds f s = dd at *
    generalize zw_dr f s = rr at *
    refine ⟨by omega, by omega, by omega, fun z => ?_⟩
    subst z
    omega
/-- one step on -/
theorem zw_next {w f s k : Int} (w0 : 0 ≤ w) (w1 : w < 8) (hs : 0 ≤ s) (hs1 : s < 100) (hk : 0 ≤ k) (h : zw_at w f s k) : (z_nxt s w = -1 ∧ ∀ t : Int, 0 ≤ t → t < 100 → ∀ e : Int, k < e → ¬ zw_at w f t e) ∨ (0 ≤ z_nxt s w ∧ z_nxt s w < 100 ∧ zw_at w f (z_nxt s w) (k + 1)) := by
  obtain ⟨h1, h2⟩ := h
  obtain ⟨c1, c2⟩ := zw_cv w0 w1
  unfold z_nxt
  rw [c1, c2]
  unfold zw_at
  have : w = 0 ∨ w = 1 ∨ w = 2 ∨ w = 3 ∨ w = 4 ∨ w = 5 ∨ w = 6 ∨ w = 7 := by omega
  have xx : zw_x 0 = 1 ∧ zw_x 1 = 1 ∧ zw_x 2 = 0 ∧ zw_x 3 = -1 ∧ zw_x 4 = -1 ∧ zw_x 5 = -1 ∧ zw_x 6 = 0 ∧ zw_x 7 = 1 := by decide
  have yy : zw_y 0 = 0 ∧ zw_y 1 = 1 ∧ zw_y 2 = 1 ∧ zw_y 3 = 1 ∧ zw_y 4 = 0 ∧ zw_y 5 = -1 ∧ zw_y 6 = -1 ∧ zw_y 7 = -1 := by decide
  obtain ⟨x0, x1, x2, x3, x4, x5, x6, x7⟩ := xx
  obtain ⟨y0, y1, y2, y3, y4, y5, y6, y7⟩ := yy
  rcases this with rfl | rfl | rfl | rfl | rfl | rfl | rfl | rfl
  all_goals
    simp only [x0, x1, x2, x3, x4, x5, x6, x7, y0, y1, y2, y3, y4, y5, y6, y7] at h1 h2 ⊢
    split
    · right
      refine ⟨by omega, by omega, by omega, by omega⟩
    · left
      refine ⟨rfl, fun t t0 t1 e ke z => ?_⟩
      omega
theorem zwm_clr_at {g : Int → Int} {f dl : Int} : ∀ {n : Nat} {k : Int}, z_clr g f dl n = true → 1 ≤ k → k ≤ (n : Int) → g (f + dl * k) ≠ 1 := by
  intro n
  induction n with
  | zero => intro k _ a b; exact absurd b (by omega)
  | succ n ih =>
    intro k h a b
    have h2 : z_clr g f dl n = true ∧ g (f + dl * ((n + 1 : Nat) : Int)) ≠ 1 := by
      have : (z_clr g f dl n && decide (g (f + dl * ((n + 1 : Nat) : Int)) ≠ 1)) = true := h
      rw [Bool.and_eq_true, decide_eq_true_iff] at this
      exact this
    by_cases c : k = ((n + 1 : Nat) : Int)
    · rw [c]; exact h2.2
    · exact ih h2.1 a (by omega)
theorem zwm_clr_s {g : Int → Int} {f dl : Int} {n : Nat} (h : z_clr g f dl n = true) (h2 : g (f + dl * ((n + 1 : Nat) : Int)) ≠ 1) : z_clr g f dl (n + 1) = true := by
  show (z_clr g f dl n && decide (g (f + dl * ((n + 1 : Nat) : Int)) ≠ 1)) = true
  rw [h, decide_eq_true h2]; rfl
/-- what is measured so far: from f, of the ways below w all, of w the first spots -/
def zw_v (g : Int → Int) (f w far t : Int) : Int := if f = t then 0 else if zw_dr f t < w ∨ (zw_dr f t = w ∧ z_ds f t < far) then z_aw g f t else 99
theorem zw_aw_n {g : Int → Int} {f t : Int} (ne : f ≠ t) (h : ¬ z_al f t) : z_aw g f t = 99 := by
  unfold z_aw
  rw [if_neg ne, if_neg (fun z => h z.1)]
/-- the line is broken, or the town ends: the rest is far -/
def zw_end (g : Int → Int) (f w far : Int) : Prop := ∀ t : Int, 0 ≤ t → t < 100 → f ≠ t → zw_dr f t = w → far ≤ z_ds f t → z_aw g f t = 99
/-- the spot in hand -/
def zw_cur (g : Int → Int) (f w far s : Int) : Prop := (s = -1 ∧ zw_end g f w far) ∨ (0 ≤ s ∧ s < 100 ∧ zw_at w f s far ∧ z_clr g f (10 * zw_y w + zw_x w) (far - 1).toNat = true)
theorem zw_dl {w f s k : Int} (h : zw_at w f s k) : f + (10 * zw_y w + zw_x w) * k = s := by
  obtain ⟨h1, h2⟩ := h
  have e : (10 * zw_y w + zw_x w) * k = 10 * (zw_y w * k) + zw_x w * k := by rw [Int.add_mul, Int.mul_assoc]
  rw [e]
  generalize zw_y w * k = a at *
  generalize zw_x w * k = b at *
  omega
theorem zw_end_b {g : Int → Int} {f w far s : Int} (hf : 0 ≤ f) (h1 : 1 ≤ far) (ha : zw_at w f s far) (hw : g s = 1) : zw_end g f w (far + 1) := by
  intro t t0 t1 ne dr ds
  by_cases al : z_al f t
  · obtain ⟨_, _, d1, a1, a2, a3⟩ := zw_al hf t0 ne al
    unfold z_aw
    rw [if_neg ne]
    by_cases c : z_al f t ∧ z_clr g f (10 * z_sg (t / 10 - f / 10) + z_sg (t % 10 - f % 10)) (z_ds f t - 1).toNat = true
    · have := zwm_clr_at c.2 h1 (by omega)
      rw [a3, dr, zw_dl ha] at this
      exact absurd hw this
    · rw [if_neg c]
  · exact zw_aw_n ne al
theorem zw_step {g : Int → Int} {f w far s : Int} (hf : 0 ≤ f) (w0 : 0 ≤ w) (w1 : w < 8) (h1 : 0 ≤ far) (hs : 0 ≤ s) (hs1 : s < 100) (ha : zw_at w f s far) (hc : far = 0 ∨ (z_clr g f (10 * zw_y w + zw_x w) (far - 1).toNat = true ∧ g s ≠ 1)) : zw_cur g f w (far + 1) (z_nxt s w) := by
  rcases zw_next w0 w1 hs hs1 h1 ha with ⟨e, he⟩ | ⟨n0, n1, na⟩
  · refine Or.inl ⟨e, fun t t0 t1 ne dr ds => ?_⟩
    by_cases al : z_al f t
    · obtain ⟨_, _, d1, a1, a2, a3⟩ := zw_al hf t0 ne al
      rw [dr] at a1 a2
      exact absurd ⟨a1, a2⟩ (he t t0 t1 (z_ds f t) (by omega))
    · exact zw_aw_n ne al
  · refine Or.inr ⟨n0, n1, na, ?_⟩
    rw [show far + 1 - 1 = far from by omega]
    rcases hc with hc | ⟨hc, hg⟩
    · rw [hc]; rfl
    · by_cases c : far = 0
      · rw [c]; rfl
      · have e : far.toNat = (far - 1).toNat + 1 := by omega
        rw [e]
        refine zwm_clr_s hc ?_
        have e2 : (((far - 1).toNat + 1 : Nat) : Int) = far := by omega
        rw [e2, zw_dl ha]
        exact hg
section ZMEA
variable {M : z_M} {Q : z_V → z_M → Prop} {g : Int → Int}
/-- from f all is measured up to here; what lies elsewhere -/
def zw_I (g : Int → Int) (M M' : z_M) (f w far : Int) : Prop := (∀ k, k ≠ 100001017 → M' k = M k) ∧ (∀ t : Int, 0 ≤ t → t < 100 → M' 100001017 (100 * f + t) = zw_v g f w far t) ∧ (∀ f2 t : Int, 0 ≤ f2 → f2 < f → 0 ≤ t → t < 100 → M' 100001017 (100 * f2 + t) = z_aw g f2 t) ∧ (∀ j : Int, 100 * f + 100 ≤ j → j < 10000 → M' 100001017 j = 99)
theorem zw_v_d {f w : Int} {t : Int} (hf : 0 ≤ f) (ht : 0 ≤ t) (ht1 : t < 100) (hd : zw_end g f w 10) : zw_v g f w 10 t = zw_v g f (w + 1) 1 t := by
  unfold zw_v
  by_cases ne : f = t
  · rw [if_pos ne, if_pos ne]
  · rw [if_neg ne, if_neg ne]
    have hx := zwm_ab (t % 10 - f % 10)
    by_cases c : zw_dr f t < w ∨ (zw_dr f t = w ∧ z_ds f t < 10)
    · rw [if_pos c, if_pos (by omega)]
    · rw [if_neg c]
      by_cases c2 : zw_dr f t < w + 1 ∨ (zw_dr f t = w + 1 ∧ z_ds f t < 1)
      · rw [if_pos c2]
        by_cases c3 : zw_dr f t = w
        · exact (hd t ht ht1 ne c3 (by omega)).symm
        · by_cases al : z_al f t
          · obtain ⟨_, _, d1, _⟩ := zw_al hf ht ne al
            omega
          · exact (zw_aw_n ne al).symm
      · rw [if_neg c2]
theorem zw_ds9 {f t : Int} (hf : 0 ≤ f) (hf1 : f < 100) (ht : 0 ≤ t) (ht1 : t < 100) : z_ds f t ≤ 9 := by
  have hx := zwm_ab (t % 10 - f % 10)
  have hy := zwm_ab (t / 10 - f / 10)
  have hd := zw_ds f t
  omega
theorem kc_look (d : Nat) {f w : Int} {M' : z_M} (hg : M 1001015 = g) (hf : 0 ≤ f) (hf1 : f < 100) (w0 : 0 ≤ w) (w1 : w < 8) (hI : zw_I g M M' f w 1) (hQ : ∀ N : z_M, zw_I g M N f (w + 1) 1 → Q z_U N) : z_Cl 0 (d + 1) 155 [z_R 3, z_I f, z_I w] M' Q := by
  have fin : ∀ (far : Int) (N : z_M), 1 ≤ far → far ≤ 10 → zw_I g M N f w far → zw_end g f w far → Q z_U N := by
    intro far N f1 f10 hN he
    refine hQ N ⟨hN.1, fun t t0 t1 => ?_, hN.2.2.1, hN.2.2.2⟩
    have h9 := zw_ds9 hf hf1 t0 t1
    have he10 : zw_end g f w 10 := fun t' a b c e h => he t' a b c e (by omega)
    rw [hN.2.1 t t0 t1, ← zw_v_d hf t0 t1 he10]
    unfold zw_v
    by_cases ne : f = t
    · rw [if_pos ne, if_pos ne]
    · rw [if_neg ne, if_neg ne]
      by_cases c : zw_dr f t < w ∨ (zw_dr f t = w ∧ z_ds f t < far)
      · rw [if_pos c, if_pos (by omega)]
      · rw [if_neg c]
        by_cases c2 : zw_dr f t < w ∨ (zw_dr f t = w ∧ z_ds f t < 10)
        · rw [if_pos c2]
          exact (he t t0 t1 ne (by omega) (by omega)).symm
        · rw [if_neg c2]
  have loop : ∀ (r : Nat) (far s : Int) (N : z_M), far + (r : Int) = 10 → 1 ≤ far → zw_I g M N f w far → zw_cur g f w far s → z_G 0 (d + 1) z_m155 10 [z_R 3, z_I f, z_I w, z_I s, z_I far] [] N Q := by
    intro r
    induction r with
    | zero =>
      intro far s N hr h1 hN hc
      refine rg_155_10 d ⟨fun _ => fin far N h1 (by omega) hN (fun t t0 t1 _ _ h => ?_), fun c => absurd c (by omega)⟩
      have := zw_ds9 hf hf1 t0 t1
      omega
    | succ r ih =>
      intro far s N hr h1 hN hc
      refine rg_155_10 d ⟨fun c => absurd c (by omega), fun _ => ⟨fun c => ?_, fun c => ?_⟩⟩
      · rcases hc with ⟨_, he⟩ | ⟨s0, _⟩
        · exact fin far N h1 (by omega) hN he
        · omega
      · rcases hc with ⟨e, _⟩ | ⟨s0, s1, sa, scl⟩
        · exact absurd e c
        · obtain ⟨al, dr, ds, ne⟩ := zw_at_al w0 w1 h1 sa
          have eg : N 1001015 = g := (hN.1 _ (by decide)).trans hg
          have e1 : (z_up N 100001017 (100 * f + s) far) 1001015 s = g s := by rw [z_up_ne (by decide), eg]
          have hN2 : zw_I g M (z_up N 100001017 (100 * f + s) far) f w (far + 1) := by
            refine ⟨fun k hk => (z_up_ne hk).trans (hN.1 k hk), fun t t0 t1 => ?_, fun f2 t a b t0 t1 => ?_, fun j a b => ?_⟩
            · by_cases ct : t = s
              · subst ct
                rw [z_up_eq]
                unfold zw_v z_aw
                obtain ⟨_, _, _, _, _, a3⟩ := zw_al hf t0 ne al
                rw [if_neg ne, if_pos (by omega), if_neg ne, a3, dr, ds, if_pos ⟨al, scl⟩]
              · rw [z_up_nj (by omega), hN.2.1 t t0 t1]
                unfold zw_v
                by_cases ne2 : f = t
                · rw [if_pos ne2, if_pos ne2]
                · rw [if_neg ne2, if_neg ne2]
                  by_cases c1 : zw_dr f t < w ∨ (zw_dr f t = w ∧ z_ds f t < far)
                  · rw [if_pos c1, if_pos (by omega)]
                  · rw [if_neg c1]
                    by_cases c2 : zw_dr f t < w ∨ (zw_dr f t = w ∧ z_ds f t < far + 1)
                    · rw [if_pos c2]
                      by_cases al2 : z_al f t
                      · obtain ⟨_, _, _, b1, b2, _⟩ := zw_al hf t0 ne2 al2
                        have e5 : zw_dr f t = w := by omega
                        have e6 : z_ds f t = far := by omega
                        rw [e5, e6] at b1 b2
                        have := sa.1
                        have := sa.2
                        exfalso
                        omega
                      · exact (zw_aw_n ne2 al2).symm
                    · rw [if_neg c2]
            · rw [z_up_nj (by omega)]; exact hN.2.2.1 f2 t a b t0 t1
            · rw [z_up_nj (by omega)]; exact hN.2.2.2 j a b
          rw [z_w_id (x := 100 * f) (by omega) (by omega), z_w_id (x := 100 * f + s) (by omega) (by omega), z_w_id (x := far + 1) (by omega) (by omega), e1]
          refine ⟨by omega, by omega, s0, s1, fun c2 => ?_, fun c2 => ?_⟩
          · exact c_next d s0 s1 w0 w1 (z_viI (ih (far + 1) _ _ (by omega) (by omega) hN2 (zw_step hf w0 w1 (by omega) s0 s1 sa (Or.inr ⟨scl, c2⟩))))
          · exact ih (far + 1) (-1) _ (by omega) (by omega) hN2 (Or.inl ⟨rfl, zw_end_b hf h1 sa c2⟩)
  refine re_155 d (c_next d hf hf1 w0 w1 (z_viI (loop 9 1 _ M' (by decide) (by decide) hI ?_)))
  have := zw_step (g := g) (far := 0) (s := f) hf w0 w1 (by decide) hf hf1 ⟨by rw [Int.mul_zero, Int.add_zero], by rw [Int.mul_zero, Int.add_zero]⟩ (Or.inl rfl)
  exact this
theorem kc_measure (d : Nat) (hg : M 1001015 = g) (hQ : ∀ N : z_M, (∀ k, k ≠ 100001017 → N k = M k) → (∀ f t : Int, 0 ≤ f → f < 100 → 0 ≤ t → t < 100 → N 100001017 (100 * f + t) = z_aw g f t) → Q z_U N) : z_Cl 0 (d + 2) 154 [z_R 3] M Q := by
  refine re_154 (d + 1) (c_fillI rfl rfl (by decide) ?_)
  have outer : ∀ (r : Nat) (f : Int) (N : z_M), f + (r : Int) = 100 → 0 ≤ f → (∀ k, k ≠ 100001017 → N k = M k) → (∀ f2 t : Int, 0 ≤ f2 → f2 < f → 0 ≤ t → t < 100 → N 100001017 (100 * f2 + t) = z_aw g f2 t) → (∀ j : Int, 100 * f ≤ j → j < 10000 → N 100001017 j = 99) → z_G 0 (d + 2) z_m154 11 [z_R 3, z_I f, z_U] [] N Q := by
    intro r
    induction r with
    | zero =>
      intro f N hr h0 n1 n2 n3
      refine rg_154_11 (d + 1) ⟨fun _ => hQ N n1 (fun f2 t a b c e => n2 f2 t a (by omega) c e), fun c => absurd c (by omega)⟩
    | succ r ih =>
      intro f N hr h0 n1 n2 n3
      refine rg_154_11 (d + 1) ⟨fun c => absurd c (by omega), fun c => ?_⟩
      rw [z_w_id (x := 100 * f) (by omega) (by omega), z_w_id (x := 100 * f + f) (by omega) (by omega)]
      refine ⟨by omega, by omega, ?_⟩
      have start : zw_I g M (z_up N 100001017 (100 * f + f) 0) f 0 1 := by
        refine ⟨fun k hk => (z_up_ne hk).trans (n1 k hk), fun t t0 t1 => ?_, fun f2 t a b t0 t1 => ?_, fun j a b => ?_⟩
        · unfold zw_v
          by_cases ct : f = t
          · rw [if_pos ct, ← ct, z_up_eq]
          · rw [if_neg ct, z_up_nj (by omega), n3 _ (by omega) (by omega)]
            by_cases c2 : zw_dr f t < 0 ∨ (zw_dr f t = 0 ∧ z_ds f t < 1)
            · rw [if_pos c2]
              by_cases al : z_al f t
              · obtain ⟨d0, _, d1, _⟩ := zw_al h0 t0 ct al
                omega
              · exact (zw_aw_n ct al).symm
            · rw [if_neg c2]
        · rw [z_up_nj (by omega)]; exact n2 f2 t a b t0 t1
        · rw [z_up_nj (by omega)]; exact n3 j (by omega) b
      have inner : ∀ (r2 : Nat) (w : Int) (N2 : z_M), w + (r2 : Int) = 8 → 0 ≤ w → zw_I g M N2 f w 1 → z_G 0 (d + 2) z_m154 31 [z_R 3, z_I f, z_I w] [] N2 Q := by
        intro r2
        induction r2 with
        | zero =>
          intro w N2 hw w0 hN
          refine rg_154_31 (d + 1) ⟨fun _ => ?_, fun c2 => absurd c2 (by omega)⟩
          rw [z_w_id (x := f + 1) (by omega) (by omega)]
          refine ih (f + 1) N2 (by omega) (by omega) hN.1 (fun f2 t a b t0 t1 => ?_) (fun j a b => hN.2.2.2 j (by omega) b)
          by_cases cf : f2 = f
          · rw [cf, hN.2.1 t t0 t1]
            unfold zw_v
            by_cases ct : f = t
            · rw [if_pos ct]; unfold z_aw; rw [if_pos ct]
            · have := zw_dr_c f t
              rw [if_neg ct, if_pos (by omega)]
          · exact hN.2.2.1 f2 t a (by omega) t0 t1
        | succ r2 ih2 =>
          intro w N2 hw w0 hN
          refine rg_154_31 (d + 1) ⟨fun c2 => absurd c2 (by omega), fun _ => ?_⟩
          rw [z_w_id (x := w + 1) (by omega) (by omega)]
          exact kc_look d hg h0 c w0 (by omega) hN (fun N3 hN3 => ih2 (w + 1) N3 (by omega) (by omega) hN3)
      exact inner 8 0 _ (by decide) (by decide) start
  exact outer 100 0 _ (by decide) (by decide) (fun k hk => z_fl_ne hk) (fun f2 t a b => absurd b (by omega)) (fun j a b => z_fl_in (by omega) b)
theorem kc_lookW (d : Nat) {f w : Int} {M' : z_M} (hg : M 1001015 = g) (hf : 0 ≤ f) (hf1 : f < 100) (w0 : 0 ≤ w) (w1 : w < 8) (hI : zw_I g M M' f w 1) (hQ : ∀ N : z_M, zw_I g M N f (w + 1) 1 → Q z_U N) : z_Cl 1 (d + 1) 155 [z_R 3, z_I f, z_I w] M' Q := by
  have fin : ∀ (far : Int) (N : z_M), 1 ≤ far → far ≤ 10 → zw_I g M N f w far → zw_end g f w far → Q z_U N := by
    intro far N f1 f10 hN he
    refine hQ N ⟨hN.1, fun t t0 t1 => ?_, hN.2.2.1, hN.2.2.2⟩
    have h9 := zw_ds9 hf hf1 t0 t1
    have he10 : zw_end g f w 10 := fun t' a b c e h => he t' a b c e (by omega)
    rw [hN.2.1 t t0 t1, ← zw_v_d hf t0 t1 he10]
    unfold zw_v
    by_cases ne : f = t
    · rw [if_pos ne, if_pos ne]
    · rw [if_neg ne, if_neg ne]
      by_cases c : zw_dr f t < w ∨ (zw_dr f t = w ∧ z_ds f t < far)
      · rw [if_pos c, if_pos (by omega)]
      · rw [if_neg c]
        by_cases c2 : zw_dr f t < w ∨ (zw_dr f t = w ∧ z_ds f t < 10)
        · rw [if_pos c2]
          exact (he t t0 t1 ne (by omega) (by omega)).symm
        · rw [if_neg c2]
  have loop : ∀ (r : Nat) (far s : Int) (N : z_M), far + (r : Int) = 10 → 1 ≤ far → zw_I g M N f w far → zw_cur g f w far s → z_G 1 (d + 1) z_m155 10 [z_R 3, z_I f, z_I w, z_I s, z_I far] [] N Q := by
    intro r
    induction r with
    | zero =>
      intro far s N hr h1 hN hc
      refine rg_155_10w d ⟨fun _ => fin far N h1 (by omega) hN (fun t t0 t1 _ _ h => ?_), fun c => absurd c (by omega)⟩
      have := zw_ds9 hf hf1 t0 t1
      omega
    | succ r ih =>
      intro far s N hr h1 hN hc
      refine rg_155_10w d ⟨fun c => absurd c (by omega), fun _ => ⟨fun c => ?_, fun c => ?_⟩⟩
      · rcases hc with ⟨_, he⟩ | ⟨s0, _⟩
        · exact fin far N h1 (by omega) hN he
        · omega
      · rcases hc with ⟨e, _⟩ | ⟨s0, s1, sa, scl⟩
        · exact absurd e c
        · obtain ⟨al, dr, ds, ne⟩ := zw_at_al w0 w1 h1 sa
          have eg : N 1001015 = g := (hN.1 _ (by decide)).trans hg
          have e1 : (z_up N 100001017 (100 * f + s) far) 1001015 s = g s := by rw [z_up_ne (by decide), eg]
          have hN2 : zw_I g M (z_up N 100001017 (100 * f + s) far) f w (far + 1) := by
            refine ⟨fun k hk => (z_up_ne hk).trans (hN.1 k hk), fun t t0 t1 => ?_, fun f2 t a b t0 t1 => ?_, fun j a b => ?_⟩
            · by_cases ct : t = s
              · subst ct
                rw [z_up_eq]
                unfold zw_v z_aw
                obtain ⟨_, _, _, _, _, a3⟩ := zw_al hf t0 ne al
                rw [if_neg ne, if_pos (by omega), if_neg ne, a3, dr, ds, if_pos ⟨al, scl⟩]
              · rw [z_up_nj (by omega), hN.2.1 t t0 t1]
                unfold zw_v
                by_cases ne2 : f = t
                · rw [if_pos ne2, if_pos ne2]
                · rw [if_neg ne2, if_neg ne2]
                  by_cases c1 : zw_dr f t < w ∨ (zw_dr f t = w ∧ z_ds f t < far)
                  · rw [if_pos c1, if_pos (by omega)]
                  · rw [if_neg c1]
                    by_cases c2 : zw_dr f t < w ∨ (zw_dr f t = w ∧ z_ds f t < far + 1)
                    · rw [if_pos c2]
                      by_cases al2 : z_al f t
                      · obtain ⟨_, _, _, b1, b2, _⟩ := zw_al hf t0 ne2 al2
                        have e5 : zw_dr f t = w := by omega
                        have e6 : z_ds f t = far := by omega
                        rw [e5, e6] at b1 b2
                        have := sa.1
                        have := sa.2
                        exfalso
                        omega
                      · exact (zw_aw_n ne2 al2).symm
                    · rw [if_neg c2]
            · rw [z_up_nj (by omega)]; exact hN.2.2.1 f2 t a b t0 t1
            · rw [z_up_nj (by omega)]; exact hN.2.2.2 j a b
          rw [z_w_id (x := 100 * f) (by omega) (by omega), z_w_id (x := 100 * f + s) (by omega) (by omega), z_w_id (x := far + 1) (by omega) (by omega), e1]
          refine ⟨by omega, by omega, s0, s1, fun c2 => ?_, fun c2 => ?_⟩
          · exact c_nextw d s0 s1 w0 w1 (z_viI (ih (far + 1) _ _ (by omega) (by omega) hN2 (zw_step hf w0 w1 (by omega) s0 s1 sa (Or.inr ⟨scl, c2⟩))))
          · exact ih (far + 1) (-1) _ (by omega) (by omega) hN2 (Or.inl ⟨rfl, zw_end_b hf h1 sa c2⟩)
  refine re_155w d (c_nextw d hf hf1 w0 w1 (z_viI (loop 9 1 _ M' (by decide) (by decide) hI ?_)))
  have := zw_step (g := g) (far := 0) (s := f) hf w0 w1 (by decide) hf hf1 ⟨by rw [Int.mul_zero, Int.add_zero], by rw [Int.mul_zero, Int.add_zero]⟩ (Or.inl rfl)
  exact this
theorem kc_measureW (d : Nat) (hg : M 1001015 = g) (hQ : ∀ N : z_M, (∀ k, k ≠ 100001017 → N k = M k) → (∀ f t : Int, 0 ≤ f → f < 100 → 0 ≤ t → t < 100 → N 100001017 (100 * f + t) = z_aw g f t) → Q z_U N) : z_Cl 1 (d + 2) 154 [z_R 3] M Q := by
  refine re_154w (d + 1) (c_fillI rfl rfl (by decide) ?_)
  have outer : ∀ (r : Nat) (f : Int) (N : z_M), f + (r : Int) = 100 → 0 ≤ f → (∀ k, k ≠ 100001017 → N k = M k) → (∀ f2 t : Int, 0 ≤ f2 → f2 < f → 0 ≤ t → t < 100 → N 100001017 (100 * f2 + t) = z_aw g f2 t) → (∀ j : Int, 100 * f ≤ j → j < 10000 → N 100001017 j = 99) → z_G 1 (d + 2) z_m154 11 [z_R 3, z_I f, z_U] [] N Q := by
    intro r
    induction r with
    | zero =>
      intro f N hr h0 n1 n2 n3
      refine rg_154_11w (d + 1) ⟨fun _ => hQ N n1 (fun f2 t a b c e => n2 f2 t a (by omega) c e), fun c => absurd c (by omega)⟩
    | succ r ih =>
      intro f N hr h0 n1 n2 n3
      refine rg_154_11w (d + 1) ⟨fun c => absurd c (by omega), fun c => ?_⟩
      rw [z_w_id (x := 100 * f) (by omega) (by omega), z_w_id (x := 100 * f + f) (by omega) (by omega)]
      refine ⟨by omega, by omega, ?_⟩
      have start : zw_I g M (z_up N 100001017 (100 * f + f) 0) f 0 1 := by
        refine ⟨fun k hk => (z_up_ne hk).trans (n1 k hk), fun t t0 t1 => ?_, fun f2 t a b t0 t1 => ?_, fun j a b => ?_⟩
        · unfold zw_v
          by_cases ct : f = t
          · rw [if_pos ct, ← ct, z_up_eq]
          · rw [if_neg ct, z_up_nj (by omega), n3 _ (by omega) (by omega)]
            by_cases c2 : zw_dr f t < 0 ∨ (zw_dr f t = 0 ∧ z_ds f t < 1)
            · rw [if_pos c2]
              by_cases al : z_al f t
              · obtain ⟨d0, _, d1, _⟩ := zw_al h0 t0 ct al
                omega
              · exact (zw_aw_n ct al).symm
            · rw [if_neg c2]
        · rw [z_up_nj (by omega)]; exact n2 f2 t a b t0 t1
        · rw [z_up_nj (by omega)]; exact n3 j (by omega) b
      have inner : ∀ (r2 : Nat) (w : Int) (N2 : z_M), w + (r2 : Int) = 8 → 0 ≤ w → zw_I g M N2 f w 1 → z_G 1 (d + 2) z_m154 31 [z_R 3, z_I f, z_I w] [] N2 Q := by
        intro r2
        induction r2 with
        | zero =>
          intro w N2 hw w0 hN
          refine rg_154_31w (d + 1) ⟨fun _ => ?_, fun c2 => absurd c2 (by omega)⟩
          rw [z_w_id (x := f + 1) (by omega) (by omega)]
          refine ih (f + 1) N2 (by omega) (by omega) hN.1 (fun f2 t a b t0 t1 => ?_) (fun j a b => hN.2.2.2 j (by omega) b)
          by_cases cf : f2 = f
          · rw [cf, hN.2.1 t t0 t1]
            unfold zw_v
            by_cases ct : f = t
            · rw [if_pos ct]; unfold z_aw; rw [if_pos ct]
            · have := zw_dr_c f t
              rw [if_neg ct, if_pos (by omega)]
          · exact hN.2.2.1 f2 t a (by omega) t0 t1
        | succ r2 ih2 =>
          intro w N2 hw w0 hN
          refine rg_154_31w (d + 1) ⟨fun c2 => absurd c2 (by omega), fun _ => ?_⟩
          rw [z_w_id (x := w + 1) (by omega) (by omega)]
          exact kc_lookW d hg h0 c w0 (by omega) hN (fun N3 hN3 => ih2 (w + 1) N3 (by omega) (by omega) hN3)
      exact inner 8 0 _ (by decide) (by decide) start
  exact outer 100 0 _ (by decide) (by decide) (fun k hk => z_fl_ne hk) (fun f2 t a b => absurd b (by omega)) (fun j a b => z_fl_in (by omega) b)
end ZMEA
