/-! WHO SEES WHAT: ways, lines, sight -/
theorem z_cvx {w : Int} (h0 : 0 ≤ w) (h1 : w < 8) : z_cv 86901 w = if w = 7 ∨ w < 2 then 1 else if 2 < w ∧ w < 6 then -1 else 0 := by
  have : w = 0 ∨ w = 1 ∨ w = 2 ∨ w = 3 ∨ w = 4 ∨ w = 5 ∨ w = 6 ∨ w = 7 := by omega
  rcases this with rfl | rfl | rfl | rfl | rfl | rfl | rfl | rfl <;> decide
theorem z_cvy {w : Int} (h0 : 0 ≤ w) (h1 : w < 8) : z_cv 86902 w = if 0 < w ∧ w < 4 then 1 else if 4 < w then -1 else 0 := by
  have : w = 0 ∨ w = 1 ∨ w = 2 ∨ w = 3 ∨ w = 4 ∨ w = 5 ∨ w = 6 ∨ w = 7 := by omega
  rcases this with rfl | rfl | rfl | rfl | rfl | rfl | rfl | rfl <;> decide
theorem km_beside (d : Nat) {M : z_M} {Q : z_V → z_M → Prop} {s w : Int} (hs : 0 ≤ s) (hs1 : s < 100) (hw : 0 ≤ w) (hw1 : w < 8) (h : Q (z_I (z_nxt s w)) M) : z_Cl 0 (d + 1) 240 [z_I s, z_I w] M Q := by
  have ex := z_cvx hw hw1
  have ey := z_cvy hw hw1
  obtain ⟨b1, b2, b3, b4⟩ := z_cvb w hw hw1
  have key : ∀ dx dy : Int, z_cv 86901 w = dx → z_cv 86902 w = dy → z_G 0 (d + 1) z_m240 64 [z_I s, z_I w, z_I (z_w (s % 10 + dx)), z_U] [z_I dy, z_I (s / 10)] M Q := by
    intro dx dy e1 e2
    have w1 : z_w (s % 10 + dx) = s % 10 + dx := z_w_id (by omega) (by omega)
    have w2 : z_w (s / 10 + dy) = s / 10 + dy := z_w_id (by omega) (by omega)
    have w3 : z_w (10 * (s / 10 + dy)) = 10 * (s / 10 + dy) := z_w_id (by omega) (by omega)
    have w4 : z_w (10 * (s / 10 + dy) + (s % 10 + dx)) = 10 * (s / 10 + dy) + (s % 10 + dx) := z_w_id (by omega) (by omega)
    unfold z_nxt at h
    rw [e1, e2] at h
    refine rg_240_64 d ?_
    rw [w1, w2, w3, w4]
    refine km_lies d (fun g1 g2 => z_viI ⟨fun c => absurd c (by decide), fun _ => km_lies d (fun g3 g4 => z_viI ⟨fun c => absurd c (by decide), fun _ => ?_⟩) (fun g3 => z_viI ⟨fun _ => ?_, fun c => absurd rfl c⟩)⟩) (fun g1 => z_viI ⟨fun _ => ?_, fun c => absurd rfl c⟩)
    · rw [if_pos (by omega)] at h; exact h
    · rw [if_neg (by omega)] at h; exact h
    · rw [if_neg (by omega)] at h; exact h
  have wy : z_w (Int.tdiv s 10) = s / 10 := by rw [z_td hs]; exact z_w_id (by omega) (by omega)
  have snd : ∀ dx : Int, z_cv 86901 w = dx → z_G 0 (d + 1) z_m240 35 [z_I s, z_I w, z_U, z_U] [z_I dx, z_I (Int.tmod s 10)] M Q := by
    intro dx e1
    rw [z_tm hs]
    refine rg_240_35 d ?_
    rw [wy]
    have low : z_cv 86902 w = 0 ∨ z_cv 86902 w = -1 → (w ≤ 0 ∨ 4 ≤ w) → z_G 0 (d + 1) z_m240 54 [z_I s, z_I w, z_I (z_w (s % 10 + dx)), z_U] [z_I (s / 10)] M Q := by
      intro _ q
      exact rg_240_54 d ⟨fun c => key dx 0 e1 (by omega), fun c => key dx (-1) e1 (by omega)⟩
    exact ⟨fun c => low (by omega) (Or.inl c), fun c => ⟨fun c2 => low (by omega) (Or.inr c2), fun c2 => key dx 1 e1 (by omega)⟩⟩
  refine re_240 d ⟨fun c => rg_240_15 d (snd 1 (by omega)), fun c => ⟨fun c2 => ⟨fun c3 => rg_240_34 d (snd 0 (by omega)), fun c3 => ⟨fun c4 => rg_240_34 d (snd 0 (by omega)), fun c4 => snd (-1) (by omega)⟩⟩, fun c2 => rg_240_15 d (snd 1 (by omega))⟩⟩
theorem z_sg_c (x : Int) : (z_sg x = -1 ∧ x < 0) ∨ (z_sg x = 0 ∧ x = 0) ∨ (z_sg x = 1 ∧ 0 < x) := by
  unfold z_sg
  split
  · omega
  · split <;> omega
theorem z_ab_c (x : Int) : (z_ab x = x ∧ 0 ≤ x) ∨ (z_ab x = -x ∧ x < 0) := by
  unfold z_ab
  split <;> omega
theorem km_leads (d : Nat) {M : z_M} {Q : z_V → z_M → Prop} {f t w : Int} (hf : 0 ≤ f) (hf1 : f < 100) (ht : 0 ≤ t) (ht1 : t < 100) (hw : 0 ≤ w) (hw1 : w < 8) (h1 : z_cv 86901 w = z_sg (t % 10 - f % 10) → z_cv 86902 w = z_sg (t / 10 - f / 10) → Q (z_I 1) M) (h0 : ¬ (z_cv 86901 w = z_sg (t % 10 - f % 10) ∧ z_cv 86902 w = z_sg (t / 10 - f / 10)) → Q (z_I 0) M) : z_Cl 0 d 282 [z_I f, z_I t, z_I w] M Q := by
  have ex := z_cvx hw hw1
  have ey := z_cvy hw hw1
  have w1 : z_w (Int.tmod t 10 - Int.tmod f 10) = t % 10 - f % 10 := by rw [z_tm ht, z_tm hf]; exact z_w_id (by omega) (by omega)
  have w2 : z_w (z_w (Int.tdiv t 10) - z_w (Int.tdiv f 10)) = t / 10 - f / 10 := by
    rw [z_td ht, z_td hf, z_w_id (x := t / 10) (by omega) (by omega), z_w_id (x := f / 10) (by omega) (by omega)]; exact z_w_id (by omega) (by omega)
  have sx := z_sg_c (t % 10 - f % 10)
  have sy := z_sg_c (t / 10 - f / 10)
  have fin : ∀ dx dy b : Int, z_cv 86901 w = dx → z_cv 86902 w = dy → b = z_sg (t % 10 - f % 10) → z_G 0 d z_m282 96 [z_I f, z_I t, z_I w, z_I (t % 10 - f % 10), z_I (t / 10 - f / 10), z_I dx, z_I dy] [z_I b] M Q := by
    intro dx dy b e1 e2 e3
    refine rg_282_96 d ⟨fun c => h0 (fun z => by omega), fun c => ⟨fun c2 => ⟨fun c3 => ⟨fun c4 => h0 (fun z => by omega), fun c4 => h1 (by omega) (by omega)⟩, fun c3 => ⟨fun c4 => h0 (fun z => by omega), fun c4 => h1 (by omega) (by omega)⟩⟩, fun c2 => ⟨fun c4 => h0 (fun z => by omega), fun c4 => h1 (by omega) (by omega)⟩⟩⟩
  have mid : ∀ dx dy : Int, z_cv 86901 w = dx → z_cv 86902 w = dy → z_G 0 d z_m282 77 [z_I f, z_I t, z_I w, z_I (t % 10 - f % 10), z_I (t / 10 - f / 10), z_I dx, z_U] [z_I dy] M Q := by
    intro dx dy e1 e2
    exact rg_282_77 d ⟨fun c => ⟨fun c2 => fin dx dy 0 e1 e2 (by omega), fun c2 => fin dx dy (-1) e1 e2 (by omega)⟩, fun c => fin dx dy 1 e1 e2 (by omega)⟩
  have snd : ∀ dx : Int, z_cv 86901 w = dx → z_G 0 d z_m282 52 [z_I f, z_I t, z_I w, z_I (t % 10 - f % 10), z_I (t / 10 - f / 10), z_U, z_U] [z_I dx] M Q := by
    intro dx e1
    have low : (w ≤ 0 ∨ 4 ≤ w) → z_G 0 d z_m282 67 [z_I f, z_I t, z_I w, z_I (t % 10 - f % 10), z_I (t / 10 - f / 10), z_I dx, z_U] [] M Q := by
      intro q
      exact rg_282_67 d ⟨fun c => mid dx 0 e1 (by omega), fun c => mid dx (-1) e1 (by omega)⟩
    exact rg_282_52 d ⟨fun c => low (Or.inl c), fun c => ⟨fun c2 => low (Or.inr c2), fun c2 => mid dx 1 e1 (by omega)⟩⟩
  refine re_282 d ?_
  rw [w1, w2]
  refine ⟨fun c => rg_282_32 d (snd 1 (by omega)), fun c => ⟨fun c2 => ⟨fun c3 => rg_282_51 d (snd 0 (by omega)), fun c3 => ⟨fun c4 => rg_282_51 d (snd 0 (by omega)), fun c4 => snd (-1) (by omega)⟩⟩, fun c2 => rg_282_32 d (snd 1 (by omega))⟩⟩
/-- a line of spots -/
def z_dl (f t : Int) : Int := 10 * z_sg (t / 10 - f / 10) + z_sg (t % 10 - f % 10)
theorem z_ds_b {f t : Int} (hf : 0 ≤ f) (hf1 : f < 100) (ht : 0 ≤ t) (ht1 : t < 100) (hne : f ≠ t) : 1 ≤ z_ds f t ∧ z_ds f t ≤ 9 := by
  have a1 := z_ab_c (t % 10 - f % 10)
  have a2 := z_ab_c (t / 10 - f / 10)
  unfold z_ds
  split <;> omega
theorem z_line {f t k : Int} (hf : 0 ≤ f) (hf1 : f < 100) (ht : 0 ≤ t) (ht1 : t < 100) (hne : f ≠ t) (hal : z_al f t) (k0 : 0 ≤ k) (k1 : k ≤ z_ds f t) :
    0 ≤ f + z_dl f t * k ∧ f + z_dl f t * k < 100 ∧ (f + z_dl f t * k) % 10 = f % 10 + z_sg (t % 10 - f % 10) * k ∧ (f + z_dl f t * k) / 10 = f / 10 + z_sg (t / 10 - f / 10) * k ∧ (f + z_dl f t * k = t ↔ k = z_ds f t) := by
  have a1 := z_ab_c (t % 10 - f % 10)
  have a2 := z_ab_c (t / 10 - f / 10)
  have e : z_ds f t = z_ab (t / 10 - f / 10) ∧ z_ab (t % 10 - f % 10) ≤ z_ab (t / 10 - f / 10) ∨ z_ds f t = z_ab (t % 10 - f % 10) ∧ z_ab (t / 10 - f / 10) ≤ z_ab (t % 10 - f % 10) := by
    unfold z_ds
    split <;> omega
  unfold z_al at hal
  unfold z_dl
  rcases z_sg_c (t % 10 - f % 10) with ⟨e1, c1⟩ | ⟨e1, c1⟩ | ⟨e1, c1⟩ <;> rcases z_sg_c (t / 10 - f / 10) with ⟨e2, c2⟩ | ⟨e2, c2⟩ | ⟨e2, c2⟩ <;> rw [e1, e2] <;> generalize z_ds f t = n at * <;> generalize z_ab (t % 10 - f % 10) = p at * <;> generalize z_ab (t / 10 - f / 10) = q at *
  all_goals (first | (exfalso; omega) | skip)
  all_goals (refine ⟨by omega, by omega, by omega, by omega, ⟨fun _ => by omega, fun _ => by omega⟩⟩)
/-- a step along the line -/
theorem z_line_nxt {f t k w : Int} (hf : 0 ≤ f) (hf1 : f < 100) (ht : 0 ≤ t) (ht1 : t < 100) (hne : f ≠ t) (hal : z_al f t) (k0 : 0 ≤ k) (k1 : k < z_ds f t) (wx : z_cv 86901 w = z_sg (t % 10 - f % 10)) (wy : z_cv 86902 w = z_sg (t / 10 - f / 10)) : z_nxt (f + z_dl f t * k) w = f + z_dl f t * (k + 1) := by
  obtain ⟨a1, a2, a3, a4, _⟩ := z_line hf hf1 ht ht1 hne hal k0 (by omega)
  obtain ⟨b1, b2, b3, b4, _⟩ := z_line (k := k + 1) hf hf1 ht ht1 hne hal (by omega) (by omega)
  unfold z_nxt
  rw [wx, wy, a3, a4]
  have m1 : z_sg (t % 10 - f % 10) * (k + 1) = z_sg (t % 10 - f % 10) * k + z_sg (t % 10 - f % 10) := by rw [Int.mul_add, Int.mul_one]
  have m2 : z_sg (t / 10 - f / 10) * (k + 1) = z_sg (t / 10 - f / 10) * k + z_sg (t / 10 - f / 10) := by rw [Int.mul_add, Int.mul_one]
  rw [m1] at b3
  rw [m2] at b4
  generalize f + z_dl f t * (k + 1) = v at *
  rw [if_pos (by omega)]
  omega
theorem z_clr_le {g : Int → Int} {f dl : Int} : ∀ {m n : Nat}, m ≤ n → z_clr g f dl n = true → z_clr g f dl m = true := by
  intro m n hmn
  induction n with
  | zero => intro h; rw [Nat.le_zero.mp hmn]; exact h
  | succ n ih =>
    intro h
    by_cases e : m = n + 1
    · rw [e]; exact h
    · have h2 : (z_clr g f dl n && decide (g (f + dl * ((n + 1 : Nat) : Int)) ≠ 1)) = true := h
      rw [Bool.and_eq_true] at h2
      exact ih (by omega) h2.1
theorem z_clr_at {g : Int → Int} {f dl : Int} {n m : Nat} (h : z_clr g f dl n = true) (hm : m < n) : g (f + dl * ((m + 1 : Nat) : Int)) ≠ 1 := by
  have h1 := z_clr_le (m := m + 1) (by omega) h
  have h2 : (z_clr g f dl m && decide (g (f + dl * ((m + 1 : Nat) : Int)) ≠ 1)) = true := h1
  rw [Bool.and_eq_true] at h2
  exact of_decide_eq_true h2.2
theorem z_clr_up {g : Int → Int} {f dl : Int} {n : Nat} (h : z_clr g f dl n = true) (h2 : g (f + dl * ((n + 1 : Nat) : Int)) ≠ 1) : z_clr g f dl (n + 1) = true := by
  show (z_clr g f dl n && decide (g (f + dl * ((n + 1 : Nat) : Int)) ≠ 1)) = true
  rw [h, decide_eq_true h2]; rfl
theorem z_way_ex (x y : Int) (h : ¬ (x = 0 ∧ y = 0)) : ∃ w : Int, 0 ≤ w ∧ w < 8 ∧ z_cv 86901 w = z_sg x ∧ z_cv 86902 w = z_sg y := by
  rcases z_sg_c x with ⟨e1, c1⟩ | ⟨e1, c1⟩ | ⟨e1, c1⟩ <;> rcases z_sg_c y with ⟨e2, c2⟩ | ⟨e2, c2⟩ | ⟨e2, c2⟩ <;> rw [e1, e2]
  · exact ⟨5, by decide, by decide, rfl, rfl⟩
  · exact ⟨4, by decide, by decide, rfl, rfl⟩
  · exact ⟨3, by decide, by decide, rfl, rfl⟩
  · exact ⟨6, by decide, by decide, rfl, rfl⟩
  · exact absurd ⟨c1, c2⟩ h
  · exact ⟨2, by decide, by decide, rfl, rfl⟩
  · exact ⟨7, by decide, by decide, rfl, rfl⟩
  · exact ⟨0, by decide, by decide, rfl, rfl⟩
  · exact ⟨1, by decide, by decide, rfl, rfl⟩
theorem km_across (d : Nat) {M : z_M} {Q : z_V → z_M → Prop} {a b : Int} (ha : 0 ≤ a) (ha1 : a < 256) (hb : 0 ≤ b) (hb1 : b < 256) (h : Q (z_I (z_ab (a % 10 - b % 10))) M) : z_Cl 0 (d + 1) 238 [z_I a, z_I b] M Q := by
  refine re_238 d ?_
  rw [z_tm ha, z_tm hb, z_w_id (by omega) (by omega)]
  exact c_amount d (by omega) (z_viI h)
theorem km_upward (d : Nat) {M : z_M} {Q : z_V → z_M → Prop} {a b : Int} (ha : 0 ≤ a) (ha1 : a < 256) (hb : 0 ≤ b) (hb1 : b < 256) (h : Q (z_I (z_ab (a / 10 - b / 10))) M) : z_Cl 0 (d + 1) 239 [z_I a, z_I b] M Q := by
  refine re_239 d ?_
  rw [z_td ha, z_td hb, z_w_id (x := a / 10) (by omega) (by omega), z_w_id (x := b / 10) (by omega) (by omega), z_w_id (by omega) (by omega)]
  exact c_amount d (by omega) (z_viI h)
theorem z_ab_sym (x y : Int) : z_ab (x - y) = z_ab (y - x) := by
  have a1 := z_ab_c (x - y)
  have a2 := z_ab_c (y - x)
  omega
/-- isInSight -/
theorem km_isInSight (d : Nat) {M : z_M} {Q : z_V → z_M → Prop} {f t far : Int} {g : Int → Int} (hg : M 1001065 = g) (hf : 0 ≤ f) (hf1 : f < 100) (ht : 0 ≤ t) (ht1 : t < 100) (hr : 0 ≤ far) (hr1 : far < 99) (h1 : z_aw g f t ≤ far → Q (z_I 1) M) (h0 : far < z_aw g f t → Q (z_I 0) M) : z_Cl 0 (d + 2) 281 [z_R 13, z_I f, z_I t, z_I far] M Q := by
  refine re_281 (d + 1) ⟨fun c => ?_, fun c => h1 (by unfold z_aw; rw [if_pos c]; exact hr)⟩
  refine km_across d hf (by omega) ht (by omega) (z_viI (km_upward d hf (by omega) ht (by omega) (z_viI ?_)))
  have ea : z_ab (f % 10 - t % 10) = z_ab (t % 10 - f % 10) := z_ab_sym _ _
  have eb : z_ab (f / 10 - t / 10) = z_ab (t / 10 - f / 10) := z_ab_sym _ _
  rw [ea, eb]
  have a1 := z_ab_c (t % 10 - f % 10)
  have a2 := z_ab_c (t / 10 - f / 10)
  obtain ⟨n1, n9⟩ := z_ds_b hf hf1 ht ht1 c
  have eaw : z_aw g f t = if z_al f t ∧ z_clr g f (z_dl f t) (z_ds f t - 1).toNat = true then z_ds f t else 99 := by unfold z_aw; rw [if_neg c]; rfl
  -- the walk
  have walk : z_al f t → z_ds f t ≤ far → z_G 0 (d + 2) z_m281 61 [z_R 13, z_I f, z_I t, z_I far, z_I (z_ab (t % 10 - f % 10)), z_I (z_ab (t / 10 - f / 10)), z_I 0, z_U] [] M Q := by
    intro hal hds
    have line : ∀ (m : Nat) (k w : Int), 0 ≤ w → w < 8 → z_cv 86901 w = z_sg (t % 10 - f % 10) → z_cv 86902 w = z_sg (t / 10 - f / 10) → 1 ≤ k → k ≤ z_ds f t → (z_ds f t - k).toNat = m → z_clr g f (z_dl f t) (k - 1).toNat = true → z_G 0 (d + 2) z_m281 85 [z_R 13, z_I f, z_I t, z_I far, z_I (z_ab (t % 10 - f % 10)), z_I (z_ab (t / 10 - f / 10)), z_I w, z_I (f + z_dl f t * k)] [] M Q := by
      intro m
      induction m with
      | zero =>
        intro k w w0 w1 wx wy k1 k2 k3 k4
        have ek : k = z_ds f t := by omega
        have et := (z_line hf hf1 ht ht1 c hal (k := k) (by omega) k2).2.2.2.2.mpr ek
        refine rg_281_85 (d + 1) ⟨fun _ => rg_281_114 (d + 1) ⟨fun q => absurd et q, fun _ => h1 ?_⟩, fun q => absurd et q⟩
        rw [eaw, if_pos ⟨hal, by rw [← ek]; exact k4⟩]
        exact hds
      | succ m ih =>
        intro k w w0 w1 wx wy k1 k2 k3 k4
        obtain ⟨l1, l2, _, _, l5⟩ := z_line hf hf1 ht ht1 c hal (k := k) (by omega) k2
        refine rg_281_85 (d + 1) ⟨fun q => absurd (l5.mp q) (by omega), fun q => ⟨l1, l2, fun q2 => rg_281_114 (d + 1) ⟨fun _ => h0 ?_, fun q3 => absurd q3 q⟩, fun q2 => ?_⟩⟩
        · rw [eaw, if_neg (fun z => ?_)]
          · omega
          · have := z_clr_at z.2 (m := (k - 1).toNat) (by omega)
            have e : (((k - 1).toNat + 1 : Nat) : Int) = k := by omega
            rw [e] at this
            rw [hg] at q2
            exact this q2
        · refine km_beside d l1 l2 w0 w1 (z_viI ?_)
          rw [z_line_nxt hf hf1 ht ht1 c hal (by omega) (by omega) wx wy]
          refine ih (k + 1) w w0 w1 wx wy (by omega) (by omega) (by omega) ?_
          have e : (k + 1 - 1).toNat = (k - 1).toNat + 1 := by omega
          rw [e]
          refine z_clr_up k4 ?_
          have e : (((k - 1).toNat + 1 : Nat) : Int) = k := by omega
          rw [e, ← hg]
          exact q2
    obtain ⟨w0, w00, w01, wx0, wy0⟩ := z_way_ex (t % 10 - f % 10) (t / 10 - f / 10) (fun z => c (by omega))
    have find : ∀ (m : Nat) (w : Int), 0 ≤ w → w ≤ w0 → (w0 - w).toNat = m → z_G 0 (d + 2) z_m281 61 [z_R 13, z_I f, z_I t, z_I far, z_I (z_ab (t % 10 - f % 10)), z_I (z_ab (t / 10 - f / 10)), z_I w, z_U] [] M Q := by
      have go : ∀ w : Int, 0 ≤ w → w < 8 → z_cv 86901 w = z_sg (t % 10 - f % 10) → z_cv 86902 w = z_sg (t / 10 - f / 10) → z_Cl 0 (d + 1) 240 [z_I f, z_I w] M (fun v2 M2 => z_vi v2 fun x2 => z_G 0 (d + 2) z_m281 85 [z_R 13, z_I f, z_I t, z_I far, z_I (z_ab (t % 10 - f % 10)), z_I (z_ab (t / 10 - f / 10)), z_I w, z_I x2] [] M2 Q) := by
        intro w w0 w1 wx wy
        refine km_beside d hf hf1 w0 w1 (z_viI ?_)
        have e := z_line_nxt hf hf1 ht ht1 c hal (Int.le_refl 0) (by omega) wx wy
        rw [Int.mul_zero, Int.add_zero] at e
        rw [e]
        exact line (z_ds f t - 1).toNat (0 + 1) w w0 w1 wx wy (by decide) (by omega) (by omega) rfl
      intro m
      induction m with
      | zero =>
        intro w h0 h1 h2
        have ew : w = w0 := by omega
        subst ew
        refine rg_281_61 (d + 1) (km_leads (d + 1) hf hf1 ht ht1 h0 w01 (fun _ _ => z_viI ⟨fun _ => go w h0 w01 wx0 wy0, fun q => absurd q (by decide)⟩) (fun q => absurd ⟨wx0, wy0⟩ q))
      | succ m ih =>
        intro w h0 h1 h2
        refine rg_281_61 (d + 1) (km_leads (d + 1) hf hf1 ht ht1 h0 (by omega) (fun wx wy => z_viI ⟨fun _ => go w h0 (by omega) wx wy, fun q => absurd q (by decide)⟩) (fun q => z_viI ⟨fun q2 => absurd rfl q2, fun _ => ?_⟩))
        rw [z_w_id (by omega) (by omega)]
        exact ih (w + 1) (by omega) (by omega) (by omega)
    exact find w0.toNat 0 (Int.le_refl _) w00 (by omega)
  have eds : z_ds f t = if z_ab (t % 10 - f % 10) < z_ab (t / 10 - f / 10) then z_ab (t / 10 - f / 10) else z_ab (t % 10 - f % 10) := rfl
  have far52 : ∀ b : Int, b = z_ds f t → z_al f t → z_G 0 (d + 2) z_m281 52 [z_R 13, z_I f, z_I t, z_I far, z_I (z_ab (t % 10 - f % 10)), z_I (z_ab (t / 10 - f / 10)), z_U, z_U] [z_I b] M Q := by
    intro b eb2 hal
    refine rg_281_52 (d + 1) ⟨fun q => walk hal (by omega), fun q => rg_281_56 (d + 1) (h0 ?_)⟩
    rw [eaw]
    split <;> omega
  have al38 : z_al f t → z_G 0 (d + 2) z_m281 38 [z_R 13, z_I f, z_I t, z_I far, z_I (z_ab (t % 10 - f % 10)), z_I (z_ab (t / 10 - f / 10)), z_U, z_U] [] M Q := by
    intro hal
    refine rg_281_38 (d + 1) ⟨fun q => far52 _ ?_ hal, fun q => far52 _ ?_ hal⟩
    · rw [eds]; split <;> omega
    · rw [eds]; split <;> omega
  refine ⟨fun q => al38 (Or.inl (by omega)), fun q => ⟨fun q2 => al38 (Or.inr (Or.inl (by omega))), fun q2 => ⟨fun q3 => rg_281_56 (d + 1) (h0 ?_), fun q3 => al38 (Or.inr (Or.inr q3))⟩⟩⟩
  rw [eaw, if_neg (fun z => ?_)]
  · omega
  · rcases z.1 with z | z | z <;> omega
theorem z_aw_b {g : Int → Int} {f t : Int} (hf : 0 ≤ f) (hf1 : f < 100) (ht : 0 ≤ t) (ht1 : t < 100) : 0 ≤ z_aw g f t ∧ z_aw g f t ≤ 99 := by
  unfold z_aw
  split
  · omega
  · rename_i c
    have := z_ds_b hf hf1 ht ht1 c
    split <;> omega
