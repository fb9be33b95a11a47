/-! next, lookAlong, measure, forget: in the whole world and in the constructors' -/
theorem z_up_ne {M : z_M} {a k : Nat} {i x : Int} (h : k ≠ a) : z_up M a i x k = M k := funext (z_up_off h)
theorem z_fl_ne {M : z_M} {a k : Nat} {lo hi v : Int} (h : k ≠ a) : z_fl M a lo hi v k = M k := funext fun _ => z_fl_off h
theorem z_cvb (w : Int) (h0 : 0 ≤ w) (h1 : w < 8) : -1 ≤ z_cv 86901 w ∧ z_cv 86901 w ≤ 1 ∧ -1 ≤ z_cv 86902 w ∧ z_cv 86902 w ≤ 1 := by
  have : w = 0 ∨ w = 1 ∨ w = 2 ∨ w = 3 ∨ w = 4 ∨ w = 5 ∨ w = 6 ∨ w = 7 := by omega
  rcases this with rfl | rfl | rfl | rfl | rfl | rfl | rfl | rfl <;> decide
theorem z_tm {x : Int} (h : 0 ≤ x) (y : Int) : Int.tmod x y = x % y := Int.tmod_eq_emod_of_nonneg h
theorem z_td {x : Int} (h : 0 ≤ x) (y : Int) : Int.tdiv x y = x / y := Int.tdiv_eq_ediv_of_nonneg h
def z_nxt (s w : Int) : Int := if 0 ≤ s % 10 + z_cv 86901 w ∧ s % 10 + z_cv 86901 w ≤ 9 ∧ 0 ≤ s / 10 + z_cv 86902 w ∧ s / 10 + z_cv 86902 w ≤ 9 then 10 * (s / 10 + z_cv 86902 w) + (s % 10 + z_cv 86901 w) else -1
theorem z_nxt_in (s w : Int) : z_nxt s w = -1 ∨ (0 ≤ z_nxt s w ∧ z_nxt s w < 100) := by
  unfold z_nxt
  split
  · right; omega
  · left; rfl
theorem c_next (d : Nat) {M : z_M} {Q : z_V → z_M → Prop} {s w : Int} (hs : 0 ≤ s) (hs1 : s < 100) (hw : 0 ≤ w) (hw1 : w < 8) (h : Q (z_I (z_nxt s w)) M) : z_Cl 0 d 149 [z_R 3, z_I s, z_I w] M Q := by
  obtain ⟨b1, b2, b3, b4⟩ := z_cvb w hw hw1
  have w1 : z_w (s / 10) = s / 10 := z_w_id (by omega) (by omega)
  have w2 : z_w (s % 10 + z_cv 86901 w) = s % 10 + z_cv 86901 w := z_w_id (by omega) (by omega)
  have w3 : z_w (s / 10 + z_cv 86902 w) = s / 10 + z_cv 86902 w := z_w_id (by omega) (by omega)
  have w4 : z_w (10 * (s / 10 + z_cv 86902 w)) = 10 * (s / 10 + z_cv 86902 w) := z_w_id (by omega) (by omega)
  have w5 : z_w (10 * (s / 10 + z_cv 86902 w) + (s % 10 + z_cv 86901 w)) = 10 * (s / 10 + z_cv 86902 w) + (s % 10 + z_cv 86901 w) := z_w_id (by omega) (by omega)
  refine re_149 d ?_
  simp only [z_tm hs, z_td hs, w1, w2, w3, w4, w5]
  unfold z_nxt at h
  refine ⟨hw, hw1, hw, hw1, fun c => ?_, fun c => ⟨fun c2 => ?_, fun c2 => ⟨fun c3 => ?_, fun c3 => ⟨fun c4 => ?_, fun c4 => ?_⟩⟩⟩⟩
  · rw [if_neg (by omega)] at h; exact h
  · rw [if_neg (by omega)] at h; exact h
  · rw [if_neg (by omega)] at h; exact h
  · rw [if_pos (by omega)] at h; exact h
  · rw [if_neg (by omega)] at h; exact h
theorem c_look (d : Nat) {M : z_M} {Q : z_V → z_M → Prop} {a0 a1 : Int} (h0 : 0 ≤ a0) (h1 : a0 < 100) (hw : 0 ≤ a1) (hw1 : a1 < 8) (hQ : ∀ M', (∀ k, k ≠ 100001017 → M' k = M k) → Q z_U M') : z_Cl 0 (d + 1) 155 [z_R 3, z_I a0, z_I a1] M Q := by
  have loop : ∀ (f : Nat) (l3 l4 : Int) (M' : z_M), (∀ k, k ≠ 100001017 → M' k = M k) → (l3 = -1 ∨ (0 ≤ l3 ∧ l3 < 100)) → 1 ≤ l4 → 10 - l4 < f → z_G 0 (d + 1) z_m155 10 [z_R 3, z_I a0, z_I a1, z_I l3, z_I l4] [] M' Q := by
    intro f
    induction f with
    | zero => intro l3 l4 M' hM _ h4 hf; exact rg_155_10 d ⟨fun _ => hQ _ hM, fun c => absurd c (by omega)⟩
    | succ f ih =>
      intro l3 l4 M' hM h3 h4 hf
      refine rg_155_10 d ⟨fun _ => hQ _ hM, fun c => ⟨fun _ => hQ _ hM, fun c2 => ?_⟩⟩
      have w1 : z_w (100 * a0) = 100 * a0 := z_w_id (by omega) (by omega)
      have w2 : z_w (100 * a0 + l3) = 100 * a0 + l3 := z_w_id (by omega) (by omega)
      have w3 : z_w (l4 + 1) = l4 + 1 := z_w_id (by omega) (by omega)
      simp only [w1, w2, w3]
      have hM2 : ∀ k, k ≠ 100001017 → z_up M' 100001017 (100 * a0 + l3) l4 k = M k := fun k hk => (z_up_ne hk).trans (hM k hk)
      refine ⟨by omega, by omega, by omega, by omega, fun _ => ?_, fun _ => ih _ _ _ hM2 (Or.inl rfl) (by omega) (by omega)⟩
      exact c_next d (by omega) (by omega) hw hw1 (ih _ _ _ hM2 (z_nxt_in _ _) (by omega) (by omega))
  exact re_155 d (c_next d h0 h1 hw hw1 (loop 11 _ 1 M (fun _ _ => rfl) (z_nxt_in _ _) (by omega) (by omega)))
theorem c_measure (d : Nat) {M : z_M} {Q : z_V → z_M → Prop} (hQ : ∀ M', (∀ k, k ≠ 100001017 → M' k = M k) → Q z_U M') : z_Cl 0 (d + 2) 154 [z_R 3] M Q := by
  have inner : ∀ (f : Nat) (l1 l2 : Int) (M' : z_M), (∀ k, k ≠ 100001017 → M' k = M k) → 0 ≤ l1 → l1 < 100 → 0 ≤ l2 → l2 ≤ 8 → 8 - l2 < f → (∀ M'', (∀ k, k ≠ 100001017 → M'' k = M k) → z_G 0 (d + 2) z_m154 11 [z_R 3, z_I (l1 + 1), z_U] [] M'' Q) → z_G 0 (d + 2) z_m154 31 [z_R 3, z_I l1, z_I l2] [] M' Q := by
    intro f
    induction f with
    | zero => intro l1 l2 M' _ _ _ _ h8 hf; exact absurd hf (by omega)
    | succ f ih =>
      intro l1 l2 M' hM h1 h2 h3 h4 hf kk
      have w1 : z_w (l1 + 1) = l1 + 1 := z_w_id (by omega) (by omega)
      have w2 : z_w (l2 + 1) = l2 + 1 := z_w_id (by omega) (by omega)
      refine rg_154_31 (d + 1) ?_
      simp only [w1, w2]
      exact ⟨fun _ => kk _ hM, fun c => c_look d h1 h2 h3 c (fun M'' hM'' => ih l1 (l2 + 1) M'' (fun k hk => (hM'' k hk).trans (hM k hk)) h1 h2 (by omega) (by omega) (by omega) kk)⟩
  have outer : ∀ (f : Nat) (l1 : Int) (M' : z_M), (∀ k, k ≠ 100001017 → M' k = M k) → 0 ≤ l1 → l1 ≤ 100 → 100 - l1 < f → z_G 0 (d + 2) z_m154 11 [z_R 3, z_I l1, z_U] [] M' Q := by
    intro f
    induction f with
    | zero => intro l1 M' _ _ h8 hf; exact absurd hf (by omega)
    | succ f ih =>
      intro l1 M' hM h1 h2 hf
      refine rg_154_11 (d + 1) ⟨fun _ => hQ _ hM, fun c => ?_⟩
      have w1 : z_w (100 * l1) = 100 * l1 := z_w_id (by omega) (by omega)
      have w2 : z_w (100 * l1 + l1) = 100 * l1 + l1 := z_w_id (by omega) (by omega)
      simp only [w1, w2]
      exact ⟨by omega, by omega, inner 9 l1 0 _ (fun k hk => (z_up_ne hk).trans (hM k hk)) h1 c (by omega) (by omega) (by omega) (fun M'' hM'' => ih (l1 + 1) M'' hM'' (by omega) (by omega) (by omega))⟩
  refine re_154 (d + 1) (c_fillI rfl rfl (by decide) (outer 101 0 _ (fun k hk => z_fl_ne hk) (by omega) (by omega) (by omega)))

theorem c_nextw (d : Nat) {M : z_M} {Q : z_V → z_M → Prop} {s w : Int} (hs : 0 ≤ s) (hs1 : s < 100) (hw : 0 ≤ w) (hw1 : w < 8) (h : Q (z_I (z_nxt s w)) M) : z_Cl 1 d 149 [z_R 3, z_I s, z_I w] M Q := by
  obtain ⟨b1, b2, b3, b4⟩ := z_cvb w hw hw1
  have w1 : z_w (s / 10) = s / 10 := z_w_id (by omega) (by omega)
  have w2 : z_w (s % 10 + z_cv 86901 w) = s % 10 + z_cv 86901 w := z_w_id (by omega) (by omega)
  have w3 : z_w (s / 10 + z_cv 86902 w) = s / 10 + z_cv 86902 w := z_w_id (by omega) (by omega)
  have w4 : z_w (10 * (s / 10 + z_cv 86902 w)) = 10 * (s / 10 + z_cv 86902 w) := z_w_id (by omega) (by omega)
  have w5 : z_w (10 * (s / 10 + z_cv 86902 w) + (s % 10 + z_cv 86901 w)) = 10 * (s / 10 + z_cv 86902 w) + (s % 10 + z_cv 86901 w) := z_w_id (by omega) (by omega)
  refine re_149w d ?_
  simp only [z_tm hs, z_td hs, w1, w2, w3, w4, w5]
  unfold z_nxt at h
  refine ⟨hw, hw1, hw, hw1, fun c => ?_, fun c => ⟨fun c2 => ?_, fun c2 => ⟨fun c3 => ?_, fun c3 => ⟨fun c4 => ?_, fun c4 => ?_⟩⟩⟩⟩
  · rw [if_neg (by omega)] at h; exact h
  · rw [if_neg (by omega)] at h; exact h
  · rw [if_neg (by omega)] at h; exact h
  · rw [if_pos (by omega)] at h; exact h
  · rw [if_neg (by omega)] at h; exact h
theorem c_lookw (d : Nat) {M : z_M} {Q : z_V → z_M → Prop} {a0 a1 : Int} (h0 : 0 ≤ a0) (h1 : a0 < 100) (hw : 0 ≤ a1) (hw1 : a1 < 8) (hQ : ∀ M', (∀ k, k ≠ 100001017 → M' k = M k) → Q z_U M') : z_Cl 1 (d + 1) 155 [z_R 3, z_I a0, z_I a1] M Q := by
  have loop : ∀ (f : Nat) (l3 l4 : Int) (M' : z_M), (∀ k, k ≠ 100001017 → M' k = M k) → (l3 = -1 ∨ (0 ≤ l3 ∧ l3 < 100)) → 1 ≤ l4 → 10 - l4 < f → z_G 1 (d + 1) z_m155 10 [z_R 3, z_I a0, z_I a1, z_I l3, z_I l4] [] M' Q := by
    intro f
    induction f with
    | zero => intro l3 l4 M' hM _ h4 hf; exact rg_155_10w d ⟨fun _ => hQ _ hM, fun c => absurd c (by omega)⟩
    | succ f ih =>
      intro l3 l4 M' hM h3 h4 hf
      refine rg_155_10w d ⟨fun _ => hQ _ hM, fun c => ⟨fun _ => hQ _ hM, fun c2 => ?_⟩⟩
      have w1 : z_w (100 * a0) = 100 * a0 := z_w_id (by omega) (by omega)
      have w2 : z_w (100 * a0 + l3) = 100 * a0 + l3 := z_w_id (by omega) (by omega)
      have w3 : z_w (l4 + 1) = l4 + 1 := z_w_id (by omega) (by omega)
      simp only [w1, w2, w3]
      have hM2 : ∀ k, k ≠ 100001017 → z_up M' 100001017 (100 * a0 + l3) l4 k = M k := fun k hk => (z_up_ne hk).trans (hM k hk)
      refine ⟨by omega, by omega, by omega, by omega, fun _ => ?_, fun _ => ih _ _ _ hM2 (Or.inl rfl) (by omega) (by omega)⟩
      exact c_nextw d (by omega) (by omega) hw hw1 (ih _ _ _ hM2 (z_nxt_in _ _) (by omega) (by omega))
  exact re_155w d (c_nextw d h0 h1 hw hw1 (loop 11 _ 1 M (fun _ _ => rfl) (z_nxt_in _ _) (by omega) (by omega)))
theorem c_measurew (d : Nat) {M : z_M} {Q : z_V → z_M → Prop} (hQ : ∀ M', (∀ k, k ≠ 100001017 → M' k = M k) → Q z_U M') : z_Cl 1 (d + 2) 154 [z_R 3] M Q := by
  have inner : ∀ (f : Nat) (l1 l2 : Int) (M' : z_M), (∀ k, k ≠ 100001017 → M' k = M k) → 0 ≤ l1 → l1 < 100 → 0 ≤ l2 → l2 ≤ 8 → 8 - l2 < f → (∀ M'', (∀ k, k ≠ 100001017 → M'' k = M k) → z_G 1 (d + 2) z_m154 11 [z_R 3, z_I (l1 + 1), z_U] [] M'' Q) → z_G 1 (d + 2) z_m154 31 [z_R 3, z_I l1, z_I l2] [] M' Q := by
    intro f
    induction f with
    | zero => intro l1 l2 M' _ _ _ _ h8 hf; exact absurd hf (by omega)
    | succ f ih =>
      intro l1 l2 M' hM h1 h2 h3 h4 hf kk
      have w1 : z_w (l1 + 1) = l1 + 1 := z_w_id (by omega) (by omega)
      have w2 : z_w (l2 + 1) = l2 + 1 := z_w_id (by omega) (by omega)
      refine rg_154_31w (d + 1) ?_
      simp only [w1, w2]
      exact ⟨fun _ => kk _ hM, fun c => c_lookw d h1 h2 h3 c (fun M'' hM'' => ih l1 (l2 + 1) M'' (fun k hk => (hM'' k hk).trans (hM k hk)) h1 h2 (by omega) (by omega) (by omega) kk)⟩
  have outer : ∀ (f : Nat) (l1 : Int) (M' : z_M), (∀ k, k ≠ 100001017 → M' k = M k) → 0 ≤ l1 → l1 ≤ 100 → 100 - l1 < f → z_G 1 (d + 2) z_m154 11 [z_R 3, z_I l1, z_U] [] M' Q := by
    intro f
    induction f with
    | zero => intro l1 M' _ _ h8 hf; exact absurd hf (by omega)
    | succ f ih =>
      intro l1 M' hM h1 h2 hf
      refine rg_154_11w (d + 1) ⟨fun _ => hQ _ hM, fun c => ?_⟩
      have w1 : z_w (100 * l1) = 100 * l1 := z_w_id (by omega) (by omega)
      have w2 : z_w (100 * l1 + l1) = 100 * l1 + l1 := z_w_id (by omega) (by omega)
      simp only [w1, w2]
      exact ⟨by omega, by omega, inner 9 l1 0 _ (fun k hk => (z_up_ne hk).trans (hM k hk)) h1 c (by omega) (by omega) (by omega) (fun M'' hM'' => ih (l1 + 1) M'' hM'' (by omega) (by omega) (by omega))⟩
  refine re_154w (d + 1) (c_fillI rfl rfl (by decide) (outer 101 0 _ (fun k hk => z_fl_ne hk) (by omega) (by omega) (by omega)))

theorem c_forget (d : Nat) {M : z_M} {Q : z_V → z_M → Prop} (hQ : Q z_U (z_fl (z_fl (z_fl (z_fl M 28801031 0 2880 (-1)) 28801032 0 2880 (-1)) 28801033 0 2880 (-1)) 1921034 0 192 (-1))) : z_Cl 0 (d + 1) 111 [z_R 6] M Q :=
  re_111 d (c_fillI rfl rfl (by decide) (c_fillI rfl rfl (by decide) (c_fillI rfl rfl (by decide) (c_fillI rfl rfl (by decide) hQ))))
theorem c_forgetw (d : Nat) {M : z_M} {Q : z_V → z_M → Prop} (hQ : Q z_U (z_fl (z_fl (z_fl (z_fl M 28801031 0 2880 (-1)) 28801032 0 2880 (-1)) 28801033 0 2880 (-1)) 1921034 0 192 (-1))) : z_Cl 2 (d + 1) 111 [z_R 6] M Q :=
  re_111w d (c_fillI rfl rfl (by decide) (c_fillI rfl rfl (by decide) (c_fillI rfl rfl (by decide) (c_fillI rfl rfl (by decide) hQ))))
