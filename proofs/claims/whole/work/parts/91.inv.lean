/-! WHAT HOLDS BETWEEN CALLS, part by part -/
def z_IPeo (S : z_M) : Prop :=
  (∀ w : Int, 0 ≤ w → w < 30 → (S 304067 w = 0 ∧ S 301019 w = -1) ∨ (S 304067 w = 1 ∧ S 301019 w = S 301069 w ∧ 0 ≤ S 301069 w ∧ S 301069 w ≤ 95)) ∧
  (∀ w : Int, 0 ≤ w → w < 30 → S 304067 w = 1 → S 304067 (3 * (w / 3)) = 1) ∧
  (∀ p : Int, 0 ≤ p → p < 10 → S 101091 p = S 101023 p ∧ 0 ≤ S 101023 p ∧ S 101023 p < 3 ∧ (S 101023 p = 0 ∨ S 304067 (3 * p + S 101023 p) = 1)) ∧
  (∀ w t : Int, 0 ≤ w → w < 30 → 0 ≤ t → t < 96 → S 304067 w = 1 → S 28801071 (96 * w + t) = S 28801021 (96 * w + t) ∧ 0 ≤ S 28801021 (96 * w + t) ∧ S 28801021 (96 * w + t) < 100) ∧
  (S 13 48 = S 4 9 ∧ (S 4 9 = 0 ∨ S 4 9 = 1))
/-- a code's height -/
def z_hok (cd : Int → Int) : Nat → Int → Nat → Prop
  | 0, _, h => h = 1
  | n + 1, i, h => ((cd i = 0 ∨ cd i = 1) ∧ z_hok cd n (i + 1) (h + 1)) ∨ (cd i = 2 ∧ 1 ≤ h ∧ z_hok cd n (i + 1) h) ∨ (2 < cd i ∧ 2 ≤ h ∧ z_hok cd n (i + 1) (h - 1))
def z_blk2 (cd : Int → Int) (a b : Int) : Prop := 0 ≤ a ∧ a ≤ b ∧ b ≤ 240 ∧ z_hok cd (b - a).toNat a 0
/-- the model's law is well made -/
def z_ILm (S : z_M) : Prop := 0 ≤ S 13 29 ∧ S 13 29 ≤ 16 ∧ ∀ k : Int, 0 ≤ k → k < S 13 29 → z_blk2 (S 2401080) (S 161077 k) (S 161078 k) ∧ z_blk2 (S 2401080) (S 161078 k) (S 161079 k)
theorem z_cmp_lt {x y : Int} : z_cmp x y < 0 ↔ x < y := by
  unfold z_cmp; split
  · omega
  · split <;> omega
theorem z_cmp_ge {x y : Int} : 0 ≤ z_cmp x y ↔ y ≤ x := by
  unfold z_cmp; split
  · omega
  · split <;> omega
theorem z_cmp_gt {x y : Int} : 0 < z_cmp x y ↔ y < x := by
  unfold z_cmp; split
  · omega
  · split <;> omega
theorem z_cmp_le {x y : Int} : z_cmp x y ≤ 0 ↔ x ≤ y := by
  unfold z_cmp; split
  · omega
  · split <;> omega
theorem z_cmp_e0 {x y : Int} : z_cmp x y = 0 ↔ x = y := by
  unfold z_cmp; split
  · omega
  · split <;> omega
theorem km_lies (d : Nat) {M : z_M} {Q : z_V → z_M → Prop} {v lo hi : Int} (h1 : lo ≤ v → v ≤ hi → Q (z_I 1) M) (h0 : v < lo ∨ hi < v → Q (z_I 0) M) : z_Cl 0 d 222 [z_J v, z_J lo, z_J hi] M Q := by
  refine re_222 d ?_
  simp only [z_cmp_lt, z_cmp_ge, z_cmp_gt, z_cmp_le]
  exact ⟨fun c => h0 (Or.inl c), fun c => ⟨fun c2 => h0 (Or.inr c2), fun c2 => h1 c c2⟩⟩
/-! persons, both sides -/
theorem kc_isPerson (d : Nat) {M : z_M} {Q : z_V → z_M → Prop} {p : Int} (h1 : 0 ≤ p → p < 10 → Q (z_I 1) M) (h0 : p < 0 ∨ 10 ≤ p → Q (z_I 0) M) : z_Cl 0 d 216 [z_I p] M Q :=
  re_216 d ⟨fun c => h0 (Or.inl c), fun c => ⟨fun c2 => h0 (Or.inr c2), fun c2 => h1 c c2⟩⟩
theorem kc_isVersion (d : Nat) {M : z_M} {Q : z_V → z_M → Prop} {p : Int} (h1 : 0 ≤ p → p < 3 → Q (z_I 1) M) (h0 : p < 0 ∨ 3 ≤ p → Q (z_I 0) M) : z_Cl 0 d 217 [z_I p] M Q :=
  re_217 d ⟨fun c => h0 (Or.inl c), fun c => ⟨fun c2 => h0 (Or.inr c2), fun c2 => h1 c c2⟩⟩
theorem kc_isMinute (d : Nat) {M : z_M} {Q : z_V → z_M → Prop} {p : Int} (h1 : 0 ≤ p → p < 96 → Q (z_I 1) M) (h0 : p < 0 ∨ 96 ≤ p → Q (z_I 0) M) : z_Cl 0 d 218 [z_I p] M Q :=
  re_218 d ⟨fun c => h0 (Or.inl c), fun c => ⟨fun c2 => h0 (Or.inr c2), fun c2 => h1 c c2⟩⟩
theorem kc_isSpot (d : Nat) {M : z_M} {Q : z_V → z_M → Prop} {p : Int} (h1 : 0 ≤ p → p < 100 → Q (z_I 1) M) (h0 : p < 0 ∨ 100 ≤ p → Q (z_I 0) M) : z_Cl 0 d 219 [z_I p] M Q :=
  re_219 d ⟨fun c => h0 (Or.inl c), fun c => ⟨fun c2 => h0 (Or.inr c2), fun c2 => h1 c c2⟩⟩
theorem kc_isSun (d : Nat) {M : z_M} {Q : z_V → z_M → Prop} {p : Int} (h1 : 0 ≤ p → p < 2 → Q (z_I 1) M) (h0 : p < 0 ∨ 2 ≤ p → Q (z_I 0) M) : z_Cl 0 d 220 [z_I p] M Q := by
  refine re_220 d ?_
  (repeat' (first | with_reducible apply And.intro | with_reducible intro _)) <;> (try omega)
  all_goals first | exact h1 (by omega) (by omega) | exact h0 (by omega)
theorem km_isMinute (d : Nat) {M : z_M} {Q : z_V → z_M → Prop} {p : Int} (h1 : 0 ≤ p → p < 96 → Q (z_I 1) M) (h0 : p < 0 ∨ 96 ≤ p → Q (z_I 0) M) : z_Cl 0 (d + 1) 283 [z_I p] M Q :=
  re_283 d (km_lies d (fun a b => z_viI (z_bl_of (Or.inr rfl) (h1 a (by omega)))) (fun a => z_viI (z_bl_of (Or.inl rfl) (h0 (by omega)))))
theorem km_isSpot (d : Nat) {M : z_M} {Q : z_V → z_M → Prop} {p : Int} (h1 : 0 ≤ p → p < 100 → Q (z_I 1) M) (h0 : p < 0 ∨ 100 ≤ p → Q (z_I 0) M) : z_Cl 0 (d + 1) 237 [z_I p] M Q :=
  re_237 d (km_lies d (fun a b => z_viI (z_bl_of (Or.inr rfl) (h1 a (by omega)))) (fun a => z_viI (z_bl_of (Or.inl rfl) (h0 (by omega)))))
section ZPEO
variable {S M : z_M} {Q : z_V → z_M → Prop}
/-- has: a plan is there -/
theorem kc_has (d : Nat) {w : Int} (hS : z_sit S M) (hI : z_IPeo S) (h0w : 0 ≤ w) (hw : w < 30) (h1 : S 304067 w = 1 → Q (z_I 1) M) (h0 : S 304067 w = 0 → Q (z_I 0) M) : z_Cl 0 d 60 [z_R 4, z_I w] M Q := by
  have e : M 301019 = S 301019 := z_fn hS _ rfl
  have hp := hI.1 w h0w hw
  refine re_60 d ⟨h0w, hw, fun c => ?_, fun c => ?_⟩
  · rw [e] at c; exact h0 (by omega)
  · rw [e] at c; exact h1 (by omega)
theorem kc_isTold (d : Nat) {p : Int} (hS : z_sit S M) (hI : z_IPeo S) (h1 : z_tl S p → Q (z_I 1) M) (h0 : ¬ z_tl S p → Q (z_I 0) M) : z_Cl 0 (d + 1) 61 [z_R 4, z_I p] M Q := by
  refine re_61 d (kc_isPerson d (fun a b => z_viI ⟨fun c => absurd c (by decide), fun _ => ?_⟩) (fun a => z_viI ⟨fun _ => h0 (fun q => by have := q.1; have := q.2.1; omega), fun c => absurd rfl c⟩))
  rw [z_w_id (by omega) (by omega)]
  refine kc_has d hS hI (by omega) (by omega) (fun q => z_viI ⟨fun c => absurd c (by decide), fun _ => h1 ⟨a, b, q⟩⟩) (fun q => z_viI ⟨fun _ => h0 (fun r => by have := r.2.2; omega), fun c => absurd rfl c⟩)
theorem km_isTold (d : Nat) {p : Int} (hS : z_sit S M) (hI : z_IPeo S) (h1 : z_tl S p → Q (z_I 1) M) (h0 : ¬ z_tl S p → Q (z_I 0) M) : z_Cl 0 (d + 1) 250 [z_R 13, z_I p] M Q := by
  have e : M 304067 = S 304067 := z_fn hS _ rfl
  refine re_250 d (km_lies d (fun a b => z_viI ⟨fun c => absurd c (by decide), fun _ => ?_⟩) (fun a => z_viI ⟨fun _ => h0 (fun q => by have := q.1; have := q.2.1; omega), fun c => absurd rfl c⟩))
  rw [z_w_id (by omega) (by omega), e]
  have hp := hI.1 (3 * p) (by omega) (by omega)
  exact ⟨by omega, by omega, fun c => h0 (fun r => by have := r.2.2; omega), fun c => h1 ⟨a, by omega, by omega⟩⟩
theorem z_pd_b (hI : z_IPeo S) {p : Int} (hp : z_tl S p) : 0 ≤ z_pd S p ∧ z_pd S p < 30 ∧ S 304067 (z_pd S p) = 1 ∧ 3 * p ≤ z_pd S p ∧ z_pd S p < 3 * p + 3 := by
  obtain ⟨a, b, c⟩ := hp
  obtain ⟨_, v0, v1, v2⟩ := hI.2.2.1 p a b
  unfold z_pd
  refine ⟨by omega, by omega, ?_, by omega, by omega⟩
  rcases v2 with v2 | v2
  · rw [v2, Int.add_zero]; exact c
  · exact v2
theorem kc_planToday (d : Nat) {p : Int} (hS : z_sit S M) (hI : z_IPeo S) (h0 : 0 ≤ p) (h1 : p < 10) (h : Q (z_I (z_pd S p)) M) : z_Cl 0 d 69 [z_R 4, z_I p] M Q := by
  have e : M 101023 = S 101023 := z_fn hS _ rfl
  obtain ⟨_, v0, v1, v2⟩ := hI.2.2.1 p h0 h1
  refine re_69 d ⟨h0, h1, ?_⟩
  rw [e, z_w_id (x := 3 * p) (by omega) (by omega), z_w_id (by omega) (by omega)]
  exact h
theorem kc_version (d : Nat) {p : Int} (hS : z_sit S M) (h0 : 0 ≤ p) (h1 : p < 10) (h : Q (z_I (S 101023 p)) M) : z_Cl 0 d 65 [z_R 4, z_I p] M Q := by
  have e : M 101023 = S 101023 := z_fn hS _ rfl
  refine re_65 d ⟨h0, h1, ?_⟩
  rw [e]; exact h
theorem z_ps_b (hI : z_IPeo S) {w t : Int} (h0 : 0 ≤ w) (h1 : w < 30) (h2 : 0 ≤ t) (h3 : t < 96) (hp : S 304067 w = 1) : 0 ≤ z_ps S w t ∧ z_ps S w t < 100 := (hI.2.2.2.1 w t h0 h1 h2 h3 hp).2
theorem kc_spot (d : Nat) {w t : Int} (hS : z_sit S M) (h0 : 0 ≤ w) (h1 : w < 30) (h2 : 0 ≤ t) (h3 : t < 96) (h : Q (z_I (z_ps S w t)) M) : z_Cl 0 d 70 [z_R 4, z_I w, z_I t] M Q := by
  have e : M 28801021 = S 28801021 := z_fn hS _ rfl
  refine re_70 d ?_
  rw [z_w_id (x := 96 * w) (by omega) (by omega), z_w_id (by omega) (by omega), e]
  exact ⟨by omega, by omega, h⟩
theorem z_sp_b (hI : z_IPeo S) {p t : Int} (hp : z_tl S p) (h2 : 0 ≤ t) (h3 : t < 96) : 0 ≤ z_sp S p t ∧ z_sp S p t < 100 := by
  obtain ⟨a, b, c, _, _⟩ := z_pd_b hI hp
  exact z_ps_b hI a b h2 h3 c
theorem kc_spotToday (d : Nat) {p t : Int} (hS : z_sit S M) (hI : z_IPeo S) (hp : z_tl S p) (h2 : 0 ≤ t) (h3 : t < 96) (h : Q (z_I (z_sp S p t)) M) : z_Cl 0 (d + 1) 71 [z_R 4, z_I p, z_I t] M Q := by
  obtain ⟨a, b, c, _, _⟩ := z_pd_b hI hp
  exact re_71 d (kc_planToday d hS hI hp.1 hp.2.1 (z_viI (kc_spot d hS a b h2 h3 (z_viI h))))
theorem km_spotBy (d : Nat) {p v t : Int} (hS : z_sit S M) (hI : z_IPeo S) (hp0 : 0 ≤ p) (hp1 : p < 10) (hv0 : 0 ≤ v) (hv1 : v < 3) (h2 : 0 ≤ t) (h3 : t < 96) (hp : S 304067 (3 * p + v) = 1) (h : Q (z_I (z_ps S (3 * p + v) t)) M) : z_Cl 0 d 284 [z_R 13, z_I p, z_I v, z_I t] M Q := by
  have e : M 28801071 = S 28801071 := z_fn hS _ rfl
  refine re_284 d ?_
  rw [z_w_id (x := 3 * p) (by omega) (by omega), z_w_id (x := 3 * p + v) (by omega) (by omega), z_w_id (x := 96 * (3 * p + v)) (by omega) (by omega), z_w_id (by omega) (by omega), e, (hI.2.2.2.1 (3 * p + v) t (by omega) (by omega) h2 h3 hp).1]
  exact ⟨by omega, by omega, h⟩
theorem km_spotOf (d : Nat) {p t : Int} (hS : z_sit S M) (hI : z_IPeo S) (hp : z_tl S p) (h2 : 0 ≤ t) (h3 : t < 96) (h : Q (z_I (z_sp S p t)) M) : z_Cl 0 (d + 1) 285 [z_R 13, z_I p, z_I t] M Q := by
  have e : M 101091 = S 101091 := z_fn hS _ rfl
  obtain ⟨v, v0, v1, v2⟩ := hI.2.2.1 p hp.1 hp.2.1
  obtain ⟨a, b, c, _, _⟩ := z_pd_b hI hp
  refine re_285 d ⟨hp.1, hp.2.1, ?_⟩
  rw [e, v]
  exact km_spotBy d hS hI hp.1 hp.2.1 v0 v1 h2 h3 c (z_viI h)
end ZPEO
