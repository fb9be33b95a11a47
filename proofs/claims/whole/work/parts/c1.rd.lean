/-! READING TEXTS: opened and closed; what stays -/
section ZRO
variable {S M N : z_M} {Q : z_V → z_M → Prop} {q : Int → Int} {n i : Int}
/-- what stays and the caches are the same -/
def zc_c (M N : z_M) : Prop := (∀ k j, z_cor k j = true → N k j = M k j) ∧ ∀ k, z_cch k = true → N k = M k
theorem zc_rf : zc_c M M := ⟨fun _ _ _ => rfl, fun _ _ => rfl⟩
theorem zc_tr {A B C : z_M} (h : zc_c A B) (g : zc_c B C) : zc_c A C := ⟨fun k j q => (g.1 k j q).trans (h.1 k j q), fun k q => (g.2 k q).trans (h.2 k q)⟩
theorem zc_sit (h : z_sit S M) (g : zc_c M N) : z_sit S N := z_at_of h g.1 g.2
theorem zc_up {k : Nat} {j x : Int} (hk : z_cor k j = false) (hc : z_cch k = false) : zc_c M (z_up M k j x) := by
  refine ⟨fun k' j' h => ?_, fun k' h => z_up_ne (fun e => by rw [e, hc] at h; cases h)⟩
  unfold z_up
  by_cases e : k' = k
  · rw [if_pos e]
    by_cases e2 : j' = j
    · rw [e, e2, hk] at h; cases h
    · rw [if_neg e2]
  · rw [if_neg e]
theorem zc_mv (h : zr_mv M N) : zc_c M N := by
  refine ⟨fun k j q => ?_, fun k q => h.1 k (fun e => by rw [e] at q; cases q)⟩
  by_cases e : k = 2
  · subst e
    have hj : j = 1 := by
      unfold z_cor z_cof at q
      rw [show z_cak 2 = false from rfl] at q
      simp only [Bool.false_or, Bool.or_eq_true, Bool.and_eq_true, beq_iff_eq] at q
      omega
    rw [hj]; exact h.2
  · exact congrFun (h.1 k e) j
theorem zc_m13 {j : Int} (hj : j = 2 ∨ j = 4) : z_cor 13 j = false := by rcases hj with rfl | rfl <;> rfl
theorem zc_mm (h : zm_mv M N) : zc_c M N := by
  refine ⟨fun k j q => ?_, fun k q => h.1 k (fun e => by rw [e] at q; cases q)⟩
  by_cases e : k = 13
  · subst e
    refine h.2 j (fun c => ?_) (fun c => ?_)
    · rw [zc_m13 (Or.inl c)] at q; cases q
    · rw [zc_m13 (Or.inr c)] at q; cases q
  · exact congrFun (h.1 k e) j
theorem zc_fn (h : zc_c M N) (k : Nat) (hk : z_cak k = true) : N k = M k := funext fun j => h.1 k j (by unfold z_cor; rw [hk]; rfl)
/-- the text -/
def zr_q (S : z_M) (n : Int) : Int → Int := fun i => if i < n then S 2601014 i else -1
theorem zr_q_T (hT : z_ITape S) (h0 : 0 ≤ n) (h1 : n ≤ S 2 1) : zr_T (zr_q S n) n := by
  obtain ⟨a, b, c, e⟩ := hT
  refine ⟨h0, by have : S 2 1 = S 2 1 := rfl; omega, fun i i0 i1 => ?_, fun i i0 => ?_⟩
  · unfold zr_q
    have : i < S 2 1 := by have : S 2 1 = S 2 1 := rfl; omega
    rw [if_pos i1, show S 2601014 i = _ from e i i0 this, z_and255]
    omega
  · unfold zr_q; rw [if_neg (by omega)]
theorem kr_open (d : Nat) {a most : Int} (hS : z_sit S M) (hT : z_ITape S) (h1 : 1 ≤ a → a ≤ most → a ≤ S 2 1 → ∀ N : z_M, zr_mv M N → zr_st (zr_q S a) a 0 N → Q (z_I 1) N) (h0 : ¬ (1 ≤ a ∧ a ≤ most ∧ a ≤ S 2 1) → Q (z_I 0) M) : z_Cl 0 d 131 [z_R 2, z_I a, z_I most] M Q := by
  have e : M 2 1 = S 2 1 := z_ff hS 2 1 rfl
  refine re_131 d ⟨fun c => h0 (by omega), fun c => ⟨fun c2 => h0 (by omega), fun c2 => ?_⟩⟩
  rw [e]
  refine ⟨fun c3 => h1 c c2 c3 _ (zr_mv_tr (zr_mv_up (by decide)) (zr_mv_tr (zr_mv_up (by decide)) (zr_mv_up (by decide)))) ⟨zr_q_T hT (by omega) c3, fun j j0 j1 => ?_, by omega, by omega, ?_, ?_, ?_⟩, fun c3 => h0 (by omega)⟩
  · rw [z_up_ne (by decide), z_up_ne (by decide), z_up_ne (by decide), z_fn hS 2601014 rfl]
    unfold zr_q; rw [if_pos j1]
  · rw [z_up_nj (by decide), z_up_nj (by decide), z_up_eq]
  · rw [z_up_nj (by decide), z_up_eq]
  · rw [z_up_eq]
def zr_cl (N : z_M) : z_M := z_up (z_up (z_up N 2 1 0) 2 2 0) 2 3 0
theorem kr_close (d : Nat) {a : Int} (h0 : N 2 4 = 0 → Q (z_I a) (zr_cl N)) (h1 : N 2 4 ≠ 0 → Q (z_I (N 2 4)) (zr_cl N)) : z_Cl 0 (d + 1) 132 [z_R 2, z_I a] N Q := by
  have e : (z_up (z_up (z_up N 2 1 0) 2 2 0) 2 3 0) 2 4 = N 2 4 := by rw [z_up_nj (by decide), z_up_nj (by decide), z_up_nj (by decide)]
  refine re_132 d (re_130 d ?_)
  rw [e]
  exact ⟨h1, h0⟩
theorem zr_cl_sit (h : z_sit S N) : z_sit (z_up S 2 1 0) (zr_cl N) := z_at_up (z_at_up (z_sit_2 h 0) 2 _ _ rfl rfl) 2 _ _ rfl rfl
/-- the model begins -/
def zm_bg (M : z_M) (a : Int) : z_M := z_up (z_up (z_up (z_up M 13 1 0) 13 2 0) 13 3 a) 13 4 0
theorem zm_bg_sit {a : Int} (h : z_sit S M) : z_sit (z_up S 13 1 0) (zm_bg M a) := z_at_up (z_at_up (z_at_up (z_sit_13 h 0) 13 _ _ rfl rfl) 13 _ _ rfl rfl) 13 _ _ rfl rfl
theorem zm_bg_st {a : Int} (hq : zr_T q a) (hT : ∀ i : Int, 0 ≤ i → i < a → z_and (M 2603064 i) 255 = q i) : zm_st q a 0 0 (zm_bg M a) := by
  refine ⟨hq, fun j j0 j1 => ?_, by omega, by omega, ?_, ?_, ?_⟩
  · unfold zm_bg
    rw [z_up_ne (by decide), z_up_ne (by decide), z_up_ne (by decide), z_up_ne (by decide)]
    exact hT j j0 j1
  · unfold zm_bg; rw [z_up_nj (by decide), z_up_eq]
  · unfold zm_bg; rw [z_up_nj (by decide), z_up_nj (by decide), z_up_eq]
  · unfold zm_bg; rw [z_up_eq]
/-- a core place is told anew, where the law's values don't look -/
def zc_x (X : Nat → Int → Bool) (M N : z_M) : Prop := ∀ k j, z_cor k j = true → X k j = false → N k j = M k j
theorem zc_x_n {X : Nat → Int → Bool} (h : zc_x X M N) (k : Nat) (hk : z_cak k = true) (hx : ∀ j, X k j = false) : N k = M k := funext fun j => h k j (by unfold z_cor; rw [hk]; rfl) (hx j)
end ZRO
