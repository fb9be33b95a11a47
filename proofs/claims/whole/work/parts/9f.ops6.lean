/-! OPS: paged -/
section ZPGO
variable {S M : z_M} {Q : z_V → z_M → Prop}
/-- fewest steps: over the four beside -/
def zw_sf (S : z_M) (sp s : Int) : Nat → Int
  | 0 => z_D S sp s
  | j + 1 => if z_nxt s (2 * (j : Int)) = -1 then zw_sf S sp s j else z_min (zw_sf S sp s j) (z_D S sp (z_nxt s (2 * (j : Int))) + 1)
def zw_st (S : z_M) (sp s : Int) : Int := z_min (zw_sf S sp s 4) 1000
def zw_lf (S : z_M) (sp s : Int) : Nat → Int
  | 0 => 1000
  | j + 1 => if z_nxt s (2 * (j : Int)) = -1 then zw_lf S sp s j else z_min (zw_lf S sp s j) (z_D S sp (z_nxt s (2 * (j : Int))))
theorem zw_sf_b (S : z_M) (sp s : Int) (j : Nat) : 0 ≤ zw_sf S sp s j ∧ zw_sf S sp s j ≤ 1000 := by
  induction j with
  | zero => have := z_D_b S sp s; show 0 ≤ z_D S sp s ∧ z_D S sp s ≤ 1000; omega
  | succ j ih =>
    have := z_D_b S sp (z_nxt s (2 * (j : Int)))
    unfold zw_sf z_min
    split
    · exact ih
    · split <;> omega
theorem zw_lf_b (S : z_M) (sp s : Int) (j : Nat) : zw_lf S sp s j = 1000 ∨ (0 ≤ zw_lf S sp s j ∧ zw_lf S sp s j < 100) := by
  induction j with
  | zero => exact Or.inl rfl
  | succ j ih =>
    have := z_D_b S sp (z_nxt s (2 * (j : Int)))
    unfold zw_lf z_min
    split
    · exact ih
    · split <;> omega
/-- a reached spot keeps its steps; the start's ground is plain -/
theorem zw_sf_set {sp s : Int} (hsp : S 1001015 sp = 0) (hs : z_D S sp s ≠ 1000) : ∀ j, j ≤ 4 → zw_sf S sp s j = z_D S sp s := by
  have hp : S 1001015 s = 0 := by
    rcases z_D_c S sp s with ⟨e, _⟩ | ⟨m, _, e, q, r⟩
    · exact absurd e hs
    · cases m with
      | zero =>
        have : s = sp := of_decide_eq_true (show decide (s = sp) = true from q)
        rw [this]; exact hsp
      | succ m =>
        rcases z_rc_inv q with q | ⟨q, _⟩
        · rw [r m (by omega)] at q; cases q
        · exact q
  intro j
  induction j with
  | zero => intro _; rfl
  | succ j ih =>
    intro hj
    unfold zw_sf
    rw [ih (by omega)]
    split
    · rfl
    · rename_i hn
      have b1 := z_D_b S sp s
      unfold z_min
      by_cases e : z_D S sp (z_nxt s (2 * (j : Int))) = 1000
      · rw [if_neg (by omega)]
      · have := z_D_nb (by omega) hp hn hs e
        rw [if_neg (by omega)]
theorem zw_sf_un {sp s : Int} (hs : z_D S sp s = 1000) : ∀ j, zw_sf S sp s j = (if zw_lf S sp s j = 1000 then 1000 else zw_lf S sp s j + 1) := by
  intro j
  induction j with
  | zero =>
    have e1 : zw_sf S sp s 0 = z_D S sp s := rfl
    have e2 : zw_lf S sp s 0 = 1000 := rfl
    rw [e1, e2, hs, if_pos rfl]
  | succ j ih =>
    have b1 := zw_lf_b S sp s j
    have b2 := z_D_b S sp (z_nxt s (2 * (j : Int)))
    unfold zw_sf zw_lf z_min
    rw [ih]
    split
    · rfl
    · split <;> split <;> split <;> (try split) <;> omega
theorem zw_m9min {a b : Int} (ha : a = 1000 ∨ (0 ≤ a ∧ a < 100)) (hb : b = 1000 ∨ (0 ≤ b ∧ b < 100)) : zv_m9 (z_min a b) = if zv_m9 b < zv_m9 a then zv_m9 b else zv_m9 a := by
  unfold z_min zv_m9
  repeat' split
  all_goals omega
theorem kc_stepsOf (d : Nat) {sp s : Int} (s0 : 0 ≤ s) (s1 : s < 100) (hf : ∀ s : Int, 0 ≤ s → s < 100 → M 1001048 s = z_D S sp s) (h : Q (z_I (zw_st S sp s)) M) : z_Cl 0 (d + 1) 166 [z_R 10, z_I s] M Q := by
  refine re_166 d ⟨s0, s1, ?_⟩
  rw [hf s s0 s1]
  have := z_lpi (n := 4) (fun q => zw_sf S sp s q) (fun _ N => N = M) (fun N v q => z_G 0 (d + 1) z_m166 9 [z_R 10, z_I s, z_I v, z_I (2 * q), z_U] [] N Q) M rfl (fun q N hq hN nx => ?_) (fun N hN => ?_)
  · exact this
  · subst hN
    have nx' := nx N rfl
    have e2 : zw_sf S sp s (q + 1) = if z_nxt s (2 * (q : Int)) = -1 then zw_sf S sp s q else z_min (zw_sf S sp s q) (z_D S sp (z_nxt s (2 * (q : Int))) + 1) := rfl
    rw [e2, show 2 * ((q + 1 : Nat) : Int) = 2 * (q : Int) + 2 from by omega] at nx'
    refine rg_166_9 d ⟨fun c => absurd c (by omega), fun _ => c_next d s0 s1 (by omega) (by omega) (z_viI ?_)⟩
    rw [z_w_id (x := 2 * (q : Int) + 2) (by omega) (by omega)]
    refine ⟨fun c => ?_, fun c => ?_⟩
    · rcases z_nxt_in s (2 * (q : Int)) with e | ⟨e3, e4⟩
      · exact absurd e c
      · have := z_D_b S sp (z_nxt s (2 * (q : Int)))
        rw [hf _ e3 e4, z_w_id (by omega) (by omega)]
        rw [if_neg c] at nx'
        exact ⟨e3, e4, nx'⟩
    · rw [if_pos c] at nx'; exact nx'
  · subst hN
    exact rg_166_9 d ⟨fun _ => h, fun c => absurd c (by decide)⟩
theorem km_stepsFrom (d : Nat) {sp s : Int} (hsp : S 1001015 sp = 0) (s0 : 0 ≤ s) (s1 : s < 100) (hf : ∀ s : Int, 0 ≤ s → s < 100 → M 1001119 s = zv_m9 (z_D S sp s)) (h : Q (z_I (zv_m9 (zw_st S sp s))) M) : z_Cl 0 (d + 2) 363 [z_R 13, z_I s] M Q := by
  have b0 := z_D_b S sp s
  unfold zw_st at h
  refine re_363 (d + 1) ⟨s0, s1, ?_⟩
  rw [hf s s0 s1]
  by_cases hs : z_D S sp s = 1000
  · have e9 : zv_m9 (z_D S sp s) = 1000000000 := by unfold zv_m9; rw [if_pos hs]
    rw [e9]
    refine ⟨fun _ => ?_, fun c => absurd c (by decide)⟩
    rw [zw_sf_un hs] at h
    have := z_lpi (n := 4) (fun q => zv_m9 (zw_lf S sp s q)) (fun _ N => N = M) (fun N v q => z_G 0 (d + 2) z_m363 25 [z_R 13, z_I s, z_I v, z_I (2 * q), z_U] [] N Q) M rfl (fun q N hq hN nx => ?_) (fun N hN => ?_)
    · have e : zv_m9 (zw_lf S sp s 0) = 1000000000 := rfl
      rw [← e]; exact this
    · subst hN
      have nx' := nx N rfl
      have e2 : zw_lf S sp s (q + 1) = if z_nxt s (2 * (q : Int)) = -1 then zw_lf S sp s q else z_min (zw_lf S sp s q) (z_D S sp (z_nxt s (2 * (q : Int)))) := rfl
      rw [e2, show 2 * ((q + 1 : Nat) : Int) = 2 * (q : Int) + 2 from by omega] at nx'
      refine rg_363_25 (d + 1) ⟨fun c => absurd c (by omega), fun _ => km_beside d s0 s1 (by omega) (by omega) (z_viI ?_)⟩
      rw [z_w_id (x := 2 * (q : Int) + 2) (by omega) (by omega)]
      refine ⟨fun c => ?_, fun c => ?_⟩
      · rw [if_pos c] at nx'; exact nx'
      · rcases z_nxt_in s (2 * (q : Int)) with e | ⟨e3, e4⟩
        · exact absurd e c
        · have b1 := z_D_b S sp (z_nxt s (2 * (q : Int)))
          have b2 := zw_lf_b S sp s q
          rw [if_neg c, zw_m9min b2 b1] at nx'
          rw [hf _ e3 e4]
          refine ⟨e3, e4, fun c2 => ?_, fun c2 => ⟨e3, e4, ?_⟩⟩
          · rw [if_neg (by omega)] at nx'
            exact nx'
          · rw [if_pos c2] at nx'
            exact nx'
    · subst hN
      have b2 := zw_lf_b S sp s 4
      refine rg_363_25 (d + 1) ⟨fun _ => ?_, fun c => absurd c (by decide)⟩
      unfold z_min at h
      unfold zv_m9 at h ⊢
      by_cases c : zw_lf S sp s 4 = 1000
      · rw [if_pos c] at h ⊢
        exact ⟨fun c2 => absurd rfl c2, fun _ => h⟩
      · rw [if_neg c] at h ⊢
        refine ⟨fun _ => ?_, fun c2 => absurd c2 (by omega)⟩
        rw [z_w_id (by omega) (by omega)]
        rw [if_neg (by omega), if_neg (by omega)] at h
        exact h
  · have e9 : zv_m9 (z_D S sp s) = z_D S sp s := by unfold zv_m9; rw [if_neg hs]
    rw [e9]
    refine ⟨fun c => absurd c (by omega), fun _ => ⟨s0, s1, ?_⟩⟩
    rw [zw_sf_set hsp hs 4 (by decide)] at h
    unfold zv_m9 z_min at h
    rw [if_neg (by omega), if_neg (by omega)] at h
    exact h
theorem zw_st_b (S : z_M) (sp s : Int) : 0 ≤ zw_st S sp s ∧ zw_st S sp s ≤ 1000 := by
  have := zw_sf_b S sp s 4
  unfold zw_st z_min
  split <;> omega
/-- who is nearest so far, and how far -/
def zw_pg (S : z_M) (sp t : Int) : Nat → Int × Int
  | 0 => (-2, 1000)
  | p + 1 => if S 304067 (3 * (p : Int)) = 1 ∧ zw_st S sp (z_sp S (p : Int) t) < (zw_pg S sp t p).2 then ((p : Int), zw_st S sp (z_sp S (p : Int) t)) else zw_pg S sp t p
theorem zw_pg_b (S : z_M) (sp t : Int) (p : Nat) : 0 ≤ (zw_pg S sp t p).2 ∧ (zw_pg S sp t p).2 ≤ 1000 ∧ ((zw_pg S sp t p).1 = -2 ∨ (0 ≤ (zw_pg S sp t p).1 ∧ (zw_pg S sp t p).2 < 1000)) := by
  induction p with
  | zero => exact ⟨(by decide : (0 : Int) ≤ 1000), Int.le_refl _, Or.inl rfl⟩
  | succ p ih =>
    have := zw_st_b S sp (z_sp S (p : Int) t)
    unfold zw_pg
    split
    · rename_i c
      exact ⟨this.1, this.2, Or.inr ⟨by show (0 : Int) ≤ (p : Int); omega, by show zw_st S sp (z_sp S (p : Int) t) < 1000; omega⟩⟩
    · exact ih
def z_o34 (S : z_M) (sp t k : Int) : Int := if (0 ≤ sp ∧ sp < 100 ∧ S 1001015 sp = 0) ∧ (0 ≤ t ∧ t < 96) ∧ 0 ≤ k ∧ k ≤ 1 then (if (zw_pg S sp t 10).1 = -2 ∨ k = 0 then (zw_pg S sp t 10).1 else (zw_pg S sp t 10).2) else -1
theorem kc_paged (d : Nat) {sp t k : Int} (hS : z_sit S M) (hI : z_IS S) (h : ∀ M' : z_M, z_sit S M' → Q (z_I (z_o34 S sp t k)) M') : z_Cl 0 (d + 4) 201 [z_R 1, z_I sp, z_I t, z_I k] M Q := by
  unfold z_o34 at h
  have no : ¬ ((0 ≤ sp ∧ sp < 100 ∧ S 1001015 sp = 0) ∧ (0 ≤ t ∧ t < 96) ∧ 0 ≤ k ∧ k ≤ 1) → Q (z_I (-1)) M := fun c => by have h0 := h M hS; rw [if_neg c] at h0; exact h0
  refine re_201 (d + 3) (kc_isPlain (d + 2) hS (fun s0 s1 hsp => z_y1 (kc_isMinute (d + 3) (fun t0 t1 => z_y1 ⟨fun c => no (fun z => by have := z.2.2; omega), fun c => ⟨fun c2 => re_164 (d + 2) ?_, fun c2 => no (fun z => by have := z.2.2; omega)⟩⟩) (fun c => z_n1 (no (fun z => by have := z.2.1; omega))))) (fun c => z_n1 (no (fun z => c z.1))))
  rw [if_pos ⟨⟨s0, s1, hsp⟩, ⟨t0, t1⟩, c, c2⟩] at h
  refine kc_measure_w d hS s0 s1 hsp (fun N hN hf => ?_)
  refine z_lpi (n := 10) (fun q => zw_pg S sp t q) (fun _ N' => N' = N) (fun N' v q => z_G 0 (d + 3) z_m164 17 [z_R 10, z_I sp, z_I t, z_I k, z_I v.1, z_I v.2, z_I q, z_U] [] N' (fun v3 M3 => z_vi v3 fun x3 => Q (z_I x3) M3)) N rfl (fun q N' hq hN' nx => ?_) (fun N' hN' => ?_)
  · subst hN'
    have nx' := nx N' rfl
    have bb := zw_pg_b S sp t q
    have e2 : zw_pg S sp t (q + 1) = if S 304067 (3 * (q : Int)) = 1 ∧ zw_st S sp (z_sp S (q : Int) t) < (zw_pg S sp t q).2 then ((q : Int), zw_st S sp (z_sp S (q : Int) t)) else zw_pg S sp t q := rfl
    rw [e2] at nx'
    refine rg_164_17 (d + 2) ⟨fun c3 => absurd c3 (by omega), fun _ => kc_isTold (d + 1) hN hI.1 (fun hp => z_y1 ?_) (fun hp => z_n1 ⟨fun _ => ?_, fun c3 => absurd c3 (by omega)⟩)⟩
    · obtain ⟨r0, r1⟩ := z_sp_b hI.1 hp t0 t1
      refine kc_spotToday (d + 1) hN hI.1 hp t0 t1 (z_viI (kc_stepsOf (S := S) (sp := sp) (d + 1) r0 r1 hf (z_viI ?_)))
      rw [z_wq (by omega)]
      refine ⟨fun c3 => ?_, fun c3 => ?_⟩
      · rw [if_neg (fun z => by have := z.2; omega)] at nx'; exact nx'
      · rw [if_pos ⟨hp.2.2, c3⟩] at nx'; exact nx'
    · rw [z_wq (by omega)]
      rw [if_neg (fun z => hp ⟨by omega, by omega, z.1⟩)] at nx'; exact nx'
  · subst hN'
    have h0 := h N' hN
    have bb := zw_pg_b S sp t 10
    refine rg_164_17 (d + 2) ⟨fun _ => ⟨fun c3 => z_viI ?_, fun c3 => ⟨fun c4 => z_viI ?_, fun c4 => z_viI ?_⟩⟩, fun c3 => absurd c3 (by decide)⟩
    · rw [if_pos (Or.inr c3)] at h0; exact h0
    · rw [if_neg (fun z => z.elim c4 c3)] at h0; exact h0
    · rw [if_pos (Or.inl c4)] at h0; exact h0
theorem km_paged (d : Nat) {sp t k : Int} (hS : z_sit S M) (hI : z_IS S) (h : ∀ M' : z_M, z_sit S M' → Q (z_I (z_o34 S sp t k)) M') : z_Cl 0 (d + 4) 364 [z_R 13, z_I sp, z_I t, z_I k] M Q := by
  unfold z_o34 at h
  have no : ¬ ((0 ≤ sp ∧ sp < 100 ∧ S 1001015 sp = 0) ∧ (0 ≤ t ∧ t < 96) ∧ 0 ≤ k ∧ k ≤ 1) → Q (z_I (-1)) M := fun c => by have h0 := h M hS; rw [if_neg c] at h0; exact h0
  refine re_364 (d + 3) (km_isSpot (d + 2) (fun s0 s1 => z_y1 ⟨s0, s1, ?_⟩) (fun c => z_n1 (no (fun z => by have := z.1; omega))))
  rw [z_fn hS 1001065 rfl, ← hI.2.1.1]
  refine ⟨fun c => no (fun z => c z.1.2.2), fun hsp => km_isMinute (d + 2) (fun t0 t1 => z_y1 (km_lies (d + 3) (fun c c2 => z_y2 ?_) (fun c => z_n2 (no (fun z => by have := z.2.2; omega))))) (fun c => z_n1 (no (fun z => by have := z.2.1; omega)))⟩
  rw [if_pos ⟨⟨s0, s1, hsp⟩, ⟨t0, t1⟩, c, c2⟩] at h
  refine km_laysFarTo d hS hI s0 s1 (fun N hN hf => ?_)
  have := z_lpi (n := 10) (fun q => zw_pg S sp t q) (fun _ N' => N' = N) (fun N' v q => z_G 0 (d + 4) z_m364 52 [z_R 13, z_I sp, z_I t, z_I k, z_I v.1, z_I (zv_m9 v.2), z_I q] [] N' Q) N rfl (fun q N' hq hN' nx => ?_) (fun N' hN' => ?_)
  · exact this
  · subst hN'
    have nx' := nx N' rfl
    have bb := zw_pg_b S sp t q
    have e2 : zw_pg S sp t (q + 1) = if S 304067 (3 * (q : Int)) = 1 ∧ zw_st S sp (z_sp S (q : Int) t) < (zw_pg S sp t q).2 then ((q : Int), zw_st S sp (z_sp S (q : Int) t)) else zw_pg S sp t q := rfl
    rw [e2] at nx'
    refine rg_364_52 (d + 3) ⟨fun c3 => absurd c3 (by omega), fun _ => km_isTold (d + 2) hN hI.1 (fun hp => z_y1 ?_) (fun hp => z_n1 ?_)⟩
    · obtain ⟨r0, r1⟩ := z_sp_b hI.1 hp t0 t1
      have bs := zw_st_b S sp (z_sp S (q : Int) t)
      refine km_spotOf (d + 2) hN hI.1 hp t0 t1 (z_viI (km_stepsFrom (S := S) (sp := sp) (d + 1) hsp r0 r1 hf (z_viI ?_)))
      rw [z_wq (by omega)]
      refine ⟨fun c3 => km_spotOf (d + 2) hN hI.1 hp t0 t1 (z_viI (km_stepsFrom (S := S) (sp := sp) (d + 1) hsp r0 r1 hf (z_viI ?_))), fun c3 => ?_⟩
      · rw [if_pos ⟨hp.2.2, by unfold zv_m9 at c3; split at c3 <;> split at c3 <;> omega⟩] at nx'; exact nx'
      · rw [if_neg (fun z => by have := z.2; unfold zv_m9 at c3; split at c3 <;> split at c3 <;> omega)] at nx'; exact nx'
    · rw [z_wq (by omega)]
      rw [if_neg (fun z => hp ⟨by omega, by omega, z.1⟩)] at nx'; exact nx'
  · subst hN'
    have h0 := h N' hN
    have bb := zw_pg_b S sp t 10
    refine rg_364_52 (d + 3) ⟨fun _ => ⟨fun c4 => ⟨fun c3 => ?_, fun c3 => ?_⟩, fun c4 => ?_⟩, fun c3 => absurd c3 (by decide)⟩
    · rw [if_neg (fun z => z.elim c4 c3)] at h0
      have e9 : zv_m9 (zw_pg S sp t 10).2 = (zw_pg S sp t 10).2 := by unfold zv_m9; rw [if_neg (by omega)]
      rw [e9]; exact h0
    · rw [if_pos (Or.inr c3)] at h0; exact h0
    · rw [if_pos (Or.inl c4), c4] at h0; exact h0
end ZPGO
