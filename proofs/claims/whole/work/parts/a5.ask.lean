/-! OPS: ask, enough; the model's count of one question -/
section ZAS7
variable {S M : z_M} {Q : z_V → z_M → Prop}
def zy_alk (S : z_M) (p : Nat) (t : Int) : Prop := ∀ o v : Nat, o < 30 → v < 3 → S 304067 (o : Int) = 1 → z_tl S ((o / 3 : Nat) : Int) → zx_pv S p v = true → zy_is S p t v o = zy_is S p t 0 (3 * (o / 3))
theorem zy_b01 {a b : Bool} (h : zv_b a = zv_b b) : a = b := by
  cases a <;> cases b
  · rfl
  · exact absurd h (by decide)
  · exact absurd h (by decide)
  · rfl
theorem zy_i9 {p v : Nat} (hp : p < 10) (hv : v < 3) : z_w (z_w (3 * (p : Int)) + (v : Int)) = 3 * (p : Int) + (v : Int) := by rw [z_w_id (x := 3 * (p : Int)) (by omega) (by omega), z_w_id (by omega) (by omega)]
theorem km_isSeenAlike (d : Nat) {p : Nat} {t : Int} (hS : z_sit S M) (hI : z_IPeo S) (ht : z_tl S (p : Int)) (hit : zy_it S M p t 3 0) (h1 : zy_alk S p t → Q (z_I 1) M) (h0 : Q (z_I 0) M) : z_Cl 0 (d + 2) 328 [z_R 13, z_I (p : Int)] M Q := by
  have hp : p < 10 := by have := ht.2.1; omega
  refine re_328 (d + 1) (rg_328_2 (d + 1) ?_)
  have e0 : z_w (z_w (3 * (p : Int)) + 0) = 3 * (p : Int) := by rw [Int.add_zero, z_w_id (x := 3 * (p : Int)) (by omega) (by omega), z_w_id (by omega) (by omega)]
  rw [e0, z_fn hS 304067 rfl, ht.2.2]
  clear e0
  refine ⟨by omega, by omega, fun _ => ?_, fun c => absurd c (by decide)⟩
  refine z_lpi (n := 30) (fun _ => ()) (fun o N => N = M ∧ ∀ o' v : Nat, o' < o → v < 3 → S 304067 (o' : Int) = 1 → z_tl S ((o' / 3 : Nat) : Int) → zx_pv S p v = true → zy_is S p t v o' = zy_is S p t 0 (3 * (o' / 3))) (fun N _ o => z_G 0 (d + 2) z_m328 23 [z_R 13, z_I (p : Int), z_I 0, z_I o, z_U, z_U] [] N Q) M ⟨rfl, fun o' v c => absurd c (Nat.not_lt_zero o')⟩ (fun o N ho hI2 nx => ?_) (fun N hI2 => ?_)
  · obtain ⟨rfl, ha⟩ := hI2
    refine rg_328_23 (d + 1) ⟨fun c => absurd c (by omega), fun _ => ⟨by omega, by omega, ?_⟩⟩
    rw [zy_d3 ho, z_fn hS 304067 rfl, z_wq (q := o) (by omega)]
    have next : (∀ v : Nat, v < 3 → S 304067 (o : Int) = 1 → z_tl S ((o / 3 : Nat) : Int) → zx_pv S p v = true → zy_is S p t v o = zy_is S p t 0 (3 * (o / 3))) → z_G 0 (d + 2) z_m328 23 [z_R 13, z_I (p : Int), z_I 0, z_I ((o + 1 : Nat) : Int), z_U, z_U] [] N Q := by
      intro hh
      refine nx N ⟨rfl, fun o' v g1 g2 g3 g4 g5 => ?_⟩
      by_cases e : o' = o
      · rw [e] at g3 g4 ⊢; exact hh v g2 g3 g4 g5
      · exact ha o' v (by omega) g2 g3 g4 g5
    refine ⟨fun c => next (fun v _ g3 _ _ => by rw [c] at g3; exact absurd g3 (by decide)), fun c => km_isTold d hS hI (fun htl => z_y2 ?_) (fun htl => z_n2 (next (fun v _ _ g4 _ => absurd g4 htl)))⟩
    have e3 : z_w (((o / 3 : Nat) : Int) * 3) = ((3 * (o / 3) : Nat) : Int) := by rw [z_w_id (by omega) (by omega)]; omega
    rw [e3]
    clear e3
    have hf : S 304067 ((3 * (o / 3) : Nat) : Int) = 1 := by
      have := htl.2.2
      rw [show 3 * ((o / 3 : Nat) : Int) = ((3 * (o / 3) : Nat) : Int) from by omega] at this
      exact this
    refine rg_328_58 (d + 1) ⟨by omega, by omega, ?_⟩
    rw [z_fn hS 304067 rfl, hf]
    refine ⟨fun _ => ?_, fun c => absurd c (by decide)⟩
    refine z_lpi (n := 3) (fun _ => ()) (fun v N' => N' = N ∧ ∀ v' : Nat, v' < v → zx_pv S p v' = true → zy_is S p t v' o = zy_is S p t 0 (3 * (o / 3))) (fun N' _ v => z_G 0 (d + 2) z_m328 77 [z_R 13, z_I (p : Int), z_I 0, z_I (o : Int), z_I ((3 * (o / 3) : Nat) : Int), z_I v] [] N' Q) N ⟨rfl, fun v' c => absurd c (Nat.not_lt_zero v')⟩ (fun v N' hv hI3 nx3 => ?_) (fun N' hI3 => ?_)
    · obtain ⟨rfl, hb⟩ := hI3
      refine rg_328_77 (d + 1) ⟨fun c => absurd c (by omega), fun _ => ?_⟩
      have e30 := zy_ix30 (v := 0) (o := 3 * (o / 3)) (by decide) (by omega)
      rw [show ((0 : Nat) : Int) = 0 from rfl] at e30
      rw [zy_i9 hp hv, zy_ix30 hv ho, e30, z_fn hS 304067 rfl, zx_pv01 hI hp hv, z_wq (q := v) (by omega)]
      clear e30
      have i2 := hit 0 (3 * (o / 3)) (by decide) (by omega) (zx_pv0 ht) (Or.inl (by decide))
      rw [show ((0 : Nat) : Int) = 0 from rfl] at i2
      refine ⟨by omega, by omega, fun c2 => ?_, fun c2 => ⟨by omega, by omega, by omega, by omega, ?_⟩⟩
      · refine nx3 N' ⟨rfl, fun v' g1 g2 => ?_⟩
        by_cases e : v' = v
        · rw [e, zx_0ne c2] at g2; cases g2
        · exact hb v' (by omega) g2
      · have i1 := hit v o hv ho (zx_0eq c2) (Or.inl hv)
        rw [i1, i2]
        refine ⟨fun c3 => nx3 N' ⟨rfl, fun v' g1 g2 => ?_⟩, fun _ => h0⟩
        by_cases e : v' = v
        · rw [e]; exact zy_b01 c3
        · exact hb v' (by omega) g2
    · obtain ⟨rfl, hb⟩ := hI3
      refine rg_328_77 (d + 1) ⟨fun _ => ?_, fun c => absurd c (by decide)⟩
      rw [z_wq (by omega)]
      exact next (fun v g2 _ _ g5 => hb v g2 g5)
  · obtain ⟨rfl, ha⟩ := hI2
    exact rg_328_23 (d + 1) ⟨fun _ => h1 ha, fun c => absurd c (by decide)⟩
theorem zy_alk_A {p : Nat} {t : Int} (hI : z_IPeo S) (ht : z_tl S (p : Int)) (h : zy_alk S p t) (k k' : Nat) : zx_A S p t k = zx_A S p t k' := by
  unfold zx_A
  refine z_bs_ext (fun q hq => ?_)
  have v1 := zx_ver_pl k ht
  have v2 := zx_ver_pl k' ht
  by_cases hq2 : z_tl S (q : Int)
  · have w1 := zx_ver_pl k hq2
    have w2 := zx_ver_pl k' hq2
    have w1' := w1.1
    have w2' := w2.1
    have e : ∀ (v w : Nat), v < 3 → w < 3 → zx_pv S p v = true → zx_pv S q w = true → z_snb S (3 * (p : Int) + (v : Int)) t (3 * (q : Int) + (w : Int)) = zy_is S p t 0 (3 * q) := by
      intro v w hv hw hv2 hw2
      have hpl := zx_pv_t.mp hw2
      have e3 : (3 * q + w) / 3 = q := by omega
      have := h (3 * q + w) v (by omega) hv (by rw [show ((3 * q + w : Nat) : Int) = 3 * (q : Int) + (w : Int) from by omega]; exact hpl) (by rw [e3]; exact hq2) hv2
      rw [e3] at this
      rw [← this]
      unfold zy_is
      rw [e3, decide_eq_true hq2, Bool.true_and, show ((3 * q + w : Nat) : Int) = 3 * (q : Int) + (w : Int) from by omega]
    rw [e _ _ v1.1 w1.1 v1.2 w1.2, e _ _ v2.1 w2.1 v2.2 w2.2]
  · rw [decide_eq_false hq2, Bool.false_and, Bool.false_and]
theorem zy_alk_mx {p : Nat} {t : Int} {kk : Nat → Nat} {ww : Nat → Int} {n : Nat} (hw : ∀ i, i < n → 0 ≤ ww i ∧ ww i ≤ 2) (h : ∀ k k', zx_A S p t k = zx_A S p t k') : zx_mx (zy_W kk ww n) (zx_A S p t) 1024 = zy_W kk ww n zy_tt := by
  refine Int.le_antisymm (zy_mx_le hw) ?_
  have g := (zx_mx_ge (W := zy_W kk ww n) (A := zx_A S p t) 1024).2 (zx_A S p t 0) zx_A_lt
  have e : zy_W kk ww n (zx_is (zx_A S p t) (zx_A S p t 0)) = zy_W kk ww n zy_tt := zx_sw_cg (fun k => by show decide _ = true; exact decide_eq_true (h k 0)) n
  rw [← e]; exact g
end ZAS7
