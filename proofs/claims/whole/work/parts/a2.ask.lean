/-! OPS: ask, enough; the model's sights -/
theorem zy_d3 {o : Nat} (h : o < 30) : z_w (Int.tdiv (o : Int) 3) = ((o / 3 : Nat) : Int) := by
  have : Int.tdiv (o : Int) 3 = ((o / 3 : Nat) : Int) := rfl
  rw [this, zx_wN (by omega)]
theorem zy_ix30 {v o : Nat} (h : v < 3) (h2 : o < 30) : z_w (z_w (30 * (v : Int)) + (o : Int)) = 30 * (v : Int) + (o : Int) := by rw [z_w_id (x := 30 * (v : Int)) (by omega) (by omega), z_w_id (by omega) (by omega)]
theorem zy_ix96 {o t : Nat} (h : o < 30) (h2 : t < 96) : z_w (z_w (96 * (o : Int)) + (t : Int)) = 96 * (o : Int) + (t : Int) := by rw [z_w_id (x := 96 * (o : Int)) (by omega) (by omega), z_w_id (by omega) (by omega)]
section ZAS4
variable {S M : z_M} {Q : z_V → z_M → Prop}
def zy_is (S : z_M) (p : Nat) (t : Int) (v o : Nat) : Bool := decide (z_tl S ((o / 3 : Nat) : Int)) && z_snb S (3 * (p : Int) + (v : Int)) t (o : Int)
def zy_gr (M N : z_M) : Prop := N 13 69 = M 13 69 ∧ N 14581107 = M 14581107 ∧ N 13 73 = M 13 73 ∧ N 13 74 = M 13 74 ∧ N 13 75 = M 13 75
theorem zy_gr_tr {A B C : z_M} (h : zy_gr A B) (g : zy_gr B C) : zy_gr A C := ⟨g.1.trans h.1, g.2.1.trans h.2.1, g.2.2.1.trans h.2.2.1, g.2.2.2.1.trans h.2.2.2.1, g.2.2.2.2.trans h.2.2.2.2⟩
theorem zy_gr_ag {A B : z_M} (g : z_ag A B) : zy_gr A B := ⟨g 13 _ rfl, z_ag_k g _ rfl rfl, g 13 _ rfl, g 13 _ rfl, g 13 _ rfl⟩
theorem zy_gr_up {A : z_M} {k : Nat} (j x : Int) (h1 : k ≠ 13) (h2 : k ≠ 14581107) : zy_gr A (z_up A k j x) := ⟨by rw [z_up_ne (Ne.symm h1)], z_up_ne (Ne.symm h2), by rw [z_up_ne (Ne.symm h1)], by rw [z_up_ne (Ne.symm h1)], by rw [z_up_ne (Ne.symm h1)]⟩
theorem zy_gr_rf (A : z_M) : zy_gr A A := ⟨rfl, rfl, rfl, rfl, rfl⟩
/-- whom one sees, for the versions before v and of this one the plans before o -/
def zy_it (S N : z_M) (p : Nat) (t : Int) (v o : Nat) : Prop := ∀ v' o' : Nat, v' < 3 → o' < 30 → zx_pv S p v' = true → (v' < v ∨ (v' = v ∧ o' < o)) → N 9004104 (30 * (v' : Int) + (o' : Int)) = zv_b (zy_is S p t v' o')
theorem km_laysSights (d : Nat) {p t : Nat} (hS : z_sit S M) (hI : z_IS S) (hp : p < 10) (ht : t < 96) (h : ∀ N : z_M, z_sit S N → zy_gr M N → zy_it S N p (t : Int) 3 0 → Q z_U N) : z_Cl 0 (d + 5) 326 [z_R 13, z_I (p : Int), z_I (t : Int)] M Q := by
  refine re_326 (d + 4) ?_
  refine z_lpi (n := 3) (fun _ => ()) (fun v N => z_sit S N ∧ zy_gr M N ∧ zy_it S N p (t : Int) v 0) (fun N _ q => z_G 0 (d + 5) z_m326 2 [z_R 13, z_I (p : Int), z_I (t : Int), z_I q, z_U, z_U, z_U] [] N Q) M ⟨hS, zy_gr_rf M, fun v' o' _ _ _ c => by omega⟩ (fun v N hv hI' nx => ?_) (fun N hI' => ?_)
  · obtain ⟨hN, hg, hit⟩ := hI'
    refine rg_326_2 (d + 4) ⟨fun c => absurd c (by omega), fun _ => ?_⟩
    rw [z_w_id (x := 3 * (p : Int)) (by omega) (by omega), z_w_id (x := 3 * (p : Int) + (v : Int)) (by omega) (by omega), z_fn hN 304067 rfl, zx_pv01 hI.1 hp hv]
    refine ⟨by omega, by omega, fun c => ?_, fun c => ?_⟩
    · have pv := zx_0eq c
      have pv1 := zx_pv_t.mp pv
      have w3 : (3 * (p : Int) + (v : Int)) / 3 = (p : Int) := by omega
      obtain ⟨s0, s1⟩ := z_ps_b hI.1 (w := 3 * (p : Int) + (v : Int)) (t := (t : Int)) (by omega) (by omega) (by omega) (by omega) pv1
      refine km_spotBy (d + 4) hN hI.1 (by omega) (by omega) (by omega) (by omega) (by omega) (by omega) pv1 (z_viI ?_)
      refine km_sight d hN hI.2.2.1 (by omega) (by omega) s0 s1 (fun N2 hN2 g2 => z_viI ?_)
      have evw : zv_rk S 118 14 (t : Int) 0 (p : Int) (z_ps S (3 * (p : Int) + (v : Int)) (t : Int)) = z_vw S (3 * (p : Int) + (v : Int)) (t : Int) := by unfold z_vw; rw [w3]
      have vb : 0 ≤ z_vw S (3 * (p : Int) + (v : Int)) (t : Int) ∧ z_vw S (3 * (p : Int) + (v : Int)) (t : Int) ≤ 14 := z_rk_b S _ _ _ _ _ _ (by decide)
      rw [evw]
      refine z_lpi (n := 30) (fun _ => ()) (fun o N3 => z_sit S N3 ∧ zy_gr M N3 ∧ zy_it S N3 p (t : Int) v o) (fun N3 _ q => z_G 0 (d + 5) z_m326 45 [z_R 13, z_I (p : Int), z_I (t : Int), z_I (v : Int), z_I (z_ps S (3 * (p : Int) + (v : Int)) (t : Int)), z_I (z_vw S (3 * (p : Int) + (v : Int)) (t : Int)), z_I q] [] N3 Q) N2 ⟨hN2, zy_gr_tr hg (zy_gr_ag g2), fun v' o' a b c e => by rw [z_ag_k g2 9004104 rfl rfl]; exact hit v' o' a b c (by omega)⟩ (fun o N3 ho hI3 nx3 => ?_) (fun N3 hI3 => ?_)
      · obtain ⟨hN3, hg3, hit3⟩ := hI3
        have wr : ∀ (N4 : z_M) (b : Bool), z_sit S N4 → zy_gr M N4 → zy_it S N4 p (t : Int) v o → zy_is S p (t : Int) v o = b → z_G 0 (d + 5) z_m326 45 [z_R 13, z_I (p : Int), z_I (t : Int), z_I (v : Int), z_I (z_ps S (3 * (p : Int) + (v : Int)) (t : Int)), z_I (z_vw S (3 * (p : Int) + (v : Int)) (t : Int)), z_I (z_w ((o : Int) + 1))] [] (z_up N4 9004104 (30 * (v : Int) + (o : Int)) (zv_b b)) Q := by
          intro N4 b a1 a2 a3 eb
          rw [z_wq (by omega)]
          refine nx3 _ ⟨z_at_up a1 _ _ _ rfl rfl, zy_gr_tr a2 (zy_gr_up _ _ (by decide) (by decide)), fun v' o' h1 h2 h3 h4 => ?_⟩
          by_cases e : v' = v ∧ o' = o
          · rw [e.1, e.2, z_up_eq, eb]
          · rw [z_up_nj (by omega)]
            exact a3 v' o' h1 h2 h3 (by omega)
        refine rg_326_45 (d + 4) ⟨fun c => absurd c (by omega), fun _ => ?_⟩
        rw [zy_d3 ho, zy_ix30 hv ho, zy_ix96 ho ht, z_fn hN3 304067 rfl]
        refine ⟨fun c => ⟨by omega, by omega, wr N3 false hN3 hg3 hit3 ?_⟩, fun c1 => ⟨by omega, by omega, fun c => ⟨by omega, by omega, wr N3 false hN3 hg3 hit3 ?_⟩, fun c2 => km_isTold (d + 3) hN3 hI.1 (fun htl => z_y1 ⟨by omega, by omega, ?_⟩) (fun htl => z_n1 ⟨by omega, by omega, wr N3 false hN3 hg3 hit3 ?_⟩)⟩⟩
        · have e : z_snb S (3 * (p : Int) + (v : Int)) (t : Int) (o : Int) = false := decide_eq_false (fun z => z.1 (by omega))
          unfold zy_is; rw [e, Bool.and_false]
        · have e : z_snb S (3 * (p : Int) + (v : Int)) (t : Int) (o : Int) = false := decide_eq_false (fun z => by have := z.2.1; omega)
          unfold zy_is; rw [e, Bool.and_false]
        · have po : S 304067 (o : Int) = 1 := by
            rcases hI.1.1 (o : Int) (by omega) (by omega) with e | e
            · exact absurd e.1 c2
            · exact e.1
          obtain ⟨q1, q2, q3⟩ := hI.1.2.2.2.1 (o : Int) (t : Int) (by omega) (by omega) (by omega) (by omega) po
          rw [z_fn hN3 28801071 rfl, q1]
          have eps : S 28801021 (96 * (o : Int) + (t : Int)) = z_ps S (o : Int) (t : Int) := rfl
          rw [eps] at q2 q3 ⊢
          have eg : N3 1001065 = S 1001015 := (z_fn hN3 1001065 rfl).trans hI.2.1.1.symm
          refine km_isInSight (d + 2) eg s0 s1 q2 q3 vb.1 (by omega) (fun c3 => z_y1 ⟨by omega, by omega, wr N3 true hN3 hg3 hit3 ?_⟩) (fun c3 => z_n1 ⟨by omega, by omega, wr N3 false hN3 hg3 hit3 ?_⟩)
          · have e : z_snb S (3 * (p : Int) + (v : Int)) (t : Int) (o : Int) = true := decide_eq_true ⟨by omega, po, c3⟩
            unfold zy_is; rw [decide_eq_true htl, e]; rfl
          · have e : z_snb S (3 * (p : Int) + (v : Int)) (t : Int) (o : Int) = false := decide_eq_false (fun z => by have := z.2.2; omega)
            unfold zy_is; rw [e, Bool.and_false]
        · unfold zy_is; rw [decide_eq_false htl, Bool.false_and]
      · obtain ⟨hN3, hg3, hit3⟩ := hI3
        refine rg_326_45 (d + 4) ⟨fun _ => ?_, fun c => absurd c (by decide)⟩
        rw [z_wq (by omega)]
        exact nx N3 ⟨hN3, hg3, fun v' o' a b c e => hit3 v' o' a b c (by omega)⟩
    · rw [z_wq (by omega)]
      refine nx N ⟨hN, hg, fun v' o' a b c2 e => ?_⟩
      by_cases ev : v' = v
      · rw [ev, zx_0ne c] at c2; cases c2
      · exact hit v' o' a b c2 (by omega)
  · obtain ⟨hN, hg, hit⟩ := hI'
    exact rg_326_2 (d + 4) ⟨fun _ => h N hN hg hit, fun c => absurd c (by decide)⟩
end ZAS4
