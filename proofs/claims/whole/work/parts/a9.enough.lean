/-! OPS: enough, the model -/
section ZEN2
variable {S M : z_M} {Q : z_V → z_M → Prop}
theorem km_more (d : Nat) {a : Int} (hI : z_IS S) : ∀ (f n : Nat) (kk : Nat → Nat) (M : z_M) (asked l3 : Int) (Q : z_V → z_M → Prop), n ≤ 1458 → n ≤ f → zy_ml S M n kk → 0 ≤ asked → asked + (f : Int) ≤ 1458 → l3 = zv_b (decide (1 < n)) → (∀ N : z_M, z_sit S N → Q (z_I (if a = 0 then asked + (zy_en S f (zy_W kk zy_1 n)).1 else (zy_en S f (zy_W kk zy_1 n)).2)) N) → z_G 0 (d + 8) z_m334 42 [z_R 13, z_I a, z_I asked, z_I l3] [] M Q := by
  intro f
  induction f with
  | zero =>
    intro n kk M asked l3 Q hn hf hm as0 ha e3 h
    have h' := h M hm.1
    have e1 : zy_en S 0 (zy_W kk zy_1 n) = (0, zy_W kk zy_1 n zy_tt) := rfl
    rw [e1, zy_sw1t] at h'
    dsimp only at h'
    rw [decide_eq_false (by omega)] at e3
    rw [e3]
    refine rg_334_42 (d + 7) ⟨fun _ => ⟨fun c => ?_, fun c => ?_⟩, fun c => absurd rfl c⟩
    · rw [if_neg c] at h'; rw [hm.2.1]; exact h'
    · rw [if_pos c, Int.add_zero] at h'; exact h'
  | succ f ih =>
    intro n kk M asked l3 Q hn hf hm as0 ha e3 h
    have tt := zy_sw1t (kk := kk) n
    have e1 : zy_en S (f + 1) (zy_W kk zy_1 n) = if 1 < zy_W kk zy_1 n zy_tt ∧ (zy_pk S (zy_W kk zy_1 n) (zy_W kk zy_1 n zy_tt + 1)).1 < zy_W kk zy_1 n zy_tt then ((zy_en S f (zy_nw S (zy_W kk zy_1 n))).1 + 1, (zy_en S f (zy_nw S (zy_W kk zy_1 n))).2) else (0, zy_W kk zy_1 n zy_tt) := rfl
    have stop : ¬ (1 < zy_W kk zy_1 n zy_tt ∧ (zy_pk S (zy_W kk zy_1 n) (zy_W kk zy_1 n zy_tt + 1)).1 < zy_W kk zy_1 n zy_tt) → ∀ N : z_M, zy_ml S N n kk → z_G 0 (d + 8) z_m334 42 [z_R 13, z_I a, z_I asked, z_I 0] [] N Q := by
      intro c N hN
      have h' := h N hN.1
      rw [e1, if_neg c, tt] at h'
      dsimp only at h'
      refine rg_334_42 (d + 7) ⟨fun _ => ⟨fun c => ?_, fun c => ?_⟩, fun c => absurd rfl c⟩
      · rw [if_neg c] at h'; rw [hN.2.1]; exact h'
      · rw [if_pos c, Int.add_zero] at h'; exact h'
    by_cases c1 : 1 < n
    · rw [decide_eq_true c1] at e3
      have e3' : l3 = 1 := e3
      rw [e3']
      refine rg_334_42 (d + 7) ⟨fun c => absurd c (by decide), fun _ => km_laysAsk d hI hn hm (fun N hN g1 g2 g3 => ?_)⟩
      rw [g1, g3, hN.2.1]
      have pf := zy_pk_far (S := S) (kk := kk) hn
      have hp : ∀ P, 0 ≤ zy_W kk zy_1 n P := zy_W_p (kk := kk) zy_11
      rcases zy_pk_i (S := S) (zy_W kk zy_1 n) (zy_W kk zy_1 n zy_tt + 1) with ⟨i1, i2⟩ | ⟨w, v, hv, hw, i1⟩
      · have w2 : (zy_pk S (zy_W kk zy_1 n) 1000000000).2.1 = -2 := by
          rcases pf with e | ⟨_, e⟩
          · rw [← e]; exact i1
          · rw [e]
        refine ⟨fun _ => ⟨fun c => absurd rfl c, fun _ => stop (fun z => by have := z.2; omega) N hN⟩, fun c => absurd w2 c⟩
      · have e : zy_pk S (zy_W kk zy_1 n) 1000000000 = (zx_mx (zy_W kk zy_1 n) (zx_A S w (v : Int)) 1024, (w : Int), (v : Int)) := by
          rcases pf with e | ⟨e, _⟩
          · rw [← e, i1]
          · rw [e] at i1
            have := congrArg (fun x : Int × Int × Int => x.2.1) i1
            have z : (-2 : Int) = (w : Int) := this
            omega
        rw [e] at g1 g2 g3 ⊢
        dsimp only at g1 g2 g3 ⊢
        refine ⟨fun c => by omega, fun _ => ⟨fun c => ⟨fun c2 => absurd rfl c2, fun _ => stop (fun z => ?_) N hN⟩, fun c => ⟨fun _ => ?_, fun c2 => absurd c2 (by decide)⟩⟩⟩
        · have z2 := z.2
          rw [i1, tt] at z2
          dsimp only at z2
          omega
        · have c3 : (zy_pk S (zy_W kk zy_1 n) (zy_W kk zy_1 n zy_tt + 1)).1 < zy_W kk zy_1 n zy_tt := by rw [i1, tt]; exact c
          have ntt := zy_nw_tt (S := S) hp c3
          have enw : zy_nw S (zy_W kk zy_1 n) = zy_nx (zy_W kk zy_1 n) (zx_A S w (v : Int)) (zy_lk (zy_W kk zy_1 n) (zx_A S w (v : Int)) 1024) := by
            unfold zy_nw
            rw [i1]
            dsimp only
            rw [Int.toNat_natCast]
          refine km_keepsMost d hI hn hN hw hv g1 g2 (by rw [tt]; exact c) (fun N2 n' kk' hn' hm' eW => ?_)
          rw [← enw] at eW
          have en' : (n' : Int) = zx_mx (zy_W kk zy_1 n) (zx_A S w (v : Int)) 1024 := by
            have t2 := zy_sw1t (kk := kk') n'
            rw [eW, ntt, i1] at t2
            exact t2.symm
          rw [hm'.2.1, z_w_id (x := asked + 1) (by omega) (by omega)]
          have nxt : ∀ l : Int, l = zv_b (decide (1 < n')) → z_G 0 (d + 8) z_m334 42 [z_R 13, z_I a, z_I (asked + 1), z_I l] [] N2 Q := fun l el => ih n' kk' N2 (asked + 1) l Q (by omega) (by omega) hm' (by omega) (by omega) el (fun N3 hN3 => by
            have h' := h N3 hN3
            rw [e1, if_pos (show 1 < zy_W kk zy_1 n zy_tt ∧ (zy_pk S (zy_W kk zy_1 n) (zy_W kk zy_1 n zy_tt + 1)).1 < zy_W kk zy_1 n zy_tt from ⟨by omega, c3⟩)] at h'
            dsimp only at h'
            rw [eW]
            rw [show asked + ((zy_en S f (zy_nw S (zy_W kk zy_1 n))).1 + 1) = asked + 1 + (zy_en S f (zy_nw S (zy_W kk zy_1 n))).1 from by omega] at h'
            exact h')
          exact ⟨fun c4 => nxt 0 (by rw [decide_eq_false (by omega)]; rfl), fun c4 => nxt 1 (by rw [decide_eq_true (by omega)]; rfl)⟩
    · rw [decide_eq_false c1] at e3
      have e3' : l3 = 0 := e3
      rw [e3']
      exact stop (fun z => by omega) M hm
theorem km_enough (d : Nat) {a : Int} (hS : z_sit S M) (hI : z_IS S) (hR : z_IRep S) (h : ∀ N : z_M, z_sit S N → Q (z_I (zy_env S a)) N) : z_Cl 0 (d + 9) 334 [z_R 13, z_I a] M Q := by
  unfold zy_env at h
  refine re_334 (d + 8) (km_lies (d + 8) (fun a0 a3 => z_y2 ?_) (fun c => z_n2 ?_))
  · rw [if_neg (fun c => c ⟨a0, a3⟩)] at h
    refine km_laysDays d hS hI hR (fun h7 N hN hd => z_y2 ?_) (fun h7 N hN => z_n2 ?_)
    · rw [if_neg (by omega)] at h
      refine km_takesBestDays (d + 5) hN hI h7 hd (fun N2 n kk hn hm eW => ?_)
      have go : ∀ l : Int, l = zv_b (decide (1 < n)) → z_G 0 (d + 9) z_m334 42 [z_R 13, z_I a, z_I 0, z_I l] [] N2 Q := fun l el => km_more (d + 1) hI 1458 n kk N2 0 l Q hn hn hm (by decide) (by decide) el (fun N3 hN3 => by
        have h' := h N3 hN3
        rw [eW, Int.zero_add]
        exact h')
      rw [hm.2.1]
      exact ⟨fun c4 => go 0 (by rw [decide_eq_false (by omega)]; rfl), fun c4 => go 1 (by rw [decide_eq_true (by omega)]; rfl)⟩
    · have h' := h N hN
      rw [if_pos h7] at h'; exact h'
  · have h' := h M hS
    rw [if_pos (by omega)] at h'; exact h'
end ZEN2
