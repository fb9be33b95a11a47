/-! OPS: ask, enough; the model's asksOf -/
section ZAS8
variable {S M : z_M} {Q : z_V → z_M → Prop}
/-- what stands when all answers were counted -/
def zy_cd (S N : z_M) (n : Nat) (kk : Nat → Nat) (p : Nat) (t : Int) : Prop := (∀ i : Nat, i < n → N 14581105 (i : Int) = (zx_A S p t (kk i) : Int)) ∧ ∀ c : Nat, c < 1024 → N 10241106 (c : Int) = zy_W kk zy_1 n (zx_is (zx_A S p t) c)
theorem zy_ml_gr {N : z_M} {n : Nat} {kk : Nat → Nat} (h : zy_ml S M n kk) (hN : z_sit S N) (g : zy_gr M N) : zy_ml S N n kk := ⟨hN, by rw [g.1]; exact h.2.1, fun i hi => by rw [g.2.1]; exact h.2.2 i hi⟩
theorem zy_11 {n : Nat} : ∀ i, i < n → 0 ≤ zy_1 i ∧ zy_1 i ≤ 2 := fun i _ => ⟨by show (0 : Int) ≤ 1; omega, by show (1 : Int) ≤ 2; omega⟩
theorem zy_sw1 {P : Nat → Bool} {kk : Nat → Nat} : ∀ n, zx_sw P kk zy_1 n ≤ (n : Int) := by
  intro n
  induction n with
  | zero => exact Int.le_refl _
  | succ n ih =>
    show zx_sw P kk zy_1 n + (if P (kk n) = true then (1 : Int) else 0) ≤ _
    split <;> omega
theorem zy_sw1t {kk : Nat → Nat} : ∀ n, zy_W kk zy_1 n zy_tt = (n : Int) := by
  intro n
  induction n with
  | zero => rfl
  | succ n ih =>
    show zx_sw zy_tt kk zy_1 n + (if zy_tt (kk n) = true then (1 : Int) else 0) = _
    have : zx_sw zy_tt kk zy_1 n = (n : Int) := ih
    rw [this, if_pos (show zy_tt (kk n) = true from rfl)]; omega
theorem km_asksOf (d : Nat) {p t n : Nat} {kk : Nat → Nat} (hI : z_IS S) (htl : z_tl S (p : Int)) (ht : t < 96) (hn : n ≤ 1458) (hm : zy_ml S M n kk) (h : ∀ N : z_M, zy_ml S N n kk → zy_gr M N → (zx_mx (zy_W kk zy_1 n) (zx_A S p (t : Int)) 1024 = zy_W kk zy_1 n zy_tt ∨ zy_cd S N n kk p (t : Int)) → Q (z_I (zx_mx (zy_W kk zy_1 n) (zx_A S p (t : Int)) 1024)) N) : z_Cl 0 (d + 6) 330 [z_R 13, z_I (p : Int), z_I (t : Int)] M Q := by
  have hp : p < 10 := by have := htl.2.1; omega
  have hA : ∀ k, zx_A S p (t : Int) k < 1024 := fun k => zx_A_lt
  refine re_330 (d + 5) (km_laysSights d hm.1 hI hp ht (fun N1 hN1 g1 hit => km_isSeenAlike (d + 3) hN1 hI.1 htl hit (fun hal => z_y1 ?_) (z_n1 ?_)))
  · have m1 := zy_ml_gr hm hN1 g1
    have e := zy_alk_mx (kk := kk) (ww := zy_1) (n := n) zy_11 (zy_alk_A hI.1 htl hal)
    have h' := h N1 m1 g1 (Or.inl e)
    rw [e, zy_sw1t] at h'
    rw [m1.2.1]; exact h'
  · -- the tables
    refine z_lpi (n := 3) (fun _ => ()) (fun v N => z_sit S N ∧ zy_gr M N ∧ zy_it S N p (t : Int) 3 0 ∧ ∀ v' c : Nat, v' < v → zx_pv S p v' = true → zy_vd 5 c → N 30721108 (1024 * (v' : Int) + (c : Int)) = (zy_sl (zy_fv S p (t : Int) v') 0 5 c : Int) ∧ N 30721109 (1024 * (v' : Int) + (c : Int)) = (zy_sl (zy_fv S p (t : Int) v') 5 5 c : Int)) (fun N _ v => z_G 0 (d + 6) z_m330 21 [z_R 13, z_I (p : Int), z_I (t : Int), z_I v, z_U] [] N Q) N1 ⟨hN1, g1, hit, fun v' c a => absurd a (Nat.not_lt_zero v')⟩ (fun v N hv hI2 nx => ?_) (fun N hI2 => ?_)
    · obtain ⟨a1, a2, a3, a4⟩ := hI2
      refine rg_330_21 (d + 5) ⟨fun c => absurd c (by omega), fun _ => ?_⟩
      rw [zy_i9 hp hv, z_fn a1 304067 rfl, zx_pv01 hI.1 hp hv]
      refine ⟨by omega, by omega, fun c => ?_, fun c => rg_330_62 (d + 5) ?_⟩
      · have pv := zx_0eq c
        refine km_laysSeenl (d + 5) (fr := 0) a1 hI.1 hp hv pv (Or.inl rfl) a3 (fun N2 b1 b2 b3 b4 => ?_)
        have it2 : zy_it S N2 p (t : Int) 3 0 := fun v' o' x y z w => by rw [b2 _ (by decide)]; exact a3 v' o' x y z w
        refine km_laysSeenh (d + 5) (fr := 5) b1 hI.1 hp hv pv (Or.inr rfl) it2 (fun N3 c1 c2 c3 c4 => rg_330_62 (d + 5) ?_)
        rw [z_wq (by omega)]
        refine nx N3 ⟨c1, ?_, fun v' o' x y z w => by rw [c2 _ (by decide)]; exact it2 v' o' x y z w, fun v' c x y z => ?_⟩
        · refine zy_gr_tr a2 ⟨?_, ?_, ?_, ?_, ?_⟩
          · rw [c2 _ (by decide), b2 _ (by decide)]
          · rw [c2 _ (by decide), b2 _ (by decide)]
          · rw [c2 _ (by decide), b2 _ (by decide)]
          · rw [c2 _ (by decide), b2 _ (by decide)]
          · rw [c2 _ (by decide), b2 _ (by decide)]
        · have lt := zy_vd_lt 5 c z
          rw [show (4 : Nat) ^ 5 = 1024 from rfl] at lt
          by_cases e : v' = v
          · rw [e, c4 c z, c2 30721108 (by decide), b4 c z]; exact ⟨rfl, rfl⟩
          · rw [c3 _ (by omega), c2 30721108 (by decide), b3 _ (by omega), b2 30721109 (by decide)]
            exact a4 v' c (by omega) y z
      · rw [z_wq (by omega)]
        refine nx N ⟨a1, a2, a3, fun v' c2 x y z => ?_⟩
        by_cases e : v' = v
        · rw [e, zx_0ne c] at y; cases y
        · exact a4 v' c2 (by omega) y z
    · obtain ⟨a1, a2, a3, a4⟩ := hI2
      have tb0 : zy_tb S N p (t : Int) := fun v c x y z => a4 v c x y z
      refine rg_330_21 (d + 5) ⟨fun _ => ?_, fun c => absurd c (by decide)⟩
      -- nothing counted yet
      refine z_lpi (n := 1024) (fun _ => ()) (fun q N2 => z_sit S N2 ∧ zy_gr M N2 ∧ zy_tb S N2 p (t : Int) ∧ ∀ c : Nat, c < q → N2 10241106 (c : Int) = 0) (fun N2 _ q => z_G 0 (d + 6) z_m330 70 [z_R 13, z_I (p : Int), z_I (t : Int), z_I q, z_U] [] N2 Q) N ⟨a1, a2, tb0, fun c a => absurd a (Nat.not_lt_zero c)⟩ (fun q N2 hq hI3 nx => ?_) (fun N2 hI3 => ?_)
      · obtain ⟨b1, b2, b3, b4⟩ := hI3
        refine rg_330_70 (d + 5) ⟨fun c => absurd c (by omega), fun _ => ⟨by omega, by omega, ?_⟩⟩
        rw [z_wq (by omega)]
        refine nx _ ⟨z_at_up b1 _ _ _ rfl rfl, zy_gr_tr b2 (zy_gr_up _ _ (by decide) (by decide)), fun v c x y z => by rw [z_up_ne (by decide), z_up_ne (by decide)]; exact b3 v c x y z, fun c hc => ?_⟩
        by_cases e : c = q
        · rw [e, z_up_eq]
        · rw [z_up_nj (by omega)]; exact b4 c (by omega)
      · obtain ⟨b1, b2, b3, b4⟩ := hI3
        refine rg_330_70 (d + 5) ⟨fun _ => ?_, fun c => absurd c (by decide)⟩
        refine z_lpi (n := n) (fun q => zx_mm (zx_A S p (t : Int)) kk zy_1 q) (fun q N3 => z_sit S N3 ∧ zy_gr M N3 ∧ zy_tb S N3 p (t : Int) ∧ (∀ i : Nat, i < q → N3 14581105 (i : Int) = (zx_A S p (t : Int) (kk i) : Int)) ∧ ∀ c : Nat, c < 1024 → N3 10241106 (c : Int) = zx_sw (zx_is (zx_A S p (t : Int)) c) kk zy_1 q) (fun N3 v q => z_G 0 (d + 6) z_m330 95 [z_R 13, z_I (p : Int), z_I (t : Int), z_I v, z_I q] [] N3 Q) N2 ⟨b1, b2, b3, fun i a => absurd a (Nat.not_lt_zero i), fun c a => b4 c a⟩ (fun q N3 hq hI4 nx => ?_) (fun N3 hI4 => ?_)
        · obtain ⟨c1, c2, c3, c4, c5⟩ := hI4
          have m3 := zy_ml_gr hm c1 c2
          have hA2 := hA (kk q)
          have swb := zx_sw_b (P := zx_is (zx_A S p (t : Int)) (zx_A S p (t : Int) (kk q))) (kk := kk) q (zy_11 (n := q))
          have es : zx_sw (zx_is (zx_A S p (t : Int)) (zx_A S p (t : Int) (kk q))) kk zy_1 (q + 1) = zx_sw (zx_is (zx_A S p (t : Int)) (zx_A S p (t : Int) (kk q))) kk zy_1 q + 1 := by
            show _ + (if zx_is (zx_A S p (t : Int)) (zx_A S p (t : Int) (kk q)) (kk q) = true then (1 : Int) else 0) = _
            rw [if_pos (decide_eq_true rfl)]
          have em : zx_mm (zx_A S p (t : Int)) kk zy_1 (q + 1) = z_max (zx_mm (zx_A S p (t : Int)) kk zy_1 q) (zx_sw (zx_is (zx_A S p (t : Int)) (zx_A S p (t : Int) (kk q))) kk zy_1 (q + 1)) := rfl
          unfold z_max at em
          have step : ∀ x : Int, x = zx_mm (zx_A S p (t : Int)) kk zy_1 (q + 1) → z_G 0 (d + 6) z_m330 95 [z_R 13, z_I (p : Int), z_I (t : Int), z_I x, z_I ((q + 1 : Nat) : Int)] [] (z_up (z_up N3 14581105 (q : Int) (zx_A S p (t : Int) (kk q) : Int)) 10241106 (zx_A S p (t : Int) (kk q) : Int) (zx_sw (zx_is (zx_A S p (t : Int)) (zx_A S p (t : Int) (kk q))) kk zy_1 (q + 1))) Q := by
            intro x ex
            rw [ex]
            refine nx _ ⟨z_at_up (z_at_up c1 _ _ _ rfl rfl) _ _ _ rfl rfl, zy_gr_tr c2 (zy_gr_tr (zy_gr_up _ _ (by decide) (by decide)) (zy_gr_up _ _ (by decide) (by decide))), fun v c x y z => by rw [z_up_ne (by decide), z_up_ne (by decide), z_up_ne (by decide), z_up_ne (by decide)]; exact c3 v c x y z, fun i hi => ?_, fun c hc => ?_⟩
            · rw [z_up_ne (by decide)]
              by_cases e : i = q
              · rw [e, z_up_eq]
              · rw [z_up_nj (by omega)]; exact c4 i (by omega)
            · by_cases e : c = zx_A S p (t : Int) (kk q)
              · rw [e, z_up_eq]
              · rw [z_up_nj (by omega), z_up_ne (by decide), c5 c hc]
                show _ = _ + (if zx_is (zx_A S p (t : Int)) c (kk q) = true then (1 : Int) else 0)
                rw [if_neg (by unfold zx_is; rw [decide_eq_false (fun z => e z.symm)]; decide)]; omega
          refine rg_330_95 (d + 5) ⟨fun c => absurd c (by rw [m3.2.1]; omega), fun _ => km_answerIn (d + 5) htl c3 (by omega) (by omega) (m3.2.2 q hq) (z_viI ?_)⟩
          rw [z_up_eq, z_up_ne (M := z_up N3 14581105 (q : Int) (zx_A S p (t : Int) (kk q) : Int)) (k := 14581105) (by decide), z_up_ne (M := N3) (k := 10241106) (by decide), z_up_eq, c5 _ hA2, z_w_id (x := zx_sw (zx_is (zx_A S p (t : Int)) (zx_A S p (t : Int) (kk q))) kk zy_1 q + 1) (by omega) (by omega), ← es, z_up_eq, z_wq (by omega)]
          refine ⟨by omega, by omega, by omega, by omega, by omega, by omega, by omega, by omega, by omega, by omega, by omega, by omega, fun c => ?_, fun c => ⟨by omega, by omega, by omega, by omega, ?_⟩⟩
          · exact step _ (by rw [em, if_neg (by omega)])
          · exact step _ (by rw [em, if_pos c])
        · obtain ⟨c1, c2, c3, c4, c5⟩ := hI4
          have m3 := zy_ml_gr hm c1 c2
          have e := zx_mm_mx (W := zy_W kk zy_1 n) (A := zx_A S p (t : Int)) (kk := kk) (ww := zy_1) (n := n) hA (fun i hi => (zy_11 i hi).1) (fun P => rfl)
          rw [e]
          exact rg_330_95 (d + 5) ⟨fun _ => h N3 m3 c2 (Or.inr ⟨c4, c5⟩), fun c => absurd c (by rw [m3.2.1]; omega)⟩
end ZAS8
