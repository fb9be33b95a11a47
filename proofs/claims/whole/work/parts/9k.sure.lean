/-! OPS: sure -/
theorem z_vlJ {x : Int} {K : Int → Prop} (h : K x) : z_vl (z_J x) K := h
theorem zw_gst (m n : Nat) : Nat.gcd m n = Nat.gcd n (m % n) := by rw [Nat.gcd_comm m n, Nat.gcd_rec, Nat.gcd_comm]
theorem zw_tmN (m n : Nat) : Int.tmod (m : Int) (n : Int) = ((m % n : Nat) : Int) := rfl
theorem kc_commonDivisor (d : Nat) {M : z_M} {Q : z_V → z_M → Prop} {m n : Nat} (hmn : n ≤ m) (hm : m < 4294967296) (h : Q (z_J (Nat.gcd m n : Int)) M) : z_Cl 0 d 221 [z_J (m : Int), z_J (n : Int)] M Q := by
  have key : ∀ (k l : Nat), l + 2 * k ≤ 64 → ∀ x y : Nat, y ≤ x → x < 2 ^ k → Nat.gcd x y = Nat.gcd m n → z_G 0 d z_m221 9 [z_J (m : Int), z_U, z_J (n : Int), z_U, z_J (x : Int), z_U, z_J (y : Int), z_U, z_I (l : Int), z_U, z_U] [] M Q := by
    intro k
    induction k with
    | zero =>
      intro l hl x y hy hx e
      have : x = 0 := by have : x < 1 := hx; omega
      have : y = 0 := by omega
      subst x y
      rw [← e] at h
      refine rg_221_9 d ⟨fun _ => h, fun _ => ⟨fun _ => h, fun c => absurd ((z_cmp_e0).mpr rfl) c⟩⟩
    | succ k ih =>
      intro l hl x y hy hx e
      have hx2 : x < 2 * 2 ^ k := by rw [Nat.pow_succ] at hx; omega
      refine rg_221_9 d ⟨fun c => absurd c (by omega), fun _ => ⟨fun c => ?_, fun c => ?_⟩⟩
      · have : y = 0 := by have := z_cmp_e0.mp c; omega
        subst this
        rw [← e, Nat.gcd_zero_right] at h; exact h
      · have hy0 : y ≠ 0 := fun z => c (z_cmp_e0.mpr (by omega))
        refine z_nz_of (by omega) ?_
        rw [zw_tmN, z_wq (by omega)]
        have hr : x % y < y := Nat.mod_lt x (by omega)
        have hr2 : x % y ≤ x - y := by
          have := Nat.mod_eq_sub_mod hy
          have := Nat.mod_le (x - y) y
          omega
        refine rg_221_9 d ⟨fun c2 => absurd c2 (by omega), fun _ => ⟨fun c2 => ?_, fun c2 => ?_⟩⟩
        · have e0 : x % y = 0 := by have := z_cmp_e0.mp c2; omega
          rw [zw_gst, e0, Nat.gcd_zero_right] at e
          rw [← e] at h; exact h
        · have hr0 : x % y ≠ 0 := fun z => c2 (z_cmp_e0.mpr (by omega))
          refine z_nz_of (by omega) ?_
          rw [zw_tmN, z_wq (by omega)]
          have hr3 : y % (x % y) < x % y := Nat.mod_lt y (by omega)
          exact ih (l + 1 + 1) (by omega) (x % y) (y % (x % y)) (by omega) (by omega) (by rw [← zw_gst, ← zw_gst]; exact e)
  exact re_221 d (key 32 0 (by decide) m n hmn (by omega) rfl)
theorem km_dividing (d : Nat) {M : z_M} {Q : z_V → z_M → Prop} {m n : Nat} (h : Q (z_J (Nat.gcd m n : Int)) M) : z_Cl 0 d 225 [z_J (m : Int), z_J (n : Int)] M Q := by
  have key : ∀ (f y x : Nat), y < f → Nat.gcd x y = Nat.gcd m n → z_G 0 d z_m225 6 [z_J (m : Int), z_U, z_J (n : Int), z_U, z_J (x : Int), z_U, z_J (y : Int), z_U, z_U, z_U] [] M Q := by
    intro f
    induction f with
    | zero => intro y x hy; exact absurd hy (Nat.not_lt_zero y)
    | succ f ih =>
      intro y x hy e
      refine rg_225_6 d ⟨fun c => ?_, fun c => ?_⟩
      · have : y = 0 := by have := z_cmp_e0.mp c; omega
        subst this
        rw [← e, Nat.gcd_zero_right] at h; exact h
      · have hy0 : y ≠ 0 := fun z => c (z_cmp_e0.mpr (by omega))
        refine z_nz_of (by omega) ?_
        rw [zw_tmN]
        have hr : x % y < y := Nat.mod_lt x (by omega)
        exact ih (x % y) y (by omega) (by rw [← zw_gst]; exact e)
  exact re_225 d (key (n + 1) n m (by omega) rfl)
def zw_10 : Nat → Int
  | 0 => 1
  | n + 1 => zw_10 n * 10
section ZSUR
variable {S M : z_M} {Q : z_V → z_M → Prop}
def zw_rt (S : z_M) (q : Nat) : Int := zv_rk S 114 10 0 0 (z_and (S 2601014 (q : Int)) 15) 0
def zw_yn (S : z_M) (tn : Int) : Nat → Int × Int
  | 0 => (tn, z_w (10 - tn))
  | n + 1 => (z_wl ((zw_yn S tn n).1 * (if z_and (S 2601014 (n : Int)) 16 = 0 then zw_rt S n else z_w (10 - zw_rt S n))), z_wl ((zw_yn S tn n).2 * (if z_and (S 2601014 (n : Int)) 16 = 0 then z_w (10 - zw_rt S n) else zw_rt S n)))
def zw_bd1 (S : z_M) (q : Nat) : Bool := decide (S 2601014 (q : Int) < 32 ∧ z_tl S (z_and (S 2601014 (q : Int)) 15))
theorem zw_rt_b (S : z_M) (q : Nat) : 0 ≤ zw_rt S q ∧ zw_rt S q ≤ 10 := z_rk_b S _ _ _ _ _ _ (by decide)
theorem zw_10_b : ∀ n : Nat, n ≤ 9 → 1 ≤ zw_10 n ∧ zw_10 n ≤ 1000000000 := by
  intro n hn
  have : ∀ j : Fin 10, 1 ≤ zw_10 j.val ∧ zw_10 j.val ≤ 1000000000 := by decide
  exact this ⟨n, by omega⟩
theorem zw_mulb {x r B : Int} (hx : 0 ≤ x ∧ x ≤ B) (hB : B ≤ 100000000) (hr : 0 ≤ r ∧ r ≤ 10) : z_wl (x * r) = x * r ∧ 0 ≤ x * r ∧ x * r ≤ B * 10 := by
  have h1 : x * r ≤ B * 10 := Int.mul_le_mul hx.2 hr.2 hr.1 (by omega)
  have h2 : 0 ≤ x * r := Int.mul_nonneg hx.1 hr.1
  exact ⟨z_wl_id (by omega) (by omega), h2, h1⟩
theorem zw_yn_b {tn : Int} (t0 : 0 ≤ tn) (t1 : tn ≤ 10) : ∀ n : Nat, n ≤ 8 → (0 ≤ (zw_yn S tn n).1 ∧ (zw_yn S tn n).1 ≤ zw_10 (n + 1)) ∧ (0 ≤ (zw_yn S tn n).2 ∧ (zw_yn S tn n).2 ≤ zw_10 (n + 1)) := by
  intro n
  induction n with
  | zero =>
    intro _
    have e1 : zw_10 (0 + 1) = 10 := by decide
    have e2 : zw_yn S tn 0 = (tn, z_w (10 - tn)) := rfl
    rw [e1, e2, z_w_id (by omega) (by omega)]
    dsimp only
    omega
  | succ n ih =>
    intro hn
    obtain ⟨a, b⟩ := ih (by omega)
    have hr := zw_rt_b S n
    have e10 : z_w (10 - zw_rt S n) = 10 - zw_rt S n := z_w_id (by omega) (by omega)
    have hB : zw_10 (n + 1) ≤ 100000000 := by
      have : ∀ j : Fin 9, zw_10 j.val ≤ 100000000 := by decide
      exact this ⟨n + 1, by omega⟩
    have eB : zw_10 (n + 1 + 1) = zw_10 (n + 1) * 10 := rfl
    unfold zw_yn
    rw [e10, eB]
    dsimp only
    split
    · have m1 := zw_mulb a hB hr
      have m2 := zw_mulb (r := 10 - zw_rt S n) b hB (by omega)
      rw [m1.1, m2.1]; exact ⟨m1.2, m2.2⟩
    · have m1 := zw_mulb (r := 10 - zw_rt S n) a hB (by omega)
      have m2 := zw_mulb b hB hr
      rw [m1.1, m2.1]; exact ⟨m1.2, m2.2⟩
abbrev zw_su0 (tn n k sz : Int) : Prop := (0 ≤ tn ∧ tn ≤ 10) ∧ (1 ≤ n ∧ n ≤ 8) ∧ (0 ≤ k ∧ k ≤ 1) ∧ n ≤ sz
def zw_suv (S : z_M) (tn k : Int) (n : Nat) : Int :=
  if z_exn (fun q => !zw_bd1 S q) n = true then -3 else if (zw_yn S tn n).1 + (zw_yn S tn n).2 = 0 then -2
  else z_wl (Int.tdiv (if k = 0 then (zw_yn S tn n).1 else (zw_yn S tn n).1 + (zw_yn S tn n).2) (Nat.gcd ((zw_yn S tn n).1 + (zw_yn S tn n).2).toNat (zw_yn S tn n).1.toNat : Int))
theorem zw_by (hT : z_ITape S) {j : Int} (j0 : 0 ≤ j) (j1 : j < S 2 1) : 0 ≤ S 2601014 j ∧ S 2601014 j < 256 := by
  rw [hT.2.2.2 j j0 j1, z_and255]; omega
theorem kc_sure (d : Nat) {tn n k : Int} (hS : z_sit S M) (hI : z_IS S) (hT : z_ITape S) (h1 : zw_su0 tn n k (S 2 1) → ∀ N : z_M, z_sit (z_up S 2 1 0) N → Q (z_J (zw_suv S tn k n.toNat)) N) (h0 : ¬ zw_su0 tn n k (S 2 1) → Q (z_J (-1)) M) : z_Cl 0 (d + 2) 209 [z_R 1, z_I tn, z_I n, z_I k] M Q := by
  obtain ⟨_, s0, s1, _⟩ := id hT
  have no : ∀ _ : ¬ zw_su0 tn n k (S 2 1), z_G 0 (d + 2) z_m209 41 [z_R 1, z_I tn, z_I n, z_I k, z_U, z_U, z_U, z_U, z_U, z_U, z_U, z_U, z_U] [] M Q := fun c => rg_209_41 (d + 1) (h0 c)
  refine re_209 (d + 1) ⟨fun c => no (fun z => by have := z.1; omega), fun a0 => ⟨fun c => no (fun z => by have := z.1; omega), fun a1 => ⟨fun c => no (fun z => by have := z.2.1; omega), fun b0 => ⟨fun c => no (fun z => by have := z.2.1; omega), fun b1 => ⟨fun c => no (fun z => by have := z.2.2.1; omega), fun c0 => ⟨fun c => no (fun z => by have := z.2.2.1; omega), fun c1 => re_128 (d + 1) ?_⟩⟩⟩⟩⟩⟩
  rw [z_ff hS 2 1 rfl]
  refine ⟨fun c => z_n2 (no (fun z => by have := z.2.2.2; omega)), fun hsz => z_y2 ?_⟩
  have hh := h1 ⟨⟨a0, a1⟩, ⟨b0, b1⟩, ⟨c0, c1⟩, hsz⟩
  refine z_lpi (n := n.toNat) (fun q => ((zw_yn S tn q), zv_b (!z_exn (fun q => !zw_bd1 S q) q))) (fun _ N => z_sit S N) (fun N v q => z_G 0 (d + 2) z_m209 62 [z_R 1, z_I tn, z_I n, z_I k, z_J v.1.1, z_U, z_J v.1.2, z_U, z_I v.2, z_I q, z_U, z_U, z_U] [] N Q) M hS (fun q N hq hN nx => ?_) (fun N hN => ?_)
  · have hb := zw_by hT (j := (q : Int)) (by omega) (by omega)
    have a15 := z_and15 hb.1 (by omega)
    have hr := zw_rt_b S q
    have e2 : zw_yn S tn (q + 1) = (z_wl ((zw_yn S tn q).1 * (if z_and (S 2601014 (q : Int)) 16 = 0 then zw_rt S q else z_w (10 - zw_rt S q))), z_wl ((zw_yn S tn q).2 * (if z_and (S 2601014 (q : Int)) 16 = 0 then z_w (10 - zw_rt S q) else zw_rt S q))) := rfl
    have e3 : z_exn (fun q => !zw_bd1 S q) (q + 1) = (z_exn (fun q => !zw_bd1 S q) q || !zw_bd1 S q) := rfl
    have more : ∀ (B : Bool) (N' : z_M) (y : Int), z_sit S N' → (!z_exn (fun q => !zw_bd1 S q) (q + 1)) = B → z_G 0 (d + 2) z_m209 111 [z_R 1, z_I tn, z_I n, z_I k, z_J (zw_yn S tn q).1, z_U, z_J (zw_yn S tn q).2, z_U, z_I y, z_I (q : Int), z_I (S 2601014 (q : Int)), z_U, z_U] [z_I (zv_b B)] N' Q := by
      intro B N' y hN' eB
      refine rg_209_111 (d + 1) (kc_reckon d hN' hI.2.2.1 hI.2.2.2 (most := 10) (by omega) (by decide) (by decide) (by decide) (by decide) (fun N2 hN2 _ _ => z_viI ?_))
      have ert : zv_rk S 114 10 0 0 (z_and (S 2601014 (q : Int)) 15) 0 = zw_rt S q := rfl
      rw [ert]
      have nx' := nx N2 hN2
      rw [e2, eB] at nx'
      refine ⟨fun c => rg_209_145 (d + 1) ⟨fun _ => rg_209_166 (d + 1) ⟨fun _ => rg_209_188 (d + 1) ?_, fun c2 => absurd rfl c2⟩, fun c2 => absurd rfl c2⟩, fun c => rg_209_145 (d + 1) ⟨fun c2 => absurd c2 (by decide), fun _ => rg_209_166 (d + 1) ⟨fun c2 => absurd c2 (by decide), fun _ => rg_209_188 (d + 1) ?_⟩⟩⟩
      · rw [if_pos c, if_pos c] at nx'
        rw [z_wq (by omega)]; exact nx'
      · rw [if_neg c, if_neg c] at nx'
        rw [z_wq (by omega)]; exact nx'
    refine rg_209_62 (d + 1) ⟨fun c => absurd c (by omega), fun _ => re_129 (d + 1) ?_⟩
    rw [z_ff hN 2 1 rfl, z_fn hN 2601014 rfl]
    refine ⟨fun c => absurd c (by omega), fun _ => ⟨fun c => absurd c (by omega), fun _ => ⟨by omega, by omega, z_viI ?_⟩⟩⟩
    cases he : z_exn (fun q => !zw_bd1 S q) q with
    | true =>
      refine ⟨fun _ => rg_209_110 (d + 1) (more false N _ hN (by rw [e3, he]; rfl)), fun c => absurd rfl c⟩
    | false =>
      refine ⟨fun c => absurd (show zv_b (!false) = 0 from c) (by decide), fun _ => ⟨fun c => rg_209_110 (d + 1) (more false N _ hN ?_), fun c => kc_isTold d hN hI.1 (fun hp => z_y1 (more true N _ hN ?_)) (fun hp => z_n1 (rg_209_110 (d + 1) (more false N _ hN ?_)))⟩⟩
      · rw [e3, he]; unfold zw_bd1; rw [decide_eq_false (fun z => by have := z.1; omega)]; rfl
      · rw [e3, he]; unfold zw_bd1; rw [decide_eq_true ⟨c, hp⟩]; rfl
      · rw [e3, he]; unfold zw_bd1; rw [decide_eq_false (fun z => hp z.2)]; rfl
  · have yb := zw_yn_b (S := S) a0 a1 n.toNat (by omega)
    have tb := zw_10_b (n.toNat + 1) (by omega)
    refine rg_209_62 (d + 1) ⟨fun _ => kc_clear (d + 1) hN (fun N2 hN2 => ?_), fun c => absurd c (by omega)⟩
    have h2 := hh N2 hN2
    unfold zw_suv at h2
    cases he : z_exn (fun q => !zw_bd1 S q) n.toNat with
    | true =>
      rw [if_pos he] at h2
      exact ⟨fun c => absurd rfl c, fun _ => h2⟩
    | false =>
      rw [if_neg (by rw [he]; decide)] at h2
      refine ⟨fun _ => ?_, fun c => absurd (show zv_b (!false) = 0 from c) (by decide)⟩
      have ews : z_wl ((zw_yn S tn n.toNat).1 + (zw_yn S tn n.toNat).2) = (zw_yn S tn n.toNat).1 + (zw_yn S tn n.toNat).2 := z_wl_id (by omega) (by omega)
      rw [ews]
      simp only [z_cmp_e0]
      refine ⟨fun c => ?_, fun c => ?_⟩
      · rw [if_neg c] at h2
        have fin : ∀ s : Int, s = (if k = 0 then (zw_yn S tn n.toNat).1 else (zw_yn S tn n.toNat).1 + (zw_yn S tn n.toNat).2) → z_G 0 (d + 2) z_m209 241 [z_R 1, z_I tn, z_I n, z_I k, z_J (zw_yn S tn n.toNat).1, z_U, z_J (zw_yn S tn n.toNat).2, z_U, z_I 1, z_I ((n.toNat : Nat) : Int), z_U, z_U, z_U] [z_J s] N2 Q := by
          intro s es
          refine rg_209_241 (d + 1) ?_
          rw [ews]
          generalize (zw_yn S tn n.toNat).1 = y at *
          generalize (zw_yn S tn n.toNat).2 = w at *
          obtain ⟨yn, rfl⟩ := Int.eq_ofNat_of_zero_le yb.1.1
          obtain ⟨wn, rfl⟩ := Int.eq_ofNat_of_zero_le yb.2.1
          have := kc_commonDivisor (d + 1) (M := N2) (Q := fun v1 M1 => z_vl v1 fun x1 => z_nz x1 (Q (z_J (z_wl (Int.tdiv s x1))) M1)) (m := yn + wn) (n := yn) (by omega) (by omega) (z_vlJ (z_nz_of ?_ ?_))
          · exact this
          · have := Nat.gcd_pos_of_pos_left yn (m := yn + wn) (by omega)
            omega
          · rw [← es] at h2
            rw [show ((yn : Int) + (wn : Int)).toNat = yn + wn from by omega, show ((yn : Int)).toNat = yn from by omega] at h2
            exact h2
        exact ⟨fun c2 => fin _ (by rw [if_neg c2]), fun c2 => fin _ (by rw [if_pos c2])⟩
      · rw [if_pos c] at h2; exact h2
theorem km_sure (d : Nat) {tn n k : Int} (hS : z_sit S M) (hI : z_IS S) {z0 : Int} (hz : S 13 1 = z0) (hz0 : z0 ≤ 260) (hT : ∀ j : Int, 0 ≤ j → j < z0 → S 2601014 j = z_and (S 2603064 j) 255) (h1 : zw_su0 tn n k z0 → ∀ N : z_M, z_sit (z_up S 13 1 0) N → Q (z_J (zw_suv S tn k n.toNat)) N) (h0 : ¬ zw_su0 tn n k z0 → Q (z_J (-1)) M) : z_Cl 0 (d + 4) 380 [z_R 13, z_I tn, z_I n, z_I k] M Q := by
  have no : ∀ _ : ¬ zw_su0 tn n k z0, z_G 0 (d + 4) z_m380 42 [z_R 13, z_I tn, z_I n, z_I k, z_U, z_U, z_U, z_U, z_U, z_U, z_U] [] M Q := fun c => rg_380_42 (d + 3) (h0 c)
  refine re_380 (d + 3) (km_lies (d + 3) (fun a0 a1 => z_y1 (km_lies (d + 3) (fun b0 b1 => z_y1 (km_lies (d + 3) (fun c0 c1 => z_y1 ?_) (fun c => z_n1 (no (fun z => by have := z.2.2.1; omega))))) (fun c => z_n1 (no (fun z => by have := z.2.1; omega))))) (fun c => z_n1 (no (fun z => by have := z.1; omega))))
  rw [z_ff hS 13 1 rfl, hz]
  refine ⟨fun hsz => ?_, fun c => no (fun z => by have := z.2.2.2; omega)⟩
  have hh := h1 ⟨⟨a0, a1⟩, ⟨b0, b1⟩, ⟨c0, c1⟩, hsz⟩
  have e13 := z_eq2_13 (S := S) 0
  have hI2 := z_IS_tr e13 hI
  have hS2 := z_sit_13 hS 0
  have etl : ∀ p, z_tl (z_up S 13 1 0) p ↔ z_tl S p := by
    intro p
    unfold z_tl
    rw [z_e2k e13 304067 rfl rfl rfl]
  have ert : zv_rk (z_up S 13 1 0) = zv_rk S := z_rk_tr e13
  have etp : (z_up S 13 1 0) 2603064 = S 2603064 := z_e2k e13 2603064 rfl rfl rfl
  generalize z_up S 13 1 0 = S2 at *
  have byt : ∀ (q : Nat) (N : z_M) (K : z_V → z_M → Prop), (q : Int) < n → z_sit S2 N → K (z_I (S 2601014 (q : Int))) N → z_Cl 0 (d + 3) 228 [z_R 13, z_I (q : Int)] N K := by
    intro q N K hq hN hK
    refine re_228 (d + 3) ?_
    rw [z_fn hN 2603064 rfl, etp, ← hT (q : Int) (by omega) (by omega)]
    exact ⟨by omega, by omega, hK⟩
  have byb : ∀ q : Nat, (q : Int) < n → 0 ≤ S 2601014 (q : Int) ∧ S 2601014 (q : Int) < 256 := by
    intro q hq
    rw [hT (q : Int) (by omega) (by omega), z_and255]; omega
  have b16 : ∀ b : Int, 0 ≤ b → b ≤ 25 → (z_and b 16 = 0 ↔ b < 16) := by
    intro b x0 x1
    obtain ⟨bn, rfl⟩ := Int.eq_ofNat_of_zero_le x0
    have : ∀ j : Fin 26, (z_and ((j.val : Nat) : Int) 16 = 0 ↔ ((j.val : Nat) : Int) < 16) := by decide
    exact this ⟨bn, by omega⟩
  -- the second loop
  have second : ∀ N : z_M, z_sit S2 N → z_exn (fun q => !zw_bd1 S q) n.toNat = false → z_G 0 (d + 4) z_m380 111 [z_R 13, z_I tn, z_I n, z_I k, z_J tn, z_U, z_J (z_w (10 - tn)), z_U, z_I 0, z_U, z_U] [] N Q := by
    intro N hN hal
    refine z_lpi (n := n.toNat) (fun q => zw_yn S tn q) (fun _ N => z_sit S2 N) (fun N v q => z_G 0 (d + 4) z_m380 111 [z_R 13, z_I tn, z_I n, z_I k, z_J v.1, z_U, z_J v.2, z_U, z_I q, z_U, z_U] [] N Q) N hN (fun q N1 hq hN1 nx => ?_) (fun N1 hN1 => ?_)
    · have hb := byb q (by omega)
      have hgood := z_exn_f.mp hal q hq
      have hbd : zw_bd1 S q = true := by
        cases hx : zw_bd1 S q with
        | true => rfl
        | false =>
          have hg2 : (!zw_bd1 S q) = false := hgood
          rw [hx] at hg2; cases hg2
      have hbd2 := of_decide_eq_true hbd
      have a15 := z_and15 hb.1 (by omega)
      have h25 : S 2601014 (q : Int) ≤ 25 := by
        have := hbd2.2.2.1
        have := hbd2.1
        rw [a15] at *
        omega
      have i16 := b16 _ hb.1 h25
      have hr := zw_rt_b S q
      have e2 : zw_yn S tn (q + 1) = (z_wl ((zw_yn S tn q).1 * (if z_and (S 2601014 (q : Int)) 16 = 0 then zw_rt S q else z_w (10 - zw_rt S q))), z_wl ((zw_yn S tn q).2 * (if z_and (S 2601014 (q : Int)) 16 = 0 then z_w (10 - zw_rt S q) else zw_rt S q))) := rfl
      refine rg_380_111 (d + 3) ⟨fun c => absurd c (by omega), fun _ => byt q N1 _ (by omega) hN1 (z_viI ?_)⟩
      rw [z_tm hb.1]
      refine km_ask d hN1 hI2.2.2.1 (by decide) (by decide) (by decide) (by decide) (by decide) (fun N2 hN2 _ => z_viI (byt q N2 _ (by omega) hN2 (z_viI ?_)))
      have e4 : zv_rk S2 114 10 0 0 (S 2601014 (q : Int) % 16) 0 = zw_rt S q := by unfold zw_rt; rw [ert, a15]
      rw [e4]
      have nx' := nx N2 hN2
      rw [e2] at nx'
      refine ⟨fun c => rg_380_159 (d + 3) ⟨fun _ => rg_380_180 (d + 3) ⟨fun _ => rg_380_202 (d + 3) ?_, fun c2 => absurd rfl c2⟩, fun c2 => absurd rfl c2⟩, fun c => rg_380_159 (d + 3) ⟨fun c2 => absurd c2 (by decide), fun _ => rg_380_180 (d + 3) ⟨fun c2 => absurd c2 (by decide), fun _ => rg_380_202 (d + 3) ?_⟩⟩⟩
      · have cn : ¬ z_and (S 2601014 (q : Int)) 16 = 0 := fun z => by have := i16.mp z; omega
        rw [if_neg cn, if_neg cn] at nx'
        rw [z_wq (by omega)]; exact nx'
      · have cy : z_and (S 2601014 (q : Int)) 16 = 0 := i16.mpr c
        rw [if_pos cy, if_pos cy] at nx'
        rw [z_wq (by omega)]; exact nx'
    · have yb := zw_yn_b (S := S) a0 a1 n.toNat (by omega)
      have tb := zw_10_b (n.toNat + 1) (by omega)
      have h2 := hh N1 hN1
      unfold zw_suv at h2
      rw [if_neg (by rw [hal]; decide)] at h2
      have ews : z_wl ((zw_yn S tn n.toNat).1 + (zw_yn S tn n.toNat).2) = (zw_yn S tn n.toNat).1 + (zw_yn S tn n.toNat).2 := z_wl_id (by omega) (by omega)
      refine rg_380_111 (d + 3) ⟨fun _ => ?_, fun c => absurd c (by omega)⟩
      rw [ews]
      simp only [z_cmp_e0]
      refine ⟨fun c => ?_, fun c => ?_⟩
      · rw [if_neg c] at h2
        generalize (zw_yn S tn n.toNat).1 = y at *
        generalize (zw_yn S tn n.toNat).2 = w at *
        obtain ⟨yn, rfl⟩ := Int.eq_ofNat_of_zero_le yb.1.1
        obtain ⟨wn, rfl⟩ := Int.eq_ofNat_of_zero_le yb.2.1
        rw [show ((yn : Int) + (wn : Int)).toNat = yn + wn from by omega, show ((yn : Int)).toNat = yn from by omega, Nat.gcd_comm] at h2
        have gp := Nat.gcd_pos_of_pos_right yn (n := yn + wn) (by omega)
        have := km_dividing (d + 3) (M := N1) (Q := fun v1 M1 => z_vl v1 fun x1 => ((¬ k = 0 → z_nz x1 (Q (z_J (z_wl (Int.tdiv ((yn : Int) + (wn : Int)) x1))) M1)) ∧ (k = 0 → z_nz x1 (Q (z_J (z_wl (Int.tdiv (yn : Int) x1))) M1)))) (m := yn) (n := yn + wn) (z_vlJ ⟨fun c2 => z_nz_of (by omega) ?_, fun c2 => z_nz_of (by omega) ?_⟩)
        · exact this
        · rw [if_neg c2] at h2; exact h2
        · rw [if_pos c2] at h2; exact h2
      · rw [if_pos c] at h2; exact h2
  refine z_lpi (n := n.toNat) (fun _ => ()) (fun q N => z_sit S2 N ∧ z_exn (fun q => !zw_bd1 S q) q = false) (fun N _ q => z_G 0 (d + 4) z_m380 54 [z_R 13, z_I tn, z_I n, z_I k, z_I q, z_U, z_U, z_U, z_U, z_U, z_U] [] N Q) _ ⟨hS2, rfl⟩ (fun q N hq hI' nx => ?_) (fun N hI' => ?_)
  · obtain ⟨hN, hal⟩ := hI'
    have hb := byb q (by omega)
    have a15 := z_and15 hb.1 (by omega)
    have bad : zw_bd1 S q = false → z_G 0 (d + 4) z_m380 87 [z_R 13, z_I tn, z_I n, z_I k, z_I (q : Int), z_U, z_U, z_U, z_U, z_U, z_U] [] N Q := by
      intro e
      refine rg_380_87 (d + 3) ?_
      have h2 := hh N hN
      unfold zw_suv at h2
      rw [if_pos (z_exn_t.mpr ⟨q, hq, by show (!zw_bd1 S q) = true; rw [e]; rfl⟩)] at h2
      exact h2
    refine rg_380_54 (d + 3) ⟨fun c => absurd c (by omega), fun _ => byt q N _ (by omega) hN (z_viI ⟨fun c => bad ?_, fun c => byt q N _ (by omega) hN (z_viI ?_)⟩)⟩
    · unfold zw_bd1
      refine decide_eq_false (fun z => ?_)
      have := z.2.2.1
      have := z.1
      rw [a15] at *
      omega
    · rw [z_tm hb.1, ← a15]
      refine km_isTold (d + 2) hN hI2.1 (fun hp => z_y2 ?_) (fun hp => z_n2 (bad ?_))
      · rw [z_wq (by omega)]
        refine nx N ⟨hN, ?_⟩
        show (z_exn (fun q => !zw_bd1 S q) q || !zw_bd1 S q) = false
        rw [hal]
        unfold zw_bd1
        rw [decide_eq_true ⟨by omega, (etl _).mp hp⟩]; rfl
      · unfold zw_bd1
        exact decide_eq_false (fun z => hp ((etl _).mpr z.2))
  · obtain ⟨hN, hal⟩ := hI'
    exact rg_380_54 (d + 3) ⟨fun _ => second N hN hal, fun c => absurd c (by omega)⟩
end ZSUR
