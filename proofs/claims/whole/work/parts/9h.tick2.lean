/-! OPS: tickets, mayHave: rows, missing, holders -/
/-- bits counted -/
def zw_pc (a : Int) : Int := z_and (z_w ((z_w ((z_and (z_w ((z_w ((z_and (z_w (a - (z_and (z_ushr a 1) 1431655765))) 858993459) + (z_and (z_ushr (z_w (a - (z_and (z_ushr a 1) 1431655765))) 2) 858993459))) + (z_ushr (z_w ((z_and (z_w (a - (z_and (z_ushr a 1) 1431655765))) 858993459) + (z_and (z_ushr (z_w (a - (z_and (z_ushr a 1) 1431655765))) 2) 858993459))) 4))) 252645135) + (z_ushr (z_and (z_w ((z_w ((z_and (z_w (a - (z_and (z_ushr a 1) 1431655765))) 858993459) + (z_and (z_ushr (z_w (a - (z_and (z_ushr a 1) 1431655765))) 2) 858993459))) + (z_ushr (z_w ((z_and (z_w (a - (z_and (z_ushr a 1) 1431655765))) 858993459) + (z_and (z_ushr (z_w (a - (z_and (z_ushr a 1) 1431655765))) 2) 858993459))) 4))) 252645135) 8))) + (z_ushr (z_w ((z_and (z_w ((z_w ((z_and (z_w (a - (z_and (z_ushr a 1) 1431655765))) 858993459) + (z_and (z_ushr (z_w (a - (z_and (z_ushr a 1) 1431655765))) 2) 858993459))) + (z_ushr (z_w ((z_and (z_w (a - (z_and (z_ushr a 1) 1431655765))) 858993459) + (z_and (z_ushr (z_w (a - (z_and (z_ushr a 1) 1431655765))) 2) 858993459))) 4))) 252645135) + (z_ushr (z_and (z_w ((z_w ((z_and (z_w (a - (z_and (z_ushr a 1) 1431655765))) 858993459) + (z_and (z_ushr (z_w (a - (z_and (z_ushr a 1) 1431655765))) 2) 858993459))) + (z_ushr (z_w ((z_and (z_w (a - (z_and (z_ushr a 1) 1431655765))) 858993459) + (z_and (z_ushr (z_w (a - (z_and (z_ushr a 1) 1431655765))) 2) 858993459))) 4))) 252645135) 8))) 16))) 63
theorem zw_pc_all : ∀ j : Fin 1024, zw_pc ((j.val : Nat) : Int) = z_cnt (fun i => j.val.testBit i) 10 := by decide +kernel
theorem zw_pc_bs {n : Nat} (hn : n ≤ 10) (P : Nat → Bool) : zw_pc (z_bs n P : Int) = z_cnt P n := by
  have h := z_bs_lt n P
  have h2 : 2 ^ n ≤ 1024 := Nat.le_trans (Nat.pow_le_pow_right (by decide) hn) (by decide)
  have e := zw_pc_all ⟨z_bs n P, by omega⟩
  rw [show ((⟨z_bs n P, by omega⟩ : Fin 1024).val) = z_bs n P from rfl] at e
  rw [e]
  have key : ∀ m, n ≤ m → z_cnt (fun i => (z_bs n P).testBit i) m = z_cnt P n := by
    intro m hm
    have : ∀ k, z_cnt (fun i => (z_bs n P).testBit i) (n + k) = z_cnt P n := by
      intro k
      induction k with
      | zero => exact z_cnt_cg n (fun j hj => by show (z_bs n P).testBit j = P j; rw [z_bs_bit, decide_eq_true hj, Bool.true_and])
      | succ k ih =>
        show z_cnt (fun i => (z_bs n P).testBit i) (n + k) + zv_b ((z_bs n P).testBit (n + k)) = _
        rw [ih, z_bs_bit, decide_eq_false (by omega), Bool.false_and]
        exact Int.add_zero _
    have := this (m - n)
    rw [show n + (m - n) = m from by omega] at this
    exact this
  exact key 10 hn
theorem kc_bitCount (d : Nat) {M : z_M} {Q : z_V → z_M → Prop} {n : Nat} {P : Nat → Bool} (hn : n ≤ 10) (h : Q (z_I (z_cnt P n)) M) : z_Cl 0 d 389 [z_I (z_bs n P : Int)] M Q := by
  refine re_389 d ?_
  rw [← zw_pc_bs hn P] at h
  exact h
theorem zw_wmul (x y : Int) : z_w (z_w x * y) = z_w (x * y) := by
  unfold z_w
  exact Int.bmod_mul_bmod
def zw_fac : Nat → Int
  | 0 => 1
  | n + 1 => zw_fac n * ((n + 1 : Nat) : Int)
/-- those of a stop with no ticket found -/
def zw_wo (S : z_M) (n : Nat) (k : Int) (p : Nat) : Bool := decide (zw_ab S n p = k ∧ S 101116 (p : Int) = -1)
def zw_ok (S : z_M) (n : Nat) (p : Nat) : Bool := decide (S 101116 (p : Int) = -1 ∨ (0 ≤ zw_ab S n p ∧ zw_nx S (zw_ab S n p).toNat ≤ S 101116 (p : Int) ∧ S 101116 (p : Int) < zw_nx S ((zw_ab S n p).toNat + 1)))
def zw_rw (S : z_M) (n : Nat) : Nat → Int
  | 0 => 1
  | k + 1 => z_w (zw_rw S n k * zw_fac (z_cnt (zw_wo S n (k : Int)) 10).toNat)
def zw_rows (S : z_M) (n : Nat) : Int := if z_exn (fun p => !zw_ok S n p) 10 = true then 0 else zw_rw S n n
theorem zw_ww (x : Int) : z_w (z_w x) = z_w x := by
  have h := z_w_in x
  exact z_w_id h.1 (by have := h.2; omega)
theorem zw_rw_w (S : z_M) (n k : Nat) : z_w (zw_rw S n k) = zw_rw S n k := by
  cases k with
  | zero => exact z_w_id (x := 1) (by decide) (by decide)
  | succ k => exact zw_ww _
section ZTIO
variable {S M : z_M} {Q : z_V → z_M → Prop}
theorem zw_tw (hK : z_ITk S) {p : Int} (h0 : 0 ≤ p) (h1 : p < 10) : (S 101056 p = -2 ↔ S 101116 p = -1) ∧ (S 101116 p ≠ -1 → S 101056 p = S 101116 p) := by
  obtain ⟨a, b, c⟩ := hK p h0 h1
  rw [a]
  constructor
  · split <;> omega
  · intro q; rw [if_neg q]
theorem kc_isOfStop (d : Nat) {tk st : Int} {n : Nat} (hn : n ≤ 12) (hf : ∀ k : Nat, k ≤ n → M 131055 (k : Int) = zw_nx S k) (hst : st < (n : Int)) (h1 : 0 ≤ st → zw_nx S st.toNat ≤ tk → tk < zw_nx S (st.toNat + 1) → Q (z_I 1) M) (h0 : ¬ (0 ≤ st ∧ zw_nx S st.toNat ≤ tk ∧ tk < zw_nx S (st.toNat + 1)) → Q (z_I 0) M) : z_Cl 0 d 49 [z_R 11, z_I tk, z_I st] M Q := by
  refine re_49 d ⟨fun c => h0 (by omega), fun c => ?_⟩
  obtain ⟨k, rfl⟩ := Int.eq_ofNat_of_zero_le c
  have e1 := hf k (by omega)
  have e2 := hf (k + 1) (by omega)
  rw [show ((k : Int)).toNat = k from by omega] at h1 h0
  rw [z_w_id (by omega) (by omega), e1, show (k : Int) + 1 = ((k + 1 : Nat) : Int) from by omega, e2]
  exact ⟨by omega, by omega, fun c2 => h0 (fun z => by have := z.2.1; omega), fun c2 => ⟨by omega, by omega, fun c3 => h0 (fun z => by have := z.2.2; omega), fun c3 => h1 c c2 c3⟩⟩
theorem km_isOfStop (d : Nat) {tk st : Int} {n : Nat} (hn : n ≤ 12) (hf : ∀ k : Nat, k ≤ n → M 131118 (k : Int) = zw_nx S k) (hs0 : 0 ≤ st) (hst : st < (n : Int)) (h1 : zw_nx S st.toNat ≤ tk → tk < zw_nx S (st.toNat + 1) → Q (z_I 1) M) (h0 : ¬ (zw_nx S st.toNat ≤ tk ∧ tk < zw_nx S (st.toNat + 1)) → Q (z_I 0) M) : z_Cl 0 d 353 [z_R 13, z_I tk, z_I st] M Q := by
  obtain ⟨k, rfl⟩ := Int.eq_ofNat_of_zero_le hs0
  have e1 := hf k (by omega)
  have e2 := hf (k + 1) (by omega)
  rw [show ((k : Int)).toNat = k from by omega] at h1 h0
  refine re_353 d ?_
  rw [z_w_id (by omega) (by omega), e1, show (k : Int) + 1 = ((k + 1 : Nat) : Int) from by omega, e2]
  exact ⟨by omega, by omega, fun c2 => h0 (fun z => by have := z.1; omega), fun c2 => ⟨by omega, by omega, fun c3 => h0 (fun z => by have := z.2; omega), fun c3 => h1 c2 c3⟩⟩
theorem kc_withoutTicket (d : Nat) {st : Int} {n : Nat} (hS : z_sit S M) (hK : z_ITk S) (hb : ∀ p : Nat, p < 10 → M 101054 (p : Int) = zw_ab S n p) (h : Q (z_I (z_bs 10 (zw_wo S n st) : Int)) M) : z_Cl 0 d 51 [z_R 11, z_I st] M Q := by
  refine re_51 d ?_
  refine z_lpi (n := 10) (fun q => (z_bs q (zw_wo S n st) : Int)) (fun _ N => N = M) (fun N v q => z_G 0 d z_m51 4 [z_R 11, z_I st, z_I v, z_I q] [] N Q) M rfl (fun q N hq hN nx => ?_) (fun N hN => ?_)
  · subst hN
    have nx' := nx N rfl
    have lt := z_bs_lt q (zw_wo S n st)
    have h2 := z_2p (n := q) (by omega)
    have tw := zw_tw hK (p := (q : Int)) (by omega) (by omega)
    refine rg_51_4 d ⟨fun c => absurd c (by omega), fun _ => ⟨by omega, by omega, ?_⟩⟩
    rw [hb q hq, z_fn hS 101056 rfl, z_wq (by omega), z_or_0 (by omega)]
    refine ⟨fun c => ?_, fun c => ⟨by omega, by omega, fun c2 => ?_, fun c2 => ?_⟩⟩
    · rw [z_bs_no (P := zw_wo S n st) (by unfold zw_wo; exact decide_eq_false (fun z => c z.1))]; exact nx'
    · rw [z_bs_no (P := zw_wo S n st) (by unfold zw_wo; exact decide_eq_false (fun z => c2 (tw.1.mpr z.2)))]; exact nx'
    · rw [z_bs_or (P := zw_wo S n st) (by omega) (by unfold zw_wo; exact decide_eq_true ⟨c, tw.1.mp c2⟩)]; exact nx'
  · subst hN
    exact rg_51_4 d ⟨fun _ => h, fun c => absurd c (by decide)⟩
/-- m (m-1) .. down to above j, times what is left -/
theorem kc_rows (d : Nat) (hS : z_sit S M) (hT : z_ITr S) (hK : z_ITk S) {n : Nat} (en : (n : Int) = S 13 81) (hB : zw_bd S M 101054 131055 n) (h : Q (z_I (zw_rows S n)) M) : z_Cl 0 (d + 1) 50 [z_R 11] M Q := by
  obtain ⟨hb, hf⟩ := hB
  obtain ⟨t1, t2, t3, t4⟩ := hT
  unfold zw_rows at h
  refine re_50 d ?_
  have second : z_exn (fun p => !zw_ok S n p) 10 = false → z_G 0 (d + 1) z_m50 50 [z_R 11, z_I 1, z_I 0, z_U] [] M Q := by
    intro hno
    rw [if_neg (by rw [hno]; decide)] at h
    refine z_lpi (n := n) (fun k => zw_rw S n k) (fun _ N => N = M) (fun N v k => z_G 0 (d + 1) z_m50 50 [z_R 11, z_I v, z_I k, z_U] [] N Q) M rfl (fun k N hk hN nx => ?_) (fun N hN => ?_)
    · subst hN
      have nx' := nx N rfl
      refine rg_50_50 d ⟨fun c => ?_, fun _ => kc_withoutTicket d hS hK hb (z_viI (kc_bitCount d (by decide) (z_viI ?_)))⟩
      · rw [z_ff hS 11 5 rfl, t1] at c; exact absurd c (by omega)
      · have cb := z_cnt_b (zw_wo S n (k : Int)) 10
        have e2 : zw_rw S n (k + 1) = z_w (zw_rw S n k * zw_fac (z_cnt (zw_wo S n (k : Int)) 10).toNat) := rfl
        rw [e2] at nx'
        generalize z_cnt (zw_wo S n (k : Int)) 10 = m at *
        obtain ⟨mn, rfl⟩ := Int.eq_ofNat_of_zero_le cb.1
        rw [show ((mn : Int)).toNat = mn from by omega] at nx'
        have key : ∀ (j : Nat) (r : Int), z_w r = r → j ≤ 10 → (z_w (r * zw_fac j) = z_w (zw_rw S n k * zw_fac mn)) → z_G 0 (d + 1) z_m50 67 [z_R 11, z_I r, z_I (k : Int), z_I (j : Int)] [] N Q := by
          intro j
          induction j with
          | zero =>
            intro r hr hj e
            refine rg_50_67 d ⟨fun _ => ?_, fun c => absurd c (by decide)⟩
            rw [z_wq (by omega)]
            have e3 : zw_fac 0 = 1 := rfl
            rw [e3, Int.mul_one, hr] at e
            rw [e]; exact nx'
          | succ j ih =>
            intro r hr hj e
            refine rg_50_67 d ⟨fun c => ?_, fun c => ?_⟩
            · rw [z_wq (by omega)]
              have ej : j = 0 := by omega
              subst ej
              have e3 : zw_fac (0 + 1) = 1 := rfl
              rw [e3, Int.mul_one, hr] at e
              rw [e]; exact nx'
            · rw [z_w_id (x := ((j + 1 : Nat) : Int) + -1) (by omega) (by omega), show ((j + 1 : Nat) : Int) + -1 = (j : Int) from by omega]
              refine ih _ ?_ (by omega) ?_
              · have := z_w_in (r * ((j + 1 : Nat) : Int))
                exact z_w_id this.1 (by have := this.2; omega)
              · rw [zw_wmul, ← e]
                congr 1
                show r * ((j + 1 : Nat) : Int) * zw_fac j = r * (zw_fac j * ((j + 1 : Nat) : Int))
                rw [Int.mul_assoc, Int.mul_comm ((j + 1 : Nat) : Int)]
        exact key mn (zw_rw S n k) (zw_rw_w S n k) (by omega) rfl
    · subst hN
      refine rg_50_50 d ⟨fun _ => h, fun c => ?_⟩
      rw [z_ff hS 11 5 rfl, t1] at c; exact absurd c (by omega)
  have := z_lpi (n := 10) (fun _ => ()) (fun q N => N = M ∧ z_exn (fun p => !zw_ok S n p) q = false) (fun N _ q => z_G 0 (d + 1) z_m50 2 [z_R 11, z_I q, z_U, z_U] [] N Q) M ⟨rfl, rfl⟩ (fun q N hq hI0 nx => ?_) (fun N hI0 => ?_)
  · exact this
  · obtain ⟨rfl, hno⟩ := hI0
    have tw := zw_tw hK (p := (q : Int)) (by omega) (by omega)
    have ac := zw_ab_c S n q
    have go : zw_ok S n q = true → z_G 0 (d + 1) z_m50 2 [z_R 11, z_I (z_w ((q : Int) + 1)), z_U, z_U] [] N Q := by
      intro e
      rw [z_wq (by omega)]
      refine nx N ⟨rfl, ?_⟩
      show (z_exn (fun p => !zw_ok S n p) q || !zw_ok S n q) = false
      rw [hno, e]; rfl
    refine rg_50_2 d ⟨fun c => absurd c (by omega), fun _ => ⟨by omega, by omega, ?_⟩⟩
    rw [z_fn hS 101056 rfl, hb q hq]
    refine ⟨fun c => go (by unfold zw_ok; exact decide_eq_true (Or.inl (tw.1.mp c))), fun c => ⟨by omega, by omega, by omega, by omega, ?_⟩⟩
    have cf : S 101116 (q : Int) ≠ -1 := fun z => c (tw.1.mpr z)
    rw [tw.2 cf]
    refine kc_isOfStop (S := S) d (by omega) hf (by omega) (fun a b e => z_y2 (go (by unfold zw_ok; exact decide_eq_true (Or.inr ⟨a, b, e⟩)))) (fun e => z_n2 ?_)
    have hx : z_exn (fun p => !zw_ok S n p) 10 = true := z_exn_t.mpr ⟨q, hq, by
      show (!zw_ok S n q) = true
      unfold zw_ok
      rw [decide_eq_false (fun z => z.elim cf e)]; rfl⟩
    rw [if_pos hx] at h
    exact h
  · obtain ⟨rfl, hno⟩ := hI0
    exact rg_50_2 d ⟨fun _ => second hno, fun c => absurd c (by decide)⟩
theorem km_ticketRows (d : Nat) (hS : z_sit S M) (hT : z_ITr S) (hK : z_ITk S) {n : Nat} (en : (n : Int) = S 13 81) (hB : zw_bd S M 101117 131118 n) (h : Q (z_I (zw_rows S n)) M) : z_Cl 0 (d + 1) 354 [z_R 13] M Q := by
  obtain ⟨hb, hf⟩ := hB
  obtain ⟨t1, t2, t3, t4⟩ := hT
  unfold zw_rows at h
  refine re_354 d ?_
  have second : z_exn (fun p => !zw_ok S n p) 10 = false → z_G 0 (d + 1) z_m354 60 [z_R 13, z_I 1, z_I 0, z_U, z_U] [] M Q := by
    intro hno
    rw [if_neg (by rw [hno]; decide)] at h
    refine z_lpi (n := n) (fun k => zw_rw S n k) (fun _ N => N = M) (fun N v k => z_G 0 (d + 1) z_m354 60 [z_R 13, z_I v, z_I k, z_U, z_U] [] N Q) M rfl (fun k N hk hN nx => ?_) (fun N hN => ?_)
    · subst hN
      have nx' := nx N rfl
      refine rg_354_60 d ⟨fun c => ?_, fun _ => ?_⟩
      · rw [z_ff hS 13 81 rfl] at c; exact absurd c (by omega)
      · have e2 : zw_rw S n (k + 1) = z_w (zw_rw S n k * zw_fac (z_cnt (zw_wo S n (k : Int)) 10).toNat) := rfl
        rw [e2] at nx'
        have b1 := zw_nx_b S k
        have b2 := zw_nx_b S (k + 1)
        have es := zw_nx_step S hk
        rw [z_wq (by omega), hf (k + 1) (by omega), hf k (by omega), z_w_id (x := zw_nx S (k + 1) - zw_nx S k) (by omega) (by omega)]
        refine ⟨by omega, by omega, by omega, by omega, ?_⟩
        -- those without a ticket are left
        have cnt := z_cnt_add (P := fun p => decide (zw_ab S n p = (k : Int))) (A := zw_wo S n (k : Int)) (B := fun p => decide (zw_ab S n p = (k : Int) ∧ S 101116 (p : Int) ≠ -1)) 10 (fun j _ => by
          unfold zw_wo
          show zv_b (decide (zw_ab S n j = (k : Int))) = zv_b (decide (zw_ab S n j = (k : Int) ∧ S 101116 (j : Int) = -1)) + zv_b (decide (zw_ab S n j = (k : Int) ∧ S 101116 (j : Int) ≠ -1))
          by_cases c : zw_ab S n j = (k : Int)
          · by_cases c2 : S 101116 (j : Int) = -1
            · rw [decide_eq_true c, decide_eq_true ⟨c, c2⟩, decide_eq_false (fun z => z.2 c2)]; rfl
            · rw [decide_eq_true c, decide_eq_false (fun z => c2 z.2), decide_eq_true ⟨c, c2⟩]; rfl
          · rw [decide_eq_false c, decide_eq_false (fun z => c z.1), decide_eq_false (fun z => c z.1)]; rfl)
        have cb := z_cnt_b (zw_wo S n (k : Int)) 10
        have e0 : zw_nx S (k + 1) - zw_nx S k = zw_nx S (k + 1) - zw_nx S k - z_cnt (fun p => decide (zw_ab S n p = (k : Int) ∧ S 101116 (p : Int) ≠ -1)) 0 := by
          show _ = _ - (0 : Int); omega
        rw [e0]
        refine z_lpi (n := 10) (fun q => zw_nx S (k + 1) - zw_nx S k - z_cnt (fun p => decide (zw_ab S n p = (k : Int) ∧ S 101116 (p : Int) ≠ -1)) q) (fun _ N' => N' = N) (fun N' v q => z_G 0 (d + 1) z_m354 87 [z_R 13, z_I (zw_rw S n k), z_I (k : Int), z_I v, z_I q] [] N' Q) N rfl (fun q N' hq hN' nx2 => ?_) (fun N' hN' => ?_)
        · subst hN'
          have nx2' := nx2 N' rfl
          have qb := z_cnt_b (fun p => decide (zw_ab S n p = (k : Int) ∧ S 101116 (p : Int) ≠ -1)) q
          have e3 : z_cnt (fun p => decide (zw_ab S n p = (k : Int) ∧ S 101116 (p : Int) ≠ -1)) (q + 1) = z_cnt (fun p => decide (zw_ab S n p = (k : Int) ∧ S 101116 (p : Int) ≠ -1)) q + zv_b (decide (zw_ab S n q = (k : Int) ∧ S 101116 (q : Int) ≠ -1)) := rfl
          rw [e3] at nx2'
          have same : ¬ (zw_ab S n q = (k : Int) ∧ S 101116 (q : Int) ≠ -1) → z_G 0 (d + 1) z_m354 87 [z_R 13, z_I (zw_rw S n k), z_I (k : Int), z_I (z_w (zw_nx S (k + 1) - zw_nx S k - z_cnt (fun p => decide (zw_ab S n p = (k : Int) ∧ S 101116 (p : Int) ≠ -1)) q - 0)), z_I (z_w ((q : Int) + 1))] [] N' Q := by
            intro c
            rw [decide_eq_false c] at nx2'
            rw [z_wq (by omega), z_w_id (by omega) (by omega)]
            have : zv_b false = 0 := rfl
            rw [this, Int.add_zero] at nx2'
            rw [Int.sub_zero]; exact nx2'
          refine rg_354_87 d ⟨fun c => absurd c (by omega), fun _ => ⟨by omega, by omega, ?_⟩⟩
          rw [hb q hq, z_fn hS 101116 rfl]
          refine ⟨fun c => same (fun z => c z.1), fun c => ⟨by omega, by omega, fun c2 => same (fun z => z.2 c2), fun c2 => ?_⟩⟩
          rw [decide_eq_true ⟨c, c2⟩] at nx2'
          have : zv_b true = 1 := rfl
          rw [this] at nx2'
          rw [z_wq (by omega), z_w_id (by omega) (by omega)]
          rw [show zw_nx S (k + 1) - zw_nx S k - (z_cnt (fun p => decide (zw_ab S n p = (k : Int) ∧ S 101116 (p : Int) ≠ -1)) q + 1) = zw_nx S (k + 1) - zw_nx S k - z_cnt (fun p => decide (zw_ab S n p = (k : Int) ∧ S 101116 (p : Int) ≠ -1)) q - 1 from by omega] at nx2'
          exact nx2'
        · subst hN'
          refine rg_354_87 d ⟨fun _ => ?_, fun c => absurd c (by decide)⟩
          have em : zw_nx S (k + 1) - zw_nx S k - z_cnt (fun p => decide (zw_ab S n p = (k : Int) ∧ S 101116 (p : Int) ≠ -1)) 10 = z_cnt (zw_wo S n (k : Int)) 10 := by omega
          rw [em]
          generalize z_cnt (zw_wo S n (k : Int)) 10 = m at *
          obtain ⟨mn, rfl⟩ := Int.eq_ofNat_of_zero_le cb.1
          rw [show ((mn : Int)).toNat = mn from by omega] at nx'
          have key : ∀ (g j : Nat), mn - j = g → j ≤ mn → z_G 0 (d + 1) z_m354 133 [z_R 13, z_I (z_w (zw_rw S n k * zw_fac j)), z_I (k : Int), z_I (mn : Int), z_I ((j + 1 : Nat) : Int)] [] N' Q := by
            intro g
            induction g with
            | zero =>
              intro j hg hj
              have : j = mn := by omega
              subst this
              refine rg_354_133 d ⟨fun _ => ?_, fun c => absurd c (by omega)⟩
              rw [z_wq (by omega)]; exact nx'
            | succ g ih =>
              intro j hg hj
              refine rg_354_133 d ⟨fun c => absurd c (by omega), fun _ => ?_⟩
              rw [z_wq (by omega), zw_wmul]
              have := ih (j + 1) (by omega) (by omega)
              have e4 : zw_rw S n k * zw_fac (j + 1) = zw_rw S n k * zw_fac j * ((j + 1 : Nat) : Int) := by
                show zw_rw S n k * (zw_fac j * ((j + 1 : Nat) : Int)) = _
                rw [Int.mul_assoc]
              rw [e4] at this
              exact this
          by_cases c0 : mn = 0
          · subst c0
            refine rg_354_133 d ⟨fun _ => ?_, fun c => absurd c (by decide)⟩
            rw [z_wq (by omega)]
            have e5 : zw_fac 0 = 1 := rfl
            rw [e5, Int.mul_one, zw_rw_w] at nx'
            exact nx'
          · have := key (mn - 1) 1 (by omega) (by omega)
            have e5 : zw_fac 1 = 1 := rfl
            rw [e5, Int.mul_one, zw_rw_w] at this
            exact this
    · subst hN
      refine rg_354_60 d ⟨fun _ => h, fun c => ?_⟩
      rw [z_ff hS 13 81 rfl] at c; exact absurd c (by omega)
  have := z_lpi (n := 10) (fun _ => ()) (fun q N => N = M ∧ z_exn (fun p => !zw_ok S n p) q = false) (fun N _ q => z_G 0 (d + 1) z_m354 4 [z_R 13, z_I 1, z_I q, z_U, z_U] [] N Q) M ⟨rfl, rfl⟩ (fun q N hq hI0 nx => ?_) (fun N hI0 => ?_)
  · exact this
  · obtain ⟨rfl, hno⟩ := hI0
    have ac := zw_ab_c S n q
    have go : zw_ok S n q = true → z_G 0 (d + 1) z_m354 4 [z_R 13, z_I 1, z_I (z_w ((q : Int) + 1)), z_U, z_U] [] N Q := by
      intro e
      rw [z_wq (by omega)]
      refine nx N ⟨rfl, ?_⟩
      show (z_exn (fun p => !zw_ok S n p) q || !zw_ok S n q) = false
      rw [hno, e]; rfl
    have bad : zw_ok S n q = false → Q (z_I 0) N := by
      intro e
      have hx : z_exn (fun p => !zw_ok S n p) 10 = true := z_exn_t.mpr ⟨q, hq, by show (!zw_ok S n q) = true; rw [e]; rfl⟩
      rw [if_pos hx] at h
      exact h
    refine rg_354_4 d ⟨fun c => absurd c (by omega), fun _ => ⟨by omega, by omega, ?_⟩⟩
    rw [z_fn hS 101116 rfl, hb q hq]
    refine ⟨fun c => go (by unfold zw_ok; exact decide_eq_true (Or.inl c)), fun c => ⟨by omega, by omega, fun c2 => bad ?_, fun c2 => ⟨by omega, by omega, by omega, by omega, km_isOfStop (S := S) d (by omega) hf (by omega) (by omega) (fun b e => z_y2 (go (by unfold zw_ok; exact decide_eq_true (Or.inr ⟨by omega, b, e⟩)))) (fun e => z_n2 (bad ?_))⟩⟩⟩
    · unfold zw_ok; exact decide_eq_false (fun z => z.elim c (fun y => by have := y.1; omega))
    · unfold zw_ok; exact decide_eq_false (fun z => z.elim c (fun y => e y.2))
  · obtain ⟨rfl, hno⟩ := hI0
    exact rg_354_4 d ⟨fun _ => second hno, fun c => absurd c (by decide)⟩
end ZTIO
