/-! OPS: tickets, mayHave, the answers -/
section ZTIP
variable {S M : z_M} {Q : z_V → z_M → Prop}
def zw_ms (S : z_M) (n p : Nat) : Bool := decide (zw_ab S n p ≠ -2 ∧ 0 ≤ S 101116 (p : Int) ∧ S 101116 (p : Int) < zw_nx S n)
theorem kc_sold (d : Nat) (hS : z_sit S M) (hT : z_ITr S) {n : Nat} (en : (n : Int) = S 13 81) (hB : zw_bd S M 101054 131055 n) (h : Q (z_I (zw_nx S n)) M) : z_Cl 0 d 46 [z_R 11] M Q := by
  have t3 := hT.2.2.1
  refine re_46 d ?_
  rw [z_ff hS 11 5 rfl, hT.1, ← en, hB.2 n (Nat.le_refl n)]
  exact ⟨by omega, by omega, h⟩
theorem km_sold (d : Nat) (hS : z_sit S M) (hT : z_ITr S) {n : Nat} (en : (n : Int) = S 13 81) (hB : zw_bd S M 101117 131118 n) (h : Q (z_I (zw_nx S n)) M) : z_Cl 0 d 352 [z_R 13] M Q := by
  have t3 := hT.2.2.1
  refine re_352 d ?_
  rw [z_ff hS 13 81 rfl, ← en, hB.2 n (Nat.le_refl n)]
  exact ⟨by omega, by omega, h⟩
theorem kc_missing (d : Nat) (hS : z_sit S M) (hT : z_ITr S) (hK : z_ITk S) {n : Nat} (en : (n : Int) = S 13 81) (hB : zw_bd S M 101054 131055 n) (h : Q (z_I (zw_nx S n - z_cnt (zw_ms S n) 10)) M) : z_Cl 0 (d + 1) 52 [z_R 11] M Q := by
  refine re_52 d (kc_sold d hS hT en hB (z_viI ?_))
  have nb := zw_nx_b S n
  have := z_lpi (n := 10) (fun q => zw_nx S n - z_cnt (zw_ms S n) q) (fun _ N => N = M) (fun N v q => z_G 0 (d + 1) z_m52 7 [z_R 11, z_I v, z_I q, z_U] [] N Q) M rfl (fun q N hq hN nx => ?_) (fun N hN => ?_)
  · have e0 : zw_nx S n - z_cnt (zw_ms S n) 0 = zw_nx S n := by show _ - (0 : Int) = _; omega
    rw [e0] at this; exact this
  · subst hN
    have nx' := nx N rfl
    have qb := z_cnt_b (zw_ms S n) q
    have e2 : z_cnt (zw_ms S n) (q + 1) = z_cnt (zw_ms S n) q + zv_b (zw_ms S n q) := rfl
    rw [e2] at nx'
    have tw := zw_tw hK (p := (q : Int)) (by omega) (by omega)
    have fb := (hK (q : Int) (by omega) (by omega)).2
    have no : ∀ y : Int, zw_ms S n q = false → z_G 0 (d + 1) z_m52 63 [z_R 11, z_I (zw_nx S n - z_cnt (zw_ms S n) q), z_I (q : Int), z_I y] [z_I (zw_nx S n - z_cnt (zw_ms S n) q)] N Q := by
      intro y e
      rw [e] at nx'
      have : zv_b false = 0 := rfl
      rw [this, Int.add_zero] at nx'
      refine rg_52_63 d ?_
      rw [z_wq (by omega), z_w_id (by omega) (by omega), Int.sub_zero]
      exact nx'
    refine rg_52_7 d ⟨fun c => absurd c (by omega), fun _ => ⟨by omega, by omega, ?_⟩⟩
    rw [hB.1 q hq, z_fn hS 101056 rfl]
    refine ⟨fun c => rg_52_39 d (rg_52_40 d ⟨fun _ => no _ (by unfold zw_ms; exact decide_eq_false (fun z => z.1 c)), fun c2 => absurd rfl c2⟩), fun c => ⟨by omega, by omega, fun c2 => rg_52_39 d (rg_52_40 d ⟨fun _ => no _ (by unfold zw_ms; exact decide_eq_false (fun z => by have := tw.1.mp c2; have := z.2.1; omega)), fun c3 => absurd rfl c3⟩), fun c2 => rg_52_40 d ⟨fun c3 => absurd c3 (by decide), fun _ => ⟨by omega, by omega, kc_sold d hS hT en hB (z_viI ?_)⟩⟩⟩⟩
    rw [z_fn hS 101056 rfl]
    have cf : S 101116 (q : Int) ≠ -1 := fun z => c2 (tw.1.mpr z)
    rw [tw.2 cf]
    refine ⟨fun c3 => no _ (by unfold zw_ms; exact decide_eq_false (fun z => by have := z.2.2; omega)), fun c3 => ?_⟩
    have e : zw_ms S n q = true := by unfold zw_ms; exact decide_eq_true ⟨c, by omega, c3⟩
    rw [e] at nx'
    have : zv_b true = 1 := rfl
    rw [this] at nx'
    rw [z_wq (by omega), z_w_id (by omega) (by omega)]
    rw [show zw_nx S n - (z_cnt (zw_ms S n) q + 1) = zw_nx S n - z_cnt (zw_ms S n) q - 1 from by omega] at nx'
    exact nx'
  · subst hN
    exact rg_52_7 d ⟨fun _ => h, fun c => absurd c (by decide)⟩
theorem km_missing (d : Nat) (hS : z_sit S M) (hT : z_ITr S) (hK : z_ITk S) {n : Nat} (en : (n : Int) = S 13 81) (hB : zw_bd S M 101117 131118 n) (h : Q (z_I (zw_nx S n - z_cnt (zw_ms S n) 10)) M) : z_Cl 0 (d + 1) 355 [z_R 13] M Q := by
  refine re_355 d (km_sold d hS hT en hB (z_viI ?_))
  have nb := zw_nx_b S n
  have := z_lpi (n := 10) (fun q => zw_nx S n - z_cnt (zw_ms S n) q) (fun _ N => N = M) (fun N v q => z_G 0 (d + 1) z_m355 7 [z_R 13, z_I v, z_I q] [] N Q) M rfl (fun q N hq hN nx => ?_) (fun N hN => ?_)
  · have e0 : zw_nx S n - z_cnt (zw_ms S n) 0 = zw_nx S n := by show _ - (0 : Int) = _; omega
    rw [e0] at this; exact this
  · subst hN
    have nx' := nx N rfl
    have qb := z_cnt_b (zw_ms S n) q
    have e2 : z_cnt (zw_ms S n) (q + 1) = z_cnt (zw_ms S n) q + zv_b (zw_ms S n q) := rfl
    rw [e2] at nx'
    have fb := (hK (q : Int) (by omega) (by omega)).2
    have no : zw_ms S n q = false → z_G 0 (d + 1) z_m355 7 [z_R 13, z_I (z_w (zw_nx S n - z_cnt (zw_ms S n) q - 0)), z_I (z_w ((q : Int) + 1))] [] N Q := by
      intro e
      rw [e] at nx'
      have : zv_b false = 0 := rfl
      rw [this, Int.add_zero] at nx'
      rw [z_wq (by omega), z_w_id (by omega) (by omega), Int.sub_zero]
      exact nx'
    refine rg_355_7 d ⟨fun c => absurd c (by omega), fun _ => ⟨by omega, by omega, ?_⟩⟩
    rw [hB.1 q hq]
    refine ⟨fun c => no (by unfold zw_ms; exact decide_eq_false (fun z => z.1 c)), fun c => ⟨by omega, by omega, km_sold d hS hT en hB (z_viI ?_)⟩⟩
    rw [z_fn hS 101116 rfl, z_w_id (x := zw_nx S n - 1) (by omega) (by omega)]
    refine km_lies d (fun c2 c3 => z_y1 ?_) (fun c2 => z_n1 (no (by unfold zw_ms; exact decide_eq_false (fun z => by have := z.2; omega))))
    have e : zw_ms S n q = true := by unfold zw_ms; exact decide_eq_true ⟨c, c2, by omega⟩
    rw [e] at nx'
    have : zv_b true = 1 := rfl
    rw [this] at nx'
    rw [z_wq (by omega), z_w_id (by omega) (by omega)]
    rw [show zw_nx S n - (z_cnt (zw_ms S n) q + 1) = zw_nx S n - z_cnt (zw_ms S n) q - 1 from by omega] at nx'
    exact nx'
  · subst hN
    exact rg_355_7 d ⟨fun _ => h, fun c => absurd c (by decide)⟩
def zw_o30v (S : z_M) (n : Nat) (a : Int) : Int := if a = 0 then zw_nx S n else if a = 1 then zw_rows S n else if a = 2 then zw_nx S n - z_cnt (zw_ms S n) 10 else zw_ab S n (a - 10).toNat
def z_o30 (S : z_M) (a : Int) : Int := if (0 ≤ a ∧ a ≤ 2) ∨ (10 ≤ a ∧ z_tl S (a - 10)) then zw_o30v S (S 13 81).toNat a else -1
theorem kc_tickets (d : Nat) {a : Int} (ia : z_i32 a) (hS : z_sit S M) (hI : z_IS S) (hT : z_ITr S) (hK : z_ITk S) (h : ∀ M' : z_M, z_sit S M' → Q (z_I (z_o30 S a)) M') : z_Cl 0 (d + 3) 197 [z_R 1, z_I a] M Q := by
  have en : (((S 13 81).toNat : Nat) : Int) = S 13 81 := by have := hT.2.1; omega
  have i1 := ia.1
  have i2 := ia.2
  unfold z_o30 at h
  have less : ∀ K : z_V → z_M → Prop, (10 ≤ a → K (z_I (a - 10)) M) → (a < 10 → K (z_I (-1)) M) → z_Cl 0 (d + 2) 215 [z_I a, z_I 10] M K := by
    intro K k1 k2
    refine re_215 (d + 2) ⟨fun c => ?_, fun c => k2 c⟩
    rw [z_w_id (by omega) (by omega)]; exact k1 c
  refine re_197 (d + 2) (less _ (fun c10 => z_viI (kc_isTold (d + 1) hS hI.1 (fun hp => z_viI ?_) (fun hp => z_viI ?_))) (fun c10 => z_viI (kc_isTold (d + 1) hS hI.1 (fun hp => absurd hp.1 (by decide)) (fun hp => z_viI ?_))))
  · refine ⟨fun c => absurd c (by omega), fun _ => ⟨fun c => absurd c (by omega), fun _ => ⟨fun _ => ?_, fun c => absurd c (by decide)⟩⟩⟩
    refine kc_board d hS hI hT (fun N hN hB => ⟨fun c => absurd c (by decide), fun _ => re_45 (d + 2) ?_⟩)
    have := hp.2.1
    rw [z_w_id (x := a - 10) (by omega) (by omega)]
    refine ⟨by omega, by omega, z_viI ?_⟩
    have e := hB.1 (a - 10).toNat (by omega)
    rw [show (((a - 10).toNat : Nat) : Int) = a - 10 from by omega] at e
    rw [e]
    have h0 := h N hN
    rw [if_pos (Or.inr ⟨c10, hp⟩)] at h0
    unfold zw_o30v at h0
    rw [if_neg (by omega), if_neg (by omega), if_neg (by omega)] at h0
    exact h0
  · have h0 := h M hS
    rw [if_neg (fun z => z.elim (fun y => by omega) (fun y => hp y.2))] at h0
    exact ⟨fun c => absurd c (by omega), fun _ => ⟨fun c => absurd c (by omega), fun _ => ⟨fun c => absurd rfl c, fun _ => h0⟩⟩⟩
  · have no : ¬ (0 ≤ a ∧ a ≤ 2) → Q (z_I (-1)) M := fun c => by
      have h0 := h M hS
      rw [if_neg (fun z => z.elim c (fun y => by omega))] at h0; exact h0
    refine ⟨fun c => ⟨fun c2 => absurd rfl c2, fun _ => no (by omega)⟩, fun c => ⟨fun c2 => ?_, fun c2 => ⟨fun c3 => absurd rfl c3, fun _ => no (by omega)⟩⟩⟩
    refine kc_board d hS hI hT (fun N hN hB => ⟨fun _ => ?_, fun c3 => absurd rfl c3⟩)
    have h0 := h N hN
    rw [if_pos (Or.inl ⟨c, c2⟩)] at h0
    unfold zw_o30v at h0
    refine ⟨fun c3 => ⟨fun c4 => kc_missing (d + 1) hN hT hK en hB (z_viI ?_), fun c4 => kc_rows (d + 1) hN hT hK en hB (z_viI ?_)⟩, fun c3 => kc_sold (d + 2) hN hT en hB (z_viI ?_)⟩
    · rw [if_neg c3, if_neg c4, if_pos (by omega)] at h0; exact h0
    · rw [if_neg c3, if_pos c4] at h0; exact h0
    · rw [if_pos c3] at h0; exact h0
theorem km_tickets (d : Nat) {a : Int} (ia : z_i32 a) (hS : z_sit S M) (hI : z_IS S) (hT : z_ITr S) (hK : z_ITk S) (h : ∀ M' : z_M, z_sit S M' → Q (z_I (z_o30 S a)) M') : z_Cl 0 (d + 3) 356 [z_R 13, z_I a] M Q := by
  have en : (((S 13 81).toNat : Nat) : Int) = S 13 81 := by have := hT.2.1; omega
  have i1 := ia.1
  have i2 := ia.2
  unfold z_o30 at h
  refine re_356 (d + 2) (km_lies (d + 2) (fun c c2 => z_y2 ?_) (fun c => z_n2 ?_))
  · refine km_boards d hS hI hT (fun N hN hB => ?_)
    have h0 := h N hN
    rw [if_pos (Or.inl ⟨c, c2⟩)] at h0
    unfold zw_o30v at h0
    refine ⟨fun c3 => ⟨fun c4 => ⟨fun c5 => absurd c5 (by omega), fun c5 => km_missing (d + 1) hN hT hK en hB (z_viI ?_)⟩, fun c4 => km_ticketRows (d + 1) hN hT hK en hB (z_viI ?_)⟩, fun c3 => km_sold (d + 2) hN hT en hB (z_viI ?_)⟩
    · rw [if_neg c3, if_neg c4, if_pos c5] at h0; exact h0
    · rw [if_neg c3, if_pos c4] at h0; exact h0
    · rw [if_pos c3] at h0; exact h0
  · have small : ∀ hz : z_tl S (z_w (a - 10)), 10 ≤ a ∧ z_w (a - 10) = a - 10 := by
      intro hz
      have z0 := hz.1
      have z1 := hz.2.1
      by_cases c3 : -2147483638 ≤ a
      · have e := z_w_id (x := a - 10) (by omega) (by omega)
        rw [e] at z0; exact ⟨by omega, e⟩
      · have e : z_w (a - 10) = a - 10 + 4294967296 := by
          unfold z_w
          rw [Int.bmod_def]
          split <;> omega
        omega
    refine km_isTold (d + 1) hS hI.1 (fun hp => z_y2 ?_) (fun hp => z_n2 ?_)
    · obtain ⟨c10, ew⟩ := small hp
      rw [ew] at hp
      have := hp.2.1
      refine km_boards d hS hI hT (fun N hN hB => ⟨fun _ => ⟨fun _ => ⟨fun _ => ?_, fun c5 => absurd c5 (by omega)⟩, fun c4 => absurd c4 (by omega)⟩, fun c3 => absurd c3 (by omega)⟩)
      rw [ew]
      have e := hB.1 (a - 10).toNat (by omega)
      rw [show (((a - 10).toNat : Nat) : Int) = a - 10 from by omega] at e
      rw [e]
      have h0 := h N hN
      rw [if_pos (Or.inr ⟨c10, hp⟩)] at h0
      unfold zw_o30v at h0
      rw [if_neg (by omega), if_neg (by omega), if_neg (by omega)] at h0
      exact ⟨by omega, by omega, h0⟩
    · have h0 := h M hS
      have hneg : 10 ≤ a → ¬ z_tl S (a - 10) := by
        intro g y
        have := y.2.1
        refine hp ?_
        rw [z_w_id (x := a - 10) (by omega) (by omega)]; exact y
      rw [if_neg (fun z => z.elim (fun y => by omega) (fun y => hneg y.1 y.2))] at h0
      exact h0
/-- the first with whom the ticket was found -/
def zw_fw (S : z_M) (t : Int) : Nat → Int
  | 0 => -1
  | p + 1 => if zw_fw S t p = -1 ∧ S 101116 (p : Int) = t then (p : Int) else zw_fw S t p
def zw_hb (S : z_M) (n : Nat) (t : Int) (p : Nat) : Bool := decide (zw_ab S n p ≠ -2 ∧ S 101116 (p : Int) = -1 ∧ zw_nx S (zw_ab S n p).toNat ≤ t ∧ t < zw_nx S ((zw_ab S n p).toNat + 1))
theorem zw_fw_st {t : Int} {p : Nat} (h : zw_fw S t p ≠ -1) (m : Nat) : zw_fw S t (p + m) = zw_fw S t p := by
  induction m with
  | zero => rfl
  | succ m ih =>
    show (if zw_fw S t (p + m) = -1 ∧ _ then _ else zw_fw S t (p + m)) = _
    rw [if_neg (fun z => h (ih ▸ z.1)), ih]
def z_o31 (S : z_M) (t : Int) : Int := if 0 ≤ t ∧ t < zw_nx S (S 13 81).toNat then (if zw_rows S (S 13 81).toNat = 0 then 0 else if zw_fw S t 10 ≠ -1 then z_shl 1 (zw_fw S t 10) else (z_bs 10 (zw_hb S (S 13 81).toNat t) : Int)) else -1
theorem kc_mayHave (d : Nat) {t : Int} (hS : z_sit S M) (hI : z_IS S) (hT : z_ITr S) (hK : z_ITk S) (h : ∀ M' : z_M, z_sit S M' → Q (z_I (z_o31 S t)) M') : z_Cl 0 (d + 3) 198 [z_R 1, z_I t] M Q := by
  have en : (((S 13 81).toNat : Nat) : Int) = S 13 81 := by have := hT.2.1; omega
  have t3 := hT.2.2.1
  unfold z_o31 at h
  generalize hn : (S 13 81).toNat = n at *
  refine re_198 (d + 2) (kc_board d hS hI hT (fun N hN hB => ?_))
  rw [hn] at hB
  have h0 := h N hN
  refine ⟨fun c => ?_, fun c => kc_sold (d + 2) hN hT en hB (z_viI ⟨fun c2 => ?_, fun c2 => re_53 (d + 1) (kc_rows d hN hT hK en hB (z_viI ⟨fun c3 => ?_, fun c3 => ?_⟩))⟩)⟩
  · rw [if_neg (by omega)] at h0; exact h0
  · rw [if_neg (by omega)] at h0; exact h0
  · rw [if_pos ⟨c, c2⟩, if_neg c3] at h0
    -- the stops
    have stops : zw_fw S t 10 = -1 → z_G 0 (d + 2) z_m53 39 [z_R 11, z_I t, z_I 0] [] N (fun v3 M3 => z_vi v3 fun x3 => Q (z_I x3) M3) := by
      intro hf
      rw [if_neg (fun z => z hf)] at h0
      have := z_lpi (n := n) (fun _ => ()) (fun k N' => N' = N ∧ zw_nx S k ≤ t) (fun N' _ k => z_G 0 (d + 2) z_m53 39 [z_R 11, z_I t, z_I k] [] N' (fun v3 M3 => z_vi v3 fun x3 => Q (z_I x3) M3)) N ⟨rfl, ?_⟩ (fun k N' hk hI' nx => ?_) (fun N' hI' => ?_)
      · exact this
      · have e0 : zw_nx S 0 = 0 := (z_cnt_cg (P' := fun _ => false) 10 (fun j _ => rfl)).trans rfl
        rw [e0]; exact c
      · obtain ⟨rfl, hk2⟩ := hI'
        refine rg_53_39 (d + 1) ⟨fun c4 => ?_, fun _ => kc_isOfStop (S := S) (n := n) (d + 1) (by omega) hB.2 (by omega) (fun a b e => z_y1 (kc_withoutTicket (d + 1) hN hK hB.1 (z_viI (z_viI ?_)))) (fun e => z_n1 ?_)⟩
        · rw [z_ff hN 11 5 rfl, hT.1, ← en] at c4; exact absurd c4 (by omega)
        · rw [show ((k : Int)).toNat = k from by omega] at b e
          have : z_bs 10 (zw_wo S n (k : Int)) = z_bs 10 (zw_hb S n t) := by
            refine z_bs_ext (fun p hp => ?_)
            unfold zw_wo zw_hb
            apply decide_eq_decide.mpr
            constructor
            · rintro ⟨z1, z2⟩
              rw [z1, show ((k : Int)).toNat = k from by omega]
              exact ⟨by omega, z2, b, e⟩
            · rintro ⟨z1, z2, z3, z4⟩
              refine ⟨?_, z2⟩
              have ac := zw_ab_c S n p
              generalize zw_ab S n p = x at *
              by_cases g1 : x.toNat + 1 ≤ k
              · have := zw_nx_mono S g1
                omega
              · by_cases g2 : k + 1 ≤ x.toNat
                · have := zw_nx_mono S g2
                  omega
                · omega
          rw [this]; exact h0
        · rw [z_wq (by omega)]
          rw [show ((k : Int)).toNat = k from by omega] at e
          exact nx N' ⟨rfl, by omega⟩
      · obtain ⟨rfl, hk2⟩ := hI'
        exact absurd c2 (by omega)
    have := z_lpi (n := 10) (fun _ => ()) (fun q N' => N' = N ∧ zw_fw S t q = -1) (fun N' _ q => z_G 0 (d + 2) z_m53 11 [z_R 11, z_I t, z_I q] [] N' (fun v3 M3 => z_vi v3 fun x3 => Q (z_I x3) M3)) N ⟨rfl, rfl⟩ (fun q N' hq hI' nx => ?_) (fun N' hI' => ?_)
    · exact this
    · obtain ⟨rfl, hf⟩ := hI'
      have e2 : zw_fw S t (q + 1) = if zw_fw S t q = -1 ∧ S 101116 (q : Int) = t then (q : Int) else zw_fw S t q := rfl
      have tw := zw_tw hK (p := (q : Int)) (by omega) (by omega)
      refine rg_53_11 (d + 1) ⟨fun c4 => absurd c4 (by omega), fun _ => ⟨by omega, by omega, ?_⟩⟩
      rw [z_fn hN 101056 rfl]
      refine ⟨fun c4 => ?_, fun c4 => z_viI ?_⟩
      · rw [z_wq (by omega)]
        refine nx N' ⟨rfl, ?_⟩
        rw [e2, if_neg (fun z => c4 ?_), hf]
        rw [tw.2 (by omega)]; exact z.2
      · have ef : S 101116 (q : Int) = t := by
          have := tw.2 (fun z => by have := tw.1.mpr z; omega)
          omega
        rw [if_pos ⟨hf, ef⟩] at e2
        have := zw_fw_st (S := S) (t := t) (p := q + 1) (by rw [e2]; omega) (10 - (q + 1))
        rw [show q + 1 + (10 - (q + 1)) = 10 from by omega, e2] at this
        rw [this, if_pos (by omega)] at h0
        exact h0
    · obtain ⟨rfl, hf⟩ := hI'
      exact rg_53_11 (d + 1) ⟨fun _ => stops hf, fun c4 => absurd c4 (by decide)⟩
  · rw [if_pos ⟨c, c2⟩, if_pos c3] at h0
    exact z_viI h0
theorem km_mayHave (d : Nat) {t : Int} (hS : z_sit S M) (hI : z_IS S) (hT : z_ITr S) (hK : z_ITk S) (h : ∀ M' : z_M, z_sit S M' → Q (z_I (z_o31 S t)) M') : z_Cl 0 (d + 3) 357 [z_R 13, z_I t] M Q := by
  have en : (((S 13 81).toNat : Nat) : Int) = S 13 81 := by have := hT.2.1; omega
  have t3 := hT.2.2.1
  unfold z_o31 at h
  generalize hn : (S 13 81).toNat = n at *
  refine re_357 (d + 2) (km_boards d hS hI hT (fun N hN hB => ?_))
  rw [hn] at hB
  have h0 := h N hN
  have nb := zw_nx_b S n
  refine km_sold (d + 2) hN hT en hB (z_viI ?_)
  rw [z_w_id (x := zw_nx S n - 1) (by omega) (by omega)]
  refine km_lies (d + 2) (fun c c2 => z_y2 (km_ticketRows (d + 1) hN hT hK en hB (z_viI ⟨fun c3 => ?_, fun c3 => ?_⟩))) (fun c => z_n2 ?_)
  · rw [if_pos ⟨c, by omega⟩, if_neg c3] at h0
    refine z_lpi (n := 10) (fun q => (z_bs q (zw_hb S n t) : Int)) (fun q N' => N' = N ∧ zw_fw S t q = -1) (fun N' v q => z_G 0 (d + 3) z_m357 35 [z_R 13, z_I t, z_I v, z_I q] [] N' Q) N ⟨rfl, rfl⟩ (fun q N' hq hI' nx => ?_) (fun N' hI' => ?_)
    · obtain ⟨rfl, hf⟩ := hI'
      have e2 : zw_fw S t (q + 1) = if zw_fw S t q = -1 ∧ S 101116 (q : Int) = t then (q : Int) else zw_fw S t q := rfl
      have ac := zw_ab_c S n q
      have go : ¬ S 101116 (q : Int) = t → zw_hb S n t q = false → z_G 0 (d + 3) z_m357 35 [z_R 13, z_I t, z_I (z_bs q (zw_hb S n t) : Int), z_I (z_w ((q : Int) + 1))] [] N' Q := by
        intro c4 e
        rw [z_wq (by omega), z_bs_no e]
        exact nx N' ⟨rfl, by rw [e2, if_neg (fun z => c4 z.2), hf]⟩
      refine rg_357_35 (d + 2) ⟨fun c4 => absurd c4 (by omega), fun _ => ⟨by omega, by omega, ?_⟩⟩
      rw [z_fn hN 101116 rfl, hB.1 q hq]
      refine ⟨fun c4 => ⟨by omega, by omega, fun c5 => go c4 (by unfold zw_hb; exact decide_eq_false (fun z => z.1 c5)), fun c5 => ⟨by omega, by omega, fun c6 => go c4 (by unfold zw_hb; exact decide_eq_false (fun z => c6 z.2.1)), fun c6 => ⟨by omega, by omega, km_isOfStop (S := S) (n := n) (d + 2) (by omega) hB.2 (by omega) (by omega) (fun b e => z_y1 ?_) (fun e => z_n1 (go c4 (by unfold zw_hb; exact decide_eq_false (fun z => e z.2.2))))⟩⟩⟩, fun c4 => ?_⟩
      · rw [z_wq (by omega), z_bs_or (P := zw_hb S n t) (by omega) (by unfold zw_hb; exact decide_eq_true ⟨c5, c6, b, e⟩)]
        exact nx N' ⟨rfl, by rw [e2, if_neg (fun z => c4 z.2), hf]⟩
      · rw [if_pos ⟨hf, c4⟩] at e2
        have := zw_fw_st (S := S) (t := t) (p := q + 1) (by rw [e2]; omega) (10 - (q + 1))
        rw [show q + 1 + (10 - (q + 1)) = 10 from by omega, e2] at this
        rw [this, if_pos (by omega)] at h0
        exact h0
    · obtain ⟨rfl, hf⟩ := hI'
      rw [if_neg (fun z => z hf)] at h0
      exact rg_357_35 (d + 2) ⟨fun _ => h0, fun c4 => absurd c4 (by decide)⟩
  · rw [if_pos ⟨c, by omega⟩, if_pos c3] at h0; exact h0
  · rw [if_neg (by omega)] at h0; exact h0
end ZTIP
