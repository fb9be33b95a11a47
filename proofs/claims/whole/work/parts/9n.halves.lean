/-! OPS: halves, the model -/
section ZHA3
variable {S2 M : z_M} {Q : z_V → z_M → Prop} {B : Int → Int} {ap : Int} {n : Nat}
abbrev zx_tb (S2 : z_M) (B : Int → Int) (n : Nat) : Prop := ∀ j : Int, 0 ≤ j → j < 3 * (n : Int) → z_and (S2 2603064 j) 255 = B j
theorem zx_byt (d : Nat) {j : Int} (hN : z_sit S2 M) (hn : n ≤ 10) (ht : zx_tb S2 B n) (j0 : 0 ≤ j) (j1 : j < 3 * (n : Int)) (h : Q (z_I (B j)) M) : z_Cl 0 d 228 [z_R 13, z_I j] M Q := by
  refine re_228 d ?_
  rw [z_fn hN 2603064 rfl, ht j j0 j1]
  exact ⟨j0, by omega, h⟩
theorem zx_amt (d : Nat) {x : Int} (h0 : -1000 ≤ x) (h1 : x ≤ 1000) (h : Q (z_I (z_ab x)) M) : z_Cl 0 d 224 [z_I x] M Q := by
  unfold z_ab at h
  refine re_224 d ⟨fun c => ?_, fun c => ?_⟩
  · rw [if_pos c] at h; exact h
  · rw [if_neg (by omega)] at h; rw [z_w_id (by omega) (by omega)]; exact h
theorem km_areOne (d : Nat) {i j : Nat} (hN : z_sit S2 M) (hn : n ≤ 10) (ht : zx_tb S2 B n) (hb : zw_by3 B n) (hi : i < n) (hj : j < n) (e98 : M 13 98 = ap) (h : Q (z_I (zv_b (zw_ft B ap i j))) M) : z_Cl 0 (d + 2) 374 [z_R 13, z_I (i : Int), z_I (j : Int)] M Q := by
  have b1 := hb (3 * (i : Int) + 1) (by omega) (by omega)
  have b2 := hb (3 * (j : Int) + 1) (by omega) (by omega)
  have b3 := hb (3 * (i : Int) + 2) (by omega) (by omega)
  have b4 := hb (3 * (j : Int) + 2) (by omega) (by omega)
  have no : ¬ (B (3 * (i : Int)) ≠ B (3 * (j : Int)) ∧ z_ab (B (3 * (i : Int) + 1) - B (3 * (j : Int) + 1)) ≤ ap ∧ z_ab (B (3 * (i : Int) + 2) % 10 - B (3 * (j : Int) + 2) % 10) ≤ 1 ∧ z_ab (B (3 * (i : Int) + 2) / 10 - B (3 * (j : Int) + 2) / 10) ≤ 1) → Q (z_I 0) M := fun c => by
    unfold zw_ft at h
    rw [decide_eq_false c] at h; exact h
  refine re_374 (d + 1) ?_
  rw [z_w_id (x := 3 * (i : Int)) (by omega) (by omega), z_w_id (x := 3 * (j : Int)) (by omega) (by omega), z_w_id (x := 3 * (i : Int) + 1) (by omega) (by omega), z_w_id (x := 3 * (j : Int) + 1) (by omega) (by omega), z_w_id (x := 3 * (i : Int) + 2) (by omega) (by omega), z_w_id (x := 3 * (j : Int) + 2) (by omega) (by omega)]
  refine zx_byt (d + 1) hN hn ht (by omega) (by omega) (z_viI (zx_byt (d + 1) hN hn ht (by omega) (by omega) (z_viI ⟨fun c => no (fun z => z.1 c), fun c0 => ?_⟩)))
  refine zx_byt (d + 1) hN hn ht (by omega) (by omega) (z_viI (zx_byt (d + 1) hN hn ht (by omega) (by omega) (z_viI (re_238 d ?_))))
  rw [z_tm b3.1, z_tm b4.1, z_w_id (x := B (3 * (i : Int) + 2) % 10 - B (3 * (j : Int) + 2) % 10) (by omega) (by omega)]
  refine zx_amt d (by omega) (by omega) (z_viI (z_viI ⟨fun c => no (fun z => absurd z.2.2.1 (by omega)), fun c1 => ?_⟩))
  refine zx_byt (d + 1) hN hn ht (by omega) (by omega) (z_viI (zx_byt (d + 1) hN hn ht (by omega) (by omega) (z_viI (re_239 d ?_))))
  rw [z_td b3.1, z_td b4.1, z_w_id (x := B (3 * (i : Int) + 2) / 10) (by omega) (by omega), z_w_id (x := B (3 * (j : Int) + 2) / 10) (by omega) (by omega), z_w_id (x := B (3 * (i : Int) + 2) / 10 - B (3 * (j : Int) + 2) / 10) (by omega) (by omega)]
  refine zx_amt d (by omega) (by omega) (z_viI (z_viI ⟨fun c => no (fun z => absurd z.2.2.2 (by omega)), fun c2 => ?_⟩))
  refine zx_byt (d + 1) hN hn ht (by omega) (by omega) (z_viI (zx_byt (d + 1) hN hn ht (by omega) (by omega) (z_viI ?_)))
  rw [z_w_id (x := B (3 * (i : Int) + 1) - B (3 * (j : Int) + 1)) (by omega) (by omega)]
  refine zx_amt (d + 1) (by omega) (by omega) (z_viI ?_)
  rw [e98]
  refine ⟨fun c => no (fun z => absurd z.2.1 (by omega)), fun c3 => ?_⟩
  unfold zw_ft at h
  rw [decide_eq_true ⟨c0, c3, c1, c2⟩] at h; exact h
theorem zx_cnf {i u j : Nat} (h : ¬ (B (3 * (i : Int)) = 0 ∧ u.testBit j = false ∧ zw_ft B ap i j = true)) : zw_cn B ap i u j = false := by
  cases hx : zw_cn B ap i u j with
  | false => rfl
  | true =>
    unfold zw_cn at hx
    rw [Bool.and_eq_true, Bool.and_eq_true] at hx
    obtain ⟨h1, h2, h3⟩ := hx
    refine absurd ⟨of_decide_eq_true h1, ?_, h3⟩ h
    cases hy : u.testBit j with
    | false => rfl
    | true => rw [hy] at h2; cases h2
theorem zx_bit1 {u j : Nat} (hu : u < 1024) (hj : j < 10) : (z_and (z_shr (u : Int) (j : Int)) 1 = 1 ↔ u.testBit j = true) := by
  rw [z_bit_n (by omega) (by omega)]
  cases u.testBit j with
  | true => exact ⟨fun _ => rfl, fun _ => rfl⟩
  | false => exact ⟨fun c => absurd c (by decide), fun c => by cases c⟩
abbrev zx_sd (B : Int → Int) (n : Nat) : Prop := ∀ i : Nat, i < n → B (3 * (i : Int)) = 0 ∨ B (3 * (i : Int)) = 1
theorem km_canKiss (d : Nat) {i u j : Nat} (hN : z_sit S2 M) (hn : n ≤ 10) (ht : zx_tb S2 B n) (hb : zw_by3 B n) (hs : zx_sd B n) (hi : i < n) (i0 : B (3 * (i : Int)) = 0) (hu : u < 1024) (hj : j < 10) (e98 : M 13 98 = ap) (h : Q (z_I (zv_b (decide (j < n) && zw_cn B ap i u j))) M) : z_Cl 0 (d + 3) 376 [z_R 13, z_I (n : Int), z_I (i : Int), z_I (u : Int), z_I (j : Int)] M Q := by
  refine re_376 (d + 2) ⟨fun c => absurd c (by omega), fun _ => ⟨fun c => ?_, fun jn => ?_⟩⟩
  · rw [decide_eq_false (by omega), Bool.false_and] at h; exact h
  · have jn' : j < n := by omega
    rw [decide_eq_true jn', Bool.true_and] at h
    have no : zw_cn B ap i u j = false → Q (z_I 0) M := fun c => by rw [c] at h; exact h
    rw [z_w_id (x := 3 * (j : Int)) (by omega) (by omega)]
    refine zx_byt (d + 2) hN hn ht (by omega) (by omega) (z_viI ⟨fun c => no (zx_cnf (fun z => ?_)), fun c1 => re_223 (d + 2) ⟨fun cb => z_n2 ?_, fun cb => z_y2 (no (zx_cnf (fun z => ?_)))⟩⟩)
    · have h2 := of_decide_eq_true z.2.2
      have := hs j jn'
      omega
    · have hbf : u.testBit j = false := by
        cases hx : u.testBit j with
        | false => rfl
        | true => exact absurd ((zx_bit1 hu hj).mpr hx) cb
      refine km_areOne d hN hn ht hb hi jn' e98 (z_viI ?_)
      cases hf : zw_ft B ap i j with
      | true =>
        have : zw_cn B ap i u j = true := by unfold zw_cn; rw [hf, hbf, decide_eq_true i0]; rfl
        rw [this] at h
        exact ⟨fun c => absurd (show zv_b true = 0 from c) (by decide), fun _ => h⟩
      | false => exact ⟨fun _ => no (zx_cnf (fun z => by rw [hf] at z; cases z.2.2)), fun c => absurd rfl c⟩
    · rw [(zx_bit1 hu hj).mp cb] at z; cases z.2.1
/-- the table, all rows from one on -/
def zx_tg (B : Int → Int) (ap : Int) (n : Nat) (N : z_M) (k : Nat) : Prop := ∀ i v : Nat, k ≤ i → i ≤ n → v < 2 ^ n → N 112641127 (1024 * (i : Int) + (v : Int)) = zw_kf B ap n (n - i) i v
def zx_tr (B : Int → Int) (ap : Int) (n : Nat) (N : z_M) (i u : Nat) : Prop := ∀ v : Nat, v < u → N 112641127 (1024 * (i : Int) + (v : Int)) = zw_kf B ap n (n - i) i v
theorem km_laysKisses (d : Nat) (hN : z_sit S2 M) (hn : n ≤ 10) (ht : zx_tb S2 B n) (hb : zw_by3 B n) (hs : zx_sd B n) (e98 : M 13 98 = ap) (h : ∀ N : z_M, z_sit S2 N → N 13 98 = ap → zx_tg B ap n N 0 → Q z_U N) : z_Cl 0 (d + 4) 377 [z_R 13, z_I (n : Int)] M Q := by
  have p2 : 2 ^ n ≤ 2 ^ 10 := Nat.pow_le_pow_right (by decide) hn
  have p3 : (2 : Nat) ^ 10 = 1024 := by decide
  have p1 : 0 < 2 ^ n := Nat.two_pow_pos n
  refine re_377 (d + 3) ?_
  have key : ∀ (k : Nat) (N : z_M), k ≤ n + 1 → z_sit S2 N → N 13 98 = ap → zx_tg B ap n N k → z_G 0 (d + 4) z_m377 2 [z_R 13, z_I (n : Int), z_I ((k : Int) - 1), z_U, z_U, z_U] [] N Q := by
    intro k
    induction k with
    | zero => intro N _ hN eN hg; exact rg_377_2 (d + 3) ⟨fun _ => h N hN eN hg, fun c => absurd c (by omega)⟩
    | succ i ih =>
      intro N hi hN eN hg
      have ei : ((i + 1 : Nat) : Int) - 1 = (i : Int) := by omega
      rw [ei]
      refine rg_377_2 (d + 3) ⟨fun c => absurd c (by omega), fun _ => ?_⟩
      refine z_lpi (n := 2 ^ n) (fun _ => ()) (fun u N => z_sit S2 N ∧ N 13 98 = ap ∧ zx_tg B ap n N (i + 1) ∧ zx_tr B ap n N i u) (fun N _ u => z_G 0 (d + 4) z_m377 8 [z_R 13, z_I (n : Int), z_I (i : Int), z_I u, z_U, z_U] [] N Q) N ⟨hN, eN, hg, fun v hv => absurd hv (Nat.not_lt_zero v)⟩ (fun u N hu hI nx => ?_) (fun N hI => ?_)
      · obtain ⟨hN, eN, hg, hr⟩ := hI
        have hu10 : u < 1024 := by omega
        -- to write the row's next
        have wr : ∀ (N' : z_M) (x : Int), z_sit S2 N' → N' 13 98 = ap → zx_tg B ap n N' (i + 1) → zx_tr B ap n N' i u → z_sit S2 (z_up N' 112641127 (1024 * (i : Int) + (u : Int)) x) ∧ (z_up N' 112641127 (1024 * (i : Int) + (u : Int)) x) 13 98 = ap ∧ zx_tg B ap n (z_up N' 112641127 (1024 * (i : Int) + (u : Int)) x) (i + 1) ∧ zx_tr B ap n (z_up N' 112641127 (1024 * (i : Int) + (u : Int)) x) i u := by
          intro N' x a b c e
          refine ⟨z_at_up a _ _ _ rfl rfl, by rw [z_up_ne (by decide)]; exact b, fun i' v h1 h2 h3 => ?_, fun v hv => ?_⟩
          · rw [z_up_nj (by omega)]; exact c i' v h1 h2 h3
          · rw [z_up_nj (by omega)]; exact e v hv
        have fin : ∀ (N' : z_M), z_sit S2 N' → N' 13 98 = ap → zx_tg B ap n N' (i + 1) → zx_tr B ap n N' i u → N' 112641127 (1024 * (i : Int) + (u : Int)) = zw_kf B ap n (n - i) i u → z_G 0 (d + 4) z_m377 8 [z_R 13, z_I (n : Int), z_I (i : Int), z_I ((u + 1 : Nat) : Int), z_U, z_U] [] N' Q := by
          intro N' a b c e f
          refine nx N' ⟨a, b, c, fun v hv => ?_⟩
          by_cases e1 : v = u
          · rw [e1]; exact f
          · exact e v (by omega)
        refine rg_377_8 (d + 3) ?_
        rw [z_shl1_n (by omega), z_w_id (x := 1024 * (i : Int)) (by omega) (by omega), z_w_id (x := 1024 * (i : Int) + (u : Int)) (by omega) (by omega), z_wq (q := u) (by omega), z_wq (q := i) (by omega), z_w_id (x := 1024 * ((i + 1 : Nat) : Int)) (by omega) (by omega), z_w_id (x := 1024 * ((i + 1 : Nat) : Int) + (u : Int)) (by omega) (by omega)]
        obtain ⟨w1, w2, w3, w4⟩ := wr N 0 hN eN hg hr
        refine ⟨fun c => absurd c (by omega), fun _ => ⟨by omega, by omega, fun cn => ?_, fun ce => ?_⟩⟩
        · have hin : i < n := by omega
          rw [z_w_id (x := 3 * (i : Int)) (by omega) (by omega)]
          refine zx_byt (d + 3) w1 hn ht (by omega) (by omega) (z_viI ⟨fun c1 => ?_, fun c1 => ⟨by omega, by omega, by omega, by omega, ?_⟩⟩)
          · have i0 : B (3 * (i : Int)) = 0 := by have := hs i hin; omega
            have gb := zw_kf_b (B := B) (ap := ap) (n := n) (n - i - 1) (i + 1)
            have ekf : zw_kf B ap n (n - i) i u = zw_km B ap (zw_kf B ap n (n - i - 1) (i + 1)) i u n := by
              rw [show n - i = (n - i - 1) + 1 from by omega]; rfl
            have eg : ∀ (N' : z_M) (v : Nat), zx_tg B ap n N' (i + 1) → v < 2 ^ n → N' 112641127 (1024 * ((i + 1 : Nat) : Int) + (v : Int)) = zw_kf B ap n (n - i - 1) (i + 1) v := by
              intro N' v c hv
              have := c (i + 1) v (by omega) (by omega) hv
              rw [this, show n - (i + 1) = n - i - 1 from by omega]
            refine z_lpi (n := 10) (fun _ => ()) (fun j N' => z_sit S2 N' ∧ N' 13 98 = ap ∧ zx_tg B ap n N' (i + 1) ∧ zx_tr B ap n N' i u ∧ N' 112641127 (1024 * (i : Int) + (u : Int)) = zw_kn B ap (zw_kf B ap n (n - i - 1) (i + 1)) i u (min j n)) (fun N' _ j => z_G 0 (d + 4) z_m377 78 [z_R 13, z_I (n : Int), z_I (i : Int), z_I (u : Int), z_I (1024 * (i : Int) + (u : Int)), z_I j] [] N' Q) _ ⟨w1, w2, w3, w4, by rw [z_up_eq, Nat.zero_min]; rfl⟩ (fun j N' hj hI nx2 => ?_) (fun N' hI => ?_)
            · obtain ⟨a, b, c, e, f⟩ := hI
              have skip : (decide (j < n) && zw_cn B ap i u j) = false → z_G 0 (d + 4) z_m377 78 [z_R 13, z_I (n : Int), z_I (i : Int), z_I (u : Int), z_I (1024 * (i : Int) + (u : Int)), z_I (z_w ((j : Int) + 1))] [] N' Q := by
                intro hx
                rw [z_wq (by omega)]
                refine nx2 N' ⟨a, b, c, e, ?_⟩
                rw [f]
                by_cases jn : j < n
                · rw [decide_eq_true jn, Bool.true_and] at hx
                  rw [show min j n = j from by omega, show min (j + 1) n = j + 1 from by omega]
                  show _ = if zw_cn B ap i u j = true then _ else _
                  rw [if_neg (by rw [hx]; decide)]
                · rw [show min j n = n from by omega, show min (j + 1) n = n from by omega]
              refine rg_377_78 (d + 3) ⟨fun c => absurd c (by omega), fun _ => km_canKiss d a hn ht hb hs hin i0 hu10 hj b (z_viI ?_)⟩
              cases hx : (decide (j < n) && zw_cn B ap i u j) with
              | false => exact ⟨fun _ => skip hx, fun c => absurd rfl c⟩
              | true =>
                refine ⟨fun c => absurd (show zv_b true = 0 from c) (by decide), fun _ => ?_⟩
                have hx2 := (Bool.and_eq_true _ _).mp hx
                have jn : j < n := of_decide_eq_true hx2.1
                obtain ⟨eo, ob⟩ := zw_orb (u := u) (j := j) hu10 (by omega)
                have ob2 : (u ||| 2 ^ j) < 2 ^ n := Nat.or_lt_two_pow hu (Nat.pow_lt_pow_right (by decide) jn)
                have k1 := gb (u ||| 2 ^ j)
                have kb : ∀ (K : z_V → z_M → Prop), K (z_I (1 + zw_kf B ap n (n - i - 1) (i + 1) (u ||| 2 ^ j))) N' → z_Cl 0 (d + 3) 375 [z_R 13, z_I (i : Int), z_I (u : Int), z_I (j : Int)] N' K := by
                  intro K hK
                  refine re_375 (d + 3) ⟨fun _ => ?_, fun c => absurd c (by omega)⟩
                  rw [eo, z_wq (by omega), z_w_id (x := 1024 * ((i + 1 : Nat) : Int)) (by omega) (by omega), z_w_id (x := 1024 * ((i + 1 : Nat) : Int) + ((u ||| 2 ^ j : Nat) : Int)) (by omega) (by omega), eg N' _ c ob2, z_w_id (by omega) (by omega)]
                  exact ⟨by omega, by omega, hK⟩
                have ev : zw_kn B ap (zw_kf B ap n (n - i - 1) (i + 1)) i u (min (j + 1) n) = z_max (N' 112641127 (1024 * (i : Int) + (u : Int))) (1 + zw_kf B ap n (n - i - 1) (i + 1) (u ||| 2 ^ j)) := by
                  rw [f, show min j n = j from by omega, show min (j + 1) n = j + 1 from by omega]
                  show (if zw_cn B ap i u j = true then _ else _) = _
                  rw [if_pos hx2.2]
                unfold z_max at ev
                refine kb _ (z_viI ⟨by omega, by omega, fun c2 => ?_, fun c2 => kb _ (z_viI ⟨by omega, by omega, ?_⟩)⟩)
                · rw [if_neg (by omega)] at ev
                  rw [z_wq (by omega)]
                  exact nx2 N' ⟨a, b, c, e, ev.symm⟩
                · rw [if_pos (by omega)] at ev
                  obtain ⟨x1, x2, x3, x4⟩ := wr N' (1 + zw_kf B ap n (n - i - 1) (i + 1) (u ||| 2 ^ j)) a b c e
                  rw [z_wq (by omega)]
                  exact nx2 _ ⟨x1, x2, x3, x4, by rw [z_up_eq]; exact ev.symm⟩
            · obtain ⟨a, b, c, e, f⟩ := hI
              have f2 : N' 112641127 (1024 * (i : Int) + (u : Int)) = zw_kn B ap (zw_kf B ap n (n - i - 1) (i + 1)) i u n := by rw [f, show min 10 n = n from by omega]
              have k1 := gb u
              have kb : ∀ (K : z_V → z_M → Prop), K (z_I (zw_kf B ap n (n - i - 1) (i + 1) u)) N' → z_Cl 0 (d + 3) 375 [z_R 13, z_I (i : Int), z_I (u : Int), z_I ((10 : Nat) : Int)] N' K := by
                intro K hK
                refine re_375 (d + 3) ⟨fun c => absurd rfl c, fun _ => ?_⟩
                rw [z_wq (by omega), z_w_id (x := 1024 * ((i + 1 : Nat) : Int)) (by omega) (by omega), z_w_id (x := 1024 * ((i + 1 : Nat) : Int) + (u : Int)) (by omega) (by omega), eg N' u c hu]
                exact ⟨by omega, by omega, hK⟩
              have ev := zw_kn_km (B := B) (ap := ap) (g := zw_kf B ap n (n - i - 1) (i + 1)) (i := i) (u := u) k1.1 n
              rw [← f2, ← ekf] at ev
              unfold z_max at ev
              have e11 : z_w (((10 : Nat) : Int) + 1) = 11 := by decide
              refine rg_377_78 (d + 3) ⟨fun c => absurd c (by decide), fun _ => re_376 (d + 2) ⟨fun _ => z_viI ⟨fun c => absurd c (by decide), fun _ => ?_⟩, fun c => absurd rfl c⟩⟩
              rw [e11]
              refine kb _ (z_viI ⟨by omega, by omega, fun c2 => rg_377_78 (d + 3) ⟨fun _ => ?_, fun c3 => absurd c3 (by decide)⟩, fun c2 => kb _ (z_viI ⟨by omega, by omega, rg_377_78 (d + 3) ⟨fun _ => ?_, fun c3 => absurd c3 (by decide)⟩⟩)⟩)
              · rw [if_neg (by omega)] at ev
                rw [z_wq (by omega)]
                exact fin N' a b c e ev
              · rw [if_pos (by omega)] at ev
                obtain ⟨x1, x2, x3, x4⟩ := wr N' (zw_kf B ap n (n - i - 1) (i + 1) u) a b c e
                rw [z_wq (by omega)]
                exact fin _ x1 x2 x3 x4 (by rw [z_up_eq]; exact ev)
          · have e1 : (z_up N 112641127 (1024 * (i : Int) + (u : Int)) 0) 112641127 (1024 * ((i + 1 : Nat) : Int) + (u : Int)) = zw_kf B ap n (n - (i + 1)) (i + 1) u := w3 (i + 1) u (by omega) (by omega) hu
            obtain ⟨x1, x2, x3, x4⟩ := wr _ (zw_kf B ap n (n - (i + 1)) (i + 1) u) w1 w2 w3 w4
            rw [e1]
            refine fin _ x1 x2 x3 x4 ?_
            rw [z_up_eq, show n - i = (n - (i + 1)) + 1 from by omega]
            exact (zw_km_ne (by omega) n).symm
        · refine fin _ w1 w2 w3 w4 ?_
          have : n - i = 0 := by omega
          rw [z_up_eq, this]; rfl
      · obtain ⟨hN, eN, hg, hr⟩ := hI
        refine rg_377_8 (d + 3) ?_
        rw [z_shl1_n (by omega)]
        refine ⟨fun _ => ?_, fun c => absurd c (by omega)⟩
        rw [z_w_id (x := (i : Int) + -1) (by omega) (by omega)]
        refine ih N (by omega) hN eN (fun i' v h1 h2 h3 => ?_)
        by_cases e1 : i' = i
        · rw [e1]; exact hr v h3
        · exact hg i' v (by omega) h2 h3
  have := key (n + 1) M (by omega) hN e98 (fun i v h1 h2 _ => absurd h2 (by omega))
  rw [show ((n + 1 : Nat) : Int) - 1 = (n : Int) from by omega] at this
  exact this
end ZHA3
