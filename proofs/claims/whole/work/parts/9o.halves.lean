/-! OPS: halves, the model's answer -/
section ZHA4
variable {S S2 M : z_M} {Q : z_V → z_M → Prop} {B : Int → Int} {ap : Int} {n : Nat}
theorem km_laysPartners (d : Nat) (hN : z_sit S2 M) (hn : n ≤ 10) (ht : zx_tb S2 B n) (hb : zw_by3 B n) (hs : zx_sd B n) (e98 : M 13 98 = ap) (hg : zx_tg B ap n M 0) (h : ∀ N : z_M, z_sit S2 N → (∀ k : Nat, k < n → N 101128 (k : Int) = (zw_pr B ap n n).2 (k : Int)) → Q z_U N) : z_Cl 0 (d + 4) 378 [z_R 13, z_I (n : Int)] M Q := by
  refine re_378 (d + 3) ?_
  refine z_lpi (n := n) (fun _ => ()) (fun q N => z_sit S2 N ∧ N 13 = M 13 ∧ N 112641127 = M 112641127 ∧ ∀ k : Nat, k < q → N 101128 (k : Int) = 10) (fun N _ q => z_G 0 (d + 4) z_m378 2 [z_R 13, z_I (n : Int), z_I q, z_U, z_U] [] N Q) M ⟨hN, rfl, rfl, fun k hk => absurd hk (Nat.not_lt_zero k)⟩ (fun q N hq hI nx => ?_) (fun N hI => ?_)
  · obtain ⟨a, b, c, e⟩ := hI
    refine rg_378_2 (d + 3) ⟨fun c => absurd c (by omega), fun _ => ⟨by omega, by omega, ?_⟩⟩
    rw [z_wq (by omega)]
    refine nx _ ⟨z_at_up a _ _ _ rfl rfl, by rw [z_up_ne (by decide)]; exact b, by rw [z_up_ne (by decide)]; exact c, fun k hk => ?_⟩
    by_cases e1 : k = q
    · rw [e1, z_up_eq]
    · rw [z_up_nj (by omega)]; exact e k (by omega)
  · obtain ⟨a, b, c, e⟩ := hI
    refine rg_378_2 (d + 3) ⟨fun _ => ?_, fun c => absurd c (by omega)⟩
    refine z_lpi (n := n) (fun q => ((zw_pr B ap n q).1 : Int)) (fun q N => z_sit S2 N ∧ N 13 = M 13 ∧ N 112641127 = M 112641127 ∧ ∀ k : Nat, k < n → N 101128 (k : Int) = (zw_pr B ap n q).2 (k : Int)) (fun N v q => z_G 0 (d + 4) z_m378 25 [z_R 13, z_I (n : Int), z_I v, z_I q, z_U] [] N Q) N ⟨a, b, c, fun k hk => e k hk⟩ (fun i N hi hI' nx => ?_) (fun N hI' => ?_)
    · obtain ⟨a, b, c, e⟩ := hI'
      have hu := zw_pr_u (B := B) (ap := ap) hn i
      have h10 := zw_pr_10 (B := B) (ap := ap) (n := n) i i (by omega)
      obtain ⟨u, P, eP⟩ : ∃ u P, zw_pr B ap n i = (u, P) := ⟨_, _, rfl⟩
      rw [eP] at hu e h10
      rw [eP]
      dsimp only at hu e h10
      dsimp only
      have e98' : N 13 98 = ap := by rw [b]; exact e98
      have p2 : 2 ^ n ≤ 2 ^ 10 := Nat.pow_le_pow_right (by decide) hn
      have kb2 := zw_kf_b (B := B) (ap := ap) (n := n)
      have no : z_exn (zx_pg B ap n i u) n = false → z_G 0 (d + 4) z_m378 25 [z_R 13, z_I (n : Int), z_I (u : Int), z_I ((i + 1 : Nat) : Int), z_U] [] N Q := by
        intro hx
        have e2 := zw_pr_no eP hx
        have nx' := nx N ⟨a, b, c, by rw [e2]; exact e⟩
        rw [e2] at nx'; exact nx'
      refine rg_378_25 (d + 3) ⟨fun c => absurd c (by omega), fun _ => ?_⟩
      rw [z_w_id (x := 3 * (i : Int)) (by omega) (by omega), z_wq (by omega)]
      refine zx_byt (d + 3) a hn ht (by omega) (by omega) (z_viI ⟨fun c1 => ?_, fun c1 => no (z_exn_f.mpr (fun j _ => zx_pgf (fun z => by have := z.1; omega)))⟩)
      have i0 : B (3 * (i : Int)) = 0 := by have := hs i hi; omega
      have hub : u < 2 ^ n := by
        have : ∀ q, (zw_pr B ap n q).1 < 2 ^ n := by
          intro q
          induction q with
          | zero => exact Nat.two_pow_pos n
          | succ q ih =>
            unfold zw_pr
            split
            · next c => exact Nat.or_lt_two_pow ih (Nat.pow_lt_pow_right (by decide) c)
            · exact ih
        have := this i
        rw [eP] at this; exact this
      have ek : N 112641127 (1024 * (i : Int) + (u : Int)) = zw_kf B ap n (n - i) i u := by rw [c]; exact hg i u (by omega) (by omega) hub
      have ek2 : ∀ v : Nat, v < 2 ^ n → N 112641127 (1024 * ((i + 1 : Nat) : Int) + (v : Int)) = zw_kf B ap n (n - i - 1) (i + 1) v := by
        intro v hv
        have := hg (i + 1) v (by omega) (by omega) hv
        rw [c, this, show n - (i + 1) = n - i - 1 from by omega]
      have ekf : zw_kf B ap n (n - i) i u = zw_km B ap (zw_kf B ap n (n - i - 1) (i + 1)) i u n := by
        rw [show n - i = (n - i - 1) + 1 from by omega]; rfl
      have hin : (i : Int) + 1 < 100 := by omega
      refine z_lpi (n := 10) (fun _ => ()) (fun j N' => N' = N ∧ z_exn (zx_pg B ap n i u) (min j n) = false) (fun N' _ j => z_G 0 (d + 4) z_m378 47 [z_R 13, z_I (n : Int), z_I (u : Int), z_I (i : Int), z_I j] [] N' Q) N ⟨rfl, by rw [Nat.zero_min]; rfl⟩ (fun j N' hj hI2 nx2 => ?_) (fun N' hI2 => ?_)
      · obtain ⟨rfl, hx⟩ := hI2
        have skip : (j < n → zx_pg B ap n i u j = false) → z_G 0 (d + 4) z_m378 47 [z_R 13, z_I (n : Int), z_I (u : Int), z_I (i : Int), z_I (z_w ((j : Int) + 1))] [] N' Q := by
          intro hp
          rw [z_wq (by omega)]
          refine nx2 N' ⟨rfl, ?_⟩
          by_cases jn : j < n
          · rw [show min j n = j from by omega] at hx
            rw [show min (j + 1) n = j + 1 from by omega]
            exact zx_exs hx (hp jn)
          · rw [show min j n = n from by omega] at hx
            rw [show min (j + 1) n = n from by omega]; exact hx
        refine rg_378_47 (d + 3) (km_canKiss d a hn ht hb hs hi i0 hu hj e98' (z_viI ?_))
        cases hc : (decide (j < n) && zw_cn B ap i u j) with
        | false =>
          refine ⟨fun _ => skip (fun jn => ?_), fun c => absurd rfl c⟩
          rw [decide_eq_true jn, Bool.true_and] at hc
          unfold zx_pg
          rw [hc, Bool.false_and]
        | true =>
          refine ⟨fun c => absurd (show zv_b true = 0 from c) (by decide), fun _ => ?_⟩
          have hx2 := (Bool.and_eq_true _ _).mp hc
          have jn : j < n := of_decide_eq_true hx2.1
          obtain ⟨eo, ob⟩ := zw_orb (u := u) (j := j) hu (by omega)
          have ob2 : (u ||| 2 ^ j) < 2 ^ n := Nat.or_lt_two_pow hub (Nat.pow_lt_pow_right (by decide) jn)
          have k1 := kb2 (n - i - 1) (i + 1) (u ||| 2 ^ j)
          refine re_375 (d + 3) ⟨fun _ => ?_, fun c => absurd c (by omega)⟩
          rw [eo, z_wq (q := i) (by omega), z_w_id (x := 1024 * ((i + 1 : Nat) : Int)) (by omega) (by omega), z_w_id (x := 1024 * ((i + 1 : Nat) : Int) + ((u ||| 2 ^ j : Nat) : Int)) (by omega) (by omega), ek2 _ ob2, z_w_id (x := 1 + zw_kf B ap n (n - i - 1) (i + 1) (u ||| 2 ^ j)) (by omega) (by omega), z_w_id (x := 1024 * (i : Int)) (by omega) (by omega), z_w_id (x := 1024 * (i : Int) + (u : Int)) (by omega) (by omega)]
          refine ⟨by omega, by omega, z_viI ⟨by omega, by omega, ?_⟩⟩
          rw [ek]
          refine ⟨fun c2 => ⟨by omega, by omega, fun _ => ⟨by omega, by omega, ?_⟩, fun c3 => absurd c3 (by omega)⟩, fun c2 => skip (fun _ => ?_)⟩
          · rw [show min j n = j from by omega] at hx
            have hp : zx_pg B ap n i u j = true := by
              unfold zx_pg
              rw [hx2.2, decide_eq_true c2]; rfl
            have e2 := zw_pr_ye eP hx hp jn
            have nx' := nx (z_up (z_up N' 101128 (i : Int) (j : Int)) 101128 (j : Int) (i : Int)) ⟨z_at_up (z_at_up a _ _ _ rfl rfl) _ _ _ rfl rfl, by rw [z_up_ne (by decide), z_up_ne (by decide)]; exact b, by rw [z_up_ne (by decide), z_up_ne (by decide)]; exact c, fun k hk => ?_⟩
            · rw [e2] at nx'; exact nx'
            · rw [e2]
              show _ = if (k : Int) = (j : Int) then (i : Int) else if (k : Int) = (i : Int) then (j : Int) else P (k : Int)
              by_cases e1 : (k : Int) = (j : Int)
              · rw [if_pos e1, e1, z_up_eq]
              · rw [if_neg e1, z_up_nj e1]
                by_cases e3 : (k : Int) = (i : Int)
                · rw [if_pos e3, e3, z_up_eq]
                · rw [if_neg e3, z_up_nj e3]; exact e k hk
          · unfold zx_pg
            rw [decide_eq_false c2, Bool.and_false]
      · obtain ⟨rfl, hx⟩ := hI2
        rw [show min 10 n = n from by omega] at hx
        have k1 := kb2 (n - i - 1) (i + 1) u
        have hz : zw_kf B ap n (n - i - 1) (i + 1) u = zw_kf B ap n (n - i) i u := by
          rw [ekf]
          rcases zw_km_or (B := B) (ap := ap) (g := zw_kf B ap n (n - i - 1) (i + 1)) (i := i) (u := u) n with e1 | ⟨j, hj, h1, h2⟩
          · exact e1.symm
          · have := z_exn_f.mp hx j hj
            unfold zx_pg at this
            rw [h1, ekf, h2, decide_eq_true rfl] at this
            cases this
        refine rg_378_47 (d + 3) (re_376 (d + 2) ⟨fun _ => z_viI ⟨fun c => absurd c (by decide), fun _ => re_375 (d + 3) ⟨fun c => absurd rfl c, fun _ => ?_⟩⟩, fun c => absurd rfl c⟩)
        rw [z_wq (q := i) (by omega), z_w_id (x := 1024 * ((i + 1 : Nat) : Int)) (by omega) (by omega), z_w_id (x := 1024 * ((i + 1 : Nat) : Int) + (u : Int)) (by omega) (by omega), ek2 _ hub, z_w_id (x := 1024 * (i : Int)) (by omega) (by omega), z_w_id (x := 1024 * (i : Int) + (u : Int)) (by omega) (by omega)]
        refine ⟨by omega, by omega, z_viI ⟨by omega, by omega, ?_⟩⟩
        rw [ek]
        refine ⟨fun _ => ⟨by omega, by omega, fun c3 => absurd rfl c3, fun _ => ?_⟩, fun c2 => absurd hz c2⟩
        have e2 := zw_pr_no eP hx
        have nx' := nx (z_up N' 101128 (i : Int) 10) ⟨z_at_up a _ _ _ rfl rfl, by rw [z_up_ne (by decide)]; exact b, by rw [z_up_ne (by decide)]; exact c, fun k hk => ?_⟩
        · rw [e2] at nx'; exact nx'
        · rw [e2]
          by_cases e3 : k = i
          · rw [e3, z_up_eq]; exact (h10 i0).symm
          · rw [z_up_nj (by omega)]; exact e k hk
    · obtain ⟨a, b, c, e⟩ := hI'
      exact rg_378_25 (d + 3) ⟨fun _ => h N a e, fun c => absurd c (by omega)⟩
theorem km_halves (d : Nat) {n ap what : Int} (hS : z_sit S M) {z0 : Int} (hz : S 13 1 = z0) (hz0 : z0 ≤ 260) (hT : ∀ j : Int, 0 ≤ j → j < z0 → S 2601014 j = z_and (S 2603064 j) 255) (h1 : zx_h0 n ap z0 → ∀ N : z_M, z_sit (z_up S 13 1 0) N → Q (z_I (zx_hv (S 2601014) ap n.toNat what)) N) (h0 : ¬ zx_h0 n ap z0 → Q (z_I (-1)) M) : z_Cl 0 (d + 6) 379 [z_R 13, z_I n, z_I ap, z_I what] M Q := by
  refine re_379 (d + 5) (km_lies (d + 5) (fun n0 n1 => z_y1 (km_lies (d + 5) (fun a0 a1 => z_y1 ?_) (fun c => z_n1 (h0 (fun z => by have := z.2.1; omega))))) (fun c => z_n1 (h0 (fun z => by have := z.1; omega))))
  obtain ⟨m, rfl⟩ := Int.eq_ofNat_of_zero_le (a := n) (by omega)
  rw [z_w_id (x := 3 * (m : Int)) (by omega) (by omega), z_ff hS 13 1 rfl, hz]
  refine ⟨fun hsz => ?_, fun c => h0 (fun z => by have := z.2.2; omega)⟩
  have hh := h1 ⟨⟨n0, n1⟩, ⟨a0, a1⟩, hsz⟩
  rw [show ((m : Int)).toNat = m from by omega] at hh
  have hm : m ≤ 10 := by omega
  have hS2 := z_sit_13 hS 0
  have etp : (z_up S 13 1 0) 2603064 = S 2603064 := z_up_ne (by decide)
  generalize z_up S 13 1 0 = S2 at *
  have ht : zx_tb S2 (S 2601014) m := fun j j0 j1 => by rw [etp]; exact (hT j j0 (by omega)).symm
  have hb : zw_by3 (S 2601014) m := fun j j0 j1 => by rw [← ht j j0 j1, z_and255]; omega
  unfold zx_hv at hh
  refine z_lpi (n := m) (fun _ => ()) (fun q N => z_sit S2 N ∧ z_exn (fun q => !zx_hg (S 2601014) q) q = false) (fun N _ q => z_G 0 (d + 6) z_m379 44 [z_R 13, z_I (m : Int), z_I ap, z_I what, z_I q] [] N Q) _ ⟨hS2, rfl⟩ (fun q N hq hI nx => ?_) (fun N hI => ?_)
  · obtain ⟨hN, hx⟩ := hI
    have bad : zx_hg (S 2601014) q = false → Q (z_I (-2)) N := by
      intro e
      have := hh N hN
      rw [if_pos (z_exn_t.mpr ⟨q, hq, by show (!zx_hg (S 2601014) q) = true; rw [e]; rfl⟩)] at this
      exact this
    have b1 := hb (3 * (q : Int) + 1) (by omega) (by omega)
    have b2 := hb (3 * (q : Int) + 2) (by omega) (by omega)
    refine rg_379_44 (d + 5) ⟨fun c => absurd c (by omega), fun _ => ?_⟩
    rw [z_w_id (x := 3 * (q : Int)) (by omega) (by omega), z_w_id (x := 3 * (q : Int) + 1) (by omega) (by omega), z_w_id (x := 3 * (q : Int) + 2) (by omega) (by omega), z_wq (by omega)]
    refine zx_byt (d + 5) hN hm ht (by omega) (by omega) (z_viI ⟨fun c => bad (decide_eq_false (fun z => by omega)), fun c1 => ?_⟩)
    refine zx_byt (d + 5) hN hm ht (by omega) (by omega) (z_viI (km_isMinute (d + 4) (fun c2 c3 => z_y1 ?_) (fun c => z_n1 (bad (decide_eq_false (fun z => by omega))))))
    refine zx_byt (d + 5) hN hm ht (by omega) (by omega) (z_viI (km_isSpot (d + 4) (fun c4 c5 => z_y2 (nx N ⟨hN, zx_exs hx ?_⟩)) (fun c => z_n2 (bad (decide_eq_false (fun z => by omega))))))
    show (!zx_hg (S 2601014) q) = false
    unfold zx_hg
    rw [decide_eq_true ⟨c1, c3, c5⟩]; rfl
  · obtain ⟨hN, hx⟩ := hI
    have hs : zx_sd (S 2601014) m := by
      intro i hi
      have h2 := z_exn_f.mp hx i hi
      cases hy : zx_hg (S 2601014) i with
      | false =>
        have h3 : (!zx_hg (S 2601014) i) = false := h2
        rw [hy] at h3; cases h3
      | true =>
        have := (of_decide_eq_true hy).1
        have := hb (3 * (i : Int)) (by omega) (by omega)
        omega
    rw [hx, if_neg (by decide)] at hh
    refine rg_379_44 (d + 5) ⟨fun _ => ⟨fun c => ?_, fun c => ?_⟩, fun c => absurd c (by omega)⟩
    · refine km_laysKisses (d + 1) (z_at_up hN 13 _ _ rfl rfl) hm ht hb hs z_up_eq (fun N2 hN2 e2 hg => ⟨fun c2 => absurd c c2, fun _ => ⟨by decide, by decide, ?_⟩⟩)
      have e3 := hg 0 0 (by omega) (by omega) (Nat.two_pow_pos m)
      have h3 := hh N2 hN2
      rw [if_pos c] at h3
      have e4 : (1024 * ((0 : Nat) : Int) + ((0 : Nat) : Int)) = 0 := by decide
      rw [e4] at e3
      rw [e3]; exact h3
    · rw [z_w_id (x := (m : Int) - 1) (by omega) (by omega)]
      refine km_lies (d + 5) (fun b0 b1 => z_viI ⟨fun _ => ?_, fun c2 => absurd c2 (by decide)⟩) (fun b => z_viI ⟨fun c2 => absurd rfl c2, fun _ => ?_⟩)
      · refine km_laysKisses (d + 1) (z_at_up hN 13 _ _ rfl rfl) hm ht hb hs z_up_eq (fun N2 hN2 e2 hg => ⟨fun _ => km_laysPartners (d + 1) hN2 hm ht hb hs e2 hg (fun N3 hN3 e3 => ⟨by omega, by omega, ?_⟩), fun c2 => absurd c2 c⟩)
        have h3 := hh N3 hN3
        rw [if_neg c, if_pos (by omega)] at h3
        obtain ⟨k, rfl⟩ := Int.eq_ofNat_of_zero_le b0
        rw [e3 k (by omega)]; exact h3
      · have h3 := hh N hN
        rw [if_neg c, if_neg (by omega)] at h3
        exact h3
end ZHA4
