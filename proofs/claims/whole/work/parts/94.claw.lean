/-! THE CLASS'S LAW: run, reckon -/
def z_wo (k x y : Int) : Int :=
  if k = 5 then (if x < y then 1 else 0) else if k = 6 then (if y < x then 1 else 0) else if k = 7 then (if x = y then 1 else 0)
  else if k = 8 then z_w (x + y) else if k = 9 then z_w (x - y) else if k = 10 then z_w (x * y)
  else if k = 11 then z_w (Int.tdiv x y) else Int.tmod x y
def z_rn (od nm : Int → Int) (to : Int) : Nat → Int → List Int → Option Int
  | 0, _, _ => none
  | f + 1, i, s =>
    if to ≤ i then (match s with
      | [v] => some v
      | _ => none)
    else if i < 0 ∨ 240 ≤ i ∨ od i < 0 ∨ 2147483648 ≤ od i ∨ 240 ≤ ((s.length : Nat) : Int) then none
    else if od i % 16 = 0 then z_rn od nm to f (i + 1) (od i / 16 :: s)
    else if od i % 16 = 1 then (if od i / 16 < 6 then z_rn od nm to f (i + 1) (nm (od i / 16) :: s) else none)
    else match s with
      | [] => none
      | y :: r =>
        if od i % 16 = 4 then z_rn od nm to f (i + 1) (z_w (1 - y) :: r)
        else if od i % 16 = 3 then (if y = 0 then z_rn od nm to f (i + 1) r else if od i / 16 ≤ i then none else z_rn od nm to f (od i / 16) (y :: r))
        else if od i % 16 = 2 then (if y = 0 then (if od i / 16 ≤ i then none else z_rn od nm to f (od i / 16) (y :: r)) else z_rn od nm to f (i + 1) r)
        else match r with
          | [] => none
          | x :: q => if 12 < od i % 16 then none else if y = 0 ∧ (od i % 16 = 11 ∨ od i % 16 = 12) then some 0 else z_rn od nm to f (i + 1) (z_wo (od i % 16) x y :: q)
def z_s5 (M : z_M) : List Int → Prop
  | [] => True
  | x :: r => M 2401029 ((r.length : Nat) : Int) = x ∧ z_s5 M r
theorem z_s5_cg {M M' : z_M} : ∀ r : List Int, (∀ j : Int, 0 ≤ j → j < ((r.length : Nat) : Int) → M' 2401029 j = M 2401029 j) → z_s5 M r → z_s5 M' r := by
  intro r
  induction r with
  | nil => intro _ _; exact trivial
  | cons x r ih =>
    intro h hs
    have hl : (((x :: r).length : Nat) : Int) = ((r.length : Nat) : Int) + 1 := by rw [List.length_cons]; omega
    exact ⟨(h _ (by omega) (by omega)).trans hs.1, ih (fun j a b => h j a (by omega)) hs.2⟩
theorem z_and15 {x : Int} (h0 : 0 ≤ x) (h1 : x < 2147483648) : z_and x 15 = x % 16 := by
  obtain ⟨n, rfl⟩ := Int.eq_ofNat_of_zero_le h0
  have e := z_and_n (a := n) (b := 15) (by omega) (by decide)
  rw [show ((15 : Nat) : Int) = (15 : Int) from rfl] at e
  rw [e]
  have := Nat.and_two_pow_sub_one_eq_mod n 4
  rw [show 2 ^ 4 - 1 = 15 from rfl, show 2 ^ 4 = 16 from rfl] at this
  rw [this]
  omega
theorem z_shr4 {x : Int} (h0 : 0 ≤ x) (h1 : x < 2147483648) : z_shr x 4 = x / 16 := by
  obtain ⟨n, rfl⟩ := Int.eq_ofNat_of_zero_le h0
  have e := z_shr_n (a := n) (i := 4) (by omega) (by decide)
  rw [show ((4 : Nat) : Int) = (4 : Int) from rfl] at e
  rw [e, Nat.shiftRight_eq_div_pow]
  omega
theorem kc_run (d : Nat) {M : z_M} {Q : z_V → z_M → Prop} {a b res : Int} {od nm : Int → Int} {F : Nat} (hod : M 2401025 = od) (hnm : ∀ j : Int, 0 ≤ j → j < 6 → M 61030 j = nm j) (hb : b ≤ 240) (hr : z_rn od nm b F a [] = some res) (h : ∀ M' : z_M, (∀ k, k ≠ 2401029 → M' k = M k) → Q (z_I res) M') : z_Cl 0 d 38 [z_R 5, z_I a, z_I b] M Q := by
  have key : ∀ (f : Nat) (i : Int) (s : List Int) (M' : z_M), (∀ k, k ≠ 2401029 → M' k = M k) → z_s5 M' s → z_rn od nm b f i s = some res → i < 2147483647 → z_G 0 d z_m38 5 [z_R 5, z_I a, z_I b, z_I (((s.length : Nat) : Int) - 1), z_I i, z_U, z_U, z_U, z_U] [] M' Q := by
    intro f
    induction f with
    | zero => intro i s M' _ _ hn; cases hn
    | succ f ih =>
      intro i s M' hM hs hn hi
      unfold z_rn at hn
      by_cases c : b ≤ i
      · rw [if_pos c] at hn
        match s, hs, hn with
        | [v], hs, hn =>
          have ev : v = res := Option.some.inj hn
          refine rg_38_5 d ⟨fun _ => ⟨by decide, by decide, ?_⟩, fun q => absurd q (by omega)⟩
          have : M' 2401029 0 = v := hs.1
          rw [this, ev]
          exact h M' hM
      · rw [if_neg c] at hn
        by_cases c0 : i < 0 ∨ 240 ≤ i ∨ od i < 0 ∨ 2147483648 ≤ od i ∨ 240 ≤ ((s.length : Nat) : Int)
        · rw [if_pos c0] at hn; cases hn
        · rw [if_neg c0] at hn
          have eo : M' 2401025 i = od i := by rw [hM _ (by decide), hod]
          have hl0 : 0 ≤ ((s.length : Nat) : Int) := Int.natCast_nonneg _
          have go5 : ∀ (s' : List Int) (N : z_M) (i' t x : Int) (o1 o2 : Int), (∀ k, k ≠ 2401029 → N k = M k) → z_s5 N s' → z_rn od nm b f i' s' = some res → t = ((s'.length : Nat) : Int) - 1 → x + 1 = i' → 0 ≤ i' → i' ≤ 268435456 → z_G 0 d z_m38 382 [z_R 5, z_I a, z_I b, z_I t, z_I x, z_I o1, z_I o2, z_U, z_U] [] N Q := by
            intro s' N i' t x o1 o2 g1 g2 g3 g4 g5 g6 g7
            refine rg_38_382 d ?_
            rw [z_w_id (x := x + 1) (by omega) (by omega), g5, g4]
            exact ih i' s' N g1 g2 g3 (by omega)
          have push : ∀ (v : Int) (o1 o2 : Int), z_rn od nm b f (i + 1) (v :: s) = some res → z_G 0 d z_m38 382 [z_R 5, z_I a, z_I b, z_I ((s.length : Nat) : Int), z_I i, z_I o1, z_I o2, z_U, z_U] [] (z_up M' 2401029 ((s.length : Nat) : Int) v) Q := by
            intro v o1 o2 g
            refine go5 (v :: s) _ (i + 1) _ i o1 o2 (fun k hk => by rw [z_up_ne hk]; exact hM k hk) ⟨?_, z_s5_cg s (fun j j0 j1 => ?_) hs⟩ g ?_ rfl (by omega) (by omega)
            · unfold z_up; rw [if_pos rfl, if_pos rfl]
            · unfold z_up; rw [if_pos rfl, if_neg (by omega)]
            · rw [List.length_cons]; omega
          refine rg_38_5 d ⟨fun q => absurd q (by omega), fun _ => ⟨by omega, by omega, by omega, by omega, ?_⟩⟩
          rw [eo, z_and15 (by omega) (by omega), z_shr4 (by omega) (by omega)]
          have w1 : z_w (((s.length : Nat) : Int) - 1 + 1) = ((s.length : Nat) : Int) := by rw [z_w_id (by omega) (by omega)]; omega
          by_cases k0 : od i % 16 = 0
          · rw [if_pos k0] at hn
            refine ⟨fun _ => rg_38_45 d ?_, fun q => absurd k0 q⟩
            rw [w1]
            exact ⟨fun q => absurd k0 q, fun _ => rg_38_70 d ⟨by omega, by omega, push _ _ _ hn⟩⟩
          · rw [if_neg k0] at hn
            refine ⟨fun q => absurd q k0, fun _ => ?_⟩
            by_cases k1 : od i % 16 = 1
            · rw [if_pos k1] at hn
              refine ⟨fun q => absurd k1 q, fun _ => rg_38_45 d ?_⟩
              rw [w1]
              refine ⟨fun _ => ?_, fun q => absurd q k0⟩
              by_cases k6 : od i / 16 < 6
              · rw [if_pos k6] at hn
                refine ⟨by omega, k6, rg_38_70 d ⟨by omega, by omega, ?_⟩⟩
                rw [hM 61030 (by decide), hnm _ (by omega) k6]
                exact push _ _ _ hn
              · rw [if_neg k6] at hn; cases hn
            · rw [if_neg k1] at hn
              refine ⟨fun _ => ?_, fun q => absurd q k1⟩
              match s, hs, hn, hl0, c0, w1, push with
              | y :: r, hs, hn, hl0, c0, w1, push =>
                have hl : (((y :: r).length : Nat) : Int) = ((r.length : Nat) : Int) + 1 := by rw [List.length_cons]; omega
                rw [hl] at c0 ⊢
                have hr0 : 0 ≤ ((r.length : Nat) : Int) := Int.natCast_nonneg _
                have et : ((r.length : Nat) : Int) + 1 - 1 = ((r.length : Nat) : Int) := by omega
                rw [et]
                have ey : M' 2401029 ((r.length : Nat) : Int) = y := hs.1
                dsimp only at hn
                by_cases k4 : od i % 16 = 4
                · rw [if_pos k4] at hn
                  refine ⟨fun q => absurd k4 q, fun _ => ⟨hr0, by omega, hr0, by omega, ?_⟩⟩
                  rw [ey]
                  refine go5 (z_w (1 - y) :: r) _ (i + 1) _ i _ _ (fun k hk => by rw [z_up_ne hk]; exact hM k hk) ⟨?_, z_s5_cg r (fun j j0 j1 => ?_) hs.2⟩ hn ?_ rfl (by omega) (by omega)
                  · unfold z_up; rw [if_pos rfl, if_pos rfl]
                  · unfold z_up; rw [if_pos rfl, if_neg (by omega)]
                  · rw [List.length_cons]; omega
                · rw [if_neg k4] at hn
                  refine ⟨fun _ => ?_, fun q => absurd q k4⟩
                  have stay : ∀ o1 o2 : Int, (if od i / 16 ≤ i then none else z_rn od nm b f (od i / 16) (y :: r)) = some res →
                      (od i / 16 ≤ i → z_G 0 d z_m38 153 [z_R 5, z_I a, z_I b, z_I ((r.length : Nat) : Int), z_I i, z_I o1, z_I o2, z_U, z_U] [z_I i] M' Q) ∧
                      (i < od i / 16 → z_G 0 d z_m38 153 [z_R 5, z_I a, z_I b, z_I ((r.length : Nat) : Int), z_I i, z_I o1, z_I o2, z_U, z_U] [z_I (z_w (od i / 16 - 1))] M' Q) := by
                    intro o1 o2 g
                    by_cases kl : od i / 16 ≤ i
                    · rw [if_pos kl] at g; cases g
                    · rw [if_neg kl] at g
                      refine ⟨fun c => absurd c kl, fun _ => rg_38_153 d ?_⟩
                      rw [z_w_id (x := od i / 16 - 1) (by omega) (by omega)]
                      exact go5 (y :: r) M' (od i / 16) _ _ _ _ hM hs g (by rw [hl]; omega) (by omega) (by omega) (by omega)
                  have drop : ∀ o1 o2 : Int, z_rn od nm b f (i + 1) r = some res → z_G 0 d z_m38 382 [z_R 5, z_I a, z_I b, z_I (z_w (((r.length : Nat) : Int) + -1)), z_I i, z_I o1, z_I o2, z_U, z_U] [] M' Q := by
                    intro o1 o2 g
                    rw [z_w_id (x := ((r.length : Nat) : Int) + -1) (by omega) (by omega)]
                    exact go5 r M' (i + 1) _ i _ _ hM hs.2 g (by omega) rfl (by omega) (by omega)
                  by_cases k3 : od i % 16 = 3
                  · rw [if_pos k3] at hn
                    refine ⟨fun _ => rg_38_109 d ⟨hr0, by omega, fun q => rg_38_123 d ⟨fun q2 => absurd k3 q2, fun _ => rg_38_134 d ⟨fun _ => drop _ _ ?_, fun q2 => absurd q2 (by decide)⟩⟩, fun q => rg_38_123 d ⟨fun q2 => absurd k3 q2, fun _ => rg_38_134 d ⟨fun q2 => absurd rfl q2, fun _ => stay _ _ ?_⟩⟩⟩, fun q => absurd k3 q⟩
                    · rw [ey] at q; rw [if_pos q] at hn; exact hn
                    · rw [ey] at q; rw [if_neg q] at hn; exact hn
                  · rw [if_neg k3] at hn
                    refine ⟨fun q => absurd q k3, fun _ => ?_⟩
                    by_cases k2 : od i % 16 = 2
                    · rw [if_pos k2] at hn
                      refine ⟨fun q => absurd k2 q, fun _ => rg_38_109 d ⟨hr0, by omega, fun q => rg_38_123 d ⟨fun _ => rg_38_134 d ⟨fun q2 => absurd rfl q2, fun _ => stay _ _ ?_⟩, fun q2 => absurd q2 k3⟩, fun q => rg_38_123 d ⟨fun _ => rg_38_134 d ⟨fun _ => drop _ _ ?_, fun q2 => absurd q2 (by decide)⟩, fun q2 => absurd q2 k3⟩⟩⟩
                      · rw [ey] at q; rw [if_pos q] at hn; exact hn
                      · rw [ey] at q; rw [if_neg q] at hn; exact hn
                    · rw [if_neg k2] at hn
                      refine ⟨fun _ => ?_, fun q => absurd q k2⟩
                      match r, hs, hn, hr0, ey, c0 with
                      | x :: q, hs, hn, hr0, ey, c0 =>
                        have hl2 : (((x :: q).length : Nat) : Int) = ((q.length : Nat) : Int) + 1 := by rw [List.length_cons]; omega
                        rw [hl2] at ey c0 ⊢
                        have hq0 : 0 ≤ ((q.length : Nat) : Int) := Int.natCast_nonneg _
                        have ex : M' 2401029 ((q.length : Nat) : Int) = x := hs.2.1
                        dsimp only at hn
                        have ew : z_w (((q.length : Nat) : Int) + 1 + -1) = ((q.length : Nat) : Int) := by rw [z_w_id (by omega) (by omega)]; omega
                        rw [ew, z_w_id (x := ((q.length : Nat) : Int) + 1) (by omega) (by omega), ex, ey]
                        by_cases k12 : 12 < od i % 16
                        · rw [if_pos k12] at hn; cases hn
                        · rw [if_neg k12] at hn
                          have res0 : y = 0 ∧ (od i % 16 = 11 ∨ od i % 16 = 12) → Q (z_I 0) M' := by
                            intro g
                            rw [if_pos g] at hn
                            have e0 : (0 : Int) = res := Option.some.inj hn
                            rw [e0]
                            exact h M' hM
                          have fin : ∀ (v o1 o2 : Int), v = z_wo (od i % 16) x y → z_rn od nm b f (i + 1) (z_wo (od i % 16) x y :: q) = some res → z_G 0 d z_m38 382 [z_R 5, z_I a, z_I b, z_I ((q.length : Nat) : Int), z_I i, z_I o1, z_I o2, z_U, z_U] [] (z_up M' 2401029 ((q.length : Nat) : Int) v) Q := by
                            intro v o1 o2 ev g
                            rw [ev]
                            refine go5 (z_wo (od i % 16) x y :: q) _ (i + 1) _ i _ _ (fun k hk => by rw [z_up_ne hk]; exact hM k hk) ⟨?_, z_s5_cg q (fun j j0 j1 => ?_) hs.2.2⟩ g ?_ rfl (by omega) (by omega)
                            · unfold z_up; rw [if_pos rfl, if_pos rfl]
                            · unfold z_up; rw [if_pos rfl, if_neg (by omega)]
                            · rw [List.length_cons]; omega
                          have reck : ¬ (y = 0 ∧ (od i % 16 = 11 ∨ od i % 16 = 12)) → z_G 0 d z_m38 206 [z_R 5, z_I a, z_I b, z_I ((q.length : Nat) : Int), z_I i, z_I (od i % 16), z_I (od i / 16), z_I x, z_I y] [] M' Q := by
                            intro g
                            rw [if_neg g] at hn
                            have wo : ∀ v : Int, v = z_wo (od i % 16) x y → z_G 0 d z_m38 382 [z_R 5, z_I a, z_I b, z_I ((q.length : Nat) : Int), z_I i, z_I (od i % 16), z_I (od i / 16), z_U, z_U] [] (z_up M' 2401029 ((q.length : Nat) : Int) v) Q := fun v ev => fin v _ _ ev hn
                            unfold z_wo at wo
                            refine rg_38_206 d ⟨⟨fun e => ⟨fun e2 => rg_38_269 d ⟨hq0, by omega, wo _ ?_⟩, fun e2 => rg_38_269 d ⟨hq0, by omega, wo _ ?_⟩⟩, fun e => ⟨fun e2 => rg_38_290 d ⟨hq0, by omega, wo _ ?_⟩, fun e2 => rg_38_290 d ⟨hq0, by omega, wo _ ?_⟩⟩, fun e => ⟨fun e2 => rg_38_311 d ⟨hq0, by omega, wo _ ?_⟩, fun e2 => rg_38_311 d ⟨hq0, by omega, wo _ ?_⟩⟩, fun e => ⟨hq0, by omega, wo _ ?_⟩, fun e => ⟨hq0, by omega, wo _ ?_⟩, fun e => ⟨hq0, by omega, wo _ ?_⟩, fun e => z_nz_of (fun z => g ⟨z, Or.inl e⟩) ⟨hq0, by omega, wo _ ?_⟩, trivial⟩, fun e => z_nz_of (fun z => g ⟨z, Or.inr (by omega)⟩) ⟨hq0, by omega, wo _ ?_⟩⟩
                            all_goals (repeat (first | rw [if_pos (by omega)] | rw [if_neg (by omega)]))
                          refine ⟨hq0, by omega, by omega, by omega, fun e => reck (fun z => e z.1), fun e => ⟨fun e2 => rg_38_204 d (res0 ⟨e, Or.inl e2⟩), fun e2 => ⟨fun e3 => reck (fun z => z.2.elim e2 e3), fun e3 => rg_38_204 d (res0 ⟨e, Or.inr e3⟩)⟩⟩⟩
  refine re_38 d ?_
  by_cases hF : F = 0
  · rw [hF] at hr; cases hr
  · have hi : a < 2147483647 := by
      match F, hF, hr with
      | f + 1, _, hr =>
        unfold z_rn at hr
        by_cases c : b ≤ a
        · rw [if_pos c] at hr; cases hr
        · omega
    have := key F a [] M (fun _ _ => rfl) trivial hr hi
    exact this
/-- the names of the class's law -/
def z_nmC (t u p s j : Int) : Int := if j = 0 then t else if j = 1 then t / 4 else if j = 2 then u else if j = 3 then p else if j = 4 then s % 10 else s / 10
/-- the class's law stands for the model's -/
def z_ILc (S : z_M) : Prop := S 5 6 = S 13 29 ∧ ∀ k : Int, 0 ≤ k → k < S 13 29 →
  S 641027 (4 * k) = S 161076 k ∧ S 641027 (4 * k + 2) ≤ 240 ∧ S 641027 (4 * k + 3) ≤ 240 ∧
  (∀ t u p s : Int, z_rn (S 2401025) (z_nmC t u p s) (S 641027 (4 * k + 2)) 241 (S 641027 (4 * k + 1)) [] = some ((z_evh S (z_nm6 t u p s) (S 161077 k) (S 161078 k)).getD 0)) ∧
  (∀ t u p s : Int, ∃ r : Int, z_rn (S 2401025) (z_nmC t u p s) (S 641027 (4 * k + 3)) 241 (S 641027 (4 * k + 2)) [] = some r ∧ (r ≠ 0 ↔ z_evh S (z_nm6 t u p s) (S 161078 k) (S 161079 k) = some 1))
theorem kc_reckon (d : Nat) {S M : z_M} {Q : z_V → z_M → Prop} {le most t u p s : Int} (hS : z_sit S M) (hI : z_ILm S) (hC : z_ILc S) (hle : (le = 97 ∧ most = 7) ∨ (le = 108 ∧ most = 9) ∨ (le = 118 ∧ most = 14) ∨ (le = 104 ∧ most = 18) ∨ (le = 114 ∧ most = 10)) (ht : 0 ≤ t) (ht2 : t < 96) (hs : 0 ≤ s) (hs2 : s < 100) (h : ∀ M' : z_M, z_sit S M' → z_ag M M' → (∀ k, k ≠ 2401029 → k ≠ 61030 → M' k = M k) → Q (z_I (zv_rk S le most t u p s)) M') : z_Cl 0 (d + 1) 37 [z_R 5, z_I le, z_I t, z_I u, z_I p, z_I s] M Q := by
  refine re_37 d ⟨by decide, by decide, by decide, by decide, by decide, by decide, by decide, by decide, by decide, by decide, by decide, by decide, ?_⟩
  rw [z_td ht, z_td hs, z_tm hs, z_w_id (x := t / 4) (by omega) (by omega), z_w_id (x := s / 10) (by omega) (by omega)]
  have hN0 : ∀ k, k ≠ 61030 → (z_up (z_up (z_up (z_up (z_up (z_up M 61030 0 t) 61030 1 (t / 4)) 61030 2 u) 61030 3 p) 61030 4 (s % 10)) 61030 5 (s / 10)) k = M k := by
    intro k hk
    rw [z_up_ne hk, z_up_ne hk, z_up_ne hk, z_up_ne hk, z_up_ne hk, z_up_ne hk]
  have hN1 : ∀ j : Int, 0 ≤ j → j < 6 → (z_up (z_up (z_up (z_up (z_up (z_up M 61030 0 t) 61030 1 (t / 4)) 61030 2 u) 61030 3 p) 61030 4 (s % 10)) 61030 5 (s / 10)) 61030 j = z_nmC t u p s j := by
    intro j j0 j1
    have : j = 0 ∨ j = 1 ∨ j = 2 ∨ j = 3 ∨ j = 4 ∨ j = 5 := by omega
    rcases this with rfl | rfl | rfl | rfl | rfl | rfl <;> rfl
  generalize z_up (z_up (z_up (z_up (z_up (z_up M 61030 0 t) 61030 1 (t / 4)) 61030 2 u) 61030 3 p) 61030 4 (s % 10)) 61030 5 (s / 10) = N at hN0 hN1
  obtain ⟨hsz, hcl⟩ := hC
  have hc0 := hI.1
  have hc1 := hI.2.1
  have hm : 0 ≤ most := by omega
  have r1 : M 2401025 = S 2401025 := z_fn hS _ rfl
  have r2 : M 641027 = S 641027 := z_fn hS _ rfl
  have r3 : M 5 6 = S 5 6 := z_ff hS _ _ rfl
  have fin : ∀ M' : z_M, (∀ k, k ≠ 2401029 → k ≠ 61030 → M' k = M k) → Q (z_I (zv_rk S le most t u p s)) M' := by
    intro M' f
    refine h M' (z_at_of hS (fun k j hk => ?_) (fun k hk => ?_)) (fun k j hk => ?_) f
    · exact congrFun (f k (z_ne1 hk (fun _ => rfl)) (z_ne1 hk (fun _ => rfl))) j
    · exact f k (z_ne0 hk rfl) (z_ne0 hk rfl)
    · exact congrFun (f k (z_ne1 hk (fun _ => rfl)) (z_ne1 hk (fun _ => rfl))) j
  have key : ∀ (f : Nat) (k : Int) (M' : z_M), 0 ≤ k → k ≤ S 13 29 → (S 13 29 - k).toNat = f → (∀ q, q ≠ 2401029 → q ≠ 61030 → M' q = M q) → M' 61030 = N 61030 → z_tel S (z_nm6 t u p s) le most f k = zv_rk S le most t u p s → z_G 0 (d + 1) z_m37 56 [z_R 5, z_I le, z_I t, z_I u, z_I p, z_I s, z_I k, z_U, z_U] [] M' Q := by
    intro f
    induction f with
    | zero =>
      intro k M' k0 k1 hf hM hNm e
      refine rg_37_56 d ⟨fun _ => ?_, fun c => ?_⟩
      · have := fin M' hM
        rw [← e] at this
        exact this
      · rw [hM 5 (by decide) (by decide), r3, hsz] at c
        exact absurd c (by omega)
    | succ f ih =>
      intro k M' k0 k1 hf hM hNm e
      have f1 := hM 2401025 (by decide) (by decide)
      have f2 := hM 641027 (by decide) (by decide)
      obtain ⟨q1, q2, q3, q4, q5⟩ := hcl k k0 (by omega)
      obtain ⟨r, hr, hr2⟩ := q5 t u p s
      have nxt : ∀ N' : z_M, (∀ q, q ≠ 2401029 → q ≠ 61030 → N' q = M q) → N' 61030 = N 61030 → ¬ (S 161076 k = le ∧ z_evh S (z_nm6 t u p s) (S 161078 k) (S 161079 k) = some 1) → z_G 0 (d + 1) z_m37 56 [z_R 5, z_I le, z_I t, z_I u, z_I p, z_I s, z_I (z_w (k + 1)), z_U, z_U] [] N' Q := by
        intro N' hN' hN2 hno
        rw [z_w_id (by omega) (by omega)]
        refine ih (k + 1) N' (by omega) (by omega) (by omega) hN' hN2 ?_
        rw [← e]
        show _ = if S 161076 k = le ∧ z_evh S (z_nm6 t u p s) (S 161078 k) (S 161079 k) = some 1 then _ else _
        rw [if_neg hno]
      refine rg_37_56 d ⟨fun c => ?_, fun _ => ?_⟩
      · rw [hM 5 (by decide) (by decide), r3, hsz] at c; exact absurd c (by omega)
      · rw [z_w_id (x := 4 * k) (by omega) (by omega), z_w_id (x := 4 * k + 1) (by omega) (by omega), z_w_id (x := 4 * k + 2) (by omega) (by omega), z_w_id (x := 4 * k + 3) (by omega) (by omega), f2, r2, q1]
        refine ⟨by omega, by omega, fun c => nxt M' hM hNm (fun z => c z.1), fun c => ⟨by omega, by omega, by omega, by omega, ?_⟩⟩
        refine kc_run d (f1.trans r1) (fun j j0 j1 => by rw [hNm]; exact hN1 j j0 j1) q3 hr (fun N2 n1 => z_viI ⟨fun c2 => ?_, fun c2 => ⟨by omega, by omega, by omega, by omega, ?_⟩⟩)
        · refine nxt N2 (fun q a b => (n1 q a).trans (hM q a b)) ((n1 _ (by decide)).trans hNm) (fun z => ?_)
          exact (hr2.mpr z.2) c2
        · have e2 : z_clp ((z_evh S (z_nm6 t u p s) (S 161077 k) (S 161078 k)).getD 0) most = zv_rk S le most t u p s := by
            rw [← e]
            show _ = if S 161076 k = le ∧ z_evh S (z_nm6 t u p s) (S 161078 k) (S 161079 k) = some 1 then _ else _
            rw [if_pos ⟨c, hr2.mp c2⟩]
          rw [n1 _ (by decide), f2, r2]
          refine kc_run d ((n1 _ (by decide)).trans (f1.trans r1)) (fun j j0 j1 => by rw [n1 _ (by decide), hNm]; exact hN1 j j0 j1) q2 (q4 t u p s) (fun N3 n2 => z_viI ?_)
          have hQ := fin N3 (fun q a b => (n2 q a).trans ((n1 q a).trans (hM q a b)))
          rw [← e2] at hQ
          have mx : ∀ v : Int, z_max 0 (z_min most v) = z_clp v most := by
            intro v
            unfold z_max z_min z_clp
            split <;> split <;> (try split) <;> omega
          rw [← mx] at hQ
          refine re_28 d ?_
          rcases hle with ⟨rfl, rfl⟩ | ⟨rfl, rfl⟩ | ⟨rfl, rfl⟩ | ⟨rfl, rfl⟩ | ⟨rfl, rfl⟩
          all_goals (refine ⟨fun e3 => ?_, fun e3 => ⟨fun e4 => ?_, fun e4 => ⟨fun e5 => ?_, fun e5 => ⟨fun e6 => ?_, fun e6 => ⟨fun e7 => ?_, fun e7 => ?_⟩⟩⟩⟩⟩)
          all_goals (first | (exfalso; omega) | exact z_viI hQ)
  exact key (S 13 29).toNat 0 N (by omega) hc0 (by congr 1; omega) (fun q _ b => hN0 q b) rfl rfl
