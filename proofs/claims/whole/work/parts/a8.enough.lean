/-! OPS: enough, the model's answer -/
section ZENO
variable {S M : z_M} {Q : z_V → z_M → Prop}
theorem km_keepsMost (d : Nat) {n w v : Nat} {kk : Nat → Nat} (hI : z_IS S) (hn : n ≤ 1458) (hm : zy_ml S M n kk) (ht : z_tl S (w : Int)) (hv : v < 96) (e1 : M 13 73 = (w : Int)) (e2 : M 13 74 = (v : Int)) (hlt : zx_mx (zy_W kk zy_1 n) (zx_A S w (v : Int)) 1024 < zy_W kk zy_1 n zy_tt) (h : ∀ (N : z_M) (n' : Nat) (kk' : Nat → Nat), n' ≤ n → zy_ml S N n' kk' → zy_W kk' zy_1 n' = zy_nx (zy_W kk zy_1 n) (zx_A S w (v : Int)) (zy_lk (zy_W kk zy_1 n) (zx_A S w (v : Int)) 1024) → Q z_U N) : z_Cl 0 (d + 7) 333 [z_R 13] M Q := by
  refine re_333 (d + 6) ?_
  rw [e1, e2]
  refine km_asksOf d hI ht hv hn hm (fun N hmN g hc => z_viI ?_)
  have hcd : zy_cd S N n kk w (v : Int) := by
    rcases hc with c | c
    · omega
    · exact c
  have hp : ∀ P, 0 ≤ zy_W kk zy_1 n P := zy_W_p (kk := kk) zy_11
  have lm := zy_lk_mx (W := zy_W kk zy_1 n) (A := zx_A S w (v : Int)) hp
  obtain ⟨l1, l2, l3⟩ := zy_lk_i (W := zy_W kk zy_1 n) (A := zx_A S w (v : Int)) 1024
  have l4 := l3 (by decide)
  have key : ∀ (r c : Nat), c + r = zy_lk (zy_W kk zy_1 n) (zx_A S w (v : Int)) 1024 → z_G 0 (d + 7) z_m333 15 [z_R 13, z_I (zx_mx (zy_W kk zy_1 n) (zx_A S w (v : Int)) 1024), z_I (c : Int), z_U, z_U] [] N Q := by
    intro r
    induction r with
    | succ r ih =>
      intro c hc
      refine rg_333_15 (d + 6) ⟨by omega, by omega, ?_⟩
      rw [hcd.2 c (by omega), ← lm]
      have := l2 c (by omega)
      refine ⟨fun c2 => by omega, fun _ => ?_⟩
      rw [lm, z_wq (by omega)]
      exact ih (c + 1) (by omega)
    | zero =>
      intro c hc
      have ec : c = zy_lk (zy_W kk zy_1 n) (zx_A S w (v : Int)) 1024 := by omega
      rw [ec]
      generalize zy_lk (zy_W kk zy_1 n) (zx_A S w (v : Int)) 1024 = a at *
      refine rg_333_15 (d + 6) ⟨by omega, by omega, ?_⟩
      rw [hcd.2 a l4, ← lm]
      refine ⟨fun _ => ?_, fun c2 => absurd rfl c2⟩
      have key2 : ∀ (r k st : Nat) (N4 : z_M) (kk' : Nat → Nat), k + r = n → st ≤ k → z_sit S N4 → N4 13 69 = (n : Int) → (∀ i : Nat, k ≤ i → i < n → N4 14581107 (i : Int) = (zy_vs S (kk i) 10 : Int)) → (∀ i : Nat, i < n → N4 14581105 (i : Int) = (zx_A S w (v : Int) (kk i) : Int)) → (∀ i : Nat, i < st → N4 14581107 (i : Int) = (zy_vs S (kk' i) 10 : Int)) → (∀ P : Nat → Bool, zx_sw P kk' zy_1 st = zx_sw (fun x => P x && decide (zx_A S w (v : Int) x = a)) kk zy_1 k) → z_G 0 (d + 7) z_m333 36 [z_R 13, z_I (zy_W kk zy_1 n (zx_is (zx_A S w (v : Int)) a)), z_I (a : Int), z_I (st : Int), z_I (k : Int)] [] N4 Q := by
        intro r
        induction r with
        | zero =>
          intro k st N4 kk' hk hst hN4 hl ho ha hd hs
          have ek : k = n := by omega
          subst ek
          refine rg_333_36 (d + 6) ⟨fun _ => ?_, fun c => absurd c (by rw [hl]; omega)⟩
          exact h _ st kk' hst ⟨z_at_up hN4 _ _ _ rfl rfl, z_up_eq, fun i hi => by rw [z_up_ne (by decide)]; exact hd i hi⟩ (funext fun P => hs P)
        | succ r ih =>
          intro k st N4 kk' hk hst hN4 hl ho ha hd hs
          refine rg_333_36 (d + 6) ⟨fun c => absurd c (by rw [hl]; omega), fun _ => ⟨by omega, by omega, ?_⟩⟩
          rw [ha k (by omega), z_wq (q := k) (by omega)]
          have es : ∀ P : Nat → Bool, zx_sw (fun x => P x && decide (zx_A S w (v : Int) x = a)) kk zy_1 (k + 1) = zx_sw (fun x => P x && decide (zx_A S w (v : Int) x = a)) kk zy_1 k + (if (P (kk k) && decide (zx_A S w (v : Int) (kk k) = a)) = true then (1 : Int) else 0) := fun P => rfl
          refine ⟨fun c => ⟨by omega, by omega, by omega, by omega, by omega, by omega, by omega, by omega, ?_⟩, fun c => ?_⟩
          · have c' : zx_A S w (v : Int) (kk k) = a := by omega
            rw [z_up_ne (M := N4) (k := 14581107) (by decide), ho k (Nat.le_refl k) (by omega), z_wq (q := st) (by omega)]
            refine ih (k + 1) (st + 1) _ (fun m => if m = st then kk k else kk' m) (by omega) (by omega) (z_at_up (z_at_up hN4 _ _ _ rfl rfl) _ _ _ rfl rfl) (by rw [z_up_ne (by decide), z_up_ne (by decide)]; exact hl) (fun i x y => by rw [z_up_nj (by omega), z_up_ne (by decide)]; exact ho i (by omega) y) (fun i x => by rw [z_up_ne (by decide), z_up_ne (by decide)]; exact ha i x) (fun i x => ?_) (fun P => ?_)
            · by_cases e : i = st
              · rw [if_pos e, e, z_up_eq]
              · rw [if_neg e, z_up_nj (by omega), z_up_ne (by decide)]; exact hd i (by omega)
            · rw [es P, decide_eq_true c', Bool.and_true, ← hs P]
              show zx_sw P _ zy_1 st + (if P (if st = st then kk k else kk' st) = true then (1 : Int) else 0) = _
              rw [if_pos (show st = st from rfl)]
              congr 1
              exact zx_sw_ext st (fun m hm => ⟨if_neg (by omega), rfl⟩)
          · refine ih (k + 1) st N4 kk' (by omega) (by omega) hN4 hl (fun i x y => ho i (by omega) y) ha hd (fun P => ?_)
            rw [hs P, es P, decide_eq_false (show ¬ zx_A S w (v : Int) (kk k) = a from fun z => c (by rw [z])), Bool.and_false, if_neg (by decide)]
            omega
      exact key2 n 0 0 N (fun _ => 0) (by omega) (Nat.le_refl 0) hmN.1 hmN.2.1 (fun i _ x => hmN.2.2 i x) hcd.1 (fun i x => absurd x (Nat.not_lt_zero i)) (fun P => rfl)
  exact key (zy_lk (zy_W kk zy_1 n) (zx_A S w (v : Int)) 1024) 0 (Nat.zero_add _)
end ZENO
