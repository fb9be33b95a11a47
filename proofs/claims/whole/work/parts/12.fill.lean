/-! Arrays.fill, its three forms -/
def z_fl (M : z_M) (a : Nat) (lo hi v : Int) : z_M := fun b j => if b = a then (if lo ≤ j ∧ j < hi then v else M b j) else M b j
theorem z_fl_0 (M : z_M) (a : Nat) (lo hi v : Int) (h : hi ≤ lo) : z_fl M a lo hi v = M := by
  funext b j
  unfold z_fl
  split
  · rw [if_neg (by omega)]
  · rfl
theorem z_fl_up (M : z_M) (a : Nat) (lo k v : Int) (h : lo ≤ k) : z_up (z_fl M a lo k v) a k v = z_fl M a lo (k + 1) v := by
  funext b j
  unfold z_up z_fl
  by_cases hb : b = a
  · rw [if_pos hb, if_pos hb, if_pos hb]
    by_cases hj : j = k
    · rw [if_pos hj, if_pos (by omega)]
    · rw [if_neg hj]
      by_cases h2 : lo ≤ j ∧ j < k
      · rw [if_pos h2, if_pos (by omega)]
      · rw [if_neg h2, if_neg (by omega)]
  · rw [if_neg hb, if_neg hb, if_neg hb]
theorem z_fl_off {M : z_M} {a b : Nat} {lo hi v j : Int} (h : b ≠ a) : z_fl M a lo hi v b j = M b j := by
  unfold z_fl
  rw [if_neg h]
theorem z_fl_in {M : z_M} {a : Nat} {lo hi v j : Int} (h0 : lo ≤ j) (h1 : j < hi) : z_fl M a lo hi v a j = v := by
  unfold z_fl
  rw [if_pos rfl, if_pos ⟨h0, h1⟩]
section ZFILL
variable {wd d a : Nat} {v n lo hi : Int} {M : z_M} {Q : z_V → z_M → Prop}
theorem c_fillI (hk : z_knd a = 1) (hn : Int.ofNat (z_len a) = n) (hb : n < 20000) (h : Q z_U (z_fl M a 0 n v)) : z_Cl wd d 393 [z_R a, z_I v] M Q := by
  have hn0 : 0 ≤ n := by rw [← hn]; exact Int.natCast_nonneg _
  have loop : ∀ (f : Nat) (k : Int), 0 ≤ k → k ≤ n → n - k < f → z_G wd d z_m393 5 [z_R a, z_I v, z_I k, z_I n] [] (z_fl M a 0 k v) Q := by
    intro f
    induction f with
    | zero => intro k _ h2 h3; exact absurd h3 (by omega)
    | succ f ih =>
      intro k h1 h2 h3
      refine q_iload_n (z_wk z_ok393) 5 rfl rfl (q_iload_n (z_wk z_ok393) 6 rfl rfl (q_icmp_ge (z_wk z_ok393) 7 rfl (tg := 20) rfl (fun c => ?_) (fun c => ?_)))
      · have e : k = n := by omega
        rw [e]
        exact q_vret (z_wk z_ok393) 14 rfl h
      · refine q_aload_n (z_wk z_ok393) 8 rfl rfl (q_iload_n (z_wk z_ok393) 9 rfl rfl (q_iload_n (z_wk z_ok393) 10 rfl rfl (q_iast (z_wk z_ok393) 11 rfl hk hn h1 c ?_)))
        rw [z_fl_up _ _ _ _ _ h1]
        refine q_iinc (z_wk z_ok393) 12 rfl (L2 := [z_R a, z_I v, z_I (k + 1), z_I n]) rfl ?_ (q_goto (z_wk z_ok393) 13 rfl (tg := 5) rfl (ih (k + 1) (by omega) (by omega) (by omega)))
        show [z_R a, z_I v, z_I (z_w (k + 1)), z_I n] = _
        rw [z_w_id (by omega) (by omega)]
  have h0 := loop (n.toNat + 1) 0 (Int.le_refl _) hn0 (by omega)
  rw [z_fl_0 M a 0 0 v (Int.le_refl _)] at h0
  have hk0 : ¬ z_knd a = 0 := by omega
  exact q_entry (t := z_m393) rfl rfl rfl rfl (q_iconst (z_wk z_ok393) 0 rfl (q_istore_n (z_wk z_ok393) 1 rfl (L2 := [z_R a, z_I v, z_I 0, z_U]) rfl (q_aload_n (z_wk z_ok393) 2 rfl rfl (q_alen (z_wk z_ok393) 3 rfl hk0 hn (q_istore_n (z_wk z_ok393) 4 rfl (L2 := [z_R a, z_I v, z_I 0, z_I n]) rfl h0)))))
theorem c_fillL (hk : z_knd a = 2) (hn : Int.ofNat (z_len a) = n) (hb : n < 20000) (h : Q z_U (z_fl M a 0 n v)) : z_Cl wd d 392 [z_R a, z_J v] M Q := by
  have hn0 : 0 ≤ n := by rw [← hn]; exact Int.natCast_nonneg _
  have loop : ∀ (f : Nat) (k : Int), 0 ≤ k → k ≤ n → n - k < f → z_G wd d z_m392 6 [z_R a, z_J v, z_U, z_I k, z_I n] [] (z_fl M a 0 k v) Q := by
    intro f
    induction f with
    | zero => intro k _ h2 h3; exact absurd h3 (by omega)
    | succ f ih =>
      intro k h1 h2 h3
      refine q_iload_n (z_wk z_ok392) 5 rfl rfl (q_iload (z_wk z_ok392) 6 rfl rfl (q_icmp_ge (z_wk z_ok392) 7 rfl (tg := 22) rfl (fun c => ?_) (fun c => ?_)))
      · have e : k = n := by omega
        rw [e]
        exact q_vret (z_wk z_ok392) 14 rfl h
      · refine q_aload_n (z_wk z_ok392) 8 rfl rfl (q_iload_n (z_wk z_ok392) 9 rfl rfl (q_lload_n (z_wk z_ok392) 10 rfl rfl (q_last (z_wk z_ok392) 11 rfl hk hn h1 c ?_)))
        rw [z_fl_up _ _ _ _ _ h1]
        refine q_iinc (z_wk z_ok392) 12 rfl (L2 := [z_R a, z_J v, z_U, z_I (k + 1), z_I n]) rfl ?_ (q_goto (z_wk z_ok392) 13 rfl (tg := 6) rfl (ih (k + 1) (by omega) (by omega) (by omega)))
        show [z_R a, z_J v, z_U, z_I (z_w (k + 1)), z_I n] = _
        rw [z_w_id (by omega) (by omega)]
  have h0 := loop (n.toNat + 1) 0 (Int.le_refl _) hn0 (by omega)
  rw [z_fl_0 M a 0 0 v (Int.le_refl _)] at h0
  have hk0 : ¬ z_knd a = 0 := by omega
  exact q_entry (t := z_m392) rfl rfl rfl rfl (q_iconst (z_wk z_ok392) 0 rfl (q_istore_n (z_wk z_ok392) 1 rfl (L2 := [z_R a, z_J v, z_U, z_I 0, z_U]) rfl (q_aload_n (z_wk z_ok392) 2 rfl rfl (q_alen (z_wk z_ok392) 3 rfl hk0 hn (q_istore (z_wk z_ok392) 4 rfl (L2 := [z_R a, z_J v, z_U, z_I 0, z_I n]) rfl h0)))))
theorem c_range (h0 : 0 ≤ lo) (h1 : lo ≤ hi) (h2 : hi ≤ n) (h : Q z_U M) : z_Cl wd d 391 [z_I n, z_I lo, z_I hi] M Q :=
  q_entry (t := z_m391) rfl rfl rfl rfl (q_iload_n (z_wk z_ok391) 0 rfl rfl (q_iload_n (z_wk z_ok391) 1 rfl rfl (q_icmp_le (z_wk z_ok391) 2 rfl (tg := 46) rfl (fun _ =>
    q_iload_n (z_wk z_ok391) 21 rfl rfl (q_if_ge (z_wk z_ok391) 22 rfl (tg := 59) rfl (fun _ =>
      q_iload_n (z_wk z_ok391) 28 rfl rfl (q_iload_n (z_wk z_ok391) 29 rfl rfl (q_icmp_le (z_wk z_ok391) 30 rfl (tg := 73) rfl (fun _ => q_vret (z_wk z_ok391) 36 rfl h) (fun c => absurd c (by omega))))) (fun c => absurd c (by omega)))) (fun c => absurd c (by omega)))))
theorem c_fillR (hk : z_knd a = 1) (hn : Int.ofNat (z_len a) = n) (hb : n < 20000) (h0 : 0 ≤ lo) (hlh : lo ≤ hi) (hhn : hi ≤ n) (h : Q z_U (z_fl M a lo hi v)) : z_Cl wd (d + 1) 394 [z_R a, z_I lo, z_I hi, z_I v] M Q := by
  have loop : ∀ (f : Nat) (k : Int), lo ≤ k → k ≤ hi → hi - k < f → z_G wd (d + 1) z_m394 10 [z_R a, z_I lo, z_I hi, z_I v, z_I k] [] (z_fl M a lo k v) Q := by
    intro f
    induction f with
    | zero => intro k _ h2 h3; exact absurd h3 (by omega)
    | succ f ih =>
      intro k h1 h2 h3
      refine q_iload (z_wk z_ok394) 7 rfl rfl (q_iload_n (z_wk z_ok394) 8 rfl rfl (q_icmp_ge (z_wk z_ok394) 9 rfl (tg := 27) rfl (fun c => ?_) (fun c => ?_)))
      · have e : k = hi := by omega
        rw [e]
        exact q_vret (z_wk z_ok394) 16 rfl h
      · refine q_aload_n (z_wk z_ok394) 10 rfl rfl (q_iload (z_wk z_ok394) 11 rfl rfl (q_iload_n (z_wk z_ok394) 12 rfl rfl (q_iast (z_wk z_ok394) 13 rfl hk hn (by omega) (by omega) ?_)))
        rw [z_fl_up _ _ _ _ _ h1]
        refine q_iinc (z_wk z_ok394) 14 rfl (L2 := [z_R a, z_I lo, z_I hi, z_I v, z_I (k + 1)]) rfl ?_ (q_goto (z_wk z_ok394) 15 rfl (tg := 10) rfl (ih (k + 1) (by omega) (by omega) (by omega)))
        show [z_R a, z_I lo, z_I hi, z_I v, z_I (z_w (k + 1))] = _
        rw [z_w_id (by omega) (by omega)]
  have hl := loop ((hi - lo).toNat + 1) lo (Int.le_refl _) hlh (by omega)
  rw [z_fl_0 M a lo lo v (Int.le_refl _)] at hl
  have hk0 : ¬ z_knd a = 0 := by omega
  exact q_entry (t := z_m394) rfl rfl rfl rfl (q_aload_n (z_wk z_ok394) 0 rfl rfl (q_alen (z_wk z_ok394) 1 rfl hk0 hn (q_iload_n (z_wk z_ok394) 2 rfl rfl (q_iload_n (z_wk z_ok394) 3 rfl rfl (q_invs0 (z_wk z_ok394) 4 rfl rfl (by decide) rfl (Nat.le_of_ble_eq_true rfl) (Nat.le_of_ble_eq_true rfl) (c_range h0 hlh hhn (q_iload_n (z_wk z_ok394) 5 rfl rfl (q_istore (z_wk z_ok394) 6 rfl (L2 := [z_R a, z_I lo, z_I hi, z_I v, z_I lo]) rfl hl))))))))
end ZFILL
