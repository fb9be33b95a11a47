/-! PLAN: its text, the class -/
abbrev zs_c (c : Int) : Prop := c = 46 ∨ c = 101 ∨ c = 110 ∨ c = 115 ∨ c = 119
/-- what was written behind b is so often now -/
def zs_f (F : Int → Int) (b w : Int) : Int → Int := fun j => if j < b then F j else F (b + (j - b) % w)
def zs_rp (F : Int → Int) (b m t i j : Int) : Int ⊕ ((Int → Int) × Int × Int) := if b + t * (m - b) ≤ 95 then .inr (zs_f F b (m - b), b + t * (m - b), j) else .inl (-6000 - i)
def zs_t (q : Int → Int) (i : Int) : Int := if 50 ≤ q i ∧ q i ≤ 57 then q i - 48 else 1
def zs_j (q : Int → Int) (i : Int) : Int := if 50 ≤ q i ∧ q i ≤ 57 then i + 1 else i
/-- steps (true) or one step (false), in D brackets -/
def zs (q : Int → Int) : Nat → Bool → Int → Int → (Int → Int) → Int → Int ⊕ ((Int → Int) × Int × Int)
  | 0, _, _, _, _, _ => .inl (-1)
  | f + 1, true, D, i, F, m => match zs q f false D i F m with
    | .inl x => .inl x
    | .inr (F2, m2, j) => if q j = -1 ∨ (0 < D ∧ q j = 41) then .inr (F2, m2, j) else zs q f true D j F2 m2
  | f + 1, false, D, i, F, m => if q (zs_j q i) = 40 then (if 2 ≤ D then .inl (-5000 - zs_j q i) else
      match zs q f true (D + 1) (zs_j q i + 1) F m with
      | .inl x => .inl x
      | .inr (F2, m2, j) => if q j = 41 then zs_rp F2 m m2 (zs_t q i) i (j + 1) else .inl (-1000 - j))
    else if zs_c (q (zs_j q i)) then zs_rp (zt_put F m (q (zs_j q i))) m (m + 1) (zs_t q i) i (zs_j q i + 1) else .inl (-1000 - zs_j q i)
def zs_pl (q : Int → Int) (g : Int → Int) : Int ⊕ (Int × (Int → Int) × Int) :=
  match zr_sp q 0 with
  | .inl f => .inl f
  | .inr s => if g s ≠ 0 then .inl (-3000) else if q 2 = -1 then .inr (s, fun _ => 0, 0) else
    match zs q 600 true 0 2 (fun _ => 0) 0 with
    | .inl x => .inl x
    | .inr (F, m, _) => .inr (s, F, m)
section ZPL
variable {S M N : z_M} {Q : z_V → z_M → Prop} {q : Int → Int} {n i : Int}
/-- the class's fresh steps -/
def zs_fr (F : Int → Int) (m : Int) (N : z_M) : Prop := N 4 6 = m ∧ ∀ j : Int, 0 ≤ j → j < m → N 961022 j = zk_ch (F j)
theorem zs_mod {w t r : Int} (h0 : 0 ≤ r) (h1 : r < w) : (t * w + r) % w = r := by
  rw [Int.add_comm, Int.add_mul_emod_self_right]
  exact Int.emod_eq_of_lt h0 h1
theorem zs_fr_cc {k : Nat} {j x : Int} (h : z_cor k j = false) (h2 : z_cch k = false) : zc_c N (z_up N k j x) := zc_up h h2
theorem kr_repeat (d : Nat) {F : Int → Int} {b m t : Int} (b0 : 0 ≤ b) (bm : b ≤ m) (m96 : m ≤ 96) (t1 : 1 ≤ t) (t9 : t ≤ 9) (hf : zs_fr F m N)
    (h1 : b + t * (m - b) ≤ 95 → ∀ N' : z_M, zc_c N N' → N' 2 = N 2 → N' 2601014 = N 2601014 → zs_fr (zs_f F b (m - b)) (b + t * (m - b)) N' → Q (z_I 1) N')
    (h0 : ¬ b + t * (m - b) ≤ 95 → Q (z_I 0) N) : z_Cl 0 d 78 [z_R 4, z_I b, z_I t] N Q := by
  have em : N 4 6 = m := hf.1
  have hw : 0 ≤ m - b ∧ m - b ≤ 96 := by omega
  have ht : 0 ≤ t * (m - b) ∧ t * (m - b) ≤ 900 := ⟨Int.mul_nonneg (by omega) hw.1, by
    have := Int.mul_le_mul t9 hw.2 hw.1 (by decide : (0 : Int) ≤ 9)
    omega⟩
  refine re_78 d ?_
  rw [em, z_w_id (x := m - b) (by omega) (by omega), z_w_id (x := t * (m - b)) (by omega) (by omega), z_w_id (x := b + t * (m - b)) (by omega) (by omega)]
  refine ⟨fun c => ?_, fun c => h0 (by omega)⟩
  have hh := h1 c
  generalize hwd : m - b = w at *
  have key : ∀ (r : Nat) (x : Nat) (N' : z_M), (x : Int) + 1 + (r : Int) = t → zc_c N N' → N' 2 = N 2 → N' 2601014 = N 2601014 → zs_fr (zs_f F b w) (b + ((x : Int) + 1) * w) N' → z_G 0 d z_m78 22 [z_R 4, z_I b, z_I t, z_I w, z_I ((x : Int) + 1)] [] N' Q := by
    intro r
    induction r with
    | zero =>
      intro x N' hx cc e2 eb fr
      refine rg_78_22 d ⟨fun _ => hh N' cc e2 eb ?_, fun c2 => absurd c2 (by omega)⟩
      have : (x : Int) + 1 = t := by omega
      rw [this] at fr
      exact fr
    | succ r ih =>
      intro x N' hx cc e2 eb fr
      have es : N' 4 6 = b + ((x : Int) + 1) * w := fr.1
      have hmono : ((x : Int) + 1 + 1) * w ≤ t * w := Int.mul_le_mul_of_nonneg_right (by omega) hw.1
      have hex : ((x : Int) + 1 + 1) * w = ((x : Int) + 1) * w + w := by rw [Int.add_mul ((x : Int) + 1) 1 w, Int.one_mul]
      have hnn : 0 ≤ (x : Int) * w := Int.mul_nonneg (by omega) hw.1
      have hex1 : ((x : Int) + 1) * w = (x : Int) * w + w := by rw [Int.add_mul (x : Int) 1 w, Int.one_mul]
      have es2 : (z_cp N' 961022 b 961022 (b + ((x : Int) + 1) * w) w) 4 6 = b + ((x : Int) + 1) * w := by rw [zy_cp_ne (by decide)]; exact es
      refine rg_78_22 d ⟨fun c2 => absurd c2 (by omega), fun _ => ?_⟩
      rw [es, es2, z_w_id (x := b + ((x : Int) + 1) * w + w) (by omega) (by omega), z_w_id (x := (x : Int) + 1 + 1) (by omega) (by omega)]
      refine ⟨by omega, by omega, by omega, by omega, by omega, ?_⟩
      have := ih (x + 1) (z_up (z_cp N' 961022 b 961022 (b + ((x : Int) + 1) * w) w) 4 6 (b + ((x : Int) + 1) * w + w)) (by omega) ?_ ?_ ?_ ?_
      · exact this
      · refine zc_tr cc (zc_tr ⟨fun k j hk => ?_, fun k hk => ?_⟩ (zc_up rfl rfl))
        · rw [zy_cp_ne (fun z => by rw [z] at hk; cases hk)]
        · rw [zy_cp_ne (fun z => by rw [z] at hk; cases hk)]
      · rw [z_up_ne (by decide), zy_cp_ne (by decide)]; exact e2
      · rw [z_up_ne (by decide), zy_cp_ne (by decide)]; exact eb
      · have e9 : b + ((x + 1 : Nat) : Int) * w + w = b + (((x + 1 : Nat) : Int) + 1) * w := by rw [Int.add_mul ((x + 1 : Nat) : Int) 1 w, Int.one_mul]; omega
        refine ⟨?_, fun j j0 j1 => ?_⟩
        · rw [z_up_eq, ← e9]; rfl
        · rw [← e9] at j1
          rw [z_up_ne (by decide)]
          unfold z_cp
          rw [if_pos rfl]
          by_cases cj : b + ((x : Int) + 1) * w ≤ j
          · rw [if_pos ⟨cj, by have : ((x + 1 : Nat) : Int) = (x : Int) + 1 := rfl; rw [this] at j1; omega⟩]
            have h3 : ((x + 1 : Nat) : Int) = (x : Int) + 1 := rfl
            rw [h3] at j1
            rw [fr.2 (b + (j - (b + ((x : Int) + 1) * w))) (by omega) (by omega)]
            unfold zs_f
            rw [if_neg (by omega), if_neg (by omega)]
            have m1 : (b + (j - (b + ((x : Int) + 1) * w)) - b) % w = j - (b + ((x : Int) + 1) * w) := by
              have := zs_mod (w := w) (t := 0) (r := j - (b + ((x : Int) + 1) * w)) (by omega) (by omega)
              rw [Int.zero_mul, Int.zero_add] at this
              rw [show b + (j - (b + ((x : Int) + 1) * w)) - b = j - (b + ((x : Int) + 1) * w) from by omega]
              exact this
            have m2 : (j - b) % w = j - (b + ((x : Int) + 1) * w) := by
              have := zs_mod (w := w) (t := (x : Int) + 1) (r := j - (b + ((x : Int) + 1) * w)) (by omega) (by omega)
              rw [show ((x : Int) + 1) * w + (j - (b + ((x : Int) + 1) * w)) = j - b from by omega] at this
              exact this
            rw [m1, m2]
          · rw [if_neg (fun z => cj z.1)]
            exact fr.2 j j0 (by omega)
  refine key (t - 1).toNat 0 N (by omega) zc_rf rfl rfl ⟨?_, fun j j0 j1 => ?_⟩
  · rw [show ((0 : Nat) : Int) + 1 = 1 from rfl, Int.one_mul]; rw [hf.1]; omega
  · rw [show ((0 : Nat) : Int) + 1 = 1 from rfl, Int.one_mul] at j1
    rw [hf.2 j j0 (by omega)]
    unfold zs_f
    by_cases c2 : j < b
    · rw [if_pos c2]
    · rw [if_neg c2, Int.emod_eq_of_lt (by omega) (by omega), show b + (j - b) = j from by omega]
theorem kr_way (d : Nat) {c : Int} (h1 : zs_c c → Q (z_I (zk_ch c)) N) (h0 : ¬ zs_c c → Q (z_I (-1)) N) : z_Cl 0 d 77 [z_I c] N Q := by
  unfold zs_c at h1 h0
  unfold zk_ch at h1
  refine re_77 d ⟨fun c1 => ?_, fun c1 => ⟨fun c2 => ?_, fun c2 => ⟨fun c3 => ?_, fun c3 => ⟨fun c4 => ?_, fun c4 => ⟨fun c5 => ?_, fun c5 => h0 (by omega)⟩⟩⟩⟩⟩
  · have := h1 (by omega); rw [if_neg (by omega), if_neg (by omega), if_neg (by omega), if_neg (by omega)] at this; exact this
  · have := h1 (by omega); rw [if_pos c2] at this; exact this
  · have := h1 (by omega); rw [if_neg (by omega), if_pos c3] at this; exact this
  · have := h1 (by omega); rw [if_neg (by omega), if_neg (by omega), if_neg (by omega), if_pos c4] at this; exact this
  · have := h1 (by omega); rw [if_neg (by omega), if_neg (by omega), if_pos c5] at this; exact this
theorem zk_ch_ne {c : Int} : zk_ch c ≠ -1 := by
  unfold zk_ch
  split
  · omega
  · split
    · omega
    · split
      · omega
      · split <;> omega
theorem zs_rp_b {F : Int → Int} {b m t i j j2 m2 : Int} {F2 : Int → Int} (b0 : 0 ≤ b) (bm : b ≤ m) (t1 : 1 ≤ t) (h : zs_rp F b m t i j = .inr (F2, m2, j2)) : j2 = j ∧ 0 ≤ m2 ∧ m2 ≤ 95 ∧ m ≤ m2 := by
  unfold zs_rp at h
  split at h
  · rename_i c
    have := Sum.inr.inj h
    have e1 : b + t * (m - b) = m2 := congrArg (fun z => z.2.1) this
    have e2 : j = j2 := congrArg (fun z => z.2.2) this
    have : 1 * (m - b) ≤ t * (m - b) := Int.mul_le_mul_of_nonneg_right t1 (by omega)
    exact ⟨e2.symm, by omega, by omega, by omega⟩
  · cases h
/-- where a good parse ends -/
theorem zs_end (hT : zr_T q n) : ∀ (f : Nat) (k : Bool) (D i : Int) (F : Int → Int) (m : Int) (F2 : Int → Int) (m2 j : Int), 0 ≤ i → 0 ≤ m → zs q f k D i F m = .inr (F2, m2, j) → i < j ∧ j ≤ n ∧ m ≤ m2 ∧ m2 ≤ 95 ∧ (k = true → q j = -1 ∨ (0 < D ∧ q j = 41)) := by
  intro f
  induction f with
  | zero => intro k D i F m F2 m2 j _ _ h; cases h
  | succ f ih =>
    intro k D i F m F2 m2 j i0 m0 h
    have hj : zs_j q i = i ∨ zs_j q i = i + 1 := by unfold zs_j; split <;> omega
    have htt : 1 ≤ zs_t q i := by unfold zs_t; split <;> omega
    cases k with
    | true =>
      unfold zs at h
      split at h
      · cases h
      · rename_i F3 m3 j3 e
        have h3 := ih false D i F m F3 m3 j3 i0 m0 e
        split at h
        · rename_i c
          have := Sum.inr.inj h
          have e1 : m3 = m2 := congrArg (fun z => z.2.1) this
          have e2 : j3 = j := congrArg (fun z => z.2.2) this
          rw [← e1, ← e2]
          exact ⟨h3.1, h3.2.1, h3.2.2.1, h3.2.2.2.1, fun _ => c⟩
        · have h4 := ih true D j3 F3 m3 F2 m2 j (by omega) (by omega) h
          exact ⟨by omega, h4.2.1, by omega, h4.2.2.2.1, h4.2.2.2.2⟩
    | false =>
      unfold zs at h
      split at h
      · rename_i c40
        split at h
        · cases h
        · split at h
          · cases h
          · rename_i F3 m3 j3 e
            have h3 := ih true (D + 1) (zs_j q i + 1) F m F3 m3 j3 (by omega) m0 e
            split at h
            · rename_i c41
              obtain ⟨a, b, c, e5⟩ := zs_rp_b m0 (by omega) htt h
              have : j3 < n := by
                by_cases z : j3 < n
                · exact z
                · have := hT.2.2.2 j3 (by omega); omega
              exact ⟨by omega, by omega, by omega, c, fun z => by cases z⟩
            · cases h
      · split at h
        · rename_i cc
          obtain ⟨a, b, c, e5⟩ := zs_rp_b m0 (by omega) htt h
          have : zs_j q i < n := by
            by_cases z : zs_j q i < n
            · exact z
            · have := hT.2.2.2 (zs_j q i) (by omega); unfold zs_c at cc; omega
          exact ⟨by omega, by omega, by omega, c, fun z => by cases z⟩
        · cases h
/-- the class reads steps -/
theorem kr_steps (hn90 : n ≤ 90) : ∀ (f : Nat), (∀ (k e : Nat) (D i : Int) (F : Int → Int) (m : Int) (N : z_M) (Q : z_V → z_M → Prop), D + (k : Int) = 2 → 2 * k ≤ e → 0 ≤ D → 2 * (n - i) + 1 < (f : Int) → 2 ≤ i → 0 ≤ m → m ≤ 95 → zr_st q n i N → zs_fr F m N →
      (∀ (F2 : Int → Int) (m2 j : Int) (N' : z_M), zs q f false D i F m = .inr (F2, m2, j) → zc_c N N' → zr_st q n j N' → zs_fr F2 m2 N' → Q (z_I 1) N') →
      (∀ (x : Int) (N' : z_M), zs q f false D i F m = .inl x → zc_c N N' → N' 2 4 = x → Q (z_I 0) N') → z_Cl 0 (e + 2) 76 [z_R 4, z_R 2, z_I D] N Q) ∧
    (∀ (k e : Nat) (D i l3 : Int) (F : Int → Int) (m : Int) (N : z_M) (Q : z_V → z_M → Prop), D + (k : Int) = 2 → 2 * k ≤ e → 0 ≤ D → 2 * (n - i) + 2 < (f : Int) → 0 ≤ l3 → l3 + 2 ≤ i → 0 ≤ m → m ≤ 95 → zr_st q n i N → zs_fr F m N →
      (∀ (F2 : Int → Int) (m2 j : Int) (N' : z_M), zs q f true D i F m = .inr (F2, m2, j) → zc_c N N' → zr_st q n j N' → zs_fr F2 m2 N' → Q (z_I 1) N') →
      (∀ (x : Int) (N' : z_M), zs q f true D i F m = .inl x → zc_c N N' → N' 2 4 = x → Q (z_I 0) N') → z_G 0 (e + 3) z_m75 2 [z_R 4, z_R 2, z_I D, z_I l3] [] N Q) := by
  intro f
  induction f with
  | zero => exact ⟨fun k e D i F m N Q _ _ _ h i2 _ _ st => absurd h (by have := st.2.2.2.1; omega), fun k e D i l3 F m N Q _ _ _ h _ _ _ _ st => absurd h (by have := st.2.2.2.1; omega)⟩
  | succ f ih =>
    obtain ⟨ih1, ih2⟩ := ih
    refine ⟨fun k e D i F m N Q hk he D0 hf i2 m0 m95 st fr h1 h0 => ?_, fun k e D i l3 F m N Q hk he D0 hf l0 li m0 m95 st fr h1 h0 => ?_⟩
    · have hpn := st.2.2.2.1
      unfold zs at h1 h0
      have eF : N 4 6 = m := fr.1
      -- behind the digit
      have main : ∀ (t j : Int) (N1 : z_M), zs_t q i = t → zs_j q i = j → 1 ≤ t → t ≤ 9 → i ≤ j → zc_c N N1 → zr_st q n j N1 → zs_fr F m N1 → z_G 0 (e + 2) z_m76 38 [z_R 4, z_R 2, z_I D, z_I i, z_I m, z_I t, z_U] [] N1 Q := by
        intro t j N1 et ej t1 t9 hij c1 st1 fr1
        rw [et, ej] at h1 h0
        have hjn := st1.2.2.2.1
        have rep : ∀ (F2 : Int → Int) (m2 j2 : Int) (N2 : z_M), m ≤ m2 → m2 ≤ 96 → zc_c N N2 → zr_st q n j2 N2 → zs_fr F2 m2 N2 → (∀ (F3 : Int → Int) (m3 j3 : Int) (N' : z_M), zs_rp F2 m m2 t i j2 = .inr (F3, m3, j3) → zc_c N N' → zr_st q n j3 N' → zs_fr F3 m3 N' → Q (z_I 1) N') → (∀ (x : Int) (N' : z_M), zs_rp F2 m m2 t i j2 = .inl x → zc_c N N' → N' 2 4 = x → Q (z_I 0) N') → z_G 0 (e + 2) z_m76 133 [z_R 4, z_R 2, z_I D, z_I i, z_I m, z_I t, z_U] [] N2 Q := by
          intro F2 m2 j2 N2 a1 a2 c2 st2 fr2 g1 g0
          unfold zs_rp at g1 g0
          exact rg_76_133 (e + 1) (kr_repeat (e + 1) m0 a1 a2 t1 t9 fr2 (fun c N3 c3 e2 eb fr3 => z_y2 (g1 _ _ j2 N3 (if_pos c) (zc_tr c2 c3) (zr_st_of st2 e2 eb) fr3)) (fun c => z_n2 (kr_fail (e + 1) (by omega) (by omega) (fun N3 b3 => z_viI ⟨fun _ => g0 (-6000 - i) N3 (if_neg c) (zc_tr c2 (zc_mv b3.1)) (by rw [b3.2]; omega), fun z => absurd rfl z⟩))))
        refine rg_76_38 (e + 1) (kr_next (e + 1) st1 (z_viI ⟨fun c40 => kr_next (e + 1) st1 (z_viI (kr_way (e + 1) (fun cw => z_viI ⟨fun _ => ?_, fun z => absurd z zk_ch_ne⟩) (fun cw => z_viI ⟨fun z => absurd rfl z, fun _ => kr_wrong e st1 (fun N' b => z_viI (z_bl_of (Or.inl rfl) (h0 _ N' ?_ (zc_tr c1 (zc_mv b.1)) b.2)))⟩))), fun c40 => ⟨fun cD => ?_, fun cD => kr_place (e + 1) st1 (z_viI (kr_fail (e + 1) (by omega) (by omega) (fun N' b => z_viI (z_bl_of (Or.inl rfl) (h0 (-5000 - j) N' ?_ (zc_tr c1 (zc_mv b.1)) (by rw [b.2]; omega))))))⟩⟩))
        · -- one step
          have hj : j < n := by
            by_cases z : j < n
            · exact z
            · have := st1.1.2.2.2 j (by omega); unfold zs_c at cw; omega
          refine kr_skip (e + 1) st1 hj (fun st2 => ?_)
          have ef2 : (z_up N1 2 3 (j + 1)) 4 6 = m := by rw [z_up_ne (by decide)]; exact fr1.1
          rw [ef2]
          have ef3 : (z_up (z_up N1 2 3 (j + 1)) 961022 m (zk_ch (q j))) 4 6 = m := by rw [z_up_ne (by decide)]; exact ef2
          rw [ef3, z_w_id (x := m + 1) (by omega) (by omega)]
          refine ⟨m0, by omega, rep (zt_put F m (q j)) (m + 1) (j + 1) _ (by omega) (by omega) (zc_tr c1 (zc_tr (zc_up rfl rfl) (zc_tr (zc_up rfl rfl) (zc_up rfl rfl)))) (zr_st_of st2 (by rw [z_up_ne (by decide), z_up_ne (by decide)]) (by rw [z_up_ne (by decide), z_up_ne (by decide)])) ⟨z_up_eq, fun x x0 x1 => ?_⟩ (fun F3 m3 j3 N' ee => h1 F3 m3 j3 N' (by rw [if_neg c40, if_pos cw]; exact ee)) (fun x N' ee => h0 x N' (by rw [if_neg c40, if_pos cw]; exact ee))⟩
          rw [z_up_ne (by decide)]
          by_cases cx : x = m
          · rw [cx, z_up_eq, zt_put_e]
          · rw [z_up_nj cx, zt_put_n cx, z_up_ne (by decide)]
            exact fr1.2 x x0 (by omega)
        · rw [if_neg c40, if_neg cw]
        · -- a bracket
          obtain ⟨k', rfl⟩ : ∃ k', k = k' + 1 := ⟨k - 1, by omega⟩
          obtain ⟨e', rfl⟩ : ∃ e', e = e' + 2 := ⟨e - 2, by omega⟩
          have hj : j < n := by
            by_cases z : j < n
            · exact z
            · have := st1.1.2.2.2 j (by omega); omega
          have hD2 : ¬ 2 ≤ D := by omega
          rw [if_pos c40, if_neg hD2] at h1 h0
          refine kr_skip (e' + 2 + 1) st1 hj (fun st2 => ?_)
          rw [z_w_id (x := D + 1) (by omega) (by omega)]
          have c2 : zc_c N (z_up N1 2 3 (j + 1)) := zc_tr c1 (zc_up rfl rfl)
          have fr2 : zs_fr F m (z_up N1 2 3 (j + 1)) := ⟨by rw [z_up_ne (by decide)]; exact fr1.1, fun x x0 x1 => by rw [z_up_ne (by decide)]; exact fr1.2 x x0 x1⟩
          generalize z_up N1 2 3 (j + 1) = N2 at st2 c2 fr2
          refine re_75 (e' + 2) (ih2 k' e' (D + 1) (j + 1) 0 F m N2 _ (by omega) (by omega) (by omega) (by omega) (by omega) (by omega) m0 m95 st2 fr2 (fun F2 m2 j2 N3 e3 c3 st3 fr3 => z_y1 ?_) (fun x N3 e3 c3 b3 => z_n1 (rg_76_86 (e' + 2 + 1) (h0 x N3 (by rw [e3]) (zc_tr c2 c3) b3))))
          rw [e3] at h1 h0
          dsimp only at h1 h0
          obtain ⟨_, _, mm, m295, _⟩ := zs_end st.1 f true (D + 1) (j + 1) F m F2 m2 j2 (by omega) m0 e3
          refine kr_take (e' + 2) st3 (by decide) (fun e41 _ st4 => z_y2 ?_) (fun ne N4 b4 => z_n2 (rg_76_86 (e' + 2 + 1) (h0 _ N4 (if_neg ne) (zc_tr c2 (zc_tr c3 (zc_mv b4.1))) b4.2)))
          rw [if_pos e41] at h1 h0
          refine rep F2 m2 (j2 + 1) _ mm (by omega) (zc_tr c2 (zc_tr c3 (zc_up rfl rfl))) st4 ⟨by rw [z_up_ne (by decide)]; exact fr3.1, fun x x0 x1 => by rw [z_up_ne (by decide)]; exact fr3.2 x x0 x1⟩ h1 h0
        · rw [if_pos c40, if_pos (by omega)]
      refine re_76 (e + 1) (kr_place (e + 1) st (z_viI (kr_next (e + 1) st (z_viI ⟨fun c => ?_, fun c => kr_next (e + 1) st (z_viI ⟨fun c2 => ?_, fun c2 => kr_digit e st (fun hd hi st2 => z_viI ?_) (fun hd => absurd (by unfold zr_d; omega) hd)⟩)⟩))))
      · rw [eF]
        exact main 1 i N (by unfold zs_t; rw [if_neg (by omega)]) (by unfold zs_j; rw [if_neg (by omega)]) (by decide) (by decide) (by omega) zc_rf st fr
      · rw [eF]
        exact main 1 i N (by unfold zs_t; rw [if_neg (by omega)]) (by unfold zs_j; rw [if_neg (by omega)]) (by decide) (by decide) (by omega) zc_rf st fr
      · rw [eF]
        exact main (q i - 48) (i + 1) _ (by unfold zs_t; rw [if_pos ⟨c, c2⟩]) (by unfold zs_j; rw [if_pos ⟨c, c2⟩]) (by omega) (by omega) (by omega) (zc_up rfl rfl) st2 ⟨by rw [z_up_ne (by decide)]; exact fr.1, fun x x0 x1 => by rw [z_up_ne (by decide)]; exact fr.2 x x0 x1⟩
    · have hpn := st.2.2.2.1
      unfold zs at h1 h0
      refine rg_75_2 (e + 2) ⟨fun c => absurd c (by omega), fun _ => ih1 k e D i F m N _ hk he D0 (by omega) (by omega) m0 m95 st fr (fun F2 m2 j N2 e2 c2 st2 fr2 => z_y2 ?_) (fun x N2 e2 c2 b2 => z_n2 (h0 x N2 (by rw [e2]) c2 b2))⟩
      rw [e2] at h1 h0
      dsimp only at h1 h0
      obtain ⟨ij, jn, mm, m295, _⟩ := zs_end st.1 f false D i F m F2 m2 j (by omega) m0 e2
      refine kr_atEnd (e + 2) st2 (fun je qe => z_y2 (h1 F2 m2 j N2 (if_pos (Or.inl qe)) c2 st2 fr2)) (fun jl qn => z_n2 ?_)
      have again : ¬ (q j = -1 ∨ (0 < D ∧ q j = 41)) → z_G 0 (e + 3) z_m75 2 [z_R 4, z_R 2, z_I D, z_I (z_w (l3 + 1))] [] N2 Q := by
        intro cn
        rw [if_neg cn] at h1 h0
        rw [z_w_id (x := l3 + 1) (by omega) (by omega)]
        exact ih2 k e D j (l3 + 1) F2 m2 N2 Q hk he D0 (by omega) (by omega) (by omega) (by omega) m295 st2 fr2 (fun F3 m3 j3 N3 e3 c3 st3 fr3 => h1 F3 m3 j3 N3 e3 (zc_tr c2 c3) st3 fr3) (fun x N3 e3 c3 b3 => h0 x N3 e3 (zc_tr c2 c3) b3)
      refine ⟨fun c => again (fun z => by rcases z with z | z <;> omega), fun c => kr_next (e + 2) st2 (z_viI ⟨fun c41 => again (fun z => by rcases z with z | z <;> omega), fun c41 => h1 F2 m2 j N2 (if_pos (Or.inr ⟨c, c41⟩)) c2 st2 fr2⟩)⟩
end ZPL
