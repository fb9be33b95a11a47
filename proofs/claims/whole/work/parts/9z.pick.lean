/-! OPS: ask, enough; the class's choice -/
section ZPIC
variable {S M : z_M} {Q : z_V → z_M → Prop}
abbrev zy_F := (Nat → Bool) → Int
def zy_tt : Nat → Bool := fun _ => true
abbrev zy_X := Int × Int × Int
def zy_stp (S : z_M) (W : zy_F) (t p : Nat) (s : zy_X) : zy_X := if z_tl S (p : Int) then (if zx_mx W (zx_A S p (t : Int)) 1024 < s.1 then (zx_mx W (zx_A S p (t : Int)) 1024, (p : Int), (t : Int)) else s) else s
def zy_row (S : z_M) (W : zy_F) (t : Nat) (s : zy_X) : zy_X := zx_fo (fun p s => zy_stp S W t p s) 0 s 10
def zy_pk (S : z_M) (W : zy_F) (a : Int) : zy_X := zx_fo (fun t s => zy_row S W t s) 0 (a, -2, -2) 96
def zy_W (kk : Nat → Nat) (ww : Nat → Int) (n : Nat) : zy_F := fun P => zx_sw P kk ww n
/-- all that the questions stand on -/
def zy_ql (S N : z_M) (n : Nat) (kk : Nat → Nat) (ww : Nat → Int) : Prop := z_sit S N ∧ zx_QL S N n kk ww ∧ N 9 8 = zy_W kk ww n zy_tt
theorem zy_fr {N : z_M} {n : Nat} {kk : Nat → Nat} {ww : Nat → Int} (h : zy_ql S M n kk ww) (hN : z_sit S N) (f : zx_fr M N) : zy_ql S N n kk ww := ⟨hN, zx_fr_QL f h.2.1, by rw [f.2.2 _ (by decide)]; exact h.2.2⟩
theorem zy_u9 {N : z_M} {n : Nat} {kk : Nat → Nat} {ww : Nat → Int} (h : zy_ql S N n kk ww) (j x : Int) (h1 : j ≠ 7) (h2 : j ≠ 8) (hc : z_cor 9 j = false) : zy_ql S (z_up N 9 j x) n kk ww := ⟨z_at_up h.1 9 j x hc rfl, ⟨by rw [z_up_nj (Ne.symm h1)]; exact h.2.1.1, fun i hi => by rw [z_up_ne (by decide), z_up_ne (by decide)]; exact h.2.1.2 i hi⟩, by rw [z_up_nj (Ne.symm h2)]; exact h.2.2⟩
theorem kc_pick (d : Nat) {n : Nat} {kk : Nat → Nat} {ww : Nat → Int} (hI : z_IS S) (h0 : zx_Q0 S) (hn : n ≤ 729) (hw : ∀ i, i < n → 0 ≤ ww i ∧ ww i ≤ 2) (hq : zy_ql S M n kk ww) (h : ∀ N : z_M, zy_ql S N n kk ww → N 9 9 = (zy_pk S (zy_W kk ww n) (zy_W kk ww n zy_tt + 1)).2.1 → N 9 10 = (zy_pk S (zy_W kk ww n) (zy_W kk ww n zy_tt + 1)).2.2 → N 9 11 = z_min (zy_pk S (zy_W kk ww n) (zy_W kk ww n zy_tt + 1)).1 (zy_W kk ww n zy_tt) → Q z_U N) : z_Cl 0 (d + 5) 84 [z_R 9] M Q := by
  have lb : 0 ≤ zy_W kk ww n zy_tt ∧ zy_W kk ww n zy_tt ≤ 2 * (n : Int) := zx_sw_b n hw
  refine re_84 (d + 4) ?_
  rw [z_up_nj (M := z_up M 9 9 (-2)) (by decide), z_up_nj (M := M) (by decide), hq.2.2, z_w_id (by omega) (by omega)]
  refine zx_lpf (fun t s => zy_row S (zy_W kk ww n) t s) 0 96 (zy_W kk ww n zy_tt + 1, -2, -2) (fun _ s N => zy_ql S N n kk ww ∧ N 9 9 = s.2.1 ∧ N 9 10 = s.2.2 ∧ N 9 11 = s.1) (fun N t => z_G 0 (d + 5) z_m84 24 [z_R 9, z_I (t : Int), z_U, z_U] [] N Q) _ ⟨zy_u9 (zy_u9 (zy_u9 hq _ _ (by decide) (by decide) rfl) _ _ (by decide) (by decide) rfl) _ _ (by decide) (by decide) rfl, by rw [z_up_nj (by decide), z_up_nj (by decide), z_up_eq], by rw [z_up_nj (by decide), z_up_eq], z_up_eq⟩ (fun t s N _ hi hI' nx => ?_) (fun N hI' => ?_)
  · refine rg_84_24 (d + 4) ⟨fun c => absurd c (by omega), fun _ => ?_⟩
    refine zx_lpf (fun p s => zy_stp S (zy_W kk ww n) t p s) 0 10 s (fun _ s N => zy_ql S N n kk ww ∧ N 9 9 = s.2.1 ∧ N 9 10 = s.2.2 ∧ N 9 11 = s.1) (fun N p => z_G 0 (d + 5) z_m84 32 [z_R 9, z_I (t : Int), z_I (p : Int), z_U] [] N Q) N hI' (fun p s2 N2 _ hp hI2 nx2 => ?_) (fun N2 hI2 => ?_)
    · obtain ⟨q2, w2, v2, a2⟩ := hI2
      unfold zy_stp at nx2
      refine rg_84_32 (d + 4) ⟨fun c => absurd c (by omega), fun _ => kc_isTold (d + 3) q2.1 hI.1 (fun ht => z_y2 ?_) (fun ht => z_n2 ?_)⟩
      · rw [if_pos ht] at nx2
        refine kc_tallyUp d q2.1 hI h0 ht (by omega) (by omega) hn q2.2.1 hw (fun i N3 hin hN3 hf3 hc3 hb => z_viI ?_)
        refine kc_wipe d hN3 hI h0 ht (by omega) (by omega) hn hin (zx_fr_QL hf3 q2.2.1) hc3 (fun N4 hN4 hf4 => ?_)
        have hf := zx_fr_tr hf3 hf4
        have q4 := zy_fr q2 hN4 hf
        have a4 : N4 9 11 = s2.1 := by rw [hf.2.2 _ (by decide)]; exact a2
        have hmx : zx_mm (zx_A S p (t : Int)) kk ww n = zx_mx (zy_W kk ww n) (zx_A S p (t : Int)) 1024 := zx_mm_mx (fun k => zx_A_lt) (fun i hi => (hw i hi).1) (fun P => rfl)
        have hmo := zx_mm_mo (A := zx_A S p (t : Int)) (kk := kk) (ww := ww) (m := i) (n - i)
        rw [show i + (n - i) = n from by omega, hmx] at hmo
        rw [a2] at hb
        rw [a4, z_wq (by omega)]
        refine ⟨fun c => ?_, fun c => ?_⟩
        · rw [if_neg (by omega)] at nx2
          exact nx2 N4 ⟨q4, by rw [hf.2.2 _ (by decide)]; exact w2, by rw [hf.2.2 _ (by decide)]; exact v2, a4⟩
        · have hin2 : i = n := by
            rcases hb with hb | hb
            · exact hb
            · omega
          rw [hin2, hmx] at c ⊢
          rw [if_pos c] at nx2
          exact nx2 _ ⟨zy_u9 (zy_u9 (zy_u9 q4 _ _ (by decide) (by decide) rfl) _ _ (by decide) (by decide) rfl) _ _ (by decide) (by decide) rfl, by rw [z_up_nj (by decide), z_up_eq], z_up_eq, by rw [z_up_nj (by decide), z_up_nj (by decide), z_up_eq]⟩
      · rw [if_neg ht] at nx2
        rw [z_wq (by omega)]
        exact nx2 N2 ⟨q2, w2, v2, a2⟩
    · refine rg_84_32 (d + 4) ⟨fun _ => ?_, fun c => absurd c (by decide)⟩
      rw [z_wq (by omega)]
      exact nx N2 hI2
  · obtain ⟨q2, w2, v2, a2⟩ := hI'
    refine rg_84_24 (d + 4) ⟨fun _ => ?_, fun c => absurd c (by decide)⟩
    rw [a2, q2.2.2]
    exact h _ (zy_u9 q2 _ _ (by decide) (by decide) rfl) (by rw [z_up_nj (by decide)]; exact w2) (by rw [z_up_nj (by decide)]; exact v2) z_up_eq
/-- of pick's result -/
theorem zy_stp_i {W : zy_F} {t p : Nat} {s : zy_X} {a : Int} (h : (s.2.1 = -2 ∧ s.1 = a) ∨ (∃ w v : Nat, v < 96 ∧ z_tl S (w : Int) ∧ s = (zx_mx W (zx_A S w (v : Int)) 1024, (w : Int), (v : Int)))) (ht : t < 96) : ((zy_stp S W t p s).2.1 = -2 ∧ (zy_stp S W t p s).1 = a) ∨ (∃ w v : Nat, v < 96 ∧ z_tl S (w : Int) ∧ zy_stp S W t p s = (zx_mx W (zx_A S w (v : Int)) 1024, (w : Int), (v : Int))) := by
  unfold zy_stp
  split
  · next c =>
    split
    · exact Or.inr ⟨p, t, ht, c, rfl⟩
    · exact h
  · exact h
theorem zx_fo_i {α : Type} {f : Nat → α → α} {I : α → Prop} {lo m : Nat} {s : α} (h : I s) (st : ∀ q s, lo ≤ q → q < lo + m → I s → I (f q s)) : ∀ k, k ≤ m → I (zx_fo f lo s k) := by
  intro k
  induction k with
  | zero => intro _; exact h
  | succ k ih => intro hk; exact st (lo + k) _ (by omega) (by omega) (ih (by omega))
theorem zy_pk_i (W : zy_F) (a : Int) : ((zy_pk S W a).2.1 = -2 ∧ (zy_pk S W a).1 = a) ∨ (∃ w v : Nat, v < 96 ∧ z_tl S (w : Int) ∧ zy_pk S W a = (zx_mx W (zx_A S w (v : Int)) 1024, (w : Int), (v : Int))) := by
  unfold zy_pk
  refine zx_fo_i (I := fun s => (s.2.1 = -2 ∧ s.1 = a) ∨ (∃ w v : Nat, v < 96 ∧ z_tl S (w : Int) ∧ s = (zx_mx W (zx_A S w (v : Int)) 1024, (w : Int), (v : Int)))) (f := fun t s => zy_row S W t s) (lo := 0) (m := 96) (s := (a, -2, -2)) (Or.inl ⟨rfl, rfl⟩) (fun t s _ ht hs => ?_) 96 (Nat.le_refl _)
  exact zx_fo_i (I := fun s => (s.2.1 = -2 ∧ s.1 = a) ∨ (∃ w v : Nat, v < 96 ∧ z_tl S (w : Int) ∧ s = (zx_mx W (zx_A S w (v : Int)) 1024, (w : Int), (v : Int)))) (f := fun p s => zy_stp S W t p s) (lo := 0) (m := 10) (s := s) hs (fun p s2 _ _ h2 => zy_stp_i (W := W) (t := t) (p := p) (s := s2) (a := a) h2 (by omega)) 10 (Nat.le_refl _)
/-- the likeliest answer -/
def zy_lk (W : zy_F) (A : Nat → Nat) : Nat → Nat
  | 0 => 0
  | c + 1 => if W (zx_is A (zy_lk W A c)) < W (zx_is A c) then c else zy_lk W A c
theorem zy_lk_i {W : zy_F} {A : Nat → Nat} : ∀ m, (∀ c, c < m → W (zx_is A c) ≤ W (zx_is A (zy_lk W A m))) ∧ (∀ c, c < zy_lk W A m → W (zx_is A c) < W (zx_is A (zy_lk W A m))) ∧ (m ≠ 0 → zy_lk W A m < m) := by
  intro m
  induction m with
  | zero => exact ⟨fun c h => absurd h (Nat.not_lt_zero c), fun c h => absurd h (Nat.not_lt_zero c), fun h => absurd rfl h⟩
  | succ m ih =>
    obtain ⟨i1, i2, i3⟩ := ih
    unfold zy_lk
    by_cases c : W (zx_is A (zy_lk W A m)) < W (zx_is A m)
    · rw [if_pos c]
      refine ⟨fun c' h => ?_, fun c' h => ?_, fun _ => Nat.lt_succ_self m⟩
      · by_cases e : c' = m
        · rw [e]; exact Int.le_refl _
        · have := i1 c' (by omega); omega
      · have := i1 c' (by omega); omega
    · rw [if_neg c]
      refine ⟨fun c' h => ?_, i2, fun _ => ?_⟩
      · by_cases e : c' = m
        · rw [e]; omega
        · exact i1 c' (by omega)
      · by_cases e : m = 0
        · subst e; exact Nat.zero_lt_one
        · have := i3 e; omega
theorem zy_lk_mx {W : zy_F} {A : Nat → Nat} (hp : ∀ P, 0 ≤ W P) : W (zx_is A (zy_lk W A 1024)) = zx_mx W A 1024 := by
  obtain ⟨i1, i2, i3⟩ := zy_lk_i (W := W) (A := A) 1024
  have g := zx_mx_ge (W := W) (A := A) 1024
  refine Int.le_antisymm (g.2 _ (i3 (by decide))) ?_
  have : ∀ m, m ≤ 1024 → zx_mx W A m ≤ W (zx_is A (zy_lk W A 1024)) := by
    intro m
    induction m with
    | zero => intro _; exact hp _
    | succ m ih =>
      intro hm
      have := ih (by omega)
      have := i1 m (by omega)
      unfold zx_mx z_max
      split <;> omega
  exact this 1024 (Nat.le_refl _)
def zy_nx (W : zy_F) (A : Nat → Nat) (a : Nat) : zy_F := fun P => W (fun k => P k && decide (A k = a))
theorem zx_sw_le {P P' : Nat → Bool} {kk : Nat → Nat} {ww : Nat → Int} (h : ∀ k, P k = true → P' k = true) : ∀ m, (∀ i, i < m → 0 ≤ ww i) → zx_sw P kk ww m ≤ zx_sw P' kk ww m := by
  intro m
  induction m with
  | zero => intro _; exact Int.le_refl _
  | succ m ih =>
    intro hw
    have i1 := ih (fun i hi => hw i (by omega))
    have := hw m (by omega)
    unfold zx_sw
    by_cases c : P (kk m) = true
    · rw [if_pos c, if_pos (h _ c)]; omega
    · rw [if_neg c]; split <;> omega
theorem zx_sw_ext {P : Nat → Bool} {kk kk' : Nat → Nat} {ww ww' : Nat → Int} : ∀ m, (∀ i, i < m → kk i = kk' i ∧ ww i = ww' i) → zx_sw P kk ww m = zx_sw P kk' ww' m := by
  intro m
  induction m with
  | zero => intro _; rfl
  | succ m ih =>
    intro h
    have e := h m (by omega)
    unfold zx_sw
    rw [ih (fun i hi => h i (by omega)), e.1, e.2]
theorem zy_mx_le {kk : Nat → Nat} {ww : Nat → Int} {n : Nat} {A : Nat → Nat} (hw : ∀ i, i < n → 0 ≤ ww i ∧ ww i ≤ 2) : zx_mx (zy_W kk ww n) A 1024 ≤ zy_W kk ww n zy_tt := by
  have lb := zx_sw_b (P := zy_tt) (kk := kk) n hw
  exact zx_mx_le lb.1 (fun c => zx_sw_le (fun k _ => rfl) n (fun i hi => (hw i hi).1)) 1024
theorem kc_keepMost (d : Nat) {n w v : Nat} {kk : Nat → Nat} {ww : Nat → Int} (hI : z_IS S) (h0 : zx_Q0 S) (hn : n ≤ 729) (hw : ∀ i, i < n → 0 ≤ ww i ∧ ww i ≤ 2) (hq : zy_ql S M n kk ww) (ht : z_tl S (w : Int)) (hv : v < 96) (e9 : M 9 9 = (w : Int)) (e10 : M 9 10 = (v : Int)) (h : ∀ (N : z_M) (n' : Nat) (kk' : Nat → Nat) (ww' : Nat → Int), n' ≤ 729 → (∀ i, i < n' → 0 ≤ ww' i ∧ ww' i ≤ 2) → zy_ql S N n' kk' ww' → zy_W kk' ww' n' = zy_nx (zy_W kk ww n) (zx_A S w (v : Int)) (zy_lk (zy_W kk ww n) (zx_A S w (v : Int)) 1024) → Q z_U N) : z_Cl 0 (d + 5) 88 [z_R 9] M Q := by
  have lb : 0 ≤ zy_W kk ww n zy_tt ∧ zy_W kk ww n zy_tt ≤ 2 * (n : Int) := zx_sw_b n hw
  have hA : ∀ k, zx_A S w (v : Int) k < 1024 := fun k => zx_A_lt
  have mxl := zy_mx_le (kk := kk) (A := zx_A S w (v : Int)) hw
  have hmx : zx_mm (zx_A S w (v : Int)) kk ww n = zx_mx (zy_W kk ww n) (zx_A S w (v : Int)) 1024 := zx_mm_mx hA (fun i hi => (hw i hi).1) (fun P => rfl)
  refine re_88 (d + 4) ?_
  rw [e9, e10, hq.2.2, z_w_id (by omega) (by omega)]
  refine kc_tallyUp d hq.1 hI h0 ht (by omega) (by omega) hn hq.2.1 hw (fun i N hin hN hf hc hb => z_viI ?_)
  have hin2 : i = n := by
    rcases hb with hb | hb
    · exact hb
    · have hmo := zx_mm_mo (A := zx_A S w (v : Int)) (kk := kk) (ww := ww) (m := i) (n - i)
      rw [show i + (n - i) = n from by omega, hmx] at hmo
      omega
  subst hin2
  have tal : ∀ c : Nat, c < 1024 → N 10241045 (c : Int) = zy_W kk ww i (zx_is (zx_A S w (v : Int)) c) := by
    intro c hc
    rw [z_fn hN 10241045 rfl, zx_q_t]
    unfold zx_T
    rw [if_pos (by omega), Int.toNat_natCast]; rfl
  refine z_lpi (n := 1024) (fun c => ((zy_lk (zy_W kk ww i) (zx_A S w (v : Int)) c : Nat) : Int)) (fun _ N' => N' = N) (fun N v q => z_G 0 (d + 5) z_m88 23 [z_R 9, z_I v, z_I q, z_U, z_U] [] N Q) N rfl (fun c N' hcc hN' nx => ?_) (fun N' hN' => ?_)
  · subst hN'
    have nx' := nx N' rfl
    have e : zy_lk (zy_W kk ww i) (zx_A S w (v : Int)) (c + 1) = if zy_W kk ww i (zx_is (zx_A S w (v : Int)) (zy_lk (zy_W kk ww i) (zx_A S w (v : Int)) c)) < zy_W kk ww i (zx_is (zx_A S w (v : Int)) c) then c else zy_lk (zy_W kk ww i) (zx_A S w (v : Int)) c := rfl
    have l3 := (zy_lk_i (W := zy_W kk ww i) (A := zx_A S w (v : Int)) c).2.2
    have l4 : zy_lk (zy_W kk ww i) (zx_A S w (v : Int)) c < 1024 := by
      by_cases z : c = 0
      · subst z; exact (by decide : (0 : Nat) < 1024)
      · have := l3 z; omega
    refine rg_88_23 (d + 4) ⟨fun c => absurd c (by omega), fun _ => ⟨by omega, by omega, by omega, by omega, ?_⟩⟩
    rw [tal c hcc, tal _ l4, z_wq (by omega)]
    refine ⟨fun c => ?_, fun c => ?_⟩
    · rw [e, if_neg (by omega)] at nx'; exact nx'
    · rw [e, if_pos c] at nx'; exact nx'
  · subst hN'
    have l3 := (zy_lk_i (W := zy_W kk ww i) (A := zx_A S w (v : Int)) 1024).2.2 (by decide)
    refine rg_88_23 (d + 4) ⟨fun _ => ⟨by omega, by omega, ?_⟩, fun c => absurd c (by decide)⟩
    rw [z_up_nj (by decide), z_up_nj (by decide), hf.2.2 9 (by decide), hf.2.2 10 (by decide), e9, e10, tal _ l3]
    generalize zy_lk (zy_W kk ww i) (zx_A S w (v : Int)) 1024 = a at *
    have hf1 : zx_fr N' (z_up N' 9 8 (zy_W kk ww i (zx_is (zx_A S w (v : Int)) a))) → True := fun _ => trivial
    have hl1 := zx_fr_QL hf hq.2.1
    have hl2 : zx_QL S (z_up N' 9 8 (zy_W kk ww i (zx_is (zx_A S w (v : Int)) a))) i kk ww := ⟨by rw [z_up_nj (by decide)]; exact hl1.1, fun k hk => by rw [z_up_ne (by decide), z_up_ne (by decide)]; exact hl1.2 k hk⟩
    refine kc_wipe d (z_at_up hN 9 _ _ rfl rfl) hI h0 ht (by omega) (by omega) hn (Nat.le_refl i) hl2 (by rw [z_up_nj (by decide)]; exact hc) (fun N3 hN3 hf3 => ?_)
    have hl3 := zx_fr_QL hf3 hl2
    have w3 : N3 9 9 = (w : Int) := by rw [hf3.2.2 _ (by decide), z_up_nj (by decide), hf.2.2 _ (by decide)]; exact e9
    have v3 : N3 9 10 = (v : Int) := by rw [hf3.2.2 _ (by decide), z_up_nj (by decide), hf.2.2 _ (by decide)]; exact e10
    have l3' : N3 9 8 = zy_W kk ww i (zx_is (zx_A S w (v : Int)) a) := by rw [hf3.2.2 _ (by decide), z_up_eq]
    -- what stays
    have key : ∀ (r k st : Nat) (N4 : z_M) (kk' : Nat → Nat) (ww' : Nat → Int), k + r = i → st ≤ k → z_sit S N4 → N4 9 = N3 9 → (∀ m : Nat, k ≤ m → m < i → N4 7291043 (m : Int) = (z_bs 30 (zx_rb S (kk m) 10) : Int) ∧ N4 7291044 (m : Int) = ww m) → (∀ m : Nat, m < st → (N4 7291043 (m : Int) = (z_bs 30 (zx_rb S (kk' m) 10) : Int) ∧ N4 7291044 (m : Int) = ww' m) ∧ (0 ≤ ww' m ∧ ww' m ≤ 2)) → (∀ P : Nat → Bool, zx_sw P kk' ww' st = zx_sw (fun x => P x && decide (zx_A S w (v : Int) x = a)) kk ww k) → z_G 0 (d + 5) z_m88 85 [z_R 9, z_I (a : Int), z_I (st : Int), z_I (k : Int), z_U] [] N4 Q := by
      intro r
      induction r with
      | zero =>
        intro k st N4 kk' ww' hk hst hN4 h9 ho hd hs
        have ek : k = i := by omega
        subst ek
        refine rg_88_85 (d + 4) ⟨fun _ => ?_, fun c => absurd c (by rw [h9, hl3.1]; omega)⟩
        refine h _ st kk' ww' (by omega) (fun m hm => (hd m hm).2) ⟨z_at_up hN4 _ _ _ rfl rfl, ⟨z_up_eq, fun m hm => by rw [z_up_ne (by decide), z_up_ne (by decide)]; exact (hd m hm).1⟩, ?_⟩ (funext fun P => hs P)
        rw [z_up_nj (by decide), h9, l3']
        show _ = zx_sw zy_tt kk' ww' st
        rw [hs zy_tt]
        exact zx_sw_cg (fun x => by show decide _ = (true && decide _); rw [Bool.true_and]) k
      | succ r ih =>
        intro k st N4 kk' ww' hk hst hN4 h9 ho hd hs
        obtain ⟨r1, r2⟩ := ho k (Nat.le_refl k) (by omega)
        have w4 : N4 9 9 = (w : Int) := by rw [h9]; exact w3
        refine rg_88_85 (d + 4) ⟨fun c => absurd c (by rw [h9, hl3.1]; omega), fun _ => ⟨by omega, by omega, ?_⟩⟩
        rw [w4]
        have hN4q : z_sit (zx_q S (S 10241045)) N4 := by rw [zx_q_id]; exact hN4
        refine kc_ask1 (d + 1) (t := (v : Int)) (tt := fun M1 => M1 9 10) hN4q hI ht (by omega) (by omega) (by omega) (by omega) r1 (by show N4 9 10 = _; rw [h9]; exact v3) (fun N5 hN5q g => z_viI ?_)
        have hN5 : z_sit S N5 := by rw [zx_q_id] at hN5q; exact hN5q
        have f5 := zx_fr_ag g
        have h95 : N5 9 = N3 9 := by rw [z_ag_k g 9 rfl rfl]; exact h9
        have ho5 : ∀ m : Nat, k + 1 ≤ m → m < i → N5 7291043 (m : Int) = (z_bs 30 (zx_rb S (kk m) 10) : Int) ∧ N5 7291044 (m : Int) = ww m := fun m a b => by rw [f5.1, f5.2.1]; exact ho m (by omega) b
        have hd5 : ∀ m : Nat, m < st → (N5 7291043 (m : Int) = (z_bs 30 (zx_rb S (kk' m) 10) : Int) ∧ N5 7291044 (m : Int) = ww' m) ∧ (0 ≤ ww' m ∧ ww' m ≤ 2) := fun m a => by rw [f5.1, f5.2.1]; exact hd m a
        rw [z_wq (q := k) (by omega)]
        refine ⟨fun c => ?_, fun c => ⟨by omega, by omega, by omega, by omega, by omega, by omega, by omega, by omega, ?_⟩⟩
        · refine ih (k + 1) st N5 kk' ww' (by omega) (by omega) hN5 h95 ho5 hd5 (fun P => ?_)
          rw [hs P]
          show _ = zx_sw _ kk ww k + (if (P (kk k) && decide (zx_A S w (v : Int) (kk k) = a)) = true then ww k else 0)
          rw [decide_eq_false (show ¬ zx_A S w (v : Int) (kk k) = a from fun z => c (by rw [z])), Bool.and_false, if_neg (by decide)]; omega
        · have c' : zx_A S w (v : Int) (kk k) = a := by omega
          rw [z_up_ne (M := N5) (k := 7291044) (by decide), f5.1, f5.2.1, r1, r2, z_wq (q := st) (by omega)]
          refine ih (k + 1) (st + 1) _ (fun m => if m = st then kk k else kk' m) (fun m => if m = st then ww k else ww' m) (by omega) (by omega) (z_at_up (z_at_up hN5 _ _ _ rfl rfl) _ _ _ rfl rfl) (by rw [z_up_ne (by decide), z_up_ne (by decide)]; exact h95) (fun m a b => ?_) (fun m hm => ?_) (fun P => ?_)
          · rw [z_up_ne (k := 7291043) (by decide), z_up_nj (by omega), z_up_nj (by omega), z_up_ne (by decide)]
            exact ho5 m a b
          · by_cases e : m = st
            · rw [e, z_up_ne (k := 7291043) (by decide), z_up_eq, z_up_eq]
              rw [if_pos rfl, if_pos rfl]
              exact ⟨⟨rfl, rfl⟩, hw k (by omega)⟩
            · rw [z_up_ne (k := 7291043) (by decide), z_up_nj (by omega), z_up_nj (by omega), z_up_ne (by decide)]
              rw [if_neg e, if_neg e]
              exact hd5 m (by omega)
          · show zx_sw P _ _ st + (if P (if st = st then kk k else kk' st) = true then (if st = st then ww k else ww' st) else 0) = zx_sw _ kk ww k + (if (P (kk k) && decide (zx_A S w (v : Int) (kk k) = a)) = true then ww k else 0)
            rw [if_pos rfl, if_pos rfl, decide_eq_true c', Bool.and_true, ← hs P]
            congr 1
            exact zx_sw_ext st (fun m hm => by rw [if_neg (by omega), if_neg (by omega)]; exact ⟨rfl, rfl⟩)
    exact key i 0 0 N3 (fun _ => 0) (fun _ => 0) (by omega) (Nat.le_refl 0) hN3 rfl (fun m _ hm => hl3.2 m hm) (fun m hm => absurd hm (Nat.not_lt_zero m)) (fun P => rfl)
end ZPIC
