/-! READING TEXTS: the two readers' small steps -/
section ZRD
variable {N : z_M} {Q : z_V → z_M → Prop} {q : Int → Int} {n i : Int}
/-- a text: its n signs, -1 behind -/
def zr_T (q : Int → Int) (n : Int) : Prop := 0 ≤ n ∧ n ≤ 260 ∧ (∀ i : Int, 0 ≤ i → i < n → 0 ≤ q i ∧ q i ≤ 255) ∧ (∀ i : Int, n ≤ i → q i = -1)
theorem zr_T_e (h : zr_T q n) (h0 : 0 ≤ i) : q i = -1 ↔ n ≤ i := by
  constructor
  · intro e
    by_cases c : n ≤ i
    · exact c
    · have := h.2.2.1 i h0 (by omega); omega
  · exact h.2.2.2 i
theorem zr_T_b (h : zr_T q n) (h0 : 0 ≤ i) : -1 ≤ q i ∧ q i ≤ 255 := by
  by_cases c : n ≤ i
  · rw [h.2.2.2 i c]; omega
  · have := h.2.2.1 i h0 (by omega); omega
/-- the class reads at i -/
def zr_st (q : Int → Int) (n i : Int) (N : z_M) : Prop := zr_T q n ∧ (∀ i : Int, 0 ≤ i → i < n → N 2601014 i = q i) ∧ 0 ≤ i ∧ i ≤ n ∧ N 2 2 = n ∧ N 2 3 = i ∧ N 2 4 = 0
/-- only the reading went on -/
def zr_mv (N N' : z_M) : Prop := (∀ k, k ≠ 2 → N' k = N k) ∧ N' 2 1 = N 2 1
theorem zr_mv_rf : zr_mv N N := ⟨fun _ _ => rfl, rfl⟩
theorem zr_mv_tr {A B C : z_M} (h : zr_mv A B) (g : zr_mv B C) : zr_mv A C := ⟨fun k hk => (g.1 k hk).trans (h.1 k hk), g.2.trans h.2⟩
theorem zr_mv_up {j x : Int} (h : j ≠ 1) : zr_mv N (z_up N 2 j x) := ⟨fun k hk => z_up_ne hk, z_up_nj (fun e => h e.symm)⟩
theorem zr_st_up (h : zr_st q n i N) {i' : Int} (h0 : 0 ≤ i') (h1 : i' ≤ n) : zr_st q n i' (z_up N 2 3 i') :=
  ⟨h.1, fun j a b => by rw [z_up_ne (by decide)]; exact h.2.1 j a b, h0, h1, by rw [z_up_nj (by decide)]; exact h.2.2.2.2.1, z_up_eq, by rw [z_up_nj (by decide)]; exact h.2.2.2.2.2.2⟩
/-- the reading goes on where something else was written -/
theorem zr_st_of {N' : z_M} (h : zr_st q n i N) (h2 : N' 2 = N 2) (hb : N' 2601014 = N 2601014) : zr_st q n i N' := by
  unfold zr_st
  rw [h2, hb]
  exact h
theorem zr_nx (h : zr_st q n i N) : z_nx N = q i := by
  obtain ⟨a, b, c, d, e, f, g⟩ := h
  unfold z_nx
  rw [e, f]
  by_cases c2 : i < n
  · rw [if_pos c2, b i c c2]
  · rw [if_neg c2, a.2.2.2 i (by omega)]
theorem kr_next (d : Nat) (h : zr_st q n i N) (hQ : Q (z_I (q i)) N) : z_Cl 0 d 133 [z_R 2] N Q := by
  obtain ⟨a, b, c, e, f, g, k⟩ := id h
  have := a.2.1
  exact c_next2 d (by show 0 ≤ N 2 3; omega) (by show N 2 2 ≤ 260; omega) (by rw [zr_nx h]; exact hQ)
theorem kr_atEnd (d : Nat) (h : zr_st q n i N) (h1 : i = n → q i = -1 → Q (z_I 1) N) (h0 : i < n → q i ≠ -1 → Q (z_I 0) N) : z_Cl 0 d 134 [z_R 2] N Q := by
  obtain ⟨a, b, c, e, f, g, k⟩ := id h
  refine re_134 d ⟨fun x => ?_, fun x => ?_⟩
  · rw [f, g] at x; exact h0 x (fun y => by have := (zr_T_e a c).mp y; omega)
  · rw [f, g] at x; exact h1 (by omega) (a.2.2.2 i x)
theorem kr_skip (d : Nat) (h : zr_st q n i N) (hi : i < n) (hQ : zr_st q n (i + 1) (z_up N 2 3 (i + 1)) → Q z_U (z_up N 2 3 (i + 1))) : z_Cl 0 d 136 [z_R 2] N Q := by
  obtain ⟨a, b, c, e, f, g, k⟩ := id h
  have := a.2.1
  refine re_136 d ?_
  rw [g, z_w_id (by omega) (by omega)]
  exact hQ (zr_st_up h (by omega) (by omega))
/-- a fault is told -/
def zr_bad (f : Int) (N N' : z_M) : Prop := zr_mv N N' ∧ N' 2 4 = f
theorem zr_bad_tr {f : Int} {A B C : z_M} (h : zr_mv A B) (g : zr_bad f B C) : zr_bad f A C := ⟨zr_mv_tr h g.1, g.2⟩
theorem kr_fail (d : Nat) {x w : Int} (hx : 0 ≤ x ∧ x ≤ 9) (hw : 0 ≤ w ∧ w ≤ 260) (hQ : ∀ N', zr_bad (-1000 * x - w) N N' → Q (z_I 0) N') : z_Cl 0 d 137 [z_R 2, z_I x, z_I w] N Q :=
  c_fail d hx hw (hQ _ ⟨zr_mv_up (by decide), z_up_eq⟩)
theorem kr_wrong (d : Nat) (h : zr_st q n i N) (hQ : ∀ N', zr_bad (-1000 - i) N N' → Q (z_I 0) N') : z_Cl 0 (d + 1) 138 [z_R 2] N Q := by
  obtain ⟨a, b, c, e, f, g, k⟩ := id h
  have := a.2.1
  refine re_138 d (kr_fail d (by omega) (by rw [show N 2 3 = i from g]; omega) (fun N' hN => z_viI (z_bl_of (Or.inl rfl) (hQ N' ?_))))
  rw [show N 2 3 = i from g] at hN
  exact ⟨hN.1, by rw [hN.2]; omega⟩
theorem kr_take (d : Nat) (h : zr_st q n i N) {s : Int} (hs : s ≠ -1) (h1 : q i = s → i < n → zr_st q n (i + 1) (z_up N 2 3 (i + 1)) → Q (z_I 1) (z_up N 2 3 (i + 1))) (h0 : q i ≠ s → ∀ N', zr_bad (-1000 - i) N N' → Q (z_I 0) N') : z_Cl 0 (d + 1) 139 [z_R 2, z_I s] N Q := by
  obtain ⟨a, b, c, e, f, g, k⟩ := id h
  have := a.2.1
  refine re_139 d (kr_next d h (z_viI ⟨fun x => ?_, fun x => kr_fail d (by omega) (by rw [show N 2 3 = i from g]; omega) (fun N' hN => z_viI (z_bl_of (Or.inl rfl) (h0 x N' ?_)))⟩))
  · have hi : i < n := by
      by_cases c2 : i < n
      · exact c2
      · exact absurd (x.symm.trans (a.2.2.2 i (by omega))) hs
    rw [show N 2 3 = i from g, z_w_id (by omega) (by omega)]
    exact h1 x hi (zr_st_up h (by omega) (by omega))
  · rw [show N 2 3 = i from g] at hN
    exact ⟨hN.1, by rw [hN.2]; omega⟩
abbrev zr_d (q : Int → Int) (i : Int) : Prop := 48 ≤ q i ∧ q i ≤ 57
theorem kr_isDigit (d : Nat) (h : zr_st q n i N) (h1 : zr_d q i → Q (z_I 1) N) (h0 : ¬ zr_d q i → Q (z_I 0) N) : z_Cl 0 (d + 1) 140 [z_R 2] N Q :=
  re_140 d (kr_next d h (z_viI ⟨fun c => h0 (fun z => by have := z.1; omega), fun c => kr_next d h (z_viI ⟨fun c2 => h0 (fun z => by have := z.2; omega), fun c2 => h1 ⟨c, c2⟩⟩)⟩))
theorem zr_dlt (h : zr_T q n) (hd : zr_d q i) : i < n := by
  by_cases c : i < n
  · exact c
  · have := h.2.2.2 i (by omega); omega
theorem kr_digit (d : Nat) (h : zr_st q n i N) (h1 : zr_d q i → i < n → zr_st q n (i + 1) (z_up N 2 3 (i + 1)) → Q (z_I (q i - 48)) (z_up N 2 3 (i + 1))) (h0 : ¬ zr_d q i → ∀ N', zr_bad (-1000 - i) N N' → Q (z_I (-1)) N') : z_Cl 0 (d + 1) 141 [z_R 2] N Q := by
  obtain ⟨a, b, c, e, f, g, k⟩ := id h
  have := a.2.1
  refine c_digit d (by rw [show N 2 3 = i from g]; omega) (by rw [show N 2 2 = n from f]; omega) (by rw [show N 2 2 = n from f, show N 2 3 = i from g]; omega) ?_
  rw [zr_nx h, show N 2 3 = i from g]
  by_cases hd : zr_d q i
  · rw [if_pos hd]
    have := zr_dlt a hd
    exact h1 hd this (zr_st_up h (by omega) (by omega))
  · rw [if_neg hd]
    exact h0 hd _ ⟨zr_mv_up (by decide), z_up_eq⟩
/-- a spot: two digits, x and y -/
def zr_sp (q : Int → Int) (i : Int) : Int ⊕ Int := if zr_d q i then (if zr_d q (i + 1) then .inr (10 * (q (i + 1) - 48) + (q i - 48)) else .inl (-1000 - (i + 1))) else .inl (-1000 - i)
theorem kr_spot (d : Nat) (h : zr_st q n i N) (h1 : ∀ (v : Int) (N' : z_M), zr_sp q i = .inr v → 0 ≤ v → v < 100 → i + 2 ≤ n → zr_mv N N' → zr_st q n (i + 2) N' → Q (z_I v) N') (h0 : ∀ (f : Int) (N' : z_M), zr_sp q i = .inl f → zr_bad f N N' → Q (z_I (-1)) N') : z_Cl 0 (d + 2) 142 [z_R 2] N Q := by
  have hp := h.2.2.1
  refine re_142 (d + 1) (kr_digit d h (fun hd hi hst => z_viI ⟨fun _ => ?_, fun c => absurd c (by omega)⟩) (fun hd N' hN => z_viI ⟨fun c => absurd c (by decide), fun _ => ⟨fun c => absurd c (by decide), fun _ => h0 _ N' (if_neg hd) hN⟩⟩))
  refine kr_digit d hst (fun hd2 hi2 hst2 => z_viI ⟨fun _ => ?_, fun c => absurd c (by omega)⟩) (fun hd2 N' hN => z_viI ⟨fun c => absurd c (by decide), fun _ => h0 _ N' (by unfold zr_sp; rw [if_pos hd, if_neg hd2]) ⟨zr_mv_tr (zr_mv_up (by decide)) hN.1, hN.2⟩⟩)
  rw [z_w_id (x := 10 * (q (i + 1) - 48)) (by omega) (by omega), z_w_id (by omega) (by omega)]
  have e2 : i + 1 + 1 = i + 2 := by omega
  rw [e2] at hst2 ⊢
  exact h1 _ _ (by unfold zr_sp; rw [if_pos hd, if_pos hd2]) (by omega) (by omega) (by omega) (zr_mv_tr (zr_mv_up (by decide)) (zr_mv_up (by decide))) hst2
/-- a minute: one or two digits -/
def zr_mn (q : Int → Int) (i : Int) : Int ⊕ (Int × Int) :=
  if zr_d q i then (if zr_d q (i + 1) then (if 10 * (q i - 48) + (q (i + 1) - 48) < 96 then .inr (10 * (q i - 48) + (q (i + 1) - 48), i + 2) else .inl (-2000 - i)) else .inr (q i - 48, i + 1)) else .inl (-1000 - i)
theorem kr_minute (d : Nat) (h : zr_st q n i N) (h1 : ∀ (v j : Int) (N' : z_M), zr_mn q i = .inr (v, j) → 0 ≤ v → v < 96 → i < j → j ≤ i + 2 → zr_mv N N' → zr_st q n j N' → Q (z_I v) N') (h0 : ∀ (f : Int) (N' : z_M), zr_mn q i = .inl f → zr_bad f N N' → Q (z_I (-1)) N') : z_Cl 0 (d + 2) 143 [z_R 2] N Q := by
  have hp := h.2.2.1
  have a := h.1
  have hn := a.2.1
  have e3 : N 2 3 = i := h.2.2.2.2.2.1
  refine re_143 (d + 1) (kr_digit d h (fun hd hi hst => z_viI ⟨fun c => absurd c (by omega), fun _ => kr_isDigit d hst (fun hd2 => z_viI ⟨fun c => absurd c (by decide), fun _ => ?_⟩) (fun hd2 => z_viI ⟨fun _ => ⟨fun _ => ?_, fun c => absurd c (by omega)⟩, fun c => absurd rfl c⟩)⟩) (fun hd N' hN => z_viI ⟨fun _ => ⟨fun _ => h0 _ N' (if_neg hd) hN, fun c => absurd c (by decide)⟩, fun c => absurd c (by decide)⟩))
  · refine kr_digit d hst (fun _ hi2 hst2 => z_viI ?_) (fun hd3 => absurd hd2 hd3)
    rw [z_w_id (x := 10 * (q i - 48)) (by omega) (by omega), z_w_id (by omega) (by omega), e3]
    have e2 : i + 1 + 1 = i + 2 := by omega
    rw [e2] at hst2 ⊢
    have mv : zr_mv N (z_up (z_up N 2 3 (i + 1)) 2 3 (i + 2)) := zr_mv_tr (zr_mv_up (by decide)) (zr_mv_up (by decide))
    refine ⟨fun c => h1 _ _ _ ?_ (by omega) c (by omega) (by omega) mv hst2, fun c => kr_fail (d + 1) (by omega) (by omega) (fun N' hN => z_viI (h0 (-2000 - i) N' ?_ ⟨zr_mv_tr mv hN.1, by rw [hN.2]; omega⟩))⟩
    · unfold zr_mn; rw [if_pos hd, if_pos hd2, if_pos c]
    · unfold zr_mn; rw [if_pos hd, if_pos hd2, if_neg (by omega)]
  · exact h1 _ _ _ (by unfold zr_mn; rw [if_pos hd, if_neg hd2]) (by omega) (by omega) (by omega) (by omega) (zr_mv_up (by decide)) hst
/-! the model -/
def zm_h (q : Int → Int) (i : Int) : Int := if q i = -1 then 0 else q i
def zm_st (q : Int → Int) (n i b : Int) (N : z_M) : Prop := zr_T q n ∧ (∀ i : Int, 0 ≤ i → i < n → z_and (N 2603064 i) 255 = q i) ∧ 0 ≤ i ∧ i ≤ 1000 ∧ N 13 3 = n ∧ N 13 2 = i ∧ N 13 4 = b
def zm_mv (N N' : z_M) : Prop := (∀ k, k ≠ 13 → N' k = N k) ∧ ∀ j, j ≠ 2 → j ≠ 4 → N' 13 j = N 13 j
theorem zm_mv_rf : zm_mv N N := ⟨fun _ _ => rfl, fun _ _ _ => rfl⟩
theorem zm_mv_tr {A B C : z_M} (h : zm_mv A B) (g : zm_mv B C) : zm_mv A C := ⟨fun k hk => (g.1 k hk).trans (h.1 k hk), fun j a b => (g.2 j a b).trans (h.2 j a b)⟩
theorem zm_mv_up {j x : Int} (h : j = 2 ∨ j = 4) : zm_mv N (z_up N 13 j x) := ⟨fun k hk => z_up_ne hk, fun j' a b => z_up_nj (by omega)⟩
theorem zm_st_pl {b : Int} (h : zm_st q n i b N) {i' : Int} (h0 : 0 ≤ i') (h1 : i' ≤ 1000) : zm_st q n i' b (z_up N 13 2 i') :=
  ⟨h.1, fun j a b => by rw [z_up_ne (by decide)]; exact h.2.1 j a b, h0, h1, by rw [z_up_nj (by decide)]; exact h.2.2.2.2.1, z_up_eq, by rw [z_up_nj (by decide)]; exact h.2.2.2.2.2.2⟩
theorem zm_st_bd {b b' : Int} (h : zm_st q n i b N) : zm_st q n i b' (z_up N 13 4 b') :=
  ⟨h.1, fun j a b => by rw [z_up_ne (by decide)]; exact h.2.1 j a b, h.2.2.1, h.2.2.2.1, by rw [z_up_nj (by decide)]; exact h.2.2.2.2.1, by rw [z_up_nj (by decide)]; exact h.2.2.2.2.2.1, z_up_eq⟩
theorem zm_st_of {b : Int} {N' : z_M} (h : zm_st q n i b N) (h2 : N' 13 3 = N 13 3 ∧ N' 13 2 = N 13 2 ∧ N' 13 4 = N 13 4) (hb : N' 2603064 = N 2603064) : zm_st q n i b N' := by
  unfold zm_st
  rw [h2.1, h2.2.1, h2.2.2, hb]
  exact h
theorem zm_nm {b : Int} (h : zm_st q n i b N) : z_nm N = zm_h q i := by
  obtain ⟨a, b, c, d, e, f, g⟩ := h
  unfold z_nm zm_h
  rw [show N 13 3 = n from e, show N 13 2 = i from f]
  by_cases c2 : i < n
  · have := a.2.2.1 i c c2
    rw [if_pos c2, if_neg (by omega)]
    exact b i c c2
  · rw [if_neg c2, if_pos (a.2.2.2 i (by omega))]
theorem zm_hb {b : Int} (h : zm_st q n i b N) : 0 ≤ zm_h q i ∧ zm_h q i ≤ 255 := by
  have := zr_T_b h.1 h.2.2.1
  unfold zm_h
  split <;> omega
theorem zm_h_s {s : Int} (hs : 0 < s) : zm_h q i = s ↔ q i = s := by
  unfold zm_h
  split <;> omega
theorem kn_here (d : Nat) {b : Int} (h : zm_st q n i b N) (hQ : Q (z_I (zm_h q i)) N) : z_Cl 0 d 229 [z_R 13] N Q := by
  obtain ⟨a, b, c, e, f, g, k⟩ := id h
  have := a.2.1
  exact c_here d (by rw [show N 13 2 = i from g]; exact c) (by rw [show N 13 3 = n from f]; exact this) (by rw [zm_nm h]; exact hQ)
theorem kn_good1 (d : Nat) (h : zm_st q n i 0 N) (h1 : Q (z_I 1) N) : z_Cl 0 d 231 [z_R 13] N Q := re_231 d ⟨fun c => absurd h.2.2.2.2.2.2 c, fun _ => h1⟩
theorem kn_good0 (d : Nat) {b : Int} (hb : b ≠ 0) (h : zm_st q n i b N) (h1 : Q (z_I 0) N) : z_Cl 0 d 231 [z_R 13] N Q := re_231 d ⟨fun _ => h1, fun c => absurd (h.2.2.2.2.2.2.symm.trans c) hb⟩
/-- a fault is told, the first one stays -/
def zm_f (b f : Int) : Int := if b < 0 then b else f
theorem kn_wrongs (d : Nat) {b x w : Int} (h : zm_st q n i b N) (hx : 0 ≤ x ∧ x ≤ 9) (hw : 0 ≤ w ∧ w ≤ 1000) (hQ : ∀ N' : z_M, zm_mv N N' → zm_st q n i (zm_f b (-1000 * x - w)) N' → Q z_U N') : z_Cl 0 d 230 [z_R 13, z_I x, z_I w] N Q := by
  refine c_wrongs d hx hw ?_
  have e : N 13 4 = b := h.2.2.2.2.2.2
  by_cases c : b < 0
  · rw [if_neg (by omega)]
    exact hQ N zm_mv_rf (by unfold zm_f; rw [if_pos c]; exact h)
  · rw [if_pos (by omega)]
    exact hQ _ (zm_mv_up (Or.inr rfl)) (by unfold zm_f; rw [if_neg c]; exact zm_st_bd h)
theorem kn_seesDigit (d : Nat) {b : Int} (h : zm_st q n i b N) (h1 : zr_d q i → Q (z_I 1) N) (h0 : ¬ zr_d q i → Q (z_I 0) N) : z_Cl 0 (d + 1) 232 [z_R 13] N Q := by
  refine re_232 d (kn_here d h (z_viI (km_lies d (fun a b => z_viI (z_bl_of (Or.inr rfl) (h1 ?_))) (fun a => z_viI (z_bl_of (Or.inl rfl) (h0 (fun z => ?_)))))))
  · unfold zm_h at a b; unfold zr_d; split at a <;> omega
  · unfold zm_h at a; split at a <;> omega
abbrev zr_l (q : Int → Int) (i : Int) : Prop := 97 ≤ q i ∧ q i ≤ 106
theorem kn_seesPerson (d : Nat) {b : Int} (h : zm_st q n i b N) (h1 : zr_l q i → Q (z_I 1) N) (h0 : ¬ zr_l q i → Q (z_I 0) N) : z_Cl 0 (d + 1) 233 [z_R 13] N Q := by
  refine re_233 d (kn_here d h (z_viI (km_lies d (fun a b => z_viI (z_bl_of (Or.inr rfl) (h1 ?_))) (fun a => z_viI (z_bl_of (Or.inl rfl) (h0 (fun z => ?_)))))))
  · unfold zm_h at a b; unfold zr_l; split at a <;> omega
  · unfold zm_h at a; split at a <;> omega
theorem zm_hd (hd : zr_d q i) : zm_h q i = q i := by unfold zm_h; rw [if_neg (by omega)]
/-- a digit, the text's place passed in any case -/
theorem kn_digit (d : Nat) (h : zm_st q n i 0 N) (hi : i < 990) (h1 : zr_d q i → ∀ N' : z_M, zm_mv N N' → zm_st q n (i + 1) 0 N' → Q (z_I (q i - 48)) N') (h0 : ¬ zr_d q i → ∀ (v : Int) (N' : z_M), -48 ≤ v → v ≤ 207 → zm_mv N N' → zm_st q n (i + 1) (-1000 - i) N' → Q (z_I v) N') : z_Cl 0 (d + 2) 235 [z_R 13] N Q := by
  have hb := zm_hb h
  have hp := h.2.2.1
  have e2 : N 13 2 = i := h.2.2.2.2.2.1
  refine re_235 (d + 1) (kn_seesDigit d h (fun hd => z_viI ⟨fun _ => kn_here (d + 1) h (z_viI ?_), fun c => absurd c (by decide)⟩) (fun hd => z_viI ⟨fun c => absurd rfl c, fun _ => kn_wrongs (d + 1) h (by omega) (by omega) (fun N1 m1 s1 => kn_here (d + 1) s1 (z_viI ?_))⟩))
  · rw [e2, z_w_id (x := zm_h q i - 48) (by omega) (by omega), z_w_id (by omega) (by omega), zm_hd hd]
    exact h1 hd _ (zm_mv_up (Or.inl rfl)) (zm_st_pl h (by omega) (by omega))
  · have e3 : N1 13 2 = i := s1.2.2.2.2.2.1
    rw [e3, z_w_id (x := zm_h q i - 48) (by omega) (by omega), z_w_id (by omega) (by omega)]
    refine h0 hd _ _ (by omega) (by omega) (zm_mv_tr m1 (zm_mv_up (Or.inl rfl))) ?_
    have : zm_f 0 (-1000 * 1 - N 13 2) = -1000 - i := by unfold zm_f; rw [if_neg (by decide), e2]; omega
    rw [this] at s1
    exact zm_st_pl s1 (by omega) (by omega)
/-- a number of one or two digits -/
def zm_nb (q : Int → Int) (i : Int) : Int × Int := if zr_d q (i + 1) then (10 * (q i - 48) + (q (i + 1) - 48), i + 2) else (q i - 48, i + 1)
theorem kn_number (d : Nat) (h : zm_st q n i 0 N) (hi : i < 990) (h1 : zr_d q i → ∀ N' : z_M, zm_mv N N' → zm_st q n (zm_nb q i).2 0 N' → Q (z_I (zm_nb q i).1) N') (h0 : ¬ zr_d q i → ∀ N' : z_M, zm_mv N N' → zm_st q n i (-1000 - i) N' → Q (z_I 0) N') : z_Cl 0 (d + 2) 236 [z_R 13] N Q := by
  have hp := h.2.2.1
  have e2 : N 13 2 = i := h.2.2.2.2.2.1
  refine re_236 (d + 1) (kn_seesDigit d h (fun hd => z_viI ⟨fun _ => ?_, fun c => absurd c (by decide)⟩) (fun hd => z_viI ⟨fun c => absurd rfl c, fun _ => kn_wrongs (d + 1) h (by omega) (by omega) (fun N1 m1 s1 => ?_)⟩))
  · refine rg_236_20 (d + 1) ⟨fun c => absurd c (by decide), fun _ => kn_good1 (d + 1) h (z_viI ⟨fun c => absurd c (by decide), fun _ => kn_seesDigit d h (fun _ => z_viI ⟨fun c => absurd c (by decide), fun _ => kn_here (d + 1) h (z_viI ?_)⟩) (fun c => absurd hd c)⟩)⟩
    rw [e2, z_w_id (x := i + 1) (by omega) (by omega), zm_hd hd, z_w_id (x := 10 * 0) (by decide) (by decide), z_w_id (x := 10 * 0 + q i) (by omega) (by omega), z_w_id (x := 10 * 0 + q i - 48) (by omega) (by omega), show z_w (0 + 1) = 1 from z_w_id (by decide) (by decide), show 10 * 0 + q i - 48 = q i - 48 from by omega]
    have m2 : zm_mv N (z_up N 13 2 (i + 1)) := zm_mv_up (Or.inl rfl)
    have s2 : zm_st q n (i + 1) 0 (z_up N 13 2 (i + 1)) := zm_st_pl h (by omega) (by omega)
    generalize z_up N 13 2 (i + 1) = N2 at m2 s2
    have e22 : N2 13 2 = i + 1 := s2.2.2.2.2.2.1
    refine rg_236_20 (d + 1) ⟨fun c => absurd c (by decide), fun _ => kn_good1 (d + 1) s2 (z_viI ⟨fun c => absurd c (by decide), fun _ => kn_seesDigit d s2 (fun hd2 => z_viI ⟨fun c => absurd c (by decide), fun _ => kn_here (d + 1) s2 (z_viI ?_)⟩) (fun hd2 => z_viI ⟨fun _ => ?_, fun c => absurd rfl c⟩)⟩)⟩
    · rw [e22, z_w_id (x := i + 1 + 1) (by omega) (by omega), zm_hd hd2, z_w_id (x := 10 * (q i - 48)) (by omega) (by omega), z_w_id (x := 10 * (q i - 48) + q (i + 1)) (by omega) (by omega), z_w_id (x := 10 * (q i - 48) + q (i + 1) - 48) (by omega) (by omega), show z_w (1 + 1) = 2 from z_w_id (by decide) (by decide)]
      have hh := h1 hd
      unfold zm_nb at hh
      rw [if_pos hd2] at hh
      have m3 : zm_mv N (z_up N2 13 2 (i + 1 + 1)) := zm_mv_tr m2 (zm_mv_up (Or.inl rfl))
      have s3 : zm_st q n (i + 1 + 1) 0 (z_up N2 13 2 (i + 1 + 1)) := zm_st_pl s2 (by omega) (by omega)
      rw [show i + 1 + 1 = i + 2 from by omega] at m3 s3 ⊢
      have := hh _ m3 s3
      rw [show 10 * (q i - 48) + (q (i + 1) - 48) = 10 * (q i - 48) + q (i + 1) - 48 from by omega] at this
      exact rg_236_20 (d + 1) ⟨fun _ => this, fun c => absurd c (by decide)⟩
    · have hh := h1 hd
      unfold zm_nb at hh
      rw [if_neg hd2] at hh
      exact hh _ m2 s2
  · have : zm_f 0 (-1000 * 1 - N 13 2) = -1000 - i := by unfold zm_f; rw [if_neg (by decide), e2]; omega
    rw [this] at s1
    exact rg_236_20 (d + 1) ⟨fun c => absurd c (by decide), fun _ => kn_good0 (d + 1) (by omega) s1 (z_viI ⟨fun _ => h0 hd N1 m1 s1, fun c => absurd rfl c⟩)⟩
end ZRD
