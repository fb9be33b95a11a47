/-! WHERE PLANS LEAD, both sides -/
def zk_st (g : Int → Int) (s w : Int) : Int := if w = 8 then s else if 0 ≤ z_nxt s w ∧ g (z_nxt s w) = 0 then z_nxt s w else s
def zk_w (g : Int → Int) (s0 len : Int) (sp : Int → Int) : Nat → Int
  | 0 => s0
  | t + 1 => zk_st g (zk_w g s0 len sp t) (if (t : Int) + 1 ≤ len then sp (t : Int) else 8)
theorem zk_st_b {g : Int → Int} {s w : Int} (h0 : 0 ≤ s) (h1 : s < 100) : 0 ≤ zk_st g s w ∧ zk_st g s w < 100 := by
  unfold zk_st
  split
  · exact ⟨h0, h1⟩
  · split
    · rename_i h
      rcases z_nxt_in s w with e | e
      · omega
      · exact e
    · exact ⟨h0, h1⟩
theorem zk_w_b {g : Int → Int} {s0 len : Int} {sp : Int → Int} (h0 : 0 ≤ s0) (h1 : s0 < 100) : ∀ t : Nat, 0 ≤ zk_w g s0 len sp t ∧ zk_w g s0 len sp t < 100 := by
  intro t
  induction t with
  | zero => exact ⟨h0, h1⟩
  | succ t ih => exact zk_st_b ih.1 ih.2
theorem zk_w_cg {g g' : Int → Int} {s0 len : Int} {sp sp' : Int → Int} (hg : ∀ j : Int, 0 ≤ j → j < 100 → g j = g' j) (hs : ∀ t : Int, 0 ≤ t → t < len → sp t = sp' t) : ∀ t : Nat, zk_w g s0 len sp t = zk_w g' s0 len sp' t := by
  intro t
  induction t with
  | zero => rfl
  | succ t ih =>
    show zk_st g (zk_w g s0 len sp t) _ = zk_st g' (zk_w g' s0 len sp' t) _
    rw [ih]
    have e : (if (t : Int) + 1 ≤ len then sp (t : Int) else 8) = (if (t : Int) + 1 ≤ len then sp' (t : Int) else 8) := by
      by_cases c : (t : Int) + 1 ≤ len
      · rw [if_pos c, if_pos c, hs (t : Int) (by omega) (by omega)]
      · rw [if_neg c, if_neg c]
    rw [e]
    generalize (if (t : Int) + 1 ≤ len then sp' (t : Int) else 8) = w
    unfold zk_st
    by_cases c : w = 8
    · rw [if_pos c, if_pos c]
    · rw [if_neg c, if_neg c]
      rcases z_nxt_in (zk_w g' s0 len sp' t) w with e2 | e2
      · rw [if_neg (by omega), if_neg (by omega)]
      · rw [hg _ e2.1 e2.2]
section ZWALK
variable {S M N : z_M} {Q : z_V → z_M → Prop} {g : Int → Int}
abbrev zk_wy (x : Int) : Prop := x = 0 ∨ x = 2 ∨ x = 4 ∨ x = 6 ∨ x = 8
/-- a plan of the class that can be walked -/
def zk_ok (M : z_M) (w : Int) : Prop := (0 ≤ M 301018 w ∧ M 301018 w < 100) ∧ M 301019 w ≤ 95 ∧ ∀ t : Int, 0 ≤ t → t < M 301019 w → zk_wy (M 28501020 (95 * w + t))
def zk_c (M : z_M) (g : Int → Int) (w : Int) : Nat → Int := zk_w g (M 301018 w) (M 301019 w) (fun t => M 28501020 (95 * w + t))
theorem kr_isPlain (d : Nat) {s : Int} (hg : M 1001015 = g) (h1 : 0 ≤ s → s < 100 → g s = 0 → Q (z_I 1) M) (h0 : ¬ (0 ≤ s ∧ s < 100 ∧ g s = 0) → Q (z_I 0) M) : z_Cl 0 (d + 1) 145 [z_R 3, z_I s] M Q := by
  refine re_145 d (kc_isSpot d (fun a b => z_y1 ⟨a, b, fun c => ?_, fun c => ?_⟩) (fun c => z_n1 (h0 (by omega))))
  · rw [hg] at c; exact h0 (fun z => c z.2.2)
  · rw [hg] at c; exact h1 a b c
theorem kc_walkOne (d : Nat) {w : Int} (hg : M 1001015 = g) (w0 : 0 ≤ w) (w1 : w < 30) (hk : zk_ok M w) (hQ : ∀ N : z_M, (∀ k, k ≠ 28801021 → N k = M k) → (∀ t : Nat, t < 96 → N 28801021 (96 * w + (t : Int)) = zk_c M g w t) → (∀ j : Int, j < 96 * w ∨ 96 * w + 96 ≤ j → N 28801021 j = M 28801021 j) → Q z_U N) : z_Cl 0 (d + 2) 80 [z_R 4, z_I w] M Q := by
  obtain ⟨⟨s0, s1⟩, l1, st⟩ := hk
  refine re_80 (d + 1) ⟨w0, w1, ?_⟩
  rw [z_w_id (x := 96 * w) (by omega) (by omega)]
  refine ⟨by omega, by omega, ?_⟩
  have key : ∀ (r t : Nat) (N : z_M), t + 1 + r = 96 → (∀ k, k ≠ 28801021 → N k = M k) → (∀ u : Nat, u ≤ t → N 28801021 (96 * w + (u : Int)) = zk_c M g w u) → (∀ j : Int, j < 96 * w ∨ 96 * w + 96 ≤ j → N 28801021 j = M 28801021 j) → z_G 0 (d + 2) z_m80 19 [z_R 4, z_I w, z_I (zk_c M g w t), z_I ((t : Int) + 1), z_U, z_U] [] N Q := by
    intro r
    induction r with
    | zero =>
      intro t N ht n1 n2 n3
      exact rg_80_19 (d + 1) ⟨fun _ => hQ N n1 (fun u hu => n2 u (by omega)) n3, fun c => absurd c (by omega)⟩
    | succ r ih =>
      intro t N ht n1 n2 n3
      have hb := zk_w_b (g := g) (len := M 301019 w) (sp := fun t => M 28501020 (95 * w + t)) s0 s1 t
      have el : N 301019 = M 301019 := n1 _ (by decide)
      have es : N 28501020 = M 28501020 := n1 _ (by decide)
      have eg : N 1001015 = g := (n1 _ (by decide)).trans hg
      -- the next spot is written
      have wr : ∀ (l4 l5 x : Int), x = zk_c M g w (t + 1) → z_G 0 (d + 2) z_m80 96 [z_R 4, z_I w, z_I (zk_c M g w t), z_I ((t : Int) + 1), z_I l4, z_I l5] [z_I x] N Q := by
        intro l4 l5 x ex
        refine rg_80_96 (d + 1) ?_
        rw [z_w_id (x := 96 * w) (by omega) (by omega), z_w_id (x := 96 * w + ((t : Int) + 1)) (by omega) (by omega), z_w_id (x := (t : Int) + 1 + 1) (by omega) (by omega), ex]
        refine ⟨by omega, by omega, ?_⟩
        have := ih (t + 1) (z_up N 28801021 (96 * w + ((t : Int) + 1)) (zk_c M g w (t + 1))) (by omega) (fun k hk => (z_up_ne hk).trans (n1 k hk)) (fun u hu => ?_) (fun j hj => ?_)
        · exact this
        · by_cases c : u = t + 1
          · subst c; exact z_up_eq
          · rw [z_up_nj (by omega)]; exact n2 u (by omega)
        · rw [z_up_nj (by omega)]; exact n3 j hj
      -- by the way
      have by_way : ∀ x : Int, zk_wy x → (zk_c M g w (t + 1) = zk_st g (zk_c M g w t) x) → z_G 0 (d + 2) z_m80 53 [z_R 4, z_I w, z_I (zk_c M g w t), z_I ((t : Int) + 1), z_U, z_U] [z_I x] N Q := by
        intro x hx e
        unfold zk_st at e
        refine rg_80_53 (d + 1) ⟨fun c => c_next (d + 1) hb.1 hb.2 (by unfold zk_wy at hx; omega) (by unfold zk_wy at hx; omega) (z_viI (rg_80_76 (d + 1) (kr_isPlain d eg (fun a b c2 => z_y1 (wr _ _ _ ?_)) (fun c2 => z_n1 (wr _ _ _ ?_))))), fun c => rg_80_76 (d + 1) (kr_isPlain d eg (fun a b c2 => z_y1 (wr _ _ _ ?_)) (fun c2 => z_n1 (wr _ _ _ ?_)))⟩
        · rw [e, if_neg c, if_pos ⟨a, c2⟩]
        · rw [e, if_neg c, if_neg (fun z => c2 ⟨z.1, ?_, z.2⟩)]
          rcases z_nxt_in (zk_c M g w t) x with e2 | e2
          · have := z.1; omega
          · exact e2.2
        · rw [e, if_pos c]
        · rw [e, if_pos c]
      refine rg_80_19 (d + 1) ⟨fun c => absurd c (by omega), fun _ => ⟨w0, w1, fun c => ?_, fun c => ?_⟩⟩
      · rw [el] at c
        refine by_way 8 (Or.inr (Or.inr (Or.inr (Or.inr rfl)))) ?_
        show zk_st g _ (if (t : Int) + 1 ≤ M 301019 w then _ else 8) = _
        rw [if_neg (by omega)]; rfl
      · rw [el] at c
        rw [z_w_id (x := 95 * w) (by omega) (by omega), z_w_id (x := 95 * w + ((t : Int) + 1)) (by omega) (by omega), z_w_id (x := 95 * w + ((t : Int) + 1) - 1) (by omega) (by omega), es, show 95 * w + ((t : Int) + 1) - 1 = 95 * w + (t : Int) from by omega]
        refine ⟨by omega, by omega, by_way _ (st (t : Int) (by omega) (by omega)) ?_⟩
        show zk_st g _ (if (t : Int) + 1 ≤ M 301019 w then M 28501020 (95 * w + (t : Int)) else 8) = _
        rw [if_pos c]; rfl
  refine key 95 0 _ (by decide) (fun k hk => z_up_ne hk) (fun u hu => ?_) (fun j hj => z_up_nj (by omega))
  have : u = 0 := by omega
  subst this
  rw [show 96 * w + ((0 : Nat) : Int) = 96 * w from by omega, z_up_eq]
  rfl
theorem kc_walk (d : Nat) (hg : M 1001015 = g) (hk : ∀ w : Int, 0 ≤ w → w < 30 → 0 ≤ M 301019 w → zk_ok M w) (hQ : ∀ N : z_M, (∀ k, k ≠ 28801021 → N k = M k) → (∀ w : Int, 0 ≤ w → w < 30 → 0 ≤ M 301019 w → ∀ t : Nat, t < 96 → N 28801021 (96 * w + (t : Int)) = zk_c M g w t) → Q z_U N) : z_Cl 0 (d + 3) 79 [z_R 4] M Q := by
  refine re_79 (d + 2) ?_
  refine z_lpi (n := 30) (fun _ => ()) (fun q N => (∀ k, k ≠ 28801021 → N k = M k) ∧ (∀ w : Int, 0 ≤ w → w < (q : Int) → 0 ≤ M 301019 w → ∀ t : Nat, t < 96 → N 28801021 (96 * w + (t : Int)) = zk_c M g w t)) (fun N _ q => z_G 0 (d + 3) z_m79 2 [z_R 4, z_I q] [] N Q) M ⟨fun _ _ => rfl, fun w a b => absurd b (by omega)⟩ (fun q N hq hN nx => ?_) (fun N hN => ?_)
  · obtain ⟨n1, n2⟩ := hN
    have el : N 301019 = M 301019 := n1 _ (by decide)
    refine rg_79_2 (d + 2) ⟨fun c => absurd c (by omega), fun _ => re_60 (d + 2) ⟨by omega, by omega, fun c => z_n1 ?_, fun c => z_y1 ?_⟩⟩
    · rw [el] at c
      rw [z_wq (by omega)]
      refine nx N ⟨n1, fun w a b l t ht => ?_⟩
      by_cases cw : w = (q : Int)
      · rw [cw] at l; omega
      · exact n2 w a (by omega) l t ht
    · rw [el] at c
      have ok := hk (q : Int) (by omega) (by omega) c
      have ok2 : zk_ok N (q : Int) := by
        unfold zk_ok
        rw [n1 301018 (by decide), el, n1 28501020 (by decide)]
        exact ok
      have ec : zk_c N g (q : Int) = zk_c M g (q : Int) := by
        unfold zk_c
        rw [n1 301018 (by decide), el, n1 28501020 (by decide)]
      refine kc_walkOne d ((n1 _ (by decide)).trans hg) (by omega) (by omega) ok2 (fun N2 m1 m2 m3 => ?_)
      rw [z_wq (by omega)]
      refine nx N2 ⟨fun k hk2 => (m1 k hk2).trans (n1 k hk2), fun w a b l t ht => ?_⟩
      by_cases cw : w = (q : Int)
      · rw [cw, m2 t ht, ec]
      · rw [m3 _ (by omega)]; exact n2 w a (by omega) l t ht
  · exact rg_79_2 (d + 2) ⟨fun _ => hQ N hN.1 (fun w a b l t ht => hN.2 w a (by omega) l t ht), fun c => absurd c (by decide)⟩
/-! the model's walks -/
def zk_ch (c : Int) : Int := if c = 101 then 0 else if c = 110 then 2 else if c = 119 then 4 else if c = 115 then 6 else 8
def zk_m (M : z_M) (g : Int → Int) (w : Int) : Nat → Int := zk_w g (M 301068 w) (M 301069 w) (fun t => zk_ch (M 28501070 (95 * w + t)))
theorem km_walksAll (d : Nat) {w : Int} (hg : M 1001065 = g) (w0 : 0 ≤ w) (w1 : w < 30) (hk : M 304067 w ≠ 0 → 0 ≤ M 301068 w ∧ M 301068 w < 100 ∧ M 301069 w ≤ 95) (hQ1 : M 304067 w ≠ 0 → ∀ N : z_M, (∀ k, k ≠ 28801071 → N k = M k) → (∀ t : Nat, t < 96 → N 28801071 (96 * w + (t : Int)) = zk_m M g w t) → (∀ j : Int, j < 96 * w ∨ 96 * w + 96 ≤ j → N 28801071 j = M 28801071 j) → Q z_U N) (hQ0 : M 304067 w = 0 → Q z_U M) : z_Cl 0 (d + 2) 244 [z_R 13, z_I w] M Q := by
  refine re_244 (d + 1) ⟨w0, w1, fun cp => ⟨w0, w1, ?_⟩, hQ0⟩
  obtain ⟨s0, s1, l1⟩ := hk cp
  have hQ := hQ1 cp
  rw [z_w_id (x := 96 * w) (by omega) (by omega)]
  refine ⟨by omega, by omega, ?_⟩
  have key : ∀ (r t : Nat) (N : z_M), t + 1 + r = 96 → (∀ k, k ≠ 28801071 → N k = M k) → (∀ u : Nat, u ≤ t → N 28801071 (96 * w + (u : Int)) = zk_m M g w u) → (∀ j : Int, j < 96 * w ∨ 96 * w + 96 ≤ j → N 28801071 j = M 28801071 j) → z_G 0 (d + 2) z_m244 29 [z_R 13, z_I w, z_I (zk_m M g w t), z_I ((t : Int) + 1), z_U, z_U] [] N Q := by
    intro r
    induction r with
    | zero =>
      intro t N ht n1 n2 n3
      exact rg_244_29 (d + 1) ⟨fun _ => hQ N n1 (fun u hu => n2 u (by omega)) n3, fun c => absurd c (by omega)⟩
    | succ r ih =>
      intro t N ht n1 n2 n3
      have hb := zk_w_b (g := g) (len := M 301069 w) (sp := fun t => zk_ch (M 28501070 (95 * w + t))) s0 s1 t
      have el : N 301069 = M 301069 := n1 _ (by decide)
      have es : N 28501070 = M 28501070 := n1 _ (by decide)
      have eg : N 1001065 = g := (n1 _ (by decide)).trans hg
      have wr : ∀ (l4 l5 x : Int), x = zk_m M g w (t + 1) → z_G 0 (d + 2) z_m244 148 [z_R 13, z_I w, z_I x, z_I ((t : Int) + 1), z_I l4, z_I l5] [] N Q := by
        intro l4 l5 x ex
        refine rg_244_148 (d + 1) ?_
        rw [z_w_id (x := 96 * w) (by omega) (by omega), z_w_id (x := 96 * w + ((t : Int) + 1)) (by omega) (by omega), z_w_id (x := (t : Int) + 1 + 1) (by omega) (by omega), ex]
        refine ⟨by omega, by omega, ?_⟩
        have := ih (t + 1) (z_up N 28801071 (96 * w + ((t : Int) + 1)) (zk_m M g w (t + 1))) (by omega) (fun k hk => (z_up_ne hk).trans (n1 k hk)) (fun u hu => ?_) (fun j hj => ?_)
        · exact this
        · by_cases c : u = t + 1
          · subst c; exact z_up_eq
          · rw [z_up_nj (by omega)]; exact n2 u (by omega)
        · rw [z_up_nj (by omega)]; exact n3 j hj
      -- what beside answers
      have go : ∀ (l4 x y : Int), zk_m M g w (t + 1) = zk_st g (zk_m M g w t) y → (y ≠ 8 → x = z_nxt (zk_m M g w t) y) → (y = 8 → x = -1) → z_G 0 (d + 2) z_m244 127 [z_R 13, z_I w, z_I (zk_m M g w t), z_I ((t : Int) + 1), z_I l4, z_U] [z_I x] N Q := by
        intro l4 x y e hx h8
        unfold zk_st at e
        by_cases c8 : y = 8
        · rw [if_pos c8] at e
          rw [h8 c8]
          exact rg_244_127 (d + 1) ⟨fun _ => wr _ _ _ e.symm, fun c => absurd rfl c⟩
        · rw [if_neg c8] at e
          rw [hx c8]
          rcases z_nxt_in (zk_m M g w t) y with e2 | e2
          · rw [e2] at e ⊢
            rw [if_neg (by omega)] at e
            exact rg_244_127 (d + 1) ⟨fun _ => wr _ _ _ e.symm, fun c => absurd rfl c⟩
          · refine rg_244_127 (d + 1) ⟨fun c => absurd c (by omega), fun _ => ⟨e2.1, e2.2, fun c => wr _ _ _ ?_, fun c => wr _ _ _ ?_⟩⟩
            · rw [eg] at c; rw [e, if_neg (fun z => c z.2)]
            · rw [eg] at c; rw [e, if_pos ⟨e2.1, c⟩]
      have by_ch : ∀ c : Int, zk_m M g w (t + 1) = zk_st g (zk_m M g w t) (zk_ch c) → z_G 0 (d + 2) z_m244 63 [z_R 13, z_I w, z_I (zk_m M g w t), z_I ((t : Int) + 1), z_U, z_U] [z_I c] N Q := by
        intro c e
        have e4 : zk_ch 101 = 0 ∧ zk_ch 110 = 2 ∧ zk_ch 119 = 4 ∧ zk_ch 115 = 6 := by decide
        refine rg_244_63 (d + 1) ⟨fun c1 => ⟨fun c2 => ⟨fun c3 => ⟨fun c4 => go _ _ (zk_ch c) e (fun z => ?_) (fun _ => rfl), fun c4 => km_beside d hb.1 hb.2 (by decide) (by decide) (z_viI (go _ _ (zk_ch c) e (fun z => ?_) (fun z => ?_)))⟩, fun c3 => km_beside d hb.1 hb.2 (by decide) (by decide) (z_viI (go _ _ (zk_ch c) e (fun z => ?_) (fun z => ?_)))⟩, fun c2 => km_beside d hb.1 hb.2 (by decide) (by decide) (z_viI (go _ _ (zk_ch c) e (fun z => ?_) (fun z => ?_)))⟩, fun c1 => km_beside d hb.1 hb.2 (by decide) (by decide) (z_viI (go _ _ (zk_ch c) e (fun z => ?_) (fun z => ?_)))⟩
        · exact absurd (by unfold zk_ch; rw [if_neg c1, if_neg c2, if_neg c3, if_neg c4]) z
        all_goals first
          | (rw [c4, e4.2.2.2] at z; exact absurd z (by decide))
          | (rw [c3, e4.2.2.1] at z; exact absurd z (by decide))
          | (rw [c2, e4.2.1] at z; exact absurd z (by decide))
          | (rw [c1, e4.1] at z; exact absurd z (by decide))
          | (rw [c4, e4.2.2.2])
          | (rw [c3, e4.2.2.1])
          | (rw [c2, e4.2.1])
          | (rw [c1, e4.1])
      refine rg_244_29 (d + 1) ⟨fun c => absurd c (by omega), fun _ => ⟨w0, w1, fun c => ?_, fun c => ?_⟩⟩
      · rw [el] at c
        refine by_ch 46 ?_
        show zk_st g _ (if (t : Int) + 1 ≤ M 301069 w then _ else 8) = _
        rw [if_neg (by omega)]; rfl
      · rw [el] at c
        rw [z_w_id (x := 95 * w) (by omega) (by omega), z_w_id (x := 95 * w + ((t : Int) + 1)) (by omega) (by omega), z_w_id (x := 95 * w + ((t : Int) + 1) - 1) (by omega) (by omega), es, show 95 * w + ((t : Int) + 1) - 1 = 95 * w + (t : Int) from by omega]
        refine ⟨by omega, by omega, by_ch _ ?_⟩
        show zk_st g _ (if (t : Int) + 1 ≤ M 301069 w then zk_ch (M 28501070 (95 * w + (t : Int))) else 8) = _
        rw [if_pos c]; rfl
  refine key 95 0 _ (by decide) (fun k hk => z_up_ne hk) (fun u hu => ?_) (fun j hj => z_up_nj (by omega))
  have : u = 0 := by omega
  subst this
  rw [show 96 * w + ((0 : Nat) : Int) = 96 * w from by omega, z_up_eq]
  rfl
end ZWALK
