/-! THE MODEL'S LAW: worked, does, works, tells -/
def z_cel (M : z_M) (k : Int) : Option Int → Prop
  | none => M 2404090 k = 1
  | some v => M 2404090 k = 0 ∧ M 2401089 k = v
def z_sk (M : z_M) : List (Option Int) → Prop
  | [] => True
  | x :: r => z_cel M ((r.length : Nat) : Int) x ∧ z_sk M r
theorem z_cel_cg {M M' : z_M} {k : Int} {x : Option Int} (h1 : M' 2404090 k = M 2404090 k) (h2 : M' 2401089 k = M 2401089 k) (h : z_cel M k x) : z_cel M' k x := by
  cases x with
  | none => show M' 2404090 k = 1; rw [h1]; exact h
  | some v => exact ⟨h1.trans h.1, h2.trans h.2⟩
theorem z_sk_cg {M M' : z_M} : ∀ r : List (Option Int), (∀ j : Int, 0 ≤ j → j < ((r.length : Nat) : Int) → M' 2404090 j = M 2404090 j ∧ M' 2401089 j = M 2401089 j) → z_sk M r → z_sk M' r := by
  intro r
  induction r with
  | nil => intro _ _; exact trivial
  | cons x r ih =>
    intro h hs
    have hl : (((x :: r).length : Nat) : Int) = ((r.length : Nat) : Int) + 1 := by rw [List.length_cons]; omega
    have h0 := h ((r.length : Nat) : Int) (by omega) (by omega)
    exact ⟨z_cel_cg h0.1 h0.2 hs.1, ih (fun j a b => h j a (by omega)) hs.2⟩
theorem km_worked (d : Nat) {M : z_M} {Q : z_V → z_M → Prop} {c x y : Int} (h : Q (z_I (zv_wk c x y)) M) : z_Cl 0 d 272 [z_I c, z_I x, z_I y] M Q := by
  unfold zv_wk at h
  refine re_272 d ⟨fun c1 => ⟨fun c2 => z_nz_of c2 ?_, fun c2 => ?_⟩, fun c1 => ⟨fun c3 => ?_, fun c3 => ⟨fun c4 => ?_, fun c4 => ⟨fun c5 => ?_, fun c5 => ⟨fun c6 => ⟨fun c2 => z_nz_of c2 ?_, fun c2 => ?_⟩, fun c6 => ⟨fun c7 => ⟨fun c2 => ?_, fun c2 => ?_⟩, fun c7 => ⟨fun c8 => ⟨fun c2 => ?_, fun c2 => ?_⟩, fun c8 => ⟨fun c2 => ?_, fun c2 => ?_⟩⟩⟩⟩⟩⟩⟩⟩
  all_goals (repeat (first | rw [if_pos (by omega)] at h | rw [if_neg (by omega)] at h))
  all_goals exact h
theorem z_o2_n {c : Int} (c1 : ¬ c = 38) (c2 : ¬ c = 124) (x y : Option Int) : z_o2 c x y = match x, y with
    | some x, some y => if (c = 47 ∨ c = 37) ∧ y = 0 then none else some (zv_wk c x y)
    | _, _ => none := by
  unfold z_o2
  rw [if_neg c1, if_neg c2]
  cases x <;> cases y <;> rfl
theorem km_does (d : Nat) {M : z_M} {Q : z_V → z_M → Prop} {c n : Int} {x y : Option Int} {r : List (Option Int)} (hc : 2 < c) (hn : ((r.length : Nat) : Int) = n) (hn2 : n + 1 < 240) (hs : z_sk M (y :: x :: r)) (h : ∀ M' : z_M, (∀ k, k ≠ 2401089 → k ≠ 2404090 → M' k = M k) → z_sk M' (z_o2 c x y :: r) → Q z_U M') : z_Cl 0 (d + 1) 273 [z_R 13, z_I c, z_I n] M Q := by
  obtain ⟨hy, hx, hr⟩ := hs
  have hl : (((x :: r).length : Nat) : Int) = n + 1 := by rw [List.length_cons]; omega
  rw [hl] at hy
  rw [hn] at hx
  have hn0 : 0 ≤ n := by omega
  have fin : ∀ M' : z_M, (∀ k, k ≠ 2401089 → k ≠ 2404090 → M' k = M k) → (∀ j : Int, j ≠ n → M' 2404090 j = M 2404090 j ∧ M' 2401089 j = M 2401089 j) → z_cel M' n (z_o2 c x y) → Q z_U M' := by
    intro M' f1 f2 f3
    refine h M' f1 ⟨?_, z_sk_cg r (fun j a b => f2 j (by omega)) hr⟩
    rw [hn]; exact f3
  have same : z_cel M n (z_o2 c x y) → Q z_U M := fun q => fin M (fun _ _ _ => rfl) (fun _ _ => ⟨rfl, rfl⟩) q
  have w1 : z_w (n + 1) = n + 1 := z_w_id (by omega) (by omega)
  have take : z_o2 c x y = y → Q z_U (z_up (z_up M 2401089 n (M 2401089 (n + 1))) 2404090 n ((z_up M 2401089 n (M 2401089 (n + 1))) 2404090 (n + 1))) := by
    intro e
    have e1 : (z_up M 2401089 n (M 2401089 (n + 1))) 2404090 = M 2404090 := z_up_ne (by decide)
    rw [e1]
    refine fin _ (fun k k1 k2 => by rw [z_up_ne k2, z_up_ne k1]) (fun j hj => ?_) ?_
    · constructor
      · unfold z_up; rw [if_pos rfl, if_neg hj, if_neg (by decide)]
      · rw [z_up_ne (by decide)]; unfold z_up; rw [if_pos rfl, if_neg hj]
    · rw [e]
      have a1 : z_up (z_up M 2401089 n (M 2401089 (n + 1))) 2404090 n (M 2404090 (n + 1)) 2404090 n = M 2404090 (n + 1) := by unfold z_up; rw [if_pos rfl, if_pos rfl]
      have a2 : z_up (z_up M 2401089 n (M 2401089 (n + 1))) 2404090 n (M 2404090 (n + 1)) 2401089 n = M 2401089 (n + 1) := by rw [z_up_ne (by decide)]; unfold z_up; rw [if_pos rfl, if_pos rfl]
      cases y with
      | none => show _ = 1; rw [a1]; exact hy
      | some v => exact ⟨a1.trans hy.1, a2.trans hy.2⟩
  have hb : M 2404090 (n + 1) = 0 ∨ M 2404090 (n + 1) = 1 := by
    cases y with
    | none => exact Or.inr hy
    | some v => exact Or.inl hy.1
  by_cases c1 : c = 38
  · subst c1
    refine re_273 d ⟨fun _ => ?_, fun q => absurd rfl q⟩
    rw [w1]
    refine rg_273_16 d ⟨hn0, by omega, fun q => rg_273_45 d ?_, fun q => ⟨hn0, by omega, fun q2 => absurd rfl q2, fun _ => rg_273_42 d ⟨fun e => ⟨by omega, by omega, hn0, by omega, by omega, by omega, hn0, by omega, ?_⟩, fun e => rg_273_45 d ?_⟩⟩⟩
    · cases x with
      | none => exact same hx
      | some v => exact absurd hx.1 q
    · cases x with
      | none => exact absurd (show M 2404090 n = 1 from hx) (by omega)
      | some v =>
        have hv : v = 1 := by have := hx.2; omega
        refine z_bl_of (by rw [z_up_ne (by decide)]; exact hb) (take ?_)
        unfold z_o2; rw [if_pos rfl, if_pos (by rw [hv])]
    · cases x with
      | none => exact absurd (show M 2404090 n = 1 from hx) (by omega)
      | some v =>
        have hv : ¬ v = 1 := by have := hx.2; omega
        refine same ?_
        unfold z_o2; rw [if_pos rfl, if_neg (fun q => hv (Option.some.inj q))]; exact hx
  · by_cases c2 : c = 124
    · subst c2
      refine re_273 d ⟨fun q => absurd q (by decide), fun _ => ⟨fun q => absurd rfl q, fun _ => ?_⟩⟩
      rw [w1]
      refine rg_273_16 d ⟨hn0, by omega, fun q => rg_273_45 d ?_, fun q => ⟨hn0, by omega, fun _ => rg_273_42 d ⟨fun e => ⟨by omega, by omega, hn0, by omega, by omega, by omega, hn0, by omega, ?_⟩, fun e => rg_273_45 d ?_⟩, fun q2 => absurd q2 (by decide)⟩⟩
      · cases x with
        | none => exact same hx
        | some v => exact absurd hx.1 q
      · cases x with
        | none => exact absurd (show M 2404090 n = 1 from hx) (by omega)
        | some v =>
          have hv : v = 0 := by have := hx.2; omega
          refine z_bl_of (by rw [z_up_ne (by decide)]; exact hb) (take ?_)
          unfold z_o2; rw [if_neg (by decide), if_pos rfl, if_pos (by rw [hv])]
      · cases x with
        | none => exact absurd (show M 2404090 n = 1 from hx) (by omega)
        | some v =>
          have hv : ¬ v = 0 := by have := hx.2; omega
          refine same ?_
          unfold z_o2; rw [if_neg (by decide), if_pos rfl, if_neg (fun q => hv (Option.some.inj q))]; exact hx
    · -- an order that reckons
      have go : ∀ b : Int, (b = 0 ∨ b = 1) → (∀ v u : Int, x = some v → y = some u → b = 0 → z_o2 c x y = some (zv_wk c v u)) → (b = 1 → z_o2 c x y = none) → (b = 0 → ∃ v u : Int, x = some v ∧ y = some u) → z_G 0 (d + 1) z_m273 120 [z_R 13, z_I c, z_I n, z_I (n + 1)] [z_I b, z_I n, z_R 2404090] M Q := by
        intro b hb01 g1 g2 g3
        refine rg_273_120 d ⟨hn0, by omega, z_bl_of hb01 ⟨hn0, by omega, by omega, by omega, ?_⟩⟩
        rw [z_up_ne (by decide)]
        refine km_worked d (z_viI ⟨hn0, by omega, ?_⟩)
        refine fin _ (fun k k1 k2 => by rw [z_up_ne k1, z_up_ne k2]) (fun j hj => ?_) ?_
        · constructor
          · rw [z_up_ne (by decide)]; unfold z_up; rw [if_pos rfl, if_neg hj]
          · unfold z_up; rw [if_pos rfl, if_neg hj, if_neg (by decide)]
        · have a1 : z_up (z_up M 2404090 n b) 2401089 n (zv_wk c (M 2401089 n) (M 2401089 (n + 1))) 2404090 n = b := by rw [z_up_ne (by decide)]; unfold z_up; rw [if_pos rfl, if_pos rfl]
          have a2 : z_up (z_up M 2404090 n b) 2401089 n (zv_wk c (M 2401089 n) (M 2401089 (n + 1))) 2401089 n = zv_wk c (M 2401089 n) (M 2401089 (n + 1)) := by unfold z_up; rw [if_pos rfl, if_pos rfl]
          rcases hb01 with hb0 | hb1
          · obtain ⟨v, u, ex, ey⟩ := g3 hb0
            rw [g1 v u ex ey hb0]
            subst ex; subst ey
            refine ⟨a1.trans hb0, a2.trans ?_⟩
            rw [hx.2, hy.2]
          · rw [g2 hb1]
            exact a1.trans hb1
      have oo := z_o2_n c1 c2 x y
      refine re_273 d ⟨fun q => absurd q c1, fun _ => ⟨fun _ => ?_, fun q => absurd q c2⟩⟩
      rw [w1]
      refine ⟨hn0, by omega, fun q => rg_273_115 d (go 1 (Or.inr rfl) (fun _ _ _ _ q => absurd q (by decide)) (fun _ => ?_) (fun q => absurd q (by decide))), fun q => ⟨by omega, by omega, fun q2 => rg_273_115 d (go 1 (Or.inr rfl) (fun _ _ _ _ q => absurd q (by decide)) (fun _ => ?_) (fun q => absurd q (by decide))), fun q2 => ?_⟩⟩
      · cases x with
        | none => rw [oo]
        | some v => exact absurd hx.1 q
      · cases y with
        | none => rw [oo]; cases x <;> rfl
        | some v => exact absurd hy.1 q2
      · cases x with
        | none => exact absurd (show M 2404090 n = 1 from hx) (by omega)
        | some v =>
          cases y with
          | none => exact absurd (show M 2404090 (n + 1) = 1 from hy) (by omega)
          | some u =>
            have oo2 : z_o2 c (some v) (some u) = if (c = 47 ∨ c = 37) ∧ u = 0 then none else some (zv_wk c v u) := oo
            have div : (c = 47 ∨ c = 37) → z_G 0 (d + 1) z_m273 106 [z_R 13, z_I c, z_I n, z_I (n + 1)] [z_I n, z_R 2404090] M Q := by
              intro hc4
              refine rg_273_106 d ⟨by omega, by omega, fun q3 => rg_273_119 d (go 0 (Or.inl rfl) (fun v' u' ev eu _ => ?_) (fun q => absurd q (by decide)) (fun _ => ⟨v, u, rfl, rfl⟩)), fun q3 => rg_273_115 d (go 1 (Or.inr rfl) (fun _ _ _ _ q => absurd q (by decide)) (fun _ => ?_) (fun q => absurd q (by decide)))⟩
              · cases ev; cases eu
                rw [oo2, if_neg (fun z => q3 (hy.2.trans z.2))]
              · rw [oo2, if_pos ⟨hc4, hy.2.symm.trans q3⟩]
            refine ⟨fun c4 => div (Or.inl c4), fun c4 => ⟨fun c5 => rg_273_119 d (go 0 (Or.inl rfl) (fun v' u' ev eu _ => ?_) (fun q => absurd q (by decide)) (fun _ => ⟨v, u, rfl, rfl⟩)), fun c5 => div (Or.inr c5)⟩⟩
            cases ev; cases eu
            rw [oo2, if_neg (fun z => z.1.elim c4 c5)]
/-- what stands ready: the minute, the sun, the person, the spot -/
def z_as (M : z_M) (t u p s : Int) : Prop := M 13 39 = t ∧ M 13 40 = t / 4 ∧ M 13 41 = u ∧ M 13 42 = p ∧ M 13 43 = s % 10 ∧ M 13 44 = s / 10
theorem km_valueOf (d : Nat) {M : z_M} {Q : z_V → z_M → Prop} {c t u p s : Int} (ha : z_as M t u p s) (h : Q (z_I (z_nm6 t u p s c)) M) : z_Cl 0 d 271 [z_R 13, z_I c] M Q := by
  obtain ⟨h1, h2, h3, h4, h5, h6⟩ := ha
  unfold z_nm6 at h
  refine re_271 d ?_
  rw [h1, h2, h3, h4, h5, h6]
  refine ⟨⟨fun c1 => ?_, fun c1 => ?_, fun c1 => ?_, fun c1 => ?_, fun c1 => ?_, fun c1 => ?_, fun c1 => ?_, fun c1 => ?_, fun c1 => ?_, trivial⟩, fun c1 => ?_⟩
  all_goals (repeat (first | rw [if_pos (by omega)] at h | rw [if_neg (by omega)] at h))
  all_goals exact h
/-- the orders from a place on, as a whole -/
theorem km_works (d : Nat) {S : z_M} {Q : z_V → z_M → Prop} {t u p s a b : Int} (hb : z_blk2 (S 2401080) a b) {M : z_M} (hcd : M 2401080 = S 2401080) (har : M 2401081 = S 2401081) (ha : z_as M t u p s) (h : ∀ M' : z_M, (∀ k, k ≠ 2401089 → k ≠ 2404090 → M' k = M k) → (M' 2404090 0 = 0 → ∃ v, z_evh S (z_nm6 t u p s) a b = some v ∧ M' 2401089 0 = v) → (¬ M' 2404090 0 = 0 → z_evh S (z_nm6 t u p s) a b = none) → Q z_U M') : z_Cl 0 (d + 2) 274 [z_R 13, z_I a, z_I b] M Q := by
  obtain ⟨ha0, hab, hb2, hok⟩ := hb
  have key : ∀ (f : Nat) (i : Int) (r : List (Option Int)) (M' : z_M), a ≤ i → i ≤ b → (b - i).toNat = f → z_hok (S 2401080) f i r.length → ((r.length : Nat) : Int) ≤ i - a → (∀ k, k ≠ 2401089 → k ≠ 2404090 → M' k = M k) → z_sk M' r → z_ev (S 2401080) (S 2401081) (z_nm6 t u p s) f i r = z_ev (S 2401080) (S 2401081) (z_nm6 t u p s) (b - a).toNat a [] → z_G 0 (d + 2) z_m274 5 [z_R 13, z_I a, z_I b, z_I ((r.length : Nat) : Int), z_I i] [] M' Q := by
    intro f
    induction f with
    | zero =>
      intro i r M' h1 h2 h3 h4 h5 h6 h7 h8
      refine rg_274_5 (d + 1) ⟨fun _ => ?_, fun c => absurd c (by omega)⟩
      have hl : r.length = 1 := h4
      match r, hl with
      | [x], _ =>
        have e : z_evh S (z_nm6 t u p s) a b = x := by
          unfold z_evh
          rw [← h8]
          rfl
        refine h M' h6 (fun c => ?_) (fun c => ?_)
        · rw [e]
          cases x with
          | none => exact absurd (show M' 2404090 0 = 1 from h7.1) (by omega)
          | some v => exact ⟨v, rfl, h7.1.2⟩
        · rw [e]
          cases x with
          | none => rfl
          | some v => exact absurd h7.1.1 c
    | succ f ih =>
      intro i r M' h1 h2 h3 h4 h5 h6 h7 h8
      have hcd' : M' 2401080 = S 2401080 := (h6 _ (by decide) (by decide)).trans hcd
      have har' : M' 2401081 = S 2401081 := (h6 _ (by decide) (by decide)).trans har
      have hi : i < b := by omega
      refine rg_274_5 (d + 1) ⟨fun c => absurd c (by omega), fun _ => ⟨by omega, by omega, fun c => ⟨by omega, by omega, fun c2 => ⟨by omega, by omega, by omega, by omega, ?_⟩, fun c2 => ?_⟩, fun c => ⟨by omega, by omega, ?_⟩⟩⟩
      · -- a value comes
        rw [hcd'] at c c2
        have hv : (S 2401080 i = 0 ∨ S 2401080 i = 1) ∧ z_hok (S 2401080) f (i + 1) (r.length + 1) := by
          rcases h4 with g | g | g
          · exact g
          · exact absurd g.1 c2
          · exact absurd g.1 (by omega)
        have hl : ∀ x : Option Int, (((x :: r).length : Nat) : Int) = ((r.length : Nat) : Int) + 1 := fun x => by rw [List.length_cons]; omega
        have put : ∀ (x : Int) (N : z_M), N = z_up (z_up M' 2404090 ((r.length : Nat) : Int) 0) 2401089 ((r.length : Nat) : Int) x → z_o1 (S 2401080 i) (S 2401081 i) (z_nm6 t u p s) r = some x :: r → z_G 0 (d + 2) z_m274 5 [z_R 13, z_I a, z_I b, z_I (((r.length : Nat) : Int) + 1), z_I (i + 1)] [] N Q := by
          intro x N eN eo
          have := ih (i + 1) (some x :: r) N (by omega) (by omega) (by omega) hv.2 (by rw [hl]; omega) (fun k k1 k2 => by rw [eN, z_up_ne k1, z_up_ne k2]; exact h6 k k1 k2) ?_ ?_
          · rw [hl] at this; exact this
          · refine ⟨⟨?_, ?_⟩, z_sk_cg r (fun j j0 j1 => ⟨?_, ?_⟩) h7⟩
            · rw [eN, z_up_ne (by decide)]; unfold z_up; rw [if_pos rfl, if_pos rfl]
            · rw [eN]; unfold z_up; rw [if_pos rfl, if_pos rfl]
            · rw [eN, z_up_ne (by decide)]; unfold z_up; rw [if_pos rfl, if_neg (by omega)]
            · rw [eN]; unfold z_up; rw [if_pos rfl, if_neg (by omega), if_neg (by decide)]
          · rw [← h8]
            show _ = z_ev _ _ _ f (i + 1) (z_o1 (S 2401080 i) (S 2401081 i) (z_nm6 t u p s) r)
            rw [eo]
        rw [z_up_ne (by decide), z_up_ne (by decide), hcd', har', z_w_id (x := ((r.length : Nat) : Int) + 1) (by omega) (by omega), z_w_id (x := i + 1) (by omega) (by omega)]
        refine ⟨fun c3 => ⟨by omega, by omega, km_valueOf (d + 1) (t := t) (u := u) (p := p) (s := s) ?_ (z_viI ⟨by omega, by omega, put _ _ rfl ?_⟩)⟩, fun c3 => ⟨by omega, by omega, by omega, by omega, put _ _ rfl ?_⟩⟩
        · unfold z_as
          rw [z_up_ne (by decide), h6 13 (by decide) (by decide)]
          exact ha
        · unfold z_o1; rw [if_neg c3, if_pos (by omega)]
        · unfold z_o1; rw [if_pos c3]
      · -- not
        rw [hcd'] at c2
        have hv : 1 ≤ r.length ∧ z_hok (S 2401080) f (i + 1) r.length := by
          rcases h4 with g | g | g
          · exact absurd g.1 (by omega)
          · exact g.2
          · exact absurd g.1 (by omega)
        match r, hv, h5, h7, h8 with
        | x :: r, hv, h5, h7, h8 =>
          have hl : (((x :: r).length : Nat) : Int) = ((r.length : Nat) : Int) + 1 := by rw [List.length_cons]; omega
          rw [hl] at h5 ⊢
          rw [z_w_id (x := ((r.length : Nat) : Int) + 1 - 1) (by omega) (by omega), z_w_id (x := i + 1) (by omega) (by omega)]
          refine ⟨by omega, by omega, by omega, by omega, ?_⟩
          have en : ((r.length : Nat) : Int) + 1 - 1 = ((r.length : Nat) : Int) := by omega
          rw [en]
          have := ih (i + 1) (x.map (fun w => z_w (1 - w)) :: r) (z_up M' 2401089 ((r.length : Nat) : Int) (z_w (1 - M' 2401089 ((r.length : Nat) : Int)))) (by omega) (by omega) (by omega) (by rw [List.length_cons]; rw [List.length_cons] at hv; exact hv.2) (by rw [List.length_cons]; omega) (fun k k1 k2 => by rw [z_up_ne k1]; exact h6 k k1 k2) ?_ ?_
          · have hl2 : (((x.map (fun w => z_w (1 - w)) :: r).length : Nat) : Int) = ((r.length : Nat) : Int) + 1 := by rw [List.length_cons]; omega
            rw [hl2] at this; exact this
          · refine ⟨?_, z_sk_cg r (fun j j0 j1 => ⟨?_, ?_⟩) h7.2⟩
            · cases x with
              | none => show z_up _ _ _ _ _ _ = 1; rw [z_up_ne (by decide)]; exact h7.1
              | some v =>
                refine ⟨?_, ?_⟩
                · rw [z_up_ne (by decide)]; exact h7.1.1
                · unfold z_up; rw [if_pos rfl, if_pos rfl, h7.1.2]
            · rw [z_up_ne (by decide)]
            · unfold z_up; rw [if_pos rfl, if_neg (by omega)]
          · rw [← h8]
            show _ = z_ev _ _ _ f (i + 1) (z_o1 (S 2401080 i) (S 2401081 i) (z_nm6 t u p s) (x :: r))
            unfold z_o1; rw [if_neg (by omega), if_neg (by omega), if_pos c2]
      · -- two are joined
        rw [hcd'] at c ⊢
        have hv : 2 ≤ r.length ∧ z_hok (S 2401080) f (i + 1) (r.length - 1) := by
          rcases h4 with g | g | g
          · exact absurd g.1 (by omega)
          · exact absurd g.1 (by omega)
          · exact g.2
        match r, hv, h5, h7, h8 with
        | y :: x :: r, hv, h5, h7, h8 =>
          have hl : (((y :: x :: r).length : Nat) : Int) = ((r.length : Nat) : Int) + 2 := by rw [List.length_cons, List.length_cons]; omega
          rw [hl] at h5 ⊢
          rw [z_w_id (x := ((r.length : Nat) : Int) + 2 + -1) (by omega) (by omega), z_w_id (x := ((r.length : Nat) : Int) + 2 + -1 - 1) (by omega) (by omega), z_w_id (x := i + 1) (by omega) (by omega)]
          have en : ((r.length : Nat) : Int) + 2 + -1 - 1 = ((r.length : Nat) : Int) := by omega
          have en2 : ((r.length : Nat) : Int) + 2 + -1 = ((r.length : Nat) : Int) + 1 := by omega
          rw [en, en2]
          refine km_does d c rfl (by omega) h7 (fun N f1 f2 => ?_)
          have hl2 : (((z_o2 (S 2401080 i) x y :: r).length : Nat) : Int) = ((r.length : Nat) : Int) + 1 := by rw [List.length_cons]; omega
          have := ih (i + 1) (z_o2 (S 2401080 i) x y :: r) N (by omega) (by omega) (by omega) (by rw [List.length_cons]; rw [List.length_cons, List.length_cons] at hv; exact hv.2) (by omega) (fun k k1 k2 => (f1 k k1 k2).trans (h6 k k1 k2)) f2 ?_
          · rw [hl2] at this; exact this
          · rw [← h8]
            show _ = z_ev _ _ _ f (i + 1) (z_o1 (S 2401080 i) (S 2401081 i) (z_nm6 t u p s) (y :: x :: r))
            unfold z_o1; rw [if_neg (by omega), if_neg (by omega), if_neg (by omega)]
  exact re_274 (d + 1) (key (b - a).toNat a [] M (by omega) hab rfl hok (by show (0 : Int) ≤ _; omega) (fun _ _ _ => rfl) trivial rfl)
/-- tells: what the first clause says -/
theorem km_tells (d : Nat) {S M : z_M} {Q : z_V → z_M → Prop} {le most t u p s : Int} (hS : z_sit S M) (hI : z_ILm S) (hm : 0 ≤ most) (ha : z_as M t u p s) (h : ∀ M' : z_M, (∀ k, k ≠ 2401089 → k ≠ 2404090 → M' k = M k) → Q (z_I (zv_rk S le most t u p s)) M') : z_Cl 0 (d + 3) 275 [z_R 13, z_I le, z_I most] M Q := by
  obtain ⟨hc0, hc1, hb⟩ := hI
  have r1 : M 2401080 = S 2401080 := z_fn hS _ rfl
  have r2 : M 2401081 = S 2401081 := z_fn hS _ rfl
  have r3 : M 161076 = S 161076 := z_fn hS _ rfl
  have r4 : M 161077 = S 161077 := z_fn hS _ rfl
  have r5 : M 161078 = S 161078 := z_fn hS _ rfl
  have r6 : M 161079 = S 161079 := z_fn hS _ rfl
  have r7 : M 13 29 = S 13 29 := z_ff hS _ _ rfl
  have key : ∀ (f : Nat) (k : Int) (M' : z_M), 0 ≤ k → k ≤ S 13 29 → (S 13 29 - k).toNat = f → (∀ q, q ≠ 2401089 → q ≠ 2404090 → M' q = M q) → z_tel S (z_nm6 t u p s) le most f k = zv_rk S le most t u p s → z_G 0 (d + 3) z_m275 2 [z_R 13, z_I le, z_I most, z_I k, z_U] [] M' Q := by
    intro f
    induction f with
    | zero =>
      intro k M' k0 k1 hf hM e
      refine rg_275_2 (d + 2) ⟨fun _ => ?_, fun c => ?_⟩
      · have := h M' hM
        rw [← e] at this
        exact this
      · rw [hM 13 (by decide) (by decide), r7] at c
        exact absurd c (by omega)
    | succ f ih =>
      intro k M' k0 k1 hf hM e
      have f1 := hM 2401080 (by decide) (by decide)
      have f2 := hM 2401081 (by decide) (by decide)
      have f3 := hM 161076 (by decide) (by decide)
      have f4 := hM 161077 (by decide) (by decide)
      have f5 := hM 161078 (by decide) (by decide)
      have f6 := hM 161079 (by decide) (by decide)
      have f7 := hM 13 (by decide) (by decide)
      have hbk := hb k k0 (by omega)
      have hk16 : k < 16 := by omega
      have nxt : ∀ N : z_M, (∀ q, q ≠ 2401089 → q ≠ 2404090 → N q = M q) → ¬ (S 161076 k = le ∧ z_evh S (z_nm6 t u p s) (S 161078 k) (S 161079 k) = some 1) → z_G 0 (d + 3) z_m275 2 [z_R 13, z_I le, z_I most, z_I (z_w (k + 1)), z_U] [] N Q := by
        intro N hN hno
        rw [z_w_id (by omega) (by omega)]
        refine ih (k + 1) N (by omega) (by omega) (by omega) hN ?_
        rw [← e]
        show _ = if S 161076 k = le ∧ z_evh S (z_nm6 t u p s) (S 161078 k) (S 161079 k) = some 1 then _ else _
        rw [if_neg hno]
      refine rg_275_2 (d + 2) ⟨fun c => ?_, fun _ => ⟨k0, by omega, fun c => ⟨k0, by omega, k0, by omega, ?_⟩, fun c => nxt M' hM (fun z => ?_)⟩⟩
      · rw [f7, r7] at c; exact absurd c (by omega)
      · rw [f3, r3] at c
        rw [f5, f6, r5, r6]
        refine km_works d hbk.2 (f1.trans r1) (f2.trans r2) (t := t) (u := u) (p := p) (s := s) (by unfold z_as; rw [f7]; exact ha) (fun N n1 n2 n3 => ⟨by decide, by decide, fun c2 => ?_, fun c2 => ⟨by decide, by decide, fun c3 => ⟨k0, hk16, k0, hk16, ?_⟩, fun c3 => ?_⟩⟩)
        · refine nxt N (fun q q1 q2 => (n1 q q1 q2).trans (hM q q1 q2)) (fun z => ?_)
          have := z.2
          rw [n3 c2] at this
          cases this
        · obtain ⟨v, hv, hv2⟩ := n2 c2
          have hv1 : v = 1 := by omega
          rw [n1 _ (by decide) (by decide), n1 161078 (by decide) (by decide), f4, f5, r4, r5]
          have e2 : z_clp ((z_evh S (z_nm6 t u p s) (S 161077 k) (S 161078 k)).getD 0) most = zv_rk S le most t u p s := by
            rw [← e]
            show _ = if S 161076 k = le ∧ z_evh S (z_nm6 t u p s) (S 161078 k) (S 161079 k) = some 1 then _ else _
            rw [if_pos ⟨c, by rw [hv, hv1]⟩]
          refine km_works d hbk.1 ((n1 _ (by decide) (by decide)).trans (f1.trans r1)) ((n1 _ (by decide) (by decide)).trans (f2.trans r2)) (t := t) (u := u) (p := p) (s := s) (by unfold z_as; rw [n1 13 (by decide) (by decide), f7]; exact ha) (fun N2 m1 m2 m3 => ⟨by decide, by decide, fun c4 => ⟨by decide, by decide, ?_⟩, fun c4 => ?_⟩)
          · obtain ⟨w, hw, hw2⟩ := m2 c4
            have hQ := h N2 (fun q q1 q2 => (m1 q q1 q2).trans ((n1 q q1 q2).trans (hM q q1 q2)))
            rw [← e2, hw] at hQ
            have hQ2 : Q (z_I (z_clp w most)) N2 := hQ
            unfold z_clp at hQ2
            rw [hw2]
            refine ⟨fun c5 => ⟨fun c6 => ?_, fun c6 => ?_⟩, fun c5 => ?_⟩
            all_goals (repeat (first | rw [if_pos (by omega)] at hQ2 | rw [if_neg (by omega)] at hQ2))
            all_goals exact hQ2
          · have hQ := h N2 (fun q q1 q2 => (m1 q q1 q2).trans ((n1 q q1 q2).trans (hM q q1 q2)))
            rw [← e2, m3 c4] at hQ
            have hQ2 : Q (z_I (z_clp 0 most)) N2 := hQ
            unfold z_clp at hQ2
            rw [if_neg (by decide), if_neg (by omega)] at hQ2
            exact ⟨fun _ => ⟨fun _ => hQ2, fun c5 => absurd c5 (by omega)⟩, fun c5 => absurd c5 (by decide)⟩
        · refine nxt N (fun q q1 q2 => (n1 q q1 q2).trans (hM q q1 q2)) (fun z => ?_)
          obtain ⟨v, hv, hv2⟩ := n2 c2
          have := z.2
          rw [hv] at this
          have := Option.some.inj this
          omega
      · rw [f3, r3] at c
        exact c z.1
  exact re_275 (d + 2) (key (S 13 29).toNat 0 M (by omega) hc0 (by congr 1; omega) (fun _ _ _ => rfl) rfl)
section ZML
variable {S M : z_M} {Q : z_V → z_M → Prop}
theorem km_ask (d : Nat) {le most t u p s : Int} (hS : z_sit S M) (hI : z_ILm S) (hm : 0 ≤ most) (ht : 0 ≤ t) (ht2 : t < 96) (hs : 0 ≤ s) (hs2 : s < 100) (h : ∀ M' : z_M, z_sit S M' → z_ag M M' → Q (z_I (zv_rk S le most t u p s)) M') : z_Cl 0 (d + 3) 276 [z_R 13, z_I t, z_I u, z_I p, z_I s] M (fun _ M1 => z_Cl 0 (d + 3) 275 [z_R 13, z_I le, z_I most] M1 Q) := by
  refine re_276 (d + 3) ?_
  rw [z_td ht, z_td hs, z_tm hs, z_w_id (x := t / 4) (by omega) (by omega), z_w_id (x := s / 10) (by omega) (by omega)]
  have a1 : z_sit S (z_up (z_up (z_up (z_up (z_up (z_up M 13 39 t) 13 40 (t / 4)) 13 41 u) 13 42 p) 13 43 (s % 10)) 13 44 (s / 10)) :=
    z_at_up (z_at_up (z_at_up (z_at_up (z_at_up (z_at_up hS _ _ _ rfl rfl) _ _ _ rfl rfl) _ _ _ rfl rfl) _ _ _ rfl rfl) _ _ _ rfl rfl) _ _ _ rfl rfl
  have a2 : z_ag M (z_up (z_up (z_up (z_up (z_up (z_up M 13 39 t) 13 40 (t / 4)) 13 41 u) 13 42 p) 13 43 (s % 10)) 13 44 (s / 10)) :=
    z_ag_tr (z_ag_tr (z_ag_tr (z_ag_tr (z_ag_tr (z_ag_up _ _ _ rfl) (z_ag_up _ _ _ rfl)) (z_ag_up _ _ _ rfl)) (z_ag_up _ _ _ rfl)) (z_ag_up _ _ _ rfl)) (z_ag_up _ _ _ rfl)
  refine km_tells d a1 hI hm (t := t) (u := u) (p := p) (s := s) ⟨rfl, rfl, rfl, rfl, rfl, rfl⟩ (fun M' hM => h M' (z_at_of a1 (fun k j hk => ?_) (fun k hk => ?_)) (z_ag_tr a2 (fun k j hk => ?_)))
  · exact congrFun (hM k (z_ne1 hk (fun _ => rfl)) (z_ne1 hk (fun _ => rfl))) j
  · exact hM k (z_ne0 hk rfl) (z_ne0 hk rfl)
  · exact congrFun (hM k (z_ne1 hk (fun _ => rfl)) (z_ne1 hk (fun _ => rfl))) j
theorem km_sight (d : Nat) {t p s : Int} (hS : z_sit S M) (hI : z_ILm S) (ht : 0 ≤ t) (ht2 : t < 96) (hs : 0 ≤ s) (hs2 : s < 100) (h : ∀ M' : z_M, z_sit S M' → z_ag M M' → Q (z_I (zv_rk S 118 14 t 0 p s)) M') : z_Cl 0 (d + 4) 279 [z_R 13, z_I p, z_I t, z_I s] M Q :=
  re_279 (d + 3) (km_ask d hS hI (by decide) ht ht2 hs hs2 (fun M' a b => z_viI (h M' a b)))
theorem km_sound (d : Nat) {t p s : Int} (hS : z_sit S M) (hI : z_ILm S) (ht : 0 ≤ t) (ht2 : t < 96) (hs : 0 ≤ s) (hs2 : s < 100) (h : ∀ M' : z_M, z_sit S M' → z_ag M M' → Q (z_I (zv_rk S 104 18 t 0 p s)) M') : z_Cl 0 (d + 4) 280 [z_R 13, z_I p, z_I t, z_I s] M Q :=
  re_280 (d + 3) (km_ask d hS hI (by decide) ht ht2 hs hs2 (fun M' a b => z_viI (h M' a b)))
theorem km_shadowWay (d : Nat) {t u : Int} (hS : z_sit S M) (hI : z_ILm S) (ht : 0 ≤ t) (ht2 : t < 96) (h : ∀ M' : z_M, z_sit S M' → z_ag M M' → Q (z_I (zv_rk S 97 7 t u 0 0)) M') : z_Cl 0 (d + 4) 277 [z_R 13, z_I t, z_I u] M Q :=
  re_277 (d + 3) (km_ask d hS hI (by decide) ht ht2 (by decide) (by decide) (fun M' a b => z_viI (h M' a b)))
theorem km_shadowLength (d : Nat) {t u : Int} (hS : z_sit S M) (hI : z_ILm S) (ht : 0 ≤ t) (ht2 : t < 96) (h : ∀ M' : z_M, z_sit S M' → z_ag M M' → Q (z_I (zv_rk S 108 9 t u 0 0)) M') : z_Cl 0 (d + 4) 278 [z_R 13, z_I t, z_I u] M Q :=
  re_278 (d + 3) (km_ask d hS hI (by decide) ht ht2 (by decide) (by decide) (fun M' a b => z_viI (h M' a b)))
end ZML
