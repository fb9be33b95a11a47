/-! LAW: both sides mean the same -/
/-- the model's codes on their own -/
def ze (nm : Int → Int) : List (Int × Int) → List (Option Int) → List (Option Int)
  | [], s => s
  | z :: r, s => ze nm r (z_o1 z.1 z.2 nm s)
theorem ze_app {nm : Int → Int} : ∀ (a b : List (Int × Int)) (s : List (Option Int)), ze nm (a ++ b) s = ze nm b (ze nm a s) := by
  intro a
  induction a with
  | nil => intro b s; rfl
  | cons z a ih => intro b s; exact ih b _
theorem ze_ev {cd ar nm : Int → Int} : ∀ (m : List (Int × Int)) (p : Int) (s : List (Option Int)), zl_at cd p (m.map (fun z => z.1)) → zl_at ar p (m.map (fun z => z.2)) → z_ev cd ar nm m.length p s = ze nm m s := by
  intro m
  induction m with
  | nil => intro p s _ _; rfl
  | cons z m ih =>
    intro p s h1 h2
    show z_ev cd ar nm m.length (p + 1) (z_o1 (cd p) (ar p) nm s) = ze nm m (z_o1 z.1 z.2 nm s)
    rw [h1.1, h2.1]
    exact ih _ _ h1.2 h2.2
/-- heights -/
def zhk : List (Int × Int) → Nat → Nat → Prop
  | [], h, g => g = h
  | z :: r, h, g => ((z.1 = 0 ∨ z.1 = 1) ∧ zhk r (h + 1) g) ∨ (z.1 = 2 ∧ 1 ≤ h ∧ zhk r h g) ∨ (2 < z.1 ∧ 2 ≤ h ∧ zhk r (h - 1) g)
theorem zhk_app : ∀ (a b : List (Int × Int)) (h g k : Nat), zhk a h g → zhk b g k → zhk (a ++ b) h k := by
  intro a
  induction a with
  | nil => intro b h g k h1 h2; rw [show g = h from h1] at h2; exact h2
  | cons z a ih =>
    intro b h g k h1 h2
    rcases h1 with ⟨c, y⟩ | ⟨c, c2, y⟩ | ⟨c, c2, y⟩
    · exact Or.inl ⟨c, ih b _ g k y h2⟩
    · exact Or.inr (Or.inl ⟨c, c2, ih b _ g k y h2⟩)
    · exact Or.inr (Or.inr ⟨c, c2, ih b _ g k y h2⟩)
theorem zhk_hok {cd : Int → Int} : ∀ (m : List (Int × Int)) (p : Int) (h : Nat), zl_at cd p (m.map (fun z => z.1)) → zhk m h 1 → z_hok cd m.length p h := by
  intro m
  induction m with
  | nil => intro p h _ g; exact (show (1 : Nat) = h from g).symm
  | cons z m ih =>
    intro p h h1 g
    have e : cd p = z.1 := h1.1
    rcases g with ⟨c, y⟩ | ⟨c, c2, y⟩ | ⟨c, c2, y⟩
    · exact Or.inl ⟨by rw [e]; exact c, ih _ _ h1.2 y⟩
    · exact Or.inr (Or.inl ⟨by rw [e]; exact c, c2, ih _ _ h1.2 y⟩)
    · exact Or.inr (Or.inr ⟨by rw [e]; exact c, c2, ih _ _ h1.2 y⟩)
theorem z_rn_up {od nm : Int → Int} {to : Int} : ∀ (f g : Nat) (i : Int) (s : List Int) (r : Int), f ≤ g → z_rn od nm to f i s = some r → z_rn od nm to g i s = some r := by
  intro f
  induction f with
  | zero => intro g i s r _ h; cases h
  | succ f ih =>
    intro g i s r hg h
    obtain ⟨g, rfl⟩ : ∃ g', g = g' + 1 := ⟨g - 1, by omega⟩
    have hg' : f ≤ g := by omega
    unfold z_rn at h ⊢
    by_cases c : to ≤ i
    · rw [if_pos c] at h ⊢; exact h
    · rw [if_neg c] at h ⊢
      by_cases c0 : i < 0 ∨ 240 ≤ i ∨ od i < 0 ∨ 2147483648 ≤ od i ∨ 240 ≤ ((s.length : Nat) : Int)
      · rw [if_pos c0] at h; cases h
      · rw [if_neg c0] at h ⊢
        by_cases k0 : od i % 16 = 0
        · rw [if_pos k0] at h ⊢; exact ih _ _ _ _ hg' h
        · rw [if_neg k0] at h ⊢
          by_cases k1 : od i % 16 = 1
          · rw [if_pos k1] at h ⊢
            by_cases k6 : od i / 16 < 6
            · rw [if_pos k6] at h ⊢; exact ih _ _ _ _ hg' h
            · rw [if_neg k6] at h; cases h
          · rw [if_neg k1] at h ⊢
            match s, h with
            | y :: r', h =>
              dsimp only at h ⊢
              by_cases k4 : od i % 16 = 4
              · rw [if_pos k4] at h ⊢; exact ih _ _ _ _ hg' h
              · rw [if_neg k4] at h ⊢
                by_cases k3 : od i % 16 = 3
                · rw [if_pos k3] at h ⊢
                  by_cases y0 : y = 0
                  · rw [if_pos y0] at h ⊢; exact ih _ _ _ _ hg' h
                  · rw [if_neg y0] at h ⊢
                    by_cases kl : od i / 16 ≤ i
                    · rw [if_pos kl] at h; cases h
                    · rw [if_neg kl] at h ⊢; exact ih _ _ _ _ hg' h
                · rw [if_neg k3] at h ⊢
                  by_cases k2 : od i % 16 = 2
                  · rw [if_pos k2] at h ⊢
                    by_cases y0 : y = 0
                    · rw [if_pos y0] at h ⊢
                      by_cases kl : od i / 16 ≤ i
                      · rw [if_pos kl] at h; cases h
                      · rw [if_neg kl] at h ⊢; exact ih _ _ _ _ hg' h
                    · rw [if_neg y0] at h ⊢; exact ih _ _ _ _ hg' h
                  · rw [if_neg k2] at h ⊢
                    match r', h with
                    | x :: q, h =>
                      dsimp only at h ⊢
                      by_cases k12 : 12 < od i % 16
                      · rw [if_pos k12] at h; cases h
                      · rw [if_neg k12] at h ⊢
                        by_cases kd : y = 0 ∧ (od i % 16 = 11 ∨ od i % 16 = 12)
                        · rw [if_pos kd] at h ⊢; exact h
                        · rw [if_neg kd] at h ⊢; exact ih _ _ _ _ hg' h
/-- a run of some orders gives this value -/
def zq (od nm : Int → Int) (to o : Int) (c : List Int) (v : Option Int) : Prop := ∀ (s : List Int) (F : Nat) (res : Int), (s.length : Int) + (c.length : Int) ≤ 240 →
  ((∃ x : Int, v = some x ∧ ∃ G : Nat, G + c.length ≤ F ∧ z_rn od nm to G (o + (c.length : Int)) (x :: s) = some res) ∨ (v = none ∧ c.length ≤ F ∧ res = 0)) → z_rn od nm to F o s = some res
section ZSEM
variable {od nm : Int → Int} {to o : Int}
/-- one step -/
theorem zq_num {x : Int} (ho : 0 ≤ o) (ht : o + 1 ≤ to) (h240 : to ≤ 240) (hx : 0 ≤ x ∧ x < 100000) (e : od o = 16 * x) : zq od nm to o [16 * x] (some x) := by
  intro s F res hs hh
  have l1 : (([16 * x] : List Int).length : Int) = 1 := rfl
  rcases hh with ⟨y, ey, G, hG, hr⟩ | ⟨c, _⟩
  · have : x = y := Option.some.inj ey
    subst this
    have lG : G + 1 ≤ F := hG
    obtain ⟨g, rfl⟩ : ∃ g, F = g + 1 := ⟨F - 1, by omega⟩
    unfold z_rn
    rw [if_neg (by omega), if_neg (by rw [e]; omega), if_pos (by rw [e]; omega), e, show 16 * x / 16 = x from by omega]
    exact z_rn_up G g _ _ _ (by omega) hr
  · cases c
theorem zq_nam {x v : Int} (ho : 0 ≤ o) (ht : o + 1 ≤ to) (h240 : to ≤ 240) (hx : 0 ≤ x ∧ x < 6) (e : od o = 16 * x + 1) (hv : nm x = v) : zq od nm to o [16 * x + 1] (some v) := by
  intro s F res hs hh
  have l1 : (([16 * x + 1] : List Int).length : Int) = 1 := rfl
  rcases hh with ⟨y, ey, G, hG, hr⟩ | ⟨c, _⟩
  · have : v = y := Option.some.inj ey
    subst this
    have lG : G + 1 ≤ F := hG
    obtain ⟨g, rfl⟩ : ∃ g, F = g + 1 := ⟨F - 1, by omega⟩
    unfold z_rn
    rw [if_neg (by omega), if_neg (by rw [e]; omega), if_neg (by rw [e]; omega), if_pos (by rw [e]; omega), e, show (16 * x + 1) / 16 = x from by omega, if_pos hx.2, hv]
    exact z_rn_up G g _ _ _ (by omega) hr
  · cases c
theorem zq_not {c : List Int} {v : Option Int} (ho : 0 ≤ o) (ht : o + (c.length : Int) + 1 ≤ to) (h240 : to ≤ 240) (hc : 1 ≤ c.length) (h : zq od nm to o c v) (e : od (o + (c.length : Int)) = 4) : zq od nm to o (c ++ [4]) (v.map (fun w => z_w (1 - w))) := by
  intro s F res hs hh
  have l1 : ((c ++ [4]).length) = c.length + 1 := by rw [List.length_append]; rfl
  rw [l1] at hs hh
  cases v with
  | none =>
    rcases hh with ⟨x, ex, _⟩ | ⟨_, hF, hr⟩
    · cases ex
    · exact h s F res (by omega) (Or.inr ⟨rfl, by omega, hr⟩)
  | some x =>
    rcases hh with ⟨y, ey, G, hG, hr⟩ | ⟨z, _⟩
    · have ey' : z_w (1 - x) = y := Option.some.inj ey
      refine h s F res (by omega) (Or.inl ⟨x, rfl, F - c.length, by omega, ?_⟩)
      obtain ⟨g, eg⟩ : ∃ g, F - c.length = g + 1 := ⟨F - c.length - 1, by omega⟩
      rw [eg]
      unfold z_rn
      rw [if_neg (by omega), if_neg (by rw [e, List.length_cons]; omega), if_neg (by rw [e]; decide), if_neg (by rw [e]; decide)]
      dsimp only
      rw [if_pos (by rw [e]; decide), ey']
      rw [show o + (c.length : Int) + 1 = o + ((c.length + 1 : Nat) : Int) from by omega]
      exact z_rn_up G g _ _ _ (by omega) hr
    · cases z
/-- an order of two values -/
def zq_o (k : Int) (a b : Option Int) : Option Int := match a, b with
  | some x, some y => if y = 0 ∧ (k = 11 ∨ k = 12) then none else some (z_wo k x y)
  | _, _ => none
theorem zq_two {c1 c2 : List Int} {v1 v2 : Option Int} {k : Int} (hk : 5 ≤ k ∧ k ≤ 12) (ho : 0 ≤ o) (ht : o + (c1.length : Int) + (c2.length : Int) + 1 ≤ to) (h240 : to ≤ 240) (hc1 : 1 ≤ c1.length) (hc2 : 1 ≤ c2.length) (h1 : zq od nm to o c1 v1) (h2 : zq od nm to (o + (c1.length : Int)) c2 v2) (e : od (o + (c1.length : Int) + (c2.length : Int)) = k) : zq od nm to o (c1 ++ (c2 ++ [k])) (zq_o k v1 v2) := by
  intro s F res hs hh
  have l1 : (c1 ++ (c2 ++ [k])).length = c1.length + c2.length + 1 := by simp only [List.length_append, List.length_cons, List.length_nil]; omega
  rw [l1] at hs hh
  cases v1 with
  | none =>
    rcases hh with ⟨x, ex, _⟩ | ⟨_, hF, hr⟩
    · cases ex
    · exact h1 s F res (by omega) (Or.inr ⟨rfl, by omega, hr⟩)
  | some x =>
    have hF : c1.length + c2.length + 1 ≤ F := by
      rcases hh with ⟨_, _, G, hG, _⟩ | ⟨_, hF, _⟩ <;> omega
    refine h1 s F res (by omega) (Or.inl ⟨x, rfl, F - c1.length, by omega, ?_⟩)
    have hs2 : ((x :: s : List Int).length : Int) = (s.length : Int) + 1 := by rw [List.length_cons]; omega
    cases v2 with
    | none =>
      rcases hh with ⟨y, ey, _⟩ | ⟨_, hF, hr⟩
      · cases ey
      · exact h2 (x :: s) _ res (by omega) (Or.inr ⟨rfl, by omega, hr⟩)
    | some y =>
      refine h2 (x :: s) _ res (by omega) (Or.inl ⟨y, rfl, F - c1.length - c2.length, by omega, ?_⟩)
      obtain ⟨g, eg⟩ : ∃ g, F - c1.length - c2.length = g + 1 := ⟨F - c1.length - c2.length - 1, by omega⟩
      rw [eg]
      have ek : k % 16 = k := by omega
      have hs3 : ((y :: x :: s : List Int).length : Int) = (s.length : Int) + 2 := by rw [List.length_cons, List.length_cons]; omega
      unfold z_rn
      rw [e, ek, if_neg (by omega), if_neg (by omega), if_neg (by omega), if_neg (by omega)]
      dsimp only
      rw [if_neg (by omega), if_neg (by omega), if_neg (by omega), if_neg (by omega)]
      have ezq : zq_o k (some x) (some y) = if y = 0 ∧ (k = 11 ∨ k = 12) then none else some (z_wo k x y) := rfl
      rw [ezq] at hh
      by_cases kd : y = 0 ∧ (k = 11 ∨ k = 12)
      · rw [if_pos kd] at hh ⊢
        rcases hh with ⟨z, ez, _⟩ | ⟨_, _, hr⟩
        · cases ez
        · rw [hr]
      · rw [if_neg kd] at hh ⊢
        rcases hh with ⟨z, ez, G, hG, hr⟩ | ⟨z, _⟩
        · have ez' : z_wo k x y = z := Option.some.inj ez
          rw [ez', show o + (c1.length : Int) + (c2.length : Int) + 1 = o + ((c1.length + c2.length + 1 : Nat) : Int) from by omega]
          exact z_rn_up G g _ _ _ (by omega) hr
        · cases z
/-- an order that leaps -/
theorem zq_leap {c1 c2 : List Int} {v1 v2 : Option Int} {k J : Int} (hk : k = 2 ∨ k = 3) (ho : 0 ≤ o) (ht : o + (c1.length : Int) + 1 + (c2.length : Int) ≤ to) (h240 : to ≤ 240) (hc1 : 1 ≤ c1.length) (hc2 : 1 ≤ c2.length) (hb : v1 = none ∨ v1 = some 0 ∨ v1 = some 1) (h1 : zq od nm to o c1 v1) (h2 : zq od nm to (o + (c1.length : Int) + 1) c2 v2) (hJ : J = 16 * (o + (c1.length : Int) + 1 + (c2.length : Int)) + k) (e : od (o + (c1.length : Int)) = J) : zq od nm to o (c1 ++ (J :: c2)) (if k = 2 then (if v1 = some 1 then v2 else v1) else (if v1 = some 0 then v2 else v1)) := by
  intro s F res hs hh
  have l1 : (c1 ++ (J :: c2)).length = c1.length + c2.length + 1 := by simp only [List.length_append, List.length_cons]; omega
  rw [l1] at hs hh
  have ek : J % 16 = k := by
    rw [hJ]
    rcases hk with rfl | rfl <;> omega
  have ed : J / 16 = o + (c1.length : Int) + 1 + (c2.length : Int) := by
    rw [hJ]
    rcases hk with rfl | rfl <;> omega
  rcases hb with rfl | hb
  · have e0 : (if k = 2 then (if (none : Option Int) = some 1 then v2 else none) else (if (none : Option Int) = some 0 then v2 else none)) = none := by
      rw [if_neg (show ¬ (none : Option Int) = some 1 by decide), if_neg (show ¬ (none : Option Int) = some 0 by decide)]
      split <;> rfl
    rw [e0] at hh
    rcases hh with ⟨x, ex, _⟩ | ⟨_, hF, hr⟩
    · cases ex
    · exact h1 s F res (by omega) (Or.inr ⟨rfl, by omega, hr⟩)
  · obtain ⟨x, hx, rfl⟩ : ∃ x : Int, (x = 0 ∨ x = 1) ∧ v1 = some x := by
      rcases hb with z | z
      · exact ⟨0, Or.inl rfl, z⟩
      · exact ⟨1, Or.inr rfl, z⟩
    have hF : c1.length + c2.length + 1 ≤ F := by
      rcases hh with ⟨_, _, G, hG, _⟩ | ⟨_, hF, _⟩ <;> omega
    refine h1 s F res (by omega) (Or.inl ⟨x, rfl, F - c1.length, by omega, ?_⟩)
    obtain ⟨g, eg⟩ : ∃ g, F - c1.length = g + 1 := ⟨F - c1.length - 1, by omega⟩
    rw [eg]
    have hs3 : ((x :: s : List Int).length : Int) = (s.length : Int) + 1 := by rw [List.length_cons]; omega
    unfold z_rn
    rw [e, ek, ed, if_neg (by omega), if_neg (by omega), if_neg (by omega), if_neg (by omega)]
    dsimp only
    rw [if_neg (by omega)]
    -- on, and over
    have on : (∃ w : Int, v2 = some w ∧ ∃ G : Nat, G + (c1.length + c2.length + 1) ≤ F ∧ z_rn od nm to G (o + ((c1.length + c2.length + 1 : Nat) : Int)) (w :: s) = some res) ∨ (v2 = none ∧ c1.length + c2.length + 1 ≤ F ∧ res = 0) → z_rn od nm to g (o + (c1.length : Int) + 1) s = some res := by
      intro hh
      refine h2 s g res (by omega) ?_
      rcases hh with ⟨w, ew, G, hG, hr⟩ | ⟨ew, _, hr⟩
      · refine Or.inl ⟨w, ew, G, by omega, ?_⟩
        rw [show o + (c1.length : Int) + 1 + (c2.length : Int) = o + ((c1.length + c2.length + 1 : Nat) : Int) from by omega]
        exact hr
      · exact Or.inr ⟨ew, by omega, hr⟩
    have over : (∃ w : Int, some x = some w ∧ ∃ G : Nat, G + (c1.length + c2.length + 1) ≤ F ∧ z_rn od nm to G (o + ((c1.length + c2.length + 1 : Nat) : Int)) (w :: s) = some res) ∨ ((some x : Option Int) = none ∧ c1.length + c2.length + 1 ≤ F ∧ res = 0) → z_rn od nm to g (o + (c1.length : Int) + 1 + (c2.length : Int)) (x :: s) = some res := by
      intro hh
      rcases hh with ⟨w, ew, G, hG, hr⟩ | ⟨ew, _, hr⟩
      · have : x = w := Option.some.inj ew
        subst this
        rw [show o + (c1.length : Int) + 1 + (c2.length : Int) = o + ((c1.length + c2.length + 1 : Nat) : Int) from by omega]
        exact z_rn_up G g _ _ _ (by omega) hr
      · cases ew
    rcases hk with rfl | rfl
    · rw [if_neg (by decide), if_pos rfl]
      rw [if_pos rfl] at hh
      rcases hx with rfl | rfl
      · rw [if_pos rfl, if_neg (by omega)]
        rw [if_neg (by decide)] at hh
        exact over hh
      · rw [if_neg (by decide)]
        rw [if_pos rfl] at hh
        exact on hh
    · rw [if_pos rfl]
      rw [if_neg (by decide)] at hh
      rcases hx with rfl | rfl
      · rw [if_pos rfl]
        rw [if_pos rfl] at hh
        exact on hh
      · rw [if_neg (by decide), if_neg (by omega)]
        rw [if_neg (by decide)] at hh
        exact over hh
end ZSEM
