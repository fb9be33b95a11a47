/-! LAW: its text; what is made of it on both sides -/
def zl_jt (L : Nat) (c : Int) : Int := if c = 124 then (if L = 0 then 3 else -1) else if c = 38 then (if L = 1 then 2 else -1) else if c = 43 then (if L = 3 then 8 else -1) else if c = 45 then (if L = 3 then 9 else -1) else if c = 42 then (if L = 4 then 10 else -1) else if c = 47 then (if L = 4 then 11 else -1) else if c = 37 then (if L = 4 then 12 else -1) else -1
def zl_cm (c : Int) : Int := if c = 60 then 5 else if c = 61 then 7 else if c = 62 then 6 else -1
def zl_nx (c : Int) : Int := if c = 116 then 0 else if c = 113 then 1 else if c = 117 then 2 else if c = 112 then 3 else if c = 120 then 4 else if c = 121 then 5 else -1
def zl_num (q : Int → Int) : Nat → Int → Int → Int ⊕ (Int × Int)
  | 0, v, i => if zr_d q i then .inl (-2000 - i) else .inr (v, i)
  | k + 1, v, i => if zr_d q i then zl_num q k (10 * v + (q i - 48)) (i + 1) else .inr (v, i)
abbrev zl_R : Type := Int ⊕ (Int × List (Int × Int) × List Int)
/-- levels 0 to 5 (| & test + * factor); 6 and above: what joins on. Behind: the place, the model's codes, the class's orders (o: how many orders there were) -/
def zl (q : Int → Int) : Nat → Nat → Int → Int → Int → List (Int × Int) → List Int → zl_R
  | 0, _, _, _, _, _, _ => .inl (-1)
  | f + 1, K, D, i, o, mc, co =>
    if K = 2 then
      (if q i = 33 then (if 6 ≤ D then .inl (-5000 - i) else
          match zl q f 2 (D + 1) (i + 1) o [] [] with
          | .inl x => .inl x
          | .inr (j, m, c) => .inr (j, m ++ [(2, 0)], c ++ [4]))
        else if q i = 40 then (if 6 ≤ D then .inl (-5000 - i) else
          match zl q f 0 (D + 1) (i + 1) o [] [] with
          | .inl x => .inl x
          | .inr (j, m, c) => if q j = 41 then .inr (j + 1, m, c) else .inl (-1000 - j))
        else
          match zl q f 3 D i o [] [] with
          | .inl x => .inl x
          | .inr (j, m, c) => if zl_cm (q j) = -1 then .inl (-1000 - j) else
            match zl q f 3 D (j + 1) (o + (c.length : Int)) [] [] with
            | .inl x => .inl x
            | .inr (j2, m2, c2) => .inr (j2, m ++ (m2 ++ [(q j, 0)]), c ++ (c2 ++ [zl_cm (q j)])))
    else if K = 5 then
      (if zr_d q i then (match zl_num q 5 0 i with
          | .inl x => .inl x
          | .inr (v, j) => .inr (j, [(0, v)], [16 * v]))
        else if q i = 91 then (if 6 ≤ D then .inl (-5000 - i) else
          match zl q f 3 (D + 1) (i + 1) o [] [] with
          | .inl x => .inl x
          | .inr (j, m, c) => if q j = 93 then .inr (j + 1, m, c) else .inl (-1000 - j))
        else if zl_nx (q i) = -1 then .inl (-1000 - i) else .inr (i + 1, [(1, q i)], [16 * zl_nx (q i) + 1]))
    else if K < 6 then
      (match zl q f (K + 1) D i o [] [] with
        | .inl x => .inl x
        | .inr (j, m, c) => zl q f (K + 6) D j o m c)
    else if zl_jt (K - 6) (q i) = -1 then .inr (i, mc, co)
    else if zl_jt (K - 6) (q i) < 4 then
      (match zl q f (K - 6 + 1) D (i + 1) (o + (co.length : Int) + 1) [] [] with
        | .inl x => .inl x
        | .inr (j, m, c) => zl q f K D j o (mc ++ (m ++ [(q i, 0)])) (co ++ ((16 * (o + (co.length : Int) + 1 + (c.length : Int)) + zl_jt (K - 6) (q i)) :: c)))
    else
      (match zl q f (K - 6 + 1) D (i + 1) (o + (co.length : Int)) [] [] with
        | .inl x => .inl x
        | .inr (j, m, c) => zl q f K D j o (mc ++ (m ++ [(q i, 0)])) (co ++ (c ++ [zl_jt (K - 6) (q i)])))
/-- an array from a place on -/
def zl_at (A : Int → Int) : Int → List Int → Prop
  | _, [] => True
  | o, x :: r => A o = x ∧ zl_at A (o + 1) r
theorem zl_at_app {A : Int → Int} : ∀ (l r : List Int) (o : Int), zl_at A o (l ++ r) ↔ zl_at A o l ∧ zl_at A (o + (l.length : Int)) r := by
  intro l
  induction l with
  | nil => intro r o; simp only [List.nil_append, List.length_nil]; rw [show o + ((0 : Nat) : Int) = o from by omega]; exact ⟨fun h => ⟨trivial, h⟩, fun h => h.2⟩
  | cons x l ih =>
    intro r o
    show (A o = x ∧ zl_at A (o + 1) (l ++ r)) ↔ (A o = x ∧ zl_at A (o + 1) l) ∧ _
    rw [ih r (o + 1), List.length_cons, show o + ((l.length + 1 : Nat) : Int) = o + 1 + (l.length : Int) from by omega]
    exact ⟨fun h => ⟨⟨h.1, h.2.1⟩, h.2.2⟩, fun h => ⟨h.1.1, h.1.2, h.2⟩⟩
theorem zl_at_cg {A B : Int → Int} : ∀ (l : List Int) (o : Int), (∀ x : Int, o ≤ x → x < o + (l.length : Int) → B x = A x) → zl_at A o l → zl_at B o l := by
  intro l
  induction l with
  | nil => intro o _ _; exact trivial
  | cons x l ih =>
    intro o h g
    have hl : (((x :: l).length : Nat) : Int) = (l.length : Int) + 1 := by rw [List.length_cons]; omega
    exact ⟨(h o (Int.le_refl _) (by omega)).trans g.1, ih (o + 1) (fun y a b => h y (by omega) (by omega)) g.2⟩
/-- joints that can't follow -/
def zl_stop (K : Nat) (c : Int) : Prop := match K with
  | 10 => zl_jt 4 c = -1
  | 4 => zl_jt 4 c = -1
  | 9 => zl_jt 4 c = -1 ∧ zl_jt 3 c = -1
  | 3 => zl_jt 4 c = -1 ∧ zl_jt 3 c = -1
  | 7 => zl_jt 1 c = -1
  | 1 => zl_jt 1 c = -1
  | 6 => zl_jt 1 c = -1 ∧ zl_jt 0 c = -1
  | 0 => zl_jt 1 c = -1 ∧ zl_jt 0 c = -1
  | _ => True
theorem zl_num_j {q : Int → Int} {n : Int} (hT : zr_T q n) : ∀ (k : Nat) (v i w j : Int), 0 ≤ i → i ≤ n → 0 ≤ v → zl_num q k v i = .inr (w, j) → i ≤ j ∧ j ≤ n ∧ 0 ≤ w ∧ j ≤ i + (k : Int) := by
  intro k
  induction k with
  | zero =>
    intro v i w j i0 hn v0 h
    unfold zl_num at h
    split at h
    · cases h
    · have := Sum.inr.inj h
      have e1 : v = w := congrArg (fun z => z.1) this
      have e2 : i = j := congrArg (fun z => z.2) this
      omega
  | succ k ih =>
    intro v i w j i0 hn v0 h
    unfold zl_num at h
    split at h
    · rename_i hd
      have := zr_dlt hT hd
      have := ih _ (i + 1) w j (by omega) (by omega) (by omega) h
      omega
    · have := Sum.inr.inj h
      have e1 : v = w := congrArg (fun z => z.1) this
      have e2 : i = j := congrArg (fun z => z.2) this
      omega
theorem zl_num_b {q : Int → Int} : ∀ (k : Nat) (v i w j B : Int), 0 ≤ v → v < B → zl_num q k v i = .inr (w, j) → w < B * 10 ^ k := by
  intro k
  induction k with
  | zero =>
    intro v i w j B v0 vB h
    unfold zl_num at h
    split at h
    · cases h
    · have e1 : v = w := congrArg (fun z => z.1) (Sum.inr.inj h)
      rw [Int.pow_zero]; omega
  | succ k ih =>
    intro v i w j B v0 vB h
    unfold zl_num at h
    have e : B * 10 ^ (k + 1) = B * 10 * 10 ^ k := by rw [Int.pow_succ, Int.mul_comm (10 ^ k) 10, Int.mul_assoc]
    rw [e]
    split at h
    · exact ih _ (i + 1) w j (B * 10) (by omega) (by omega) h
    · have e1 : v = w := congrArg (fun z => z.1) (Sum.inr.inj h)
      have hp : (1 : Int) ≤ 10 ^ k := by
        have := Int.pow_pos (n := 10) (m := k) (by decide)
        omega
      have : B * 10 * 1 ≤ B * 10 * 10 ^ k := Int.mul_le_mul_of_nonneg_left hp (by omega)
      omega
/-- where a good parse ends, and how much it made -/
theorem zl_end {q : Int → Int} {n : Int} (hT : zr_T q n) : ∀ (f K : Nat) (D i o : Int) (mc : List (Int × Int)) (co : List Int) (j : Int) (m : List (Int × Int)) (c : List Int), 0 ≤ i → i ≤ n → ((K = 9 → zl_jt 4 (q i) = -1) ∧ (K = 6 → zl_jt 1 (q i) = -1)) → zl q f K D i o mc co = .inr (j, m, c) →
    (K < 6 → i < j ∧ j ≤ n ∧ (c.length : Int) ≤ j - i ∧ (m.length : Int) ≤ j - i) ∧ (6 ≤ K → i ≤ j ∧ j ≤ n ∧ (c.length : Int) ≤ j - i + (co.length : Int) ∧ (m.length : Int) ≤ j - i + (mc.length : Int) ∧ zl_jt (K - 6) (q j) = -1) ∧ zl_stop K (q j) := by
  have lt_of : ∀ i : Int, 0 ≤ i → i ≤ n → q i ≠ -1 → i < n := by
    intro i i0 hn hq
    by_cases z : i < n
    · exact z
    · exact absurd (hT.2.2.2 i (by omega)) hq
  intro f
  induction f with
  | zero => intro K D i o mc co j m c _ _ _ h; cases h
  | succ f ih =>
    intro K D i o mc co j m c i0 hn hpre h
    have np : ∀ (k : Nat) (x : Int), k ≠ 9 → k ≠ 6 → ((k = 9 → zl_jt 4 (q x) = -1) ∧ (k = 6 → zl_jt 1 (q x) = -1)) := fun k x a b => ⟨fun z => absurd z a, fun z => absurd z b⟩
    unfold zl at h
    by_cases k2 : K = 2
    · rw [if_pos k2] at h
      subst k2
      refine ⟨fun _ => ?_, fun z => absurd z (by decide), trivial⟩
      split at h
      · rename_i e
        have hi := lt_of i i0 hn (by omega)
        split at h
        · cases h
        · split at h
          · cases h
          · rename_i j1 m1 c1 e1
            have h1 := (ih _ _ _ _ _ _ _ _ _ (by omega) (by omega) (np _ _ (by decide) (by decide)) e1).1 (by decide)
            have := Sum.inr.inj h
            have a1 : j1 = j := congrArg (fun z => z.1) this
            have a2 : m1 ++ [(2, 0)] = m := congrArg (fun z => z.2.1) this
            have a3 : c1 ++ [4] = c := congrArg (fun z => z.2.2) this
            rw [← a1, ← a2, ← a3, List.length_append, List.length_append]
            simp only [List.length_cons, List.length_nil]
            omega
      · split at h
        · rename_i e
          have hi := lt_of i i0 hn (by omega)
          split at h
          · cases h
          · split at h
            · cases h
            · rename_i j1 m1 c1 e1
              have h1 := (ih _ _ _ _ _ _ _ _ _ (by omega) (by omega) (np _ _ (by decide) (by decide)) e1).1 (by decide)
              split at h
              · rename_i e2
                have hj := lt_of j1 (by omega) (by omega) (by omega)
                have := Sum.inr.inj h
                have a1 : j1 + 1 = j := congrArg (fun z => z.1) this
                have a2 : m1 = m := congrArg (fun z => z.2.1) this
                have a3 : c1 = c := congrArg (fun z => z.2.2) this
                rw [← a1, ← a2, ← a3]
                omega
              · cases h
        · split at h
          · cases h
          · rename_i j1 m1 c1 e1
            have h1 := (ih _ _ _ _ _ _ _ _ _ i0 hn (np _ _ (by decide) (by decide)) e1).1 (by decide)
            split at h
            · cases h
            · rename_i ec
              have hj := lt_of j1 (by omega) (by omega) (fun z => ec (by rw [z]; rfl))
              split at h
              · cases h
              · rename_i j2 m2 c2 e2
                have h2 := (ih _ _ _ _ _ _ _ _ _ (by omega) (by omega) (np _ _ (by decide) (by decide)) e2).1 (by decide)
                have := Sum.inr.inj h
                have a1 : j2 = j := congrArg (fun z => z.1) this
                have a2 : m1 ++ (m2 ++ [(q j1, 0)]) = m := congrArg (fun z => z.2.1) this
                have a3 : c1 ++ (c2 ++ [zl_cm (q j1)]) = c := congrArg (fun z => z.2.2) this
                rw [← a1, ← a2, ← a3]
                simp only [List.length_append, List.length_cons, List.length_nil]
                omega
    · rw [if_neg k2] at h
      by_cases k5 : K = 5
      · rw [if_pos k5] at h
        subst k5
        refine ⟨fun _ => ?_, fun z => absurd z (by decide), trivial⟩
        split at h
        · rename_i hd
          have hi := zr_dlt hT hd
          split at h
          · cases h
          · rename_i v j1 e1
            have h2 : zl_num q 4 (10 * 0 + (q i - 48)) (i + 1) = .inr (v, j1) := by
              unfold zl_num at e1
              rw [if_pos hd] at e1
              exact e1
            have h3 := zl_num_j hT 4 _ (i + 1) v j1 (by omega) (by omega) (by omega) h2
            have := Sum.inr.inj h
            have a1 : j1 = j := congrArg (fun z => z.1) this
            have a2 : [((0 : Int), v)] = m := congrArg (fun z => z.2.1) this
            have a3 : [16 * v] = c := congrArg (fun z => z.2.2) this
            rw [← a1, ← a2, ← a3]
            simp only [List.length_cons, List.length_nil]
            omega
        · split at h
          · rename_i e
            have hi := lt_of i i0 hn (by omega)
            split at h
            · cases h
            · split at h
              · cases h
              · rename_i j1 m1 c1 e1
                have h1 := (ih _ _ _ _ _ _ _ _ _ (by omega) (by omega) (np _ _ (by decide) (by decide)) e1).1 (by decide)
                split at h
                · rename_i e2
                  have hj := lt_of j1 (by omega) (by omega) (by omega)
                  have := Sum.inr.inj h
                  have a1 : j1 + 1 = j := congrArg (fun z => z.1) this
                  have a2 : m1 = m := congrArg (fun z => z.2.1) this
                  have a3 : c1 = c := congrArg (fun z => z.2.2) this
                  rw [← a1, ← a2, ← a3]
                  omega
                · cases h
          · split at h
            · cases h
            · rename_i en
              have hi := lt_of i i0 hn (fun z => en (by rw [z]; rfl))
              have := Sum.inr.inj h
              have a1 : i + 1 = j := congrArg (fun z => z.1) this
              have a2 : [((1 : Int), q i)] = m := congrArg (fun z => z.2.1) this
              have a3 : [16 * zl_nx (q i) + 1] = c := congrArg (fun z => z.2.2) this
              rw [← a1, ← a2, ← a3]
              simp only [List.length_cons, List.length_nil]
              omega
      · rw [if_neg k5] at h
        by_cases k6 : K < 6
        · rw [if_pos k6] at h
          split at h
          · cases h
          · rename_i j1 m1 c1 e1
            have h1 := ih _ _ _ _ _ _ _ _ _ i0 hn (np _ _ (by omega) (by omega)) e1
            have h1a := h1.1 (by omega)
            have hk : K = 0 ∨ K = 1 ∨ K = 3 ∨ K = 4 := by omega
            have h2 := ih _ _ _ _ _ _ _ _ _ (by omega) (by omega) ⟨fun z => by
              have : K = 3 := by omega
              subst this; exact h1.2.2, fun z => by
              have : K = 0 := by omega
              subst this; exact h1.2.2⟩ h
            have h2a := h2.2.1 (by omega)
            refine ⟨fun _ => by omega, fun z => absurd z (by omega), ?_⟩
            rcases hk with rfl | rfl | rfl | rfl
            all_goals exact h2.2.2
        · rw [if_neg k6] at h
          have tail : ∀ (o1 : Int) (mx : List (Int × Int)) (cx : Int × List (Int × Int) × List Int → List Int), (∀ r, ((cx r).length : Int) = (co.length : Int) + (r.2.2.length : Int) + 1) → q i ≠ -1 → ∀ (r1 : Int × List (Int × Int) × List Int), zl q f (K - 6 + 1) D (i + 1) o1 [] [] = .inr r1 → zl q f K D r1.1 o (mc ++ (r1.2.1 ++ [(q i, 0)])) (cx r1) = .inr (j, m, c) → K = 6 ∨ K = 7 ∨ K = 9 ∨ K = 10 → (K < 6 → i < j ∧ j ≤ n ∧ (c.length : Int) ≤ j - i ∧ (m.length : Int) ≤ j - i) ∧ (6 ≤ K → i ≤ j ∧ j ≤ n ∧ (c.length : Int) ≤ j - i + (co.length : Int) ∧ (m.length : Int) ≤ j - i + (mc.length : Int) ∧ zl_jt (K - 6) (q j) = -1) ∧ zl_stop K (q j) := by
            intro o1 mx cx hcx hq r1 e1 e2 hK
            obtain ⟨j1, m1, c1⟩ := r1
            dsimp only at e2
            have hi := lt_of i i0 hn hq
            have h1s := ih _ _ _ _ _ _ _ _ _ (by omega) (by omega) (np _ _ (by omega) (by omega)) e1
            have h1 := h1s.1 (by omega)
            have h2 := ih _ _ _ _ _ _ _ _ _ (by omega) (by omega) ⟨fun z => by subst z; exact h1s.2.2, fun z => by subst z; exact h1s.2.2⟩ e2
            have h2a := h2.2.1 (by omega)
            have hl : ((mc ++ (m1 ++ [(q i, (0 : Int))])).length : Int) = (mc.length : Int) + (m1.length : Int) + 1 := by
              simp only [List.length_append, List.length_cons, List.length_nil]; omega
            have := hcx (j1, m1, c1)
            dsimp only at this
            exact ⟨fun z => absurd z (by omega), fun _ => ⟨by omega, by omega, by omega, by omega, h2a.2.2.2.2⟩, h2.2.2⟩
          split at h
          · rename_i ej
            have := Sum.inr.inj h
            have a1 : i = j := congrArg (fun z => z.1) this
            have a2 : mc = m := congrArg (fun z => z.2.1) this
            have a3 : co = c := congrArg (fun z => z.2.2) this
            rw [← a1, ← a2, ← a3]
            refine ⟨fun z => absurd z k6, fun _ => ⟨by omega, by omega, by omega, by omega, ej⟩, ?_⟩
            by_cases c6 : K = 6
            · subst c6; exact ⟨hpre.2 rfl, ej⟩
            · by_cases c7 : K = 7
              · subst c7; exact ej
              · by_cases c9 : K = 9
                · subst c9; exact ⟨hpre.1 rfl, ej⟩
                · by_cases c10 : K = 10
                  · subst c10; exact ej
                  · unfold zl_stop
                    split <;> first | trivial | omega
          · rename_i ej
            have hq : q i ≠ -1 := fun z => ej (by rw [z]; rfl)
            have hK : K = 6 ∨ K = 7 ∨ K = 9 ∨ K = 10 := by
              unfold zl_jt at ej
              repeat' split at ej
              all_goals first | omega | exact absurd rfl ej
            split at h
            · split at h
              · cases h
              · rename_i j1 m1 c1 e1
                exact tail _ mc (fun r => co ++ ((16 * (o + (co.length : Int) + 1 + (r.2.2.length : Int)) + zl_jt (K - 6) (q i)) :: r.2.2)) (fun r => by simp only [List.length_append, List.length_cons]; omega) hq (j1, m1, c1) e1 h hK
            · split at h
              · cases h
              · rename_i j1 m1 c1 e1
                exact tail _ mc (fun r => co ++ (r.2.2 ++ [zl_jt (K - 6) (q i)])) (fun r => by simp only [List.length_append, List.length_cons, List.length_nil]; omega) hq (j1, m1, c1) e1 h hK
