/-! OPS: halves -/
theorem z_up_nj {M : z_M} {a : Nat} {j j' x : Int} (h : j' ≠ j) : z_up M a j x a j' = M a j' := by
  unfold z_up
  rw [if_pos rfl, if_neg h]
theorem zw_orb {u j : Nat} (hu : u < 1024) (hj : j < 10) : z_or (u : Int) (z_shl 1 (j : Int)) = ((u ||| 2 ^ j : Nat) : Int) ∧ (u ||| 2 ^ j) < 1024 := by
  have h1 : 2 ^ j < 2 ^ 10 := Nat.pow_lt_pow_right (by decide) hj
  rw [z_shl1_n (by omega), z_or_n (by omega) (by omega)]
  exact ⟨rfl, Nat.or_lt_two_pow (n := 10) hu h1⟩
section ZHAL
variable {B : Int → Int} {ap : Int} {n : Nat}
def zw_ft (B : Int → Int) (ap : Int) (i j : Nat) : Bool := decide (B (3 * (i : Int)) ≠ B (3 * (j : Int)) ∧ z_ab (B (3 * (i : Int) + 1) - B (3 * (j : Int) + 1)) ≤ ap ∧ z_ab (B (3 * (i : Int) + 2) % 10 - B (3 * (j : Int) + 2) % 10) ≤ 1 ∧ z_ab (B (3 * (i : Int) + 2) / 10 - B (3 * (j : Int) + 2) / 10) ≤ 1)
def zw_cn (B : Int → Int) (ap : Int) (i u j : Nat) : Bool := decide (B (3 * (i : Int)) = 0) && (!u.testBit j && zw_ft B ap i j)
def zw_km (B : Int → Int) (ap : Int) (g : Nat → Int) (i u : Nat) : Nat → Int
  | 0 => g u
  | q + 1 => if zw_cn B ap i u q = true then z_max (zw_km B ap g i u q) (1 + g (u ||| 2 ^ q)) else zw_km B ap g i u q
def zw_kf (B : Int → Int) (ap : Int) (n : Nat) : Nat → Nat → Nat → Int
  | 0 => fun _ _ => 0
  | r + 1 => fun i u => zw_km B ap (zw_kf B ap n r (i + 1)) i u n
theorem zw_km_ne {g : Nat → Int} {i u : Nat} (h : ¬ B (3 * (i : Int)) = 0) : ∀ q, zw_km B ap g i u q = g u := by
  intro q
  induction q with
  | zero => rfl
  | succ q ih =>
    unfold zw_km
    rw [ih]
    unfold zw_cn
    rw [decide_eq_false h]
    exact if_neg (fun z => by cases z)
theorem zw_km_b {g : Nat → Int} {i u : Nat} {r : Int} (hg : ∀ v, 0 ≤ g v ∧ g v ≤ r) : ∀ q, 0 ≤ zw_km B ap g i u q ∧ zw_km B ap g i u q ≤ r + 1 := by
  intro q
  induction q with
  | zero => have := hg u; show 0 ≤ g u ∧ g u ≤ r + 1; omega
  | succ q ih =>
    have := hg (u ||| 2 ^ q)
    unfold zw_km
    split
    · unfold z_max; split <;> omega
    · exact ih
theorem zw_kf_b : ∀ (r i u : Nat), 0 ≤ zw_kf B ap n r i u ∧ zw_kf B ap n r i u ≤ (r : Int) := by
  intro r
  induction r with
  | zero => intro i u; exact ⟨Int.le_refl _, Int.le_refl _⟩
  | succ r ih => intro i u; exact zw_km_b (fun v => ih (i + 1) v) n
/-- either nobody, or one of them -/
theorem zw_km_or {g : Nat → Int} {i u : Nat} : ∀ q, zw_km B ap g i u q = g u ∨ ∃ j, j < q ∧ zw_cn B ap i u j = true ∧ 1 + g (u ||| 2 ^ j) = zw_km B ap g i u q := by
  intro q
  induction q with
  | zero => exact Or.inl rfl
  | succ q ih =>
    unfold zw_km
    split
    · next c =>
      unfold z_max
      split
      · exact Or.inr ⟨q, by omega, c, rfl⟩
      · rcases ih with h | ⟨j, hj, h1, h2⟩
        · exact Or.inl h
        · exact Or.inr ⟨j, by omega, h1, h2⟩
    · rcases ih with h | ⟨j, hj, h1, h2⟩
      · exact Or.inl h
      · exact Or.inr ⟨j, by omega, h1, h2⟩
def zw_kn (B : Int → Int) (ap : Int) (g : Nat → Int) (i u : Nat) : Nat → Int
  | 0 => 0
  | q + 1 => if zw_cn B ap i u q = true then z_max (zw_kn B ap g i u q) (1 + g (u ||| 2 ^ q)) else zw_kn B ap g i u q
theorem zw_kn_km {g : Nat → Int} {i u : Nat} (hg : 0 ≤ g u) : ∀ q, z_max (zw_kn B ap g i u q) (g u) = zw_km B ap g i u q := by
  intro q
  induction q with
  | zero => unfold zw_kn zw_km z_max; split <;> omega
  | succ q ih =>
    unfold zw_kn zw_km
    rw [← ih]
    split
    · unfold z_max
      repeat' split
      all_goals omega
    · rfl
/-- the first that holds, or the end -/
def zw_fi (g : Nat → Bool) : Nat → Nat
  | 0 => 0
  | n + 1 => if zw_fi g n < n then zw_fi g n else if g n = true then n else n + 1
theorem zw_fi_no {g : Nat → Bool} : ∀ n, z_exn g n = false → zw_fi g n = n := by
  intro n
  induction n with
  | zero => intro _; rfl
  | succ n ih =>
    intro h
    have h' := z_exn_f.mp h
    unfold zw_fi
    rw [ih (z_exn_f.mpr (fun i hi => h' i (by omega))), if_neg (Nat.lt_irrefl n), if_neg (by rw [h' n (by omega)]; decide)]
theorem zw_fi_at {g : Nat → Bool} {j : Nat} (h : z_exn g j = false) (hj : g j = true) : ∀ n, j < n → zw_fi g n = j := by
  intro n
  induction n with
  | zero => intro h; exact absurd h (Nat.not_lt_zero j)
  | succ n ih =>
    intro hn
    unfold zw_fi
    by_cases e : j = n
    · subst e
      rw [zw_fi_no j h, if_neg (Nat.lt_irrefl j), if_pos hj]
    · rw [ih (by omega), if_pos (by omega)]
def zx_pg (B : Int → Int) (ap : Int) (n i u j : Nat) : Bool := zw_cn B ap i u j && decide (1 + zw_kf B ap n (n - i - 1) (i + 1) (u ||| 2 ^ j) = zw_kf B ap n (n - i) i u)
def zx_st (P : Int → Int) (a x : Int) : Int → Int := fun k => if k = a then x else P k
def zw_pr (B : Int → Int) (ap : Int) (n : Nat) : Nat → Nat × (Int → Int)
  | 0 => (0, fun _ => 10)
  | i + 1 => if zw_fi (zx_pg B ap n i (zw_pr B ap n i).1) n < n
      then ((zw_pr B ap n i).1 ||| 2 ^ (zw_fi (zx_pg B ap n i (zw_pr B ap n i).1) n), zx_st (zx_st (zw_pr B ap n i).2 (i : Int) (zw_fi (zx_pg B ap n i (zw_pr B ap n i).1) n : Int)) (zw_fi (zx_pg B ap n i (zw_pr B ap n i).1) n : Int) (i : Int))
      else zw_pr B ap n i
theorem zw_pr_u (hn : n ≤ 10) : ∀ i, (zw_pr B ap n i).1 < 1024 := by
  intro i
  induction i with
  | zero => exact (by decide : (0 : Nat) < 1024)
  | succ i ih =>
    unfold zw_pr
    split
    · next c =>
      have h1 : 2 ^ (zw_fi (zx_pg B ap n i (zw_pr B ap n i).1) n) < 2 ^ 10 := Nat.pow_lt_pow_right (by decide) (by omega)
      exact Nat.or_lt_two_pow (n := 10) ih h1
    · exact ih
theorem zw_pr_ye {i j u : Nat} {P : Int → Int} (e : zw_pr B ap n i = (u, P)) (h : z_exn (zx_pg B ap n i u) j = false) (hj : zx_pg B ap n i u j = true) (jn : j < n) : zw_pr B ap n (i + 1) = (u ||| 2 ^ j, zx_st (zx_st P (i : Int) (j : Int)) (j : Int) (i : Int)) := by
  unfold zw_pr
  rw [e]
  dsimp only
  rw [zw_fi_at h hj n jn, if_pos jn]
theorem zw_pr_no {i u : Nat} {P : Int → Int} (e : zw_pr B ap n i = (u, P)) (h : z_exn (zx_pg B ap n i u) n = false) : zw_pr B ap n (i + 1) = (u, P) := by
  unfold zw_pr
  rw [e]
  dsimp only
  rw [zw_fi_no n h, if_neg (Nat.lt_irrefl n)]
/-- whoever isn't of the other side and isn't asked yet is alone -/
theorem zw_pr_10 : ∀ (i k : Nat), i ≤ k → B (3 * (k : Int)) = 0 → (zw_pr B ap n i).2 (k : Int) = 10 := by
  intro i
  induction i with
  | zero => intro k _ _; rfl
  | succ i ih =>
    intro k hk h0
    unfold zw_pr
    split
    · next c =>
      have hx : z_exn (zx_pg B ap n i (zw_pr B ap n i).1) n = true := by
        cases hx : z_exn (zx_pg B ap n i (zw_pr B ap n i).1) n with
        | true => rfl
        | false => rw [zw_fi_no n hx] at c; exact absurd c (Nat.lt_irrefl n)
      obtain ⟨j, hj, hg⟩ := z_exn_t.mp hx
      have hm : ∀ m, zx_pg B ap n i (zw_pr B ap n i).1 m = true → m ≠ k := by
        intro m hg e
        subst e
        unfold zx_pg zw_cn zw_ft at hg
        have h1 := (Bool.and_eq_true _ _).mp ((Bool.and_eq_true _ _).mp hg).1
        have h2 := of_decide_eq_true h1.1
        have h3 := of_decide_eq_true ((Bool.and_eq_true _ _).mp h1.2).2
        exact h3.1 (by rw [h0, h2])
      have hfi : zx_pg B ap n i (zw_pr B ap n i).1 (zw_fi (zx_pg B ap n i (zw_pr B ap n i).1) n) = true := by
        have : ∀ (g : Nat → Bool) (m : Nat), zw_fi g m < m → g (zw_fi g m) = true := by
          intro g m
          induction m with
          | zero => intro h; exact absurd h (Nat.not_lt_zero _)
          | succ m ih2 =>
            intro h
            unfold zw_fi at h ⊢
            by_cases c1 : zw_fi g m < m
            · rw [if_pos c1]; exact ih2 c1
            · rw [if_neg c1] at h ⊢
              by_cases c2 : g m = true
              · rw [if_pos c2]; exact c2
              · rw [if_neg c2] at h; exact absurd h (Nat.lt_irrefl _)
        exact this _ n c
      have e1 := hm _ hfi
      show (if (k : Int) = _ then _ else if (k : Int) = (i : Int) then _ else (zw_pr B ap n i).2 (k : Int)) = 10
      rw [if_neg (by omega), if_neg (by omega)]
      exact ih k (by omega) h0
    · exact ih k (by omega) h0
abbrev zw_by3 (B : Int → Int) (n : Nat) : Prop := ∀ j : Int, 0 ≤ j → j < 3 * (n : Int) → 0 ≤ B j ∧ B j < 256
def zw_kl (B : Int → Int) (ap : Int) (n : Nat) (N : z_M) : Prop := (∀ i : Nat, i < n → N 101060 (i : Int) = B (3 * (i : Int)) ∧ N 101061 (i : Int) = B (3 * (i : Int) + 1) ∧ N 101062 (i : Int) = B (3 * (i : Int) + 2)) ∧ N 12 4 = (n : Int) ∧ N 12 5 = ap
theorem zw_kl_of {M N : z_M} (h : zw_kl B ap n M) (a : N 101060 = M 101060) (b : N 101061 = M 101061) (c : N 101062 = M 101062) (e : N 12 = M 12) : zw_kl B ap n N := by
  unfold zw_kl at h ⊢
  rw [a, b, c, e]; exact h
variable {M : z_M} {Q : z_V → z_M → Prop}
theorem kc_fits (d : Nat) {i j : Nat} (hl : zw_kl B ap n M) (hb : zw_by3 B n) (hn : n ≤ 10) (hi : i < n) (hj : j < n) (h : Q (z_I (zv_b (zw_ft B ap i j))) M) : z_Cl 0 d 22 [z_R 12, z_I (i : Int), z_I (j : Int)] M Q := by
  obtain ⟨l, ls, la⟩ := hl
  obtain ⟨s1, m1, p1⟩ := l i hi
  obtain ⟨s2, m2, p2⟩ := l j hj
  have b1 := hb (3 * (i : Int) + 1) (by omega) (by omega)
  have b2 := hb (3 * (j : Int) + 1) (by omega) (by omega)
  have b3 := hb (3 * (i : Int) + 2) (by omega) (by omega)
  have b4 := hb (3 * (j : Int) + 2) (by omega) (by omega)
  refine re_22 d ?_
  rw [s1, s2, m1, m2, p1, p2, la]
  unfold zw_ft at h
  generalize B (3 * (i : Int)) = x0 at *
  generalize B (3 * (j : Int)) = y0 at *
  generalize B (3 * (i : Int) + 1) = x1 at *
  generalize B (3 * (j : Int) + 1) = y1 at *
  generalize B (3 * (i : Int) + 2) = x2 at *
  generalize B (3 * (j : Int) + 2) = y2 at *
  rw [z_tm b3.1, z_tm b4.1, z_td b3.1, z_td b4.1, z_w_id (x := x2 / 10) (by omega) (by omega), z_w_id (x := y2 / 10) (by omega) (by omega), z_w_id (x := x2 % 10 - y2 % 10) (by omega) (by omega), z_w_id (x := x2 / 10 - y2 / 10) (by omega) (by omega), z_w_id (x := x1 - y1) (by omega) (by omega), z_abs_e (by omega) (by omega), z_abs_e (by omega) (by omega), z_abs_e (by omega) (by omega)]
  have no : ¬ (x0 ≠ y0 ∧ z_ab (x1 - y1) ≤ ap ∧ z_ab (x2 % 10 - y2 % 10) ≤ 1 ∧ z_ab (x2 / 10 - y2 / 10) ≤ 1) → Q (z_I 0) M := fun c => by
    rw [decide_eq_false c] at h; exact h
  refine ⟨by omega, by omega, by omega, by omega, fun c => no (fun z => z.1 c), fun c0 => ⟨by omega, by omega, by omega, by omega, fun c => no (fun z => absurd z.2.1 (by omega)), fun c1 => ⟨by omega, by omega, by omega, by omega, fun c => no (fun z => absurd z.2.2.1 (by omega)), fun c2 => ⟨by omega, by omega, by omega, by omega, fun c => no (fun z => absurd z.2.2.2 (by omega)), fun c3 => ?_⟩⟩⟩⟩
  rw [decide_eq_true ⟨c0, c1, c2, c3⟩] at h; exact h
theorem zw_kbit {u j : Nat} (hu : u < 1024) (hj : j < 10) : z_and (z_shr (u : Int) (j : Int)) 1 = 0 ↔ u.testBit j = false := by
  rw [z_bit_n (by omega) (by omega)]
  cases u.testBit j with
  | true => exact ⟨fun c => absurd c (by decide), fun c => by cases c⟩
  | false => exact ⟨fun _ => rfl, fun _ => rfl⟩
theorem kc_most (hb : zw_by3 B n) (hn : n ≤ 10) (hl : zw_kl B ap n M) : ∀ (r i u D : Nat) (Q : z_V → z_M → Prop), i + r = n → u < 1024 → r < D → Q (z_I (zw_kf B ap n r i u)) M → z_Cl 0 D 23 [z_R 12, z_I (i : Int), z_I (u : Int)] M Q := by
  intro r
  induction r with
  | zero =>
    intro i u D Q hi hu hD hQ
    obtain ⟨D', rfl⟩ : ∃ D', D = D' + 1 := ⟨D - 1, by omega⟩
    exact re_23 D' ⟨fun c => absurd c (by rw [hl.2.1]; omega), fun _ => hQ⟩
  | succ r ih =>
    intro i u D Q hi hu hD hQ
    obtain ⟨D', rfl⟩ : ∃ D', D = D' + 1 := ⟨D - 1, by omega⟩
    refine re_23 D' ⟨fun _ => ?_, fun c => absurd c (by rw [hl.2.1]; omega)⟩
    rw [z_wq (by omega)]
    refine ih (i + 1) u D' _ (by omega) hu (by omega) (z_viI ?_)
    have gb := fun v => zw_kf_b (B := B) (ap := ap) (n := n) r (i + 1) v
    refine z_lpi (n := n) (fun q => zw_km B ap (zw_kf B ap n r (i + 1)) i u q) (fun _ N => N = M) (fun N v q => z_G 0 (D' + 1) z_m23 22 [z_R 12, z_I (i : Int), z_I (u : Int), z_I v, z_I q] [] N Q) M rfl (fun q N hq hN nx => ?_) (fun N hN => ?_)
    · subst hN
      have nx' := nx N rfl
      have e2 : zw_km B ap (zw_kf B ap n r (i + 1)) i u (q + 1) = if zw_cn B ap i u q = true then z_max (zw_km B ap (zw_kf B ap n r (i + 1)) i u q) (1 + zw_kf B ap n r (i + 1) (u ||| 2 ^ q)) else zw_km B ap (zw_kf B ap n r (i + 1)) i u q := rfl
      rw [e2] at nx'
      refine rg_23_22 D' ⟨fun c => absurd c (by rw [hl.2.1]; omega), fun _ => ⟨by omega, by omega, ?_⟩⟩
      rw [(hl.1 i (by omega)).1]
      refine ⟨fun c => ?_, fun c0 => ⟨fun cb => ?_, fun cb => kc_fits D' hl hb hn (by omega) hq (z_viI ⟨fun cz => ?_, fun cz => ?_⟩)⟩⟩
      · have : zw_kf B ap n (r + 1) i u = zw_km B ap (zw_kf B ap n r (i + 1)) i u n := rfl
        rw [zw_km_ne c]
        rw [this, zw_km_ne c] at hQ
        exact hQ
      · rw [zw_kbit hu (by omega)] at cb
        rw [if_neg (by unfold zw_cn; cases hx : u.testBit q with
          | true => simp
          | false => exact absurd hx cb)] at nx'
        rw [z_wq (by omega)]; exact nx'
      · rw [zw_kbit hu (by omega)] at cb
        have cz2 : zw_ft B ap i q = false := by
          cases hx : zw_ft B ap i q with
          | true => rw [hx] at cz; exact absurd cz (by decide)
          | false => rfl
        rw [if_neg (by unfold zw_cn; rw [cz2]; simp)] at nx'
        rw [z_wq (by omega)]; exact nx'
      · rw [zw_kbit hu (by omega)] at cb
        have cz2 : zw_ft B ap i q = true := by
          cases hx : zw_ft B ap i q with
          | true => rfl
          | false => rw [hx] at cz; exact absurd rfl cz
        rw [if_pos (by unfold zw_cn; rw [cz2, cb, decide_eq_true c0]; rfl)] at nx'
        obtain ⟨eo, ob⟩ := zw_orb (u := u) (j := q) hu (by omega)
        have g1 := gb (u ||| 2 ^ q)
        rw [eo, z_wq (by omega), z_wq (by omega)]
        refine ih (i + 1) (u ||| 2 ^ q) D' _ (by omega) ob (by omega) (z_viI ?_)
        rw [z_w_id (by omega) (by omega)]; exact nx'
    · subst hN
      exact rg_23_22 D' ⟨fun _ => hQ, fun c => absurd c (by rw [hl.2.1]; omega)⟩
end ZHAL
