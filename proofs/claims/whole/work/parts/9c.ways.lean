/-! OPS: between, through, maybe, met -/
def z_nb (f : Int → Int) (s w : Int) : Int := if z_nxt s w = -1 then 0 else f (z_nxt s w)
def z_gs (f : Int → Int) (s : Int) : Nat → Int
  | 0 => f s
  | n + 1 => z_wl (z_gs f s n + z_nb f s (2 * (n : Int)))
def z_gat (f : Int → Int) (s : Int) : Int := z_gs f s 4
theorem z_gs_cg {f g : Int → Int} {s : Int} (hs : 0 ≤ s) (hs1 : s < 100) (h : ∀ x : Int, 0 ≤ x → x < 100 → f x = g x) : ∀ n, z_gs f s n = z_gs g s n := by
  intro n
  induction n with
  | zero => exact h s hs hs1
  | succ n ih =>
    show z_wl (z_gs f s n + z_nb f s (2 * (n : Int))) = z_wl (z_gs g s n + z_nb g s (2 * (n : Int)))
    rw [ih]
    congr 2
    unfold z_nb
    rcases z_nxt_in s (2 * (n : Int)) with e | ⟨e1, e2⟩
    · rw [if_pos e, if_pos e]
    · rw [if_neg (by omega), if_neg (by omega)]; exact h _ e1 e2
theorem z_gat_cg {f g : Int → Int} {s : Int} (hs : 0 ≤ s) (hs1 : s < 100) (h : ∀ x : Int, 0 ≤ x → x < 100 → f x = g x) : z_gat f s = z_gat g s := z_gs_cg hs hs1 h 4
def z_can (S : z_M) (but t s : Int) : Bool := decide (S 1001015 s = 0 ∧ (but = -1 ∨ z_sp S but t ≠ s))
def z_wa (S : z_M) (fr but a : Int) : Nat → Int → Int
  | 0, s => if z_can S but a s = true then (if s = fr then 1 else 0) else 0
  | k + 1, s => if z_can S but (a + ((k + 1 : Nat) : Int)) s = true then z_gat (z_wa S fr but a k) s else 0
def z_wb2 (S : z_M) (to : Int) : Nat → Int → Int
  | 0, s => if S 1001015 s = 0 then (if s = to then 1 else 0) else 0
  | k + 1, s => if S 1001015 s = 0 then z_gat (z_wb2 S to k) s else 0
section ZWAY
variable {S M : z_M} {Q : z_V → z_M → Prop}
theorem kc_isPlain (d : Nat) {s : Int} (hS : z_sit S M) (h1 : 0 ≤ s → s < 100 → S 1001015 s = 0 → Q (z_I 1) M) (h0 : ¬ (0 ≤ s ∧ s < 100 ∧ S 1001015 s = 0) → Q (z_I 0) M) : z_Cl 0 (d + 1) 145 [z_R 3, z_I s] M Q := by
  refine re_145 d (kc_isSpot d (fun a b => z_y1 ⟨a, b, ?_⟩) (fun c => z_n1 (h0 (by omega))))
  rw [z_fn hS 1001015 rfl]
  exact ⟨fun c => h0 (fun z => c z.2.2), fun c => h1 a b c⟩
theorem kc_stepsIntoA (d : Nat) {m s : Int} (hS : z_sit S M) (m0 : 0 ≤ m) (m1 : m ≤ 20) (s0 : 0 ≤ s) (s1 : s < 100) (h : Q (z_J (if S 1001015 s = 0 then z_gat (fun x => M 21002046 (100 * m + x)) s else 0)) M) : z_Cl 0 (d + 2) 163 [z_R 10, z_R 21002046, z_I m, z_I s] M Q := by
  refine re_163a (d + 1) (kc_isPlain d hS (fun _ _ c => z_y2 ?_) (fun c => z_n2 ?_))
  · rw [if_pos c] at h
    rw [z_w_id (x := 100 * m) (by omega) (by omega), z_w_id (x := 100 * m + s) (by omega) (by omega)]
    refine ⟨by omega, by omega, ?_⟩
    refine z_lpi (n := 4) (fun q => z_gs (fun x => M 21002046 (100 * m + x)) s q) (fun _ N => N = M) (fun N v q => z_G 0 (d + 2) z_m163 26 [z_R 10, z_R 21002046, z_I m, z_I s, z_J v, z_U, z_I (2 * q), z_U] [] N Q) M rfl (fun q N hq hN nx => ?_) (fun N hN => ?_)
    · subst hN
      have nx' := nx N rfl
      have e2 : z_gs (fun x => N 21002046 (100 * m + x)) s (q + 1) = z_wl (z_gs (fun x => N 21002046 (100 * m + x)) s q + z_nb (fun x => N 21002046 (100 * m + x)) s (2 * (q : Int))) := rfl
      rw [e2, show 2 * ((q + 1 : Nat) : Int) = 2 * (q : Int) + 2 from by omega] at nx'
      unfold z_nb at nx'
      refine rg_163_26a (d + 1) ⟨fun c2 => absurd c2 (by omega), fun _ => c_next (d + 1) s0 s1 (by omega) (by omega) (z_viI ?_)⟩
      rw [z_w_id (x := 2 * (q : Int) + 2) (by omega) (by omega)]
      refine ⟨fun c2 => ?_, fun c2 => ?_⟩
      · rcases z_nxt_in s (2 * (q : Int)) with e | ⟨e1, e3⟩
        · exact absurd e c2
        · rw [z_w_id (x := 100 * m) (by omega) (by omega), z_w_id (x := 100 * m + z_nxt s (2 * (q : Int))) (by omega) (by omega)]
          rw [if_neg c2] at nx'
          exact ⟨by omega, by omega, nx'⟩
      · rw [if_pos c2] at nx'; exact nx'
    · subst hN
      exact rg_163_26a (d + 1) ⟨fun _ => h, fun c2 => absurd c2 (by decide)⟩
  · rw [if_neg (fun z => c ⟨s0, s1, z⟩)] at h; exact h
theorem kc_stepsIntoB (d : Nat) {m s : Int} (hS : z_sit S M) (m0 : 0 ≤ m) (m1 : m ≤ 20) (s0 : 0 ≤ s) (s1 : s < 100) (h : Q (z_J (if S 1001015 s = 0 then z_gat (fun x => M 21002047 (100 * m + x)) s else 0)) M) : z_Cl 0 (d + 2) 163 [z_R 10, z_R 21002047, z_I m, z_I s] M Q := by
  refine re_163b (d + 1) (kc_isPlain d hS (fun _ _ c => z_y2 ?_) (fun c => z_n2 ?_))
  · rw [if_pos c] at h
    rw [z_w_id (x := 100 * m) (by omega) (by omega), z_w_id (x := 100 * m + s) (by omega) (by omega)]
    refine ⟨by omega, by omega, ?_⟩
    refine z_lpi (n := 4) (fun q => z_gs (fun x => M 21002047 (100 * m + x)) s q) (fun _ N => N = M) (fun N v q => z_G 0 (d + 2) z_m163 26 [z_R 10, z_R 21002047, z_I m, z_I s, z_J v, z_U, z_I (2 * q), z_U] [] N Q) M rfl (fun q N hq hN nx => ?_) (fun N hN => ?_)
    · subst hN
      have nx' := nx N rfl
      have e2 : z_gs (fun x => N 21002047 (100 * m + x)) s (q + 1) = z_wl (z_gs (fun x => N 21002047 (100 * m + x)) s q + z_nb (fun x => N 21002047 (100 * m + x)) s (2 * (q : Int))) := rfl
      rw [e2, show 2 * ((q + 1 : Nat) : Int) = 2 * (q : Int) + 2 from by omega] at nx'
      unfold z_nb at nx'
      refine rg_163_26b (d + 1) ⟨fun c2 => absurd c2 (by omega), fun _ => c_next (d + 1) s0 s1 (by omega) (by omega) (z_viI ?_)⟩
      rw [z_w_id (x := 2 * (q : Int) + 2) (by omega) (by omega)]
      refine ⟨fun c2 => ?_, fun c2 => ?_⟩
      · rcases z_nxt_in s (2 * (q : Int)) with e | ⟨e1, e3⟩
        · exact absurd e c2
        · rw [z_w_id (x := 100 * m) (by omega) (by omega), z_w_id (x := 100 * m + z_nxt s (2 * (q : Int))) (by omega) (by omega)]
          rw [if_neg c2] at nx'
          exact ⟨by omega, by omega, nx'⟩
      · rw [if_pos c2] at nx'; exact nx'
    · subst hN
      exact rg_163_26b (d + 1) ⟨fun _ => h, fun c2 => absurd c2 (by decide)⟩
  · rw [if_neg (fun z => c ⟨s0, s1, z⟩)] at h; exact h
theorem km_gatheredT (d : Nat) {m s : Int} (m0 : 0 ≤ m) (m1 : m ≤ 20) (s0 : 0 ≤ s) (s1 : s < 100) (h : Q (z_J (z_gat (fun x => M 21002110 (100 * m + x)) s)) M) : z_Cl 0 (d + 2) 336 [z_R 13, z_R 21002110, z_I m, z_I s] M Q := by
  refine re_336t (d + 1) ?_
  rw [z_w_id (x := 100 * m) (by omega) (by omega), z_w_id (x := 100 * m + s) (by omega) (by omega)]
  refine ⟨by omega, by omega, ?_⟩
  refine z_lpi (n := 4) (fun q => z_gs (fun x => M 21002110 (100 * m + x)) s q) (fun _ N => N = M) (fun N v q => z_G 0 (d + 2) z_m336 13 [z_R 13, z_R 21002110, z_I m, z_I s, z_J v, z_U, z_I (2 * q), z_U] [] N Q) M rfl (fun q N hq hN nx => ?_) (fun N hN => ?_)
  · subst hN
    have nx' := nx N rfl
    have e2 : z_gs (fun x => N 21002110 (100 * m + x)) s (q + 1) = z_wl (z_gs (fun x => N 21002110 (100 * m + x)) s q + z_nb (fun x => N 21002110 (100 * m + x)) s (2 * (q : Int))) := rfl
    rw [e2, show 2 * ((q + 1 : Nat) : Int) = 2 * (q : Int) + 2 from by omega] at nx'
    unfold z_nb at nx'
    refine rg_336_13t (d + 1) ⟨fun c2 => absurd c2 (by omega), fun _ => km_beside d s0 s1 (by omega) (by omega) (z_viI ?_)⟩
    rw [z_w_id (x := 2 * (q : Int) + 2) (by omega) (by omega)]
    refine ⟨fun c2 => ?_, fun c2 => ?_⟩
    · rw [if_pos c2] at nx'; exact nx'
    · rcases z_nxt_in s (2 * (q : Int)) with e | ⟨e1, e3⟩
      · exact absurd e c2
      · rw [z_w_id (x := 100 * m) (by omega) (by omega), z_w_id (x := 100 * m + z_nxt s (2 * (q : Int))) (by omega) (by omega)]
        rw [if_neg c2] at nx'
        exact ⟨by omega, by omega, nx'⟩
  · subst hN
    exact rg_336_13t (d + 1) ⟨fun _ => h, fun c2 => absurd c2 (by decide)⟩
theorem km_gatheredF (d : Nat) {m s : Int} (m0 : 0 ≤ m) (m1 : m ≤ 20) (s0 : 0 ≤ s) (s1 : s < 100) (h : Q (z_J (z_gat (fun x => M 21002111 (100 * m + x)) s)) M) : z_Cl 0 (d + 2) 336 [z_R 13, z_R 21002111, z_I m, z_I s] M Q := by
  refine re_336f (d + 1) ?_
  rw [z_w_id (x := 100 * m) (by omega) (by omega), z_w_id (x := 100 * m + s) (by omega) (by omega)]
  refine ⟨by omega, by omega, ?_⟩
  refine z_lpi (n := 4) (fun q => z_gs (fun x => M 21002111 (100 * m + x)) s q) (fun _ N => N = M) (fun N v q => z_G 0 (d + 2) z_m336 13 [z_R 13, z_R 21002111, z_I m, z_I s, z_J v, z_U, z_I (2 * q), z_U] [] N Q) M rfl (fun q N hq hN nx => ?_) (fun N hN => ?_)
  · subst hN
    have nx' := nx N rfl
    have e2 : z_gs (fun x => N 21002111 (100 * m + x)) s (q + 1) = z_wl (z_gs (fun x => N 21002111 (100 * m + x)) s q + z_nb (fun x => N 21002111 (100 * m + x)) s (2 * (q : Int))) := rfl
    rw [e2, show 2 * ((q + 1 : Nat) : Int) = 2 * (q : Int) + 2 from by omega] at nx'
    unfold z_nb at nx'
    refine rg_336_13f (d + 1) ⟨fun c2 => absurd c2 (by omega), fun _ => km_beside d s0 s1 (by omega) (by omega) (z_viI ?_)⟩
    rw [z_w_id (x := 2 * (q : Int) + 2) (by omega) (by omega)]
    refine ⟨fun c2 => ?_, fun c2 => ?_⟩
    · rw [if_pos c2] at nx'; exact nx'
    · rcases z_nxt_in s (2 * (q : Int)) with e | ⟨e1, e3⟩
      · exact absurd e c2
      · rw [z_w_id (x := 100 * m) (by omega) (by omega), z_w_id (x := 100 * m + z_nxt s (2 * (q : Int))) (by omega) (by omega)]
        rw [if_neg c2] at nx'
        exact ⟨by omega, by omega, nx'⟩
  · subst hN
    exact rg_336_13f (d + 1) ⟨fun _ => h, fun c2 => absurd c2 (by decide)⟩
/-- only one array of scratch was written -/
def z_o1a (A : Nat) (M N : z_M) : Prop := ∀ k, k ≠ A → N k = M k
theorem z_o1a_sit {A : Nat} {N : z_M} (hS : z_sit S M) (h : z_o1a A M N) (h1 : ∀ j, z_cor A j = false) (h2 : z_cch A = false) : z_sit S N := z_at_of hS (fun k j hk => congrFun (h k (z_ne1 hk (fun j => h1 j))) j) (fun k hk => h k (z_ne0 hk h2))
theorem z_o1a_up {A : Nat} {N : z_M} (h : z_o1a A M N) (j x : Int) : z_o1a A M (z_up N A j x) := fun k hk => by rw [z_up_ne hk]; exact h k hk
abbrev z_butok (S : z_M) (but : Int) : Prop := but = -1 ∨ z_tl S but
theorem kc_countAhead (d : Nat) {fr but a L : Int} (hS : z_sit S M) (hI : z_IS S) (f0 : 0 ≤ fr) (f1 : fr < 100) (fp : S 1001015 fr = 0) (hb : z_butok S but) (a0 : 0 ≤ a) (L0 : 0 ≤ L) (L1 : L ≤ 20) (aL : a + L < 96) (e6 : M 10 6 = fr) (e8 : M 10 8 = a) (e9 : M 10 9 = L) (h : ∀ N : z_M, z_o1a 21002046 M N → (∀ k : Nat, (k : Int) ≤ L → ∀ s : Int, 0 ≤ s → s < 100 → N 21002046 (100 * (k : Int) + s) = z_wa S fr but a k s) → Q z_U N) : z_Cl 0 (d + 3) 161 [z_R 10, z_I but] M Q := by
  refine re_161 (d + 2) (c_fillL (a := 21002046) (n := 2100) rfl rfl (by decide) ?_)
  rw [z_fl_ne (by decide), e6]
  refine ⟨f0, by omega, ?_⟩
  have F0 : z_o1a 21002046 M (z_up (z_fl M 21002046 0 2100 0) 21002046 fr 1) := fun k hk => by rw [z_up_ne hk, z_fl_ne hk]
  have R0 : ∀ s : Int, 0 ≤ s → s < 100 → (z_up (z_fl M 21002046 0 2100 0) 21002046 fr 1) 21002046 s = if s = fr then 1 else 0 := by
    intro s s0 s1
    unfold z_up
    rw [if_pos rfl]
    by_cases e : s = fr
    · rw [if_pos e, if_pos e]
    · rw [if_neg e, if_neg e, z_fl_in s0 (by omega)]
  generalize z_up (z_fl M 21002046 0 2100 0) 21002046 fr 1 = M1 at F0 R0
  -- the end of a row
  have row : ∀ (m : Nat) (N : z_M) (G : Prop), (m : Int) ≤ L → z_o1a 21002046 M N → (∀ k : Nat, k < m → ∀ s : Int, 0 ≤ s → s < 100 → N 21002046 (100 * (k : Int) + s) = z_wa S fr but a k s) → (∀ s : Int, 0 ≤ s → s < 100 → z_can S but (a + (m : Int)) s = true → N 21002046 (100 * (m : Int) + s) = z_wa S fr but a m s) → (∀ s : Int, 0 ≤ s → s < 100 → S 1001015 s ≠ 0 → N 21002046 (100 * (m : Int) + s) = 0) → (∀ N' : z_M, z_o1a 21002046 M N' → (∀ k : Nat, k < m + 1 → ∀ s : Int, 0 ≤ s → s < 100 → N' 21002046 (100 * (k : Int) + s) = z_wa S fr but a k s) → z_G 0 (d + 3) z_m161 20 [z_R 10, z_I but, z_I ((m + 1 : Nat) : Int), z_U] [] N' Q) → ((but = -1 → z_G 0 (d + 3) z_m161 20 [z_R 10, z_I but, z_I (z_w ((m : Int) + 1)), z_U] [] N Q) ∧ (¬ but = -1 → z_Cl 0 (d + 2) 71 [z_R 4, z_I but, z_I (z_w (N 10 8 + (m : Int)))] N (fun v1 M1 => z_vi v1 fun x1 => ((0 : Int) ≤ (z_w ((z_w (100 * (m : Int))) + x1)) ∧ (z_w ((z_w (100 * (m : Int))) + x1)) < (2100 : Int) ∧ z_G 0 (d + 3) z_m161 20 [z_R 10, z_I but, z_I (z_w ((m : Int) + 1)), z_U] [] (z_up M1 21002046 (z_w ((z_w (100 * (m : Int))) + x1)) 0) Q)))) := by
    intro m N _ hm hF hlow hrow hwall nx
    have w0 : ∀ s : Int, z_can S but (a + (m : Int)) s ≠ true → z_wa S fr but a m s = 0 := by
      intro s hc
      cases m with
      | zero => show (if z_can S but a s = true then _ else (0 : Int)) = 0; rw [if_neg (by rw [show a = a + ((0 : Nat) : Int) from by omega]; exact hc)]
      | succ m => show (if z_can S but (a + ((m + 1 : Nat) : Int)) s = true then _ else (0 : Int)) = 0; rw [if_neg hc]
    rw [z_wq (by omega)]
    refine ⟨fun c => nx N hF (fun k hk s s0 s1 => ?_), fun c => ?_⟩
    · by_cases e : k = m
      · subst e
        by_cases hc : z_can S but (a + (k : Int)) s = true
        · exact hrow s s0 s1 hc
        · rw [w0 s hc]
          refine hwall s s0 s1 (fun q => hc ?_)
          unfold z_can
          exact decide_eq_true ⟨q, Or.inl c⟩
      · exact hlow k (by omega) s s0 s1
    · have ht : z_tl S but := hb.resolve_left c
      have hSN := z_o1a_sit hS hF (fun _ => rfl) rfl
      rw [hF 10 (by decide), e8, z_w_id (x := a + (m : Int)) (by omega) (by omega)]
      obtain ⟨p0, p1⟩ := z_sp_b hI.1 ht (t := a + (m : Int)) (by omega) (by omega)
      refine kc_spotToday (d + 1) hSN hI.1 ht (by omega) (by omega) (z_viI ?_)
      rw [z_w_id (x := 100 * (m : Int)) (by omega) (by omega), z_w_id (x := 100 * (m : Int) + z_sp S but (a + (m : Int))) (by omega) (by omega)]
      refine ⟨by omega, by omega, nx _ (z_o1a_up hF _ _) (fun k hk s s0 s1 => ?_)⟩
      unfold z_up
      rw [if_pos rfl]
      by_cases e : k = m
      · subst e
        by_cases es : s = z_sp S but (a + (k : Int))
        · rw [if_pos (by omega), w0 s]
          unfold z_can
          exact fun q => by have := of_decide_eq_true q; rcases this.2 with g | g; exact c g; exact g es.symm
        · rw [if_neg (by omega)]
          by_cases hw : S 1001015 s = 0
          · exact hrow s s0 s1 (by unfold z_can; exact decide_eq_true ⟨hw, Or.inr (fun g => es g.symm)⟩)
          · rw [hwall s s0 s1 hw, w0 s]
            unfold z_can
            exact fun q => hw (of_decide_eq_true q).1
      · rw [if_neg (by omega)]; exact hlow k (by omega) s s0 s1
  have main : ∀ (f : Nat) (m : Nat) (N : z_M), (L + 1 - (m : Int)).toNat = f → (m : Int) ≤ L + 1 → z_o1a 21002046 M N → (∀ k : Nat, k < m → ∀ s : Int, 0 ≤ s → s < 100 → N 21002046 (100 * (k : Int) + s) = z_wa S fr but a k s) → (m = 0 → ∀ s : Int, 0 ≤ s → s < 100 → N 21002046 s = if s = fr then 1 else 0) → z_G 0 (d + 3) z_m161 20 [z_R 10, z_I but, z_I (m : Int), z_U] [] N Q := by
    intro f
    induction f with
    | zero =>
      intro m N hf hm hF hlow _
      refine rg_161_20 (d + 2) ⟨fun _ => h N hF (fun k hk s s0 s1 => hlow k (by omega) s s0 s1), fun c => ?_⟩
      rw [hF 10 (by decide), e9] at c; exact absurd c (by omega)
    | succ f ih =>
      intro m N hf hm hF hlow h0
      refine rg_161_20 (d + 2) ⟨fun c => ?_, fun _ => ?_⟩
      · rw [hF 10 (by decide), e9] at c; exact absurd c (by omega)
      · have nx : ∀ N' : z_M, z_o1a 21002046 M N' → (∀ k : Nat, k < m + 1 → ∀ s : Int, 0 ≤ s → s < 100 → N' 21002046 (100 * (k : Int) + s) = z_wa S fr but a k s) → z_G 0 (d + 3) z_m161 20 [z_R 10, z_I but, z_I ((m + 1 : Nat) : Int), z_U] [] N' Q := fun N' g1 g2 => ih (m + 1) N' (by omega) (by omega) g1 g2 (fun q => absurd q (by omega))
        cases m with
        | zero =>
          refine rg_161_30 (d + 2) ⟨fun _ => ?_, fun c => absurd c (by decide)⟩
          have hr0 := h0 rfl
          refine row 0 N True (by omega) hF hlow (fun s s0 s1 hc => ?_) (fun s s0 s1 hw => ?_) nx
          · rw [show 100 * ((0 : Nat) : Int) + s = s from by omega, hr0 s s0 s1]
            have hc' : z_can S but a s = true := by
              have e : a + ((0 : Nat) : Int) = a := by omega
              rw [e] at hc; exact hc
            show _ = if z_can S but a s = true then _ else _
            rw [if_pos hc']
          · rw [show 100 * ((0 : Nat) : Int) + s = s from by omega, hr0 s s0 s1, if_neg (fun e : s = fr => hw (by rw [e]; exact fp))]
        | succ m =>
          refine z_lpi (n := 100) (fun _ => ()) (fun j N => z_o1a 21002046 M N ∧ (∀ k : Nat, k < m + 1 → ∀ s : Int, 0 ≤ s → s < 100 → N 21002046 (100 * (k : Int) + s) = z_wa S fr but a k s) ∧ (∀ s : Int, 0 ≤ s → s < (j : Int) → N 21002046 (100 * ((m + 1 : Nat) : Int) + s) = if S 1001015 s = 0 then z_gat (z_wa S fr but a m) s else 0)) (fun N _ j => z_G 0 (d + 3) z_m161 30 [z_R 10, z_I but, z_I ((m + 1 : Nat) : Int), z_I j] [] N Q) N ⟨hF, hlow, fun s s0 s1 => absurd s1 (by omega)⟩ (fun j N2 hj hI2 nx2 => ?_) (fun N2 hI2 => ?_)
          · obtain ⟨hF2, hlow2, hrow2⟩ := hI2
            have hS2 := z_o1a_sit hS hF2 (fun _ => rfl) rfl
            refine rg_161_30 (d + 2) ⟨fun c => absurd c (by omega), fun _ => ⟨fun c => absurd c (by omega), fun _ => ?_⟩⟩
            rw [z_w_id (x := ((m + 1 : Nat) : Int) - 1) (by omega) (by omega), show ((m + 1 : Nat) : Int) - 1 = (m : Int) from by omega]
            refine kc_stepsIntoA d hS2 (by omega) (by omega) (by omega) (by omega) ?_
            rw [z_w_id (x := 100 * ((m + 1 : Nat) : Int)) (by omega) (by omega), z_w_id (x := 100 * ((m + 1 : Nat) : Int) + (j : Int)) (by omega) (by omega), z_wq (by omega)]
            refine ⟨by omega, by omega, nx2 _ ⟨z_o1a_up hF2 _ _, fun k hk s s0 s1 => ?_, fun s s0 s1 => ?_⟩⟩
            · unfold z_up; rw [if_pos rfl, if_neg (by omega)]; exact hlow2 k hk s s0 s1
            · unfold z_up
              rw [if_pos rfl]
              by_cases e : s = (j : Int)
              · rw [if_pos (by omega), e, z_gat_cg (by omega) (by omega) (fun x x0 x1 => hlow2 m (by omega) x x0 x1)]
              · rw [if_neg (by omega)]; exact hrow2 s s0 (by omega)
          · obtain ⟨hF2, hlow2, hrow2⟩ := hI2
            refine rg_161_30 (d + 2) ⟨fun c => absurd c (by omega), fun _ => ⟨fun _ => ?_, fun c => absurd c (by decide)⟩⟩
            refine row (m + 1) N2 True (by omega) hF2 hlow2 (fun s s0 s1 hc => ?_) (fun s s0 s1 hw => ?_) nx
            · rw [hrow2 s s0 (by omega)]
              show _ = if z_can S but (a + ((m + 1 : Nat) : Int)) s = true then _ else _
              rw [if_pos hc, if_pos]
              unfold z_can at hc
              exact (of_decide_eq_true hc).1
            · rw [hrow2 s s0 (by omega), if_neg hw]
  exact main (L + 1).toNat 0 M1 (by congr 1; omega) (by omega) F0 (fun k hk => absurd hk (Nat.not_lt_zero k)) (fun _ => R0)
theorem kc_countBehind (d : Nat) {to L : Int} (hS : z_sit S M) (t0 : 0 ≤ to) (t1 : to < 100) (tp : S 1001015 to = 0) (L0 : 0 ≤ L) (L1 : L ≤ 20) (e7 : M 10 7 = to) (e9 : M 10 9 = L) (h : ∀ N : z_M, z_o1a 21002047 M N → (∀ k : Nat, (k : Int) ≤ L → ∀ s : Int, 0 ≤ s → s < 100 → N 21002047 (100 * (L - (k : Int)) + s) = z_wb2 S to k s) → Q z_U N) : z_Cl 0 (d + 3) 162 [z_R 10] M Q := by
  refine re_162 (d + 2) (c_fillL (a := 21002047) (n := 2100) rfl rfl (by decide) ?_)
  rw [z_fl_ne (by decide), e7, e9, z_w_id (x := 100 * L) (by omega) (by omega), z_w_id (x := 100 * L + to) (by omega) (by omega)]
  refine ⟨by omega, by omega, ?_⟩
  rw [z_up_ne (by decide), z_fl_ne (by decide), e9, z_w_id (x := L - 1) (by omega) (by omega)]
  have F0 : z_o1a 21002047 M (z_up (z_fl M 21002047 0 2100 0) 21002047 (100 * L + to) 1) := fun k hk => by rw [z_up_ne hk, z_fl_ne hk]
  have R0 : ∀ s : Int, 0 ≤ s → s < 100 → (z_up (z_fl M 21002047 0 2100 0) 21002047 (100 * L + to) 1) 21002047 (100 * L + s) = z_wb2 S to 0 s := by
    intro s s0 s1
    show _ = if S 1001015 s = 0 then (if s = to then (1 : Int) else 0) else 0
    unfold z_up
    rw [if_pos rfl]
    by_cases e : s = to
    · rw [if_pos (by omega), e, if_pos tp, if_pos rfl]
    · rw [if_neg (by omega), z_fl_in (by omega) (by omega), if_neg e]
      split <;> rfl
  generalize z_up (z_fl M 21002047 0 2100 0) 21002047 (100 * L + to) 1 = M1 at F0 R0
  have main : ∀ (f m : Nat) (N : z_M), (L - (m : Int)).toNat = f → (m : Int) ≤ L → z_o1a 21002047 M N → (∀ k : Nat, k ≤ m → ∀ s : Int, 0 ≤ s → s < 100 → N 21002047 (100 * (L - (k : Int)) + s) = z_wb2 S to k s) → z_G 0 (d + 3) z_m162 33 [z_R 10, z_I (L - (m : Int) - 1), z_U] [] N Q := by
    intro f
    induction f with
    | zero =>
      intro m N hf hm hF hlow
      exact rg_162_33 (d + 2) ⟨fun _ => h N hF (fun k hk s s0 s1 => hlow k (by omega) s s0 s1), fun c => absurd c (by omega)⟩
    | succ f ih =>
      intro m N hf hm hF hlow
      refine rg_162_33 (d + 2) ⟨fun c => absurd c (by omega), fun _ => ?_⟩
      refine z_lpi (n := 100) (fun _ => ()) (fun j N => z_o1a 21002047 M N ∧ (∀ k : Nat, k ≤ m → ∀ s : Int, 0 ≤ s → s < 100 → N 21002047 (100 * (L - (k : Int)) + s) = z_wb2 S to k s) ∧ (∀ s : Int, 0 ≤ s → s < (j : Int) → N 21002047 (100 * (L - (m : Int) - 1) + s) = z_wb2 S to (m + 1) s)) (fun N _ j => z_G 0 (d + 3) z_m162 39 [z_R 10, z_I (L - (m : Int) - 1), z_I j] [] N Q) N ⟨hF, hlow, fun s s0 s1 => absurd s1 (by omega)⟩ (fun j N2 hj hI2 nx2 => ?_) (fun N2 hI2 => ?_)
      · obtain ⟨hF2, hlow2, hrow2⟩ := hI2
        have hS2 := z_o1a_sit hS hF2 (fun _ => rfl) rfl
        refine rg_162_39 (d + 2) ⟨fun c => absurd c (by omega), fun _ => ?_⟩
        rw [z_w_id (x := L - (m : Int) - 1 + 1) (by omega) (by omega), show L - (m : Int) - 1 + 1 = L - (m : Int) from by omega]
        refine kc_stepsIntoB d hS2 (by omega) (by omega) (by omega) (by omega) ?_
        rw [z_w_id (x := 100 * (L - (m : Int) - 1)) (by omega) (by omega), z_w_id (x := 100 * (L - (m : Int) - 1) + (j : Int)) (by omega) (by omega), z_wq (by omega)]
        refine ⟨by omega, by omega, nx2 _ ⟨z_o1a_up hF2 _ _, fun k hk s s0 s1 => ?_, fun s s0 s1 => ?_⟩⟩
        · unfold z_up; rw [if_pos rfl, if_neg (by omega)]; exact hlow2 k hk s s0 s1
        · unfold z_up
          rw [if_pos rfl]
          by_cases e : s = (j : Int)
          · rw [if_pos (by omega), e, z_gat_cg (by omega) (by omega) (fun x x0 x1 => hlow2 m (by omega) x x0 x1)]
            rfl
          · rw [if_neg (by omega)]; exact hrow2 s s0 (by omega)
      · obtain ⟨hF2, hlow2, hrow2⟩ := hI2
        refine rg_162_39 (d + 2) ⟨fun _ => ?_, fun c => absurd c (by decide)⟩
        rw [z_w_id (x := L - (m : Int) - 1 + -1) (by omega) (by omega), show L - (m : Int) - 1 + -1 = L - ((m + 1 : Nat) : Int) - 1 from by omega]
        refine ih (m + 1) N2 (by omega) (by omega) hF2 (fun k hk s s0 s1 => ?_)
        by_cases e : k = m + 1
        · subst e
          rw [show L - ((m + 1 : Nat) : Int) = L - (m : Int) - 1 from by omega]
          exact hrow2 s s0 (by omega)
        · exact hlow2 k (by omega) s s0 s1
  have := main L.toNat 0 M1 (by congr 1; omega) (by omega) F0 (fun k hk s s0 s1 => by rw [show k = 0 from by omega, show L - ((0 : Nat) : Int) = L from by omega]; exact R0 s s0 s1)
  rw [show L - ((0 : Nat) : Int) - 1 = L - 1 from by omega] at this
  exact this
/-- the model's -/
theorem km_laysTo (d : Nat) {fr but a b : Int} (hS : z_sit S M) (hI : z_IS S) (f0 : 0 ≤ fr) (f1 : fr < 100) (hb : z_butok S but) (a0 : 0 ≤ a) (ab : a ≤ b) (b1 : b < 96) (ba : b - a ≤ 20) (h : ∀ N : z_M, z_o1a 21002110 M N → (∀ k : Nat, (k : Int) ≤ b - a → ∀ s : Int, 0 ≤ s → s < 100 → N 21002110 (100 * (k : Int) + s) = z_wa S fr but a k s) → Q z_U N) : z_Cl 0 (d + 3) 337 [z_R 13, z_I fr, z_I a, z_I b, z_I but] M Q := by
  refine re_337 (d + 2) ?_
  have main : ∀ (f m : Nat) (N : z_M), (b - a + 1 - (m : Int)).toNat = f → (m : Int) ≤ b - a + 1 → z_o1a 21002110 M N → (∀ k : Nat, k < m → ∀ s : Int, 0 ≤ s → s < 100 → N 21002110 (100 * (k : Int) + s) = z_wa S fr but a k s) → z_G 0 (d + 3) z_m337 3 [z_R 13, z_I fr, z_I a, z_I b, z_I but, z_I (m : Int), z_U, z_U] [] N Q := by
    intro f
    induction f with
    | zero =>
      intro m N hf hm hF hlow
      refine rg_337_3 (d + 2) ?_
      rw [z_w_id (x := b - a) (by omega) (by omega)]
      exact ⟨fun _ => h N hF (fun k hk s s0 s1 => hlow k (by omega) s s0 s1), fun c => absurd c (by omega)⟩
    | succ f ih =>
      intro m N hf hm hF hlow
      refine rg_337_3 (d + 2) ?_
      rw [z_w_id (x := b - a) (by omega) (by omega)]
      refine ⟨fun c => absurd c (by omega), fun _ => ?_⟩
      refine z_lpi (n := 100) (fun _ => ()) (fun j N => z_o1a 21002110 M N ∧ (∀ k : Nat, k < m → ∀ s : Int, 0 ≤ s → s < 100 → N 21002110 (100 * (k : Int) + s) = z_wa S fr but a k s) ∧ (∀ s : Int, 0 ≤ s → s < (j : Int) → N 21002110 (100 * (m : Int) + s) = z_wa S fr but a m s)) (fun N _ j => z_G 0 (d + 3) z_m337 14 [z_R 13, z_I fr, z_I a, z_I b, z_I but, z_I (m : Int), z_I j, z_U] [] N Q) N ⟨hF, hlow, fun s s0 s1 => absurd s1 (by omega)⟩ (fun j N2 hj hI2 nx2 => ?_) (fun N2 hI2 => ?_)
      · obtain ⟨hF2, hlow2, hrow2⟩ := hI2
        have hS2 := z_o1a_sit hS hF2 (fun _ => rfl) rfl
        have put : ∀ x : Int, x = z_wa S fr but a m (j : Int) → ((0 : Int) ≤ z_w (z_w (100 * (m : Int)) + (j : Int)) ∧ z_w (z_w (100 * (m : Int)) + (j : Int)) < (2100 : Int) ∧ z_G 0 (d + 3) z_m337 14 [z_R 13, z_I fr, z_I a, z_I b, z_I but, z_I (m : Int), z_I (z_w ((j : Int) + 1)), z_U] [] (z_up N2 21002110 (z_w (z_w (100 * (m : Int)) + (j : Int))) x) Q) := by
          intro x ex
          rw [z_w_id (x := 100 * (m : Int)) (by omega) (by omega), z_w_id (x := 100 * (m : Int) + (j : Int)) (by omega) (by omega), z_wq (by omega)]
          refine ⟨by omega, by omega, nx2 _ ⟨z_o1a_up hF2 _ _, fun k hk s s0 s1 => ?_, fun s s0 s1 => ?_⟩⟩
          · unfold z_up; rw [if_pos rfl, if_neg (by omega)]; exact hlow2 k hk s s0 s1
          · unfold z_up
            rw [if_pos rfl]
            by_cases e : s = (j : Int)
            · rw [if_pos (by omega), ex, e]
            · rw [if_neg (by omega)]; exact hrow2 s s0 (by omega)
        have no : z_can S but (a + (m : Int)) (j : Int) ≠ true → z_G 0 (d + 3) z_m337 56 [z_R 13, z_I fr, z_I a, z_I b, z_I but, z_I (m : Int), z_I (j : Int), z_U] [] N2 Q := by
          intro hc
          refine rg_337_56 (d + 2) (rg_337_57 (d + 2) ⟨fun c => absurd rfl c, fun _ => put 0 ?_⟩)
          cases m with
          | zero => show 0 = (if z_can S but a (j : Int) = true then _ else (0 : Int)); rw [if_neg (by rw [show a = a + ((0 : Nat) : Int) from by omega]; exact hc)]
          | succ m => show 0 = (if z_can S but (a + ((m + 1 : Nat) : Int)) (j : Int) = true then _ else (0 : Int)); rw [if_neg hc]
        have yes : z_can S but (a + (m : Int)) (j : Int) = true → z_G 0 (d + 3) z_m337 52 [z_R 13, z_I fr, z_I a, z_I b, z_I but, z_I (m : Int), z_I (j : Int), z_U] [] N2 Q := by
          intro hc
          refine rg_337_52 (d + 2) (rg_337_57 (d + 2) ⟨fun _ => ⟨fun c => ?_, fun c => ⟨fun c2 => put 0 ?_, fun c2 => put 1 ?_⟩⟩, fun c => absurd c (by decide)⟩)
          · cases m with
            | zero => exact absurd rfl c
            | succ m =>
              rw [z_w_id (x := ((m + 1 : Nat) : Int) - 1) (by omega) (by omega), show ((m + 1 : Nat) : Int) - 1 = (m : Int) from by omega]
              refine km_gatheredT d (by omega) (by omega) (by omega) (by omega) (put _ ?_)
              show _ = (if z_can S but (a + ((m + 1 : Nat) : Int)) (j : Int) = true then _ else (0 : Int))
              rw [if_pos hc]
              exact z_gat_cg (by omega) (by omega) (fun x x0 x1 => hlow2 m (by omega) x x0 x1)
          · have em : m = 0 := by omega
            subst em
            show 0 = (if z_can S but a (j : Int) = true then _ else (0 : Int))
            rw [if_pos (by rw [show a = a + ((0 : Nat) : Int) from by omega]; exact hc), if_neg c2]
          · have em : m = 0 := by omega
            subst em
            show 1 = (if z_can S but a (j : Int) = true then _ else (0 : Int))
            rw [if_pos (by rw [show a = a + ((0 : Nat) : Int) from by omega]; exact hc), if_pos c2]
        refine rg_337_14 (d + 2) ⟨fun c => absurd c (by omega), fun _ => ⟨by omega, by omega, ?_⟩⟩
        rw [z_fn hS2 1001065 rfl, ← hI.2.1.1]
        refine ⟨fun c => no (fun q => c ?_), fun c => ⟨fun c2 => yes ?_, fun c2 => ?_⟩⟩
        · unfold z_can at q; exact (of_decide_eq_true q).1
        · unfold z_can; exact decide_eq_true ⟨c, Or.inl c2⟩
        · have ht : z_tl S but := hb.resolve_left c2
          rw [z_w_id (x := a + (m : Int)) (by omega) (by omega)]
          refine km_spotOf (d + 1) hS2 hI.1 ht (by omega) (by omega) (z_viI ⟨fun c3 => no (fun q => ?_), fun c3 => yes ?_⟩)
          · unfold z_can at q
            rcases (of_decide_eq_true q).2 with g | g
            · exact c2 g
            · exact g c3
          · unfold z_can; exact decide_eq_true ⟨c, Or.inr c3⟩
      · obtain ⟨hF2, hlow2, hrow2⟩ := hI2
        refine rg_337_14 (d + 2) ⟨fun _ => ?_, fun c => absurd c (by decide)⟩
        rw [z_wq (by omega)]
        refine ih (m + 1) N2 (by omega) (by omega) hF2 (fun k hk s s0 s1 => ?_)
        by_cases e : k = m
        · rw [e]; exact hrow2 s s0 (by omega)
        · exact hlow2 k (by omega) s s0 s1
  exact main (b - a + 1).toNat 0 M (by congr 1; omega) (by omega) (fun _ _ => rfl) (fun k hk => absurd hk (Nat.not_lt_zero k))
theorem km_laysFrom (d : Nat) {to a b : Int} (hS : z_sit S M) (hI : z_IS S) (a0 : 0 ≤ a) (ab : a ≤ b) (b1 : b < 96) (ba : b - a ≤ 20) (h : ∀ N : z_M, z_o1a 21002111 M N → (∀ k : Nat, (k : Int) ≤ b - a → ∀ s : Int, 0 ≤ s → s < 100 → N 21002111 (100 * (b - a - (k : Int)) + s) = z_wb2 S to k s) → Q z_U N) : z_Cl 0 (d + 3) 338 [z_R 13, z_I to, z_I a, z_I b] M Q := by
  refine re_338 (d + 2) ?_
  rw [z_w_id (x := b - a) (by omega) (by omega)]
  have main : ∀ (f m : Nat) (N : z_M), (b - a + 1 - (m : Int)).toNat = f → (m : Int) ≤ b - a + 1 → z_o1a 21002111 M N → (∀ k : Nat, k < m → ∀ s : Int, 0 ≤ s → s < 100 → N 21002111 (100 * (b - a - (k : Int)) + s) = z_wb2 S to k s) → z_G 0 (d + 3) z_m338 5 [z_R 13, z_I to, z_I a, z_I b, z_I (b - a - (m : Int)), z_U] [] N Q := by
    intro f
    induction f with
    | zero =>
      intro m N hf hm hF hlow
      exact rg_338_5 (d + 2) ⟨fun _ => h N hF (fun k hk s s0 s1 => hlow k (by omega) s s0 s1), fun c => absurd c (by omega)⟩
    | succ f ih =>
      intro m N hf hm hF hlow
      refine rg_338_5 (d + 2) ⟨fun c => absurd c (by omega), fun _ => ?_⟩
      refine z_lpi (n := 100) (fun _ => ()) (fun j N => z_o1a 21002111 M N ∧ (∀ k : Nat, k < m → ∀ s : Int, 0 ≤ s → s < 100 → N 21002111 (100 * (b - a - (k : Int)) + s) = z_wb2 S to k s) ∧ (∀ s : Int, 0 ≤ s → s < (j : Int) → N 21002111 (100 * (b - a - (m : Int)) + s) = z_wb2 S to m s)) (fun N _ j => z_G 0 (d + 3) z_m338 13 [z_R 13, z_I to, z_I a, z_I b, z_I (b - a - (m : Int)), z_I j] [] N Q) N ⟨hF, hlow, fun s s0 s1 => absurd s1 (by omega)⟩ (fun j N2 hj hI2 nx2 => ?_) (fun N2 hI2 => ?_)
      · obtain ⟨hF2, hlow2, hrow2⟩ := hI2
        have hS2 := z_o1a_sit hS hF2 (fun _ => rfl) rfl
        have put : ∀ x : Int, x = z_wb2 S to m (j : Int) → ((0 : Int) ≤ z_w (z_w (100 * (b - a - (m : Int))) + (j : Int)) ∧ z_w (z_w (100 * (b - a - (m : Int))) + (j : Int)) < (2100 : Int) ∧ z_G 0 (d + 3) z_m338 13 [z_R 13, z_I to, z_I a, z_I b, z_I (b - a - (m : Int)), z_I (z_w ((j : Int) + 1))] [] (z_up N2 21002111 (z_w (z_w (100 * (b - a - (m : Int))) + (j : Int))) x) Q) := by
          intro x ex
          rw [z_w_id (x := 100 * (b - a - (m : Int))) (by omega) (by omega), z_w_id (x := 100 * (b - a - (m : Int)) + (j : Int)) (by omega) (by omega), z_wq (by omega)]
          refine ⟨by omega, by omega, nx2 _ ⟨z_o1a_up hF2 _ _, fun k hk s s0 s1 => ?_, fun s s0 s1 => ?_⟩⟩
          · unfold z_up; rw [if_pos rfl, if_neg (by omega)]; exact hlow2 k hk s s0 s1
          · unfold z_up
            rw [if_pos rfl]
            by_cases e : s = (j : Int)
            · rw [if_pos (by omega), ex, e]
            · rw [if_neg (by omega)]; exact hrow2 s s0 (by omega)
        refine rg_338_13 (d + 2) ⟨fun c => absurd c (by omega), fun _ => ⟨by omega, by omega, ?_⟩⟩
        rw [z_fn hS2 1001065 rfl, ← hI.2.1.1, z_w_id (x := b - a) (by omega) (by omega)]
        refine ⟨fun c => ⟨fun c2 => ?_, fun c2 => ⟨fun c3 => put 0 ?_, fun c3 => put 1 ?_⟩⟩, fun c => put 0 ?_⟩
        · cases m with
          | zero => exact absurd (by omega) c2
          | succ m =>
            rw [z_w_id (x := b - a - ((m + 1 : Nat) : Int) + 1) (by omega) (by omega), show b - a - ((m + 1 : Nat) : Int) + 1 = b - a - (m : Int) from by omega]
            refine km_gatheredF d (by omega) (by omega) (by omega) (by omega) (put _ ?_)
            show _ = (if S 1001015 (j : Int) = 0 then _ else (0 : Int))
            rw [if_pos c]
            exact z_gat_cg (by omega) (by omega) (fun x x0 x1 => hlow2 m (by omega) x x0 x1)
        · have em : m = 0 := by omega
          subst em
          show 0 = (if S 1001015 (j : Int) = 0 then _ else (0 : Int))
          rw [if_pos c, if_neg c3]
        · have em : m = 0 := by omega
          subst em
          show 1 = (if S 1001015 (j : Int) = 0 then _ else (0 : Int))
          rw [if_pos c, if_pos c3]
        · cases m with
          | zero => show 0 = (if S 1001015 (j : Int) = 0 then _ else (0 : Int)); rw [if_neg c]
          | succ m => show 0 = (if S 1001015 (j : Int) = 0 then _ else (0 : Int)); rw [if_neg c]
      · obtain ⟨hF2, hlow2, hrow2⟩ := hI2
        refine rg_338_13 (d + 2) ⟨fun _ => ?_, fun c => absurd c (by decide)⟩
        rw [z_w_id (x := b - a - (m : Int) + -1) (by omega) (by omega), show b - a - (m : Int) + -1 = b - a - ((m + 1 : Nat) : Int) from by omega]
        refine ih (m + 1) N2 (by omega) (by omega) hF2 (fun k hk s s0 s1 => ?_)
        by_cases e : k = m
        · rw [e]; exact hrow2 s s0 (by omega)
        · exact hlow2 k (by omega) s s0 s1
  have := main (b - a + 1).toNat 0 M (by congr 1; omega) (by omega) (fun _ _ => rfl) (fun k hk => absurd hk (Nat.not_lt_zero k))
  rw [show b - a - ((0 : Nat) : Int) = b - a from by omega] at this
  exact this
end ZWAY
