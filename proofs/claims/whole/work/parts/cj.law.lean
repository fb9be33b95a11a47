/-! LAW: clauses, the class's whole call -/
abbrev zl_lt (c : Int) : Prop := c = 97 ∨ c = 108 ∨ c = 118 ∨ c = 104 ∨ c = 114
/-- a clause: its letter, where its orders and its codes begin, what its E and its C are made into -/
abbrev zl_D : Type := Int × (Int × Int) × (List (Int × Int) × List Int) × (List (Int × Int) × List Int)
def zl_cl (q : Int → Int) (k i o p : Int) : Int ⊕ (Int × zl_D) :=
  if ¬ zl_lt (q i) then .inl (-1000 - i) else if k = 16 then .inl (-4000 - i) else
  match zl q 5000 3 0 (i + 1) o [] [] with
  | .inl x => .inl x
  | .inr (j, m1, c1) => if q j ≠ 40 then .inl (-1000 - j) else
    match zl q 5000 0 1 (j + 1) (o + (c1.length : Int)) [] [] with
    | .inl x => .inl x
    | .inr (j2, m2, c2) => if q j2 ≠ 41 then .inl (-1000 - j2) else .inr (j2 + 1, (q i, (o, p), (m1, c1), (m2, c2)))
def zl_oe (D : zl_D) : Int := D.2.1.1 + (D.2.2.1.2.length : Int) + (D.2.2.2.2.length : Int)
def zl_pe (D : zl_D) : Int := D.2.1.2 + (D.2.2.1.1.length : Int) + (D.2.2.2.1.length : Int)
def zl_put (C : Int → zl_D) (k : Int) (D : zl_D) : Int → zl_D := fun x => if x = k then D else C x
def zl_go (q : Int → Int) : Nat → Int → (Int → zl_D) → Int → Int → Int → Int ⊕ (Int × (Int → zl_D) × Int × Int)
  | 0, _, _, _, _, _ => .inl (-1)
  | f + 1, k, C, i, o, p => match zl_cl q k i o p with
    | .inl x => .inl x
    | .inr (j, D) => if q j = -1 then .inr (k + 1, zl_put C k D, zl_oe D, zl_pe D) else if q j = 59 then zl_go q f (k + 1) (zl_put C k D) (j + 1) (zl_oe D) (zl_pe D) else .inl (-1000 - j)
def zl_d0 : zl_D := (0, (0, 0), ([], []), ([], []))
def zl_v (q : Int → Int) : Int ⊕ (Int × (Int → zl_D) × Int × Int) := zl_go q 17 0 (fun _ => zl_d0) 0 0 0
/-- where a clause comes from -/
def zl_src (q : Int → Int) (n : Int) (D : zl_D) : Prop := (∃ i j : Int, 0 ≤ i ∧ i ≤ n ∧ zl q 5000 3 0 i D.2.1.1 [] [] = .inr (j, D.2.2.1.1, D.2.2.1.2)) ∧ ∃ i j : Int, 0 ≤ i ∧ i ≤ n ∧ zl q 5000 0 1 i (D.2.1.1 + (D.2.2.1.2.length : Int)) [] [] = .inr (j, D.2.2.2.1, D.2.2.2.2)
theorem zl_put_e {C : Int → zl_D} {k : Int} {D : zl_D} : zl_put C k D k = D := if_pos rfl
theorem zl_put_n {C : Int → zl_D} {k x : Int} {D : zl_D} (h : x ≠ k) : zl_put C k D x = C x := if_neg h
section ZLE
variable {S M N N0 : z_M} {Q : z_V → z_M → Prop} {q : Int → Int} {n i : Int}
theorem zl_cl_src (hT : zr_T q n) {k i o p j : Int} {D : zl_D} (i0 : 0 ≤ i) (hn : i ≤ n) (h : zl_cl q k i o p = .inr (j, D)) : zl_src q n D ∧ zl_lt D.1 ∧ D.2.1 = (o, p) ∧ i < j ∧ j ≤ n ∧ zl_oe D ≤ o + (j - i) ∧ zl_pe D ≤ p + (j - i) ∧ o ≤ zl_oe D ∧ p ≤ zl_pe D := by
  have lt_of : ∀ i : Int, 0 ≤ i → i ≤ n → q i ≠ -1 → i < n := by
    intro i i0 hn hq
    by_cases z : i < n
    · exact z
    · exact absurd (hT.2.2.2 i (by omega)) hq
  unfold zl_cl at h
  split at h
  · cases h
  · rename_i hl
    have hl := Decidable.not_not.mp hl
    have hi := lt_of i i0 hn (by unfold zl_lt at hl; omega)
    split at h
    · cases h
    · split at h
      · cases h
      · rename_i j1 m1 c1 e1
        have h1 := (zl_end hT 5000 3 0 (i + 1) o [] [] j1 m1 c1 (by omega) (by omega) ⟨fun z => by omega, fun z => by omega⟩ e1).1 (by decide)
        split at h
        · cases h
        · rename_i e40
          have hj := lt_of j1 (by omega) (by omega) (by omega)
          split at h
          · cases h
          · rename_i j2 m2 c2 e2
            have h2 := (zl_end hT 5000 0 1 (j1 + 1) _ [] [] j2 m2 c2 (by omega) (by omega) ⟨fun z => by omega, fun z => by omega⟩ e2).1 (by decide)
            split at h
            · cases h
            · rename_i e41
              have hj2 := lt_of j2 (by omega) (by omega) (by omega)
              have hh := Sum.inr.inj h
              have a1 : j2 + 1 = j := congrArg (fun z => z.1) hh
              have a2 : (q i, (o, p), (m1, c1), (m2, c2)) = D := congrArg (fun z => z.2) hh
              subst a2
              unfold zl_oe zl_pe
              dsimp only
              refine ⟨⟨⟨i + 1, j1, by omega, by omega, e1⟩, ⟨j1 + 1, j2, by omega, by omega, e2⟩⟩, hl, rfl, by omega, by omega, by omega, by omega, by omega, by omega⟩
/-- the class's clauses so far -/
def zl_fc (k : Int) (C : Int → zl_D) (o : Int) (N : z_M) : Prop := ∀ x : Int, 0 ≤ x → x < k →
  N 641028 (4 * x) = (C x).1 ∧ N 641028 (4 * x + 1) = (C x).2.1.1 ∧ N 641028 (4 * x + 2) = (C x).2.1.1 + ((C x).2.2.1.2.length : Int) ∧ N 641028 (4 * x + 3) = zl_oe (C x) ∧
  zl_at (N 2401026) (C x).2.1.1 (C x).2.2.1.2 ∧ zl_at (N 2401026) ((C x).2.1.1 + ((C x).2.2.1.2.length : Int)) (C x).2.2.2.2 ∧ zl_oe (C x) ≤ o
theorem kr_most (d : Nat) {c : Int} (h1 : zl_lt c → ∀ v : Int, 0 ≤ v → Q (z_I v) N) (h0 : ¬ zl_lt c → Q (z_I (-1)) N) : z_Cl 0 d 28 [z_I c] N Q := by
  unfold zl_lt at h1 h0
  exact re_28 d ⟨fun _ => h1 (by omega) 7 (by decide), fun _ => ⟨fun _ => h1 (by omega) 18 (by decide), fun _ => ⟨fun _ => h1 (by omega) 9 (by decide), fun _ => ⟨fun _ => h1 (by omega) 10 (by decide), fun _ => ⟨fun _ => h1 (by omega) 14 (by decide), fun _ => h0 (by omega)⟩⟩⟩⟩⟩
theorem zl_at_keep {A B : Int → Int} {a o : Int} {l : List Int} (h : zl_at A a l) (hl : a + (l.length : Int) ≤ o) (hB : ∀ x : Int, x < o → B x = A x) : zl_at B a l := zl_at_cg l a (fun x _ b => hB x (by omega)) h
theorem kr_clause (d : Nat) (hn : n ≤ 240) {k o p : Int} {C : Int → zl_D} (h : zr_st q n i N) (k0 : 0 ≤ k) (k1 : k ≤ 16) (o0 : 0 ≤ o) (oi : o ≤ i) (eo : N 5 7 = o) (hf : zl_fc k C o N)
    (h1 : ∀ (j : Int) (D : zl_D) (N' : z_M), zl_cl q k i o p = .inr (j, D) → k < 16 → zc_c N N' → zr_st q n j N' → N' 5 7 = zl_oe D → zl_fc (k + 1) (zl_put C k D) (zl_oe D) N' → Q (z_I 1) N')
    (h0 : ∀ (x : Int) (N' : z_M), zl_cl q k i o p = .inl x → zc_c N N' → N' 2 4 = x → Q (z_I 0) N') : z_Cl 0 (d + 40) 27 [z_R 5, z_R 2, z_I k] N Q := by
  have hp := h.2.2.1
  have hpn := h.2.2.2.1
  have hT := h.1
  have hsrc : ∀ (j : Int) (D : zl_D), zl_cl q k i o p = .inr (j, D) → zl_src q n D ∧ zl_lt D.1 ∧ D.2.1 = (o, p) ∧ i < j ∧ j ≤ n ∧ zl_oe D ≤ o + (j - i) ∧ zl_pe D ≤ p + (j - i) ∧ o ≤ zl_oe D ∧ p ≤ zl_pe D := fun j D e => zl_cl_src hT hp hpn e
  unfold zl_cl at h1 h0
  refine re_27 (d + 39) (kr_next (d + 39) h (z_viI (kr_most (d + 39) (fun hl v v0 => z_viI ⟨fun _ => ?_, fun c => absurd c (by omega)⟩) (fun hl => z_viI ⟨fun c => absurd c (by decide), fun _ => kr_wrong (d + 38) h (fun N' b => z_viI (z_bl_of (Or.inl rfl) (h0 _ N' (if_pos hl) (zc_mv b.1) b.2)))⟩))))
  rw [if_neg (fun z => z hl)] at h1 h0
  refine ⟨fun k16 => ?_, fun k16 => kr_place (d + 39) h (z_viI (kr_fail (d + 39) (by decide) (by omega) (fun N' b => z_viI (z_bl_of (Or.inl rfl) (h0 (-4000 - i) N' (if_pos k16) (zc_mv b.1) (by rw [b.2]; omega))))))⟩
  rw [if_neg k16] at h1 h0
  have hi : i < n := by
    by_cases z : i < n
    · exact z
    · have := hT.2.2.2 i (by omega); unfold zl_lt at hl; omega
  refine kr_skip (d + 39) h hi (fun st1 => ?_)
  have e57 : (z_up (z_up N 2 3 (i + 1)) 641028 (4 * k) (q i)) 5 7 = o := by rw [z_up_ne (by decide), z_up_ne (by decide)]; exact eo
  rw [z_w_id (x := 4 * k) (by omega) (by omega), z_w_id (x := 4 * k + 1) (by omega) (by omega), e57]
  refine ⟨by omega, by omega, by omega, by omega, ?_⟩
  -- the letter and the first place are written
  have cA : zc_c N (z_up (z_up (z_up N 2 3 (i + 1)) 641028 (4 * k) (q i)) 641028 (4 * k + 1) o) := zc_tr (zc_up rfl rfl) (zc_tr (zc_up rfl rfl) (zc_up rfl rfl))
  have sA : zr_st q n (i + 1) (z_up (z_up (z_up N 2 3 (i + 1)) 641028 (4 * k) (q i)) 641028 (4 * k + 1) o) := zr_st_of st1 (by rw [z_up_ne (by decide), z_up_ne (by decide)]) (by rw [z_up_ne (by decide), z_up_ne (by decide)])
  have oA : (z_up (z_up (z_up N 2 3 (i + 1)) 641028 (4 * k) (q i)) 641028 (4 * k + 1) o) 5 7 = o := by rw [z_up_ne (by decide)]; exact e57
  have fA : (z_up (z_up (z_up N 2 3 (i + 1)) 641028 (4 * k) (q i)) 641028 (4 * k + 1) o) 2401026 = N 2401026 := by rw [z_up_ne (by decide), z_up_ne (by decide), z_up_ne (by decide)]
  have rA0 : (z_up (z_up (z_up N 2 3 (i + 1)) 641028 (4 * k) (q i)) 641028 (4 * k + 1) o) 641028 (4 * k) = q i := by rw [z_up_nj (by omega), z_up_eq]
  have rA1 : (z_up (z_up (z_up N 2 3 (i + 1)) 641028 (4 * k) (q i)) 641028 (4 * k + 1) o) 641028 (4 * k + 1) = o := z_up_eq
  have rAx : ∀ x : Int, x < 4 * k → (z_up (z_up (z_up N 2 3 (i + 1)) 641028 (4 * k) (q i)) 641028 (4 * k + 1) o) 641028 x = N 641028 x := fun x hx => by rw [z_up_nj (by omega), z_up_nj (by omega), z_up_ne (by decide)]
  generalize z_up (z_up (z_up N 2 3 (i + 1)) 641028 (4 * k) (q i)) 641028 (4 * k + 1) o = A at cA sA oA fA rA0 rA1 rAx
  refine (kr_law hn 5000).1 3 6 (d + 39) 0 (i + 1) o A _ (by decide) ⟨by decide, by decide⟩ (by show 6 + 4 * 6 ≤ d + 39; omega) (by omega) (by omega) o0 (by omega) sA oA (fun j m1 c1 N1 e1 cc1 st2 fr1 => z_y1 ?_) (fun x N1 e1 cc1 b1 _ => z_n1 (h0 x N1 (by rw [e1]) (zc_tr cA cc1) b1))
  rw [e1] at h1 h0
  dsimp only at h1 h0
  have z1 := (zl_end hT 5000 3 0 (i + 1) o [] [] j m1 c1 (by omega) (by omega) ⟨fun z => by omega, fun z => by omega⟩ e1).1 (by decide)
  refine kr_take (d + 38) st2 (by decide) (fun e40 _ st3 => z_y2 ?_) (fun ne N2 b2 => z_n2 (h0 _ N2 (if_pos ne) (zc_tr cA (zc_tr cc1 (zc_mv b2.1))) b2.2))
  rw [if_neg (fun z => z e40)] at h1 h0
  have e57b : (z_up N1 2 3 (j + 1)) 5 7 = o + (c1.length : Int) := by rw [z_up_ne (by decide)]; exact fr1.1
  rw [z_w_id (x := 4 * k + 2) (by omega) (by omega), e57b]
  refine ⟨by omega, by omega, ?_⟩
  have cB : zc_c N (z_up (z_up N1 2 3 (j + 1)) 641028 (4 * k + 2) (o + (c1.length : Int))) := zc_tr cA (zc_tr cc1 (zc_tr (zc_up rfl rfl) (zc_up rfl rfl)))
  have sB : zr_st q n (j + 1) (z_up (z_up N1 2 3 (j + 1)) 641028 (4 * k + 2) (o + (c1.length : Int))) := zr_st_of st3 (z_up_ne (by decide)) (z_up_ne (by decide))
  have oB : (z_up (z_up N1 2 3 (j + 1)) 641028 (4 * k + 2) (o + (c1.length : Int))) 5 7 = o + (c1.length : Int) := by rw [z_up_ne (by decide)]; exact e57b
  have fB : (z_up (z_up N1 2 3 (j + 1)) 641028 (4 * k + 2) (o + (c1.length : Int))) 2401026 = N1 2401026 := by rw [z_up_ne (by decide), z_up_ne (by decide)]
  have rB2 : (z_up (z_up N1 2 3 (j + 1)) 641028 (4 * k + 2) (o + (c1.length : Int))) 641028 (4 * k + 2) = o + (c1.length : Int) := z_up_eq
  have rBx : ∀ x : Int, x < 4 * k + 2 → (z_up (z_up N1 2 3 (j + 1)) 641028 (4 * k + 2) (o + (c1.length : Int))) 641028 x = A 641028 x := fun x hx => by rw [z_up_nj (by omega), z_up_ne (by decide), fr1.2.2.2]
  generalize z_up (z_up N1 2 3 (j + 1)) 641028 (4 * k + 2) (o + (c1.length : Int)) = B at cB sB oB fB rB2 rBx
  refine (kr_law hn 5000).1 0 5 (d + 39) 1 (j + 1) (o + (c1.length : Int)) B _ (by decide) ⟨by decide, by decide⟩ (by show 11 + 4 * 5 ≤ d + 39; omega) (by omega) (by omega) (by omega) (by omega) sB oB (fun j2 m2 c2 N2 e2 cc2 st4 fr2 => z_y1 ?_) (fun x N2 e2 cc2 b2 _ => z_n1 (h0 x N2 (by rw [e2]) (zc_tr cB cc2) b2))
  rw [e2] at h1 h0
  dsimp only at h1 h0
  have z2 := (zl_end hT 5000 0 1 (j + 1) _ [] [] j2 m2 c2 (by omega) (by omega) ⟨fun z => by omega, fun z => by omega⟩ e2).1 (by decide)
  refine kr_take (d + 38) st4 (by decide) (fun e41 _ st5 => z_y2 ?_) (fun ne N3 b3 => z_n2 (h0 _ N3 (if_pos ne) (zc_tr cB (zc_tr cc2 (zc_mv b3.1))) b3.2))
  rw [if_neg (fun z => z e41)] at h1
  have e57c : (z_up N2 2 3 (j2 + 1)) 5 7 = o + (c1.length : Int) + (c2.length : Int) := by rw [z_up_ne (by decide)]; exact fr2.1
  rw [z_w_id (x := 4 * k + 3) (by omega) (by omega), e57c]
  refine ⟨by omega, by omega, h1 (j2 + 1) _ _ rfl (by omega) (zc_tr cB (zc_tr cc2 (zc_tr (zc_up rfl rfl) (zc_up rfl rfl)))) (zr_st_of st5 (z_up_ne (by decide)) (z_up_ne (by decide))) (by rw [z_up_ne (by decide)]; exact e57c) (fun x x0 x1 => ?_)⟩
  have rCx : ∀ y : Int, y < 4 * k + 3 → (z_up (z_up N2 2 3 (j2 + 1)) 641028 (4 * k + 3) (o + (c1.length : Int) + (c2.length : Int))) 641028 y = B 641028 y := fun y hy => by rw [z_up_nj (by omega), z_up_ne (by decide), fr2.2.2.2]
  have fC : (z_up (z_up N2 2 3 (j2 + 1)) 641028 (4 * k + 3) (o + (c1.length : Int) + (c2.length : Int))) 2401026 = N2 2401026 := by rw [z_up_ne (by decide), z_up_ne (by decide)]
  have old1 : ∀ y : Int, y < o + (c1.length : Int) → N2 2401026 y = N1 2401026 y := fun y hy => by rw [fr2.2.2.1 y hy, fB]
  have old0 : ∀ y : Int, y < o → N2 2401026 y = N 2401026 y := fun y hy => by rw [old1 y (by omega), fr1.2.2.1 y hy, fA]
  by_cases cx : x = k
  · subst cx
    rw [zl_put_e, fC]
    dsimp only
    refine ⟨?_, ?_, ?_, ?_, zl_at_keep fr1.2.1 (by omega) old1, fr2.2.1, Int.le_refl _⟩
    · rw [rCx _ (by omega), rBx _ (by omega)]; exact rA0
    · rw [rCx _ (by omega), rBx _ (by omega)]; exact rA1
    · rw [rCx _ (by omega)]; exact rB2
    · exact z_up_eq
  · rw [zl_put_n cx, fC]
    obtain ⟨q1, q2, q3, q4, q5, q6, q7⟩ := hf x x0 (by omega)
    have hx : x < k := by omega
    have le : (C x).2.1.1 + ((C x).2.2.1.2.length : Int) ≤ zl_oe (C x) := by unfold zl_oe; omega
    have le2 : (C x).2.1.1 + ((C x).2.2.1.2.length : Int) + ((C x).2.2.2.2.length : Int) ≤ o := q7
    refine ⟨?_, ?_, ?_, ?_, zl_at_keep q5 (by omega) old0, zl_at_keep q6 le2 old0, ?_⟩
    · rw [rCx _ (by omega), rBx _ (by omega), rAx _ (by omega)]; exact q1
    · rw [rCx _ (by omega), rBx _ (by omega), rAx _ (by omega)]; exact q2
    · rw [rCx _ (by omega), rBx _ (by omega), rAx _ (by omega)]; exact q3
    · rw [rCx _ (by omega), rBx _ (by omega), rAx _ (by omega)]; exact q4
    · unfold zl_oe
      dsimp only
      unfold zl_oe at q7
      omega
end ZLE
