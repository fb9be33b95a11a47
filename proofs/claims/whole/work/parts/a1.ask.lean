/-! OPS: ask, enough; the model's days that are left -/
theorem zy_p4 (p : Nat) : (4 : Nat) ^ p = 2 ^ (2 * p) := by rw [Nat.pow_mul]
theorem zy_p4_b {p : Nat} (h : p ≤ 10) : 1 ≤ (4 : Nat) ^ p ∧ (4 : Nat) ^ p ≤ 1048576 := by
  have : ∀ j : Fin 11, 1 ≤ (4 : Nat) ^ j.val ∧ (4 : Nat) ^ j.val ≤ 1048576 := by decide
  exact this ⟨p, by omega⟩
theorem zy_orsh {x v p : Nat} (hx : x < 4 ^ p) (hv : v < 3) (hp : p < 10) : z_or (x : Int) (z_shl (v : Int) (2 * (p : Int))) = ((x + v * 4 ^ p : Nat) : Int) := by
  have hb := zy_p4_b (p := p) (by omega)
  have hb1 := zy_p4_b (p := p + 1) (by omega)
  have e4 : (4 : Nat) ^ (p + 1) = 4 ^ p * 4 := Nat.pow_succ ..
  have sh : ∀ (a : Fin 3) (b : Fin 10), z_shl ((a.val : Nat) : Int) (2 * ((b.val : Nat) : Int)) = ((a.val * 4 ^ b.val : Nat) : Int) := by decide +kernel
  have e := sh ⟨v, hv⟩ ⟨p, hp⟩
  dsimp only at e
  have hm : v * 4 ^ p ≤ 2 * 4 ^ p := Nat.mul_le_mul_right _ (by omega)
  rw [e, z_or_n (by omega) (by omega)]
  congr 1
  rw [zy_p4] at hx ⊢
  have := Nat.two_pow_add_eq_or_of_lt hx v
  rw [Nat.mul_comm v, Nat.or_comm, ← this, Nat.add_comm]
section ZAS3
variable {S M : z_M} {Q : z_V → z_M → Prop}
def zy_vs (S : z_M) (k : Nat) : Nat → Nat
  | 0 => 0
  | p + 1 => zy_vs S k p + zx_ver S p k * 4 ^ p
theorem zy_vs_lt (k : Nat) : ∀ p, zy_vs S k p < 4 ^ p := by
  intro p
  induction p with
  | zero => exact (by decide : (0 : Nat) < 1)
  | succ p ih =>
    have hv := zx_ver_b (S := S) p k
    have e4 : (4 : Nat) ^ (p + 1) = 4 ^ p * 4 := Nat.pow_succ ..
    have hm : zx_ver S p k * 4 ^ p ≤ 2 * 4 ^ p := Nat.mul_le_mul_right _ (by omega)
    show zy_vs S k p + zx_ver S p k * 4 ^ p < _
    omega
/-- the model's days that are left, by their rows -/
def zy_ml (S N : z_M) (n : Nat) (kk : Nat → Nat) : Prop := z_sit S N ∧ N 13 69 = (n : Int) ∧ ∀ i : Nat, i < n → N 14581107 (i : Int) = (zy_vs S (kk i) 10 : Int)
abbrev zy_1 : Nat → Int := fun _ => 1
theorem km_takesBestDays (d : Nat) (hS : z_sit S M) (hI : z_IS S) (h7 : zx_R S ≤ 729) (hd : zx_DM S M) (h : ∀ (N : z_M) (n : Nat) (kk : Nat → Nat), n ≤ 1458 → zy_ml S N n kk → zy_W kk zy_1 n = zy_W0 S → Q z_U N) : z_Cl 0 (d + 3) 325 [z_R 13] M Q := by
  obtain ⟨d1, d2, d3, d4, d5⟩ := hd
  refine re_325 (d + 2) ?_
  have key : ∀ (r D n : Nat) (N : z_M) (kk : Nat → Nat), D + r = 2 * zx_R S → n ≤ D → zy_ml S N n kk → N 14581100 = M 14581100 → N 13 62 = M 13 62 → N 13 57 = M 13 57 → (∀ P : Nat → Bool, zx_sw P kk zy_1 n = z_cnt (fun D => zy_be S D && P (D / 2)) D) → z_G 0 (d + 3) z_m325 7 [z_R 13, z_I (D : Int), z_U, z_U] [] N Q := by
    intro r
    induction r with
    | zero =>
      intro D n N kk hD hn hm e1 e2 e3 hs
      refine rg_325_7 (d + 2) ?_
      rw [e3, d1]
      refine ⟨fun _ => h N n kk (by omega) hm (funext fun P => ?_), fun c => absurd c (by omega)⟩
      have e := hs P
      rw [show D = 2 * zx_R S from by omega] at e
      exact e
    | succ r ih =>
      intro D n N kk hD hn hm e1 e2 e3 hs
      have ec : ∀ P : Nat → Bool, z_cnt (fun D => zy_be S D && P (D / 2)) (D + 1) = z_cnt (fun D => zy_be S D && P (D / 2)) D + zv_b (zy_be S D && P (D / 2)) := fun P => rfl
      refine rg_325_7 (d + 2) ?_
      rw [e3, d1, e1, d3 D (by omega), e2, d4]
      refine ⟨fun c => absurd c (by omega), fun _ => ⟨by omega, by omega, fun c => ?_, fun c => ?_⟩⟩
      · have eb : zy_be S D = true := decide_eq_true c
        refine km_opensDay d hm.1 hI.1 (by omega) (fun N2 hN2 hf hv => ?_)
        refine z_lpi (n := 10) (fun p => (zy_vs S (D / 2) p : Int)) (fun _ N' => N' = N2) (fun N v q => z_G 0 (d + 3) z_m325 40 [z_R 13, z_I (D : Int), z_I v, z_I q] [] N Q) N2 rfl (fun p N' hp hN' nx => ?_) (fun N' hN' => ?_)
        · subst hN'
          have nx' := nx N' rfl
          refine rg_325_40 (d + 2) ⟨fun c => absurd c (by omega), fun _ => ⟨by omega, by omega, ?_⟩⟩
          rw [hv.2 p hp, z_w_id (x := 2 * (p : Int)) (by omega) (by omega), zy_orsh (zy_vs_lt _ _) (zx_ver_b _ _) hp, z_wq (by omega)]
          exact nx'
        · subst hN'
          have g1 : N' 13 69 = (n : Int) := by rw [hf.2 _ (by decide)]; exact hm.2.1
          refine rg_325_40 (d + 2) ⟨fun _ => ?_, fun c => absurd c (by decide)⟩
          rw [z_up_ne (M := N') (k := 13) (by decide), z_up_ne (M := z_up N' 14581103 (N' 13 69) (D : Int)) (k := 13) (by decide), z_up_ne (M := N') (k := 13) (by decide), g1, z_wq (q := D) (by omega), z_wq (q := n) (by omega)]
          refine ⟨by omega, by omega, by omega, by omega, ?_⟩
          refine ih (D + 1) (n + 1) _ (fun m => if m = n then D / 2 else kk m) (by omega) (by omega) ⟨z_at_up (z_at_up (z_at_up hN2 _ _ _ rfl rfl) _ _ _ rfl rfl) _ _ _ rfl rfl, z_up_eq, fun i hi => ?_⟩ ?_ ?_ ?_ (fun P => ?_)
          · rw [z_up_ne (by decide)]
            by_cases e : i = n
            · dsimp only
              rw [e, z_up_eq, if_pos rfl]
            · dsimp only
              rw [z_up_nj (by omega), z_up_ne (by decide), hf.1 _ (by decide) (by decide), if_neg e]
              exact hm.2.2 i (by omega)
          · rw [z_up_ne (by decide), z_up_ne (by decide), z_up_ne (by decide), hf.1 _ (by decide) (by decide)]; exact e1
          · rw [z_up_nj (by decide), z_up_ne (by decide), z_up_ne (by decide), hf.2 _ (by decide)]; exact e2
          · rw [z_up_nj (by decide), z_up_ne (by decide), z_up_ne (by decide), hf.2 _ (by decide)]; exact e3
          · show zx_sw P _ zy_1 n + (if P (if n = n then D / 2 else kk n) = true then (1 : Int) else 0) = _
            rw [if_pos rfl, ec P, eb, Bool.true_and, ← hs P]
            have e5 : zx_sw P (fun m => if m = n then D / 2 else kk m) zy_1 n = zx_sw P kk zy_1 n := zx_sw_ext n (fun m hm => by rw [if_neg (by omega)]; exact ⟨rfl, rfl⟩)
            rw [e5]; rfl
      · have eb : zy_be S D = false := decide_eq_false c
        rw [z_wq (by omega)]
        refine ih (D + 1) n N kk (by omega) (by omega) hm e1 e2 e3 (fun P => ?_)
        rw [hs P, ec P, eb, Bool.false_and]
        show _ = _ + 0
        omega
  refine key (2 * zx_R S) 0 0 _ (fun _ => 0) (by omega) (Nat.le_refl 0) ⟨z_at_up hS _ _ _ rfl rfl, z_up_eq, fun i hi => absurd hi (Nat.not_lt_zero i)⟩ (z_up_ne (by decide)) (by rw [z_up_nj (by decide)]) (by rw [z_up_nj (by decide)]) (fun P => rfl)
end ZAS3
