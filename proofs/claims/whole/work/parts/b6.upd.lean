/-! UPDATES: strike -/
section ZUP6
variable {S M : z_M} {Q : z_V → z_M → Prop}
def zy_dc (S : z_M) (i : Int) : z_M := zy_ar (z_up S 7 5 (S 7 5 - 1)) 2401035 (zy_del (S 2401035) i 6 (S 7 5))
def zy_dM (S : z_M) (i : Int) : z_M := z_up (zy_six S i (S 13 49 - 1)) 13 49 (S 13 49 - 1)
theorem kc_strike (d : Nat) {i : Int} (hS : z_sit S M) (hR : z_IRep S) (h1 : 0 ≤ i ∧ i < S 13 49 → ∀ N : z_M, z_sit (zy_dc S i) N → Q (z_I 1) N) (h0 : ¬ (0 ≤ i ∧ i < S 13 49) → Q (z_I 0) M) : z_Cl 0 (d + 1) 172 [z_R 1, z_I i] M Q :=
  re_172 d (kc_has_r d hS hR (fun a b => z_y2 (kc_takeOut d hS (by rw [hR.1]; exact hR.2.2.1) a (by rw [hR.1]; exact b) (fun N hN => h1 ⟨a, b⟩ N hN))) (fun c => z_n2 (h0 (by omega))))
theorem km_isReport2 (d : Nat) {i : Int} (hS : z_sit S M) (r0 : 0 ≤ S 13 49) (r1 : S 13 49 ≤ 40) (h1 : 0 ≤ i → i < S 13 49 → Q (z_I 1) M) (h0 : i < 0 ∨ S 13 49 ≤ i → Q (z_I 0) M) : z_Cl 0 (d + 1) 300 [z_R 13, z_I i] M Q := by
  refine re_300 d ?_
  rw [z_ff hS 13 49 rfl, z_w_id (by omega) (by omega)]
  exact km_lies d (fun a b => z_viI (z_bl_of (Or.inr rfl) (h1 a (by omega)))) (fun a => z_viI (z_bl_of (Or.inl rfl) (h0 (by omega))))
theorem km_strike (d : Nat) {i : Int} (hS : z_sit S M) (r0 : 0 ≤ S 13 49) (r1 : S 13 49 ≤ 40) (h1 : 0 ≤ i ∧ i < S 13 49 → ∀ N : z_M, z_sit (zy_dM S i) N → Q (z_I 1) N) (h0 : ¬ (0 ≤ i ∧ i < S 13 49) → Q (z_I 0) M) : z_Cl 0 (d + 2) 301 [z_R 13, z_I i] M Q :=
  re_301 (d + 1) (km_isReport2 d hS r0 r1 (fun a b => z_y2 (km_takesOut (d + 1) hS r1 a b (fun N hN => h1 ⟨a, b⟩ N hN))) (fun c => z_n2 (h0 (by omega))))
end ZUP6
