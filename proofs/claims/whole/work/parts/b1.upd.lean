/-! UPDATES: sun, choose -/
section ZUP1
variable {S M : z_M} {Q : z_V → z_M → Prop}
theorem kc_sun (d : Nat) {u : Int} (hS : z_sit S M) (h1 : 0 ≤ u ∧ u < 2 → z_sit (z_up S 4 9 u) (z_up M 4 9 u) → Q (z_I 1) (z_up M 4 9 u)) (h0 : ¬ (0 ≤ u ∧ u < 2) → Q (z_I 0) M) : z_Cl 0 (d + 1) 175 [z_R 1, z_I u] M Q :=
  re_175 d (kc_isSun d (fun a b => z_y2 (re_68 d (h1 ⟨a, b⟩ (zy_sit_up hS 4 _ _ rfl ⟨rfl, rfl, rfl, rfl, rfl, rfl, rfl, rfl, rfl, rfl⟩)))) (fun c => z_n2 (h0 (by omega))))
theorem km_sun (d : Nat) {u : Int} (hS : z_sit S M) (h1 : 0 ≤ u ∧ u < 2 → z_sit (z_up S 13 48 u) (z_up M 13 48 u) → Q (z_I 1) (z_up M 13 48 u)) (h0 : ¬ (0 ≤ u ∧ u < 2) → Q (z_I 0) M) : z_Cl 0 (d + 1) 287 [z_R 13, z_I u] M Q :=
  re_287 d (km_lies d (fun a b => z_y2 (h1 ⟨a, by omega⟩ (zy_sit_up hS 13 _ _ rfl ⟨rfl, rfl, rfl, rfl, rfl, rfl, rfl, rfl, rfl, rfl⟩))) (fun c => z_n2 (h0 (by omega))))
abbrev zy_chs (S : z_M) (p v : Int) : Prop := z_tl S p ∧ (0 ≤ v ∧ v < 3) ∧ S 304067 (3 * p + v) = 1
theorem kc_choose (d : Nat) {p v : Int} (hS : z_sit S M) (hI : z_IPeo S) (h1 : zy_chs S p v → z_sit (z_up S 101023 p v) (z_up M 101023 p v) → Q (z_I 1) (z_up M 101023 p v)) (h0 : ¬ zy_chs S p v → Q (z_I 0) M) : z_Cl 0 (d + 2) 174 [z_R 1, z_I p, z_I v] M Q := by
  refine re_174 (d + 1) (kc_isTold d hS hI (fun ht => z_y1 (kc_isVersion (d + 1) (fun a b => z_y1 ?_) (fun c => z_n1 (h0 (fun z => by have := z.2.1; omega))))) (fun ht => z_n1 (h0 (fun z => ht z.1))))
  have p0 := ht.1
  have p1 := ht.2.1
  rw [z_w_id (x := 3 * p) (by omega) (by omega), z_w_id (by omega) (by omega)]
  refine kc_has (d + 1) hS hI (by omega) (by omega) (fun q => z_y2 (re_66 (d + 1) ⟨p0, p1, h1 ⟨ht, ⟨a, b⟩, q⟩ (zy_sit_up hS _ _ _ rfl ⟨rfl, rfl, rfl, rfl, rfl, rfl, rfl, rfl, rfl, rfl⟩)⟩)) (fun q => z_n2 (h0 (fun z => by have := z.2.2; omega)))
theorem km_choose (d : Nat) {p v : Int} (hS : z_sit S M) (hI : z_IPeo S) (h1 : zy_chs S p v → z_sit (z_up S 101091 p v) (z_up M 101091 p v) → Q (z_I 1) (z_up M 101091 p v)) (h0 : ¬ zy_chs S p v → Q (z_I 0) M) : z_Cl 0 (d + 2) 286 [z_R 13, z_I p, z_I v] M Q := by
  refine re_286 (d + 1) (km_isTold d hS hI (fun ht => z_y1 (km_lies (d + 1) (fun a b => z_y1 ?_) (fun c => z_n1 (h0 (fun z => by have := z.2.1; omega))))) (fun ht => z_n1 (h0 (fun z => ht z.1))))
  have p0 := ht.1
  have p1 := ht.2.1
  rw [z_w_id (x := 3 * p) (by omega) (by omega), z_w_id (by omega) (by omega), z_fn hS 304067 rfl]
  refine ⟨by omega, by omega, fun c => ⟨p0, p1, h1 ⟨ht, ⟨a, by omega⟩, ?_⟩ (zy_sit_up hS _ _ _ rfl ⟨rfl, rfl, rfl, rfl, rfl, rfl, rfl, rfl, rfl, rfl⟩)⟩, fun c => h0 (fun z => by have := z.2.2; omega)⟩
  rcases hI.1 (3 * p + v) (by omega) (by omega) with e | e
  · exact absurd e.1 c
  · exact e.1
end ZUP1
