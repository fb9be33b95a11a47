/-! UPDATES: thing, carry -/
section ZUP9
variable {S M : z_M} {Q : z_V → z_M → Prop}
abbrev zy_th (i s : Int) : Prop := (0 ≤ i ∧ i < 6) ∧ 0 ≤ s ∧ s < 100
def zy_tc (S : z_M) (i s : Int) : z_M := z_up (z_up S 241058 (4 * i) s) 241058 (4 * i + 1) (-1)
def zy_tm (S : z_M) (i s : Int) : z_M := z_up (z_up S 61120 i s) 64121 i 0
theorem kc_thing (d : Nat) {i s : Int} (hS : z_sit S M) (h1 : zy_th i s → z_sit (zy_tc S i s) (zy_tc M i s) → Q (z_I 1) (zy_tc M i s)) (h0 : ¬ zy_th i s → Q (z_I 0) M) : z_Cl 0 (d + 1) 202 [z_R 1, z_I i, z_I s] M Q := by
  refine re_202 d (re_54 d ⟨fun c => z_n1 (h0 (fun z => by have := z.1; omega)), fun i0 => ⟨fun c => z_n1 (h0 (fun z => by have := z.1; omega)), fun i1 => z_y1 (kc_isSpot d (fun a b => z_y2 (re_57 d ?_)) (fun c => z_n2 (h0 (fun z => by have := z.2; omega))))⟩⟩)
  rw [z_w_id (x := 4 * i) (by omega) (by omega), z_w_id (x := 4 * i + 0) (by omega) (by omega), z_w_id (x := 4 * i + 1) (by omega) (by omega), Int.add_zero]
  exact ⟨by omega, by omega, by omega, by omega, h1 ⟨⟨i0, i1⟩, a, b⟩ (zy_sit_up (zy_sit_up hS _ _ _ rfl ⟨rfl, rfl, rfl, rfl, rfl, rfl, rfl, rfl, rfl, rfl⟩) _ _ _ rfl ⟨rfl, rfl, rfl, rfl, rfl, rfl, rfl, rfl, rfl, rfl⟩)⟩
theorem km_thing (d : Nat) {i s : Int} (hS : z_sit S M) (h1 : zy_th i s → z_sit (zy_tm S i s) (zy_tm M i s) → Q (z_I 1) (zy_tm M i s)) (h0 : ¬ zy_th i s → Q (z_I 0) M) : z_Cl 0 (d + 2) 366 [z_R 13, z_I i, z_I s] M Q := by
  refine re_366 (d + 1) (km_lies (d + 1) (fun i0 i1 => z_y1 (km_isSpot d (fun a b => z_y2 ⟨i0, by omega, i0, by omega, h1 ⟨⟨i0, by omega⟩, a, b⟩ (zy_sit_up (zy_sit_up hS _ _ _ rfl ⟨rfl, rfl, rfl, rfl, rfl, rfl, rfl, rfl, rfl, rfl⟩) _ _ _ rfl ⟨rfl, rfl, rfl, rfl, rfl, rfl, rfl, rfl, rfl, rfl⟩)⟩) (fun c => z_n2 (h0 (fun z => by have := z.2; omega))))) (fun c => z_n1 (h0 (fun z => by have := z.1; omega))))
abbrev zy_ca (S : z_M) (i p a b : Int) : Prop := (0 ≤ i ∧ i < 6 ∧ S 61120 i ≠ -1) ∧ z_tl S p ∧ 0 ≤ a ∧ a ≤ b ∧ b < 96
def zy_cc (S : z_M) (i p a b : Int) : z_M := z_up (z_up (z_up S 241058 (4 * i + 1) p) 241058 (4 * i + 2) a) 241058 (4 * i + 3) b
def zy_cm (S : z_M) (i p a b : Int) : z_M := z_up (z_up (z_up (z_up S 64121 i 1) 61122 i p) 61123 i a) 61124 i b
theorem kc_carry (d : Nat) {i p a b : Int} (hS : z_sit S M) (hI : z_IPeo S) (hH : z_ITh S) (h1 : zy_ca S i p a b → z_sit (zy_cc S i p a b) (zy_cc M i p a b) → Q (z_I 1) (zy_cc M i p a b)) (h0 : ¬ zy_ca S i p a b → Q (z_I 0) M) : z_Cl 0 (d + 2) 203 [z_R 1, z_I i, z_I p, z_I a, z_I b] M Q := by
  refine re_203 (d + 1) (kc_isLaid d hS hH (fun i0 i1 i2 => z_y1 (kc_isTold d hS hI (fun ht => z_y1 (kc_isMinute (d + 1) (fun a0 a1 => z_y1 (kc_isMinute (d + 1) (fun b0 b1 => z_y1 ⟨fun c => re_58 (d + 1) ?_, fun c => h0 (fun z => by have := z.2.2; omega)⟩) (fun c => z_n1 (h0 (fun z => by have := z.2.2; omega))))) (fun c => z_n1 (h0 (fun z => by have := z.2.2; omega))))) (fun ht => z_n1 (h0 (fun z => ht z.2.1))))) (fun c => z_n1 (h0 (fun z => c z.1))))
  rw [z_w_id (x := 4 * i) (by omega) (by omega), z_w_id (x := 4 * i + 1) (by omega) (by omega), z_w_id (x := 4 * i + 2) (by omega) (by omega), z_w_id (x := 4 * i + 3) (by omega) (by omega)]
  exact ⟨by omega, by omega, by omega, by omega, by omega, by omega, h1 ⟨⟨i0, i1, i2⟩, ht, a0, c, b1⟩ (zy_sit_up (zy_sit_up (zy_sit_up hS _ _ _ rfl ⟨rfl, rfl, rfl, rfl, rfl, rfl, rfl, rfl, rfl, rfl⟩) _ _ _ rfl ⟨rfl, rfl, rfl, rfl, rfl, rfl, rfl, rfl, rfl, rfl⟩) _ _ _ rfl ⟨rfl, rfl, rfl, rfl, rfl, rfl, rfl, rfl, rfl, rfl⟩)⟩
/-- persons, by what the model alone knows -/
abbrev zy_B (S : z_M) : Prop := ∀ w : Int, 0 ≤ w → w < 30 → S 304067 w = 0 ∨ S 304067 w = 1
theorem km_isToldB (d : Nat) {p : Int} (hS : z_sit S M) (hB : zy_B S) (h1 : z_tl S p → Q (z_I 1) M) (h0 : ¬ z_tl S p → Q (z_I 0) M) : z_Cl 0 (d + 1) 250 [z_R 13, z_I p] M Q := by
  have e : M 304067 = S 304067 := z_fn hS _ rfl
  refine re_250 d (km_lies d (fun a b => z_viI ⟨fun c => absurd c (by decide), fun _ => ?_⟩) (fun a => z_viI ⟨fun _ => h0 (fun q => by have := q.1; have := q.2.1; omega), fun c => absurd rfl c⟩))
  rw [z_w_id (by omega) (by omega), e]
  have hp := hB (3 * p) (by omega) (by omega)
  exact ⟨by omega, by omega, fun c => h0 (fun r => by have := r.2.2; omega), fun c => h1 ⟨a, by omega, by omega⟩⟩
theorem km_carry (d : Nat) {i p a b : Int} (hS : z_sit S M) (hB : zy_B S) (h1 : zy_ca S i p a b → z_sit (zy_cm S i p a b) (zy_cm M i p a b) → Q (z_I 1) (zy_cm M i p a b)) (h0 : ¬ zy_ca S i p a b → Q (z_I 0) M) : z_Cl 0 (d + 3) 367 [z_R 13, z_I i, z_I p, z_I a, z_I b] M Q := by
  refine re_367 (d + 2) (km_isThing (d + 1) hS (fun i0 i1 i2 => z_y1 (km_isToldB (d + 1) hS hB (fun ht => z_y1 (km_isMinute (d + 1) (fun a0 a1 => z_y1 (km_lies (d + 2) (fun c b1 => z_y2 ⟨i0, i1, i0, i1, i0, i1, i0, i1, h1 ⟨⟨i0, i1, i2⟩, ht, a0, c, by omega⟩ (zy_sit_up (zy_sit_up (zy_sit_up (zy_sit_up hS _ _ _ rfl ⟨rfl, rfl, rfl, rfl, rfl, rfl, rfl, rfl, rfl, rfl⟩) _ _ _ rfl ⟨rfl, rfl, rfl, rfl, rfl, rfl, rfl, rfl, rfl, rfl⟩) _ _ _ rfl ⟨rfl, rfl, rfl, rfl, rfl, rfl, rfl, rfl, rfl, rfl⟩) _ _ _ rfl ⟨rfl, rfl, rfl, rfl, rfl, rfl, rfl, rfl, rfl, rfl⟩)⟩) (fun c => z_n2 (h0 (fun z => by have := z.2.2; omega))))) (fun c => z_n1 (h0 (fun z => by have := z.2.2; omega))))) (fun ht => z_n1 (h0 (fun z => ht z.2.1))))) (fun c => z_n1 (h0 (fun z => c z.1))))
theorem km_chooseB (d : Nat) {p v : Int} (hS : z_sit S M) (hB : zy_B S) (h1 : zy_chs S p v → z_sit (z_up S 101091 p v) (z_up M 101091 p v) → Q (z_I 1) (z_up M 101091 p v)) (h0 : ¬ zy_chs S p v → Q (z_I 0) M) : z_Cl 0 (d + 2) 286 [z_R 13, z_I p, z_I v] M Q := by
  refine re_286 (d + 1) (km_isToldB d hS hB (fun ht => z_y1 (km_lies (d + 1) (fun a b => z_y1 ?_) (fun c => z_n1 (h0 (fun z => by have := z.2.1; omega))))) (fun ht => z_n1 (h0 (fun z => ht z.1))))
  have p0 := ht.1
  have p1 := ht.2.1
  rw [z_w_id (x := 3 * p) (by omega) (by omega), z_w_id (by omega) (by omega), z_fn hS 304067 rfl]
  refine ⟨by omega, by omega, fun c => ⟨p0, p1, h1 ⟨ht, ⟨a, by omega⟩, ?_⟩ (zy_sit_up hS _ _ _ rfl ⟨rfl, rfl, rfl, rfl, rfl, rfl, rfl, rfl, rfl, rfl⟩)⟩, fun c => h0 (fun z => by have := z.2.2; omega)⟩
  rcases hB (3 * p + v) (by omega) (by omega) with e | e
  · exact absurd e c
  · exact e
end ZUP9
