/-! UPDATES: found -/
section ZUP8
variable {S M : z_M} {Q : z_V → z_M → Prop}
def zy_fc (S : z_M) (p w : Int) : Int → Int := fun j => if j = p then (if w = -1 then -2 else w) else if 0 ≤ j ∧ j < 10 ∧ S 101056 j = w then -2 else S 101056 j
def zy_fm (S : z_M) (p w : Int) : Int → Int := fun j => if j = p then w else if 0 ≤ j ∧ j < 10 ∧ S 101116 j = w then -1 else S 101116 j
abbrev zy_fo (S : z_M) (p w : Int) : Prop := z_tl S p ∧ -1 ≤ w ∧ w < 10
theorem kc_found (d : Nat) {p w : Int} (hS : z_sit S M) (hI : z_IPeo S) (h1 : zy_fo S p w → ∀ N : z_M, z_sit (zy_ar S 101056 (zy_fc S p w)) N → Q (z_I 1) N) (h0 : ¬ zy_fo S p w → Q (z_I 0) M) : z_Cl 0 (d + 2) 196 [z_R 1, z_I p, z_I w] M Q := by
  refine re_196 (d + 1) (kc_isTold d hS hI (fun ht => z_y1 ⟨fun c => h0 (fun z => by have := z.2.1; omega), fun w0 => ⟨fun w1 => re_48 (d + 1) ?_, fun c => h0 (fun z => by have := z.2.2; omega)⟩⟩) (fun ht => z_n1 (h0 (fun z => ht z.1))))
  have hh := h1 ⟨ht, w0, w1⟩
  have p0 := ht.1
  have p1 := ht.2.1
  refine z_lpi (n := 10) (fun _ => ()) (fun q N => (∀ k, k ≠ 101056 → N k = M k) ∧ ∀ j : Int, N 101056 j = if 0 ≤ j ∧ j < (q : Int) ∧ S 101056 j = w then -2 else S 101056 j) (fun N _ q => z_G 0 (d + 1) z_m48 2 [z_R 11, z_I p, z_I w, z_I q] [] N (fun _ M2 => Q (z_I 1) M2)) M ⟨fun _ _ => rfl, fun j => by rw [if_neg (by omega)]; exact congrFun (z_fn hS 101056 rfl) j⟩ (fun q N hq hI' nx => ?_) (fun N hI' => ?_)
  · obtain ⟨hk, ha⟩ := hI'
    have e : N 101056 (q : Int) = S 101056 (q : Int) := by rw [ha, if_neg (by omega)]
    refine rg_48_2 (d + 1) ⟨fun c => absurd c (by omega), fun _ => ⟨by omega, by omega, fun c => ⟨by omega, by omega, by omega, by omega, ?_⟩, fun c => ⟨by omega, by omega, ?_⟩⟩⟩
    · rw [z_up_self, z_wq (by omega)]
      refine nx N ⟨hk, fun j => ?_⟩
      rw [ha j]
      by_cases c2 : j = (q : Int)
      · rw [e] at c
        rw [c2, if_neg (fun z => c z.2.2), if_neg (fun z => c z.2.2)]
      · by_cases c3 : 0 ≤ j ∧ j < (q : Int) ∧ S 101056 j = w
        · rw [if_pos c3, if_pos ⟨c3.1, by omega, c3.2.2⟩]
        · rw [if_neg c3, if_neg (fun z => c3 ⟨z.1, by omega, z.2.2⟩)]
    · rw [z_wq (by omega)]
      refine nx _ ⟨fun k hk2 => by rw [z_up_ne hk2]; exact hk k hk2, fun j => ?_⟩
      by_cases c2 : j = (q : Int)
      · rw [e] at c
        rw [c2, z_up_eq, if_pos ⟨by omega, by omega, c⟩]
      · rw [z_up_nj c2, ha j]
        by_cases c3 : 0 ≤ j ∧ j < (q : Int) ∧ S 101056 j = w
        · rw [if_pos c3, if_pos ⟨c3.1, by omega, c3.2.2⟩]
        · rw [if_neg c3, if_neg (fun z => c3 ⟨z.1, by omega, z.2.2⟩)]
  · obtain ⟨hk, ha⟩ := hI'
    have fin : ∀ x : Int, x = (if w = -1 then -2 else w) → Q (z_I 1) (z_up N 101056 p x) := by
      intro x ex
      have e : (z_up N 101056 p x) 101056 = zy_fc S p w := by
        funext j
        unfold zy_fc
        by_cases c : j = p
        · rw [if_pos c, c, z_up_eq, ex]
        · rw [if_neg c, z_up_nj c, ha j]; rfl
      have h2 := zy_sit_ar (M' := z_up N 101056 p x) hS 101056 rfl (fun k hk2 => by rw [z_up_ne hk2]; exact hk k hk2) ⟨rfl, rfl, rfl, rfl, rfl, rfl, rfl, rfl, rfl, rfl⟩
      rw [e] at h2
      exact hh _ h2
    exact rg_48_2 (d + 1) ⟨fun _ => ⟨fun c => ⟨p0, p1, fin w (by rw [if_neg c])⟩, fun c => ⟨p0, p1, fin (-2) (by rw [if_pos c])⟩⟩, fun c => absurd c (by decide)⟩
theorem km_found (d : Nat) {p w : Int} (hS : z_sit S M) (hI : z_IPeo S) (h1 : zy_fo S p w → ∀ N : z_M, z_sit (zy_ar S 101116 (zy_fm S p w)) N → Q (z_I 1) N) (h0 : ¬ zy_fo S p w → Q (z_I 0) M) : z_Cl 0 (d + 2) 350 [z_R 13, z_I p, z_I w] M Q := by
  refine re_350 (d + 1) (km_isTold d hS hI (fun ht => z_y1 (km_lies (d + 1) (fun w0 w1 => z_y2 ?_) (fun c => z_n2 (h0 (fun z => by have := z.2; omega))))) (fun ht => z_n1 (h0 (fun z => ht z.1))))
  have hh := h1 ⟨ht, w0, by omega⟩
  have p0 := ht.1
  have p1 := ht.2.1
  refine z_lpi (n := 10) (fun _ => ()) (fun q N => (∀ k, k ≠ 101116 → N k = M k) ∧ ∀ j : Int, N 101116 j = if 0 ≤ j ∧ j < (q : Int) ∧ S 101116 j = w then -1 else S 101116 j) (fun N _ q => z_G 0 (d + 2) z_m350 26 [z_R 13, z_I p, z_I w, z_I q] [] N Q) M ⟨fun _ _ => rfl, fun j => by rw [if_neg (by omega)]; exact congrFun (z_fn hS 101116 rfl) j⟩ (fun q N hq hI' nx => ?_) (fun N hI' => ?_)
  · obtain ⟨hk, ha⟩ := hI'
    have e : N 101116 (q : Int) = S 101116 (q : Int) := by rw [ha, if_neg (by omega)]
    refine rg_350_26 (d + 1) ⟨fun c => absurd c (by omega), fun _ => ⟨by omega, by omega, fun c => ?_, fun c => ⟨by omega, by omega, ?_⟩⟩⟩
    · rw [z_wq (by omega)]
      refine nx N ⟨hk, fun j => ?_⟩
      rw [ha j]
      by_cases c2 : j = (q : Int)
      · rw [e] at c
        rw [c2, if_neg (fun z => c z.2.2), if_neg (fun z => c z.2.2)]
      · by_cases c3 : 0 ≤ j ∧ j < (q : Int) ∧ S 101116 j = w
        · rw [if_pos c3, if_pos ⟨c3.1, by omega, c3.2.2⟩]
        · rw [if_neg c3, if_neg (fun z => c3 ⟨z.1, by omega, z.2.2⟩)]
    · rw [z_wq (by omega)]
      refine nx _ ⟨fun k hk2 => by rw [z_up_ne hk2]; exact hk k hk2, fun j => ?_⟩
      by_cases c2 : j = (q : Int)
      · rw [e] at c
        rw [c2, z_up_eq, if_pos ⟨by omega, by omega, c⟩]
      · rw [z_up_nj c2, ha j]
        by_cases c3 : 0 ≤ j ∧ j < (q : Int) ∧ S 101116 j = w
        · rw [if_pos c3, if_pos ⟨c3.1, by omega, c3.2.2⟩]
        · rw [if_neg c3, if_neg (fun z => c3 ⟨z.1, by omega, z.2.2⟩)]
  · obtain ⟨hk, ha⟩ := hI'
    refine rg_350_26 (d + 1) ⟨fun _ => ⟨p0, p1, ?_⟩, fun c => absurd c (by decide)⟩
    have e : (z_up N 101116 p w) 101116 = zy_fm S p w := by
      funext j
      unfold zy_fm
      by_cases c : j = p
      · rw [if_pos c, c, z_up_eq]
      · rw [if_neg c, z_up_nj c, ha j]; rfl
    have h2 := zy_sit_ar (M' := z_up N 101116 p w) hS 101116 rfl (fun k hk2 => by rw [z_up_ne hk2]; exact hk k hk2) ⟨rfl, rfl, rfl, rfl, rfl, rfl, rfl, rfl, rfl, rfl⟩
    rw [e] at h2
    exact hh _ h2
end ZUP8
