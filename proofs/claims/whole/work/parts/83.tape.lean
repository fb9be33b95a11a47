theorem z_wr_A {M : z_M} {O A : Nat} {b : Int → Int} {i : Int} (h : A ≠ O) (j : Int) : z_wr M O A b i A j = if M O 1 ≤ j ∧ j < M O 1 + i then b (j - M O 1) else M A j := by
  unfold z_wr
  rw [if_neg h, if_pos rfl]
theorem z_wr_off {M : z_M} {O A k : Nat} {b : Int → Int} {i : Int} (h : k ≠ O) (h2 : k ≠ A) : z_wr M O A b i k = M k := by
  funext j
  unfold z_wr
  rw [if_neg h, if_neg h2]
theorem z_wr_O {M : z_M} {O A : Nat} {b : Int → Int} {i j : Int} (h : j ≠ 1) : z_wr M O A b i O j = M O j := by
  unfold z_wr
  rw [if_pos rfl, if_neg h]
theorem z_wr5_off {M : z_M} {O A k : Nat} {B : Int → Int → Int} {a0 a1 a2 a3 a4 : Int} (h : k ≠ O) (h2 : k ≠ A) : z_wr5 M O A B a0 a1 a2 a3 a4 k = M k := by
  unfold z_wr5
  rw [z_wr_off h h2, z_wr_off h h2, z_wr_off h h2, z_wr_off h h2, z_wr_off h h2]
theorem z_wr5_O {M : z_M} {O A : Nat} {B : Int → Int → Int} {a0 a1 a2 a3 a4 j : Int} (h : j ≠ 1) : z_wr5 M O A B a0 a1 a2 a3 a4 O j = M O j := by
  unfold z_wr5
  rw [z_wr_O h, z_wr_O h, z_wr_O h, z_wr_O h, z_wr_O h]
/-- which of the five ints the byte i of the twenty comes from, and which of its bytes -/
def z_fb (B : Int → Int → Int) (a0 a1 a2 a3 a4 i : Int) : Int := if i < 4 then B a0 i else if i < 8 then B a1 (i - 4) else if i < 12 then B a2 (i - 8) else if i < 16 then B a3 (i - 12) else B a4 (i - 16)
theorem z_wr5_A {M : z_M} {O A : Nat} {B : Int → Int → Int} {a0 a1 a2 a3 a4 : Int} (h : A ≠ O) (j : Int) : z_wr5 M O A B a0 a1 a2 a3 a4 A j = if M O 1 ≤ j ∧ j < M O 1 + 20 then z_fb B a0 a1 a2 a3 a4 (j - M O 1) else M A j := by
  unfold z_wr5 z_fb
  simp only [z_wr_A h, z_wr_n]
  generalize M O 1 = n
  have c : j < n ∨ (n ≤ j ∧ j < n + 4) ∨ (n + 4 ≤ j ∧ j < n + 8) ∨ (n + 8 ≤ j ∧ j < n + 12) ∨ (n + 12 ≤ j ∧ j < n + 16) ∨ (n + 16 ≤ j ∧ j < n + 20) ∨ n + 20 ≤ j := by omega
  rcases c with c | c | c | c | c | c | c
  all_goals repeat (first | rw [if_pos (by omega)] | rw [if_neg (by omega)])
  all_goals (congr 1; omega)
/-- the tape on both sides -/
def z_ITape (M : z_M) : Prop := M 13 1 = M 2 1 ∧ 0 ≤ M 2 1 ∧ M 2 1 ≤ 260 ∧ ∀ j, 0 ≤ j → j < M 2 1 → M 2601014 j = z_and (M 2603064 j) 255
theorem z_fb_and (a0 a1 a2 a3 a4 i : Int) : z_fb z_byC a0 a1 a2 a3 a4 i = z_and (z_fb z_byM a0 a1 a2 a3 a4 i) 255 := by
  unfold z_fb
  repeat' split
  all_goals (unfold z_byC z_byM; rw [z_wb_and])
theorem z_ITape_feed {M : z_M} {a0 a1 a2 a3 a4 : Int} (h : z_ITape M) (hr : M 2 1 + 20 ≤ 260) : z_ITape (z_wr5 (z_wr5 M 2 2601014 z_byC a0 a1 a2 a3 a4) 13 2603064 z_byM a0 a1 a2 a3 a4) := by
  obtain ⟨h1, h2, h3, h4⟩ := h
  have e1 : z_wr5 (z_wr5 M 2 2601014 z_byC a0 a1 a2 a3 a4) 13 2603064 z_byM a0 a1 a2 a3 a4 13 1 = M 2 1 + 20 := by
    rw [z_wr5_n, z_wr5_off (by decide) (by decide), h1]
  have e2 : z_wr5 (z_wr5 M 2 2601014 z_byC a0 a1 a2 a3 a4) 13 2603064 z_byM a0 a1 a2 a3 a4 2 1 = M 2 1 + 20 := by
    rw [z_wr5_off (by decide) (by decide), z_wr5_n]
  refine ⟨e1.trans e2.symm, by omega, by omega, fun j j0 j1 => ?_⟩
  rw [e2] at j1
  rw [z_wr5_off (k := 2601014) (by decide) (by decide), z_wr5_A (by decide), z_wr5_A (by decide), z_wr5_off (k := 13) (by decide) (by decide), z_wr5_off (k := 2603064) (by decide) (by decide), h1]
  by_cases c : M 2 1 ≤ j
  · rw [if_pos ⟨c, j1⟩, if_pos ⟨c, j1⟩]
    exact z_fb_and _ _ _ _ _ _
  · rw [if_neg (fun z => c z.1), if_neg (fun z => c z.1)]
    exact h4 j j0 (by omega)
