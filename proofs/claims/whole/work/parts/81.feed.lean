theorem z_viI {x : Int} {K : Int → Prop} (h : K x) : z_vi (z_I x) K := h
def z_wr5 (M : z_M) (O A : Nat) (B : Int → Int → Int) (a0 a1 a2 a3 a4 : Int) : z_M := z_wr (z_wr (z_wr (z_wr (z_wr M O A (B a0) 4) O A (B a1) 4) O A (B a2) 4) O A (B a3) 4) O A (B a4) 4
theorem z_wr5_n (M : z_M) (O A : Nat) (B : Int → Int → Int) (a0 a1 a2 a3 a4 : Int) : z_wr5 M O A B a0 a1 a2 a3 a4 O 1 = M O 1 + 20 := by
  unfold z_wr5
  simp only [z_wr_n]
  omega
theorem c_feed (d : Nat) {M : z_M} {Q : z_V → z_M → Prop} {a0 a1 a2 a3 a4 : Int} (h0 : 0 ≤ M 2 1) (h1 : M 2 1 ≤ 260) (h : if M 2 1 + 20 ≤ 260 then Q (z_I (M 2 1 + 20)) (z_wr5 M 2 2601014 z_byC a0 a1 a2 a3 a4) else Q (z_I (-1)) M) : z_Cl 0 (d + 1) 167 [z_R 1, z_I a0, z_I a1, z_I a2, z_I a3, z_I a4] M Q := by
  refine re_167 d (re_126 d ⟨fun c => ?_, fun c => ?_⟩)
  · rw [z_w_id (by omega) (by omega)] at c
    rw [if_neg (by omega)] at h
    exact z_viI ⟨fun z => absurd rfl z, fun _ => h⟩
  · rw [z_w_id (by omega) (by omega)] at c
    rw [if_pos c] at h
    refine z_viI ⟨fun _ => ?_, fun z => absurd z (by decide)⟩
    refine c_add d h0 (by omega) (c_add d (by simp only [z_wr_n]; omega) (by simp only [z_wr_n]; omega) (c_add d (by simp only [z_wr_n]; omega) (by simp only [z_wr_n]; omega) (c_add d (by simp only [z_wr_n]; omega) (by simp only [z_wr_n]; omega) (c_add d (by simp only [z_wr_n]; omega) (by simp only [z_wr_n]; omega) ?_))))
    refine re_125 d (z_viI ?_)
    have e := z_wr5_n M 2 2601014 z_byC a0 a1 a2 a3 a4
    unfold z_wr5 at e h
    rw [e]
    exact h
theorem c_feedM (d : Nat) {M : z_M} {Q : z_V → z_M → Prop} {a0 a1 a2 a3 a4 : Int} (h0 : 0 ≤ M 13 1) (h1 : M 13 1 ≤ 260) (h : if M 13 1 + 20 ≤ 260 then Q (z_I (M 13 1 + 20)) (z_wr5 M 13 2603064 z_byM a0 a1 a2 a3 a4) else Q (z_I (-1)) M) : z_Cl 0 (d + 1) 227 [z_R 13, z_I a0, z_I a1, z_I a2, z_I a3, z_I a4] M Q := by
  refine re_227 d ⟨fun c => ?_, fun c => ?_⟩
  · rw [z_w_id (by omega) (by omega)] at c
    rw [if_pos c] at h
    refine c_push d h0 (by omega) (c_push d (by simp only [z_wr_n]; omega) (by simp only [z_wr_n]; omega) (c_push d (by simp only [z_wr_n]; omega) (by simp only [z_wr_n]; omega) (c_push d (by simp only [z_wr_n]; omega) (by simp only [z_wr_n]; omega) (c_push d (by simp only [z_wr_n]; omega) (by simp only [z_wr_n]; omega) ?_))))
    have e := z_wr5_n M 13 2603064 z_byM a0 a1 a2 a3 a4
    unfold z_wr5 at e h
    rw [e]
    exact h
  · rw [z_w_id (by omega) (by omega)] at c
    rw [if_neg (by omega)] at h
    exact h
