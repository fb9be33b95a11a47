/-! THE TABLE: feed -/
section ZTJ
variable {S S' M N N2 : z_M} {a1 a2 a3 a4 a5 a6 : Int}
theorem zd_wb (x : Int) : -128 ≤ z_wb x ∧ z_wb x ≤ 127 := by
  unfold z_wb
  have h1 := @Int.le_bmod x 256 (by decide)
  have h2 := @Int.bmod_lt x 256 (by decide)
  constructor <;> omega
theorem zd_fb (b1 b2 b3 b4 b5 i : Int) : -128 ≤ z_fb z_byM b1 b2 b3 b4 b5 i ∧ z_fb z_byM b1 b2 b3 b4 b5 i ≤ 127 := by
  unfold z_fb z_byM
  repeat' split
  all_goals exact zd_wb _
def zd_f (a : Nat) (j : Int) : Bool := (a == 2 && j == 1) || a == 2601014 || (a == 13 && j == 1) || a == 2603064
theorem zz_op0 (hS : z_sit S M) (hI : zz_I S) : z_case 60 zz_P M a1 a2 a3 a4 a5 a6 0 := by
  have hT := hI.1
  have et : S 13 1 = S 2 1 := hT.1
  have t0 : 0 ≤ S 2 1 := hT.2.1
  have t1 : S 2 1 ≤ 260 := hT.2.2.1
  have m2 : M 2 1 = S 2 1 := z_ff hS 2 1 rfl
  have m13 : M 13 1 = S 13 1 := z_ff hS 13 1 rfl
  have eT : z_ITape M := zd_z_ITape ⟨z_fn hS _ rfl, z_fn hS _ rfl, z_ff hS _ _ rfl, z_ff hS _ _ rfl⟩ hT
  refine c_feed 59 (by omega) (by omega) ?_
  by_cases c : M 2 1 + 20 ≤ 260
  · rw [if_pos c]
    refine ⟨⟨_, rfl⟩, ?_⟩
    have f13 : (z_wr5 M 2 2601014 z_byC a1 a2 a3 a4 a5) 13 1 = M 13 1 := congrFun (z_wr5_off (by decide) (by decide)) 1
    refine c_feedM 59 (by rw [f13]; omega) (by rw [f13]; omega) ?_
    rw [f13, if_pos (by omega)]
    have hf := z_ITape_feed (a0 := a1) (a1 := a2) (a2 := a3) (a3 := a4) (a4 := a5) eT c
    have off : ∀ k, k ≠ 2 → k ≠ 2601014 → k ≠ 13 → k ≠ 2603064 → (z_wr5 (z_wr5 M 2 2601014 z_byC a1 a2 a3 a4 a5) 13 2603064 z_byM a1 a2 a3 a4 a5) k = M k := fun k x1 x2 x3 x4 => by rw [z_wr5_off x3 x4, z_wr5_off x1 x2]
    have o2 : ∀ j, j ≠ 1 → (z_wr5 (z_wr5 M 2 2601014 z_byC a1 a2 a3 a4 a5) 13 2603064 z_byM a1 a2 a3 a4 a5) 2 j = M 2 j := fun j hj => by rw [z_wr5_off (by decide) (by decide), z_wr5_O hj]
    have o13 : ∀ j, j ≠ 1 → (z_wr5 (z_wr5 M 2 2601014 z_byC a1 a2 a3 a4 a5) 13 2603064 z_byM a1 a2 a3 a4 a5) 13 j = M 13 j := fun j hj => by rw [z_wr5_O hj, z_wr5_off (by decide) (by decide)]
    have n13 : (z_wr5 (z_wr5 M 2 2601014 z_byC a1 a2 a3 a4 a5) 13 2603064 z_byM a1 a2 a3 a4 a5) 13 1 = M 13 1 + 20 := by rw [z_wr5_n, f13]
    have aT : ∀ j : Int, (z_wr5 (z_wr5 M 2 2601014 z_byC a1 a2 a3 a4 a5) 13 2603064 z_byM a1 a2 a3 a4 a5) 2603064 j = if M 13 1 ≤ j ∧ j < M 13 1 + 20 then z_fb z_byM a1 a2 a3 a4 a5 (j - M 13 1) else M 2603064 j := fun j => by
      rw [z_wr5_A (by decide), f13, z_wr5_off (by decide) (by decide)]
    generalize z_wr5 (z_wr5 M 2 2601014 z_byC a1 a2 a3 a4 a5) 13 2603064 z_byM a1 a2 a3 a4 a5 = N at hf off o2 o13 n13 aT
    have sN : z_sit N N := zz_self hS (fun k hk => by
      have ne : ∀ c : Nat, z_cch c = false → k ≠ c := fun c hc2 e => by rw [e, hc2] at hk; cases hk
      exact off k (ne _ rfl) (ne _ rfl) (ne _ rfl) (ne _ rfl)) ⟨o13 _ (by decide), off _ (by decide) (by decide) (by decide) (by decide), off _ (by decide) (by decide) (by decide) (by decide), off _ (by decide) (by decide) (by decide) (by decide), off _ (by decide) (by decide) (by decide) (by decide), off _ (by decide) (by decide) (by decide) (by decide), off _ (by decide) (by decide) (by decide) (by decide), off _ (by decide) (by decide) (by decide) (by decide), off _ (by decide) (by decide) (by decide) (by decide), off _ (by decide) (by decide) (by decide) (by decide)⟩
    have hx : zc_x zd_f S N := fun k j hk h => by
      rw [← hS.1 k j hk]
      unfold zd_f at h
      simp only [Bool.or_eq_false_iff, Bool.and_eq_false_iff, beq_eq_false_iff_ne] at h
      obtain ⟨⟨⟨x1, x2⟩, x3⟩, x4⟩ := h
      by_cases c2 : k = 2
      · rw [c2]; exact o2 j (x1.resolve_left (fun z => z c2))
      · by_cases c13 : k = 13
        · rw [c13]; exact o13 j (x3.resolve_left (fun z => z c13))
        · rw [off k c2 x2 c13 x4]
    obtain ⟨g0, g1, ⟨g2, g3⟩, g4, ⟨g5, g6⟩, g7, g8, g9, g10, g11, g12, g13⟩ := hI
    have hR : z_IRaw N := fun j j0 j1 => by
      have e : N 2603064 j = _ := aT j
      rw [e]
      by_cases cj : M 13 1 ≤ j ∧ j < M 13 1 + 20
      · rw [if_pos cj]; exact zd_fb _ _ _ _ _ _
      · rw [if_neg cj, show M 2603064 j = S 2603064 j from congrFun (z_fn hS 2603064 rfl) j]
        have n13' : N 13 1 = M 13 1 + 20 := n13
        exact g1 j j0 (by omega)
    refine ⟨by rw [show M 13 1 = M 2 1 from by omega], N, sN, ?_⟩
    exact ⟨hf, hR, ⟨zd_z_IPl ⟨zc_x_n hx 304067 rfl (fun _ => rfl), zc_x_n hx 301019 rfl (fun _ => rfl), zc_x_n hx 301069 rfl (fun _ => rfl), zc_x_n hx 28801071 rfl (fun _ => rfl), zc_x_n hx 28801021 rfl (fun _ => rfl)⟩ g2, zd_z_IVer ⟨zc_x_n hx 101091 rfl (fun _ => rfl), zc_x_n hx 101023 rfl (fun _ => rfl), zc_x_n hx 304067 rfl (fun _ => rfl), hx 13 48 rfl rfl, hx 4 9 rfl rfl⟩ g3⟩, zd_z_ITown ⟨zc_x_n hx 1001015 rfl (fun _ => rfl), zc_x_n hx 1001065 rfl (fun _ => rfl), zc_x_n hx 100001017 rfl (fun _ => rfl)⟩ g4, ⟨zd_z_ILm ⟨zc_x_n hx 2401080 rfl (fun _ => rfl), zc_x_n hx 161077 rfl (fun _ => rfl), zc_x_n hx 161078 rfl (fun _ => rfl), zc_x_n hx 161079 rfl (fun _ => rfl), hx 13 29 rfl rfl⟩ g5, zd_z_ILc ⟨zc_x_n hx 641027 rfl (fun _ => rfl), zc_x_n hx 2401025 rfl (fun _ => rfl), zc_x_n hx 161076 rfl (fun _ => rfl), zc_x_n hx 161077 rfl (fun _ => rfl), zc_x_n hx 161078 rfl (fun _ => rfl), zc_x_n hx 161079 rfl (fun _ => rfl), zc_x_n hx 2401080 rfl (fun _ => rfl), zc_x_n hx 2401081 rfl (fun _ => rfl), hx 5 6 rfl rfl, hx 13 29 rfl rfl⟩ g6⟩, zd_z_IRep ⟨zc_x_n hx 2401035 rfl (fun _ => rfl), zc_x_n hx 401092 rfl (fun _ => rfl), zc_x_n hx 401093 rfl (fun _ => rfl), zc_x_n hx 401094 rfl (fun _ => rfl), zc_x_n hx 401095 rfl (fun _ => rfl), zc_x_n hx 401096 rfl (fun _ => rfl), zc_x_n hx 401097 rfl (fun _ => rfl), zc_x_n hx 304067 rfl (fun _ => rfl), hx 7 5 rfl rfl, hx 13 49 rfl rfl⟩ g7, zd_z_ITr ⟨zc_x_n hx 121050 rfl (fun _ => rfl), zc_x_n hx 121112 rfl (fun _ => rfl), zc_x_n hx 121051 rfl (fun _ => rfl), zc_x_n hx 121113 rfl (fun _ => rfl), hx 11 5 rfl rfl, hx 13 81 rfl rfl⟩ g8, zd_z_ITk ⟨zc_x_n hx 101056 rfl (fun _ => rfl), zc_x_n hx 101116 rfl (fun _ => rfl)⟩ g9, zd_z_ITh ⟨zc_x_n hx 241058 rfl (fun _ => rfl), zc_x_n hx 61120 rfl (fun _ => rfl), zc_x_n hx 64121 rfl (fun _ => rfl), zc_x_n hx 61122 rfl (fun _ => rfl), zc_x_n hx 61123 rfl (fun _ => rfl), zc_x_n hx 61124 rfl (fun _ => rfl), zc_x_n hx 304067 rfl (fun _ => rfl)⟩ g10, zd_zx_Q0 (zc_x_n hx 10241045 rfl (fun _ => rfl)) g11, zd_z_IW ⟨zc_x_n hx 304067 rfl (fun _ => rfl), zc_x_n hx 301068 rfl (fun _ => rfl), zc_x_n hx 301018 rfl (fun _ => rfl), zc_x_n hx 301069 rfl (fun _ => rfl), zc_x_n hx 28501020 rfl (fun _ => rfl), zc_x_n hx 28501070 rfl (fun _ => rfl), zc_x_n hx 28801021 rfl (fun _ => rfl), zc_x_n hx 1001065 rfl (fun _ => rfl)⟩ g12, zd_z_IKp ⟨zc_x_n hx 101129 rfl (fun _ => rfl), zc_x_n hx 101024 rfl (fun _ => rfl), zc_x_n hx 304067 rfl (fun _ => rfl), zc_x_n hx 2401037 rfl (fun _ => rfl), zc_x_n hx 2401131 rfl (fun _ => rfl), zc_x_n hx 101057 rfl (fun _ => rfl), zc_x_n hx 101130 rfl (fun _ => rfl), zc_x_n hx 241059 rfl (fun _ => rfl), zc_x_n hx 301132 rfl (fun _ => rfl), hx 1 11 rfl rfl, hx 13 100 rfl rfl, hx 13 105 rfl rfl, hx 4 10 rfl rfl, hx 7 7 rfl rfl, hx 13 106 rfl rfl⟩ g13⟩
  · rw [if_neg c]
    refine ⟨⟨_, rfl⟩, c_feedM 59 (by omega) (by omega) ?_⟩
    rw [if_neg (by omega)]
    exact ⟨rfl, S, hS, hI⟩
theorem zz_opX (hS : z_sit S M) (hI : zz_I S) {op : Nat} (h : 47 ≤ op) : z_case 60 zz_P M a1 a2 a3 a4 a5 a6 op := by
  obtain ⟨y, rfl⟩ : ∃ y, op = y + 47 := ⟨op - 47, by omega⟩
  exact (⟨S, hS, hI⟩ : zz_P M)
end ZTJ
