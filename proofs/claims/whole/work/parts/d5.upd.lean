/-! THE TABLE: sun, choose, thing, carry, found -/
section ZTE
variable {S S' M N N2 : z_M} {a1 a2 a3 a4 a5 a6 : Int}
theorem zd_up_x {k : Nat} {j x : Int} : zc_x (fun a b => a == k && b == j) S (z_up S k j x) := by
  intro a b _ hx
  simp only [Bool.and_eq_false_iff, beq_eq_false_iff_ne] at hx
  rcases hx with c | c
  · rw [z_up_ne c]
  · by_cases c2 : a = k
    · rw [c2, z_up_nj c]
    · rw [z_up_ne c2]
theorem zd_ar_x {k : Nat} {f : Int → Int} : zc_x (fun a _ => a == k) S (zy_ar S k f) := by
  intro a b _ hx
  rw [zy_ar_n (beq_eq_false_iff_ne.mp hx)]
theorem zd_B (hI : zz_I S) : zy_B S := fun w w0 w1 => (hI.2.2.1.1.1 w w0 w1).imp (fun z => z.1) (fun z => z.1)
theorem zz_op8 (hS : z_sit S M) (hI : zz_I S) : z_case 60 zz_P M a1 a2 a3 a4 a5 a6 8 := by
  refine kc_sun 59 hS (fun c s1 => ⟨⟨_, rfl⟩, km_sun 59 s1 (fun _ s2 => ⟨rfl, _, s2, ?_⟩) (fun nc => absurd c nc)⟩) (fun nc => ⟨⟨_, rfl⟩, km_sun 59 hS (fun c => absurd c nc) (fun _ => ⟨rfl, S, hS, hI⟩)⟩)
  have hx := zd_x2 (zd_up_x (S := S) (k := 4) (j := 9) (x := a1)) (zd_up_x (S := z_up S 4 9 a1) (k := 13) (j := 48) (x := a1))
  obtain ⟨g0, g1, ⟨g2, g3⟩, g4, ⟨g5, g6⟩, g7, g8, g9, g10, g11, g12, g13⟩ := hI
  have e4 : (z_up (z_up S 4 9 a1) 13 48 a1) 4 9 = a1 := by rw [z_up_ne (by decide), z_up_eq]
  exact ⟨zd_z_ITape ⟨zc_x_n hx 2601014 rfl (fun _ => rfl), zc_x_n hx 2603064 rfl (fun _ => rfl), hx 13 1 rfl rfl, hx 2 1 rfl rfl⟩ g0, zd_z_IRaw ⟨zc_x_n hx 2603064 rfl (fun _ => rfl), hx 13 1 rfl rfl⟩ g1, ⟨zd_z_IPl ⟨zc_x_n hx 304067 rfl (fun _ => rfl), zc_x_n hx 301019 rfl (fun _ => rfl), zc_x_n hx 301069 rfl (fun _ => rfl), zc_x_n hx 28801071 rfl (fun _ => rfl), zc_x_n hx 28801021 rfl (fun _ => rfl)⟩ g2, ⟨g3.1, z_up_eq.trans e4.symm, by rw [e4]; omega⟩⟩, zd_z_ITown ⟨zc_x_n hx 1001015 rfl (fun _ => rfl), zc_x_n hx 1001065 rfl (fun _ => rfl), zc_x_n hx 100001017 rfl (fun _ => rfl)⟩ g4, ⟨zd_z_ILm ⟨zc_x_n hx 2401080 rfl (fun _ => rfl), zc_x_n hx 161077 rfl (fun _ => rfl), zc_x_n hx 161078 rfl (fun _ => rfl), zc_x_n hx 161079 rfl (fun _ => rfl), hx 13 29 rfl rfl⟩ g5, zd_z_ILc ⟨zc_x_n hx 641027 rfl (fun _ => rfl), zc_x_n hx 2401025 rfl (fun _ => rfl), zc_x_n hx 161076 rfl (fun _ => rfl), zc_x_n hx 161077 rfl (fun _ => rfl), zc_x_n hx 161078 rfl (fun _ => rfl), zc_x_n hx 161079 rfl (fun _ => rfl), zc_x_n hx 2401080 rfl (fun _ => rfl), zc_x_n hx 2401081 rfl (fun _ => rfl), hx 5 6 rfl rfl, hx 13 29 rfl rfl⟩ g6⟩, zd_z_IRep ⟨zc_x_n hx 2401035 rfl (fun _ => rfl), zc_x_n hx 401092 rfl (fun _ => rfl), zc_x_n hx 401093 rfl (fun _ => rfl), zc_x_n hx 401094 rfl (fun _ => rfl), zc_x_n hx 401095 rfl (fun _ => rfl), zc_x_n hx 401096 rfl (fun _ => rfl), zc_x_n hx 401097 rfl (fun _ => rfl), zc_x_n hx 304067 rfl (fun _ => rfl), hx 7 5 rfl rfl, hx 13 49 rfl rfl⟩ g7, zd_z_ITr ⟨zc_x_n hx 121050 rfl (fun _ => rfl), zc_x_n hx 121112 rfl (fun _ => rfl), zc_x_n hx 121051 rfl (fun _ => rfl), zc_x_n hx 121113 rfl (fun _ => rfl), hx 11 5 rfl rfl, hx 13 81 rfl rfl⟩ g8, zd_z_ITk ⟨zc_x_n hx 101056 rfl (fun _ => rfl), zc_x_n hx 101116 rfl (fun _ => rfl)⟩ g9, zd_z_ITh ⟨zc_x_n hx 241058 rfl (fun _ => rfl), zc_x_n hx 61120 rfl (fun _ => rfl), zc_x_n hx 64121 rfl (fun _ => rfl), zc_x_n hx 61122 rfl (fun _ => rfl), zc_x_n hx 61123 rfl (fun _ => rfl), zc_x_n hx 61124 rfl (fun _ => rfl), zc_x_n hx 304067 rfl (fun _ => rfl)⟩ g10, zd_zx_Q0 (zc_x_n hx 10241045 rfl (fun _ => rfl)) g11, zd_z_IW ⟨zc_x_n hx 304067 rfl (fun _ => rfl), zc_x_n hx 301068 rfl (fun _ => rfl), zc_x_n hx 301018 rfl (fun _ => rfl), zc_x_n hx 301069 rfl (fun _ => rfl), zc_x_n hx 28501020 rfl (fun _ => rfl), zc_x_n hx 28501070 rfl (fun _ => rfl), zc_x_n hx 28801021 rfl (fun _ => rfl), zc_x_n hx 1001065 rfl (fun _ => rfl)⟩ g12, zd_z_IKp ⟨zc_x_n hx 101129 rfl (fun _ => rfl), zc_x_n hx 101024 rfl (fun _ => rfl), zc_x_n hx 304067 rfl (fun _ => rfl), zc_x_n hx 2401037 rfl (fun _ => rfl), zc_x_n hx 2401131 rfl (fun _ => rfl), zc_x_n hx 101057 rfl (fun _ => rfl), zc_x_n hx 101130 rfl (fun _ => rfl), zc_x_n hx 241059 rfl (fun _ => rfl), zc_x_n hx 301132 rfl (fun _ => rfl), hx 1 11 rfl rfl, hx 13 100 rfl rfl, hx 13 105 rfl rfl, hx 4 10 rfl rfl, hx 7 7 rfl rfl, hx 13 106 rfl rfl⟩ g13⟩
theorem zz_op7 (hS : z_sit S M) (hI : zz_I S) : z_case 60 zz_P M a1 a2 a3 a4 a5 a6 7 := by
  have hB := zd_B hI
  refine kc_choose 58 hS (zz_IS hI).1 (fun c s1 => ⟨⟨_, rfl⟩, km_chooseB 58 s1 hB (fun _ s2 => ⟨rfl, _, s2, ?_⟩) (fun nc => absurd c nc)⟩) (fun nc => ⟨⟨_, rfl⟩, km_chooseB 58 hS hB (fun c => absurd c nc) (fun _ => ⟨rfl, S, hS, hI⟩)⟩)
  have hx := zd_x2 (zd_up_x (S := S) (k := 101023) (j := a1) (x := a2)) (zd_up_x (S := z_up S 101023 a1 a2) (k := 101091) (j := a1) (x := a2))
  obtain ⟨g0, g1, ⟨g2, g3⟩, g4, ⟨g5, g6⟩, g7, g8, g9, g10, g11, g12, g13⟩ := hI
  obtain ⟨_, c2, c3⟩ := c
  have v1 : ∀ y : Int, (z_up (z_up S 101023 a1 a2) 101091 a1 a2) 101091 y = if y = a1 then a2 else S 101091 y := fun y => by
    by_cases cy : y = a1
    · rw [if_pos cy, cy, z_up_eq]
    · rw [if_neg cy, z_up_nj cy, z_up_ne (by decide)]
  have v2 : ∀ y : Int, (z_up (z_up S 101023 a1 a2) 101091 a1 a2) 101023 y = if y = a1 then a2 else S 101023 y := fun y => by
    rw [z_up_ne (by decide)]
    by_cases cy : y = a1
    · rw [if_pos cy, cy, z_up_eq]
    · rw [if_neg cy, z_up_nj cy]
  have v3 : (z_up (z_up S 101023 a1 a2) 101091 a1 a2) 304067 = S 304067 := zc_x_n hx _ rfl (fun _ => rfl)
  have hV : z_IVer (z_up (z_up S 101023 a1 a2) 101091 a1 a2) := by
    refine ⟨fun y y0 y1 => ?_, g3.2⟩
    rw [v1, v2, v3]
    by_cases cy : y = a1
    · rw [if_pos cy, if_pos cy, cy]; exact ⟨rfl, c2.1, c2.2, Or.inr c3⟩
    · rw [if_neg cy, if_neg cy]; exact g3.1 y y0 y1
  exact ⟨zd_z_ITape ⟨zc_x_n hx 2601014 rfl (fun _ => rfl), zc_x_n hx 2603064 rfl (fun _ => rfl), hx 13 1 rfl rfl, hx 2 1 rfl rfl⟩ g0, zd_z_IRaw ⟨zc_x_n hx 2603064 rfl (fun _ => rfl), hx 13 1 rfl rfl⟩ g1, ⟨zd_z_IPl ⟨zc_x_n hx 304067 rfl (fun _ => rfl), zc_x_n hx 301019 rfl (fun _ => rfl), zc_x_n hx 301069 rfl (fun _ => rfl), zc_x_n hx 28801071 rfl (fun _ => rfl), zc_x_n hx 28801021 rfl (fun _ => rfl)⟩ g2, hV⟩, zd_z_ITown ⟨zc_x_n hx 1001015 rfl (fun _ => rfl), zc_x_n hx 1001065 rfl (fun _ => rfl), zc_x_n hx 100001017 rfl (fun _ => rfl)⟩ g4, ⟨zd_z_ILm ⟨zc_x_n hx 2401080 rfl (fun _ => rfl), zc_x_n hx 161077 rfl (fun _ => rfl), zc_x_n hx 161078 rfl (fun _ => rfl), zc_x_n hx 161079 rfl (fun _ => rfl), hx 13 29 rfl rfl⟩ g5, zd_z_ILc ⟨zc_x_n hx 641027 rfl (fun _ => rfl), zc_x_n hx 2401025 rfl (fun _ => rfl), zc_x_n hx 161076 rfl (fun _ => rfl), zc_x_n hx 161077 rfl (fun _ => rfl), zc_x_n hx 161078 rfl (fun _ => rfl), zc_x_n hx 161079 rfl (fun _ => rfl), zc_x_n hx 2401080 rfl (fun _ => rfl), zc_x_n hx 2401081 rfl (fun _ => rfl), hx 5 6 rfl rfl, hx 13 29 rfl rfl⟩ g6⟩, zd_z_IRep ⟨zc_x_n hx 2401035 rfl (fun _ => rfl), zc_x_n hx 401092 rfl (fun _ => rfl), zc_x_n hx 401093 rfl (fun _ => rfl), zc_x_n hx 401094 rfl (fun _ => rfl), zc_x_n hx 401095 rfl (fun _ => rfl), zc_x_n hx 401096 rfl (fun _ => rfl), zc_x_n hx 401097 rfl (fun _ => rfl), zc_x_n hx 304067 rfl (fun _ => rfl), hx 7 5 rfl rfl, hx 13 49 rfl rfl⟩ g7, zd_z_ITr ⟨zc_x_n hx 121050 rfl (fun _ => rfl), zc_x_n hx 121112 rfl (fun _ => rfl), zc_x_n hx 121051 rfl (fun _ => rfl), zc_x_n hx 121113 rfl (fun _ => rfl), hx 11 5 rfl rfl, hx 13 81 rfl rfl⟩ g8, zd_z_ITk ⟨zc_x_n hx 101056 rfl (fun _ => rfl), zc_x_n hx 101116 rfl (fun _ => rfl)⟩ g9, zd_z_ITh ⟨zc_x_n hx 241058 rfl (fun _ => rfl), zc_x_n hx 61120 rfl (fun _ => rfl), zc_x_n hx 64121 rfl (fun _ => rfl), zc_x_n hx 61122 rfl (fun _ => rfl), zc_x_n hx 61123 rfl (fun _ => rfl), zc_x_n hx 61124 rfl (fun _ => rfl), zc_x_n hx 304067 rfl (fun _ => rfl)⟩ g10, zd_zx_Q0 (zc_x_n hx 10241045 rfl (fun _ => rfl)) g11, zd_z_IW ⟨zc_x_n hx 304067 rfl (fun _ => rfl), zc_x_n hx 301068 rfl (fun _ => rfl), zc_x_n hx 301018 rfl (fun _ => rfl), zc_x_n hx 301069 rfl (fun _ => rfl), zc_x_n hx 28501020 rfl (fun _ => rfl), zc_x_n hx 28501070 rfl (fun _ => rfl), zc_x_n hx 28801021 rfl (fun _ => rfl), zc_x_n hx 1001065 rfl (fun _ => rfl)⟩ g12, zd_z_IKp ⟨zc_x_n hx 101129 rfl (fun _ => rfl), zc_x_n hx 101024 rfl (fun _ => rfl), zc_x_n hx 304067 rfl (fun _ => rfl), zc_x_n hx 2401037 rfl (fun _ => rfl), zc_x_n hx 2401131 rfl (fun _ => rfl), zc_x_n hx 101057 rfl (fun _ => rfl), zc_x_n hx 101130 rfl (fun _ => rfl), zc_x_n hx 241059 rfl (fun _ => rfl), zc_x_n hx 301132 rfl (fun _ => rfl), hx 1 11 rfl rfl, hx 13 100 rfl rfl, hx 13 105 rfl rfl, hx 4 10 rfl rfl, hx 7 7 rfl rfl, hx 13 106 rfl rfl⟩ g13⟩
theorem zz_op35 (hS : z_sit S M) (hI : zz_I S) : z_case 60 zz_P M a1 a2 a3 a4 a5 a6 35 := by
  refine kc_thing 59 hS (fun c s1 => ⟨⟨_, rfl⟩, km_thing 58 s1 (fun _ s2 => ⟨rfl, _, s2, ?_⟩) (fun nc => absurd c nc)⟩) (fun nc => ⟨⟨_, rfl⟩, km_thing 58 hS (fun c => absurd c nc) (fun _ => ⟨rfl, S, hS, hI⟩)⟩)
  have hx : zc_x (fun a _ => a == 241058 || a == 61120 || a == 64121) S (zy_tm (zy_tc S a1 a2) a1 a2) := fun k j _ h => by
    simp only [Bool.or_eq_false_iff, beq_eq_false_iff_ne] at h
    obtain ⟨⟨x1, x2⟩, x3⟩ := h
    unfold zy_tm zy_tc
    rw [z_up_ne x3, z_up_ne x2, z_up_ne x1, z_up_ne x1]
  obtain ⟨g0, g1, ⟨g2, g3⟩, g4, ⟨g5, g6⟩, g7, g8, g9, g10, g11, g12, g13⟩ := hI
  have eG : ∀ y : Int, (zy_tm (zy_tc S a1 a2) a1 a2) 241058 y = if y = 4 * a1 + 1 then -1 else if y = 4 * a1 then a2 else S 241058 y := fun y => by
    unfold zy_tm zy_tc
    rw [z_up_ne (by decide), z_up_ne (by decide)]
    by_cases c1 : y = 4 * a1 + 1
    · rw [if_pos c1, c1, z_up_eq]
    · rw [if_neg c1, z_up_nj c1]
      by_cases c2 : y = 4 * a1
      · rw [if_pos c2, c2, z_up_eq]
      · rw [if_neg c2, z_up_nj c2]
  have eT : ∀ y : Int, (zy_tm (zy_tc S a1 a2) a1 a2) 61120 y = if y = a1 then a2 else S 61120 y := fun y => by
    unfold zy_tm zy_tc
    rw [z_up_ne (by decide)]
    by_cases cy : y = a1
    · rw [if_pos cy, cy, z_up_eq]
    · rw [if_neg cy, z_up_nj cy, z_up_ne (by decide), z_up_ne (by decide)]
  have eC : ∀ y : Int, (zy_tm (zy_tc S a1 a2) a1 a2) 64121 y = if y = a1 then 0 else S 64121 y := fun y => by
    unfold zy_tm zy_tc
    by_cases cy : y = a1
    · rw [if_pos cy, cy, z_up_eq]
    · rw [if_neg cy, z_up_nj cy, z_up_ne (by decide), z_up_ne (by decide), z_up_ne (by decide)]
  have hH : z_ITh (zy_tm (zy_tc S a1 a2) a1 a2) := by
    intro y y0 y1
    rw [zc_x_n hx 61122 rfl (fun _ => rfl), zc_x_n hx 61123 rfl (fun _ => rfl), zc_x_n hx 61124 rfl (fun _ => rfl), zc_x_n hx 304067 rfl (fun _ => rfl), eG, eG, eG, eG, eT, eC]
    by_cases cy : y = a1
    · rw [if_pos cy, if_pos cy, if_neg (by omega), if_pos (by omega), if_pos (by omega)]
      exact ⟨rfl, Or.inr c.2, Or.inl ⟨rfl, rfl⟩⟩
    · rw [if_neg cy, if_neg cy, if_neg (by omega), if_neg (by omega), if_neg (by omega), if_neg (by omega), if_neg (by omega), if_neg (by omega), if_neg (by omega), if_neg (by omega)]
      exact g10 y y0 y1
  exact ⟨zd_z_ITape ⟨zc_x_n hx 2601014 rfl (fun _ => rfl), zc_x_n hx 2603064 rfl (fun _ => rfl), hx 13 1 rfl rfl, hx 2 1 rfl rfl⟩ g0, zd_z_IRaw ⟨zc_x_n hx 2603064 rfl (fun _ => rfl), hx 13 1 rfl rfl⟩ g1, ⟨zd_z_IPl ⟨zc_x_n hx 304067 rfl (fun _ => rfl), zc_x_n hx 301019 rfl (fun _ => rfl), zc_x_n hx 301069 rfl (fun _ => rfl), zc_x_n hx 28801071 rfl (fun _ => rfl), zc_x_n hx 28801021 rfl (fun _ => rfl)⟩ g2, zd_z_IVer ⟨zc_x_n hx 101091 rfl (fun _ => rfl), zc_x_n hx 101023 rfl (fun _ => rfl), zc_x_n hx 304067 rfl (fun _ => rfl), hx 13 48 rfl rfl, hx 4 9 rfl rfl⟩ g3⟩, zd_z_ITown ⟨zc_x_n hx 1001015 rfl (fun _ => rfl), zc_x_n hx 1001065 rfl (fun _ => rfl), zc_x_n hx 100001017 rfl (fun _ => rfl)⟩ g4, ⟨zd_z_ILm ⟨zc_x_n hx 2401080 rfl (fun _ => rfl), zc_x_n hx 161077 rfl (fun _ => rfl), zc_x_n hx 161078 rfl (fun _ => rfl), zc_x_n hx 161079 rfl (fun _ => rfl), hx 13 29 rfl rfl⟩ g5, zd_z_ILc ⟨zc_x_n hx 641027 rfl (fun _ => rfl), zc_x_n hx 2401025 rfl (fun _ => rfl), zc_x_n hx 161076 rfl (fun _ => rfl), zc_x_n hx 161077 rfl (fun _ => rfl), zc_x_n hx 161078 rfl (fun _ => rfl), zc_x_n hx 161079 rfl (fun _ => rfl), zc_x_n hx 2401080 rfl (fun _ => rfl), zc_x_n hx 2401081 rfl (fun _ => rfl), hx 5 6 rfl rfl, hx 13 29 rfl rfl⟩ g6⟩, zd_z_IRep ⟨zc_x_n hx 2401035 rfl (fun _ => rfl), zc_x_n hx 401092 rfl (fun _ => rfl), zc_x_n hx 401093 rfl (fun _ => rfl), zc_x_n hx 401094 rfl (fun _ => rfl), zc_x_n hx 401095 rfl (fun _ => rfl), zc_x_n hx 401096 rfl (fun _ => rfl), zc_x_n hx 401097 rfl (fun _ => rfl), zc_x_n hx 304067 rfl (fun _ => rfl), hx 7 5 rfl rfl, hx 13 49 rfl rfl⟩ g7, zd_z_ITr ⟨zc_x_n hx 121050 rfl (fun _ => rfl), zc_x_n hx 121112 rfl (fun _ => rfl), zc_x_n hx 121051 rfl (fun _ => rfl), zc_x_n hx 121113 rfl (fun _ => rfl), hx 11 5 rfl rfl, hx 13 81 rfl rfl⟩ g8, zd_z_ITk ⟨zc_x_n hx 101056 rfl (fun _ => rfl), zc_x_n hx 101116 rfl (fun _ => rfl)⟩ g9, hH, zd_zx_Q0 (zc_x_n hx 10241045 rfl (fun _ => rfl)) g11, zd_z_IW ⟨zc_x_n hx 304067 rfl (fun _ => rfl), zc_x_n hx 301068 rfl (fun _ => rfl), zc_x_n hx 301018 rfl (fun _ => rfl), zc_x_n hx 301069 rfl (fun _ => rfl), zc_x_n hx 28501020 rfl (fun _ => rfl), zc_x_n hx 28501070 rfl (fun _ => rfl), zc_x_n hx 28801021 rfl (fun _ => rfl), zc_x_n hx 1001065 rfl (fun _ => rfl)⟩ g12, zd_z_IKp ⟨zc_x_n hx 101129 rfl (fun _ => rfl), zc_x_n hx 101024 rfl (fun _ => rfl), zc_x_n hx 304067 rfl (fun _ => rfl), zc_x_n hx 2401037 rfl (fun _ => rfl), zc_x_n hx 2401131 rfl (fun _ => rfl), zc_x_n hx 101057 rfl (fun _ => rfl), zc_x_n hx 101130 rfl (fun _ => rfl), zc_x_n hx 241059 rfl (fun _ => rfl), zc_x_n hx 301132 rfl (fun _ => rfl), hx 1 11 rfl rfl, hx 13 100 rfl rfl, hx 13 105 rfl rfl, hx 4 10 rfl rfl, hx 7 7 rfl rfl, hx 13 106 rfl rfl⟩ g13⟩
theorem zz_op36 (hS : z_sit S M) (hI : zz_I S) : z_case 60 zz_P M a1 a2 a3 a4 a5 a6 36 := by
  have hB := zd_B hI
  refine kc_carry 58 hS (zz_IS hI).1 hI.2.2.2.2.2.2.2.2.1 (fun c s1 => ⟨⟨_, rfl⟩, km_carry 57 s1 hB (fun _ s2 => ⟨rfl, _, s2, ?_⟩) (fun nc => absurd c nc)⟩) (fun nc => ⟨⟨_, rfl⟩, km_carry 57 hS hB (fun c => absurd c nc) (fun _ => ⟨rfl, S, hS, hI⟩)⟩)
  have hx : zc_x (fun a _ => a == 241058 || a == 64121 || a == 61122 || a == 61123 || a == 61124) S (zy_cm (zy_cc S a1 a2 a3 a4) a1 a2 a3 a4) := fun k j _ h => by
    simp only [Bool.or_eq_false_iff, beq_eq_false_iff_ne] at h
    obtain ⟨⟨⟨⟨x1, x2⟩, x3⟩, x4⟩, x5⟩ := h
    unfold zy_cm zy_cc
    rw [z_up_ne x5, z_up_ne x4, z_up_ne x3, z_up_ne x2, z_up_ne x1, z_up_ne x1, z_up_ne x1]
  obtain ⟨g0, g1, ⟨g2, g3⟩, g4, ⟨g5, g6⟩, g7, g8, g9, g10, g11, g12, g13⟩ := hI
  have eG : ∀ y : Int, (zy_cm (zy_cc S a1 a2 a3 a4) a1 a2 a3 a4) 241058 y = if y = 4 * a1 + 3 then a4 else if y = 4 * a1 + 2 then a3 else if y = 4 * a1 + 1 then a2 else S 241058 y := fun y => by
    unfold zy_cm zy_cc
    rw [z_up_ne (by decide), z_up_ne (by decide), z_up_ne (by decide), z_up_ne (by decide)]
    by_cases c1 : y = 4 * a1 + 3
    · rw [if_pos c1, c1, z_up_eq]
    · rw [if_neg c1, z_up_nj c1]
      by_cases c2 : y = 4 * a1 + 2
      · rw [if_pos c2, c2, z_up_eq]
      · rw [if_neg c2, z_up_nj c2]
        by_cases c3 : y = 4 * a1 + 1
        · rw [if_pos c3, c3, z_up_eq]
        · rw [if_neg c3, z_up_nj c3]
  have e4 : ∀ y : Int, (zy_cm (zy_cc S a1 a2 a3 a4) a1 a2 a3 a4) 64121 y = (if y = a1 then 1 else S 64121 y) ∧ (zy_cm (zy_cc S a1 a2 a3 a4) a1 a2 a3 a4) 61122 y = (if y = a1 then a2 else S 61122 y) ∧ (zy_cm (zy_cc S a1 a2 a3 a4) a1 a2 a3 a4) 61123 y = (if y = a1 then a3 else S 61123 y) ∧ (zy_cm (zy_cc S a1 a2 a3 a4) a1 a2 a3 a4) 61124 y = (if y = a1 then a4 else S 61124 y) := fun y => by
    unfold zy_cm zy_cc
    by_cases cy : y = a1
    · rw [if_pos cy, if_pos cy, if_pos cy, if_pos cy, cy]
      exact ⟨by rw [z_up_ne (by decide), z_up_ne (by decide), z_up_ne (by decide), z_up_eq], by rw [z_up_ne (by decide), z_up_ne (by decide), z_up_eq], by rw [z_up_ne (by decide), z_up_eq], z_up_eq⟩
    · rw [if_neg cy, if_neg cy, if_neg cy, if_neg cy]
      exact ⟨by rw [z_up_ne (by decide), z_up_ne (by decide), z_up_ne (by decide), z_up_nj cy, z_up_ne (by decide), z_up_ne (by decide), z_up_ne (by decide)], by rw [z_up_ne (by decide), z_up_ne (by decide), z_up_nj cy, z_up_ne (by decide), z_up_ne (by decide), z_up_ne (by decide), z_up_ne (by decide)], by rw [z_up_ne (by decide), z_up_nj cy, z_up_ne (by decide), z_up_ne (by decide), z_up_ne (by decide), z_up_ne (by decide), z_up_ne (by decide)], by rw [z_up_nj cy, z_up_ne (by decide), z_up_ne (by decide), z_up_ne (by decide), z_up_ne (by decide), z_up_ne (by decide), z_up_ne (by decide)]⟩
  obtain ⟨⟨c0, c1, c2⟩, c3, c4, c5, c6⟩ := c
  have hH : z_ITh (zy_cm (zy_cc S a1 a2 a3 a4) a1 a2 a3 a4) := by
    intro y y0 y1
    obtain ⟨q1, q2, q3, q4⟩ := e4 y
    rw [zc_x_n hx 61120 rfl (fun _ => rfl), zc_x_n hx 304067 rfl (fun _ => rfl), eG, eG, eG, eG, q1, q2, q3, q4]
    by_cases cy : y = a1
    · rw [if_pos cy, if_pos cy, if_pos cy, if_pos cy, if_neg (by omega), if_neg (by omega), if_neg (by omega), if_neg (by omega), if_neg (by omega), if_pos (by omega), if_neg (by omega), if_pos (by omega), if_pos (by omega)]
      obtain ⟨r1, r2, _⟩ := g10 y y0 y1
      exact ⟨r1, r2, Or.inr ⟨rfl, rfl, c3, rfl, rfl, c4, c5, c6⟩⟩
    · rw [if_neg cy, if_neg cy, if_neg cy, if_neg cy, if_neg (by omega), if_neg (by omega), if_neg (by omega), if_neg (by omega), if_neg (by omega), if_neg (by omega), if_neg (by omega), if_neg (by omega), if_neg (by omega), if_neg (by omega), if_neg (by omega), if_neg (by omega)]
      exact g10 y y0 y1
  exact ⟨zd_z_ITape ⟨zc_x_n hx 2601014 rfl (fun _ => rfl), zc_x_n hx 2603064 rfl (fun _ => rfl), hx 13 1 rfl rfl, hx 2 1 rfl rfl⟩ g0, zd_z_IRaw ⟨zc_x_n hx 2603064 rfl (fun _ => rfl), hx 13 1 rfl rfl⟩ g1, ⟨zd_z_IPl ⟨zc_x_n hx 304067 rfl (fun _ => rfl), zc_x_n hx 301019 rfl (fun _ => rfl), zc_x_n hx 301069 rfl (fun _ => rfl), zc_x_n hx 28801071 rfl (fun _ => rfl), zc_x_n hx 28801021 rfl (fun _ => rfl)⟩ g2, zd_z_IVer ⟨zc_x_n hx 101091 rfl (fun _ => rfl), zc_x_n hx 101023 rfl (fun _ => rfl), zc_x_n hx 304067 rfl (fun _ => rfl), hx 13 48 rfl rfl, hx 4 9 rfl rfl⟩ g3⟩, zd_z_ITown ⟨zc_x_n hx 1001015 rfl (fun _ => rfl), zc_x_n hx 1001065 rfl (fun _ => rfl), zc_x_n hx 100001017 rfl (fun _ => rfl)⟩ g4, ⟨zd_z_ILm ⟨zc_x_n hx 2401080 rfl (fun _ => rfl), zc_x_n hx 161077 rfl (fun _ => rfl), zc_x_n hx 161078 rfl (fun _ => rfl), zc_x_n hx 161079 rfl (fun _ => rfl), hx 13 29 rfl rfl⟩ g5, zd_z_ILc ⟨zc_x_n hx 641027 rfl (fun _ => rfl), zc_x_n hx 2401025 rfl (fun _ => rfl), zc_x_n hx 161076 rfl (fun _ => rfl), zc_x_n hx 161077 rfl (fun _ => rfl), zc_x_n hx 161078 rfl (fun _ => rfl), zc_x_n hx 161079 rfl (fun _ => rfl), zc_x_n hx 2401080 rfl (fun _ => rfl), zc_x_n hx 2401081 rfl (fun _ => rfl), hx 5 6 rfl rfl, hx 13 29 rfl rfl⟩ g6⟩, zd_z_IRep ⟨zc_x_n hx 2401035 rfl (fun _ => rfl), zc_x_n hx 401092 rfl (fun _ => rfl), zc_x_n hx 401093 rfl (fun _ => rfl), zc_x_n hx 401094 rfl (fun _ => rfl), zc_x_n hx 401095 rfl (fun _ => rfl), zc_x_n hx 401096 rfl (fun _ => rfl), zc_x_n hx 401097 rfl (fun _ => rfl), zc_x_n hx 304067 rfl (fun _ => rfl), hx 7 5 rfl rfl, hx 13 49 rfl rfl⟩ g7, zd_z_ITr ⟨zc_x_n hx 121050 rfl (fun _ => rfl), zc_x_n hx 121112 rfl (fun _ => rfl), zc_x_n hx 121051 rfl (fun _ => rfl), zc_x_n hx 121113 rfl (fun _ => rfl), hx 11 5 rfl rfl, hx 13 81 rfl rfl⟩ g8, zd_z_ITk ⟨zc_x_n hx 101056 rfl (fun _ => rfl), zc_x_n hx 101116 rfl (fun _ => rfl)⟩ g9, hH, zd_zx_Q0 (zc_x_n hx 10241045 rfl (fun _ => rfl)) g11, zd_z_IW ⟨zc_x_n hx 304067 rfl (fun _ => rfl), zc_x_n hx 301068 rfl (fun _ => rfl), zc_x_n hx 301018 rfl (fun _ => rfl), zc_x_n hx 301069 rfl (fun _ => rfl), zc_x_n hx 28501020 rfl (fun _ => rfl), zc_x_n hx 28501070 rfl (fun _ => rfl), zc_x_n hx 28801021 rfl (fun _ => rfl), zc_x_n hx 1001065 rfl (fun _ => rfl)⟩ g12, zd_z_IKp ⟨zc_x_n hx 101129 rfl (fun _ => rfl), zc_x_n hx 101024 rfl (fun _ => rfl), zc_x_n hx 304067 rfl (fun _ => rfl), zc_x_n hx 2401037 rfl (fun _ => rfl), zc_x_n hx 2401131 rfl (fun _ => rfl), zc_x_n hx 101057 rfl (fun _ => rfl), zc_x_n hx 101130 rfl (fun _ => rfl), zc_x_n hx 241059 rfl (fun _ => rfl), zc_x_n hx 301132 rfl (fun _ => rfl), hx 1 11 rfl rfl, hx 13 100 rfl rfl, hx 13 105 rfl rfl, hx 4 10 rfl rfl, hx 7 7 rfl rfl, hx 13 106 rfl rfl⟩ g13⟩
theorem zz_op29 (hS : z_sit S M) (hI : zz_I S) : z_case 60 zz_P M a1 a2 a3 a4 a5 a6 29 := by
  refine kc_found 58 hS (zz_IS hI).1 (fun c N s1 => ⟨⟨_, rfl⟩, km_found 58 s1 (zz_IS hI).1 (fun _ N2 s2 => ⟨rfl, _, s2, ?_⟩) (fun nc => absurd c nc)⟩) (fun nc => ⟨⟨_, rfl⟩, km_found 58 hS (zz_IS hI).1 (fun c => absurd c nc) (fun _ => ⟨rfl, S, hS, hI⟩)⟩)
  have hx := zd_x2 (zd_ar_x (S := S) (k := 101056) (f := zy_fc S a1 a2)) (zd_ar_x (S := zy_ar S 101056 (zy_fc S a1 a2)) (k := 101116) (f := zy_fm (zy_ar S 101056 (zy_fc S a1 a2)) a1 a2))
  obtain ⟨g0, g1, ⟨g2, g3⟩, g4, ⟨g5, g6⟩, g7, g8, g9, g10, g11, g12, g13⟩ := hI
  obtain ⟨_, w0, w1⟩ := c
  have hK : z_ITk (zy_ar (zy_ar S 101056 (zy_fc S a1 a2)) 101116 (zy_fm (zy_ar S 101056 (zy_fc S a1 a2)) a1 a2)) := by
    intro y y0 y1
    rw [zy_ar_e, zy_ar_n (by decide), zy_ar_e]
    unfold zy_fc zy_fm
    rw [zy_ar_n (show (101116 : Nat) ≠ 101056 by decide)]
    obtain ⟨r1, r2, r3⟩ := g9 y y0 y1
    by_cases cy : y = a1
    · rw [if_pos cy, if_pos cy]
      exact ⟨rfl, w0, by omega⟩
    · rw [if_neg cy, if_neg cy, r1]
      by_cases m1 : S 101116 y = -1
      · rw [m1, if_pos rfl]
        rw [if_neg (by omega)]
        by_cases cw : 0 ≤ y ∧ y < 10 ∧ (-1 : Int) = a2
        · rw [if_pos cw]; decide
        · rw [if_neg cw]; decide
      · rw [if_neg m1]
        by_cases cw : 0 ≤ y ∧ y < 10 ∧ S 101116 y = a2
        · rw [if_pos cw, if_pos cw]; decide
        · rw [if_neg cw, if_neg cw, if_neg m1]; exact ⟨rfl, r2, r3⟩
  exact ⟨zd_z_ITape ⟨zc_x_n hx 2601014 rfl (fun _ => rfl), zc_x_n hx 2603064 rfl (fun _ => rfl), hx 13 1 rfl rfl, hx 2 1 rfl rfl⟩ g0, zd_z_IRaw ⟨zc_x_n hx 2603064 rfl (fun _ => rfl), hx 13 1 rfl rfl⟩ g1, ⟨zd_z_IPl ⟨zc_x_n hx 304067 rfl (fun _ => rfl), zc_x_n hx 301019 rfl (fun _ => rfl), zc_x_n hx 301069 rfl (fun _ => rfl), zc_x_n hx 28801071 rfl (fun _ => rfl), zc_x_n hx 28801021 rfl (fun _ => rfl)⟩ g2, zd_z_IVer ⟨zc_x_n hx 101091 rfl (fun _ => rfl), zc_x_n hx 101023 rfl (fun _ => rfl), zc_x_n hx 304067 rfl (fun _ => rfl), hx 13 48 rfl rfl, hx 4 9 rfl rfl⟩ g3⟩, zd_z_ITown ⟨zc_x_n hx 1001015 rfl (fun _ => rfl), zc_x_n hx 1001065 rfl (fun _ => rfl), zc_x_n hx 100001017 rfl (fun _ => rfl)⟩ g4, ⟨zd_z_ILm ⟨zc_x_n hx 2401080 rfl (fun _ => rfl), zc_x_n hx 161077 rfl (fun _ => rfl), zc_x_n hx 161078 rfl (fun _ => rfl), zc_x_n hx 161079 rfl (fun _ => rfl), hx 13 29 rfl rfl⟩ g5, zd_z_ILc ⟨zc_x_n hx 641027 rfl (fun _ => rfl), zc_x_n hx 2401025 rfl (fun _ => rfl), zc_x_n hx 161076 rfl (fun _ => rfl), zc_x_n hx 161077 rfl (fun _ => rfl), zc_x_n hx 161078 rfl (fun _ => rfl), zc_x_n hx 161079 rfl (fun _ => rfl), zc_x_n hx 2401080 rfl (fun _ => rfl), zc_x_n hx 2401081 rfl (fun _ => rfl), hx 5 6 rfl rfl, hx 13 29 rfl rfl⟩ g6⟩, zd_z_IRep ⟨zc_x_n hx 2401035 rfl (fun _ => rfl), zc_x_n hx 401092 rfl (fun _ => rfl), zc_x_n hx 401093 rfl (fun _ => rfl), zc_x_n hx 401094 rfl (fun _ => rfl), zc_x_n hx 401095 rfl (fun _ => rfl), zc_x_n hx 401096 rfl (fun _ => rfl), zc_x_n hx 401097 rfl (fun _ => rfl), zc_x_n hx 304067 rfl (fun _ => rfl), hx 7 5 rfl rfl, hx 13 49 rfl rfl⟩ g7, zd_z_ITr ⟨zc_x_n hx 121050 rfl (fun _ => rfl), zc_x_n hx 121112 rfl (fun _ => rfl), zc_x_n hx 121051 rfl (fun _ => rfl), zc_x_n hx 121113 rfl (fun _ => rfl), hx 11 5 rfl rfl, hx 13 81 rfl rfl⟩ g8, hK, zd_z_ITh ⟨zc_x_n hx 241058 rfl (fun _ => rfl), zc_x_n hx 61120 rfl (fun _ => rfl), zc_x_n hx 64121 rfl (fun _ => rfl), zc_x_n hx 61122 rfl (fun _ => rfl), zc_x_n hx 61123 rfl (fun _ => rfl), zc_x_n hx 61124 rfl (fun _ => rfl), zc_x_n hx 304067 rfl (fun _ => rfl)⟩ g10, zd_zx_Q0 (zc_x_n hx 10241045 rfl (fun _ => rfl)) g11, zd_z_IW ⟨zc_x_n hx 304067 rfl (fun _ => rfl), zc_x_n hx 301068 rfl (fun _ => rfl), zc_x_n hx 301018 rfl (fun _ => rfl), zc_x_n hx 301069 rfl (fun _ => rfl), zc_x_n hx 28501020 rfl (fun _ => rfl), zc_x_n hx 28501070 rfl (fun _ => rfl), zc_x_n hx 28801021 rfl (fun _ => rfl), zc_x_n hx 1001065 rfl (fun _ => rfl)⟩ g12, zd_z_IKp ⟨zc_x_n hx 101129 rfl (fun _ => rfl), zc_x_n hx 101024 rfl (fun _ => rfl), zc_x_n hx 304067 rfl (fun _ => rfl), zc_x_n hx 2401037 rfl (fun _ => rfl), zc_x_n hx 2401131 rfl (fun _ => rfl), zc_x_n hx 101057 rfl (fun _ => rfl), zc_x_n hx 101130 rfl (fun _ => rfl), zc_x_n hx 241059 rfl (fun _ => rfl), zc_x_n hx 301132 rfl (fun _ => rfl), hx 1 11 rfl rfl, hx 13 100 rfl rfl, hx 13 105 rfl rfl, hx 4 10 rfl rfl, hx 7 7 rfl rfl, hx 13 106 rfl rfl⟩ g13⟩
end ZTE
