/-! THE TABLE: strike -/
theorem zd_del {cs ms i : Int} {rows wi mi sl ki ot te pl : Int → Int} (h : z_pRep cs ms rows wi mi sl ki ot te pl) (i0 : 0 ≤ i) (i1 : i < ms) : z_pRep (cs - 1) (ms - 1) (zy_del rows i 6 cs) (zy_dl wi i (ms - 1)) (zy_dl mi i (ms - 1)) (zy_dl sl i (ms - 1)) (zy_dl ki i (ms - 1)) (zy_dl ot i (ms - 1)) (zy_dl te i (ms - 1)) pl := by
  obtain ⟨h1, h2, h3, h4⟩ := h
  subst h1
  refine ⟨rfl, by omega, by omega, fun y y0 y1 => ?_⟩
  by_cases c : i ≤ y
  · have g := h4 (y + 1) (by omega) (by omega)
    have el : ∀ f : Int → Int, zy_dl f i (cs - 1) y = f (y + 1) := fun f => by unfold zy_dl; rw [if_pos (by omega)]
    have ed : ∀ a : Int, 0 ≤ a → a < 6 → zy_del rows i 6 cs (6 * y + a) = rows (6 * (y + 1) + a) := fun a a0 a1 => by
      unfold zy_del
      rw [if_pos (by omega), show 6 * y + a + 6 = 6 * (y + 1) + a from by omega]
    unfold z_pRow at g ⊢
    simp only [el]
    rw [ed 0 (by decide) (by decide), ed 1 (by decide) (by decide), ed 2 (by decide) (by decide), ed 3 (by decide) (by decide), ed 4 (by decide) (by decide), ed 5 (by decide) (by decide)]
    exact g
  · have g := h4 y y0 (by omega)
    have el : ∀ f : Int → Int, zy_dl f i (cs - 1) y = f y := fun f => by unfold zy_dl; rw [if_neg (by omega)]
    have ed : ∀ a : Int, 0 ≤ a → a < 6 → zy_del rows i 6 cs (6 * y + a) = rows (6 * y + a) := fun a a0 a1 => by
      unfold zy_del
      rw [if_neg (by omega)]
    unfold z_pRow at g ⊢
    simp only [el]
    rw [ed 0 (by decide) (by decide), ed 1 (by decide) (by decide), ed 2 (by decide) (by decide), ed 3 (by decide) (by decide), ed 4 (by decide) (by decide), ed 5 (by decide) (by decide)]
    exact g
section ZTL
variable {S T M N N2 : z_M} {a1 a2 a3 a4 a5 a6 : Int}
/-- only reports, living ones -/
def zd_rx (a : Nat) (j : Int) : Bool := a == 2401035 || (a == 7 && j == 5) || zy_6 a || (a == 13 && j == 49)
theorem zd_rI (hI : zz_I S) (hx : zc_x zd_rx S T) (hR : z_IRep T) : zz_I T := by
  obtain ⟨g0, g1, ⟨g2, g3⟩, g4, ⟨g5, g6⟩, g7, g8, g9, g10, g11, g12, g13⟩ := hI
  exact ⟨zd_z_ITape ⟨zc_x_n hx 2601014 rfl (fun _ => rfl), zc_x_n hx 2603064 rfl (fun _ => rfl), hx 13 1 rfl rfl, hx 2 1 rfl rfl⟩ g0, zd_z_IRaw ⟨zc_x_n hx 2603064 rfl (fun _ => rfl), hx 13 1 rfl rfl⟩ g1, ⟨zd_z_IPl ⟨zc_x_n hx 304067 rfl (fun _ => rfl), zc_x_n hx 301019 rfl (fun _ => rfl), zc_x_n hx 301069 rfl (fun _ => rfl), zc_x_n hx 28801071 rfl (fun _ => rfl), zc_x_n hx 28801021 rfl (fun _ => rfl)⟩ g2, zd_z_IVer ⟨zc_x_n hx 101091 rfl (fun _ => rfl), zc_x_n hx 101023 rfl (fun _ => rfl), zc_x_n hx 304067 rfl (fun _ => rfl), hx 13 48 rfl rfl, hx 4 9 rfl rfl⟩ g3⟩, zd_z_ITown ⟨zc_x_n hx 1001015 rfl (fun _ => rfl), zc_x_n hx 1001065 rfl (fun _ => rfl), zc_x_n hx 100001017 rfl (fun _ => rfl)⟩ g4, ⟨zd_z_ILm ⟨zc_x_n hx 2401080 rfl (fun _ => rfl), zc_x_n hx 161077 rfl (fun _ => rfl), zc_x_n hx 161078 rfl (fun _ => rfl), zc_x_n hx 161079 rfl (fun _ => rfl), hx 13 29 rfl rfl⟩ g5, zd_z_ILc ⟨zc_x_n hx 641027 rfl (fun _ => rfl), zc_x_n hx 2401025 rfl (fun _ => rfl), zc_x_n hx 161076 rfl (fun _ => rfl), zc_x_n hx 161077 rfl (fun _ => rfl), zc_x_n hx 161078 rfl (fun _ => rfl), zc_x_n hx 161079 rfl (fun _ => rfl), zc_x_n hx 2401080 rfl (fun _ => rfl), zc_x_n hx 2401081 rfl (fun _ => rfl), hx 5 6 rfl rfl, hx 13 29 rfl rfl⟩ g6⟩, hR, zd_z_ITr ⟨zc_x_n hx 121050 rfl (fun _ => rfl), zc_x_n hx 121112 rfl (fun _ => rfl), zc_x_n hx 121051 rfl (fun _ => rfl), zc_x_n hx 121113 rfl (fun _ => rfl), hx 11 5 rfl rfl, hx 13 81 rfl rfl⟩ g8, zd_z_ITk ⟨zc_x_n hx 101056 rfl (fun _ => rfl), zc_x_n hx 101116 rfl (fun _ => rfl)⟩ g9, zd_z_ITh ⟨zc_x_n hx 241058 rfl (fun _ => rfl), zc_x_n hx 61120 rfl (fun _ => rfl), zc_x_n hx 64121 rfl (fun _ => rfl), zc_x_n hx 61122 rfl (fun _ => rfl), zc_x_n hx 61123 rfl (fun _ => rfl), zc_x_n hx 61124 rfl (fun _ => rfl), zc_x_n hx 304067 rfl (fun _ => rfl)⟩ g10, zd_zx_Q0 (zc_x_n hx 10241045 rfl (fun _ => rfl)) g11, zd_z_IW ⟨zc_x_n hx 304067 rfl (fun _ => rfl), zc_x_n hx 301068 rfl (fun _ => rfl), zc_x_n hx 301018 rfl (fun _ => rfl), zc_x_n hx 301069 rfl (fun _ => rfl), zc_x_n hx 28501020 rfl (fun _ => rfl), zc_x_n hx 28501070 rfl (fun _ => rfl), zc_x_n hx 28801021 rfl (fun _ => rfl), zc_x_n hx 1001065 rfl (fun _ => rfl)⟩ g12, zd_z_IKp ⟨zc_x_n hx 101129 rfl (fun _ => rfl), zc_x_n hx 101024 rfl (fun _ => rfl), zc_x_n hx 304067 rfl (fun _ => rfl), zc_x_n hx 2401037 rfl (fun _ => rfl), zc_x_n hx 2401131 rfl (fun _ => rfl), zc_x_n hx 101057 rfl (fun _ => rfl), zc_x_n hx 101130 rfl (fun _ => rfl), zc_x_n hx 241059 rfl (fun _ => rfl), zc_x_n hx 301132 rfl (fun _ => rfl), hx 1 11 rfl rfl, hx 13 100 rfl rfl, hx 13 105 rfl rfl, hx 4 10 rfl rfl, hx 7 7 rfl rfl, hx 13 106 rfl rfl⟩ g13⟩
theorem zd_dc_x {i : Int} : zc_x zd_rx S (zy_dc S i) := fun k j _ h => by
  unfold zd_rx at h
  simp only [Bool.or_eq_false_iff, Bool.and_eq_false_iff, beq_eq_false_iff_ne] at h
  unfold zy_dc
  rw [zy_ar_n h.1.1.1]
  by_cases c7 : k = 7
  · rw [c7, z_up_nj (h.1.1.2.resolve_left (fun z => z c7))]
  · rw [z_up_ne c7]
theorem zd_dM_x {i : Int} : zc_x zd_rx S (zy_dM S i) := fun k j _ h => by
  unfold zd_rx at h
  simp only [Bool.or_eq_false_iff, Bool.and_eq_false_iff, beq_eq_false_iff_ne] at h
  unfold zy_dM
  by_cases c13 : k = 13
  · rw [c13, z_up_nj (h.2.resolve_left (fun z => z c13)), zy_six_n rfl]
  · rw [z_up_ne c13, zy_six_n h.1.2]
theorem zd_rx2 (h : zc_x zd_rx S N) (g : zc_x zd_rx N T) : zc_x zd_rx S T := fun k j hk hx => (g k j hk hx).trans (h k j hk hx)
theorem zz_op5 (hS : z_sit S M) (hI : zz_I S) : z_case 60 zz_P M a1 a2 a3 a4 a5 a6 5 := by
  have hR := hI.2.2.2.2.2.1
  refine kc_strike 59 hS hR (fun c N s1 => ⟨⟨_, rfl⟩, km_strike 58 s1 hR.2.1 hR.2.2.1 (fun _ N2 s2 => ⟨rfl, _, s2, ?_⟩) (fun nc => absurd c nc)⟩) (fun nc => ⟨⟨_, rfl⟩, km_strike 58 hS hR.2.1 hR.2.2.1 (fun c => absurd c nc) (fun _ => ⟨rfl, S, hS, hI⟩)⟩)
  exact zd_rI hI (zd_rx2 zd_dc_x zd_dM_x) (zd_del (z_IRep_p.mp hR) c.1 c.2)
end ZTL
