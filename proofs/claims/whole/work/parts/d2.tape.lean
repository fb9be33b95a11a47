/-! THE TABLE: calls that only eat the tape; feed -/
section ZTB
variable {S S' M : z_M} {a1 a2 a3 a4 a5 a6 : Int}
theorem zw_rt_tr (h : z_eq2 S S') (q : Nat) : zw_rt S' q = zw_rt S q := by
  unfold zw_rt
  rw [z_rk_tr h, z_e2k h 2601014 rfl rfl rfl]
theorem zw_yn_tr (h : z_eq2 S S') (tn : Int) : ∀ n : Nat, zw_yn S' tn n = zw_yn S tn n := by
  intro n
  induction n with
  | zero => rfl
  | succ n ih =>
    unfold zw_yn
    rw [ih, zw_rt_tr h, z_e2k h 2601014 rfl rfl rfl]
theorem zw_bd1_tr (h : z_eq2 S S') : zw_bd1 S' = zw_bd1 S := by
  funext q
  unfold zw_bd1 z_tl
  simp only [z_e2k h 2601014 rfl rfl rfl, z_e2k h 304067 rfl rfl rfl]
theorem zw_suv_tr (h : z_eq2 S S') (tn k : Int) (n : Nat) : zw_suv S' tn k n = zw_suv S tn k n := by
  unfold zw_suv
  rw [zw_bd1_tr h, zw_yn_tr h]
theorem zw_ck_tr (h : z_eq2 S S') (p : Int) : ∀ n : Nat, zw_ck S' p n = zw_ck S p n := by
  intro n
  induction n with
  | zero => rfl
  | succ n ih =>
    unfold zw_ck
    rw [ih, z_e2k h 2601014 rfl rfl rfl]
    unfold z_sp z_pd
    rw [z_ps_tr h, z_e2k h 101023 rfl rfl rfl]
/-- nothing on the tapes -/
def zd_0 (S : z_M) : z_M := z_up (z_up S 2 1 0) 13 1 0
theorem zd_0_x : zc_x (fun a j => (a == 2 && j == 1) || (a == 13 && j == 1)) S (zd_0 S) := by
  intro k j _ hx
  simp only [Bool.or_eq_false_iff, Bool.and_eq_false_iff, beq_eq_false_iff_ne] at hx
  unfold zd_0
  rcases hx.2 with c | c
  · rw [z_up_ne c]
    rcases hx.1 with cc | cc
    · rw [z_up_ne cc]
    · by_cases c2 : k = 2
      · rw [c2, z_up_nj cc]
      · rw [z_up_ne c2]
  · by_cases c3 : k = 13
    · rw [c3, z_up_nj c, z_up_ne (by decide)]
    · rw [z_up_ne c3]
      rcases hx.1 with cc | cc
      · rw [z_up_ne cc]
      · by_cases c2 : k = 2
        · rw [c2, z_up_nj cc]
        · rw [z_up_ne c2]
theorem zd_0_I (h : zz_I S) : zz_I (zd_0 S) := by
  obtain ⟨g0, g1, ⟨g2, g3⟩, g4, ⟨g5, g6⟩, g7, g8, g9, g10, g11, g12, g13⟩ := h
  have hx := zd_0_x (S := S)
  have e2 : (zd_0 S) 2 1 = 0 := by unfold zd_0; rw [z_up_ne (by decide), z_up_eq]
  have e13 : (zd_0 S) 13 1 = 0 := z_up_eq
  exact ⟨⟨by rw [show (13 : Nat) = 13 from rfl]; exact e13.trans e2.symm, Int.le_of_eq e2.symm, by rw [show (zd_0 S) 2 1 = 0 from e2]; decide, fun j a b => by rw [show (zd_0 S) 2 1 = 0 from e2] at b; exact absurd b (by omega)⟩, (fun j a b => by rw [e13] at b; exact absurd b (by omega)), ⟨zd_z_IPl ⟨zc_x_n hx 304067 rfl (fun _ => rfl), zc_x_n hx 301019 rfl (fun _ => rfl), zc_x_n hx 301069 rfl (fun _ => rfl), zc_x_n hx 28801071 rfl (fun _ => rfl), zc_x_n hx 28801021 rfl (fun _ => rfl)⟩ g2, zd_z_IVer ⟨zc_x_n hx 101091 rfl (fun _ => rfl), zc_x_n hx 101023 rfl (fun _ => rfl), zc_x_n hx 304067 rfl (fun _ => rfl), hx 13 48 rfl rfl, hx 4 9 rfl rfl⟩ g3⟩, zd_z_ITown ⟨zc_x_n hx 1001015 rfl (fun _ => rfl), zc_x_n hx 1001065 rfl (fun _ => rfl), zc_x_n hx 100001017 rfl (fun _ => rfl)⟩ g4, ⟨zd_z_ILm ⟨zc_x_n hx 2401080 rfl (fun _ => rfl), zc_x_n hx 161077 rfl (fun _ => rfl), zc_x_n hx 161078 rfl (fun _ => rfl), zc_x_n hx 161079 rfl (fun _ => rfl), hx 13 29 rfl rfl⟩ g5, zd_z_ILc ⟨zc_x_n hx 641027 rfl (fun _ => rfl), zc_x_n hx 2401025 rfl (fun _ => rfl), zc_x_n hx 161076 rfl (fun _ => rfl), zc_x_n hx 161077 rfl (fun _ => rfl), zc_x_n hx 161078 rfl (fun _ => rfl), zc_x_n hx 161079 rfl (fun _ => rfl), zc_x_n hx 2401080 rfl (fun _ => rfl), zc_x_n hx 2401081 rfl (fun _ => rfl), hx 5 6 rfl rfl, hx 13 29 rfl rfl⟩ g6⟩, zd_z_IRep ⟨zc_x_n hx 2401035 rfl (fun _ => rfl), zc_x_n hx 401092 rfl (fun _ => rfl), zc_x_n hx 401093 rfl (fun _ => rfl), zc_x_n hx 401094 rfl (fun _ => rfl), zc_x_n hx 401095 rfl (fun _ => rfl), zc_x_n hx 401096 rfl (fun _ => rfl), zc_x_n hx 401097 rfl (fun _ => rfl), zc_x_n hx 304067 rfl (fun _ => rfl), hx 7 5 rfl rfl, hx 13 49 rfl rfl⟩ g7, zd_z_ITr ⟨zc_x_n hx 121050 rfl (fun _ => rfl), zc_x_n hx 121112 rfl (fun _ => rfl), zc_x_n hx 121051 rfl (fun _ => rfl), zc_x_n hx 121113 rfl (fun _ => rfl), hx 11 5 rfl rfl, hx 13 81 rfl rfl⟩ g8, zd_z_ITk ⟨zc_x_n hx 101056 rfl (fun _ => rfl), zc_x_n hx 101116 rfl (fun _ => rfl)⟩ g9, zd_z_ITh ⟨zc_x_n hx 241058 rfl (fun _ => rfl), zc_x_n hx 61120 rfl (fun _ => rfl), zc_x_n hx 64121 rfl (fun _ => rfl), zc_x_n hx 61122 rfl (fun _ => rfl), zc_x_n hx 61123 rfl (fun _ => rfl), zc_x_n hx 61124 rfl (fun _ => rfl), zc_x_n hx 304067 rfl (fun _ => rfl)⟩ g10, zd_zx_Q0 (zc_x_n hx 10241045 rfl (fun _ => rfl)) g11, zd_z_IW ⟨zc_x_n hx 304067 rfl (fun _ => rfl), zc_x_n hx 301068 rfl (fun _ => rfl), zc_x_n hx 301018 rfl (fun _ => rfl), zc_x_n hx 301069 rfl (fun _ => rfl), zc_x_n hx 28501020 rfl (fun _ => rfl), zc_x_n hx 28501070 rfl (fun _ => rfl), zc_x_n hx 28801021 rfl (fun _ => rfl), zc_x_n hx 1001065 rfl (fun _ => rfl)⟩ g12, zd_z_IKp ⟨zc_x_n hx 101129 rfl (fun _ => rfl), zc_x_n hx 101024 rfl (fun _ => rfl), zc_x_n hx 304067 rfl (fun _ => rfl), zc_x_n hx 2401037 rfl (fun _ => rfl), zc_x_n hx 2401131 rfl (fun _ => rfl), zc_x_n hx 101057 rfl (fun _ => rfl), zc_x_n hx 101130 rfl (fun _ => rfl), zc_x_n hx 241059 rfl (fun _ => rfl), zc_x_n hx 301132 rfl (fun _ => rfl), hx 1 11 rfl rfl, hx 13 100 rfl rfl, hx 13 105 rfl rfl, hx 4 10 rfl rfl, hx 7 7 rfl rfl, hx 13 106 rfl rfl⟩ g13⟩
theorem zz_op41 (hS : z_sit S M) (hI : zz_I S) : z_case 60 zz_P M a1 a2 a3 a4 a5 a6 41 := by
  have hT := hI.1
  refine kc_halves 46 hS hT (fun c N s1 => ⟨⟨_, rfl⟩, km_halves 54 (S := z_up S 2 1 0) s1 (z0 := S 2 1) hT.1 hT.2.2.1 hT.2.2.2 (fun _ N2 s2 => ⟨rfl, _, s2, zd_0_I hI⟩) (fun nc => absurd c nc)⟩) (fun nc => ⟨⟨_, rfl⟩, km_halves 54 hS (z0 := S 2 1) hT.1 hT.2.2.1 hT.2.2.2 (fun c => absurd c nc) (fun _ => ⟨rfl, S, hS, hI⟩)⟩)
theorem zz_op42 (hS : z_sit S M) (hI : zz_I S) : z_case 60 zz_P M a1 a2 a3 a4 a5 a6 42 := by
  have hT := hI.1
  have e2 := z_eq2_2 (S := S) 0
  refine kc_sure 58 hS (zz_IS hI) hT (fun c N s1 => ⟨⟨_, rfl⟩, km_sure 56 (S := z_up S 2 1 0) s1 (z_IS_tr e2 (zz_IS hI)) (z0 := S 2 1) hT.1 hT.2.2.1 hT.2.2.2 (fun _ N2 s2 => ⟨by rw [zw_suv_tr e2], _, s2, zd_0_I hI⟩) (fun nc => absurd c nc)⟩) (fun nc => ⟨⟨_, rfl⟩, km_sure 56 hS (zz_IS hI) (z0 := S 2 1) hT.1 hT.2.2.1 hT.2.2.2 (fun c => absurd c nc) (fun _ => ⟨rfl, S, hS, hI⟩)⟩)
theorem zz_op45 (hS : z_sit S M) (hI : zz_I S) : z_case 60 zz_P M a1 a2 a3 a4 a5 a6 45 := by
  have hT := hI.1
  have e2 := z_eq2_2 (S := S) 0
  refine kc_check 58 hS (zz_IS hI) hT (fun c N s1 => ⟨⟨_, rfl⟩, km_check 58 (S := z_up S 2 1 0) s1 (z_IS_tr e2 (zz_IS hI)) (z0 := S 2 1) hT.1 hT.2.2.1 hT.2.2.2 (fun _ N2 s2 => ⟨by rw [zw_ck_tr e2], _, s2, zd_0_I hI⟩) (fun nc => absurd c nc)⟩) (fun nc => ⟨⟨_, rfl⟩, km_check 58 hS (zz_IS hI) (z0 := S 2 1) hT.1 hT.2.2.1 hT.2.2.2 (fun c => absurd c nc) (fun _ => ⟨rfl, S, hS, hI⟩)⟩)
end ZTB
