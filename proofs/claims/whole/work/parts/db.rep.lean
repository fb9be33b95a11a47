/-! THE TABLE: reports, the call -/
section ZTK
variable {S S' M N N2 : z_M} {a1 a2 a3 a4 a5 a6 : Int}
theorem zp_cv_lo {c : Nat} {x : Int} (h : c < 4) : zp_cv c x = x := if_neg (fun z => by omega)
theorem zp_cv_hi {c : Nat} {x : Int} (h : 4 ≤ c) : zp_cv c x = if x = -1 then -2 else x := by
  unfold zp_cv
  by_cases e : x = -1
  · rw [if_pos ⟨h, e⟩, if_pos e]
  · rw [if_neg (fun z => e z.2), if_neg e]
theorem zp_T_e {p : Int} : zp_T S p = true ↔ S 304067 (3 * p) = 1 := by unfold zp_T; exact decide_eq_true_iff
theorem zd_row_in (h : z_rowok S a1) : (∀ c : Nat, c < 6 → S 2401035 (6 * a1 + (c : Int)) = zp_cv c (S (zy_r6 c) a1)) ∧ zp_gd (zp_T S) (fun c => S (zy_r6 c) a1) := by
  obtain ⟨q1, q2, q3, q4, q5, q6, q7, q8, q9, q10⟩ := h
  refine ⟨fun c hc => ?_, ⟨q2.1, q2.2.1, zp_T_e.mpr q2.2.2⟩, q4, q6, ?_⟩
  · have : c = 0 ∨ c = 1 ∨ c = 2 ∨ c = 3 ∨ c = 4 ∨ c = 5 := by omega
    rcases this with rfl | rfl | rfl | rfl | rfl | rfl
    · rw [zp_cv_lo (by decide)]; exact q1
    · rw [zp_cv_lo (by decide)]; exact q3
    · rw [zp_cv_lo (by decide)]; exact q5
    · rw [zp_cv_lo (by decide)]; exact q7
    · rw [zp_cv_hi (by decide)]; exact q8
    · rw [zp_cv_hi (by decide)]; exact q9
  · rcases q10 with z | z | z | z
    · exact Or.inl ⟨z.1, ⟨z.2.1.1, z.2.1.2.1, zp_T_e.mpr z.2.1.2.2⟩, z.2.2⟩
    · exact Or.inr (Or.inl ⟨z.1, ⟨z.2.1.1, z.2.1.2.1, zp_T_e.mpr z.2.1.2.2⟩, z.2.2⟩)
    · exact Or.inr (Or.inr (Or.inl z))
    · exact Or.inr (Or.inr (Or.inr z))
theorem zd_row_out {r : Nat → Int} (hp : N 304067 = S 304067) (h1 : ∀ c : Nat, c < 6 → N 2401035 (6 * a1 + (c : Int)) = zp_cv c (r c)) (h2 : ∀ c : Nat, c < 6 → N (zy_r6 c) a1 = r c) (g : zp_gd (zp_T S) r) : z_rowok N a1 := by
  have e : ∀ c : Nat, c < 6 → N 2401035 (6 * a1 + (c : Int)) = zp_cv c (N (zy_r6 c) a1) := fun c hc => by rw [h1 c hc, h2 c hc]
  have v0 : N 401092 a1 = r 0 := h2 0 (by decide)
  have v1 : N 401093 a1 = r 1 := h2 1 (by decide)
  have v2 : N 401094 a1 = r 2 := h2 2 (by decide)
  have v3 : N 401095 a1 = r 3 := h2 3 (by decide)
  have v4 : N 401096 a1 = r 4 := h2 4 (by decide)
  have v5 : N 401097 a1 = r 5 := h2 5 (by decide)
  obtain ⟨q2, q4, q6, q10⟩ := g
  refine ⟨(e 0 (by decide)).trans (zp_cv_lo (by decide)), ?_, (e 1 (by decide)).trans (zp_cv_lo (by decide)), by rw [v1]; exact q4, (e 2 (by decide)).trans (zp_cv_lo (by decide)), by rw [v2]; exact q6, (e 3 (by decide)).trans (zp_cv_lo (by decide)), (e 4 (by decide)).trans (zp_cv_hi (by decide)), (e 5 (by decide)).trans (zp_cv_hi (by decide)), ?_⟩
  · rw [v0, hp]; exact ⟨q2.1, q2.2.1, zp_T_e.mp q2.2.2⟩
  · unfold z_oth
    rw [v3, v4, v5, hp]
    rcases q10 with z | z | z | z
    · exact Or.inl ⟨z.1, ⟨z.2.1.1, z.2.1.2.1, zp_T_e.mp z.2.1.2.2⟩, z.2.2⟩
    · exact Or.inr (Or.inl ⟨z.1, ⟨z.2.1.1, z.2.1.2.1, zp_T_e.mp z.2.1.2.2⟩, z.2.2⟩)
    · exact Or.inr (Or.inr (Or.inl z))
    · exact Or.inr (Or.inr (Or.inr z))
theorem zz_op4 (hS : z_sit S M) (hI : zz_I S) : z_case 60 zz_P M a1 a2 a3 a4 a5 a6 4 := by
  have hI0 := hI
  have hT := hI.1
  have et : S 13 1 = S 2 1 := hT.1
  have hB := zd_B hI
  obtain ⟨g0, g1, ⟨g2, g3⟩, g4, ⟨g5, g6⟩, g7, g8, g9, g10, g11, g12, g13⟩ := hI
  have r7 : S 7 5 = S 13 49 := g7.1
  have rm0 := g7.2.1
  have rm1 := g7.2.2.1
  have r6c : ∀ c : Nat, c < 6 → z_cak (zy_r6 c) = true := fun c hc => by
    have : c = 0 ∨ c = 1 ∨ c = 2 ∨ c = 3 ∨ c = 4 ∨ c = 5 := by omega
    rcases this with rfl | rfl | rfl | rfl | rfl | rfl <;> rfl
  refine kc_reports (m := S 13 49) (R0 := fun x c => S (zy_r6 c) x) 53 hS hT (z_IPeo_p.mpr ⟨g2, g3⟩) rm0 rm1 r7 (fun x c x0 x1 hc => (zd_row_in (g7.2.2.2 x x0 x1)).1 c hc) (fun b1 b2 b3 k R N e cx sN n2 nk k0 k40 rows => ⟨⟨_, rfl⟩, ?_⟩) (fun b1 b2 b3 f N f0 e sN => ⟨⟨_, rfl⟩, ?_⟩) (fun f e => by have := zp_go_neg _ _ _ _ _ _ (by decide) e; omega) (fun nc => ⟨⟨_, rfl⟩, ?_⟩)
  · obtain ⟨t1, t2⟩ := zd_text hT b1 b3
    have hx1 := zd_sx hS cx
    have eN : N 2603064 = S 2603064 := zc_x_n hx1 _ rfl (fun _ => rfl)
    have e13 : N 13 1 = S 13 1 := hx1 13 _ rfl rfl
    have eP1 : N 304067 = S 304067 := zc_x_n hx1 _ rfl (fun _ => rfl)
    have eT1 : zp_T N = zp_T S := by unfold zp_T; rw [eP1]
    have e6 : ∀ c : Nat, c < 6 → N (zy_r6 c) = S (zy_r6 c) := fun c hc => by
      have : c = 0 ∨ c = 1 ∨ c = 2 ∨ c = 3 ∨ c = 4 ∨ c = 5 := by omega
      rcases this with rfl | rfl | rfl | rfl | rfl | rfl
      · exact zc_x_n hx1 401092 rfl (fun _ => rfl)
      · exact zc_x_n hx1 401093 rfl (fun _ => rfl)
      · exact zc_x_n hx1 401094 rfl (fun _ => rfl)
      · exact zc_x_n hx1 401095 rfl (fun _ => rfl)
      · exact zc_x_n hx1 401096 rfl (fun _ => rfl)
      · exact zc_x_n hx1 401097 rfl (fun _ => rfl)
    refine km_reports (q := zr_q S a1) (m := S 13 49) (R0 := fun x c => S (zy_r6 c) x) 55 sN (fun w w0 w1 => by rw [eP1]; exact hB w w0 w1) (fun _ _ _ => ⟨t1, fun i i0 i1 => by rw [eN]; exact t2 i i0 i1⟩) rm0 rm1 (hx1 13 _ rfl rfl) (fun x c _ _ hc => by rw [e6 c hc]) (fun _ _ _ k' R' N2 e' cx' sN2 m13 mk _ _ rows' => ?_) (fun _ _ _ f N2 e' _ _ _ _ _ => ?_) (fun nc => absurd ⟨b1, b2, by omega⟩ nc)
    · rw [eT1, e] at e'
      have hh := Sum.inr.inj e'
      have h1' : k = k' := congrArg (fun z => z.1) hh
      have h2' : R = R' := congrArg (fun z => z.2) hh
      subst h1' h2'
      have hx := zd_x2 hx1 cx'
      have z2 : N2 2 1 = 0 := (cx' 2 _ rfl rfl).trans n2
      have good := zp_go_gd _ _ _ _ _ _ rm0 (fun x x0 x1 => (zd_row_in (g7.2.2.2 x x0 x1)).2) e
      have hR : z_IRep N2 := by
        refine ⟨by rw [mk]; exact (cx' 7 _ rfl rfl).trans nk, by rw [mk]; exact k0, by rw [mk]; exact k40, fun y y0 y1 => ?_⟩
        rw [mk] at y1
        exact zd_row_out (zc_x_n hx 304067 rfl (fun _ => rfl)) (fun c hc => by rw [zc_x_n cx' 2401035 rfl (fun _ => rfl)]; exact rows y c y0 y1 hc) (fun c hc => rows' y c y0 y1 hc) (good y y0 y1)
      refine ⟨rfl, N2, sN2, ?_⟩
      exact ⟨⟨m13.trans z2.symm, Int.le_of_eq z2.symm, by rw [show N2 2 1 = 0 from z2]; decide, fun j a b => by rw [show N2 2 1 = 0 from z2] at b; exact absurd b (by omega)⟩, (fun j a b => by rw [m13] at b; exact absurd b (by omega)), ⟨zd_z_IPl ⟨zc_x_n hx 304067 rfl (fun _ => rfl), zc_x_n hx 301019 rfl (fun _ => rfl), zc_x_n hx 301069 rfl (fun _ => rfl), zc_x_n hx 28801071 rfl (fun _ => rfl), zc_x_n hx 28801021 rfl (fun _ => rfl)⟩ g2, zd_z_IVer ⟨zc_x_n hx 101091 rfl (fun _ => rfl), zc_x_n hx 101023 rfl (fun _ => rfl), zc_x_n hx 304067 rfl (fun _ => rfl), hx 13 48 rfl rfl, hx 4 9 rfl rfl⟩ g3⟩, zd_z_ITown ⟨zc_x_n hx 1001015 rfl (fun _ => rfl), zc_x_n hx 1001065 rfl (fun _ => rfl), zc_x_n hx 100001017 rfl (fun _ => rfl)⟩ g4, ⟨zd_z_ILm ⟨zc_x_n hx 2401080 rfl (fun _ => rfl), zc_x_n hx 161077 rfl (fun _ => rfl), zc_x_n hx 161078 rfl (fun _ => rfl), zc_x_n hx 161079 rfl (fun _ => rfl), hx 13 29 rfl rfl⟩ g5, zd_z_ILc ⟨zc_x_n hx 641027 rfl (fun _ => rfl), zc_x_n hx 2401025 rfl (fun _ => rfl), zc_x_n hx 161076 rfl (fun _ => rfl), zc_x_n hx 161077 rfl (fun _ => rfl), zc_x_n hx 161078 rfl (fun _ => rfl), zc_x_n hx 161079 rfl (fun _ => rfl), zc_x_n hx 2401080 rfl (fun _ => rfl), zc_x_n hx 2401081 rfl (fun _ => rfl), hx 5 6 rfl rfl, hx 13 29 rfl rfl⟩ g6⟩, hR, zd_z_ITr ⟨zc_x_n hx 121050 rfl (fun _ => rfl), zc_x_n hx 121112 rfl (fun _ => rfl), zc_x_n hx 121051 rfl (fun _ => rfl), zc_x_n hx 121113 rfl (fun _ => rfl), hx 11 5 rfl rfl, hx 13 81 rfl rfl⟩ g8, zd_z_ITk ⟨zc_x_n hx 101056 rfl (fun _ => rfl), zc_x_n hx 101116 rfl (fun _ => rfl)⟩ g9, zd_z_ITh ⟨zc_x_n hx 241058 rfl (fun _ => rfl), zc_x_n hx 61120 rfl (fun _ => rfl), zc_x_n hx 64121 rfl (fun _ => rfl), zc_x_n hx 61122 rfl (fun _ => rfl), zc_x_n hx 61123 rfl (fun _ => rfl), zc_x_n hx 61124 rfl (fun _ => rfl), zc_x_n hx 304067 rfl (fun _ => rfl)⟩ g10, zd_zx_Q0 (zc_x_n hx 10241045 rfl (fun _ => rfl)) g11, zd_z_IW ⟨zc_x_n hx 304067 rfl (fun _ => rfl), zc_x_n hx 301068 rfl (fun _ => rfl), zc_x_n hx 301018 rfl (fun _ => rfl), zc_x_n hx 301069 rfl (fun _ => rfl), zc_x_n hx 28501020 rfl (fun _ => rfl), zc_x_n hx 28501070 rfl (fun _ => rfl), zc_x_n hx 28801021 rfl (fun _ => rfl), zc_x_n hx 1001065 rfl (fun _ => rfl)⟩ g12, zd_z_IKp ⟨zc_x_n hx 101129 rfl (fun _ => rfl), zc_x_n hx 101024 rfl (fun _ => rfl), zc_x_n hx 304067 rfl (fun _ => rfl), zc_x_n hx 2401037 rfl (fun _ => rfl), zc_x_n hx 2401131 rfl (fun _ => rfl), zc_x_n hx 101057 rfl (fun _ => rfl), zc_x_n hx 101130 rfl (fun _ => rfl), zc_x_n hx 241059 rfl (fun _ => rfl), zc_x_n hx 301132 rfl (fun _ => rfl), hx 1 11 rfl rfl, hx 13 100 rfl rfl, hx 13 105 rfl rfl, hx 4 10 rfl rfl, hx 7 7 rfl rfl, hx 13 106 rfl rfl⟩ g13⟩
    · rw [eT1, e] at e'; cases e'
  · obtain ⟨t1, t2⟩ := zd_text hT b1 b3
    have eU : ∀ a, a ≠ 2 → (z_up S 2 1 0) a = S a := fun a h => z_up_ne h
    have hx1 : zc_x (fun a j => a == 2 && j == 1) S N := fun k j hk hx => (sN.1 k j hk).trans (zd_up_x k j hk hx)
    have eT1 : zp_T (z_up S 2 1 0) = zp_T S := rfl
    have n2 : N 2 1 = 0 := (sN.1 2 _ rfl).trans z_up_eq
    refine km_reports (q := zr_q S a1) (m := S 13 49) (R0 := fun x c => S (zy_r6 c) x) 55 sN hB (fun _ _ _ => ⟨t1, t2⟩) rm0 rm1 rfl (fun x c _ _ hc => by rw [eU _ (fun z => by have := r6c c hc; rw [z] at this; cases this)]) (fun _ _ _ k' R' N2 e' _ _ _ _ _ _ _ => ?_) (fun _ _ _ f' N2 e' cx' sN2 m13 mk rows' => ?_) (fun nc => absurd ⟨b1, b2, Int.le_trans b3 (Int.le_of_eq et.symm)⟩ nc)
    · rw [eT1, e] at e'; cases e'
    · rw [eT1, e] at e'
      have hf : f = f' := Sum.inl.inj e'
      have hx := zd_x2 hx1 cx'
      have z2 : N2 2 1 = 0 := (cx' 2 _ rfl rfl).trans n2
      have hR : z_IRep N2 := by
        refine ⟨by rw [mk]; exact (hx 7 _ rfl rfl).trans r7, by rw [mk]; exact rm0, by rw [mk]; exact rm1, fun y y0 y1 => ?_⟩
        rw [mk] at y1
        obtain ⟨u1, u2⟩ := zd_row_in (g7.2.2.2 y y0 y1)
        exact zd_row_out (zc_x_n hx 304067 rfl (fun _ => rfl)) (fun c hc => by rw [zc_x_n hx 2401035 rfl (fun _ => rfl)]; exact u1 c hc) (fun c hc => rows' y c y0 y1 hc) u2
      refine ⟨by rw [hf], N2, sN2, ?_⟩
      exact ⟨⟨m13.trans z2.symm, Int.le_of_eq z2.symm, by rw [show N2 2 1 = 0 from z2]; decide, fun j a b => by rw [show N2 2 1 = 0 from z2] at b; exact absurd b (by omega)⟩, (fun j a b => by rw [m13] at b; exact absurd b (by omega)), ⟨zd_z_IPl ⟨zc_x_n hx 304067 rfl (fun _ => rfl), zc_x_n hx 301019 rfl (fun _ => rfl), zc_x_n hx 301069 rfl (fun _ => rfl), zc_x_n hx 28801071 rfl (fun _ => rfl), zc_x_n hx 28801021 rfl (fun _ => rfl)⟩ g2, zd_z_IVer ⟨zc_x_n hx 101091 rfl (fun _ => rfl), zc_x_n hx 101023 rfl (fun _ => rfl), zc_x_n hx 304067 rfl (fun _ => rfl), hx 13 48 rfl rfl, hx 4 9 rfl rfl⟩ g3⟩, zd_z_ITown ⟨zc_x_n hx 1001015 rfl (fun _ => rfl), zc_x_n hx 1001065 rfl (fun _ => rfl), zc_x_n hx 100001017 rfl (fun _ => rfl)⟩ g4, ⟨zd_z_ILm ⟨zc_x_n hx 2401080 rfl (fun _ => rfl), zc_x_n hx 161077 rfl (fun _ => rfl), zc_x_n hx 161078 rfl (fun _ => rfl), zc_x_n hx 161079 rfl (fun _ => rfl), hx 13 29 rfl rfl⟩ g5, zd_z_ILc ⟨zc_x_n hx 641027 rfl (fun _ => rfl), zc_x_n hx 2401025 rfl (fun _ => rfl), zc_x_n hx 161076 rfl (fun _ => rfl), zc_x_n hx 161077 rfl (fun _ => rfl), zc_x_n hx 161078 rfl (fun _ => rfl), zc_x_n hx 161079 rfl (fun _ => rfl), zc_x_n hx 2401080 rfl (fun _ => rfl), zc_x_n hx 2401081 rfl (fun _ => rfl), hx 5 6 rfl rfl, hx 13 29 rfl rfl⟩ g6⟩, hR, zd_z_ITr ⟨zc_x_n hx 121050 rfl (fun _ => rfl), zc_x_n hx 121112 rfl (fun _ => rfl), zc_x_n hx 121051 rfl (fun _ => rfl), zc_x_n hx 121113 rfl (fun _ => rfl), hx 11 5 rfl rfl, hx 13 81 rfl rfl⟩ g8, zd_z_ITk ⟨zc_x_n hx 101056 rfl (fun _ => rfl), zc_x_n hx 101116 rfl (fun _ => rfl)⟩ g9, zd_z_ITh ⟨zc_x_n hx 241058 rfl (fun _ => rfl), zc_x_n hx 61120 rfl (fun _ => rfl), zc_x_n hx 64121 rfl (fun _ => rfl), zc_x_n hx 61122 rfl (fun _ => rfl), zc_x_n hx 61123 rfl (fun _ => rfl), zc_x_n hx 61124 rfl (fun _ => rfl), zc_x_n hx 304067 rfl (fun _ => rfl)⟩ g10, zd_zx_Q0 (zc_x_n hx 10241045 rfl (fun _ => rfl)) g11, zd_z_IW ⟨zc_x_n hx 304067 rfl (fun _ => rfl), zc_x_n hx 301068 rfl (fun _ => rfl), zc_x_n hx 301018 rfl (fun _ => rfl), zc_x_n hx 301069 rfl (fun _ => rfl), zc_x_n hx 28501020 rfl (fun _ => rfl), zc_x_n hx 28501070 rfl (fun _ => rfl), zc_x_n hx 28801021 rfl (fun _ => rfl), zc_x_n hx 1001065 rfl (fun _ => rfl)⟩ g12, zd_z_IKp ⟨zc_x_n hx 101129 rfl (fun _ => rfl), zc_x_n hx 101024 rfl (fun _ => rfl), zc_x_n hx 304067 rfl (fun _ => rfl), zc_x_n hx 2401037 rfl (fun _ => rfl), zc_x_n hx 2401131 rfl (fun _ => rfl), zc_x_n hx 101057 rfl (fun _ => rfl), zc_x_n hx 101130 rfl (fun _ => rfl), zc_x_n hx 241059 rfl (fun _ => rfl), zc_x_n hx 301132 rfl (fun _ => rfl), hx 1 11 rfl rfl, hx 13 100 rfl rfl, hx 13 105 rfl rfl, hx 4 10 rfl rfl, hx 7 7 rfl rfl, hx 13 106 rfl rfl⟩ g13⟩
  · exact km_reports (q := fun _ => -1) (m := S 13 49) (R0 := fun x c => S (zy_r6 c) x) 55 hS hB (fun x1 x2 x3 => absurd ⟨x1, x2, by omega⟩ nc) rm0 rm1 rfl (fun x c _ _ hc => rfl) (fun x1 x2 x3 => absurd ⟨x1, x2, by omega⟩ nc) (fun x1 x2 x3 => absurd ⟨x1, x2, by omega⟩ nc) (fun _ => ⟨rfl, S, hS, hI0⟩)
end ZTK
