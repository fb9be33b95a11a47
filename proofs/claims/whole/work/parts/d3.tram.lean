/-! THE TABLE: the tram's line -/
section ZTC
variable {S S' M N N2 : z_M} {a1 a2 a3 a4 a5 a6 : Int}
theorem zd_text {a : Int} (hT : z_ITape S) (h0 : 1 ≤ a) (h1 : a ≤ S 2 1) : zr_T (zr_q S a) a ∧ ∀ i : Int, 0 ≤ i → i < a → z_and (S 2603064 i) 255 = zr_q S a i := by
  refine ⟨zr_q_T hT (by omega) h1, fun i i0 i1 => ?_⟩
  unfold zr_q
  rw [if_pos i1]
  exact (hT.2.2.2 i i0 (by have : S 2 1 = S 2 1 := rfl; omega)).symm
theorem zd_sx {X : Nat → Int → Bool} (hS : z_sit S M) (h : zc_x X M N) : zc_x X S N := fun k j hk hx => (h k j hk hx).trans (hS.1 k j hk)
theorem zd_x2 {X Y : Nat → Int → Bool} (h : zc_x X S N) (g : zc_x Y N N2) : zc_x (fun k j => X k j || Y k j) S N2 := fun k j hk hx => by
  simp only [Bool.or_eq_false_iff] at hx
  exact (g k j hk hx.2).trans (h k j hk hx.1)
theorem zz_op28 (hS : z_sit S M) (hI : zz_I S) : z_case 60 zz_P M a1 a2 a3 a4 a5 a6 28 := by
  have hT := hI.1
  have et : S 13 1 = S 2 1 := hT.1
  have e20 : S 2 1 ≤ 260 := hT.2.2.1
  refine kc_tram 55 hS hT (fun b1 b2 b3 k sp mi N e k1 k12 cx sN n2 nk rows => ⟨⟨_, rfl⟩, ?_⟩) (fun b1 b2 b3 f N e sN => ⟨⟨_, rfl⟩, ?_⟩) (fun nc => ⟨⟨_, rfl⟩, ?_⟩)
  · obtain ⟨t1, t2⟩ := zd_text hT b1 b3
    have hx1 := zd_sx hS cx
    have eN : N 2603064 = S 2603064 := zc_x_n hx1 _ rfl (fun _ => rfl)
    have e13 : N 13 1 = S 13 1 := hx1 13 _ rfl rfl
    refine km_tram (q := zr_q S a1) 55 sN (fun _ _ _ => ⟨t1, fun i i0 i1 => by rw [eN]; exact t2 i i0 i1⟩) (by omega) (fun _ _ _ k' sp' mi' N2 e' _ _ cx' sN2 m13 mk rows' => ?_) (fun _ _ _ f N2 e' sN2 => ?_) (fun nc => absurd ⟨b1, b2, by omega⟩ nc)
    · rw [e] at e'
      have hh := Sum.inr.inj e'
      have a1' : k = k' := congrArg (fun z => z.1) hh
      have a2' : sp = sp' := congrArg (fun z => z.2.1) hh
      have a3' : mi = mi' := congrArg (fun z => z.2.2) hh
      subst a1' a2' a3'
      have hx := zd_x2 hx1 cx'
      obtain ⟨g0, g1, ⟨g2, g3⟩, g4, ⟨g5, g6⟩, g7, g8, g9, g10, g11, g12, g13⟩ := hI
      have z2 : N2 2 1 = 0 := (cx' 2 _ rfl rfl).trans n2
      refine ⟨rfl, N2, sN2, ?_⟩
      exact ⟨⟨m13.trans z2.symm, Int.le_of_eq z2.symm, by rw [show N2 2 1 = 0 from z2]; decide, fun j a b => by rw [show N2 2 1 = 0 from z2] at b; exact absurd b (by omega)⟩, (fun j a b => by rw [m13] at b; exact absurd b (by omega)), ⟨zd_z_IPl ⟨zc_x_n hx 304067 rfl (fun _ => rfl), zc_x_n hx 301019 rfl (fun _ => rfl), zc_x_n hx 301069 rfl (fun _ => rfl), zc_x_n hx 28801071 rfl (fun _ => rfl), zc_x_n hx 28801021 rfl (fun _ => rfl)⟩ g2, zd_z_IVer ⟨zc_x_n hx 101091 rfl (fun _ => rfl), zc_x_n hx 101023 rfl (fun _ => rfl), zc_x_n hx 304067 rfl (fun _ => rfl), hx 13 48 rfl rfl, hx 4 9 rfl rfl⟩ g3⟩, zd_z_ITown ⟨zc_x_n hx 1001015 rfl (fun _ => rfl), zc_x_n hx 1001065 rfl (fun _ => rfl), zc_x_n hx 100001017 rfl (fun _ => rfl)⟩ g4, ⟨zd_z_ILm ⟨zc_x_n hx 2401080 rfl (fun _ => rfl), zc_x_n hx 161077 rfl (fun _ => rfl), zc_x_n hx 161078 rfl (fun _ => rfl), zc_x_n hx 161079 rfl (fun _ => rfl), hx 13 29 rfl rfl⟩ g5, zd_z_ILc ⟨zc_x_n hx 641027 rfl (fun _ => rfl), zc_x_n hx 2401025 rfl (fun _ => rfl), zc_x_n hx 161076 rfl (fun _ => rfl), zc_x_n hx 161077 rfl (fun _ => rfl), zc_x_n hx 161078 rfl (fun _ => rfl), zc_x_n hx 161079 rfl (fun _ => rfl), zc_x_n hx 2401080 rfl (fun _ => rfl), zc_x_n hx 2401081 rfl (fun _ => rfl), hx 5 6 rfl rfl, hx 13 29 rfl rfl⟩ g6⟩, zd_z_IRep ⟨zc_x_n hx 2401035 rfl (fun _ => rfl), zc_x_n hx 401092 rfl (fun _ => rfl), zc_x_n hx 401093 rfl (fun _ => rfl), zc_x_n hx 401094 rfl (fun _ => rfl), zc_x_n hx 401095 rfl (fun _ => rfl), zc_x_n hx 401096 rfl (fun _ => rfl), zc_x_n hx 401097 rfl (fun _ => rfl), zc_x_n hx 304067 rfl (fun _ => rfl), hx 7 5 rfl rfl, hx 13 49 rfl rfl⟩ g7, ⟨by rw [mk]; exact (cx' 11 _ rfl rfl).trans nk, by rw [mk]; omega, by rw [mk]; omega, fun j j0 j1 => by rw [mk] at j1; obtain ⟨r1, r2, r3, r4⟩ := rows' j j0 j1; obtain ⟨q1, q2, _, _⟩ := rows j j0 j1; rw [r1, r2, zc_x_n cx' 121050 rfl (fun _ => rfl), zc_x_n cx' 121051 rfl (fun _ => rfl), q1, q2]; exact ⟨rfl, rfl, r3, r4⟩⟩, zd_z_ITk ⟨zc_x_n hx 101056 rfl (fun _ => rfl), zc_x_n hx 101116 rfl (fun _ => rfl)⟩ g9, zd_z_ITh ⟨zc_x_n hx 241058 rfl (fun _ => rfl), zc_x_n hx 61120 rfl (fun _ => rfl), zc_x_n hx 64121 rfl (fun _ => rfl), zc_x_n hx 61122 rfl (fun _ => rfl), zc_x_n hx 61123 rfl (fun _ => rfl), zc_x_n hx 61124 rfl (fun _ => rfl), zc_x_n hx 304067 rfl (fun _ => rfl)⟩ g10, zd_zx_Q0 (zc_x_n hx 10241045 rfl (fun _ => rfl)) g11, zd_z_IW ⟨zc_x_n hx 304067 rfl (fun _ => rfl), zc_x_n hx 301068 rfl (fun _ => rfl), zc_x_n hx 301018 rfl (fun _ => rfl), zc_x_n hx 301069 rfl (fun _ => rfl), zc_x_n hx 28501020 rfl (fun _ => rfl), zc_x_n hx 28501070 rfl (fun _ => rfl), zc_x_n hx 28801021 rfl (fun _ => rfl), zc_x_n hx 1001065 rfl (fun _ => rfl)⟩ g12, zd_z_IKp ⟨zc_x_n hx 101129 rfl (fun _ => rfl), zc_x_n hx 101024 rfl (fun _ => rfl), zc_x_n hx 304067 rfl (fun _ => rfl), zc_x_n hx 2401037 rfl (fun _ => rfl), zc_x_n hx 2401131 rfl (fun _ => rfl), zc_x_n hx 101057 rfl (fun _ => rfl), zc_x_n hx 101130 rfl (fun _ => rfl), zc_x_n hx 241059 rfl (fun _ => rfl), zc_x_n hx 301132 rfl (fun _ => rfl), hx 1 11 rfl rfl, hx 13 100 rfl rfl, hx 13 105 rfl rfl, hx 4 10 rfl rfl, hx 7 7 rfl rfl, hx 13 106 rfl rfl⟩ g13⟩
    · rw [e] at e'; cases e'
  · obtain ⟨t1, t2⟩ := zd_text hT b1 b3
    refine km_tram (q := zr_q S a1) 55 sN (fun _ _ _ => ⟨t1, t2⟩) (Int.le_trans (Int.le_of_eq et) e20) (fun _ _ _ k' sp' mi' N2 e' _ _ _ _ _ _ _ => ?_) (fun _ _ _ f' N2 e' sN2 => ?_) (fun nc => absurd ⟨b1, b2, Int.le_trans b3 (Int.le_of_eq et.symm)⟩ nc)
    · rw [e] at e'; cases e'
    · rw [e] at e'
      have : f = f' := Sum.inl.inj e'
      rw [this]
      exact ⟨rfl, _, sN2, zd_0_I hI⟩
  · refine km_tram (q := fun _ => -1) 55 hS (fun x1 x2 x3 => absurd ⟨x1, x2, by omega⟩ nc) (by omega) (fun x1 x2 x3 => absurd ⟨x1, x2, by omega⟩ nc) (fun x1 x2 x3 => absurd ⟨x1, x2, by omega⟩ nc) (fun _ => ⟨rfl, S, hS, hI⟩)
end ZTC
