/-! THE TABLE: the town -/
section ZTG
variable {S S' M N N2 : z_M} {a1 a2 a3 a4 a5 a6 : Int}
/-- both walk alike -/
theorem zd_walk {g : Int → Int} {w : Int} {A B : z_M} (h1 : A 301018 w = B 301068 w) (h2 : A 301019 w = B 301069 w) (h3 : ∀ t : Int, 0 ≤ t → t < B 301069 w → A 28501020 (95 * w + t) = zk_ch (B 28501070 (95 * w + t))) (t : Nat) : zk_c A g w t = zk_m B g w t := by
  unfold zk_c zk_m
  rw [h1, h2]
  exact zk_w_cg (fun _ _ _ => rfl) h3 t
theorem zd_ok (hP : z_IPl S) (hW : z_IW S) (hS : z_sit S M) (w : Int) (w0 : 0 ≤ w) (w1 : w < 30) (hl : 0 ≤ M 301019 w) : S 304067 w = 1 ∧ zk_ok M w := by
  rw [z_fn hS 301019 rfl] at hl
  have hp : S 304067 w = 1 := by
    rcases hP.1 w w0 w1 with z | z
    · omega
    · exact z.1
  obtain ⟨b1, b2, b3, b4⟩ := hW w w0 w1 hp
  have hL : S 301019 w = S 301069 w ∧ S 301069 w ≤ 95 := by
    rcases hP.1 w w0 w1 with z | z
    · omega
    · exact ⟨z.2.1, z.2.2.2⟩
  refine ⟨hp, ?_⟩
  unfold zk_ok
  rw [z_fn hS 301018 rfl, z_fn hS 301019 rfl, z_fn hS 28501020 rfl]
  refine ⟨by rw [b2]; exact b1, by omega, fun t t0 t1 => ?_⟩
  rw [b3 t t0 (by omega)]
  exact zk_ch_wy _
theorem zz_op1 (hS : z_sit S M) (hI : zz_I S) : z_case 60 zz_P M a1 a2 a3 a4 a5 a6 1 := by
  have hI0 := hI
  have hT := hI.1
  have et : S 13 1 = S 2 1 := hT.1
  obtain ⟨g0, g1, ⟨g2, g3⟩, g4, ⟨g5, g6⟩, g7, g8, g9, g10, g11, g12, g13⟩ := hI
  refine kc_town 55 hS hT (fun w w0 w1 hl => (zd_ok g2 g12 hS w w0 w1 hl).2) (fun b1 b2 b3 g N e cx sN n2 eW eA eS => ⟨⟨_, rfl⟩, ?_⟩) (fun b1 b2 b3 f N e sN => ⟨⟨_, rfl⟩, ?_⟩) (fun nc => ⟨⟨_, rfl⟩, ?_⟩)
  · obtain ⟨t1, t2⟩ := zd_text hT b1 b3
    have hx1 := zd_sx hS cx
    have eN : N 2603064 = S 2603064 := zc_x_n hx1 _ rfl (fun _ => rfl)
    have e13 : N 13 1 = S 13 1 := hx1 13 _ rfl rfl
    have eP1 : N 304067 = S 304067 := zc_x_n hx1 _ rfl (fun _ => rfl)
    have eS1 : N 301068 = S 301068 := zc_x_n hx1 _ rfl (fun _ => rfl)
    have eL1 : N 301069 = S 301069 := zc_x_n hx1 _ rfl (fun _ => rfl)
    have eT1 : N 28501070 = S 28501070 := zc_x_n hx1 _ rfl (fun _ => rfl)
    have pl1 : ∀ w : Int, 0 ≤ w → w < 30 → N 304067 w ≠ 0 → S 304067 w = 1 ∧ S 301019 w = S 301069 w ∧ 0 ≤ S 301069 w ∧ S 301069 w ≤ 95 := fun w w0 w1 hp => by
      rw [eP1] at hp
      rcases g2.1 w w0 w1 with z | z
      · exact absurd z.1 hp
      · exact z
    refine km_town (q := zr_q S a1) 56 sN (fun _ _ _ => ⟨t1, fun i i0 i1 => by rw [eN]; exact t2 i i0 i1⟩) (fun w w0 w1 hp => ?_) (fun _ _ _ g' N2 e' cx' sN2 m13 eG eO => ?_) (fun _ _ _ f N2 e' sN2 => ?_) (fun nc => absurd ⟨b1, b2, by omega⟩ nc)
    · obtain ⟨p1, p2, p3, p4⟩ := pl1 w w0 w1 hp
      rw [eS1, eL1]
      exact ⟨(g12 w w0 w1 p1).1.1, (g12 w w0 w1 p1).1.2, p4⟩
    · rw [e] at e'
      have hh : g = g' := Sum.inr.inj e'
      subst hh
      have hx := zd_x2 hx1 cx'
      have z2 : N2 2 1 = 0 := (cx' 2 _ rfl rfl).trans n2
      have eWG : N2 1001015 = N2 1001065 := by
        rw [zc_x_n cx' 1001015 rfl (fun _ => rfl), eW, eG, z_fn hS 1001015 rfl, g4.1, zc_x_n hx1 1001065 rfl (fun _ => rfl)]
      have eWN : N 1001015 = N2 1001065 := (zc_x_n cx' 1001015 rfl (fun _ => rfl)).symm.trans eWG
      have eP : N2 304067 = S 304067 := zc_x_n hx _ rfl (fun _ => rfl)
      have eS2 : N2 301068 = S 301068 := zc_x_n hx _ rfl (fun _ => rfl)
      have eL2 : N2 301069 = S 301069 := zc_x_n hx _ rfl (fun _ => rfl)
      have eT2 : N2 28501070 = S 28501070 := zc_x_n hx _ rfl (fun _ => rfl)
      have gb := zw_go_b 27 0 (fun _ => 0) 0 g (fun _ => by decide) e
      -- where the plans lead now
      have sp : ∀ w : Int, 0 ≤ w → w < 30 → S 304067 w = 1 → ∀ t : Nat, t < 96 → N2 28801021 (96 * w + (t : Int)) = zk_m S (N2 1001065) w t ∧ N2 28801071 (96 * w + (t : Int)) = zk_m S (N2 1001065) w t := by
        intro w w0 w1 hp t ht
        obtain ⟨_, p2, p3, p4⟩ := pl1 w w0 w1 (by rw [eP1, hp]; decide)
        obtain ⟨b1, b2, b3, _⟩ := g12 w w0 w1 hp
        refine ⟨?_, ?_⟩
        · rw [zc_x_n cx' 28801021 rfl (fun _ => rfl), eS w w0 w1 (by rw [z_fn hS 301019 rfl, p2]; exact p3) t ht, eWN]
          exact zd_walk (by rw [z_fn hS 301018 rfl]; exact b2) (by rw [z_fn hS 301019 rfl]; exact p2) (fun t t0 t1 => by rw [z_fn hS 28501020 rfl]; exact b3 t t0 t1) t
        · rw [eO w w0 w1 (by rw [eP1, hp]; decide) t ht]
          unfold zk_m
          rw [eS1, eL1, eT1]
      have hTn : z_ITown N2 := by
        refine ⟨eWG, fun j j0 j1 => ?_, fun f t f0 f1 t0 t1 => ?_⟩
        · rw [eWG, eG]
          unfold zw_gr
          rw [if_pos ⟨j0, j1⟩]
          exact gb j
        · rw [zc_x_n cx' 100001017 rfl (fun _ => rfl), zc_x_n cx' 1001015 rfl (fun _ => rfl)]
          exact eA f t f0 f1 t0 t1
      have hPl : z_IPl N2 := by
        unfold z_IPl
        rw [eP, eL2, zc_x_n hx 301019 rfl (fun _ => rfl)]
        refine ⟨g2.1, g2.2.1, fun w t w0 w1 t0 t1 hp => ?_⟩
        obtain ⟨n, rfl⟩ := Int.eq_ofNat_of_zero_le t0
        obtain ⟨u1, u2⟩ := sp w w0 w1 hp n (by omega)
        rw [u1, u2]
        unfold zk_m
        exact ⟨rfl, zk_w_b (g12 w w0 w1 hp).1.1 (g12 w w0 w1 hp).1.2 n⟩
      have hW : z_IW N2 := by
        intro w w0 w1 hp
        rw [eP] at hp
        obtain ⟨b1, b2, b3, _⟩ := g12 w w0 w1 hp
        refine ⟨by rw [eS2]; exact b1, by rw [eS2, zc_x_n hx 301018 rfl (fun _ => rfl)]; exact b2, by rw [eL2, eT2, zc_x_n hx 28501020 rfl (fun _ => rfl)]; exact b3, fun t ht => ?_⟩
        rw [(sp w w0 w1 hp t ht).1]
        unfold zk_m
        rw [eS2, eL2, eT2]
      refine ⟨by rw [eWN], N2, sN2, ?_⟩
      exact ⟨⟨m13.trans z2.symm, Int.le_of_eq z2.symm, by rw [show N2 2 1 = 0 from z2]; decide, fun j a b => by rw [show N2 2 1 = 0 from z2] at b; exact absurd b (by omega)⟩, (fun j a b => by rw [m13] at b; exact absurd b (by omega)), ⟨hPl, zd_z_IVer ⟨zc_x_n hx 101091 rfl (fun _ => rfl), zc_x_n hx 101023 rfl (fun _ => rfl), zc_x_n hx 304067 rfl (fun _ => rfl), hx 13 48 rfl rfl, hx 4 9 rfl rfl⟩ g3⟩, hTn, ⟨zd_z_ILm ⟨zc_x_n hx 2401080 rfl (fun _ => rfl), zc_x_n hx 161077 rfl (fun _ => rfl), zc_x_n hx 161078 rfl (fun _ => rfl), zc_x_n hx 161079 rfl (fun _ => rfl), hx 13 29 rfl rfl⟩ g5, zd_z_ILc ⟨zc_x_n hx 641027 rfl (fun _ => rfl), zc_x_n hx 2401025 rfl (fun _ => rfl), zc_x_n hx 161076 rfl (fun _ => rfl), zc_x_n hx 161077 rfl (fun _ => rfl), zc_x_n hx 161078 rfl (fun _ => rfl), zc_x_n hx 161079 rfl (fun _ => rfl), zc_x_n hx 2401080 rfl (fun _ => rfl), zc_x_n hx 2401081 rfl (fun _ => rfl), hx 5 6 rfl rfl, hx 13 29 rfl rfl⟩ g6⟩, zd_z_IRep ⟨zc_x_n hx 2401035 rfl (fun _ => rfl), zc_x_n hx 401092 rfl (fun _ => rfl), zc_x_n hx 401093 rfl (fun _ => rfl), zc_x_n hx 401094 rfl (fun _ => rfl), zc_x_n hx 401095 rfl (fun _ => rfl), zc_x_n hx 401096 rfl (fun _ => rfl), zc_x_n hx 401097 rfl (fun _ => rfl), zc_x_n hx 304067 rfl (fun _ => rfl), hx 7 5 rfl rfl, hx 13 49 rfl rfl⟩ g7, zd_z_ITr ⟨zc_x_n hx 121050 rfl (fun _ => rfl), zc_x_n hx 121112 rfl (fun _ => rfl), zc_x_n hx 121051 rfl (fun _ => rfl), zc_x_n hx 121113 rfl (fun _ => rfl), hx 11 5 rfl rfl, hx 13 81 rfl rfl⟩ g8, zd_z_ITk ⟨zc_x_n hx 101056 rfl (fun _ => rfl), zc_x_n hx 101116 rfl (fun _ => rfl)⟩ g9, zd_z_ITh ⟨zc_x_n hx 241058 rfl (fun _ => rfl), zc_x_n hx 61120 rfl (fun _ => rfl), zc_x_n hx 64121 rfl (fun _ => rfl), zc_x_n hx 61122 rfl (fun _ => rfl), zc_x_n hx 61123 rfl (fun _ => rfl), zc_x_n hx 61124 rfl (fun _ => rfl), zc_x_n hx 304067 rfl (fun _ => rfl)⟩ g10, zd_zx_Q0 (zc_x_n hx 10241045 rfl (fun _ => rfl)) g11, hW, zd_z_IKp ⟨zc_x_n hx 101129 rfl (fun _ => rfl), zc_x_n hx 101024 rfl (fun _ => rfl), zc_x_n hx 304067 rfl (fun _ => rfl), zc_x_n hx 2401037 rfl (fun _ => rfl), zc_x_n hx 2401131 rfl (fun _ => rfl), zc_x_n hx 101057 rfl (fun _ => rfl), zc_x_n hx 101130 rfl (fun _ => rfl), zc_x_n hx 241059 rfl (fun _ => rfl), zc_x_n hx 301132 rfl (fun _ => rfl), hx 1 11 rfl rfl, hx 13 100 rfl rfl, hx 13 105 rfl rfl, hx 4 10 rfl rfl, hx 7 7 rfl rfl, hx 13 106 rfl rfl⟩ g13⟩
    · rw [e] at e'; cases e'
  · obtain ⟨t1, t2⟩ := zd_text hT b1 b3
    have cS := hS.1
    have eNp : ∀ k, z_cak k = true → N k = S k := fun k hk => by
      rw [z_fn sN k hk]
      exact z_up_ne (fun z => by rw [z] at hk; cases hk)
    refine km_town (q := zr_q S a1) 56 sN (fun _ _ _ => ⟨t1, t2⟩) (fun w w0 w1 hp => ?_) (fun _ _ _ g' N2 e' _ _ _ _ _ => ?_) (fun _ _ _ f' N2 e' sN2 => ?_) (fun nc => absurd ⟨b1, b2, Int.le_trans b3 (Int.le_of_eq et.symm)⟩ nc)
    · rw [eNp _ rfl] at hp
      have hp1 : S 304067 w = 1 := by
        rcases g2.1 w w0 w1 with z | z
        · exact absurd z.1 hp
        · exact z.1
      rw [eNp 301068 rfl, eNp 301069 rfl]
      refine ⟨(g12 w w0 w1 hp1).1.1, (g12 w w0 w1 hp1).1.2, ?_⟩
      rcases g2.1 w w0 w1 with z | z
      · exact absurd z.1 hp
      · exact z.2.2.2
    · rw [e] at e'; cases e'
    · rw [e] at e'
      have : f = f' := Sum.inl.inj e'
      rw [this]
      exact ⟨rfl, _, sN2, zd_0_I hI0⟩
  · refine km_town (q := fun _ => -1) 56 hS (fun x1 x2 x3 => absurd ⟨x1, x2, by omega⟩ nc) (fun w w0 w1 hp => ?_) (fun x1 x2 x3 => absurd ⟨x1, x2, by omega⟩ nc) (fun x1 x2 x3 => absurd ⟨x1, x2, by omega⟩ nc) (fun _ => ⟨rfl, S, hS, hI0⟩)
    rw [z_fn hS 304067 rfl] at hp
    have hp1 : S 304067 w = 1 := by
      rcases g2.1 w w0 w1 with z | z
      · exact absurd z.1 hp
      · exact z.1
    rw [z_fn hS 301068 rfl, z_fn hS 301069 rfl]
    refine ⟨(g12 w w0 w1 hp1).1.1, (g12 w w0 w1 hp1).1.2, ?_⟩
    rcases g2.1 w w0 w1 with z | z
    · exact absurd z.1 hp
    · exact z.2.2.2
end ZTG
