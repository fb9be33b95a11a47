/-! THE TABLE: keep, undo -/
section ZTF
variable {S S' M N N2 : z_M} {a1 a2 a3 a4 a5 a6 : Int}
def zd_kc (a : Nat) (j : Int) : Bool := a == 1 || (a == 4 && j == 10) || (a == 7 && j == 7) || a == 101024 || a == 2401037 || a == 101057 || a == 241059
def zd_km (a : Nat) (j : Int) : Bool := (a == 13 && (j == 100 || j == 105 || j == 106)) || a == 101129 || a == 101130 || a == 2401131 || a == 301132
def zd_uc (a : Nat) (j : Int) : Bool := (a == 4 && j == 9) || (a == 7 && j == 5) || a == 101023 || a == 2401035 || a == 101056 || a == 241058
def zd_um (a : Nat) (j : Int) : Bool := (a == 13 && (j == 48 || j == 49)) || a == 101091 || a == 101116 || a == 401092 || a == 401093 || a == 401094 || a == 401095 || a == 401096 || a == 401097 || a == 61120 || a == 64121 || a == 61122 || a == 61123 || a == 61124
theorem zd_kc_x (h : zy_kpc M N) : zc_x zd_kc M N := by
  intro k j _ hx
  unfold zd_kc at hx
  simp only [Bool.or_eq_false_iff, Bool.and_eq_false_iff, beq_eq_false_iff_ne] at hx
  obtain ⟨⟨⟨⟨⟨⟨x1, x2⟩, x3⟩, x4⟩, x5⟩, x6⟩, x7⟩ := hx
  by_cases c4 : k = 4
  · rw [c4]; exact h.2.2.1 j (x2.resolve_left (fun z => z c4))
  · by_cases c7 : k = 7
    · rw [c7]; exact h.2.2.2.2.1 j (x3.resolve_left (fun z => z c7))
    · rw [h.1 k (by unfold zy_kck; simp only [Bool.or_eq_false_iff, beq_eq_false_iff_ne]; exact ⟨⟨⟨⟨⟨⟨x1, c4⟩, c7⟩, x4⟩, x5⟩, x6⟩, x7⟩)]
theorem zd_km_x (h : zy_kpm M N) : zc_x zd_km M N := by
  intro k j _ hx
  unfold zd_km at hx
  simp only [Bool.or_eq_false_iff, Bool.and_eq_false_iff, beq_eq_false_iff_ne] at hx
  obtain ⟨⟨⟨⟨x1, x2⟩, x3⟩, x4⟩, x5⟩ := hx
  by_cases c13 : k = 13
  · obtain ⟨⟨y1, y2⟩, y3⟩ := x1.resolve_left (fun z => z c13)
    rw [c13]; exact h.2.1 j y1 y2 y3
  · rw [h.1 k (by unfold zy_kmk; simp only [Bool.or_eq_false_iff, beq_eq_false_iff_ne]; exact ⟨⟨⟨⟨c13, x2⟩, x3⟩, x4⟩, x5⟩)]
theorem zd_uc_x (h : zy_unc M N) : zc_x zd_uc M N := by
  intro k j _ hx
  unfold zd_uc at hx
  simp only [Bool.or_eq_false_iff, Bool.and_eq_false_iff, beq_eq_false_iff_ne] at hx
  obtain ⟨⟨⟨⟨⟨x1, x2⟩, x3⟩, x4⟩, x5⟩, x6⟩ := hx
  by_cases c4 : k = 4
  · rw [c4]; exact h.2.1 j (x1.resolve_left (fun z => z c4))
  · by_cases c7 : k = 7
    · rw [c7]; exact h.2.2.2.1 j (x2.resolve_left (fun z => z c7))
    · rw [h.1 k (by unfold zy_uck; simp only [Bool.or_eq_false_iff, beq_eq_false_iff_ne]; exact ⟨⟨⟨⟨⟨c4, c7⟩, x3⟩, x4⟩, x5⟩, x6⟩)]
theorem zd_um_x (h : zy_unm M N) : zc_x zd_um M N := by
  intro k j _ hx
  unfold zd_um at hx
  simp only [Bool.or_eq_false_iff, Bool.and_eq_false_iff, beq_eq_false_iff_ne] at hx
  obtain ⟨⟨⟨⟨⟨⟨⟨⟨⟨⟨⟨⟨⟨x0, x1⟩, x2⟩, x3⟩, x4⟩, x5⟩, x6⟩, x7⟩, x8⟩, x9⟩, y1⟩, y2⟩, y3⟩, y4⟩ := hx
  by_cases c13 : k = 13
  · obtain ⟨z1, z2⟩ := x0.resolve_left (fun z => z c13)
    rw [c13]; exact h.2.1 j z1 z2
  · rw [h.1 k (by unfold zy_umk; simp only [Bool.or_eq_false_iff, beq_eq_false_iff_ne]; exact ⟨⟨⟨⟨⟨⟨⟨⟨⟨⟨⟨⟨⟨c13, x1⟩, x2⟩, x3⟩, x4⟩, x5⟩, x6⟩, x7⟩, x8⟩, x9⟩, y1⟩, y2⟩, y3⟩, y4⟩)]
theorem zz_op43 (hS : z_sit S M) (hI : zz_I S) : z_case 60 zz_P M a1 a2 a3 a4 a5 a6 43 := by
  obtain ⟨g0, g1, ⟨g2, g3⟩, g4, ⟨g5, g6⟩, g7, g8, g9, g10, g11, g12, g13⟩ := hI
  refine kc_keep 59 hS (fun N sN kp => ⟨⟨_, rfl⟩, ?_⟩)
  have hx1 := zd_sx hS (zd_kc_x kp)
  have er : N 13 49 = S 13 49 := hx1 13 _ rfl rfl
  refine km_keep 60 sN (by rw [er]; exact g7.2.1) (by rw [er]; exact g7.2.2.1) (fun i i0 i1 => ?_) (fun N2 sN2 km => ⟨?_, N2, sN2, ?_⟩)
  · rw [zc_x_n hx1 64121 rfl (fun _ => rfl)]
    exact (g10 i i0 i1).2.2.imp (fun z => z.1) (fun z => z.1)
  · rw [er, z_ff hS 7 5 rfl, g7.1]
  · have cm := zd_km_x km
    have hx := zd_x2 hx1 cm
    obtain ⟨_, p1, _, p2, _, p3, p4, p5, p6, p7⟩ := kp
    obtain ⟨_, _, m1, m2, m3, m4, m5, m6⟩ := km
    have eP : N2 304067 = S 304067 := zc_x_n hx _ rfl (fun _ => rfl)
    have hK : z_IKp N2 := by
      refine ⟨by rw [m1]; exact (cm 1 _ rfl rfl).trans p1, Or.inr m1, fun _ => ⟨?_, ?_, ?_, ?_⟩⟩
      · rw [eP, m2, show N2 4 10 = S 4 9 from ((cm 4 _ rfl rfl).trans p2).trans (z_ff hS 4 _ rfl), show N 13 48 = S 13 48 from hx1 13 _ rfl rfl]
        refine z_pVer_pt g3 (fun y y0 y1 => ?_) (fun _ z => z)
        rw [(m4 y y0 y1).1, zc_x_n hx1 101091 rfl (fun _ => rfl), zc_x_n cm 101024 rfl (fun _ => rfl), p4 y y0 y1, z_fn hS 101023 rfl]
        exact ⟨rfl, rfl⟩
      · rw [eP, m3, er, show N2 7 7 = S 7 5 from ((cm 7 _ rfl rfl).trans p3).trans (z_ff hS 7 _ rfl)]
        refine z_pRep_pt (z_IRep_p.mp g7) (fun y y0 y1 => ?_) (fun y y0 y1 => ?_) (fun _ z => z)
        · rw [zc_x_n cm 2401037 rfl (fun _ => rfl), p5 y y0 y1, z_fn hS 2401035 rfl]
        · have q : ∀ c : Nat, c < 6 → N2 2401131 (6 * y + (c : Int)) = N (zy_r6 c) y := fun c hc => m5 y c y0 (by rw [er]; exact y1) hc
          exact ⟨(q 0 (by decide)).trans (congrFun (zc_x_n hx1 401092 rfl (fun _ => rfl)) y), (q 1 (by decide)).trans (congrFun (zc_x_n hx1 401093 rfl (fun _ => rfl)) y), (q 2 (by decide)).trans (congrFun (zc_x_n hx1 401094 rfl (fun _ => rfl)) y), (q 3 (by decide)).trans (congrFun (zc_x_n hx1 401095 rfl (fun _ => rfl)) y), (q 4 (by decide)).trans (congrFun (zc_x_n hx1 401096 rfl (fun _ => rfl)) y), (q 5 (by decide)).trans (congrFun (zc_x_n hx1 401097 rfl (fun _ => rfl)) y)⟩
      · refine z_pTk_pt (z_ITk_p.mp g9) (fun y y0 y1 => ?_)
        rw [(m4 y y0 y1).2, zc_x_n hx1 101116 rfl (fun _ => rfl), zc_x_n cm 101057 rfl (fun _ => rfl), p6 y y0 y1, z_fn hS 101056 rfl]
        exact ⟨rfl, rfl⟩
      · rw [eP]
        refine z_pTh_pt (z_ITh_p.mp g10) (fun y y0 y1 => ?_) (fun y y0 y1 => ?_) (fun _ z => z)
        · rw [zc_x_n cm 241059 rfl (fun _ => rfl), p7 y y0 y1, z_fn hS 241058 rfl]
        · have q : ∀ c : Nat, c < 5 → N2 301132 (5 * y + (c : Int)) = N (zy_r5 c) y := fun c hc => m6 y c y0 y1 hc
          exact ⟨(q 0 (by decide)).trans (congrFun (zc_x_n hx1 61120 rfl (fun _ => rfl)) y), (q 1 (by decide)).trans (congrFun (zc_x_n hx1 64121 rfl (fun _ => rfl)) y), (q 2 (by decide)).trans (congrFun (zc_x_n hx1 61122 rfl (fun _ => rfl)) y), (q 3 (by decide)).trans (congrFun (zc_x_n hx1 61123 rfl (fun _ => rfl)) y), (q 4 (by decide)).trans (congrFun (zc_x_n hx1 61124 rfl (fun _ => rfl)) y)⟩
    exact ⟨zd_z_ITape ⟨zc_x_n hx 2601014 rfl (fun _ => rfl), zc_x_n hx 2603064 rfl (fun _ => rfl), hx 13 1 rfl rfl, hx 2 1 rfl rfl⟩ g0, zd_z_IRaw ⟨zc_x_n hx 2603064 rfl (fun _ => rfl), hx 13 1 rfl rfl⟩ g1, ⟨zd_z_IPl ⟨zc_x_n hx 304067 rfl (fun _ => rfl), zc_x_n hx 301019 rfl (fun _ => rfl), zc_x_n hx 301069 rfl (fun _ => rfl), zc_x_n hx 28801071 rfl (fun _ => rfl), zc_x_n hx 28801021 rfl (fun _ => rfl)⟩ g2, zd_z_IVer ⟨zc_x_n hx 101091 rfl (fun _ => rfl), zc_x_n hx 101023 rfl (fun _ => rfl), zc_x_n hx 304067 rfl (fun _ => rfl), hx 13 48 rfl rfl, hx 4 9 rfl rfl⟩ g3⟩, zd_z_ITown ⟨zc_x_n hx 1001015 rfl (fun _ => rfl), zc_x_n hx 1001065 rfl (fun _ => rfl), zc_x_n hx 100001017 rfl (fun _ => rfl)⟩ g4, ⟨zd_z_ILm ⟨zc_x_n hx 2401080 rfl (fun _ => rfl), zc_x_n hx 161077 rfl (fun _ => rfl), zc_x_n hx 161078 rfl (fun _ => rfl), zc_x_n hx 161079 rfl (fun _ => rfl), hx 13 29 rfl rfl⟩ g5, zd_z_ILc ⟨zc_x_n hx 641027 rfl (fun _ => rfl), zc_x_n hx 2401025 rfl (fun _ => rfl), zc_x_n hx 161076 rfl (fun _ => rfl), zc_x_n hx 161077 rfl (fun _ => rfl), zc_x_n hx 161078 rfl (fun _ => rfl), zc_x_n hx 161079 rfl (fun _ => rfl), zc_x_n hx 2401080 rfl (fun _ => rfl), zc_x_n hx 2401081 rfl (fun _ => rfl), hx 5 6 rfl rfl, hx 13 29 rfl rfl⟩ g6⟩, zd_z_IRep ⟨zc_x_n hx 2401035 rfl (fun _ => rfl), zc_x_n hx 401092 rfl (fun _ => rfl), zc_x_n hx 401093 rfl (fun _ => rfl), zc_x_n hx 401094 rfl (fun _ => rfl), zc_x_n hx 401095 rfl (fun _ => rfl), zc_x_n hx 401096 rfl (fun _ => rfl), zc_x_n hx 401097 rfl (fun _ => rfl), zc_x_n hx 304067 rfl (fun _ => rfl), hx 7 5 rfl rfl, hx 13 49 rfl rfl⟩ g7, zd_z_ITr ⟨zc_x_n hx 121050 rfl (fun _ => rfl), zc_x_n hx 121112 rfl (fun _ => rfl), zc_x_n hx 121051 rfl (fun _ => rfl), zc_x_n hx 121113 rfl (fun _ => rfl), hx 11 5 rfl rfl, hx 13 81 rfl rfl⟩ g8, zd_z_ITk ⟨zc_x_n hx 101056 rfl (fun _ => rfl), zc_x_n hx 101116 rfl (fun _ => rfl)⟩ g9, zd_z_ITh ⟨zc_x_n hx 241058 rfl (fun _ => rfl), zc_x_n hx 61120 rfl (fun _ => rfl), zc_x_n hx 64121 rfl (fun _ => rfl), zc_x_n hx 61122 rfl (fun _ => rfl), zc_x_n hx 61123 rfl (fun _ => rfl), zc_x_n hx 61124 rfl (fun _ => rfl), zc_x_n hx 304067 rfl (fun _ => rfl)⟩ g10, zd_zx_Q0 (zc_x_n hx 10241045 rfl (fun _ => rfl)) g11, zd_z_IW ⟨zc_x_n hx 304067 rfl (fun _ => rfl), zc_x_n hx 301068 rfl (fun _ => rfl), zc_x_n hx 301018 rfl (fun _ => rfl), zc_x_n hx 301069 rfl (fun _ => rfl), zc_x_n hx 28501020 rfl (fun _ => rfl), zc_x_n hx 28501070 rfl (fun _ => rfl), zc_x_n hx 28801021 rfl (fun _ => rfl), zc_x_n hx 1001065 rfl (fun _ => rfl)⟩ g12, hK⟩
theorem zz_op44 (hS : z_sit S M) (hI : zz_I S) : z_case 60 zz_P M a1 a2 a3 a4 a5 a6 44 := by
  have hI0 := hI
  obtain ⟨g0, g1, ⟨g2, g3⟩, g4, ⟨g5, g6⟩, g7, g8, g9, g10, g11, g12, g13⟩ := hI
  obtain ⟨k1, k2, k3⟩ := id g13
  have eK : M 1 11 = S 13 100 := (z_ff hS 1 _ rfl).trans k1
  refine kc_undo 59 hS (fun cK N sN un => ⟨⟨_, rfl⟩, ?_⟩) (fun cK => ⟨⟨_, rfl⟩, ?_⟩)
  · have hx1 := zd_sx hS (zd_uc_x un)
    have ek : N 13 100 = S 13 100 := hx1 13 _ rfl rfl
    obtain ⟨kv, kr, kt, kh⟩ := k3 (by omega)
    have eP1 : N 304067 = S 304067 := zc_x_n hx1 _ rfl (fun _ => rfl)
    have ekm : N 13 106 = S 13 106 := hx1 13 _ rfl rfl
    refine km_undo 60 sN (fun _ => ⟨by rw [ekm]; exact ⟨kr.2.1, kr.2.2.1⟩, fun i i0 i1 => ?_, fun y y0 y1 => ?_⟩) (fun _ N2 sN2 um => ⟨rfl, N2, sN2, ?_⟩) (fun c => absurd c (by rw [ek]; omega))
    · rw [zc_x_n hx1 301132 rfl (fun _ => rfl)]
      exact (kh i i0 i1).2.2.imp (fun z => z.1) (fun z => z.1)
    · obtain ⟨v1, v2, v3, v4⟩ := kv.1 y y0 y1
      rw [zc_x_n hx1 101129 rfl (fun _ => rfl), eP1, v1]
      exact ⟨v2, v3, v4⟩
    · have cm := zd_um_x um
      have hx := zd_x2 hx1 cm
      obtain ⟨_, _, p2, _, p3, p4, p5, p6, p7⟩ := un
      obtain ⟨_, _, m2, m3, m4, m5, m6⟩ := um
      have eP : N2 304067 = S 304067 := zc_x_n hx _ rfl (fun _ => rfl)
      have hV : z_IVer N2 := by
        unfold z_IVer
        rw [eP, m2, show N2 4 9 = S 4 10 from ((cm 4 _ rfl rfl).trans p2).trans (z_ff hS 4 _ rfl), show N 13 105 = S 13 105 from hx1 13 _ rfl rfl]
        refine z_pVer_pt kv (fun y y0 y1 => ?_) (fun _ z => z)
        rw [(m4 y y0 y1).1, zc_x_n hx1 101129 rfl (fun _ => rfl), zc_x_n cm 101023 rfl (fun _ => rfl), p4 y y0 y1, z_fn hS 101024 rfl]
        exact ⟨rfl, rfl⟩
      have hR : z_IRep N2 := by
        rw [z_IRep_p, eP, m3, ekm, show N2 7 5 = S 7 7 from ((cm 7 _ rfl rfl).trans p3).trans (z_ff hS 7 _ rfl)]
        refine z_pRep_pt kr (fun y y0 y1 => ?_) (fun y y0 y1 => ?_) (fun _ z => z)
        · rw [zc_x_n cm 2401035 rfl (fun _ => rfl), p5 y y0 y1, z_fn hS 2401037 rfl]
        · have q : ∀ c : Nat, c < 6 → N2 (zy_r6 c) y = S 2401131 (6 * y + (c : Int)) := fun c hc => (m5 y c y0 (by rw [ekm]; exact y1) hc).trans (congrFun (zc_x_n hx1 2401131 rfl (fun _ => rfl)) _)
          exact ⟨q 0 (by decide), q 1 (by decide), q 2 (by decide), q 3 (by decide), q 4 (by decide), q 5 (by decide)⟩
      have hT : z_ITk N2 := by
        rw [z_ITk_p]
        refine z_pTk_pt kt (fun y y0 y1 => ?_)
        rw [(m4 y y0 y1).2, zc_x_n hx1 101130 rfl (fun _ => rfl), zc_x_n cm 101056 rfl (fun _ => rfl), p6 y y0 y1, z_fn hS 101057 rfl]
        exact ⟨rfl, rfl⟩
      have hH : z_ITh N2 := by
        rw [z_ITh_p, eP]
        refine z_pTh_pt kh (fun y y0 y1 => ?_) (fun y y0 y1 => ?_) (fun _ z => z)
        · rw [zc_x_n cm 241058 rfl (fun _ => rfl), p7 y y0 y1, z_fn hS 241059 rfl]
        · have q : ∀ c : Nat, c < 5 → N2 (zy_r5 c) y = S 301132 (5 * y + (c : Int)) := fun c hc => (m6 y c y0 y1 hc).trans (congrFun (zc_x_n hx1 301132 rfl (fun _ => rfl)) _)
          exact ⟨q 0 (by decide), q 1 (by decide), q 2 (by decide), q 3 (by decide), q 4 (by decide)⟩
      exact ⟨zd_z_ITape ⟨zc_x_n hx 2601014 rfl (fun _ => rfl), zc_x_n hx 2603064 rfl (fun _ => rfl), hx 13 1 rfl rfl, hx 2 1 rfl rfl⟩ g0, zd_z_IRaw ⟨zc_x_n hx 2603064 rfl (fun _ => rfl), hx 13 1 rfl rfl⟩ g1, ⟨zd_z_IPl ⟨zc_x_n hx 304067 rfl (fun _ => rfl), zc_x_n hx 301019 rfl (fun _ => rfl), zc_x_n hx 301069 rfl (fun _ => rfl), zc_x_n hx 28801071 rfl (fun _ => rfl), zc_x_n hx 28801021 rfl (fun _ => rfl)⟩ g2, hV⟩, zd_z_ITown ⟨zc_x_n hx 1001015 rfl (fun _ => rfl), zc_x_n hx 1001065 rfl (fun _ => rfl), zc_x_n hx 100001017 rfl (fun _ => rfl)⟩ g4, ⟨zd_z_ILm ⟨zc_x_n hx 2401080 rfl (fun _ => rfl), zc_x_n hx 161077 rfl (fun _ => rfl), zc_x_n hx 161078 rfl (fun _ => rfl), zc_x_n hx 161079 rfl (fun _ => rfl), hx 13 29 rfl rfl⟩ g5, zd_z_ILc ⟨zc_x_n hx 641027 rfl (fun _ => rfl), zc_x_n hx 2401025 rfl (fun _ => rfl), zc_x_n hx 161076 rfl (fun _ => rfl), zc_x_n hx 161077 rfl (fun _ => rfl), zc_x_n hx 161078 rfl (fun _ => rfl), zc_x_n hx 161079 rfl (fun _ => rfl), zc_x_n hx 2401080 rfl (fun _ => rfl), zc_x_n hx 2401081 rfl (fun _ => rfl), hx 5 6 rfl rfl, hx 13 29 rfl rfl⟩ g6⟩, hR, zd_z_ITr ⟨zc_x_n hx 121050 rfl (fun _ => rfl), zc_x_n hx 121112 rfl (fun _ => rfl), zc_x_n hx 121051 rfl (fun _ => rfl), zc_x_n hx 121113 rfl (fun _ => rfl), hx 11 5 rfl rfl, hx 13 81 rfl rfl⟩ g8, hT, hH, zd_zx_Q0 (zc_x_n hx 10241045 rfl (fun _ => rfl)) g11, zd_z_IW ⟨zc_x_n hx 304067 rfl (fun _ => rfl), zc_x_n hx 301068 rfl (fun _ => rfl), zc_x_n hx 301018 rfl (fun _ => rfl), zc_x_n hx 301069 rfl (fun _ => rfl), zc_x_n hx 28501020 rfl (fun _ => rfl), zc_x_n hx 28501070 rfl (fun _ => rfl), zc_x_n hx 28801021 rfl (fun _ => rfl), zc_x_n hx 1001065 rfl (fun _ => rfl)⟩ g12, zd_z_IKp ⟨zc_x_n hx 101129 rfl (fun _ => rfl), zc_x_n hx 101024 rfl (fun _ => rfl), zc_x_n hx 304067 rfl (fun _ => rfl), zc_x_n hx 2401037 rfl (fun _ => rfl), zc_x_n hx 2401131 rfl (fun _ => rfl), zc_x_n hx 101057 rfl (fun _ => rfl), zc_x_n hx 101130 rfl (fun _ => rfl), zc_x_n hx 241059 rfl (fun _ => rfl), zc_x_n hx 301132 rfl (fun _ => rfl), hx 1 11 rfl rfl, hx 13 100 rfl rfl, hx 13 105 rfl rfl, hx 4 10 rfl rfl, hx 7 7 rfl rfl, hx 13 106 rfl rfl⟩ g13⟩
  · exact km_undo 60 hS (fun c => absurd ((z_ff hS 13 100 rfl).trans (eK.symm.trans cK)) c) (fun c => absurd ((z_ff hS 13 100 rfl).trans (eK.symm.trans cK)) c) (fun _ => ⟨rfl, S, hS, hI0⟩)
end ZTF
