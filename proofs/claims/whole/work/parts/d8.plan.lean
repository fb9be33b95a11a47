/-! THE TABLE: plans -/
theorem zs_ge {q : Int → Int} : ∀ (f : Nat) (k : Bool) (D i : Int) (F : Int → Int) (m : Int) (F2 : Int → Int) (m2 j : Int), zs q f k D i F m = .inr (F2, m2, j) → i ≤ j := by
  intro f
  induction f with
  | zero => intro k D i F m F2 m2 j h; cases h
  | succ f ih =>
    intro k D i F m F2 m2 j h
    have hj : zs_j q i = i ∨ zs_j q i = i + 1 := by unfold zs_j; split <;> omega
    cases k with
    | true =>
      unfold zs at h
      split at h
      · cases h
      · rename_i F3 m3 j3 e
        have h1 := ih _ _ _ _ _ _ _ _ e
        split at h
        · have : j3 = j := congrArg (fun z => z.2.2) (Sum.inr.inj h)
          omega
        · have := ih _ _ _ _ _ _ _ _ h
          omega
    | false =>
      unfold zs at h
      have rp : ∀ (F : Int → Int) (b m t i j F2 m2 j2), zs_rp F b m t i j = .inr (F2, m2, j2) → j = j2 := by
        intro F b m t i j F2 m2 j2 h
        unfold zs_rp at h
        split at h
        · exact congrArg (fun z => z.2.2) (Sum.inr.inj h)
        · cases h
      split at h
      · split at h
        · cases h
        · split at h
          · cases h
          · rename_i F3 m3 j3 e
            have h1 := ih _ _ _ _ _ _ _ _ e
            split at h
            · have := rp _ _ _ _ _ _ _ _ _ h; omega
            · cases h
      · split at h
        · have := rp _ _ _ _ _ _ _ _ _ h; omega
        · cases h
theorem zs_neg {q : Int → Int} : ∀ (f : Nat) (k : Bool) (D i : Int) (F : Int → Int) (m x : Int), 0 ≤ i → zs q f k D i F m = .inl x → x < 0 := by
  intro f
  induction f with
  | zero => intro k D i F m x _ h; have := Sum.inl.inj h; omega
  | succ f ih =>
    intro k D i F m x i0 h
    have hj : zs_j q i = i ∨ zs_j q i = i + 1 := by unfold zs_j; split <;> omega
    cases k with
    | true =>
      unfold zs at h
      split at h
      · rename_i y e
        have := Sum.inl.inj h
        subst this
        exact ih _ _ _ _ _ _ i0 e
      · rename_i F3 m3 j3 e
        have h1 := zs_ge _ _ _ _ _ _ _ _ _ e
        split at h
        · cases h
        · exact ih _ _ _ _ _ _ (by omega) h
    | false =>
      unfold zs at h
      have rp : ∀ (F : Int → Int) (b m t j : Int), zs_rp F b m t i j = .inl x → x < 0 := by
        intro F b m t j h
        unfold zs_rp at h
        split at h
        · cases h
        · have := Sum.inl.inj h; omega
      split at h
      · split at h
        · have := Sum.inl.inj h; omega
        · split at h
          · rename_i y e
            have := Sum.inl.inj h
            subst this
            exact ih _ _ _ _ _ _ (by omega) e
          · rename_i F3 m3 j3 e
            have h1 := zs_ge _ _ _ _ _ _ _ _ _ e
            split at h
            · exact rp _ _ _ _ _ h
            · have := Sum.inl.inj h; omega
      · split at h
        · exact rp _ _ _ _ _ h
        · have := Sum.inl.inj h; omega
theorem zs_pl_neg {q g : Int → Int} {f : Int} (h : zs_pl q g = .inl f) : f < 0 := by
  unfold zs_pl at h
  split at h
  · rename_i y e
    have hh := Sum.inl.inj h
    subst hh
    unfold zr_sp at e
    split at e
    · split at e
      · cases e
      · have := Sum.inl.inj e; omega
    · have := Sum.inl.inj e; omega
  · split at h
    · have := Sum.inl.inj h; omega
    · split at h
      · cases h
      · split at h
        · rename_i y e
          have hh := Sum.inl.inj h
          subst hh
          exact zs_neg _ _ _ _ _ _ _ (by decide) e
        · cases h
section ZTH
variable {S S' M N N2 : z_M} {a1 a2 a3 a4 a5 a6 : Int}
theorem zz_op2 (hS : z_sit S M) (hI : zz_I S) : z_case 60 zz_P M a1 a2 a3 a4 a5 a6 2 := by
  have hI0 := hI
  have hT := hI.1
  have et : S 13 1 = S 2 1 := hT.1
  have hB := zd_B hI
  obtain ⟨g0, g1, ⟨g2, g3⟩, g4, ⟨g5, g6⟩, g7, g8, g9, g10, g11, g12, g13⟩ := hI
  refine kc_plan 51 hS hT (z_IPeo_p.mpr ⟨g2, g3⟩) (fun w w0 w1 hl => (zd_ok g2 g12 hS w w0 w1 hl).2) (fun hw s m F N e s0 s1 m0 m1 cx no n2 eSt eLe eSp eSpots => ⟨⟨_, rfl⟩, ?_⟩) (fun hw f N f0 e sN => ⟨⟨_, rfl⟩, ?_⟩) (fun f e => by have := zs_pl_neg e; omega) (fun nc => ⟨⟨_, rfl⟩, ?_⟩)
  · obtain ⟨c1, c2, c3, b1, b2, b3⟩ := id hw
    obtain ⟨t1, t2⟩ := zd_text hT b1 b3
    have hx1 := zd_sx hS cx
    have eN : N 2603064 = S 2603064 := zc_x_n hx1 _ rfl (fun _ => rfl)
    have e13 : N 13 1 = S 13 1 := hx1 13 _ rfl rfl
    have eP1 : N 304067 = S 304067 := zc_x_n hx1 _ rfl (fun _ => rfl)
    have eG1 : N 1001065 = S 1001065 := zc_x_n hx1 _ rfl (fun _ => rfl)
    have eW1 : N 1001015 = S 1001015 := zc_x_n hx1 _ rfl (fun _ => rfl)
    rw [g4.1] at e
    refine km_plan (q := zr_q S a3) (g := S 1001065) 56 (zz_no_sit no) (fun w w0 w1 => by rw [eP1]; exact hB w w0 w1) eG1 (fun _ _ _ => ⟨t1, fun j j0 j1 => by rw [eN]; exact g1 j j0 (by omega), fun i i0 i1 => by rw [eN]; exact t2 i i0 i1⟩) (fun _ => no) (fun _ s' m' F' N2 e' _ _ _ _ cx' no2 m13 fP fS fL fT fO fO2 => ?_) (fun _ f N2 e' sN2 => ?_) (fun nc => absurd ⟨c1, c2, by unfold z_tl at c3 ⊢; rw [eP1]; exact c3, b1, b2, by omega⟩ nc)
    · rw [e] at e'
      have hh := Sum.inr.inj e'
      have h1' : s = s' := congrArg (fun z => z.1) hh
      have h2' : F = F' := congrArg (fun z => z.2.1) hh
      have h3' : m = m' := congrArg (fun z => z.2.2) hh
      subst h1' h2' h3'
      have hx := zd_x2 hx1 cx'
      have z2 : N2 2 1 = 0 := (cx' 2 _ rfl rfl).trans n2
      have hw0 : 0 ≤ 3 * a1 + a2 ∧ 3 * a1 + a2 < 30 := by omega
      have hw3 : (3 * a1 + a2) / 3 = a1 := by omega
      have hvp : a2 ≤ 0 ∨ S 304067 (3 * a1) = 1 := c3.imp id (fun z => z.2.2)
      have hv0 : a2 ≤ 0 → 3 * a1 + a2 = 3 * a1 := fun z => by omega
      generalize hwe : 3 * a1 + a2 = w at *
      rw [eP1] at fP
      rw [zc_x_n hx1 301068 rfl (fun _ => rfl)] at fS
      rw [zc_x_n hx1 301069 rfl (fun _ => rfl)] at fL
      rw [zc_x_n hx1 28501070 rfl (fun _ => rfl)] at fT
      rw [z_fn hS 301018 rfl] at eSt
      rw [z_fn hS 301019 rfl] at eLe
      rw [z_fn hS 28501020 rfl] at eSp
      have fG : N2 1001065 = S 1001065 := zc_x_n hx _ rfl (fun _ => rfl)
      have qSt : N2 301018 = zt_put (S 301018) w s := (zc_x_n cx' 301018 rfl (fun _ => rfl)).trans eSt
      have qLe : N2 301019 = zt_put (S 301019) w m := (zc_x_n cx' 301019 rfl (fun _ => rfl)).trans eLe
      have qSp : N2 28501020 = zs_stp F w m (S 28501020) := (zc_x_n cx' 28501020 rfl (fun _ => rfl)).trans eSp
      have mono : ∀ y : Int, S 304067 y = 1 → N2 304067 y = 1 := fun y hy => by
        rw [fP]
        by_cases c : y = w
        · rw [c, zt_put_e]
        · rw [zt_put_n c]; exact hy
      have pl : ∀ y : Int, 0 ≤ y → y < 30 → N2 304067 y = 1 → y ≠ w → S 304067 y = 1 ∧ S 301019 y = S 301069 y ∧ 0 ≤ S 301069 y ∧ S 301069 y ≤ 95 := fun y y0 y1 hy hn => by
        rw [fP, zt_put_n hn] at hy
        rcases g2.1 y y0 y1 with z | z
        · rw [z.1] at hy; exact absurd hy (by decide)
        · exact z
      have hW0 : ∀ y : Int, 0 ≤ y → y < 30 → N2 304067 y = 1 → (0 ≤ N2 301068 y ∧ N2 301068 y < 100) ∧ N2 301018 y = N2 301068 y ∧ N2 301019 y = N2 301069 y ∧ (0 ≤ N2 301069 y ∧ N2 301069 y ≤ 95) ∧ (∀ t : Int, 0 ≤ t → t < N2 301069 y → N2 28501020 (95 * y + t) = zk_ch (N2 28501070 (95 * y + t))) := by
        intro y y0 y1 hp
        rw [fS, fL, fT, qSt, qLe, qSp]
        unfold zs_stp zs_chr
        by_cases c : y = w
        · subst c
          rw [zt_put_e, zt_put_e, zt_put_e, zt_put_e]
          exact ⟨⟨s0, s1⟩, rfl, rfl, ⟨m0, m1⟩, fun t t0 t1 => by rw [if_pos (by omega), if_pos (by omega)]⟩
        · obtain ⟨p1, p2, p3, p4⟩ := pl y y0 y1 hp c
          obtain ⟨q1, q2, q3, _⟩ := g12 y y0 y1 p1
          rw [zt_put_n c, zt_put_n c, zt_put_n c, zt_put_n c]
          exact ⟨q1, q2, p2, ⟨p3, p4⟩, fun t t0 t1 => by rw [if_neg (by omega), if_neg (by omega)]; exact q3 t t0 t1⟩
      have sp : ∀ y : Int, 0 ≤ y → y < 30 → N2 304067 y = 1 → ∀ t : Nat, t < 96 → N2 28801021 (96 * y + (t : Int)) = zk_m N2 (N2 1001065) y t ∧ N2 28801071 (96 * y + (t : Int)) = zk_m N2 (N2 1001065) y t := by
        intro y y0 y1 hp t ht
        obtain ⟨r1, r2, r3, r4, r5⟩ := hW0 y y0 y1 hp
        have e1 : N 301018 = N2 301018 := (zc_x_n cx' 301018 rfl (fun _ => rfl)).symm
        have e2 : N 301019 = N2 301019 := (zc_x_n cx' 301019 rfl (fun _ => rfl)).symm
        have e3 : N 28501020 = N2 28501020 := (zc_x_n cx' 28501020 rfl (fun _ => rfl)).symm
        refine ⟨?_, ?_⟩
        · rw [zc_x_n cx' 28801021 rfl (fun _ => rfl), eSpots y y0 y1 (by rw [e2, r3]; exact r4.1) t ht, eW1, g4.1, fG]
          exact zd_walk (by rw [e1]; exact r2) (by rw [e2]; exact r3) (fun t t0 t1 => by rw [e3]; exact r5 t t0 t1) t
        · rw [fG]
          by_cases c : y = w
          · rw [c]; exact fO t ht
          · obtain ⟨p1, p2, p3, p4⟩ := pl y y0 y1 hp c
            obtain ⟨q1, q2, q3, q4⟩ := g12 y y0 y1 p1
            rw [fO2 _ (by omega), zc_x_n hx1 28801071 rfl (fun _ => rfl), (g2.2.2 y (t : Int) y0 y1 (by omega) (by omega) p1).1, q4 t ht]
            unfold zk_m
            rw [fS, fL, zt_put_n c, zt_put_n c]
            refine zk_w_cg (fun _ _ _ => rfl) (fun t t0 t1 => ?_) t
            rw [fT]
            unfold zs_chr
            rw [if_neg (by omega)]
      have hPl : z_IPl N2 := by
        refine ⟨fun y y0 y1 => ?_, fun y y0 y1 hp => ?_, fun y t y0 y1 t0 t1 hp => ?_⟩
        · by_cases c : y = w
          · right
            have hp : N2 304067 y = 1 := by rw [fP, c, zt_put_e]
            obtain ⟨r1, r2, r3, r4, r5⟩ := hW0 y y0 y1 hp
            exact ⟨hp, r3, r4⟩
          · rw [fP, fL, qLe, zt_put_n c, zt_put_n c, zt_put_n c]; exact g2.1 y y0 y1
        · by_cases c : y = w
          · rw [c, hw3]
            rcases hvp with z | z
            · rw [← hv0 z, fP, zt_put_e]
            · exact mono _ z
          · exact mono _ (g2.2.1 y y0 y1 (pl y y0 y1 hp c).1)
        · obtain ⟨n, rfl⟩ := Int.eq_ofNat_of_zero_le t0
          obtain ⟨u1, u2⟩ := sp y y0 y1 hp n (by omega)
          obtain ⟨r1, _⟩ := hW0 y y0 y1 hp
          rw [u1, u2]
          unfold zk_m
          exact ⟨rfl, zk_w_b r1.1 r1.2 n⟩
      have hW : z_IW N2 := fun y y0 y1 hp => by
        obtain ⟨r1, r2, r3, r4, r5⟩ := hW0 y y0 y1 hp
        exact ⟨r1, r2, r5, fun t ht => (sp y y0 y1 hp t ht).1⟩
      have hV : z_IVer N2 := by
        unfold z_IVer
        rw [show N2 13 48 = S 13 48 from hx 13 _ rfl rfl, show N2 4 9 = S 4 9 from hx 4 _ rfl rfl, zc_x_n hx 101091 rfl (fun _ => rfl), zc_x_n hx 101023 rfl (fun _ => rfl)]
        exact z_pVer_pt g3 (fun _ _ _ => ⟨rfl, rfl⟩) mono
      have hR : z_IRep N2 := by
        rw [z_IRep_p, show N2 7 5 = S 7 5 from hx 7 _ rfl rfl, show N2 13 49 = S 13 49 from hx 13 _ rfl rfl, zc_x_n hx 2401035 rfl (fun _ => rfl), zc_x_n hx 401092 rfl (fun _ => rfl), zc_x_n hx 401093 rfl (fun _ => rfl), zc_x_n hx 401094 rfl (fun _ => rfl), zc_x_n hx 401095 rfl (fun _ => rfl), zc_x_n hx 401096 rfl (fun _ => rfl), zc_x_n hx 401097 rfl (fun _ => rfl)]
        exact z_pRep_pt (z_IRep_p.mp g7) (fun _ _ _ => rfl) (fun _ _ _ => ⟨rfl, rfl, rfl, rfl, rfl, rfl⟩) mono
      have hH : z_ITh N2 := by
        rw [z_ITh_p, zc_x_n hx 241058 rfl (fun _ => rfl), zc_x_n hx 61120 rfl (fun _ => rfl), zc_x_n hx 64121 rfl (fun _ => rfl), zc_x_n hx 61122 rfl (fun _ => rfl), zc_x_n hx 61123 rfl (fun _ => rfl), zc_x_n hx 61124 rfl (fun _ => rfl)]
        exact z_pTh_pt (z_ITh_p.mp g10) (fun _ _ _ => rfl) (fun _ _ _ => ⟨rfl, rfl, rfl, rfl, rfl⟩) mono
      have hK : z_IKp N2 := by
        obtain ⟨k1, k2, k3⟩ := g13
        have e0 : N2 13 100 = S 13 100 := hx 13 _ rfl rfl
        refine ⟨by rw [e0, show N2 1 11 = S 1 11 from hx 1 _ rfl rfl]; exact k1, by rw [e0]; exact k2, fun hk => ?_⟩
        rw [e0] at hk
        obtain ⟨kv, kr, kt, kh⟩ := k3 hk
        rw [show N2 13 105 = S 13 105 from hx 13 _ rfl rfl, show N2 4 10 = S 4 10 from hx 4 _ rfl rfl, show N2 7 7 = S 7 7 from hx 7 _ rfl rfl, show N2 13 106 = S 13 106 from hx 13 _ rfl rfl, zc_x_n hx 101129 rfl (fun _ => rfl), zc_x_n hx 101024 rfl (fun _ => rfl), zc_x_n hx 2401037 rfl (fun _ => rfl), zc_x_n hx 2401131 rfl (fun _ => rfl), zc_x_n hx 101057 rfl (fun _ => rfl), zc_x_n hx 101130 rfl (fun _ => rfl), zc_x_n hx 241059 rfl (fun _ => rfl), zc_x_n hx 301132 rfl (fun _ => rfl)]
        exact ⟨z_pVer_pt kv (fun _ _ _ => ⟨rfl, rfl⟩) mono, z_pRep_pt kr (fun _ _ _ => rfl) (fun _ _ _ => ⟨rfl, rfl, rfl, rfl, rfl, rfl⟩) mono, kt, z_pTh_pt kh (fun _ _ _ => rfl) (fun _ _ _ => ⟨rfl, rfl, rfl, rfl, rfl⟩) mono⟩
      refine ⟨rfl, N2, zz_no_sit no2, ?_⟩
      exact ⟨⟨m13.trans z2.symm, Int.le_of_eq z2.symm, by rw [show N2 2 1 = 0 from z2]; decide, fun j a b => by rw [show N2 2 1 = 0 from z2] at b; exact absurd b (by omega)⟩, (fun j a b => by rw [m13] at b; exact absurd b (by omega)), ⟨hPl, hV⟩, zd_z_ITown ⟨zc_x_n hx 1001015 rfl (fun _ => rfl), zc_x_n hx 1001065 rfl (fun _ => rfl), zc_x_n hx 100001017 rfl (fun _ => rfl)⟩ g4, ⟨zd_z_ILm ⟨zc_x_n hx 2401080 rfl (fun _ => rfl), zc_x_n hx 161077 rfl (fun _ => rfl), zc_x_n hx 161078 rfl (fun _ => rfl), zc_x_n hx 161079 rfl (fun _ => rfl), hx 13 29 rfl rfl⟩ g5, zd_z_ILc ⟨zc_x_n hx 641027 rfl (fun _ => rfl), zc_x_n hx 2401025 rfl (fun _ => rfl), zc_x_n hx 161076 rfl (fun _ => rfl), zc_x_n hx 161077 rfl (fun _ => rfl), zc_x_n hx 161078 rfl (fun _ => rfl), zc_x_n hx 161079 rfl (fun _ => rfl), zc_x_n hx 2401080 rfl (fun _ => rfl), zc_x_n hx 2401081 rfl (fun _ => rfl), hx 5 6 rfl rfl, hx 13 29 rfl rfl⟩ g6⟩, hR, zd_z_ITr ⟨zc_x_n hx 121050 rfl (fun _ => rfl), zc_x_n hx 121112 rfl (fun _ => rfl), zc_x_n hx 121051 rfl (fun _ => rfl), zc_x_n hx 121113 rfl (fun _ => rfl), hx 11 5 rfl rfl, hx 13 81 rfl rfl⟩ g8, zd_z_ITk ⟨zc_x_n hx 101056 rfl (fun _ => rfl), zc_x_n hx 101116 rfl (fun _ => rfl)⟩ g9, hH, zd_zx_Q0 (zc_x_n hx 10241045 rfl (fun _ => rfl)) g11, hW, hK⟩
    · rw [e] at e'; cases e'
  · obtain ⟨c1, c2, c3, b1, b2, b3⟩ := id hw
    obtain ⟨t1, t2⟩ := zd_text hT b1 b3
    rw [g4.1] at e
    refine km_plan (q := zr_q S a3) (g := S 1001065) 56 sN hB rfl (fun _ _ _ => ⟨t1, fun j j0 j1 => g1 j j0 (by omega), t2⟩) (fun h => absurd e (h f)) (fun _ s' m' F' N2 e' _ _ _ _ _ _ _ _ _ _ _ _ _ => ?_) (fun _ f' N2 e' sN2 => ?_) (fun nc => absurd ⟨c1, c2, c3, b1, b2, Int.le_trans b3 (Int.le_of_eq et.symm)⟩ nc)
    · rw [e] at e'; cases e'
    · rw [e] at e'
      have : f = f' := Sum.inl.inj e'
      rw [this]
      exact ⟨rfl, _, sN2, zd_0_I hI0⟩
  · rw [← et] at nc
    have et1 : M 13 1 = S 13 1 := z_ff hS 13 1 rfl
    have no : z_G 0 60 z_m249 56 [z_R 13, z_I a1, z_I a2, z_I a3, z_U, z_U, z_U, z_U] [] M (fun v2 M2 => v2 = z_I (-1) ∧ zz_P M2) := rg_249_56 59 ⟨rfl, S, hS, hI0⟩
    have go : (0 ≤ a1 ∧ a1 < 10) → (0 ≤ a2 ∧ a2 < 3) → (a2 ≤ 0 ∨ z_tl S a1) → z_G 0 60 z_m249 36 [z_R 13, z_I a1, z_I a2, z_I a3, z_U, z_U, z_U, z_U] [] M (fun v2 M2 => v2 = z_I (-1) ∧ zz_P M2) := fun hp hv ht => rg_249_36 59 (km_lies 59 (fun x1 x2 => z_y1 ⟨fun x3 => absurd ⟨hp, hv, ht, x1, x2, by rw [et1] at x3; exact x3⟩ nc, fun _ => no⟩) (fun _ => z_n1 no))
    exact re_249 59 (km_lies 59 (fun p0 p1 => z_y1 (km_lies 59 (fun v0 v1 => z_y1 ⟨fun c => go ⟨p0, by omega⟩ ⟨v0, by omega⟩ (Or.inl c), fun c => km_isToldB 58 hS hB (fun ht => z_y1 (go ⟨p0, by omega⟩ ⟨v0, by omega⟩ (Or.inr ht))) (fun ht => z_n1 no)⟩) (fun c => z_n1 no))) (fun c => z_n1 no))
end ZTH
