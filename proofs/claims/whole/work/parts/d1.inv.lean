/-! WHAT STAYS BETWEEN CALLS, the whole of it -/
/-- reports, the rows by themselves -/
def z_pRow (rows wi mi sl ki ot te pl : Int → Int) (i : Int) : Prop :=
  rows (6 * i + 0) = wi i ∧ (0 ≤ wi i ∧ wi i < 10 ∧ pl (3 * wi i) = 1) ∧
  rows (6 * i + 1) = mi i ∧ (0 ≤ mi i ∧ mi i < 96) ∧
  rows (6 * i + 2) = sl i ∧ (0 ≤ sl i ∧ sl i < 10) ∧
  rows (6 * i + 3) = ki i ∧
  rows (6 * i + 4) = (if ot i = -1 then -2 else ot i) ∧
  rows (6 * i + 5) = (if te i = -1 then -2 else te i) ∧
  (((ki i = 115 ∨ ki i = 111 ∨ ki i = 104) ∧ (0 ≤ ot i ∧ ot i < 10 ∧ pl (3 * ot i) = 1) ∧ te i = -1) ∨
   (ki i = 119 ∧ (0 ≤ ot i ∧ ot i < 10 ∧ pl (3 * ot i) = 1) ∧ 0 ≤ te i ∧ te i < 100) ∨
   (ki i = 105 ∧ ot i = -1 ∧ 0 ≤ te i ∧ te i < 100) ∨
   (ki i = 102 ∧ ot i = -1 ∧ 0 ≤ te i ∧ te i < 80))
def z_pRep (cs ms : Int) (rows wi mi sl ki ot te pl : Int → Int) : Prop := cs = ms ∧ 0 ≤ ms ∧ ms ≤ 40 ∧ ∀ i : Int, 0 ≤ i → i < ms → z_pRow rows wi mi sl ki ot te pl i
def z_pTk (gt mf : Int → Int) : Prop := ∀ p : Int, 0 ≤ p → p < 10 → gt p = (if mf p = -1 then -2 else mf p) ∧ -1 ≤ mf p ∧ mf p ≤ 9
def z_pTh (gt ts ic ca cf ct pl : Int → Int) : Prop := ∀ i : Int, 0 ≤ i → i < 6 → gt (4 * i) = ts i ∧ (ts i = -1 ∨ (0 ≤ ts i ∧ ts i < 100)) ∧ ((ic i = 0 ∧ gt (4 * i + 1) = -1) ∨ (ic i = 1 ∧ gt (4 * i + 1) = ca i ∧ (0 ≤ ca i ∧ ca i < 10 ∧ pl (3 * ca i) = 1) ∧ gt (4 * i + 2) = cf i ∧ gt (4 * i + 3) = ct i ∧ 0 ≤ cf i ∧ cf i ≤ ct i ∧ ct i < 96))
def z_pVer (mv pv pl : Int → Int) (sm sc : Int) : Prop := (∀ p : Int, 0 ≤ p → p < 10 → mv p = pv p ∧ 0 ≤ pv p ∧ pv p < 3 ∧ (pv p = 0 ∨ pl (3 * p + pv p) = 1)) ∧ (sm = sc ∧ (sc = 0 ∨ sc = 1))
theorem z_IRep_p {S : z_M} : z_IRep S ↔ z_pRep (S 7 5) (S 13 49) (S 2401035) (S 401092) (S 401093) (S 401094) (S 401095) (S 401096) (S 401097) (S 304067) := Iff.rfl
theorem z_ITk_p {S : z_M} : z_ITk S ↔ z_pTk (S 101056) (S 101116) := Iff.rfl
theorem z_ITh_p {S : z_M} : z_ITh S ↔ z_pTh (S 241058) (S 61120) (S 64121) (S 61122) (S 61123) (S 61124) (S 304067) := Iff.rfl
/-- what people's plans say, without versions and sun -/
def z_IPl (S : z_M) : Prop :=
  (∀ w : Int, 0 ≤ w → w < 30 → (S 304067 w = 0 ∧ S 301019 w = -1) ∨ (S 304067 w = 1 ∧ S 301019 w = S 301069 w ∧ 0 ≤ S 301069 w ∧ S 301069 w ≤ 95)) ∧
  (∀ w : Int, 0 ≤ w → w < 30 → S 304067 w = 1 → S 304067 (3 * (w / 3)) = 1) ∧
  (∀ w t : Int, 0 ≤ w → w < 30 → 0 ≤ t → t < 96 → S 304067 w = 1 → S 28801071 (96 * w + t) = S 28801021 (96 * w + t) ∧ 0 ≤ S 28801021 (96 * w + t) ∧ S 28801021 (96 * w + t) < 100)
def z_IVer (S : z_M) : Prop := z_pVer (S 101091) (S 101023) (S 304067) (S 13 48) (S 4 9)
theorem z_IPeo_p {S : z_M} : z_IPeo S ↔ z_IPl S ∧ z_IVer S := ⟨fun h => ⟨⟨h.1, h.2.1, h.2.2.2.1⟩, ⟨h.2.2.1, h.2.2.2.2⟩⟩, fun h => ⟨h.1.1, h.1.2.1, h.2.1, h.1.2.2, h.2.2⟩⟩
/-- pointwise -/
theorem z_pVer_pt {mv pv pl mv' pv' pl' : Int → Int} {sm sc : Int} (h : z_pVer mv pv pl sm sc) (hv : ∀ p : Int, 0 ≤ p → p < 10 → mv' p = mv p ∧ pv' p = pv p) (hp : ∀ w : Int, pl w = 1 → pl' w = 1) : z_pVer mv' pv' pl' sm sc := by
  refine ⟨fun p p0 p1 => ?_, h.2⟩
  obtain ⟨a, b, c, e⟩ := h.1 p p0 p1
  obtain ⟨v1, v2⟩ := hv p p0 p1
  rw [v1, v2]
  exact ⟨a, b, c, e.imp id (fun z => hp _ z)⟩
theorem z_pTk_pt {gt mf gt' mf' : Int → Int} (h : z_pTk gt mf) (hv : ∀ p : Int, 0 ≤ p → p < 10 → gt' p = gt p ∧ mf' p = mf p) : z_pTk gt' mf' := by
  intro p p0 p1
  obtain ⟨v1, v2⟩ := hv p p0 p1
  rw [v1, v2]
  exact h p p0 p1
theorem z_pTh_pt {gt ts ic ca cf ct pl gt' ts' ic' ca' cf' ct' pl' : Int → Int} (h : z_pTh gt ts ic ca cf ct pl) (hg : ∀ j : Int, 0 ≤ j → j < 24 → gt' j = gt j) (hv : ∀ i : Int, 0 ≤ i → i < 6 → ts' i = ts i ∧ ic' i = ic i ∧ ca' i = ca i ∧ cf' i = cf i ∧ ct' i = ct i) (hp : ∀ w : Int, pl w = 1 → pl' w = 1) : z_pTh gt' ts' ic' ca' cf' ct' pl' := by
  intro i i0 i1
  obtain ⟨v1, v2, v3, v4, v5⟩ := hv i i0 i1
  rw [v1, v2, v3, v4, v5, hg (4 * i) (by omega) (by omega), hg (4 * i + 1) (by omega) (by omega), hg (4 * i + 2) (by omega) (by omega), hg (4 * i + 3) (by omega) (by omega)]
  obtain ⟨a, b, c⟩ := h i i0 i1
  exact ⟨a, b, c.imp id (fun z => ⟨z.1, z.2.1, ⟨z.2.2.1.1, z.2.2.1.2.1, hp _ z.2.2.1.2.2⟩, z.2.2.2⟩)⟩
theorem z_pRep_pt {cs ms : Int} {rows wi mi sl ki ot te pl rows' wi' mi' sl' ki' ot' te' pl' : Int → Int} (h : z_pRep cs ms rows wi mi sl ki ot te pl) (hr : ∀ j : Int, 0 ≤ j → j < 240 → rows' j = rows j) (hv : ∀ i : Int, 0 ≤ i → i < ms → wi' i = wi i ∧ mi' i = mi i ∧ sl' i = sl i ∧ ki' i = ki i ∧ ot' i = ot i ∧ te' i = te i) (hp : ∀ w : Int, pl w = 1 → pl' w = 1) : z_pRep cs ms rows' wi' mi' sl' ki' ot' te' pl' := by
  obtain ⟨h1, h2, h3, h4⟩ := h
  refine ⟨h1, h2, h3, fun i i0 i1 => ?_⟩
  obtain ⟨v1, v2, v3, v4, v5, v6⟩ := hv i i0 i1
  obtain ⟨a1, a2, a3, a4, a5, a6, a7, a8, a9, b⟩ := h4 i i0 i1
  unfold z_pRow
  rw [v1, v2, v3, v4, v5, v6, hr (6 * i + 0) (by omega) (by omega), hr (6 * i + 1) (by omega) (by omega), hr (6 * i + 2) (by omega) (by omega), hr (6 * i + 3) (by omega) (by omega), hr (6 * i + 4) (by omega) (by omega), hr (6 * i + 5) (by omega) (by omega)]
  refine ⟨a1, ⟨a2.1, a2.2.1, hp _ a2.2.2⟩, a3, a4, a5, a6, a7, a8, a9, ?_⟩
  rcases b with z | z | z | z
  · exact Or.inl ⟨z.1, ⟨z.2.1.1, z.2.1.2.1, hp _ z.2.1.2.2⟩, z.2.2⟩
  · exact Or.inr (Or.inl ⟨z.1, ⟨z.2.1.1, z.2.1.2.1, hp _ z.2.1.2.2⟩, z.2.2⟩)
  · exact Or.inr (Or.inr (Or.inl z))
  · exact Or.inr (Or.inr (Or.inr z))
/-- the tape's bytes as they lie -/
def z_IRaw (S : z_M) : Prop := ∀ j : Int, 0 ≤ j → j < S 13 1 → -128 ≤ S 2603064 j ∧ S 2603064 j ≤ 127
/-- the walks -/
def z_IW (S : z_M) : Prop := ∀ w : Int, 0 ≤ w → w < 30 → S 304067 w = 1 → (0 ≤ S 301068 w ∧ S 301068 w < 100) ∧ S 301018 w = S 301068 w ∧ (∀ t : Int, 0 ≤ t → t < S 301069 w → S 28501020 (95 * w + t) = zk_ch (S 28501070 (95 * w + t))) ∧ ∀ t : Nat, t < 96 → S 28801021 (96 * w + (t : Int)) = zk_m S (S 1001065) w t
/-- what is kept -/
def z_IKp (S : z_M) : Prop := S 1 11 = S 13 100 ∧ (S 13 100 = 0 ∨ S 13 100 = 1) ∧ (S 13 100 = 1 →
  z_pVer (S 101129) (S 101024) (S 304067) (S 13 105) (S 4 10) ∧
  z_pRep (S 7 7) (S 13 106) (S 2401037) (fun i => S 2401131 (6 * i + 0)) (fun i => S 2401131 (6 * i + 1)) (fun i => S 2401131 (6 * i + 2)) (fun i => S 2401131 (6 * i + 3)) (fun i => S 2401131 (6 * i + 4)) (fun i => S 2401131 (6 * i + 5)) (S 304067) ∧
  z_pTk (S 101057) (S 101130) ∧
  z_pTh (S 241059) (fun i => S 301132 (5 * i + 0)) (fun i => S 301132 (5 * i + 1)) (fun i => S 301132 (5 * i + 2)) (fun i => S 301132 (5 * i + 3)) (fun i => S 301132 (5 * i + 4)) (S 304067))
def zz_I (S : z_M) : Prop := z_ITape S ∧ z_IRaw S ∧ (z_IPl S ∧ z_IVer S) ∧ z_ITown S ∧ (z_ILm S ∧ z_ILc S) ∧ z_IRep S ∧ z_ITr S ∧ z_ITk S ∧ z_ITh S ∧ zx_Q0 S ∧ z_IW S ∧ z_IKp S
def zz_P (M : z_M) : Prop := ∃ S : z_M, z_sit S M ∧ zz_I S
theorem zz_IS {S : z_M} (h : zz_I S) : z_IS S := ⟨z_IPeo_p.mpr h.2.2.1, h.2.2.2.1, h.2.2.2.2.1.1, h.2.2.2.2.1.2⟩
/-! the same where the same is stored -/
section ZDI
variable {S T : z_M}
theorem zd_z_ITape (h : T 2601014 = S 2601014 ∧ T 2603064 = S 2603064 ∧ T 13 1 = S 13 1 ∧ T 2 1 = S 2 1) (g : z_ITape S) : z_ITape T := by
  obtain ⟨e0, e1, e2, e3⟩ := h
  unfold z_ITape at g ⊢
  simp only [e0, e1, e2, e3] at g ⊢
  exact g
theorem zd_z_IRaw (h : T 2603064 = S 2603064 ∧ T 13 1 = S 13 1) (g : z_IRaw S) : z_IRaw T := by
  obtain ⟨e0, e1⟩ := h
  unfold z_IRaw at g ⊢
  simp only [e0, e1] at g ⊢
  exact g
theorem zd_z_IPl (h : T 304067 = S 304067 ∧ T 301019 = S 301019 ∧ T 301069 = S 301069 ∧ T 28801071 = S 28801071 ∧ T 28801021 = S 28801021) (g : z_IPl S) : z_IPl T := by
  obtain ⟨e0, e1, e2, e3, e4⟩ := h
  unfold z_IPl at g ⊢
  simp only [e0, e1, e2, e3, e4] at g ⊢
  exact g
theorem zd_z_IVer (h : T 101091 = S 101091 ∧ T 101023 = S 101023 ∧ T 304067 = S 304067 ∧ T 13 48 = S 13 48 ∧ T 4 9 = S 4 9) (g : z_IVer S) : z_IVer T := by
  obtain ⟨e0, e1, e2, e3, e4⟩ := h
  unfold z_IVer at g ⊢
  simp only [e0, e1, e2, e3, e4] at g ⊢
  exact g
theorem zd_z_ITown (h : T 1001015 = S 1001015 ∧ T 1001065 = S 1001065 ∧ T 100001017 = S 100001017) (g : z_ITown S) : z_ITown T := by
  obtain ⟨e0, e1, e2⟩ := h
  unfold z_ITown at g ⊢
  simp only [e0, e1, e2] at g ⊢
  exact g
theorem zd_z_ILm (h : T 2401080 = S 2401080 ∧ T 161077 = S 161077 ∧ T 161078 = S 161078 ∧ T 161079 = S 161079 ∧ T 13 29 = S 13 29) (g : z_ILm S) : z_ILm T := by
  obtain ⟨e0, e1, e2, e3, e4⟩ := h
  unfold z_ILm at g ⊢
  simp only [e0, e1, e2, e3, e4] at g ⊢
  exact g
theorem zd_z_ILc (h : T 641027 = S 641027 ∧ T 2401025 = S 2401025 ∧ T 161076 = S 161076 ∧ T 161077 = S 161077 ∧ T 161078 = S 161078 ∧ T 161079 = S 161079 ∧ T 2401080 = S 2401080 ∧ T 2401081 = S 2401081 ∧ T 5 6 = S 5 6 ∧ T 13 29 = S 13 29) (g : z_ILc S) : z_ILc T := by
  obtain ⟨e0, e1, e2, e3, e4, e5, e6, e7, e8, e9⟩ := h
  unfold z_ILc z_evh at g ⊢
  simp only [e0, e1, e2, e3, e4, e5, e6, e7, e8, e9] at g ⊢
  exact g
theorem zd_z_IRep (h : T 2401035 = S 2401035 ∧ T 401092 = S 401092 ∧ T 401093 = S 401093 ∧ T 401094 = S 401094 ∧ T 401095 = S 401095 ∧ T 401096 = S 401096 ∧ T 401097 = S 401097 ∧ T 304067 = S 304067 ∧ T 7 5 = S 7 5 ∧ T 13 49 = S 13 49) (g : z_IRep S) : z_IRep T := by
  obtain ⟨e0, e1, e2, e3, e4, e5, e6, e7, e8, e9⟩ := h
  unfold z_IRep z_rowok z_oth at g ⊢
  simp only [e0, e1, e2, e3, e4, e5, e6, e7, e8, e9] at g ⊢
  exact g
theorem zd_z_ITr (h : T 121050 = S 121050 ∧ T 121112 = S 121112 ∧ T 121051 = S 121051 ∧ T 121113 = S 121113 ∧ T 11 5 = S 11 5 ∧ T 13 81 = S 13 81) (g : z_ITr S) : z_ITr T := by
  obtain ⟨e0, e1, e2, e3, e4, e5⟩ := h
  unfold z_ITr at g ⊢
  simp only [e0, e1, e2, e3, e4, e5] at g ⊢
  exact g
theorem zd_z_ITk (h : T 101056 = S 101056 ∧ T 101116 = S 101116) (g : z_ITk S) : z_ITk T := by
  obtain ⟨e0, e1⟩ := h
  unfold z_ITk at g ⊢
  simp only [e0, e1] at g ⊢
  exact g
theorem zd_z_ITh (h : T 241058 = S 241058 ∧ T 61120 = S 61120 ∧ T 64121 = S 64121 ∧ T 61122 = S 61122 ∧ T 61123 = S 61123 ∧ T 61124 = S 61124 ∧ T 304067 = S 304067) (g : z_ITh S) : z_ITh T := by
  obtain ⟨e0, e1, e2, e3, e4, e5, e6⟩ := h
  unfold z_ITh at g ⊢
  simp only [e0, e1, e2, e3, e4, e5, e6] at g ⊢
  exact g
theorem zd_zx_Q0 (h : T 10241045 = S 10241045) (g : zx_Q0 S) : zx_Q0 T := fun j a b => (congrFun h j).trans (g j a b)
theorem zd_z_IW (h : T 304067 = S 304067 ∧ T 301068 = S 301068 ∧ T 301018 = S 301018 ∧ T 301069 = S 301069 ∧ T 28501020 = S 28501020 ∧ T 28501070 = S 28501070 ∧ T 28801021 = S 28801021 ∧ T 1001065 = S 1001065) (g : z_IW S) : z_IW T := by
  obtain ⟨e0, e1, e2, e3, e4, e5, e6, e7⟩ := h
  unfold z_IW zk_m at g ⊢
  simp only [e0, e1, e2, e3, e4, e5, e6, e7] at g ⊢
  exact g
theorem zd_z_IKp (h : T 101129 = S 101129 ∧ T 101024 = S 101024 ∧ T 304067 = S 304067 ∧ T 2401037 = S 2401037 ∧ T 2401131 = S 2401131 ∧ T 101057 = S 101057 ∧ T 101130 = S 101130 ∧ T 241059 = S 241059 ∧ T 301132 = S 301132 ∧ T 1 11 = S 1 11 ∧ T 13 100 = S 13 100 ∧ T 13 105 = S 13 105 ∧ T 4 10 = S 4 10 ∧ T 7 7 = S 7 7 ∧ T 13 106 = S 13 106) (g : z_IKp S) : z_IKp T := by
  obtain ⟨e0, e1, e2, e3, e4, e5, e6, e7, e8, e9, e10, e11, e12, e13, e14⟩ := h
  unfold z_IKp at g ⊢
  simp only [e0, e1, e2, e3, e4, e5, e6, e7, e8, e9, e10, e11, e12, e13, e14] at g ⊢
  exact g
end ZDI
