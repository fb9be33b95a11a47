def z_iyDayMuseumModel : MethodName := ⟨"DayMuseumModel", "<init>", "()V"⟩
def z_iiDayMuseumModel : List z_Ini := [(4, ((.sipush 260, 3), (260, (3, (0, (7, (7, 26))))))), (13, ((.bipush 100, 2), (100, (1, (9, (13, (7, 35))))))), (21, ((.bipush 100, 2), (100, (1, (10, (17, (7, 36))))))), (29, ((.bipush 30, 2), (30, (4, (11, (20, (7, 37))))))), (37, ((.bipush 30, 2), (30, (1, (12, (24, (7, 38))))))), (45, ((.bipush 30, 2), (30, (1, (13, (27, (7, 39))))))), (53, ((.sipush 2850, 3), (2850, (1, (14, (30, (7, 40))))))), (62, ((.sipush 2880, 3), (2880, (1, (15, (33, (7, 41))))))), (71, ((.bipush 95, 2), (95, (1, (16, (36, (7, 42))))))), (79, ((.iconst 3, 1), (3, (1, (18, (39, (7, 44))))))), (86, ((.iconst 3, 1), (3, (1, (19, (42, (7, 45))))))), (93, ((.iconst 3, 1), (3, (1, (20, (45, (7, 46))))))), (100, ((.bipush 16, 2), (16, (1, (23, (48, (7, 49))))))), (108, ((.bipush 16, 2), (16, (1, (24, (51, (7, 50))))))), (116, ((.bipush 16, 2), (16, (1, (25, (54, (7, 51))))))), (124, ((.bipush 16, 2), (16, (1, (26, (57, (7, 52))))))), (132, ((.sipush 240, 3), (240, (1, (27, (60, (7, 53))))))), (141, ((.sipush 240, 3), (240, (1, (28, (63, (7, 54))))))), (150, ((.bipush 16, 2), (16, (1, (30, (66, (7, 56))))))), (158, ((.bipush 16, 2), (16, (1, (31, (69, (7, 57))))))), (166, ((.bipush 16, 2), (16, (1, (32, (72, (7, 58))))))), (174, ((.bipush 16, 2), (16, (1, (33, (75, (7, 59))))))), (182, ((.sipush 240, 3), (240, (1, (34, (78, (7, 60))))))), (191, ((.sipush 240, 3), (240, (1, (35, (81, (7, 61))))))), (200, ((.sipush 240, 3), (240, (1, (38, (84, (7, 64))))))), (209, ((.sipush 240, 3), (240, (1, (45, (87, (7, 71))))))), (218, ((.sipush 240, 3), (240, (4, (46, (90, (7, 72))))))), (227, ((.bipush 10, 2), (10, (1, (47, (93, (7, 73))))))), (235, ((.bipush 40, 2), (40, (1, (50, (96, (7, 76))))))), (243, ((.bipush 40, 2), (40, (1, (51, (99, (7, 77))))))), (251, ((.bipush 40, 2), (40, (1, (52, (102, (7, 78))))))), (259, ((.bipush 40, 2), (40, (1, (53, (105, (7, 79))))))), (267, ((.bipush 40, 2), (40, (1, (54, (108, (7, 80))))))), (275, ((.bipush 40, 2), (40, (1, (55, (111, (7, 81))))))), (283, ((.bipush 10, 2), (10, (1, (58, (114, (7, 84))))))), (291, ((.sipush 720, 3), (720, (4, (60, (117, (7, 86))))))), (300, ((.sipush 1458, 3), (1458, (1, (61, (120, (7, 87))))))), (309, ((.sipush 1840, 3), (1840, (1, (64, (123, (7, 90))))))), (318, ((.iconst 3, 1), (3, (1, (65, (126, (7, 91))))))), (325, ((.sipush 1458, 3), (1458, (1, (68, (129, (7, 94))))))), (334, ((.sipush 900, 3), (900, (4, (70, (132, (7, 96))))))), (343, ((.sipush 1458, 3), (1458, (1, (71, (135, (7, 97))))))), (352, ((.sipush 1024, 3), (1024, (1, (72, (138, (7, 98))))))), (361, ((.sipush 1458, 3), (1458, (1, (76, (141, (7, 102))))))), (370, ((.sipush 3072, 3), (3072, (1, (77, (144, (7, 103))))))), (379, ((.sipush 3072, 3), (3072, (1, (78, (147, (7, 104))))))), (388, ((.sipush 2100, 3), (2100, (2, (79, (150, (7, 105))))))), (397, ((.sipush 2100, 3), (2100, (2, (80, (154, (7, 106))))))), (406, ((.bipush 12, 2), (12, (1, (82, (157, (7, 108))))))), (414, ((.bipush 12, 2), (12, (1, (83, (160, (7, 109))))))), (422, ((.bipush 12, 2), (12, (1, (84, (163, (7, 110))))))), (430, ((.bipush 12, 2), (12, (1, (85, (166, (7, 111))))))), (438, ((.bipush 10, 2), (10, (1, (86, (169, (7, 112))))))), (446, ((.bipush 10, 2), (10, (1, (87, (172, (7, 113))))))), (454, ((.bipush 13, 2), (13, (1, (88, (175, (7, 114))))))), (462, ((.bipush 100, 2), (100, (1, (89, (178, (7, 115))))))), (470, ((.bipush 6, 2), (6, (1, (90, (181, (7, 116))))))), (478, ((.bipush 6, 2), (6, (4, (91, (184, (7, 117))))))), (486, ((.bipush 6, 2), (6, (1, (92, (187, (7, 118))))))), (494, ((.bipush 6, 2), (6, (1, (93, (190, (7, 119))))))), (502, ((.bipush 6, 2), (6, (1, (94, (193, (7, 120))))))), (510, ((.bipush 100, 2), (100, (4, (95, (196, (7, 121))))))), (518, ((.bipush 100, 2), (100, (4, (96, (199, (7, 122))))))), (526, ((.sipush 11264, 3), (11264, (1, (97, (202, (7, 123))))))), (535, ((.bipush 10, 2), (10, (1, (99, (205, (7, 125))))))), (543, ((.bipush 10, 2), (10, (1, (101, (208, (7, 127))))))), (551, ((.bipush 10, 2), (10, (1, (102, (211, (7, 128))))))), (559, ((.sipush 240, 3), (240, (1, (103, (214, (7, 129))))))), (568, ((.bipush 30, 2), (30, (1, (104, (217, (7, 130)))))))]
def z_iGDayMuseumModel : List Nat := [2603064, 1001065, 1001066, 304067, 301068, 301069, 28501070, 28801071, 951072, 31073, 31074, 31075, 161076, 161077, 161078, 161079, 2401080, 2401081, 161082, 161083, 161084, 161085, 2401086, 2401087, 2401088, 2401089, 2404090, 101091, 401092, 401093, 401094, 401095, 401096, 401097, 101098, 7204099, 14581100, 18401101, 31102, 14581103, 9004104, 14581105, 10241106, 14581107, 30721108, 30721109, 21002110, 21002111, 121112, 121113, 121114, 121115, 101116, 101117, 131118, 1001119, 61120, 64121, 61122, 61123, 61124, 1004125, 1004126, 112641127, 101128, 101129, 101130, 2401131, 301132]
def z_ilDayMuseumModel : List (Nat × (Instr × Nat)) := [(0, (.aload_n 0, 1)), (1, (.invokespecial 1, 3)), (576, (.iconst 0, 1)), (577, (.istore_n 1, 1)), (578, (.iload_n 1, 1)), (579, (.bipush 10, 2)), (581, (.if_icmp .ge 16, 3)), (584, (.aload_n 0, 1)), (585, (.getfield 169, 3)), (588, (.iload_n 1, 1)), (589, (.iconst (-1), 1)), (590, (.iastore, 1)), (591, (.iinc 1 1, 3)), (594, (.goto (-16), 3)), (597, (.iconst 0, 1)), (598, (.istore_n 1, 1)), (599, (.iload_n 1, 1)), (600, (.bipush 6, 2)), (602, (.if_icmp .ge 16, 3)), (605, (.aload_n 0, 1)), (606, (.getfield 181, 3)), (609, (.iload_n 1, 1)), (610, (.iconst (-1), 1)), (611, (.iastore, 1)), (612, (.iinc 1 1, 3)), (615, (.goto (-16), 3)), (618, (.return_, 1))]
theorem z_ilDayMuseumModel_ok : z_ilDayMuseumModel.all (fun q => decide (decode prog_14_method_1_code q.1 = .ok q.2)) = true := by decide +kernel
def z_tcDayMuseumModel : List z_E := [(576, ((.iconst 0, 1), ((0, (0, 0)), (0, 0)))),
  (577, ((.istore_n 1, 1), ((0, (0, 0)), (0, 0)))),
  (578, ((.iload_n 1, 1), ((0, (0, 0)), (0, 0)))),
  (579, ((.bipush 10, 2), ((0, (0, 0)), (0, 0)))),
  (581, ((.if_icmp .ge 16, 3), ((0, (0, 0)), (0, 0)))),
  (584, ((.aload_n 0, 1), ((0, (0, 0)), (0, 0)))),
  (585, ((.getfield 169, 3), ((86, (13, 101116)), (7, 112)))),
  (588, ((.iload_n 1, 1), ((0, (0, 0)), (0, 0)))),
  (589, ((.iconst (-1), 1), ((0, (0, 0)), (0, 0)))),
  (590, ((.iastore, 1), ((0, (0, 0)), (0, 0)))),
  (591, ((.iinc 1 1, 3), ((0, (0, 0)), (0, 0)))),
  (594, ((.goto (-16), 3), ((0, (0, 0)), (0, 0)))),
  (597, ((.iconst 0, 1), ((0, (0, 0)), (0, 0)))),
  (598, ((.istore_n 1, 1), ((0, (0, 0)), (0, 0)))),
  (599, ((.iload_n 1, 1), ((0, (0, 0)), (0, 0)))),
  (600, ((.bipush 6, 2), ((0, (0, 0)), (0, 0)))),
  (602, ((.if_icmp .ge 16, 3), ((0, (0, 0)), (0, 0)))),
  (605, ((.aload_n 0, 1), ((0, (0, 0)), (0, 0)))),
  (606, ((.getfield 181, 3), ((90, (13, 61120)), (7, 116)))),
  (609, ((.iload_n 1, 1), ((0, (0, 0)), (0, 0)))),
  (610, ((.iconst (-1), 1), ((0, (0, 0)), (0, 0)))),
  (611, ((.iastore, 1), ((0, (0, 0)), (0, 0)))),
  (612, ((.iinc 1 1, 3), ((0, (0, 0)), (0, 0)))),
  (615, ((.goto (-16), 3), ((0, (0, 0)), (0, 0)))),
  (618, ((.return_, 1), ((0, (0, 0)), (0, 0))))]
def z_tmDayMuseumModel : z_MT := (z_iyDayMuseumModel, (prog_14_method_1_code, (2, (none, (z_tcDayMuseumModel, (false, []))))))
theorem z_twDayMuseumModel : z_chkW z_tmDayMuseumModel = true := by decide +kernel
theorem rt_DayMuseumModel (d : Nat) {M : z_M} {Q : z_V → z_M → Prop}
  (h : z_G 5 d z_tmDayMuseumModel 578 [z_R 13, z_I 0] [] M Q) :
  z_G 5 d z_tmDayMuseumModel 576 [z_R 13, z_U] [] M Q :=
  q_iconst z_twDayMuseumModel 0 rfl (q_istore_n z_twDayMuseumModel 1 rfl (L2 := [z_R 13, z_I 0]) rfl (h))
theorem rg_DayMuseumModel_578 (d : Nat) {M : z_M} {Q : z_V → z_M → Prop} {l1 : Int}
  (h : ((10 ≤ l1 → z_G 5 d z_tmDayMuseumModel 599 [z_R 13, z_I 0] [] M Q) ∧ (l1 < 10 → ((0 : Int) ≤ l1 ∧ l1 < (10 : Int) ∧ z_G 5 d z_tmDayMuseumModel 578 [z_R 13, z_I (z_w (l1 + 1))] [] (z_up M 101116 l1 (-1)) Q)))) :
  z_G 5 d z_tmDayMuseumModel 578 [z_R 13, z_I l1] [] M Q :=
  q_iload_n z_twDayMuseumModel 2 rfl rfl (q_bipush z_twDayMuseumModel 3 rfl (q_icmp_ge z_twDayMuseumModel 4 rfl (tg := 597) rfl (fun c1 => q_iconst z_twDayMuseumModel 12 rfl (q_istore_n z_twDayMuseumModel 13 rfl (L2 := [z_R 13, z_I 0]) rfl ((h.1 c1)))) (fun c1 => q_aload_n z_twDayMuseumModel 5 rfl rfl (q_getR z_twDayMuseumModel 6 rfl (by decide) rfl (q_iload_n z_twDayMuseumModel 7 rfl rfl (q_iconst z_twDayMuseumModel 8 rfl (q_iast z_twDayMuseumModel 9 rfl (n := 10) rfl rfl (h.2 c1).1 (h.2 c1).2.1 (q_iinc z_twDayMuseumModel 10 rfl (L2 := [z_R 13, z_I (z_w (l1 + 1))]) rfl rfl (q_goto z_twDayMuseumModel 11 rfl (tg := 578) rfl ((h.2 c1).2.2))))))))))
theorem rg_DayMuseumModel_599 (d : Nat) {M : z_M} {Q : z_V → z_M → Prop} {l1 : Int}
  (h : ((6 ≤ l1 → Q z_U M) ∧ (l1 < 6 → ((0 : Int) ≤ l1 ∧ l1 < (6 : Int) ∧ z_G 5 d z_tmDayMuseumModel 599 [z_R 13, z_I (z_w (l1 + 1))] [] (z_up M 61120 l1 (-1)) Q)))) :
  z_G 5 d z_tmDayMuseumModel 599 [z_R 13, z_I l1] [] M Q :=
  q_iload_n z_twDayMuseumModel 14 rfl rfl (q_bipush z_twDayMuseumModel 15 rfl (q_icmp_ge z_twDayMuseumModel 16 rfl (tg := 618) rfl (fun c1 => q_vret z_twDayMuseumModel 24 rfl (h.1 c1)) (fun c1 => q_aload_n z_twDayMuseumModel 17 rfl rfl (q_getR z_twDayMuseumModel 18 rfl (by decide) rfl (q_iload_n z_twDayMuseumModel 19 rfl rfl (q_iconst z_twDayMuseumModel 20 rfl (q_iast z_twDayMuseumModel 21 rfl (n := 6) rfl rfl (h.2 c1).1 (h.2 c1).2.1 (q_iinc z_twDayMuseumModel 22 rfl (L2 := [z_R 13, z_I (z_w (l1 + 1))]) rfl rfl (q_goto z_twDayMuseumModel 23 rfl (tg := 599) rfl ((h.2 c1).2.2))))))))))
theorem z_tp_DayMuseumModel : z_G 5 0 z_tmDayMuseumModel 576 [z_R 13, z_U] [] (fun _ _ => 0) (fun _ M => (fun M => ∀ k ∈ 13 :: z_iGDayMuseumModel, ∀ j, M k j = z_M0 (fun _ => 0) k j) M) := by
  have l2 : ∀ (f : Nat) (k : Int), 0 ≤ k → k ≤ 6 → 6 - k < f → z_G 5 0 z_tmDayMuseumModel 599 [z_R 13, z_I k] [] (z_fl (z_fl (fun _ _ => 0) 101116 0 10 (-1)) 61120 0 k (-1)) (fun _ M => (fun M => ∀ k ∈ 13 :: z_iGDayMuseumModel, ∀ j, M k j = z_M0 (fun _ => 0) k j) M) := by
    intro f
    induction f with
    | zero => intro k _ h2 h3; exact absurd h3 (by omega)
    | succ f ih =>
      intro k h1 h2 h3
      refine rg_DayMuseumModel_599 0 ⟨fun c => ?_, fun c => ⟨h1, c, ?_⟩⟩
      · have e : k = 6 := by omega
        subst e
        exact (by
  intro k hk j
  by_cases h1 : k = 101116
  · subst h1; rfl
  by_cases h2 : k = 61120
  · subst h2; rfl
  rw [z_fl_off h2, z_fl_off h1]
  revert hk
  have key : ∀ k ∈ 13 :: z_iGDayMuseumModel, k ≠ 101116 → k ≠ 61120 → (k ∉ [301019, 28801031, 28801032, 28801033, 1921034, 101056, 241058, 101116, 61120, 100001017]) := by decide +kernel
  intro hk
  have := key k hk h1 h2
  unfold z_M0
  split <;> first | rfl | exact absurd (by decide) this)
      · rw [z_fl_up _ _ _ _ _ h1, z_w_id (by omega) (by omega)]
        exact ih (k + 1) (by omega) (by omega) (by omega)
  have l1 : ∀ (f : Nat) (k : Int), 0 ≤ k → k ≤ 10 → 10 - k < f → z_G 5 0 z_tmDayMuseumModel 578 [z_R 13, z_I k] [] (z_fl (fun _ _ => 0) 101116 0 k (-1)) (fun _ M => (fun M => ∀ k ∈ 13 :: z_iGDayMuseumModel, ∀ j, M k j = z_M0 (fun _ => 0) k j) M) := by
    intro f
    induction f with
    | zero => intro k _ h2 h3; exact absurd h3 (by omega)
    | succ f ih =>
      intro k h1 h2 h3
      refine rg_DayMuseumModel_578 0 ⟨fun c => ?_, fun c => ⟨h1, c, ?_⟩⟩
      · have e : k = 10 := by omega
        subst e
        have := l2 7 0 (by omega) (by omega) (by omega)
        rw [z_fl_0 _ _ 0 0 _ (Int.le_refl _)] at this
        exact this
      · rw [z_fl_up _ _ _ _ _ h1, z_w_id (by omega) (by omega)]
        exact ih (k + 1) (by omega) (by omega) (by omega)
  have := l1 11 0 (by omega) (by omega) (by omega)
  rw [z_fl_0 _ _ 0 0 _ (Int.le_refl _)] at this
  exact rt_DayMuseumModel 0 this
def z_rf (F : Nat → Nat) (k : Nat) : Value := if k = 0 then .int (Int32.ofInt 0) else if k = 1 then .null else .ref (F k)
def z_fsN : List Nat → List z_Ini → List Nat → List Nat
  | fs, i :: is, k :: ks => z_fsN (fs.set i.2.2.2.2.1 k) is ks
  | fs, _, _ => fs
theorem z_fsN_eq (F : Nat → Nat) : ∀ (is : List z_Ini) (ks : List Nat) (fs : List Nat), (∀ k ∈ ks, k ≠ 0 ∧ k ≠ 1) → z_fsr (fs.map (z_rf F)) is (ks.map F) = (z_fsN fs is ks).map (z_rf F) := by
  intro is
  induction is with
  | nil => intro ks fs _; cases ks <;> rfl
  | cons i is ih =>
    intro ks fs h
    cases ks with
    | nil => rfl
    | cons k ks =>
      have hk := h k List.mem_cons_self
      have e : (fs.map (z_rf F)).set i.2.2.2.2.1 (.ref (F k)) = (fs.set i.2.2.2.2.1 k).map (z_rf F) := by
        rw [List.map_set]
        unfold z_rf
        rw [if_neg hk.1, if_neg hk.2]
      show z_fsr ((fs.map (z_rf F)).set i.2.2.2.2.1 (.ref (F k))) is (ks.map F) = (z_fsN (fs.set i.2.2.2.2.1 k) is ks).map (z_rf F)
      rw [e]
      exact ih ks _ (fun k' h' => h k' (List.mem_cons_of_mem _ h'))
theorem z_adu_map (f : Nat → Nat) : ∀ (ks as : List Nat), ks.Nodup → as.length = ks.length → ks.map (z_adu f ks as) = as := by
  intro ks
  induction ks with
  | nil => intro as _ h; cases as with
    | nil => rfl
    | cons a as => cases h
  | cons k ks ih =>
    intro as h1 h2
    cases as with
    | nil => cases h2
    | cons a as =>
      rw [List.nodup_cons] at h1
      show (if k = k then a else z_adu f ks as k) :: ks.map (fun q => if q = k then a else z_adu f ks as q) = a :: as
      rw [if_pos rfl]
      congr 1
      refine Eq.trans ?_ (ih as h1.2 (Nat.succ.inj h2))
      apply List.map_congr_left
      intro q hq
      show (if q = k then a else z_adu f ks as q) = z_adu f ks as q
      rw [if_neg (fun e : q = k => h1.1 (by rw [← e]; exact hq))]
def z_agr : List z_Ini → List Nat → Bool
  | [], [] => true
  | i :: is, k :: ks => Nat.beq (z_knd k) i.2.2.2.1 && (Nat.beq (z_len k) i.2.2.1 && (!Nat.beq (z_knd k) 0 && z_agr is ks))
  | _, _ => false
theorem z_arw_eq (cx : z_C) (F : Nat → Nat) : ∀ (is : List z_Ini) (ks : List Nat), z_agr is ks = true → z_arw cx is (ks.map F) = z_wg ks (z_cxa cx F) (fun _ _ => 0) := by
  intro is
  induction is with
  | nil => intro ks h; cases ks with
    | nil => rfl
    | cons k ks => cases h
  | cons i is ih =>
    intro ks h
    cases ks with
    | nil => cases h
    | cons k ks =>
      unfold z_agr at h
      simp only [Bool.and_eq_true, Bool.not_eq_true'] at h
      obtain ⟨h1, h2, h3, h4⟩ := h
      have e1 := Nat.eq_of_beq_eq_true h1
      have e2 := Nat.eq_of_beq_eq_true h2
      have e3 : z_knd k ≠ 0 := fun e => by rw [e] at h3; cases h3
      show ((F k, (Sum.inl (cx.2.1 i.2.2.2.1, z_zero i.2.2.1 i.2.2.2.1) : va_E)) :: z_arw cx is (ks.map F)) = (F k, z_cell (z_cxa cx F) (fun _ _ => 0) k) :: z_wg ks (z_cxa cx F) (fun _ _ => 0)
      rw [ih ks h4]
      congr 2
      rw [← e1, ← e2]
      unfold z_cell z_zero
      rw [if_neg e3]
      by_cases e4 : z_knd k = 2
      · rw [if_pos e4, if_pos e4, e4]; rfl
      · rw [if_neg e4, if_neg e4]; rfl
theorem z_flds_rf (cx : z_C) (F : Nat → Nat) (k : Nat) (h : ∀ t ∈ z_fts k, t ≠ 1) : z_flds (z_cxa cx F) (fun _ _ => 0) k = (z_fts k).map (z_rf F) := by
  apply List.ext_getElem?
  intro i
  unfold z_flds
  rw [List.getElem?_map, List.getElem?_map, List.getElem?_zipIdx]
  cases hi : (z_fts k)[i]? with
  | none => rfl
  | some t =>
    have ht := h t (List.mem_of_getElem? hi)
    show some (z_fld (z_cxa cx F) (fun _ _ => 0) k (t, 0 + i)) = some (z_rf F t)
    unfold z_fld z_rf
    by_cases e : t = 0
    · rw [if_pos e, if_pos e]
    · rw [if_neg e, if_neg e, if_neg ht]; rfl
def z_fs0DayMuseumModel : List Nat := [1, 0, 0, 0, 0, 0, 0, 0, 0, 1, 1, 1, 1, 1, 1, 1, 1, 0, 1, 1, 1, 0, 0, 1, 1, 1, 1, 1, 1, 0, 1, 1, 1, 1, 1, 1, 0, 0, 1, 0, 0, 0, 0, 0, 0, 1, 1, 1, 0, 0, 1, 1, 1, 1, 1, 1, 0, 0, 1, 0, 1, 1, 0, 0, 1, 1, 0, 0, 1, 0, 1, 1, 1, 0, 0, 0, 1, 1, 1, 1, 1, 0, 1, 1, 1, 1, 1, 1, 1, 1, 1, 1, 1, 1, 1, 1, 1, 1, 0, 1, 0, 1, 1, 1, 1, 0, 0]
set_option maxRecDepth 100000 in
theorem z_fsN_M : z_fsN z_fs0DayMuseumModel z_iiDayMuseumModel z_iGDayMuseumModel = z_fts 13 := by decide +kernel
theorem z_agr_M : z_agr z_iiDayMuseumModel z_iGDayMuseumModel = true := by decide +kernel
set_option maxRecDepth 100000 in
theorem z_bigW (cx : z_C) (as : List Nat) (hl : as.length = 69) : ((cx.2.2 13, .inr (12, z_fsr [.null, .int 0, .int 0, .int 0, .int 0, .int 0, .int 0, .int 0, .int 0, .null, .null, .null, .null, .null, .null, .null, .null, .int 0, .null, .null, .null, .int 0, .int 0, .null, .null, .null, .null, .null, .null, .int 0, .null, .null, .null, .null, .null, .null, .int 0, .int 0, .null, .int 0, .int 0, .int 0, .int 0, .int 0, .int 0, .null, .null, .null, .int 0, .int 0, .null, .null, .null, .null, .null, .null, .int 0, .int 0, .null, .int 0, .null, .null, .int 0, .int 0, .null, .null, .int 0, .int 0, .null, .int 0, .null, .null, .null, .int 0, .int 0, .int 0, .null, .null, .null, .null, .null, .int 0, .null, .null, .null, .null, .null, .null, .null, .null, .null, .null, .null, .null, .null, .null, .null, .null, .int 0, .null, .int 0, .null, .null, .null, .null, .int 0, .int 0] z_iiDayMuseumModel as)) :: ([] ++ z_arw cx z_iiDayMuseumModel as) : va_W) = z_wg (13 :: z_iGDayMuseumModel) (z_cxa cx (z_adu cx.2.2 z_iGDayMuseumModel as)) (fun _ _ => 0) := by
  have hnd : z_iGDayMuseumModel.Nodup := by decide +kernel
  have hn : as.length = z_iGDayMuseumModel.length := hl
  have hm := z_adu_map cx.2.2 z_iGDayMuseumModel as hnd hn
  have ho : z_adu cx.2.2 z_iGDayMuseumModel as 13 = cx.2.2 13 := z_adu_off (by decide +kernel)
  generalize z_adu cx.2.2 z_iGDayMuseumModel as = F at hm ho ⊢
  subst hm
  have e1 : ([.null, .int 0, .int 0, .int 0, .int 0, .int 0, .int 0, .int 0, .int 0, .null, .null, .null, .null, .null, .null, .null, .null, .int 0, .null, .null, .null, .int 0, .int 0, .null, .null, .null, .null, .null, .null, .int 0, .null, .null, .null, .null, .null, .null, .int 0, .int 0, .null, .int 0, .int 0, .int 0, .int 0, .int 0, .int 0, .null, .null, .null, .int 0, .int 0, .null, .null, .null, .null, .null, .null, .int 0, .int 0, .null, .int 0, .null, .null, .int 0, .int 0, .null, .null, .int 0, .int 0, .null, .int 0, .null, .null, .null, .int 0, .int 0, .int 0, .null, .null, .null, .null, .null, .int 0, .null, .null, .null, .null, .null, .null, .null, .null, .null, .null, .null, .null, .null, .null, .null, .null, .int 0, .null, .int 0, .null, .null, .null, .null, .int 0, .int 0] : List Value) = z_fs0DayMuseumModel.map (z_rf F) := rfl
  rw [e1, z_fsN_eq F _ _ _ (by decide +kernel), z_fsN_M, z_arw_eq cx F _ _ z_agr_M, List.nil_append]
  show _ = (F 13, z_cell (z_cxa cx F) (fun _ _ => 0) 13) :: z_wg z_iGDayMuseumModel (z_cxa cx F) (fun _ _ => 0)
  rw [ho, z_cell_obj (k := 13) (by decide +kernel), z_flds_rf cx F 13 (by decide +kernel)]
  rfl
set_option maxRecDepth 100000 in
theorem z_inDayMuseumModel (l : Launch) (cx : z_C) (sz : Nat) : Met l z_iyDayMuseumModel (.code z_iyDayMuseumModel prog_14_method_1_code 2 none :: z_ts) (z_rmi 69 41090) (va_Pc [.ref (cx.2.2 13)] (z_IP cx 13 [.null, .int 0, .int 0, .int 0, .int 0, .int 0, .int 0, .int 0, .int 0, .null, .null, .null, .null, .null, .null, .null, .null, .int 0, .null, .null, .null, .int 0, .int 0, .null, .null, .null, .null, .null, .null, .int 0, .null, .null, .null, .null, .null, .null, .int 0, .int 0, .null, .int 0, .int 0, .int 0, .int 0, .int 0, .int 0, .null, .null, .null, .int 0, .int 0, .null, .null, .null, .null, .null, .null, .int 0, .int 0, .null, .int 0, .null, .null, .int 0, .int 0, .null, .null, .int 0, .int 0, .null, .int 0, .null, .null, .null, .int 0, .int 0, .int 0, .null, .null, .null, .null, .null, .int 0, .null, .null, .null, .null, .null, .null, .null, .null, .null, .null, .null, .null, .null, .null, .null, .null, .int 0, .null, .int 0, .null, .null, .null, .null, .int 0, .int 0] sz)) (z_IQ cx 13 z_iGDayMuseumModel (fun M => ∀ k ∈ 13 :: z_iGDayMuseumModel, ∀ j, M k j = z_M0 (fun _ => 0) k j) sz) 69 41090 (z_IA cx 13 sz) := by
  refine Met.ofW (cc := prog_14_method_1_code) (maxL := 2) (ret := none) (by decide) rfl ?_
  intro p e s m args below meth c s₁ B hml hv
  obtain ⟨rfl, hsz, hP, hK, hD, hSt⟩ := hv
  subst hsz
  have hx := B.exec
  have hb := B.bytes
  have hr := B.returns
  have hts' := atoms_spec (ws := .code z_iyDayMuseumModel prog_14_method_1_code 2 none :: z_ts) B.pre
  have hts : ∀ x ∈ z_ts, x.before _ s = true := fun x hx => hts' x (List.mem_cons_of_mem _ hx)
  have hown : s.vm.findClass "DayMuseumModel" = some m.cls := findClass_of_methodNamed B.named
  have hlocks := B.notSynchronized
  have hin2 : meth.name = "<init>" := (name_of_methodNamed B.named B.method).1
  have hA : ∀ q, s.heap.size ≤ q → z_IA cx 13 s.heap.size q := fun q h => Or.inr h
  have hS : va_S (z_IA cx 13 s.heap.size) s.heap s.heap [] := va_S.rf
  have hl := lv_entry ([.ref (cx.2.2 13)]) (n := 2) (Nat.le_of_ble_eq_true rfl)
  rw [lg_entry_eq]
  generalize (lg_sl ([.ref (cx.2.2 13)]) ++ List.replicate (2 - (lg_sl ([.ref (cx.2.2 13)])).length) Slot.unset).toArray = ls at hl ⊢
  refine lv_aload_n hx hb (z_ldd z_ilDayMuseumModel_ok 0 (q := (0, (.aload_n 0, 1))) rfl) rfl (lv_at hl 0 rfl) ?_
  refine W.objInit hx hb hown (hts _ (z_wd_in (ci := (7, 25)) (by decide +kernel))) (hts _ z_oi_in) (hts _ z_oi_co) rfl (hl.1.trans hml.symm) rfl (z_ldd z_ilDayMuseumModel_ok 1 (q := (1, (.invokespecial 1, 3))) rfl) (Nat.le_of_ble_eq_true rfl) (Nat.le_of_ble_eq_true rfl) ?_
  refine z_inits hx hb hts hown hin2 hK hA (q := ("DayMuseumModel", z_T12, 107)) rfl (lv_at hl 0 rfl) z_iiDayMuseumModel 4 [.null, .int 0, .int 0, .int 0, .int 0, .int 0, .int 0, .int 0, .int 0, .null, .null, .null, .null, .null, .null, .null, .null, .int 0, .null, .null, .null, .int 0, .int 0, .null, .null, .null, .null, .null, .null, .int 0, .null, .null, .null, .null, .null, .null, .int 0, .int 0, .null, .int 0, .int 0, .int 0, .int 0, .int 0, .int 0, .null, .null, .null, .int 0, .int 0, .null, .null, .null, .null, .null, .null, .int 0, .int 0, .null, .int 0, .null, .null, .int 0, .int 0, .null, .null, .int 0, .int 0, .null, .int 0, .null, .null, .null, .int 0, .int 0, .int 0, .null, .null, .null, .null, .null, .int 0, .null, .null, .null, .null, .null, .null, .null, .null, .null, .null, .null, .null, .null, .null, .null, .null, .int 0, .null, .int 0, .null, .null, .null, .null, .int 0, .int 0] [] s.heap [] 0 0 (by decide +kernel) rfl hP hD hS (Nat.le_of_ble_eq_true rfl) (Nat.le_of_ble_eq_true rfl) (fun as H locs hlen hP hD hS => ?_)
  show W p l e _ s m _ below meth c H locs 69 41090 _ (F0 m 576 ls [])
  have eW : ((cx.2.2 13, .inr (12, z_fsr [.null, .int 0, .int 0, .int 0, .int 0, .int 0, .int 0, .int 0, .int 0, .null, .null, .null, .null, .null, .null, .null, .null, .int 0, .null, .null, .null, .int 0, .int 0, .null, .null, .null, .null, .null, .null, .int 0, .null, .null, .null, .null, .null, .null, .int 0, .int 0, .null, .int 0, .int 0, .int 0, .int 0, .int 0, .int 0, .null, .null, .null, .int 0, .int 0, .null, .null, .null, .null, .null, .null, .int 0, .int 0, .null, .int 0, .null, .null, .int 0, .int 0, .null, .null, .int 0, .int 0, .null, .int 0, .null, .null, .null, .int 0, .int 0, .int 0, .null, .null, .null, .null, .null, .int 0, .null, .null, .null, .null, .null, .null, .null, .null, .null, .null, .null, .null, .null, .null, .null, .null, .int 0, .null, .int 0, .null, .null, .null, .null, .int 0, .int 0] z_iiDayMuseumModel (as))) :: ([] ++ z_arw cx z_iiDayMuseumModel (as)) : va_W) = z_wg (13 :: z_iGDayMuseumModel) (z_cxa cx (z_adu cx.2.2 z_iGDayMuseumModel (as))) (fun _ _ => 0) := z_bigW cx as hlen
  replace hP : va_P cx.1 z_cl (z_wg (13 :: z_iGDayMuseumModel) (z_cxa cx (z_adu cx.2.2 z_iGDayMuseumModel as)) (fun _ _ => 0)) H := by rw [← eW]; exact hP
  replace hD : va_D (z_IA cx 13 s.heap.size) (z_wg (13 :: z_iGDayMuseumModel) (z_cxa cx (z_adu cx.2.2 z_iGDayMuseumModel as)) (fun _ _ => 0)) := by rw [← eW]; exact hD
  exact z_tail (t := z_tmDayMuseumModel) (f := z_adu cx.2.2 z_iGDayMuseumModel (as)) z_tp_DayMuseumModel rfl rfl hx hb hr hml hown hts hlocks hK hSt ⟨Nat.le_of_ble_eq_true rfl, Nat.le_of_ble_eq_true rfl, Nat.le_of_ble_eq_true rfl, Nat.le_of_ble_eq_true rfl⟩ (fun k hk => z_adu_off (by revert k; decide +kernel)) (fun k hk => z_adu_off hk) (z_adu_off (by decide +kernel)) hP hD hS (z_MRz _) (by
    have ho : z_adu cx.2.2 z_iGDayMuseumModel as 13 = cx.2.2 13 := z_adu_off (by decide +kernel)
    generalize z_adu cx.2.2 z_iGDayMuseumModel as = F at ho ⊢
    refine lv_sub hl [0] ?_
    rw [← ho]
    rfl) rfl (by simp) (by intro v hv; simp only [List.mem_cons, List.not_mem_nil, or_false] at hv; rcases hv with rfl | rfl <;> first | exact trivial | exact Or.inl (by decide +kernel))
