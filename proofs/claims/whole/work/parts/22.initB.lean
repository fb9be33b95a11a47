theorem z_IA_eq {w : Nat} {cx : z_C} {f : Nat → Nat} {o sz : Nat} {G : List Nat} {M : z_M} (hw : z_ids w = o :: G) (hf : f o = cx.2.2 o) (hD : va_D (z_IA cx o sz) (z_wg (o :: G) (z_cxa cx f) M)) : z_A w (z_cxa cx f) sz = z_IA cx o sz := by
  funext q
  apply propext
  constructor
  · intro h
    rcases h with ⟨k, hk, rfl⟩ | h
    · rw [hw] at hk
      obtain ⟨i, hi⟩ := List.getElem?_of_mem hk
      exact hD.2 i (f k, z_cell (z_cxa cx f) M k) (by unfold z_wg; rw [List.getElem?_map, hi]; rfl)
    · exact Or.inr h
  · intro h
    rcases h with h | h
    · exact Or.inl ⟨o, by rw [hw]; exact List.mem_cons_self, by rw [h]; exact hf.symm⟩
    · exact Or.inr h
theorem z_St_cxa {cx : z_C} {f : Nat → Nat} {A : Nat → Prop} {U : State} {H : Heap} (hf : ∀ k ∈ z_cons, f k = cx.2.2 k) (h : z_St cx A U H) : z_St (z_cxa cx f) A U H := by
  refine ⟨fun k hk => ?_, h.2⟩
  have := h.1 k hk
  have e : (z_cxa cx f).2.2 k = cx.2.2 k := hf k hk
  rw [e]
  exact this
/-- a constructor's end, walked by the small machine -/
theorem z_tail {w d : Nat} {t : z_MT} {pc : Nat} {L : List z_V} {M : z_M} {PQ : z_M → Prop} {p : Program} {l : Launch} {e : Env} {R : Room} {CC SS : Nat} {s : State} {m : MethodId} {args : Array Value} {below : List Frame} {meth : Method} {c : Code} {cx : z_C} {H : Heap} {locs : List Loc} {ls : Array Slot} {o : Nat} {G : List Nat} {f : Nat → Nat} (hG : z_G w d t pc L [] M (fun _ M' => PQ M')) (hw : z_ids w = o :: G) (ht : t.2.2.2.1 = none)
    (hx : p.tables.exec = Jvm.exec) (hb : c.code = t.2.1) (hr : meth.sig.returnType = none) (hml : c.maxLocals = t.2.2.1) (hown : s.vm.findClass t.1.cls = some m.cls) (hts : ∀ x ∈ z_ts, x.before args s = true) (hlk : meth.locks = false) (hK : va_K cx.1 z_cl (z_tys cx) s) (hSt : z_St cx (z_IA cx o s.heap.size) s s.heap) (hRm : d + 1 ≤ R.frames ∧ 64 * (d + 1) ≤ R.locals ∧ CC ≤ R.cells ∧ SS ≤ R.slots) (hfc : ∀ k ∈ z_cons, f k = cx.2.2 k) (hfG : ∀ k, k ∉ G → f k = cx.2.2 k) (hfo : f o = cx.2.2 o)
    (hP : va_P cx.1 z_cl (z_wg (o :: G) (z_cxa cx f) M) H) (hD : va_D (z_IA cx o s.heap.size) (z_wg (o :: G) (z_cxa cx f) M)) (hS : va_S (z_IA cx o s.heap.size) s.heap H locs) (hMR : z_MRg (o :: G) M) (hl : lv_has ls t.2.2.1 (z_lx f 0 L)) (hLn : L.length = t.2.2.1) (hLok : ∀ v ∈ L, v = z_U ∨ (∃ k, v = z_R k)) (hLz : ∀ v ∈ L, z_vok w v) :
    W p l e R s m args below meth c H locs CC SS (MQ below (z_IQ cx o G PQ s.heap.size) args s CC SS (z_IA cx o s.heap.size)) (F0 m pc ls []) := by
  have hA := z_IA_eq (w := w) hw hfo hD
  have ews : ∀ M, z_ws w (z_cxa cx f) M = z_wg (o :: G) (z_cxa cx f) M := fun M => by unfold z_ws z_wg; rw [hw]
  have hSt2 := z_St_cxa hfc hSt
  refine W.post ?_ (hG p l e R CC SS s m args below meth c (z_cxa cx f) H locs ls ⟨hx, hb, by rw [hr, ht], hml, hown, hts, hlk, hK, by rw [hA]; exact hSt2, hRm⟩ ⟨by rw [ews]; exact hP, by rw [hA, ews]; exact hD, by rw [hA]; exact hS, by unfold z_MR; rw [hw]; exact hMR, hl, hLn, hLz, fun v hv => by cases hv⟩)
  intro u hu
  obtain ⟨oc, h1, h2, ⟨⟨v, M', g1, g2, g3, g4, g5, g6, g7⟩, g8⟩, h4⟩ := hu
  rw [hA] at g6 g8 h4
  rw [ews] at g5 g6
  have hv := g2 ht
  subst hv
  exact ⟨oc, h1, h2, ⟨⟨f, M', g1, hfG, hfo, g4, by unfold z_MR at g7; rw [hw] at g7; exact g7, g5, g6⟩, g8⟩, h4⟩
theorem z_MRz (G : List Nat) : z_MRg G (fun _ _ => 0) := by
  intro k _ j _ _
  split
  · show z_i64 0
    exact ⟨by decide, by decide⟩
  · show z_i32 0
    exact ⟨by decide, by decide⟩
def z_iyTown : MethodName := ⟨"DayMuseum$Town", "<init>", "()V"⟩
def z_iiTown : List z_Ini := [(4, ((.bipush 100, 2), (100, (1, (0, (9, (1, 75))))))), (12, ((.bipush 100, 2), (100, (1, (1, (15, (1, 76))))))), (20, ((.sipush 10000, 3), (10000, (1, (2, (18, (1, 77)))))))]
def z_iGTown : List Nat := [1001015, 1001016, 100001017]
def z_ilTown : List (Nat × (Instr × Nat)) := [(0, (.aload_n 0, 1)), (1, (.invokespecial 3, 3)), (29, (.aload_n 0, 1)), (30, (.invokevirtual 21, 3)), (33, (.return_, 1))]
theorem z_ilTown_ok : z_ilTown.all (fun q => decide (decode prog_11_method_1_code q.1 = .ok q.2)) = true := by decide +kernel
def z_tcTown : List z_E := [(29, ((.aload_n 0, 1), ((0, (0, 0)), (0, 0)))),
  (30, ((.invokevirtual 21, 3), ((154, (1, 30)), (1, 56)))),
  (33, ((.return_, 1), ((0, (0, 0)), (0, 0))))]
def z_tmTown : z_MT := (z_iyTown, (prog_11_method_1_code, (1, (none, (z_tcTown, (false, []))))))
theorem z_twTown : z_chkW z_tmTown = true := by decide +kernel
theorem rt_Town (d : Nat) {M : z_M} {Q : z_V → z_M → Prop}
  (h : z_Cl 1 d 154 [z_R 3] M (fun _ M1 => Q z_U M1)) :
  z_G 1 (d + 1) z_tmTown 29 [z_R 3] [] M Q :=
  q_aload_n z_twTown 0 rfl rfl (q_invv0 z_twTown 1 rfl rfl rfl rfl (Nat.le_of_ble_eq_true rfl) (Nat.le_of_ble_eq_true rfl) (z_Cl_mono (fun _ M1 h1 => q_vret z_twTown 2 rfl h1) h))
theorem z_tp_Town : z_G 1 3 z_tmTown 29 [z_R 3] [] (fun _ _ => 0) (fun _ M => ∀ k, k ≠ 100001017 → ∀ j, M k j = 0) := rt_Town 2 (c_measurew 0 (fun M1 h k hk j => by rw [h k hk]))
set_option maxRecDepth 100000 in
theorem z_inTown (l : Launch) (cx : z_C) (sz : Nat) : Met l z_iyTown (.code z_iyTown prog_11_method_1_code 1 none :: z_ts) (z_rmi 3 10200) (va_Pc [.ref (cx.2.2 3)] (z_IP cx 3 [.null, .null, .null] sz)) (z_IQ cx 3 z_iGTown (fun M => ∀ k, k ≠ 100001017 → ∀ j, M k j = 0) sz) 3 10200 (z_IA cx 3 sz) := by
  refine Met.ofW (cc := prog_11_method_1_code) (maxL := 1) (ret := none) (by decide) rfl ?_
  intro p e s m args below meth c s₁ B hml hv
  obtain ⟨rfl, hsz, hP, hK, hD, hSt⟩ := hv
  subst hsz
  have hx := B.exec
  have hb := B.bytes
  have hr := B.returns
  have hts' := atoms_spec (ws := .code z_iyTown prog_11_method_1_code 1 none :: z_ts) B.pre
  have hts : ∀ x ∈ z_ts, x.before _ s = true := fun x hx => hts' x (List.mem_cons_of_mem _ hx)
  have hown : s.vm.findClass "DayMuseum$Town" = some m.cls := findClass_of_methodNamed B.named
  have hlocks := B.notSynchronized
  have hin2 : meth.name = "<init>" := (name_of_methodNamed B.named B.method).1
  have hA : ∀ q, s.heap.size ≤ q → z_IA cx 3 s.heap.size q := fun q h => Or.inr h
  have hS : va_S (z_IA cx 3 s.heap.size) s.heap s.heap [] := va_S.rf
  have hl := lv_entry ([.ref (cx.2.2 3)]) (n := 1) (Nat.le_of_ble_eq_true rfl)
  rw [lg_entry_eq]
  generalize (lg_sl ([.ref (cx.2.2 3)]) ++ List.replicate (1 - (lg_sl ([.ref (cx.2.2 3)])).length) Slot.unset).toArray = ls at hl ⊢
  refine lv_aload_n hx hb (z_ldd z_ilTown_ok 0 (q := (0, (.aload_n 0, 1))) rfl) rfl (lv_at hl 0 rfl) ?_
  refine W.objInit hx hb hown (hts _ (z_wd_in (ci := (1, 55)) (by decide +kernel))) (hts _ z_oi_in) (hts _ z_oi_co) rfl (hl.1.trans hml.symm) rfl (z_ldd z_ilTown_ok 1 (q := (1, (.invokespecial 3, 3))) rfl) (Nat.le_of_ble_eq_true rfl) (Nat.le_of_ble_eq_true rfl) ?_
  refine z_inits hx hb hts hown hin2 hK hA (q := ("DayMuseum$Town", z_T9, 3)) rfl (lv_at hl 0 rfl) z_iiTown 4 [.null, .null, .null] [] s.heap [] 0 0 (by decide +kernel) rfl hP hD hS (Nat.le_of_ble_eq_true rfl) (Nat.le_of_ble_eq_true rfl) (fun as H locs hlen hP hD hS => ?_)
  obtain ⟨b0, b1, b2, rfl⟩ : ∃ b0 b1 b2, as = [b0, b1, b2] := by
    match as, hlen with
    | [b0, b1, b2], _ => exact ⟨b0, b1, b2, rfl⟩
  replace hP : va_P cx.1 z_cl ((cx.2.2 3, .inr (9, [.ref b0, .ref b1, .ref b2])) :: [(b0, .inl (cx.2.1 1, z_zero 100 1)), (b1, .inl (cx.2.1 1, z_zero 100 1)), (b2, .inl (cx.2.1 1, z_zero 10000 1))]) H := hP
  replace hD : va_D (z_IA cx 3 s.heap.size) ((cx.2.2 3, .inr (9, [.ref b0, .ref b1, .ref b2])) :: [(b0, .inl (cx.2.1 1, z_zero 100 1)), (b1, .inl (cx.2.1 1, z_zero 100 1)), (b2, .inl (cx.2.1 1, z_zero 10000 1))]) := hD
  show W p l e _ s m _ below meth c H locs 3 10200 _ (F0 m 29 ls [])
  have eW : ((cx.2.2 3, .inr (9, [.ref b0, .ref b1, .ref b2])) :: [(b0, .inl (cx.2.1 1, z_zero 100 1)), (b1, .inl (cx.2.1 1, z_zero 100 1)), (b2, .inl (cx.2.1 1, z_zero 10000 1))] : va_W) = z_wg (3 :: z_iGTown) (z_cxa cx (z_adu cx.2.2 z_iGTown [b0, b1, b2])) (fun _ _ => 0) := rfl
  rw [eW] at hP hD
  exact z_tail (t := z_tmTown) (f := z_adu cx.2.2 z_iGTown [b0, b1, b2]) z_tp_Town rfl rfl hx hb hr hml hown hts hlocks hK hSt ⟨Nat.le_of_ble_eq_true rfl, Nat.le_of_ble_eq_true rfl, Nat.le_of_ble_eq_true rfl, Nat.le_of_ble_eq_true rfl⟩ (fun k hk => z_adu_off (by revert k; decide +kernel)) (fun k hk => z_adu_off hk) (z_adu_off (by decide +kernel)) hP hD hS (z_MRz _) hl rfl (by simp) (by intro v hv; simp only [List.mem_cons, List.not_mem_nil, or_false] at hv; rcases hv with rfl <;> first | exact trivial | exact Or.inl (by decide +kernel))
def z_iySenses : MethodName := ⟨"DayMuseum$Senses", "<init>", "(LDayMuseum$Town;LDayMuseum$People;LDayMuseum$Law;)V"⟩
def z_iiSenses : List z_Ini := [(4, ((.sipush 2880, 3), (2880, (1, (3, (9, (1, 173))))))), (13, ((.sipush 2880, 3), (2880, (1, (4, (15, (1, 174))))))), (22, ((.sipush 2880, 3), (2880, (1, (5, (18, (1, 175))))))), (31, ((.sipush 192, 3), (192, (1, (6, (21, (1, 176)))))))]
def z_iGSenses : List Nat := [28801031, 28801032, 28801033, 1921034]
def z_ilSenses : List (Nat × (Instr × Nat)) := [(0, (.aload_n 0, 1)), (1, (.invokespecial 3, 3)), (40, (.aload_n 0, 1)), (41, (.aload_n 1, 1)), (42, (.putfield 24, 3)), (45, (.aload_n 0, 1)), (46, (.aload_n 2, 1)), (47, (.putfield 28, 3)), (50, (.aload_n 0, 1)), (51, (.aload_n 3, 1)), (52, (.putfield 32, 3)), (55, (.aload_n 0, 1)), (56, (.invokevirtual 36, 3)), (59, (.return_, 1))]
theorem z_ilSenses_ok : z_ilSenses.all (fun q => decide (decode prog_9_method_1_code q.1 = .ok q.2)) = true := by decide +kernel
def z_tcSenses : List z_E := [(55, ((.aload_n 0, 1), ((0, (0, 0)), (0, 0)))),
  (56, ((.invokevirtual 36, 3), ((111, (1, 60)), (1, 165)))),
  (59, ((.return_, 1), ((0, (0, 0)), (0, 0))))]
def z_tmSenses : z_MT := (z_iySenses, (prog_9_method_1_code, (4, (none, (z_tcSenses, (false, []))))))
theorem z_twSenses : z_chkW z_tmSenses = true := by decide +kernel
theorem rt_Senses (d : Nat) {M : z_M} {Q : z_V → z_M → Prop}
  (h : z_Cl 2 d 111 [z_R 6] M (fun _ M1 => Q z_U M1)) :
  z_G 2 (d + 1) z_tmSenses 55 [z_R 6, z_U, z_U, z_U] [] M Q :=
  q_aload_n z_twSenses 0 rfl rfl (q_invv0 z_twSenses 1 rfl rfl rfl rfl (Nat.le_of_ble_eq_true rfl) (Nat.le_of_ble_eq_true rfl) (z_Cl_mono (fun _ M1 h1 => q_vret z_twSenses 2 rfl h1) h))
theorem z_tp_Senses : z_G 2 2 z_tmSenses 55 [z_R 6, z_U, z_U, z_U] [] (fun _ _ => 0) (fun _ M => (fun M => ∀ k ∈ 6 :: z_iGSenses, ∀ j, M k j = z_M0 (fun _ => 0) k j) M) := rt_Senses 1 (c_forgetw 0 (by
  intro k hk j
  simp only [z_iGSenses, List.mem_cons, List.not_mem_nil, or_false] at hk
  rcases hk with rfl | rfl | rfl | rfl | rfl <;> rfl))
set_option maxRecDepth 100000 in
theorem z_inSenses (l : Launch) (cx : z_C) (sz : Nat) : Met l z_iySenses (.code z_iySenses prog_9_method_1_code 4 none :: z_ts) (z_rmi 4 8832) (va_Pc [.ref (cx.2.2 6), .ref (cx.2.2 3), .ref (cx.2.2 4), .ref (cx.2.2 5)] (z_IP cx 6 [.null, .null, .null, .null, .null, .null, .null] sz)) (z_IQ cx 6 z_iGSenses (fun M => ∀ k ∈ 6 :: z_iGSenses, ∀ j, M k j = z_M0 (fun _ => 0) k j) sz) 4 8832 (z_IA cx 6 sz) := by
  refine Met.ofW (cc := prog_9_method_1_code) (maxL := 4) (ret := none) (by decide) rfl ?_
  intro p e s m args below meth c s₁ B hml hv
  obtain ⟨rfl, hsz, hP, hK, hD, hSt⟩ := hv
  subst hsz
  have hx := B.exec
  have hb := B.bytes
  have hr := B.returns
  have hts' := atoms_spec (ws := .code z_iySenses prog_9_method_1_code 4 none :: z_ts) B.pre
  have hts : ∀ x ∈ z_ts, x.before _ s = true := fun x hx => hts' x (List.mem_cons_of_mem _ hx)
  have hown : s.vm.findClass "DayMuseum$Senses" = some m.cls := findClass_of_methodNamed B.named
  have hlocks := B.notSynchronized
  have hin2 : meth.name = "<init>" := (name_of_methodNamed B.named B.method).1
  have hA : ∀ q, s.heap.size ≤ q → z_IA cx 6 s.heap.size q := fun q h => Or.inr h
  have hS : va_S (z_IA cx 6 s.heap.size) s.heap s.heap [] := va_S.rf
  have hl := lv_entry ([.ref (cx.2.2 6), .ref (cx.2.2 3), .ref (cx.2.2 4), .ref (cx.2.2 5)]) (n := 4) (Nat.le_of_ble_eq_true rfl)
  rw [lg_entry_eq]
  generalize (lg_sl ([.ref (cx.2.2 6), .ref (cx.2.2 3), .ref (cx.2.2 4), .ref (cx.2.2 5)]) ++ List.replicate (4 - (lg_sl ([.ref (cx.2.2 6), .ref (cx.2.2 3), .ref (cx.2.2 4), .ref (cx.2.2 5)])).length) Slot.unset).toArray = ls at hl ⊢
  refine lv_aload_n hx hb (z_ldd z_ilSenses_ok 0 (q := (0, (.aload_n 0, 1))) rfl) rfl (lv_at hl 0 rfl) ?_
  refine W.objInit hx hb hown (hts _ (z_wd_in (ci := (1, 164)) (by decide +kernel))) (hts _ z_oi_in) (hts _ z_oi_co) rfl (hl.1.trans hml.symm) rfl (z_ldd z_ilSenses_ok 1 (q := (1, (.invokespecial 3, 3))) rfl) (Nat.le_of_ble_eq_true rfl) (Nat.le_of_ble_eq_true rfl) ?_
  refine z_inits hx hb hts hown hin2 hK hA (q := ("DayMuseum$Senses", z_T7, 7)) rfl (lv_at hl 0 rfl) z_iiSenses 4 [.null, .null, .null, .null, .null, .null, .null] [] s.heap [] 0 0 (by decide +kernel) rfl hP hD hS (Nat.le_of_ble_eq_true rfl) (Nat.le_of_ble_eq_true rfl) (fun as H locs hlen hP hD hS => ?_)
  obtain ⟨b0, b1, b2, b3, rfl⟩ : ∃ b0 b1 b2 b3, as = [b0, b1, b2, b3] := by
    match as, hlen with
    | [b0, b1, b2, b3], _ => exact ⟨b0, b1, b2, b3, rfl⟩
  replace hP : va_P cx.1 z_cl ((cx.2.2 6, .inr (7, [.null, .null, .null, .ref b0, .ref b1, .ref b2, .ref b3])) :: [(b0, .inl (cx.2.1 1, z_zero 2880 1)), (b1, .inl (cx.2.1 1, z_zero 2880 1)), (b2, .inl (cx.2.1 1, z_zero 2880 1)), (b3, .inl (cx.2.1 1, z_zero 192 1))]) H := hP
  replace hD : va_D (z_IA cx 6 s.heap.size) ((cx.2.2 6, .inr (7, [.null, .null, .null, .ref b0, .ref b1, .ref b2, .ref b3])) :: [(b0, .inl (cx.2.1 1, z_zero 2880 1)), (b1, .inl (cx.2.1 1, z_zero 2880 1)), (b2, .inl (cx.2.1 1, z_zero 2880 1)), (b3, .inl (cx.2.1 1, z_zero 192 1))]) := hD
  show W p l e _ s m _ below meth c H locs 4 8832 _ (F0 m 40 ls [])
  refine lv_aload_n hx hb (z_ldd z_ilSenses_ok 2 (q := (40, (.aload_n 0, 1))) rfl) rfl (lv_at hl 0 rfl) ?_
  refine lv_aload_n hx hb (z_ldd z_ilSenses_ok 3 (q := (41, (.aload_n 1, 1))) rfl) rfl (lv_at hl 1 rfl) ?_
  refine z_putref hx hb hts hown hin2 hK (q := ("DayMuseum$Senses", z_T7, 7)) rfl rfl hP hD hS (j := 0) (lk := (1, 170)) (by decide) (by decide +kernel) rfl rfl (ty := .object "DayMuseum$Town") (by decide +kernel) (Or.inr ⟨_, rfl⟩) (z_ldd z_ilSenses_ok 4 (q := (42, (.putfield 24, 3))) rfl) (fun H locs hP hD hS => ?_)
  replace hP : va_P cx.1 z_cl ((cx.2.2 6, .inr (7, [.ref (cx.2.2 3), .null, .null, .ref b0, .ref b1, .ref b2, .ref b3])) :: [(b0, .inl (cx.2.1 1, z_zero 2880 1)), (b1, .inl (cx.2.1 1, z_zero 2880 1)), (b2, .inl (cx.2.1 1, z_zero 2880 1)), (b3, .inl (cx.2.1 1, z_zero 192 1))]) H := hP
  replace hD : va_D (z_IA cx 6 s.heap.size) ((cx.2.2 6, .inr (7, [.ref (cx.2.2 3), .null, .null, .ref b0, .ref b1, .ref b2, .ref b3])) :: [(b0, .inl (cx.2.1 1, z_zero 2880 1)), (b1, .inl (cx.2.1 1, z_zero 2880 1)), (b2, .inl (cx.2.1 1, z_zero 2880 1)), (b3, .inl (cx.2.1 1, z_zero 192 1))]) := hD
  refine lv_aload_n hx hb (z_ldd z_ilSenses_ok 5 (q := (45, (.aload_n 0, 1))) rfl) rfl (lv_at hl 0 rfl) ?_
  refine lv_aload_n hx hb (z_ldd z_ilSenses_ok 6 (q := (46, (.aload_n 2, 1))) rfl) rfl (lv_at hl 2 rfl) ?_
  refine z_putref hx hb hts hown hin2 hK (q := ("DayMuseum$Senses", z_T7, 7)) rfl rfl hP hD hS (j := 1) (lk := (1, 171)) (by decide) (by decide +kernel) rfl rfl (ty := .object "DayMuseum$People") (by decide +kernel) (Or.inr ⟨_, rfl⟩) (z_ldd z_ilSenses_ok 7 (q := (47, (.putfield 28, 3))) rfl) (fun H locs hP hD hS => ?_)
  replace hP : va_P cx.1 z_cl ((cx.2.2 6, .inr (7, [.ref (cx.2.2 3), .ref (cx.2.2 4), .null, .ref b0, .ref b1, .ref b2, .ref b3])) :: [(b0, .inl (cx.2.1 1, z_zero 2880 1)), (b1, .inl (cx.2.1 1, z_zero 2880 1)), (b2, .inl (cx.2.1 1, z_zero 2880 1)), (b3, .inl (cx.2.1 1, z_zero 192 1))]) H := hP
  replace hD : va_D (z_IA cx 6 s.heap.size) ((cx.2.2 6, .inr (7, [.ref (cx.2.2 3), .ref (cx.2.2 4), .null, .ref b0, .ref b1, .ref b2, .ref b3])) :: [(b0, .inl (cx.2.1 1, z_zero 2880 1)), (b1, .inl (cx.2.1 1, z_zero 2880 1)), (b2, .inl (cx.2.1 1, z_zero 2880 1)), (b3, .inl (cx.2.1 1, z_zero 192 1))]) := hD
  refine lv_aload_n hx hb (z_ldd z_ilSenses_ok 8 (q := (50, (.aload_n 0, 1))) rfl) rfl (lv_at hl 0 rfl) ?_
  refine lv_aload_n hx hb (z_ldd z_ilSenses_ok 9 (q := (51, (.aload_n 3, 1))) rfl) rfl (lv_at hl 3 rfl) ?_
  refine z_putref hx hb hts hown hin2 hK (q := ("DayMuseum$Senses", z_T7, 7)) rfl rfl hP hD hS (j := 2) (lk := (1, 172)) (by decide) (by decide +kernel) rfl rfl (ty := .object "DayMuseum$Law") (by decide +kernel) (Or.inr ⟨_, rfl⟩) (z_ldd z_ilSenses_ok 10 (q := (52, (.putfield 32, 3))) rfl) (fun H locs hP hD hS => ?_)
  replace hP : va_P cx.1 z_cl ((cx.2.2 6, .inr (7, [.ref (cx.2.2 3), .ref (cx.2.2 4), .ref (cx.2.2 5), .ref b0, .ref b1, .ref b2, .ref b3])) :: [(b0, .inl (cx.2.1 1, z_zero 2880 1)), (b1, .inl (cx.2.1 1, z_zero 2880 1)), (b2, .inl (cx.2.1 1, z_zero 2880 1)), (b3, .inl (cx.2.1 1, z_zero 192 1))]) H := hP
  replace hD : va_D (z_IA cx 6 s.heap.size) ((cx.2.2 6, .inr (7, [.ref (cx.2.2 3), .ref (cx.2.2 4), .ref (cx.2.2 5), .ref b0, .ref b1, .ref b2, .ref b3])) :: [(b0, .inl (cx.2.1 1, z_zero 2880 1)), (b1, .inl (cx.2.1 1, z_zero 2880 1)), (b2, .inl (cx.2.1 1, z_zero 2880 1)), (b3, .inl (cx.2.1 1, z_zero 192 1))]) := hD
  have eW : ((cx.2.2 6, .inr (7, [.ref (cx.2.2 3), .ref (cx.2.2 4), .ref (cx.2.2 5), .ref b0, .ref b1, .ref b2, .ref b3])) :: [(b0, .inl (cx.2.1 1, z_zero 2880 1)), (b1, .inl (cx.2.1 1, z_zero 2880 1)), (b2, .inl (cx.2.1 1, z_zero 2880 1)), (b3, .inl (cx.2.1 1, z_zero 192 1))] : va_W) = z_wg (6 :: z_iGSenses) (z_cxa cx (z_adu cx.2.2 z_iGSenses [b0, b1, b2, b3])) (fun _ _ => 0) := rfl
  rw [eW] at hP hD
  exact z_tail (t := z_tmSenses) (f := z_adu cx.2.2 z_iGSenses [b0, b1, b2, b3]) z_tp_Senses rfl rfl hx hb hr hml hown hts hlocks hK hSt ⟨Nat.le_of_ble_eq_true rfl, Nat.le_of_ble_eq_true rfl, Nat.le_of_ble_eq_true rfl, Nat.le_of_ble_eq_true rfl⟩ (fun k hk => z_adu_off (by revert k; decide +kernel)) (fun k hk => z_adu_off hk) (z_adu_off (by decide +kernel)) hP hD hS (z_MRz _) (lv_sub hl [0] rfl) rfl (by simp) (by intro v hv; simp only [List.mem_cons, List.not_mem_nil, or_false] at hv; rcases hv with rfl | rfl | rfl | rfl <;> first | exact trivial | exact Or.inl (by decide +kernel))
def z_iyPeople : MethodName := ⟨"DayMuseum$People", "<init>", "(LDayMuseum$Town;)V"⟩
def z_iiPeople : List z_Ini := [(4, ((.bipush 30, 2), (30, (1, (1, (9, (1, 93))))))), (12, ((.bipush 30, 2), (30, (1, (2, (15, (1, 94))))))), (20, ((.sipush 2850, 3), (2850, (1, (3, (18, (1, 95))))))), (29, ((.sipush 2880, 3), (2880, (1, (4, (21, (1, 96))))))), (38, ((.bipush 96, 2), (96, (1, (5, (24, (1, 97))))))), (46, ((.bipush 10, 2), (10, (1, (7, (27, (1, 99))))))), (54, ((.bipush 10, 2), (10, (1, (8, (30, (1, 100)))))))]
def z_iGPeople : List Nat := [301018, 301019, 28501020, 28801021, 961022, 101023, 101024]
def z_ilPeople : List (Nat × (Instr × Nat)) := [(0, (.aload_n 0, 1)), (1, (.invokespecial 3, 3)), (62, (.aload_n 0, 1)), (63, (.aload_n 1, 1)), (64, (.putfield 33, 3)), (67, (.aload_n 0, 1)), (68, (.getfield 15, 3)), (71, (.iconst (-1), 1)), (72, (.invokestatic 37, 3)), (75, (.return_, 1))]
theorem z_ilPeople_ok : z_ilPeople.all (fun q => decide (decode prog_6_method_1_code q.1 = .ok q.2)) = true := by decide +kernel
def z_tcPeople : List z_E := [(67, ((.aload_n 0, 1), ((0, (0, 0)), (0, 0)))),
  (68, ((.getfield 15, 3), ((2, (4, 301019)), (1, 94)))),
  (71, ((.iconst (-1), 1), ((0, (0, 0)), (0, 0)))),
  (72, ((.invokestatic 37, 3), ((393, (2, 0)), (1, 91)))),
  (75, ((.return_, 1), ((0, (0, 0)), (0, 0))))]
def z_tmPeople : z_MT := (z_iyPeople, (prog_6_method_1_code, (2, (none, (z_tcPeople, (false, []))))))
theorem z_twPeople : z_chkW z_tmPeople = true := by decide +kernel
theorem rt_People (d : Nat) {M : z_M} {Q : z_V → z_M → Prop}
  (h : z_Cl 3 d 393 [z_R 301019, z_I (-1)] M (fun _ M1 => Q z_U M1)) :
  z_G 3 (d + 1) z_tmPeople 67 [z_R 4, z_U] [] M Q :=
  q_aload_n z_twPeople 0 rfl rfl (q_getR z_twPeople 1 rfl (by decide) rfl (q_iconst z_twPeople 2 rfl (q_invs0 z_twPeople 3 rfl rfl (by decide) rfl (Nat.le_of_ble_eq_true rfl) (Nat.le_of_ble_eq_true rfl) (z_Cl_mono (fun _ M1 h1 => q_vret z_twPeople 4 rfl h1) h))))
theorem z_tp_People : z_G 3 1 z_tmPeople 67 [z_R 4, z_U] [] (fun _ _ => 0) (fun _ M => (fun M => ∀ k ∈ 4 :: z_iGPeople, ∀ j, M k j = z_M0 (fun _ => 0) k j) M) := rt_People 0 (c_fillI rfl rfl (by decide) (by
  intro k hk j
  simp only [z_iGPeople, List.mem_cons, List.not_mem_nil, or_false] at hk
  rcases hk with rfl | rfl | rfl | rfl | rfl | rfl | rfl | rfl <;> rfl))
set_option maxRecDepth 100000 in
theorem z_inPeople (l : Launch) (cx : z_C) (sz : Nat) : Met l z_iyPeople (.code z_iyPeople prog_6_method_1_code 2 none :: z_ts) (z_rmi 7 5906) (va_Pc [.ref (cx.2.2 4), .ref (cx.2.2 3)] (z_IP cx 4 [.null, .null, .null, .null, .null, .null, .int 0, .null, .null, .int 0, .int 0] sz)) (z_IQ cx 4 z_iGPeople (fun M => ∀ k ∈ 4 :: z_iGPeople, ∀ j, M k j = z_M0 (fun _ => 0) k j) sz) 7 5906 (z_IA cx 4 sz) := by
  refine Met.ofW (cc := prog_6_method_1_code) (maxL := 2) (ret := none) (by decide) rfl ?_
  intro p e s m args below meth c s₁ B hml hv
  obtain ⟨rfl, hsz, hP, hK, hD, hSt⟩ := hv
  subst hsz
  have hx := B.exec
  have hb := B.bytes
  have hr := B.returns
  have hts' := atoms_spec (ws := .code z_iyPeople prog_6_method_1_code 2 none :: z_ts) B.pre
  have hts : ∀ x ∈ z_ts, x.before _ s = true := fun x hx => hts' x (List.mem_cons_of_mem _ hx)
  have hown : s.vm.findClass "DayMuseum$People" = some m.cls := findClass_of_methodNamed B.named
  have hlocks := B.notSynchronized
  have hin2 : meth.name = "<init>" := (name_of_methodNamed B.named B.method).1
  have hA : ∀ q, s.heap.size ≤ q → z_IA cx 4 s.heap.size q := fun q h => Or.inr h
  have hS : va_S (z_IA cx 4 s.heap.size) s.heap s.heap [] := va_S.rf
  have hl := lv_entry ([.ref (cx.2.2 4), .ref (cx.2.2 3)]) (n := 2) (Nat.le_of_ble_eq_true rfl)
  rw [lg_entry_eq]
  generalize (lg_sl ([.ref (cx.2.2 4), .ref (cx.2.2 3)]) ++ List.replicate (2 - (lg_sl ([.ref (cx.2.2 4), .ref (cx.2.2 3)])).length) Slot.unset).toArray = ls at hl ⊢
  refine lv_aload_n hx hb (z_ldd z_ilPeople_ok 0 (q := (0, (.aload_n 0, 1))) rfl) rfl (lv_at hl 0 rfl) ?_
  refine W.objInit hx hb hown (hts _ (z_wd_in (ci := (1, 90)) (by decide +kernel))) (hts _ z_oi_in) (hts _ z_oi_co) rfl (hl.1.trans hml.symm) rfl (z_ldd z_ilPeople_ok 1 (q := (1, (.invokespecial 3, 3))) rfl) (Nat.le_of_ble_eq_true rfl) (Nat.le_of_ble_eq_true rfl) ?_
  refine z_inits hx hb hts hown hin2 hK hA (q := ("DayMuseum$People", z_T4, 11)) rfl (lv_at hl 0 rfl) z_iiPeople 4 [.null, .null, .null, .null, .null, .null, .int 0, .null, .null, .int 0, .int 0] [] s.heap [] 0 0 (by decide +kernel) rfl hP hD hS (Nat.le_of_ble_eq_true rfl) (Nat.le_of_ble_eq_true rfl) (fun as H locs hlen hP hD hS => ?_)
  obtain ⟨b0, b1, b2, b3, b4, b5, b6, rfl⟩ : ∃ b0 b1 b2 b3 b4 b5 b6, as = [b0, b1, b2, b3, b4, b5, b6] := by
    match as, hlen with
    | [b0, b1, b2, b3, b4, b5, b6], _ => exact ⟨b0, b1, b2, b3, b4, b5, b6, rfl⟩
  replace hP : va_P cx.1 z_cl ((cx.2.2 4, .inr (4, [.null, .ref b0, .ref b1, .ref b2, .ref b3, .ref b4, .int 0, .ref b5, .ref b6, .int 0, .int 0])) :: [(b0, .inl (cx.2.1 1, z_zero 30 1)), (b1, .inl (cx.2.1 1, z_zero 30 1)), (b2, .inl (cx.2.1 1, z_zero 2850 1)), (b3, .inl (cx.2.1 1, z_zero 2880 1)), (b4, .inl (cx.2.1 1, z_zero 96 1)), (b5, .inl (cx.2.1 1, z_zero 10 1)), (b6, .inl (cx.2.1 1, z_zero 10 1))]) H := hP
  replace hD : va_D (z_IA cx 4 s.heap.size) ((cx.2.2 4, .inr (4, [.null, .ref b0, .ref b1, .ref b2, .ref b3, .ref b4, .int 0, .ref b5, .ref b6, .int 0, .int 0])) :: [(b0, .inl (cx.2.1 1, z_zero 30 1)), (b1, .inl (cx.2.1 1, z_zero 30 1)), (b2, .inl (cx.2.1 1, z_zero 2850 1)), (b3, .inl (cx.2.1 1, z_zero 2880 1)), (b4, .inl (cx.2.1 1, z_zero 96 1)), (b5, .inl (cx.2.1 1, z_zero 10 1)), (b6, .inl (cx.2.1 1, z_zero 10 1))]) := hD
  show W p l e _ s m _ below meth c H locs 7 5906 _ (F0 m 62 ls [])
  refine lv_aload_n hx hb (z_ldd z_ilPeople_ok 2 (q := (62, (.aload_n 0, 1))) rfl) rfl (lv_at hl 0 rfl) ?_
  refine lv_aload_n hx hb (z_ldd z_ilPeople_ok 3 (q := (63, (.aload_n 1, 1))) rfl) rfl (lv_at hl 1 rfl) ?_
  refine z_putref hx hb hts hown hin2 hK (q := ("DayMuseum$People", z_T4, 11)) rfl rfl hP hD hS (j := 0) (lk := (1, 92)) (by decide) (by decide +kernel) rfl rfl (ty := .object "DayMuseum$Town") (by decide +kernel) (Or.inr ⟨_, rfl⟩) (z_ldd z_ilPeople_ok 4 (q := (64, (.putfield 33, 3))) rfl) (fun H locs hP hD hS => ?_)
  replace hP : va_P cx.1 z_cl ((cx.2.2 4, .inr (4, [.ref (cx.2.2 3), .ref b0, .ref b1, .ref b2, .ref b3, .ref b4, .int 0, .ref b5, .ref b6, .int 0, .int 0])) :: [(b0, .inl (cx.2.1 1, z_zero 30 1)), (b1, .inl (cx.2.1 1, z_zero 30 1)), (b2, .inl (cx.2.1 1, z_zero 2850 1)), (b3, .inl (cx.2.1 1, z_zero 2880 1)), (b4, .inl (cx.2.1 1, z_zero 96 1)), (b5, .inl (cx.2.1 1, z_zero 10 1)), (b6, .inl (cx.2.1 1, z_zero 10 1))]) H := hP
  replace hD : va_D (z_IA cx 4 s.heap.size) ((cx.2.2 4, .inr (4, [.ref (cx.2.2 3), .ref b0, .ref b1, .ref b2, .ref b3, .ref b4, .int 0, .ref b5, .ref b6, .int 0, .int 0])) :: [(b0, .inl (cx.2.1 1, z_zero 30 1)), (b1, .inl (cx.2.1 1, z_zero 30 1)), (b2, .inl (cx.2.1 1, z_zero 2850 1)), (b3, .inl (cx.2.1 1, z_zero 2880 1)), (b4, .inl (cx.2.1 1, z_zero 96 1)), (b5, .inl (cx.2.1 1, z_zero 10 1)), (b6, .inl (cx.2.1 1, z_zero 10 1))]) := hD
  have eW : ((cx.2.2 4, .inr (4, [.ref (cx.2.2 3), .ref b0, .ref b1, .ref b2, .ref b3, .ref b4, .int 0, .ref b5, .ref b6, .int 0, .int 0])) :: [(b0, .inl (cx.2.1 1, z_zero 30 1)), (b1, .inl (cx.2.1 1, z_zero 30 1)), (b2, .inl (cx.2.1 1, z_zero 2850 1)), (b3, .inl (cx.2.1 1, z_zero 2880 1)), (b4, .inl (cx.2.1 1, z_zero 96 1)), (b5, .inl (cx.2.1 1, z_zero 10 1)), (b6, .inl (cx.2.1 1, z_zero 10 1))] : va_W) = z_wg (4 :: z_iGPeople) (z_cxa cx (z_adu cx.2.2 z_iGPeople [b0, b1, b2, b3, b4, b5, b6])) (fun _ _ => 0) := rfl
  rw [eW] at hP hD
  exact z_tail (t := z_tmPeople) (f := z_adu cx.2.2 z_iGPeople [b0, b1, b2, b3, b4, b5, b6]) z_tp_People rfl rfl hx hb hr hml hown hts hlocks hK hSt ⟨Nat.le_of_ble_eq_true rfl, Nat.le_of_ble_eq_true rfl, Nat.le_of_ble_eq_true rfl, Nat.le_of_ble_eq_true rfl⟩ (fun k hk => z_adu_off (by revert k; decide +kernel)) (fun k hk => z_adu_off hk) (z_adu_off (by decide +kernel)) hP hD hS (z_MRz _) (lv_sub hl [0] rfl) rfl (by simp) (by intro v hv; simp only [List.mem_cons, List.not_mem_nil, or_false] at hv; rcases hv with rfl | rfl <;> first | exact trivial | exact Or.inl (by decide +kernel))
def z_iyLuggage : MethodName := ⟨"DayMuseum$Luggage", "<init>", "(LDayMuseum$People;)V"⟩
def z_iiLuggage : List z_Ini := [(4, ((.bipush 12, 2), (12, (1, (1, (11, (2, 116))))))), (12, ((.bipush 12, 2), (12, (1, (2, (15, (2, 117))))))), (20, ((.bipush 12, 2), (12, (1, (3, (18, (2, 118))))))), (28, ((.bipush 12, 2), (12, (1, (4, (21, (2, 119))))))), (36, ((.bipush 10, 2), (10, (1, (6, (24, (2, 121))))))), (44, ((.bipush 13, 2), (13, (1, (7, (27, (2, 122))))))), (52, ((.bipush 10, 2), (10, (1, (8, (30, (2, 123))))))), (60, ((.bipush 10, 2), (10, (1, (9, (33, (2, 124))))))), (68, ((.bipush 24, 2), (24, (1, (10, (36, (2, 125))))))), (76, ((.bipush 24, 2), (24, (1, (11, (39, (2, 126)))))))]
def z_iGLuggage : List Nat := [121050, 121051, 121052, 121053, 101054, 131055, 101056, 101057, 241058, 241059]
def z_ilLuggage : List (Nat × (Instr × Nat)) := [(0, (.aload_n 0, 1)), (1, (.invokespecial 3, 3)), (84, (.aload_n 0, 1)), (85, (.aload_n 1, 1)), (86, (.putfield 42, 3)), (89, (.aload_n 0, 1)), (90, (.getfield 30, 3)), (93, (.bipush (-2), 2)), (95, (.invokestatic 46, 3)), (98, (.aload_n 0, 1)), (99, (.getfield 36, 3)), (102, (.iconst (-1), 1)), (103, (.invokestatic 46, 3)), (106, (.return_, 1))]
theorem z_ilLuggage_ok : z_ilLuggage.all (fun q => decide (decode prog_5_method_1_code q.1 = .ok q.2)) = true := by decide +kernel
def z_tcLuggage : List z_E := [(89, ((.aload_n 0, 1), ((0, (0, 0)), (0, 0)))),
  (90, ((.getfield 30, 3), ((8, (11, 101056)), (2, 123)))),
  (93, ((.bipush (-2), 2), ((0, (0, 0)), (0, 0)))),
  (95, ((.invokestatic 46, 3), ((393, (2, 0)), (2, 114)))),
  (98, ((.aload_n 0, 1), ((0, (0, 0)), (0, 0)))),
  (99, ((.getfield 36, 3), ((10, (11, 241058)), (2, 125)))),
  (102, ((.iconst (-1), 1), ((0, (0, 0)), (0, 0)))),
  (103, ((.invokestatic 46, 3), ((393, (2, 0)), (2, 114)))),
  (106, ((.return_, 1), ((0, (0, 0)), (0, 0))))]
def z_tmLuggage : z_MT := (z_iyLuggage, (prog_5_method_1_code, (2, (none, (z_tcLuggage, (false, []))))))
theorem z_twLuggage : z_chkW z_tmLuggage = true := by decide +kernel
theorem rt_Luggage (d : Nat) {M : z_M} {Q : z_V → z_M → Prop}
  (h : z_Cl 4 d 393 [z_R 101056, z_I (-2)] M (fun _ M1 => z_Cl 4 d 393 [z_R 241058, z_I (-1)] M1 (fun _ M2 => Q z_U M2))) :
  z_G 4 (d + 1) z_tmLuggage 89 [z_R 11, z_U] [] M Q :=
  q_aload_n z_twLuggage 0 rfl rfl (q_getR z_twLuggage 1 rfl (by decide) rfl (q_bipush z_twLuggage 2 rfl (q_invs0 z_twLuggage 3 rfl rfl (by decide) rfl (Nat.le_of_ble_eq_true rfl) (Nat.le_of_ble_eq_true rfl) (z_Cl_mono (fun _ M1 h1 => q_aload_n z_twLuggage 4 rfl rfl (q_getR z_twLuggage 5 rfl (by decide) rfl (q_iconst z_twLuggage 6 rfl (q_invs0 z_twLuggage 7 rfl rfl (by decide) rfl (Nat.le_of_ble_eq_true rfl) (Nat.le_of_ble_eq_true rfl) (z_Cl_mono (fun _ M2 h2 => q_vret z_twLuggage 8 rfl h2) h1))))) h))))
theorem z_tp_Luggage : z_G 4 1 z_tmLuggage 89 [z_R 11, z_U] [] (fun _ _ => 0) (fun _ M => (fun M => ∀ k ∈ 11 :: z_iGLuggage, ∀ j, M k j = z_M0 (fun _ => 0) k j) M) := rt_Luggage 0 (c_fillI rfl rfl (by decide) (c_fillI rfl rfl (by decide) (by
  intro k hk j
  simp only [z_iGLuggage, List.mem_cons, List.not_mem_nil, or_false] at hk
  rcases hk with rfl | rfl | rfl | rfl | rfl | rfl | rfl | rfl | rfl | rfl | rfl <;> rfl)))
set_option maxRecDepth 100000 in
theorem z_inLuggage (l : Launch) (cx : z_C) (sz : Nat) : Met l z_iyLuggage (.code z_iyLuggage prog_5_method_1_code 2 none :: z_ts) (z_rmi 10 139) (va_Pc [.ref (cx.2.2 11), .ref (cx.2.2 4)] (z_IP cx 11 [.null, .null, .null, .null, .null, .int 0, .null, .null, .null, .null, .null, .null] sz)) (z_IQ cx 11 z_iGLuggage (fun M => ∀ k ∈ 11 :: z_iGLuggage, ∀ j, M k j = z_M0 (fun _ => 0) k j) sz) 10 139 (z_IA cx 11 sz) := by
  refine Met.ofW (cc := prog_5_method_1_code) (maxL := 2) (ret := none) (by decide) rfl ?_
  intro p e s m args below meth c s₁ B hml hv
  obtain ⟨rfl, hsz, hP, hK, hD, hSt⟩ := hv
  subst hsz
  have hx := B.exec
  have hb := B.bytes
  have hr := B.returns
  have hts' := atoms_spec (ws := .code z_iyLuggage prog_5_method_1_code 2 none :: z_ts) B.pre
  have hts : ∀ x ∈ z_ts, x.before _ s = true := fun x hx => hts' x (List.mem_cons_of_mem _ hx)
  have hown : s.vm.findClass "DayMuseum$Luggage" = some m.cls := findClass_of_methodNamed B.named
  have hlocks := B.notSynchronized
  have hin2 : meth.name = "<init>" := (name_of_methodNamed B.named B.method).1
  have hA : ∀ q, s.heap.size ≤ q → z_IA cx 11 s.heap.size q := fun q h => Or.inr h
  have hS : va_S (z_IA cx 11 s.heap.size) s.heap s.heap [] := va_S.rf
  have hl := lv_entry ([.ref (cx.2.2 11), .ref (cx.2.2 4)]) (n := 2) (Nat.le_of_ble_eq_true rfl)
  rw [lg_entry_eq]
  generalize (lg_sl ([.ref (cx.2.2 11), .ref (cx.2.2 4)]) ++ List.replicate (2 - (lg_sl ([.ref (cx.2.2 11), .ref (cx.2.2 4)])).length) Slot.unset).toArray = ls at hl ⊢
  refine lv_aload_n hx hb (z_ldd z_ilLuggage_ok 0 (q := (0, (.aload_n 0, 1))) rfl) rfl (lv_at hl 0 rfl) ?_
  refine W.objInit hx hb hown (hts _ (z_wd_in (ci := (2, 113)) (by decide +kernel))) (hts _ z_oi_in) (hts _ z_oi_co) rfl (hl.1.trans hml.symm) rfl (z_ldd z_ilLuggage_ok 1 (q := (1, (.invokespecial 3, 3))) rfl) (Nat.le_of_ble_eq_true rfl) (Nat.le_of_ble_eq_true rfl) ?_
  refine z_inits hx hb hts hown hin2 hK hA (q := ("DayMuseum$Luggage", z_T3, 12)) rfl (lv_at hl 0 rfl) z_iiLuggage 4 [.null, .null, .null, .null, .null, .int 0, .null, .null, .null, .null, .null, .null] [] s.heap [] 0 0 (by decide +kernel) rfl hP hD hS (Nat.le_of_ble_eq_true rfl) (Nat.le_of_ble_eq_true rfl) (fun as H locs hlen hP hD hS => ?_)
  obtain ⟨b0, b1, b2, b3, b4, b5, b6, b7, b8, b9, rfl⟩ : ∃ b0 b1 b2 b3 b4 b5 b6 b7 b8 b9, as = [b0, b1, b2, b3, b4, b5, b6, b7, b8, b9] := by
    match as, hlen with
    | [b0, b1, b2, b3, b4, b5, b6, b7, b8, b9], _ => exact ⟨b0, b1, b2, b3, b4, b5, b6, b7, b8, b9, rfl⟩
  replace hP : va_P cx.1 z_cl ((cx.2.2 11, .inr (3, [.null, .ref b0, .ref b1, .ref b2, .ref b3, .int 0, .ref b4, .ref b5, .ref b6, .ref b7, .ref b8, .ref b9])) :: [(b0, .inl (cx.2.1 1, z_zero 12 1)), (b1, .inl (cx.2.1 1, z_zero 12 1)), (b2, .inl (cx.2.1 1, z_zero 12 1)), (b3, .inl (cx.2.1 1, z_zero 12 1)), (b4, .inl (cx.2.1 1, z_zero 10 1)), (b5, .inl (cx.2.1 1, z_zero 13 1)), (b6, .inl (cx.2.1 1, z_zero 10 1)), (b7, .inl (cx.2.1 1, z_zero 10 1)), (b8, .inl (cx.2.1 1, z_zero 24 1)), (b9, .inl (cx.2.1 1, z_zero 24 1))]) H := hP
  replace hD : va_D (z_IA cx 11 s.heap.size) ((cx.2.2 11, .inr (3, [.null, .ref b0, .ref b1, .ref b2, .ref b3, .int 0, .ref b4, .ref b5, .ref b6, .ref b7, .ref b8, .ref b9])) :: [(b0, .inl (cx.2.1 1, z_zero 12 1)), (b1, .inl (cx.2.1 1, z_zero 12 1)), (b2, .inl (cx.2.1 1, z_zero 12 1)), (b3, .inl (cx.2.1 1, z_zero 12 1)), (b4, .inl (cx.2.1 1, z_zero 10 1)), (b5, .inl (cx.2.1 1, z_zero 13 1)), (b6, .inl (cx.2.1 1, z_zero 10 1)), (b7, .inl (cx.2.1 1, z_zero 10 1)), (b8, .inl (cx.2.1 1, z_zero 24 1)), (b9, .inl (cx.2.1 1, z_zero 24 1))]) := hD
  show W p l e _ s m _ below meth c H locs 10 139 _ (F0 m 84 ls [])
  refine lv_aload_n hx hb (z_ldd z_ilLuggage_ok 2 (q := (84, (.aload_n 0, 1))) rfl) rfl (lv_at hl 0 rfl) ?_
  refine lv_aload_n hx hb (z_ldd z_ilLuggage_ok 3 (q := (85, (.aload_n 1, 1))) rfl) rfl (lv_at hl 1 rfl) ?_
  refine z_putref hx hb hts hown hin2 hK (q := ("DayMuseum$Luggage", z_T3, 12)) rfl rfl hP hD hS (j := 0) (lk := (2, 115)) (by decide) (by decide +kernel) rfl rfl (ty := .object "DayMuseum$People") (by decide +kernel) (Or.inr ⟨_, rfl⟩) (z_ldd z_ilLuggage_ok 4 (q := (86, (.putfield 42, 3))) rfl) (fun H locs hP hD hS => ?_)
  replace hP : va_P cx.1 z_cl ((cx.2.2 11, .inr (3, [.ref (cx.2.2 4), .ref b0, .ref b1, .ref b2, .ref b3, .int 0, .ref b4, .ref b5, .ref b6, .ref b7, .ref b8, .ref b9])) :: [(b0, .inl (cx.2.1 1, z_zero 12 1)), (b1, .inl (cx.2.1 1, z_zero 12 1)), (b2, .inl (cx.2.1 1, z_zero 12 1)), (b3, .inl (cx.2.1 1, z_zero 12 1)), (b4, .inl (cx.2.1 1, z_zero 10 1)), (b5, .inl (cx.2.1 1, z_zero 13 1)), (b6, .inl (cx.2.1 1, z_zero 10 1)), (b7, .inl (cx.2.1 1, z_zero 10 1)), (b8, .inl (cx.2.1 1, z_zero 24 1)), (b9, .inl (cx.2.1 1, z_zero 24 1))]) H := hP
  replace hD : va_D (z_IA cx 11 s.heap.size) ((cx.2.2 11, .inr (3, [.ref (cx.2.2 4), .ref b0, .ref b1, .ref b2, .ref b3, .int 0, .ref b4, .ref b5, .ref b6, .ref b7, .ref b8, .ref b9])) :: [(b0, .inl (cx.2.1 1, z_zero 12 1)), (b1, .inl (cx.2.1 1, z_zero 12 1)), (b2, .inl (cx.2.1 1, z_zero 12 1)), (b3, .inl (cx.2.1 1, z_zero 12 1)), (b4, .inl (cx.2.1 1, z_zero 10 1)), (b5, .inl (cx.2.1 1, z_zero 13 1)), (b6, .inl (cx.2.1 1, z_zero 10 1)), (b7, .inl (cx.2.1 1, z_zero 10 1)), (b8, .inl (cx.2.1 1, z_zero 24 1)), (b9, .inl (cx.2.1 1, z_zero 24 1))]) := hD
  have eW : ((cx.2.2 11, .inr (3, [.ref (cx.2.2 4), .ref b0, .ref b1, .ref b2, .ref b3, .int 0, .ref b4, .ref b5, .ref b6, .ref b7, .ref b8, .ref b9])) :: [(b0, .inl (cx.2.1 1, z_zero 12 1)), (b1, .inl (cx.2.1 1, z_zero 12 1)), (b2, .inl (cx.2.1 1, z_zero 12 1)), (b3, .inl (cx.2.1 1, z_zero 12 1)), (b4, .inl (cx.2.1 1, z_zero 10 1)), (b5, .inl (cx.2.1 1, z_zero 13 1)), (b6, .inl (cx.2.1 1, z_zero 10 1)), (b7, .inl (cx.2.1 1, z_zero 10 1)), (b8, .inl (cx.2.1 1, z_zero 24 1)), (b9, .inl (cx.2.1 1, z_zero 24 1))] : va_W) = z_wg (11 :: z_iGLuggage) (z_cxa cx (z_adu cx.2.2 z_iGLuggage [b0, b1, b2, b3, b4, b5, b6, b7, b8, b9])) (fun _ _ => 0) := rfl
  rw [eW] at hP hD
  exact z_tail (t := z_tmLuggage) (f := z_adu cx.2.2 z_iGLuggage [b0, b1, b2, b3, b4, b5, b6, b7, b8, b9]) z_tp_Luggage rfl rfl hx hb hr hml hown hts hlocks hK hSt ⟨Nat.le_of_ble_eq_true rfl, Nat.le_of_ble_eq_true rfl, Nat.le_of_ble_eq_true rfl, Nat.le_of_ble_eq_true rfl⟩ (fun k hk => z_adu_off (by revert k; decide +kernel)) (fun k hk => z_adu_off hk) (z_adu_off (by decide +kernel)) hP hD hS (z_MRz _) (lv_sub hl [0] rfl) rfl (by simp) (by intro v hv; simp only [List.mem_cons, List.not_mem_nil, or_false] at hv; rcases hv with rfl | rfl <;> first | exact trivial | exact Or.inl (by decide +kernel))
