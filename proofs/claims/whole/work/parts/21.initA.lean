/-! each constructor; z_M0: what all cells hold at the start (the last: how far one sees over a plain town) -/
def z_ct0 (n v j : Int) : Int := if 0 ≤ j ∧ j < n then v else 0
def z_M0 (g : Int → Int) : z_M := fun k j => match k with
  | 301019 => z_ct0 30 (-1) j
  | 28801031 => z_ct0 2880 (-1) j
  | 28801032 => z_ct0 2880 (-1) j
  | 28801033 => z_ct0 2880 (-1) j
  | 1921034 => z_ct0 192 (-1) j
  | 101056 => z_ct0 10 (-2) j
  | 241058 => z_ct0 24 (-1) j
  | 101116 => z_ct0 10 (-1) j
  | 61120 => z_ct0 6 (-1) j
  | 100001017 => g j
  | _ => 0
theorem W.post {p : Program} {l : Launch} {e : Env} {R : Room} {s : State} {m : MethodId} {args : Array Value} {below : List Frame} {meth : Method} {c : Code} {H : Heap} {locs : List Loc} {cells slots : Nat} {Q Q' : State → Prop} {g : JFrame} (h : ∀ t, Q t → Q' t) (k : W p l e R s m args below meth c H locs cells slots Q g) : W p l e R s m args below meth c H locs cells slots Q' g := by
  intro T hT X
  obtain ⟨t, a, b⟩ := k T hT X
  exact ⟨t, a, h t b⟩
def z_rmi (mc ms : Nat) : Room := { frames := 20, cells := mc, slots := ms, locals := 1280 }
theorem z_goodI {ws : List Cond} (h : ∀ w ∈ ws, w ∈ z_ts) : GoodIn z_ts ws := fun w hw => ⟨h w hw, good_of_word (z_ts_good w (h w hw)).2⟩
theorem z_ldd {cc : ByteArray} {l : List (Nat × (Instr × Nat))} (h : l.all (fun q => decide (decode cc q.1 = .ok q.2)) = true) (i : Nat) {q : Nat × (Instr × Nat)} (hq : z_nth l i = some q) : decode cc q.1 = .ok q.2 := of_decide_eq_true (List.all_eq_true.mp h q (z_nth_mem hq))
theorem z_M0_i32 (g : Int → Int) (hg : ∀ j, z_i32 (g j)) (k : Nat) (j : Int) : z_i32 (z_M0 g k j) := by
  have hc : ∀ n v : Int, z_i32 v → z_i32 (z_ct0 n v j) := by
    intro n v hv
    unfold z_ct0
    split
    · exact hv
    · exact ⟨by decide, by decide⟩
  unfold z_M0
  split <;> first | exact hc _ _ ⟨by decide, by decide⟩ | exact hg j | exact ⟨by decide, by decide⟩
theorem z_MRg0 (G : List Nat) (hG : ∀ k ∈ G, z_knd k = 2 → k ≠ 100001017 ∧ True) : z_MRg G (z_M0 (fun _ => 0)) := by
  intro k hk j _ _
  have h := z_M0_i32 (fun _ => 0) (fun _ => ⟨by decide, by decide⟩) k j
  split
  · exact ⟨by have := h.1; omega, by have := h.2; omega⟩
  · exact h
def z_iyTape : MethodName := ⟨"DayMuseum$Tape", "<init>", "()V"⟩
def z_iiTape : List z_Ini := [(4, ((.sipush 260, 3), (260, (1, (0, (11, (1, 33)))))))]
def z_iGTape : List Nat := [2601014]
def z_ilTape : List (Nat × (Instr × Nat)) := [(0, (.aload_n 0, 1)), (1, (.invokespecial 3, 3)), (13, (.return_, 1))]
theorem z_ilTape_ok : z_ilTape.all (fun q => decide (decode prog_10_method_1_code q.1 = .ok q.2)) = true := by decide +kernel
set_option maxRecDepth 100000 in
theorem z_inTape (l : Launch) (cx : z_C) (sz : Nat) : Met l z_iyTape (.code z_iyTape prog_10_method_1_code 1 none :: z_ts) (z_rmi 1 260) (va_Pc [.ref (cx.2.2 2)] (z_IP cx 2 [.null, .int 0, .int 0, .int 0, .int 0] sz)) (z_IQ cx 2 z_iGTape (fun M => ∀ k ∈ 2 :: z_iGTape, ∀ j, M k j = z_M0 (fun _ => 0) k j) sz) 1 260 (z_IA cx 2 sz) := by
  refine Met.ofW (cc := prog_10_method_1_code) (maxL := 1) (ret := none) (by decide) rfl ?_
  intro p e s m args below meth c s₁ B hml hv
  obtain ⟨rfl, hsz, hP, hK, hD, hSt⟩ := hv
  subst hsz
  have hx := B.exec
  have hb := B.bytes
  have hr := B.returns
  have hts' := atoms_spec (ws := .code z_iyTape prog_10_method_1_code 1 none :: z_ts) B.pre
  have hts : ∀ x ∈ z_ts, x.before _ s = true := fun x hx => hts' x (List.mem_cons_of_mem _ hx)
  have hown : s.vm.findClass "DayMuseum$Tape" = some m.cls := findClass_of_methodNamed B.named
  have hlocks := B.notSynchronized
  have hin2 : meth.name = "<init>" := (name_of_methodNamed B.named B.method).1
  have hA : ∀ q, s.heap.size ≤ q → z_IA cx 2 s.heap.size q := fun q h => Or.inr h
  have hS : va_S (z_IA cx 2 s.heap.size) s.heap s.heap [] := va_S.rf
  have hl := lv_entry ([.ref (cx.2.2 2)]) (n := 1) (Nat.le_of_ble_eq_true rfl)
  rw [lg_entry_eq]
  generalize (lg_sl ([.ref (cx.2.2 2)]) ++ List.replicate (1 - (lg_sl ([.ref (cx.2.2 2)])).length) Slot.unset).toArray = ls at hl ⊢
  refine lv_aload_n hx hb (z_ldd z_ilTape_ok 0 (q := (0, (.aload_n 0, 1))) rfl) rfl (lv_at hl 0 rfl) ?_
  refine W.objInit hx hb hown (hts _ (z_wd_in (ci := (1, 32)) (by decide +kernel))) (hts _ z_oi_in) (hts _ z_oi_co) rfl (hl.1.trans hml.symm) rfl (z_ldd z_ilTape_ok 1 (q := (1, (.invokespecial 3, 3))) rfl) (Nat.le_of_ble_eq_true rfl) (Nat.le_of_ble_eq_true rfl) ?_
  refine z_inits hx hb hts hown hin2 hK hA (q := ("DayMuseum$Tape", z_T8, 5)) rfl (lv_at hl 0 rfl) z_iiTape 4 [.null, .int 0, .int 0, .int 0, .int 0] [] s.heap [] 0 0 (by decide +kernel) rfl hP hD hS (Nat.le_of_ble_eq_true rfl) (Nat.le_of_ble_eq_true rfl) (fun as H locs hlen hP hD hS => ?_)
  obtain ⟨b0, rfl⟩ : ∃ b0, as = [b0] := by
    match as, hlen with
    | [b0], _ => exact ⟨b0, rfl⟩
  replace hP : va_P cx.1 z_cl ((cx.2.2 2, .inr (8, [.ref b0, .int 0, .int 0, .int 0, .int 0])) :: [(b0, .inl (cx.2.1 1, z_zero 260 1))]) H := hP
  replace hD : va_D (z_IA cx 2 s.heap.size) ((cx.2.2 2, .inr (8, [.ref b0, .int 0, .int 0, .int 0, .int 0])) :: [(b0, .inl (cx.2.1 1, z_zero 260 1))]) := hD
  show W p l e _ s m _ below meth c H locs 1 260 _ (F0 m 13 ls [])
  have eW : ((cx.2.2 2, .inr (8, [.ref b0, .int 0, .int 0, .int 0, .int 0])) :: [(b0, .inl (cx.2.1 1, z_zero 260 1))] : va_W) = z_wg (2 :: z_iGTape) (z_cxa cx (z_adu cx.2.2 z_iGTape [b0])) (z_M0 (fun _ => 0)) := rfl
  rw [eW] at hP hD
  exact W.vret hx hb hr (fun u hu _ => ⟨⟨_, z_M0 (fun _ => 0), rfl, fun k hk => z_adu_off hk, z_adu_off (by decide), fun _ _ _ => rfl, z_MRg0 _ (by decide +kernel), by rw [hu]; exact hP, hD⟩, hS.F hu⟩) hS.2.2 (z_ldd z_ilTape_ok 2 (q := (13, (.return_, 1))) rfl) hlocks
def z_iyKisses : MethodName := ⟨"DayMuseum$Kisses", "<init>", "()V"⟩
def z_iiKisses : List z_Ini := [(4, ((.bipush 10, 2), (10, (1, (0, (9, (2, 158))))))), (12, ((.bipush 10, 2), (10, (1, (1, (13, (2, 159))))))), (20, ((.bipush 10, 2), (10, (1, (2, (16, (2, 160))))))), (28, ((.bipush 10, 2), (10, (1, (3, (19, (2, 161)))))))]
def z_iGKisses : List Nat := [101060, 101061, 101062, 101063]
def z_ilKisses : List (Nat × (Instr × Nat)) := [(0, (.aload_n 0, 1)), (1, (.invokespecial 1, 3)), (36, (.return_, 1))]
theorem z_ilKisses_ok : z_ilKisses.all (fun q => decide (decode prog_3_method_1_code q.1 = .ok q.2)) = true := by decide +kernel
set_option maxRecDepth 100000 in
theorem z_inKisses (l : Launch) (cx : z_C) (sz : Nat) : Met l z_iyKisses (.code z_iyKisses prog_3_method_1_code 1 none :: z_ts) (z_rmi 4 40) (va_Pc [.ref (cx.2.2 12)] (z_IP cx 12 [.null, .null, .null, .null, .int 0, .int 0] sz)) (z_IQ cx 12 z_iGKisses (fun M => ∀ k ∈ 12 :: z_iGKisses, ∀ j, M k j = z_M0 (fun _ => 0) k j) sz) 4 40 (z_IA cx 12 sz) := by
  refine Met.ofW (cc := prog_3_method_1_code) (maxL := 1) (ret := none) (by decide) rfl ?_
  intro p e s m args below meth c s₁ B hml hv
  obtain ⟨rfl, hsz, hP, hK, hD, hSt⟩ := hv
  subst hsz
  have hx := B.exec
  have hb := B.bytes
  have hr := B.returns
  have hts' := atoms_spec (ws := .code z_iyKisses prog_3_method_1_code 1 none :: z_ts) B.pre
  have hts : ∀ x ∈ z_ts, x.before _ s = true := fun x hx => hts' x (List.mem_cons_of_mem _ hx)
  have hown : s.vm.findClass "DayMuseum$Kisses" = some m.cls := findClass_of_methodNamed B.named
  have hlocks := B.notSynchronized
  have hin2 : meth.name = "<init>" := (name_of_methodNamed B.named B.method).1
  have hA : ∀ q, s.heap.size ≤ q → z_IA cx 12 s.heap.size q := fun q h => Or.inr h
  have hS : va_S (z_IA cx 12 s.heap.size) s.heap s.heap [] := va_S.rf
  have hl := lv_entry ([.ref (cx.2.2 12)]) (n := 1) (Nat.le_of_ble_eq_true rfl)
  rw [lg_entry_eq]
  generalize (lg_sl ([.ref (cx.2.2 12)]) ++ List.replicate (1 - (lg_sl ([.ref (cx.2.2 12)])).length) Slot.unset).toArray = ls at hl ⊢
  refine lv_aload_n hx hb (z_ldd z_ilKisses_ok 0 (q := (0, (.aload_n 0, 1))) rfl) rfl (lv_at hl 0 rfl) ?_
  refine W.objInit hx hb hown (hts _ (z_wd_in (ci := (2, 157)) (by decide +kernel))) (hts _ z_oi_in) (hts _ z_oi_co) rfl (hl.1.trans hml.symm) rfl (z_ldd z_ilKisses_ok 1 (q := (1, (.invokespecial 1, 3))) rfl) (Nat.le_of_ble_eq_true rfl) (Nat.le_of_ble_eq_true rfl) ?_
  refine z_inits hx hb hts hown hin2 hK hA (q := ("DayMuseum$Kisses", z_T1, 6)) rfl (lv_at hl 0 rfl) z_iiKisses 4 [.null, .null, .null, .null, .int 0, .int 0] [] s.heap [] 0 0 (by decide +kernel) rfl hP hD hS (Nat.le_of_ble_eq_true rfl) (Nat.le_of_ble_eq_true rfl) (fun as H locs hlen hP hD hS => ?_)
  obtain ⟨b0, b1, b2, b3, rfl⟩ : ∃ b0 b1 b2 b3, as = [b0, b1, b2, b3] := by
    match as, hlen with
    | [b0, b1, b2, b3], _ => exact ⟨b0, b1, b2, b3, rfl⟩
  replace hP : va_P cx.1 z_cl ((cx.2.2 12, .inr (1, [.ref b0, .ref b1, .ref b2, .ref b3, .int 0, .int 0])) :: [(b0, .inl (cx.2.1 1, z_zero 10 1)), (b1, .inl (cx.2.1 1, z_zero 10 1)), (b2, .inl (cx.2.1 1, z_zero 10 1)), (b3, .inl (cx.2.1 1, z_zero 10 1))]) H := hP
  replace hD : va_D (z_IA cx 12 s.heap.size) ((cx.2.2 12, .inr (1, [.ref b0, .ref b1, .ref b2, .ref b3, .int 0, .int 0])) :: [(b0, .inl (cx.2.1 1, z_zero 10 1)), (b1, .inl (cx.2.1 1, z_zero 10 1)), (b2, .inl (cx.2.1 1, z_zero 10 1)), (b3, .inl (cx.2.1 1, z_zero 10 1))]) := hD
  show W p l e _ s m _ below meth c H locs 4 40 _ (F0 m 36 ls [])
  have eW : ((cx.2.2 12, .inr (1, [.ref b0, .ref b1, .ref b2, .ref b3, .int 0, .int 0])) :: [(b0, .inl (cx.2.1 1, z_zero 10 1)), (b1, .inl (cx.2.1 1, z_zero 10 1)), (b2, .inl (cx.2.1 1, z_zero 10 1)), (b3, .inl (cx.2.1 1, z_zero 10 1))] : va_W) = z_wg (12 :: z_iGKisses) (z_cxa cx (z_adu cx.2.2 z_iGKisses [b0, b1, b2, b3])) (z_M0 (fun _ => 0)) := rfl
  rw [eW] at hP hD
  exact W.vret hx hb hr (fun u hu _ => ⟨⟨_, z_M0 (fun _ => 0), rfl, fun k hk => z_adu_off hk, z_adu_off (by decide), fun _ _ _ => rfl, z_MRg0 _ (by decide +kernel), by rw [hu]; exact hP, hD⟩, hS.F hu⟩) hS.2.2 (z_ldd z_ilKisses_ok 2 (q := (36, (.return_, 1))) rfl) hlocks
def z_iyLaw : MethodName := ⟨"DayMuseum$Law", "<init>", "()V"⟩
def z_iiLaw : List z_Ini := [(4, ((.sipush 240, 3), (240, (1, (0, (11, (1, 134))))))), (13, ((.sipush 240, 3), (240, (1, (1, (15, (1, 135))))))), (22, ((.bipush 64, 2), (64, (1, (2, (18, (1, 136))))))), (30, ((.bipush 64, 2), (64, (1, (3, (21, (1, 137))))))), (38, ((.sipush 240, 3), (240, (1, (4, (24, (1, 138)))))))]
def z_iGLaw : List Nat := [2401025, 2401026, 641027, 641028, 2401029, 61030]
def z_ilLaw : List (Nat × (Instr × Nat)) := [(0, (.aload_n 0, 1)), (1, (.invokespecial 3, 3)), (47, (.aload_n 0, 1)), (48, (.getstatic 27, 3)), (51, (.arraylength, 1)), (52, (.newarray .int, 2)), (54, (.putfield 31, 3)), (57, (.return_, 1))]
theorem z_ilLaw_ok : z_ilLaw.all (fun q => decide (decode prog_4_method_1_code q.1 = .ok q.2)) = true := by decide +kernel
set_option maxRecDepth 100000 in
theorem z_inLaw (l : Launch) (cx : z_C) (sz : Nat) : Met l z_iyLaw (.code z_iyLaw prog_4_method_1_code 1 none :: z_ts) (z_rmi 6 854) (va_Pc [.ref (cx.2.2 5)] (z_IP cx 5 [.null, .null, .null, .null, .null, .null, .int 0, .int 0] sz)) (z_IQ cx 5 z_iGLaw (fun M => ∀ k ∈ 5 :: z_iGLaw, ∀ j, M k j = z_M0 (fun _ => 0) k j) sz) 6 854 (z_IA cx 5 sz) := by
  refine Met.ofW (cc := prog_4_method_1_code) (maxL := 1) (ret := none) (by decide) rfl ?_
  intro p e s m args below meth c s₁ B hml hv
  obtain ⟨rfl, hsz, hP, hK, hD, hSt⟩ := hv
  subst hsz
  have hx := B.exec
  have hb := B.bytes
  have hr := B.returns
  have hts' := atoms_spec (ws := .code z_iyLaw prog_4_method_1_code 1 none :: z_ts) B.pre
  have hts : ∀ x ∈ z_ts, x.before _ s = true := fun x hx => hts' x (List.mem_cons_of_mem _ hx)
  have hown : s.vm.findClass "DayMuseum$Law" = some m.cls := findClass_of_methodNamed B.named
  have hlocks := B.notSynchronized
  have hin2 : meth.name = "<init>" := (name_of_methodNamed B.named B.method).1
  have hA : ∀ q, s.heap.size ≤ q → z_IA cx 5 s.heap.size q := fun q h => Or.inr h
  have hS : va_S (z_IA cx 5 s.heap.size) s.heap s.heap [] := va_S.rf
  have hl := lv_entry ([.ref (cx.2.2 5)]) (n := 1) (Nat.le_of_ble_eq_true rfl)
  rw [lg_entry_eq]
  generalize (lg_sl ([.ref (cx.2.2 5)]) ++ List.replicate (1 - (lg_sl ([.ref (cx.2.2 5)])).length) Slot.unset).toArray = ls at hl ⊢
  refine lv_aload_n hx hb (z_ldd z_ilLaw_ok 0 (q := (0, (.aload_n 0, 1))) rfl) rfl (lv_at hl 0 rfl) ?_
  refine W.objInit hx hb hown (hts _ (z_wd_in (ci := (1, 131)) (by decide +kernel))) (hts _ z_oi_in) (hts _ z_oi_co) rfl (hl.1.trans hml.symm) rfl (z_ldd z_ilLaw_ok 1 (q := (1, (.invokespecial 3, 3))) rfl) (Nat.le_of_ble_eq_true rfl) (Nat.le_of_ble_eq_true rfl) ?_
  refine z_inits hx hb hts hown hin2 hK hA (q := ("DayMuseum$Law", z_T2, 8)) rfl (lv_at hl 0 rfl) z_iiLaw 4 [.null, .null, .null, .null, .null, .null, .int 0, .int 0] [] s.heap [] 0 0 (by decide +kernel) rfl hP hD hS (Nat.le_of_ble_eq_true rfl) (Nat.le_of_ble_eq_true rfl) (fun as H locs hlen hP hD hS => ?_)
  obtain ⟨b0, b1, b2, b3, b4, rfl⟩ : ∃ b0 b1 b2 b3 b4, as = [b0, b1, b2, b3, b4] := by
    match as, hlen with
    | [b0, b1, b2, b3, b4], _ => exact ⟨b0, b1, b2, b3, b4, rfl⟩
  replace hP : va_P cx.1 z_cl ((cx.2.2 5, .inr (2, [.ref b0, .ref b1, .ref b2, .ref b3, .ref b4, .null, .int 0, .int 0])) :: [(b0, .inl (cx.2.1 1, z_zero 240 1)), (b1, .inl (cx.2.1 1, z_zero 240 1)), (b2, .inl (cx.2.1 1, z_zero 64 1)), (b3, .inl (cx.2.1 1, z_zero 64 1)), (b4, .inl (cx.2.1 1, z_zero 240 1))]) H := hP
  replace hD : va_D (z_IA cx 5 s.heap.size) ((cx.2.2 5, .inr (2, [.ref b0, .ref b1, .ref b2, .ref b3, .ref b4, .null, .int 0, .int 0])) :: [(b0, .inl (cx.2.1 1, z_zero 240 1)), (b1, .inl (cx.2.1 1, z_zero 240 1)), (b2, .inl (cx.2.1 1, z_zero 64 1)), (b3, .inl (cx.2.1 1, z_zero 64 1)), (b4, .inl (cx.2.1 1, z_zero 240 1))]) := hD
  show W p l e _ s m _ below meth c H locs 5 848 _ (F0 m 47 ls [])
  obtain ⟨hZ, hT⟩ := hSt.1 67903 (by decide)
  refine lv_aload_n hx hb (z_ldd z_ilLaw_ok 2 (q := (47, (.aload_n 0, 1))) rfl) rfl (lv_at hl 0 rfl) ?_
  refine va_gets hx hb hZ hS hown (hts _ (z_wd_in (ci := (1, 132)) (by decide +kernel))) (fun _ z => z) (z_ldd z_ilLaw_ok 3 (q := (48, (.getstatic 27, 3))) rfl) ?_
  refine va_tlen (v := Int32.ofInt (Int.ofNat 6)) hx hb hT hS rfl (z_ldd z_ilLaw_ok 4 (q := (51, (.arraylength, 1))) rfl) ?_
  refine z_newarr (k := 1) (n := 6) hx hb hts hK hA hP hD hS (by decide) (by decide) (Nat.le_of_ble_eq_true rfl) (Nat.le_of_ble_eq_true rfl) (z_ldd z_ilLaw_ok 5 (q := (52, (.newarray .int, 2))) rfl) (fun bn H hP hD hS => ?_)
  refine z_putref hx hb hts hown hin2 hK (q := ("DayMuseum$Law", z_T2, 8)) rfl rfl hP hD hS (j := 5) (lk := (1, 139)) (by decide) (by decide +kernel) rfl rfl (ty := .array .int) (by decide +kernel) (Or.inl ⟨_, rfl⟩) (z_ldd z_ilLaw_ok 6 (q := (54, (.putfield 31, 3))) rfl) (fun H locs hP hD hS => ?_)
  replace hP : va_P cx.1 z_cl ((cx.2.2 5, .inr (2, [.ref b0, .ref b1, .ref b2, .ref b3, .ref b4, .ref bn, .int 0, .int 0])) :: [(b0, .inl (cx.2.1 1, z_zero 240 1)), (b1, .inl (cx.2.1 1, z_zero 240 1)), (b2, .inl (cx.2.1 1, z_zero 64 1)), (b3, .inl (cx.2.1 1, z_zero 64 1)), (b4, .inl (cx.2.1 1, z_zero 240 1)), (bn, .inl (cx.2.1 1, z_zero 6 1))]) H := hP
  replace hD : va_D (z_IA cx 5 s.heap.size) ((cx.2.2 5, .inr (2, [.ref b0, .ref b1, .ref b2, .ref b3, .ref b4, .ref bn, .int 0, .int 0])) :: [(b0, .inl (cx.2.1 1, z_zero 240 1)), (b1, .inl (cx.2.1 1, z_zero 240 1)), (b2, .inl (cx.2.1 1, z_zero 64 1)), (b3, .inl (cx.2.1 1, z_zero 64 1)), (b4, .inl (cx.2.1 1, z_zero 240 1)), (bn, .inl (cx.2.1 1, z_zero 6 1))]) := hD
  have eW : ((cx.2.2 5, .inr (2, [.ref b0, .ref b1, .ref b2, .ref b3, .ref b4, .ref bn, .int 0, .int 0])) :: [(b0, .inl (cx.2.1 1, z_zero 240 1)), (b1, .inl (cx.2.1 1, z_zero 240 1)), (b2, .inl (cx.2.1 1, z_zero 64 1)), (b3, .inl (cx.2.1 1, z_zero 64 1)), (b4, .inl (cx.2.1 1, z_zero 240 1)), (bn, .inl (cx.2.1 1, z_zero 6 1))] : va_W) = z_wg (5 :: z_iGLaw) (z_cxa cx (z_adu cx.2.2 z_iGLaw [b0, b1, b2, b3, b4, bn])) (z_M0 (fun _ => 0)) := rfl
  rw [eW] at hP hD
  exact W.vret hx hb hr (fun u hu _ => ⟨⟨_, z_M0 (fun _ => 0), rfl, fun k hk => z_adu_off hk, z_adu_off (by decide), fun _ _ _ => rfl, z_MRg0 _ (by decide +kernel), by rw [hu]; exact hP, hD⟩, hS.F hu⟩) hS.2.2 (z_ldd z_ilLaw_ok 7 (q := (57, (.return_, 1))) rfl) hlocks
def z_iyReports : MethodName := ⟨"DayMuseum$Reports", "<init>", "(LDayMuseum$People;LDayMuseum$Senses;)V"⟩
def z_iiReports : List z_Ini := [(4, ((.sipush 240, 3), (240, (1, (2, (11, (1, 200))))))), (13, ((.sipush 240, 3), (240, (1, (3, (15, (1, 201))))))), (22, ((.sipush 240, 3), (240, (1, (4, (18, (1, 202)))))))]
def z_iGReports : List Nat := [2401035, 2401036, 2401037]
def z_ilReports : List (Nat × (Instr × Nat)) := [(0, (.aload_n 0, 1)), (1, (.invokespecial 3, 3)), (31, (.aload_n 0, 1)), (32, (.aload_n 1, 1)), (33, (.putfield 21, 3)), (36, (.aload_n 0, 1)), (37, (.aload_n 2, 1)), (38, (.putfield 25, 3)), (41, (.return_, 1))]
theorem z_ilReports_ok : z_ilReports.all (fun q => decide (decode prog_8_method_1_code q.1 = .ok q.2)) = true := by decide +kernel
set_option maxRecDepth 100000 in
theorem z_inReports (l : Launch) (cx : z_C) (sz : Nat) : Met l z_iyReports (.code z_iyReports prog_8_method_1_code 3 none :: z_ts) (z_rmi 3 720) (va_Pc [.ref (cx.2.2 7), .ref (cx.2.2 4), .ref (cx.2.2 6)] (z_IP cx 7 [.null, .null, .null, .null, .null, .int 0, .int 0, .int 0] sz)) (z_IQ cx 7 z_iGReports (fun M => ∀ k ∈ 7 :: z_iGReports, ∀ j, M k j = z_M0 (fun _ => 0) k j) sz) 3 720 (z_IA cx 7 sz) := by
  refine Met.ofW (cc := prog_8_method_1_code) (maxL := 3) (ret := none) (by decide) rfl ?_
  intro p e s m args below meth c s₁ B hml hv
  obtain ⟨rfl, hsz, hP, hK, hD, hSt⟩ := hv
  subst hsz
  have hx := B.exec
  have hb := B.bytes
  have hr := B.returns
  have hts' := atoms_spec (ws := .code z_iyReports prog_8_method_1_code 3 none :: z_ts) B.pre
  have hts : ∀ x ∈ z_ts, x.before _ s = true := fun x hx => hts' x (List.mem_cons_of_mem _ hx)
  have hown : s.vm.findClass "DayMuseum$Reports" = some m.cls := findClass_of_methodNamed B.named
  have hlocks := B.notSynchronized
  have hin2 : meth.name = "<init>" := (name_of_methodNamed B.named B.method).1
  have hA : ∀ q, s.heap.size ≤ q → z_IA cx 7 s.heap.size q := fun q h => Or.inr h
  have hS : va_S (z_IA cx 7 s.heap.size) s.heap s.heap [] := va_S.rf
  have hl := lv_entry ([.ref (cx.2.2 7), .ref (cx.2.2 4), .ref (cx.2.2 6)]) (n := 3) (Nat.le_of_ble_eq_true rfl)
  rw [lg_entry_eq]
  generalize (lg_sl ([.ref (cx.2.2 7), .ref (cx.2.2 4), .ref (cx.2.2 6)]) ++ List.replicate (3 - (lg_sl ([.ref (cx.2.2 7), .ref (cx.2.2 4), .ref (cx.2.2 6)])).length) Slot.unset).toArray = ls at hl ⊢
  refine lv_aload_n hx hb (z_ldd z_ilReports_ok 0 (q := (0, (.aload_n 0, 1))) rfl) rfl (lv_at hl 0 rfl) ?_
  refine W.objInit hx hb hown (hts _ (z_wd_in (ci := (1, 197)) (by decide +kernel))) (hts _ z_oi_in) (hts _ z_oi_co) rfl (hl.1.trans hml.symm) rfl (z_ldd z_ilReports_ok 1 (q := (1, (.invokespecial 3, 3))) rfl) (Nat.le_of_ble_eq_true rfl) (Nat.le_of_ble_eq_true rfl) ?_
  refine z_inits hx hb hts hown hin2 hK hA (q := ("DayMuseum$Reports", z_T6, 8)) rfl (lv_at hl 0 rfl) z_iiReports 4 [.null, .null, .null, .null, .null, .int 0, .int 0, .int 0] [] s.heap [] 0 0 (by decide +kernel) rfl hP hD hS (Nat.le_of_ble_eq_true rfl) (Nat.le_of_ble_eq_true rfl) (fun as H locs hlen hP hD hS => ?_)
  obtain ⟨b0, b1, b2, rfl⟩ : ∃ b0 b1 b2, as = [b0, b1, b2] := by
    match as, hlen with
    | [b0, b1, b2], _ => exact ⟨b0, b1, b2, rfl⟩
  replace hP : va_P cx.1 z_cl ((cx.2.2 7, .inr (6, [.null, .null, .ref b0, .ref b1, .ref b2, .int 0, .int 0, .int 0])) :: [(b0, .inl (cx.2.1 1, z_zero 240 1)), (b1, .inl (cx.2.1 1, z_zero 240 1)), (b2, .inl (cx.2.1 1, z_zero 240 1))]) H := hP
  replace hD : va_D (z_IA cx 7 s.heap.size) ((cx.2.2 7, .inr (6, [.null, .null, .ref b0, .ref b1, .ref b2, .int 0, .int 0, .int 0])) :: [(b0, .inl (cx.2.1 1, z_zero 240 1)), (b1, .inl (cx.2.1 1, z_zero 240 1)), (b2, .inl (cx.2.1 1, z_zero 240 1))]) := hD
  show W p l e _ s m _ below meth c H locs 3 720 _ (F0 m 31 ls [])
  refine lv_aload_n hx hb (z_ldd z_ilReports_ok 2 (q := (31, (.aload_n 0, 1))) rfl) rfl (lv_at hl 0 rfl) ?_
  refine lv_aload_n hx hb (z_ldd z_ilReports_ok 3 (q := (32, (.aload_n 1, 1))) rfl) rfl (lv_at hl 1 rfl) ?_
  refine z_putref hx hb hts hown hin2 hK (q := ("DayMuseum$Reports", z_T6, 8)) rfl rfl hP hD hS (j := 0) (lk := (1, 198)) (by decide) (by decide +kernel) rfl rfl (ty := .object "DayMuseum$People") (by decide +kernel) (Or.inr ⟨_, rfl⟩) (z_ldd z_ilReports_ok 4 (q := (33, (.putfield 21, 3))) rfl) (fun H locs hP hD hS => ?_)
  replace hP : va_P cx.1 z_cl ((cx.2.2 7, .inr (6, [.ref (cx.2.2 4), .null, .ref b0, .ref b1, .ref b2, .int 0, .int 0, .int 0])) :: [(b0, .inl (cx.2.1 1, z_zero 240 1)), (b1, .inl (cx.2.1 1, z_zero 240 1)), (b2, .inl (cx.2.1 1, z_zero 240 1))]) H := hP
  replace hD : va_D (z_IA cx 7 s.heap.size) ((cx.2.2 7, .inr (6, [.ref (cx.2.2 4), .null, .ref b0, .ref b1, .ref b2, .int 0, .int 0, .int 0])) :: [(b0, .inl (cx.2.1 1, z_zero 240 1)), (b1, .inl (cx.2.1 1, z_zero 240 1)), (b2, .inl (cx.2.1 1, z_zero 240 1))]) := hD
  refine lv_aload_n hx hb (z_ldd z_ilReports_ok 5 (q := (36, (.aload_n 0, 1))) rfl) rfl (lv_at hl 0 rfl) ?_
  refine lv_aload_n hx hb (z_ldd z_ilReports_ok 6 (q := (37, (.aload_n 2, 1))) rfl) rfl (lv_at hl 2 rfl) ?_
  refine z_putref hx hb hts hown hin2 hK (q := ("DayMuseum$Reports", z_T6, 8)) rfl rfl hP hD hS (j := 1) (lk := (1, 199)) (by decide) (by decide +kernel) rfl rfl (ty := .object "DayMuseum$Senses") (by decide +kernel) (Or.inr ⟨_, rfl⟩) (z_ldd z_ilReports_ok 7 (q := (38, (.putfield 25, 3))) rfl) (fun H locs hP hD hS => ?_)
  replace hP : va_P cx.1 z_cl ((cx.2.2 7, .inr (6, [.ref (cx.2.2 4), .ref (cx.2.2 6), .ref b0, .ref b1, .ref b2, .int 0, .int 0, .int 0])) :: [(b0, .inl (cx.2.1 1, z_zero 240 1)), (b1, .inl (cx.2.1 1, z_zero 240 1)), (b2, .inl (cx.2.1 1, z_zero 240 1))]) H := hP
  replace hD : va_D (z_IA cx 7 s.heap.size) ((cx.2.2 7, .inr (6, [.ref (cx.2.2 4), .ref (cx.2.2 6), .ref b0, .ref b1, .ref b2, .int 0, .int 0, .int 0])) :: [(b0, .inl (cx.2.1 1, z_zero 240 1)), (b1, .inl (cx.2.1 1, z_zero 240 1)), (b2, .inl (cx.2.1 1, z_zero 240 1))]) := hD
  have eW : ((cx.2.2 7, .inr (6, [.ref (cx.2.2 4), .ref (cx.2.2 6), .ref b0, .ref b1, .ref b2, .int 0, .int 0, .int 0])) :: [(b0, .inl (cx.2.1 1, z_zero 240 1)), (b1, .inl (cx.2.1 1, z_zero 240 1)), (b2, .inl (cx.2.1 1, z_zero 240 1))] : va_W) = z_wg (7 :: z_iGReports) (z_cxa cx (z_adu cx.2.2 z_iGReports [b0, b1, b2])) (z_M0 (fun _ => 0)) := rfl
  rw [eW] at hP hD
  exact W.vret hx hb hr (fun u hu _ => ⟨⟨_, z_M0 (fun _ => 0), rfl, fun k hk => z_adu_off hk, z_adu_off (by decide), fun _ _ _ => rfl, z_MRg0 _ (by decide +kernel), by rw [hu]; exact hP, hD⟩, hS.F hu⟩) hS.2.2 (z_ldd z_ilReports_ok 8 (q := (41, (.return_, 1))) rfl) hlocks
def z_iyDays : MethodName := ⟨"DayMuseum$Days", "<init>", "(LDayMuseum$People;LDayMuseum$Reports;)V"⟩
def z_iiDays : List z_Ini := [(4, ((.sipush 729, 3), (729, (1, (2, (11, (1, 231))))))), (13, ((.sipush 360, 3), (360, (4, (3, (17, (1, 232))))))), (22, ((.sipush 1458, 3), (1458, (2, (4, (21, (1, 233))))))), (31, ((.sipush 920, 3), (920, (2, (5, (25, (1, 234))))))), (40, ((.iconst 3, 1), (3, (1, (10, (28, (1, 239)))))))]
def z_iGDays : List Nat := [7291038, 3604039, 14582040, 9202041, 31042]
def z_ilDays : List (Nat × (Instr × Nat)) := [(0, (.aload_n 0, 1)), (1, (.invokespecial 5, 3)), (47, (.aload_n 0, 1)), (48, (.aload_n 1, 1)), (49, (.putfield 31, 3)), (52, (.aload_n 0, 1)), (53, (.aload_n 2, 1)), (54, (.putfield 35, 3)), (57, (.return_, 1))]
theorem z_ilDays_ok : z_ilDays.all (fun q => decide (decode prog_2_method_1_code q.1 = .ok q.2)) = true := by decide +kernel
set_option maxRecDepth 100000 in
theorem z_inDays (l : Launch) (cx : z_C) (sz : Nat) : Met l z_iyDays (.code z_iyDays prog_2_method_1_code 3 none :: z_ts) (z_rmi 5 3470) (va_Pc [.ref (cx.2.2 8), .ref (cx.2.2 4), .ref (cx.2.2 7)] (z_IP cx 8 [.null, .null, .null, .null, .null, .null, .int 0, .int 0, .int 0, .int 0, .null, .int 0] sz)) (z_IQ cx 8 z_iGDays (fun M => ∀ k ∈ 8 :: z_iGDays, ∀ j, M k j = z_M0 (fun _ => 0) k j) sz) 5 3470 (z_IA cx 8 sz) := by
  refine Met.ofW (cc := prog_2_method_1_code) (maxL := 3) (ret := none) (by decide) rfl ?_
  intro p e s m args below meth c s₁ B hml hv
  obtain ⟨rfl, hsz, hP, hK, hD, hSt⟩ := hv
  subst hsz
  have hx := B.exec
  have hb := B.bytes
  have hr := B.returns
  have hts' := atoms_spec (ws := .code z_iyDays prog_2_method_1_code 3 none :: z_ts) B.pre
  have hts : ∀ x ∈ z_ts, x.before _ s = true := fun x hx => hts' x (List.mem_cons_of_mem _ hx)
  have hown : s.vm.findClass "DayMuseum$Days" = some m.cls := findClass_of_methodNamed B.named
  have hlocks := B.notSynchronized
  have hin2 : meth.name = "<init>" := (name_of_methodNamed B.named B.method).1
  have hA : ∀ q, s.heap.size ≤ q → z_IA cx 8 s.heap.size q := fun q h => Or.inr h
  have hS : va_S (z_IA cx 8 s.heap.size) s.heap s.heap [] := va_S.rf
  have hl := lv_entry ([.ref (cx.2.2 8), .ref (cx.2.2 4), .ref (cx.2.2 7)]) (n := 3) (Nat.le_of_ble_eq_true rfl)
  rw [lg_entry_eq]
  generalize (lg_sl ([.ref (cx.2.2 8), .ref (cx.2.2 4), .ref (cx.2.2 7)]) ++ List.replicate (3 - (lg_sl ([.ref (cx.2.2 8), .ref (cx.2.2 4), .ref (cx.2.2 7)])).length) Slot.unset).toArray = ls at hl ⊢
  refine lv_aload_n hx hb (z_ldd z_ilDays_ok 0 (q := (0, (.aload_n 0, 1))) rfl) rfl (lv_at hl 0 rfl) ?_
  refine W.objInit hx hb hown (hts _ (z_wd_in (ci := (1, 228)) (by decide +kernel))) (hts _ z_oi_in) (hts _ z_oi_co) rfl (hl.1.trans hml.symm) rfl (z_ldd z_ilDays_ok 1 (q := (1, (.invokespecial 5, 3))) rfl) (Nat.le_of_ble_eq_true rfl) (Nat.le_of_ble_eq_true rfl) ?_
  refine z_inits hx hb hts hown hin2 hK hA (q := ("DayMuseum$Days", z_T0, 12)) rfl (lv_at hl 0 rfl) z_iiDays 4 [.null, .null, .null, .null, .null, .null, .int 0, .int 0, .int 0, .int 0, .null, .int 0] [] s.heap [] 0 0 (by decide +kernel) rfl hP hD hS (Nat.le_of_ble_eq_true rfl) (Nat.le_of_ble_eq_true rfl) (fun as H locs hlen hP hD hS => ?_)
  obtain ⟨b0, b1, b2, b3, b4, rfl⟩ : ∃ b0 b1 b2 b3 b4, as = [b0, b1, b2, b3, b4] := by
    match as, hlen with
    | [b0, b1, b2, b3, b4], _ => exact ⟨b0, b1, b2, b3, b4, rfl⟩
  replace hP : va_P cx.1 z_cl ((cx.2.2 8, .inr (0, [.null, .null, .ref b0, .ref b1, .ref b2, .ref b3, .int 0, .int 0, .int 0, .int 0, .ref b4, .int 0])) :: [(b0, .inl (cx.2.1 1, z_zero 729 1)), (b1, .inl (cx.2.1 4, z_zero 360 4)), (b2, .inl (cx.2.1 2, z_zero 1458 2)), (b3, .inl (cx.2.1 2, z_zero 920 2)), (b4, .inl (cx.2.1 1, z_zero 3 1))]) H := hP
  replace hD : va_D (z_IA cx 8 s.heap.size) ((cx.2.2 8, .inr (0, [.null, .null, .ref b0, .ref b1, .ref b2, .ref b3, .int 0, .int 0, .int 0, .int 0, .ref b4, .int 0])) :: [(b0, .inl (cx.2.1 1, z_zero 729 1)), (b1, .inl (cx.2.1 4, z_zero 360 4)), (b2, .inl (cx.2.1 2, z_zero 1458 2)), (b3, .inl (cx.2.1 2, z_zero 920 2)), (b4, .inl (cx.2.1 1, z_zero 3 1))]) := hD
  show W p l e _ s m _ below meth c H locs 5 3470 _ (F0 m 47 ls [])
  refine lv_aload_n hx hb (z_ldd z_ilDays_ok 2 (q := (47, (.aload_n 0, 1))) rfl) rfl (lv_at hl 0 rfl) ?_
  refine lv_aload_n hx hb (z_ldd z_ilDays_ok 3 (q := (48, (.aload_n 1, 1))) rfl) rfl (lv_at hl 1 rfl) ?_
  refine z_putref hx hb hts hown hin2 hK (q := ("DayMuseum$Days", z_T0, 12)) rfl rfl hP hD hS (j := 0) (lk := (1, 229)) (by decide) (by decide +kernel) rfl rfl (ty := .object "DayMuseum$People") (by decide +kernel) (Or.inr ⟨_, rfl⟩) (z_ldd z_ilDays_ok 4 (q := (49, (.putfield 31, 3))) rfl) (fun H locs hP hD hS => ?_)
  replace hP : va_P cx.1 z_cl ((cx.2.2 8, .inr (0, [.ref (cx.2.2 4), .null, .ref b0, .ref b1, .ref b2, .ref b3, .int 0, .int 0, .int 0, .int 0, .ref b4, .int 0])) :: [(b0, .inl (cx.2.1 1, z_zero 729 1)), (b1, .inl (cx.2.1 4, z_zero 360 4)), (b2, .inl (cx.2.1 2, z_zero 1458 2)), (b3, .inl (cx.2.1 2, z_zero 920 2)), (b4, .inl (cx.2.1 1, z_zero 3 1))]) H := hP
  replace hD : va_D (z_IA cx 8 s.heap.size) ((cx.2.2 8, .inr (0, [.ref (cx.2.2 4), .null, .ref b0, .ref b1, .ref b2, .ref b3, .int 0, .int 0, .int 0, .int 0, .ref b4, .int 0])) :: [(b0, .inl (cx.2.1 1, z_zero 729 1)), (b1, .inl (cx.2.1 4, z_zero 360 4)), (b2, .inl (cx.2.1 2, z_zero 1458 2)), (b3, .inl (cx.2.1 2, z_zero 920 2)), (b4, .inl (cx.2.1 1, z_zero 3 1))]) := hD
  refine lv_aload_n hx hb (z_ldd z_ilDays_ok 5 (q := (52, (.aload_n 0, 1))) rfl) rfl (lv_at hl 0 rfl) ?_
  refine lv_aload_n hx hb (z_ldd z_ilDays_ok 6 (q := (53, (.aload_n 2, 1))) rfl) rfl (lv_at hl 2 rfl) ?_
  refine z_putref hx hb hts hown hin2 hK (q := ("DayMuseum$Days", z_T0, 12)) rfl rfl hP hD hS (j := 1) (lk := (1, 230)) (by decide) (by decide +kernel) rfl rfl (ty := .object "DayMuseum$Reports") (by decide +kernel) (Or.inr ⟨_, rfl⟩) (z_ldd z_ilDays_ok 7 (q := (54, (.putfield 35, 3))) rfl) (fun H locs hP hD hS => ?_)
  replace hP : va_P cx.1 z_cl ((cx.2.2 8, .inr (0, [.ref (cx.2.2 4), .ref (cx.2.2 7), .ref b0, .ref b1, .ref b2, .ref b3, .int 0, .int 0, .int 0, .int 0, .ref b4, .int 0])) :: [(b0, .inl (cx.2.1 1, z_zero 729 1)), (b1, .inl (cx.2.1 4, z_zero 360 4)), (b2, .inl (cx.2.1 2, z_zero 1458 2)), (b3, .inl (cx.2.1 2, z_zero 920 2)), (b4, .inl (cx.2.1 1, z_zero 3 1))]) H := hP
  replace hD : va_D (z_IA cx 8 s.heap.size) ((cx.2.2 8, .inr (0, [.ref (cx.2.2 4), .ref (cx.2.2 7), .ref b0, .ref b1, .ref b2, .ref b3, .int 0, .int 0, .int 0, .int 0, .ref b4, .int 0])) :: [(b0, .inl (cx.2.1 1, z_zero 729 1)), (b1, .inl (cx.2.1 4, z_zero 360 4)), (b2, .inl (cx.2.1 2, z_zero 1458 2)), (b3, .inl (cx.2.1 2, z_zero 920 2)), (b4, .inl (cx.2.1 1, z_zero 3 1))]) := hD
  have eW : ((cx.2.2 8, .inr (0, [.ref (cx.2.2 4), .ref (cx.2.2 7), .ref b0, .ref b1, .ref b2, .ref b3, .int 0, .int 0, .int 0, .int 0, .ref b4, .int 0])) :: [(b0, .inl (cx.2.1 1, z_zero 729 1)), (b1, .inl (cx.2.1 4, z_zero 360 4)), (b2, .inl (cx.2.1 2, z_zero 1458 2)), (b3, .inl (cx.2.1 2, z_zero 920 2)), (b4, .inl (cx.2.1 1, z_zero 3 1))] : va_W) = z_wg (8 :: z_iGDays) (z_cxa cx (z_adu cx.2.2 z_iGDays [b0, b1, b2, b3, b4])) (z_M0 (fun _ => 0)) := rfl
  rw [eW] at hP hD
  exact W.vret hx hb hr (fun u hu _ => ⟨⟨_, z_M0 (fun _ => 0), rfl, fun k hk => z_adu_off hk, z_adu_off (by decide), fun _ _ _ => rfl, z_MRg0 _ (by decide +kernel), by rw [hu]; exact hP, hD⟩, hS.F hu⟩) hS.2.2 (z_ldd z_ilDays_ok 8 (q := (57, (.return_, 1))) rfl) hlocks
def z_iyQuestions : MethodName := ⟨"DayMuseum$Questions", "<init>", "(LDayMuseum$People;LDayMuseum$Senses;LDayMuseum$Days;)V"⟩
def z_iiQuestions : List z_Ini := [(4, ((.sipush 729, 3), (729, (1, (3, (11, (2, 37))))))), (13, ((.sipush 729, 3), (729, (1, (4, (17, (2, 38))))))), (22, ((.sipush 1024, 3), (1024, (1, (5, (20, (2, 39)))))))]
def z_iGQuestions : List Nat := [7291043, 7291044, 10241045]
def z_ilQuestions : List (Nat × (Instr × Nat)) := [(0, (.aload_n 0, 1)), (1, (.invokespecial 3, 3)), (31, (.aload_n 0, 1)), (32, (.aload_n 1, 1)), (33, (.putfield 23, 3)), (36, (.aload_n 0, 1)), (37, (.aload_n 2, 1)), (38, (.putfield 27, 3)), (41, (.aload_n 0, 1)), (42, (.aload_n 3, 1)), (43, (.putfield 31, 3)), (46, (.return_, 1))]
theorem z_ilQuestions_ok : z_ilQuestions.all (fun q => decide (decode prog_7_method_1_code q.1 = .ok q.2)) = true := by decide +kernel
set_option maxRecDepth 100000 in
theorem z_inQuestions (l : Launch) (cx : z_C) (sz : Nat) : Met l z_iyQuestions (.code z_iyQuestions prog_7_method_1_code 4 none :: z_ts) (z_rmi 3 2482) (va_Pc [.ref (cx.2.2 9), .ref (cx.2.2 4), .ref (cx.2.2 6), .ref (cx.2.2 8)] (z_IP cx 9 [.null, .null, .null, .null, .null, .null, .int 0, .int 0, .int 0, .int 0, .int 0, .int 0] sz)) (z_IQ cx 9 z_iGQuestions (fun M => ∀ k ∈ 9 :: z_iGQuestions, ∀ j, M k j = z_M0 (fun _ => 0) k j) sz) 3 2482 (z_IA cx 9 sz) := by
  refine Met.ofW (cc := prog_7_method_1_code) (maxL := 4) (ret := none) (by decide) rfl ?_
  intro p e s m args below meth c s₁ B hml hv
  obtain ⟨rfl, hsz, hP, hK, hD, hSt⟩ := hv
  subst hsz
  have hx := B.exec
  have hb := B.bytes
  have hr := B.returns
  have hts' := atoms_spec (ws := .code z_iyQuestions prog_7_method_1_code 4 none :: z_ts) B.pre
  have hts : ∀ x ∈ z_ts, x.before _ s = true := fun x hx => hts' x (List.mem_cons_of_mem _ hx)
  have hown : s.vm.findClass "DayMuseum$Questions" = some m.cls := findClass_of_methodNamed B.named
  have hlocks := B.notSynchronized
  have hin2 : meth.name = "<init>" := (name_of_methodNamed B.named B.method).1
  have hA : ∀ q, s.heap.size ≤ q → z_IA cx 9 s.heap.size q := fun q h => Or.inr h
  have hS : va_S (z_IA cx 9 s.heap.size) s.heap s.heap [] := va_S.rf
  have hl := lv_entry ([.ref (cx.2.2 9), .ref (cx.2.2 4), .ref (cx.2.2 6), .ref (cx.2.2 8)]) (n := 4) (Nat.le_of_ble_eq_true rfl)
  rw [lg_entry_eq]
  generalize (lg_sl ([.ref (cx.2.2 9), .ref (cx.2.2 4), .ref (cx.2.2 6), .ref (cx.2.2 8)]) ++ List.replicate (4 - (lg_sl ([.ref (cx.2.2 9), .ref (cx.2.2 4), .ref (cx.2.2 6), .ref (cx.2.2 8)])).length) Slot.unset).toArray = ls at hl ⊢
  refine lv_aload_n hx hb (z_ldd z_ilQuestions_ok 0 (q := (0, (.aload_n 0, 1))) rfl) rfl (lv_at hl 0 rfl) ?_
  refine W.objInit hx hb hown (hts _ (z_wd_in (ci := (2, 33)) (by decide +kernel))) (hts _ z_oi_in) (hts _ z_oi_co) rfl (hl.1.trans hml.symm) rfl (z_ldd z_ilQuestions_ok 1 (q := (1, (.invokespecial 3, 3))) rfl) (Nat.le_of_ble_eq_true rfl) (Nat.le_of_ble_eq_true rfl) ?_
  refine z_inits hx hb hts hown hin2 hK hA (q := ("DayMuseum$Questions", z_T5, 12)) rfl (lv_at hl 0 rfl) z_iiQuestions 4 [.null, .null, .null, .null, .null, .null, .int 0, .int 0, .int 0, .int 0, .int 0, .int 0] [] s.heap [] 0 0 (by decide +kernel) rfl hP hD hS (Nat.le_of_ble_eq_true rfl) (Nat.le_of_ble_eq_true rfl) (fun as H locs hlen hP hD hS => ?_)
  obtain ⟨b0, b1, b2, rfl⟩ : ∃ b0 b1 b2, as = [b0, b1, b2] := by
    match as, hlen with
    | [b0, b1, b2], _ => exact ⟨b0, b1, b2, rfl⟩
  replace hP : va_P cx.1 z_cl ((cx.2.2 9, .inr (5, [.null, .null, .null, .ref b0, .ref b1, .ref b2, .int 0, .int 0, .int 0, .int 0, .int 0, .int 0])) :: [(b0, .inl (cx.2.1 1, z_zero 729 1)), (b1, .inl (cx.2.1 1, z_zero 729 1)), (b2, .inl (cx.2.1 1, z_zero 1024 1))]) H := hP
  replace hD : va_D (z_IA cx 9 s.heap.size) ((cx.2.2 9, .inr (5, [.null, .null, .null, .ref b0, .ref b1, .ref b2, .int 0, .int 0, .int 0, .int 0, .int 0, .int 0])) :: [(b0, .inl (cx.2.1 1, z_zero 729 1)), (b1, .inl (cx.2.1 1, z_zero 729 1)), (b2, .inl (cx.2.1 1, z_zero 1024 1))]) := hD
  show W p l e _ s m _ below meth c H locs 3 2482 _ (F0 m 31 ls [])
  refine lv_aload_n hx hb (z_ldd z_ilQuestions_ok 2 (q := (31, (.aload_n 0, 1))) rfl) rfl (lv_at hl 0 rfl) ?_
  refine lv_aload_n hx hb (z_ldd z_ilQuestions_ok 3 (q := (32, (.aload_n 1, 1))) rfl) rfl (lv_at hl 1 rfl) ?_
  refine z_putref hx hb hts hown hin2 hK (q := ("DayMuseum$Questions", z_T5, 12)) rfl rfl hP hD hS (j := 0) (lk := (2, 34)) (by decide) (by decide +kernel) rfl rfl (ty := .object "DayMuseum$People") (by decide +kernel) (Or.inr ⟨_, rfl⟩) (z_ldd z_ilQuestions_ok 4 (q := (33, (.putfield 23, 3))) rfl) (fun H locs hP hD hS => ?_)
  replace hP : va_P cx.1 z_cl ((cx.2.2 9, .inr (5, [.ref (cx.2.2 4), .null, .null, .ref b0, .ref b1, .ref b2, .int 0, .int 0, .int 0, .int 0, .int 0, .int 0])) :: [(b0, .inl (cx.2.1 1, z_zero 729 1)), (b1, .inl (cx.2.1 1, z_zero 729 1)), (b2, .inl (cx.2.1 1, z_zero 1024 1))]) H := hP
  replace hD : va_D (z_IA cx 9 s.heap.size) ((cx.2.2 9, .inr (5, [.ref (cx.2.2 4), .null, .null, .ref b0, .ref b1, .ref b2, .int 0, .int 0, .int 0, .int 0, .int 0, .int 0])) :: [(b0, .inl (cx.2.1 1, z_zero 729 1)), (b1, .inl (cx.2.1 1, z_zero 729 1)), (b2, .inl (cx.2.1 1, z_zero 1024 1))]) := hD
  refine lv_aload_n hx hb (z_ldd z_ilQuestions_ok 5 (q := (36, (.aload_n 0, 1))) rfl) rfl (lv_at hl 0 rfl) ?_
  refine lv_aload_n hx hb (z_ldd z_ilQuestions_ok 6 (q := (37, (.aload_n 2, 1))) rfl) rfl (lv_at hl 2 rfl) ?_
  refine z_putref hx hb hts hown hin2 hK (q := ("DayMuseum$Questions", z_T5, 12)) rfl rfl hP hD hS (j := 1) (lk := (2, 35)) (by decide) (by decide +kernel) rfl rfl (ty := .object "DayMuseum$Senses") (by decide +kernel) (Or.inr ⟨_, rfl⟩) (z_ldd z_ilQuestions_ok 7 (q := (38, (.putfield 27, 3))) rfl) (fun H locs hP hD hS => ?_)
  replace hP : va_P cx.1 z_cl ((cx.2.2 9, .inr (5, [.ref (cx.2.2 4), .ref (cx.2.2 6), .null, .ref b0, .ref b1, .ref b2, .int 0, .int 0, .int 0, .int 0, .int 0, .int 0])) :: [(b0, .inl (cx.2.1 1, z_zero 729 1)), (b1, .inl (cx.2.1 1, z_zero 729 1)), (b2, .inl (cx.2.1 1, z_zero 1024 1))]) H := hP
  replace hD : va_D (z_IA cx 9 s.heap.size) ((cx.2.2 9, .inr (5, [.ref (cx.2.2 4), .ref (cx.2.2 6), .null, .ref b0, .ref b1, .ref b2, .int 0, .int 0, .int 0, .int 0, .int 0, .int 0])) :: [(b0, .inl (cx.2.1 1, z_zero 729 1)), (b1, .inl (cx.2.1 1, z_zero 729 1)), (b2, .inl (cx.2.1 1, z_zero 1024 1))]) := hD
  refine lv_aload_n hx hb (z_ldd z_ilQuestions_ok 8 (q := (41, (.aload_n 0, 1))) rfl) rfl (lv_at hl 0 rfl) ?_
  refine lv_aload_n hx hb (z_ldd z_ilQuestions_ok 9 (q := (42, (.aload_n 3, 1))) rfl) rfl (lv_at hl 3 rfl) ?_
  refine z_putref hx hb hts hown hin2 hK (q := ("DayMuseum$Questions", z_T5, 12)) rfl rfl hP hD hS (j := 2) (lk := (2, 36)) (by decide) (by decide +kernel) rfl rfl (ty := .object "DayMuseum$Days") (by decide +kernel) (Or.inr ⟨_, rfl⟩) (z_ldd z_ilQuestions_ok 10 (q := (43, (.putfield 31, 3))) rfl) (fun H locs hP hD hS => ?_)
  replace hP : va_P cx.1 z_cl ((cx.2.2 9, .inr (5, [.ref (cx.2.2 4), .ref (cx.2.2 6), .ref (cx.2.2 8), .ref b0, .ref b1, .ref b2, .int 0, .int 0, .int 0, .int 0, .int 0, .int 0])) :: [(b0, .inl (cx.2.1 1, z_zero 729 1)), (b1, .inl (cx.2.1 1, z_zero 729 1)), (b2, .inl (cx.2.1 1, z_zero 1024 1))]) H := hP
  replace hD : va_D (z_IA cx 9 s.heap.size) ((cx.2.2 9, .inr (5, [.ref (cx.2.2 4), .ref (cx.2.2 6), .ref (cx.2.2 8), .ref b0, .ref b1, .ref b2, .int 0, .int 0, .int 0, .int 0, .int 0, .int 0])) :: [(b0, .inl (cx.2.1 1, z_zero 729 1)), (b1, .inl (cx.2.1 1, z_zero 729 1)), (b2, .inl (cx.2.1 1, z_zero 1024 1))]) := hD
  have eW : ((cx.2.2 9, .inr (5, [.ref (cx.2.2 4), .ref (cx.2.2 6), .ref (cx.2.2 8), .ref b0, .ref b1, .ref b2, .int 0, .int 0, .int 0, .int 0, .int 0, .int 0])) :: [(b0, .inl (cx.2.1 1, z_zero 729 1)), (b1, .inl (cx.2.1 1, z_zero 729 1)), (b2, .inl (cx.2.1 1, z_zero 1024 1))] : va_W) = z_wg (9 :: z_iGQuestions) (z_cxa cx (z_adu cx.2.2 z_iGQuestions [b0, b1, b2])) (z_M0 (fun _ => 0)) := rfl
  rw [eW] at hP hD
  exact W.vret hx hb hr (fun u hu _ => ⟨⟨_, z_M0 (fun _ => 0), rfl, fun k hk => z_adu_off hk, z_adu_off (by decide), fun _ _ _ => rfl, z_MRg0 _ (by decide +kernel), by rw [hu]; exact hP, hD⟩, hS.F hu⟩) hS.2.2 (z_ldd z_ilQuestions_ok 11 (q := (46, (.return_, 1))) rfl) hlocks
def z_iyWays : MethodName := ⟨"DayMuseum$Ways", "<init>", "(LDayMuseum$Town;LDayMuseum$People;)V"⟩
def z_iiWays : List z_Ini := [(4, ((.sipush 2100, 3), (2100, (2, (2, (11, (2, 79))))))), (13, ((.sipush 2100, 3), (2100, (2, (3, (15, (2, 80))))))), (22, ((.bipush 100, 2), (100, (1, (4, (18, (2, 81))))))), (30, ((.bipush 100, 2), (100, (1, (5, (22, (2, 82)))))))]
def z_iGWays : List Nat := [21002046, 21002047, 1001048, 1001049]
def z_ilWays : List (Nat × (Instr × Nat)) := [(0, (.aload_n 0, 1)), (1, (.invokespecial 3, 3)), (38, (.aload_n 0, 1)), (39, (.aload_n 1, 1)), (40, (.putfield 25, 3)), (43, (.aload_n 0, 1)), (44, (.aload_n 2, 1)), (45, (.putfield 29, 3)), (48, (.return_, 1))]
theorem z_ilWays_ok : z_ilWays.all (fun q => decide (decode prog_12_method_1_code q.1 = .ok q.2)) = true := by decide +kernel
set_option maxRecDepth 100000 in
theorem z_inWays (l : Launch) (cx : z_C) (sz : Nat) : Met l z_iyWays (.code z_iyWays prog_12_method_1_code 3 none :: z_ts) (z_rmi 4 4400) (va_Pc [.ref (cx.2.2 10), .ref (cx.2.2 3), .ref (cx.2.2 4)] (z_IP cx 10 [.null, .null, .null, .null, .null, .null, .int 0, .int 0, .int 0, .int 0] sz)) (z_IQ cx 10 z_iGWays (fun M => ∀ k ∈ 10 :: z_iGWays, ∀ j, M k j = z_M0 (fun _ => 0) k j) sz) 4 4400 (z_IA cx 10 sz) := by
  refine Met.ofW (cc := prog_12_method_1_code) (maxL := 3) (ret := none) (by decide) rfl ?_
  intro p e s m args below meth c s₁ B hml hv
  obtain ⟨rfl, hsz, hP, hK, hD, hSt⟩ := hv
  subst hsz
  have hx := B.exec
  have hb := B.bytes
  have hr := B.returns
  have hts' := atoms_spec (ws := .code z_iyWays prog_12_method_1_code 3 none :: z_ts) B.pre
  have hts : ∀ x ∈ z_ts, x.before _ s = true := fun x hx => hts' x (List.mem_cons_of_mem _ hx)
  have hown : s.vm.findClass "DayMuseum$Ways" = some m.cls := findClass_of_methodNamed B.named
  have hlocks := B.notSynchronized
  have hin2 : meth.name = "<init>" := (name_of_methodNamed B.named B.method).1
  have hA : ∀ q, s.heap.size ≤ q → z_IA cx 10 s.heap.size q := fun q h => Or.inr h
  have hS : va_S (z_IA cx 10 s.heap.size) s.heap s.heap [] := va_S.rf
  have hl := lv_entry ([.ref (cx.2.2 10), .ref (cx.2.2 3), .ref (cx.2.2 4)]) (n := 3) (Nat.le_of_ble_eq_true rfl)
  rw [lg_entry_eq]
  generalize (lg_sl ([.ref (cx.2.2 10), .ref (cx.2.2 3), .ref (cx.2.2 4)]) ++ List.replicate (3 - (lg_sl ([.ref (cx.2.2 10), .ref (cx.2.2 3), .ref (cx.2.2 4)])).length) Slot.unset).toArray = ls at hl ⊢
  refine lv_aload_n hx hb (z_ldd z_ilWays_ok 0 (q := (0, (.aload_n 0, 1))) rfl) rfl (lv_at hl 0 rfl) ?_
  refine W.objInit hx hb hown (hts _ (z_wd_in (ci := (2, 76)) (by decide +kernel))) (hts _ z_oi_in) (hts _ z_oi_co) rfl (hl.1.trans hml.symm) rfl (z_ldd z_ilWays_ok 1 (q := (1, (.invokespecial 3, 3))) rfl) (Nat.le_of_ble_eq_true rfl) (Nat.le_of_ble_eq_true rfl) ?_
  refine z_inits hx hb hts hown hin2 hK hA (q := ("DayMuseum$Ways", z_T10, 10)) rfl (lv_at hl 0 rfl) z_iiWays 4 [.null, .null, .null, .null, .null, .null, .int 0, .int 0, .int 0, .int 0] [] s.heap [] 0 0 (by decide +kernel) rfl hP hD hS (Nat.le_of_ble_eq_true rfl) (Nat.le_of_ble_eq_true rfl) (fun as H locs hlen hP hD hS => ?_)
  obtain ⟨b0, b1, b2, b3, rfl⟩ : ∃ b0 b1 b2 b3, as = [b0, b1, b2, b3] := by
    match as, hlen with
    | [b0, b1, b2, b3], _ => exact ⟨b0, b1, b2, b3, rfl⟩
  replace hP : va_P cx.1 z_cl ((cx.2.2 10, .inr (10, [.null, .null, .ref b0, .ref b1, .ref b2, .ref b3, .int 0, .int 0, .int 0, .int 0])) :: [(b0, .inl (cx.2.1 2, z_zero 2100 2)), (b1, .inl (cx.2.1 2, z_zero 2100 2)), (b2, .inl (cx.2.1 1, z_zero 100 1)), (b3, .inl (cx.2.1 1, z_zero 100 1))]) H := hP
  replace hD : va_D (z_IA cx 10 s.heap.size) ((cx.2.2 10, .inr (10, [.null, .null, .ref b0, .ref b1, .ref b2, .ref b3, .int 0, .int 0, .int 0, .int 0])) :: [(b0, .inl (cx.2.1 2, z_zero 2100 2)), (b1, .inl (cx.2.1 2, z_zero 2100 2)), (b2, .inl (cx.2.1 1, z_zero 100 1)), (b3, .inl (cx.2.1 1, z_zero 100 1))]) := hD
  show W p l e _ s m _ below meth c H locs 4 4400 _ (F0 m 38 ls [])
  refine lv_aload_n hx hb (z_ldd z_ilWays_ok 2 (q := (38, (.aload_n 0, 1))) rfl) rfl (lv_at hl 0 rfl) ?_
  refine lv_aload_n hx hb (z_ldd z_ilWays_ok 3 (q := (39, (.aload_n 1, 1))) rfl) rfl (lv_at hl 1 rfl) ?_
  refine z_putref hx hb hts hown hin2 hK (q := ("DayMuseum$Ways", z_T10, 10)) rfl rfl hP hD hS (j := 0) (lk := (2, 77)) (by decide) (by decide +kernel) rfl rfl (ty := .object "DayMuseum$Town") (by decide +kernel) (Or.inr ⟨_, rfl⟩) (z_ldd z_ilWays_ok 4 (q := (40, (.putfield 25, 3))) rfl) (fun H locs hP hD hS => ?_)
  replace hP : va_P cx.1 z_cl ((cx.2.2 10, .inr (10, [.ref (cx.2.2 3), .null, .ref b0, .ref b1, .ref b2, .ref b3, .int 0, .int 0, .int 0, .int 0])) :: [(b0, .inl (cx.2.1 2, z_zero 2100 2)), (b1, .inl (cx.2.1 2, z_zero 2100 2)), (b2, .inl (cx.2.1 1, z_zero 100 1)), (b3, .inl (cx.2.1 1, z_zero 100 1))]) H := hP
  replace hD : va_D (z_IA cx 10 s.heap.size) ((cx.2.2 10, .inr (10, [.ref (cx.2.2 3), .null, .ref b0, .ref b1, .ref b2, .ref b3, .int 0, .int 0, .int 0, .int 0])) :: [(b0, .inl (cx.2.1 2, z_zero 2100 2)), (b1, .inl (cx.2.1 2, z_zero 2100 2)), (b2, .inl (cx.2.1 1, z_zero 100 1)), (b3, .inl (cx.2.1 1, z_zero 100 1))]) := hD
  refine lv_aload_n hx hb (z_ldd z_ilWays_ok 5 (q := (43, (.aload_n 0, 1))) rfl) rfl (lv_at hl 0 rfl) ?_
  refine lv_aload_n hx hb (z_ldd z_ilWays_ok 6 (q := (44, (.aload_n 2, 1))) rfl) rfl (lv_at hl 2 rfl) ?_
  refine z_putref hx hb hts hown hin2 hK (q := ("DayMuseum$Ways", z_T10, 10)) rfl rfl hP hD hS (j := 1) (lk := (2, 78)) (by decide) (by decide +kernel) rfl rfl (ty := .object "DayMuseum$People") (by decide +kernel) (Or.inr ⟨_, rfl⟩) (z_ldd z_ilWays_ok 7 (q := (45, (.putfield 29, 3))) rfl) (fun H locs hP hD hS => ?_)
  replace hP : va_P cx.1 z_cl ((cx.2.2 10, .inr (10, [.ref (cx.2.2 3), .ref (cx.2.2 4), .ref b0, .ref b1, .ref b2, .ref b3, .int 0, .int 0, .int 0, .int 0])) :: [(b0, .inl (cx.2.1 2, z_zero 2100 2)), (b1, .inl (cx.2.1 2, z_zero 2100 2)), (b2, .inl (cx.2.1 1, z_zero 100 1)), (b3, .inl (cx.2.1 1, z_zero 100 1))]) H := hP
  replace hD : va_D (z_IA cx 10 s.heap.size) ((cx.2.2 10, .inr (10, [.ref (cx.2.2 3), .ref (cx.2.2 4), .ref b0, .ref b1, .ref b2, .ref b3, .int 0, .int 0, .int 0, .int 0])) :: [(b0, .inl (cx.2.1 2, z_zero 2100 2)), (b1, .inl (cx.2.1 2, z_zero 2100 2)), (b2, .inl (cx.2.1 1, z_zero 100 1)), (b3, .inl (cx.2.1 1, z_zero 100 1))]) := hD
  have eW : ((cx.2.2 10, .inr (10, [.ref (cx.2.2 3), .ref (cx.2.2 4), .ref b0, .ref b1, .ref b2, .ref b3, .int 0, .int 0, .int 0, .int 0])) :: [(b0, .inl (cx.2.1 2, z_zero 2100 2)), (b1, .inl (cx.2.1 2, z_zero 2100 2)), (b2, .inl (cx.2.1 1, z_zero 100 1)), (b3, .inl (cx.2.1 1, z_zero 100 1))] : va_W) = z_wg (10 :: z_iGWays) (z_cxa cx (z_adu cx.2.2 z_iGWays [b0, b1, b2, b3])) (z_M0 (fun _ => 0)) := rfl
  rw [eW] at hP hD
  exact W.vret hx hb hr (fun u hu _ => ⟨⟨_, z_M0 (fun _ => 0), rfl, fun k hk => z_adu_off hk, z_adu_off (by decide), fun _ _ _ => rfl, z_MRg0 _ (by decide +kernel), by rw [hu]; exact hP, hD⟩, hS.F hu⟩) hS.2.2 (z_ldd z_ilWays_ok 8 (q := (48, (.return_, 1))) rfl) hlocks
