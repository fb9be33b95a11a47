/-! THE START ONCE MORE: what is away is right from the first -/
def zf_A (M : z_M) : Prop := ∀ f t : Int, 0 ≤ f → f < 100 → 0 ≤ t → t < 100 → M 100001017 (100 * f + t) = z_aw (fun _ => 0) f t
def zf_T (M : z_M) : Prop := (∀ k, k ≠ 100001017 → ∀ j, M k j = 0) ∧ zf_A M
def zf_PM (D : List Nat) (M : z_M) : Prop := z_PM D M ∧ (100001017 ∈ D → zf_A M)
theorem zf_n {M : z_M} : zf_PM [] M := ⟨(fun k hk => by cases hk), (fun h => by cases h)⟩
theorem zf_PMj {D E : List Nat} {M M' : z_M} (h1 : zf_PM D M) (h2 : zf_PM E M') : zf_PM (D ++ E) (z_mj D M M') := by
  refine ⟨z_PMj h1.1 h2.1, fun h f t f0 f1 t0 t1 => ?_⟩
  by_cases hkD : 100001017 ∈ D
  · rw [z_mj_in hkD]; exact h1.2 hkD f t f0 f1 t0 t1
  · rw [z_mj_out hkD]
    rcases List.mem_append.mp h with g | g
    · exact absurd g hkD
    · exact h2.2 g f t f0 f1 t0 t1
theorem zf_o {E : List Nat} {M : z_M} (h : z_PM E M) (hn : 100001017 ∉ E) : zf_PM E M := ⟨h, fun g => absurd g hn⟩
theorem zf_t {M : z_M} (h : zf_T M) : zf_PM (3 :: z_iGTown) M := ⟨z_PMt h.1, fun _ => h.2⟩
theorem zf_tp_Town : z_G 1 3 z_tmTown 29 [z_R 3] [] (fun _ _ => 0) (fun _ M => zf_T M) := rt_Town 2 (kc_measureW (g := fun _ => 0) 0 rfl (fun M1 h ha => ⟨fun k hk j => by rw [h k hk], ha⟩))
set_option maxRecDepth 100000 in
theorem zf_inTown (l : Launch) (cx : z_C) (sz : Nat) : Met l z_iyTown (.code z_iyTown prog_11_method_1_code 1 none :: z_ts) (z_rmi 3 10200) (va_Pc [.ref (cx.2.2 3)] (z_IP cx 3 [.null, .null, .null] sz)) (z_IQ cx 3 z_iGTown zf_T sz) 3 10200 (z_IA cx 3 sz) := by
  refine Met.ofW (cc := prog_11_method_1_code) (maxL := 1) (ret := none) (by decide) rfl ?_
  intro p e s m args below meth c s₁ B hml hv
  obtain ⟨rfl, hsz, hP, hK, hD, hSt⟩ := hv
  subst hsz
  have hx := B.exec
  have hb := B.bytes
  have hr := B.returns
  have hts' := atoms_spec (ws := .code z_iyTown prog_11_method_1_code 1 none :: z_ts) B.pre
  have hts : ∀ x ∈ z_ts, x.before _ s = true := fun x hx => hts' x (List.mem_cons_of_mem _ hx)
  have hown : s.vm.findClass "DayMuseum$Town" = some m.cls := findClass_of_methodNamed B.named
  have hlocks := B.notSynchronized
  have hin2 : meth.name = "<init>" := (name_of_methodNamed B.named B.method).1
  have hA : ∀ q, s.heap.size ≤ q → z_IA cx 3 s.heap.size q := fun q h => Or.inr h
  have hS : va_S (z_IA cx 3 s.heap.size) s.heap s.heap [] := va_S.rf
  have hl := lv_entry ([.ref (cx.2.2 3)]) (n := 1) (Nat.le_of_ble_eq_true rfl)
  rw [lg_entry_eq]
  generalize (lg_sl ([.ref (cx.2.2 3)]) ++ List.replicate (1 - (lg_sl ([.ref (cx.2.2 3)])).length) Slot.unset).toArray = ls at hl ⊢
  refine lv_aload_n hx hb (z_ldd z_ilTown_ok 0 (q := (0, (.aload_n 0, 1))) rfl) rfl (lv_at hl 0 rfl) ?_
  refine W.objInit hx hb hown (hts _ (z_wd_in (ci := (1, 55)) (by decide +kernel))) (hts _ z_oi_in) (hts _ z_oi_co) rfl (hl.1.trans hml.symm) rfl (z_ldd z_ilTown_ok 1 (q := (1, (.invokespecial 3, 3))) rfl) (Nat.le_of_ble_eq_true rfl) (Nat.le_of_ble_eq_true rfl) ?_
  refine z_inits hx hb hts hown hin2 hK hA (q := ("DayMuseum$Town", z_T9, 3)) rfl (lv_at hl 0 rfl) z_iiTown 4 [.null, .null, .null] [] s.heap [] 0 0 (by decide +kernel) rfl hP hD hS (Nat.le_of_ble_eq_true rfl) (Nat.le_of_ble_eq_true rfl) (fun as H locs hlen hP hD hS => ?_)
  obtain ⟨b0, b1, b2, rfl⟩ : ∃ b0 b1 b2, as = [b0, b1, b2] := by
    match as, hlen with
    | [b0, b1, b2], _ => exact ⟨b0, b1, b2, rfl⟩
  replace hP : va_P cx.1 z_cl ((cx.2.2 3, .inr (9, [.ref b0, .ref b1, .ref b2])) :: [(b0, .inl (cx.2.1 1, z_zero 100 1)), (b1, .inl (cx.2.1 1, z_zero 100 1)), (b2, .inl (cx.2.1 1, z_zero 10000 1))]) H := hP
  replace hD : va_D (z_IA cx 3 s.heap.size) ((cx.2.2 3, .inr (9, [.ref b0, .ref b1, .ref b2])) :: [(b0, .inl (cx.2.1 1, z_zero 100 1)), (b1, .inl (cx.2.1 1, z_zero 100 1)), (b2, .inl (cx.2.1 1, z_zero 10000 1))]) := hD
  show W p l e _ s m _ below meth c H locs 3 10200 _ (F0 m 29 ls [])
  have eW : ((cx.2.2 3, .inr (9, [.ref b0, .ref b1, .ref b2])) :: [(b0, .inl (cx.2.1 1, z_zero 100 1)), (b1, .inl (cx.2.1 1, z_zero 100 1)), (b2, .inl (cx.2.1 1, z_zero 10000 1))] : va_W) = z_wg (3 :: z_iGTown) (z_cxa cx (z_adu cx.2.2 z_iGTown [b0, b1, b2])) (fun _ _ => 0) := rfl
  rw [eW] at hP hD
  exact z_tail (t := z_tmTown) (f := z_adu cx.2.2 z_iGTown [b0, b1, b2]) zf_tp_Town rfl rfl hx hb hr hml hown hts hlocks hK hSt ⟨Nat.le_of_ble_eq_true rfl, Nat.le_of_ble_eq_true rfl, Nat.le_of_ble_eq_true rfl, Nat.le_of_ble_eq_true rfl⟩ (fun k hk => z_adu_off (by revert k; decide +kernel)) (fun k hk => z_adu_off hk) (z_adu_off (by decide +kernel)) hP hD hS (z_MRz _) hl rfl (by simp) (by intro v hv; simp only [List.mem_cons, List.not_mem_nil, or_false] at hv; rcases hv with rfl <;> first | exact trivial | exact Or.inl (by decide +kernel))
set_option maxRecDepth 100000 in
theorem zf_inDM (l : Launch) (cx : z_C) (sz : Nat) : Met l z_iyDM (.code z_iyDM prog_1_method_1_code 1 none :: z_ts) z_rmD (va_Pc [.ref (cx.2.2 1)] (z_IP cx 1 [.null, .null, .null, .null, .null, .null, .null, .null, .null, .null, .null, .int 0] sz)) (z_IQ cx 1 z_iGDM (zf_PM (1 :: z_iGDM)) sz) 61 37397 (z_IA cx 1 sz) := by
  refine Met.ofW (cc := prog_1_method_1_code) (maxL := 1) (ret := none) (by decide) rfl ?_
  intro p e s m args below meth c s₁ B hml hv
  obtain ⟨rfl, hsz, hP, hK, hD, hSt⟩ := hv
  subst hsz
  have hx := B.exec
  have hb := B.bytes
  have hr := B.returns
  have hts' := atoms_spec (ws := .code z_iyDM prog_1_method_1_code 1 none :: z_ts) B.pre
  have hts : ∀ x ∈ z_ts, x.before _ s = true := fun x hx => hts' x (List.mem_cons_of_mem _ hx)
  have hown : s.vm.findClass "DayMuseum" = some m.cls := findClass_of_methodNamed B.named
  have hlocks := B.notSynchronized
  have hin2 : meth.name = "<init>" := (name_of_methodNamed B.named B.method).1
  have hA : ∀ q, s.heap.size ≤ q → z_IA cx 1 s.heap.size q := fun q h => Or.inr h
  have hS : va_S (z_IA cx 1 s.heap.size) s.heap s.heap [] := va_S.rf
  have hl := lv_entry ([.ref (cx.2.2 1)]) (n := 1) (Nat.le_of_ble_eq_true rfl)
  rw [lg_entry_eq]
  generalize (lg_sl ([.ref (cx.2.2 1)]) ++ List.replicate (1 - (lg_sl ([.ref (cx.2.2 1)])).length) Slot.unset).toArray = ls at hl ⊢
  refine lv_aload_n hx hb (z_ldd z_ilDM_ok 0 (q := (0, (.aload_n 0, 1))) rfl) rfl (lv_at hl 0 rfl) ?_
  refine W.objInit hx hb hown (hts _ (z_wd_in (ci := (1, 24)) (by decide +kernel))) (hts _ z_oi_in) (hts _ z_oi_co) rfl (hl.1.trans hml.symm) rfl (z_ldd z_ilDM_ok 1 (q := (1, (.invokespecial 3, 3))) rfl) (Nat.le_of_ble_eq_true rfl) (Nat.le_of_ble_eq_true rfl) ?_
  obtain ⟨f0, hf⟩ : ∃ f, f = cx.2.2 := ⟨_, rfl⟩
  obtain ⟨M0, hM⟩ : ∃ M : z_M, M = fun _ _ => 0 := ⟨_, rfl⟩
  have hff : ∀ k, k ∉ ([] : List Nat) → f0 k = cx.2.2 k := fun k _ => by rw [hf]
  have hMR : z_MRg [] M0 := fun k hk => by cases hk
  have hPM : zf_PM [] M0 := zf_n
  clear hf hM
  refine lv_aload_n hx hb (z_ldd z_ilDM_ok 2 (q := (4, (.aload_n 0, 1))) rfl) rfl (lv_at hl 0 rfl) ?_
  replace hP : va_P cx.1 z_cl ([((cx.2.2 1, .inr (11, [.null, .null, .null, .null, .null, .null, .null, .null, .null, .null, .null, .int 0])) : Nat × va_E)] ++ z_wg [] (z_cxa cx f0) M0) s.heap := hP
  replace hD : va_D (z_IA cx 1 s.heap.size) ([((cx.2.2 1, .inr (11, [.null, .null, .null, .null, .null, .null, .null, .null, .null, .null, .null, .int 0])) : Nat × va_E)] ++ z_wg [] (z_cxa cx f0) M0) := hD
  refine z_newO hx hb hts hown hK hA (ci := 8) (q := ("DayMuseum$Tape", z_T8, 5)) rfl (fs := [.null, .int 0, .int 0, .int 0, .int 0]) (by decide +kernel) (lk1 := (1, 27)) (by decide +kernel) (lk2 := (1, 28)) (by decide +kernel) (lk3 := (1, 2)) (by decide +kernel) hP hD hS (Nat.le_of_ble_eq_true rfl) (Nat.le_of_ble_eq_true rfl) (z_ldd z_ilDM_ok 3 (q := (5, (.new 9, 3))) rfl) (fun q2 H hP hD hS => ?_)
  refine lv_dup hx hb (z_ldd z_ilDM_ok 4 (q := (8, (.dup, 1))) rfl) rfl ?_
  refine z_ctorI (host := "DayMuseum") (lkl := (0, 0)) (lkc := (1, 31)) (lki := (1, 2)) (lkm := (1, 30)) (n := 0) (D := []) (G := z_iGTape) (o := 2) (f := f0) (M := M0) (ws1 := [(cx.2.2 1, .inr (11, [.null, .null, .null, .null, .null, .null, .null, .null, .null, .null, .null, .int 0]))]) hx hb (hl.1.trans hml.symm) hown hts hK hSt hA (z_inTape l (z_cxa cx (z_fset f0 2 q2)) H.size) (As := []) rfl (Or.inr (hSt.2 (.methodLinkNest "DayMuseum" 11 z_iyTape "DayMuseum") (by decide +kernel))) (by decide +kernel) (by decide +kernel) (by decide +kernel) rfl (by decide +kernel) rfl ⟨rfl, rfl⟩ ⟨Nat.le_of_ble_eq_true rfl, Nat.le_of_ble_eq_true rfl⟩ ⟨Nat.le_of_ble_eq_true rfl, Nat.le_of_ble_eq_true rfl⟩ (fun k hk => hff k (by revert k; decide +kernel)) (by decide) (by decide +kernel) (Nat.le_refl _) hP hD hS hMR (st := [.ref q2, .ref (cx.2.2 1)]) (Nat.le_of_ble_eq_true rfl) rfl (z_ldd z_ilDM_ok 5 (q := (9, (.invokespecial 11, 3))) rfl) (fun f1 M' H locs e1 e2 e3 hMR2 hP hD hS => ?_)
  replace hff := z_ffj hff e1
  replace hPM := zf_PMj hPM (zf_o (fun k hk _ j => e3 k hk j) (by decide +kernel))
  have g2 := e2
  clear hMR e1 e2 e3
  generalize z_mj [] M0 M' = M1 at hMR2 hPM hP hD
  have hMR := hMR2
  clear hMR2
  refine z_putref hx hb hts hown hin2 hK (ci := 11) (q := ("DayMuseum", z_T11, 12)) rfl rfl hP hD hS (j := 0) (lk := (2, 177)) (by decide) (by decide +kernel) rfl rfl (ty := .object "DayMuseum$Tape") (by decide +kernel) (Or.inr ⟨_, rfl⟩) (z_ldd z_ilDM_ok 6 (q := (12, (.putfield 12, 3))) rfl) (fun H locs hP hD hS => ?_)
  refine lv_aload_n hx hb (z_ldd z_ilDM_ok 7 (q := (15, (.aload_n 0, 1))) rfl) rfl (lv_at hl 0 rfl) ?_
  replace hP : va_P cx.1 z_cl ([((cx.2.2 1, .inr (11, [.ref q2, .null, .null, .null, .null, .null, .null, .null, .null, .null, .null, .int 0])) : Nat × va_E)] ++ z_wg ([] ++ 2 :: z_iGTape) (z_cxa cx f1) M1) H := hP
  replace hD : va_D (z_IA cx 1 s.heap.size) ([((cx.2.2 1, .inr (11, [.ref q2, .null, .null, .null, .null, .null, .null, .null, .null, .null, .null, .int 0])) : Nat × va_E)] ++ z_wg ([] ++ 2 :: z_iGTape) (z_cxa cx f1) M1) := hD
  refine z_newO hx hb hts hown hK hA (ci := 9) (q := ("DayMuseum$Town", z_T9, 3)) rfl (fs := [.null, .null, .null]) (by decide +kernel) (lk1 := (1, 50)) (by decide +kernel) (lk2 := (1, 51)) (by decide +kernel) (lk3 := (1, 3)) (by decide +kernel) hP hD hS (Nat.le_of_ble_eq_true rfl) (Nat.le_of_ble_eq_true rfl) (z_ldd z_ilDM_ok 8 (q := (16, (.new 16, 3))) rfl) (fun q3 H hP hD hS => ?_)
  refine lv_dup hx hb (z_ldd z_ilDM_ok 9 (q := (19, (.dup, 1))) rfl) rfl ?_
  refine z_ctorI (host := "DayMuseum") (lkl := (1, 52)) (lkc := (1, 54)) (lki := (1, 3)) (lkm := (1, 53)) (n := 0) (D := ([] ++ 2 :: z_iGTape)) (G := z_iGTown) (o := 3) (f := f1) (M := M1) (ws1 := [(cx.2.2 1, .inr (11, [.ref q2, .null, .null, .null, .null, .null, .null, .null, .null, .null, .null, .int 0]))]) hx hb (hl.1.trans hml.symm) hown hts hK hSt hA (zf_inTown l (z_cxa cx (z_fset f1 3 q3)) H.size) (As := []) rfl (Or.inl (by decide +kernel)) (by decide +kernel) (by decide +kernel) (by decide +kernel) rfl (by decide +kernel) rfl ⟨rfl, rfl⟩ ⟨Nat.le_of_ble_eq_true rfl, Nat.le_of_ble_eq_true rfl⟩ ⟨Nat.le_of_ble_eq_true rfl, Nat.le_of_ble_eq_true rfl⟩ (fun k hk => hff k (by revert k; decide +kernel)) (by decide) (by decide +kernel) (Nat.le_refl _) hP hD hS hMR (st := [.ref q3, .ref (cx.2.2 1)]) (Nat.le_of_ble_eq_true rfl) rfl (z_ldd z_ilDM_ok 10 (q := (20, (.invokespecial 18, 3))) rfl) (fun f2 M' H locs e1 e2 e3 hMR2 hP hD hS => ?_)
  replace hff := z_ffj hff e1
  replace hPM := zf_PMj hPM (zf_t e3)
  replace g2 := (e1 2 (by decide +kernel)).trans g2
  have g3 := e2
  clear hMR e1 e2 e3
  generalize z_mj ([] ++ 2 :: z_iGTape) M1 M' = M2 at hMR2 hPM hP hD
  have hMR := hMR2
  clear hMR2
  refine z_putref hx hb hts hown hin2 hK (ci := 11) (q := ("DayMuseum", z_T11, 12)) rfl rfl hP hD hS (j := 1) (lk := (2, 178)) (by decide) (by decide +kernel) rfl rfl (ty := .object "DayMuseum$Town") (by decide +kernel) (Or.inr ⟨_, rfl⟩) (z_ldd z_ilDM_ok 11 (q := (23, (.putfield 19, 3))) rfl) (fun H locs hP hD hS => ?_)
  refine lv_aload_n hx hb (z_ldd z_ilDM_ok 12 (q := (26, (.aload_n 0, 1))) rfl) rfl (lv_at hl 0 rfl) ?_
  replace hP : va_P cx.1 z_cl ([((cx.2.2 1, .inr (11, [.ref q2, .ref q3, .null, .null, .null, .null, .null, .null, .null, .null, .null, .int 0])) : Nat × va_E)] ++ z_wg (([] ++ 2 :: z_iGTape) ++ 3 :: z_iGTown) (z_cxa cx f2) M2) H := hP
  replace hD : va_D (z_IA cx 1 s.heap.size) ([((cx.2.2 1, .inr (11, [.ref q2, .ref q3, .null, .null, .null, .null, .null, .null, .null, .null, .null, .int 0])) : Nat × va_E)] ++ z_wg (([] ++ 2 :: z_iGTape) ++ 3 :: z_iGTown) (z_cxa cx f2) M2) := hD
  refine z_newO hx hb hts hown hK hA (ci := 4) (q := ("DayMuseum$People", z_T4, 11)) rfl (fs := [.null, .null, .null, .null, .null, .null, .int 0, .null, .null, .int 0, .int 0]) (by decide +kernel) (lk1 := (1, 85)) (by decide +kernel) (lk2 := (1, 86)) (by decide +kernel) (lk3 := (1, 5)) (by decide +kernel) hP hD hS (Nat.le_of_ble_eq_true rfl) (Nat.le_of_ble_eq_true rfl) (z_ldd z_ilDM_ok 13 (q := (27, (.new 23, 3))) rfl) (fun q4 H hP hD hS => ?_)
  refine lv_dup hx hb (z_ldd z_ilDM_ok 14 (q := (30, (.dup, 1))) rfl) rfl ?_
  refine lv_aload_n hx hb (z_ldd z_ilDM_ok 15 (q := (31, (.aload_n 0, 1))) rfl) rfl (lv_at hl 0 rfl) ?_
  refine va_get (cl := z_cl) (ref := "DayMuseum") (C := "DayMuseum") (T := z_T11) (N := 12) hx hb hts (z_cl_ws ("DayMuseum", z_T11, 12) (List.mem_of_getElem? (i := 11) rfl)) hown hK hP 0 (fs := [.ref q2, .ref q3, .null, .null, .null, .null, .null, .null, .null, .null, .null, .int 0]) rfl rfl 1 (by decide) (hts _ (z_wd_in (ci := (2, 178)) (by decide +kernel))) (fun _ z => z) (v := .ref q3) rfl (z_ldd z_ilDM_ok 16 (q := (32, (.getfield 19, 3))) rfl) ?_
  refine z_ctorI (host := "DayMuseum") (lkl := (1, 87)) (lkc := (1, 89)) (lki := (1, 5)) (lkm := (1, 88)) (n := 1) (D := (([] ++ 2 :: z_iGTape) ++ 3 :: z_iGTown)) (G := z_iGPeople) (o := 4) (f := f2) (M := M2) (ws1 := [(cx.2.2 1, .inr (11, [.ref q2, .ref q3, .null, .null, .null, .null, .null, .null, .null, .null, .null, .int 0]))]) hx hb (hl.1.trans hml.symm) hown hts hK hSt hA (z_inPeople l (z_cxa cx (z_fset f2 4 q4)) H.size) (As := [.ref q3]) (by
    show [Value.ref q4, .ref (f2 3)] = [Value.ref q4, .ref q3]
    rw [g3]) (Or.inl (by decide +kernel)) (by decide +kernel) (by decide +kernel) (by decide +kernel) rfl (by decide +kernel) rfl ⟨rfl, rfl⟩ ⟨Nat.le_of_ble_eq_true rfl, Nat.le_of_ble_eq_true rfl⟩ ⟨Nat.le_of_ble_eq_true rfl, Nat.le_of_ble_eq_true rfl⟩ (fun k hk => hff k (by revert k; decide +kernel)) (by decide) (by decide +kernel) (Nat.le_refl _) hP hD hS hMR (st := [.ref q4, .ref (cx.2.2 1)]) (Nat.le_of_ble_eq_true rfl) rfl (z_ldd z_ilDM_ok 17 (q := (35, (.invokespecial 25, 3))) rfl) (fun f3 M' H locs e1 e2 e3 hMR2 hP hD hS => ?_)
  replace hff := z_ffj hff e1
  replace hPM := zf_PMj hPM (zf_o (fun k hk _ j => e3 k hk j) (by decide +kernel))
  replace g2 := (e1 2 (by decide +kernel)).trans g2
  replace g3 := (e1 3 (by decide +kernel)).trans g3
  have g4 := e2
  clear hMR e1 e2 e3
  generalize z_mj (([] ++ 2 :: z_iGTape) ++ 3 :: z_iGTown) M2 M' = M3 at hMR2 hPM hP hD
  have hMR := hMR2
  clear hMR2
  refine z_putref hx hb hts hown hin2 hK (ci := 11) (q := ("DayMuseum", z_T11, 12)) rfl rfl hP hD hS (j := 2) (lk := (2, 179)) (by decide) (by decide +kernel) rfl rfl (ty := .object "DayMuseum$People") (by decide +kernel) (Or.inr ⟨_, rfl⟩) (z_ldd z_ilDM_ok 18 (q := (38, (.putfield 28, 3))) rfl) (fun H locs hP hD hS => ?_)
  refine lv_aload_n hx hb (z_ldd z_ilDM_ok 19 (q := (41, (.aload_n 0, 1))) rfl) rfl (lv_at hl 0 rfl) ?_
  replace hP : va_P cx.1 z_cl ([((cx.2.2 1, .inr (11, [.ref q2, .ref q3, .ref q4, .null, .null, .null, .null, .null, .null, .null, .null, .int 0])) : Nat × va_E)] ++ z_wg ((([] ++ 2 :: z_iGTape) ++ 3 :: z_iGTown) ++ 4 :: z_iGPeople) (z_cxa cx f3) M3) H := hP
  replace hD : va_D (z_IA cx 1 s.heap.size) ([((cx.2.2 1, .inr (11, [.ref q2, .ref q3, .ref q4, .null, .null, .null, .null, .null, .null, .null, .null, .int 0])) : Nat × va_E)] ++ z_wg ((([] ++ 2 :: z_iGTape) ++ 3 :: z_iGTown) ++ 4 :: z_iGPeople) (z_cxa cx f3) M3) := hD
  refine z_newO hx hb hts hown hK hA (ci := 2) (q := ("DayMuseum$Law", z_T2, 8)) rfl (fs := [.null, .null, .null, .null, .null, .null, .int 0, .int 0]) (by decide +kernel) (lk1 := (1, 126)) (by decide +kernel) (lk2 := (1, 127)) (by decide +kernel) (lk3 := (1, 6)) (by decide +kernel) hP hD hS (Nat.le_of_ble_eq_true rfl) (Nat.le_of_ble_eq_true rfl) (z_ldd z_ilDM_ok 20 (q := (42, (.new 32, 3))) rfl) (fun q5 H hP hD hS => ?_)
  refine lv_dup hx hb (z_ldd z_ilDM_ok 21 (q := (45, (.dup, 1))) rfl) rfl ?_
  refine z_ctorI (host := "DayMuseum") (lkl := (0, 0)) (lkc := (1, 130)) (lki := (1, 6)) (lkm := (1, 129)) (n := 0) (D := ((([] ++ 2 :: z_iGTape) ++ 3 :: z_iGTown) ++ 4 :: z_iGPeople)) (G := z_iGLaw) (o := 5) (f := f3) (M := M3) (ws1 := [(cx.2.2 1, .inr (11, [.ref q2, .ref q3, .ref q4, .null, .null, .null, .null, .null, .null, .null, .null, .int 0]))]) hx hb (hl.1.trans hml.symm) hown hts hK hSt hA (z_inLaw l (z_cxa cx (z_fset f3 5 q5)) H.size) (As := []) rfl (Or.inr (hSt.2 (.methodLinkNest "DayMuseum" 34 z_iyLaw "DayMuseum") (by decide +kernel))) (by decide +kernel) (by decide +kernel) (by decide +kernel) rfl (by decide +kernel) rfl ⟨rfl, rfl⟩ ⟨Nat.le_of_ble_eq_true rfl, Nat.le_of_ble_eq_true rfl⟩ ⟨Nat.le_of_ble_eq_true rfl, Nat.le_of_ble_eq_true rfl⟩ (fun k hk => hff k (by revert k; decide +kernel)) (by decide) (by decide +kernel) (Nat.le_refl _) hP hD hS hMR (st := [.ref q5, .ref (cx.2.2 1)]) (Nat.le_of_ble_eq_true rfl) rfl (z_ldd z_ilDM_ok 22 (q := (46, (.invokespecial 34, 3))) rfl) (fun f4 M' H locs e1 e2 e3 hMR2 hP hD hS => ?_)
  replace hff := z_ffj hff e1
  replace hPM := zf_PMj hPM (zf_o (fun k hk _ j => e3 k hk j) (by decide +kernel))
  replace g2 := (e1 2 (by decide +kernel)).trans g2
  replace g3 := (e1 3 (by decide +kernel)).trans g3
  replace g4 := (e1 4 (by decide +kernel)).trans g4
  have g5 := e2
  clear hMR e1 e2 e3
  generalize z_mj ((([] ++ 2 :: z_iGTape) ++ 3 :: z_iGTown) ++ 4 :: z_iGPeople) M3 M' = M4 at hMR2 hPM hP hD
  have hMR := hMR2
  clear hMR2
  refine z_putref hx hb hts hown hin2 hK (ci := 11) (q := ("DayMuseum", z_T11, 12)) rfl rfl hP hD hS (j := 3) (lk := (2, 180)) (by decide) (by decide +kernel) rfl rfl (ty := .object "DayMuseum$Law") (by decide +kernel) (Or.inr ⟨_, rfl⟩) (z_ldd z_ilDM_ok 23 (q := (49, (.putfield 35, 3))) rfl) (fun H locs hP hD hS => ?_)
  refine lv_aload_n hx hb (z_ldd z_ilDM_ok 24 (q := (52, (.aload_n 0, 1))) rfl) rfl (lv_at hl 0 rfl) ?_
  replace hP : va_P cx.1 z_cl ([((cx.2.2 1, .inr (11, [.ref q2, .ref q3, .ref q4, .ref q5, .null, .null, .null, .null, .null, .null, .null, .int 0])) : Nat × va_E)] ++ z_wg (((([] ++ 2 :: z_iGTape) ++ 3 :: z_iGTown) ++ 4 :: z_iGPeople) ++ 5 :: z_iGLaw) (z_cxa cx f4) M4) H := hP
  replace hD : va_D (z_IA cx 1 s.heap.size) ([((cx.2.2 1, .inr (11, [.ref q2, .ref q3, .ref q4, .ref q5, .null, .null, .null, .null, .null, .null, .null, .int 0])) : Nat × va_E)] ++ z_wg (((([] ++ 2 :: z_iGTape) ++ 3 :: z_iGTown) ++ 4 :: z_iGPeople) ++ 5 :: z_iGLaw) (z_cxa cx f4) M4) := hD
  refine z_newO hx hb hts hown hK hA (ci := 7) (q := ("DayMuseum$Senses", z_T7, 7)) rfl (fs := [.null, .null, .null, .null, .null, .null, .null]) (by decide +kernel) (lk1 := (1, 159)) (by decide +kernel) (lk2 := (1, 160)) (by decide +kernel) (lk3 := (1, 7)) (by decide +kernel) hP hD hS (Nat.le_of_ble_eq_true rfl) (Nat.le_of_ble_eq_true rfl) (z_ldd z_ilDM_ok 25 (q := (53, (.new 39, 3))) rfl) (fun q6 H hP hD hS => ?_)
  refine lv_dup hx hb (z_ldd z_ilDM_ok 26 (q := (56, (.dup, 1))) rfl) rfl ?_
  refine lv_aload_n hx hb (z_ldd z_ilDM_ok 27 (q := (57, (.aload_n 0, 1))) rfl) rfl (lv_at hl 0 rfl) ?_
  refine va_get (cl := z_cl) (ref := "DayMuseum") (C := "DayMuseum") (T := z_T11) (N := 12) hx hb hts (z_cl_ws ("DayMuseum", z_T11, 12) (List.mem_of_getElem? (i := 11) rfl)) hown hK hP 0 (fs := [.ref q2, .ref q3, .ref q4, .ref q5, .null, .null, .null, .null, .null, .null, .null, .int 0]) rfl rfl 1 (by decide) (hts _ (z_wd_in (ci := (2, 178)) (by decide +kernel))) (fun _ z => z) (v := .ref q3) rfl (z_ldd z_ilDM_ok 28 (q := (58, (.getfield 19, 3))) rfl) ?_
  refine lv_aload_n hx hb (z_ldd z_ilDM_ok 29 (q := (61, (.aload_n 0, 1))) rfl) rfl (lv_at hl 0 rfl) ?_
  refine va_get (cl := z_cl) (ref := "DayMuseum") (C := "DayMuseum") (T := z_T11) (N := 12) hx hb hts (z_cl_ws ("DayMuseum", z_T11, 12) (List.mem_of_getElem? (i := 11) rfl)) hown hK hP 0 (fs := [.ref q2, .ref q3, .ref q4, .ref q5, .null, .null, .null, .null, .null, .null, .null, .int 0]) rfl rfl 2 (by decide) (hts _ (z_wd_in (ci := (2, 179)) (by decide +kernel))) (fun _ z => z) (v := .ref q4) rfl (z_ldd z_ilDM_ok 30 (q := (62, (.getfield 28, 3))) rfl) ?_
  refine lv_aload_n hx hb (z_ldd z_ilDM_ok 31 (q := (65, (.aload_n 0, 1))) rfl) rfl (lv_at hl 0 rfl) ?_
  refine va_get (cl := z_cl) (ref := "DayMuseum") (C := "DayMuseum") (T := z_T11) (N := 12) hx hb hts (z_cl_ws ("DayMuseum", z_T11, 12) (List.mem_of_getElem? (i := 11) rfl)) hown hK hP 0 (fs := [.ref q2, .ref q3, .ref q4, .ref q5, .null, .null, .null, .null, .null, .null, .null, .int 0]) rfl rfl 3 (by decide) (hts _ (z_wd_in (ci := (2, 180)) (by decide +kernel))) (fun _ z => z) (v := .ref q5) rfl (z_ldd z_ilDM_ok 32 (q := (66, (.getfield 35, 3))) rfl) ?_
  refine z_ctorI (host := "DayMuseum") (lkl := (1, 161)) (lkc := (1, 163)) (lki := (1, 7)) (lkm := (1, 162)) (n := 3) (D := (((([] ++ 2 :: z_iGTape) ++ 3 :: z_iGTown) ++ 4 :: z_iGPeople) ++ 5 :: z_iGLaw)) (G := z_iGSenses) (o := 6) (f := f4) (M := M4) (ws1 := [(cx.2.2 1, .inr (11, [.ref q2, .ref q3, .ref q4, .ref q5, .null, .null, .null, .null, .null, .null, .null, .int 0]))]) hx hb (hl.1.trans hml.symm) hown hts hK hSt hA (z_inSenses l (z_cxa cx (z_fset f4 6 q6)) H.size) (As := [.ref q3, .ref q4, .ref q5]) (by
    show [Value.ref q6, .ref (f4 3), .ref (f4 4), .ref (f4 5)] = [Value.ref q6, .ref q3, .ref q4, .ref q5]
    rw [g3, g4, g5]) (Or.inl (by decide +kernel)) (by decide +kernel) (by decide +kernel) (by decide +kernel) rfl (by decide +kernel) rfl ⟨rfl, rfl⟩ ⟨Nat.le_of_ble_eq_true rfl, Nat.le_of_ble_eq_true rfl⟩ ⟨Nat.le_of_ble_eq_true rfl, Nat.le_of_ble_eq_true rfl⟩ (fun k hk => hff k (by revert k; decide +kernel)) (by decide) (by decide +kernel) (Nat.le_refl _) hP hD hS hMR (st := [.ref q6, .ref (cx.2.2 1)]) (Nat.le_of_ble_eq_true rfl) rfl (z_ldd z_ilDM_ok 33 (q := (69, (.invokespecial 41, 3))) rfl) (fun f5 M' H locs e1 e2 e3 hMR2 hP hD hS => ?_)
  replace hff := z_ffj hff e1
  replace hPM := zf_PMj hPM (zf_o (fun k hk _ j => e3 k hk j) (by decide +kernel))
  replace g2 := (e1 2 (by decide +kernel)).trans g2
  replace g3 := (e1 3 (by decide +kernel)).trans g3
  replace g4 := (e1 4 (by decide +kernel)).trans g4
  replace g5 := (e1 5 (by decide +kernel)).trans g5
  have g6 := e2
  clear hMR e1 e2 e3
  generalize z_mj (((([] ++ 2 :: z_iGTape) ++ 3 :: z_iGTown) ++ 4 :: z_iGPeople) ++ 5 :: z_iGLaw) M4 M' = M5 at hMR2 hPM hP hD
  have hMR := hMR2
  clear hMR2
  refine z_putref hx hb hts hown hin2 hK (ci := 11) (q := ("DayMuseum", z_T11, 12)) rfl rfl hP hD hS (j := 4) (lk := (2, 181)) (by decide) (by decide +kernel) rfl rfl (ty := .object "DayMuseum$Senses") (by decide +kernel) (Or.inr ⟨_, rfl⟩) (z_ldd z_ilDM_ok 34 (q := (72, (.putfield 44, 3))) rfl) (fun H locs hP hD hS => ?_)
  refine lv_aload_n hx hb (z_ldd z_ilDM_ok 35 (q := (75, (.aload_n 0, 1))) rfl) rfl (lv_at hl 0 rfl) ?_
  replace hP : va_P cx.1 z_cl ([((cx.2.2 1, .inr (11, [.ref q2, .ref q3, .ref q4, .ref q5, .ref q6, .null, .null, .null, .null, .null, .null, .int 0])) : Nat × va_E)] ++ z_wg ((((([] ++ 2 :: z_iGTape) ++ 3 :: z_iGTown) ++ 4 :: z_iGPeople) ++ 5 :: z_iGLaw) ++ 6 :: z_iGSenses) (z_cxa cx f5) M5) H := hP
  replace hD : va_D (z_IA cx 1 s.heap.size) ([((cx.2.2 1, .inr (11, [.ref q2, .ref q3, .ref q4, .ref q5, .ref q6, .null, .null, .null, .null, .null, .null, .int 0])) : Nat × va_E)] ++ z_wg ((((([] ++ 2 :: z_iGTape) ++ 3 :: z_iGTown) ++ 4 :: z_iGPeople) ++ 5 :: z_iGLaw) ++ 6 :: z_iGSenses) (z_cxa cx f5) M5) := hD
  refine z_newO hx hb hts hown hK hA (ci := 6) (q := ("DayMuseum$Reports", z_T6, 8)) rfl (fs := [.null, .null, .null, .null, .null, .int 0, .int 0, .int 0]) (by decide +kernel) (lk1 := (1, 192)) (by decide +kernel) (lk2 := (1, 193)) (by decide +kernel) (lk3 := (1, 8)) (by decide +kernel) hP hD hS (Nat.le_of_ble_eq_true rfl) (Nat.le_of_ble_eq_true rfl) (z_ldd z_ilDM_ok 36 (q := (76, (.new 48, 3))) rfl) (fun q7 H hP hD hS => ?_)
  refine lv_dup hx hb (z_ldd z_ilDM_ok 37 (q := (79, (.dup, 1))) rfl) rfl ?_
  refine lv_aload_n hx hb (z_ldd z_ilDM_ok 38 (q := (80, (.aload_n 0, 1))) rfl) rfl (lv_at hl 0 rfl) ?_
  refine va_get (cl := z_cl) (ref := "DayMuseum") (C := "DayMuseum") (T := z_T11) (N := 12) hx hb hts (z_cl_ws ("DayMuseum", z_T11, 12) (List.mem_of_getElem? (i := 11) rfl)) hown hK hP 0 (fs := [.ref q2, .ref q3, .ref q4, .ref q5, .ref q6, .null, .null, .null, .null, .null, .null, .int 0]) rfl rfl 2 (by decide) (hts _ (z_wd_in (ci := (2, 179)) (by decide +kernel))) (fun _ z => z) (v := .ref q4) rfl (z_ldd z_ilDM_ok 39 (q := (81, (.getfield 28, 3))) rfl) ?_
  refine lv_aload_n hx hb (z_ldd z_ilDM_ok 40 (q := (84, (.aload_n 0, 1))) rfl) rfl (lv_at hl 0 rfl) ?_
  refine va_get (cl := z_cl) (ref := "DayMuseum") (C := "DayMuseum") (T := z_T11) (N := 12) hx hb hts (z_cl_ws ("DayMuseum", z_T11, 12) (List.mem_of_getElem? (i := 11) rfl)) hown hK hP 0 (fs := [.ref q2, .ref q3, .ref q4, .ref q5, .ref q6, .null, .null, .null, .null, .null, .null, .int 0]) rfl rfl 4 (by decide) (hts _ (z_wd_in (ci := (2, 181)) (by decide +kernel))) (fun _ z => z) (v := .ref q6) rfl (z_ldd z_ilDM_ok 41 (q := (85, (.getfield 44, 3))) rfl) ?_
  refine z_ctorI (host := "DayMuseum") (lkl := (1, 194)) (lkc := (1, 196)) (lki := (1, 8)) (lkm := (1, 195)) (n := 2) (D := ((((([] ++ 2 :: z_iGTape) ++ 3 :: z_iGTown) ++ 4 :: z_iGPeople) ++ 5 :: z_iGLaw) ++ 6 :: z_iGSenses)) (G := z_iGReports) (o := 7) (f := f5) (M := M5) (ws1 := [(cx.2.2 1, .inr (11, [.ref q2, .ref q3, .ref q4, .ref q5, .ref q6, .null, .null, .null, .null, .null, .null, .int 0]))]) hx hb (hl.1.trans hml.symm) hown hts hK hSt hA (z_inReports l (z_cxa cx (z_fset f5 7 q7)) H.size) (As := [.ref q4, .ref q6]) (by
    show [Value.ref q7, .ref (f5 4), .ref (f5 6)] = [Value.ref q7, .ref q4, .ref q6]
    rw [g4, g6]) (Or.inl (by decide +kernel)) (by decide +kernel) (by decide +kernel) (by decide +kernel) rfl (by decide +kernel) rfl ⟨rfl, rfl⟩ ⟨Nat.le_of_ble_eq_true rfl, Nat.le_of_ble_eq_true rfl⟩ ⟨Nat.le_of_ble_eq_true rfl, Nat.le_of_ble_eq_true rfl⟩ (fun k hk => hff k (by revert k; decide +kernel)) (by decide) (by decide +kernel) (Nat.le_refl _) hP hD hS hMR (st := [.ref q7, .ref (cx.2.2 1)]) (Nat.le_of_ble_eq_true rfl) rfl (z_ldd z_ilDM_ok 42 (q := (88, (.invokespecial 50, 3))) rfl) (fun f6 M' H locs e1 e2 e3 hMR2 hP hD hS => ?_)
  replace hff := z_ffj hff e1
  replace hPM := zf_PMj hPM (zf_o (fun k hk _ j => e3 k hk j) (by decide +kernel))
  replace g2 := (e1 2 (by decide +kernel)).trans g2
  replace g3 := (e1 3 (by decide +kernel)).trans g3
  replace g4 := (e1 4 (by decide +kernel)).trans g4
  replace g5 := (e1 5 (by decide +kernel)).trans g5
  replace g6 := (e1 6 (by decide +kernel)).trans g6
  have g7 := e2
  clear hMR e1 e2 e3
  generalize z_mj ((((([] ++ 2 :: z_iGTape) ++ 3 :: z_iGTown) ++ 4 :: z_iGPeople) ++ 5 :: z_iGLaw) ++ 6 :: z_iGSenses) M5 M' = M6 at hMR2 hPM hP hD
  have hMR := hMR2
  clear hMR2
  refine z_putref hx hb hts hown hin2 hK (ci := 11) (q := ("DayMuseum", z_T11, 12)) rfl rfl hP hD hS (j := 5) (lk := (2, 182)) (by decide) (by decide +kernel) rfl rfl (ty := .object "DayMuseum$Reports") (by decide +kernel) (Or.inr ⟨_, rfl⟩) (z_ldd z_ilDM_ok 43 (q := (91, (.putfield 53, 3))) rfl) (fun H locs hP hD hS => ?_)
  refine lv_aload_n hx hb (z_ldd z_ilDM_ok 44 (q := (94, (.aload_n 0, 1))) rfl) rfl (lv_at hl 0 rfl) ?_
  replace hP : va_P cx.1 z_cl ([((cx.2.2 1, .inr (11, [.ref q2, .ref q3, .ref q4, .ref q5, .ref q6, .ref q7, .null, .null, .null, .null, .null, .int 0])) : Nat × va_E)] ++ z_wg (((((([] ++ 2 :: z_iGTape) ++ 3 :: z_iGTown) ++ 4 :: z_iGPeople) ++ 5 :: z_iGLaw) ++ 6 :: z_iGSenses) ++ 7 :: z_iGReports) (z_cxa cx f6) M6) H := hP
  replace hD : va_D (z_IA cx 1 s.heap.size) ([((cx.2.2 1, .inr (11, [.ref q2, .ref q3, .ref q4, .ref q5, .ref q6, .ref q7, .null, .null, .null, .null, .null, .int 0])) : Nat × va_E)] ++ z_wg (((((([] ++ 2 :: z_iGTape) ++ 3 :: z_iGTown) ++ 4 :: z_iGPeople) ++ 5 :: z_iGLaw) ++ 6 :: z_iGSenses) ++ 7 :: z_iGReports) (z_cxa cx f6) M6) := hD
  refine z_newO hx hb hts hown hK hA (ci := 0) (q := ("DayMuseum$Days", z_T0, 12)) rfl (fs := [.null, .null, .null, .null, .null, .null, .int 0, .int 0, .int 0, .int 0, .null, .int 0]) (by decide +kernel) (lk1 := (1, 223)) (by decide +kernel) (lk2 := (1, 224)) (by decide +kernel) (lk3 := (1, 9)) (by decide +kernel) hP hD hS (Nat.le_of_ble_eq_true rfl) (Nat.le_of_ble_eq_true rfl) (z_ldd z_ilDM_ok 45 (q := (95, (.new 57, 3))) rfl) (fun q8 H hP hD hS => ?_)
  refine lv_dup hx hb (z_ldd z_ilDM_ok 46 (q := (98, (.dup, 1))) rfl) rfl ?_
  refine lv_aload_n hx hb (z_ldd z_ilDM_ok 47 (q := (99, (.aload_n 0, 1))) rfl) rfl (lv_at hl 0 rfl) ?_
  refine va_get (cl := z_cl) (ref := "DayMuseum") (C := "DayMuseum") (T := z_T11) (N := 12) hx hb hts (z_cl_ws ("DayMuseum", z_T11, 12) (List.mem_of_getElem? (i := 11) rfl)) hown hK hP 0 (fs := [.ref q2, .ref q3, .ref q4, .ref q5, .ref q6, .ref q7, .null, .null, .null, .null, .null, .int 0]) rfl rfl 2 (by decide) (hts _ (z_wd_in (ci := (2, 179)) (by decide +kernel))) (fun _ z => z) (v := .ref q4) rfl (z_ldd z_ilDM_ok 48 (q := (100, (.getfield 28, 3))) rfl) ?_
  refine lv_aload_n hx hb (z_ldd z_ilDM_ok 49 (q := (103, (.aload_n 0, 1))) rfl) rfl (lv_at hl 0 rfl) ?_
  refine va_get (cl := z_cl) (ref := "DayMuseum") (C := "DayMuseum") (T := z_T11) (N := 12) hx hb hts (z_cl_ws ("DayMuseum", z_T11, 12) (List.mem_of_getElem? (i := 11) rfl)) hown hK hP 0 (fs := [.ref q2, .ref q3, .ref q4, .ref q5, .ref q6, .ref q7, .null, .null, .null, .null, .null, .int 0]) rfl rfl 5 (by decide) (hts _ (z_wd_in (ci := (2, 182)) (by decide +kernel))) (fun _ z => z) (v := .ref q7) rfl (z_ldd z_ilDM_ok 50 (q := (104, (.getfield 53, 3))) rfl) ?_
  refine z_ctorI (host := "DayMuseum") (lkl := (1, 225)) (lkc := (1, 227)) (lki := (1, 9)) (lkm := (1, 226)) (n := 2) (D := (((((([] ++ 2 :: z_iGTape) ++ 3 :: z_iGTown) ++ 4 :: z_iGPeople) ++ 5 :: z_iGLaw) ++ 6 :: z_iGSenses) ++ 7 :: z_iGReports)) (G := z_iGDays) (o := 8) (f := f6) (M := M6) (ws1 := [(cx.2.2 1, .inr (11, [.ref q2, .ref q3, .ref q4, .ref q5, .ref q6, .ref q7, .null, .null, .null, .null, .null, .int 0]))]) hx hb (hl.1.trans hml.symm) hown hts hK hSt hA (z_inDays l (z_cxa cx (z_fset f6 8 q8)) H.size) (As := [.ref q4, .ref q7]) (by
    show [Value.ref q8, .ref (f6 4), .ref (f6 7)] = [Value.ref q8, .ref q4, .ref q7]
    rw [g4, g7]) (Or.inl (by decide +kernel)) (by decide +kernel) (by decide +kernel) (by decide +kernel) rfl (by decide +kernel) rfl ⟨rfl, rfl⟩ ⟨Nat.le_of_ble_eq_true rfl, Nat.le_of_ble_eq_true rfl⟩ ⟨Nat.le_of_ble_eq_true rfl, Nat.le_of_ble_eq_true rfl⟩ (fun k hk => hff k (by revert k; decide +kernel)) (by decide) (by decide +kernel) (Nat.le_refl _) hP hD hS hMR (st := [.ref q8, .ref (cx.2.2 1)]) (Nat.le_of_ble_eq_true rfl) rfl (z_ldd z_ilDM_ok 51 (q := (107, (.invokespecial 59, 3))) rfl) (fun f7 M' H locs e1 e2 e3 hMR2 hP hD hS => ?_)
  replace hff := z_ffj hff e1
  replace hPM := zf_PMj hPM (zf_o (fun k hk _ j => e3 k hk j) (by decide +kernel))
  replace g2 := (e1 2 (by decide +kernel)).trans g2
  replace g3 := (e1 3 (by decide +kernel)).trans g3
  replace g4 := (e1 4 (by decide +kernel)).trans g4
  replace g5 := (e1 5 (by decide +kernel)).trans g5
  replace g6 := (e1 6 (by decide +kernel)).trans g6
  replace g7 := (e1 7 (by decide +kernel)).trans g7
  have g8 := e2
  clear hMR e1 e2 e3
  generalize z_mj (((((([] ++ 2 :: z_iGTape) ++ 3 :: z_iGTown) ++ 4 :: z_iGPeople) ++ 5 :: z_iGLaw) ++ 6 :: z_iGSenses) ++ 7 :: z_iGReports) M6 M' = M7 at hMR2 hPM hP hD
  have hMR := hMR2
  clear hMR2
  refine z_putref hx hb hts hown hin2 hK (ci := 11) (q := ("DayMuseum", z_T11, 12)) rfl rfl hP hD hS (j := 6) (lk := (2, 183)) (by decide) (by decide +kernel) rfl rfl (ty := .object "DayMuseum$Days") (by decide +kernel) (Or.inr ⟨_, rfl⟩) (z_ldd z_ilDM_ok 52 (q := (110, (.putfield 62, 3))) rfl) (fun H locs hP hD hS => ?_)
  refine lv_aload_n hx hb (z_ldd z_ilDM_ok 53 (q := (113, (.aload_n 0, 1))) rfl) rfl (lv_at hl 0 rfl) ?_
  replace hP : va_P cx.1 z_cl ([((cx.2.2 1, .inr (11, [.ref q2, .ref q3, .ref q4, .ref q5, .ref q6, .ref q7, .ref q8, .null, .null, .null, .null, .int 0])) : Nat × va_E)] ++ z_wg ((((((([] ++ 2 :: z_iGTape) ++ 3 :: z_iGTown) ++ 4 :: z_iGPeople) ++ 5 :: z_iGLaw) ++ 6 :: z_iGSenses) ++ 7 :: z_iGReports) ++ 8 :: z_iGDays) (z_cxa cx f7) M7) H := hP
  replace hD : va_D (z_IA cx 1 s.heap.size) ([((cx.2.2 1, .inr (11, [.ref q2, .ref q3, .ref q4, .ref q5, .ref q6, .ref q7, .ref q8, .null, .null, .null, .null, .int 0])) : Nat × va_E)] ++ z_wg ((((((([] ++ 2 :: z_iGTape) ++ 3 :: z_iGTown) ++ 4 :: z_iGPeople) ++ 5 :: z_iGLaw) ++ 6 :: z_iGSenses) ++ 7 :: z_iGReports) ++ 8 :: z_iGDays) (z_cxa cx f7) M7) := hD
  refine z_newO hx hb hts hown hK hA (ci := 5) (q := ("DayMuseum$Questions", z_T5, 12)) rfl (fs := [.null, .null, .null, .null, .null, .null, .int 0, .int 0, .int 0, .int 0, .int 0, .int 0]) (by decide +kernel) (lk1 := (2, 28)) (by decide +kernel) (lk2 := (2, 29)) (by decide +kernel) (lk3 := (1, 10)) (by decide +kernel) hP hD hS (Nat.le_of_ble_eq_true rfl) (Nat.le_of_ble_eq_true rfl) (z_ldd z_ilDM_ok 54 (q := (114, (.new 66, 3))) rfl) (fun q9 H hP hD hS => ?_)
  refine lv_dup hx hb (z_ldd z_ilDM_ok 55 (q := (117, (.dup, 1))) rfl) rfl ?_
  refine lv_aload_n hx hb (z_ldd z_ilDM_ok 56 (q := (118, (.aload_n 0, 1))) rfl) rfl (lv_at hl 0 rfl) ?_
  refine va_get (cl := z_cl) (ref := "DayMuseum") (C := "DayMuseum") (T := z_T11) (N := 12) hx hb hts (z_cl_ws ("DayMuseum", z_T11, 12) (List.mem_of_getElem? (i := 11) rfl)) hown hK hP 0 (fs := [.ref q2, .ref q3, .ref q4, .ref q5, .ref q6, .ref q7, .ref q8, .null, .null, .null, .null, .int 0]) rfl rfl 2 (by decide) (hts _ (z_wd_in (ci := (2, 179)) (by decide +kernel))) (fun _ z => z) (v := .ref q4) rfl (z_ldd z_ilDM_ok 57 (q := (119, (.getfield 28, 3))) rfl) ?_
  refine lv_aload_n hx hb (z_ldd z_ilDM_ok 58 (q := (122, (.aload_n 0, 1))) rfl) rfl (lv_at hl 0 rfl) ?_
  refine va_get (cl := z_cl) (ref := "DayMuseum") (C := "DayMuseum") (T := z_T11) (N := 12) hx hb hts (z_cl_ws ("DayMuseum", z_T11, 12) (List.mem_of_getElem? (i := 11) rfl)) hown hK hP 0 (fs := [.ref q2, .ref q3, .ref q4, .ref q5, .ref q6, .ref q7, .ref q8, .null, .null, .null, .null, .int 0]) rfl rfl 4 (by decide) (hts _ (z_wd_in (ci := (2, 181)) (by decide +kernel))) (fun _ z => z) (v := .ref q6) rfl (z_ldd z_ilDM_ok 59 (q := (123, (.getfield 44, 3))) rfl) ?_
  refine lv_aload_n hx hb (z_ldd z_ilDM_ok 60 (q := (126, (.aload_n 0, 1))) rfl) rfl (lv_at hl 0 rfl) ?_
  refine va_get (cl := z_cl) (ref := "DayMuseum") (C := "DayMuseum") (T := z_T11) (N := 12) hx hb hts (z_cl_ws ("DayMuseum", z_T11, 12) (List.mem_of_getElem? (i := 11) rfl)) hown hK hP 0 (fs := [.ref q2, .ref q3, .ref q4, .ref q5, .ref q6, .ref q7, .ref q8, .null, .null, .null, .null, .int 0]) rfl rfl 6 (by decide) (hts _ (z_wd_in (ci := (2, 183)) (by decide +kernel))) (fun _ z => z) (v := .ref q8) rfl (z_ldd z_ilDM_ok 61 (q := (127, (.getfield 62, 3))) rfl) ?_
  refine z_ctorI (host := "DayMuseum") (lkl := (2, 30)) (lkc := (2, 32)) (lki := (1, 10)) (lkm := (2, 31)) (n := 3) (D := ((((((([] ++ 2 :: z_iGTape) ++ 3 :: z_iGTown) ++ 4 :: z_iGPeople) ++ 5 :: z_iGLaw) ++ 6 :: z_iGSenses) ++ 7 :: z_iGReports) ++ 8 :: z_iGDays)) (G := z_iGQuestions) (o := 9) (f := f7) (M := M7) (ws1 := [(cx.2.2 1, .inr (11, [.ref q2, .ref q3, .ref q4, .ref q5, .ref q6, .ref q7, .ref q8, .null, .null, .null, .null, .int 0]))]) hx hb (hl.1.trans hml.symm) hown hts hK hSt hA (z_inQuestions l (z_cxa cx (z_fset f7 9 q9)) H.size) (As := [.ref q4, .ref q6, .ref q8]) (by
    show [Value.ref q9, .ref (f7 4), .ref (f7 6), .ref (f7 8)] = [Value.ref q9, .ref q4, .ref q6, .ref q8]
    rw [g4, g6, g8]) (Or.inl (by decide +kernel)) (by decide +kernel) (by decide +kernel) (by decide +kernel) rfl (by decide +kernel) rfl ⟨rfl, rfl⟩ ⟨Nat.le_of_ble_eq_true rfl, Nat.le_of_ble_eq_true rfl⟩ ⟨Nat.le_of_ble_eq_true rfl, Nat.le_of_ble_eq_true rfl⟩ (fun k hk => hff k (by revert k; decide +kernel)) (by decide) (by decide +kernel) (Nat.le_refl _) hP hD hS hMR (st := [.ref q9, .ref (cx.2.2 1)]) (Nat.le_of_ble_eq_true rfl) rfl (z_ldd z_ilDM_ok 62 (q := (130, (.invokespecial 68, 3))) rfl) (fun f8 M' H locs e1 e2 e3 hMR2 hP hD hS => ?_)
  replace hff := z_ffj hff e1
  replace hPM := zf_PMj hPM (zf_o (fun k hk _ j => e3 k hk j) (by decide +kernel))
  replace g2 := (e1 2 (by decide +kernel)).trans g2
  replace g3 := (e1 3 (by decide +kernel)).trans g3
  replace g4 := (e1 4 (by decide +kernel)).trans g4
  replace g5 := (e1 5 (by decide +kernel)).trans g5
  replace g6 := (e1 6 (by decide +kernel)).trans g6
  replace g7 := (e1 7 (by decide +kernel)).trans g7
  replace g8 := (e1 8 (by decide +kernel)).trans g8
  have g9 := e2
  clear hMR e1 e2 e3
  generalize z_mj ((((((([] ++ 2 :: z_iGTape) ++ 3 :: z_iGTown) ++ 4 :: z_iGPeople) ++ 5 :: z_iGLaw) ++ 6 :: z_iGSenses) ++ 7 :: z_iGReports) ++ 8 :: z_iGDays) M7 M' = M8 at hMR2 hPM hP hD
  have hMR := hMR2
  clear hMR2
  refine z_putref hx hb hts hown hin2 hK (ci := 11) (q := ("DayMuseum", z_T11, 12)) rfl rfl hP hD hS (j := 7) (lk := (2, 184)) (by decide) (by decide +kernel) rfl rfl (ty := .object "DayMuseum$Questions") (by decide +kernel) (Or.inr ⟨_, rfl⟩) (z_ldd z_ilDM_ok 63 (q := (133, (.putfield 71, 3))) rfl) (fun H locs hP hD hS => ?_)
  refine lv_aload_n hx hb (z_ldd z_ilDM_ok 64 (q := (136, (.aload_n 0, 1))) rfl) rfl (lv_at hl 0 rfl) ?_
  replace hP : va_P cx.1 z_cl ([((cx.2.2 1, .inr (11, [.ref q2, .ref q3, .ref q4, .ref q5, .ref q6, .ref q7, .ref q8, .ref q9, .null, .null, .null, .int 0])) : Nat × va_E)] ++ z_wg (((((((([] ++ 2 :: z_iGTape) ++ 3 :: z_iGTown) ++ 4 :: z_iGPeople) ++ 5 :: z_iGLaw) ++ 6 :: z_iGSenses) ++ 7 :: z_iGReports) ++ 8 :: z_iGDays) ++ 9 :: z_iGQuestions) (z_cxa cx f8) M8) H := hP
  replace hD : va_D (z_IA cx 1 s.heap.size) ([((cx.2.2 1, .inr (11, [.ref q2, .ref q3, .ref q4, .ref q5, .ref q6, .ref q7, .ref q8, .ref q9, .null, .null, .null, .int 0])) : Nat × va_E)] ++ z_wg (((((((([] ++ 2 :: z_iGTape) ++ 3 :: z_iGTown) ++ 4 :: z_iGPeople) ++ 5 :: z_iGLaw) ++ 6 :: z_iGSenses) ++ 7 :: z_iGReports) ++ 8 :: z_iGDays) ++ 9 :: z_iGQuestions) (z_cxa cx f8) M8) := hD
  refine z_newO hx hb hts hown hK hA (ci := 10) (q := ("DayMuseum$Ways", z_T10, 10)) rfl (fs := [.null, .null, .null, .null, .null, .null, .int 0, .int 0, .int 0, .int 0]) (by decide +kernel) (lk1 := (2, 71)) (by decide +kernel) (lk2 := (2, 72)) (by decide +kernel) (lk3 := (1, 11)) (by decide +kernel) hP hD hS (Nat.le_of_ble_eq_true rfl) (Nat.le_of_ble_eq_true rfl) (z_ldd z_ilDM_ok 65 (q := (137, (.new 75, 3))) rfl) (fun q10 H hP hD hS => ?_)
  refine lv_dup hx hb (z_ldd z_ilDM_ok 66 (q := (140, (.dup, 1))) rfl) rfl ?_
  refine lv_aload_n hx hb (z_ldd z_ilDM_ok 67 (q := (141, (.aload_n 0, 1))) rfl) rfl (lv_at hl 0 rfl) ?_
  refine va_get (cl := z_cl) (ref := "DayMuseum") (C := "DayMuseum") (T := z_T11) (N := 12) hx hb hts (z_cl_ws ("DayMuseum", z_T11, 12) (List.mem_of_getElem? (i := 11) rfl)) hown hK hP 0 (fs := [.ref q2, .ref q3, .ref q4, .ref q5, .ref q6, .ref q7, .ref q8, .ref q9, .null, .null, .null, .int 0]) rfl rfl 1 (by decide) (hts _ (z_wd_in (ci := (2, 178)) (by decide +kernel))) (fun _ z => z) (v := .ref q3) rfl (z_ldd z_ilDM_ok 68 (q := (142, (.getfield 19, 3))) rfl) ?_
  refine lv_aload_n hx hb (z_ldd z_ilDM_ok 69 (q := (145, (.aload_n 0, 1))) rfl) rfl (lv_at hl 0 rfl) ?_
  refine va_get (cl := z_cl) (ref := "DayMuseum") (C := "DayMuseum") (T := z_T11) (N := 12) hx hb hts (z_cl_ws ("DayMuseum", z_T11, 12) (List.mem_of_getElem? (i := 11) rfl)) hown hK hP 0 (fs := [.ref q2, .ref q3, .ref q4, .ref q5, .ref q6, .ref q7, .ref q8, .ref q9, .null, .null, .null, .int 0]) rfl rfl 2 (by decide) (hts _ (z_wd_in (ci := (2, 179)) (by decide +kernel))) (fun _ z => z) (v := .ref q4) rfl (z_ldd z_ilDM_ok 70 (q := (146, (.getfield 28, 3))) rfl) ?_
  refine z_ctorI (host := "DayMuseum") (lkl := (2, 73)) (lkc := (2, 75)) (lki := (1, 11)) (lkm := (2, 74)) (n := 2) (D := (((((((([] ++ 2 :: z_iGTape) ++ 3 :: z_iGTown) ++ 4 :: z_iGPeople) ++ 5 :: z_iGLaw) ++ 6 :: z_iGSenses) ++ 7 :: z_iGReports) ++ 8 :: z_iGDays) ++ 9 :: z_iGQuestions)) (G := z_iGWays) (o := 10) (f := f8) (M := M8) (ws1 := [(cx.2.2 1, .inr (11, [.ref q2, .ref q3, .ref q4, .ref q5, .ref q6, .ref q7, .ref q8, .ref q9, .null, .null, .null, .int 0]))]) hx hb (hl.1.trans hml.symm) hown hts hK hSt hA (z_inWays l (z_cxa cx (z_fset f8 10 q10)) H.size) (As := [.ref q3, .ref q4]) (by
    show [Value.ref q10, .ref (f8 3), .ref (f8 4)] = [Value.ref q10, .ref q3, .ref q4]
    rw [g3, g4]) (Or.inl (by decide +kernel)) (by decide +kernel) (by decide +kernel) (by decide +kernel) rfl (by decide +kernel) rfl ⟨rfl, rfl⟩ ⟨Nat.le_of_ble_eq_true rfl, Nat.le_of_ble_eq_true rfl⟩ ⟨Nat.le_of_ble_eq_true rfl, Nat.le_of_ble_eq_true rfl⟩ (fun k hk => hff k (by revert k; decide +kernel)) (by decide) (by decide +kernel) (Nat.le_refl _) hP hD hS hMR (st := [.ref q10, .ref (cx.2.2 1)]) (Nat.le_of_ble_eq_true rfl) rfl (z_ldd z_ilDM_ok 71 (q := (149, (.invokespecial 77, 3))) rfl) (fun f9 M' H locs e1 e2 e3 hMR2 hP hD hS => ?_)
  replace hff := z_ffj hff e1
  replace hPM := zf_PMj hPM (zf_o (fun k hk _ j => e3 k hk j) (by decide +kernel))
  replace g2 := (e1 2 (by decide +kernel)).trans g2
  replace g3 := (e1 3 (by decide +kernel)).trans g3
  replace g4 := (e1 4 (by decide +kernel)).trans g4
  replace g5 := (e1 5 (by decide +kernel)).trans g5
  replace g6 := (e1 6 (by decide +kernel)).trans g6
  replace g7 := (e1 7 (by decide +kernel)).trans g7
  replace g8 := (e1 8 (by decide +kernel)).trans g8
  replace g9 := (e1 9 (by decide +kernel)).trans g9
  have g10 := e2
  clear hMR e1 e2 e3
  generalize z_mj (((((((([] ++ 2 :: z_iGTape) ++ 3 :: z_iGTown) ++ 4 :: z_iGPeople) ++ 5 :: z_iGLaw) ++ 6 :: z_iGSenses) ++ 7 :: z_iGReports) ++ 8 :: z_iGDays) ++ 9 :: z_iGQuestions) M8 M' = M9 at hMR2 hPM hP hD
  have hMR := hMR2
  clear hMR2
  refine z_putref hx hb hts hown hin2 hK (ci := 11) (q := ("DayMuseum", z_T11, 12)) rfl rfl hP hD hS (j := 8) (lk := (2, 185)) (by decide) (by decide +kernel) rfl rfl (ty := .object "DayMuseum$Ways") (by decide +kernel) (Or.inr ⟨_, rfl⟩) (z_ldd z_ilDM_ok 72 (q := (152, (.putfield 80, 3))) rfl) (fun H locs hP hD hS => ?_)
  refine lv_aload_n hx hb (z_ldd z_ilDM_ok 73 (q := (155, (.aload_n 0, 1))) rfl) rfl (lv_at hl 0 rfl) ?_
  replace hP : va_P cx.1 z_cl ([((cx.2.2 1, .inr (11, [.ref q2, .ref q3, .ref q4, .ref q5, .ref q6, .ref q7, .ref q8, .ref q9, .ref q10, .null, .null, .int 0])) : Nat × va_E)] ++ z_wg ((((((((([] ++ 2 :: z_iGTape) ++ 3 :: z_iGTown) ++ 4 :: z_iGPeople) ++ 5 :: z_iGLaw) ++ 6 :: z_iGSenses) ++ 7 :: z_iGReports) ++ 8 :: z_iGDays) ++ 9 :: z_iGQuestions) ++ 10 :: z_iGWays) (z_cxa cx f9) M9) H := hP
  replace hD : va_D (z_IA cx 1 s.heap.size) ([((cx.2.2 1, .inr (11, [.ref q2, .ref q3, .ref q4, .ref q5, .ref q6, .ref q7, .ref q8, .ref q9, .ref q10, .null, .null, .int 0])) : Nat × va_E)] ++ z_wg ((((((((([] ++ 2 :: z_iGTape) ++ 3 :: z_iGTown) ++ 4 :: z_iGPeople) ++ 5 :: z_iGLaw) ++ 6 :: z_iGSenses) ++ 7 :: z_iGReports) ++ 8 :: z_iGDays) ++ 9 :: z_iGQuestions) ++ 10 :: z_iGWays) (z_cxa cx f9) M9) := hD
  refine z_newO hx hb hts hown hK hA (ci := 3) (q := ("DayMuseum$Luggage", z_T3, 12)) rfl (fs := [.null, .null, .null, .null, .null, .int 0, .null, .null, .null, .null, .null, .null]) (by decide +kernel) (lk1 := (2, 108)) (by decide +kernel) (lk2 := (2, 109)) (by decide +kernel) (lk3 := (1, 12)) (by decide +kernel) hP hD hS (Nat.le_of_ble_eq_true rfl) (Nat.le_of_ble_eq_true rfl) (z_ldd z_ilDM_ok 74 (q := (156, (.new 84, 3))) rfl) (fun q11 H hP hD hS => ?_)
  refine lv_dup hx hb (z_ldd z_ilDM_ok 75 (q := (159, (.dup, 1))) rfl) rfl ?_
  refine lv_aload_n hx hb (z_ldd z_ilDM_ok 76 (q := (160, (.aload_n 0, 1))) rfl) rfl (lv_at hl 0 rfl) ?_
  refine va_get (cl := z_cl) (ref := "DayMuseum") (C := "DayMuseum") (T := z_T11) (N := 12) hx hb hts (z_cl_ws ("DayMuseum", z_T11, 12) (List.mem_of_getElem? (i := 11) rfl)) hown hK hP 0 (fs := [.ref q2, .ref q3, .ref q4, .ref q5, .ref q6, .ref q7, .ref q8, .ref q9, .ref q10, .null, .null, .int 0]) rfl rfl 2 (by decide) (hts _ (z_wd_in (ci := (2, 179)) (by decide +kernel))) (fun _ z => z) (v := .ref q4) rfl (z_ldd z_ilDM_ok 77 (q := (161, (.getfield 28, 3))) rfl) ?_
  refine z_ctorI (host := "DayMuseum") (lkl := (2, 110)) (lkc := (2, 112)) (lki := (1, 12)) (lkm := (2, 111)) (n := 1) (D := ((((((((([] ++ 2 :: z_iGTape) ++ 3 :: z_iGTown) ++ 4 :: z_iGPeople) ++ 5 :: z_iGLaw) ++ 6 :: z_iGSenses) ++ 7 :: z_iGReports) ++ 8 :: z_iGDays) ++ 9 :: z_iGQuestions) ++ 10 :: z_iGWays)) (G := z_iGLuggage) (o := 11) (f := f9) (M := M9) (ws1 := [(cx.2.2 1, .inr (11, [.ref q2, .ref q3, .ref q4, .ref q5, .ref q6, .ref q7, .ref q8, .ref q9, .ref q10, .null, .null, .int 0]))]) hx hb (hl.1.trans hml.symm) hown hts hK hSt hA (z_inLuggage l (z_cxa cx (z_fset f9 11 q11)) H.size) (As := [.ref q4]) (by
    show [Value.ref q11, .ref (f9 4)] = [Value.ref q11, .ref q4]
    rw [g4]) (Or.inl (by decide +kernel)) (by decide +kernel) (by decide +kernel) (by decide +kernel) rfl (by decide +kernel) rfl ⟨rfl, rfl⟩ ⟨Nat.le_of_ble_eq_true rfl, Nat.le_of_ble_eq_true rfl⟩ ⟨Nat.le_of_ble_eq_true rfl, Nat.le_of_ble_eq_true rfl⟩ (fun k hk => hff k (by revert k; decide +kernel)) (by decide) (by decide +kernel) (Nat.le_refl _) hP hD hS hMR (st := [.ref q11, .ref (cx.2.2 1)]) (Nat.le_of_ble_eq_true rfl) rfl (z_ldd z_ilDM_ok 78 (q := (164, (.invokespecial 86, 3))) rfl) (fun f10 M' H locs e1 e2 e3 hMR2 hP hD hS => ?_)
  replace hff := z_ffj hff e1
  replace hPM := zf_PMj hPM (zf_o (fun k hk _ j => e3 k hk j) (by decide +kernel))
  replace g2 := (e1 2 (by decide +kernel)).trans g2
  replace g3 := (e1 3 (by decide +kernel)).trans g3
  replace g4 := (e1 4 (by decide +kernel)).trans g4
  replace g5 := (e1 5 (by decide +kernel)).trans g5
  replace g6 := (e1 6 (by decide +kernel)).trans g6
  replace g7 := (e1 7 (by decide +kernel)).trans g7
  replace g8 := (e1 8 (by decide +kernel)).trans g8
  replace g9 := (e1 9 (by decide +kernel)).trans g9
  replace g10 := (e1 10 (by decide +kernel)).trans g10
  have g11 := e2
  clear hMR e1 e2 e3
  generalize z_mj ((((((((([] ++ 2 :: z_iGTape) ++ 3 :: z_iGTown) ++ 4 :: z_iGPeople) ++ 5 :: z_iGLaw) ++ 6 :: z_iGSenses) ++ 7 :: z_iGReports) ++ 8 :: z_iGDays) ++ 9 :: z_iGQuestions) ++ 10 :: z_iGWays) M9 M' = M10 at hMR2 hPM hP hD
  have hMR := hMR2
  clear hMR2
  refine z_putref hx hb hts hown hin2 hK (ci := 11) (q := ("DayMuseum", z_T11, 12)) rfl rfl hP hD hS (j := 9) (lk := (2, 186)) (by decide) (by decide +kernel) rfl rfl (ty := .object "DayMuseum$Luggage") (by decide +kernel) (Or.inr ⟨_, rfl⟩) (z_ldd z_ilDM_ok 79 (q := (167, (.putfield 89, 3))) rfl) (fun H locs hP hD hS => ?_)
  refine lv_aload_n hx hb (z_ldd z_ilDM_ok 80 (q := (170, (.aload_n 0, 1))) rfl) rfl (lv_at hl 0 rfl) ?_
  replace hP : va_P cx.1 z_cl ([((cx.2.2 1, .inr (11, [.ref q2, .ref q3, .ref q4, .ref q5, .ref q6, .ref q7, .ref q8, .ref q9, .ref q10, .ref q11, .null, .int 0])) : Nat × va_E)] ++ z_wg (((((((((([] ++ 2 :: z_iGTape) ++ 3 :: z_iGTown) ++ 4 :: z_iGPeople) ++ 5 :: z_iGLaw) ++ 6 :: z_iGSenses) ++ 7 :: z_iGReports) ++ 8 :: z_iGDays) ++ 9 :: z_iGQuestions) ++ 10 :: z_iGWays) ++ 11 :: z_iGLuggage) (z_cxa cx f10) M10) H := hP
  replace hD : va_D (z_IA cx 1 s.heap.size) ([((cx.2.2 1, .inr (11, [.ref q2, .ref q3, .ref q4, .ref q5, .ref q6, .ref q7, .ref q8, .ref q9, .ref q10, .ref q11, .null, .int 0])) : Nat × va_E)] ++ z_wg (((((((((([] ++ 2 :: z_iGTape) ++ 3 :: z_iGTown) ++ 4 :: z_iGPeople) ++ 5 :: z_iGLaw) ++ 6 :: z_iGSenses) ++ 7 :: z_iGReports) ++ 8 :: z_iGDays) ++ 9 :: z_iGQuestions) ++ 10 :: z_iGWays) ++ 11 :: z_iGLuggage) (z_cxa cx f10) M10) := hD
  refine z_newO hx hb hts hown hK hA (ci := 1) (q := ("DayMuseum$Kisses", z_T1, 6)) rfl (fs := [.null, .null, .null, .null, .int 0, .int 0]) (by decide +kernel) (lk1 := (2, 152)) (by decide +kernel) (lk2 := (2, 153)) (by decide +kernel) (lk3 := (1, 13)) (by decide +kernel) hP hD hS (Nat.le_of_ble_eq_true rfl) (Nat.le_of_ble_eq_true rfl) (z_ldd z_ilDM_ok 81 (q := (171, (.new 93, 3))) rfl) (fun q12 H hP hD hS => ?_)
  refine lv_dup hx hb (z_ldd z_ilDM_ok 82 (q := (174, (.dup, 1))) rfl) rfl ?_
  refine z_ctorI (host := "DayMuseum") (lkl := (0, 0)) (lkc := (2, 156)) (lki := (1, 13)) (lkm := (2, 155)) (n := 0) (D := (((((((((([] ++ 2 :: z_iGTape) ++ 3 :: z_iGTown) ++ 4 :: z_iGPeople) ++ 5 :: z_iGLaw) ++ 6 :: z_iGSenses) ++ 7 :: z_iGReports) ++ 8 :: z_iGDays) ++ 9 :: z_iGQuestions) ++ 10 :: z_iGWays) ++ 11 :: z_iGLuggage)) (G := z_iGKisses) (o := 12) (f := f10) (M := M10) (ws1 := [(cx.2.2 1, .inr (11, [.ref q2, .ref q3, .ref q4, .ref q5, .ref q6, .ref q7, .ref q8, .ref q9, .ref q10, .ref q11, .null, .int 0]))]) hx hb (hl.1.trans hml.symm) hown hts hK hSt hA (z_inKisses l (z_cxa cx (z_fset f10 12 q12)) H.size) (As := []) rfl (Or.inr (hSt.2 (.methodLinkNest "DayMuseum" 95 z_iyKisses "DayMuseum") (by decide +kernel))) (by decide +kernel) (by decide +kernel) (by decide +kernel) rfl (by decide +kernel) rfl ⟨rfl, rfl⟩ ⟨Nat.le_of_ble_eq_true rfl, Nat.le_of_ble_eq_true rfl⟩ ⟨Nat.le_of_ble_eq_true rfl, Nat.le_of_ble_eq_true rfl⟩ (fun k hk => hff k (by revert k; decide +kernel)) (by decide) (by decide +kernel) (Nat.le_refl _) hP hD hS hMR (st := [.ref q12, .ref (cx.2.2 1)]) (Nat.le_of_ble_eq_true rfl) rfl (z_ldd z_ilDM_ok 83 (q := (175, (.invokespecial 95, 3))) rfl) (fun f11 M' H locs e1 e2 e3 hMR2 hP hD hS => ?_)
  replace hff := z_ffj hff e1
  replace hPM := zf_PMj hPM (zf_o (fun k hk _ j => e3 k hk j) (by decide +kernel))
  replace g2 := (e1 2 (by decide +kernel)).trans g2
  replace g3 := (e1 3 (by decide +kernel)).trans g3
  replace g4 := (e1 4 (by decide +kernel)).trans g4
  replace g5 := (e1 5 (by decide +kernel)).trans g5
  replace g6 := (e1 6 (by decide +kernel)).trans g6
  replace g7 := (e1 7 (by decide +kernel)).trans g7
  replace g8 := (e1 8 (by decide +kernel)).trans g8
  replace g9 := (e1 9 (by decide +kernel)).trans g9
  replace g10 := (e1 10 (by decide +kernel)).trans g10
  replace g11 := (e1 11 (by decide +kernel)).trans g11
  have g12 := e2
  clear hMR e1 e2 e3
  generalize z_mj (((((((((([] ++ 2 :: z_iGTape) ++ 3 :: z_iGTown) ++ 4 :: z_iGPeople) ++ 5 :: z_iGLaw) ++ 6 :: z_iGSenses) ++ 7 :: z_iGReports) ++ 8 :: z_iGDays) ++ 9 :: z_iGQuestions) ++ 10 :: z_iGWays) ++ 11 :: z_iGLuggage) M10 M' = M11 at hMR2 hPM hP hD
  have hMR := hMR2
  clear hMR2
  refine z_putref hx hb hts hown hin2 hK (ci := 11) (q := ("DayMuseum", z_T11, 12)) rfl rfl hP hD hS (j := 10) (lk := (2, 187)) (by decide) (by decide +kernel) rfl rfl (ty := .object "DayMuseum$Kisses") (by decide +kernel) (Or.inr ⟨_, rfl⟩) (z_ldd z_ilDM_ok 84 (q := (178, (.putfield 96, 3))) rfl) (fun H locs hP hD hS => ?_)
  refine lv_aload_n hx hb (z_ldd z_ilDM_ok 85 (q := (181, (.aload_n 0, 1))) rfl) rfl (lv_at hl 0 rfl) ?_
  refine lv_iconst hx hb (z_ldd z_ilDM_ok 86 (q := (182, (.iconst 0, 1))) rfl) rfl ?_
  refine z_putint hx hb hts hown hK (ci := 11) (q := ("DayMuseum", z_T11, 12)) rfl rfl hP hD hS (j := 11) (lk := (2, 188)) (by decide) (by decide +kernel) rfl (by decide +kernel) (z_ldd z_ilDM_ok 87 (q := (183, (.putfield 100, 3))) rfl) (fun H locs hP hD hS => ?_)
  replace hP : va_P cx.1 z_cl ([((cx.2.2 1, .inr (11, [.ref q2, .ref q3, .ref q4, .ref q5, .ref q6, .ref q7, .ref q8, .ref q9, .ref q10, .ref q11, .ref q12, .int 0])) : Nat × va_E)] ++ z_wg ((((((((((([] ++ 2 :: z_iGTape) ++ 3 :: z_iGTown) ++ 4 :: z_iGPeople) ++ 5 :: z_iGLaw) ++ 6 :: z_iGSenses) ++ 7 :: z_iGReports) ++ 8 :: z_iGDays) ++ 9 :: z_iGQuestions) ++ 10 :: z_iGWays) ++ 11 :: z_iGLuggage) ++ 12 :: z_iGKisses) (z_cxa cx f11) M11) H := hP
  replace hD : va_D (z_IA cx 1 s.heap.size) ([((cx.2.2 1, .inr (11, [.ref q2, .ref q3, .ref q4, .ref q5, .ref q6, .ref q7, .ref q8, .ref q9, .ref q10, .ref q11, .ref q12, .int 0])) : Nat × va_E)] ++ z_wg ((((((((((([] ++ 2 :: z_iGTape) ++ 3 :: z_iGTown) ++ 4 :: z_iGPeople) ++ 5 :: z_iGLaw) ++ 6 :: z_iGSenses) ++ 7 :: z_iGReports) ++ 8 :: z_iGDays) ++ 9 :: z_iGQuestions) ++ 10 :: z_iGWays) ++ 11 :: z_iGLuggage) ++ 12 :: z_iGKisses) (z_cxa cx f11) M11) := hD
  have hf1 : f11 1 = cx.2.2 1 := hff 1 (by decide +kernel)
  have e1 : z_mj z_iGDM M11 (fun _ _ => 0) 1 = fun _ => 0 := z_mj_out (by decide +kernel)
  have e2 : z_flds (z_cxa cx f11) (z_mj z_iGDM M11 (fun _ _ => 0)) 1 = [.ref (f11 2), .ref (f11 3), .ref (f11 4), .ref (f11 5), .ref (f11 6), .ref (f11 7), .ref (f11 8), .ref (f11 9), .ref (f11 10), .ref (f11 11), .ref (f11 12), .int (Int32.ofInt 0)] := by
    unfold z_flds z_fld
    rw [e1]
    rfl
  have eW : ([((cx.2.2 1, .inr (11, [.ref q2, .ref q3, .ref q4, .ref q5, .ref q6, .ref q7, .ref q8, .ref q9, .ref q10, .ref q11, .ref q12, .int 0])) : Nat × va_E)] ++ z_wg ((((((((((([] ++ 2 :: z_iGTape) ++ 3 :: z_iGTown) ++ 4 :: z_iGPeople) ++ 5 :: z_iGLaw) ++ 6 :: z_iGSenses) ++ 7 :: z_iGReports) ++ 8 :: z_iGDays) ++ 9 :: z_iGQuestions) ++ 10 :: z_iGWays) ++ 11 :: z_iGLuggage) ++ 12 :: z_iGKisses) (z_cxa cx f11) M11) = z_wg (1 :: z_iGDM) (z_cxa cx f11) (z_mj z_iGDM M11 (fun _ _ => 0)) := by
    show _ = (f11 1, z_cell (z_cxa cx f11) (z_mj z_iGDM M11 (fun _ _ => 0)) 1) :: z_wg z_iGDM (z_cxa cx f11) (z_mj z_iGDM M11 (fun _ _ => 0))
    rw [hf1, z_cell_obj (k := 1) (by decide), e2, g2, g3, g4, g5, g6, g7, g8, g9, g10, g11, g12, z_wg_cg (D := z_iGDM) (E := []) (f := f11) (M := M11) (by decide +kernel) (fun k hk => z_mj_in hk) (fun _ _ => rfl)]
    rfl
  rw [eW] at hP hD
  have hPM2 : zf_PM (1 :: z_iGDM) (z_mj z_iGDM M11 (fun _ _ => 0)) := by
    refine ⟨fun k hk hn j => ?_, fun _ f t f0 f1 t0 t1 => ?_⟩
    · rcases List.mem_cons.mp hk with rfl | hk
      · rw [e1]; rfl
      · rw [z_mj_in hk]; exact hPM.1 k hk hn j
    · rw [z_mj_in (show 100001017 ∈ z_iGDM by decide +kernel)]
      exact hPM.2 (by decide +kernel) f t f0 f1 t0 t1
  have hMR2 : z_MRg (1 :: z_iGDM) (z_mj z_iGDM M11 (fun _ _ => 0)) := by
    intro k hk
    rcases List.mem_cons.mp hk with rfl | hk
    · rw [e1]; exact fun _ _ _ => (show z_i32 0 from ⟨by decide, by decide⟩)
    · rw [z_mj_in hk]; exact hMR k hk
  exact W.vret hx hb hr (fun u hu _ => ⟨⟨f11, _, rfl, hff, hf1, hPM2, hMR2, by rw [hu]; exact hP, hD⟩, hS.F hu⟩) hS.2.2 (z_ldd z_ilDM_ok 88 (q := (186, (.return_, 1))) rfl) hlocks
set_option maxRecDepth 100000 in
theorem zf_go {p : Program} {e : Env} {s : State} {m : MethodId} {below : List Frame} {meth : Method} {c : Code} (l : Launch) {b L : Nat} {xs : Nat → Int32} (hL : L ≤ 3584) (C0 : lw_At p s m meth c b L xs) {d : Nat} (hR : d + 2 ≤ 2048 ∧ 64 * (d + 2) ≤ 84000) (Inv : Nat → z_M → Prop) (h0 : ∀ M, zf_PM z_all M → z_MR 0 M → Inv 0 M)
    (hcase : ∀ (k : Nat) (M : z_M), 7 * k + 7 ≤ L → Inv k M → ∀ (a1 a2 a3 a4 a5 a6 : Int), z_i32 a1 → z_i32 a2 → z_i32 a3 → z_i32 a4 → z_i32 a5 → z_i32 a6 → ∀ op, op < 64 → z_case d (Inv (k + 1)) M a1 a2 a3 a4 a5 a6 op) :
    W p l e room_1 s m #[Value.ref b] below meth c s.heap [] 0 0 (lw_Z below #[Value.ref b] s) (entryFrame m ([Value.ref b] : List Value).toArray 4) := by
  obtain ⟨hx, hb, hr, hml, hown, hts0, hX, hbl, hlocks, hgv⟩ := id C0
  have hts : ∀ w ∈ z_ts, w.before #[Value.ref b] s = true := fun w h => hts0 w (z_ts_good w h).1
  obtain ⟨cx, hK, hSt⟩ := z_setup (A := fun q => s.heap.size ≤ q) hts0 hgv (fun a h => by omega)
  have hA : ∀ q, s.heap.size ≤ q → (fun q => s.heap.size ≤ q) q := fun _ h => h
  have hS : va_S (fun q => s.heap.size ≤ q) s.heap s.heap [] := va_S.rf
  have hP : va_P cx.1 z_cl ([] ++ z_wg [] (z_cxa cx cx.2.2) (fun _ _ => 0)) s.heap := fun k q h => by cases h
  have hD : va_D (fun q => s.heap.size ≤ q) ([] ++ z_wg [] (z_cxa cx cx.2.2) (fun _ _ => 0)) := ⟨fun i j p q h => by (cases h), fun k q h => by cases h⟩
  have hl := lv_entry ([.ref b]) (n := 4) (Nat.le_of_ble_eq_true rfl)
  rw [lg_entry_eq]
  generalize (lg_sl ([.ref b]) ++ List.replicate (4 - (lg_sl ([.ref b])).length) Slot.unset).toArray = ls at hl ⊢
  refine z_newO (own := R_law) hx hb hts hown hK hA (ci := 11) (q := ("DayMuseum", z_T11, 12)) rfl (fs := [.null, .null, .null, .null, .null, .null, .null, .null, .null, .null, .null, .int 0]) (by decide +kernel) (lk1 := (1, 19)) (by decide +kernel) (lk2 := (1, 20)) (by decide +kernel) (lk3 := (1, 1)) (by decide +kernel) hP hD hS (Nat.le_of_ble_eq_true rfl) (Nat.le_of_ble_eq_true rfl) (z_ldc z_lc0_ok 0 (q := (0, (.new 7, 3))) rfl) (fun q1 H hP hD hS => ?_)
  refine lv_dup hx hb (z_ldc z_lc0_ok 1 (q := (3, (.dup, 1))) rfl) rfl ?_
  refine z_ctorI (own := R_law) (host := "DayMuseum") (lkl := (1, 21)) (lkc := (1, 23)) (lki := (1, 1)) (lkm := (1, 22)) (n := 0) (D := []) (G := z_iGDM) (o := 1) (f := cx.2.2) (M := fun _ _ => 0) (ws1 := []) hx hb (hl.1.trans hml.symm) hown hts hK hSt hA (zf_inDM l (z_cxa cx (z_fset cx.2.2 1 q1)) H.size) (As := []) rfl (Or.inl (by decide +kernel)) (z_wd_mk rfl rfl) (by decide +kernel) (by decide +kernel) rfl (by decide +kernel) rfl ⟨rfl, rfl⟩ ⟨Nat.le_of_ble_eq_true rfl, Nat.le_of_ble_eq_true rfl⟩ ⟨Nat.le_of_ble_eq_true rfl, Nat.le_of_ble_eq_true rfl⟩ (fun k hk => rfl) (by decide) (by decide +kernel) (Nat.zero_le _) hP hD hS (fun k hk => by cases hk) (st := [.ref q1]) (Nat.le_of_ble_eq_true rfl) rfl (z_ldc z_lc0_ok 2 (q := (4, (.invokespecial 9, 3))) rfl) (fun f1 M1 H locs e1 e2 e3 hMR hP hD hS => ?_)
  have hPM : zf_PM ([] ++ 1 :: z_iGDM) (z_mj [] (fun _ _ => 0) M1) := zf_PMj zf_n e3
  generalize z_mj [] (fun _ _ => 0) M1 = M2 at hMR hP hD hPM
  refine lv_astore_n hx hb (z_ldc z_lc0_ok 3 (q := (7, (.astore_n 1, 1))) rfl) rfl hl (by decide) rfl (fun ls hl => ?_)
  refine z_newO (own := R_law) hx hb hts hown hK hA (ci := 12) (q := ("DayMuseumModel", z_T12, 107)) rfl (fs := [.null, .int 0, .int 0, .int 0, .int 0, .int 0, .int 0, .int 0, .int 0, .null, .null, .null, .null, .null, .null, .null, .null, .int 0, .null, .null, .null, .int 0, .int 0, .null, .null, .null, .null, .null, .null, .int 0, .null, .null, .null, .null, .null, .null, .int 0, .int 0, .null, .int 0, .int 0, .int 0, .int 0, .int 0, .int 0, .null, .null, .null, .int 0, .int 0, .null, .null, .null, .null, .null, .null, .int 0, .int 0, .null, .int 0, .null, .null, .int 0, .int 0, .null, .null, .int 0, .int 0, .null, .int 0, .null, .null, .null, .int 0, .int 0, .int 0, .null, .null, .null, .null, .null, .int 0, .null, .null, .null, .null, .null, .null, .null, .null, .null, .null, .null, .null, .null, .null, .null, .null, .int 0, .null, .int 0, .null, .null, .null, .null, .int 0, .int 0]) (by decide +kernel) (lk1 := (7, 20)) (by decide +kernel) (lk2 := (7, 21)) (by decide +kernel) (lk3 := (1, 14)) (by decide +kernel) hP hD hS (Nat.le_of_ble_eq_true rfl) (Nat.le_of_ble_eq_true rfl) (z_ldc z_lc0_ok 4 (q := (8, (.new 10, 3))) rfl) (fun q13 H hP hD hS => ?_)
  refine lv_dup hx hb (z_ldc z_lc0_ok 5 (q := (11, (.dup, 1))) rfl) rfl ?_
  refine z_ctorI (own := R_law) (host := "DayMuseum") (lkl := (7, 22)) (lkc := (7, 24)) (lki := (1, 14)) (lkm := (7, 23)) (n := 0) (D := [] ++ 1 :: z_iGDM) (G := z_iGDayMuseumModel) (o := 13) (f := f1) (M := M2) (ws1 := []) hx hb (hl.1.trans hml.symm) hown hts hK hSt hA (z_inDayMuseumModel l (z_cxa cx (z_fset f1 13 q13)) H.size) (As := []) rfl (Or.inl (by decide +kernel)) (z_wd_mk rfl rfl) (by decide +kernel) (by decide +kernel) rfl (by decide +kernel) rfl ⟨rfl, rfl⟩ ⟨Nat.le_of_ble_eq_true rfl, Nat.le_of_ble_eq_true rfl⟩ ⟨Nat.le_of_ble_eq_true rfl, Nat.le_of_ble_eq_true rfl⟩ (fun k hk => e1 k (by revert k; decide +kernel)) (by decide) (by decide +kernel) (Nat.zero_le _) hP hD hS hMR (st := [.ref q13]) (Nat.le_of_ble_eq_true rfl) rfl (z_ldc z_lc0_ok 6 (q := (12, (.invokespecial 12, 3))) rfl) (fun f2 M3 H locs g1 g2 g3 hMR hP hD hS => ?_)
  have hPM2 : zf_PM z_all2 (z_mj ([] ++ 1 :: z_iGDM) M2 M3) := zf_PMj hPM (zf_o (fun k hk _ j => g3 k hk j) (by decide +kernel))
  generalize z_mj ([] ++ 1 :: z_iGDM) M2 M3 = M at hMR hP hD hPM2
  refine lv_astore_n hx hb (z_ldc z_lc0_ok 7 (q := (15, (.astore_n 2, 1))) rfl) rfl hl (by decide) rfl (fun ls hl => ?_)
  refine lv_iconst hx hb (z_ldc z_lc0_ok 8 (q := (16, (.iconst 0, 1))) rfl) rfl ?_
  refine lv_istore_n hx hb (z_ldc z_lc0_ok 9 (q := (17, (.istore_n 3, 1))) rfl) rfl hl (by decide) rfl (fun ls hl => ?_)
  have hf1 : f2 1 = q1 := (g1 1 (by decide +kernel)).trans e2
  have hpw : (z_wg z_all2 (z_cxa cx f2) M).Perm (z_ws 0 (z_cxa cx f2) M) := z_all_perm.map _
  have hP2 : va_P (z_cxa cx f2).1 z_cl (z_ws 0 (z_cxa cx f2) M) H := z_P_perm hpw hP
  have hD2 : va_D (fun q => s.heap.size ≤ q) (z_ws 0 (z_cxa cx f2) M) := z_D_perm hpw hD
  have hadr : ∀ k ∈ z_all, s.heap.size ≤ (z_cxa cx f2).2.2 k := by
    intro k hk
    obtain ⟨i, hi⟩ := List.getElem?_of_mem hk
    exact hD2.2 i (f2 k, z_cell (z_cxa cx f2) M k) (by unfold z_ws; show ((z_all).map _)[i]? = _; rw [List.getElem?_map, hi]; rfl)
  have hAe : z_A 0 (z_cxa cx f2) s.heap.size = fun q => s.heap.size ≤ q := by
    funext q
    apply propext
    constructor
    · intro h
      rcases h with ⟨k, hk, rfl⟩ | h
      · exact hadr k hk
      · exact h
    · intro h; exact Or.inr h
  have hfc : ∀ k ∈ z_cons, f2 k = cx.2.2 k := fun k hk => (g1 k (by revert k; decide +kernel)).trans (e1 k (by revert k; decide +kernel))
  have F : z_lfix (z_cxa cx f2) p s m meth c b L xs := ⟨C0, hL, hK, by rw [hAe]; exact z_St_cxa hfc hSt, hadr⟩
  have Cf : z_lcfg (z_cxa cx f2) s H locs M := ⟨hP2, by rw [hAe]; exact hD2, by rw [hAe]; exact hS, fun k hk => hMR k (z_all_perm.mem_iff.mpr hk)⟩
  refine lw_loop F hR ⟨Nat.le_of_ble_eq_true rfl, Nat.le_of_ble_eq_true rfl⟩ Inv hcase (L + 8) 0 M H locs ls (by omega) (by omega) (h0 M ⟨fun k hk => hPM2.1 k (z_all_perm.mem_iff.mpr hk), fun h => hPM2.2 (z_all_perm.mem_iff.mpr h)⟩ Cf.2.2.2) Cf ?_
  refine lv_sub hl [3, 2, 1, 0] ?_
  show lv_pick _ _ = [(0, Value.ref b), (1, .ref (f2 1)), (2, .ref (f2 13)), (3, .int (nI (7 * 0)))]
  rw [hf1, g2]
  rfl
