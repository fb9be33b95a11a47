/-! THE START: the classes, the constants, the two objects -/
theorem z_wd_mk {c i : Nat} {w : Cond} (h : z_word c i = some w) (g : goodWord w = true) : z_wd (c, i) w = true := by
  unfold z_wd
  rw [Bool.and_eq_true]
  exact ⟨decide_eq_true h, g⟩
theorem z_cl_in : ∀ q ∈ z_cl, Cond.instantiable q.1 q.2.2 ∈ z_ts := List.forall_mem_cons.mpr ⟨z_wd_in (ci := (1, 224)) (by decide +kernel), List.forall_mem_cons.mpr ⟨z_wd_in (ci := (2, 153)) (by decide +kernel), List.forall_mem_cons.mpr ⟨z_wd_in (ci := (1, 127)) (by decide +kernel), List.forall_mem_cons.mpr ⟨z_wd_in (ci := (2, 109)) (by decide +kernel), List.forall_mem_cons.mpr ⟨z_wd_in (ci := (1, 86)) (by decide +kernel), List.forall_mem_cons.mpr ⟨z_wd_in (ci := (2, 29)) (by decide +kernel), List.forall_mem_cons.mpr ⟨z_wd_in (ci := (1, 193)) (by decide +kernel), List.forall_mem_cons.mpr ⟨z_wd_in (ci := (1, 160)) (by decide +kernel), List.forall_mem_cons.mpr ⟨z_wd_in (ci := (1, 28)) (by decide +kernel), List.forall_mem_cons.mpr ⟨z_wd_in (ci := (1, 51)) (by decide +kernel), List.forall_mem_cons.mpr ⟨z_wd_in (ci := (2, 72)) (by decide +kernel), List.forall_mem_cons.mpr ⟨z_wd_in (ci := (1, 20)) (by decide +kernel), List.forall_mem_cons.mpr ⟨z_wd_in (ci := (7, 21)) (by decide +kernel), List.forall_mem_nil _⟩⟩⟩⟩⟩⟩⟩⟩⟩⟩⟩⟩⟩
theorem z_KD {s : State} {args : Array Value} (hts : ∀ w ∈ z_ts, w.before args s = true) : ∃ D : va_G, ∀ (c : Nat) (q : vw_C), z_cl[c]? = some q → u_Kn s q.1 q.2.1 q.2.2 (D.1 c) (D.2 c) := by
  have h : ∀ c : Nat, ∃ x : ClassId × (Nat → Nat), ∀ q, z_cl[c]? = some q → u_Kn s q.1 q.2.1 q.2.2 x.1 x.2 := by
    intro c
    cases hq : z_cl[c]? with
    | none => exact ⟨(0, fun _ => 0), fun q hq' => by cases hq'⟩
    | some q =>
      have hm := List.mem_of_getElem? hq
      obtain ⟨cC, iS, h⟩ := u_known (C := q.1) (T := q.2.1) (N := q.2.2) hts (z_cl_ws q hm) (hts _ (z_cl_in q hm))
      exact ⟨(cC, iS), fun q' e => by cases e; exact h⟩
  exact ⟨(fun c => (Classical.choose (h c)).1, fun c => (Classical.choose (h c)).2), fun c q hq => Classical.choose_spec (h c) q hq⟩
theorem z_arrC {s : State} {args : Array Value} {ty : FieldType} (h : (Cond.arrayClass ty).before args s = true) : ∃ cA, ArrOfT s cA ty ∧ s.vm.findClass ("[" ++ ty.toString) = some cA := by
  obtain ⟨cA, kA, comp, h1, h2, h3⟩ := Cond.arrayClass_spec h
  exact ⟨cA, fun n z => ⟨fun k h => (by cases h), kA, h2, comp, h3⟩, h1⟩
theorem z_hel86901 : ∀ j, j < 8 → Cond.eq (.elem (.static "DayMuseum$Town" "WAY_X" "[I") (.int (Int32.ofNat j))) (.int (Int32.ofInt (z_cv 86901 (Int.ofNat j)))) ∈ flatC (Jvm.Cond.and given_1 narrow_1) := by decide +kernel
theorem z_hel86902 : ∀ j, j < 8 → Cond.eq (.elem (.static "DayMuseum$Town" "WAY_Y" "[I") (.int (Int32.ofNat j))) (.int (Int32.ofInt (z_cv 86902 (Int.ofNat j)))) ∈ flatC (Jvm.Cond.and given_1 narrow_1) := by decide +kernel
theorem z_hel67903 : ∀ j, j < 6 → Cond.eq (.elem (.static "DayMuseum$Law" "NAMES" "[C") (.int (Int32.ofNat j))) (.int (Int32.ofInt (z_cv 67903 (Int.ofNat j)))) ∈ flatC (Jvm.Cond.and given_1 narrow_1) := by decide +kernel
theorem z_setup {s : State} {args : Array Value} {A : Nat → Prop} (hts0 : ∀ w ∈ lw_tbl, w.before args s = true) (hgv : (Jvm.Cond.and given_1 narrow_1).before args s = true) (hA : ∀ a : Nat, a < s.heap.size → ¬ A a) : ∃ cx : z_C, va_K cx.1 z_cl (z_tys cx) s ∧ z_St cx A s s.heap := by
  have hts : ∀ w ∈ z_ts, w.before args s = true := fun w h => hts0 w (z_ts_good w h).1
  have hs := flat_of_before _ hgv
  obtain ⟨D, hD⟩ := z_KD hts
  obtain ⟨c1, a1, b1⟩ := z_arrC (ty := .int) (hts _ z_ac1)
  obtain ⟨c2, a2, b2⟩ := z_arrC (ty := .long) (hts _ z_ac2)
  obtain ⟨c3, a3, b3⟩ := z_arrC (ty := .byte) (hts _ z_ac3)
  obtain ⟨c4, a4, b4⟩ := z_arrC (ty := .boolean) (hts _ z_ac4)
  obtain ⟨t86901, ht86901, hT86901⟩ := va_Tof (tm := (.static "DayMuseum$Town" "WAY_X" "[I")) (ty := .int) (N := 8) (f := fun j => .int (Int32.ofInt (z_cv 86901 (Int.ofNat j)))) (A := A) (by decide) (hs _ (by decide +kernel)) (va_eqt (hs _ (by decide +kernel))) (fun j hj => va_eqt (hs _ (z_hel86901 j hj))) hA
  obtain ⟨t86902, ht86902, hT86902⟩ := va_Tof (tm := (.static "DayMuseum$Town" "WAY_Y" "[I")) (ty := .int) (N := 8) (f := fun j => .int (Int32.ofInt (z_cv 86902 (Int.ofNat j)))) (A := A) (by decide) (hs _ (by decide +kernel)) (va_eqt (hs _ (by decide +kernel))) (fun j hj => va_eqt (hs _ (z_hel86902 j hj))) hA
  obtain ⟨t67903, ht67903, hT67903⟩ := va_Tof (tm := (.static "DayMuseum$Law" "NAMES" "[C")) (ty := .char) (N := 6) (f := fun j => .int (Int32.ofInt (z_cv 67903 (Int.ofNat j)))) (A := A) (by decide) (hs _ (by decide +kernel)) (va_eqt (hs _ (by decide +kernel))) (fun j hj => va_eqt (hs _ (z_hel67903 j hj))) hA
  refine ⟨(D, (fun k => if k = 1 then c1 else if k = 2 then c2 else if k = 3 then c3 else c4, fun k => if k = 86901 then t86901 else if k = 86902 then t86902 else t67903)), ⟨hD, ?_⟩, ?_, ?_⟩
  · intro k q hk
    have hk4 : k < 4 := (List.getElem?_eq_some_iff.mp hk).1
    have : k = 0 ∨ k = 1 ∨ k = 2 ∨ k = 3 := by omega
    rcases this with rfl | rfl | rfl | rfl
    · cases hk; exact ⟨a1, b1⟩
    · cases hk; exact ⟨a2, b2⟩
    · cases hk; exact ⟨a3, b3⟩
    · cases hk; exact ⟨a4, b4⟩
  · intro k hk
    simp only [z_cons, List.mem_cons, List.not_mem_nil, or_false] at hk
    rcases hk with rfl | rfl | rfl
    · exact ⟨va_Zof (hts0 (.laysStatic "DayMuseum$Town" "WAY_X" "[I") (z_word_mem (c := 1) (i := 72) (of_decide_eq_true (by decide +kernel)))) (hts _ (z_wd_in (ci := (1, 3)) (by decide +kernel))) ht86901 hA, hT86901⟩
    · exact ⟨va_Zof (hts0 (.laysStatic "DayMuseum$Town" "WAY_Y" "[I") (z_word_mem (c := 1) (i := 74) (of_decide_eq_true (by decide +kernel)))) (hts _ (z_wd_in (ci := (1, 3)) (by decide +kernel))) ht86902 hA, hT86902⟩
    · exact ⟨va_Zof (hts0 (.laysStatic "DayMuseum$Law" "NAMES" "[C") (z_word_mem (c := 1) (i := 133) (of_decide_eq_true (by decide +kernel)))) (hts _ (z_wd_in (ci := (1, 6)) (by decide +kernel))) ht67903 hA, hT67903⟩
  · intro w hw
    simp only [z_nest, List.mem_cons, List.not_mem_nil, or_false] at hw
    rcases hw with rfl | rfl | rfl | rfl | rfl | rfl | rfl | rfl | rfl
    · exact va_Nw.of rfl (hts0 _ (z_word_mem (c := 1) (i := 29) (of_decide_eq_true (by decide +kernel))))
    · exact va_Nw.of rfl (hts0 _ (z_word_mem (c := 1) (i := 128) (of_decide_eq_true (by decide +kernel))))
    · exact va_Nw.of rfl (hts0 _ (z_word_mem (c := 2) (i := 154) (of_decide_eq_true (by decide +kernel))))
    · exact va_Nw.of rfl (hts0 _ (z_word_mem (c := 3) (i := 77) (of_decide_eq_true (by decide +kernel))))
    · exact va_Nw.of rfl (hts0 _ (z_word_mem (c := 3) (i := 107) (of_decide_eq_true (by decide +kernel))))
    · exact va_Nw.of rfl (hts0 _ (z_word_mem (c := 5) (i := 105) (of_decide_eq_true (by decide +kernel))))
    · exact va_Nw.of rfl (hts0 _ (z_word_mem (c := 5) (i := 136) (of_decide_eq_true (by decide +kernel))))
    · exact va_Nw.of rfl (hts0 _ (z_word_mem (c := 6) (i := 162) (of_decide_eq_true (by decide +kernel))))
    · exact va_Nw.of rfl (hts0 _ (z_word_mem (c := 6) (i := 163) (of_decide_eq_true (by decide +kernel))))
theorem z_P_perm {D : va_G} {cl : List vw_C} {ws ws' : va_W} {H : Heap} (h : ws.Perm ws') (hP : va_P D cl ws H) : va_P D cl ws' H := by
  intro k q hk
  obtain ⟨i, hi⟩ := List.getElem?_of_mem (h.mem_iff.mpr (List.mem_of_getElem? hk))
  exact hP i q hi
theorem z_D_perm {A : Nat → Prop} {ws ws' : va_W} (h : ws.Perm ws') (hD : va_D A ws) : va_D A ws' := by
  have hn : (ws.map (fun q => q.1)).Nodup := by
    rw [List.Nodup, List.pairwise_iff_getElem]
    intro i j hi hj hij e
    rw [List.getElem_map, List.getElem_map] at e
    have := hD.1 i j _ _ (List.getElem?_eq_getElem (by rw [List.length_map] at hi; exact hi)) (List.getElem?_eq_getElem (by rw [List.length_map] at hj; exact hj)) e
    omega
  have hn' := (h.map (fun q => q.1)).nodup_iff.mp hn
  rw [List.Nodup, List.pairwise_iff_getElem] at hn'
  refine ⟨fun i j p q hi hj e => ?_, fun k q hk => ?_⟩
  · obtain ⟨hi1, hi2⟩ := List.getElem?_eq_some_iff.mp hi
    obtain ⟨hj1, hj2⟩ := List.getElem?_eq_some_iff.mp hj
    rcases Nat.lt_trichotomy i j with g | g | g
    · exact absurd (by rw [List.getElem_map, List.getElem_map, hi2, hj2]; exact e) (hn' i j (by rw [List.length_map]; exact hi1) (by rw [List.length_map]; exact hj1) g)
    · exact g
    · exact absurd (by rw [List.getElem_map, List.getElem_map, hi2, hj2]; exact e.symm) (hn' j i (by rw [List.length_map]; exact hj1) (by rw [List.length_map]; exact hi1) g)
  · obtain ⟨i, hi⟩ := List.getElem?_of_mem (h.mem_iff.mpr (List.mem_of_getElem? hk))
    exact hD.2 i q hi
def z_all2 : List Nat := ([] ++ 1 :: z_iGDM) ++ 13 :: z_iGDayMuseumModel
theorem z_all_perm : z_all2.Perm z_all := by decide +kernel
set_option maxRecDepth 100000 in
theorem z_go {p : Program} {e : Env} {s : State} {m : MethodId} {below : List Frame} {meth : Method} {c : Code} (l : Launch) {b L : Nat} {xs : Nat → Int32} (hL : L ≤ 3584) (C0 : lw_At p s m meth c b L xs) {d : Nat} (hR : d + 2 ≤ 2048 ∧ 64 * (d + 2) ≤ 84000) (Inv : Nat → z_M → Prop) (h0 : ∀ M, z_PM z_all M → z_MR 0 M → Inv 0 M)
    (hcase : ∀ (k : Nat) (M : z_M), 7 * k + 7 ≤ L → Inv k M → ∀ (a1 a2 a3 a4 a5 a6 : Int), z_i32 a1 → z_i32 a2 → z_i32 a3 → z_i32 a4 → z_i32 a5 → z_i32 a6 → ∀ op, op < 64 → z_case d (Inv (k + 1)) M a1 a2 a3 a4 a5 a6 op) :
    W p l e room_1 s m #[Value.ref b] below meth c s.heap [] 0 0 (lw_Z below #[Value.ref b] s) (entryFrame m ([Value.ref b] : List Value).toArray 4) := by
  obtain ⟨hx, hb, hr, hml, hown, hts0, hX, hbl, hlocks, hgv⟩ := id C0
  have hts : ∀ w ∈ z_ts, w.before #[Value.ref b] s = true := fun w h => hts0 w (z_ts_good w h).1
  obtain ⟨cx, hK, hSt⟩ := z_setup (A := fun q => s.heap.size ≤ q) hts0 hgv (fun a h => by omega)
  have hA : ∀ q, s.heap.size ≤ q → (fun q => s.heap.size ≤ q) q := fun _ h => h
  have hS : va_S (fun q => s.heap.size ≤ q) s.heap s.heap [] := va_S.rf
  have hP : va_P cx.1 z_cl ([] ++ z_wg [] (z_cxa cx cx.2.2) (fun _ _ => 0)) s.heap := fun k q h => by cases h
  have hD : va_D (fun q => s.heap.size ≤ q) ([] ++ z_wg [] (z_cxa cx cx.2.2) (fun _ _ => 0)) := ⟨fun i j p q h => by (cases h), fun k q h => by cases h⟩
  have hl := lv_entry ([.ref b]) (n := 4) (Nat.le_of_ble_eq_true rfl)
  rw [lg_entry_eq]
  generalize (lg_sl ([.ref b]) ++ List.replicate (4 - (lg_sl ([.ref b])).length) Slot.unset).toArray = ls at hl ⊢
  refine z_newO (own := R_law) hx hb hts hown hK hA (ci := 11) (q := ("DayMuseum", z_T11, 12)) rfl (fs := [.null, .null, .null, .null, .null, .null, .null, .null, .null, .null, .null, .int 0]) (by decide +kernel) (lk1 := (1, 19)) (by decide +kernel) (lk2 := (1, 20)) (by decide +kernel) (lk3 := (1, 1)) (by decide +kernel) hP hD hS (Nat.le_of_ble_eq_true rfl) (Nat.le_of_ble_eq_true rfl) (z_ldc z_lc0_ok 0 (q := (0, (.new 7, 3))) rfl) (fun q1 H hP hD hS => ?_)
  refine lv_dup hx hb (z_ldc z_lc0_ok 1 (q := (3, (.dup, 1))) rfl) rfl ?_
  refine z_ctorI (own := R_law) (host := "DayMuseum") (lkl := (1, 21)) (lkc := (1, 23)) (lki := (1, 1)) (lkm := (1, 22)) (n := 0) (D := []) (G := z_iGDM) (o := 1) (f := cx.2.2) (M := fun _ _ => 0) (ws1 := []) hx hb (hl.1.trans hml.symm) hown hts hK hSt hA (z_inDM l (z_cxa cx (z_fset cx.2.2 1 q1)) H.size) (As := []) rfl (Or.inl (by decide +kernel)) (z_wd_mk rfl rfl) (by decide +kernel) (by decide +kernel) rfl (by decide +kernel) rfl ⟨rfl, rfl⟩ ⟨Nat.le_of_ble_eq_true rfl, Nat.le_of_ble_eq_true rfl⟩ ⟨Nat.le_of_ble_eq_true rfl, Nat.le_of_ble_eq_true rfl⟩ (fun k hk => rfl) (by decide) (by decide +kernel) (Nat.zero_le _) hP hD hS (fun k hk => by cases hk) (st := [.ref q1]) (Nat.le_of_ble_eq_true rfl) rfl (z_ldc z_lc0_ok 2 (q := (4, (.invokespecial 9, 3))) rfl) (fun f1 M1 H locs e1 e2 e3 hMR hP hD hS => ?_)
  have hPM : z_PM ([] ++ 1 :: z_iGDM) (z_mj [] (fun _ _ => 0) M1) := z_PMj (fun k hk => by cases hk) e3
  generalize z_mj [] (fun _ _ => 0) M1 = M2 at hMR hP hD hPM
  refine lv_astore_n hx hb (z_ldc z_lc0_ok 3 (q := (7, (.astore_n 1, 1))) rfl) rfl hl (by decide) rfl (fun ls hl => ?_)
  refine z_newO (own := R_law) hx hb hts hown hK hA (ci := 12) (q := ("DayMuseumModel", z_T12, 107)) rfl (fs := [.null, .int 0, .int 0, .int 0, .int 0, .int 0, .int 0, .int 0, .int 0, .null, .null, .null, .null, .null, .null, .null, .null, .int 0, .null, .null, .null, .int 0, .int 0, .null, .null, .null, .null, .null, .null, .int 0, .null, .null, .null, .null, .null, .null, .int 0, .int 0, .null, .int 0, .int 0, .int 0, .int 0, .int 0, .int 0, .null, .null, .null, .int 0, .int 0, .null, .null, .null, .null, .null, .null, .int 0, .int 0, .null, .int 0, .null, .null, .int 0, .int 0, .null, .null, .int 0, .int 0, .null, .int 0, .null, .null, .null, .int 0, .int 0, .int 0, .null, .null, .null, .null, .null, .int 0, .null, .null, .null, .null, .null, .null, .null, .null, .null, .null, .null, .null, .null, .null, .null, .null, .int 0, .null, .int 0, .null, .null, .null, .null, .int 0, .int 0]) (by decide +kernel) (lk1 := (7, 20)) (by decide +kernel) (lk2 := (7, 21)) (by decide +kernel) (lk3 := (1, 14)) (by decide +kernel) hP hD hS (Nat.le_of_ble_eq_true rfl) (Nat.le_of_ble_eq_true rfl) (z_ldc z_lc0_ok 4 (q := (8, (.new 10, 3))) rfl) (fun q13 H hP hD hS => ?_)
  refine lv_dup hx hb (z_ldc z_lc0_ok 5 (q := (11, (.dup, 1))) rfl) rfl ?_
  refine z_ctorI (own := R_law) (host := "DayMuseum") (lkl := (7, 22)) (lkc := (7, 24)) (lki := (1, 14)) (lkm := (7, 23)) (n := 0) (D := [] ++ 1 :: z_iGDM) (G := z_iGDayMuseumModel) (o := 13) (f := f1) (M := M2) (ws1 := []) hx hb (hl.1.trans hml.symm) hown hts hK hSt hA (z_inDayMuseumModel l (z_cxa cx (z_fset f1 13 q13)) H.size) (As := []) rfl (Or.inl (by decide +kernel)) (z_wd_mk rfl rfl) (by decide +kernel) (by decide +kernel) rfl (by decide +kernel) rfl ⟨rfl, rfl⟩ ⟨Nat.le_of_ble_eq_true rfl, Nat.le_of_ble_eq_true rfl⟩ ⟨Nat.le_of_ble_eq_true rfl, Nat.le_of_ble_eq_true rfl⟩ (fun k hk => e1 k (by revert k; decide +kernel)) (by decide) (by decide +kernel) (Nat.zero_le _) hP hD hS hMR (st := [.ref q13]) (Nat.le_of_ble_eq_true rfl) rfl (z_ldc z_lc0_ok 6 (q := (12, (.invokespecial 12, 3))) rfl) (fun f2 M3 H locs g1 g2 g3 hMR hP hD hS => ?_)
  have hPM2 : z_PM z_all2 (z_mj ([] ++ 1 :: z_iGDM) M2 M3) := z_PMj hPM (fun k hk _ j => g3 k hk j)
  generalize z_mj ([] ++ 1 :: z_iGDM) M2 M3 = M at hMR hP hD hPM2
  refine lv_astore_n hx hb (z_ldc z_lc0_ok 7 (q := (15, (.astore_n 2, 1))) rfl) rfl hl (by decide) rfl (fun ls hl => ?_)
  refine lv_iconst hx hb (z_ldc z_lc0_ok 8 (q := (16, (.iconst 0, 1))) rfl) rfl ?_
  refine lv_istore_n hx hb (z_ldc z_lc0_ok 9 (q := (17, (.istore_n 3, 1))) rfl) rfl hl (by decide) rfl (fun ls hl => ?_)
  have hf1 : f2 1 = q1 := (g1 1 (by decide +kernel)).trans e2
  have hpw : (z_wg z_all2 (z_cxa cx f2) M).Perm (z_ws 0 (z_cxa cx f2) M) := z_all_perm.map _
  have hP2 : va_P (z_cxa cx f2).1 z_cl (z_ws 0 (z_cxa cx f2) M) H := z_P_perm hpw hP
  have hD2 : va_D (fun q => s.heap.size ≤ q) (z_ws 0 (z_cxa cx f2) M) := z_D_perm hpw hD
  have hadr : ∀ k ∈ z_all, s.heap.size ≤ (z_cxa cx f2).2.2 k := by
    intro k hk
    obtain ⟨i, hi⟩ := List.getElem?_of_mem hk
    exact hD2.2 i (f2 k, z_cell (z_cxa cx f2) M k) (by unfold z_ws; show ((z_all).map _)[i]? = _; rw [List.getElem?_map, hi]; rfl)
  have hAe : z_A 0 (z_cxa cx f2) s.heap.size = fun q => s.heap.size ≤ q := by
    funext q
    apply propext
    constructor
    · intro h
      rcases h with ⟨k, hk, rfl⟩ | h
      · exact hadr k hk
      · exact h
    · intro h; exact Or.inr h
  have hfc : ∀ k ∈ z_cons, f2 k = cx.2.2 k := fun k hk => (g1 k (by revert k; decide +kernel)).trans (e1 k (by revert k; decide +kernel))
  have F : z_lfix (z_cxa cx f2) p s m meth c b L xs := ⟨C0, hL, hK, by rw [hAe]; exact z_St_cxa hfc hSt, hadr⟩
  have Cf : z_lcfg (z_cxa cx f2) s H locs M := ⟨hP2, by rw [hAe]; exact hD2, by rw [hAe]; exact hS, fun k hk => hMR k (z_all_perm.mem_iff.mpr hk)⟩
  refine lw_loop F hR ⟨Nat.le_of_ble_eq_true rfl, Nat.le_of_ble_eq_true rfl⟩ Inv hcase (L + 8) 0 M H locs ls (by omega) (by omega) (h0 M (fun k hk => hPM2 k (z_all_perm.mem_iff.mpr hk)) Cf.2.2.2) Cf ?_
  refine lv_sub hl [3, 2, 1, 0] ?_
  show lv_pick _ _ = [(0, Value.ref b), (1, .ref (f2 1)), (2, .ref (f2 13)), (3, .int (nI (7 * 0)))]
  rw [hf1, g2]
  rfl
