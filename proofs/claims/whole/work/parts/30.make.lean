/-! OBJECTS MADE: new, and a constructor called; worlds joined -/
def z_fset (f : Nat → Nat) (o q : Nat) (k : Nat) : Nat := if k = o then q else f k
def z_mj (D : List Nat) (M M' : z_M) : z_M := fun k => if k ∈ D then M k else M' k
def z_sepG (D E : List Nat) : Bool := D.all (fun k => !E.contains k && (!Nat.beq (z_knd k) 0 || (z_fts k).all (fun t => Nat.beq t 0 || !E.contains t)))
theorem z_cell_cg {cx : z_C} {f f' : Nat → Nat} {M M' : z_M} {k : Nat} (hM : M' k = M k) (hf : z_knd k = 0 → ∀ t ∈ z_fts k, t ≠ 0 → f' t = f t) : z_cell (z_cxa cx f') M' k = z_cell (z_cxa cx f) M k := by
  by_cases h : z_knd k = 0
  · rw [z_cell_obj h, z_cell_obj h]
    congr 2
    unfold z_flds
    apply List.map_congr_left
    intro q hq
    have hq1 : q.1 ∈ z_fts k := by
      have := List.fst_mem_of_mem_zipIdx (show (q.1, q.2) ∈ (z_fts k).zipIdx from hq)
      exact this
    unfold z_fld
    rw [hM]
    by_cases h0 : q.1 = 0
    · rw [if_pos h0, if_pos h0]
    · rw [if_neg h0, if_neg h0]
      show Value.ref (f' q.1) = Value.ref (f q.1)
      rw [hf h q.1 hq1 h0]
  · unfold z_cell
    rw [if_neg h, if_neg h, hM]
    rfl
theorem z_wg_cg {cx : z_C} {f f' : Nat → Nat} {M M' : z_M} {D E : List Nat} (hs : z_sepG D E = true) (hM : ∀ k ∈ D, M' k = M k) (hf : ∀ k, k ∉ E → f' k = f k) : z_wg D (z_cxa cx f') M' = z_wg D (z_cxa cx f) M := by
  unfold z_wg
  apply List.map_congr_left
  intro k hk
  have h := List.all_eq_true.mp hs k hk
  simp only [Bool.and_eq_true, Bool.or_eq_true, Bool.not_eq_true'] at h
  have h1 : k ∉ E := fun z => by
    have := List.contains_iff_mem.mpr z
    rw [this] at h
    cases h.1
  have e1 : f' k = f k := hf k h1
  show (f' k, z_cell (z_cxa cx f') M' k) = (f k, z_cell (z_cxa cx f) M k)
  rw [e1, z_cell_cg (hM k hk)]
  intro h0 t ht ht0
  rcases h.2 with h2 | h2
  · rw [h0] at h2; cases h2
  · have h3 := List.all_eq_true.mp h2 t ht
    simp only [Bool.or_eq_true, Bool.not_eq_true'] at h3
    rcases h3 with h3 | h3
    · exact absurd (Nat.eq_of_beq_eq_true h3) ht0
    · exact hf t (fun z => by rw [List.contains_iff_mem.mpr z] at h3; cases h3)
theorem z_mj_in {D : List Nat} {M M' : z_M} {k : Nat} (h : k ∈ D) : z_mj D M M' k = M k := if_pos h
theorem z_mj_out {D : List Nat} {M M' : z_M} {k : Nat} (h : k ∉ D) : z_mj D M M' k = M' k := if_neg h
theorem z_wg_app (G1 G2 : List Nat) (cx : z_C) (M : z_M) : z_wg (G1 ++ G2) cx M = z_wg G1 cx M ++ z_wg G2 cx M := List.map_append
theorem z_blindI {cx : z_C} {o sz : Nat} {fs av : List Value} : FrameBlind (va_Pc av (z_IP cx o fs sz)) := by
  intro a U g mk h
  obtain ⟨h1, h2, h3, h4, h5, h6⟩ := h
  exact ⟨h1, h2, h3, va_K.moved (u := U) (U := U.calling g mk a) (Vm.Alike.refl U.vm) h4, h5, z_St.same (U := U) (V := U.calling g mk a) h6 rfl⟩
theorem z_goodin {lk : Nat × Nat} {w : Cond} (h : z_wd lk w = true) : GoodIn z_ts (w :: z_ts) := by
  intro x hx
  rcases List.mem_cons.mp hx with rfl | hx
  · exact ⟨z_wd_in h, good_of_word (z_ts_good _ (z_wd_in h)).2⟩
  · exact ⟨hx, good_of_word (z_ts_good x hx).2⟩
section MK
variable {p : Program} {l : Launch} {e : Env} {R : Room} {s : State} {m : MethodId} {args : Array Value} {below : List Frame} {meth : Method} {c : Code} {H : Heap} {locs : List Loc} {cells slots : Nat} {Q : State → Prop} {cc : ByteArray} {ls : Array Slot} {cx : z_C} {A : Nat → Prop} {own : String}
theorem z_newO (hx : p.tables.exec = Jvm.exec) (hb : c.code = cc) (hts : ∀ w ∈ z_ts, w.before args s = true) (hown : s.vm.findClass own = some m.cls) (hK : va_K cx.1 z_cl (z_tys cx) s) (hA : ∀ q, s.heap.size ≤ q → A q) {ci : Nat} {q : vw_C} (hc : z_cl[ci]? = some q) {fs : List Value} (hfs : ∀ j, j < q.2.2 → defaultValue ((parseFieldDescriptor (q.2.1 j).2.2.1).getD .int) = vp_V fs j) {ix pc : Nat} {lk1 lk2 lk3 : Nat × Nat} (w1 : z_wd lk1 (.classLink own ix q.1) = true) (w2 : z_wd lk2 (.instantiable q.1 q.2.2) = true) (w3 : z_wd lk3 (.initialized q.1) = true) {ws : va_W} {st : List Value}
    (hP : va_P cx.1 z_cl ws H) (hD : va_D A ws) (hS : va_S A s.heap H locs) (hcells : cells + 1 ≤ R.cells) (hslots : slots + q.2.2 ≤ R.slots) (hd : decode cc pc = .ok (.new ix, 3))
    (kk : ∀ (a : Nat) (H1 : Heap), va_P cx.1 z_cl (ws ++ [(a, .inr (ci, fs))]) H1 → va_D A (ws ++ [(a, .inr (ci, fs))]) → va_S A s.heap H1 locs → W p l e R s m args below meth c H1 locs (cells + 1) (slots + q.2.2) Q (F0 m (pc + 3) ls (.ref a :: st))) : W p l e R s m args below meth c H locs cells slots Q (F0 m pc ls st) := by
  have hqm := List.mem_of_getElem? hc
  exact va_new (own := own) (C := q.1) (T := q.2.1) (N := q.2.2) hx hb hts (z_cl_ws q hqm) _ (z_cl_ty q hqm) hown (hts _ (z_wd_in w1)) (hts _ (z_wd_in w2)) (hts _ (z_wd_in w3)) hK hP hD hS hA hc hfs hcells hslots hd kk
theorem z_ctorI (hx : p.tables.exec = Jvm.exec) (hb : c.code = cc) (hml : ls.size = c.maxLocals) (hown : s.vm.findClass own = some m.cls) (hts : ∀ w ∈ z_ts, w.before args s = true) (hK : va_K cx.1 z_cl (z_tys cx) s) (hSt : z_St cx A s s.heap) (hA : ∀ q, s.heap.size ≤ q → A q)
    {o q mc ms maxL n ix pc : Nat} {G D : List Nat} {P : z_M → Prop} {f : Nat → Nat} {M : z_M} {ws1 : va_W} {fs0 As av : List Value} {y : MethodName} {bytes : ByteArray} {host : String} {lkc lki lkm lkl : Nat × Nat} {rm : Room}
    (hM : Met l y (.code y bytes maxL none :: z_ts) rm (va_Pc av (z_IP (z_cxa cx (z_fset f o q)) o fs0 H.size)) (z_IQ (z_cxa cx (z_fset f o q)) o G P H.size) mc ms (z_IA (z_cxa cx (z_fset f o q)) o H.size)) (hav : av = .ref q :: As)
    (hl : z_wd lkl (.methodLink own ix y) = true ∨ va_Nw (.methodLinkNest own ix y host) s) (hcw : z_wd lkc (.code y bytes maxL none) = true) (hin : z_wd lkm (.instanceMethod y) = true) (hini : z_wd lki (.initialized y.cls) = true) (hy : y.name = "<init>") (hyd : y.cls ≠ "java/lang/invoke/MethodHandle" ∧ y.cls ≠ "java/lang/invoke/VarHandle" ∧ (parseMethodDescriptor y.desc).map (fun d => d.parameters.length) = some n) (hn : As.length = n) (hrm : rm.cells = mc ∧ rm.slots = ms) (hRm : rm.frames + 1 ≤ R.frames ∧ 8 + (maxL + 11) + rm.locals ≤ R.locals) (hcs : cells + mc ≤ R.cells ∧ slots + ms ≤ R.slots)
    (hfc : ∀ k ∈ z_cons, f k = cx.2.2 k) (hoc : o ∉ z_cons) (hsep : z_sepG D (o :: G) = true) (hD1 : ws1.length ≤ 1)
    (hP : va_P cx.1 z_cl ((ws1 ++ z_wg D (z_cxa cx f) M) ++ [(q, .inr (z_cix o, fs0))]) H) (hD : va_D A ((ws1 ++ z_wg D (z_cxa cx f) M) ++ [(q, .inr (z_cix o, fs0))])) (hS : va_S A s.heap H locs) (hMR : z_MRg D M) {st : List Value} (hst : (st.map fun v => v.category).sum ≤ 8) {stk : List Value} (hstk : stk = As.reverse ++ .ref q :: st) (hd : decode cc pc = .ok (.invokespecial ix, 3))
    (kk : ∀ (f' : Nat → Nat) (M' : z_M) (H1 : Heap) (locs1 : List Loc), (∀ k, k ∉ o :: G → f' k = f k) → f' o = q → P M' → z_MRg (D ++ o :: G) (z_mj D M M') → va_P cx.1 z_cl (ws1 ++ z_wg (D ++ o :: G) (z_cxa cx f') (z_mj D M M')) H1 → va_D A (ws1 ++ z_wg (D ++ o :: G) (z_cxa cx f') (z_mj D M M')) → va_S A s.heap H1 locs1 → W p l e R s m args below meth c H1 locs1 (cells + mc) (slots + ms) Q (F0 m (pc + 3) ls st)) : W p l e R s m args below meth c H locs cells slots Q (F0 m pc ls stk) := by
  subst hstk hav
  have eo : z_fset f o q o = q := if_pos rfl
  have hix : ((ws1 ++ z_wg D (z_cxa cx f) M) ++ [((q, .inr (z_cix o, fs0)) : Nat × va_E)])[(ws1 ++ z_wg D (z_cxa cx f) M).length]? = some (q, .inr (z_cix o, fs0)) := by
    rw [List.getElem?_append_right (Nat.le_refl _)]; simp
  have hqA : A q := hD.2 _ _ hix
  have hqH : q < H.size := (hP _ _ hix).lt
  have hIA : ∀ x, z_IA (z_cxa cx (z_fset f o q)) o H.size x → A x := by
    intro x hx
    rcases hx with h | h
    · rw [h]; show A (z_fset f o q o); rw [eo]; exact hqA
    · exact hA _ (Nat.le_trans hS.1 h)
  have hpre : PreS s H (va_Pc (.ref q :: As) (z_IP (z_cxa cx (z_fset f o q)) o fs0 H.size)) (.ref q :: As) := by
    refine ⟨z_blindI, fun U hU hW => ⟨rfl, by rw [hU], ?_, va_K.moved hW.alike hK, ?_, ?_⟩⟩
    · rw [hU]
      intro k x hk
      have hk0 : k < 1 := (List.getElem?_eq_some_iff.mp hk).1
      rw [show k = 0 by omega] at hk
      cases hk
      have := hP _ _ hix
      show va_at cx.1 z_cl (z_fset f o q o, .inr (z_cix o, fs0)) H
      rw [eo]
      exact this
    · refine ⟨fun i j a b hi hj _ => ?_, fun k x hk => ?_⟩
      · have h1 : i < 1 := (List.getElem?_eq_some_iff.mp hi).1
        have h2 : j < 1 := (List.getElem?_eq_some_iff.mp hj).1
        omega
      · have hk0 : k < 1 := (List.getElem?_eq_some_iff.mp hk).1
        rw [show k = 0 by omega] at hk
        cases hk
        exact Or.inl rfl
    · subst hU
      refine z_St_cxa (fun k hk => ?_) (hSt.warm hW (fun a h1 h2 => hS.2.1 a h1 h2) hIA)
      show z_fset f o q k = _
      unfold z_fset
      rw [if_neg (fun e : k = o => hoc (by rw [← e]; exact hk))]
      exact hfc k hk
  have hG := z_goodin hcw
  have hr : va_Run p l e R s m args below meth c H locs cells slots mc ms (F0 m pc ls (As.reverse ++ .ref q :: st)) st (z_IQ (z_cxa cx (z_fset f o q)) o G P H.size (Value.ref q :: As).toArray) (z_IA (z_cxa cx (z_fset f o q)) o H.size) := by
    rcases hl with hl | hl
    · exact va_runI (own := own) ⟨hx, hb, hml.symm, hown, hts⟩ hM (cwI n hts hG rfl hrm.1 hrm.2 (hts _ (z_wd_in hini)) (hts _ (z_wd_in hl)) (hts _ (z_wd_in hin)) hy hyd hRm) hpre rfl hn rfl rfl (lv_room hst) hd hcs
    · exact va_runIN (own := own) ⟨hx, hb, hml.symm, hown, hts⟩ hM ⟨va_cnB n hts hG rfl hrm.1 hrm.2 hl (hts _ (z_wd_in hini)) hyd hRm, hy, hts _ (z_wd_in hin)⟩ hpre rfl hn rfl rfl (lv_room hst) hd hcs
  intro T hT X
  obtain ⟨v, st₀, t, T', L, h0, X', hL, e1, e2, ⟨⟨f', M', hv, hf, hfo, hPM, hMR2, hP1, hD2⟩, hz, hk⟩, stp⟩ := hr T hT X
  cases hv
  rw [h0] at hz hk
  have hfo' : f' o = q := hfo.trans eo
  have hff : ∀ k, k ∉ o :: G → f' k = f k := by
    intro k hk
    have h1 : k ≠ o := fun e => hk (by rw [e]; exact List.mem_cons_self)
    have h2 : k ∉ G := fun z => hk (List.mem_cons_of_mem _ z)
    refine (hf k h2).trans ?_
    show z_fset f o q k = f k
    exact if_neg h1
  have hDn : ∀ k ∈ o :: G, k ∉ D := by
    intro k hk hkD
    have h := List.all_eq_true.mp hsep k hkD
    simp only [Bool.and_eq_true, Bool.not_eq_true'] at h
    rw [List.contains_iff_mem.mpr hk] at h
    cases h.1
  have eW1 : z_wg D (z_cxa cx f') (z_mj D M M') = z_wg D (z_cxa cx f) M := z_wg_cg hsep (fun k hk => z_mj_in hk) hff
  have eW2 : z_wg (o :: G) (z_cxa cx f') (z_mj D M M') = z_wg (o :: G) (z_cxa cx f') M' := by
    unfold z_wg
    apply List.map_congr_left
    intro k hk
    show (f' k, z_cell (z_cxa cx f') (z_mj D M M') k) = (f' k, z_cell (z_cxa cx f') M' k)
    rw [z_cell_cg (z_mj_out (hDn k hk)) (fun _ _ _ _ => rfl)]
  have eW : ws1 ++ z_wg (D ++ o :: G) (z_cxa cx f') (z_mj D M M') = (ws1 ++ z_wg D (z_cxa cx f) M) ++ z_wg (o :: G) (z_cxa (z_cxa cx (z_fset f o q)) f') M' := by
    rw [z_wg_app, eW1, eW2, List.append_assoc]; rfl
  generalize hws0 : ws1 ++ z_wg D (z_cxa cx f) M = ws0 at hP hD hix eW
  have at0 : ∀ (k : Nat) (x : Nat × va_E), ws0[k]? = some x → k < ws0.length ∧ (ws0 ++ [((q, .inr (z_cix o, fs0)) : Nat × va_E)])[k]? = some x := by
    intro k x hx
    have hkl := (List.getElem?_eq_some_iff.mp hx).1
    exact ⟨hkl, by rw [List.getElem?_append_left hkl]; exact hx⟩
  have off : ∀ (k : Nat) (x : Nat × va_E), ws0[k]? = some x → x.1 < H.size ∧ ¬ z_IA (z_cxa cx (z_fset f o q)) o H.size x.1 := by
    intro k x hx
    obtain ⟨hkl, hx2⟩ := at0 k x hx
    have h1 : x.1 < H.size := (hP _ _ hx2).lt
    refine ⟨h1, fun z => ?_⟩
    rcases z with z | z
    · have z2 : x.1 = q := z.trans eo
      have := hD.1 _ _ _ _ hx2 hix z2
      omega
    · omega
  have hP2 : va_P cx.1 z_cl (ws0 ++ z_wg (o :: G) (z_cxa (z_cxa cx (z_fset f o q)) f') M') T'.heap := by
    refine va_P.app (fun k x hx => ?_) (by rw [e1]; exact hP1)
    obtain ⟨hkl, hx2⟩ := at0 k x hx
    obtain ⟨g1, g2⟩ := off k x hx
    exact (hP k x hx2).kept (by rw [e1]; exact hk _ g1 g2)
  have hD3 : va_D A (ws0 ++ z_wg (o :: G) (z_cxa (z_cxa cx (z_fset f o q)) f') M') := by
    refine va_D.app ⟨fun i j a b hi hj => hD.1 i j a b (at0 i a hi).2 (at0 j b hj).2, fun k x hx => hD.2 k x (at0 k x hx).2⟩ (hD2.weaken (fun _ x _ z => hIA _ z)) (fun i j a b hi hj hab => ?_)
    have := hD2.2 j b hj
    rw [← hab] at this
    exact (off i a hi).2 this
  have hMR3 : z_MRg (D ++ o :: G) (z_mj D M M') := by
    intro k hk
    by_cases hkD : k ∈ D
    · rw [z_mj_in hkD]; exact hMR k hkD
    · rw [z_mj_out hkD]
      rcases List.mem_append.mp hk with h | h
      · exact absurd h hkD
      · exact hMR2 k h
  obtain ⟨t2, a1, b1⟩ := kk f' M' T'.heap (locs ++ L) hff hfo' hPM hMR3 (by rw [eW]; exact hP2) (by rw [eW]; exact hD3)
    ⟨Nat.le_trans hS.1 (by rw [e1]; exact hz), fun x h1 h2 => by rw [e1, hk x (Nat.lt_of_lt_of_le h1 hS.1) (fun z => h2 (hIA x z))]; exact hS.2.1 x h1 h2, fun x hx => by
      rcases List.mem_append.mp hx with h | h
      · exact hS.2.2 x h
      · exact hIA _ (hL x h)⟩ T' rfl X'
  exact ⟨t2, stp t2 a1, b1⟩
theorem z_putint (hx : p.tables.exec = Jvm.exec) (hb : c.code = cc) (hts : ∀ w ∈ z_ts, w.before args s = true) (hown : s.vm.findClass own = some m.cls) (hK : va_K cx.1 z_cl (z_tys cx) s) {ci : Nat} {q : vw_C} (hc : z_cl[ci]? = some q) {h0 : Nat} {fs : List Value} {rest : va_W} (hfs : fs.length = q.2.2) (hP : va_P cx.1 z_cl ((h0, .inr (ci, fs)) :: rest) H) (hD : va_D A ((h0, .inr (ci, fs)) :: rest)) (hS : va_S A s.heap H locs) {j ix pc : Nat} {lk : Nat × Nat} (hj : j < q.2.2) (hlk : z_wd lk (.fieldLink own ix (q.2.1 j).1 (q.2.1 j).2.1 (q.2.1 j).2.2.1) = true) (hfin : (q.2.1 j).2.2.2 = false) (hty : parseFieldDescriptor (q.2.1 j).2.2.1 = some .boolean) {st : List Value} (hd : decode cc pc = .ok (.putfield ix, 3))
    (kk : ∀ (H1 : Heap) (locs1 : List Loc), va_P cx.1 z_cl ((h0, .inr (ci, fs.set j (.int (Int32.ofInt 0)))) :: rest) H1 → va_D A ((h0, .inr (ci, fs.set j (.int (Int32.ofInt 0)))) :: rest) → va_S A s.heap H1 locs1 → W p l e R s m args below meth c H1 locs1 cells slots Q (F0 m (pc + 3) ls st)) : W p l e R s m args below meth c H locs cells slots Q (F0 m pc ls (.int (Int32.ofInt 0) :: .ref h0 :: st)) := by
  have hqm := List.mem_of_getElem? hc
  exact va_put (own := own) (ref := (q.2.1 j).1) (C := q.1) (T := q.2.1) (N := q.2.2) hx hb hts (z_cl_ws q hqm) _ (z_cl_ty q hqm) (z_cl_nm q hqm) hown hK hP hD hS 0 rfl hc j hj (hts _ (z_wd_in hlk)) (fun _ z => z) hfin hty rfl rfl (by rw [hfs]; exact hj) hd kk
end MK
theorem z_ffj {cx : z_C} {f f' : Nat → Nat} {D E : List Nat} (h1 : ∀ k, k ∉ D → f k = cx.2.2 k) (h2 : ∀ k, k ∉ E → f' k = f k) : ∀ k, k ∉ D ++ E → f' k = cx.2.2 k := fun k hk => (h2 k (fun z => hk (List.mem_append_right _ z))).trans (h1 k (fun z => hk (List.mem_append_left _ z)))
def z_PM (D : List Nat) (M : z_M) : Prop := ∀ k ∈ D, k ≠ 100001017 → ∀ j, M k j = z_M0 (fun _ => 0) k j
theorem z_PMj {D E : List Nat} {M M' : z_M} (h1 : z_PM D M) (h2 : z_PM E M') : z_PM (D ++ E) (z_mj D M M') := by
  intro k hk hn j
  by_cases hkD : k ∈ D
  · rw [z_mj_in hkD]; exact h1 k hkD hn j
  · rw [z_mj_out hkD]
    rcases List.mem_append.mp hk with h | h
    · exact absurd h hkD
    · exact h2 k h hn j
theorem z_PMt {M : z_M} (h : ∀ k, k ≠ 100001017 → ∀ j, M k j = 0) : z_PM (3 :: z_iGTown) M := by
  intro k hk hn j
  rw [h k hn]
  simp only [z_iGTown, List.mem_cons, List.not_mem_nil, or_false] at hk
  rcases hk with rfl | rfl | rfl | rfl <;> first | rfl | exact absurd rfl hn
def z_iyDM : MethodName := ⟨"DayMuseum", "<init>", "()V"⟩
def z_ilDM : List (Nat × (Instr × Nat)) := [(0, (.aload_n 0, 1)), (1, (.invokespecial 3, 3)), (4, (.aload_n 0, 1)), (5, (.new 9, 3)), (8, (.dup, 1)), (9, (.invokespecial 11, 3)), (12, (.putfield 12, 3)), (15, (.aload_n 0, 1)), (16, (.new 16, 3)), (19, (.dup, 1)), (20, (.invokespecial 18, 3)), (23, (.putfield 19, 3)), (26, (.aload_n 0, 1)), (27, (.new 23, 3)), (30, (.dup, 1)), (31, (.aload_n 0, 1)), (32, (.getfield 19, 3)), (35, (.invokespecial 25, 3)), (38, (.putfield 28, 3)), (41, (.aload_n 0, 1)), (42, (.new 32, 3)), (45, (.dup, 1)), (46, (.invokespecial 34, 3)), (49, (.putfield 35, 3)), (52, (.aload_n 0, 1)), (53, (.new 39, 3)), (56, (.dup, 1)), (57, (.aload_n 0, 1)), (58, (.getfield 19, 3)), (61, (.aload_n 0, 1)), (62, (.getfield 28, 3)), (65, (.aload_n 0, 1)), (66, (.getfield 35, 3)), (69, (.invokespecial 41, 3)), (72, (.putfield 44, 3)), (75, (.aload_n 0, 1)), (76, (.new 48, 3)), (79, (.dup, 1)), (80, (.aload_n 0, 1)), (81, (.getfield 28, 3)), (84, (.aload_n 0, 1)), (85, (.getfield 44, 3)), (88, (.invokespecial 50, 3)), (91, (.putfield 53, 3)), (94, (.aload_n 0, 1)), (95, (.new 57, 3)), (98, (.dup, 1)), (99, (.aload_n 0, 1)), (100, (.getfield 28, 3)), (103, (.aload_n 0, 1)), (104, (.getfield 53, 3)), (107, (.invokespecial 59, 3)), (110, (.putfield 62, 3)), (113, (.aload_n 0, 1)), (114, (.new 66, 3)), (117, (.dup, 1)), (118, (.aload_n 0, 1)), (119, (.getfield 28, 3)), (122, (.aload_n 0, 1)), (123, (.getfield 44, 3)), (126, (.aload_n 0, 1)), (127, (.getfield 62, 3)), (130, (.invokespecial 68, 3)), (133, (.putfield 71, 3)), (136, (.aload_n 0, 1)), (137, (.new 75, 3)), (140, (.dup, 1)), (141, (.aload_n 0, 1)), (142, (.getfield 19, 3)), (145, (.aload_n 0, 1)), (146, (.getfield 28, 3)), (149, (.invokespecial 77, 3)), (152, (.putfield 80, 3)), (155, (.aload_n 0, 1)), (156, (.new 84, 3)), (159, (.dup, 1)), (160, (.aload_n 0, 1)), (161, (.getfield 28, 3)), (164, (.invokespecial 86, 3)), (167, (.putfield 89, 3)), (170, (.aload_n 0, 1)), (171, (.new 93, 3)), (174, (.dup, 1)), (175, (.invokespecial 95, 3)), (178, (.putfield 96, 3)), (181, (.aload_n 0, 1)), (182, (.iconst 0, 1)), (183, (.putfield 100, 3)), (186, (.return_, 1))]
theorem z_ilDM_ok : z_ilDM.all (fun q => decide (decode prog_1_method_1_code q.1 = .ok q.2)) = true := by decide +kernel
def z_iGDM : List Nat := ((((((((((([] ++ 2 :: z_iGTape) ++ 3 :: z_iGTown) ++ 4 :: z_iGPeople) ++ 5 :: z_iGLaw) ++ 6 :: z_iGSenses) ++ 7 :: z_iGReports) ++ 8 :: z_iGDays) ++ 9 :: z_iGQuestions) ++ 10 :: z_iGWays) ++ 11 :: z_iGLuggage) ++ 12 :: z_iGKisses)
def z_rmD : Room := { frames := 30, cells := 61, slots := 37397, locals := 2000 }
set_option maxRecDepth 100000 in
theorem z_inDM (l : Launch) (cx : z_C) (sz : Nat) : Met l z_iyDM (.code z_iyDM prog_1_method_1_code 1 none :: z_ts) z_rmD (va_Pc [.ref (cx.2.2 1)] (z_IP cx 1 [.null, .null, .null, .null, .null, .null, .null, .null, .null, .null, .null, .int 0] sz)) (z_IQ cx 1 z_iGDM (z_PM (1 :: z_iGDM)) sz) 61 37397 (z_IA cx 1 sz) := by
  refine Met.ofW (cc := prog_1_method_1_code) (maxL := 1) (ret := none) (by decide) rfl ?_
  intro p e s m args below meth c s₁ B hml hv
  obtain ⟨rfl, hsz, hP, hK, hD, hSt⟩ := hv
  subst hsz
  have hx := B.exec
  have hb := B.bytes
  have hr := B.returns
  have hts' := atoms_spec (ws := .code z_iyDM prog_1_method_1_code 1 none :: z_ts) B.pre
  have hts : ∀ x ∈ z_ts, x.before _ s = true := fun x hx => hts' x (List.mem_cons_of_mem _ hx)
  have hown : s.vm.findClass "DayMuseum" = some m.cls := findClass_of_methodNamed B.named
  have hlocks := B.notSynchronized
  have hin2 : meth.name = "<init>" := (name_of_methodNamed B.named B.method).1
  have hA : ∀ q, s.heap.size ≤ q → z_IA cx 1 s.heap.size q := fun q h => Or.inr h
  have hS : va_S (z_IA cx 1 s.heap.size) s.heap s.heap [] := va_S.rf
  have hl := lv_entry ([.ref (cx.2.2 1)]) (n := 1) (Nat.le_of_ble_eq_true rfl)
  rw [lg_entry_eq]
  generalize (lg_sl ([.ref (cx.2.2 1)]) ++ List.replicate (1 - (lg_sl ([.ref (cx.2.2 1)])).length) Slot.unset).toArray = ls at hl ⊢
  refine lv_aload_n hx hb (z_ldd z_ilDM_ok 0 (q := (0, (.aload_n 0, 1))) rfl) rfl (lv_at hl 0 rfl) ?_
  refine W.objInit hx hb hown (hts _ (z_wd_in (ci := (1, 24)) (by decide +kernel))) (hts _ z_oi_in) (hts _ z_oi_co) rfl (hl.1.trans hml.symm) rfl (z_ldd z_ilDM_ok 1 (q := (1, (.invokespecial 3, 3))) rfl) (Nat.le_of_ble_eq_true rfl) (Nat.le_of_ble_eq_true rfl) ?_
  obtain ⟨f0, hf⟩ : ∃ f, f = cx.2.2 := ⟨_, rfl⟩
  obtain ⟨M0, hM⟩ : ∃ M : z_M, M = fun _ _ => 0 := ⟨_, rfl⟩
  have hff : ∀ k, k ∉ ([] : List Nat) → f0 k = cx.2.2 k := fun k _ => by rw [hf]
  have hMR : z_MRg [] M0 := fun k hk => by cases hk
  have hPM : z_PM [] M0 := fun k hk => by cases hk
  clear hf hM
  refine lv_aload_n hx hb (z_ldd z_ilDM_ok 2 (q := (4, (.aload_n 0, 1))) rfl) rfl (lv_at hl 0 rfl) ?_
  replace hP : va_P cx.1 z_cl ([((cx.2.2 1, .inr (11, [.null, .null, .null, .null, .null, .null, .null, .null, .null, .null, .null, .int 0])) : Nat × va_E)] ++ z_wg [] (z_cxa cx f0) M0) s.heap := hP
  replace hD : va_D (z_IA cx 1 s.heap.size) ([((cx.2.2 1, .inr (11, [.null, .null, .null, .null, .null, .null, .null, .null, .null, .null, .null, .int 0])) : Nat × va_E)] ++ z_wg [] (z_cxa cx f0) M0) := hD
  refine z_newO hx hb hts hown hK hA (ci := 8) (q := ("DayMuseum$Tape", z_T8, 5)) rfl (fs := [.null, .int 0, .int 0, .int 0, .int 0]) (by decide +kernel) (lk1 := (1, 27)) (by decide +kernel) (lk2 := (1, 28)) (by decide +kernel) (lk3 := (1, 2)) (by decide +kernel) hP hD hS (Nat.le_of_ble_eq_true rfl) (Nat.le_of_ble_eq_true rfl) (z_ldd z_ilDM_ok 3 (q := (5, (.new 9, 3))) rfl) (fun q2 H hP hD hS => ?_)
  refine lv_dup hx hb (z_ldd z_ilDM_ok 4 (q := (8, (.dup, 1))) rfl) rfl ?_
  refine z_ctorI (host := "DayMuseum") (lkl := (0, 0)) (lkc := (1, 31)) (lki := (1, 2)) (lkm := (1, 30)) (n := 0) (D := []) (G := z_iGTape) (o := 2) (f := f0) (M := M0) (ws1 := [(cx.2.2 1, .inr (11, [.null, .null, .null, .null, .null, .null, .null, .null, .null, .null, .null, .int 0]))]) hx hb (hl.1.trans hml.symm) hown hts hK hSt hA (z_inTape l (z_cxa cx (z_fset f0 2 q2)) H.size) (As := []) rfl (Or.inr (hSt.2 (.methodLinkNest "DayMuseum" 11 z_iyTape "DayMuseum") (by decide +kernel))) (by decide +kernel) (by decide +kernel) (by decide +kernel) rfl (by decide +kernel) rfl ⟨rfl, rfl⟩ ⟨Nat.le_of_ble_eq_true rfl, Nat.le_of_ble_eq_true rfl⟩ ⟨Nat.le_of_ble_eq_true rfl, Nat.le_of_ble_eq_true rfl⟩ (fun k hk => hff k (by revert k; decide +kernel)) (by decide) (by decide +kernel) (Nat.le_refl _) hP hD hS hMR (st := [.ref q2, .ref (cx.2.2 1)]) (Nat.le_of_ble_eq_true rfl) rfl (z_ldd z_ilDM_ok 5 (q := (9, (.invokespecial 11, 3))) rfl) (fun f1 M' H locs e1 e2 e3 hMR2 hP hD hS => ?_)
  replace hff := z_ffj hff e1
  replace hPM := z_PMj hPM (fun k hk _ j => e3 k hk j)
  have g2 := e2
  clear hMR e1 e2 e3
  generalize z_mj [] M0 M' = M1 at hMR2 hPM hP hD
  have hMR := hMR2
  clear hMR2
  refine z_putref hx hb hts hown hin2 hK (ci := 11) (q := ("DayMuseum", z_T11, 12)) rfl rfl hP hD hS (j := 0) (lk := (2, 177)) (by decide) (by decide +kernel) rfl rfl (ty := .object "DayMuseum$Tape") (by decide +kernel) (Or.inr ⟨_, rfl⟩) (z_ldd z_ilDM_ok 6 (q := (12, (.putfield 12, 3))) rfl) (fun H locs hP hD hS => ?_)
  refine lv_aload_n hx hb (z_ldd z_ilDM_ok 7 (q := (15, (.aload_n 0, 1))) rfl) rfl (lv_at hl 0 rfl) ?_
  replace hP : va_P cx.1 z_cl ([((cx.2.2 1, .inr (11, [.ref q2, .null, .null, .null, .null, .null, .null, .null, .null, .null, .null, .int 0])) : Nat × va_E)] ++ z_wg ([] ++ 2 :: z_iGTape) (z_cxa cx f1) M1) H := hP
  replace hD : va_D (z_IA cx 1 s.heap.size) ([((cx.2.2 1, .inr (11, [.ref q2, .null, .null, .null, .null, .null, .null, .null, .null, .null, .null, .int 0])) : Nat × va_E)] ++ z_wg ([] ++ 2 :: z_iGTape) (z_cxa cx f1) M1) := hD
  refine z_newO hx hb hts hown hK hA (ci := 9) (q := ("DayMuseum$Town", z_T9, 3)) rfl (fs := [.null, .null, .null]) (by decide +kernel) (lk1 := (1, 50)) (by decide +kernel) (lk2 := (1, 51)) (by decide +kernel) (lk3 := (1, 3)) (by decide +kernel) hP hD hS (Nat.le_of_ble_eq_true rfl) (Nat.le_of_ble_eq_true rfl) (z_ldd z_ilDM_ok 8 (q := (16, (.new 16, 3))) rfl) (fun q3 H hP hD hS => ?_)
  refine lv_dup hx hb (z_ldd z_ilDM_ok 9 (q := (19, (.dup, 1))) rfl) rfl ?_
  refine z_ctorI (host := "DayMuseum") (lkl := (1, 52)) (lkc := (1, 54)) (lki := (1, 3)) (lkm := (1, 53)) (n := 0) (D := ([] ++ 2 :: z_iGTape)) (G := z_iGTown) (o := 3) (f := f1) (M := M1) (ws1 := [(cx.2.2 1, .inr (11, [.ref q2, .null, .null, .null, .null, .null, .null, .null, .null, .null, .null, .int 0]))]) hx hb (hl.1.trans hml.symm) hown hts hK hSt hA (z_inTown l (z_cxa cx (z_fset f1 3 q3)) H.size) (As := []) rfl (Or.inl (by decide +kernel)) (by decide +kernel) (by decide +kernel) (by decide +kernel) rfl (by decide +kernel) rfl ⟨rfl, rfl⟩ ⟨Nat.le_of_ble_eq_true rfl, Nat.le_of_ble_eq_true rfl⟩ ⟨Nat.le_of_ble_eq_true rfl, Nat.le_of_ble_eq_true rfl⟩ (fun k hk => hff k (by revert k; decide +kernel)) (by decide) (by decide +kernel) (Nat.le_refl _) hP hD hS hMR (st := [.ref q3, .ref (cx.2.2 1)]) (Nat.le_of_ble_eq_true rfl) rfl (z_ldd z_ilDM_ok 10 (q := (20, (.invokespecial 18, 3))) rfl) (fun f2 M' H locs e1 e2 e3 hMR2 hP hD hS => ?_)
  replace hff := z_ffj hff e1
  replace hPM := z_PMj hPM (z_PMt e3)
  replace g2 := (e1 2 (by decide +kernel)).trans g2
  have g3 := e2
  clear hMR e1 e2 e3
  generalize z_mj ([] ++ 2 :: z_iGTape) M1 M' = M2 at hMR2 hPM hP hD
  have hMR := hMR2
  clear hMR2
  refine z_putref hx hb hts hown hin2 hK (ci := 11) (q := ("DayMuseum", z_T11, 12)) rfl rfl hP hD hS (j := 1) (lk := (2, 178)) (by decide) (by decide +kernel) rfl rfl (ty := .object "DayMuseum$Town") (by decide +kernel) (Or.inr ⟨_, rfl⟩) (z_ldd z_ilDM_ok 11 (q := (23, (.putfield 19, 3))) rfl) (fun H locs hP hD hS => ?_)
  refine lv_aload_n hx hb (z_ldd z_ilDM_ok 12 (q := (26, (.aload_n 0, 1))) rfl) rfl (lv_at hl 0 rfl) ?_
  replace hP : va_P cx.1 z_cl ([((cx.2.2 1, .inr (11, [.ref q2, .ref q3, .null, .null, .null, .null, .null, .null, .null, .null, .null, .int 0])) : Nat × va_E)] ++ z_wg (([] ++ 2 :: z_iGTape) ++ 3 :: z_iGTown) (z_cxa cx f2) M2) H := hP
  replace hD : va_D (z_IA cx 1 s.heap.size) ([((cx.2.2 1, .inr (11, [.ref q2, .ref q3, .null, .null, .null, .null, .null, .null, .null, .null, .null, .int 0])) : Nat × va_E)] ++ z_wg (([] ++ 2 :: z_iGTape) ++ 3 :: z_iGTown) (z_cxa cx f2) M2) := hD
  refine z_newO hx hb hts hown hK hA (ci := 4) (q := ("DayMuseum$People", z_T4, 11)) rfl (fs := [.null, .null, .null, .null, .null, .null, .int 0, .null, .null, .int 0, .int 0]) (by decide +kernel) (lk1 := (1, 85)) (by decide +kernel) (lk2 := (1, 86)) (by decide +kernel) (lk3 := (1, 5)) (by decide +kernel) hP hD hS (Nat.le_of_ble_eq_true rfl) (Nat.le_of_ble_eq_true rfl) (z_ldd z_ilDM_ok 13 (q := (27, (.new 23, 3))) rfl) (fun q4 H hP hD hS => ?_)
  refine lv_dup hx hb (z_ldd z_ilDM_ok 14 (q := (30, (.dup, 1))) rfl) rfl ?_
  refine lv_aload_n hx hb (z_ldd z_ilDM_ok 15 (q := (31, (.aload_n 0, 1))) rfl) rfl (lv_at hl 0 rfl) ?_
  refine va_get (cl := z_cl) (ref := "DayMuseum") (C := "DayMuseum") (T := z_T11) (N := 12) hx hb hts (z_cl_ws ("DayMuseum", z_T11, 12) (List.mem_of_getElem? (i := 11) rfl)) hown hK hP 0 (fs := [.ref q2, .ref q3, .null, .null, .null, .null, .null, .null, .null, .null, .null, .int 0]) rfl rfl 1 (by decide) (hts _ (z_wd_in (ci := (2, 178)) (by decide +kernel))) (fun _ z => z) (v := .ref q3) rfl (z_ldd z_ilDM_ok 16 (q := (32, (.getfield 19, 3))) rfl) ?_
  refine z_ctorI (host := "DayMuseum") (lkl := (1, 87)) (lkc := (1, 89)) (lki := (1, 5)) (lkm := (1, 88)) (n := 1) (D := (([] ++ 2 :: z_iGTape) ++ 3 :: z_iGTown)) (G := z_iGPeople) (o := 4) (f := f2) (M := M2) (ws1 := [(cx.2.2 1, .inr (11, [.ref q2, .ref q3, .null, .null, .null, .null, .null, .null, .null, .null, .null, .int 0]))]) hx hb (hl.1.trans hml.symm) hown hts hK hSt hA (z_inPeople l (z_cxa cx (z_fset f2 4 q4)) H.size) (As := [.ref q3]) (by
    show [Value.ref q4, .ref (f2 3)] = [Value.ref q4, .ref q3]
    rw [g3]) (Or.inl (by decide +kernel)) (by decide +kernel) (by decide +kernel) (by decide +kernel) rfl (by decide +kernel) rfl ⟨rfl, rfl⟩ ⟨Nat.le_of_ble_eq_true rfl, Nat.le_of_ble_eq_true rfl⟩ ⟨Nat.le_of_ble_eq_true rfl, Nat.le_of_ble_eq_true rfl⟩ (fun k hk => hff k (by revert k; decide +kernel)) (by decide) (by decide +kernel) (Nat.le_refl _) hP hD hS hMR (st := [.ref q4, .ref (cx.2.2 1)]) (Nat.le_of_ble_eq_true rfl) rfl (z_ldd z_ilDM_ok 17 (q := (35, (.invokespecial 25, 3))) rfl) (fun f3 M' H locs e1 e2 e3 hMR2 hP hD hS => ?_)
  replace hff := z_ffj hff e1
  replace hPM := z_PMj hPM (fun k hk _ j => e3 k hk j)
  replace g2 := (e1 2 (by decide +kernel)).trans g2
  replace g3 := (e1 3 (by decide +kernel)).trans g3
  have g4 := e2
  clear hMR e1 e2 e3
  generalize z_mj (([] ++ 2 :: z_iGTape) ++ 3 :: z_iGTown) M2 M' = M3 at hMR2 hPM hP hD
  have hMR := hMR2
  clear hMR2
  refine z_putref hx hb hts hown hin2 hK (ci := 11) (q := ("DayMuseum", z_T11, 12)) rfl rfl hP hD hS (j := 2) (lk := (2, 179)) (by decide) (by decide +kernel) rfl rfl (ty := .object "DayMuseum$People") (by decide +kernel) (Or.inr ⟨_, rfl⟩) (z_ldd z_ilDM_ok 18 (q := (38, (.putfield 28, 3))) rfl) (fun H locs hP hD hS => ?_)
  refine lv_aload_n hx hb (z_ldd z_ilDM_ok 19 (q := (41, (.aload_n 0, 1))) rfl) rfl (lv_at hl 0 rfl) ?_
  replace hP : va_P cx.1 z_cl ([((cx.2.2 1, .inr (11, [.ref q2, .ref q3, .ref q4, .null, .null, .null, .null, .null, .null, .null, .null, .int 0])) : Nat × va_E)] ++ z_wg ((([] ++ 2 :: z_iGTape) ++ 3 :: z_iGTown) ++ 4 :: z_iGPeople) (z_cxa cx f3) M3) H := hP
  replace hD : va_D (z_IA cx 1 s.heap.size) ([((cx.2.2 1, .inr (11, [.ref q2, .ref q3, .ref q4, .null, .null, .null, .null, .null, .null, .null, .null, .int 0])) : Nat × va_E)] ++ z_wg ((([] ++ 2 :: z_iGTape) ++ 3 :: z_iGTown) ++ 4 :: z_iGPeople) (z_cxa cx f3) M3) := hD
  refine z_newO hx hb hts hown hK hA (ci := 2) (q := ("DayMuseum$Law", z_T2, 8)) rfl (fs := [.null, .null, .null, .null, .null, .null, .int 0, .int 0]) (by decide +kernel) (lk1 := (1, 126)) (by decide +kernel) (lk2 := (1, 127)) (by decide +kernel) (lk3 := (1, 6)) (by decide +kernel) hP hD hS (Nat.le_of_ble_eq_true rfl) (Nat.le_of_ble_eq_true rfl) (z_ldd z_ilDM_ok 20 (q := (42, (.new 32, 3))) rfl) (fun q5 H hP hD hS => ?_)
  refine lv_dup hx hb (z_ldd z_ilDM_ok 21 (q := (45, (.dup, 1))) rfl) rfl ?_
  refine z_ctorI (host := "DayMuseum") (lkl := (0, 0)) (lkc := (1, 130)) (lki := (1, 6)) (lkm := (1, 129)) (n := 0) (D := ((([] ++ 2 :: z_iGTape) ++ 3 :: z_iGTown) ++ 4 :: z_iGPeople)) (G := z_iGLaw) (o := 5) (f := f3) (M := M3) (ws1 := [(cx.2.2 1, .inr (11, [.ref q2, .ref q3, .ref q4, .null, .null, .null, .null, .null, .null, .null, .null, .int 0]))]) hx hb (hl.1.trans hml.symm) hown hts hK hSt hA (z_inLaw l (z_cxa cx (z_fset f3 5 q5)) H.size) (As := []) rfl (Or.inr (hSt.2 (.methodLinkNest "DayMuseum" 34 z_iyLaw "DayMuseum") (by decide +kernel))) (by decide +kernel) (by decide +kernel) (by decide +kernel) rfl (by decide +kernel) rfl ⟨rfl, rfl⟩ ⟨Nat.le_of_ble_eq_true rfl, Nat.le_of_ble_eq_true rfl⟩ ⟨Nat.le_of_ble_eq_true rfl, Nat.le_of_ble_eq_true rfl⟩ (fun k hk => hff k (by revert k; decide +kernel)) (by decide) (by decide +kernel) (Nat.le_refl _) hP hD hS hMR (st := [.ref q5, .ref (cx.2.2 1)]) (Nat.le_of_ble_eq_true rfl) rfl (z_ldd z_ilDM_ok 22 (q := (46, (.invokespecial 34, 3))) rfl) (fun f4 M' H locs e1 e2 e3 hMR2 hP hD hS => ?_)
  replace hff := z_ffj hff e1
  replace hPM := z_PMj hPM (fun k hk _ j => e3 k hk j)
  replace g2 := (e1 2 (by decide +kernel)).trans g2
  replace g3 := (e1 3 (by decide +kernel)).trans g3
  replace g4 := (e1 4 (by decide +kernel)).trans g4
  have g5 := e2
  clear hMR e1 e2 e3
  generalize z_mj ((([] ++ 2 :: z_iGTape) ++ 3 :: z_iGTown) ++ 4 :: z_iGPeople) M3 M' = M4 at hMR2 hPM hP hD
  have hMR := hMR2
  clear hMR2
  refine z_putref hx hb hts hown hin2 hK (ci := 11) (q := ("DayMuseum", z_T11, 12)) rfl rfl hP hD hS (j := 3) (lk := (2, 180)) (by decide) (by decide +kernel) rfl rfl (ty := .object "DayMuseum$Law") (by decide +kernel) (Or.inr ⟨_, rfl⟩) (z_ldd z_ilDM_ok 23 (q := (49, (.putfield 35, 3))) rfl) (fun H locs hP hD hS => ?_)
  refine lv_aload_n hx hb (z_ldd z_ilDM_ok 24 (q := (52, (.aload_n 0, 1))) rfl) rfl (lv_at hl 0 rfl) ?_
  replace hP : va_P cx.1 z_cl ([((cx.2.2 1, .inr (11, [.ref q2, .ref q3, .ref q4, .ref q5, .null, .null, .null, .null, .null, .null, .null, .int 0])) : Nat × va_E)] ++ z_wg (((([] ++ 2 :: z_iGTape) ++ 3 :: z_iGTown) ++ 4 :: z_iGPeople) ++ 5 :: z_iGLaw) (z_cxa cx f4) M4) H := hP
  replace hD : va_D (z_IA cx 1 s.heap.size) ([((cx.2.2 1, .inr (11, [.ref q2, .ref q3, .ref q4, .ref q5, .null, .null, .null, .null, .null, .null, .null, .int 0])) : Nat × va_E)] ++ z_wg (((([] ++ 2 :: z_iGTape) ++ 3 :: z_iGTown) ++ 4 :: z_iGPeople) ++ 5 :: z_iGLaw) (z_cxa cx f4) M4) := hD
  refine z_newO hx hb hts hown hK hA (ci := 7) (q := ("DayMuseum$Senses", z_T7, 7)) rfl (fs := [.null, .null, .null, .null, .null, .null, .null]) (by decide +kernel) (lk1 := (1, 159)) (by decide +kernel) (lk2 := (1, 160)) (by decide +kernel) (lk3 := (1, 7)) (by decide +kernel) hP hD hS (Nat.le_of_ble_eq_true rfl) (Nat.le_of_ble_eq_true rfl) (z_ldd z_ilDM_ok 25 (q := (53, (.new 39, 3))) rfl) (fun q6 H hP hD hS => ?_)
  refine lv_dup hx hb (z_ldd z_ilDM_ok 26 (q := (56, (.dup, 1))) rfl) rfl ?_
  refine lv_aload_n hx hb (z_ldd z_ilDM_ok 27 (q := (57, (.aload_n 0, 1))) rfl) rfl (lv_at hl 0 rfl) ?_
  refine va_get (cl := z_cl) (ref := "DayMuseum") (C := "DayMuseum") (T := z_T11) (N := 12) hx hb hts (z_cl_ws ("DayMuseum", z_T11, 12) (List.mem_of_getElem? (i := 11) rfl)) hown hK hP 0 (fs := [.ref q2, .ref q3, .ref q4, .ref q5, .null, .null, .null, .null, .null, .null, .null, .int 0]) rfl rfl 1 (by decide) (hts _ (z_wd_in (ci := (2, 178)) (by decide +kernel))) (fun _ z => z) (v := .ref q3) rfl (z_ldd z_ilDM_ok 28 (q := (58, (.getfield 19, 3))) rfl) ?_
  refine lv_aload_n hx hb (z_ldd z_ilDM_ok 29 (q := (61, (.aload_n 0, 1))) rfl) rfl (lv_at hl 0 rfl) ?_
  refine va_get (cl := z_cl) (ref := "DayMuseum") (C := "DayMuseum") (T := z_T11) (N := 12) hx hb hts (z_cl_ws ("DayMuseum", z_T11, 12) (List.mem_of_getElem? (i := 11) rfl)) hown hK hP 0 (fs := [.ref q2, .ref q3, .ref q4, .ref q5, .null, .null, .null, .null, .null, .null, .null, .int 0]) rfl rfl 2 (by decide) (hts _ (z_wd_in (ci := (2, 179)) (by decide +kernel))) (fun _ z => z) (v := .ref q4) rfl (z_ldd z_ilDM_ok 30 (q := (62, (.getfield 28, 3))) rfl) ?_
  refine lv_aload_n hx hb (z_ldd z_ilDM_ok 31 (q := (65, (.aload_n 0, 1))) rfl) rfl (lv_at hl 0 rfl) ?_
  refine va_get (cl := z_cl) (ref := "DayMuseum") (C := "DayMuseum") (T := z_T11) (N := 12) hx hb hts (z_cl_ws ("DayMuseum", z_T11, 12) (List.mem_of_getElem? (i := 11) rfl)) hown hK hP 0 (fs := [.ref q2, .ref q3, .ref q4, .ref q5, .null, .null, .null, .null, .null, .null, .null, .int 0]) rfl rfl 3 (by decide) (hts _ (z_wd_in (ci := (2, 180)) (by decide +kernel))) (fun _ z => z) (v := .ref q5) rfl (z_ldd z_ilDM_ok 32 (q := (66, (.getfield 35, 3))) rfl) ?_
  refine z_ctorI (host := "DayMuseum") (lkl := (1, 161)) (lkc := (1, 163)) (lki := (1, 7)) (lkm := (1, 162)) (n := 3) (D := (((([] ++ 2 :: z_iGTape) ++ 3 :: z_iGTown) ++ 4 :: z_iGPeople) ++ 5 :: z_iGLaw)) (G := z_iGSenses) (o := 6) (f := f4) (M := M4) (ws1 := [(cx.2.2 1, .inr (11, [.ref q2, .ref q3, .ref q4, .ref q5, .null, .null, .null, .null, .null, .null, .null, .int 0]))]) hx hb (hl.1.trans hml.symm) hown hts hK hSt hA (z_inSenses l (z_cxa cx (z_fset f4 6 q6)) H.size) (As := [.ref q3, .ref q4, .ref q5]) (by
    show [Value.ref q6, .ref (f4 3), .ref (f4 4), .ref (f4 5)] = [Value.ref q6, .ref q3, .ref q4, .ref q5]
    rw [g3, g4, g5]) (Or.inl (by decide +kernel)) (by decide +kernel) (by decide +kernel) (by decide +kernel) rfl (by decide +kernel) rfl ⟨rfl, rfl⟩ ⟨Nat.le_of_ble_eq_true rfl, Nat.le_of_ble_eq_true rfl⟩ ⟨Nat.le_of_ble_eq_true rfl, Nat.le_of_ble_eq_true rfl⟩ (fun k hk => hff k (by revert k; decide +kernel)) (by decide) (by decide +kernel) (Nat.le_refl _) hP hD hS hMR (st := [.ref q6, .ref (cx.2.2 1)]) (Nat.le_of_ble_eq_true rfl) rfl (z_ldd z_ilDM_ok 33 (q := (69, (.invokespecial 41, 3))) rfl) (fun f5 M' H locs e1 e2 e3 hMR2 hP hD hS => ?_)
  replace hff := z_ffj hff e1
  replace hPM := z_PMj hPM (fun k hk _ j => e3 k hk j)
  replace g2 := (e1 2 (by decide +kernel)).trans g2
  replace g3 := (e1 3 (by decide +kernel)).trans g3
  replace g4 := (e1 4 (by decide +kernel)).trans g4
  replace g5 := (e1 5 (by decide +kernel)).trans g5
  have g6 := e2
  clear hMR e1 e2 e3
  generalize z_mj (((([] ++ 2 :: z_iGTape) ++ 3 :: z_iGTown) ++ 4 :: z_iGPeople) ++ 5 :: z_iGLaw) M4 M' = M5 at hMR2 hPM hP hD
  have hMR := hMR2
  clear hMR2
  refine z_putref hx hb hts hown hin2 hK (ci := 11) (q := ("DayMuseum", z_T11, 12)) rfl rfl hP hD hS (j := 4) (lk := (2, 181)) (by decide) (by decide +kernel) rfl rfl (ty := .object "DayMuseum$Senses") (by decide +kernel) (Or.inr ⟨_, rfl⟩) (z_ldd z_ilDM_ok 34 (q := (72, (.putfield 44, 3))) rfl) (fun H locs hP hD hS => ?_)
  refine lv_aload_n hx hb (z_ldd z_ilDM_ok 35 (q := (75, (.aload_n 0, 1))) rfl) rfl (lv_at hl 0 rfl) ?_
  replace hP : va_P cx.1 z_cl ([((cx.2.2 1, .inr (11, [.ref q2, .ref q3, .ref q4, .ref q5, .ref q6, .null, .null, .null, .null, .null, .null, .int 0])) : Nat × va_E)] ++ z_wg ((((([] ++ 2 :: z_iGTape) ++ 3 :: z_iGTown) ++ 4 :: z_iGPeople) ++ 5 :: z_iGLaw) ++ 6 :: z_iGSenses) (z_cxa cx f5) M5) H := hP
  replace hD : va_D (z_IA cx 1 s.heap.size) ([((cx.2.2 1, .inr (11, [.ref q2, .ref q3, .ref q4, .ref q5, .ref q6, .null, .null, .null, .null, .null, .null, .int 0])) : Nat × va_E)] ++ z_wg ((((([] ++ 2 :: z_iGTape) ++ 3 :: z_iGTown) ++ 4 :: z_iGPeople) ++ 5 :: z_iGLaw) ++ 6 :: z_iGSenses) (z_cxa cx f5) M5) := hD
  refine z_newO hx hb hts hown hK hA (ci := 6) (q := ("DayMuseum$Reports", z_T6, 8)) rfl (fs := [.null, .null, .null, .null, .null, .int 0, .int 0, .int 0]) (by decide +kernel) (lk1 := (1, 192)) (by decide +kernel) (lk2 := (1, 193)) (by decide +kernel) (lk3 := (1, 8)) (by decide +kernel) hP hD hS (Nat.le_of_ble_eq_true rfl) (Nat.le_of_ble_eq_true rfl) (z_ldd z_ilDM_ok 36 (q := (76, (.new 48, 3))) rfl) (fun q7 H hP hD hS => ?_)
  refine lv_dup hx hb (z_ldd z_ilDM_ok 37 (q := (79, (.dup, 1))) rfl) rfl ?_
  refine lv_aload_n hx hb (z_ldd z_ilDM_ok 38 (q := (80, (.aload_n 0, 1))) rfl) rfl (lv_at hl 0 rfl) ?_
  refine va_get (cl := z_cl) (ref := "DayMuseum") (C := "DayMuseum") (T := z_T11) (N := 12) hx hb hts (z_cl_ws ("DayMuseum", z_T11, 12) (List.mem_of_getElem? (i := 11) rfl)) hown hK hP 0 (fs := [.ref q2, .ref q3, .ref q4, .ref q5, .ref q6, .null, .null, .null, .null, .null, .null, .int 0]) rfl rfl 2 (by decide) (hts _ (z_wd_in (ci := (2, 179)) (by decide +kernel))) (fun _ z => z) (v := .ref q4) rfl (z_ldd z_ilDM_ok 39 (q := (81, (.getfield 28, 3))) rfl) ?_
  refine lv_aload_n hx hb (z_ldd z_ilDM_ok 40 (q := (84, (.aload_n 0, 1))) rfl) rfl (lv_at hl 0 rfl) ?_
  refine va_get (cl := z_cl) (ref := "DayMuseum") (C := "DayMuseum") (T := z_T11) (N := 12) hx hb hts (z_cl_ws ("DayMuseum", z_T11, 12) (List.mem_of_getElem? (i := 11) rfl)) hown hK hP 0 (fs := [.ref q2, .ref q3, .ref q4, .ref q5, .ref q6, .null, .null, .null, .null, .null, .null, .int 0]) rfl rfl 4 (by decide) (hts _ (z_wd_in (ci := (2, 181)) (by decide +kernel))) (fun _ z => z) (v := .ref q6) rfl (z_ldd z_ilDM_ok 41 (q := (85, (.getfield 44, 3))) rfl) ?_
  refine z_ctorI (host := "DayMuseum") (lkl := (1, 194)) (lkc := (1, 196)) (lki := (1, 8)) (lkm := (1, 195)) (n := 2) (D := ((((([] ++ 2 :: z_iGTape) ++ 3 :: z_iGTown) ++ 4 :: z_iGPeople) ++ 5 :: z_iGLaw) ++ 6 :: z_iGSenses)) (G := z_iGReports) (o := 7) (f := f5) (M := M5) (ws1 := [(cx.2.2 1, .inr (11, [.ref q2, .ref q3, .ref q4, .ref q5, .ref q6, .null, .null, .null, .null, .null, .null, .int 0]))]) hx hb (hl.1.trans hml.symm) hown hts hK hSt hA (z_inReports l (z_cxa cx (z_fset f5 7 q7)) H.size) (As := [.ref q4, .ref q6]) (by
    show [Value.ref q7, .ref (f5 4), .ref (f5 6)] = [Value.ref q7, .ref q4, .ref q6]
    rw [g4, g6]) (Or.inl (by decide +kernel)) (by decide +kernel) (by decide +kernel) (by decide +kernel) rfl (by decide +kernel) rfl ⟨rfl, rfl⟩ ⟨Nat.le_of_ble_eq_true rfl, Nat.le_of_ble_eq_true rfl⟩ ⟨Nat.le_of_ble_eq_true rfl, Nat.le_of_ble_eq_true rfl⟩ (fun k hk => hff k (by revert k; decide +kernel)) (by decide) (by decide +kernel) (Nat.le_refl _) hP hD hS hMR (st := [.ref q7, .ref (cx.2.2 1)]) (Nat.le_of_ble_eq_true rfl) rfl (z_ldd z_ilDM_ok 42 (q := (88, (.invokespecial 50, 3))) rfl) (fun f6 M' H locs e1 e2 e3 hMR2 hP hD hS => ?_)
  replace hff := z_ffj hff e1
  replace hPM := z_PMj hPM (fun k hk _ j => e3 k hk j)
  replace g2 := (e1 2 (by decide +kernel)).trans g2
  replace g3 := (e1 3 (by decide +kernel)).trans g3
  replace g4 := (e1 4 (by decide +kernel)).trans g4
  replace g5 := (e1 5 (by decide +kernel)).trans g5
  replace g6 := (e1 6 (by decide +kernel)).trans g6
  have g7 := e2
  clear hMR e1 e2 e3
  generalize z_mj ((((([] ++ 2 :: z_iGTape) ++ 3 :: z_iGTown) ++ 4 :: z_iGPeople) ++ 5 :: z_iGLaw) ++ 6 :: z_iGSenses) M5 M' = M6 at hMR2 hPM hP hD
  have hMR := hMR2
  clear hMR2
  refine z_putref hx hb hts hown hin2 hK (ci := 11) (q := ("DayMuseum", z_T11, 12)) rfl rfl hP hD hS (j := 5) (lk := (2, 182)) (by decide) (by decide +kernel) rfl rfl (ty := .object "DayMuseum$Reports") (by decide +kernel) (Or.inr ⟨_, rfl⟩) (z_ldd z_ilDM_ok 43 (q := (91, (.putfield 53, 3))) rfl) (fun H locs hP hD hS => ?_)
  refine lv_aload_n hx hb (z_ldd z_ilDM_ok 44 (q := (94, (.aload_n 0, 1))) rfl) rfl (lv_at hl 0 rfl) ?_
  replace hP : va_P cx.1 z_cl ([((cx.2.2 1, .inr (11, [.ref q2, .ref q3, .ref q4, .ref q5, .ref q6, .ref q7, .null, .null, .null, .null, .null, .int 0])) : Nat × va_E)] ++ z_wg (((((([] ++ 2 :: z_iGTape) ++ 3 :: z_iGTown) ++ 4 :: z_iGPeople) ++ 5 :: z_iGLaw) ++ 6 :: z_iGSenses) ++ 7 :: z_iGReports) (z_cxa cx f6) M6) H := hP
  replace hD : va_D (z_IA cx 1 s.heap.size) ([((cx.2.2 1, .inr (11, [.ref q2, .ref q3, .ref q4, .ref q5, .ref q6, .ref q7, .null, .null, .null, .null, .null, .int 0])) : Nat × va_E)] ++ z_wg (((((([] ++ 2 :: z_iGTape) ++ 3 :: z_iGTown) ++ 4 :: z_iGPeople) ++ 5 :: z_iGLaw) ++ 6 :: z_iGSenses) ++ 7 :: z_iGReports) (z_cxa cx f6) M6) := hD
  refine z_newO hx hb hts hown hK hA (ci := 0) (q := ("DayMuseum$Days", z_T0, 12)) rfl (fs := [.null, .null, .null, .null, .null, .null, .int 0, .int 0, .int 0, .int 0, .null, .int 0]) (by decide +kernel) (lk1 := (1, 223)) (by decide +kernel) (lk2 := (1, 224)) (by decide +kernel) (lk3 := (1, 9)) (by decide +kernel) hP hD hS (Nat.le_of_ble_eq_true rfl) (Nat.le_of_ble_eq_true rfl) (z_ldd z_ilDM_ok 45 (q := (95, (.new 57, 3))) rfl) (fun q8 H hP hD hS => ?_)
  refine lv_dup hx hb (z_ldd z_ilDM_ok 46 (q := (98, (.dup, 1))) rfl) rfl ?_
  refine lv_aload_n hx hb (z_ldd z_ilDM_ok 47 (q := (99, (.aload_n 0, 1))) rfl) rfl (lv_at hl 0 rfl) ?_
  refine va_get (cl := z_cl) (ref := "DayMuseum") (C := "DayMuseum") (T := z_T11) (N := 12) hx hb hts (z_cl_ws ("DayMuseum", z_T11, 12) (List.mem_of_getElem? (i := 11) rfl)) hown hK hP 0 (fs := [.ref q2, .ref q3, .ref q4, .ref q5, .ref q6, .ref q7, .null, .null, .null, .null, .null, .int 0]) rfl rfl 2 (by decide) (hts _ (z_wd_in (ci := (2, 179)) (by decide +kernel))) (fun _ z => z) (v := .ref q4) rfl (z_ldd z_ilDM_ok 48 (q := (100, (.getfield 28, 3))) rfl) ?_
  refine lv_aload_n hx hb (z_ldd z_ilDM_ok 49 (q := (103, (.aload_n 0, 1))) rfl) rfl (lv_at hl 0 rfl) ?_
  refine va_get (cl := z_cl) (ref := "DayMuseum") (C := "DayMuseum") (T := z_T11) (N := 12) hx hb hts (z_cl_ws ("DayMuseum", z_T11, 12) (List.mem_of_getElem? (i := 11) rfl)) hown hK hP 0 (fs := [.ref q2, .ref q3, .ref q4, .ref q5, .ref q6, .ref q7, .null, .null, .null, .null, .null, .int 0]) rfl rfl 5 (by decide) (hts _ (z_wd_in (ci := (2, 182)) (by decide +kernel))) (fun _ z => z) (v := .ref q7) rfl (z_ldd z_ilDM_ok 50 (q := (104, (.getfield 53, 3))) rfl) ?_
  refine z_ctorI (host := "DayMuseum") (lkl := (1, 225)) (lkc := (1, 227)) (lki := (1, 9)) (lkm := (1, 226)) (n := 2) (D := (((((([] ++ 2 :: z_iGTape) ++ 3 :: z_iGTown) ++ 4 :: z_iGPeople) ++ 5 :: z_iGLaw) ++ 6 :: z_iGSenses) ++ 7 :: z_iGReports)) (G := z_iGDays) (o := 8) (f := f6) (M := M6) (ws1 := [(cx.2.2 1, .inr (11, [.ref q2, .ref q3, .ref q4, .ref q5, .ref q6, .ref q7, .null, .null, .null, .null, .null, .int 0]))]) hx hb (hl.1.trans hml.symm) hown hts hK hSt hA (z_inDays l (z_cxa cx (z_fset f6 8 q8)) H.size) (As := [.ref q4, .ref q7]) (by
    show [Value.ref q8, .ref (f6 4), .ref (f6 7)] = [Value.ref q8, .ref q4, .ref q7]
    rw [g4, g7]) (Or.inl (by decide +kernel)) (by decide +kernel) (by decide +kernel) (by decide +kernel) rfl (by decide +kernel) rfl ⟨rfl, rfl⟩ ⟨Nat.le_of_ble_eq_true rfl, Nat.le_of_ble_eq_true rfl⟩ ⟨Nat.le_of_ble_eq_true rfl, Nat.le_of_ble_eq_true rfl⟩ (fun k hk => hff k (by revert k; decide +kernel)) (by decide) (by decide +kernel) (Nat.le_refl _) hP hD hS hMR (st := [.ref q8, .ref (cx.2.2 1)]) (Nat.le_of_ble_eq_true rfl) rfl (z_ldd z_ilDM_ok 51 (q := (107, (.invokespecial 59, 3))) rfl) (fun f7 M' H locs e1 e2 e3 hMR2 hP hD hS => ?_)
  replace hff := z_ffj hff e1
  replace hPM := z_PMj hPM (fun k hk _ j => e3 k hk j)
  replace g2 := (e1 2 (by decide +kernel)).trans g2
  replace g3 := (e1 3 (by decide +kernel)).trans g3
  replace g4 := (e1 4 (by decide +kernel)).trans g4
  replace g5 := (e1 5 (by decide +kernel)).trans g5
  replace g6 := (e1 6 (by decide +kernel)).trans g6
  replace g7 := (e1 7 (by decide +kernel)).trans g7
  have g8 := e2
  clear hMR e1 e2 e3
  generalize z_mj (((((([] ++ 2 :: z_iGTape) ++ 3 :: z_iGTown) ++ 4 :: z_iGPeople) ++ 5 :: z_iGLaw) ++ 6 :: z_iGSenses) ++ 7 :: z_iGReports) M6 M' = M7 at hMR2 hPM hP hD
  have hMR := hMR2
  clear hMR2
  refine z_putref hx hb hts hown hin2 hK (ci := 11) (q := ("DayMuseum", z_T11, 12)) rfl rfl hP hD hS (j := 6) (lk := (2, 183)) (by decide) (by decide +kernel) rfl rfl (ty := .object "DayMuseum$Days") (by decide +kernel) (Or.inr ⟨_, rfl⟩) (z_ldd z_ilDM_ok 52 (q := (110, (.putfield 62, 3))) rfl) (fun H locs hP hD hS => ?_)
  refine lv_aload_n hx hb (z_ldd z_ilDM_ok 53 (q := (113, (.aload_n 0, 1))) rfl) rfl (lv_at hl 0 rfl) ?_
  replace hP : va_P cx.1 z_cl ([((cx.2.2 1, .inr (11, [.ref q2, .ref q3, .ref q4, .ref q5, .ref q6, .ref q7, .ref q8, .null, .null, .null, .null, .int 0])) : Nat × va_E)] ++ z_wg ((((((([] ++ 2 :: z_iGTape) ++ 3 :: z_iGTown) ++ 4 :: z_iGPeople) ++ 5 :: z_iGLaw) ++ 6 :: z_iGSenses) ++ 7 :: z_iGReports) ++ 8 :: z_iGDays) (z_cxa cx f7) M7) H := hP
  replace hD : va_D (z_IA cx 1 s.heap.size) ([((cx.2.2 1, .inr (11, [.ref q2, .ref q3, .ref q4, .ref q5, .ref q6, .ref q7, .ref q8, .null, .null, .null, .null, .int 0])) : Nat × va_E)] ++ z_wg ((((((([] ++ 2 :: z_iGTape) ++ 3 :: z_iGTown) ++ 4 :: z_iGPeople) ++ 5 :: z_iGLaw) ++ 6 :: z_iGSenses) ++ 7 :: z_iGReports) ++ 8 :: z_iGDays) (z_cxa cx f7) M7) := hD
  refine z_newO hx hb hts hown hK hA (ci := 5) (q := ("DayMuseum$Questions", z_T5, 12)) rfl (fs := [.null, .null, .null, .null, .null, .null, .int 0, .int 0, .int 0, .int 0, .int 0, .int 0]) (by decide +kernel) (lk1 := (2, 28)) (by decide +kernel) (lk2 := (2, 29)) (by decide +kernel) (lk3 := (1, 10)) (by decide +kernel) hP hD hS (Nat.le_of_ble_eq_true rfl) (Nat.le_of_ble_eq_true rfl) (z_ldd z_ilDM_ok 54 (q := (114, (.new 66, 3))) rfl) (fun q9 H hP hD hS => ?_)
  refine lv_dup hx hb (z_ldd z_ilDM_ok 55 (q := (117, (.dup, 1))) rfl) rfl ?_
  refine lv_aload_n hx hb (z_ldd z_ilDM_ok 56 (q := (118, (.aload_n 0, 1))) rfl) rfl (lv_at hl 0 rfl) ?_
  refine va_get (cl := z_cl) (ref := "DayMuseum") (C := "DayMuseum") (T := z_T11) (N := 12) hx hb hts (z_cl_ws ("DayMuseum", z_T11, 12) (List.mem_of_getElem? (i := 11) rfl)) hown hK hP 0 (fs := [.ref q2, .ref q3, .ref q4, .ref q5, .ref q6, .ref q7, .ref q8, .null, .null, .null, .null, .int 0]) rfl rfl 2 (by decide) (hts _ (z_wd_in (ci := (2, 179)) (by decide +kernel))) (fun _ z => z) (v := .ref q4) rfl (z_ldd z_ilDM_ok 57 (q := (119, (.getfield 28, 3))) rfl) ?_
  refine lv_aload_n hx hb (z_ldd z_ilDM_ok 58 (q := (122, (.aload_n 0, 1))) rfl) rfl (lv_at hl 0 rfl) ?_
  refine va_get (cl := z_cl) (ref := "DayMuseum") (C := "DayMuseum") (T := z_T11) (N := 12) hx hb hts (z_cl_ws ("DayMuseum", z_T11, 12) (List.mem_of_getElem? (i := 11) rfl)) hown hK hP 0 (fs := [.ref q2, .ref q3, .ref q4, .ref q5, .ref q6, .ref q7, .ref q8, .null, .null, .null, .null, .int 0]) rfl rfl 4 (by decide) (hts _ (z_wd_in (ci := (2, 181)) (by decide +kernel))) (fun _ z => z) (v := .ref q6) rfl (z_ldd z_ilDM_ok 59 (q := (123, (.getfield 44, 3))) rfl) ?_
  refine lv_aload_n hx hb (z_ldd z_ilDM_ok 60 (q := (126, (.aload_n 0, 1))) rfl) rfl (lv_at hl 0 rfl) ?_
  refine va_get (cl := z_cl) (ref := "DayMuseum") (C := "DayMuseum") (T := z_T11) (N := 12) hx hb hts (z_cl_ws ("DayMuseum", z_T11, 12) (List.mem_of_getElem? (i := 11) rfl)) hown hK hP 0 (fs := [.ref q2, .ref q3, .ref q4, .ref q5, .ref q6, .ref q7, .ref q8, .null, .null, .null, .null, .int 0]) rfl rfl 6 (by decide) (hts _ (z_wd_in (ci := (2, 183)) (by decide +kernel))) (fun _ z => z) (v := .ref q8) rfl (z_ldd z_ilDM_ok 61 (q := (127, (.getfield 62, 3))) rfl) ?_
  refine z_ctorI (host := "DayMuseum") (lkl := (2, 30)) (lkc := (2, 32)) (lki := (1, 10)) (lkm := (2, 31)) (n := 3) (D := ((((((([] ++ 2 :: z_iGTape) ++ 3 :: z_iGTown) ++ 4 :: z_iGPeople) ++ 5 :: z_iGLaw) ++ 6 :: z_iGSenses) ++ 7 :: z_iGReports) ++ 8 :: z_iGDays)) (G := z_iGQuestions) (o := 9) (f := f7) (M := M7) (ws1 := [(cx.2.2 1, .inr (11, [.ref q2, .ref q3, .ref q4, .ref q5, .ref q6, .ref q7, .ref q8, .null, .null, .null, .null, .int 0]))]) hx hb (hl.1.trans hml.symm) hown hts hK hSt hA (z_inQuestions l (z_cxa cx (z_fset f7 9 q9)) H.size) (As := [.ref q4, .ref q6, .ref q8]) (by
    show [Value.ref q9, .ref (f7 4), .ref (f7 6), .ref (f7 8)] = [Value.ref q9, .ref q4, .ref q6, .ref q8]
    rw [g4, g6, g8]) (Or.inl (by decide +kernel)) (by decide +kernel) (by decide +kernel) (by decide +kernel) rfl (by decide +kernel) rfl ⟨rfl, rfl⟩ ⟨Nat.le_of_ble_eq_true rfl, Nat.le_of_ble_eq_true rfl⟩ ⟨Nat.le_of_ble_eq_true rfl, Nat.le_of_ble_eq_true rfl⟩ (fun k hk => hff k (by revert k; decide +kernel)) (by decide) (by decide +kernel) (Nat.le_refl _) hP hD hS hMR (st := [.ref q9, .ref (cx.2.2 1)]) (Nat.le_of_ble_eq_true rfl) rfl (z_ldd z_ilDM_ok 62 (q := (130, (.invokespecial 68, 3))) rfl) (fun f8 M' H locs e1 e2 e3 hMR2 hP hD hS => ?_)
  replace hff := z_ffj hff e1
  replace hPM := z_PMj hPM (fun k hk _ j => e3 k hk j)
  replace g2 := (e1 2 (by decide +kernel)).trans g2
  replace g3 := (e1 3 (by decide +kernel)).trans g3
  replace g4 := (e1 4 (by decide +kernel)).trans g4
  replace g5 := (e1 5 (by decide +kernel)).trans g5
  replace g6 := (e1 6 (by decide +kernel)).trans g6
  replace g7 := (e1 7 (by decide +kernel)).trans g7
  replace g8 := (e1 8 (by decide +kernel)).trans g8
  have g9 := e2
  clear hMR e1 e2 e3
  generalize z_mj ((((((([] ++ 2 :: z_iGTape) ++ 3 :: z_iGTown) ++ 4 :: z_iGPeople) ++ 5 :: z_iGLaw) ++ 6 :: z_iGSenses) ++ 7 :: z_iGReports) ++ 8 :: z_iGDays) M7 M' = M8 at hMR2 hPM hP hD
  have hMR := hMR2
  clear hMR2
  refine z_putref hx hb hts hown hin2 hK (ci := 11) (q := ("DayMuseum", z_T11, 12)) rfl rfl hP hD hS (j := 7) (lk := (2, 184)) (by decide) (by decide +kernel) rfl rfl (ty := .object "DayMuseum$Questions") (by decide +kernel) (Or.inr ⟨_, rfl⟩) (z_ldd z_ilDM_ok 63 (q := (133, (.putfield 71, 3))) rfl) (fun H locs hP hD hS => ?_)
  refine lv_aload_n hx hb (z_ldd z_ilDM_ok 64 (q := (136, (.aload_n 0, 1))) rfl) rfl (lv_at hl 0 rfl) ?_
  replace hP : va_P cx.1 z_cl ([((cx.2.2 1, .inr (11, [.ref q2, .ref q3, .ref q4, .ref q5, .ref q6, .ref q7, .ref q8, .ref q9, .null, .null, .null, .int 0])) : Nat × va_E)] ++ z_wg (((((((([] ++ 2 :: z_iGTape) ++ 3 :: z_iGTown) ++ 4 :: z_iGPeople) ++ 5 :: z_iGLaw) ++ 6 :: z_iGSenses) ++ 7 :: z_iGReports) ++ 8 :: z_iGDays) ++ 9 :: z_iGQuestions) (z_cxa cx f8) M8) H := hP
  replace hD : va_D (z_IA cx 1 s.heap.size) ([((cx.2.2 1, .inr (11, [.ref q2, .ref q3, .ref q4, .ref q5, .ref q6, .ref q7, .ref q8, .ref q9, .null, .null, .null, .int 0])) : Nat × va_E)] ++ z_wg (((((((([] ++ 2 :: z_iGTape) ++ 3 :: z_iGTown) ++ 4 :: z_iGPeople) ++ 5 :: z_iGLaw) ++ 6 :: z_iGSenses) ++ 7 :: z_iGReports) ++ 8 :: z_iGDays) ++ 9 :: z_iGQuestions) (z_cxa cx f8) M8) := hD
  refine z_newO hx hb hts hown hK hA (ci := 10) (q := ("DayMuseum$Ways", z_T10, 10)) rfl (fs := [.null, .null, .null, .null, .null, .null, .int 0, .int 0, .int 0, .int 0]) (by decide +kernel) (lk1 := (2, 71)) (by decide +kernel) (lk2 := (2, 72)) (by decide +kernel) (lk3 := (1, 11)) (by decide +kernel) hP hD hS (Nat.le_of_ble_eq_true rfl) (Nat.le_of_ble_eq_true rfl) (z_ldd z_ilDM_ok 65 (q := (137, (.new 75, 3))) rfl) (fun q10 H hP hD hS => ?_)
  refine lv_dup hx hb (z_ldd z_ilDM_ok 66 (q := (140, (.dup, 1))) rfl) rfl ?_
  refine lv_aload_n hx hb (z_ldd z_ilDM_ok 67 (q := (141, (.aload_n 0, 1))) rfl) rfl (lv_at hl 0 rfl) ?_
  refine va_get (cl := z_cl) (ref := "DayMuseum") (C := "DayMuseum") (T := z_T11) (N := 12) hx hb hts (z_cl_ws ("DayMuseum", z_T11, 12) (List.mem_of_getElem? (i := 11) rfl)) hown hK hP 0 (fs := [.ref q2, .ref q3, .ref q4, .ref q5, .ref q6, .ref q7, .ref q8, .ref q9, .null, .null, .null, .int 0]) rfl rfl 1 (by decide) (hts _ (z_wd_in (ci := (2, 178)) (by decide +kernel))) (fun _ z => z) (v := .ref q3) rfl (z_ldd z_ilDM_ok 68 (q := (142, (.getfield 19, 3))) rfl) ?_
  refine lv_aload_n hx hb (z_ldd z_ilDM_ok 69 (q := (145, (.aload_n 0, 1))) rfl) rfl (lv_at hl 0 rfl) ?_
  refine va_get (cl := z_cl) (ref := "DayMuseum") (C := "DayMuseum") (T := z_T11) (N := 12) hx hb hts (z_cl_ws ("DayMuseum", z_T11, 12) (List.mem_of_getElem? (i := 11) rfl)) hown hK hP 0 (fs := [.ref q2, .ref q3, .ref q4, .ref q5, .ref q6, .ref q7, .ref q8, .ref q9, .null, .null, .null, .int 0]) rfl rfl 2 (by decide) (hts _ (z_wd_in (ci := (2, 179)) (by decide +kernel))) (fun _ z => z) (v := .ref q4) rfl (z_ldd z_ilDM_ok 70 (q := (146, (.getfield 28, 3))) rfl) ?_
  refine z_ctorI (host := "DayMuseum") (lkl := (2, 73)) (lkc := (2, 75)) (lki := (1, 11)) (lkm := (2, 74)) (n := 2) (D := (((((((([] ++ 2 :: z_iGTape) ++ 3 :: z_iGTown) ++ 4 :: z_iGPeople) ++ 5 :: z_iGLaw) ++ 6 :: z_iGSenses) ++ 7 :: z_iGReports) ++ 8 :: z_iGDays) ++ 9 :: z_iGQuestions)) (G := z_iGWays) (o := 10) (f := f8) (M := M8) (ws1 := [(cx.2.2 1, .inr (11, [.ref q2, .ref q3, .ref q4, .ref q5, .ref q6, .ref q7, .ref q8, .ref q9, .null, .null, .null, .int 0]))]) hx hb (hl.1.trans hml.symm) hown hts hK hSt hA (z_inWays l (z_cxa cx (z_fset f8 10 q10)) H.size) (As := [.ref q3, .ref q4]) (by
    show [Value.ref q10, .ref (f8 3), .ref (f8 4)] = [Value.ref q10, .ref q3, .ref q4]
    rw [g3, g4]) (Or.inl (by decide +kernel)) (by decide +kernel) (by decide +kernel) (by decide +kernel) rfl (by decide +kernel) rfl ⟨rfl, rfl⟩ ⟨Nat.le_of_ble_eq_true rfl, Nat.le_of_ble_eq_true rfl⟩ ⟨Nat.le_of_ble_eq_true rfl, Nat.le_of_ble_eq_true rfl⟩ (fun k hk => hff k (by revert k; decide +kernel)) (by decide) (by decide +kernel) (Nat.le_refl _) hP hD hS hMR (st := [.ref q10, .ref (cx.2.2 1)]) (Nat.le_of_ble_eq_true rfl) rfl (z_ldd z_ilDM_ok 71 (q := (149, (.invokespecial 77, 3))) rfl) (fun f9 M' H locs e1 e2 e3 hMR2 hP hD hS => ?_)
  replace hff := z_ffj hff e1
  replace hPM := z_PMj hPM (fun k hk _ j => e3 k hk j)
  replace g2 := (e1 2 (by decide +kernel)).trans g2
  replace g3 := (e1 3 (by decide +kernel)).trans g3
  replace g4 := (e1 4 (by decide +kernel)).trans g4
  replace g5 := (e1 5 (by decide +kernel)).trans g5
  replace g6 := (e1 6 (by decide +kernel)).trans g6
  replace g7 := (e1 7 (by decide +kernel)).trans g7
  replace g8 := (e1 8 (by decide +kernel)).trans g8
  replace g9 := (e1 9 (by decide +kernel)).trans g9
  have g10 := e2
  clear hMR e1 e2 e3
  generalize z_mj (((((((([] ++ 2 :: z_iGTape) ++ 3 :: z_iGTown) ++ 4 :: z_iGPeople) ++ 5 :: z_iGLaw) ++ 6 :: z_iGSenses) ++ 7 :: z_iGReports) ++ 8 :: z_iGDays) ++ 9 :: z_iGQuestions) M8 M' = M9 at hMR2 hPM hP hD
  have hMR := hMR2
  clear hMR2
  refine z_putref hx hb hts hown hin2 hK (ci := 11) (q := ("DayMuseum", z_T11, 12)) rfl rfl hP hD hS (j := 8) (lk := (2, 185)) (by decide) (by decide +kernel) rfl rfl (ty := .object "DayMuseum$Ways") (by decide +kernel) (Or.inr ⟨_, rfl⟩) (z_ldd z_ilDM_ok 72 (q := (152, (.putfield 80, 3))) rfl) (fun H locs hP hD hS => ?_)
  refine lv_aload_n hx hb (z_ldd z_ilDM_ok 73 (q := (155, (.aload_n 0, 1))) rfl) rfl (lv_at hl 0 rfl) ?_
  replace hP : va_P cx.1 z_cl ([((cx.2.2 1, .inr (11, [.ref q2, .ref q3, .ref q4, .ref q5, .ref q6, .ref q7, .ref q8, .ref q9, .ref q10, .null, .null, .int 0])) : Nat × va_E)] ++ z_wg ((((((((([] ++ 2 :: z_iGTape) ++ 3 :: z_iGTown) ++ 4 :: z_iGPeople) ++ 5 :: z_iGLaw) ++ 6 :: z_iGSenses) ++ 7 :: z_iGReports) ++ 8 :: z_iGDays) ++ 9 :: z_iGQuestions) ++ 10 :: z_iGWays) (z_cxa cx f9) M9) H := hP
  replace hD : va_D (z_IA cx 1 s.heap.size) ([((cx.2.2 1, .inr (11, [.ref q2, .ref q3, .ref q4, .ref q5, .ref q6, .ref q7, .ref q8, .ref q9, .ref q10, .null, .null, .int 0])) : Nat × va_E)] ++ z_wg ((((((((([] ++ 2 :: z_iGTape) ++ 3 :: z_iGTown) ++ 4 :: z_iGPeople) ++ 5 :: z_iGLaw) ++ 6 :: z_iGSenses) ++ 7 :: z_iGReports) ++ 8 :: z_iGDays) ++ 9 :: z_iGQuestions) ++ 10 :: z_iGWays) (z_cxa cx f9) M9) := hD
  refine z_newO hx hb hts hown hK hA (ci := 3) (q := ("DayMuseum$Luggage", z_T3, 12)) rfl (fs := [.null, .null, .null, .null, .null, .int 0, .null, .null, .null, .null, .null, .null]) (by decide +kernel) (lk1 := (2, 108)) (by decide +kernel) (lk2 := (2, 109)) (by decide +kernel) (lk3 := (1, 12)) (by decide +kernel) hP hD hS (Nat.le_of_ble_eq_true rfl) (Nat.le_of_ble_eq_true rfl) (z_ldd z_ilDM_ok 74 (q := (156, (.new 84, 3))) rfl) (fun q11 H hP hD hS => ?_)
  refine lv_dup hx hb (z_ldd z_ilDM_ok 75 (q := (159, (.dup, 1))) rfl) rfl ?_
  refine lv_aload_n hx hb (z_ldd z_ilDM_ok 76 (q := (160, (.aload_n 0, 1))) rfl) rfl (lv_at hl 0 rfl) ?_
  refine va_get (cl := z_cl) (ref := "DayMuseum") (C := "DayMuseum") (T := z_T11) (N := 12) hx hb hts (z_cl_ws ("DayMuseum", z_T11, 12) (List.mem_of_getElem? (i := 11) rfl)) hown hK hP 0 (fs := [.ref q2, .ref q3, .ref q4, .ref q5, .ref q6, .ref q7, .ref q8, .ref q9, .ref q10, .null, .null, .int 0]) rfl rfl 2 (by decide) (hts _ (z_wd_in (ci := (2, 179)) (by decide +kernel))) (fun _ z => z) (v := .ref q4) rfl (z_ldd z_ilDM_ok 77 (q := (161, (.getfield 28, 3))) rfl) ?_
  refine z_ctorI (host := "DayMuseum") (lkl := (2, 110)) (lkc := (2, 112)) (lki := (1, 12)) (lkm := (2, 111)) (n := 1) (D := ((((((((([] ++ 2 :: z_iGTape) ++ 3 :: z_iGTown) ++ 4 :: z_iGPeople) ++ 5 :: z_iGLaw) ++ 6 :: z_iGSenses) ++ 7 :: z_iGReports) ++ 8 :: z_iGDays) ++ 9 :: z_iGQuestions) ++ 10 :: z_iGWays)) (G := z_iGLuggage) (o := 11) (f := f9) (M := M9) (ws1 := [(cx.2.2 1, .inr (11, [.ref q2, .ref q3, .ref q4, .ref q5, .ref q6, .ref q7, .ref q8, .ref q9, .ref q10, .null, .null, .int 0]))]) hx hb (hl.1.trans hml.symm) hown hts hK hSt hA (z_inLuggage l (z_cxa cx (z_fset f9 11 q11)) H.size) (As := [.ref q4]) (by
    show [Value.ref q11, .ref (f9 4)] = [Value.ref q11, .ref q4]
    rw [g4]) (Or.inl (by decide +kernel)) (by decide +kernel) (by decide +kernel) (by decide +kernel) rfl (by decide +kernel) rfl ⟨rfl, rfl⟩ ⟨Nat.le_of_ble_eq_true rfl, Nat.le_of_ble_eq_true rfl⟩ ⟨Nat.le_of_ble_eq_true rfl, Nat.le_of_ble_eq_true rfl⟩ (fun k hk => hff k (by revert k; decide +kernel)) (by decide) (by decide +kernel) (Nat.le_refl _) hP hD hS hMR (st := [.ref q11, .ref (cx.2.2 1)]) (Nat.le_of_ble_eq_true rfl) rfl (z_ldd z_ilDM_ok 78 (q := (164, (.invokespecial 86, 3))) rfl) (fun f10 M' H locs e1 e2 e3 hMR2 hP hD hS => ?_)
  replace hff := z_ffj hff e1
  replace hPM := z_PMj hPM (fun k hk _ j => e3 k hk j)
  replace g2 := (e1 2 (by decide +kernel)).trans g2
  replace g3 := (e1 3 (by decide +kernel)).trans g3
  replace g4 := (e1 4 (by decide +kernel)).trans g4
  replace g5 := (e1 5 (by decide +kernel)).trans g5
  replace g6 := (e1 6 (by decide +kernel)).trans g6
  replace g7 := (e1 7 (by decide +kernel)).trans g7
  replace g8 := (e1 8 (by decide +kernel)).trans g8
  replace g9 := (e1 9 (by decide +kernel)).trans g9
  replace g10 := (e1 10 (by decide +kernel)).trans g10
  have g11 := e2
  clear hMR e1 e2 e3
  generalize z_mj ((((((((([] ++ 2 :: z_iGTape) ++ 3 :: z_iGTown) ++ 4 :: z_iGPeople) ++ 5 :: z_iGLaw) ++ 6 :: z_iGSenses) ++ 7 :: z_iGReports) ++ 8 :: z_iGDays) ++ 9 :: z_iGQuestions) ++ 10 :: z_iGWays) M9 M' = M10 at hMR2 hPM hP hD
  have hMR := hMR2
  clear hMR2
  refine z_putref hx hb hts hown hin2 hK (ci := 11) (q := ("DayMuseum", z_T11, 12)) rfl rfl hP hD hS (j := 9) (lk := (2, 186)) (by decide) (by decide +kernel) rfl rfl (ty := .object "DayMuseum$Luggage") (by decide +kernel) (Or.inr ⟨_, rfl⟩) (z_ldd z_ilDM_ok 79 (q := (167, (.putfield 89, 3))) rfl) (fun H locs hP hD hS => ?_)
  refine lv_aload_n hx hb (z_ldd z_ilDM_ok 80 (q := (170, (.aload_n 0, 1))) rfl) rfl (lv_at hl 0 rfl) ?_
  replace hP : va_P cx.1 z_cl ([((cx.2.2 1, .inr (11, [.ref q2, .ref q3, .ref q4, .ref q5, .ref q6, .ref q7, .ref q8, .ref q9, .ref q10, .ref q11, .null, .int 0])) : Nat × va_E)] ++ z_wg (((((((((([] ++ 2 :: z_iGTape) ++ 3 :: z_iGTown) ++ 4 :: z_iGPeople) ++ 5 :: z_iGLaw) ++ 6 :: z_iGSenses) ++ 7 :: z_iGReports) ++ 8 :: z_iGDays) ++ 9 :: z_iGQuestions) ++ 10 :: z_iGWays) ++ 11 :: z_iGLuggage) (z_cxa cx f10) M10) H := hP
  replace hD : va_D (z_IA cx 1 s.heap.size) ([((cx.2.2 1, .inr (11, [.ref q2, .ref q3, .ref q4, .ref q5, .ref q6, .ref q7, .ref q8, .ref q9, .ref q10, .ref q11, .null, .int 0])) : Nat × va_E)] ++ z_wg (((((((((([] ++ 2 :: z_iGTape) ++ 3 :: z_iGTown) ++ 4 :: z_iGPeople) ++ 5 :: z_iGLaw) ++ 6 :: z_iGSenses) ++ 7 :: z_iGReports) ++ 8 :: z_iGDays) ++ 9 :: z_iGQuestions) ++ 10 :: z_iGWays) ++ 11 :: z_iGLuggage) (z_cxa cx f10) M10) := hD
  refine z_newO hx hb hts hown hK hA (ci := 1) (q := ("DayMuseum$Kisses", z_T1, 6)) rfl (fs := [.null, .null, .null, .null, .int 0, .int 0]) (by decide +kernel) (lk1 := (2, 152)) (by decide +kernel) (lk2 := (2, 153)) (by decide +kernel) (lk3 := (1, 13)) (by decide +kernel) hP hD hS (Nat.le_of_ble_eq_true rfl) (Nat.le_of_ble_eq_true rfl) (z_ldd z_ilDM_ok 81 (q := (171, (.new 93, 3))) rfl) (fun q12 H hP hD hS => ?_)
  refine lv_dup hx hb (z_ldd z_ilDM_ok 82 (q := (174, (.dup, 1))) rfl) rfl ?_
  refine z_ctorI (host := "DayMuseum") (lkl := (0, 0)) (lkc := (2, 156)) (lki := (1, 13)) (lkm := (2, 155)) (n := 0) (D := (((((((((([] ++ 2 :: z_iGTape) ++ 3 :: z_iGTown) ++ 4 :: z_iGPeople) ++ 5 :: z_iGLaw) ++ 6 :: z_iGSenses) ++ 7 :: z_iGReports) ++ 8 :: z_iGDays) ++ 9 :: z_iGQuestions) ++ 10 :: z_iGWays) ++ 11 :: z_iGLuggage)) (G := z_iGKisses) (o := 12) (f := f10) (M := M10) (ws1 := [(cx.2.2 1, .inr (11, [.ref q2, .ref q3, .ref q4, .ref q5, .ref q6, .ref q7, .ref q8, .ref q9, .ref q10, .ref q11, .null, .int 0]))]) hx hb (hl.1.trans hml.symm) hown hts hK hSt hA (z_inKisses l (z_cxa cx (z_fset f10 12 q12)) H.size) (As := []) rfl (Or.inr (hSt.2 (.methodLinkNest "DayMuseum" 95 z_iyKisses "DayMuseum") (by decide +kernel))) (by decide +kernel) (by decide +kernel) (by decide +kernel) rfl (by decide +kernel) rfl ⟨rfl, rfl⟩ ⟨Nat.le_of_ble_eq_true rfl, Nat.le_of_ble_eq_true rfl⟩ ⟨Nat.le_of_ble_eq_true rfl, Nat.le_of_ble_eq_true rfl⟩ (fun k hk => hff k (by revert k; decide +kernel)) (by decide) (by decide +kernel) (Nat.le_refl _) hP hD hS hMR (st := [.ref q12, .ref (cx.2.2 1)]) (Nat.le_of_ble_eq_true rfl) rfl (z_ldd z_ilDM_ok 83 (q := (175, (.invokespecial 95, 3))) rfl) (fun f11 M' H locs e1 e2 e3 hMR2 hP hD hS => ?_)
  replace hff := z_ffj hff e1
  replace hPM := z_PMj hPM (fun k hk _ j => e3 k hk j)
  replace g2 := (e1 2 (by decide +kernel)).trans g2
  replace g3 := (e1 3 (by decide +kernel)).trans g3
  replace g4 := (e1 4 (by decide +kernel)).trans g4
  replace g5 := (e1 5 (by decide +kernel)).trans g5
  replace g6 := (e1 6 (by decide +kernel)).trans g6
  replace g7 := (e1 7 (by decide +kernel)).trans g7
  replace g8 := (e1 8 (by decide +kernel)).trans g8
  replace g9 := (e1 9 (by decide +kernel)).trans g9
  replace g10 := (e1 10 (by decide +kernel)).trans g10
  replace g11 := (e1 11 (by decide +kernel)).trans g11
  have g12 := e2
  clear hMR e1 e2 e3
  generalize z_mj (((((((((([] ++ 2 :: z_iGTape) ++ 3 :: z_iGTown) ++ 4 :: z_iGPeople) ++ 5 :: z_iGLaw) ++ 6 :: z_iGSenses) ++ 7 :: z_iGReports) ++ 8 :: z_iGDays) ++ 9 :: z_iGQuestions) ++ 10 :: z_iGWays) ++ 11 :: z_iGLuggage) M10 M' = M11 at hMR2 hPM hP hD
  have hMR := hMR2
  clear hMR2
  refine z_putref hx hb hts hown hin2 hK (ci := 11) (q := ("DayMuseum", z_T11, 12)) rfl rfl hP hD hS (j := 10) (lk := (2, 187)) (by decide) (by decide +kernel) rfl rfl (ty := .object "DayMuseum$Kisses") (by decide +kernel) (Or.inr ⟨_, rfl⟩) (z_ldd z_ilDM_ok 84 (q := (178, (.putfield 96, 3))) rfl) (fun H locs hP hD hS => ?_)
  refine lv_aload_n hx hb (z_ldd z_ilDM_ok 85 (q := (181, (.aload_n 0, 1))) rfl) rfl (lv_at hl 0 rfl) ?_
  refine lv_iconst hx hb (z_ldd z_ilDM_ok 86 (q := (182, (.iconst 0, 1))) rfl) rfl ?_
  refine z_putint hx hb hts hown hK (ci := 11) (q := ("DayMuseum", z_T11, 12)) rfl rfl hP hD hS (j := 11) (lk := (2, 188)) (by decide) (by decide +kernel) rfl (by decide +kernel) (z_ldd z_ilDM_ok 87 (q := (183, (.putfield 100, 3))) rfl) (fun H locs hP hD hS => ?_)
  replace hP : va_P cx.1 z_cl ([((cx.2.2 1, .inr (11, [.ref q2, .ref q3, .ref q4, .ref q5, .ref q6, .ref q7, .ref q8, .ref q9, .ref q10, .ref q11, .ref q12, .int 0])) : Nat × va_E)] ++ z_wg ((((((((((([] ++ 2 :: z_iGTape) ++ 3 :: z_iGTown) ++ 4 :: z_iGPeople) ++ 5 :: z_iGLaw) ++ 6 :: z_iGSenses) ++ 7 :: z_iGReports) ++ 8 :: z_iGDays) ++ 9 :: z_iGQuestions) ++ 10 :: z_iGWays) ++ 11 :: z_iGLuggage) ++ 12 :: z_iGKisses) (z_cxa cx f11) M11) H := hP
  replace hD : va_D (z_IA cx 1 s.heap.size) ([((cx.2.2 1, .inr (11, [.ref q2, .ref q3, .ref q4, .ref q5, .ref q6, .ref q7, .ref q8, .ref q9, .ref q10, .ref q11, .ref q12, .int 0])) : Nat × va_E)] ++ z_wg ((((((((((([] ++ 2 :: z_iGTape) ++ 3 :: z_iGTown) ++ 4 :: z_iGPeople) ++ 5 :: z_iGLaw) ++ 6 :: z_iGSenses) ++ 7 :: z_iGReports) ++ 8 :: z_iGDays) ++ 9 :: z_iGQuestions) ++ 10 :: z_iGWays) ++ 11 :: z_iGLuggage) ++ 12 :: z_iGKisses) (z_cxa cx f11) M11) := hD
  have hf1 : f11 1 = cx.2.2 1 := hff 1 (by decide +kernel)
  have e1 : z_mj z_iGDM M11 (fun _ _ => 0) 1 = fun _ => 0 := z_mj_out (by decide +kernel)
  have e2 : z_flds (z_cxa cx f11) (z_mj z_iGDM M11 (fun _ _ => 0)) 1 = [.ref (f11 2), .ref (f11 3), .ref (f11 4), .ref (f11 5), .ref (f11 6), .ref (f11 7), .ref (f11 8), .ref (f11 9), .ref (f11 10), .ref (f11 11), .ref (f11 12), .int (Int32.ofInt 0)] := by
    unfold z_flds z_fld
    rw [e1]
    rfl
  have eW : ([((cx.2.2 1, .inr (11, [.ref q2, .ref q3, .ref q4, .ref q5, .ref q6, .ref q7, .ref q8, .ref q9, .ref q10, .ref q11, .ref q12, .int 0])) : Nat × va_E)] ++ z_wg ((((((((((([] ++ 2 :: z_iGTape) ++ 3 :: z_iGTown) ++ 4 :: z_iGPeople) ++ 5 :: z_iGLaw) ++ 6 :: z_iGSenses) ++ 7 :: z_iGReports) ++ 8 :: z_iGDays) ++ 9 :: z_iGQuestions) ++ 10 :: z_iGWays) ++ 11 :: z_iGLuggage) ++ 12 :: z_iGKisses) (z_cxa cx f11) M11) = z_wg (1 :: z_iGDM) (z_cxa cx f11) (z_mj z_iGDM M11 (fun _ _ => 0)) := by
    show _ = (f11 1, z_cell (z_cxa cx f11) (z_mj z_iGDM M11 (fun _ _ => 0)) 1) :: z_wg z_iGDM (z_cxa cx f11) (z_mj z_iGDM M11 (fun _ _ => 0))
    rw [hf1, z_cell_obj (k := 1) (by decide), e2, g2, g3, g4, g5, g6, g7, g8, g9, g10, g11, g12, z_wg_cg (D := z_iGDM) (E := []) (f := f11) (M := M11) (by decide +kernel) (fun k hk => z_mj_in hk) (fun _ _ => rfl)]
    rfl
  rw [eW] at hP hD
  have hPM2 : z_PM (1 :: z_iGDM) (z_mj z_iGDM M11 (fun _ _ => 0)) := by
    intro k hk hn j
    rcases List.mem_cons.mp hk with rfl | hk
    · rw [e1]; rfl
    · rw [z_mj_in hk]; exact hPM k hk hn j
  have hMR2 : z_MRg (1 :: z_iGDM) (z_mj z_iGDM M11 (fun _ _ => 0)) := by
    intro k hk
    rcases List.mem_cons.mp hk with rfl | hk
    · rw [e1]; exact fun _ _ _ => (show z_i32 0 from ⟨by decide, by decide⟩)
    · rw [z_mj_in hk]; exact hMR k hk
  exact W.vret hx hb hr (fun u hu _ => ⟨⟨f11, _, rfl, hff, hf1, hPM2, hMR2, by rw [hu]; exact hP, hD⟩, hS.F hu⟩) hS.2.2 (z_ldd z_ilDM_ok 88 (q := (186, (.return_, 1))) rfl) hlocks
