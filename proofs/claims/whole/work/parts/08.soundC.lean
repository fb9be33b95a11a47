/-! calls -/
theorem z_take_inv : ∀ {n : Nat} {acc S : List z_V} {K : List z_V → List z_V → Prop}, z_take n acc S K → ∃ p r, p.length = n ∧ S = p ++ r ∧ K (p.reverse ++ acc) r := by
  intro n
  induction n with
  | zero => intro acc S K h; exact ⟨[], S, rfl, rfl, h⟩
  | succ n ih =>
    intro acc S K h
    cases S with
    | nil => exact h.elim
    | cons v S =>
      obtain ⟨p, r, e1, e2, e3⟩ := ih (acc := v :: acc) (S := S) (K := K) h
      exact ⟨v :: p, r, by simp [e1], by simp [e2], by simpa using e3⟩
theorem z_A_mono {w : Nat} {cx : z_C} {a b : Nat} (h : a ≤ b) : ∀ q, z_A w cx b q → z_A w cx a q := by
  intro q hq
  rcases hq with hq | hq
  · exact Or.inl hq
  · exact Or.inr (Nat.le_trans h hq)
theorem z_D_self {w : Nat} {cx : z_C} {M : z_M} {A : Nat → Prop} {sz : Nat} (h : va_D A (z_ws w cx M)) : va_D (z_A w cx sz) (z_ws w cx M) := by
  refine ⟨h.1, fun k q hk => Or.inl ?_⟩
  unfold z_ws at hk
  rw [List.getElem?_map] at hk
  cases hi : (z_ids w)[k]? with
  | none => rw [hi] at hk; cases hk
  | some i =>
    rw [hi] at hk
    have := Option.some.inj hk
    exact ⟨i, List.mem_of_getElem? hi, by rw [← this]⟩
theorem z_St.same {cx : z_C} {A : Nat → Prop} {U V : State} {H : Heap} (h : z_St cx A U H) (hv : U.vm = V.vm) : z_St cx A V H := by
  have hal : U.vm.Alike V.vm := by rw [hv]; exact Vm.Alike.refl _
  refine ⟨fun k hk => ⟨(h.1 k hk).1.moved hal, (h.1 k hk).2.moved hal⟩, fun w hw => ?_⟩
  have h2 := h.2 w hw
  simp only [z_nest, List.mem_cons, List.not_mem_nil, or_false] at hw
  rcases hw with rfl | rfl | rfl | rfl | rfl | rfl | rfl | rfl | rfl <;> exact va_Nw.same rfl hv h2
theorem z_blind {w sz : Nat} {cx : z_C} {A : Nat → Prop} {M : z_M} {av : List Value} : FrameBlind (va_Pc av (fun U => U.heap.size = sz ∧ z_Wd w cx A M U)) := by
  intro a U g mk h
  obtain ⟨h1, h2, h3, h4, h5, h6⟩ := h
  exact ⟨h1, h2, h3, va_K.moved (u := U) (U := U.calling g mk a) (Vm.Alike.refl U.vm) h4, h5, z_St.same (U := U) (V := U.calling g mk a) h6 rfl⟩
theorem z_cat_eq (ad : Nat → Nat) (r : List z_V) : ((r.map (z_v ad)).map fun v => v.category).sum = z_cat r := by
  induction r with
  | nil => rfl
  | cons v r ih =>
    rw [List.map_cons, List.map_cons, List.sum_cons, ih]
    match v with
    | .inl x => rfl
    | .inr (.inl x) => rfl
    | .inr (.inr (.inl x)) => rfl
    | .inr (.inr (.inr ())) => rfl
theorem z_hd_inv {a : List z_V} {o : Nat} (h : z_hd a = o) (h0 : o ≠ 0) : ∃ b, a = z_R o :: b := by
  match a, h with
  | .inr (.inr (.inl k)) :: b, h => exact ⟨b, by rw [← h]; rfl⟩
  | [], h => exact absurd h.symm h0
  | .inl _ :: _, h => exact absurd h.symm h0
  | .inr (.inl _) :: _, h => exact absurd h.symm h0
  | .inr (.inr (.inr _)) :: _, h => exact absurd h.symm h0
theorem z_ans_inv {rt : Option FieldType} {v : z_V} {A : Prop} {B C : Int → Prop} (h : z_ans (z_rk rt) v A B C) (hn : rt = none → v = z_U) : (A ∧ v = z_U) ∨ (∃ x, v = z_I x ∧ B x) ∨ (∃ x, v = z_J x ∧ C x) := by
  have hi : ∀ {B : Int → Prop}, z_vi v B → ∃ x, v = z_I x ∧ B x := by
    intro B h
    match v, h with
    | .inl x, h => exact ⟨x, rfl, h⟩
  have hl : ∀ {B : Int → Prop}, z_vl v B → ∃ x, v = z_J x ∧ B x := by
    intro B h
    match v, h with
    | .inr (.inl x), h => exact ⟨x, rfl, h⟩
  cases rt with
  | none => exact Or.inl ⟨h, hn rfl⟩
  | some ty =>
    cases ty with
    | int => exact Or.inr (Or.inl (hi h))
    | boolean => exact Or.inr (Or.inl (hi h))
    | _ => exact Or.inr (Or.inr (hl h))
theorem z_chkM_inv {t : z_MT} (h : z_chkM t = true) : (∀ e ∈ t.2.2.2.2.1, z_chkE t.1.cls t.2.1 t.2.2.1 t.2.2.2.1 e = true) ∧ z_chain t.2.2.2.2.1 = true ∧ (∃ e r, t.2.2.2.2.1 = e :: r ∧ e.1 = 0) ∧ t.2.2.1 ≤ 30 ∧ (t.1.cls ≠ "java/lang/invoke/MethodHandle" ∧ t.1.cls ≠ "java/lang/invoke/VarHandle") ∧ plainName t.1.cls = true ∧ Cond.code t.1 t.2.1 t.2.2.1 t.2.2.2.1 ∈ z_ts ∧ Cond.initialized t.1.cls ∈ z_ts ∧ (t.2.2.2.2.2.1 = true → Cond.static t.1 ∈ z_ts) ∧ (t.2.2.2.2.2.1 = false → Cond.instanceMethod t.1 ∈ z_ts ∧ Cond.selects t.1.cls t.1 t.1 ∈ z_ts) := by
  obtain ⟨y, b, mL, rt, c, st, ws⟩ := t
  unfold z_chkM at h
  simp only [Bool.and_eq_true, decide_eq_true_eq] at h
  obtain ⟨h1, h2, h3, h4, h5, h6, h7⟩ := h
  have hw : ∃ w0 w1 w2 w3, ws = [w0, w1, w2, w3] := by
    match ws, h7 with
    | [w0, w1, w2, w3], _ => exact ⟨w0, w1, w2, w3, rfl⟩
  obtain ⟨w0, w1, w2, w3, rfl⟩ := hw
  simp only [Bool.and_eq_true] at h7
  obtain ⟨g1, g2, g3⟩ := h7
  refine ⟨fun e he => List.all_eq_true.mp h1 e he, h2, ?_, Nat.le_of_ble_eq_true h4, h5, h6, z_wd_in g1, z_wd_in g2, ?_, ?_⟩
  · match c, h3 with
    | e :: r, h3 => exact ⟨e, r, rfl, Nat.eq_of_beq_eq_true h3⟩
  · intro hs
    have hs' : st = true := hs
    rw [if_pos hs'] at g3
    exact z_wd_in g3
  · intro hs
    have hs' : ¬ st = true := by
      have : st = false := hs
      rw [this]; decide
    rw [if_neg hs', Bool.and_eq_true] at g3
    exact ⟨z_wd_in g3.1, z_wd_in g3.2⟩
theorem z_ts_GI {w : Cond} (h : w ∈ z_ts) : w ∈ z_ts ∧ ((w.onTables && w.keeps) = true ∨ ∃ ty, w = .arrayClass ty) := ⟨h, good_of_word (z_ts_good w h).2⟩
theorem z_WS_in {t : z_MT} (h : z_chkM t = true) : ∀ w ∈ z_WS t, w ∈ z_ts := by
  intro w hw
  rcases List.mem_cons.mp hw with e | e
  · rw [e]; exact (z_chkM_inv h).2.2.2.2.2.2.1
  · exact e
theorem z_all_ne0 : ∀ k ∈ z_all, k ≠ 0 := by decide +kernel
section ZC
variable {w d : Nat} {t : z_MT} {pc : Nat} {L S : List z_V} {M : z_M} {Q : z_V → z_M → Prop} {K : Nat → List z_V → List z_V → z_M → Prop}
variable {p : Program} {l : Launch} {e : Env} {R : Room} {s : State} {m : MethodId} {args : Array Value} {below : List Frame} {meth : Method} {c : Code} {H : Heap} {locs : List Loc} {ls : Array Slot} {cx : z_C}
theorem z_called {QQ : State → Prop} {rt : Option FieldType} {Q' : z_V → z_M → Prop} {arr : Array Value} {st0 rest : List Value} {cc ss : Nat} (hr : va_Run p l e R s m args below meth c H locs cc ss 0 0 (F0 m pc ls st0) rest (z_Q w cx (z_A w cx H.size) rt Q' arr) (z_A w cx H.size)) {b0 : Nat} (hb0 : b0 ≤ s.heap.size) (hS : va_S (z_A w cx b0) s.heap H locs)
    (kk : ∀ (v : z_V) (M' : z_M) (H1 : Heap) (locs1 : List Loc), (rt = none → v = z_U) → z_vok w v → Q' v M' → va_P cx.1 z_cl (z_ws w cx M') H1 → va_D (z_A w cx b0) (z_ws w cx M') → z_MR w M' → va_S (z_A w cx b0) s.heap H1 locs1 → H.size ≤ H1.size → (∀ q : Nat, q < H.size → ¬ z_A w cx H.size q → H1[q]? = H[q]?) → W p l e R s m args below meth c H1 locs1 cc ss QQ (F0 m (pc + 3) ls ((z_out cx.2.2 v).toList ++ rest))) : W p l e R s m args below meth c H locs cc ss QQ (F0 m pc ls st0) := by
  have hle : b0 ≤ H.size := Nat.le_trans hb0 hS.1
  intro T hT X
  obtain ⟨v, st₀, t, T', L, h0, X', hL, e1, e2, ⟨⟨u, M', hv, hn, hok, hq, hP1, hD1, hR1⟩, hz, hk⟩, st⟩ := hr T hT X
  cases hv
  rw [h0] at hz hk
  obtain ⟨t2, a1, b1⟩ := kk u M' T'.heap (locs ++ L) hn hok hq (by rw [e1]; exact hP1) (hD1.weaken (fun _ q _ z => z_A_mono hle q.1 z)) hR1
    ⟨Nat.le_trans hS.1 (by rw [e1]; exact hz), fun q h1 h2 => by rw [e1, hk q (Nat.lt_of_lt_of_le h1 hS.1) (fun z => h2 (z_A_mono hle q z))]; exact hS.2.1 q h1 h2, fun q hq => by
      rcases List.mem_append.mp hq with h | h
      · exact hS.2.2 q h
      · exact z_A_mono hle _ (hL q h)⟩ (by rw [e1]; exact hz) (fun q h1 h2 => by rw [e1]; exact hk q h1 h2) T' rfl X'
  exact ⟨t2, st t2 a1, b1⟩
/-- what a callee may ask of the world, at the call -/
theorem z_Wd_at (hKk : va_K cx.1 z_cl (z_tys cx) s) (hSt : z_St cx (z_A w cx s.heap.size) s s.heap) (hP : va_P cx.1 z_cl (z_ws w cx M) H) (hD : va_D (z_A w cx s.heap.size) (z_ws w cx M)) (hS : va_S (z_A w cx s.heap.size) s.heap H locs) {U : State} (hU : U.heap = H) (hW : s.WarmedH U.vm) : z_Wd w cx (z_A w cx H.size) M U := by
  subst hU
  exact ⟨hP, va_K.moved hW.alike hKk, z_D_self hD, hSt.warm hW (fun a h1 h2 => hS.2.1 a h1 h2) (fun q z => z_A_mono hS.1 q z)⟩
theorem z_back {t' : z_MT} {L r : List z_V} {v : z_V} {M' : z_M} {H1 : Heap} {locs1 : List Loc} {rk CC SS : Nat} (hrk : rk = z_rk t'.2.2.2.1) (hK : ∀ pc L S M, K pc L S M → z_G w d t pc L S M Q) (F : z_fix w d t cx p R CC SS s m args meth c) (hl : lv_has ls t.2.2.1 (z_lx cx.2.2 0 L)) (hLn : L.length = t.2.2.1) (hL : ∀ v ∈ L, z_vok w v) (hr : ∀ v ∈ r, z_vok w v)
    (hn : t'.2.2.2.1 = none → v = z_U) (hok : z_vok w v) (hq : z_ans rk v (K (pc + 3) L r M') (fun x => K (pc + 3) L (z_I x :: r) M') (fun x => K (pc + 3) L (z_J x :: r) M')) (hP1 : va_P cx.1 z_cl (z_ws w cx M') H1) (hD1 : va_D (z_A w cx s.heap.size) (z_ws w cx M')) (hR1 : z_MR w M') (hS1 : va_S (z_A w cx s.heap.size) s.heap H1 locs1) :
    W p l e R s m args below meth c H1 locs1 CC SS (MQ below (z_Q w cx (z_A w cx s.heap.size) t.2.2.2.1 Q) args s CC SS (z_A w cx s.heap.size)) (F0 m (pc + 3) ls ((z_out cx.2.2 v).toList ++ r.map (z_v cx.2.2))) := by
  subst hrk
  rcases z_ans_inv hq hn with ⟨h, rfl⟩ | ⟨x, rfl, h⟩ | ⟨x, rfl, h⟩
  · exact hK _ _ _ _ h p l e R CC SS s m args below meth c cx _ _ ls F ⟨hP1, hD1, hS1, hR1, hl, hLn, hL, hr⟩
  · exact hK _ _ _ _ h p l e R CC SS s m args below meth c cx _ _ ls F ⟨hP1, hD1, hS1, hR1, hl, hLn, hL, List.forall_mem_cons.mpr ⟨hok, hr⟩⟩
  · exact hK _ _ _ _ h p l e R CC SS s m args below meth c cx _ _ ls F ⟨hP1, hD1, hS1, hR1, hl, hLn, hL, List.forall_mem_cons.mpr ⟨hok, hr⟩⟩
end ZC
section ZD
variable {w d : Nat} {t : z_MT} {pc : Nat} {L S : List z_V} {M : z_M} {Q : z_V → z_M → Prop} {K : Nat → List z_V → List z_V → z_M → Prop}
theorem z_s_invokevirtual {ix x1 x2 x3 : Nat} {lk : Nat × Nat} (hd : decode t.2.1 pc = .ok (.invokevirtual ix, 3)) (hc : (match z_nth z_mt x1 with
      | none => true
      | some t' => ! t'.2.2.2.2.2.1 && (decide ((z_np t'.1).map (· + 1) = some x2) && (Nat.beq (x3 % 10) (z_rk t'.2.2.2.1) && (Nat.beq (z_knd (x3 / 10)) 0 && (z_all.contains (x3 / 10) && (decide (z_cnm (x3 / 10) = t'.1.cls) && z_wd lk (.methodLink t.1.cls ix t'.1))))))) = true) (hK : ∀ pc L S M, K pc L S M → z_G w d t pc L S M Q)
    (h : z_take x2 [] S fun a r => if z_cat r ≤ 8 then (if z_hd a = x3 / 10 then z_CC w d x1 a M (fun v M' => z_ans (x3 % 10) v (K (pc + 3) L r M') (fun x => K (pc + 3) L (z_I x :: r) M') (fun x => K (pc + 3) L (z_J x :: r) M')) else False) else False) : z_G w d t pc L S M Q := by
  replace h := z_take_inv h
  obtain ⟨pp, r, hlen, rfl, h⟩ := h
  rw [List.append_nil] at h
  split at h
  case isFalse => exact h.elim
  rename_i hcat
  split at h
  case isFalse => exact h.elim
  rename_i hhd
  cases d with
  | zero => exact h.elim
  | succ d =>
    obtain ⟨t', ht', hM⟩ : z_Cl w d x1 pp.reverse M _ := h
    rw [ht'] at hc
    simp only [Bool.and_eq_true, Bool.not_eq_true', decide_eq_true_eq] at hc
    obtain ⟨c1, c2, c3, c4, c5, c6, c7⟩ := hc
    have hok := z_mt_ok t' (z_nth_mem ht')
    obtain ⟨-, -, -, g4, g5, g6, g7, g8, -, g10⟩ := z_chkM_inv hok
    obtain ⟨gi, gs⟩ := g10 c1
    have hoin := z_mem_of c5
    obtain ⟨a', ha'⟩ := z_hd_inv hhd (z_all_ne0 _ hoin)
    have hpp : pp = a'.reverse ++ [z_R (x3 / 10)] := by
      rw [← List.reverse_reverse pp, ha', List.reverse_cons]
    have hko := Nat.eq_of_beq_eq_true c4
    intro p l e R CC SS s m args below meth c cx H locs ls F C
    obtain ⟨hx, hb, hr, hml, hown, hts, hlk, hKk, hSt, hRm⟩ := id F
    obtain ⟨hP, hD, hS, hMR, hl, hLn, hL, hSk⟩ := id C
    have vr : ∀ v ∈ r, z_vok w v := fun v hv => hSk v (by simp [hv])
    have vp : ∀ v ∈ pp.reverse, z_vok w v := fun v hv => hSk v (by simp [List.mem_reverse.mp hv])
    have vo : z_vok w (z_R (x3 / 10)) := vp _ (by rw [ha']; exact List.mem_cons_self)
    have hin := z_live vo (by omega) (by omega)
    obtain ⟨q0, -, hq⟩ := z_ws_at hin cx M
    rw [z_cell_obj hko] at hq
    obtain ⟨qc, hqc⟩ : ∃ qc, z_nth z_cl (z_cix (x3 / 10)) = some qc := by
      cases hz : z_nth z_cl (z_cix (x3 / 10)) with
      | some qc => exact ⟨qc, rfl⟩
      | none =>
        have : ∀ k ∈ z_all, z_knd k = 0 → (z_nth z_cl (z_cix k)).isSome = true := by decide +kernel
        have := this _ hoin hko
        rw [hz] at this
        cases this
    have hnm : qc.1 = t'.1.cls := by
      rw [← c6]; unfold z_cnm; rw [hqc]
    have hrec := va_recv hKk hP (by rw [← z_nth_eq]; exact hqc) hq
    rw [hnm] at hrec
    have hMm := hM l cx H.size vp hMR
    rw [ha'] at hMm
    have hWS := z_WS_in hok
    have hGI : GoodIn z_ts (wsV t.1.cls ix t'.1.cls t'.1 (z_WS t')) := by
      intro x hx
      refine z_ts_GI ?_
      unfold wsV at hx
      simp only [List.cons_append, List.nil_append, List.mem_cons] at hx
      rcases hx with rfl | rfl | rfl | rfl | hx
      · exact z_wd_in c7
      · exact gi
      · exact gs
      · exact g8
      · exact hWS x hx
    have hnp : (parseMethodDescriptor t'.1.desc).map (fun d => d.parameters.length) = some (x2 - 1) := by
      have : (z_np t'.1).map (· + 1) = some x2 := c2
      unfold z_np at this
      cases hz : (parseMethodDescriptor t'.1.desc).map (fun d => d.parameters.length) with
      | none => rw [hz] at this; cases this
      | some n =>
        rw [hz] at this
        have h2 : n + 1 = x2 := Option.some.inj this
        rw [← h2]; rfl
    have hla : a'.length + 1 = x2 := by
      rw [← hlen, hpp]; simp
    have hrun := va_runV (p := p) (l := l) (e := e) (R := R) (below := below) (meth := meth) (H := H) (locs := locs) (cells := CC) (slots := SS) (g := F0 m pc ls (((a'.map (z_v cx.2.2)).reverse) ++ .ref (cx.2.2 (x3 / 10)) :: r.map (z_v cx.2.2))) (C := t'.1.cls) (b := cx.2.2 (x3 / 10)) (As := a'.map (z_v cx.2.2)) (rest := r.map (z_v cx.2.2)) (n := x2 - 1) ⟨hx, hb, hml, hown, hts⟩ hMm
      (cwV (x2 - 1) hts hGI rfl rfl rfl ⟨rfl, g5.1, g5.2, hnp⟩ ⟨hRm.1, by have h64 := hRm.2.1; show 8 + (t'.2.2.1 + 11) + 64 * (d + 1) ≤ R.locals; omega⟩)
      ⟨z_blind, hrec, fun U hU hW => ⟨rfl, by rw [hU], z_Wd_at hKk hSt hP hD hS hU hW⟩⟩ rfl (by rw [List.length_map]; omega) hl.1 rfl (lv_room (by rw [z_cat_eq]; exact hcat)) hd ⟨hRm.2.2.1, hRm.2.2.2⟩
    have hst : (pp ++ r).map (z_v cx.2.2) = ((a'.map (z_v cx.2.2)).reverse) ++ .ref (cx.2.2 (x3 / 10)) :: r.map (z_v cx.2.2) := by
      rw [hpp]; simp [z_v]
    rw [hst]
    exact z_called hrun (Nat.le_refl _) hS (fun v M' H1 locs1 hn hok2 hq2 hP1 hD1 hR1 hS1 _ _ => z_back (t' := t') (Nat.eq_of_beq_eq_true c3) hK F hl hLn hL vr hn hok2 hq2 hP1 hD1 hR1 hS1)
theorem z_s_static {ix x1 x2 x3 : Nat} {lk : Nat × Nat} (hd : decode t.2.1 pc = .ok (.invokestatic ix, 3)) (hc : (match z_nth z_mt x1 with
      | none => true
      | some t' => t'.2.2.2.2.2.1 && (decide (z_np t'.1 = some x2) && (Nat.beq x3 (z_rk t'.2.2.2.1) && (z_wd lk (.methodLink t.1.cls ix t'.1) || decide (z_nth z_nest lk.2 = some (.methodLinkNest t.1.cls ix t'.1 "DayMuseum")))))) = true) (hK : ∀ pc L S M, K pc L S M → z_G w d t pc L S M Q)
    (h : z_take x2 [] S fun a r => if z_cat r ≤ 8 then z_CC w d x1 a M (fun v M' => z_ans x3 v (K (pc + 3) L r M') (fun x => K (pc + 3) L (z_I x :: r) M') (fun x => K (pc + 3) L (z_J x :: r) M')) else False) : z_G w d t pc L S M Q := by
  replace h := z_take_inv h
  obtain ⟨pp, r, hlen, rfl, h⟩ := h
  rw [List.append_nil] at h
  split at h
  case isFalse => exact h.elim
  rename_i hcat
  cases d with
  | zero => exact h.elim
  | succ d =>
    obtain ⟨t', ht', hM⟩ : z_Cl w d x1 pp.reverse M _ := h
    rw [ht'] at hc
    simp only [Bool.and_eq_true, Bool.or_eq_true, decide_eq_true_eq] at hc
    obtain ⟨c1, c2, c3, c4⟩ := hc
    have hok := z_mt_ok t' (z_nth_mem ht')
    obtain ⟨-, -, -, g4, g5, g6, g7, g8, g9, -⟩ := z_chkM_inv hok
    have gst := g9 c1
    intro p l e R CC SS s m args below meth c cx H locs ls F C
    obtain ⟨hx, hb, hr, hml, hown, hts, hlk, hKk, hSt, hRm⟩ := id F
    obtain ⟨hP, hD, hS, hMR, hl, hLn, hL, hSk⟩ := id C
    have vr : ∀ v ∈ r, z_vok w v := fun v hv => hSk v (by simp [hv])
    have vp : ∀ v ∈ pp.reverse, z_vok w v := fun v hv => hSk v (by simp [List.mem_reverse.mp hv])
    have hMm := hM l cx H.size vp hMR
    have hWS := z_WS_in hok
    have hnp : (parseMethodDescriptor t'.1.desc).map (fun d => d.parameters.length) = some x2 := c2
    have hst : (pp ++ r).map (z_v cx.2.2) = ((pp.reverse.map (z_v cx.2.2)).reverse) ++ r.map (z_v cx.2.2) := by
      simp [List.map_reverse]
    rw [hst]
    rcases c4 with c4 | c4
    · have hGI : GoodIn z_ts (va_wsS t.1.cls ix t'.1 (z_WS t')) := by
        intro x hx
        refine z_ts_GI ?_
        unfold va_wsS at hx
        simp only [List.cons_append, List.nil_append, List.mem_cons] at hx
        rcases hx with rfl | rfl | rfl | hx
        · exact z_wd_in c4
        · exact gst
        · exact g8
        · exact hWS x hx
      have hrun := va_runS (p := p) (l := l) (e := e) (R := R) (below := below) (meth := meth) (H := H) (locs := locs) (cells := CC) (slots := SS) (g := F0 m pc ls (((pp.reverse.map (z_v cx.2.2)).reverse) ++ r.map (z_v cx.2.2))) (As := pp.reverse.map (z_v cx.2.2)) (rest := r.map (z_v cx.2.2)) (n := x2) ⟨hx, hb, hml, hown, hts⟩ hMm
        (va_cwS x2 hts hGI rfl rfl rfl ⟨g5.1, g5.2, hnp⟩ ⟨hRm.1, by have h64 := hRm.2.1; show 8 + (t'.2.2.1 + 11) + 64 * (d + 1) ≤ R.locals; omega⟩)
        ⟨z_blind, fun U hU hW => ⟨rfl, by rw [hU], z_Wd_at hKk hSt hP hD hS hU hW⟩⟩ rfl (by rw [List.length_map, List.length_reverse]; exact hlen) hl.1 rfl (lv_room (by rw [z_cat_eq]; exact hcat)) hd ⟨hRm.2.2.1, hRm.2.2.2⟩
      exact z_called hrun (Nat.le_refl _) hS (fun v M' H1 locs1 hn hok2 hq2 hP1 hD1 hR1 hS1 _ _ => z_back (t' := t') (Nat.eq_of_beq_eq_true c3) hK F hl hLn hL vr hn hok2 hq2 hP1 hD1 hR1 hS1)
    · have hNw := hSt.2 _ (z_nth_mem c4)
      have hGI : GoodIn z_ts (z_WS t') := fun x hx => z_ts_GI (hWS x hx)
      have hrun := va_runSN (p := p) (l := l) (e := e) (R := R) (below := below) (meth := meth) (H := H) (locs := locs) (cells := CC) (slots := SS) (g := F0 m pc ls (((pp.reverse.map (z_v cx.2.2)).reverse) ++ r.map (z_v cx.2.2))) (As := pp.reverse.map (z_v cx.2.2)) (rest := r.map (z_v cx.2.2)) (n := x2) ⟨hx, hb, hml, hown, hts⟩ hMm
        ⟨va_cnB x2 hts hGI rfl rfl rfl hNw (hts _ g8) ⟨g5.1, g5.2, hnp⟩ ⟨hRm.1, by have h64 := hRm.2.1; show 8 + (t'.2.2.1 + 11) + 64 * (d + 1) ≤ R.locals; omega⟩, hts _ gst, trivial⟩
        ⟨z_blind, fun U hU hW => ⟨rfl, by rw [hU], z_Wd_at hKk hSt hP hD hS hU hW⟩⟩ rfl (by rw [List.length_map, List.length_reverse]; exact hlen) hl.1 rfl (lv_room (by rw [z_cat_eq]; exact hcat)) hd ⟨hRm.2.2.1, hRm.2.2.2⟩
      exact z_called hrun (Nat.le_refl _) hS (fun v M' H1 locs1 hn hok2 hq2 hP1 hD1 hR1 hS1 _ _ => z_back (t' := t') (Nat.eq_of_beq_eq_true c3) hK F hl hLn hL vr hn hok2 hq2 hP1 hD1 hR1 hS1)
end ZD
