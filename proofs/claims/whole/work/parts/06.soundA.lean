/-! THE STEPS ARE SOUND: what the small machine asks of an instruction carries over to the machine -/
def z_rm (d : Nat) : Room := { frames := d + 1, cells := 0, slots := 0, locals := 64 * (d + 1) }
def z_WS (t : z_MT) : List Cond := .code t.1 t.2.1 t.2.2.1 t.2.2.2.1 :: z_ts
def z_Wd (w : Nat) (cx : z_C) (A : Nat → Prop) (M : z_M) (U : State) : Prop := va_P cx.1 z_cl (z_ws w cx M) U.heap ∧ va_K cx.1 z_cl (z_tys cx) U ∧ va_D A (z_ws w cx M) ∧ z_St cx A U U.heap
def z_Q (w : Nat) (cx : z_C) (A : Nat → Prop) (rt : Option FieldType) (Q : z_V → z_M → Prop) : Array Value → State → Outcome → State → Prop := fun _ st oc t => (∃ (v : z_V) (M' : z_M), oc = .returned (z_out cx.2.2 v) ∧ (rt = none → v = z_U) ∧ z_vok w v ∧ Q v M' ∧ va_P cx.1 z_cl (z_ws w cx M') t.heap ∧ va_D A (z_ws w cx M') ∧ z_MR w M') ∧ va_F A st t
/-- the call of method k with these, from that memory, comes back, and Q holds of its answer and of the memory -/
def z_Cl (w d k : Nat) (a : List z_V) (M : z_M) (Q : z_V → z_M → Prop) : Prop := ∃ t : z_MT, z_nth z_mt k = some t ∧ ∀ (l : Launch) (cx : z_C) (sz : Nat), (∀ v ∈ a, z_vok w v) → z_MR w M → Met l t.1 (z_WS t) (z_rm d) (va_Pc (a.map (z_v cx.2.2)) (fun U => U.heap.size = sz ∧ z_Wd w cx (z_A w cx sz) M U)) (z_Q w cx (z_A w cx sz) t.2.2.2.1 Q) 0 0 (z_A w cx sz)
def z_CC (w d k : Nat) (a : List z_V) (M : z_M) (Q : z_V → z_M → Prop) : Prop := match d with
  | 0 => False
  | d' + 1 => z_Cl w d' k a M Q
def z_fix (w d : Nat) (t : z_MT) (cx : z_C) (p : Program) (R : Room) (CC SS : Nat) (s : State) (m : MethodId) (args : Array Value) (meth : Method) (c : Code) : Prop :=
  p.tables.exec = Jvm.exec ∧ c.code = t.2.1 ∧ meth.sig.returnType = t.2.2.2.1 ∧ c.maxLocals = t.2.2.1 ∧ s.vm.findClass t.1.cls = some m.cls ∧ (∀ x ∈ z_ts, x.before args s = true) ∧ meth.locks = false ∧ va_K cx.1 z_cl (z_tys cx) s ∧ z_St cx (z_A w cx s.heap.size) s s.heap ∧ (d + 1 ≤ R.frames ∧ 64 * (d + 1) ≤ R.locals ∧ CC ≤ R.cells ∧ SS ≤ R.slots)
def z_cfg (w : Nat) (t : z_MT) (cx : z_C) (s : State) (H : Heap) (locs : List Loc) (ls : Array Slot) (L S : List z_V) (M : z_M) : Prop :=
  va_P cx.1 z_cl (z_ws w cx M) H ∧ va_D (z_A w cx s.heap.size) (z_ws w cx M) ∧ va_S (z_A w cx s.heap.size) s.heap H locs ∧ z_MR w M ∧ lv_has ls t.2.2.1 (z_lx cx.2.2 0 L) ∧ L.length = t.2.2.1 ∧ (∀ v ∈ L, z_vok w v) ∧ ∀ v ∈ S, z_vok w v
/-- from this place on the method comes to its end, and Q holds of its answer and of the memory -/
def z_G (w d : Nat) (t : z_MT) (pc : Nat) (L S : List z_V) (M : z_M) (Q : z_V → z_M → Prop) : Prop :=
  ∀ (p : Program) (l : Launch) (e : Env) (R : Room) (CC SS : Nat) (s : State) (m : MethodId) (args : Array Value) (below : List Frame) (meth : Method) (c : Code) (cx : z_C) (H : Heap) (locs : List Loc) (ls : Array Slot),
    z_fix w d t cx p R CC SS s m args meth c → z_cfg w t cx s H locs ls L S M →
    W p l e R s m args below meth c H locs CC SS (MQ below (z_Q w cx (z_A w cx s.heap.size) t.2.2.2.1 Q) args s CC SS (z_A w cx s.heap.size)) (F0 m pc ls (S.map (z_v cx.2.2)))
/-! what the parts of a step say -/
theorem z_ldi_inv {L : List z_V} {i : Nat} {K : Int → Prop} (h : z_ldi L i K) : ∃ x, z_nth L i = some (z_I x) ∧ K x := by
  unfold z_ldi at h
  split at h
  next x e => exact ⟨x, e, h⟩
  next => exact h.elim
theorem z_ldl_inv {L : List z_V} {i : Nat} {K : Int → Prop} (h : z_ldl L i K) : ∃ x, z_nth L i = some (z_J x) ∧ K x := by
  unfold z_ldl at h
  split at h
  next x e => exact ⟨x, e, h⟩
  next => exact h.elim
theorem z_lda_inv {L : List z_V} {i : Nat} {K : Nat → Prop} (h : z_lda L i K) : ∃ x, z_nth L i = some (z_R x) ∧ K x := by
  unfold z_lda at h
  split at h
  next x e => exact ⟨x, e, h⟩
  next => exact h.elim

theorem z_p1_inv {S : List z_V} {K : Int → List z_V → Prop} (h : z_p1 S K) : ∃ x r, S = z_I x :: r ∧ K x r := by
  unfold z_p1 at h
  split at h
  next => exact ⟨_, _, rfl, h⟩
  next => exact h.elim
theorem z_p2_inv {S : List z_V} {K : Int → Int → List z_V → Prop} (h : z_p2 S K) : ∃ x y r, S = z_I y :: z_I x :: r ∧ K x y r := by
  unfold z_p2 at h
  split at h
  next => exact ⟨_, _, _, rfl, h⟩
  next => exact h.elim
theorem z_q1_inv {S : List z_V} {K : Int → List z_V → Prop} (h : z_q1 S K) : ∃ x r, S = z_J x :: r ∧ K x r := by
  unfold z_q1 at h
  split at h
  next => exact ⟨_, _, rfl, h⟩
  next => exact h.elim
theorem z_q2_inv {S : List z_V} {K : Int → Int → List z_V → Prop} (h : z_q2 S K) : ∃ x y r, S = z_J y :: z_J x :: r ∧ K x y r := by
  unfold z_q2 at h
  split at h
  next => exact ⟨_, _, _, rfl, h⟩
  next => exact h.elim
theorem z_qi_inv {S : List z_V} {K : Int → Int → List z_V → Prop} (h : z_qi S K) : ∃ x y r, S = z_I y :: z_J x :: r ∧ K x y r := by
  unfold z_qi at h
  split at h
  next => exact ⟨_, _, _, rfl, h⟩
  next => exact h.elim
theorem z_pr_inv {S : List z_V} {K : Nat → List z_V → Prop} (h : z_pr S K) : ∃ a r, S = z_R a :: r ∧ K a r := by
  unfold z_pr at h
  split at h
  next => exact ⟨_, _, rfl, h⟩
  next => exact h.elim
theorem z_pri_inv {S : List z_V} {K : Nat → Int → List z_V → Prop} (h : z_pri S K) : ∃ a x r, S = z_I x :: z_R a :: r ∧ K a x r := by
  unfold z_pri at h
  split at h
  next => exact ⟨_, _, _, rfl, h⟩
  next => exact h.elim
theorem z_prl_inv {S : List z_V} {K : Nat → Int → Int → List z_V → Prop} (h : z_prl S K) : ∃ a x v r, S = z_J v :: z_I x :: z_R a :: r ∧ K a x v r := by
  unfold z_prl at h
  split at h
  next => exact ⟨_, _, _, _, rfl, h⟩
  next => exact h.elim
theorem z_prii_inv {S : List z_V} {K : Nat → Int → Int → List z_V → Prop} (h : z_prii S K) : ∃ a x v r, S = z_I v :: z_I x :: z_R a :: r ∧ K a x v r := by
  unfold z_prii at h
  split at h
  next => exact ⟨_, _, _, _, rfl, h⟩
  next => exact h.elim
theorem z_pc5_inv {S : List z_V} {K : Nat → Int → Nat → Int → Int → List z_V → Prop} (h : z_pc5 S K) : ∃ a i b j n r, S = z_I n :: z_I j :: z_R b :: z_I i :: z_R a :: r ∧ K a i b j n r := by
  unfold z_pc5 at h
  split at h
  next => exact ⟨_, _, _, _, _, _, rfl, h⟩
  next => exact h.elim
theorem z_cat_of (ad : Nat → Nat) (v : z_V) (h : z_k1 v = true) : (z_v ad v).category = 1 := by
  match v, h with
  | .inl y, _ => rfl
  | .inr (.inr (.inl y)), _ => rfl
  | .inr (.inr (.inr ())), _ => rfl
theorem z_lhas {ad : Nat → Nat} {ls : Array Slot} {nL : Nat} {L : List z_V} (h : lv_has ls nL (z_lx ad 0 L)) {i : Nat} {v : z_V} (hv : z_nth L i = some v) (hu : v ≠ z_U) : ls[i]? = some (.val (z_v ad v)) := by
  have h2 := h.2.2 _ (z_lx_in (ad := ad) (j := 0) hv hu)
  rw [Nat.zero_add] at h2
  exact h2
theorem z_lset {ad : Nat → Nat} {ls : Array Slot} {nL : Nat} {L : List z_V} {i : Nat} {v : z_V} (hi : i < L.length) (h : lv_has ls nL ((i, z_v ad v) :: (z_lx ad 0 L).filter (fun q => !(q.1 == i) && !(q.1 + 1 == i && q.2.category == 2)))) : lv_has ls nL (z_lx ad 0 (z_st L i v)) := by
  refine ⟨h.1, h.2.1, fun q hq => h.2.2 q ?_⟩
  obtain ⟨q1, q2⟩ := q
  obtain ⟨u, n, e1, e2, e3, e4⟩ := z_lx_mem hq
  rw [Nat.zero_add] at e1
  subst e1; subst e4
  rcases z_st_nth hi e2 e3 with ⟨g1, g2⟩ | ⟨g1, g2, g3⟩
  · subst g1; subst g2
    exact List.mem_cons_self
  · refine List.mem_cons_of_mem _ (List.mem_filter.mpr ⟨?_, ?_⟩)
    · have := z_lx_in (ad := ad) (j := 0) g2 e3
      rw [Nat.zero_add] at this
      exact this
    · by_cases hh : q1 + 1 = i
      · have := z_cat_of ad u (g3 hh)
        simp [g1, this]
      · simp [g1, hh]
theorem z_lset2 {ad : Nat → Nat} {ls : Array Slot} {nL : Nat} {L : List z_V} {i : Nat} {v : z_V} (hi : i < L.length) (h : lv_has ls nL ((i, z_v ad v) :: (z_lx ad 0 L).filter (fun q => !(q.1 == i) && (!(q.1 == i + 1) && !(q.1 + 1 == i && q.2.category == 2))))) : lv_has ls nL (z_lx ad 0 (z_st2 L i v)) := by
  refine ⟨h.1, h.2.1, fun q hq => h.2.2 q ?_⟩
  obtain ⟨q1, q2⟩ := q
  obtain ⟨u, n, e1, e2, e3, e4⟩ := z_lx_mem hq
  rw [Nat.zero_add] at e1
  subst e1; subst e4
  obtain ⟨f1, f2⟩ := z_set_nth e2 e3
  rcases z_st_nth hi f2 e3 with ⟨g1, g2⟩ | ⟨g1, g2, g3⟩
  · subst g1; subst g2
    exact List.mem_cons_self
  · refine List.mem_cons_of_mem _ (List.mem_filter.mpr ⟨?_, ?_⟩)
    · have := z_lx_in (ad := ad) (j := 0) g2 e3
      rw [Nat.zero_add] at this
      exact this
    · by_cases hh : q1 + 1 = i
      · have := z_cat_of ad u (g3 hh)
        simp [g1, f1, this]
      · simp [g1, hh, f1]
theorem z_st2_ok {w : Nat} {L : List z_V} {i : Nat} {v : z_V} (h : ∀ u ∈ L, z_vok w u) (hv : z_vok w v) : ∀ u ∈ z_st2 L i v, z_vok w u := by
  intro u hu
  rcases List.mem_or_eq_of_mem_set hu with h2 | h2
  · exact z_st_ok h hv u h2
  · subst h2
    exact trivial
theorem z_nth_ok {w : Nat} {L : List z_V} {i : Nat} {v : z_V} (h : ∀ u ∈ L, z_vok w u) (hv : z_nth L i = some v) : z_vok w v := h v (z_nth_mem hv)
section ZS
variable {w d : Nat} {t : z_MT} {pc : Nat} {L S : List z_V} {M : z_M} {Q : z_V → z_M → Prop} {K : Nat → List z_V → List z_V → z_M → Prop}

theorem z_s_iadd (hd : decode t.2.1 pc = .ok (.iadd, 1)) (hK : ∀ pc L S M, K pc L S M → z_G w d t pc L S M Q) (h : z_p2 S fun x y r => K (pc + 1) L (z_I (z_w (x + y)) :: r) M) : z_G w d t pc L S M Q := by
  replace h := z_p2_inv h
  obtain ⟨x, y, r, rfl, h⟩ := h
  intro p l e R CC SS s m args below meth c cx H locs ls F C
  obtain ⟨hx, hb, hr, hml, hown, hts, hlk, hKk, hSt, hRm⟩ := id F
  obtain ⟨hP, hD, hS, hMR, hl, hLn, hL, hSk⟩ := id C
  have vy : z_i32 y := hSk (z_I y) (by simp)
  have vx : z_i32 x := hSk (z_I x) (by simp)
  have vr : ∀ v ∈ r, z_vok w v := fun v hv => hSk v (by simp [hv])
  show W p l e R s m args below meth c H locs CC SS _ (F0 m pc ls (.int (Int32.ofInt y) :: .int (Int32.ofInt x) :: r.map (z_v cx.2.2)))
  refine lv_iadd hx hb hd ?_
  rw [z_n_add]
  exact hK _ _ _ _ h p l e R CC SS s m args below meth c cx H locs ls F ⟨hP, hD, hS, hMR, hl, hLn, hL, List.forall_mem_cons.mpr ⟨z_w_in _, vr⟩⟩
theorem z_s_isub (hd : decode t.2.1 pc = .ok (.isub, 1)) (hK : ∀ pc L S M, K pc L S M → z_G w d t pc L S M Q) (h : z_p2 S fun x y r => K (pc + 1) L (z_I (z_w (x - y)) :: r) M) : z_G w d t pc L S M Q := by
  replace h := z_p2_inv h
  obtain ⟨x, y, r, rfl, h⟩ := h
  intro p l e R CC SS s m args below meth c cx H locs ls F C
  obtain ⟨hx, hb, hr, hml, hown, hts, hlk, hKk, hSt, hRm⟩ := id F
  obtain ⟨hP, hD, hS, hMR, hl, hLn, hL, hSk⟩ := id C
  have vy : z_i32 y := hSk (z_I y) (by simp)
  have vx : z_i32 x := hSk (z_I x) (by simp)
  have vr : ∀ v ∈ r, z_vok w v := fun v hv => hSk v (by simp [hv])
  show W p l e R s m args below meth c H locs CC SS _ (F0 m pc ls (.int (Int32.ofInt y) :: .int (Int32.ofInt x) :: r.map (z_v cx.2.2)))
  refine lv_isub hx hb hd ?_
  rw [z_n_sub]
  exact hK _ _ _ _ h p l e R CC SS s m args below meth c cx H locs ls F ⟨hP, hD, hS, hMR, hl, hLn, hL, List.forall_mem_cons.mpr ⟨z_w_in _, vr⟩⟩
theorem z_s_imul (hd : decode t.2.1 pc = .ok (.imul, 1)) (hK : ∀ pc L S M, K pc L S M → z_G w d t pc L S M Q) (h : z_p2 S fun x y r => K (pc + 1) L (z_I (z_w (x * y)) :: r) M) : z_G w d t pc L S M Q := by
  replace h := z_p2_inv h
  obtain ⟨x, y, r, rfl, h⟩ := h
  intro p l e R CC SS s m args below meth c cx H locs ls F C
  obtain ⟨hx, hb, hr, hml, hown, hts, hlk, hKk, hSt, hRm⟩ := id F
  obtain ⟨hP, hD, hS, hMR, hl, hLn, hL, hSk⟩ := id C
  have vy : z_i32 y := hSk (z_I y) (by simp)
  have vx : z_i32 x := hSk (z_I x) (by simp)
  have vr : ∀ v ∈ r, z_vok w v := fun v hv => hSk v (by simp [hv])
  show W p l e R s m args below meth c H locs CC SS _ (F0 m pc ls (.int (Int32.ofInt y) :: .int (Int32.ofInt x) :: r.map (z_v cx.2.2)))
  refine lv_imul hx hb hd ?_
  rw [z_n_mul]
  exact hK _ _ _ _ h p l e R CC SS s m args below meth c cx H locs ls F ⟨hP, hD, hS, hMR, hl, hLn, hL, List.forall_mem_cons.mpr ⟨z_w_in _, vr⟩⟩
theorem z_s_idiv (hd : decode t.2.1 pc = .ok (.idiv, 1)) (hK : ∀ pc L S M, K pc L S M → z_G w d t pc L S M Q) (h : z_p2 S fun x y r => z_nz y (K (pc + 1) L (z_I (z_w (Int.tdiv x y)) :: r) M)) : z_G w d t pc L S M Q := by
  replace h := z_p2_inv h
  obtain ⟨x, y, r, rfl, h⟩ := h
  intro p l e R CC SS s m args below meth c cx H locs ls F C
  obtain ⟨hx, hb, hr, hml, hown, hts, hlk, hKk, hSt, hRm⟩ := id F
  obtain ⟨hP, hD, hS, hMR, hl, hLn, hL, hSk⟩ := id C
  have vy : z_i32 y := hSk (z_I y) (by simp)
  have vx : z_i32 x := hSk (z_I x) (by simp)
  have vr : ∀ v ∈ r, z_vok w v := fun v hv => hSk v (by simp [hv])
  obtain ⟨hne, h⟩ := z_nz_inv h
  show W p l e R s m args below meth c H locs CC SS _ (F0 m pc ls (.int (Int32.ofInt y) :: .int (Int32.ofInt x) :: r.map (z_v cx.2.2)))
  refine lv_idiv hx hb hd (fun q => hne ((z_n_eq (y := 0) vy ⟨by decide, by decide⟩).mp q)) ?_
  rw [z_n_div vx vy]
  exact hK _ _ _ _ h p l e R CC SS s m args below meth c cx H locs ls F ⟨hP, hD, hS, hMR, hl, hLn, hL, List.forall_mem_cons.mpr ⟨z_w_in _, vr⟩⟩
theorem z_s_irem (hd : decode t.2.1 pc = .ok (.irem, 1)) (hK : ∀ pc L S M, K pc L S M → z_G w d t pc L S M Q) (h : z_p2 S fun x y r => z_nz y (K (pc + 1) L (z_I (Int.tmod x y) :: r) M)) : z_G w d t pc L S M Q := by
  replace h := z_p2_inv h
  obtain ⟨x, y, r, rfl, h⟩ := h
  intro p l e R CC SS s m args below meth c cx H locs ls F C
  obtain ⟨hx, hb, hr, hml, hown, hts, hlk, hKk, hSt, hRm⟩ := id F
  obtain ⟨hP, hD, hS, hMR, hl, hLn, hL, hSk⟩ := id C
  have vy : z_i32 y := hSk (z_I y) (by simp)
  have vx : z_i32 x := hSk (z_I x) (by simp)
  have vr : ∀ v ∈ r, z_vok w v := fun v hv => hSk v (by simp [hv])
  obtain ⟨hne, h⟩ := z_nz_inv h
  show W p l e R s m args below meth c H locs CC SS _ (F0 m pc ls (.int (Int32.ofInt y) :: .int (Int32.ofInt x) :: r.map (z_v cx.2.2)))
  refine lv_irem hx hb hd (fun q => hne ((z_n_eq (y := 0) vy ⟨by decide, by decide⟩).mp q)) ?_
  rw [z_n_rem vx vy]
  exact hK _ _ _ _ h p l e R CC SS s m args below meth c cx H locs ls F ⟨hP, hD, hS, hMR, hl, hLn, hL, List.forall_mem_cons.mpr ⟨z_tmod_in vx, vr⟩⟩
theorem z_s_iand (hd : decode t.2.1 pc = .ok (.iand, 1)) (hK : ∀ pc L S M, K pc L S M → z_G w d t pc L S M Q) (h : z_p2 S fun x y r => K (pc + 1) L (z_I (z_and x y) :: r) M) : z_G w d t pc L S M Q := by
  replace h := z_p2_inv h
  obtain ⟨x, y, r, rfl, h⟩ := h
  intro p l e R CC SS s m args below meth c cx H locs ls F C
  obtain ⟨hx, hb, hr, hml, hown, hts, hlk, hKk, hSt, hRm⟩ := id F
  obtain ⟨hP, hD, hS, hMR, hl, hLn, hL, hSk⟩ := id C
  have vy : z_i32 y := hSk (z_I y) (by simp)
  have vx : z_i32 x := hSk (z_I x) (by simp)
  have vr : ∀ v ∈ r, z_vok w v := fun v hv => hSk v (by simp [hv])
  show W p l e R s m args below meth c H locs CC SS _ (F0 m pc ls (.int (Int32.ofInt y) :: .int (Int32.ofInt x) :: r.map (z_v cx.2.2)))
  refine lv_iand hx hb hd ?_
  rw [← Int32.ofInt_toInt (Int32.ofInt x &&& Int32.ofInt y)]
  exact hK _ _ _ _ h p l e R CC SS s m args below meth c cx H locs ls F ⟨hP, hD, hS, hMR, hl, hLn, hL, List.forall_mem_cons.mpr ⟨z_n_in _, vr⟩⟩
theorem z_s_ior (hd : decode t.2.1 pc = .ok (.ior, 1)) (hK : ∀ pc L S M, K pc L S M → z_G w d t pc L S M Q) (h : z_p2 S fun x y r => K (pc + 1) L (z_I (z_or x y) :: r) M) : z_G w d t pc L S M Q := by
  replace h := z_p2_inv h
  obtain ⟨x, y, r, rfl, h⟩ := h
  intro p l e R CC SS s m args below meth c cx H locs ls F C
  obtain ⟨hx, hb, hr, hml, hown, hts, hlk, hKk, hSt, hRm⟩ := id F
  obtain ⟨hP, hD, hS, hMR, hl, hLn, hL, hSk⟩ := id C
  have vy : z_i32 y := hSk (z_I y) (by simp)
  have vx : z_i32 x := hSk (z_I x) (by simp)
  have vr : ∀ v ∈ r, z_vok w v := fun v hv => hSk v (by simp [hv])
  show W p l e R s m args below meth c H locs CC SS _ (F0 m pc ls (.int (Int32.ofInt y) :: .int (Int32.ofInt x) :: r.map (z_v cx.2.2)))
  refine lv_ior hx hb hd ?_
  rw [← Int32.ofInt_toInt (Int32.ofInt x ||| Int32.ofInt y)]
  exact hK _ _ _ _ h p l e R CC SS s m args below meth c cx H locs ls F ⟨hP, hD, hS, hMR, hl, hLn, hL, List.forall_mem_cons.mpr ⟨z_n_in _, vr⟩⟩
theorem z_s_ishl (hd : decode t.2.1 pc = .ok (.ishl, 1)) (hK : ∀ pc L S M, K pc L S M → z_G w d t pc L S M Q) (h : z_p2 S fun x y r => K (pc + 1) L (z_I (z_shl x y) :: r) M) : z_G w d t pc L S M Q := by
  replace h := z_p2_inv h
  obtain ⟨x, y, r, rfl, h⟩ := h
  intro p l e R CC SS s m args below meth c cx H locs ls F C
  obtain ⟨hx, hb, hr, hml, hown, hts, hlk, hKk, hSt, hRm⟩ := id F
  obtain ⟨hP, hD, hS, hMR, hl, hLn, hL, hSk⟩ := id C
  have vy : z_i32 y := hSk (z_I y) (by simp)
  have vx : z_i32 x := hSk (z_I x) (by simp)
  have vr : ∀ v ∈ r, z_vok w v := fun v hv => hSk v (by simp [hv])
  show W p l e R s m args below meth c H locs CC SS _ (F0 m pc ls (.int (Int32.ofInt y) :: .int (Int32.ofInt x) :: r.map (z_v cx.2.2)))
  refine lv_ishl hx hb hd ?_
  rw [← Int32.ofInt_toInt (Int32.ofInt x <<< (Int32.ofInt y &&& 31))]
  exact hK _ _ _ _ h p l e R CC SS s m args below meth c cx H locs ls F ⟨hP, hD, hS, hMR, hl, hLn, hL, List.forall_mem_cons.mpr ⟨z_n_in _, vr⟩⟩
theorem z_s_ishr (hd : decode t.2.1 pc = .ok (.ishr, 1)) (hK : ∀ pc L S M, K pc L S M → z_G w d t pc L S M Q) (h : z_p2 S fun x y r => K (pc + 1) L (z_I (z_shr x y) :: r) M) : z_G w d t pc L S M Q := by
  replace h := z_p2_inv h
  obtain ⟨x, y, r, rfl, h⟩ := h
  intro p l e R CC SS s m args below meth c cx H locs ls F C
  obtain ⟨hx, hb, hr, hml, hown, hts, hlk, hKk, hSt, hRm⟩ := id F
  obtain ⟨hP, hD, hS, hMR, hl, hLn, hL, hSk⟩ := id C
  have vy : z_i32 y := hSk (z_I y) (by simp)
  have vx : z_i32 x := hSk (z_I x) (by simp)
  have vr : ∀ v ∈ r, z_vok w v := fun v hv => hSk v (by simp [hv])
  show W p l e R s m args below meth c H locs CC SS _ (F0 m pc ls (.int (Int32.ofInt y) :: .int (Int32.ofInt x) :: r.map (z_v cx.2.2)))
  refine lv_ishr hx hb hd ?_
  rw [← Int32.ofInt_toInt (Int32.ofInt x >>> (Int32.ofInt y &&& 31))]
  exact hK _ _ _ _ h p l e R CC SS s m args below meth c cx H locs ls F ⟨hP, hD, hS, hMR, hl, hLn, hL, List.forall_mem_cons.mpr ⟨z_n_in _, vr⟩⟩
theorem z_s_ladd (hd : decode t.2.1 pc = .ok (.ladd, 1)) (hK : ∀ pc L S M, K pc L S M → z_G w d t pc L S M Q) (h : z_q2 S fun x y r => K (pc + 1) L (z_J (z_wl (x + y)) :: r) M) : z_G w d t pc L S M Q := by
  replace h := z_q2_inv h
  obtain ⟨x, y, r, rfl, h⟩ := h
  intro p l e R CC SS s m args below meth c cx H locs ls F C
  obtain ⟨hx, hb, hr, hml, hown, hts, hlk, hKk, hSt, hRm⟩ := id F
  obtain ⟨hP, hD, hS, hMR, hl, hLn, hL, hSk⟩ := id C
  have vy : z_i64 y := hSk (z_J y) (by simp)
  have vx : z_i64 x := hSk (z_J x) (by simp)
  have vr : ∀ v ∈ r, z_vok w v := fun v hv => hSk v (by simp [hv])
  show W p l e R s m args below meth c H locs CC SS _ (F0 m pc ls (.long (Int64.ofInt y) :: .long (Int64.ofInt x) :: r.map (z_v cx.2.2)))
  refine lv_ladd hx hb hd ?_
  rw [z_l_add]
  exact hK _ _ _ _ h p l e R CC SS s m args below meth c cx H locs ls F ⟨hP, hD, hS, hMR, hl, hLn, hL, List.forall_mem_cons.mpr ⟨z_wl_in _, vr⟩⟩
theorem z_s_lsub (hd : decode t.2.1 pc = .ok (.lsub, 1)) (hK : ∀ pc L S M, K pc L S M → z_G w d t pc L S M Q) (h : z_q2 S fun x y r => K (pc + 1) L (z_J (z_wl (x - y)) :: r) M) : z_G w d t pc L S M Q := by
  replace h := z_q2_inv h
  obtain ⟨x, y, r, rfl, h⟩ := h
  intro p l e R CC SS s m args below meth c cx H locs ls F C
  obtain ⟨hx, hb, hr, hml, hown, hts, hlk, hKk, hSt, hRm⟩ := id F
  obtain ⟨hP, hD, hS, hMR, hl, hLn, hL, hSk⟩ := id C
  have vy : z_i64 y := hSk (z_J y) (by simp)
  have vx : z_i64 x := hSk (z_J x) (by simp)
  have vr : ∀ v ∈ r, z_vok w v := fun v hv => hSk v (by simp [hv])
  show W p l e R s m args below meth c H locs CC SS _ (F0 m pc ls (.long (Int64.ofInt y) :: .long (Int64.ofInt x) :: r.map (z_v cx.2.2)))
  refine lv_lsub hx hb hd ?_
  rw [z_l_sub]
  exact hK _ _ _ _ h p l e R CC SS s m args below meth c cx H locs ls F ⟨hP, hD, hS, hMR, hl, hLn, hL, List.forall_mem_cons.mpr ⟨z_wl_in _, vr⟩⟩
theorem z_s_lmul (hd : decode t.2.1 pc = .ok (.lmul, 1)) (hK : ∀ pc L S M, K pc L S M → z_G w d t pc L S M Q) (h : z_q2 S fun x y r => K (pc + 1) L (z_J (z_wl (x * y)) :: r) M) : z_G w d t pc L S M Q := by
  replace h := z_q2_inv h
  obtain ⟨x, y, r, rfl, h⟩ := h
  intro p l e R CC SS s m args below meth c cx H locs ls F C
  obtain ⟨hx, hb, hr, hml, hown, hts, hlk, hKk, hSt, hRm⟩ := id F
  obtain ⟨hP, hD, hS, hMR, hl, hLn, hL, hSk⟩ := id C
  have vy : z_i64 y := hSk (z_J y) (by simp)
  have vx : z_i64 x := hSk (z_J x) (by simp)
  have vr : ∀ v ∈ r, z_vok w v := fun v hv => hSk v (by simp [hv])
  show W p l e R s m args below meth c H locs CC SS _ (F0 m pc ls (.long (Int64.ofInt y) :: .long (Int64.ofInt x) :: r.map (z_v cx.2.2)))
  refine lv_lmul hx hb hd ?_
  rw [z_l_mul]
  exact hK _ _ _ _ h p l e R CC SS s m args below meth c cx H locs ls F ⟨hP, hD, hS, hMR, hl, hLn, hL, List.forall_mem_cons.mpr ⟨z_wl_in _, vr⟩⟩
theorem z_s_ldiv (hd : decode t.2.1 pc = .ok (.ldiv, 1)) (hK : ∀ pc L S M, K pc L S M → z_G w d t pc L S M Q) (h : z_q2 S fun x y r => z_nz y (K (pc + 1) L (z_J (z_wl (Int.tdiv x y)) :: r) M)) : z_G w d t pc L S M Q := by
  replace h := z_q2_inv h
  obtain ⟨x, y, r, rfl, h⟩ := h
  intro p l e R CC SS s m args below meth c cx H locs ls F C
  obtain ⟨hx, hb, hr, hml, hown, hts, hlk, hKk, hSt, hRm⟩ := id F
  obtain ⟨hP, hD, hS, hMR, hl, hLn, hL, hSk⟩ := id C
  have vy : z_i64 y := hSk (z_J y) (by simp)
  have vx : z_i64 x := hSk (z_J x) (by simp)
  have vr : ∀ v ∈ r, z_vok w v := fun v hv => hSk v (by simp [hv])
  obtain ⟨hne, h⟩ := z_nz_inv h
  show W p l e R s m args below meth c H locs CC SS _ (F0 m pc ls (.long (Int64.ofInt y) :: .long (Int64.ofInt x) :: r.map (z_v cx.2.2)))
  refine lv_ldiv hx hb hd (fun q => hne ((z_l_eq (y := 0) vy ⟨by decide, by decide⟩).mp q)) ?_
  rw [z_l_div vx vy]
  exact hK _ _ _ _ h p l e R CC SS s m args below meth c cx H locs ls F ⟨hP, hD, hS, hMR, hl, hLn, hL, List.forall_mem_cons.mpr ⟨z_wl_in _, vr⟩⟩
theorem z_s_lrem (hd : decode t.2.1 pc = .ok (.lrem, 1)) (hK : ∀ pc L S M, K pc L S M → z_G w d t pc L S M Q) (h : z_q2 S fun x y r => z_nz y (K (pc + 1) L (z_J (Int.tmod x y) :: r) M)) : z_G w d t pc L S M Q := by
  replace h := z_q2_inv h
  obtain ⟨x, y, r, rfl, h⟩ := h
  intro p l e R CC SS s m args below meth c cx H locs ls F C
  obtain ⟨hx, hb, hr, hml, hown, hts, hlk, hKk, hSt, hRm⟩ := id F
  obtain ⟨hP, hD, hS, hMR, hl, hLn, hL, hSk⟩ := id C
  have vy : z_i64 y := hSk (z_J y) (by simp)
  have vx : z_i64 x := hSk (z_J x) (by simp)
  have vr : ∀ v ∈ r, z_vok w v := fun v hv => hSk v (by simp [hv])
  obtain ⟨hne, h⟩ := z_nz_inv h
  show W p l e R s m args below meth c H locs CC SS _ (F0 m pc ls (.long (Int64.ofInt y) :: .long (Int64.ofInt x) :: r.map (z_v cx.2.2)))
  refine lv_lrem hx hb hd (fun q => hne ((z_l_eq (y := 0) vy ⟨by decide, by decide⟩).mp q)) ?_
  rw [z_l_rem vx vy]
  exact hK _ _ _ _ h p l e R CC SS s m args below meth c cx H locs ls F ⟨hP, hD, hS, hMR, hl, hLn, hL, List.forall_mem_cons.mpr ⟨z_tmodl_in vx, vr⟩⟩
theorem z_s_land (hd : decode t.2.1 pc = .ok (.land, 1)) (hK : ∀ pc L S M, K pc L S M → z_G w d t pc L S M Q) (h : z_q2 S fun x y r => K (pc + 1) L (z_J (z_andl x y) :: r) M) : z_G w d t pc L S M Q := by
  replace h := z_q2_inv h
  obtain ⟨x, y, r, rfl, h⟩ := h
  intro p l e R CC SS s m args below meth c cx H locs ls F C
  obtain ⟨hx, hb, hr, hml, hown, hts, hlk, hKk, hSt, hRm⟩ := id F
  obtain ⟨hP, hD, hS, hMR, hl, hLn, hL, hSk⟩ := id C
  have vy : z_i64 y := hSk (z_J y) (by simp)
  have vx : z_i64 x := hSk (z_J x) (by simp)
  have vr : ∀ v ∈ r, z_vok w v := fun v hv => hSk v (by simp [hv])
  show W p l e R s m args below meth c H locs CC SS _ (F0 m pc ls (.long (Int64.ofInt y) :: .long (Int64.ofInt x) :: r.map (z_v cx.2.2)))
  refine lv_land hx hb hd ?_
  rw [← Int64.ofInt_toInt (Int64.ofInt x &&& Int64.ofInt y)]
  exact hK _ _ _ _ h p l e R CC SS s m args below meth c cx H locs ls F ⟨hP, hD, hS, hMR, hl, hLn, hL, List.forall_mem_cons.mpr ⟨z_l_in _, vr⟩⟩
theorem z_s_lor (hd : decode t.2.1 pc = .ok (.lor, 1)) (hK : ∀ pc L S M, K pc L S M → z_G w d t pc L S M Q) (h : z_q2 S fun x y r => K (pc + 1) L (z_J (z_orl x y) :: r) M) : z_G w d t pc L S M Q := by
  replace h := z_q2_inv h
  obtain ⟨x, y, r, rfl, h⟩ := h
  intro p l e R CC SS s m args below meth c cx H locs ls F C
  obtain ⟨hx, hb, hr, hml, hown, hts, hlk, hKk, hSt, hRm⟩ := id F
  obtain ⟨hP, hD, hS, hMR, hl, hLn, hL, hSk⟩ := id C
  have vy : z_i64 y := hSk (z_J y) (by simp)
  have vx : z_i64 x := hSk (z_J x) (by simp)
  have vr : ∀ v ∈ r, z_vok w v := fun v hv => hSk v (by simp [hv])
  show W p l e R s m args below meth c H locs CC SS _ (F0 m pc ls (.long (Int64.ofInt y) :: .long (Int64.ofInt x) :: r.map (z_v cx.2.2)))
  refine lv_lor hx hb hd ?_
  rw [← Int64.ofInt_toInt (Int64.ofInt x ||| Int64.ofInt y)]
  exact hK _ _ _ _ h p l e R CC SS s m args below meth c cx H locs ls F ⟨hP, hD, hS, hMR, hl, hLn, hL, List.forall_mem_cons.mpr ⟨z_l_in _, vr⟩⟩
theorem z_s_lxor (hd : decode t.2.1 pc = .ok (.lxor, 1)) (hK : ∀ pc L S M, K pc L S M → z_G w d t pc L S M Q) (h : z_q2 S fun x y r => K (pc + 1) L (z_J (z_xorl x y) :: r) M) : z_G w d t pc L S M Q := by
  replace h := z_q2_inv h
  obtain ⟨x, y, r, rfl, h⟩ := h
  intro p l e R CC SS s m args below meth c cx H locs ls F C
  obtain ⟨hx, hb, hr, hml, hown, hts, hlk, hKk, hSt, hRm⟩ := id F
  obtain ⟨hP, hD, hS, hMR, hl, hLn, hL, hSk⟩ := id C
  have vy : z_i64 y := hSk (z_J y) (by simp)
  have vx : z_i64 x := hSk (z_J x) (by simp)
  have vr : ∀ v ∈ r, z_vok w v := fun v hv => hSk v (by simp [hv])
  show W p l e R s m args below meth c H locs CC SS _ (F0 m pc ls (.long (Int64.ofInt y) :: .long (Int64.ofInt x) :: r.map (z_v cx.2.2)))
  refine lv_lxor hx hb hd ?_
  rw [← Int64.ofInt_toInt (Int64.ofInt x ^^^ Int64.ofInt y)]
  exact hK _ _ _ _ h p l e R CC SS s m args below meth c cx H locs ls F ⟨hP, hD, hS, hMR, hl, hLn, hL, List.forall_mem_cons.mpr ⟨z_l_in _, vr⟩⟩
theorem z_s_iushr (hd : decode t.2.1 pc = .ok (.iushr, 1)) (hK : ∀ pc L S M, K pc L S M → z_G w d t pc L S M Q) (h : z_p2 S fun x y r => K (pc + 1) L (z_I (z_ushr x y) :: r) M) : z_G w d t pc L S M Q := by
  obtain ⟨x, y, r, rfl, h⟩ := z_p2_inv h
  intro p l e R CC SS s m args below meth c cx H locs ls F C
  obtain ⟨hx, hb, hr, hml, hown, hts, hlk, hKk, hSt, hRm⟩ := id F
  obtain ⟨hP, hD, hS, hMR, hl, hLn, hL, hSk⟩ := id C
  have vy : z_i32 y := hSk (z_I y) (by simp)
  have vx : z_i32 x := hSk (z_I x) (by simp)
  have vr : ∀ v ∈ r, z_vok w v := fun v hv => hSk v (by simp [hv])
  show W p l e R s m args below meth c H locs CC SS _ (F0 m pc ls (.int (Int32.ofInt y) :: .int (Int32.ofInt x) :: r.map (z_v cx.2.2)))
  refine lv_iushr (v := Int32.ofInt (z_ushr x y)) hx hb hd (by unfold z_ushr; rw [Int32.ofInt_toInt]) ?_
  exact hK _ _ _ _ h p l e R CC SS s m args below meth c cx H locs ls F ⟨hP, hD, hS, hMR, hl, hLn, hL, List.forall_mem_cons.mpr ⟨z_n_in _, vr⟩⟩
theorem z_s_lshl (hd : decode t.2.1 pc = .ok (.lshl, 1)) (hK : ∀ pc L S M, K pc L S M → z_G w d t pc L S M Q) (h : z_qi S fun x y r => K (pc + 1) L (z_J (z_shll x y) :: r) M) : z_G w d t pc L S M Q := by
  obtain ⟨x, y, r, rfl, h⟩ := z_qi_inv h
  intro p l e R CC SS s m args below meth c cx H locs ls F C
  obtain ⟨hx, hb, hr, hml, hown, hts, hlk, hKk, hSt, hRm⟩ := id F
  obtain ⟨hP, hD, hS, hMR, hl, hLn, hL, hSk⟩ := id C
  have vy : z_i32 y := hSk (z_I y) (by simp)
  have vx : z_i64 x := hSk (z_J x) (by simp)
  have vr : ∀ v ∈ r, z_vok w v := fun v hv => hSk v (by simp [hv])
  show W p l e R s m args below meth c H locs CC SS _ (F0 m pc ls (.int (Int32.ofInt y) :: .long (Int64.ofInt x) :: r.map (z_v cx.2.2)))
  refine lv_lshl (v := Int64.ofInt (z_shll x y)) hx hb hd (by unfold z_shll; rw [Int64.ofInt_toInt]) ?_
  exact hK _ _ _ _ h p l e R CC SS s m args below meth c cx H locs ls F ⟨hP, hD, hS, hMR, hl, hLn, hL, List.forall_mem_cons.mpr ⟨z_l_in _, vr⟩⟩
theorem z_s_lushr (hd : decode t.2.1 pc = .ok (.lushr, 1)) (hK : ∀ pc L S M, K pc L S M → z_G w d t pc L S M Q) (h : z_qi S fun x y r => K (pc + 1) L (z_J (z_ushrl x y) :: r) M) : z_G w d t pc L S M Q := by
  obtain ⟨x, y, r, rfl, h⟩ := z_qi_inv h
  intro p l e R CC SS s m args below meth c cx H locs ls F C
  obtain ⟨hx, hb, hr, hml, hown, hts, hlk, hKk, hSt, hRm⟩ := id F
  obtain ⟨hP, hD, hS, hMR, hl, hLn, hL, hSk⟩ := id C
  have vy : z_i32 y := hSk (z_I y) (by simp)
  have vx : z_i64 x := hSk (z_J x) (by simp)
  have vr : ∀ v ∈ r, z_vok w v := fun v hv => hSk v (by simp [hv])
  show W p l e R s m args below meth c H locs CC SS _ (F0 m pc ls (.int (Int32.ofInt y) :: .long (Int64.ofInt x) :: r.map (z_v cx.2.2)))
  refine lv_lushr (v := Int64.ofInt (z_ushrl x y)) hx hb hd (by unfold z_ushrl; rw [Int64.ofInt_toInt]) ?_
  exact hK _ _ _ _ h p l e R CC SS s m args below meth c cx H locs ls F ⟨hP, hD, hS, hMR, hl, hLn, hL, List.forall_mem_cons.mpr ⟨z_l_in _, vr⟩⟩
theorem z_s_lcmp (hd : decode t.2.1 pc = .ok (.lcmp, 1)) (hK : ∀ pc L S M, K pc L S M → z_G w d t pc L S M Q) (h : z_q2 S fun x y r => K (pc + 1) L (z_I (z_cmp x y) :: r) M) : z_G w d t pc L S M Q := by
  obtain ⟨x, y, r, rfl, h⟩ := z_q2_inv h
  intro p l e R CC SS s m args below meth c cx H locs ls F C
  obtain ⟨hx, hb, hr, hml, hown, hts, hlk, hKk, hSt, hRm⟩ := id F
  obtain ⟨hP, hD, hS, hMR, hl, hLn, hL, hSk⟩ := id C
  have vy : z_i64 y := hSk (z_J y) (by simp)
  have vx : z_i64 x := hSk (z_J x) (by simp)
  have vr : ∀ v ∈ r, z_vok w v := fun v hv => hSk v (by simp [hv])
  show W p l e R s m args below meth c H locs CC SS _ (F0 m pc ls (.long (Int64.ofInt y) :: .long (Int64.ofInt x) :: r.map (z_v cx.2.2)))
  refine W.lcmp hx hb hd ?_
  rw [z_cmp_eq vx vy]
  exact hK _ _ _ _ h p l e R CC SS s m args below meth c cx H locs ls F ⟨hP, hD, hS, hMR, hl, hLn, hL, List.forall_mem_cons.mpr ⟨z_cmp_in _ _, vr⟩⟩
theorem z_s_ineg (hd : decode t.2.1 pc = .ok (.ineg, 1)) (hK : ∀ pc L S M, K pc L S M → z_G w d t pc L S M Q) (h : z_p1 S fun x r => K (pc + 1) L (z_I (z_w (-x)) :: r) M) : z_G w d t pc L S M Q := by
  obtain ⟨x, r, rfl, h⟩ := z_p1_inv h
  intro p l e R CC SS s m args below meth c cx H locs ls F C
  obtain ⟨hx, hb, hr, hml, hown, hts, hlk, hKk, hSt, hRm⟩ := id F
  obtain ⟨hP, hD, hS, hMR, hl, hLn, hL, hSk⟩ := id C
  have vx : z_i32 x := hSk (z_I x) (by simp)
  have vr : ∀ v ∈ r, z_vok w v := fun v hv => hSk v (by simp [hv])
  show W p l e R s m args below meth c H locs CC SS _ (F0 m pc ls (.int (Int32.ofInt x) :: r.map (z_v cx.2.2)))
  refine lv_ineg hx hb hd ?_
  rw [z_n_neg]
  exact hK _ _ _ _ h p l e R CC SS s m args below meth c cx H locs ls F ⟨hP, hD, hS, hMR, hl, hLn, hL, List.forall_mem_cons.mpr ⟨z_w_in _, vr⟩⟩
theorem z_s_i2l (hd : decode t.2.1 pc = .ok (.i2l, 1)) (hK : ∀ pc L S M, K pc L S M → z_G w d t pc L S M Q) (h : z_p1 S fun x r => K (pc + 1) L (z_J x :: r) M) : z_G w d t pc L S M Q := by
  obtain ⟨x, r, rfl, h⟩ := z_p1_inv h
  intro p l e R CC SS s m args below meth c cx H locs ls F C
  obtain ⟨hx, hb, hr, hml, hown, hts, hlk, hKk, hSt, hRm⟩ := id F
  obtain ⟨hP, hD, hS, hMR, hl, hLn, hL, hSk⟩ := id C
  have vx : z_i32 x := hSk (z_I x) (by simp)
  have vr : ∀ v ∈ r, z_vok w v := fun v hv => hSk v (by simp [hv])
  show W p l e R s m args below meth c H locs CC SS _ (F0 m pc ls (.int (Int32.ofInt x) :: r.map (z_v cx.2.2)))
  refine lv_i2l (v := Int64.ofInt x) hx hb hd (z_i2l vx) ?_
  exact hK _ _ _ _ h p l e R CC SS s m args below meth c cx H locs ls F ⟨hP, hD, hS, hMR, hl, hLn, hL, List.forall_mem_cons.mpr ⟨⟨by have := vx.1; omega, by have := vx.2; omega⟩, vr⟩⟩
theorem z_s_l2i (hd : decode t.2.1 pc = .ok (.l2i, 1)) (hK : ∀ pc L S M, K pc L S M → z_G w d t pc L S M Q) (h : z_q1 S fun x r => K (pc + 1) L (z_I (z_w x) :: r) M) : z_G w d t pc L S M Q := by
  obtain ⟨x, r, rfl, h⟩ := z_q1_inv h
  intro p l e R CC SS s m args below meth c cx H locs ls F C
  obtain ⟨hx, hb, hr, hml, hown, hts, hlk, hKk, hSt, hRm⟩ := id F
  obtain ⟨hP, hD, hS, hMR, hl, hLn, hL, hSk⟩ := id C
  have vx : z_i64 x := hSk (z_J x) (by simp)
  have vr : ∀ v ∈ r, z_vok w v := fun v hv => hSk v (by simp [hv])
  show W p l e R s m args below meth c H locs CC SS _ (F0 m pc ls (.long (Int64.ofInt x) :: r.map (z_v cx.2.2)))
  refine lv_l2i (v := Int32.ofInt (z_w x)) hx hb hd (z_l2i vx) ?_
  exact hK _ _ _ _ h p l e R CC SS s m args below meth c cx H locs ls F ⟨hP, hD, hS, hMR, hl, hLn, hL, List.forall_mem_cons.mpr ⟨z_w_in _, vr⟩⟩
theorem z_s_i2b (hd : decode t.2.1 pc = .ok (.i2b, 1)) (hK : ∀ pc L S M, K pc L S M → z_G w d t pc L S M Q) (h : z_p1 S fun x r => K (pc + 1) L (z_I (z_wb x) :: r) M) : z_G w d t pc L S M Q := by
  obtain ⟨x, r, rfl, h⟩ := z_p1_inv h
  intro p l e R CC SS s m args below meth c cx H locs ls F C
  obtain ⟨hx, hb, hr, hml, hown, hts, hlk, hKk, hSt, hRm⟩ := id F
  obtain ⟨hP, hD, hS, hMR, hl, hLn, hL, hSk⟩ := id C
  have vx : z_i32 x := hSk (z_I x) (by simp)
  have vr : ∀ v ∈ r, z_vok w v := fun v hv => hSk v (by simp [hv])
  show W p l e R s m args below meth c H locs CC SS _ (F0 m pc ls (.int (Int32.ofInt x) :: r.map (z_v cx.2.2)))
  refine lv_i2b (v := Int32.ofInt (z_wb x)) hx hb hd (z_i2b vx) ?_
  exact hK _ _ _ _ h p l e R CC SS s m args below meth c cx H locs ls F ⟨hP, hD, hS, hMR, hl, hLn, hL, List.forall_mem_cons.mpr ⟨z_wb_in _, vr⟩⟩
theorem z_s_iload_n {n : Fin 4} (hd : decode t.2.1 pc = .ok (.iload_n n, 1)) (hK : ∀ pc L S M, K pc L S M → z_G w d t pc L S M Q) (h : z_ldi L (n : Nat) fun x => K (pc + 1) L (z_I x :: S) M) : z_G w d t pc L S M Q := by
  obtain ⟨x, hn, h⟩ := z_ldi_inv h
  intro p l e R CC SS s m args below meth c cx H locs ls F C
  obtain ⟨hx, hb, hr, hml, hown, hts, hlk, hKk, hSt, hRm⟩ := id F
  obtain ⟨hP, hD, hS, hMR, hl, hLn, hL, hSk⟩ := id C
  have vx := z_nth_ok hL hn
  have hg := z_lhas hl hn (by intro q; cases q)
  refine lv_iload_n hx hb hd rfl hg ?_
  exact hK _ _ _ _ h p l e R CC SS s m args below meth c cx H locs ls F ⟨hP, hD, hS, hMR, hl, hLn, hL, List.forall_mem_cons.mpr ⟨vx, hSk⟩⟩
theorem z_s_iload {i : Nat} (hd : decode t.2.1 pc = .ok (.iload i, 2)) (hK : ∀ pc L S M, K pc L S M → z_G w d t pc L S M Q) (h : z_ldi L i fun x => K (pc + 2) L (z_I x :: S) M) : z_G w d t pc L S M Q := by
  obtain ⟨x, hn, h⟩ := z_ldi_inv h
  intro p l e R CC SS s m args below meth c cx H locs ls F C
  obtain ⟨hx, hb, hr, hml, hown, hts, hlk, hKk, hSt, hRm⟩ := id F
  obtain ⟨hP, hD, hS, hMR, hl, hLn, hL, hSk⟩ := id C
  have vx := z_nth_ok hL hn
  have hg := z_lhas hl hn (by intro q; cases q)
  refine lv_iload hx hb hd hg ?_
  exact hK _ _ _ _ h p l e R CC SS s m args below meth c cx H locs ls F ⟨hP, hD, hS, hMR, hl, hLn, hL, List.forall_mem_cons.mpr ⟨vx, hSk⟩⟩
theorem z_s_lload_n {n : Fin 4} (hd : decode t.2.1 pc = .ok (.lload_n n, 1)) (hK : ∀ pc L S M, K pc L S M → z_G w d t pc L S M Q) (h : z_ldl L (n : Nat) fun x => K (pc + 1) L (z_J x :: S) M) : z_G w d t pc L S M Q := by
  obtain ⟨x, hn, h⟩ := z_ldl_inv h
  intro p l e R CC SS s m args below meth c cx H locs ls F C
  obtain ⟨hx, hb, hr, hml, hown, hts, hlk, hKk, hSt, hRm⟩ := id F
  obtain ⟨hP, hD, hS, hMR, hl, hLn, hL, hSk⟩ := id C
  have vx := z_nth_ok hL hn
  have hg := z_lhas hl hn (by intro q; cases q)
  refine lv_lload_n hx hb hd rfl hg ?_
  exact hK _ _ _ _ h p l e R CC SS s m args below meth c cx H locs ls F ⟨hP, hD, hS, hMR, hl, hLn, hL, List.forall_mem_cons.mpr ⟨vx, hSk⟩⟩
theorem z_s_lload {i : Nat} (hd : decode t.2.1 pc = .ok (.lload i, 2)) (hK : ∀ pc L S M, K pc L S M → z_G w d t pc L S M Q) (h : z_ldl L i fun x => K (pc + 2) L (z_J x :: S) M) : z_G w d t pc L S M Q := by
  obtain ⟨x, hn, h⟩ := z_ldl_inv h
  intro p l e R CC SS s m args below meth c cx H locs ls F C
  obtain ⟨hx, hb, hr, hml, hown, hts, hlk, hKk, hSt, hRm⟩ := id F
  obtain ⟨hP, hD, hS, hMR, hl, hLn, hL, hSk⟩ := id C
  have vx := z_nth_ok hL hn
  have hg := z_lhas hl hn (by intro q; cases q)
  refine lv_lload hx hb hd hg ?_
  exact hK _ _ _ _ h p l e R CC SS s m args below meth c cx H locs ls F ⟨hP, hD, hS, hMR, hl, hLn, hL, List.forall_mem_cons.mpr ⟨vx, hSk⟩⟩
theorem z_s_aload_n {n : Fin 4} (hd : decode t.2.1 pc = .ok (.aload_n n, 1)) (hK : ∀ pc L S M, K pc L S M → z_G w d t pc L S M Q) (h : z_lda L (n : Nat) fun x => K (pc + 1) L (z_R x :: S) M) : z_G w d t pc L S M Q := by
  obtain ⟨x, hn, h⟩ := z_lda_inv h
  intro p l e R CC SS s m args below meth c cx H locs ls F C
  obtain ⟨hx, hb, hr, hml, hown, hts, hlk, hKk, hSt, hRm⟩ := id F
  obtain ⟨hP, hD, hS, hMR, hl, hLn, hL, hSk⟩ := id C
  have vx := z_nth_ok hL hn
  have hg := z_lhas hl hn (by intro q; cases q)
  refine lv_aload_n hx hb hd rfl hg ?_
  exact hK _ _ _ _ h p l e R CC SS s m args below meth c cx H locs ls F ⟨hP, hD, hS, hMR, hl, hLn, hL, List.forall_mem_cons.mpr ⟨vx, hSk⟩⟩
theorem z_s_aload {i : Nat} (hd : decode t.2.1 pc = .ok (.aload i, 2)) (hK : ∀ pc L S M, K pc L S M → z_G w d t pc L S M Q) (h : z_lda L i fun x => K (pc + 2) L (z_R x :: S) M) : z_G w d t pc L S M Q := by
  obtain ⟨x, hn, h⟩ := z_lda_inv h
  intro p l e R CC SS s m args below meth c cx H locs ls F C
  obtain ⟨hx, hb, hr, hml, hown, hts, hlk, hKk, hSt, hRm⟩ := id F
  obtain ⟨hP, hD, hS, hMR, hl, hLn, hL, hSk⟩ := id C
  have vx := z_nth_ok hL hn
  have hg := z_lhas hl hn (by intro q; cases q)
  refine lv_aload hx hb hd hg ?_
  exact hK _ _ _ _ h p l e R CC SS s m args below meth c cx H locs ls F ⟨hP, hD, hS, hMR, hl, hLn, hL, List.forall_mem_cons.mpr ⟨vx, hSk⟩⟩
theorem z_s_istore_n {n : Fin 4} (hd : decode t.2.1 pc = .ok (.istore_n n, 1)) (hi : (n : Nat) < t.2.2.1) (hK : ∀ pc L S M, K pc L S M → z_G w d t pc L S M Q) (h : z_p1 S fun x r => K (pc + 1) (z_st L (n : Nat) (z_I x)) r M) : z_G w d t pc L S M Q := by
  obtain ⟨x, r, rfl, h⟩ := z_p1_inv h
  intro p l e R CC SS s m args below meth c cx H locs ls F C
  obtain ⟨hx, hb, hr, hml, hown, hts, hlk, hKk, hSt, hRm⟩ := id F
  obtain ⟨hP, hD, hS, hMR, hl, hLn, hL, hSk⟩ := id C
  have vx : z_vok w (z_I x) := hSk (z_I x) (by simp)
  have vr : ∀ v ∈ r, z_vok w v := fun v hv => hSk v (by simp [hv])
  show W p l e R s m args below meth c H locs CC SS _ (F0 m pc ls (.int (Int32.ofInt x) :: r.map (z_v cx.2.2)))
  refine lv_istore_n hx hb hd rfl hl hi rfl (fun ls hl => ?_)
  exact hK _ _ _ _ h p l e R CC SS s m args below meth c cx H locs ls F ⟨hP, hD, hS, hMR, z_lset (v := z_I x) (by omega) hl, by simp [z_st2, z_st_len, hLn], z_st_ok hL vx, vr⟩
theorem z_s_istore {i : Nat} (hd : decode t.2.1 pc = .ok (.istore i, 2)) (hi : i < t.2.2.1) (hK : ∀ pc L S M, K pc L S M → z_G w d t pc L S M Q) (h : z_p1 S fun x r => K (pc + 2) (z_st L i (z_I x)) r M) : z_G w d t pc L S M Q := by
  obtain ⟨x, r, rfl, h⟩ := z_p1_inv h
  intro p l e R CC SS s m args below meth c cx H locs ls F C
  obtain ⟨hx, hb, hr, hml, hown, hts, hlk, hKk, hSt, hRm⟩ := id F
  obtain ⟨hP, hD, hS, hMR, hl, hLn, hL, hSk⟩ := id C
  have vx : z_vok w (z_I x) := hSk (z_I x) (by simp)
  have vr : ∀ v ∈ r, z_vok w v := fun v hv => hSk v (by simp [hv])
  show W p l e R s m args below meth c H locs CC SS _ (F0 m pc ls (.int (Int32.ofInt x) :: r.map (z_v cx.2.2)))
  refine lv_istore hx hb hd hl hi rfl (fun ls hl => ?_)
  exact hK _ _ _ _ h p l e R CC SS s m args below meth c cx H locs ls F ⟨hP, hD, hS, hMR, z_lset (v := z_I x) (by omega) hl, by simp [z_st2, z_st_len, hLn], z_st_ok hL vx, vr⟩
theorem z_s_lstore_n {n : Fin 4} (hd : decode t.2.1 pc = .ok (.lstore_n n, 1)) (hi : (n : Nat) + 1 < t.2.2.1) (hK : ∀ pc L S M, K pc L S M → z_G w d t pc L S M Q) (h : z_q1 S fun x r => K (pc + 1) (z_st2 L (n : Nat) (z_J x)) r M) : z_G w d t pc L S M Q := by
  obtain ⟨x, r, rfl, h⟩ := z_q1_inv h
  intro p l e R CC SS s m args below meth c cx H locs ls F C
  obtain ⟨hx, hb, hr, hml, hown, hts, hlk, hKk, hSt, hRm⟩ := id F
  obtain ⟨hP, hD, hS, hMR, hl, hLn, hL, hSk⟩ := id C
  have vx : z_vok w (z_J x) := hSk (z_J x) (by simp)
  have vr : ∀ v ∈ r, z_vok w v := fun v hv => hSk v (by simp [hv])
  show W p l e R s m args below meth c H locs CC SS _ (F0 m pc ls (.long (Int64.ofInt x) :: r.map (z_v cx.2.2)))
  refine lv_lstore_n hx hb hd rfl hl hi rfl (fun ls hl => ?_)
  exact hK _ _ _ _ h p l e R CC SS s m args below meth c cx H locs ls F ⟨hP, hD, hS, hMR, z_lset2 (v := z_J x) (by omega) hl, by simp [z_st2, z_st_len, hLn], z_st2_ok hL vx, vr⟩
theorem z_s_lstore {i : Nat} (hd : decode t.2.1 pc = .ok (.lstore i, 2)) (hi : i + 1 < t.2.2.1) (hK : ∀ pc L S M, K pc L S M → z_G w d t pc L S M Q) (h : z_q1 S fun x r => K (pc + 2) (z_st2 L i (z_J x)) r M) : z_G w d t pc L S M Q := by
  obtain ⟨x, r, rfl, h⟩ := z_q1_inv h
  intro p l e R CC SS s m args below meth c cx H locs ls F C
  obtain ⟨hx, hb, hr, hml, hown, hts, hlk, hKk, hSt, hRm⟩ := id F
  obtain ⟨hP, hD, hS, hMR, hl, hLn, hL, hSk⟩ := id C
  have vx : z_vok w (z_J x) := hSk (z_J x) (by simp)
  have vr : ∀ v ∈ r, z_vok w v := fun v hv => hSk v (by simp [hv])
  show W p l e R s m args below meth c H locs CC SS _ (F0 m pc ls (.long (Int64.ofInt x) :: r.map (z_v cx.2.2)))
  refine lv_lstore hx hb hd hl hi rfl (fun ls hl => ?_)
  exact hK _ _ _ _ h p l e R CC SS s m args below meth c cx H locs ls F ⟨hP, hD, hS, hMR, z_lset2 (v := z_J x) (by omega) hl, by simp [z_st2, z_st_len, hLn], z_st2_ok hL vx, vr⟩
theorem z_s_iinc {i : Nat} {n : Int} (hd : decode t.2.1 pc = .ok (.iinc i n, 3)) (hi : i < t.2.2.1) (hK : ∀ pc L S M, K pc L S M → z_G w d t pc L S M Q) (h : z_ldi L i fun x => K (pc + 3) (z_st L i (z_I (z_w (x + n)))) S M) : z_G w d t pc L S M Q := by
  obtain ⟨x, hn, h⟩ := z_ldi_inv h
  intro p l e R CC SS s m args below meth c cx H locs ls F C
  obtain ⟨hx, hb, hr, hml, hown, hts, hlk, hKk, hSt, hRm⟩ := id F
  obtain ⟨hP, hD, hS, hMR, hl, hLn, hL, hSk⟩ := id C
  have hm := z_lx_in (ad := cx.2.2) (j := 0) hn (by intro q; cases q)
  rw [Nat.zero_add] at hm
  obtain ⟨k, hk⟩ := List.getElem?_of_mem hm
  refine lv_iinc (v := Int32.ofInt (z_w (x + n))) hx hb hd hl (k := k) hk (by rw [z_nw, Int32.ofInt_add]) hi rfl (fun ls hl => ?_)
  exact hK _ _ _ _ h p l e R CC SS s m args below meth c cx H locs ls F ⟨hP, hD, hS, hMR, z_lset (v := z_I (z_w (x + n))) (by omega) hl, by simp [z_st_len, hLn], z_st_ok hL (z_w_in _), hSk⟩
theorem z_s_iconst {n : Int} (hd : decode t.2.1 pc = .ok (.iconst n, 1)) (hn : -128 ≤ n ∧ n < 128) (hK : ∀ pc L S M, K pc L S M → z_G w d t pc L S M Q) (h : K (pc + 1) L (z_I n :: S) M) : z_G w d t pc L S M Q := by
  intro p l e R CC SS s m args below meth c cx H locs ls F C
  obtain ⟨hx, hb, hr, hml, hown, hts, hlk, hKk, hSt, hRm⟩ := id F
  obtain ⟨hP, hD, hS, hMR, hl, hLn, hL, hSk⟩ := id C
  refine lv_iconst hx hb hd rfl ?_
  exact hK _ _ _ _ h p l e R CC SS s m args below meth c cx H locs ls F ⟨hP, hD, hS, hMR, hl, hLn, hL, List.forall_mem_cons.mpr ⟨⟨by omega, by omega⟩, hSk⟩⟩
theorem z_s_bipush {n : Int} (hd : decode t.2.1 pc = .ok (.bipush n, 2)) (hn : -128 ≤ n ∧ n < 128) (hK : ∀ pc L S M, K pc L S M → z_G w d t pc L S M Q) (h : K (pc + 2) L (z_I n :: S) M) : z_G w d t pc L S M Q := by
  intro p l e R CC SS s m args below meth c cx H locs ls F C
  obtain ⟨hx, hb, hr, hml, hown, hts, hlk, hKk, hSt, hRm⟩ := id F
  obtain ⟨hP, hD, hS, hMR, hl, hLn, hL, hSk⟩ := id C
  refine lv_bipush (v := Int32.ofInt n) hx hb hd (Int32.toInt_inj.1 (by rw [Int8.toInt_toInt32, Int8.toInt_ofInt_of_le (by omega) (by omega), z_nt ⟨by omega, by omega⟩])) ?_
  exact hK _ _ _ _ h p l e R CC SS s m args below meth c cx H locs ls F ⟨hP, hD, hS, hMR, hl, hLn, hL, List.forall_mem_cons.mpr ⟨⟨by omega, by omega⟩, hSk⟩⟩
theorem z_s_sipush {n : Int} (hd : decode t.2.1 pc = .ok (.sipush n, 3)) (hn : -32768 ≤ n ∧ n < 32768) (hK : ∀ pc L S M, K pc L S M → z_G w d t pc L S M Q) (h : K (pc + 3) L (z_I n :: S) M) : z_G w d t pc L S M Q := by
  intro p l e R CC SS s m args below meth c cx H locs ls F C
  obtain ⟨hx, hb, hr, hml, hown, hts, hlk, hKk, hSt, hRm⟩ := id F
  obtain ⟨hP, hD, hS, hMR, hl, hLn, hL, hSk⟩ := id C
  refine lv_sipush (v := Int32.ofInt n) hx hb hd (Int32.toInt_inj.1 (by rw [Int16.toInt_toInt32, Int16.toInt_ofInt_of_le (by omega) (by omega), z_nt ⟨by omega, by omega⟩])) ?_
  exact hK _ _ _ _ h p l e R CC SS s m args below meth c cx H locs ls F ⟨hP, hD, hS, hMR, hl, hLn, hL, List.forall_mem_cons.mpr ⟨⟨by omega, by omega⟩, hSk⟩⟩
theorem z_s_lconst {n : Fin 2} (hd : decode t.2.1 pc = .ok (.lconst n, 1)) (hK : ∀ pc L S M, K pc L S M → z_G w d t pc L S M Q) (h : K (pc + 1) L (z_J (Int.ofNat n) :: S) M) : z_G w d t pc L S M Q := by
  intro p l e R CC SS s m args below meth c cx H locs ls F C
  obtain ⟨hx, hb, hr, hml, hown, hts, hlk, hKk, hSt, hRm⟩ := id F
  obtain ⟨hP, hD, hS, hMR, hl, hLn, hL, hSk⟩ := id C
  refine lv_lconst hx hb hd rfl ?_
  exact hK _ _ _ _ h p l e R CC SS s m args below meth c cx H locs ls F ⟨hP, hD, hS, hMR, hl, hLn, hL, List.forall_mem_cons.mpr ⟨⟨by have h1 := n.isLt; have e : Int.ofNat (n : Nat) = ((n : Nat) : Int) := rfl; omega, by have h1 := n.isLt; have e : Int.ofNat (n : Nat) = ((n : Nat) : Int) := rfl; omega⟩, hSk⟩⟩
theorem z_s_dup (hd : decode t.2.1 pc = .ok (.dup, 1)) (hK : ∀ pc L S M, K pc L S M → z_G w d t pc L S M Q) (h : z_d1 S fun v r => K (pc + 1) L (v :: v :: r) M) : z_G w d t pc L S M Q := by
  unfold z_d1 at h
  split at h
  case h_2 => exact h.elim
  rename_i v r
  split at h
  case isFalse => exact h.elim
  rename_i hc0
  intro p l e R CC SS s m args below meth c cx H locs ls F C
  obtain ⟨hx, hb, hr, hml, hown, hts, hlk, hKk, hSt, hRm⟩ := id F
  obtain ⟨hP, hD, hS, hMR, hl, hLn, hL, hSk⟩ := id C
  refine lv_dup hx hb hd (z_cat_of _ _ hc0) ?_
  exact hK _ _ _ _ h p l e R CC SS s m args below meth c cx H locs ls F ⟨hP, hD, hS, hMR, hl, hLn, hL, List.forall_mem_cons.mpr ⟨hSk v (by simp), hSk⟩⟩
theorem z_s_pop (hd : decode t.2.1 pc = .ok (.pop, 1)) (hK : ∀ pc L S M, K pc L S M → z_G w d t pc L S M Q) (h : z_d1 S fun _ r => K (pc + 1) L r M) : z_G w d t pc L S M Q := by
  unfold z_d1 at h
  split at h
  case h_2 => exact h.elim
  rename_i v r
  split at h
  case isFalse => exact h.elim
  rename_i hc0
  intro p l e R CC SS s m args below meth c cx H locs ls F C
  obtain ⟨hx, hb, hr, hml, hown, hts, hlk, hKk, hSt, hRm⟩ := id F
  obtain ⟨hP, hD, hS, hMR, hl, hLn, hL, hSk⟩ := id C
  refine lv_pop hx hb hd (z_cat_of _ _ hc0) ?_
  exact hK _ _ _ _ h p l e R CC SS s m args below meth c cx H locs ls F ⟨hP, hD, hS, hMR, hl, hLn, hL, fun u hu => hSk u (by simp [hu])⟩
theorem z_s_dup2 (hd : decode t.2.1 pc = .ok (.dup2, 1)) (hK : ∀ pc L S M, K pc L S M → z_G w d t pc L S M Q) (h : z_d2 S fun v u r => K (pc + 1) L (v :: u :: v :: u :: r) M) : z_G w d t pc L S M Q := by
  unfold z_d2 at h
  split at h
  case h_2 => exact h.elim
  rename_i v u r
  split at h
  case isFalse => exact h.elim
  rename_i hc0
  split at h
  case isFalse => exact h.elim
  rename_i hc1
  intro p l e R CC SS s m args below meth c cx H locs ls F C
  obtain ⟨hx, hb, hr, hml, hown, hts, hlk, hKk, hSt, hRm⟩ := id F
  obtain ⟨hP, hD, hS, hMR, hl, hLn, hL, hSk⟩ := id C
  refine lv_dup2_11 hx hb hd (z_cat_of _ _ hc0) (z_cat_of _ _ hc1) ?_
  exact hK _ _ _ _ h p l e R CC SS s m args below meth c cx H locs ls F ⟨hP, hD, hS, hMR, hl, hLn, hL, List.forall_mem_cons.mpr ⟨hSk v (by simp), List.forall_mem_cons.mpr ⟨hSk u (by simp), hSk⟩⟩⟩

theorem z_tgt_eq {pc : Nat} {o : Int} (h : 0 ≤ (pc : Int) + o) : (pc : Int) + o = (z_tgt pc o : Int) := by
  unfold z_tgt
  have : Int.ofNat pc = (pc : Int) := rfl
  rw [this]
  omega
theorem z_s_goto {o : Int} (hd : decode t.2.1 pc = .ok (.goto o, 3)) (ho : 0 ≤ (pc : Int) + o) (hK : ∀ pc L S M, K pc L S M → z_G w d t pc L S M Q) (h : K (z_tgt pc o) L S M) : z_G w d t pc L S M Q := by
  intro p l e R CC SS s m args below meth c cx H locs ls F C
  obtain ⟨hx, hb, hr, hml, hown, hts, hlk, hKk, hSt, hRm⟩ := id F
  obtain ⟨hP, hD, hS, hMR, hl, hLn, hL, hSk⟩ := id C
  refine lv_goto hx hb hd (z_tgt_eq ho) ?_
  exact hK _ _ _ _ h p l e R CC SS s m args below meth c cx H locs ls F ⟨hP, hD, hS, hMR, hl, hLn, hL, hSk⟩
theorem z_s_ifCond {c0 : Jvm.ClassFile.Cond} {o : Int} (hd : decode t.2.1 pc = .ok (.ifCond c0 o, 3)) (ho : 0 ≤ (pc : Int) + o) (hK : ∀ pc L S M, K pc L S M → z_G w d t pc L S M Q) (h : z_p1 S fun x r => z_br c0 x 0 (K (z_tgt pc o) L r M) (K (pc + 3) L r M)) : z_G w d t pc L S M Q := by
  obtain ⟨x, r, rfl, h⟩ := z_p1_inv h
  intro p l e R CC SS s m args below meth c cx H locs ls F C
  obtain ⟨hx, hb, hr, hml, hown, hts, hlk, hKk, hSt, hRm⟩ := id F
  obtain ⟨hP, hD, hS, hMR, hl, hLn, hL, hSk⟩ := id C
  have vy : z_i32 0 := ⟨by decide, by decide⟩
  have vx : z_i32 x := hSk (z_I x) (by simp)
  have vr : ∀ v ∈ r, z_vok w v := fun v hv => hSk v (by simp [hv])
  have go : ∀ q, K q L r M → W p l e R s m args below meth c H locs CC SS _ (F0 m q ls (r.map (z_v cx.2.2))) := fun q hq => hK _ _ _ _ hq p l e R CC SS s m args below meth c cx H locs ls F ⟨hP, hD, hS, hMR, hl, hLn, hL, vr⟩
  show W p l e R s m args below meth c H locs CC SS _ (F0 m pc ls (.int (Int32.ofInt x) :: r.map (z_v cx.2.2)))
  have e0 : Int32.ofInt 0 = 0 := rfl
  cases c0 with
  | eq => exact lv_if_eq hx hb hd (z_tgt_eq ho) (fun q => go _ (h.1 ((z_n_eq vx vy).mp q))) (fun q => go _ (h.2 (fun z => q ((z_n_eq vx vy).mpr z))))
  | ne => exact lv_if_ne hx hb hd (z_tgt_eq ho) (fun q => go _ (h.1 (fun z => q ((z_n_eq vx vy).mpr z)))) (fun q => go _ (h.2 ((z_n_eq vx vy).mp q)))
  | lt => exact lv_if_lt hx hb hd (z_tgt_eq ho) (fun q => go _ (h.1 ((z_n_lt vx vy).mp q))) (fun q => go _ (h.2 (by have : ¬ _ := fun z => q ((z_n_lt vx vy).mpr z); omega)))
  | ge => exact lv_if_ge hx hb hd (z_tgt_eq ho) (fun q => go _ (h.1 ((z_n_le vy vx).mp q))) (fun q => go _ (h.2 (by have : ¬ _ := fun z => q ((z_n_le vy vx).mpr z); omega)))
  | gt => exact lv_if_gt hx hb hd (z_tgt_eq ho) (fun q => go _ (h.1 ((z_n_lt vy vx).mp q))) (fun q => go _ (h.2 (by have : ¬ _ := fun z => q ((z_n_lt vy vx).mpr z); omega)))
  | le => exact lv_if_le hx hb hd (z_tgt_eq ho) (fun q => go _ (h.1 ((z_n_le vx vy).mp q))) (fun q => go _ (h.2 (by have : ¬ _ := fun z => q ((z_n_le vx vy).mpr z); omega)))
theorem z_s_if_icmp {c0 : Jvm.ClassFile.Cond} {o : Int} (hd : decode t.2.1 pc = .ok (.if_icmp c0 o, 3)) (ho : 0 ≤ (pc : Int) + o) (hK : ∀ pc L S M, K pc L S M → z_G w d t pc L S M Q) (h : z_p2 S fun x y r => z_br c0 x y (K (z_tgt pc o) L r M) (K (pc + 3) L r M)) : z_G w d t pc L S M Q := by
  obtain ⟨x, y, r, rfl, h⟩ := z_p2_inv h
  intro p l e R CC SS s m args below meth c cx H locs ls F C
  obtain ⟨hx, hb, hr, hml, hown, hts, hlk, hKk, hSt, hRm⟩ := id F
  obtain ⟨hP, hD, hS, hMR, hl, hLn, hL, hSk⟩ := id C
  have vy : z_i32 y := hSk (z_I y) (by simp)
  have vx : z_i32 x := hSk (z_I x) (by simp)
  have vr : ∀ v ∈ r, z_vok w v := fun v hv => hSk v (by simp [hv])
  have go : ∀ q, K q L r M → W p l e R s m args below meth c H locs CC SS _ (F0 m q ls (r.map (z_v cx.2.2))) := fun q hq => hK _ _ _ _ hq p l e R CC SS s m args below meth c cx H locs ls F ⟨hP, hD, hS, hMR, hl, hLn, hL, vr⟩
  show W p l e R s m args below meth c H locs CC SS _ (F0 m pc ls (.int (Int32.ofInt y) :: .int (Int32.ofInt x) :: r.map (z_v cx.2.2)))
  have e0 : Int32.ofInt 0 = 0 := rfl
  cases c0 with
  | eq => exact lv_icmp_eq hx hb hd (z_tgt_eq ho) (fun q => go _ (h.1 ((z_n_eq vx vy).mp q))) (fun q => go _ (h.2 (fun z => q ((z_n_eq vx vy).mpr z))))
  | ne => exact lv_icmp_ne hx hb hd (z_tgt_eq ho) (fun q => go _ (h.1 (fun z => q ((z_n_eq vx vy).mpr z)))) (fun q => go _ (h.2 ((z_n_eq vx vy).mp q)))
  | lt => exact lv_icmp_lt hx hb hd (z_tgt_eq ho) (fun q => go _ (h.1 ((z_n_lt vx vy).mp q))) (fun q => go _ (h.2 (by have : ¬ _ := fun z => q ((z_n_lt vx vy).mpr z); omega)))
  | ge => exact lv_icmp_ge hx hb hd (z_tgt_eq ho) (fun q => go _ (h.1 ((z_n_le vy vx).mp q))) (fun q => go _ (h.2 (by have : ¬ _ := fun z => q ((z_n_le vy vx).mpr z); omega)))
  | gt => exact lv_icmp_gt hx hb hd (z_tgt_eq ho) (fun q => go _ (h.1 ((z_n_lt vy vx).mp q))) (fun q => go _ (h.2 (by have : ¬ _ := fun z => q ((z_n_lt vy vx).mpr z); omega)))
  | le => exact lv_icmp_le hx hb hd (z_tgt_eq ho) (fun q => go _ (h.1 ((z_n_le vx vy).mp q))) (fun q => go _ (h.2 (by have : ¬ _ := fun z => q ((z_n_le vx vy).mpr z); omega)))
end ZS
