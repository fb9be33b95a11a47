/-! CONSTRUCTORS: a row of arrays made and put into the object's fields, one after the other -/
abbrev z_Ini : Type := Nat × ((Instr × Nat) × (Nat × (Nat × (Nat × (Nat × (Nat × Nat))))))
def z_at : Nat → ArrayType
  | 1 => .int
  | 2 => .long
  | 3 => .byte
  | _ => .boolean
def z_kty : Nat → FieldType
  | 1 => .int
  | 2 => .long
  | 3 => .byte
  | _ => .boolean
def z_psh : Instr → Option Int
  | .iconst n => if -128 ≤ n ∧ n < 128 then some n else none
  | .bipush n => if -128 ≤ n ∧ n < 128 then some n else none
  | .sipush n => if -32768 ≤ n ∧ n < 32768 then some n else none
  | _ => none
def z_zero (n k : Nat) : vp_A := if k = 2 then (n, .inr (.inl (fun _ => 0))) else (n, .inl (fun _ => 0))
def z_chkI (own : String) (cc : ByteArray) (q : vw_C) (i : z_Ini) : Bool := match i with
  | (pc, ((pi, pl), (n, (k, (j, (ix, lk)))))) => decide (decode cc pc = .ok (.aload_n 0, 1)) && (decide (decode cc (pc + 1) = .ok (pi, pl)) && (decide (z_psh pi = some (Int.ofNat n)) && (Nat.beq pl (z_ilen pi) && (Nat.blt n 20000 && (decide (1 ≤ k ∧ k ≤ 4) && (decide (decode cc (pc + 1 + pl) = .ok (.newarray (z_at k), 2)) && (decide (decode cc (pc + 1 + pl + 2) = .ok (.putfield ix, 3)) && (Nat.blt j q.2.2 && (z_wd lk (.fieldLink own ix (q.2.1 j).1 (q.2.1 j).2.1 (q.2.1 j).2.2.1) && ((q.2.1 j).2.2.2 && (decide ((q.2.1 j).1 = own) && decide (parseFieldDescriptor (q.2.1 j).2.2.1 = some (.array (z_kty k))))))))))))))
theorem z_ac1 : Cond.arrayClass (newarray.typeOf (z_at 1)) ∈ z_ts := z_wd_in (ci := (1, 49)) (by decide +kernel)
theorem z_ac2 : Cond.arrayClass (newarray.typeOf (z_at 2)) ∈ z_ts := z_wd_in (ci := (2, 27)) (by decide +kernel)
theorem z_ac3 : Cond.arrayClass (newarray.typeOf (z_at 3)) ∈ z_ts := z_wd_in (ci := (8, 108)) (by decide +kernel)
theorem z_ac4 : Cond.arrayClass (newarray.typeOf (z_at 4)) ∈ z_ts := z_wd_in (ci := (2, 26)) (by decide +kernel)
theorem z_acs (k : Nat) (h : 1 ≤ k ∧ k ≤ 4) : Cond.arrayClass (newarray.typeOf (z_at k)) ∈ z_ts := by
  have : k = 1 ∨ k = 2 ∨ k = 3 ∨ k = 4 := by omega
  rcases this with rfl | rfl | rfl | rfl
  · exact z_ac1
  · exact z_ac2
  · exact z_ac3
  · exact z_ac4
theorem z_oi_in : Cond.instanceMethod Lib.objectInit ∈ z_ts := z_wd_in (ci := (1, 25)) (by decide +kernel)
theorem z_oi_co : Cond.code Lib.objectInit ⟨#[0xb1]⟩ 1 none ∈ z_ts := z_wd_in (ci := (1, 26)) (by decide +kernel)
section ZI
variable {p : Program} {l : Launch} {e : Env} {R : Room} {s : State} {m : MethodId} {args : Array Value} {below : List Frame} {meth : Method} {c : Code} {H : Heap} {locs : List Loc} {cells slots : Nat} {Q : State → Prop} {cc : ByteArray} {ls : Array Slot} {cx : z_C} {A : Nat → Prop} {own : String}
theorem z_push (hx : p.tables.exec = Jvm.exec) (hb : c.code = cc) {pi : Instr} {pl pc : Nat} {n : Int} {rest : List Value} (hp : z_psh pi = some n) (hl : pl = z_ilen pi) (hd : decode cc pc = .ok (pi, pl)) (kk : W p l e R s m args below meth c H locs cells slots Q (F0 m (pc + pl) ls (.int (Int32.ofInt n) :: rest))) : W p l e R s m args below meth c H locs cells slots Q (F0 m pc ls rest) := by
  subst hl
  unfold z_psh at hp
  split at hp
  · split at hp
    next h => cases hp; exact lv_iconst hx hb hd rfl kk
    next => cases hp
  · split at hp
    next h => cases hp; exact lv_bipush (v := Int32.ofInt n) hx hb hd (Int32.toInt_inj.1 (by rw [Int8.toInt_toInt32, Int8.toInt_ofInt_of_le (by omega) (by omega), z_nt ⟨by omega, by omega⟩])) kk
    next => cases hp
  · split at hp
    next h => cases hp; exact lv_sipush (v := Int32.ofInt n) hx hb hd (Int32.toInt_inj.1 (by rw [Int16.toInt_toInt32, Int16.toInt_ofInt_of_le (by omega) (by omega), z_nt ⟨by omega, by omega⟩])) kk
    next => cases hp
  · cases hp
theorem z_newarr (hx : p.tables.exec = Jvm.exec) (hb : c.code = cc) (hts : ∀ w ∈ z_ts, w.before args s = true) (hK : va_K cx.1 z_cl (z_tys cx) s) (hA : ∀ q, s.heap.size ≤ q → A q) {ws : va_W} (hP : va_P cx.1 z_cl ws H) (hD : va_D A ws) (hS : va_S A s.heap H locs) {k n pc : Nat} (hk : 1 ≤ k ∧ k ≤ 4) (hn : n < 20000) (hcells : cells + 1 ≤ R.cells) (hslots : slots + n ≤ R.slots) {rest : List Value} (hd : decode cc pc = .ok (.newarray (z_at k), 2))
    (kk : ∀ (q : Nat) (H1 : Heap), va_P cx.1 z_cl (ws ++ [(q, .inl (cx.2.1 k, z_zero n k))]) H1 → va_D A (ws ++ [(q, .inl (cx.2.1 k, z_zero n k))]) → va_S A s.heap H1 locs → W p l e R s m args below meth c H1 locs (cells + 1) (slots + n) Q (F0 m (pc + 2) ls (.ref q :: rest))) : W p l e R s m args below meth c H locs cells slots Q (F0 m pc ls (.int (Int32.ofInt (Int.ofNat n)) :: rest)) := by
  have hn32 : z_i32 (Int.ofNat n) := ⟨by have : Int.ofNat n = (n : Int) := rfl; omega, by have : Int.ofNat n = (n : Int) := rfl; omega⟩
  have h0 : ¬ Int32.ofInt (Int.ofNat n) < 0 := by
    have e0 : (0 : Int32) = Int32.ofInt 0 := rfl
    rw [e0, z_n_lt hn32 ⟨by decide, by decide⟩]
    have : Int.ofNat n = (n : Int) := rfl
    omega
  have hc : (Int32.ofInt (Int.ofNat n)).toNatClampNeg = n := by rw [z_clamp hn32]; rfl
  have hac := hts _ (z_acs k hk)
  have key : ∀ (i : Nat) (ty : FieldType), (z_tys cx)[i]? = some (cx.2.1 k, ty) → newarray.typeOf (z_at k) = ty → (∀ (C : ClassId), va_RA s C ty → s.vm.findClass ("[" ++ ty.toString) = some C) → n * componentBytes ty ≤ 536870912 → (∀ cA : ClassId, vp_cell cA (z_zero n k) = arrV cA n (fun _ => defaultValue ty)) → W p l e R s m args below meth c H locs cells slots Q (F0 m pc ls (.int (Int32.ofInt (Int.ofNat n)) :: rest)) := by
    intro i ty hi hty hRA hby ha
    refine va_newa (atype := z_at k) hx hb hac hty hK hP hD hS hA (a0 := z_zero n k) ha h0 hc hby hcells hslots hd (fun q cA H1 hK1 hP1 hD1 hS1 => ?_)
    have e1 := hRA _ (hK.2 i _ hi).2
    have e2 := hRA _ (hK1.2 (z_tys cx).length (cA, ty) (by rw [List.getElem?_append_right (Nat.le_refl _)]; simp)).2
    have e3 : cA = cx.2.1 k := Option.some.inj (e2.symm.trans e1)
    subst e3
    exact kk q H1 hP1 hD1 hS1
  have : k = 1 ∨ k = 2 ∨ k = 3 ∨ k = 4 := by omega
  rcases this with rfl | rfl | rfl | rfl
  · exact key 0 .int rfl rfl (fun _ h => h) (by show n * 4 ≤ 536870912; omega) (fun _ => rfl)
  · exact key 1 .long rfl rfl (fun _ h => h) (by show n * 8 ≤ 536870912; omega) (fun _ => rfl)
  · exact key 2 .byte rfl rfl (fun _ h => h) (by show n * 1 ≤ 536870912; omega) (fun _ => rfl)
  · exact key 3 .boolean rfl rfl (fun _ h => h) (by show n * 1 ≤ 536870912; omega) (fun _ => rfl)
/-- a reference put into a final field of the object that is made -/
theorem z_putref (hx : p.tables.exec = Jvm.exec) (hb : c.code = cc) (hts : ∀ w ∈ z_ts, w.before args s = true) (hown : s.vm.findClass own = some m.cls) (hin2 : meth.name = "<init>") (hK : va_K cx.1 z_cl (z_tys cx) s) {ci : Nat} {q : vw_C} (hc : z_cl[ci]? = some q) {h0 : Nat} {fs : List Value} {rest : va_W} (hfs : fs.length = q.2.2) (hP : va_P cx.1 z_cl ((h0, .inr (ci, fs)) :: rest) H) (hD : va_D A ((h0, .inr (ci, fs)) :: rest)) (hS : va_S A s.heap H locs) {j ix pc : Nat} {lk : Nat × Nat} (hj : j < q.2.2) (hlk : z_wd lk (.fieldLink own ix (q.2.1 j).1 (q.2.1 j).2.1 (q.2.1 j).2.2.1) = true) (hfin : (q.2.1 j).2.2.2 = true) (hdc : (q.2.1 j).1 = own) {ty : FieldType} (hty : parseFieldDescriptor (q.2.1 j).2.2.1 = some ty) (href : (∃ t, ty = .array t) ∨ ∃ C, ty = .object C) {a : Nat} {st : List Value} (hd : decode cc pc = .ok (.putfield ix, 3))
    (kk : ∀ (H1 : Heap) (locs1 : List Loc), va_P cx.1 z_cl ((h0, .inr (ci, fs.set j (.ref a))) :: rest) H1 → va_D A ((h0, .inr (ci, fs.set j (.ref a))) :: rest) → va_S A s.heap H1 locs1 → W p l e R s m args below meth c H1 locs1 cells slots Q (F0 m (pc + 3) ls st)) : W p l e R s m args below meth c H locs cells slots Q (F0 m pc ls (.ref a :: .ref h0 :: st)) := by
  have hqm := List.mem_of_getElem? hc
  have hnf : narrow ty (.ref a) = .ref a ∧ fits ty (.ref a) = true := by
    rcases href with ⟨t, rfl⟩ | ⟨C, rfl⟩ <;> exact ⟨rfl, rfl⟩
  exact va_putF (own := own) (ref := (q.2.1 j).1) (C := q.1) (T := q.2.1) (N := q.2.2) hx hb hts (z_cl_ws q hqm) _ (z_cl_ty q hqm) (z_cl_nm q hqm) hown hK hP hD hS 0 rfl hc j hj (hts _ (z_wd_in hlk)) (fun _ z => z) hfin hin2 hdc hty hnf.1 hnf.2 (by rw [hfs]; exact hj) hd kk
def z_fsr : List Value → List z_Ini → List Nat → List Value
  | fs, i :: is, a :: as => z_fsr (fs.set i.2.2.2.2.1 (.ref a)) is as
  | fs, _, _ => fs
def z_arw (cx : z_C) : List z_Ini → List Nat → va_W
  | i :: is, a :: as => (a, .inl (cx.2.1 i.2.2.2.1, z_zero i.2.2.1 i.2.2.2.1)) :: z_arw cx is as
  | _, _ => []
def z_ipc : Nat → List z_Ini → Nat
  | pc, [] => pc
  | _, i :: is => z_ipc (i.1 + 1 + i.2.1.2 + 2 + 3) is
def z_isl : List z_Ini → Nat
  | [] => 0
  | i :: is => i.2.2.1 + z_isl is
def z_chkIs (own : String) (cc : ByteArray) (q : vw_C) : Nat → List z_Ini → Bool
  | _, [] => true
  | pc, i :: is => Nat.beq i.1 pc && (z_chkI own cc q i && z_chkIs own cc q (i.1 + 1 + i.2.1.2 + 2 + 3) is)
theorem z_inits (hx : p.tables.exec = Jvm.exec) (hb : c.code = cc) (hts : ∀ w ∈ z_ts, w.before args s = true) (hown : s.vm.findClass own = some m.cls) (hin2 : meth.name = "<init>") (hK : va_K cx.1 z_cl (z_tys cx) s) (hA : ∀ q, s.heap.size ≤ q → A q) {ci : Nat} {q : vw_C} (hc : z_cl[ci]? = some q) {h0 : Nat} (hl0 : ls[0]? = some (.val (.ref h0))) :
    ∀ (is : List z_Ini) (pc : Nat) (fs : List Value) (rest : va_W) (H : Heap) (locs : List Loc) (cells slots : Nat), z_chkIs own cc q pc is = true → fs.length = q.2.2 → va_P cx.1 z_cl ((h0, .inr (ci, fs)) :: rest) H → va_D A ((h0, .inr (ci, fs)) :: rest) → va_S A s.heap H locs → cells + is.length ≤ R.cells → slots + z_isl is ≤ R.slots →
    (∀ (as : List Nat) (H1 : Heap) (locs1 : List Loc), as.length = is.length → va_P cx.1 z_cl ((h0, .inr (ci, z_fsr fs is as)) :: (rest ++ z_arw cx is as)) H1 → va_D A ((h0, .inr (ci, z_fsr fs is as)) :: (rest ++ z_arw cx is as)) → va_S A s.heap H1 locs1 → W p l e R s m args below meth c H1 locs1 (cells + is.length) (slots + z_isl is) Q (F0 m (z_ipc pc is) ls [])) →
    W p l e R s m args below meth c H locs cells slots Q (F0 m pc ls []) := by
  intro is
  induction is with
  | nil =>
    intro pc fs rest H locs cells slots _ _ hP hD hS _ _ kk
    exact kk [] H locs rfl (by simpa [z_arw, z_fsr] using hP) (by simpa [z_arw, z_fsr] using hD) hS
  | cons i is ih =>
    intro pc fs rest H locs cells slots hchk hfs hP hD hS hcells hslots kk
    obtain ⟨pc0, ⟨⟨pi, pl⟩, ⟨n, ⟨k, ⟨j, ⟨ix, lk⟩⟩⟩⟩⟩⟩ := i
    unfold z_chkIs at hchk
    simp only [Bool.and_eq_true] at hchk
    obtain ⟨g0, gi, gs⟩ := hchk
    have epc : pc0 = pc := Nat.eq_of_beq_eq_true g0
    subst epc
    unfold z_chkI at gi
    simp only [Bool.and_eq_true, decide_eq_true_eq] at gi
    obtain ⟨d1, d2, d3, d4, d5, d6, d7, d8, d9, d10, d11, d12, d13⟩ := gi
    have hlen : cells + (is.length + 1) ≤ R.cells := hcells
    have hsl : slots + (n + z_isl is) ≤ R.slots := hslots
    refine lv_aload_n hx hb d1 rfl hl0 ?_
    refine z_push hx hb d3 (Nat.eq_of_beq_eq_true d4) d2 ?_
    refine z_newarr hx hb hts hK hA hP hD hS d6 (Nat.le_of_ble_eq_true d5) (by omega) (by omega) d7 (fun a H1 hP1 hD1 hS1 => ?_)
    refine z_putref hx hb hts hown hin2 hK hc hfs hP1 hD1 hS1 (Nat.le_of_ble_eq_true d9) d10 d11 d12 d13 (Or.inl ⟨_, rfl⟩) d8 (fun H2 locs2 hP2 hD2 hS2 => ?_)
    refine ih _ _ (rest ++ [(a, .inl (cx.2.1 k, z_zero n k))]) H2 locs2 (cells + 1) (slots + n) gs (by rw [List.length_set]; exact hfs) hP2 hD2 hS2 (by omega) (by omega) (fun as H3 locs3 hla hP3 hD3 hS3 => ?_)
    have e1 : (rest ++ [(a, .inl (cx.2.1 k, z_zero n k))]) ++ z_arw cx is as = rest ++ z_arw cx ((pc0, ((pi, pl), (n, (k, (j, (ix, lk)))))) :: is) (a :: as) := by
      rw [List.append_assoc]; rfl
    have e2 : cells + 1 + is.length = cells + (is.length + 1) := by omega
    have e3 : slots + n + z_isl is = slots + (n + z_isl is) := by omega
    rw [e1] at hP3 hD3
    rw [e2, e3]
    exact kk (a :: as) H3 locs3 (by simp [hla]) hP3 hD3 hS3
end ZI
/-- worlds over any list of ids; the addresses changed -/
def z_wg (G : List Nat) (cx : z_C) (M : z_M) : va_W := G.map fun k => (cx.2.2 k, z_cell cx M k)
def z_cxa (cx : z_C) (f : Nat → Nat) : z_C := (cx.1, (cx.2.1, f))
def z_adu (f : Nat → Nat) : List Nat → List Nat → Nat → Nat
  | k :: ks, a :: as, q => if q = k then a else z_adu f ks as q
  | _, _, q => f q
theorem z_adu_off {f : Nat → Nat} : ∀ {ks as : List Nat} {q : Nat}, q ∉ ks → z_adu f ks as q = f q := by
  intro ks
  induction ks with
  | nil => intro as q _; cases as <;> rfl
  | cons k ks ih =>
    intro as q h
    cases as with
    | nil => rfl
    | cons a as =>
      show (if q = k then a else z_adu f ks as q) = f q
      rw [if_neg (fun e => h (by rw [e]; exact List.mem_cons_self))]
      exact ih (fun z => h (List.mem_cons_of_mem _ z))
def z_MRg (G : List Nat) (M : z_M) : Prop := ∀ k ∈ G, ∀ j : Int, 0 ≤ j → (j < Int.ofNat (z_len k) ∨ z_knd k = 0) → if z_knd k = 2 then z_i64 (M k j) else z_i32 (M k j)
/-- what a constructor leaves: its cells G (the object o first), with memory of a kind P -/
def z_IA (cx : z_C) (o sz : Nat) : Nat → Prop := fun q => q = cx.2.2 o ∨ sz ≤ q
def z_IQ (cx : z_C) (o : Nat) (G : List Nat) (P : z_M → Prop) (sz : Nat) : Array Value → State → Outcome → State → Prop := fun _ st oc t => (∃ (f : Nat → Nat) (M : z_M), oc = .returned none ∧ (∀ k, k ∉ G → f k = cx.2.2 k) ∧ f o = cx.2.2 o ∧ P M ∧ z_MRg (o :: G) M ∧ va_P cx.1 z_cl (z_wg (o :: G) (z_cxa cx f) M) t.heap ∧ va_D (z_IA cx o sz) (z_wg (o :: G) (z_cxa cx f) M)) ∧ va_F (z_IA cx o sz) st t
def z_IP (cx : z_C) (o : Nat) (fs : List Value) (sz : Nat) (U : State) : Prop := U.heap.size = sz ∧ va_P cx.1 z_cl [(cx.2.2 o, .inr (z_cix o, fs))] U.heap ∧ va_K cx.1 z_cl (z_tys cx) U ∧ va_D (z_IA cx o sz) [(cx.2.2 o, .inr (z_cix o, fs))] ∧ z_St cx (z_IA cx o sz) U U.heap

