theorem z_mem_of {l : List Nat} {a : Nat} (h : l.contains a = true) : a ∈ l := List.contains_iff_mem.mp h
theorem z_cons_knd : ∀ k ∈ z_cons, z_knd k = 6 ∨ z_knd k = 7 := by decide +kernel
theorem z_live {w k : Nat} (h : z_vok w (z_R k)) (h6 : z_knd k ≠ 6) (h7 : z_knd k ≠ 7) : k ∈ z_ids w := by
  rcases h with h | h
  · exact h
  · rcases z_cons_knd k h with q | q
    · exact absurd q h6
    · exact absurd q h7
theorem z_ids_all (w : Nat) : ∀ k ∈ z_ids w, k ∈ z_all := by
  match w with
  | 0 => exact fun k h => h
  | 1 => decide +kernel
  | 2 => decide +kernel
  | 3 => decide +kernel
  | 4 => decide +kernel
  | n + 5 => show ∀ k ∈ z_ids 5, k ∈ z_all; decide +kernel
theorem z_all_knd : ∀ k ∈ z_all, z_knd k = 0 ∨ z_knd k = 1 ∨ z_knd k = 2 ∨ z_knd k = 3 ∨ z_knd k = 4 := by decide +kernel
theorem z_all_len : ∀ k ∈ z_all, z_len k < 20000 := by decide +kernel
def z_zip : List Cond → List (Nat × Nat) → Bool
  | [], _ => true
  | w :: l, i :: ix => z_wd i w && z_zip l ix
  | _ :: _, [] => false
theorem z_zip_ok : ∀ {l : List Cond} {ix : List (Nat × Nat)}, z_zip l ix = true → ∀ w ∈ l, w ∈ z_ts := by
  intro l
  induction l with
  | nil => intro ix _ w hw; cases hw
  | cons a l ih =>
    intro ix h w hw
    cases ix with
    | nil => cases h
    | cons i ix =>
      have h2 : (z_wd i a && z_zip l ix) = true := h
      rw [Bool.and_eq_true] at h2
      rcases List.mem_cons.mp hw with e | e
      · rw [e]; exact z_wd_in h2.1
      · exact ih h2.2 w e
theorem z_cw0 : ∀ w ∈ u_ws "DayMuseum$Days" z_T0 12, w ∈ z_ts := z_zip_ok (ix := [(2, 1), (2, 3), (2, 5), (2, 7), (2, 9), (2, 11), (2, 13), (2, 15), (2, 17), (2, 19), (2, 21), (2, 23)]) (by decide +kernel)
theorem z_cw1 : ∀ w ∈ u_ws "DayMuseum$Kisses" z_T1 6, w ∈ z_ts := z_zip_ok (ix := [(2, 164), (2, 166), (2, 168), (2, 170), (2, 172), (2, 174)]) (by decide +kernel)
theorem z_cw2 : ∀ w ∈ u_ws "DayMuseum$Law" z_T2 8, w ∈ z_ts := z_zip_ok (ix := [(1, 142), (1, 144), (1, 146), (1, 148), (1, 150), (1, 152), (1, 154), (1, 156)]) (by decide +kernel)
theorem z_cw3 : ∀ w ∈ u_ws "DayMuseum$Luggage" z_T3 12, w ∈ z_ts := z_zip_ok (ix := [(2, 127), (2, 129), (2, 131), (2, 133), (2, 135), (2, 137), (2, 139), (2, 141), (2, 143), (2, 145), (2, 147), (2, 149)]) (by decide +kernel)
theorem z_cw4 : ∀ w ∈ u_ws "DayMuseum$People" z_T4 11, w ∈ z_ts := z_zip_ok (ix := [(1, 103), (1, 105), (1, 107), (1, 109), (1, 111), (1, 113), (1, 115), (1, 117), (1, 119), (1, 121), (1, 123)]) (by decide +kernel)
theorem z_cw5 : ∀ w ∈ u_ws "DayMuseum$Questions" z_T5 12, w ∈ z_ts := z_zip_ok (ix := [(2, 46), (2, 48), (2, 50), (2, 52), (2, 54), (2, 56), (2, 58), (2, 60), (2, 62), (2, 64), (2, 66), (2, 68)]) (by decide +kernel)
theorem z_cw6 : ∀ w ∈ u_ws "DayMuseum$Reports" z_T6 8, w ∈ z_ts := z_zip_ok (ix := [(1, 206), (1, 208), (1, 210), (1, 212), (1, 214), (1, 216), (1, 218), (1, 220)]) (by decide +kernel)
theorem z_cw7 : ∀ w ∈ u_ws "DayMuseum$Senses" z_T7 7, w ∈ z_ts := z_zip_ok (ix := [(1, 177), (1, 179), (1, 181), (1, 183), (1, 185), (1, 187), (1, 189)]) (by decide +kernel)
theorem z_cw8 : ∀ w ∈ u_ws "DayMuseum$Tape" z_T8 5, w ∈ z_ts := z_zip_ok (ix := [(1, 38), (1, 40), (1, 42), (1, 44), (1, 46)]) (by decide +kernel)
theorem z_cw9 : ∀ w ∈ u_ws "DayMuseum$Town" z_T9 3, w ∈ z_ts := z_zip_ok (ix := [(1, 78), (1, 80), (1, 82)]) (by decide +kernel)
theorem z_cw10 : ∀ w ∈ u_ws "DayMuseum$Ways" z_T10 10, w ∈ z_ts := z_zip_ok (ix := [(2, 87), (2, 89), (2, 91), (2, 93), (2, 95), (2, 97), (2, 99), (2, 101), (2, 103), (2, 105)]) (by decide +kernel)
theorem z_cw11 : ∀ w ∈ u_ws "DayMuseum" z_T11 12, w ∈ z_ts := z_zip_ok (ix := [(2, 189), (2, 191), (2, 193), (2, 195), (2, 197), (2, 199), (2, 201), (2, 203), (2, 205), (2, 207), (2, 209), (2, 211)]) (by decide +kernel)
theorem z_cw12 : ∀ w ∈ u_ws "DayMuseumModel" z_T12 107, w ∈ z_ts := z_zip_ok (ix := [(7, 133), (7, 135), (7, 137), (7, 139), (7, 141), (7, 143), (7, 145), (7, 147), (7, 149), (7, 151), (7, 153), (7, 155), (7, 157), (7, 159), (7, 161), (7, 163), (7, 165), (7, 167), (7, 169), (7, 171), (7, 173), (7, 175), (7, 177), (7, 179), (7, 181), (7, 183), (7, 185), (7, 187), (7, 189), (7, 191), (7, 193), (7, 195), (7, 197), (7, 199), (7, 201), (7, 203), (7, 205), (7, 207), (7, 209), (7, 211), (7, 213), (7, 215), (7, 217), (7, 219), (7, 221), (7, 223), (7, 225), (7, 227), (7, 229), (7, 231), (7, 233), (7, 235), (7, 237), (7, 239), (8, 1), (8, 3), (8, 5), (8, 7), (8, 9), (8, 11), (8, 13), (8, 15), (8, 17), (8, 19), (8, 21), (8, 23), (8, 25), (8, 27), (8, 29), (8, 31), (8, 33), (8, 35), (8, 37), (8, 39), (8, 41), (8, 43), (8, 45), (8, 47), (8, 49), (8, 51), (8, 53), (8, 55), (8, 57), (8, 59), (8, 61), (8, 63), (8, 65), (8, 67), (8, 69), (8, 71), (8, 73), (8, 75), (8, 77), (8, 79), (8, 81), (8, 83), (8, 85), (8, 87), (8, 89), (8, 91), (8, 93), (8, 95), (8, 97), (8, 99), (8, 101), (8, 103), (8, 105)]) (by decide +kernel)
theorem z_cl_ws : ∀ q ∈ z_cl, ∀ w ∈ u_ws q.1 q.2.1 q.2.2, w ∈ z_ts := List.forall_mem_cons.mpr ⟨z_cw0, List.forall_mem_cons.mpr ⟨z_cw1, List.forall_mem_cons.mpr ⟨z_cw2, List.forall_mem_cons.mpr ⟨z_cw3, List.forall_mem_cons.mpr ⟨z_cw4, List.forall_mem_cons.mpr ⟨z_cw5, List.forall_mem_cons.mpr ⟨z_cw6, List.forall_mem_cons.mpr ⟨z_cw7, List.forall_mem_cons.mpr ⟨z_cw8, List.forall_mem_cons.mpr ⟨z_cw9, List.forall_mem_cons.mpr ⟨z_cw10, List.forall_mem_cons.mpr ⟨z_cw11, List.forall_mem_cons.mpr ⟨z_cw12, fun _ h => absurd h List.not_mem_nil⟩⟩⟩⟩⟩⟩⟩⟩⟩⟩⟩⟩⟩
theorem z_cl_nm : ∀ q ∈ z_cl, ∀ a, a < q.2.2 → ∀ b, b < q.2.2 → a ≠ b → (q.2.1 a).2.1 ≠ (q.2.1 b).2.1 := by decide +kernel
theorem z_cl_ty : ∀ q ∈ z_cl, ∀ k, k < q.2.2 → parseFieldDescriptor (q.2.1 k).2.2.1 = some ((parseFieldDescriptor (q.2.1 k).2.2.1).getD .int) := by decide +kernel
theorem z_kind_ty {cx : z_C} {k : Nat} (h : k = 1 ∨ k = 3 ∨ k = 4) : ∃ t0 : Nat, (z_tys cx)[t0]? = some (cx.2.1 k, if k = 1 then FieldType.int else if k = 3 then FieldType.byte else FieldType.boolean) := by
  rcases h with rfl | rfl | rfl
  · exact ⟨0, rfl⟩
  · exact ⟨2, rfl⟩
  · exact ⟨3, rfl⟩
section ZB
variable {w d : Nat} {t : z_MT} {pc : Nat} {L S : List z_V} {M : z_M} {Q : z_V → z_M → Prop} {K : Nat → List z_V → List z_V → z_M → Prop}

theorem z_s_iaload (hd : decode t.2.1 pc = .ok (.iaload, 1)) (hK : ∀ pc L S M, K pc L S M → z_G w d t pc L S M Q) (h : z_pri S fun a i r => z_iald a i M fun x => K (pc + 1) L (z_I x :: r) M) : z_G w d t pc L S M Q := by
  replace h := z_pri_inv h
  obtain ⟨a, i, r, rfl, h⟩ := h
  intro p l e R CC SS s m args below meth c cx H locs ls F C
  obtain ⟨hx, hb, hr, hml, hown, hts, hlk, hKk, hSt, hRm⟩ := id F
  obtain ⟨hP, hD, hS, hMR, hl, hLn, hL, hSk⟩ := id C
  have vi : z_i32 i := hSk (z_I i) (by simp)
  have va : z_vok w (z_R a) := hSk (z_R a) (by simp)
  have vr : ∀ v ∈ r, z_vok w v := fun v hv => hSk v (by simp [hv])
  show W p l e R s m args below meth c H locs CC SS _ (F0 m pc ls (.int (Int32.ofInt i) :: .ref (cx.2.2 a) :: r.map (z_v cx.2.2)))
  unfold z_iald at h
  split at h
  next hk =>
    obtain ⟨h0, h1, h⟩ := h
    have hin := z_live va (by omega) (by omega)
    obtain ⟨q0, -, hq⟩ := z_ws_at hin cx M
    rw [z_cell_arr (by omega) (by omega), hk] at hq
    refine va_iald hx hb hKk hP q0 0 hq rfl (z_inb vi h0 h1) hd ?_
    rw [z_clamp vi]
    have eii : Int.ofNat i.toNat = i := by show ((i.toNat : Nat) : Int) = i; omega
    rw [eii]
    have := hMR a hin i h0 (Or.inl h1)
    rw [if_neg (by omega)] at this
    exact hK _ _ _ _ h p l e R CC SS s m args below meth c cx _ _ ls F ⟨hP, hD, hS, hMR, hl, hLn, hL, List.forall_mem_cons.mpr ⟨this, vr⟩⟩
  next hk1 =>
    split at h
    next hk =>
      obtain ⟨h0, h1, h⟩ := h
      have hc : a ∈ z_cons := by
        rcases va with q | q
        · have := z_all_knd a (z_ids_all w a q)
          omega
        · exact q
      have hT := (hSt.1 a hc).2
      rw [if_pos hk] at hT
      refine va_ti (v := .int (Int32.ofInt (z_cv a i))) hx hb hT hS (z_inb vi h0 h1) ?_ hd ?_
      · rw [z_clamp vi]
        have eii : Int.ofNat i.toNat = i := by show ((i.toNat : Nat) : Int) = i; omega
        rw [eii]
      · have hv : z_i32 (z_cv a i) := by
          have hlen : z_len a = 8 := by
            simp only [z_cons, List.mem_cons, List.not_mem_nil, or_false] at hc
            rcases hc with rfl | rfl | rfl
            · rfl
            · rfl
            · exact absurd hk (by decide)
          rw [hlen] at h1
          have h8 : i < 8 := h1
          simp only [z_cons, List.mem_cons, List.not_mem_nil, or_false] at hc
          have hj : i = 0 ∨ i = 1 ∨ i = 2 ∨ i = 3 ∨ i = 4 ∨ i = 5 ∨ i = 6 ∨ i = 7 := by omega
          rcases hc with rfl | rfl | rfl
          · rcases hj with rfl | rfl | rfl | rfl | rfl | rfl | rfl | rfl <;> exact ⟨by decide, by decide⟩
          · rcases hj with rfl | rfl | rfl | rfl | rfl | rfl | rfl | rfl <;> exact ⟨by decide, by decide⟩
          · exact absurd hk (by decide)
        exact hK _ _ _ _ h p l e R CC SS s m args below meth c cx _ _ ls F ⟨hP, hD, hS, hMR, hl, hLn, hL, List.forall_mem_cons.mpr ⟨hv, vr⟩⟩
    next => exact h.elim
theorem z_s_caload (hd : decode t.2.1 pc = .ok (.caload, 1)) (hK : ∀ pc L S M, K pc L S M → z_G w d t pc L S M Q) (h : z_pri S fun a i r => z_cald a i fun x => K (pc + 1) L (z_I x :: r) M) : z_G w d t pc L S M Q := by
  replace h := z_pri_inv h
  obtain ⟨a, i, r, rfl, h⟩ := h
  intro p l e R CC SS s m args below meth c cx H locs ls F C
  obtain ⟨hx, hb, hr, hml, hown, hts, hlk, hKk, hSt, hRm⟩ := id F
  obtain ⟨hP, hD, hS, hMR, hl, hLn, hL, hSk⟩ := id C
  have vi : z_i32 i := hSk (z_I i) (by simp)
  have va : z_vok w (z_R a) := hSk (z_R a) (by simp)
  have vr : ∀ v ∈ r, z_vok w v := fun v hv => hSk v (by simp [hv])
  show W p l e R s m args below meth c H locs CC SS _ (F0 m pc ls (.int (Int32.ofInt i) :: .ref (cx.2.2 a) :: r.map (z_v cx.2.2)))
  unfold z_cald at h
  split at h
  next hk =>
      obtain ⟨h0, h1, h⟩ := h
      have hc : a ∈ z_cons := by
        rcases va with q | q
        · have := z_all_knd a (z_ids_all w a q)
          omega
        · exact q
      have hT := (hSt.1 a hc).2
      rw [if_neg (by omega)] at hT
      refine va_tc (v := .int (Int32.ofInt (z_cv a i))) hx hb hT hS (z_inb vi h0 h1) ?_ hd ?_
      · rw [z_clamp vi]
        have eii : Int.ofNat i.toNat = i := by show ((i.toNat : Nat) : Int) = i; omega
        rw [eii]
      · have hv : z_i32 (z_cv a i) := by
          have hlen : z_len a = 6 := by
            simp only [z_cons, List.mem_cons, List.not_mem_nil, or_false] at hc
            rcases hc with rfl | rfl | rfl
            · exact absurd hk (by decide)
            · exact absurd hk (by decide)
            · rfl
          rw [hlen] at h1
          have h8 : i < 6 := h1
          simp only [z_cons, List.mem_cons, List.not_mem_nil, or_false] at hc
          have hj : i = 0 ∨ i = 1 ∨ i = 2 ∨ i = 3 ∨ i = 4 ∨ i = 5 := by omega
          rcases hc with rfl | rfl | rfl
          · exact absurd hk (by decide)
          · exact absurd hk (by decide)
          · rcases hj with rfl | rfl | rfl | rfl | rfl | rfl <;> exact ⟨by decide, by decide⟩
        exact hK _ _ _ _ h p l e R CC SS s m args below meth c cx _ _ ls F ⟨hP, hD, hS, hMR, hl, hLn, hL, List.forall_mem_cons.mpr ⟨hv, vr⟩⟩
  next => exact h.elim
theorem z_s_baload (hd : decode t.2.1 pc = .ok (.baload, 1)) (hK : ∀ pc L S M, K pc L S M → z_G w d t pc L S M Q) (h : z_pri S fun a i r => z_bald a i M fun x => K (pc + 1) L (z_I x :: r) M) : z_G w d t pc L S M Q := by
  replace h := z_pri_inv h
  obtain ⟨a, i, r, rfl, h⟩ := h
  intro p l e R CC SS s m args below meth c cx H locs ls F C
  obtain ⟨hx, hb, hr, hml, hown, hts, hlk, hKk, hSt, hRm⟩ := id F
  obtain ⟨hP, hD, hS, hMR, hl, hLn, hL, hSk⟩ := id C
  have vi : z_i32 i := hSk (z_I i) (by simp)
  have va : z_vok w (z_R a) := hSk (z_R a) (by simp)
  have vr : ∀ v ∈ r, z_vok w v := fun v hv => hSk v (by simp [hv])
  show W p l e R s m args below meth c H locs CC SS _ (F0 m pc ls (.int (Int32.ofInt i) :: .ref (cx.2.2 a) :: r.map (z_v cx.2.2)))
  unfold z_bald at h
  split at h
  next hk =>
    obtain ⟨h0, h1, h⟩ := h
    have hin := z_live va (by omega) (by omega)
    obtain ⟨q0, -, hq⟩ := z_ws_at hin cx M
    rw [z_cell_arr (by omega) (by omega), hk] at hq
    refine va_zald hx hb hKk hP q0 3 hq rfl (z_inb vi h0 h1) hd ?_
    rw [z_clamp vi]
    have eii : Int.ofNat i.toNat = i := by show ((i.toNat : Nat) : Int) = i; omega
    rw [eii]
    have := hMR a hin i h0 (Or.inl h1)
    rw [if_neg (by omega)] at this
    exact hK _ _ _ _ h p l e R CC SS s m args below meth c cx _ _ ls F ⟨hP, hD, hS, hMR, hl, hLn, hL, List.forall_mem_cons.mpr ⟨this, vr⟩⟩
  next hk1 =>
    split at h
    next hk =>
      obtain ⟨h0, h1, h⟩ := h
      have hin := z_live va (by omega) (by omega)
      obtain ⟨q0, -, hq⟩ := z_ws_at hin cx M
      rw [z_cell_arr (by omega) (by omega), hk] at hq
      refine va_bald hx hb hKk hP q0 2 hq rfl (z_inb vi h0 h1) hd ?_
      rw [z_clamp vi]
      have eii : Int.ofNat i.toNat = i := by show ((i.toNat : Nat) : Int) = i; omega
      rw [eii]
      have := hMR a hin i h0 (Or.inl h1)
      rw [if_neg (by omega)] at this
      exact hK _ _ _ _ h p l e R CC SS s m args below meth c cx _ _ ls F ⟨hP, hD, hS, hMR, hl, hLn, hL, List.forall_mem_cons.mpr ⟨this, vr⟩⟩
    next => exact h.elim
theorem z_s_laload (hd : decode t.2.1 pc = .ok (.laload, 1)) (hK : ∀ pc L S M, K pc L S M → z_G w d t pc L S M Q) (h : z_pri S fun a i r => z_lald a i M fun x => K (pc + 1) L (z_J x :: r) M) : z_G w d t pc L S M Q := by
  replace h := z_pri_inv h
  obtain ⟨a, i, r, rfl, h⟩ := h
  intro p l e R CC SS s m args below meth c cx H locs ls F C
  obtain ⟨hx, hb, hr, hml, hown, hts, hlk, hKk, hSt, hRm⟩ := id F
  obtain ⟨hP, hD, hS, hMR, hl, hLn, hL, hSk⟩ := id C
  have vi : z_i32 i := hSk (z_I i) (by simp)
  have va : z_vok w (z_R a) := hSk (z_R a) (by simp)
  have vr : ∀ v ∈ r, z_vok w v := fun v hv => hSk v (by simp [hv])
  show W p l e R s m args below meth c H locs CC SS _ (F0 m pc ls (.int (Int32.ofInt i) :: .ref (cx.2.2 a) :: r.map (z_v cx.2.2)))
  unfold z_lald at h
  split at h
  next hk =>
    obtain ⟨h0, h1, h⟩ := h
    have hin := z_live va (by omega) (by omega)
    obtain ⟨q0, -, hq⟩ := z_ws_at hin cx M
    rw [z_cell_long hk] at hq
    refine va_lald hx hb hKk hP q0 1 hq rfl (z_inb vi h0 h1) hd ?_
    rw [z_clamp vi]
    have eii : Int.ofNat i.toNat = i := by show ((i.toNat : Nat) : Int) = i; omega
    rw [eii]
    have := hMR a hin i h0 (Or.inl h1)
    rw [if_pos hk] at this
    exact hK _ _ _ _ h p l e R CC SS s m args below meth c cx _ _ ls F ⟨hP, hD, hS, hMR, hl, hLn, hL, List.forall_mem_cons.mpr ⟨this, vr⟩⟩
  next => exact h.elim
theorem z_s_iastore (hd : decode t.2.1 pc = .ok (.iastore, 1)) (hK : ∀ pc L S M, K pc L S M → z_G w d t pc L S M Q) (h : z_prii S fun a i x r => z_iast a i x M fun M' => K (pc + 1) L r M') : z_G w d t pc L S M Q := by
  replace h := z_prii_inv h
  obtain ⟨a, i, x, r, rfl, h⟩ := h
  intro p l e R CC SS s m args below meth c cx H locs ls F C
  obtain ⟨hx, hb, hr, hml, hown, hts, hlk, hKk, hSt, hRm⟩ := id F
  obtain ⟨hP, hD, hS, hMR, hl, hLn, hL, hSk⟩ := id C
  have vi : z_i32 i := hSk (z_I i) (by simp)
  have vx : z_i32 x := hSk (z_I x) (by simp)
  have va : z_vok w (z_R a) := hSk (z_R a) (by simp)
  have vr : ∀ v ∈ r, z_vok w v := fun v hv => hSk v (by simp [hv])
  show W p l e R s m args below meth c H locs CC SS _ (F0 m pc ls (.int (Int32.ofInt x) :: .int (Int32.ofInt i) :: .ref (cx.2.2 a) :: r.map (z_v cx.2.2)))
  unfold z_iast at h
  split at h
  next hk =>
    obtain ⟨h0, h1, h⟩ := h
    have hin := z_live va (by omega) (by omega)
    obtain ⟨q0, hq0, hq⟩ := z_ws_at hin cx M
    rw [z_cell_arr (by omega) (by omega), hk] at hq
    refine va_iast hx hb hKk hP hD hS q0 0 hq rfl (z_inb vi h0 h1) hd (fun H1 locs1 hP1 hD1 hS1 => ?_)
    rw [z_clamp vi, z_i_upd h0] at hP1 hD1
    have ews := z_ws_set (cx := cx) (M := M) (M' := z_up M a i x) hq0 (by rw [z_cell_arr (by omega) (by omega), hk]) (fun k' hne => z_cell_off (z_up_off hne))
    rw [ews] at hP1 hD1
    exact hK _ _ _ _ h p l e R CC SS s m args below meth c cx _ _ ls F ⟨hP1, hD1, hS1, z_MR_up hMR (by rw [if_neg (by omega)]; exact vx), hl, hLn, hL, vr⟩
  next => exact h.elim
theorem z_s_bastore (hd : decode t.2.1 pc = .ok (.bastore, 1)) (hK : ∀ pc L S M, K pc L S M → z_G w d t pc L S M Q) (h : z_prii S fun a i x r => z_bast a i x M fun M' => K (pc + 1) L r M') : z_G w d t pc L S M Q := by
  replace h := z_prii_inv h
  obtain ⟨a, i, x, r, rfl, h⟩ := h
  intro p l e R CC SS s m args below meth c cx H locs ls F C
  obtain ⟨hx, hb, hr, hml, hown, hts, hlk, hKk, hSt, hRm⟩ := id F
  obtain ⟨hP, hD, hS, hMR, hl, hLn, hL, hSk⟩ := id C
  have vi : z_i32 i := hSk (z_I i) (by simp)
  have vx : z_i32 x := hSk (z_I x) (by simp)
  have va : z_vok w (z_R a) := hSk (z_R a) (by simp)
  have vr : ∀ v ∈ r, z_vok w v := fun v hv => hSk v (by simp [hv])
  show W p l e R s m args below meth c H locs CC SS _ (F0 m pc ls (.int (Int32.ofInt x) :: .int (Int32.ofInt i) :: .ref (cx.2.2 a) :: r.map (z_v cx.2.2)))
  unfold z_bast at h
  split at h
  next hk =>
    obtain ⟨h0, h1, h⟩ := h
    obtain ⟨hb2, h⟩ := z_bl_inv h
    have hin := z_live va (by omega) (by omega)
    obtain ⟨q0, hq0, hq⟩ := z_ws_at hin cx M
    rw [z_cell_arr (by omega) (by omega), hk] at hq
    have hnar : vp_nar .boolean (Int32.ofInt x) = Int32.ofInt x := by
      rcases hb2 with rfl | rfl <;> rfl
    refine va_zast hx hb hKk hP hD hS q0 3 hq rfl (z_inb vi h0 h1) hd (fun H1 locs1 hP1 hD1 hS1 => ?_)
    rw [hnar, z_clamp vi, z_i_upd h0] at hP1 hD1
    have ews := z_ws_set (cx := cx) (M := M) (M' := z_up M a i x) hq0 (by rw [z_cell_arr (by omega) (by omega), hk]) (fun k' hne => z_cell_off (z_up_off hne))
    rw [ews] at hP1 hD1
    exact hK _ _ _ _ h p l e R CC SS s m args below meth c cx _ _ ls F ⟨hP1, hD1, hS1, z_MR_up hMR (by rw [if_neg (by omega)]; exact vx), hl, hLn, hL, vr⟩
  next hk1 =>
    split at h
    next hk =>
      obtain ⟨h0, h1, h⟩ := h
      have hin := z_live va (by omega) (by omega)
      obtain ⟨q0, hq0, hq⟩ := z_ws_at hin cx M
      rw [z_cell_arr (by omega) (by omega), hk] at hq
      have hnar : vp_nar .byte (Int32.ofInt x) = Int32.ofInt (z_wb x) := by rw [vp_nar_byte, z_i2b vx]
      refine va_bast hx hb hKk hP hD hS q0 2 hq rfl (z_inb vi h0 h1) hd (fun H1 locs1 hP1 hD1 hS1 => ?_)
      rw [hnar, z_clamp vi, z_i_upd h0] at hP1 hD1
      have ews := z_ws_set (cx := cx) (M := M) (M' := z_up M a i (z_wb x)) hq0 (by rw [z_cell_arr (by omega) (by omega), hk]) (fun k' hne => z_cell_off (z_up_off hne))
      rw [ews] at hP1 hD1
      exact hK _ _ _ _ h p l e R CC SS s m args below meth c cx _ _ ls F ⟨hP1, hD1, hS1, z_MR_up hMR (by rw [if_neg (by omega)]; exact z_wb_in x), hl, hLn, hL, vr⟩
    next => exact h.elim
theorem z_s_lastore (hd : decode t.2.1 pc = .ok (.lastore, 1)) (hK : ∀ pc L S M, K pc L S M → z_G w d t pc L S M Q) (h : z_prl S fun a i x r => z_last a i x M fun M' => K (pc + 1) L r M') : z_G w d t pc L S M Q := by
  replace h := z_prl_inv h
  obtain ⟨a, i, x, r, rfl, h⟩ := h
  intro p l e R CC SS s m args below meth c cx H locs ls F C
  obtain ⟨hx, hb, hr, hml, hown, hts, hlk, hKk, hSt, hRm⟩ := id F
  obtain ⟨hP, hD, hS, hMR, hl, hLn, hL, hSk⟩ := id C
  have vi : z_i32 i := hSk (z_I i) (by simp)
  have vx : z_i64 x := hSk (z_J x) (by simp)
  have va : z_vok w (z_R a) := hSk (z_R a) (by simp)
  have vr : ∀ v ∈ r, z_vok w v := fun v hv => hSk v (by simp [hv])
  show W p l e R s m args below meth c H locs CC SS _ (F0 m pc ls (.long (Int64.ofInt x) :: .int (Int32.ofInt i) :: .ref (cx.2.2 a) :: r.map (z_v cx.2.2)))
  unfold z_last at h
  split at h
  next hk =>
    obtain ⟨h0, h1, h⟩ := h
    have hin := z_live va (by omega) (by omega)
    obtain ⟨q0, hq0, hq⟩ := z_ws_at hin cx M
    rw [z_cell_long hk] at hq
    refine va_last hx hb hKk hP hD hS q0 1 hq rfl (z_inb vi h0 h1) hd (fun H1 locs1 hP1 hD1 hS1 => ?_)
    rw [z_clamp vi, z_l_upd h0] at hP1 hD1
    have ews := z_ws_set (cx := cx) (M := M) (M' := z_up M a i x) hq0 (by rw [z_cell_long hk]) (fun k' hne => z_cell_off (z_up_off hne))
    rw [ews] at hP1 hD1
    exact hK _ _ _ _ h p l e R CC SS s m args below meth c cx _ _ ls F ⟨hP1, hD1, hS1, z_MR_up hMR (by rw [if_pos hk]; exact vx), hl, hLn, hL, vr⟩
  next => exact h.elim
theorem z_s_arraylength (hd : decode t.2.1 pc = .ok (.arraylength, 1)) (hK : ∀ pc L S M, K pc L S M → z_G w d t pc L S M Q) (h : z_pr S fun a r => if z_knd a = 0 then False else K (pc + 1) L (z_I (Int.ofNat (z_len a)) :: r) M) : z_G w d t pc L S M Q := by
  replace h := z_pr_inv h
  obtain ⟨a, r, rfl, h⟩ := h
  intro p l e R CC SS s m args below meth c cx H locs ls F C
  obtain ⟨hx, hb, hr, hml, hown, hts, hlk, hKk, hSt, hRm⟩ := id F
  obtain ⟨hP, hD, hS, hMR, hl, hLn, hL, hSk⟩ := id C
  have va : z_vok w (z_R a) := hSk (z_R a) (by simp)
  have vr : ∀ v ∈ r, z_vok w v := fun v hv => hSk v (by simp [hv])
  show W p l e R s m args below meth c H locs CC SS _ (F0 m pc ls (.ref (cx.2.2 a) :: r.map (z_v cx.2.2)))
  split at h
  next => exact h.elim
  next hk0 =>
    rcases va with hin | hc
    · have hkk := z_all_knd a (z_ids_all w a hin)
      have hlen := z_all_len a (z_ids_all w a hin)
      have vl : z_i32 (Int.ofNat (z_len a)) := ⟨by have : Int.ofNat (z_len a) = (z_len a : Int) := rfl; omega, by have : Int.ofNat (z_len a) = (z_len a : Int) := rfl; omega⟩
      obtain ⟨q0, -, hq⟩ := z_ws_at hin cx M
      by_cases h2 : z_knd a = 2
      · rw [z_cell_long h2] at hq
        refine va_alen (v := Int32.ofInt (Int.ofNat (z_len a))) hx hb hKk hP q0 1 hq rfl rfl hd ?_
        exact hK _ _ _ _ h p l e R CC SS s m args below meth c cx _ _ ls F ⟨hP, hD, hS, hMR, hl, hLn, hL, List.forall_mem_cons.mpr ⟨vl, vr⟩⟩
      · rw [z_cell_arr hk0 h2] at hq
        obtain ⟨t0, ht0⟩ := z_kind_ty (cx := cx) (k := z_knd a) (by omega)
        refine va_alen (v := Int32.ofInt (Int.ofNat (z_len a))) hx hb hKk hP q0 t0 hq ht0 rfl hd ?_
        exact hK _ _ _ _ h p l e R CC SS s m args below meth c cx _ _ ls F ⟨hP, hD, hS, hMR, hl, hLn, hL, List.forall_mem_cons.mpr ⟨vl, vr⟩⟩
    · have hT := (hSt.1 a hc).2
      have vl : z_i32 (Int.ofNat (z_len a)) := by
        simp only [z_cons, List.mem_cons, List.not_mem_nil, or_false] at hc
        rcases hc with rfl | rfl | rfl <;> exact ⟨by decide, by decide⟩
      refine va_tlen (v := Int32.ofInt (Int.ofNat (z_len a))) hx hb hT hS rfl hd ?_
      exact hK _ _ _ _ h p l e R CC SS s m args below meth c cx _ _ ls F ⟨hP, hD, hS, hMR, hl, hLn, hL, List.forall_mem_cons.mpr ⟨vl, vr⟩⟩

theorem z_chkF_inv {own : String} {ix j o : Nat} {lk : Nat × Nat} {P : String × String × String × Bool → Bool} (h : z_chkF own ix j o lk P = true) : ∃ q : vw_C, z_cl[z_cix o]? = some q ∧ j < q.2.2 ∧ Cond.fieldLink own ix (q.2.1 j).1 (q.2.1 j).2.1 (q.2.1 j).2.2.1 ∈ z_ts ∧ z_knd o = 0 ∧ o ∈ z_all ∧ P (q.2.1 j) = true := by
  unfold z_chkF at h
  split at h
  next q hq =>
    simp only [Bool.and_eq_true] at h
    obtain ⟨h1, h2, h3, h4, h5⟩ := h
    exact ⟨q, by rw [← z_nth_eq]; exact hq, Nat.le_of_ble_eq_true h1, z_wd_in h2, Nat.eq_of_beq_eq_true h3, z_mem_of h4, h5⟩
  next => cases h
theorem z_s_getfield {ix x1 x2 x3 : Nat} {lk : Nat × Nat} (hd : decode t.2.1 pc = .ok (.getfield ix, 3)) (hc : z_chkF t.1.cls ix x1 x2 lk (fun f => decide (z_nth (z_fts x2) x1 = some x3) && ((Nat.beq x3 0 && (decide (f.2.2.1 = "I") || decide (f.2.2.1 = "Z"))) || (! Nat.beq x3 0 && z_all.contains x3))) = true) (hK : ∀ pc L S M, K pc L S M → z_G w d t pc L S M Q) (h : z_pr S fun a r => z_get w a x2 x1 x3 M fun v => K (pc + 3) L (v :: r) M) : z_G w d t pc L S M Q := by
  replace h := z_pr_inv h
  obtain ⟨a, r, rfl, h⟩ := h
  obtain ⟨q, hcl, hj, hwd, hkn, hall, hPP⟩ := z_chkF_inv hc
  simp only [Bool.and_eq_true, Bool.or_eq_true, Bool.not_eq_true', decide_eq_true_eq] at hPP
  obtain ⟨hft, hPP⟩ := hPP
  intro p l e R CC SS s m args below meth c cx H locs ls F C
  obtain ⟨hx, hb, hr, hml, hown, hts, hlk, hKk, hSt, hRm⟩ := id F
  obtain ⟨hP, hD, hS, hMR, hl, hLn, hL, hSk⟩ := id C
  have va : z_vok w (z_R a) := hSk (z_R a) (by simp)
  have vr : ∀ v ∈ r, z_vok w v := fun v hv => hSk v (by simp [hv])
  show W p l e R s m args below meth c H locs CC SS _ (F0 m pc ls (.ref (cx.2.2 a) :: r.map (z_v cx.2.2)))
  unfold z_get at h
  split at h
  next ha =>
    subst ha
    have hin := z_live va (by omega) (by omega)
    obtain ⟨q0, -, hq⟩ := z_ws_at hin cx M
    rw [z_cell_obj hkn] at hq
    refine va_get (own := t.1.cls) (ref := (q.2.1 x1).1) (C := q.1) (T := q.2.1) (N := q.2.2) hx hb hts (z_cl_ws q (List.mem_of_getElem? hcl)) hown hKk hP q0 hq hcl x1 hj (hts _ hwd) (fun _ z => z) (z_flds_at hft) hd ?_
    split at h
    next h0 =>
      have hm := hMR a hin (Int.ofNat x1) (Int.natCast_nonneg _) (Or.inr hkn)
      rw [if_neg (by omega)] at hm
      have efe : z_fld cx M a (x3, x1) = z_v cx.2.2 (z_I (M a (Int.ofNat x1))) := by unfold z_fld; rw [if_pos h0]; rfl
      rw [efe]
      exact hK _ _ _ _ h p l e R CC SS s m args below meth c cx _ _ ls F ⟨hP, hD, hS, hMR, hl, hLn, hL, List.forall_mem_cons.mpr ⟨hm, vr⟩⟩
    next h0 =>
      split at h
      next hlv =>
        have efe : z_fld cx M a (x3, x1) = z_v cx.2.2 (z_R x3) := by unfold z_fld; rw [if_neg h0]; rfl
        rw [efe]
        have hx3 : z_vok w (z_R x3) := by
          refine Or.inl ?_
          match w, hlv with
          | 0, _ =>
            rcases hPP with z | z
            · exact absurd (Nat.eq_of_beq_eq_true z.1) h0
            · exact z_mem_of z.2
          | w + 1, hlv => exact z_mem_of hlv
        exact hK _ _ _ _ h p l e R CC SS s m args below meth c cx _ _ ls F ⟨hP, hD, hS, hMR, hl, hLn, hL, List.forall_mem_cons.mpr ⟨hx3, vr⟩⟩
      next => exact h.elim
  next => exact h.elim
theorem z_s_putfield {ix x1 x2 x3 : Nat} {lk : Nat × Nat} (hd : decode t.2.1 pc = .ok (.putfield ix, 3)) (hc : z_chkF t.1.cls ix x1 x2 lk (fun f => decide (z_nth (z_fts x2) x1 = some 0) && (! f.2.2.2 && ((Nat.beq x3 0 && decide (f.2.2.1 = "I")) || (Nat.beq x3 1 && decide (f.2.2.1 = "Z"))))) = true) (hK : ∀ pc L S M, K pc L S M → z_G w d t pc L S M Q) (h : z_pri S fun a x r => z_put a x2 x1 x3 x M fun M' => K (pc + 3) L r M') : z_G w d t pc L S M Q := by
  replace h := z_pri_inv h
  obtain ⟨a, x, r, rfl, h⟩ := h
  obtain ⟨q, hcl, hj, hwd, hkn, hall, hPP⟩ := z_chkF_inv hc
  simp only [Bool.and_eq_true, Bool.or_eq_true, Bool.not_eq_true', decide_eq_true_eq] at hPP
  obtain ⟨hft, hfin, hPP⟩ := hPP
  intro p l e R CC SS s m args below meth c cx H locs ls F C
  obtain ⟨hx, hb, hr, hml, hown, hts, hlk, hKk, hSt, hRm⟩ := id F
  obtain ⟨hP, hD, hS, hMR, hl, hLn, hL, hSk⟩ := id C
  have vx : z_i32 x := hSk (z_I x) (by simp)
  have va : z_vok w (z_R a) := hSk (z_R a) (by simp)
  have vr : ∀ v ∈ r, z_vok w v := fun v hv => hSk v (by simp [hv])
  show W p l e R s m args below meth c H locs CC SS _ (F0 m pc ls (.int (Int32.ofInt x) :: .ref (cx.2.2 a) :: r.map (z_v cx.2.2)))
  have hq0mem := List.mem_of_getElem? hcl
  unfold z_put at h
  split at h
  next ha =>
    subst ha
    have hin := z_live va (by omega) (by omega)
    obtain ⟨q0, hq0, hq⟩ := z_ws_at hin cx M
    rw [z_cell_obj hkn] at hq
    have hlen : x1 < (z_flds cx M a).length := (List.getElem?_eq_some_iff.mp (z_flds_at (cx := cx) (M := M) hft)).1
    have go : ∀ (ty : FieldType), parseFieldDescriptor (q.2.1 x1).2.2.1 = some ty → narrow ty (.int (Int32.ofInt x)) = .int (Int32.ofInt x) → fits ty (.int (Int32.ofInt x)) = true → K (pc + 3) L r (z_up M a (Int.ofNat x1) x) → W p l e R s m args below meth c H locs CC SS (MQ below (z_Q w cx (z_A w cx s.heap.size) t.2.2.2.1 Q) args s CC SS (z_A w cx s.heap.size)) (F0 m pc ls (.int (Int32.ofInt x) :: .ref (cx.2.2 a) :: r.map (z_v cx.2.2))) := by
      intro ty e1 e2 e3 h
      refine va_put (own := t.1.cls) (ref := (q.2.1 x1).1) (C := q.1) (T := q.2.1) (N := q.2.2) hx hb hts (z_cl_ws q hq0mem) _ (z_cl_ty q hq0mem) (z_cl_nm q hq0mem) hown hKk hP hD hS q0 hq hcl x1 hj (hts _ hwd) (fun _ z => z) hfin e1 e2 e3 hlen hd (fun H1 locs1 hP1 hD1 hS1 => ?_)
      rw [z_flds_set hft] at hP1 hD1
      have ews := z_ws_set (cx := cx) (M := M) (M' := z_up M a (Int.ofNat x1) x) hq0 (by rw [z_cell_obj hkn]) (fun k' hne => z_cell_off (z_up_off hne))
      rw [ews] at hP1 hD1
      exact hK _ _ _ _ h p l e R CC SS s m args below meth c cx _ _ ls F ⟨hP1, hD1, hS1, z_MR_up hMR (by rw [if_neg (by omega)]; exact vx), hl, hLn, hL, vr⟩
    split at h
    next h0 =>
      have hdesc : (q.2.1 x1).2.2.1 = "I" := by
        rcases hPP with z | z
        · exact z.2
        · have := Nat.eq_of_beq_eq_true z.1
          omega
      exact go .int (by rw [hdesc]; decide +kernel) rfl rfl h
    next h0 =>
      split at h
      next h1 =>
        obtain ⟨hb2, h⟩ := z_bl_inv h
        have hdesc : (q.2.1 x1).2.2.1 = "Z" := by
          rcases hPP with z | z
          · have := Nat.eq_of_beq_eq_true z.1
            omega
          · exact z.2
        refine go .boolean (by rw [hdesc]; decide +kernel) ?_ ?_ h
        · rcases hb2 with rfl | rfl <;> rfl
        · rcases hb2 with rfl | rfl <;> rfl
      next => exact h.elim
  next => exact h.elim
theorem z_s_getstatic {ix x1 : Nat} {lk : Nat × Nat} (hd : decode t.2.1 pc = .ok (.getstatic ix, 3)) (hc : (z_cons.contains x1 && z_wd lk (.fieldLink t.1.cls ix (z_sn x1).1 (z_sn x1).2.1 (z_sn x1).2.2)) = true) (hK : ∀ pc L S M, K pc L S M → z_G w d t pc L S M Q) (h : K (pc + 3) L (z_R x1 :: S) M) : z_G w d t pc L S M Q := by
  rw [Bool.and_eq_true] at hc
  intro p l e R CC SS s m args below meth c cx H locs ls F C
  obtain ⟨hx, hb, hr, hml, hown, hts, hlk, hKk, hSt, hRm⟩ := id F
  obtain ⟨hP, hD, hS, hMR, hl, hLn, hL, hSk⟩ := id C
  have hZ := (hSt.1 x1 (z_mem_of hc.1)).1
  refine va_gets hx hb hZ hS hown (hts _ (z_wd_in hc.2)) (fun _ z => z) hd ?_
  exact hK _ _ _ _ h p l e R CC SS s m args below meth c cx _ _ ls F ⟨hP, hD, hS, hMR, hl, hLn, hL, List.forall_mem_cons.mpr ⟨Or.inr (z_mem_of hc.1), hSk⟩⟩
theorem z_s_ldc_w {ix x1 : Nat} {lk : Nat × Nat} (hd : decode t.2.1 pc = .ok (.ldc_w ix, 3)) (hc : (Nat.blt x1 2147483648 && z_wd lk (.constant t.1.cls ix (Int32.ofInt (Int.ofNat x1)))) = true) (hK : ∀ pc L S M, K pc L S M → z_G w d t pc L S M Q) (h : K (pc + 3) L (z_I (Int.ofNat x1) :: S) M) : z_G w d t pc L S M Q := by
  rw [Bool.and_eq_true] at hc
  intro p l e R CC SS s m args below meth c cx H locs ls F C
  obtain ⟨hx, hb, hr, hml, hown, hts, hlk, hKk, hSt, hRm⟩ := id F
  obtain ⟨hP, hD, hS, hMR, hl, hLn, hL, hSk⟩ := id C
  have hlt : x1 < 2147483648 := Nat.le_of_ble_eq_true hc.1
  refine lv_ldcw hx hb hown (hts _ (z_wd_in hc.2)) hd ?_
  exact hK _ _ _ _ h p l e R CC SS s m args below meth c cx _ _ ls F ⟨hP, hD, hS, hMR, hl, hLn, hL, List.forall_mem_cons.mpr ⟨⟨by have : Int.ofNat x1 = (x1 : Int) := rfl; omega, by have : Int.ofNat x1 = (x1 : Int) := rfl; omega⟩, hSk⟩⟩
theorem z_s_ldc2_w {ix x1 x2 : Nat} {lk : Nat × Nat} (hd : decode t.2.1 pc = .ok (.ldc2_w ix, 3)) (hc : (Nat.blt x1 9223372036854775808 && (if x2 = 0 then z_wd lk (.constantLong t.1.cls ix (Int64.ofInt (Int.ofNat x1))) else z_wd lk (.constantLong t.1.cls ix (Int64.ofInt (-(Int.ofNat x1)))))) = true) (hK : ∀ pc L S M, K pc L S M → z_G w d t pc L S M Q) (h : if x2 = 0 then K (pc + 3) L (z_J (Int.ofNat x1) :: S) M else K (pc + 3) L (z_J (-(Int.ofNat x1)) :: S) M) : z_G w d t pc L S M Q := by
  rw [Bool.and_eq_true] at hc
  intro p l e R CC SS s m args below meth c cx H locs ls F C
  obtain ⟨hx, hb, hr, hml, hown, hts, hlk, hKk, hSt, hRm⟩ := id F
  obtain ⟨hP, hD, hS, hMR, hl, hLn, hL, hSk⟩ := id C
  have hlt : x1 < 9223372036854775808 := Nat.le_of_ble_eq_true hc.1
  have e0 : Int.ofNat x1 = (x1 : Int) := rfl
  split at h
  next h0 =>
    have hw := hc.2
    rw [if_pos h0] at hw
    refine lv_ldc2 hx hb hown (hts _ (z_wd_in hw)) hd ?_
    exact hK _ _ _ _ h p l e R CC SS s m args below meth c cx _ _ ls F ⟨hP, hD, hS, hMR, hl, hLn, hL, List.forall_mem_cons.mpr ⟨⟨by omega, by omega⟩, hSk⟩⟩
  next h0 =>
    have hw := hc.2
    rw [if_neg h0] at hw
    refine lv_ldc2 hx hb hown (hts _ (z_wd_in hw)) hd ?_
    exact hK _ _ _ _ h p l e R CC SS s m args below meth c cx _ _ ls F ⟨hP, hD, hS, hMR, hl, hLn, hL, List.forall_mem_cons.mpr ⟨⟨by omega, by omega⟩, hSk⟩⟩
theorem z_s_ireturn {x1 : Nat} (hd : decode t.2.1 pc = .ok (.ireturn, 1)) (hc : ((Nat.beq x1 0 && decide (t.2.2.2.1 = some .int)) || (Nat.beq x1 1 && decide (t.2.2.2.1 = some .boolean))) = true) (h : z_p1 S fun x r => if r = [] then (if x1 = 1 then z_bl x (Q (z_I x) M) else Q (z_I x) M) else False) : z_G w d t pc L S M Q := by
  replace h := z_p1_inv h
  obtain ⟨x, r, rfl, h⟩ := h
  intro p l e R CC SS s m args below meth c cx H locs ls F C
  obtain ⟨hx, hb, hr, hml, hown, hts, hlk, hKk, hSt, hRm⟩ := id F
  obtain ⟨hP, hD, hS, hMR, hl, hLn, hL, hSk⟩ := id C
  have vx : z_i32 x := hSk (z_I x) (by simp)
  split at h
  next hr0 =>
    subst hr0
    show W p l e R s m args below meth c H locs CC SS _ (F0 m pc ls [.int (Int32.ofInt x)])
    simp only [Bool.and_eq_true, Bool.or_eq_true, decide_eq_true_eq] at hc
    rcases hc with ⟨z1, z2⟩ | ⟨z1, z2⟩
    · have e1 := Nat.eq_of_beq_eq_true z1
      rw [if_neg (by omega)] at h
      exact W.iret hx hb (hr.trans z2) (fun u hu _ => ⟨⟨z_I x, M, rfl, (fun q => by rw [z2] at q; cases q), vx, h, by rw [hu]; exact hP, hD, hMR⟩, hS.F hu⟩) hS.2.2 hd hlk
    · have e1 := Nat.eq_of_beq_eq_true z1
      rw [if_pos e1] at h
      replace h := z_bl_inv h
      refine W.zret hx hb (hr.trans z2) ?_ (fun u hu _ => ⟨⟨z_I x, M, rfl, (fun q => by rw [z2] at q; cases q), vx, h.2, by rw [hu]; exact hP, hD, hMR⟩, hS.F hu⟩) hS.2.2 hd hlk
      rcases h.1 with rfl | rfl <;> rfl
  next => exact h.elim
theorem z_s_lreturn (hd : decode t.2.1 pc = .ok (.lreturn, 1)) (hc : decide (t.2.2.2.1 = some .long) = true) (h : z_q1 S fun x r => if r = [] then Q (z_J x) M else False) : z_G w d t pc L S M Q := by
  replace h := z_q1_inv h
  obtain ⟨x, r, rfl, h⟩ := h
  intro p l e R CC SS s m args below meth c cx H locs ls F C
  obtain ⟨hx, hb, hr, hml, hown, hts, hlk, hKk, hSt, hRm⟩ := id F
  obtain ⟨hP, hD, hS, hMR, hl, hLn, hL, hSk⟩ := id C
  have vx : z_i64 x := hSk (z_J x) (by simp)
  have z2 := of_decide_eq_true hc
  split at h
  next hr0 =>
    subst hr0
    show W p l e R s m args below meth c H locs CC SS _ (F0 m pc ls [.long (Int64.ofInt x)])
    exact W.lret hx hb (hr.trans z2) (fun u hu _ => ⟨⟨z_J x, M, rfl, (fun q => by rw [z2] at q; cases q), vx, h, by rw [hu]; exact hP, hD, hMR⟩, hS.F hu⟩) hS.2.2 hd hlk
  next => exact h.elim
theorem z_s_return (hd : decode t.2.1 pc = .ok (.return_, 1)) (hc : decide (t.2.2.2.1 = none) = true) (h : if S = [] then Q z_U M else False) : z_G w d t pc L S M Q := by
  intro p l e R CC SS s m args below meth c cx H locs ls F C
  obtain ⟨hx, hb, hr, hml, hown, hts, hlk, hKk, hSt, hRm⟩ := id F
  obtain ⟨hP, hD, hS, hMR, hl, hLn, hL, hSk⟩ := id C
  have z2 := of_decide_eq_true hc
  split at h
  next hr0 =>
    subst hr0
    show W p l e R s m args below meth c H locs CC SS _ (F0 m pc ls [])
    exact W.vret hx hb (hr.trans z2) (fun u hu _ => ⟨⟨z_U, M, rfl, (fun _ => rfl), trivial, h, by rw [hu]; exact hP, hD, hMR⟩, hS.F hu⟩) hS.2.2 hd hlk
  next => exact h.elim
theorem z_sw_inv {x : Int} {pc : Nat} {K : Nat → Prop} : ∀ {os : List Int} {lo : Int}, z_sw x pc K lo os → ∀ (i : Nat) (o : Int), os[i]? = some o → x = lo + (i : Int) → K (z_tgt pc o) := by
  intro os
  induction os with
  | nil => intro lo _ i o h; cases i <;> cases h
  | cons a t ih =>
    intro lo h i o hi hx
    cases i with
    | zero =>
      have e : a = o := Option.some.inj hi
      subst e
      exact h.1 (by rw [hx]; simp)
    | succ i => exact ih h.2 i o hi (by rw [hx]; omega)
theorem z_s_tableswitch {df lo hi : Int} {os : Array Int} {len : Nat} (hd : decode t.2.1 pc = .ok (.tableswitch df lo hi os, len)) (hc : (decide (0 ≤ (pc : Int) + df) && (os.toList.all (fun o => decide (0 ≤ (pc : Int) + o)) && (decide (hi + 1 - lo = (os.toList.length : Int)) && decide (-2147483648 ≤ lo ∧ hi < 2147483648)))) = true) (hK : ∀ pc L S M, K pc L S M → z_G w d t pc L S M Q) (h : z_p1 S fun x r => z_sw x pc (fun t => K t L r M) lo os.toList ∧ (x < lo ∨ hi < x → K (z_tgt pc df) L r M)) : z_G w d t pc L S M Q := by
  replace h := z_p1_inv h
  obtain ⟨x, r, rfl, h⟩ := h
  simp only [Bool.and_eq_true, decide_eq_true_eq] at hc
  obtain ⟨c1, c2, c3, c4⟩ := hc
  intro p l e R CC SS s m args below meth c cx H locs ls F C
  obtain ⟨hx, hb, hr, hml, hown, hts, hlk, hKk, hSt, hRm⟩ := id F
  obtain ⟨hP, hD, hS, hMR, hl, hLn, hL, hSk⟩ := id C
  have vx : z_i32 x := hSk (z_I x) (by simp)
  have vr : ∀ v ∈ r, z_vok w v := fun v hv => hSk v (by simp [hv])
  show W p l e R s m args below meth c H locs CC SS _ (F0 m pc ls (.int (Int32.ofInt x) :: r.map (z_v cx.2.2)))
  by_cases hin : x < lo ∨ hi < x
  · refine lv_tableOut hx hb hd (by rw [z_nt vx]; exact hin) (z_tgt_eq c1) ?_
    exact hK _ _ _ _ (h.2 hin) p l e R CC SS s m args below meth c cx _ _ ls F ⟨hP, hD, hS, hMR, hl, hLn, hL, vr⟩
  · have hlt : (x - lo).toNat < os.toList.length := by omega
    have ho : os.toList[(x - lo).toNat]? = some (os.toList[(x - lo).toNat]'hlt) := List.getElem?_eq_getElem hlt
    have hpos := List.all_eq_true.mp c2 _ (List.mem_of_getElem? ho)
    refine lv_tableIn hx hb hd (by rw [z_nt vx]; omega) (by rw [z_nt vx]; omega) (by rw [z_nt vx, ← Array.getElem?_toList]; exact ho) (z_tgt_eq (of_decide_eq_true hpos)) ?_
    exact hK _ _ _ _ (z_sw_inv h.1 _ _ ho (by omega)) p l e R CC SS s m args below meth c cx _ _ ls F ⟨hP, hD, hS, hMR, hl, hLn, hL, vr⟩
theorem z_lk_inv {x : Int} {pc df : Nat} {dflt : Int} {K : Nat → Prop} (hdf : z_tgt pc dflt = df) : ∀ {ps : List (Int × Int)}, z_lk x pc K df ps → K (z_tgt pc (Op.lookupswitch.offset ps dflt x)) := by
  intro ps
  induction ps with
  | nil => intro h; show K (z_tgt pc dflt); rw [hdf]; exact h
  | cons a t ih =>
    intro h
    obtain ⟨k, o⟩ := a
    show K (z_tgt pc (if k = x then o else Op.lookupswitch.offset t dflt x))
    by_cases e : k = x
    · rw [if_pos e]; exact h.1 e.symm
    · rw [if_neg e]; exact ih (h.2 (fun q => e q.symm))
theorem z_off_pos {pc : Nat} {dflt x : Int} (h0 : 0 ≤ (pc : Int) + dflt) : ∀ {ps : List (Int × Int)}, (ps.all (fun o => decide (0 ≤ (pc : Int) + o.2))) = true → 0 ≤ (pc : Int) + Op.lookupswitch.offset ps dflt x := by
  intro ps
  induction ps with
  | nil => intro _; exact h0
  | cons a t ih =>
    intro h
    obtain ⟨k, o⟩ := a
    rw [List.all_cons, Bool.and_eq_true] at h
    show 0 ≤ (pc : Int) + (if k = x then o else Op.lookupswitch.offset t dflt x)
    by_cases e : k = x
    · rw [if_pos e]; exact of_decide_eq_true h.1
    · rw [if_neg e]; exact ih h.2
theorem z_s_lookupswitch {df : Int} {ps : Array (Int × Int)} {len : Nat} (hd : decode t.2.1 pc = .ok (.lookupswitch df ps, len)) (hc : (decide (0 ≤ (pc : Int) + df) && (ps.toList.all (fun o => decide (0 ≤ (pc : Int) + o.2)) && (ps.toList.zip (ps.toList.drop 1)).all (fun (a, next) => a.1 < next.1))) = true) (hK : ∀ pc L S M, K pc L S M → z_G w d t pc L S M Q) (h : z_p1 S fun x r => z_lk x pc (fun t => K t L r M) (z_tgt pc df) ps.toList) : z_G w d t pc L S M Q := by
  replace h := z_p1_inv h
  obtain ⟨x, r, rfl, h⟩ := h
  simp only [Bool.and_eq_true] at hc
  obtain ⟨c1, c2, c3⟩ := hc
  intro p l e R CC SS s m args below meth c cx H locs ls F C
  obtain ⟨hx, hb, hr, hml, hown, hts, hlk, hKk, hSt, hRm⟩ := id F
  obtain ⟨hP, hD, hS, hMR, hl, hLn, hL, hSk⟩ := id C
  have vx : z_i32 x := hSk (z_I x) (by simp)
  have vr : ∀ v ∈ r, z_vok w v := fun v hv => hSk v (by simp [hv])
  show W p l e R s m args below meth c H locs CC SS _ (F0 m pc ls (.int (Int32.ofInt x) :: r.map (z_v cx.2.2)))
  refine lv_lookup hx hb hd c3 (by rw [z_nt vx]) (z_tgt_eq (z_off_pos (x := x) (of_decide_eq_true c1) c2)) ?_
  exact hK _ _ _ _ (z_lk_inv rfl h) p l e R CC SS s m args below meth c cx _ _ ls F ⟨hP, hD, hS, hMR, hl, hLn, hL, vr⟩
end ZB

