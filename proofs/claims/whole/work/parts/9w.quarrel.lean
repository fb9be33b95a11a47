/-! OPS: quarrel -/
def zx_ib (v : Int) (j : Nat) : Bool := (Int32.ofInt v).toBitVec.getLsbD j
theorem zx_ib_or (a b : Int) (j : Nat) : zx_ib (z_or a b) j = (zx_ib a j || zx_ib b j) := by
  unfold z_or zx_ib
  rw [Int32.ofInt_toInt, Int32.toBitVec_or, BitVec.getLsbD_or]
theorem zx_ib_and (a b : Int) (j : Nat) : zx_ib (z_and a b) j = (zx_ib a j && zx_ib b j) := by
  unfold z_and zx_ib
  rw [Int32.ofInt_toInt, Int32.toBitVec_and, BitVec.getLsbD_and]
theorem zx_ib_0 (j : Nat) : zx_ib 0 j = false := by
  show (0#32).getLsbD j = false
  exact BitVec.getLsbD_zero
theorem zx_ib_sh {m j : Nat} (hm : m < 32) (hj : j < 32) : zx_ib (z_shl 1 (m : Int)) j = decide (j = m) := by
  have : ∀ a b : Fin 32, zx_ib (z_shl 1 ((a.val : Nat) : Int)) b.val = decide (b.val = a.val) := by decide +kernel
  exact this ⟨m, hm⟩ ⟨j, hj⟩
theorem zx_and0 (a b : Int) : z_and a b = 0 ↔ ∀ j, j < 32 → (zx_ib a j && zx_ib b j) = false := by
  constructor
  · intro h j _
    rw [← zx_ib_and, h, zx_ib_0]
  · intro h
    have e : (Int32.ofInt a &&& Int32.ofInt b) = 0 := by
      apply Int32.toBitVec_inj.mp
      apply BitVec.eq_of_getLsbD_eq
      intro j hj
      rw [Int32.toBitVec_and, BitVec.getLsbD_and]
      have := h j hj
      unfold zx_ib at this
      rw [this]
      exact BitVec.getLsbD_zero.symm
    unfold z_and
    rw [e]; rfl
def zx_fo {α : Type} (f : Nat → α → α) (lo : Nat) (s : α) : Nat → α
  | 0 => s
  | m + 1 => f (lo + m) (zx_fo f lo s m)
theorem zx_lpf {α : Type} (f : Nat → α → α) (lo m : Nat) (s : α) (I : Nat → α → z_M → Prop) (G : z_M → Nat → Prop) (M0 : z_M) (h0 : I lo s M0)
    (step : ∀ (q : Nat) (s' : α) (M' : z_M), lo ≤ q → q < lo + m → I q s' M' → (∀ M'' : z_M, I (q + 1) (f q s') M'' → G M'' (q + 1)) → G M' q)
    (done : ∀ M' : z_M, I (lo + m) (zx_fo f lo s m) M' → G M' (lo + m)) : G M0 lo := by
  have key : ∀ (k q : Nat) (M' : z_M), q + k = m → I (lo + q) (zx_fo f lo s q) M' → G M' (lo + q) := by
    intro k
    induction k with
    | zero => intro q M' e h; rw [show q = m from e] at h ⊢; exact done M' h
    | succ k ih => intro q M' e h; exact step (lo + q) _ M' (by omega) (by omega) h (fun M'' h2 => ih (q + 1) M'' (by omega) h2)
  exact key m 0 M0 (by omega) h0
section ZQUA
variable {S M : z_M} {Q : z_V → z_M → Prop}
def zx_hc (S : z_M) (i j k D : Nat) : Bool := zx_H S i D && zx_H S j D && zx_H S k D
def zx_ap (S : z_M) (i j k : Nat) : Bool := !z_exn (zx_hc S i j k) (2 * zx_R S)
abbrev zx_Z := Int × Int × Int × Int
def zx_qn (S : z_M) (i j k : Nat) (s : zx_Z) : zx_Z := if zx_ap S i j k = true then (if s.1 = 0 then (1, (i : Int), (j : Int), (k : Int)) else (s.1 + 1, s.2)) else s
def zx_lo (b : Bool) (x : Nat) : Nat := if b = true then x + 1 else x
def zx_hi (S : z_M) (b : Bool) (x : Nat) : Nat := if b = true then zx_n S else x + 1
def zx_qK (S : z_M) (m i j : Nat) (s : zx_Z) : zx_Z := zx_fo (fun k s => zx_qn S i j k s) (zx_lo (decide (2 < m)) j) s (zx_hi S (decide (2 < m)) j - zx_lo (decide (2 < m)) j)
def zx_qJ (S : z_M) (m i : Nat) (s : zx_Z) : zx_Z := zx_fo (fun j s => zx_qK S m i j s) (zx_lo (decide (1 < m)) i) s (zx_hi S (decide (1 < m)) i - zx_lo (decide (1 < m)) i)
def zx_qA (S : z_M) (m : Nat) : zx_Z := zx_fo (fun i s => zx_qJ S m i s) 0 (0, 0, 0, 0) (zx_n S)
theorem zx_lohi {b : Bool} {x : Nat} (hx : x < zx_n S) : zx_lo b x + (zx_hi S b x - zx_lo b x) = zx_hi S b x ∧ zx_hi S b x ≤ zx_n S ∧ x ≤ zx_lo b x := by
  unfold zx_lo zx_hi
  cases b
  · rw [if_neg (by decide), if_neg (by decide)]; omega
  · rw [if_pos rfl, if_pos rfl]; omega
theorem kc_neverT (d : Nat) {i j k : Nat} (n40 : zx_n S ≤ 40) (h7 : zx_R S ≤ 729) (hq : zx_dq S M (2 * zx_R S) 0) (hi : i < zx_n S) (hj : j < zx_n S) (hk : k < zx_n S) (h : Q (z_I (zv_b (zx_ap S i j k))) M) : z_Cl 0 d 19 [z_R 8, z_I (i : Int), z_I (j : Int), z_I (k : Int)] M Q := by
  unfold zx_ap at h
  refine re_19 d ?_
  refine z_lpi (n := 23) (fun _ => ()) (fun w N => N = M ∧ ∀ D, D < 64 * w → D < 2 * zx_R S → zx_hc S i j k D = false) (fun N _ q => z_G 0 d z_m19 3 [z_R 8, z_I (i : Int), z_I (j : Int), z_I (k : Int), z_I q] [] N Q) M ⟨rfl, fun D c => absurd c (Nat.not_lt_zero D)⟩ (fun w N hw hI nx => ?_) (fun N hI => ?_)
  · obtain ⟨rfl, ha⟩ := hI
    have ix : ∀ x : Nat, x < zx_n S → z_w (z_w (23 * (x : Int)) + (w : Int)) = 23 * (x : Int) + (w : Int) := fun x hx => by rw [z_w_id (x := 23 * (x : Int)) (by omega) (by omega), z_w_id (by omega) (by omega)]
    refine rg_19_3 d ⟨fun c => absurd c (by omega), fun _ => ?_⟩
    rw [ix i hi, ix j hj, ix k hk]
    clear ix
    refine ⟨by omega, by omega, by omega, by omega, by omega, by omega, ?_⟩
    have bit : ∀ c, c < 64 → (zx_lb (z_andl (N 9202041 (23 * (i : Int) + (w : Int))) (N 9202041 (23 * (j : Int) + (w : Int)))) c && zx_lb (N 9202041 (23 * (k : Int) + (w : Int))) c) = (decide (64 * w + c < 2 * zx_R S) && zx_hc S i j k (64 * w + c)) := by
      intro c hc
      rw [zx_lb_and, hq i w c hi hw hc, hq j w c hj hw hc, hq k w c hk hw hc]
      have ed : decide (64 * w + c < 2 * zx_R S ∨ 64 * w + c = 2 * zx_R S ∧ i < 0) = decide (64 * w + c < 2 * zx_R S) := decide_eq_decide.mpr (by omega)
      have ed2 : decide (64 * w + c < 2 * zx_R S ∨ 64 * w + c = 2 * zx_R S ∧ j < 0) = decide (64 * w + c < 2 * zx_R S) := decide_eq_decide.mpr (by omega)
      have ed3 : decide (64 * w + c < 2 * zx_R S ∨ 64 * w + c = 2 * zx_R S ∧ k < 0) = decide (64 * w + c < 2 * zx_R S) := decide_eq_decide.mpr (by omega)
      rw [ed, ed2, ed3]
      unfold zx_hc
      cases decide (64 * w + c < 2 * zx_R S) <;> simp
    refine ⟨fun c => ?_, fun c => ?_⟩
    · have c2 := (zx_andl0 _ _).mp (z_cmp_e0.mp c)
      rw [z_wq (by omega)]
      refine nx N ⟨rfl, fun D h1 h2 => ?_⟩
      by_cases e : D < 64 * w
      · exact ha D e h2
      · have := c2 (D - 64 * w) (by omega)
        rw [bit _ (by omega), show 64 * w + (D - 64 * w) = D from by omega, decide_eq_true h2, Bool.true_and] at this
        exact this
    · have c2 : ∃ c, c < 64 ∧ (decide (64 * w + c < 2 * zx_R S) && zx_hc S i j k (64 * w + c)) = true := by
        by_cases e : ∃ c, c < 64 ∧ (decide (64 * w + c < 2 * zx_R S) && zx_hc S i j k (64 * w + c)) = true
        · exact e
        · refine absurd (z_cmp_e0.mpr ((zx_andl0 _ _).mpr (fun c hc => ?_))) c
          rw [bit c hc]
          cases hx : (decide (64 * w + c < 2 * zx_R S) && zx_hc S i j k (64 * w + c)) with
          | false => rfl
          | true => exact absurd ⟨c, hc, hx⟩ e
      obtain ⟨c, hc, e⟩ := c2
      have e2 := (Bool.and_eq_true _ _).mp e
      rw [z_exn_t.mpr ⟨64 * w + c, of_decide_eq_true e2.1, e2.2⟩] at h
      exact h
  · obtain ⟨rfl, ha⟩ := hI
    rw [z_exn_f.mpr (fun D hD => ha D (by omega) hD)] at h
    exact rg_19_3 d ⟨fun _ => h, fun c => absurd c (by decide)⟩
/-- the state of the clashes in the class's memory -/
def zx_cs (S M0 N : z_M) (s : zx_Z) : Prop := z_sit S N ∧ N 9202041 = M0 9202041 ∧ N 8 11 = s.1 ∧ (s.1 ≠ 0 → N 31042 0 = s.2.1 ∧ N 31042 1 = s.2.2.1 ∧ N 31042 2 = s.2.2.2)
theorem kc_qn (d : Nat) {M0 : z_M} {i j k : Nat} {s : zx_Z} {B : Int} (h7 : zx_R S ≤ 729) (n40 : zx_n S ≤ 40) (hq : zx_dq S M0 (2 * zx_R S) 0) (hi : i < zx_n S) (hj : j < zx_n S) (hk : k < zx_n S) (hs : zx_cs S M0 M s) (s0 : 0 ≤ s.1) (s1 : s.1 ≤ B) (hB : B < 1000000) {l : List z_V} (h : ∀ N : z_M, zx_cs S M0 N (zx_qn S i j k s) → z_G 0 (d + 1) z_m17 106 l [] N Q) : z_Cl 0 d 19 [z_R 8, z_I (i : Int), z_I (j : Int), z_I (k : Int)] M (fun v1 M1 => z_vi v1 fun x1 => ((x1 = 0 → z_G 0 (d + 1) z_m17 106 l [] M1 Q) ∧ (¬ x1 = 0 → z_Cl 0 d 18 [z_R 8, z_I (i : Int), z_I (j : Int), z_I (k : Int)] M1 (fun _ M2 => z_G 0 (d + 1) z_m17 106 l [] M2 Q)))) := by
  obtain ⟨a, b, c, e⟩ := hs
  have hq2 : zx_dq S M (2 * zx_R S) 0 := fun i w j h1 h2 h3 => by rw [b]; exact hq i w j h1 h2 h3
  refine kc_neverT d n40 h7 hq2 hi hj hk (z_viI ?_)
  unfold zx_qn at h
  cases hx : zx_ap S i j k with
  | false =>
    rw [hx, if_neg (by decide)] at h
    exact ⟨fun _ => h M ⟨a, b, c, e⟩, fun c => absurd rfl c⟩
  | true =>
    rw [hx, if_pos rfl] at h
    refine ⟨fun c => absurd (show zv_b true = 0 from c) (by decide), fun _ => re_18 d ?_⟩
    rw [c]
    refine ⟨fun c1 => ?_, fun c1 => ⟨by omega, by omega, by omega, by omega, by omega, by omega, ?_⟩⟩
    · rw [if_neg c1] at h
      rw [z_w_id (by omega) (by omega)]
      exact h _ ⟨z_at_up a _ _ _ rfl rfl, by rw [z_up_ne (by decide)]; exact b, z_up_eq, fun _ => by rw [z_up_ne (by decide)]; exact e c1⟩
    · rw [if_pos c1] at h
      rw [z_up_ne (k := 8) (by decide), z_up_ne (k := 8) (by decide), z_up_ne (k := 8) (by decide), c, c1, show z_w ((0 : Int) + 1) = 1 from by decide]
      refine h _ ⟨z_at_up (z_at_up (z_at_up (z_at_up a _ _ _ rfl rfl) _ _ _ rfl rfl) _ _ _ rfl rfl) _ _ _ rfl rfl, by rw [z_up_ne (by decide), z_up_ne (by decide), z_up_ne (by decide), z_up_ne (by decide)]; exact b, z_up_eq, fun _ => ⟨?_, ?_, ?_⟩⟩
      · rw [z_up_ne (by decide), z_up_nj (by decide), z_up_nj (by decide), z_up_eq]
      · rw [z_up_ne (by decide), z_up_nj (by decide), z_up_eq]
      · rw [z_up_ne (by decide), z_up_eq]
theorem zx_qn_b {i j k : Nat} {s : zx_Z} (h : 0 ≤ s.1) : 0 ≤ (zx_qn S i j k s).1 ∧ (zx_qn S i j k s).1 ≤ s.1 + 1 := by
  unfold zx_qn
  split
  · split
    · dsimp only; omega
    · dsimp only; omega
  · omega
theorem kc_countClashes (d : Nat) {M0 : z_M} {m : Nat} (hR : z_IRep S) (h7 : zx_R S ≤ 729) (hq : zx_dq S M0 (2 * zx_R S) 0) (hS : z_sit S M) (hM : M 9202041 = M0 9202041) (h : ∀ N : z_M, zx_cs S M0 N (zx_qA S m) → 0 ≤ (zx_qA S m).1 → Q z_U N) : z_Cl 0 (d + 2) 17 [z_R 8, z_I (m : Int)] M Q := by
  obtain ⟨en, n40⟩ := zx_nI hR
  refine re_17 (d + 1) (re_89 (d + 1) (z_viI ?_))
  rw [z_ff hS 7 5 rfl, hR.1, ← en]
  refine zx_lpf (fun i s => zx_qJ S m i s) 0 (zx_n S) (0, 0, 0, 0) (fun i s N => zx_cs S M0 N s ∧ 0 ≤ s.1 ∧ s.1 ≤ 1600 * (i : Int)) (fun N i => z_G 0 (d + 2) z_m17 15 [z_R 8, z_I (m : Int), z_I (zx_n S : Int), z_I (i : Int), z_U, z_U] [] N Q) _ ⟨⟨z_at_up hS _ _ _ rfl rfl, by rw [z_up_ne (by decide)]; exact hM, z_up_eq, fun c => absurd rfl c⟩, by show (0 : Int) ≤ 0; omega, by show (0 : Int) ≤ _; omega⟩ (fun i s N _ hi hI nx => ?_) (fun N hI => ?_)
  · rw [Nat.zero_add] at hi
    obtain ⟨hs, s0, s1⟩ := hI
    obtain ⟨l1, l2, l3⟩ := zx_lohi (S := S) (b := decide (1 < m)) hi
    have jl : z_G 0 (d + 2) z_m17 34 [z_R 8, z_I (m : Int), z_I (zx_n S : Int), z_I (i : Int), z_I (zx_lo (decide (1 < m)) i : Int), z_U] [] N Q := by
      have nx' : ∀ N', (zx_cs S M0 N' (zx_qJ S m i s) ∧ 0 ≤ (zx_qJ S m i s).1 ∧ (zx_qJ S m i s).1 ≤ 1600 * ((i + 1 : Nat) : Int)) → _ := nx
      unfold zx_qJ at nx'
      refine zx_lpf (fun j s => zx_qK S m i j s) (zx_lo (decide (1 < m)) i) (zx_hi S (decide (1 < m)) i - zx_lo (decide (1 < m)) i) s (fun j s' N => zx_cs S M0 N s' ∧ 0 ≤ s'.1 ∧ s'.1 ≤ s.1 + 40 * ((j : Int) - (zx_lo (decide (1 < m)) i : Int))) (fun N j => z_G 0 (d + 2) z_m17 34 [z_R 8, z_I (m : Int), z_I (zx_n S : Int), z_I (i : Int), z_I (j : Int), z_U] [] N Q) N ⟨hs, s0, by omega⟩ (fun j s2 N2 j0 hj hI2 nx2 => ?_) (fun N2 hI2 => ?_)
      · obtain ⟨hs2, t0, t1⟩ := hI2
        have hj2 : j < zx_hi S (decide (1 < m)) i := by omega
        have hjn : j < zx_n S := by omega
        obtain ⟨k1, k2, k3⟩ := zx_lohi (S := S) (b := decide (2 < m)) hjn
        have nx2' : ∀ N', (zx_cs S M0 N' (zx_qK S m i j s2) ∧ 0 ≤ (zx_qK S m i j s2).1 ∧ (zx_qK S m i j s2).1 ≤ s.1 + 40 * (((j + 1 : Nat) : Int) - (zx_lo (decide (1 < m)) i : Int))) → _ := nx2
        unfold zx_qK at nx2'
        have kl : z_G 0 (d + 2) z_m17 67 [z_R 8, z_I (m : Int), z_I (zx_n S : Int), z_I (i : Int), z_I (j : Int), z_I (zx_lo (decide (2 < m)) j : Int)] [] N2 Q := by
          refine zx_lpf (fun k s => zx_qn S i j k s) (zx_lo (decide (2 < m)) j) (zx_hi S (decide (2 < m)) j - zx_lo (decide (2 < m)) j) s2 (fun k s' N => zx_cs S M0 N s' ∧ 0 ≤ s'.1 ∧ s'.1 ≤ s2.1 + ((k : Int) - (zx_lo (decide (2 < m)) j : Int))) (fun N k => z_G 0 (d + 2) z_m17 67 [z_R 8, z_I (m : Int), z_I (zx_n S : Int), z_I (i : Int), z_I (j : Int), z_I (k : Int)] [] N Q) N2 ⟨hs2, t0, by omega⟩ (fun k s3 N3 k0 hk hI3 nx3 => ?_) (fun N3 hI3 => ?_)
          · obtain ⟨hs3, u0, u1⟩ := hI3
            have hk2 : k < zx_hi S (decide (2 < m)) j := by omega
            have hkn : k < zx_n S := by omega
            have qb := zx_qn_b (S := S) (i := i) (j := j) (k := k) u0
            have cl := kc_qn (d + 1) (Q := Q) (l := [z_R 8, z_I (m : Int), z_I (zx_n S : Int), z_I (i : Int), z_I (j : Int), z_I (k : Int)]) h7 n40 hq hi hjn hkn hs3 u0 (B := 200000) (by omega) (by omega) (fun N4 h4 => rg_17_106 (d + 1) (by
              rw [z_wq (by omega)]
              exact nx3 N4 ⟨h4, qb.1, by omega⟩))
            refine rg_17_67 (d + 1) ⟨fun c => ?_, fun c => ?_⟩
            · have eh : zx_hi S (decide (2 < m)) j = j + 1 := by unfold zx_hi; rw [decide_eq_false (by omega)]; rfl
              rw [z_wq (by omega)]
              exact rg_17_82 (d + 1) ⟨fun c2 => absurd c2 (by omega), fun _ => cl⟩
            · have eh : zx_hi S (decide (2 < m)) j = zx_n S := by unfold zx_hi; rw [decide_eq_true (by omega)]; rfl
              exact rg_17_82 (d + 1) ⟨fun c2 => absurd c2 (by omega), fun _ => cl⟩
          · obtain ⟨hs3, u0, u1⟩ := hI3
            rw [k1] at u1 ⊢
            have nx3 := nx2' N3 ⟨hs3, u0, by omega⟩
            have fin : z_G 0 (d + 2) z_m17 34 [z_R 8, z_I (m : Int), z_I (zx_n S : Int), z_I (i : Int), z_I (z_w ((j : Int) + 1)), z_U] [] N3 Q := by
              rw [z_wq (by omega)]; exact nx3
            refine rg_17_67 (d + 1) ⟨fun c => ?_, fun c => ?_⟩
            · have eh : zx_hi S (decide (2 < m)) j = j + 1 := by unfold zx_hi; rw [decide_eq_false (by omega)]; rfl
              rw [z_wq (by omega)]
              exact rg_17_82 (d + 1) ⟨fun _ => fin, fun c2 => absurd c2 (by omega)⟩
            · have eh : zx_hi S (decide (2 < m)) j = zx_n S := by unfold zx_hi; rw [decide_eq_true (by omega)]; rfl
              exact rg_17_82 (d + 1) ⟨fun _ => fin, fun c2 => absurd c2 (by omega)⟩
        have kl2 : ((m : Int) ≤ 2 → z_G 0 (d + 2) z_m17 65 [z_R 8, z_I (m : Int), z_I (zx_n S : Int), z_I (i : Int), z_I (j : Int), z_U] [z_I (j : Int)] N2 Q) ∧ (2 < (m : Int) → z_G 0 (d + 2) z_m17 65 [z_R 8, z_I (m : Int), z_I (zx_n S : Int), z_I (i : Int), z_I (j : Int), z_U] [z_I (z_w ((j : Int) + 1))] N2 Q) := by
          refine ⟨fun c => rg_17_65 (d + 1) ?_, fun c => rg_17_65 (d + 1) ?_⟩
          · have el : zx_lo (decide (2 < m)) j = j := by unfold zx_lo; rw [decide_eq_false (by omega)]; rfl
            rw [el] at kl; exact kl
          · have el : zx_lo (decide (2 < m)) j = j + 1 := by unfold zx_lo; rw [decide_eq_true (by omega)]; rfl
            rw [el] at kl; rw [z_wq (by omega)]; exact kl
        refine rg_17_34 (d + 1) ⟨fun c => ?_, fun c => ?_⟩
        · have eh : zx_hi S (decide (1 < m)) i = i + 1 := by unfold zx_hi; rw [decide_eq_false (by omega)]; rfl
          rw [z_wq (by omega)]
          exact rg_17_48 (d + 1) ⟨fun c2 => absurd c2 (by omega), fun _ => kl2⟩
        · have eh : zx_hi S (decide (1 < m)) i = zx_n S := by unfold zx_hi; rw [decide_eq_true (by omega)]; rfl
          exact rg_17_48 (d + 1) ⟨fun c2 => absurd c2 (by omega), fun _ => kl2⟩
      · obtain ⟨hs2, t0, t1⟩ := hI2
        rw [l1] at t1 ⊢
        have nx3 := nx' N2 ⟨hs2, t0, by omega⟩
        have fin : z_G 0 (d + 2) z_m17 15 [z_R 8, z_I (m : Int), z_I (zx_n S : Int), z_I (z_w ((i : Int) + 1)), z_U, z_U] [] N2 Q := by
          rw [z_wq (by omega)]; exact nx3
        refine rg_17_34 (d + 1) ⟨fun c => ?_, fun c => ?_⟩
        · have eh : zx_hi S (decide (1 < m)) i = i + 1 := by unfold zx_hi; rw [decide_eq_false (by omega)]; rfl
          rw [z_wq (by omega)]
          exact rg_17_48 (d + 1) ⟨fun _ => fin, fun c2 => absurd c2 (by omega)⟩
        · have eh : zx_hi S (decide (1 < m)) i = zx_n S := by unfold zx_hi; rw [decide_eq_true (by omega)]; rfl
          exact rg_17_48 (d + 1) ⟨fun _ => fin, fun c2 => absurd c2 (by omega)⟩
    refine rg_17_15 (d + 1) ⟨fun c => absurd c (by omega), fun _ => ⟨fun c => rg_17_32 (d + 1) ?_, fun c => rg_17_32 (d + 1) ?_⟩⟩
    · have el : zx_lo (decide (1 < m)) i = i := by unfold zx_lo; rw [decide_eq_false (by omega)]; rfl
      rw [el] at jl; exact jl
    · have el : zx_lo (decide (1 < m)) i = i + 1 := by unfold zx_lo; rw [decide_eq_true (by omega)]; rfl
      rw [el] at jl; rw [z_wq (by omega)]; exact jl
  · obtain ⟨hs, s0, s1⟩ := hI
    exact rg_17_15 (d + 1) ⟨fun _ => h N hs s0, fun c => absurd c (by omega)⟩
def zx_qa (m : Int) (s : zx_Z) (a : Int) : Int := if a = 4 then s.1 else if a = 0 then m else if a ≤ m then (if a = 1 then s.2.1 else if a = 2 then s.2.2.1 else s.2.2.2) else -2
def zx_quv (S : z_M) (a : Int) : Int := if ¬ (0 ≤ a ∧ a ≤ 4) then -1 else if 729 < zx_R S then -3 else
  if 0 < (zx_qA S 1).1 then zx_qa 1 (zx_qA S 1) a else if 0 < (zx_qA S 2).1 then zx_qa 2 (zx_qA S 2) a else if 0 < (zx_qA S 3).1 then zx_qa 3 (zx_qA S 3) a else if a = 4 then 0 else -2
theorem kc_quarrel (d : Nat) {a : Int} (hS : z_sit S M) (hI : z_IS S) (hR : z_IRep S) (h : ∀ N : z_M, z_sit S N → Q (z_I (zx_quv S a)) N) : z_Cl 0 (d + 7) 185 [z_R 1, z_I a] M Q := by
  unfold zx_quv at h
  have no : ¬ (0 ≤ a ∧ a ≤ 4) → Q (z_I (-1)) M := fun c => by
    have h' := h M hS
    rw [if_pos c] at h'; exact h'
  refine re_185 (d + 6) ⟨fun c => no (by omega), fun a0 => ⟨fun a4 => kc_judge d hS hI hR (fun h7 N hN hd => z_y1 ?_) (fun h7 => z_n1 ?_), fun c => no (by omega)⟩⟩
  · rw [if_neg (fun c => c ⟨a0, a4⟩), if_neg (by omega)] at h
    obtain ⟨d6, dr, dh, dq, d7, d8, d9⟩ := hd
    have hq := dq
    refine re_16 (d + 5) ?_
    -- the answer when the clashes are there
    have ans : ∀ (m : Nat) (N2 : z_M), 1 ≤ m → m ≤ 3 → 0 < (zx_qA S m).1 → zx_cs S N N2 (zx_qA S m) → (∀ N : z_M, z_sit S N → Q (z_I (zx_qa (m : Int) (zx_qA S m) a)) N) → (a = 0 → ((¬ a = 0 → (fun v2 M2 => z_vi v2 fun x2 => Q (z_I x2) M2) (z_I (N2 8 11)) N2) ∧ (a = 0 → (fun v2 M2 => z_vi v2 fun x2 => Q (z_I x2) M2) (z_I (m : Int)) N2))) ∧ (¬ a = 0 → ((¬ a = 4 → (((m : Int) < a → (fun v2 M2 => z_vi v2 fun x2 => Q (z_I x2) M2) (z_I (-2)) N2) ∧ (a ≤ (m : Int) → ((0 : Int) ≤ (z_w (a - 1)) ∧ (z_w (a - 1)) < (3 : Int) ∧ (fun v2 M2 => z_vi v2 fun x2 => Q (z_I x2) M2) (z_I (N2 31042 (z_w (a - 1)))) N2)))) ∧ (a = 4 → ((¬ a = 0 → (fun v2 M2 => z_vi v2 fun x2 => Q (z_I x2) M2) (z_I (N2 8 11)) N2) ∧ (a = 0 → (fun v2 M2 => z_vi v2 fun x2 => Q (z_I x2) M2) (z_I (m : Int)) N2))))) := by
      intro m N2 m1 m3 hp hc hh
      obtain ⟨c1, c2, c3, c4⟩ := hc
      have h' := hh N2 c1
      unfold zx_qa at h'
      refine ⟨fun e => ⟨fun c => absurd e c, fun _ => z_viI ?_⟩, fun e => ⟨fun e4 => ⟨fun c => z_viI ?_, fun c => ?_⟩, fun e4 => ⟨fun _ => z_viI ?_, fun c => absurd c e⟩⟩⟩
      · rw [if_neg (by omega), if_pos e] at h'; exact h'
      · rw [if_neg e4, if_neg e, if_neg (by omega)] at h'; exact h'
      · rw [if_neg e4, if_neg e, if_pos c] at h'
        rw [z_w_id (by omega) (by omega)]
        refine ⟨by omega, by omega, z_viI ?_⟩
        obtain ⟨t0, t1, t2⟩ := c4 (by omega)
        have : a = 1 ∨ a = 2 ∨ a = 3 := by omega
        rcases this with rfl | rfl | rfl
        · rw [show (1 : Int) - 1 = 0 from rfl, t0]; exact h'
        · rw [show (2 : Int) - 1 = 1 from rfl, t1]; exact h'
        · rw [show (3 : Int) - 1 = 2 from rfl, t2]; exact h'
      · rw [if_pos e4] at h'; rw [c3]; exact h'
    have R4 : (∀ N : z_M, z_sit S N → Q (z_I (if a = 4 then 0 else -2)) N) → ∀ N2 : z_M, z_sit S N2 → z_G 0 (d + 6) z_m16 2 [z_R 8, z_I a, z_I 4] [] N2 (fun v2 M2 => z_vi v2 fun x2 => Q (z_I x2) M2) := by
      intro hh N2 hN2
      have h' := hh N2 hN2
      refine rg_16_2 (d + 5) ⟨fun _ => ⟨fun e => z_viI ?_, fun e => z_viI ?_⟩, fun c => absurd c (by decide)⟩
      · rw [if_neg e] at h'; exact h'
      · rw [if_pos e] at h'; exact h'
    have rnd : ∀ (m : Nat) (N2 : z_M), 1 ≤ m → m ≤ 3 → z_sit S N2 → N2 9202041 = N 9202041 → (0 < (zx_qA S m).1 → ∀ N : z_M, z_sit S N → Q (z_I (zx_qa (m : Int) (zx_qA S m) a)) N) → (¬ 0 < (zx_qA S m).1 → ∀ N3 : z_M, z_sit S N3 → N3 9202041 = N 9202041 → z_G 0 (d + 6) z_m16 2 [z_R 8, z_I a, z_I ((m + 1 : Nat) : Int)] [] N3 (fun v2 M2 => z_vi v2 fun x2 => Q (z_I x2) M2)) → z_G 0 (d + 6) z_m16 2 [z_R 8, z_I a, z_I (m : Int)] [] N2 (fun v2 M2 => z_vi v2 fun x2 => Q (z_I x2) M2) := by
      intro m N2 m1 m3 hN2 eN hy hn
      refine rg_16_2 (d + 5) ⟨fun c => absurd c (by omega), fun _ => kc_countClashes (d + 3) hR h7 hq hN2 eN (fun N3 hc s0 => ?_)⟩
      rw [hc.2.2.1]
      refine ⟨fun c => ?_, fun c => ?_⟩
      · rw [z_wq (by omega)]
        exact hn (by omega) N3 hc.1 hc.2.1
      · rw [← hc.2.2.1]
        exact ans m N3 m1 m3 c hc (hy c)
    refine rnd 1 N (by decide) (by decide) hN rfl (fun c N3 hN3 => ?_) (fun c1 N3 hN3 e3 => rnd 2 N3 (by decide) (by decide) hN3 e3 (fun c N4 hN4 => ?_) (fun c2 N4 hN4 e4 => rnd 3 N4 (by decide) (by decide) hN4 e4 (fun c N5 hN5 => ?_) (fun c3 N5 hN5 _ => R4 (fun N6 hN6 => ?_) N5 hN5)))
    · have h' := h N3 hN3
      rw [if_pos c] at h'; exact h'
    · have h' := h N4 hN4
      rw [if_neg c1, if_pos c] at h'; exact h'
    · have h' := h N5 hN5
      rw [if_neg c1, if_neg c2, if_pos c] at h'; exact h'
    · have h' := h N6 hN6
      rw [if_neg c1, if_neg c2, if_neg c3] at h'; exact h'
  · have h' := h M hS
    rw [if_neg (fun c => c ⟨a0, a4⟩), if_pos h7] at h'; exact h'
end ZQUA
