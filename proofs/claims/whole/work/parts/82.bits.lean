theorem z_and255 (x : Int) : z_and x 255 = x % 256 := by
  unfold z_and
  have h : (Int32.ofInt x &&& Int32.ofInt 255).toBitVec = BitVec.ofInt 32 x &&& 255#32 := rfl
  rw [← Int32.toInt_toBitVec, h]
  have hn : (BitVec.ofInt 32 x &&& 255#32).toNat = (BitVec.ofInt 32 x).toNat % 256 := by
    rw [BitVec.toNat_and]
    exact Nat.and_two_pow_sub_one_eq_mod _ 8
  have h2 : (BitVec.ofInt 32 x).toNat = (x % 4294967296).toNat := by rw [BitVec.toNat_ofInt]; rfl
  rw [BitVec.toInt_eq_toNat_of_lt (by omega), hn, h2]
  omega
theorem z_bm256 (x : Int) : Int.bmod x 256 % 256 = x % 256 := by
  have := Int.bmod_emod (x := x) (m := 256)
  exact this
theorem z_wb_and (x : Int) : z_and (z_wb (z_wb x)) 255 = z_and x 255 := by
  rw [z_and255, z_and255]
  unfold z_wb
  rw [z_bm256, z_bm256]
