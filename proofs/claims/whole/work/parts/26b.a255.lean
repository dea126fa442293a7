section
theorem w_and255 (x : Int) : w_and x 255 = x % 256 := by
  have e : (Int32.ofInt x &&& Int32.ofInt 255).toBitVec.toNat = (x % 4294967296).toNat % 256 := by
    show ((BitVec.ofInt 32 x) &&& (BitVec.ofInt 32 255)).toNat = _
    rw [BitVec.toNat_and, BitVec.toNat_ofInt]
    show ((x % 4294967296).toNat &&& 255) = _
    exact Nat.and_two_pow_sub_one_eq_mod _ 8
  unfold w_and
  show BitVec.toInt _ = _
  rw [BitVec.toInt_eq_toNat_cond, e]
  rw [if_pos (by omega)]
  omega
theorem w_by256 (x : Int) : w_by x % 256 = x % 256 := by
  unfold w_by
  rw [Int32.toInt_toInt8, Int32.toInt_ofInt]
  show (Int.bmod (Int.bmod x 4294967296) 256) % 256 = _
  have h := Int.bmod_emod (x := Int.bmod x 4294967296) (m := 256)
  have h' : (Int.bmod (Int.bmod x 4294967296) 256) % 256 = (Int.bmod x 4294967296) % 256 := h
  rw [h']
  unfold Int.bmod
  dsimp only
  split <;> omega
end
