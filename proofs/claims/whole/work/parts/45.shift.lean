/-! The characters of a long, by the arithmetic shift. -/
theorem sshB (x : BitVec 64) {s : Nat} (hs : s ≤ 56) : (x.sshiftRight s) &&& 255#64 = (x >>> s) &&& 255#64 := by
  apply BitVec.eq_of_getLsbD_eq
  intro i hi
  rw [BitVec.getLsbD_and, BitVec.getLsbD_and, BitVec.getLsbD_sshiftRight, BitVec.getLsbD_ushiftRight]
  by_cases h8 : i < 8
  · have h1 : s + i < 64 := by omega
    have h2 : ¬ 64 ≤ i := by omega
    simp [h1, h2]
  · have h255 : ∀ j, j < 64 → ¬ j < 8 → (255#64).getLsbD j = false := by decide
    rw [h255 i hi h8]
    simp
theorem bytS (x : Int64) {i : Nat} (hi : i < 8) : (x >>> ((nI (8 * i)).toInt64 &&& 63)) &&& Int64.ofNat 255 = Int64.ofNat (byt x i) := by
  have h1 : (x >>> ((nI (8 * i)).toInt64 &&& 63)).toBitVec = x.toBitVec.sshiftRight (8 * i) := by
    have hs : ∀ i, i < 8 → (((nI (8 * i)).toInt64 &&& 63).toBitVec.smod 64).toNat = 8 * i := by decide
    show x.toBitVec.sshiftRight' (((nI (8 * i)).toInt64 &&& 63).toBitVec.smod 64) = _
    unfold BitVec.sshiftRight'
    rw [hs i hi]
  apply Int64.toBitVec_inj.mp
  have h2 : ((x >>> ((nI (8 * i)).toInt64 &&& 63)) &&& Int64.ofNat 255).toBitVec = (x >>> ((nI (8 * i)).toInt64 &&& 63)).toBitVec &&& 255#64 := rfl
  rw [h2, h1, sshB _ (by omega)]
  apply BitVec.eq_of_toNat_eq
  have h3 : (255#64).toNat = 2 ^ 8 - 1 := rfl
  have h4 : (Int64.ofNat (byt x i)).toBitVec = BitVec.ofNat 64 (byt x i) := rfl
  rw [BitVec.toNat_and, h3, Nat.and_two_pow_sub_one_eq_mod, h4, BitVec.toNat_ofNat, BitVec.toNat_ushiftRight, Nat.shiftRight_eq_div_pow]
  have hb := byt_lt x i
  have h5 : byt x i = x.toBitVec.toNat / 2 ^ (8 * i) % 256 := rfl
  rw [Nat.mod_eq_of_lt (show byt x i < 2 ^ 64 by omega), h5]

