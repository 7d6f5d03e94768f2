/-! ===== bytes of a number ===== -/
def byt (y : Int64) (i : Nat) : Nat := (y.toBitVec >>> (8 * i)).toNat % 256
theorem byt_lt {y : Int64} {i : Nat} : byt y i < 256 := Nat.mod_lt _ (by decide)
theorem by_u0 {y : Int64} {i : Nat} (h : i < 8) : (y.toUInt64 >>> ((nI (8 * i)).toInt64.toUInt64 &&& Int64.toUInt64 63)).toInt64.toInt32 &&& nI 255 = nI (byt y i) := by
  have e : ((nI (8 * i)).toInt64.toUInt64 &&& Int64.toUInt64 63) = UInt64.ofNat (8 * i) := by
    have : ∀ i : Fin 8, ((nI (8 * i.1)).toInt64.toUInt64 &&& Int64.toUInt64 63) = UInt64.ofNat (8 * i.1) := by decide +kernel
    exact this ⟨i, h⟩
  rw [e]
  apply Int32.toBitVec_inj.mp
  apply BitVec.eq_of_toNat_eq
  simp [byt]
  have e1 : (nI 255).toBitVec.toNat = 2 ^ 8 - 1 := by decide +kernel
  have e2 : (nI (y.toBitVec.toNat >>> (8 * i) % 256)).toBitVec.toNat = y.toBitVec.toNat >>> (8 * i) % 256 := by
    have : ∀ b : Fin 256, (nI b.1).toBitVec.toNat = b.1 := by decide +kernel
    exact this ⟨_, Nat.mod_lt _ (by decide)⟩
  rw [e1, e2, Nat.and_two_pow_sub_one_eq_mod, show 8 * i % 64 = 8 * i by omega, BitVec.signExtend_eq_setWidth_of_le _ (by decide), BitVec.toNat_setWidth, BitVec.toNat_ushiftRight]
  omega
theorem by_s0 {y : Int64} {i : Nat} (h : i < 8) : (y >>> ((nI (8 * i)).toInt64 &&& 63)).toInt32.toInt8 = Int8.ofNat (byt y i) := by
  have e : ((nI (8 * i)).toInt64 &&& 63) = Int64.ofNat (8 * i) := by
    have : ∀ i : Fin 8, ((nI (8 * i.1)).toInt64 &&& 63) = Int64.ofNat (8 * i.1) := by decide +kernel
    exact this ⟨i, h⟩
  rw [e]
  apply Int8.toBitVec_inj.mp
  apply BitVec.eq_of_getLsbD_eq
  intro k hk
  simp [byt]
  have e3 : ((8#64 * BitVec.ofNat 64 i).smod 64#64).toNat = 8 * i := by
    have : ∀ i : Fin 8, ((8#64 * BitVec.ofNat 64 i.1).smod 64#64).toNat = 8 * i.1 := by decide +kernel
    exact this ⟨i, h⟩
  rw [e3, BitVec.signExtend_eq_setWidth_of_le _ (by decide), BitVec.getLsbD_setWidth, BitVec.getLsbD_sshiftRight, BitVec.getLsbD_ofNat, show 256 = 2 ^ 8 from rfl, Nat.testBit_mod_two_pow, Nat.testBit_shiftRight, BitVec.testBit_toNat]
  have h64 : 8 * i + k < 64 := by omega
  have k64 : ¬ 64 ≤ k := by omega
  rw [if_pos h64]
  simp [hk, k64]
theorem sb_8 {b : Nat} (h : b < 256) : (Int8.ofNat b).toInt32 = sb b := by
  have : ∀ b : Fin 256, (Int8.ofNat b.1).toInt32 = sb b.1 := by decide +kernel
  exact this ⟨b, h⟩
theorem nar_sb {b : Nat} (h : b < 256) : lm_nar 24 (sb b) = sb b := by
  have : ∀ b : Fin 256, lm_nar 24 (sb b.1) = sb b.1 := by decide +kernel
  exact this ⟨b, h⟩
