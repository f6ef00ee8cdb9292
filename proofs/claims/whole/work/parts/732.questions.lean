/-! octets of numbers -/
def by32 (x : Int32) (k : Nat) : Nat := x.toUInt32.toNat / 2 ^ (8 * (3 - k)) % 256
def by64 (x : Int64) (k : Nat) : Nat := x.toUInt64.toNat / 2 ^ (8 * (7 - k)) % 256
theorem and255 (x : Int32) : x &&& 255 = sI (x.toUInt32.toNat % 256) := by
  apply Int32.toBitVec_inj.mp
  apply BitVec.eq_of_toNat_eq
  show x.toBitVec.toNat &&& (255 : Nat) = (BitVec.ofNat 32 (x.toUInt32.toNat % 256)).toNat
  have e : x.toUInt32.toNat = x.toBitVec.toNat := rfl
  rw [e, BitVec.toNat_ofNat, show (255 : Nat) = 2 ^ 8 - 1 by decide, Nat.and_two_pow_sub_one_eq_mod]
  omega
theorem by32_lt (x : Int32) (k : Nat) : by32 x k < 256 := Nat.mod_lt _ (by decide)
theorem by64_lt (x : Int64) (k : Nat) : by64 x k < 256 := Nat.mod_lt _ (by decide)
/-- shifts without a sign -/
theorem ush32 (x : Int32) (s : Nat) (hs : s < 32) : ((x.toUInt32 >>> ((sI s).toUInt32 &&& Int32.toUInt32 31)).toInt32) &&& 255 = sI (x.toUInt32.toNat / 2 ^ s % 256) := by
  rw [and255]
  congr 1
  have h1 : (sI s).toUInt32 &&& Int32.toUInt32 31 = UInt32.ofNat s := by
    have : ∀ s, s < 32 → (sI s).toUInt32 &&& Int32.toUInt32 31 = UInt32.ofNat s := by decide +kernel
    exact this s hs
  rw [h1]
  have h2 : ((x.toUInt32 >>> UInt32.ofNat s).toInt32).toUInt32.toNat = (x.toUInt32 >>> UInt32.ofNat s).toNat := rfl
  rw [h2, UInt32.toNat_shiftRight]
  have h3 : (UInt32.ofNat s).toNat % 32 = s := by
    rw [UInt32.toNat_ofNat']
    omega
  rw [h3, Nat.shiftRight_eq_div_pow]
/-- shifts with a sign -/
theorem ssh32 (x : Int32) (s : Nat) (hs : s ≤ 24) : (x >>> (sI s &&& 31)) &&& 255 = sI (x.toUInt32.toNat / 2 ^ s % 256) := by
  rw [and255]
  congr 1
  have h1 : (x >>> (sI s &&& 31)).toUInt32.toNat = (x.toBitVec.sshiftRight s).toNat := by
    have h0 : ∀ s, s ≤ 24 → sI s &&& 31 = sI s := by decide +kernel
    rw [h0 s hs]
    show (x >>> sI s).toBitVec.toNat = _
    rw [Int32.toBitVec_shiftRight]
    have h5 : ∀ s, s ≤ 24 → ((sI s).toBitVec.smod 32) = BitVec.ofNat 32 s := by decide +kernel
    rw [h5 s hs, BitVec.sshiftRight_eq', BitVec.toNat_ofNat, Nat.mod_eq_of_lt (by omega)]
  rw [h1]
  have e : x.toUInt32.toNat = x.toBitVec.toNat := rfl
  rw [e]
  apply Nat.eq_of_testBit_eq
  intro i
  rw [show (256 : Nat) = 2 ^ 8 by decide, Nat.testBit_mod_two_pow, Nat.testBit_mod_two_pow, Nat.testBit_div_two_pow]
  by_cases hi : i < 8
  · have h7 : (x.toBitVec.sshiftRight s).toNat.testBit i = (x.toBitVec.sshiftRight s).getLsbD i := rfl
    rw [h7, BitVec.getLsbD_sshiftRight, if_pos (show s + i < 32 by omega), decide_eq_false (show ¬ 32 ≤ i by omega)]
    have h8 : x.toBitVec.toNat.testBit (i + s) = x.toBitVec.getLsbD (i + s) := rfl
    rw [Nat.add_comm s i]
    first | rw [h8] | skip
    simp [hi]
  · simp [hi]
theorem sx32 (x : BitVec 64) : x.signExtend 32 = x.setWidth 32 := by
  apply BitVec.eq_of_getLsbD_eq
  intro i hi
  rw [BitVec.getLsbD_signExtend, BitVec.getLsbD_setWidth, if_pos (show i < 64 by omega)]
theorem ush64 (x : Int64) (s : Nat) (hs : s < 64) : (((x.toUInt64 >>> ((sI s).toInt64.toUInt64 &&& Int64.toUInt64 63)).toInt64).toInt32) &&& 255 = sI (x.toUInt64.toNat / 2 ^ s % 256) := by
  rw [and255]
  congr 1
  have h1 : (sI s).toInt64.toUInt64 &&& Int64.toUInt64 63 = UInt64.ofNat s := by
    have : ∀ s, s < 64 → (sI s).toInt64.toUInt64 &&& Int64.toUInt64 63 = UInt64.ofNat s := by decide +kernel
    exact this s hs
  rw [h1]
  have h2 : (((x.toUInt64 >>> UInt64.ofNat s).toInt64).toInt32).toUInt32.toNat = (x.toUInt64 >>> UInt64.ofNat s).toNat % 2 ^ 32 := by
    show ((x.toUInt64 >>> UInt64.ofNat s).toInt64.toInt32).toBitVec.toNat = _
    rw [Int64.toBitVec_toInt32, sx32, BitVec.toNat_setWidth]
    rfl
  rw [h2, UInt64.toNat_shiftRight]
  have h3 : (UInt64.ofNat s).toNat % 64 = s := by
    rw [UInt64.toNat_ofNat']
    omega
  rw [h3, Nat.shiftRight_eq_div_pow]
  omega
theorem ssh64 (x : Int64) (s : Nat) (hs : s ≤ 56) : ((x >>> ((sI s).toInt64 &&& 63)) &&& 255).toInt32 = sI (x.toUInt64.toNat / 2 ^ s % 256) := by
  apply Int32.toBitVec_inj.mp
  apply BitVec.eq_of_toNat_eq
  rw [Int64.toBitVec_toInt32, sx32, BitVec.toNat_setWidth]
  have h1 : (x >>> ((sI s).toInt64 &&& 63)).toBitVec = x.toBitVec.sshiftRight s := by
    have h0 : ∀ s, s ≤ 56 → (sI s).toInt64 &&& 63 = sL s := by decide +kernel
    rw [h0 s hs, Int64.toBitVec_shiftRight]
    have h5 : ∀ s, s ≤ 56 → ((sL s).toBitVec.smod 64) = BitVec.ofNat 64 s := by decide +kernel
    rw [h5 s hs, BitVec.sshiftRight_eq', BitVec.toNat_ofNat, Nat.mod_eq_of_lt (by omega)]
  show (((x >>> ((sI s).toInt64 &&& 63)).toBitVec &&& (255 : Int64).toBitVec).toNat) % 2 ^ 32 = (BitVec.ofNat 32 (x.toUInt64.toNat / 2 ^ s % 256)).toNat
  rw [h1, BitVec.toNat_and, show (255 : Int64).toBitVec.toNat = 2 ^ 8 - 1 by decide, Nat.and_two_pow_sub_one_eq_mod, BitVec.toNat_ofNat]
  have e : x.toUInt64.toNat = x.toBitVec.toNat := rfl
  rw [e]
  congr 1
  apply Nat.eq_of_testBit_eq
  intro i
  rw [show (256 : Nat) = 2 ^ 8 by decide, Nat.testBit_mod_two_pow, Nat.testBit_mod_two_pow, Nat.testBit_div_two_pow]
  by_cases hi : i < 8
  · have h7 : (x.toBitVec.sshiftRight s).toNat.testBit i = (x.toBitVec.sshiftRight s).getLsbD i := rfl
    rw [h7, BitVec.getLsbD_sshiftRight, if_pos (show s + i < 64 by omega), decide_eq_false (show ¬ 64 ≤ i by omega)]
    have h8 : x.toBitVec.toNat.testBit (i + s) = x.toBitVec.getLsbD (i + s) := rfl
    rw [Nat.add_comm s i]
    first | rw [h8] | skip
    simp [hi]
  · simp [hi]
/-- a row of octets into a number -/
theorem shl_or (v : Int64) (q : Nat) (hq : q < 256) : (v <<< ((8 : Int32).toInt64 &&& 63)) ||| (sI q).toInt64 = v * 256 + (sI q).toInt64 := by
  rw [sI_L (by omega)]
  apply Int64.toBitVec_inj.mp
  have h8 : (v <<< ((8 : Int32).toInt64 &&& 63)).toBitVec = v.toBitVec <<< 8 := by
    rw [show (8 : Int32).toInt64 &&& 63 = sL 8 by decide, Int64.toBitVec_shiftLeft]
    have : (sL 8).toBitVec.smod 64 = BitVec.ofNat 64 8 := by decide +kernel
    rw [this]
    rfl
  show (v <<< ((8 : Int32).toInt64 &&& 63)).toBitVec ||| (sL q).toBitVec = v.toBitVec * (256 : Int64).toBitVec + (sL q).toBitVec
  rw [h8]
  have hm : v.toBitVec * (256 : Int64).toBitVec = v.toBitVec <<< 8 := by
    rw [BitVec.shiftLeft_eq_mul_twoPow]
    congr 1
  have hs : (sL q).toBitVec = BitVec.ofNat 64 q := rfl
  rw [hm, hs, BitVec.add_eq_or_of_and_eq_zero]
  apply BitVec.eq_of_getLsbD_eq
  intro i hi
  rw [BitVec.getLsbD_and, BitVec.getLsbD_shiftLeft, BitVec.getLsbD_ofNat, BitVec.getLsbD_zero]
  by_cases h : i < 8
  · simp [h]
  · have : q.testBit i = false := Nat.testBit_lt_two_pow (Nat.lt_of_lt_of_le hq (by
      have := Nat.pow_le_pow_right (show 0 < 2 by omega) (show 8 ≤ i by omega)
      exact this))
    simp [this]
/-- the seeds -/
theorem seed_eq (s : Int32) : ((2654435761 * s.toInt64) &&& 4294967295).toInt32 = (-1640531535) * s := by
  apply Int32.toBitVec_inj.mp
  rw [Int64.toBitVec_toInt32, sx32]
  show ((2654435761 : Int64).toBitVec * s.toInt64.toBitVec &&& (4294967295 : Int64).toBitVec).setWidth 32 = (-1640531535 : Int32).toBitVec * s.toBitVec
  rw [BitVec.setWidth_and, BitVec.setWidth_mul _ _ (by omega), Int32.toBitVec_toInt64]
  have h1 : ((4294967295 : Int64).toBitVec).setWidth 32 = BitVec.allOnes 32 := by decide +kernel
  have h2 : ((2654435761 : Int64).toBitVec).setWidth 32 = (-1640531535 : Int32).toBitVec := by decide +kernel
  have h3 : (BitVec.signExtend 64 s.toBitVec).setWidth 32 = s.toBitVec := by
    apply BitVec.eq_of_getLsbD_eq
    intro i hi
    rw [BitVec.getLsbD_setWidth, BitVec.getLsbD_signExtend]
    simp [hi]
    omega
  rw [h1, h2, h3, BitVec.and_allOnes]
