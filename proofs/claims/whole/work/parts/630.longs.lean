/-! small longs -/
def sL (k : Nat) : Int64 := Int64.ofNat k
theorem sL_toInt {k : Nat} (h : k < 2000000000000000000) : (sL k).toInt = k := Int64.toInt_ofNat_of_lt (by omega)
theorem sL_lt {a b : Nat} (ha : a < 2000000000000000000) (hb : b < 2000000000000000000) : (sL a < sL b) ↔ a < b := by
  rw [Int64.lt_iff_toInt_lt, sL_toInt ha, sL_toInt hb]; omega
theorem sL_le {a b : Nat} (ha : a < 2000000000000000000) (hb : b < 2000000000000000000) : (sL a ≤ sL b) ↔ a ≤ b := by
  rw [Int64.le_iff_toInt_le, sL_toInt ha, sL_toInt hb]; omega
theorem sL_eq {a b : Nat} (ha : a < 2000000000000000000) (hb : b < 2000000000000000000) : (sL a = sL b) ↔ a = b := by
  constructor
  · intro h
    have := congrArg Int64.toInt h
    rw [sL_toInt ha, sL_toInt hb] at this
    omega
  · intro h; rw [h]
theorem sL_add {a b : Nat} : sL a + sL b = sL (a + b) := by simp [sL, Int64.ofNat_add]
theorem sL_1 {a : Nat} : sL a + 1 = sL (a + 1) := by simp [sL, Int64.ofNat_add]
theorem sI_L {k : Nat} (h : k < 2000000000) : (sI k).toInt64 = sL k := by
  apply Int64.toInt_inj.mp
  rw [sL_toInt (by omega), Int32.toInt_toInt64, sI_toInt h]
theorem sL_I {k : Nat} (h : k < 2000000000) : (sL k).toInt32 = sI k := by
  rw [← sI_L h]
  simp
theorem sL_m1 {a : Nat} : sL (a + 1) - 1 = sL a := by
  rw [← sL_1]
  simp
theorem sI_m1 {a : Nat} : sI (a + 1) - 1 = sI a := by
  rw [← sI_1]
  simp
theorem m1_lt {b : Nat} (hb : b < 2000000000) : (-1 : Int32) < sI b := by
  rw [Int32.lt_iff_toInt_lt, sI_toInt hb]
  have : (-1 : Int32).toInt = -1 := by decide
  omega
/-! dividing, shifting, masking small numbers -/
theorem bmod_s {x : Nat} (h : x < 2000000000) : Int.bmod (x : Int) (2 ^ 32) = (x : Int) := by
  unfold Int.bmod
  simp only []
  split <;> omega
theorem sI_div {a b : Nat} (ha : a < 2000000000) (hb : b < 2000000000) : sI a / sI b = sI (a / b) := by
  have hd : a / b ≤ a := Nat.div_le_self a b
  apply Int32.toInt_inj.mp
  rw [Int32.toInt_div, sI_toInt ha, sI_toInt hb, sI_toInt (by omega)]
  exact bmod_s (x := a / b) (by omega)
theorem sI_sub {a b : Nat} (h : b ≤ a) : sI a - sI b = sI (a - b) := by
  have e : sI a = sI (a - b) + sI b := by rw [sI_add]; congr 1; omega
  rw [e]
  simp
theorem sI_mod {a b : Nat} (ha : a < 2000000000) (hb : b < 2000000000) : sI a - sI a / sI b * sI b = sI (a % b) := by
  have hm : a / b * b ≤ a := Nat.div_mul_le_self a b
  rw [sI_div ha hb, sI_mul, sI_sub hm]
  congr 1
  have := Nat.div_add_mod a b
  rw [Nat.mul_comm] at this
  omega
theorem sI_shr {g s : Nat} (hg : g < 2000000000) (hs : s < 32) : sI g >>> sI s = sI (g / 2 ^ s) := by
  have e : ∀ s, s < 32 → ((BitVec.ofNat 32 s).smod 32#32).toNat = s := by decide +kernel
  apply Int32.toBitVec_inj.mp
  show (BitVec.ofNat 32 g).sshiftRight ((BitVec.ofNat 32 s).smod 32#32).toNat = BitVec.ofNat 32 (g / 2 ^ s)
  rw [e s hs, BitVec.sshiftRight_eq_of_msb_false (by
    rw [BitVec.msb_eq_false_iff_two_mul_lt, BitVec.toNat_ofNat, Nat.mod_eq_of_lt (by omega)]
    omega)]
  apply BitVec.eq_of_toNat_eq
  have hd : g / 2 ^ s ≤ g := Nat.div_le_self g (2 ^ s)
  rw [BitVec.toNat_ushiftRight, BitVec.toNat_ofNat, BitVec.toNat_ofNat, Nat.mod_eq_of_lt (show g < 2 ^ 32 by omega), Nat.mod_eq_of_lt (show g / 2 ^ s < 2 ^ 32 by omega), Nat.shiftRight_eq_div_pow]
theorem sI_and {a m : Nat} : sI a &&& sI (2 ^ m - 1) = sI (a % 2 ^ m) := by
  apply Int32.toBitVec_inj.mp
  show BitVec.ofNat 32 a &&& BitVec.ofNat 32 (2 ^ m - 1) = BitVec.ofNat 32 (a % 2 ^ m)
  rw [← BitVec.ofNat_and, Nat.and_two_pow_sub_one_eq_mod]
theorem sI_or {a b : Nat} : sI a ||| sI b = sI (a ||| b) := by
  apply Int32.toBitVec_inj.mp
  show BitVec.ofNat 32 a ||| BitVec.ofNat 32 b = BitVec.ofNat 32 (a ||| b)
  rw [← BitVec.ofNat_or]
