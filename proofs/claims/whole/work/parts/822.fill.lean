/-! the octets of a signal's value -/
abbrev uL (v : Int64) : Nat := v.toUInt64.toNat
theorem cut64 (v : Int64) {b : Nat} (h1 : 1 ≤ b) (h2 : b < 64) : uL (v &&& ((1 <<< ((sI b).toInt64 &&& 63)) - 1)) = uL v % 2 ^ b := by
  have e : ∀ b, b < 64 → ((1 : Int64) <<< ((sI b).toInt64 &&& 63)) - 1 = Int64.ofNat (2 ^ b - 1) := by decide +kernel
  rw [e b h2]
  show (v.toBitVec &&& BitVec.ofNat 64 (2 ^ b - 1)).toNat = v.toBitVec.toNat % 2 ^ b
  have hb : 2 ^ b ≤ 2 ^ 63 := Nat.pow_le_pow_right (by omega) (by omega)
  rw [BitVec.toNat_and, BitVec.toNat_ofNat, Nat.mod_eq_of_lt (by omega), Nat.and_two_pow_sub_one_eq_mod]
theorem uL_lt (v : Int64) : uL v < 2 ^ 64 := v.toBitVec.isLt
theorem c_cutTo {fu b : Nat} {v : Int64} {M : mwM} {L : mwL} (h1 : 1 ≤ b) (h2 : b ≤ 64) : ∃ w, DX6_cutTo fu (sI b) v M L = some (w, M, L) ∧ uL w = uL v % 2 ^ b := by
  unfold DX6_cutTo fX6_cutTo_b17
  by_cases c : 64 ≤ b
  · refine ⟨v, by rw [if_pos (by rw [sI_lle (by decide) (by omega)]; exact c)], ?_⟩
    rw [show b = 64 from by omega, Nat.mod_eq_of_lt (uL_lt v)]
  · refine ⟨_, by rw [if_neg (by rw [sI_lle (by decide) (by omega)]; exact c)], cut64 v h1 (by omega)⟩
/-- octet q of a value of b bits -/
def vq (v : Int64) (b q : Nat) : Nat := uL v / 2 ^ (8 * q) % 2 ^ (if b - 8 * q < 8 then b - 8 * q else 8)
theorem vq_lt {v : Int64} {b q : Nat} : vq v b q < 256 := by
  unfold vq
  have h1 : uL v / 2 ^ (8 * q) % 2 ^ (if b - 8 * q < 8 then b - 8 * q else 8) < 2 ^ (if b - 8 * q < 8 then b - 8 * q else 8) := Nat.mod_lt _ (Nat.pow_pos (by omega))
  have h2 : 2 ^ (if b - 8 * q < 8 then b - 8 * q else 8) ≤ 2 ^ 8 := Nat.pow_le_pow_right (by omega) (by split <;> omega)
  omega
theorem vq_e {V b q : Nat} : V % 2 ^ b / 2 ^ (8 * q) % 256 = V / 2 ^ (8 * q) % 2 ^ (if b - 8 * q < 8 then b - 8 * q else 8) := by
  apply Nat.eq_of_testBit_eq
  intro i
  rw [show (256 : Nat) = 2 ^ 8 by decide, Nat.testBit_mod_two_pow, Nat.testBit_mod_two_pow, Nat.testBit_div_two_pow, Nat.testBit_div_two_pow, Nat.testBit_mod_two_pow]
  by_cases h1 : i < 8
  · by_cases h2 : i + 8 * q < b
    · rw [decide_eq_true h1, decide_eq_true h2, decide_eq_true (by split <;> omega)]
      rfl
    · rw [decide_eq_true h1, decide_eq_false h2, decide_eq_false (by split <;> omega)]
      rfl
  · have h3 : ¬ i < (if b - 8 * q < 8 then b - 8 * q else 8) := by split <;> omega
    rw [decide_eq_false h1, decide_eq_false h3, Bool.false_and, Bool.false_and]
theorem bit64 (v : Int64) {k : Nat} (h : k < 64) : (lg_cmp ((v >>> ((sI k).toInt64 &&& 63)) &&& 1) 1 = 0) ↔ uL v / 2 ^ k % 2 = 1 := by
  have h1 : (v >>> ((sI k).toInt64 &&& 63)).toBitVec = v.toBitVec.sshiftRight k := by
    have h0 : ∀ s, s < 64 → (sI s).toInt64 &&& 63 = sL s := by decide +kernel
    rw [h0 k h, Int64.toBitVec_shiftRight]
    have h5 : ∀ s, s < 64 → ((sL s).toBitVec.smod 64) = BitVec.ofNat 64 s := by decide +kernel
    rw [h5 k h, BitVec.sshiftRight_eq', BitVec.toNat_ofNat, Nat.mod_eq_of_lt (by omega)]
  have h2 : (((v >>> ((sI k).toInt64 &&& 63)) &&& 1) = 1) ↔ uL v / 2 ^ k % 2 = 1 := by
    have e1 : (((v >>> ((sI k).toInt64 &&& 63)) &&& 1).toBitVec).toNat = (v.toBitVec.sshiftRight k).toNat % 2 := by
      show ((v >>> ((sI k).toInt64 &&& 63)).toBitVec &&& (1 : Int64).toBitVec).toNat = _
      rw [h1, BitVec.toNat_and, show (1 : Int64).toBitVec.toNat = 2 ^ 1 - 1 by decide, Nat.and_two_pow_sub_one_eq_mod]
    have e2 : (v.toBitVec.sshiftRight k).toNat % 2 = uL v / 2 ^ k % 2 := by
      show _ = v.toBitVec.toNat / 2 ^ k % 2
      have t1 : (v.toBitVec.sshiftRight k).toNat.testBit 0 = v.toBitVec.toNat.testBit k := by
        have h7 : (v.toBitVec.sshiftRight k).toNat.testBit 0 = (v.toBitVec.sshiftRight k).getLsbD 0 := rfl
        rw [h7, BitVec.getLsbD_sshiftRight, if_pos (show k + 0 < 64 by omega), decide_eq_false (show ¬ 64 ≤ 0 by omega)]
        have h8 : v.toBitVec.toNat.testBit k = v.toBitVec.getLsbD k := rfl
        first | rw [h8] | skip
        simp
      have t2 : (v.toBitVec.toNat / 2 ^ k).testBit 0 = v.toBitVec.toNat.testBit k := by rw [Nat.testBit_div_two_pow, Nat.zero_add]
      rw [← t2, Nat.testBit_zero, Nat.testBit_zero] at t1
      have := decide_eq_decide.mp t1
      omega
    constructor
    · intro w
      rw [w] at e1
      rw [← e2, ← e1]
      rfl
    · intro w
      apply Int64.toBitVec_inj.mp
      apply BitVec.eq_of_toNat_eq
      rw [e1, e2, w]
      rfl
  rw [← h2]
  exact lg_cmp_eq _ _
/-- low r bits of x, the others of o -/
def mx (x o r : Nat) : Nat := x % 2 ^ r + 2 ^ r * (o / 2 ^ r)
def stp (h r : Nat) (t : Bool) : Nat := h - h / 2 ^ r % 2 * 2 ^ r + (if t = true then 2 ^ r else 0)
theorem r8 {r : Nat} (h : r < 8) : r = 0 ∨ r = 1 ∨ r = 2 ∨ r = 3 ∨ r = 4 ∨ r = 5 ∨ r = 6 ∨ r = 7 := by omega
theorem mx_st {x o r : Nat} {t : Bool} (hr : r < 8) (ho : o < 256) (ht : (x / 2 ^ r % 2 = 1) = (t = true)) : stp (mx x o r) r t = mx x o (r + 1) := by
  unfold stp mx
  have hx : x / 2 ^ r % 2 = if t = true then 1 else 0 := by
    cases t
    · rw [if_neg (by decide)]
      have : ¬ x / 2 ^ r % 2 = 1 := by rw [ht]; decide
      omega
    · rw [if_pos rfl, ht]
  rcases r8 hr with e | e | e | e | e | e | e | e <;> subst e <;> cases t <;> simp only [Nat.reducePow, Nat.reduceAdd] at hx ⊢ <;> simp at hx ⊢ <;> omega
theorem mx_0 {x o : Nat} : mx x o 0 = o := by unfold mx; rw [Nat.pow_zero, Nat.mod_one, Nat.div_one]; omega
theorem mx_w {x o r : Nat} (h : o < 2 ^ r) : mx x o r = x % 2 ^ r := by unfold mx; rw [Nat.div_eq_of_lt h]; omega
theorem mx_lt {x o r : Nat} (hr : r ≤ 8) (ho : o < 256) : mx x o r < 256 := by
  unfold mx
  have : r = 0 ∨ r = 1 ∨ r = 2 ∨ r = 3 ∨ r = 4 ∨ r = 5 ∨ r = 6 ∨ r = 7 ∨ r = 8 := by omega
  rcases this with e | e | e | e | e | e | e | e | e <;> subst e <;> simp only [Nat.reducePow] <;> omega
theorem st_1 : ∀ r, r < 8 → ∀ h, h < 256 → sI h ||| ((1 : Int32) <<< (sI r &&& 31)) = sI (stp h r true) := by decide +kernel
theorem st_0 : ∀ r, r < 8 → ∀ h, h < 256 → sI h &&& (((1 : Int32) <<< (sI r &&& 31)) ^^^ (-1)) = sI (stp h r false) := by decide +kernel
