/-! BUS: the ear, as a machine of numbers -/
def nst (h : Nat → Nat) (i v : Nat) : Nat → Nat := fun j => if j = i then v else h j
theorem nst_s {h : Nat → Nat} {i v : Nat} : nst h i v i = v := if_pos rfl
theorem nst_n {h : Nat → Nat} {i v j : Nat} (u : j ≠ i) : nst h i v j = h j := if_neg u
def crcS (top sh v b : Nat) : Nat := if v / top = b then 2 * (v % top) else (2 * (v % top)) ^^^ sh
theorem crcS_lt {m sh v b : Nat} (hs : sh < 2 ^ (m + 1)) : crcS (2 ^ m) sh v b < 2 ^ (m + 1) := by
  unfold crcS
  have h1 : v % 2 ^ m < 2 ^ m := Nat.mod_lt _ (Nat.two_pow_pos m)
  have h2 : 2 * (v % 2 ^ m) < 2 ^ (m + 1) := by rw [Nat.pow_succ]; omega
  split
  · exact h2
  · exact Nat.xor_lt_two_pow h2 hs
def c15 (v b : Nat) : Nat := crcS (2 ^ 14) 17817 v b
def c17 (v b : Nat) : Nat := crcS (2 ^ 16) 92251 v b
def c21 (v b : Nat) : Nat := crcS (2 ^ 20) 1058969 v b
theorem c15_lt (v b : Nat) : c15 v b < 32768 := crcS_lt (m := 14) (by decide)
theorem c17_lt (v b : Nat) : c17 v b < 131072 := crcS_lt (m := 16) (by decide)
theorem c21_lt (v b : Nat) : c21 v b < 2097152 := crcS_lt (m := 20) (by decide)
theorem sI_shl1 (v : Nat) : sI v <<< ((1 : Int32) &&& 31) = sI (2 * v) := by
  apply Int32.toBitVec_inj.mp
  rw [Int32.toBitVec_shiftLeft]
  have h1 : ((1 : Int32) &&& 31).toBitVec.smod 32 = BitVec.ofNat 32 1 := by decide
  rw [h1]
  show BitVec.ofNat 32 v <<< BitVec.ofNat 32 1 = BitVec.ofNat 32 (2 * v)
  apply BitVec.eq_of_toNat_eq
  simp [BitVec.toNat_shiftLeft, Nat.shiftLeft_eq]
  omega
theorem sh1or (v b : Nat) (hb : b < 2) : (sI v <<< ((1 : Int32) &&& 31)) ||| sI b = sI (2 * v + b) := by
  rw [sI_shl1, sI_or]
  congr 1
  have := Nat.shiftLeft_add_eq_or_of_lt (i := 1) (b := b) (by omega) v
  rw [Nat.shiftLeft_eq, Nat.pow_one] at this
  rw [Nat.mul_comm 2 v]
  omega
theorem c_crc {fu m sh v b : Nat} {w : Int32} {A : mwM} {L : mwL} (hm : m < 30) (hv : v < 2 ^ (m + 1)) (hv2 : v < 2000000000) (hb : b < 2) (w1 : (1 <<< (w &&& 31)) - 1 = sI (2 ^ (m + 1) - 1)) (w2 : (w - 1) &&& 31 = sI m) : DX5_nextCheck fu (sI v) (sI b) w (sI sh) A L = some (sI (crcS (2 ^ m) sh v b), A, L) := by
  unfold DX5_nextCheck fX5_nextCheck_b31
  have hp : 0 < 2 ^ m := Nat.two_pow_pos m
  have e1 : v / 2 ^ m < 2 := by
    rw [Nat.div_lt_iff_lt_mul hp]
    rw [Nat.pow_succ] at hv
    omega
  have e2 : 2 * v % 2 ^ (m + 1) = 2 * (v % 2 ^ m) := by
    rw [Nat.pow_succ, Nat.mul_comm (2 ^ m) 2, Nat.mul_mod_mul_left]
  rw [w1, w2, sI_shl1, sI_and, sI_shr hv2 (by omega), show (1 : Int32) = sI (2 ^ 1 - 1) from rfl, sI_and, Nat.mod_eq_of_lt (show v / 2 ^ m < 2 ^ 1 by omega), e2]
  simp only [mlet]
  rw [sI_xor]
  unfold crcS
  by_cases q : v / 2 ^ m = b
  · rw [if_pos (by rw [q]), if_pos q]
  · rw [if_neg (by rw [sI_eq (by omega) (by omega)]; exact q), if_neg q]
theorem c_crc15 {fu v b : Nat} {A : mwM} {L : mwL} (hv : v < 32768) (hb : b < 2) : DX5_nextCheck fu (sI v) (sI b) 15 17817 A L = some (sI (c15 v b), A, L) := c_crc (m := 14) (sh := 17817) (by omega) (by omega) (by omega) hb (by decide) (by decide)
theorem c_crc17 {fu v b : Nat} {A : mwM} {L : mwL} (hv : v < 131072) (hb : b < 2) : DX5_nextCheck fu (sI v) (sI b) 17 92251 A L = some (sI (c17 v b), A, L) := c_crc (m := 16) (sh := 92251) (by omega) (by omega) (by omega) hb (by decide) (by decide)
theorem c_crc21 {fu v b : Nat} {A : mwM} {L : mwL} (hv : v < 2097152) (hb : b < 2) : DX5_nextCheck fu (sI v) (sI b) 21 1058969 A L = some (sI (c21 v b), A, L) := c_crc (m := 20) (sh := 1058969) (by omega) (by omega) (by omega) hb (by decide) (by decide)
def EaR (A : mwM) (k : Nat) (h : Nat → Nat) : Prop := ∀ i, 1 ≤ i → i ≤ 19 → A k i = sI (h i)
def OcR (A : mwM) (k : Nat) (o : Nat → Nat) : Prop := ∀ i, i < 64 → A (k + 1) i = sI (o i) ∧ o i < 256
theorem EaR_s {A : mwM} {k i v : Nat} {h : Nat → Nat} (hE : EaR A k h) : EaR (mset A k i (sI v)) k (nst h i v) := by
  intro j h1 h2
  by_cases q : j = i
  · rw [q, mset_s, nst_s]
  · rw [mset_n (by omega), nst_n q]; exact hE j h1 h2
theorem EaR_o {A : mwM} {k r i : Nat} {x : Int32} {h : Nat → Nat} (hE : EaR A k h) (u : r ≠ k) : EaR (mset A r i x) k h := by
  intro j h1 h2
  rw [mset_n (by omega)]; exact hE j h1 h2
theorem EaR_f {A A' : mwM} {k : Nat} {h : Nat → Nat} (hE : EaR A k h) (u : ∀ y, A' k y = A k y) : EaR A' k h := by
  intro j h1 h2
  rw [u]; exact hE j h1 h2
theorem OcR_f {A A' : mwM} {k : Nat} {o : Nat → Nat} (hE : OcR A k o) (u : ∀ y, A' (k + 1) y = A (k + 1) y) : OcR A' k o := by
  intro j h1
  rw [u]; exact hE j h1
def octF (c : Nat) : Nat := [0, 1, 2, 3, 4, 5, 6, 7, 8, 12, 16, 20, 24, 32, 48, 64].getD c 0
theorem octF_le : ∀ c, octF c ≤ 64 := by
  intro c
  by_cases h : c < 16
  · have : ∀ c, c < 16 → octF c ≤ 64 := by decide
    exact this c h
  · unfold octF
    rw [List.getD_eq_getElem?_getD, List.getElem?_eq_none (by simp; omega)]
    exact Nat.zero_le _
theorem flex_o : ∀ c, c < 16 → mw_flex.getD c 0 = sI (octF c) := by decide
def hHead (n b : Nat) (h : Nat → Nat) : Nat → Nat :=
  if (1 ≤ n ∧ n ≤ 11) ∨ (h 12 = 1 ∧ 14 ≤ n ∧ n ≤ 31) then nst h 10 (2 * h 10 + b)
  else if n = 12 ∨ n = 32 then nst h 11 b
  else if n = 13 then nst h 12 b
  else if n = 14 ∨ n = 33 then nst (nst h 13 b) 15 (n + 1 + 3 * b + (if h 12 = 1 ∧ b = 0 then 1 else 0))
  else h
def hOc (h : Nat → Nat) : Nat := if h 13 = 1 then octF (h 14) else if h 11 = 1 then 0 else (if 8 < h 14 then 8 else h 14)
def hEnds (h : Nat → Nat) : Nat → Nat := nst (nst h 16 (hOc h)) 17 (h 15 + 4 + 8 * hOc h)
def hC (b : Nat) (h : Nat → Nat) : Nat → Nat := nst (nst (nst h 7 (c15 (h 7) b)) 8 (c17 (h 8) b)) 9 (c21 (h 9) b)
def hPlain (n b : Nat) (h : Nat → Nat) : Nat → Nat :=
  if n < h 17 then
    if h 15 ≤ n then
      if h 15 + 4 ≤ n then hC b h
      else if n = h 15 + 3 then hEnds (nst (hC b h) 14 (2 * h 14 + b)) else nst (hC b h) 14 (2 * h 14 + b)
    else hHead n b (hC b h)
  else nst h 18 (2 * h 18 + b)
def oPlain (n b : Nat) (h o : Nat → Nat) : Nat → Nat := if n < h 17 ∧ h 15 + 4 ≤ n then nst o ((n - h 15 - 4) / 8) ((2 * o ((n - h 15 - 4) / 8) + b) % 256) else o
theorem c_hearHead {fu k n b : Nat} {h : Nat → Nat} {A : mwM} {L : mwL} (hE : EaR A k h) (hn : n < 200000) (hb : b < 2) (h12 : h 12 < 2) : wq (DX5_hearHead fu k (sI n) (sI b) A L) (fun z => z.2 = L ∧ EaR z.1 k (hHead n b h) ∧ ∀ a y, a ≠ k → z.1 a y = A a y) := by
  unfold DX5_hearHead fX5_hearHead_b11 fX5_hearHead_b31 fX5_hearHead_b46 fX5_hearHead_b58 fX5_hearHead_b92 fX5_hearHead_b121 fX5_hearHead_b122 fX5_hearHead_b126
  simp only [mlet]
  have e10 := hE 10 (by omega) (by omega)
  have e12 := hE 12 (by omega) (by omega)
  have ea : (sI n + 1) + 3 * sI b = sI (n + 1 + 3 * b) := by rw [sI_1, sI_lml, sI_add]
  have eb : sI (n + 1 + 3 * b) + 1 = sI (n + 1 + 3 * b + 1) := sI_1
  have ec : sI (n + 1 + 3 * b) + 0 = sI (n + 1 + 3 * b + 0) := sI_add (b := 0)
  rw [ea, eb, ec, e10, sh1or _ _ hb]
  have q1 : (sI n < 1) = (n < 1) := propext (sI_ltl (by omega) (by decide))
  have q2 : (sI n ≤ 11) = (n ≤ 11) := propext (sI_lel (by omega) (by decide))
  have q3 : (sI (h 12) = 1) = (h 12 = 1) := propext (sI_eql (by omega) (by decide))
  have q4 : (sI n < 14) = (n < 14) := propext (sI_ltl (by omega) (by decide))
  have q5 : (31 < sI n) = (31 < n) := propext (sI_llt (by decide) (by omega))
  have q6 : (sI n = 12) = (n = 12) := propext (sI_eql (by omega) (by decide))
  have q7 : (sI n = 32) = (n = 32) := propext (sI_eql (by omega) (by decide))
  have q8 : (sI n = 13) = (n = 13) := propext (sI_eql (by omega) (by decide))
  have q9 : (sI n = 14) = (n = 14) := propext (sI_eql (by omega) (by decide))
  have q10 : (sI n = 33) = (n = 33) := propext (sI_eql (by omega) (by decide))
  have q11 : (sI b = 0) = (b = 0) := propext (sI_eql (by omega) (by decide))
  rw [e12, mset_n (show ¬ (k = k ∧ 12 = 13) by omega), e12]
  simp only [q1, q2, q3, q4, q5, q6, q7, q8, q9, q10, q11]
  have p1 : EaR (mset A k 10 (sI (2 * h 10 + b))) k (nst h 10 (2 * h 10 + b)) := EaR_s hE
  unfold hHead
  by_cases a1 : (1 ≤ n ∧ n ≤ 11)
  · rw [if_neg (show ¬ n < 1 by omega), if_pos (show n ≤ 11 by omega), if_pos (Or.inl a1)]
    exact wq_some ⟨rfl, p1, fun a y u => mset_n (by omega)⟩
  · by_cases a2 : (h 12 = 1 ∧ 14 ≤ n ∧ n ≤ 31)
    · rw [if_neg (show ¬ n < 1 by omega), if_neg (show ¬ n ≤ 11 by omega), if_pos (show h 12 = 1 from a2.1), if_neg (show ¬ n < 14 by omega), if_neg (show ¬ 31 < n by omega), if_pos (Or.inr a2)]
      exact wq_some ⟨rfl, p1, fun a y u => mset_n (by omega)⟩
    · rw [if_neg (show ¬ ((1 ≤ n ∧ n ≤ 11) ∨ (h 12 = 1 ∧ 14 ≤ n ∧ n ≤ 31)) from fun z => z.elim a1 a2)]
      have key : ∀ (o X Y : Option (mwM × mwL)) (Q : mwM × mwL → Prop), wq o Q → wq (if n < 1 then (if h 12 = 1 then (if n < 14 then o else if 31 < n then o else X) else o) else if n ≤ 11 then Y else (if h 12 = 1 then (if n < 14 then o else if 31 < n then o else X) else o)) Q := by
        intro o X Y Q ho
        by_cases b1 : n < 1
        · rw [if_pos b1, if_pos (show n < 14 by omega)]
          split <;> exact ho
        · rw [if_neg b1, if_neg (show ¬ n ≤ 11 by omega)]
          by_cases b2 : h 12 = 1
          · rw [if_pos b2]
            by_cases b3 : n < 14
            · rw [if_pos b3]; exact ho
            · rw [if_neg b3, if_pos (show 31 < n by omega)]; exact ho
          · rw [if_neg b2]; exact ho
      apply key
      by_cases a3 : n = 12 ∨ n = 32
      · rw [if_pos a3]
        have : wq (some (mset A k 11 (sI b), L)) (fun z => z.2 = L ∧ EaR z.1 k (nst h 11 b) ∧ ∀ a y, a ≠ k → z.1 a y = A a y) := wq_some ⟨rfl, EaR_s hE, fun a y u => mset_n (by omega)⟩
        by_cases b1 : n = 12
        · rw [if_pos b1]; exact this
        · rw [if_neg b1, if_pos (show n = 32 by omega)]; exact this
      · rw [if_neg a3, if_neg (show ¬ n = 12 by omega), if_neg (show ¬ n = 32 by omega)]
        by_cases a4 : n = 13
        · rw [if_pos a4, if_pos a4]
          exact wq_some ⟨rfl, EaR_s hE, fun a y u => mset_n (by omega)⟩
        · rw [if_neg a4, if_neg a4]
          by_cases a5 : n = 14 ∨ n = 33
          · rw [if_pos a5]
            have g : wq (if h 12 = 1 then (if b = 0 then some (mset (mset A k 13 (sI b)) k 15 (sI (n + 1 + 3 * b + 1)), L) else some (mset (mset A k 13 (sI b)) k 15 (sI (n + 1 + 3 * b + 0)), L)) else some (mset (mset A k 13 (sI b)) k 15 (sI (n + 1 + 3 * b + 0)), L)) (fun z => z.2 = L ∧ EaR z.1 k (nst (nst h 13 b) 15 (n + 1 + 3 * b + (if h 12 = 1 ∧ b = 0 then 1 else 0))) ∧ ∀ a y, a ≠ k → z.1 a y = A a y) := by
              have gg : ∀ x, wq (some (mset (mset A k 13 (sI b)) k 15 (sI x), L)) (fun z => z.2 = L ∧ EaR z.1 k (nst (nst h 13 b) 15 x) ∧ ∀ a y, a ≠ k → z.1 a y = A a y) := fun x => wq_some ⟨rfl, EaR_s (EaR_s hE), fun a y u => by
                dsimp only
                rw [mset_n (by omega), mset_n (by omega)]⟩
              by_cases b1 : h 12 = 1
              · rw [if_pos b1]
                by_cases b2 : b = 0
                · rw [if_pos b2, if_pos (show h 12 = 1 ∧ b = 0 from ⟨b1, b2⟩)]
                  exact gg _
                · rw [if_neg b2, if_neg (show ¬ (h 12 = 1 ∧ b = 0) from fun z => b2 z.2)]
                  exact gg _
              · rw [if_neg b1, if_neg (show ¬ (h 12 = 1 ∧ b = 0) from fun z => b1 z.1)]
                exact gg _
            by_cases b1 : n = 14
            · rw [if_pos b1]; exact g
            · rw [if_neg b1, if_pos (show n = 33 by omega)]; exact g
          · rw [if_neg a5, if_neg (show ¬ n = 14 by omega), if_neg (show ¬ n = 33 by omega)]
            exact wq_some ⟨rfl, hE, fun _ _ _ => rfl⟩
