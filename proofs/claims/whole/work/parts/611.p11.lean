/-! BUS: the ear, as a machine of numbers -/
def nst (h : Nat → Nat) (i v : Nat) : Nat → Nat := fun j => if j = i then v else h j
theorem nst_s {h : Nat → Nat} {i v : Nat} : nst h i v i = v := if_pos rfl
theorem nst_n {h : Nat → Nat} {i v j : Nat} (u : j ≠ i) : nst h i v j = h j := if_neg u
def crcS (top sh v b : Nat) : Nat := if v / top = b then 2 * (v % top) else (2 * (v % top)) ^^^ sh
theorem crcS_lt {m sh v b : Nat} (hs : sh < 2 ^ (m + 1)) : crcS (2 ^ m) sh v b < 2 ^ (m + 1) := by
  unfold crcS
  have h1 : v % 2 ^ m < 2 ^ m := Nat.mod_lt _ (Nat.two_pow_pos m)
  have h2 : 2 * (v % 2 ^ m) < 2 ^ (m + 1) := by rw [Nat.pow_succ]; omega
  split
  · exact h2
  · exact Nat.xor_lt_two_pow h2 hs
def c15 (v b : Nat) : Nat := crcS (2 ^ 14) 17817 v b
def c17 (v b : Nat) : Nat := crcS (2 ^ 16) 92251 v b
def c21 (v b : Nat) : Nat := crcS (2 ^ 20) 1058969 v b
theorem c15_lt (v b : Nat) : c15 v b < 32768 := crcS_lt (m := 14) (by decide)
theorem c17_lt (v b : Nat) : c17 v b < 131072 := crcS_lt (m := 16) (by decide)
theorem c21_lt (v b : Nat) : c21 v b < 2097152 := crcS_lt (m := 20) (by decide)
theorem sI_shl1 (v : Nat) : sI v <<< ((1 : Int32) &&& 31) = sI (2 * v) := by
  apply Int32.toBitVec_inj.mp
  rw [Int32.toBitVec_shiftLeft]
  have h1 : ((1 : Int32) &&& 31).toBitVec.smod 32 = BitVec.ofNat 32 1 := by decide
  rw [h1]
  show BitVec.ofNat 32 v <<< BitVec.ofNat 32 1 = BitVec.ofNat 32 (2 * v)
  apply BitVec.eq_of_toNat_eq
  simp [BitVec.toNat_shiftLeft, Nat.shiftLeft_eq]
  omega
theorem sh1or (v b : Nat) (hb : b < 2) : (sI v <<< ((1 : Int32) &&& 31)) ||| sI b = sI (2 * v + b) := by
  rw [sI_shl1, sI_or]
  congr 1
  have := Nat.shiftLeft_add_eq_or_of_lt (i := 1) (b := b) (by omega) v
  rw [Nat.shiftLeft_eq, Nat.pow_one] at this
  rw [Nat.mul_comm 2 v]
  omega
theorem c_crc {fu m sh v b : Nat} {w : Int32} {A : mwM} {L : mwL} (hm : m < 30) (hv : v < 2 ^ (m + 1)) (hv2 : v < 2000000000) (hb : b < 2) (w1 : (1 <<< (w &&& 31)) - 1 = sI (2 ^ (m + 1) - 1)) (w2 : (w - 1) &&& 31 = sI m) : DX5_nextCheck fu (sI v) (sI b) w (sI sh) A L = some (sI (crcS (2 ^ m) sh v b), A, L) := by
  unfold DX5_nextCheck fX5_nextCheck_b31
  have hp : 0 < 2 ^ m := Nat.two_pow_pos m
  have e1 : v / 2 ^ m < 2 := by
    rw [Nat.div_lt_iff_lt_mul hp]
    rw [Nat.pow_succ] at hv
    omega
  have e2 : 2 * v % 2 ^ (m + 1) = 2 * (v % 2 ^ m) := by
    rw [Nat.pow_succ, Nat.mul_comm (2 ^ m) 2, Nat.mul_mod_mul_left]
  rw [w1, w2, sI_shl1, sI_and, sI_shr hv2 (by omega), show (1 : Int32) = sI (2 ^ 1 - 1) from rfl, sI_and, Nat.mod_eq_of_lt (show v / 2 ^ m < 2 ^ 1 by omega), e2]
  simp only [mlet]
  rw [sI_xor]
  unfold crcS
  by_cases q : v / 2 ^ m = b
  · rw [if_pos (by rw [q]), if_pos q]
  · rw [if_neg (by rw [sI_eq (by omega) (by omega)]; exact q), if_neg q]
theorem c_crc15 {fu v b : Nat} {A : mwM} {L : mwL} (hv : v < 32768) (hb : b < 2) : DX5_nextCheck fu (sI v) (sI b) 15 17817 A L = some (sI (c15 v b), A, L) := c_crc (m := 14) (sh := 17817) (by omega) (by omega) (by omega) hb (by decide) (by decide)
theorem c_crc17 {fu v b : Nat} {A : mwM} {L : mwL} (hv : v < 131072) (hb : b < 2) : DX5_nextCheck fu (sI v) (sI b) 17 92251 A L = some (sI (c17 v b), A, L) := c_crc (m := 16) (sh := 92251) (by omega) (by omega) (by omega) hb (by decide) (by decide)
theorem c_crc21 {fu v b : Nat} {A : mwM} {L : mwL} (hv : v < 2097152) (hb : b < 2) : DX5_nextCheck fu (sI v) (sI b) 21 1058969 A L = some (sI (c21 v b), A, L) := c_crc (m := 20) (sh := 1058969) (by omega) (by omega) (by omega) hb (by decide) (by decide)
def EaR (A : mwM) (k : Nat) (h : Nat → Nat) : Prop := ∀ i, 1 ≤ i → i ≤ 19 → A k i = sI (h i)
def OcR (A : mwM) (k : Nat) (o : Nat → Nat) : Prop := ∀ i, i < 64 → A (k + 1) i = sI (o i) ∧ o i < 256
theorem EaR_s {A : mwM} {k i v : Nat} {h : Nat → Nat} (hE : EaR A k h) : EaR (mset A k i (sI v)) k (nst h i v) := by
  intro j h1 h2
  by_cases q : j = i
  · rw [q, mset_s, nst_s]
  · rw [mset_n (by omega), nst_n q]; exact hE j h1 h2
theorem EaR_o {A : mwM} {k r i : Nat} {x : Int32} {h : Nat → Nat} (hE : EaR A k h) (u : r ≠ k) : EaR (mset A r i x) k h := by
  intro j h1 h2
  rw [mset_n (by omega)]; exact hE j h1 h2
theorem EaR_f {A A' : mwM} {k : Nat} {h : Nat → Nat} (hE : EaR A k h) (u : ∀ y, A' k y = A k y) : EaR A' k h := by
  intro j h1 h2
  rw [u]; exact hE j h1 h2
theorem OcR_f {A A' : mwM} {k : Nat} {o : Nat → Nat} (hE : OcR A k o) (u : ∀ y, A' (k + 1) y = A (k + 1) y) : OcR A' k o := by
  intro j h1
  rw [u]; exact hE j h1
def octF (c : Nat) : Nat := [0, 1, 2, 3, 4, 5, 6, 7, 8, 12, 16, 20, 24, 32, 48, 64].getD c 0
theorem octF_le : ∀ c, octF c ≤ 64 := by
  intro c
  by_cases h : c < 16
  · have : ∀ c, c < 16 → octF c ≤ 64 := by decide
    exact this c h
  · unfold octF
    rw [List.getD_eq_getElem?_getD, List.getElem?_eq_none (by simp; omega)]
    exact Nat.zero_le _
theorem flex_o : ∀ c, c < 16 → mw_flex.getD c 0 = sI (octF c) := by decide
def hHead (n b : Nat) (h : Nat → Nat) : Nat → Nat :=
  if (1 ≤ n ∧ n ≤ 11) ∨ (h 12 = 1 ∧ 14 ≤ n ∧ n ≤ 31) then nst h 10 (2 * h 10 + b)
  else if n = 12 ∨ n = 32 then nst h 11 b
  else if n = 13 then nst h 12 b
  else if n = 14 ∨ n = 33 then nst (nst h 13 b) 15 (n + 1 + 3 * b + (if h 12 = 1 ∧ b = 0 then 1 else 0))
  else h
def hOc (h : Nat → Nat) : Nat := if h 13 = 1 then octF (h 14) else if h 11 = 1 then 0 else (if 8 < h 14 then 8 else h 14)
def hEnds (h : Nat → Nat) : Nat → Nat := nst (nst h 16 (hOc h)) 17 (h 15 + 4 + 8 * hOc h)
def hC (b : Nat) (h : Nat → Nat) : Nat → Nat := nst (nst (nst h 7 (c15 (h 7) b)) 8 (c17 (h 8) b)) 9 (c21 (h 9) b)
def hPlain (n b : Nat) (h : Nat → Nat) : Nat → Nat :=
  if n < h 17 then
    if h 15 ≤ n then
      if h 15 + 4 ≤ n then hC b h
      else if n = h 15 + 3 then hEnds (nst (hC b h) 14 (2 * h 14 + b)) else nst (hC b h) 14 (2 * h 14 + b)
    else hHead n b (hC b h)
  else nst h 18 (2 * h 18 + b)
def oPlain (n b : Nat) (h o : Nat → Nat) : Nat → Nat := if n < h 17 ∧ h 15 + 4 ≤ n then nst o ((n - h 15 - 4) / 8) ((2 * o ((n - h 15 - 4) / 8) + b) % 256) else o
theorem c_hearHead {fu k n b : Nat} {h : Nat → Nat} {A : mwM} {L : mwL} (hE : EaR A k h) (hn : n < 200000) (hb : b < 2) (h12 : h 12 < 2) : wq (DX5_hearHead fu k (sI n) (sI b) A L) (fun z => z.2 = L ∧ EaR z.1 k (hHead n b h) ∧ ∀ a y, a ≠ k → z.1 a y = A a y) := by
  unfold DX5_hearHead fX5_hearHead_b11 fX5_hearHead_b31 fX5_hearHead_b46 fX5_hearHead_b58 fX5_hearHead_b92 fX5_hearHead_b121 fX5_hearHead_b122 fX5_hearHead_b126
  simp only [mlet]
  have e10 := hE 10 (by omega) (by omega)
  have e12 := hE 12 (by omega) (by omega)
  have ea : (sI n + 1) + 3 * sI b = sI (n + 1 + 3 * b) := by rw [sI_1, sI_lml, sI_add]
  have eb : sI (n + 1 + 3 * b) + 1 = sI (n + 1 + 3 * b + 1) := sI_1
  have ec : sI (n + 1 + 3 * b) + 0 = sI (n + 1 + 3 * b + 0) := sI_add (b := 0)
  rw [ea, eb, ec, e10, sh1or _ _ hb]
  have q1 : (sI n < 1) = (n < 1) := propext (sI_ltl (by omega) (by decide))
  have q2 : (sI n ≤ 11) = (n ≤ 11) := propext (sI_lel (by omega) (by decide))
  have q3 : (sI (h 12) = 1) = (h 12 = 1) := propext (sI_eql (by omega) (by decide))
  have q4 : (sI n < 14) = (n < 14) := propext (sI_ltl (by omega) (by decide))
  have q5 : (31 < sI n) = (31 < n) := propext (sI_llt (by decide) (by omega))
  have q6 : (sI n = 12) = (n = 12) := propext (sI_eql (by omega) (by decide))
  have q7 : (sI n = 32) = (n = 32) := propext (sI_eql (by omega) (by decide))
  have q8 : (sI n = 13) = (n = 13) := propext (sI_eql (by omega) (by decide))
  have q9 : (sI n = 14) = (n = 14) := propext (sI_eql (by omega) (by decide))
  have q10 : (sI n = 33) = (n = 33) := propext (sI_eql (by omega) (by decide))
  have q11 : (sI b = 0) = (b = 0) := propext (sI_eql (by omega) (by decide))
  rw [e12, mset_n (show ¬ (k = k ∧ 12 = 13) by omega), e12]
  simp only [q1, q2, q3, q4, q5, q6, q7, q8, q9, q10, q11]
  have p1 : EaR (mset A k 10 (sI (2 * h 10 + b))) k (nst h 10 (2 * h 10 + b)) := EaR_s hE
  unfold hHead
  by_cases a1 : (1 ≤ n ∧ n ≤ 11)
  · rw [if_neg (show ¬ n < 1 by omega), if_pos (show n ≤ 11 by omega), if_pos (Or.inl a1)]
    exact wq_some ⟨rfl, p1, fun a y u => mset_n (by omega)⟩
  · by_cases a2 : (h 12 = 1 ∧ 14 ≤ n ∧ n ≤ 31)
    · rw [if_neg (show ¬ n < 1 by omega), if_neg (show ¬ n ≤ 11 by omega), if_pos (show h 12 = 1 from a2.1), if_neg (show ¬ n < 14 by omega), if_neg (show ¬ 31 < n by omega), if_pos (Or.inr a2)]
      exact wq_some ⟨rfl, p1, fun a y u => mset_n (by omega)⟩
    · rw [if_neg (show ¬ ((1 ≤ n ∧ n ≤ 11) ∨ (h 12 = 1 ∧ 14 ≤ n ∧ n ≤ 31)) from fun z => z.elim a1 a2)]
      have key : ∀ (o X Y : Option (mwM × mwL)) (Q : mwM × mwL → Prop), wq o Q → wq (if n < 1 then (if h 12 = 1 then (if n < 14 then o else if 31 < n then o else X) else o) else if n ≤ 11 then Y else (if h 12 = 1 then (if n < 14 then o else if 31 < n then o else X) else o)) Q := by
        intro o X Y Q ho
        by_cases b1 : n < 1
        · rw [if_pos b1, if_pos (show n < 14 by omega)]
          split <;> exact ho
        · rw [if_neg b1, if_neg (show ¬ n ≤ 11 by omega)]
          by_cases b2 : h 12 = 1
          · rw [if_pos b2]
            by_cases b3 : n < 14
            · rw [if_pos b3]; exact ho
            · rw [if_neg b3, if_pos (show 31 < n by omega)]; exact ho
          · rw [if_neg b2]; exact ho
      apply key
      by_cases a3 : n = 12 ∨ n = 32
      · rw [if_pos a3]
        have : wq (some (mset A k 11 (sI b), L)) (fun z => z.2 = L ∧ EaR z.1 k (nst h 11 b) ∧ ∀ a y, a ≠ k → z.1 a y = A a y) := wq_some ⟨rfl, EaR_s hE, fun a y u => mset_n (by omega)⟩
        by_cases b1 : n = 12
        · rw [if_pos b1]; exact this
        · rw [if_neg b1, if_pos (show n = 32 by omega)]; exact this
      · rw [if_neg a3, if_neg (show ¬ n = 12 by omega), if_neg (show ¬ n = 32 by omega)]
        by_cases a4 : n = 13
        · rw [if_pos a4, if_pos a4]
          exact wq_some ⟨rfl, EaR_s hE, fun a y u => mset_n (by omega)⟩
        · rw [if_neg a4, if_neg a4]
          by_cases a5 : n = 14 ∨ n = 33
          · rw [if_pos a5]
            have g : wq (if h 12 = 1 then (if b = 0 then some (mset (mset A k 13 (sI b)) k 15 (sI (n + 1 + 3 * b + 1)), L) else some (mset (mset A k 13 (sI b)) k 15 (sI (n + 1 + 3 * b + 0)), L)) else some (mset (mset A k 13 (sI b)) k 15 (sI (n + 1 + 3 * b + 0)), L)) (fun z => z.2 = L ∧ EaR z.1 k (nst (nst h 13 b) 15 (n + 1 + 3 * b + (if h 12 = 1 ∧ b = 0 then 1 else 0))) ∧ ∀ a y, a ≠ k → z.1 a y = A a y) := by
              have gg : ∀ x, wq (some (mset (mset A k 13 (sI b)) k 15 (sI x), L)) (fun z => z.2 = L ∧ EaR z.1 k (nst (nst h 13 b) 15 x) ∧ ∀ a y, a ≠ k → z.1 a y = A a y) := fun x => wq_some ⟨rfl, EaR_s (EaR_s hE), fun a y u => by
                dsimp only
                rw [mset_n (by omega), mset_n (by omega)]⟩
              by_cases b1 : h 12 = 1
              · rw [if_pos b1]
                by_cases b2 : b = 0
                · rw [if_pos b2, if_pos (show h 12 = 1 ∧ b = 0 from ⟨b1, b2⟩)]
                  exact gg _
                · rw [if_neg b2, if_neg (show ¬ (h 12 = 1 ∧ b = 0) from fun z => b2 z.2)]
                  exact gg _
              · rw [if_neg b1, if_neg (show ¬ (h 12 = 1 ∧ b = 0) from fun z => b1 z.1)]
                exact gg _
            by_cases b1 : n = 14
            · rw [if_pos b1]; exact g
            · rw [if_neg b1, if_pos (show n = 33 by omega)]; exact g
          · rw [if_neg a5, if_neg (show ¬ n = 14 by omega), if_neg (show ¬ n = 33 by omega)]
            exact wq_some ⟨rfl, hE, fun _ _ _ => rfl⟩
/-! the ear: plain bits -/
theorem c_findEnds {fu k : Nat} {h : Nat → Nat} {A : mwM} {L : mwL} (hE : EaR A k h) (h11 : h 11 < 2) (h13 : h 13 < 2) (h14 : h 14 < 16) (h15 : h 15 < 200000) : wq (DX5_findEnds fu k A L) (fun z => z.2 = L ∧ EaR z.1 k (hEnds h) ∧ ∀ a y, a ≠ k → z.1 a y = A a y) := by
  unfold DX5_findEnds fX5_findEnds_b45 fX5_findEnds_b48
  simp only [mlet]
  rw [hE 11 (by omega) (by omega), hE 13 (by omega) (by omega), hE 14 (by omega) (by omega)]
  have e15 := hE 15 (by omega) (by omega)
  have gg : ∀ x, wq (some (mset (mset A k 16 (sI x)) k 17 ((((mset A k 16 (sI x)) k 15) + 4) + (8 * ((mset A k 16 (sI x)) k 16))), L)) (fun z => z.2 = L ∧ EaR z.1 k (nst (nst h 16 x) 17 (h 15 + 4 + 8 * x)) ∧ ∀ a y, a ≠ k → z.1 a y = A a y) := fun x => by
    rw [mset_s, mset_n (show ¬ (k = k ∧ 15 = 16) by omega), e15, sI_lml, sI_adl, sI_add]
    refine wq_some ⟨rfl, EaR_s (EaR_s hE), fun a y u => ?_⟩
    dsimp only
    rw [mset_n (by omega), mset_n (by omega)]
  unfold hEnds hOc
  by_cases a1 : h 13 = 1
  · rw [if_pos (show sI (h 13) = 1 by rw [a1]; rfl), if_pos a1, mck_s h14 (by omega), sI_nn (by omega), flex_o _ h14]
    exact gg _
  · rw [if_neg (show ¬ sI (h 13) = 1 by rw [sI_eql (by omega) (by decide)]; exact a1), if_neg a1]
    by_cases a2 : h 11 = 1
    · rw [if_pos (show sI (h 11) = 1 by rw [a2]; rfl), if_pos a2]
      exact gg 0
    · rw [if_neg (show ¬ sI (h 11) = 1 by rw [sI_eql (by omega) (by decide)]; exact a2), if_neg a2]
      by_cases a3 : 8 < h 14
      · rw [if_pos (show 8 < sI (h 14) by rw [sI_llt (by decide) (by omega)]; exact a3), if_pos a3]
        exact gg 8
      · rw [if_neg (show ¬ 8 < sI (h 14) by rw [sI_llt (by decide) (by omega)]; exact a3), if_neg a3]
        exact gg _
theorem and255n (n : Nat) : sI n &&& 255 = sI (n % 256) := sI_and (m := 8)
theorem c_hearPlain {fu k n b : Nat} {h o : Nat → Nat} {A : mwM} {L : mwL} (hE : EaR A k h) (hO : OcR A k o) (hn : n < 200000) (hb : b < 2) (h7 : h 7 < 32768) (h8 : h 8 < 131072) (h9 : h 9 < 2097152) (h11 : h 11 < 2) (h12 : h 12 < 2) (h13 : h 13 < 2) (h15 : h 15 < 200000) (h17 : h 17 < 200000) (h14 : n = h 15 + 3 → 2 * h 14 + b < 16) (ho : n < h 17 → h 15 + 4 ≤ n → (n - h 15 - 4) / 8 < 64) : wq (DX5_hearPlain fu k (sI n) (sI b) A L) (fun z => z.2 = L ∧ EaR z.1 k (hPlain n b h) ∧ OcR z.1 k (oPlain n b h o) ∧ ∀ a y, a ≠ k → a ≠ k + 1 → z.1 a y = A a y) := by
  unfold DX5_hearPlain fX5_hearPlain_b158
  simp only [mlet]
  rw [hE 17 (by omega) (by omega), hE 18 (by omega) (by omega), hE 7 (by omega) (by omega)]
  have e8 := hE 8 (by omega) (by omega)
  have e9 := hE 9 (by omega) (by omega)
  unfold hPlain oPlain
  by_cases a1 : n < h 17
  · rw [if_pos (show sI n < sI (h 17) by rw [sI_lt (by omega) (by omega)]; exact a1), if_pos a1, c_crc15 h7 hb, mb3_s, mset_n (show ¬ (k = k ∧ 8 = 7) by omega), e8, c_crc17 h8 hb, mb3_s, mset_n (show ¬ (k = k ∧ 9 = 8) by omega), mset_n (show ¬ (k = k ∧ 9 = 7) by omega), e9, c_crc21 h9 hb, mb3_s]
    generalize hA1 : mset (mset (mset A k 7 (sI (c15 (h 7) b))) k 8 (sI (c17 (h 8) b))) k 9 (sI (c21 (h 9) b)) = A1
    have E1 : EaR A1 k (hC b h) := by
      rw [← hA1]
      exact EaR_s (EaR_s (EaR_s hE))
    have f1 : ∀ a y, a ≠ k → A1 a y = A a y := fun a y u => by rw [← hA1, mset_n (by omega), mset_n (by omega), mset_n (by omega)]
    have v14 : hC b h 14 = h 14 := rfl
    have v15 : hC b h 15 = h 15 := rfl
    have e14 := E1 14 (by omega) (by omega)
    have e15 := E1 15 (by omega) (by omega)
    rw [v14] at e14
    rw [v15] at e15
    rw [e15]
    by_cases a2 : h 15 ≤ n
    · rw [if_pos (show sI (h 15) ≤ sI n by rw [sI_le (by omega) (by omega)]; exact a2), if_pos a2, sI_adl]
      by_cases a3 : h 15 + 4 ≤ n
      · have hi := ho a1 a3
        rw [if_pos (show sI (h 15 + 4) ≤ sI n by rw [sI_le (by omega) (by omega)]; exact a3), if_pos a3, if_pos ⟨a1, a3⟩, sI_sub (by omega), show sI (n - h 15) - 4 = sI (n - h 15 - 4) from sI_sub (b := 4) (by omega), show sI (n - h 15 - 4) / 8 = sI ((n - h 15 - 4) / 8) from sI_div (b := 8) (by omega) (by omega)]
        generalize (n - h 15 - 4) / 8 = i at hi
        obtain ⟨o1, o2⟩ := hO i hi
        rw [mck_s hi (by omega), mck_s hi (by omega), sI_nn (by omega), f1 (k + 1) i (by omega), o1, sh1or _ _ hb, and255n]
        refine wq_some ⟨rfl, EaR_o E1 (by omega), fun j u => ?_, fun a y u1 u2 => ?_⟩
        · by_cases q : j = i
          · rw [q, nst_s]
            exact ⟨mset_s, Nat.mod_lt _ (by decide)⟩
          · rw [nst_n q]
            dsimp only
            rw [mset_n (by omega), f1 _ _ (by omega)]
            exact hO j u
        · dsimp only
          rw [mset_n (by omega), f1 a y u1]
      · rw [if_neg (show ¬ sI (h 15 + 4) ≤ sI n by rw [sI_le (by omega) (by omega)]; exact a3), if_neg a3, if_neg (show ¬ (n < h 17 ∧ h 15 + 4 ≤ n) from fun z => a3 z.2), e14, sh1or _ _ hb]
        have E2 : EaR (mset A1 k 14 (sI (2 * h 14 + b))) k (nst (hC b h) 14 (2 * h 14 + b)) := EaR_s E1
        rw [mset_n (show ¬ (k = k ∧ 15 = 14) by omega), e15, sI_adl]
        by_cases a4 : n = h 15 + 3
        · rw [if_pos (show sI n = sI (h 15 + 3) by rw [a4]), if_pos a4]
          refine wq_b2 (c_findEnds E2 (show h 11 < 2 from h11) (show h 13 < 2 from h13) (show 2 * h 14 + b < 16 from h14 a4) (show h 15 < 200000 from h15)) ?_
          rintro A2 L2 ⟨y1, y2, y3⟩
          dsimp only at y1 y2 y3
          refine wq_some ⟨y1, y2, fun j u => ?_, fun a y u1 u2 => ?_⟩
          · dsimp only
            rw [y3 _ _ (by omega), mset_n (by omega), f1 _ _ (by omega)]
            exact hO j u
          · dsimp only
            rw [y3 a y u1, mset_n (by omega), f1 a y u1]
        · rw [if_neg (show ¬ sI n = sI (h 15 + 3) by rw [sI_eq (by omega) (by omega)]; exact a4), if_neg a4]
          refine wq_some ⟨rfl, E2, fun j u => ?_, fun a y u1 u2 => ?_⟩
          · dsimp only
            rw [mset_n (by omega), f1 _ _ (by omega)]
            exact hO j u
          · dsimp only
            rw [mset_n (by omega), f1 a y u1]
    · rw [if_neg (show ¬ sI (h 15) ≤ sI n by rw [sI_le (by omega) (by omega)]; exact a2), if_neg a2, if_neg (show ¬ (n < h 17 ∧ h 15 + 4 ≤ n) from fun z => by omega)]
      refine wq_b2 (c_hearHead E1 hn hb (show h 12 < 2 from h12)) ?_
      rintro A2 L2 ⟨y1, y2, y3⟩
      dsimp only at y1 y2 y3
      refine wq_some ⟨y1, y2, fun j u => ?_, fun a y u1 u2 => ?_⟩
      · dsimp only
        rw [y3 _ _ (by omega), f1 _ _ (by omega)]
        exact hO j u
      · dsimp only
        rw [y3 a y u1, f1 a y u1]
  · rw [if_neg (show ¬ sI n < sI (h 17) by rw [sI_lt (by omega) (by omega)]; exact a1), if_neg a1, if_neg (show ¬ (n < h 17 ∧ h 15 + 4 ≤ n) from fun z => a1 z.1), sh1or _ _ hb]
    refine wq_some ⟨rfl, EaR_s hE, fun j u => ?_, fun a y u1 u2 => mset_n (by omega)⟩
    dsimp only
    rw [mset_n (by omega)]
    exact hO j u
/-! the ear: one bit -/
def sEnd (h : Nat → Nat) : Nat := if h 13 = 1 then h 17 else h 17 + 15
theorem c_stuffedEnd {fu k : Nat} {h : Nat → Nat} {A : mwM} {L : mwL} (hE : EaR A k h) (h13 : h 13 < 2) : DX5_stuffedEnd fu k A L = some (sI (sEnd h), A, L) := by
  unfold DX5_stuffedEnd fX5_stuffedEnd_b22 sEnd
  rw [hE 13 (by omega) (by omega), hE 17 (by omega) (by omega), sI_adl]
  by_cases a1 : h 13 = 1
  · rw [if_pos (show sI (h 13) = 1 by rw [a1]; rfl), if_pos a1]
  · rw [if_neg (show ¬ sI (h 13) = 1 by rw [sI_eql (by omega) (by decide)]; exact a1), if_neg a1]
def hStuff (b : Nat) (h : Nat → Nat) : Nat → Nat := nst (nst (nst (nst (nst h 2 b) 3 1) 4 (h 4 + 1)) 8 (c17 (h 8) b)) 9 (c21 (h 9) b)
def hPl0 (b : Nat) (h : Nat → Nat) : Nat → Nat := hPlain (h 5) b (nst (nst (nst h 3 (if b = h 2 then h 3 + 1 else 1)) 2 b) 5 (h 5 + 1))
def hPl1 (h : Nat → Nat) : Nat → Nat := if h 5 = sEnd h then (if h 13 = 1 then nst h 1 1 else if h 3 < 5 then nst h 1 2 else h) else h
def rI (r : Nat) : Int32 := if r = 0 then -1 else if r = 6 then -2 else if r = 7 then -3 else sI r
def cntF (s : Nat) : Nat := [0, 3, 6, 5, 12, 15, 10, 9].getD (s % 8) 0
theorem cnt_c : ∀ n, n < 8 → ∀ (A : mwM) (L : mwL) (fu : Nat), (mb3 (DX6_bitCount_0f7a4 fu (sI n ^^^ (sI n / 2)) A L) (fun r7 M5 L6 => some (((sI n ^^^ (sI n / 2)) <<< (1 &&& 31)) ||| (r7 &&& 1), M5, L6)) : Option (Int32 × mwM × mwL)) = some (sI (cntF n), A, L) := by
  intro n hn A L fu
  unfold DX6_bitCount_0f7a4
  simp only [mlet, mb3_s]
  rcases (show n = 0 ∨ n = 1 ∨ n = 2 ∨ n = 3 ∨ n = 4 ∨ n = 5 ∨ n = 6 ∨ n = 7 by omega) with rfl | rfl | rfl | rfl | rfl | rfl | rfl | rfl <;> rfl
theorem c_count {fu k : Nat} {h : Nat → Nat} {A : mwM} {L : mwL} (hE : EaR A k h) (h4 : h 4 < 2000000000) : DX5_countOfStuffs fu k A L = some (sI (cntF (h 4)), A, L) := by
  unfold DX5_countOfStuffs
  rw [hE 4 (by omega) (by omega), show sI (h 4) - sI (h 4) / 8 * 8 = sI (h 4 % 8) from sI_mod (b := 8) h4 (by omega)]
  simp only [mlet]
  rw [cnt_c _ (Nat.mod_lt _ (by decide))]
  unfold cntF
  rw [Nat.mod_mod]
def hRight (h : Nat → Nat) : Bool := if h 13 = 0 then decide (h 18 = h 7) else decide (h 18 = (if 16 < h 16 then h 9 else h 8))
theorem c_right {fu k : Nat} {h : Nat → Nat} {A : mwM} {L : mwL} (hE : EaR A k h) (h13 : h 13 < 2) (h16 : h 16 < 1000) (h18 : h 18 < 2000000000) (h7 : h 7 < 32768) (h8 : h 8 < 131072) (h9 : h 9 < 2097152) : DX5_isCheckRight fu k A L = some (bI (hRight h), A, L) := by
  unfold DX5_isCheckRight fX5_isCheckRight_b23 fX5_isCheckRight_b48 fX5_isCheckRight_b56
  rw [hE 13 (by omega) (by omega), hE 16 (by omega) (by omega), hE 18 (by omega) (by omega), hE 7 (by omega) (by omega), hE 8 (by omega) (by omega), hE 9 (by omega) (by omega)]
  simp only [mzz_0, mzz_1]
  by_cases a1 : h 13 = 0
  · rw [if_pos (show sI (h 13) = 0 by rw [a1]; rfl)]
    by_cases a2 : h 18 = h 7
    · rw [if_pos (show sI (h 18) = sI (h 7) by rw [a2]), show hRight h = true by unfold hRight; rw [if_pos a1]; exact decide_eq_true a2]
      rfl
    · rw [if_neg (show ¬ sI (h 18) = sI (h 7) by rw [sI_eq (by omega) (by omega)]; exact a2), show hRight h = false by unfold hRight; rw [if_pos a1]; exact decide_eq_false a2]
      rfl
  · rw [if_neg (show ¬ sI (h 13) = 0 by rw [sI_eql (by omega) (by decide)]; exact a1)]
    have gg : ∀ x, x < 2000000000 → (if 16 < h 16 then h 9 else h 8) = x → (if sI (h 18) = sI x then some ((1 : Int32), A, L) else some ((0 : Int32), A, L)) = some (bI (hRight h), A, L) := by
      intro x hx hx2
      by_cases a2 : h 18 = x
      · rw [if_pos (show sI (h 18) = sI x by rw [a2]), show hRight h = true by unfold hRight; rw [if_neg a1, hx2]; exact decide_eq_true a2]
        rfl
      · rw [if_neg (show ¬ sI (h 18) = sI x by rw [sI_eq (by omega) (by omega)]; exact a2), show hRight h = false by unfold hRight; rw [if_neg a1, hx2]; exact decide_eq_false a2]
        rfl
    by_cases a3 : 16 < h 16
    · rw [if_pos (show 16 < sI (h 16) by rw [sI_llt (by decide) (by omega)]; exact a3)]
      exact gg _ (by omega) (if_pos a3)
    · rw [if_neg (show ¬ 16 < sI (h 16) by rw [sI_llt (by decide) (by omega)]; exact a3)]
      exact gg _ (by omega) (if_neg a3)
/-! the ear: one bit, in each stage -/
theorem hC_n {b i : Nat} {h : Nat → Nat} (hi : i ≠ 7 ∧ i ≠ 8 ∧ i ≠ 9) : hC b h i = h i := by
  unfold hC
  rw [nst_n (by omega), nst_n (by omega), nst_n (by omega)]
theorem hEnds_n {i : Nat} {h : Nat → Nat} (hi : i ≠ 16 ∧ i ≠ 17) : hEnds h i = h i := by
  unfold hEnds
  rw [nst_n (by omega), nst_n (by omega)]
theorem hHead_n {n b i : Nat} {h : Nat → Nat} (hi : i ≠ 10 ∧ i ≠ 11 ∧ i ≠ 12 ∧ i ≠ 13 ∧ i ≠ 15) : hHead n b h i = h i := by
  unfold hHead
  split
  · rw [nst_n (by omega)]
  · split
    · rw [nst_n (by omega)]
    · split
      · rw [nst_n (by omega)]
      · split
        · rw [nst_n (by omega), nst_n (by omega)]
        · rfl
theorem hPlain_n {n b i : Nat} {h : Nat → Nat} (hi : i < 7 ∨ i = 19) : hPlain n b h i = h i := by
  unfold hPlain
  split
  · split
    · split
      · exact hC_n (by omega)
      · split
        · rw [hEnds_n (by omega), nst_n (by omega)]
          exact hC_n (by omega)
        · rw [nst_n (by omega)]
          exact hC_n (by omega)
    · rw [hHead_n (by omega)]
      exact hC_n (by omega)
  · rw [nst_n (by omega)]
theorem c_rest {fu k : Nat} {x : Int32} {g : Nat → Nat} {A : mwM} {L : mwL} (hE : EaR A k g) (g3 : g 3 < 1000) (g5 : g 5 < 200000) (g13 : g 13 < 2) (g17 : g 17 < 200000) : wq (fX5_hear_b124 fu k x A L) (fun z => z.1 = -1 ∧ z.2.2 = L ∧ EaR z.2.1 k (hPl1 g) ∧ ∀ a y, a ≠ k → z.2.1 a y = A a y) := by
  unfold fX5_hear_b124 fX5_hear_b151 fX5_hear_b175
  have sb : sEnd g < 1000000 := by unfold sEnd; split <;> omega
  rw [c_stuffedEnd hE g13, mb3_s, c_stuffedEnd hE g13, mb3_s, hE 3 (by omega) (by omega), hE 5 (by omega) (by omega), hE 13 (by omega) (by omega)]
  simp only [mlet]
  unfold hPl1
  by_cases a1 : g 5 = sEnd g
  · rw [if_pos (show sI (g 5) = sI (sEnd g) by rw [a1]), if_pos a1]
    by_cases a2 : g 13 = 1
    · rw [if_pos (show sI (g 13) = 1 by rw [a2]; rfl), if_pos a2]
      exact wq_some ⟨rfl, rfl, EaR_s (v := 1) hE, fun a y u => mset_n (by omega)⟩
    · rw [if_neg (show ¬ sI (g 13) = 1 by rw [sI_eql (by omega) (by decide)]; exact a2), if_neg a2, if_pos (show sI (g 5) = sI (sEnd g) by rw [a1])]
      by_cases a3 : g 3 < 5
      · rw [if_neg (show ¬ 5 ≤ sI (g 3) by rw [sI_lle (by decide) (by omega)]; omega), if_pos a3]
        exact wq_some ⟨rfl, rfl, EaR_s (v := 2) hE, fun a y u => mset_n (by omega)⟩
      · rw [if_pos (show 5 ≤ sI (g 3) by rw [sI_lle (by decide) (by omega)]; omega), if_neg a3]
        exact wq_some ⟨rfl, rfl, hE, fun _ _ _ => rfl⟩
  · have n1 : ¬ sI (g 5) = sI (sEnd g) := by rw [sI_eq (by omega) (by omega)]; exact a1
    simp only [if_neg n1]
    rw [if_neg a1]
    exact wq_some ⟨rfl, rfl, hE, fun _ _ _ => rfl⟩
theorem mb3_id3 {o : Option (Int32 × mwM × mwL)} : mb3 o (fun r M L => some (r, M, L)) = o := by
  cases o with
  | none => rfl
  | some p => rfl
theorem c_hearS {fu k b : Nat} {h o : Nat → Nat} {A : mwM} {L : mwL} (hE : EaR A k h) (hO : OcR A k o) (hb : b < 2) (h1 : h 1 = 0) (h2 : h 2 < 2) (h3 : h 3 = 5) (h5 : h 5 < 200000) (h8 : h 8 < 131072) (h9 : h 9 < 2097152) (h13 : h 13 < 2) (h17 : h 17 < 200000) : wq (DX5_hear fu k (sI b) A L) (fun z => z.1 = rI (if b = h 2 then 1 else 0) ∧ z.2.2 = L ∧ (b ≠ h 2 → EaR z.2.1 k (if h 5 = sEnd h then nst (hStuff b h) 1 2 else hStuff b h) ∧ OcR z.2.1 k o) ∧ ∀ a y, a ≠ k → z.2.1 a y = A a y) := by
  unfold DX5_hear DX5_hearStuffBit fX5_hearStuffBit_b78
  have e1 := hE 1 (by omega) (by omega)
  have e2 := hE 2 (by omega) (by omega)
  have e3 := hE 3 (by omega) (by omega)
  have e4 := hE 4 (by omega) (by omega)
  have e5 := hE 5 (by omega) (by omega)
  have e8 := hE 8 (by omega) (by omega)
  have e9 := hE 9 (by omega) (by omega)
  rw [h1] at e1
  rw [h3] at e3
  rw [e1, e2, e3, if_neg (show ¬ sI 0 = 1 by decide), if_neg (show ¬ sI 0 = 2 by decide), if_pos (show sI 5 = 5 from rfl)]
  by_cases a1 : b = h 2
  · rw [if_pos (show sI b = sI (h 2) by rw [a1]), if_pos a1, mb3_s]
    exact wq_some ⟨rfl, rfl, fun z => absurd a1 z, fun _ _ _ => rfl⟩
  · rw [if_neg (show ¬ sI b = sI (h 2) by rw [sI_eq (by omega) (by omega)]; exact a1), if_neg a1]
    simp only [mlet]
    simp (disch := omega) only [mset_n, e4, e8, e9, sI_1]
    rw [c_crc17 h8 hb, mb3_s]
    simp (disch := omega) only [mset_n, e9]
    rw [c_crc21 h9 hb, mb3_s]
    generalize hA1 : mset (mset (mset (mset (mset A k 2 (sI b)) k 3 1) k 4 (sI (h 4 + 1))) k 8 (sI (c17 (h 8) b))) k 9 (sI (c21 (h 9) b)) = A1
    have E1 : EaR A1 k (hStuff b h) := by
      rw [← hA1]
      exact EaR_s (EaR_s (EaR_s (EaR_s (v := 1) (EaR_s hE))))
    have f1 : ∀ a y, a ≠ k → A1 a y = A a y := fun a y u => by rw [← hA1, mset_n (by omega), mset_n (by omega), mset_n (by omega), mset_n (by omega), mset_n (by omega)]
    have sv : sEnd (hStuff b h) = sEnd h := rfl
    have s5 : hStuff b h 5 = h 5 := rfl
    have sb : sEnd h < 1000000 := by unfold sEnd; split <;> omega
    rw [c_stuffedEnd E1 (show h 13 < 2 from h13), mb3_s, sv]
    simp (disch := omega) only [mset_n, e5]
    by_cases a2 : h 5 = sEnd h
    · rw [if_pos (show sI (h 5) = sI (sEnd h) by rw [a2]), if_pos a2, mb3_s]
      refine wq_some ⟨rfl, rfl, fun _ => ⟨EaR_s (v := 2) E1, fun j u => ?_⟩, fun a y u => ?_⟩
      · dsimp only
        rw [mset_n (by omega), f1 _ _ (by omega)]
        exact hO j u
      · dsimp only
        rw [mset_n (by omega), f1 a y u]
    · rw [if_neg (show ¬ sI (h 5) = sI (sEnd h) by rw [sI_eq (by omega) (by omega)]; exact a2), if_neg a2, mb3_s]
      refine wq_some ⟨rfl, rfl, fun _ => ⟨E1, fun j u => ?_⟩, fun a y u => ?_⟩
      · dsimp only
        rw [f1 _ _ (by omega)]
        exact hO j u
      · dsimp only
        rw [f1 a y u]
/-- a plain bit -/
theorem c_hearP {fu k b : Nat} {h o : Nat → Nat} {A : mwM} {L : mwL} (hE : EaR A k h) (hO : OcR A k o) (hb : b < 2) (h1 : h 1 = 0) (h2 : h 2 < 2) (h3 : h 3 < 5) (h5 : h 5 < 100000) (h7 : h 7 < 32768) (h8 : h 8 < 131072) (h9 : h 9 < 2097152) (h11 : h 11 < 2) (h12 : h 12 < 2) (h13 : h 13 < 2) (h15 : h 15 < 200000) (h17 : h 17 < 200000) (h14 : h 5 = h 15 + 3 → 2 * h 14 + b < 16) (ho : h 5 < h 17 → h 15 + 4 ≤ h 5 → (h 5 - h 15 - 4) / 8 < 64) (g12 : hPl0 b h 12 < 2) (g13 : hPl0 b h 13 < 2) (g17 : hPl0 b h 17 < 200000) : wq (DX5_hear fu k (sI b) A L) (fun z => z.1 = rI (if b = 1 ∧ hPl0 b h 13 = 1 ∧ h 5 = (if hPl0 b h 12 = 1 then 34 else 15) then 2 else 0) ∧ z.2.2 = L ∧ (¬ (b = 1 ∧ hPl0 b h 13 = 1 ∧ h 5 = (if hPl0 b h 12 = 1 then 34 else 15)) → EaR z.2.1 k (hPl1 (hPl0 b h))) ∧ OcR z.2.1 k (oPlain (h 5) b h o) ∧ ∀ a y, a ≠ k → a ≠ k + 1 → z.2.1 a y = A a y) := by
  unfold DX5_hear
  have e1 := hE 1 (by omega) (by omega)
  have e2 := hE 2 (by omega) (by omega)
  have e3 := hE 3 (by omega) (by omega)
  have e5 := hE 5 (by omega) (by omega)
  rw [h1] at e1
  rw [e1, e2, e3, if_neg (show ¬ sI 0 = 1 by decide), if_neg (show ¬ sI 0 = 2 by decide), if_neg (show ¬ sI (h 3) = 5 by rw [sI_eql (by omega) (by decide)]; omega)]
  rw [sI_1]
  -- the number of like bits
  have both : ∀ (Q : Int32 × mwM × mwL → Prop), wq (fX5_hear_b61 fu k (sI b) (sI (if b = h 2 then h 3 + 1 else 1)) A L) Q → wq (if sI b = sI (h 2) then fX5_hear_b61 fu k (sI b) (sI (h 3 + 1)) A L else fX5_hear_b61 fu k (sI b) 1 A L) Q := by
    intro Q hF
    by_cases a1 : b = h 2
    · rw [if_pos (show sI b = sI (h 2) by rw [a1])]
      rw [if_pos a1] at hF
      exact hF
    · rw [if_neg (show ¬ sI b = sI (h 2) by rw [sI_eq (by omega) (by omega)]; exact a1)]
      rw [if_neg a1] at hF
      exact hF
  refine both _ ?_
  unfold fX5_hear_b61 fX5_hear_b119
  simp only [mlet]
  simp (disch := omega) only [mset_n, e5, sI_1]
  have E0 : EaR (mset (mset (mset A k 3 (sI (if b = h 2 then h 3 + 1 else 1))) k 2 (sI b)) k 5 (sI (h 5 + 1))) k (nst (nst (nst h 3 (if b = h 2 then h 3 + 1 else 1)) 2 b) 5 (h 5 + 1)) := EaR_s (EaR_s (EaR_s hE))
  have O0 : OcR (mset (mset (mset A k 3 (sI (if b = h 2 then h 3 + 1 else 1))) k 2 (sI b)) k 5 (sI (h 5 + 1))) k o := fun j u => by
    rw [mset_n (by omega), mset_n (by omega), mset_n (by omega)]
    exact hO j u
  refine wq_b2 (c_hearPlain (n := h 5) (b := b) E0 O0 (by omega) hb (show h 7 < 32768 from h7) (show h 8 < 131072 from h8) (show h 9 < 2097152 from h9) (show h 11 < 2 from h11) (show h 12 < 2 from h12) (show h 13 < 2 from h13) (show h 15 < 200000 from h15) (show h 17 < 200000 from h17) h14 ho) ?_
  rintro A1 L1 ⟨y1, y2, y3, y4⟩
  dsimp only at y1 y2 y3 y4
  subst y1
  have y2' : EaR A1 k (hPl0 b h) := y2
  have y3' : OcR A1 k (oPlain (h 5) b h o) := y3
  have f1 : ∀ a y, a ≠ k → a ≠ k + 1 → A1 a y = A a y := fun a y u1 u2 => by rw [y4 a y u1 u2, mset_n (by omega), mset_n (by omega), mset_n (by omega)]
  clear y2 y3 y4
  have g3 : hPl0 b h 3 < 1000 := by
    unfold hPl0
    rw [hPlain_n (by omega)]
    show (if b = h 2 then h 3 + 1 else 1) < 1000
    split <;> omega
  have g5 : hPl0 b h 5 < 200000 := by
    unfold hPl0
    rw [hPlain_n (by omega)]
    show h 5 + 1 < 200000
    omega
  generalize hPl0 b h = g at *
  have rest := wq_mono (Q := fun z => z.1 = rI 0 ∧ z.2.2 = L1 ∧ (EaR z.2.1 k (hPl1 g) ∧ OcR z.2.1 k (oPlain (h 5) b h o)) ∧ ∀ a y, a ≠ k → a ≠ k + 1 → z.2.1 a y = A a y) (c_rest (fu := fu) (x := sI b) (L := L1) y2' g3 g5 g13 g17) (fun z hz => ⟨hz.1, hz.2.1, ⟨hz.2.2.1, OcR_f y3' (fun y => hz.2.2.2 _ y (by omega))⟩, fun a y u1 u2 => by rw [hz.2.2.2 a y u1]; exact f1 a y u1 u2⟩)
  rw [y2' 12 (by omega) (by omega), y2' 13 (by omega) (by omega)]
  have fin : ¬ (b = 1 ∧ g 13 = 1 ∧ h 5 = (if g 12 = 1 then 34 else 15)) → wq (fX5_hear_b124 fu k (sI b) A1 L1) (fun z => z.1 = rI (if b = 1 ∧ g 13 = 1 ∧ h 5 = (if g 12 = 1 then 34 else 15) then 2 else 0) ∧ z.2.2 = L1 ∧ (¬ (b = 1 ∧ g 13 = 1 ∧ h 5 = (if g 12 = 1 then 34 else 15)) → EaR z.2.1 k (hPl1 g)) ∧ OcR z.2.1 k (oPlain (h 5) b h o) ∧ ∀ a y, a ≠ k → a ≠ k + 1 → z.2.1 a y = A a y) := by
    intro hno
    rw [if_neg hno]
    exact wq_mono rest (fun z hz => ⟨hz.1, hz.2.1, fun _ => hz.2.2.1.1, hz.2.2.1.2, hz.2.2.2⟩)
  by_cases a1 : b = 1
  · rw [if_pos (show sI b = 1 by rw [a1]; rfl)]
    by_cases a2 : g 13 = 1
    · rw [if_pos (show sI (g 13) = 1 by rw [a2]; rfl)]
      by_cases a3 : g 12 = 1
      · rw [if_pos (show sI (g 12) = 1 by rw [a3]; rfl)]
        by_cases a4 : h 5 = 34
        · have yes : b = 1 ∧ g 13 = 1 ∧ h 5 = (if g 12 = 1 then 34 else 15) := ⟨a1, a2, by rw [if_pos a3]; exact a4⟩
          rw [if_pos (show sI (h 5) = 34 by rw [a4]; rfl), if_pos yes]
          exact wq_some ⟨rfl, rfl, fun z => absurd yes z, y3', f1⟩
        · rw [if_neg (show ¬ sI (h 5) = 34 by rw [sI_eql (by omega) (by decide)]; exact a4)]
          exact fin (fun z => a4 (by have := z.2.2; rw [if_pos a3] at this; exact this))
      · rw [if_neg (show ¬ sI (g 12) = 1 by rw [sI_eql (by omega) (by decide)]; exact a3)]
        by_cases a4 : h 5 = 15
        · have yes : b = 1 ∧ g 13 = 1 ∧ h 5 = (if g 12 = 1 then 34 else 15) := ⟨a1, a2, by rw [if_neg a3]; exact a4⟩
          rw [if_pos (show sI (h 5) = 15 by rw [a4]; rfl), if_pos yes]
          exact wq_some ⟨rfl, rfl, fun z => absurd yes z, y3', f1⟩
        · rw [if_neg (show ¬ sI (h 5) = 15 by rw [sI_eql (by omega) (by decide)]; exact a4)]
          exact fin (fun z => a4 (by have := z.2.2; rw [if_neg a3] at this; exact this))
    · rw [if_neg (show ¬ sI (g 13) = 1 by rw [sI_eql (by omega) (by decide)]; exact a2)]
      exact fin (fun z => a2 z.2.1)
  · rw [if_neg (show ¬ sI b = 1 by rw [sI_eql (by omega) (by decide)]; exact a1)]
    exact fin (fun z => a1 z.1)
/-- behind the stuffed bits of a flexible frame -/
def hFix (b : Nat) (h : Nat → Nat) : Nat → Nat :=
  if h 6 % 5 = 0 then nst (nst h 6 (h 6 + 1)) 2 b
  else if 4 ≤ h 6 - h 6 / 5 - 1 then
    (if h 6 - h 6 / 5 - 1 = 3 + (if 16 < h 16 then 21 else 17) then nst (nst (nst (nst (nst h 6 (h 6 + 1)) 2 b) 18 (2 * h 18 + b)) 1 2) 6 0 else nst (nst (nst h 6 (h 6 + 1)) 2 b) 18 (2 * h 18 + b))
  else nst (nst (nst (nst (nst h 6 (h 6 + 1)) 2 b) 19 (2 * h 19 + b)) 8 (c17 (h 8) b)) 9 (c21 (h 9) b)
def rFix (b : Nat) (h : Nat → Nat) : Nat :=
  if h 6 % 5 = 0 then (if b = h 2 then 1 else 0)
  else if h 6 - h 6 / 5 - 1 = 3 ∧ 2 * h 19 + b ≠ cntF (h 4) then 1 else 0
theorem cntF_lt (s : Nat) : cntF s < 16 := by
  have : ∀ s, s < 8 → cntF s < 16 := by decide
  have h2 := this (s % 8) (Nat.mod_lt _ (by decide))
  unfold cntF at h2 ⊢
  rw [Nat.mod_mod] at h2
  exact h2
theorem c_hearF {fu k b : Nat} {h : Nat → Nat} {A : mwM} {L : mwL} (hE : EaR A k h) (hb : b < 2) (h1 : h 1 = 1) (h2 : h 2 < 2) (h4 : h 4 < 2000000000) (h6 : h 6 < 1000) (h8 : h 8 < 131072) (h9 : h 9 < 2097152) (h16 : h 16 < 1000) (h19 : h 19 < 1000) : wq (DX5_hear fu k (sI b) A L) (fun z => z.1 = rI (rFix b h) ∧ z.2.2 = L ∧ EaR z.2.1 k (hFix b h) ∧ ∀ a y, a ≠ k → z.2.1 a y = A a y) := by
  unfold DX5_hear DX5_hearFixed
  have e1 := hE 1 (by omega) (by omega)
  rw [h1] at e1
  rw [e1, if_pos (show sI 1 = 1 from rfl)]
  simp only [mb3_id3, mlet]
  rw [hE 2 (by omega) (by omega), hE 6 (by omega) (by omega)]
  have both : ∀ (Q : Int32 × mwM × mwL → Prop), (∀ s : Int32, (s = 0 ↔ b ≠ h 2) → wq (fX5_hearFixed_b18 fu k (sI b) (sI (h 6)) s A L) Q) → wq (if sI b = sI (h 2) then fX5_hearFixed_b18 fu k (sI b) (sI (h 6)) 1 A L else fX5_hearFixed_b18 fu k (sI b) (sI (h 6)) 0 A L) Q := by
    intro Q hF
    by_cases a1 : b = h 2
    · rw [if_pos (show sI b = sI (h 2) by rw [a1])]
      exact hF 1 ⟨fun z => absurd z (by decide), fun z => absurd a1 z⟩
    · rw [if_neg (show ¬ sI b = sI (h 2) by rw [sI_eq (by omega) (by omega)]; exact a1)]
      exact hF 0 ⟨fun _ => a1, fun _ => rfl⟩
  refine both _ (fun s hs => ?_)
  unfold fX5_hearFixed_b18 fX5_hearFixed_b49 fX5_hearFixed_b130 fX5_hearFixed_b131 fX5_hearFixed_b163 fX5_hearFixed_b177
  simp only [mlet]
  rw [hE 6 (by omega) (by omega), sI_1, show sI (h 6) - sI (h 6) / 5 * 5 = sI (h 6 % 5) from sI_mod (b := 5) (by omega) (by omega), show sI (h 6) / 5 = sI (h 6 / 5) from sI_div (b := 5) (by omega) (by omega)]
  generalize hA1 : mset (mset A k 6 (sI (h 6 + 1))) k 2 (sI b) = A1
  have E1 : EaR A1 k (nst (nst h 6 (h 6 + 1)) 2 b) := by
    rw [← hA1]
    exact EaR_s (EaR_s hE)
  have f1 : ∀ a y, a ≠ k → A1 a y = A a y := fun a y u => by rw [← hA1, mset_n (by omega), mset_n (by omega)]
  unfold hFix rFix
  by_cases a1 : h 6 % 5 = 0
  · rw [if_pos (show sI (h 6 % 5) = 0 by rw [a1]; rfl), if_pos a1, if_pos a1]
    by_cases a2 : b = h 2
    · rw [if_neg (show ¬ s = 0 from fun z => (hs.mp z) a2), if_pos a2]
      exact wq_some ⟨rfl, rfl, E1, f1⟩
    · rw [if_pos (show s = 0 from hs.mpr a2), if_neg a2]
      exact wq_some ⟨rfl, rfl, E1, f1⟩
  · rw [if_neg (show ¬ sI (h 6 % 5) = 0 by rw [sI_eql (by omega) (by decide)]; exact a1), if_neg a1, if_neg a1, sI_sub (by omega), show sI (h 6 - h 6 / 5) - 1 = sI (h 6 - h 6 / 5 - 1) from sI_sub (b := 1) (by omega)]
    generalize hn : h 6 - h 6 / 5 - 1 = n at *
    by_cases a2 : 4 ≤ n
    · rw [if_pos (show 4 ≤ sI n by rw [sI_lle (by decide) (by omega)]; exact a2), if_pos a2, if_neg (show ¬ (n = 3 ∧ 2 * h 19 + b ≠ cntF (h 4)) from fun z => by omega), E1 18 (by omega) (by omega), show (nst (nst h 6 (h 6 + 1)) 2 b) 18 = h 18 from rfl, sh1or _ _ hb, mset_n (show ¬ (k = k ∧ 16 = 18) by omega), E1 16 (by omega) (by omega), show (nst (nst h 6 (h 6 + 1)) 2 b) 16 = h 16 from rfl]
      have gg : ∀ w : Nat, w < 100 → (if 16 < h 16 then 21 else 17) = w → wq (if sI n = 3 + sI w then some ((-1 : Int32), mset (mset (mset A1 k 18 (sI (2 * h 18 + b))) k 1 2) k 6 0, L) else some (-1, mset A1 k 18 (sI (2 * h 18 + b)), L)) (fun z => z.1 = rI 0 ∧ z.2.2 = L ∧ EaR z.2.1 k (if n = 3 + (if 16 < h 16 then 21 else 17) then nst (nst (nst (nst (nst h 6 (h 6 + 1)) 2 b) 18 (2 * h 18 + b)) 1 2) 6 0 else nst (nst (nst h 6 (h 6 + 1)) 2 b) 18 (2 * h 18 + b)) ∧ ∀ a y, a ≠ k → z.2.1 a y = A a y) := by
        intro w hw hw2
        rw [hw2, sI_lad]
        by_cases a3 : n = 3 + w
        · rw [if_pos (show sI n = sI (3 + w) by rw [a3]), if_pos a3]
          refine wq_some ⟨rfl, rfl, EaR_s (v := 0) (EaR_s (v := 2) (EaR_s E1)), fun a y u => ?_⟩
          dsimp only
          rw [mset_n (by omega), mset_n (by omega), mset_n (by omega), f1 a y u]
        · rw [if_neg (show ¬ sI n = sI (3 + w) by rw [sI_eq (by omega) (by omega)]; exact a3), if_neg a3]
          refine wq_some ⟨rfl, rfl, EaR_s E1, fun a y u => ?_⟩
          dsimp only
          rw [mset_n (by omega), f1 a y u]
      by_cases a4 : 16 < h 16
      · rw [if_pos (show 16 < sI (h 16) by rw [sI_llt (by decide) (by omega)]; exact a4)]
        exact gg 21 (by omega) (if_pos a4)
      · rw [if_neg (show ¬ 16 < sI (h 16) by rw [sI_llt (by decide) (by omega)]; exact a4)]
        exact gg 17 (by omega) (if_neg a4)
    · rw [if_neg (show ¬ 4 ≤ sI n by rw [sI_lle (by decide) (by omega)]; exact a2), if_neg a2, E1 19 (by omega) (by omega), show (nst (nst h 6 (h 6 + 1)) 2 b) 19 = h 19 from rfl, sh1or _ _ hb, mset_n (show ¬ (k = k ∧ 8 = 19) by omega), E1 8 (by omega) (by omega), show (nst (nst h 6 (h 6 + 1)) 2 b) 8 = h 8 from rfl, c_crc17 h8 hb, mb3_s, mset_n (show ¬ (k = k ∧ 9 = 8) by omega), mset_n (show ¬ (k = k ∧ 9 = 19) by omega), E1 9 (by omega) (by omega), show (nst (nst h 6 (h 6 + 1)) 2 b) 9 = h 9 from rfl, c_crc21 h9 hb, mb3_s]
      generalize hA2 : mset (mset (mset A1 k 19 (sI (2 * h 19 + b))) k 8 (sI (c17 (h 8) b))) k 9 (sI (c21 (h 9) b)) = A2
      have E2 : EaR A2 k (nst (nst (nst (nst (nst h 6 (h 6 + 1)) 2 b) 19 (2 * h 19 + b)) 8 (c17 (h 8) b)) 9 (c21 (h 9) b)) := by
        rw [← hA2]
        exact EaR_s (EaR_s (EaR_s E1))
      have f2 : ∀ a y, a ≠ k → A2 a y = A a y := fun a y u => by rw [← hA2, mset_n (by omega), mset_n (by omega), mset_n (by omega), f1 a y u]
      by_cases a3 : n = 3
      · have hlt := cntF_lt (h 4)
        rw [if_pos (show sI n = 3 by rw [a3]; rfl), c_count E2 h4, mb3_s, E2 19 (by omega) (by omega), show (nst (nst (nst (nst (nst h 6 (h 6 + 1)) 2 b) 19 (2 * h 19 + b)) 8 (c17 (h 8) b)) 9 (c21 (h 9) b)) 19 = 2 * h 19 + b from rfl, show (nst (nst (nst (nst (nst h 6 (h 6 + 1)) 2 b) 19 (2 * h 19 + b)) 8 (c17 (h 8) b)) 9 (c21 (h 9) b)) 4 = h 4 from rfl]
        by_cases a4 : 2 * h 19 + b = cntF (h 4)
        · rw [if_pos (show sI (2 * h 19 + b) = sI (cntF (h 4)) by rw [a4]), if_neg (show ¬ (n = 3 ∧ 2 * h 19 + b ≠ cntF (h 4)) from fun z => z.2 a4)]
          exact wq_some ⟨rfl, rfl, E2, f2⟩
        · rw [if_neg (show ¬ sI (2 * h 19 + b) = sI (cntF (h 4)) by rw [sI_eq (by omega) (by omega)]; exact a4), if_pos (show n = 3 ∧ 2 * h 19 + b ≠ cntF (h 4) from ⟨a3, a4⟩)]
          exact wq_some ⟨rfl, rfl, E2, f2⟩
      · rw [if_neg (show ¬ sI n = 3 by rw [sI_eql (by omega) (by decide)]; exact a3), if_neg (show ¬ (n = 3 ∧ 2 * h 19 + b ≠ cntF (h 4)) from fun z => a3 z.1)]
        exact wq_some ⟨rfl, rfl, E2, f2⟩
/-- behind the check -/
def rTail (b : Nat) (h : Nat → Nat) : Nat :=
  if h 6 = 1 then 0 else if b = 0 then (if h 6 = 9 then 5 else 2) else if h 6 = 2 ∧ hRight h = false then 3 else if h 6 = 8 then 6 else if h 6 < 9 then 0 else 7
theorem c_hearT {fu k b : Nat} {h : Nat → Nat} {A : mwM} {L : mwL} (hE : EaR A k h) (hb : b < 2) (h1 : h 1 = 2) (h6 : h 6 < 1000) (h13 : h 13 < 2) (h16 : h 16 < 1000) (h18 : h 18 < 2000000000) (h7 : h 7 < 32768) (h8 : h 8 < 131072) (h9 : h 9 < 2097152) : wq (DX5_hear fu k (sI b) A L) (fun z => z.1 = rI (rTail b h) ∧ z.2.2 = L ∧ EaR z.2.1 k (nst h 6 (h 6 + 1)) ∧ ∀ a y, a ≠ k → z.2.1 a y = A a y) := by
  unfold DX5_hear DX5_hearTail fX5_hearTail_b37 fX5_hearTail_b52 fX5_hearTail_b75
  have e1 := hE 1 (by omega) (by omega)
  rw [h1] at e1
  rw [e1, if_neg (show ¬ sI 2 = 1 by decide), if_pos (show sI 2 = 2 from rfl)]
  simp only [mb3_id3, mlet]
  rw [hE 6 (by omega) (by omega), sI_1]
  have E1 : EaR (mset A k 6 (sI (h 6 + 1))) k (nst h 6 (h 6 + 1)) := EaR_s hE
  have f1 : ∀ a y, a ≠ k → mset A k 6 (sI (h 6 + 1)) a y = A a y := fun a y u => mset_n (by omega)
  rw [c_right (fu := fu) (L := L) E1 (show h 13 < 2 from h13) (show h 16 < 1000 from h16) (show h 18 < 2000000000 from h18) (show h 7 < 32768 from h7) (show h 8 < 131072 from h8) (show h 9 < 2097152 from h9), mb3_s, show hRight (nst h 6 (h 6 + 1)) = hRight h from rfl]
  generalize mset A k 6 (sI (h 6 + 1)) = A1 at *
  unfold rTail
  by_cases a1 : h 6 = 1
  · rw [if_pos (show sI (h 6) = 1 by rw [a1]; rfl), if_pos a1]
    exact wq_some ⟨rfl, rfl, E1, f1⟩
  · rw [if_neg (show ¬ sI (h 6) = 1 by rw [sI_eql (by omega) (by decide)]; exact a1), if_neg a1]
    by_cases a2 : b = 0
    · rw [if_pos (show sI b = 0 by rw [a2]; rfl), if_pos a2]
      by_cases a3 : h 6 = 9
      · rw [if_pos (show sI (h 6) = 9 by rw [a3]; rfl), if_pos a3]
        exact wq_some ⟨rfl, rfl, E1, f1⟩
      · rw [if_neg (show ¬ sI (h 6) = 9 by rw [sI_eql (by omega) (by decide)]; exact a3), if_neg a3]
        exact wq_some ⟨rfl, rfl, E1, f1⟩
    · rw [if_neg (show ¬ sI b = 0 by rw [sI_eql (by omega) (by decide)]; exact a2), if_neg a2]
      have last : ¬ (h 6 = 2 ∧ hRight h = false) → wq (if sI (h 6) = 8 then some ((-2 : Int32), A1, L) else if sI (h 6) < 9 then some (-1, A1, L) else some (-3, A1, L)) (fun z => z.1 = rI (if h 6 = 2 ∧ hRight h = false then 3 else if h 6 = 8 then 6 else if h 6 < 9 then 0 else 7) ∧ z.2.2 = L ∧ EaR z.2.1 k (nst h 6 (h 6 + 1)) ∧ ∀ a y, a ≠ k → z.2.1 a y = A a y) := by
        intro hno
        rw [if_neg hno]
        by_cases a3 : h 6 = 8
        · rw [if_pos (show sI (h 6) = 8 by rw [a3]; rfl), if_pos a3]
          exact wq_some ⟨rfl, rfl, E1, f1⟩
        · rw [if_neg (show ¬ sI (h 6) = 8 by rw [sI_eql (by omega) (by decide)]; exact a3), if_neg a3]
          by_cases a4 : h 6 < 9
          · rw [if_pos (show sI (h 6) < 9 by rw [sI_ltl (by omega) (by decide)]; exact a4), if_pos a4]
            exact wq_some ⟨rfl, rfl, E1, f1⟩
          · rw [if_neg (show ¬ sI (h 6) < 9 by rw [sI_ltl (by omega) (by decide)]; exact a4), if_neg a4]
            exact wq_some ⟨rfl, rfl, E1, f1⟩
      by_cases a5 : h 6 = 2
      · rw [if_pos (show sI (h 6) = 2 by rw [a5]; rfl)]
        cases hr : hRight h with
        | false =>
          rw [if_pos (show bI false = 0 from rfl), if_pos ⟨a5, rfl⟩]
          exact wq_some ⟨rfl, rfl, E1, f1⟩
        | true =>
          rw [if_neg (show ¬ bI true = 0 by decide)]
          rw [hr] at last
          exact last (fun z => by cases z.2)
      · rw [if_neg (show ¬ sI (h 6) = 2 by rw [sI_eql (by omega) (by decide)]; exact a5)]
        exact last (fun z => a5 z.1)
theorem c_putBit {fu k : Nat} {h : Nat → Nat} {A : mwM} {L : mwL} (hE : EaR A k h) (h1 : h 1 < 3) (h6 : h 6 < 1000) (h13 : h 13 < 2) (h16 : h 16 < 1000) (h18 : h 18 < 2000000000) (h7 : h 7 < 32768) (h8 : h 8 < 131072) (h9 : h 9 < 2097152) : DX5_putBit fu k A L = some (sI (if h 1 = 2 ∧ h 6 = 1 ∧ hRight h = true then 0 else 1), A, L) := by
  unfold DX5_putBit fX5_putBit_b27 fX5_putBit_b28
  rw [hE 1 (by omega) (by omega), hE 6 (by omega) (by omega), c_right (fu := fu) (L := L) hE h13 h16 h18 h7 h8 h9, mb3_s]
  by_cases a1 : h 1 = 2
  · rw [if_pos (show sI (h 1) = 2 by rw [a1]; rfl)]
    by_cases a2 : h 6 = 1
    · rw [if_pos (show sI (h 6) = 1 by rw [a2]; rfl)]
      cases hr : hRight h with
      | false =>
        rw [if_pos (show bI false = 0 from rfl), if_neg (show ¬ (h 1 = 2 ∧ h 6 = 1 ∧ false = true) from fun z => by cases z.2.2)]
        rfl
      | true =>
        rw [if_neg (show ¬ bI true = 0 by decide), if_pos (show h 1 = 2 ∧ h 6 = 1 ∧ true = true from ⟨a1, a2, rfl⟩)]
        rfl
    · rw [if_neg (show ¬ sI (h 6) = 1 by rw [sI_eql (by omega) (by decide)]; exact a2), if_neg (show ¬ (h 1 = 2 ∧ h 6 = 1 ∧ hRight h = true) from fun z => a2 z.2.1)]
      rfl
  · rw [if_neg (show ¬ sI (h 1) = 2 by rw [sI_eql (by omega) (by decide)]; exact a1), if_neg (show ¬ (h 1 = 2 ∧ h 6 = 1 ∧ hRight h = true) from fun z => a1 z.1)]
    rfl
/-- the beginning -/
def h00 : Nat → Nat := fun i => if i = 3 ∨ i = 5 then 1 else if i = 7 then c15 0 0 else if i = 8 then c17 65536 0 else if i = 9 then c21 1048576 0 else if i = 15 ∨ i = 17 then 100000 else 0
theorem c_begin5 {fu k : Nat} {A : mwM} {L : mwL} : wq (DX5_begin fu k A L) (fun z => z.2 = L ∧ EaR z.1 k h00 ∧ ∀ a y, a ≠ k → z.1 a y = A a y) := by
  unfold DX5_begin
  simp only [mlet]
  have q1 : ∀ (A : mwM) (L : mwL), DX5_nextCheck fu 0 0 15 17817 A L = some (sI (c15 0 0), A, L) := fun A L => c_crc15 (v := 0) (b := 0) (by omega) (by omega)
  have q2 : ∀ (A : mwM) (L : mwL), DX5_nextCheck fu 65536 0 17 92251 A L = some (sI (c17 65536 0), A, L) := fun A L => c_crc17 (v := 65536) (b := 0) (by omega) (by omega)
  have q3 : ∀ (A : mwM) (L : mwL), DX5_nextCheck fu 1048576 0 21 1058969 A L = some (sI (c21 1048576 0), A, L) := fun A L => c_crc21 (v := 1048576) (b := 0) (by omega) (by omega)
  rw [q1, mb3_s, q2, mb3_s, q3, mb3_s]
  refine wq_some ⟨rfl, fun i u1 u2 => ?_, fun a y u => ?_⟩
  · dsimp only
    rcases (show i = 1 ∨ i = 2 ∨ i = 3 ∨ i = 4 ∨ i = 5 ∨ i = 6 ∨ i = 7 ∨ i = 8 ∨ i = 9 ∨ i = 10 ∨ i = 11 ∨ i = 12 ∨ i = 13 ∨ i = 14 ∨ i = 15 ∨ i = 16 ∨ i = 17 ∨ i = 18 ∨ i = 19 by omega) with rfl | rfl | rfl | rfl | rfl | rfl | rfl | rfl | rfl | rfl | rfl | rfl | rfl | rfl | rfl | rfl | rfl | rfl | rfl
    all_goals
      simp (disch := omega) only [mset_n, mset_s]
      try rfl
  · dsimp only
    simp (disch := omega) only [mset_n]
/-! the ear: what its numbers say of the plain bits -/
def num (p : Nat → Nat) (a : Nat) : Nat → Nat
  | 0 => 0
  | n + 1 => 2 * num p a n + p (a + n)
def crcF (top sh v0 : Nat) (s : Nat → Nat) : Nat → Nat
  | 0 => v0
  | n + 1 => crcS top sh (crcF top sh v0 s n) (s n)
theorem num_c {p q : Nat → Nat} {a : Nat} : ∀ n, (∀ i, a ≤ i → i < a + n → q i = p i) → num q a n = num p a n := by
  intro n
  induction n with
  | zero => intro _; rfl
  | succ n ih =>
    intro h
    unfold num
    rw [ih (fun i h1 h2 => h i h1 (by omega)), h (a + n) (by omega) (by omega)]
theorem crcF_c {top sh v0 : Nat} {p q : Nat → Nat} : ∀ n, (∀ i, i < n → q i = p i) → crcF top sh v0 q n = crcF top sh v0 p n := by
  intro n
  induction n with
  | zero => intro _; rfl
  | succ n ih =>
    intro h
    unfold crcF
    rw [ih (fun i h1 => h i (by omega)), h n (by omega)]
theorem num_lt {p : Nat → Nat} {a : Nat} : ∀ n, (∀ i, a ≤ i → i < a + n → p i < 2) → num p a n < 2 ^ n := by
  intro n
  induction n with
  | zero =>
    intro _
    show 0 < 2 ^ 0
    decide
  | succ n ih =>
    intro h
    unfold num
    have h1 := ih (fun i u1 u2 => h i u1 (by omega))
    have h2 := h (a + n) (by omega) (by omega)
    rw [Nat.pow_succ]
    omega
def atH (h : Nat → Nat) : Nat := if h 12 = 1 then 33 else 14
def caH (h : Nat → Nat) : Nat := atH h + 1 + 3 * h 13 + (if h 12 = 1 ∧ h 13 = 0 then 1 else 0)
def jH (h : Nat → Nat) : Nat := if h 12 = 1 then min (h 5) 32 - 14 else 0
def PI (p h : Nat → Nat) : Prop :=
  (∀ i, i < h 5 → p i < 2) ∧ 1 ≤ h 5 ∧
  h 12 = (if 14 ≤ h 5 then p 13 else 0) ∧
  h 13 = (if atH h < h 5 then p (atH h) else 0) ∧
  h 15 = (if atH h < h 5 then caH h else 100000) ∧
  h 14 = (if atH h < h 5 then num p (caH h) (min (h 5) (caH h + 4) - caH h) else 0) ∧
  h 11 = (if h 12 = 1 ∧ 33 ≤ h 5 then p 32 else if 13 ≤ h 5 then p 12 else 0) ∧
  h 16 = (if atH h < h 5 ∧ caH h + 4 ≤ h 5 then hOc h else 0) ∧
  h 17 = (if atH h < h 5 ∧ caH h + 4 ≤ h 5 then caH h + 4 + 8 * h 16 else 100000) ∧
  h 10 = num p 1 (min (h 5) 12 - 1) * 2 ^ jH h + num p 14 (jH h) ∧
  h 18 = num p (h 17) (h 5 - h 17) ∧
  h 7 = crcF (2 ^ 14) 17817 0 p (min (h 5) (h 17))
theorem atH_b (h : Nat → Nat) : 14 ≤ atH h ∧ atH h ≤ 33 := by
  unfold atH
  split <;> omega
theorem PI_c {p q h : Nat → Nat} (hq : ∀ i, i < h 5 → q i = p i) (hI : PI p h) : PI q h := by
  obtain ⟨i1, i2, i3, i4, i5, i6, i7, i8, i9, i10, i11, i12⟩ := hI
  have ab := atH_b h
  refine ⟨fun i u => by rw [hq i u]; exact i1 i u, i2, ?_, ?_, i5, ?_, ?_, i8, i9, ?_, ?_, ?_⟩
  · rw [i3]
    split
    · rw [hq 13 (by omega)]
    · rfl
  · rw [i4]
    split
    · rw [hq _ (by omega)]
    · rfl
  · rw [i6]
    split
    · exact (num_c _ (fun i u1 u2 => hq i (by omega))).symm
    · rfl
  · rw [i7]
    split
    · rw [hq 32 (by omega)]
    · split
      · rw [hq 12 (by omega)]
      · rfl
  · rw [i10, num_c (q := q) (p := p) _ (fun i u1 u2 => hq i (by omega))]
    have : num q 14 (jH h) = num p 14 (jH h) := by
      apply num_c
      intro i u1 u2
      apply hq
      unfold jH at u2
      split at u2 <;> omega
    rw [this]
  · rw [i11]
    exact (num_c _ (fun i u1 u2 => hq i (by omega))).symm
  · rw [i12]
    exact (crcF_c _ (fun i u => hq i (by omega))).symm
theorem PI_0 {p : Nat → Nat} (h0 : p 0 = 0) : PI p h00 := by
  have e5 : h00 5 = 1 := rfl
  have e12 : h00 12 = 0 := rfl
  have ea : atH h00 = 14 := rfl
  refine ⟨fun i u => ?_, by decide, rfl, rfl, rfl, rfl, rfl, rfl, rfl, ?_, ?_, ?_⟩
  · rw [e5] at u
    have : i = 0 := by omega
    rw [this, h0]
    decide
  · show 0 = _
    rfl
  · show 0 = num p 100000 (1 - 100000)
    rfl
  · show c15 0 0 = crcS (2 ^ 14) 17817 0 (p 0)
    rw [h0]
    rfl
/-! the ear: a plain bit more -/
def atE (e : Nat) : Nat := if e = 1 then 33 else 14
def caE (e f : Nat) : Nat := atE e + 1 + 3 * f + (if e = 1 ∧ f = 0 then 1 else 0)
def jE (e P : Nat) : Nat := if e = 1 then min P 32 - 14 else 0
def ocE (f r c : Nat) : Nat := if f = 1 then octF c else if r = 1 then 0 else (if 8 < c then 8 else c)
def PIx (q : Nat → Nat) (P e f ca c r oc oe id to ck : Nat) : Prop :=
  (∀ i, i < P → q i < 2) ∧ 1 ≤ P ∧
  e = (if 14 ≤ P then q 13 else 0) ∧
  f = (if atE e < P then q (atE e) else 0) ∧
  ca = (if atE e < P then caE e f else 100000) ∧
  c = (if atE e < P then num q (caE e f) (min P (caE e f + 4) - caE e f) else 0) ∧
  r = (if e = 1 ∧ 33 ≤ P then q 32 else if 13 ≤ P then q 12 else 0) ∧
  oc = (if atE e < P ∧ caE e f + 4 ≤ P then ocE f r c else 0) ∧
  oe = (if atE e < P ∧ caE e f + 4 ≤ P then caE e f + 4 + 8 * oc else 100000) ∧
  id = num q 1 (min P 12 - 1) * 2 ^ jE e P + num q 14 (jE e P) ∧
  to = num q oe (P - oe) ∧
  ck = crcF (2 ^ 14) 17817 0 q (min P oe)
theorem PI_x {q g : Nat → Nat} : PI q g ↔ PIx q (g 5) (g 12) (g 13) (g 15) (g 14) (g 11) (g 16) (g 17) (g 10) (g 18) (g 7) := Iff.rfl
theorem bit_s {q : Nat → Nat} {P b : Nat} (i1 : ∀ i, i < P → q i < 2) (hb : b < 2) (hq : q P = b) : ∀ i, i < P + 1 → q i < 2 := by
  intro i u
  by_cases z : i = P
  · rw [z, hq]; exact hb
  · exact i1 i (by omega)
theorem caE_b {e f : Nat} (he : e < 2) (hf : f < 2) : atE e + 1 ≤ caE e f ∧ caE e f ≤ atE e + 4 := by
  unfold caE
  split <;> omega
theorem ocE_le (f r c : Nat) : ocE f r c ≤ 64 := by
  unfold ocE
  split
  · exact octF_le c
  · split
    · omega
    · split <;> omega
theorem crc_1 {q : Nat → Nat} {P b n : Nat} (hq : q P = b) (hn : n = P) : c15 (crcF (2 ^ 14) 17817 0 q n) b = crcF (2 ^ 14) 17817 0 q (P + 1) := by
  subst hn
  show crcS (2 ^ 14) 17817 (crcF (2 ^ 14) 17817 0 q n) b = crcS (2 ^ 14) 17817 (crcF (2 ^ 14) 17817 0 q n) (q n)
  rw [hq]
/-- before the thirteenth bit -/
theorem PIx_h {q : Nat → Nat} {P e f ca c r oc oe id to ck : Nat} (h : PIx q P e f ca c r oc oe id to ck) (h1 : P ≤ 14) (h2 : e = 0) : f = 0 ∧ ca = 100000 ∧ c = 0 ∧ oc = 0 ∧ oe = 100000 ∧ to = 0 ∧ ck = crcF (2 ^ 14) 17817 0 q P ∧ id = num q 1 (min P 12 - 1) := by
  obtain ⟨i1, i2, i3, i4, i5, i6, i7, i8, i9, i10, i11, i12⟩ := h
  subst h2
  have a0 : atE 0 = 14 := rfl
  have j0 : jE 0 P = 0 := rfl
  rw [a0] at i4 i5 i6 i8 i9
  rw [if_neg (by omega)] at i4 i5 i6 i8 i9
  subst i4 i5 i6 i8 i9
  rw [j0] at i10
  rw [show P - 100000 = 0 by omega] at i11
  rw [show min P 100000 = P by omega] at i12
  exact ⟨rfl, rfl, rfl, rfl, rfl, i11, i12, by rw [i10]; show _ * 1 + 0 = _; omega⟩
theorem PIx_i {q : Nat → Nat} {P e r id ck : Nat} (i1 : ∀ i, i < P → q i < 2) (h1 : P ≤ 14) (h0 : 1 ≤ P) (i3 : e = (if 14 ≤ P then q 13 else 0)) (i7 : r = (if 13 ≤ P then q 12 else 0)) (i10 : id = num q 1 (min P 12 - 1)) (i12 : ck = crcF (2 ^ 14) 17817 0 q P) : PIx q P e 0 100000 0 r 0 100000 id 0 ck := by
  have ab : 14 ≤ atE e := by unfold atE; split <;> omega
  have j0 : jE e P = 0 := by unfold jE; split <;> omega
  refine ⟨i1, h0, i3, ?_, ?_, ?_, ?_, ?_, ?_, ?_, ?_, ?_⟩
  · rw [if_neg (by omega)]
  · rw [if_neg (by omega)]
  · rw [if_neg (by omega)]
  · rw [if_neg (by omega)]; exact i7
  · rw [if_neg (by omega)]
  · rw [if_neg (by omega)]
  · rw [j0, i10]
    show _ = _ * 1 + 0
    omega
  · rw [show P - 100000 = 0 by omega]
    rfl
  · rw [show min P 100000 = P by omega]
    exact i12
/-- the parts up to the first flag -/
theorem PIx_A {q : Nat → Nat} {P e f ca c r oc oe id to ck b : Nat} (h : PIx q P e f ca c r oc oe id to ck) (hb : b < 2) (hq : q P = b) (h1 : P ≤ 13) : PIx q (P + 1) (if P = 13 then b else e) f ca c (if P = 12 then b else r) oc oe (if P ≤ 11 then 2 * id + b else id) to (c15 ck b) := by
  have h' := h
  obtain ⟨i1, i2, i3, _, _, _, i7, _, _, _, _, _⟩ := h
  have he : e = 0 := by rw [i3]; exact if_neg (by omega)
  obtain ⟨rfl, rfl, rfl, rfl, rfl, rfl, k1, k2⟩ := PIx_h h' (by omega) he
  refine PIx_i (bit_s i1 hb hq) (by omega) (by omega) ?_ ?_ ?_ ?_
  · by_cases z : P = 13
    · rw [if_pos z, if_pos (by omega), ← hq, z]
    · rw [if_neg z, if_neg (by omega), he]
  · rw [he, if_neg (show ¬ (0 = 1 ∧ 33 ≤ P) by omega)] at i7
    by_cases z : P = 12
    · rw [if_pos z, if_pos (by omega), ← hq, z]
    · rw [if_neg z, i7]
      by_cases y : 13 ≤ P
      · rw [if_pos y, if_pos (by omega)]
      · rw [if_neg y, if_neg (by omega)]
  · by_cases z : P ≤ 11
    · rw [if_pos z, k2, show min P 12 - 1 = P - 1 by omega, show min (P + 1) 12 - 1 = (P - 1) + 1 by omega]
      show _ = 2 * num q 1 (P - 1) + q (1 + (P - 1))
      rw [show 1 + (P - 1) = P by omega, hq]
    · rw [if_neg z, k2, show min P 12 - 1 = 11 by omega, show min (P + 1) 12 - 1 = 11 by omega]
  · rw [k1]
    exact crc_1 hq rfl
/-- a long identifier, and the flag behind it -/
theorem PIx_l {q : Nat → Nat} {P e f ca c r oc oe id to ck : Nat} (h : PIx q P e f ca c r oc oe id to ck) (h1 : 14 ≤ P) (h3 : P ≤ 33) (h2 : e = 1) : f = 0 ∧ ca = 100000 ∧ c = 0 ∧ oc = 0 ∧ oe = 100000 ∧ to = 0 ∧ ck = crcF (2 ^ 14) 17817 0 q P ∧ id = num q 1 11 * 2 ^ (min P 32 - 14) + num q 14 (min P 32 - 14) := by
  obtain ⟨i1, i2, i3, i4, i5, i6, i7, i8, i9, i10, i11, i12⟩ := h
  subst h2
  have a0 : atE 1 = 33 := rfl
  have j0 : jE 1 P = min P 32 - 14 := rfl
  rw [a0] at i4 i5 i6 i8 i9
  rw [if_neg (by omega)] at i4 i5 i6 i8 i9
  subst i4 i5 i6 i8 i9
  rw [j0, show min P 12 - 1 = 11 by omega] at i10
  rw [show P - 100000 = 0 by omega] at i11
  rw [show min P 100000 = P by omega] at i12
  exact ⟨rfl, rfl, rfl, rfl, rfl, i11, i12, i10⟩
theorem PIx_E {q : Nat → Nat} {P e f ca c r oc oe id to ck b : Nat} (h : PIx q P e f ca c r oc oe id to ck) (hb : b < 2) (hq : q P = b) (h1 : 14 ≤ P) (h3 : P ≤ 32) (h2 : e = 1) : PIx q (P + 1) e f ca c (if P = 32 then b else r) oc oe (if P ≤ 31 then 2 * id + b else id) to (c15 ck b) := by
  have h' := h
  obtain ⟨i1, i2, i3, _, _, _, i7, _, _, _, _, _⟩ := h
  obtain ⟨rfl, rfl, rfl, rfl, rfl, rfl, k1, k2⟩ := PIx_l h' (by omega) (by omega) h2
  have a0 : atE e = 33 := by rw [h2]; rfl
  have j0 : jE e (P + 1) = min (P + 1) 32 - 14 := by rw [h2]; rfl
  rw [if_pos (by omega)] at i3
  rw [if_neg (by omega), if_pos (by omega)] at i7
  refine ⟨bit_s i1 hb hq, by omega, ?_, ?_, ?_, ?_, ?_, ?_, ?_, ?_, ?_, ?_⟩
  · rw [if_pos (by omega)]; exact i3
  · rw [a0, if_neg (by omega)]
  · rw [a0, if_neg (by omega)]
  · rw [a0, if_neg (by omega)]
  · by_cases z : P = 32
    · rw [if_pos z, if_pos (by omega), ← hq, z]
    · rw [if_neg z, if_neg (by omega), if_pos (by omega)]; exact i7
  · rw [a0, if_neg (by omega)]
  · rw [a0, if_neg (by omega)]
  · rw [j0, show min (P + 1) 12 - 1 = 11 by omega]
    by_cases z : P ≤ 31
    · rw [if_pos z, k2, show min P 32 - 14 = P - 14 by omega, show min (P + 1) 32 - 14 = (P - 14) + 1 by omega]
      show _ = _ + (2 * num q 14 (P - 14) + q (14 + (P - 14)))
      rw [show 14 + (P - 14) = P by omega, hq, Nat.pow_succ, ← Nat.mul_assoc]
      generalize num q 1 11 * 2 ^ (P - 14) = X
      omega
    · rw [if_neg z, k2, show min P 32 - 14 = 18 by omega, show min (P + 1) 32 - 14 = 18 by omega]
  · rw [show P + 1 - 100000 = 0 by omega]
    rfl
  · rw [k1, Nat.min_eq_left (show P + 1 ≤ 100000 by omega)]
    exact crc_1 hq rfl
/-- the flag that tells the kind -/
theorem PIx_D {q : Nat → Nat} {P e f ca c r oc oe id to ck b : Nat} (h : PIx q P e f ca c r oc oe id to ck) (hb : b < 2) (hq : q P = b) (h1 : P = atE e) (h2 : e < 2) : PIx q (P + 1) e b (caE e b) c r oc oe id to (c15 ck b) := by
  have h' := h
  obtain ⟨i1, i2, i3, _, _, _, i7, _, _, i10, _, _⟩ := h
  have cb := caE_b h2 hb
  have hP : 14 ≤ P ∧ P ≤ 33 := by rw [h1]; unfold atE; split <;> omega
  have kk : f = 0 ∧ ca = 100000 ∧ c = 0 ∧ oc = 0 ∧ oe = 100000 ∧ to = 0 ∧ ck = crcF (2 ^ 14) 17817 0 q P := by
    by_cases z : e = 1
    · obtain ⟨k1, k2, k3, k4, k5, k6, k7, _⟩ := PIx_l h' (by omega) (by omega) z
      exact ⟨k1, k2, k3, k4, k5, k6, k7⟩
    · have ha : atE e = 14 := by unfold atE; rw [if_neg z]
      obtain ⟨k1, k2, k3, k4, k5, k6, k7, _⟩ := PIx_h h' (by omega) (by omega)
      exact ⟨k1, k2, k3, k4, k5, k6, k7⟩
  obtain ⟨rfl, rfl, rfl, rfl, rfl, rfl, k1⟩ := kk
  have j0 : jE e (P + 1) = jE e P := by
    unfold jE
    split
    · rename_i z
      have ha : atE e = 33 := by unfold atE; rw [if_pos z]
      omega
    · rfl
  rw [if_pos (by omega)] at i3
  refine ⟨bit_s i1 hb hq, by omega, ?_, ?_, ?_, ?_, ?_, ?_, ?_, ?_, ?_, ?_⟩
  · rw [if_pos (by omega)]; exact i3
  · rw [if_pos (by omega), ← h1, hq]
  · rw [if_pos (by omega)]
  · rw [if_pos (by omega), show min (P + 1) (caE e b + 4) - caE e b = 0 by omega]
    rfl
  · rw [i7]
    by_cases z : e = 1 ∧ 33 ≤ P
    · rw [if_pos z, if_pos (by omega)]
    · have ha : ¬ e = 1 := fun y => z ⟨y, by rw [h1, y]; decide⟩
      rw [if_neg z, if_pos (show 13 ≤ P by omega), if_neg (show ¬ (e = 1 ∧ 33 ≤ P + 1) from fun y => ha y.1), if_pos (show 13 ≤ P + 1 by omega)]
  · rw [if_neg (by omega)]
  · rw [if_neg (by omega)]
  · rw [j0, i10, show min P 12 - 1 = min (P + 1) 12 - 1 by omega]
  · rw [show P + 1 - 100000 = 0 by omega]
    rfl
  · rw [k1, Nat.min_eq_left (show P + 1 ≤ 100000 by omega)]
    exact crc_1 hq rfl
/-- behind it -/
theorem PIx_H {q : Nat → Nat} {P e f ca c r oc oe id to ck b : Nat} (h : PIx q P e f ca c r oc oe id to ck) (hb : b < 2) (hq : q P = b) (h1 : atE e < P) (h2 : e < 2) : PIx q (P + 1) e f ca (if ca ≤ P ∧ P ≤ ca + 3 then 2 * c + b else c) r (if P = ca + 3 then ocE f r (2 * c + b) else oc) (if P = ca + 3 then ca + 4 + 8 * ocE f r (2 * c + b) else oe) id (if oe ≤ P then 2 * to + b else to) (if oe ≤ P then ck else c15 ck b) := by
  obtain ⟨i1, i2, i3, i4, i5, i6, i7, i8, i9, i10, i11, i12⟩ := h
  have hP : 14 < P := by unfold atE at h1; split at h1 <;> omega
  rw [if_pos h1] at i4 i5 i6
  have hf : f < 2 := by rw [i4]; exact i1 _ h1
  have cb := caE_b h2 hf
  have j0 : jE e (P + 1) = jE e P := by
    unfold jE
    split
    · rename_i z
      have ha : atE e = 33 := by unfold atE; rw [if_pos z]
      omega
    · rfl
  have oo : caE e f + 4 ≤ P → oe = caE e f + 4 + 8 * oc ∧ oc = ocE f r c ∧ oc ≤ 64 := fun z => by
    rw [if_pos ⟨h1, z⟩] at i8 i9
    exact ⟨i9, i8, by rw [i8]; exact ocE_le _ _ _⟩
  have on : ¬ caE e f + 4 ≤ P → oe = 100000 ∧ oc = 0 ∧ P < 100 := fun z => by
    rw [if_neg (fun y => z y.2)] at i8 i9
    refine ⟨i9, i8, ?_⟩
    have ha : atE e ≤ 33 := by unfold atE; split <;> omega
    omega
  rw [if_pos (by omega)] at i3
  rw [i5]
  refine ⟨bit_s i1 hb hq, by omega, ?_, ?_, ?_, ?_, ?_, ?_, ?_, ?_, ?_, ?_⟩
  · rw [if_pos (by omega)]; exact i3
  · rw [if_pos (by omega)]; exact i4
  · rw [if_pos (by omega)]
  · rw [if_pos (show atE e < P + 1 by omega)]
    by_cases z : caE e f ≤ P ∧ P ≤ caE e f + 3
    · rw [if_pos z, show min (P + 1) (caE e f + 4) - caE e f = (P - caE e f) + 1 by omega]
      show _ = 2 * num q (caE e f) (P - caE e f) + q (caE e f + (P - caE e f))
      rw [show caE e f + (P - caE e f) = P by omega, hq, i6, show min P (caE e f + 4) - caE e f = P - caE e f by omega]
    · rw [if_neg z, i6, show min (P + 1) (caE e f + 4) - caE e f = min P (caE e f + 4) - caE e f by omega]
  · rw [i7]
    by_cases z : e = 1
    · have ha : atE e = 33 := by unfold atE; rw [if_pos z]
      rw [if_pos ⟨z, by omega⟩, if_pos ⟨z, by omega⟩]
    · rw [if_neg (show ¬ (e = 1 ∧ 33 ≤ P) from fun y => z y.1), if_pos (show 13 ≤ P by omega), if_neg (show ¬ (e = 1 ∧ 33 ≤ P + 1) from fun y => z y.1), if_pos (show 13 ≤ P + 1 by omega)]
  · by_cases z : P = caE e f + 3
    · rw [if_pos z, if_pos ⟨by omega, by omega⟩, if_pos ⟨by omega, by omega⟩]
    · rw [if_neg z]
      by_cases y : caE e f + 4 ≤ P
      · rw [if_pos ⟨by omega, by omega⟩, if_neg (by omega)]
        exact (oo y).2.1
      · rw [if_neg (by omega)]
        exact (on y).2.1
  · by_cases z : P = caE e f + 3
    · rw [if_pos z, if_pos ⟨by omega, by omega⟩, if_pos z]
    · rw [if_neg z, if_neg z]
      by_cases y : caE e f + 4 ≤ P
      · rw [if_pos ⟨by omega, by omega⟩]
        exact (oo y).1
      · rw [if_neg (by omega)]
        exact (on y).1
  · rw [j0, i10, show min P 12 - 1 = min (P + 1) 12 - 1 by omega]
  · by_cases z : P = caE e f + 3
    · have y := on (by omega)
      rw [if_pos z, if_neg (by omega), i11, y.1, show P - 100000 = 0 by omega, show P + 1 - (caE e f + 4 + 8 * ocE f r (2 * c + b)) = 0 by omega]
      rfl
    · rw [if_neg z]
      by_cases y : oe ≤ P
      · rw [if_pos y, show P + 1 - oe = (P - oe) + 1 by omega]
        show _ = 2 * num q oe (P - oe) + q (oe + (P - oe))
        rw [show oe + (P - oe) = P by omega, hq, i11]
      · rw [if_neg y, i11, show P + 1 - oe = 0 by omega, show P - oe = 0 by omega]
  · by_cases z : P = caE e f + 3
    · have y := on (by omega)
      rw [if_pos z, if_neg (by omega), show min (P + 1) (caE e f + 4 + 8 * ocE f r (2 * c + b)) = P + 1 by omega, i12]
      exact crc_1 hq (by omega)
    · rw [if_neg z]
      by_cases y : oe ≤ P
      · rw [if_pos y, i12, show min (P + 1) oe = min P oe by omega]
      · rw [if_neg y, i12, show min (P + 1) oe = P + 1 by omega]
        exact crc_1 hq (by omega)
/-! the ear: its numbers behind a plain bit -/
theorem hPlain_1 {n b : Nat} {h : Nat → Nat} (h1 : n < h 17) (h2 : n < h 15) : hPlain n b h = hHead n b (hC b h) := by
  unfold hPlain
  rw [if_pos h1, if_neg (by omega)]
theorem hPlain_2 {n b : Nat} {h : Nat → Nat} (h1 : n < h 17) (h2 : h 15 + 4 ≤ n) : hPlain n b h = hC b h := by
  unfold hPlain
  rw [if_pos h1, if_pos (by omega), if_pos h2]
theorem hPlain_3 {n b : Nat} {h : Nat → Nat} (h1 : n < h 17) (h2 : n = h 15 + 3) : hPlain n b h = hEnds (nst (hC b h) 14 (2 * h 14 + b)) := by
  unfold hPlain
  rw [if_pos h1, if_pos (by omega), if_neg (by omega), if_pos h2]
theorem hPlain_4 {n b : Nat} {h : Nat → Nat} (h1 : n < h 17) (h2 : h 15 ≤ n) (h3 : n < h 15 + 3) : hPlain n b h = nst (hC b h) 14 (2 * h 14 + b) := by
  unfold hPlain
  rw [if_pos h1, if_pos (by omega), if_neg (by omega), if_neg (by omega)]
theorem hPlain_5 {n b : Nat} {h : Nat → Nat} (h1 : h 17 ≤ n) : hPlain n b h = nst h 18 (2 * h 18 + b) := by
  unfold hPlain
  rw [if_neg (by omega)]
theorem PI_s {p h : Nat → Nat} {b : Nat} (hI : PI p h) (hb : b < 2) : PI (nst p (h 5) b) (hPl0 b h) := by
  have hq : (nst p (h 5) b) (h 5) = b := nst_s
  have hI' := PI_c (q := nst p (h 5) b) (fun i u => nst_n (by omega)) hI
  generalize nst p (h 5) b = q at *
  have hx := PI_x.mp hI'
  obtain ⟨i1, i2, i3, i4, i5, i6, i7, i8, i9, _⟩ := hx
  have hx := PI_x.mp hI'
  have he : h 12 < 2 := by
    rw [i3]
    split
    · exact i1 13 (by omega)
    · omega
  by_cases c1 : h 5 ≤ 13
  · have e12 : h 12 = 0 := by rw [i3]; exact if_neg (by omega)
    obtain ⟨_, k2, _, _, k5, _, _, _⟩ := PIx_h hx (by omega) e12
    have t := PIx_A hx hb hq c1
    have e : hPl0 b h = hHead (h 5) b (hC b (nst (nst (nst h 3 (if b = h 2 then h 3 + 1 else 1)) 2 b) 5 (h 5 + 1))) := hPlain_1 (show h 5 < h 17 by omega) (show h 5 < h 15 by omega)
    unfold hHead at e
    by_cases c2 : h 5 ≤ 11
    · rw [if_pos (Or.inl ⟨by omega, c2⟩)] at e
      rw [if_neg (show ¬ h 5 = 13 by omega), if_neg (show ¬ h 5 = 12 by omega), if_pos c2] at t
      rw [e]
      exact t
    · have n1 : ¬ ((1 ≤ h 5 ∧ h 5 ≤ 11) ∨ ((hC b (nst (nst (nst h 3 (if b = h 2 then h 3 + 1 else 1)) 2 b) 5 (h 5 + 1))) 12 = 1 ∧ 14 ≤ h 5 ∧ h 5 ≤ 31)) := by omega
      rw [if_neg n1] at e
      by_cases c3 : h 5 = 12
      · rw [if_pos (Or.inl c3)] at e
        rw [if_neg (show ¬ h 5 = 13 by omega), if_pos c3, if_neg c2] at t
        rw [e]
        exact t
      · have c4 : h 5 = 13 := by omega
        rw [if_neg (show ¬ (h 5 = 12 ∨ h 5 = 32) by omega), if_pos c4] at e
        rw [if_pos c4, if_neg c3, if_neg c2] at t
        rw [e]
        exact t
  · by_cases c2 : h 5 < atE (h 12)
    · have e12 : h 12 = 1 := by
        unfold atE at c2
        split at c2
        · assumption
        · omega
      have a33 : atE (h 12) = 33 := by rw [e12]; rfl
      obtain ⟨_, k2, _, _, k5, _, _, _⟩ := PIx_l hx (by omega) (by omega) e12
      have t := PIx_E hx hb hq (by omega) (by omega) e12
      have e : hPl0 b h = hHead (h 5) b (hC b (nst (nst (nst h 3 (if b = h 2 then h 3 + 1 else 1)) 2 b) 5 (h 5 + 1))) := hPlain_1 (show h 5 < h 17 by omega) (show h 5 < h 15 by omega)
      unfold hHead at e
      by_cases c3 : h 5 ≤ 31
      · rw [if_pos (Or.inr ⟨show h 12 = 1 from e12, by omega, c3⟩)] at e
        rw [if_neg (show ¬ h 5 = 32 by omega), if_pos c3] at t
        rw [e]
        exact t
      · have c4 : h 5 = 32 := by omega
        rw [if_neg (show ¬ ((1 ≤ h 5 ∧ h 5 ≤ 11) ∨ ((hC b (nst (nst (nst h 3 (if b = h 2 then h 3 + 1 else 1)) 2 b) 5 (h 5 + 1))) 12 = 1 ∧ 14 ≤ h 5 ∧ h 5 ≤ 31)) by omega), if_pos (Or.inr c4)] at e
        rw [if_pos c4, if_neg c3] at t
        rw [e]
        exact t
    · by_cases c3 : h 5 = atE (h 12)
      · have t := PIx_D hx hb hq c3 he
        have hP : (h 5 = 14 ∧ ¬ h 12 = 1) ∨ h 5 = 33 := by
          unfold atE at c3
          split at c3
          · exact Or.inr c3
          · exact Or.inl ⟨c3, by assumption⟩
        have k : h 15 = 100000 ∧ h 17 = 100000 := by
          rw [i5, i9]
          have n1 : ¬ atE (h 12) < h 5 := by omega
          rw [if_neg n1, if_neg (fun z => n1 z.1)]
          exact ⟨rfl, rfl⟩
        have e : hPl0 b h = hHead (h 5) b (hC b (nst (nst (nst h 3 (if b = h 2 then h 3 + 1 else 1)) 2 b) 5 (h 5 + 1))) := hPlain_1 (show h 5 < h 17 by omega) (show h 5 < h 15 by omega)
        unfold hHead at e
        have n2 : ¬ ((1 ≤ h 5 ∧ h 5 ≤ 11) ∨ ((hC b (nst (nst (nst h 3 (if b = h 2 then h 3 + 1 else 1)) 2 b) 5 (h 5 + 1))) 12 = 1 ∧ 14 ≤ h 5 ∧ h 5 ≤ 31)) := fun z => by
          rcases z with z | z
          · omega
          · have z1 : h 12 = 1 := z.1
            omega
        rw [if_neg n2, if_neg (show ¬ (h 5 = 12 ∨ h 5 = 32) by omega), if_neg (show ¬ h 5 = 13 by omega), if_pos (show h 5 = 14 ∨ h 5 = 33 by omega)] at e
        have ec : h 5 + 1 + 3 * b + (if h 12 = 1 ∧ b = 0 then 1 else 0) = caE (h 12) b := by
          unfold caE
          rw [c3]
        rw [← ec] at t
        rw [e]
        exact t
      · have c4 : atE (h 12) < h 5 := by omega
        have t := PIx_H hx hb hq c4 he
        have f2 : h 13 < 2 := by
          rw [i4]
          split
          · exact i1 _ (by omega)
          · omega
        have cb := caE_b he f2
        have hp15 : h 5 > 14 ∧ (h 12 = 1 → h 5 > 33) := by
          unfold atE at c4
          split at c4 <;> omega
        have e15 : h 15 = caE (h 12) (h 13) := by rw [i5, if_pos c4]
        have ha33 : atE (h 12) ≤ 33 := by unfold atE; split <;> omega
        have o1 : h 15 + 4 ≤ h 5 → h 17 = h 15 + 4 + 8 * h 16 := fun z => by
          rw [i9, if_pos ⟨show atH h < h 5 from c4, show caE (h 12) (h 13) + 4 ≤ h 5 by omega⟩, e15]
        have o2 : ¬ h 15 + 4 ≤ h 5 → h 17 = 100000 := fun z => by
          rw [i9, if_neg (fun y => z (by rw [e15]; exact y.2))]
        by_cases c5 : h 5 < h 15
        · have k17 := o2 (by omega)
          have e : hPl0 b h = hHead (h 5) b (hC b (nst (nst (nst h 3 (if b = h 2 then h 3 + 1 else 1)) 2 b) 5 (h 5 + 1))) := hPlain_1 (show h 5 < h 17 by omega) (show h 5 < h 15 by omega)
          unfold hHead at e
          have n2 : ¬ ((1 ≤ h 5 ∧ h 5 ≤ 11) ∨ ((hC b (nst (nst (nst h 3 (if b = h 2 then h 3 + 1 else 1)) 2 b) 5 (h 5 + 1))) 12 = 1 ∧ 14 ≤ h 5 ∧ h 5 ≤ 31)) := fun z => by
            rcases z with z | z
            · omega
            · have z1 : h 12 = 1 := z.1
              omega
          have n3 : ¬ h 5 = 32 ∧ ¬ h 5 = 33 := by
            by_cases z : h 12 = 1
            · omega
            · have : atE (h 12) = 14 := by unfold atE; rw [if_neg z]
              omega
          rw [if_neg n2, if_neg (show ¬ (h 5 = 12 ∨ h 5 = 32) by omega), if_neg (show ¬ h 5 = 13 by omega), if_neg (show ¬ (h 5 = 14 ∨ h 5 = 33) by omega)] at e
          rw [if_neg (show ¬ (h 15 ≤ h 5 ∧ h 5 ≤ h 15 + 3) by omega), if_neg (show ¬ h 5 = h 15 + 3 by omega), if_neg (show ¬ h 5 = h 15 + 3 by omega), if_neg (show ¬ h 17 ≤ h 5 by omega), if_neg (show ¬ h 17 ≤ h 5 by omega)] at t
          rw [e]
          exact t
        · by_cases c6 : h 5 < h 17
          · rw [if_neg (show ¬ h 17 ≤ h 5 by omega), if_neg (show ¬ h 17 ≤ h 5 by omega)] at t
            by_cases c7 : h 15 + 4 ≤ h 5
            · have e : hPl0 b h = hC b (nst (nst (nst h 3 (if b = h 2 then h 3 + 1 else 1)) 2 b) 5 (h 5 + 1)) := hPlain_2 (show h 5 < h 17 from c6) (show h 15 + 4 ≤ h 5 from c7)
              rw [if_neg (show ¬ (h 15 ≤ h 5 ∧ h 5 ≤ h 15 + 3) by omega), if_neg (show ¬ h 5 = h 15 + 3 by omega), if_neg (show ¬ h 5 = h 15 + 3 by omega)] at t
              rw [e]
              exact t
            · rw [if_pos (show h 15 ≤ h 5 ∧ h 5 ≤ h 15 + 3 by omega)] at t
              by_cases c8 : h 5 = h 15 + 3
              · have e : hPl0 b h = hEnds (nst (hC b (nst (nst (nst h 3 (if b = h 2 then h 3 + 1 else 1)) 2 b) 5 (h 5 + 1))) 14 (2 * h 14 + b)) := hPlain_3 (show h 5 < h 17 from c6) (show h 5 = h 15 + 3 from c8)
                rw [if_pos c8, if_pos c8] at t
                rw [e]
                exact t
              · have e : hPl0 b h = nst (hC b (nst (nst (nst h 3 (if b = h 2 then h 3 + 1 else 1)) 2 b) 5 (h 5 + 1))) 14 (2 * h 14 + b) := hPlain_4 (show h 5 < h 17 from c6) (show h 15 ≤ h 5 by omega) (show h 5 < h 15 + 3 by omega)
                rw [if_neg c8, if_neg c8] at t
                rw [e]
                exact t
          · have c7 : h 15 + 4 ≤ h 5 := by
              by_cases z : h 15 + 4 ≤ h 5
              · exact z
              · have := o2 z
                omega
            have e : hPl0 b h = nst (nst (nst (nst h 3 (if b = h 2 then h 3 + 1 else 1)) 2 b) 5 (h 5 + 1)) 18 (2 * h 18 + b) := hPlain_5 (show h 17 ≤ h 5 by omega)
            rw [if_neg (show ¬ (h 15 ≤ h 5 ∧ h 5 ≤ h 15 + 3) by omega), if_neg (show ¬ h 5 = h 15 + 3 by omega), if_neg (show ¬ h 5 = h 15 + 3 by omega), if_pos (show h 17 ≤ h 5 by omega), if_pos (show h 17 ≤ h 5 by omega)] at t
            rw [e]
            exact t
/-! the ear: bounds, octets, the long checks -/
theorem crcF15_lt {s : Nat → Nat} : ∀ n, crcF (2 ^ 14) 17817 0 s n < 32768 := by
  intro n
  cases n with
  | zero => show 0 < 32768; decide
  | succ n => exact c15_lt _ _
theorem PI_b {p h : Nat → Nat} (hI : PI p h) : h 11 < 2 ∧ h 12 < 2 ∧ h 13 < 2 ∧ h 15 < 200000 ∧ h 17 < 200000 ∧ h 16 ≤ 64 ∧ h 7 < 32768 ∧ h 14 < 16 ∧ (h 5 = h 15 + 3 → h 14 < 8) ∧ (h 5 < h 17 → h 15 + 4 ≤ h 5 → (h 5 - h 15 - 4) / 8 < 64) ∧ (h 17 < 100000 → h 17 ≤ 553 ∧ h 15 + 4 ≤ h 5 ∧ h 15 ≤ 37 ∧ h 17 = h 15 + 4 + 8 * h 16) ∧ (h 17 ≥ 100000 → h 5 < 41) ∧ (h 13 = 1 → h 15 < 100000) ∧ (h 15 < 100000 → 15 ≤ h 15 ∧ h 15 ≤ 37) := by
  obtain ⟨i1, i2, i3, i4, i5, i6, i7, i8, i9, i10, i11, i12⟩ := PI_x.mp hI
  have e12 : h 12 < 2 := by
    rw [i3]
    split
    · exact i1 13 (by omega)
    · omega
  have ab : 14 ≤ atE (h 12) ∧ atE (h 12) ≤ 33 := by unfold atE; split <;> omega
  have e13 : h 13 < 2 := by
    rw [i4]
    split
    · exact i1 _ (by omega)
    · omega
  have cb := caE_b e12 e13
  have e16 : h 16 ≤ 64 := by
    rw [i8]
    split
    · exact ocE_le _ _ _
    · omega
  have e11 : h 11 < 2 := by
    rw [i7]
    split
    · exact i1 _ (by omega)
    · split
      · exact i1 _ (by omega)
      · omega
  have nl : ∀ a n, a + n ≤ h 5 → num p a n < 2 ^ n := fun a n z => num_lt n (fun i u1 u2 => i1 i (by omega))
  have c37 : caE (h 12) (h 13) ≤ 37 := by omega
  have e14 : h 14 < 16 ∧ (h 5 = h 15 + 3 → h 14 < 8) := by
    by_cases z : atE (h 12) < h 5
    · rw [if_pos z] at i6 i5
      constructor
      · by_cases y : caE (h 12) (h 13) ≤ h 5
        · have := nl (caE (h 12) (h 13)) (min (h 5) (caE (h 12) (h 13) + 4) - caE (h 12) (h 13)) (by omega)
          rw [← i6] at this
          have le : 2 ^ (min (h 5) (caE (h 12) (h 13) + 4) - caE (h 12) (h 13)) ≤ 2 ^ 4 := Nat.pow_le_pow_right (by omega) (by omega)
          omega
        · rw [show min (h 5) (caE (h 12) (h 13) + 4) - caE (h 12) (h 13) = 0 by omega] at i6
          have : h 14 = 0 := i6
          omega
      · intro y
        rw [i5] at y
        rw [show min (h 5) (caE (h 12) (h 13) + 4) - caE (h 12) (h 13) = 3 by omega] at i6
        have := nl (caE (h 12) (h 13)) 3 (by omega)
        rw [← i6] at this
        omega
    · rw [if_neg z] at i6
      exact ⟨by omega, fun _ => by omega⟩
  refine ⟨e11, e12, e13, ?_, ?_, e16, by rw [i12]; exact crcF15_lt _, e14.1, e14.2, ?_, ?_, ?_, ?_, ?_⟩
  · rw [i5]
    split <;> omega
  · rw [i9]
    split <;> omega
  · intro z y
    by_cases x : atE (h 12) < h 5 ∧ caE (h 12) (h 13) + 4 ≤ h 5
    · rw [if_pos x] at i9
      rw [if_pos x.1] at i5
      omega
    · rw [if_neg x] at i9
      by_cases w : atE (h 12) < h 5
      · rw [if_pos w] at i5
        exact absurd ⟨w, by omega⟩ x
      · rw [if_neg w] at i5
        omega
  · intro z
    by_cases x : atE (h 12) < h 5 ∧ caE (h 12) (h 13) + 4 ≤ h 5
    · rw [if_pos x] at i9
      rw [if_pos x.1] at i5
      omega
    · rw [if_neg x] at i9
      omega
  · intro z
    by_cases x : atE (h 12) < h 5 ∧ caE (h 12) (h 13) + 4 ≤ h 5
    · rw [if_pos x] at i9
      omega
    · omega
  · intro z
    by_cases x : atE (h 12) < h 5
    · rw [if_pos x] at i5
      omega
    · rw [if_neg x] at i4
      omega
  · intro z
    by_cases x : atE (h 12) < h 5
    · rw [if_pos x] at i5
      omega
    · rw [if_neg x] at i5
      omega
def OI (p : Nat → Nat) (P ca oc : Nat) (o : Nat → Nat) : Prop := ∀ i, i < oc → ca + 4 + 8 * i < P → o i % 2 ^ (min 8 (P - (ca + 4 + 8 * i))) = num p (ca + 4 + 8 * i) (min 8 (P - (ca + 4 + 8 * i)))
theorem hPlain_15 {n b : Nat} {h : Nat → Nat} : hPlain n b h 15 = h 15 ∨ n + 1 ≤ hPlain n b h 15 := by
  unfold hPlain
  split
  · split
    · split
      · exact Or.inl rfl
      · split
        · exact Or.inl rfl
        · exact Or.inl rfl
    · unfold hHead
      split
      · exact Or.inl rfl
      · split
        · exact Or.inl rfl
        · split
          · exact Or.inl rfl
          · split
            · right
              rw [nst_s]
              omega
            · exact Or.inl rfl
  · exact Or.inl rfl
theorem md256 (x j : Nat) (hj : j ≤ 7) : (x % 256) % 2 ^ (j + 1) = x % 2 ^ (j + 1) := by
  apply Nat.mod_mod_of_dvd
  exact Nat.pow_dvd_pow 2 (show j + 1 ≤ 8 by omega)
theorem md2 (o b j : Nat) (hb : b < 2) : (2 * o + b) % 2 ^ (j + 1) = 2 * (o % 2 ^ j) + b := by
  rw [Nat.pow_succ, Nat.mul_comm (2 ^ j) 2]
  have hp : 0 < 2 ^ j := Nat.two_pow_pos j
  have h1 := Nat.div_add_mod o (2 ^ j)
  have h2 : o % 2 ^ j < 2 ^ j := Nat.mod_lt _ hp
  have h3 : 2 * o + b = 2 * (o % 2 ^ j) + b + 2 * 2 ^ j * (o / 2 ^ j) := by
    have : 2 * 2 ^ j * (o / 2 ^ j) = 2 * (2 ^ j * (o / 2 ^ j)) := Nat.mul_assoc _ _ _
    omega
  rw [h3, Nat.add_mul_mod_self_left, Nat.mod_eq_of_lt (by omega)]
theorem OI_s {p h o : Nat → Nat} {b : Nat} (hI : PI p h) (hb : b < 2) (hO : OI p (h 5) (h 15) (h 16) o) : OI (nst p (h 5) b) (h 5 + 1) (hPl0 b h 15) (hPl0 b h 16) (oPlain (h 5) b h o) := by
  obtain ⟨_, _, _, _, _, e16, _, _, _, b1, b2, b3, _, _⟩ := PI_b hI
  have hq : (nst p (h 5) b) (h 5) = b := nst_s
  have hqi : ∀ i, i < h 5 → (nst p (h 5) b) i = p i := fun i u => nst_n (by omega)
  generalize nst p (h 5) b = q at *
  by_cases c1 : h 15 + 4 ≤ h 5
  · have g : hPl0 b h 15 = h 15 ∧ hPl0 b h 16 = h 16 := by
      by_cases c2 : h 5 < h 17
      · have e : hPl0 b h = hC b (nst (nst (nst h 3 (if b = h 2 then h 3 + 1 else 1)) 2 b) 5 (h 5 + 1)) := hPlain_2 (show h 5 < h 17 from c2) (show h 15 + 4 ≤ h 5 from c1)
        rw [e]
        exact ⟨rfl, rfl⟩
      · have e : hPl0 b h = nst (nst (nst (nst h 3 (if b = h 2 then h 3 + 1 else 1)) 2 b) 5 (h 5 + 1)) 18 (2 * h 18 + b) := hPlain_5 (show h 17 ≤ h 5 by omega)
        rw [e]
        exact ⟨rfl, rfl⟩
    rw [g.1, g.2]
    unfold oPlain
    by_cases c2 : h 5 < h 17
    · rw [if_pos ⟨c2, c1⟩]
      intro i u1 u2
      by_cases z : i = (h 5 - h 15 - 4) / 8
      · rw [← z, nst_s, show min 8 (h 5 + 1 - (h 15 + 4 + 8 * i)) = (h 5 - (h 15 + 4 + 8 * i)) + 1 by omega, md256 _ _ (by omega), md2 _ _ _ hb]
        show _ = 2 * num q (h 15 + 4 + 8 * i) (h 5 - (h 15 + 4 + 8 * i)) + q (h 15 + 4 + 8 * i + (h 5 - (h 15 + 4 + 8 * i)))
        rw [show h 15 + 4 + 8 * i + (h 5 - (h 15 + 4 + 8 * i)) = h 5 by omega, hq, num_c (q := q) (p := p) _ (fun j w1 w2 => hqi j (by omega))]
        by_cases y : h 15 + 4 + 8 * i < h 5
        · have := hO i u1 y
          rw [show min 8 (h 5 - (h 15 + 4 + 8 * i)) = h 5 - (h 15 + 4 + 8 * i) by omega] at this
          rw [this]
        · rw [show h 5 - (h 15 + 4 + 8 * i) = 0 by omega]
          show 2 * (o i % 1) + b = 2 * 0 + b
          rw [Nat.mod_one]
      · rw [nst_n z]
        have := hO i u1 (by omega)
        rw [show min 8 (h 5 - (h 15 + 4 + 8 * i)) = 8 by omega] at this
        rw [show min 8 (h 5 + 1 - (h 15 + 4 + 8 * i)) = 8 by omega, this]
        exact (num_c _ (fun j w1 w2 => hqi j (by omega))).symm
    · rw [if_neg (fun z => c2 z.1)]
      have f := b2
      intro i u1 u2
      have f2 : h 17 = h 15 + 4 + 8 * h 16 := by
        by_cases y : h 17 < 100000
        · exact (b2 y).2.2.2
        · have := b3 (by omega)
          omega
      have := hO i u1 (by omega)
      rw [show min 8 (h 5 - (h 15 + 4 + 8 * i)) = 8 by omega] at this
      rw [show min 8 (h 5 + 1 - (h 15 + 4 + 8 * i)) = 8 by omega, this]
      exact (num_c _ (fun j w1 w2 => hqi j (by omega))).symm
  · intro i u1 u2
    exfalso
    have z : hPl0 b h 15 = h 15 ∨ h 5 + 1 ≤ hPl0 b h 15 := hPlain_15
    omega
/-! the ear: the stuffed bits -/
def CI (s : Nat → Nat) (K : Nat) (h : Nat → Nat) : Prop := (h 13 = 1 ∨ h 15 = 100000) → h 8 = crcF (2 ^ 16) 92251 65536 s K ∧ h 9 = crcF (2 ^ 20) 1058969 1048576 s K
def EX (s : Nat → Nat) (K : Nat) (p h o : Nat → Nat) : Prop := PI p h ∧ h 2 = s (K - 1) ∧ 1 ≤ h 3 ∧ h 3 ≤ 5 ∧ h 4 + h 5 = K ∧ 4 * h 4 + h 3 ≤ h 5 + 1 ∧ h 6 = 0 ∧ h 19 = 0 ∧ CI s K h ∧ h 8 < 131072 ∧ h 9 < 2097152 ∧ OI p (h 5) (h 15) (h 16) o
def ES (s : Nat → Nat) (K : Nat) (p h o : Nat → Nat) : Prop := EX s K p h o ∧ h 1 = 0 ∧ (h 5 < sEnd h ∨ (h 5 = sEnd h ∧ h 3 = 5 ∧ h 13 = 0))
def ED (s : Nat → Nat) (K : Nat) (p h o : Nat → Nat) : Prop := EX s K p h o ∧ ((h 13 = 1 ∧ h 1 = 1 ∧ h 5 = h 17) ∨ (h 13 = 0 ∧ h 1 = 2 ∧ h 5 = h 17 + 15))
def hBody (b : Nat) (h : Nat → Nat) : Nat → Nat := if h 3 = 5 then (if h 5 = sEnd h then nst (hStuff b h) 1 2 else hStuff b h) else hPl1 (hPl0 b h)
def rBody (b : Nat) (h : Nat → Nat) : Nat := if h 3 = 5 then (if b = h 2 then 1 else 0) else (if b = 1 ∧ hPl0 b h 13 = 1 ∧ h 5 = (if hPl0 b h 12 = 1 then 34 else 15) then 2 else 0)
def pBody (b : Nat) (p h : Nat → Nat) : Nat → Nat := if h 3 = 5 then p else nst p (h 5) b
def oBody (b : Nat) (h o : Nat → Nat) : Nat → Nat := if h 3 = 5 then o else oPlain (h 5) b h o
theorem hPlain_8 {n b : Nat} {h : Nat → Nat} (h1 : n < h 17) : hPlain n b h 8 = c17 (h 8) b ∧ hPlain n b h 9 = c21 (h 9) b := by
  have k : hC b h 8 = c17 (h 8) b ∧ hC b h 9 = c21 (h 9) b := ⟨rfl, rfl⟩
  unfold hPlain
  rw [if_pos h1]
  split
  · split
    · exact k
    · split
      · rw [hEnds_n (by omega), hEnds_n (by omega), nst_n (by omega), nst_n (by omega)]; exact k
      · rw [nst_n (by omega), nst_n (by omega)]; exact k
  · rw [hHead_n (by omega), hHead_n (by omega)]; exact k
theorem hPl0_n {b : Nat} {h : Nat → Nat} : hPl0 b h 1 = h 1 ∧ hPl0 b h 2 = b ∧ hPl0 b h 3 = (if b = h 2 then h 3 + 1 else 1) ∧ hPl0 b h 4 = h 4 ∧ hPl0 b h 5 = h 5 + 1 ∧ hPl0 b h 6 = h 6 ∧ hPl0 b h 19 = h 19 := by
  unfold hPl0
  rw [hPlain_n (by omega), hPlain_n (by omega), hPlain_n (by omega), hPlain_n (by omega), hPlain_n (by omega), hPlain_n (by omega), hPlain_n (by omega)]
  exact ⟨rfl, rfl, rfl, rfl, rfl, rfl, rfl⟩
/-- what stays known -/
theorem PI_k {p q h g : Nat → Nat} (hI : PI p h) (hG : PI q g) (hq : ∀ i, i < h 5 → q i = p i) (h5 : g 5 = h 5 + 1) (hk : h 15 < 100000) : g 12 = h 12 ∧ g 13 = h 13 ∧ g 15 = h 15 := by
  obtain ⟨i1, i2, i3, i4, i5, _⟩ := PI_x.mp hI
  obtain ⟨j1, j2, j3, j4, j5, _⟩ := PI_x.mp hG
  have at1 : atE (h 12) < h 5 := by
    by_cases z : atE (h 12) < h 5
    · exact z
    · rw [if_neg z] at i5
      omega
  have ab : 14 ≤ atE (h 12) := by unfold atE; split <;> omega
  have e12 : g 12 = h 12 := by
    rw [j3, if_pos (by omega), i3, if_pos (by omega), hq 13 (by omega)]
  have e13 : g 13 = h 13 := by
    rw [j4, e12, if_pos (by omega), i4, if_pos at1, hq _ at1]
  refine ⟨e12, e13, ?_⟩
  rw [j5, e12, e13, if_pos (by omega), i5, if_pos at1]
theorem PI_u {p h : Nat → Nat} (hI : PI p h) (hk : h 17 ≥ 100000) : h 5 < h 15 + 4 := by
  obtain ⟨_, q12, q13, _, _, _, _, _, _, _, b2, b3, _, _⟩ := PI_b hI
  have k := b3 hk
  obtain ⟨i1, i2, i3, i4, i5, i6, i7, i8, i9, _⟩ := PI_x.mp hI
  by_cases z : atE (h 12) < h 5
  · rw [if_pos z] at i5
    by_cases y : caE (h 12) (h 13) + 4 ≤ h 5
    · rw [if_pos ⟨z, y⟩] at i9
      have := ocE_le (h 13) (h 11) (h 14)
      rw [if_pos ⟨z, y⟩] at i8
      have cb := caE_b q12 q13
      have ab : atE (h 12) ≤ 33 := by unfold atE; split <;> omega
      omega
    · omega
  · rw [if_neg z] at i5
    omega
theorem EX_plain {s p h o : Nat → Nat} {K b : Nat} (hE : EX s K p h o) (h3 : h 3 < 5) (hK : 1 ≤ K) (hb : b < 2) (hs : s K = b) (he : h 5 < sEnd h) : EX s (K + 1) (nst p (h 5) b) (hPl0 b h) (oPlain (h 5) b h o) := by
  obtain ⟨e1, e2, e3, e4, e5, e6, e7, e8, e9, e10, e11, e12⟩ := hE
  obtain ⟨g1, g2, g3, g4, g5, g6, g19⟩ := hPl0_n (b := b) (h := h)
  have hG := PI_s e1 hb
  obtain ⟨_, q12, q13, q15, q17, _, _, _, _, _, b2, b3, b4, b5⟩ := PI_b e1
  have k89 : h 5 < h 17 → hPl0 b h 8 = c17 (h 8) b ∧ hPl0 b h 9 = c21 (h 9) b := fun z => hPlain_8 (n := h 5) (b := b) (h := nst (nst (nst h 3 (if b = h 2 then h 3 + 1 else 1)) 2 b) 5 (h 5 + 1)) z
  have n89 : h 17 ≤ h 5 → hPl0 b h 8 = h 8 ∧ hPl0 b h 9 = h 9 ∧ hPl0 b h 13 = h 13 ∧ hPl0 b h 15 = h 15 := fun z => by
    have e : hPl0 b h = nst (nst (nst (nst h 3 (if b = h 2 then h 3 + 1 else 1)) 2 b) 5 (h 5 + 1)) 18 (2 * h 18 + b) := hPlain_5 (show h 17 ≤ h 5 from z)
    rw [e]
    exact ⟨rfl, rfl, rfl, rfl⟩
  refine ⟨hG, by rw [g2, Nat.add_sub_cancel, hs], ?_, ?_, by rw [g4, g5]; omega, ?_, by rw [g6]; exact e7, by rw [g19]; exact e8, ?_, ?_, ?_, ?_⟩
  · rw [g3]; split <;> omega
  · rw [g3]; split <;> omega
  · rw [g3, g4, g5]; split <;> omega
  · intro hk
    by_cases z : h 5 < h 17
    · have pre : h 13 = 1 ∨ h 15 = 100000 := by
        by_cases y : h 15 < 100000
        · obtain ⟨_, y2, y3⟩ := PI_k e1 hG (fun i u => nst_n (by omega)) g5 y
          rw [y2, y3] at hk
          exact hk
        · right
          have := (PI_x.mp e1).2.2.2.2.1
          by_cases w : atE (h 12) < h 5
          · rw [if_pos w] at this
            have cb := caE_b q12 q13
            have ab : atE (h 12) ≤ 33 := by unfold atE; split <;> omega
            omega
          · rw [if_neg w] at this
            exact this
      obtain ⟨m1, m2⟩ := e9 pre
      obtain ⟨m3, m4⟩ := k89 z
      rw [m3, m4, m1, m2]
      constructor
      · show _ = crcS (2 ^ 16) 92251 (crcF (2 ^ 16) 92251 65536 s K) (s K)
        rw [hs]
        rfl
      · show _ = crcS (2 ^ 20) 1058969 (crcF (2 ^ 20) 1058969 1048576 s K) (s K)
        rw [hs]
        rfl
    · exfalso
      obtain ⟨_, _, m3, m4⟩ := n89 (by omega)
      rw [m3, m4] at hk
      have k1 : h 17 < 100000 := by
        by_cases y : h 17 < 100000
        · exact y
        · have := b3 (by omega)
          omega
      have k2 := b2 k1
      unfold sEnd at he
      rcases hk with y | y
      · rw [if_pos y] at he
        omega
      · omega
  · by_cases z : h 5 < h 17
    · rw [(k89 z).1]; exact c17_lt _ _
    · rw [(n89 (by omega)).1]; exact e10
  · by_cases z : h 5 < h 17
    · rw [(k89 z).2]; exact c21_lt _ _
    · rw [(n89 (by omega)).2.1]; exact e11
  · rw [g5]
    exact OI_s e1 hb e12
theorem EX_stuff {s p h o : Nat → Nat} {K b : Nat} (hE : EX s K p h o) (h3 : h 3 = 5) (hs : s K = b) : EX s (K + 1) p (hStuff b h) o := by
  obtain ⟨e1, e2, e3, e4, e5, e6, e7, e8, e9, e10, e11, e12⟩ := hE
  refine ⟨e1, by show b = s (K + 1 - 1); rw [Nat.add_sub_cancel, hs], by show 1 ≤ 1; omega, by show 1 ≤ 5; omega, by show h 4 + 1 + h 5 = K + 1; omega, by show 4 * (h 4 + 1) + 1 ≤ h 5 + 1; omega, e7, e8, ?_, c17_lt _ _, c21_lt _ _, e12⟩
  intro hk
  obtain ⟨m1, m2⟩ := e9 hk
  constructor
  · show c17 (h 8) b = crcS (2 ^ 16) 92251 (crcF (2 ^ 16) 92251 65536 s K) (s K)
    rw [hs, m1]
    rfl
  · show c21 (h 9) b = crcS (2 ^ 20) 1058969 (crcF (2 ^ 20) 1058969 1048576 s K) (s K)
    rw [hs, m2]
    rfl
theorem EX_1 {s p h o : Nat → Nat} {K x : Nat} (hE : EX s K p h o) : EX s K p (nst h 1 x) o := hE
theorem ES_step {s p h o : Nat → Nat} {K b : Nat} (hE : ES s K p h o) (hK : 1 ≤ K) (hb : b < 2) (hs : s K = b) (hr : rBody b h = 0) : (hBody b h 1 = 0 → ES s (K + 1) (pBody b p h) (hBody b h) (oBody b h o)) ∧ (hBody b h 1 ≠ 0 → ED s (K + 1) (pBody b p h) (hBody b h) (oBody b h o)) := by
  obtain ⟨hX, h1, hend⟩ := hE
  have hX' := hX
  obtain ⟨e1, _, _, e4, _⟩ := hX'
  obtain ⟨_, q12, q13, _, _, _, _, _, _, _, b2, b3, _, _⟩ := PI_b e1
  unfold hBody pBody oBody
  by_cases c1 : h 3 = 5
  · rw [if_pos c1, if_pos c1, if_pos c1]
    have x1 := EX_stuff hX c1 hs
    by_cases c2 : h 5 = sEnd h
    · rw [if_pos c2]
      refine ⟨fun z => by rw [nst_s] at z; omega, fun _ => ⟨EX_1 x1, Or.inr ⟨?_, nst_s, ?_⟩⟩⟩
      · show h 13 = 0
        rcases hend with z | z
        · omega
        · exact z.2.2
      · show h 5 = h 17 + 15
        rcases hend with z | z
        · omega
        · unfold sEnd at c2
          rw [if_neg (by omega)] at c2
          exact c2
    · rw [if_neg c2]
      have s1 : hStuff b h 1 = h 1 := rfl
      refine ⟨fun _ => ⟨x1, by rw [s1]; exact h1, Or.inl ?_⟩, fun z => absurd (by rw [s1]; exact h1) z⟩
      show h 5 < sEnd h
      omega
  · rw [if_neg c1, if_neg c1, if_neg c1]
    have he : h 5 < sEnd h := by
      rcases hend with z | z
      · exact z
      · omega
    have x1 := EX_plain hX (by omega) hK hb hs he
    obtain ⟨g1, g2, g3, g4, g5, g6, g19⟩ := hPl0_n (b := b) (h := h)
    have hG := PI_s e1 hb
    obtain ⟨_, r12, r13, _, _, _, _, _, _, _, d2, d3, d4, _⟩ := PI_b hG
    rw [h1] at g1
    generalize hg : hPl0 b h = g at *
    have bnd : g 5 ≤ sEnd g := by
      -- the end is not passed
      rw [g5]
      by_cases y : h 15 < 100000
      · obtain ⟨y1, y2, y3⟩ := PI_k e1 hG (fun i u => nst_n (by omega)) g5 y
        by_cases w : h 17 < 100000
        · have k1 := b2 w
          have w2 : g 17 < 100000 := by
            by_cases v : g 17 < 100000
            · exact v
            · have := d3 (by omega)
              have f9 := (PI_x.mp hG).2.2.2.2.2.2.2.2.1
              have f5 := (PI_x.mp hG).2.2.2.2.1
              by_cases u : atE (g 12) < g 5 ∧ caE (g 12) (g 13) + 4 ≤ g 5
              · rw [if_pos u] at f9
                have := ocE_le (g 13) (g 11) (g 14)
                have f8 := (PI_x.mp hG).2.2.2.2.2.2.2.1
                rw [if_pos u] at f8
                have cb := caE_b r12 r13
                have ab : atE (g 12) ≤ 33 := by unfold atE; split <;> omega
                omega
              · exfalso
                apply u
                have at1 : atE (g 12) < g 5 := by
                  by_cases t : atE (g 12) < g 5
                  · exact t
                  · rw [if_neg t] at f5
                    omega
                rw [if_pos at1] at f5
                exact ⟨at1, by omega⟩
          have k2 := d2 w2
          have e16 : g 16 = h 16 := by
            rw [← hg]
            by_cases t : h 5 < h 17
            · have e : hPl0 b h = hC b (nst (nst (nst h 3 (if b = h 2 then h 3 + 1 else 1)) 2 b) 5 (h 5 + 1)) := hPlain_2 (show h 5 < h 17 from t) (show h 15 + 4 ≤ h 5 by omega)
              rw [e]
              rfl
            · have e : hPl0 b h = nst (nst (nst (nst h 3 (if b = h 2 then h 3 + 1 else 1)) 2 b) 5 (h 5 + 1)) 18 (2 * h 18 + b) := hPlain_5 (show h 17 ≤ h 5 by omega)
              rw [e]
              rfl
          have se : sEnd g = sEnd h := by
            unfold sEnd
            rw [y2, k2.2.2.2, e16, y3, k1.2.2.2]
          omega
        · have k1 := b3 (by omega)
          have k3 := PI_u e1 (by omega)
          by_cases v : g 17 < 100000
          · have k2 := d2 v
            unfold sEnd
            split <;> omega
          · unfold sEnd
            split <;> omega
      · by_cases v : g 17 < 100000
        · have k2 := d2 v
          have z : hPl0 b h 15 = h 15 ∨ h 5 + 1 ≤ hPl0 b h 15 := hPlain_15
          rw [hg] at z
          omega
        · have := d3 (by omega)
          unfold sEnd
          split <;> omega
    unfold hPl1
    by_cases c2 : g 5 = sEnd g
    · rw [if_pos c2]
      by_cases c3 : g 13 = 1
      · rw [if_pos c3]
        refine ⟨fun z => by rw [nst_s] at z; omega, fun _ => ⟨EX_1 x1, Or.inl ⟨c3, nst_s, ?_⟩⟩⟩
        show g 5 = g 17
        unfold sEnd at c2
        rw [if_pos c3] at c2
        exact c2
      · rw [if_neg c3]
        by_cases c4 : g 3 < 5
        · rw [if_pos c4]
          refine ⟨fun z => by rw [nst_s] at z; omega, fun _ => ⟨EX_1 x1, Or.inr ⟨?_, nst_s, ?_⟩⟩⟩
          · show g 13 = 0
            omega
          · show g 5 = g 17 + 15
            unfold sEnd at c2
            rw [if_neg c3] at c2
            exact c2
        · rw [if_neg c4]
          refine ⟨fun _ => ⟨x1, g1, Or.inr ⟨c2, ?_, by omega⟩⟩, fun z => absurd g1 z⟩
          have := x1.2.2.2.1
          omega
    · rw [if_neg c2]
      exact ⟨fun _ => ⟨x1, g1, Or.inl (by omega)⟩, fun z => absurd g1 z⟩
theorem ES_0 {s p o : Nat → Nat} (h0 : s 0 = 0) (hp : p 0 = 0) : ES s 1 p h00 o := by
  refine ⟨⟨PI_0 hp, ?_, by decide, by decide, rfl, by decide, rfl, rfl, ?_, show c17 65536 0 < 131072 from c17_lt _ _, show c21 1048576 0 < 2097152 from c21_lt _ _, ?_⟩, rfl, Or.inl (by decide)⟩
  · show 0 = s 0
    rw [h0]
  · intro _
    constructor
    · show c17 65536 0 = crcS (2 ^ 16) 92251 65536 (s 0)
      rw [h0]
      rfl
    · show c21 1048576 0 = crcS (2 ^ 20) 1058969 1048576 (s 0)
      rw [h0]
      rfl
  · intro i u
    exfalso
    have : h00 16 = 0 := rfl
    omega
/-! the ear: behind the stuffed bits -/
def tld (s : Nat → Nat) (e : Nat) : Nat → Nat
  | 0 => 0
  | j + 1 => if j % 5 = 0 ∨ j < 5 then tld s e j else 2 * tld s e j + s (e + j)
def scS (s : Nat → Nat) (e : Nat) : Nat → Nat := fun i => if i < e then s i else s (i + 1)
def Wd (h : Nat → Nat) : Nat := if 16 < h 16 then 32 else 27
theorem Wd_b (h : Nat → Nat) : 27 ≤ Wd h ∧ Wd h ≤ 32 := by unfold Wd; split <;> omega
theorem tld_lt {s : Nat → Nat} {e : Nat} : ∀ j, (∀ i, i < e + j → s i < 2) → tld s e j < 2 ^ (j - (j + 4) / 5 - 4) := by
  intro j
  induction j with
  | zero => intro _; exact Nat.two_pow_pos _
  | succ j ih =>
    intro hs
    have h1 := ih (fun i u => hs i (by omega))
    unfold tld
    by_cases c : j % 5 = 0 ∨ j < 5
    · rw [if_pos c]
      exact Nat.lt_of_lt_of_le h1 (Nat.pow_le_pow_right (by omega) (by omega))
    · rw [if_neg c, show j + 1 - (j + 1 + 4) / 5 - 4 = (j - (j + 4) / 5 - 4) + 1 by omega, Nat.pow_succ]
      have := hs (e + j) (by omega)
      omega
def FX (s : Nat → Nat) (e : Nat) (he h : Nat → Nat) (i : Nat) : Prop :=
  h 2 = s (e + i - 1) ∧ h 19 = num (fun j => s (e + j)) 1 (min i 5 - 1) ∧ h 18 = tld s e i ∧ h 8 = crcF (2 ^ 16) 92251 65536 (scS s e) (e + (min i 5 - 1)) ∧ h 9 = crcF (2 ^ 20) 1058969 1048576 (scS s e) (e + (min i 5 - 1)) ∧ h 8 < 131072 ∧ h 9 < 2097152 ∧ ∀ c, c ≠ 1 → c ≠ 2 → c ≠ 6 → c ≠ 8 → c ≠ 9 → c ≠ 18 → c ≠ 19 → h c = he c
theorem FX_0 {s p h o : Nat → Nat} {e : Nat} (hD : ED s e p h o) (h13 : h 13 = 1) : FX s e h h 0 := by
  obtain ⟨⟨e1, e2, e3, e4, e5, e6, e7, e8, e9, e10, e11, e12⟩, hd⟩ := hD
  obtain ⟨m1, m2⟩ := e9 (Or.inl h13)
  have k18 : h 18 = 0 := by
    have := (PI_x.mp e1).2.2.2.2.2.2.2.2.2.2.1
    rcases hd with z | z
    · rw [this, z.2.2, Nat.sub_self]
      rfl
    · omega
  have cc : ∀ top sh v, crcF top sh v (scS s e) e = crcF top sh v s e := fun top sh v => crcF_c e (fun i u => if_pos u)
  refine ⟨e2, e8, k18, ?_, ?_, e10, e11, fun _ _ _ _ _ _ _ _ => rfl⟩
  · show h 8 = crcF (2 ^ 16) 92251 65536 (scS s e) e
    rw [cc]; exact m1
  · show h 9 = crcF (2 ^ 20) 1058969 1048576 (scS s e) e
    rw [cc]; exact m2
theorem FX_s {s he h : Nat → Nat} {e i b : Nat} (hF : FX s e he h i) (h6 : h 6 = i) (h1 : h 1 = 1) (hi : i < Wd he) (hs : s (e + i) = b) : FX s e he (hFix b h) (i + 1) ∧ (i + 1 < Wd he → hFix b h 1 = 1 ∧ hFix b h 6 = i + 1) ∧ (i + 1 = Wd he → hFix b h 1 = 2 ∧ hFix b h 6 = 0) := by
  obtain ⟨f2, f19, f18, f8, f9, l8, l9, fr⟩ := hF
  have f16 : h 16 = he 16 := fr 16 (by omega) (by omega) (by omega) (by omega) (by omega) (by omega) (by omega)
  have wb := Wd_b he
  have w1 : 3 + (if 16 < h 16 then 21 else 17) = (if Wd he = 32 then 24 else 20) := by
    unfold Wd
    rw [f16]
    by_cases c : 16 < he 16
    · rw [if_pos c, if_pos c, if_pos rfl]
    · rw [if_neg c, if_neg c, if_neg (by omega)]
  have w2 : Wd he = 27 ∨ Wd he = 32 := by unfold Wd; split <;> omega
  unfold hFix
  rw [h6, w1]
  by_cases c1 : i % 5 = 0
  · rw [if_pos c1]
    refine ⟨⟨?_, ?_, ?_, ?_, ?_, l8, l9, fun c u1 u2 u3 u4 u5 u6 u7 => ?_⟩, fun _ => ⟨h1, nst_n (by omega)⟩, fun z => by omega⟩
    · rw [nst_s]; exact hs.symm
    · show h 19 = _
      rw [f19]
      by_cases z : i = 0
      · rw [z]; rfl
      · rw [show min (i + 1) 5 - 1 = min i 5 - 1 by omega]
    · show h 18 = tld s e (i + 1)
      unfold tld
      rw [if_pos (Or.inl c1)]
      exact f18
    · show h 8 = _
      rw [f8]
      by_cases z : i = 0
      · rw [z]; rfl
      · rw [show min (i + 1) 5 - 1 = min i 5 - 1 by omega]
    · show h 9 = _
      rw [f9]
      by_cases z : i = 0
      · rw [z]; rfl
      · rw [show min (i + 1) 5 - 1 = min i 5 - 1 by omega]
    · rw [nst_n (by omega), nst_n (by omega)]
      exact fr c u1 u2 u3 u4 u5 u6 u7
  · rw [if_neg c1]
    by_cases c2 : 4 ≤ i - i / 5 - 1
    · rw [if_pos c2]
      have base : FX s e he (nst (nst (nst h 6 (i + 1)) 2 b) 18 (2 * h 18 + b)) (i + 1) := by
        refine ⟨hs.symm, ?_, ?_, ?_, ?_, l8, l9, fun c u1 u2 u3 u4 u5 u6 u7 => ?_⟩
        · show h 19 = _
          rw [f19, show min (i + 1) 5 - 1 = min i 5 - 1 by omega]
        · rw [nst_s]
          unfold tld
          rw [if_neg (by omega), f18, hs]
        · show h 8 = _
          rw [f8, show min (i + 1) 5 - 1 = min i 5 - 1 by omega]
        · show h 9 = _
          rw [f9, show min (i + 1) 5 - 1 = min i 5 - 1 by omega]
        · rw [nst_n (by omega), nst_n (by omega), nst_n (by omega)]
          exact fr c u1 u2 u3 u4 u5 u6 u7
      by_cases c3 : i - i / 5 - 1 = (if Wd he = 32 then 24 else 20)
      · rw [if_pos c3]
        have c4 : i + 1 = Wd he := by
          rcases w2 with w | w
          · rw [w, if_neg (by decide)] at c3; omega
          · rw [w, if_pos rfl] at c3; omega
        refine ⟨?_, fun z => by omega, fun _ => ⟨rfl, nst_s⟩⟩
        obtain ⟨g2, g19, g18, g8, g9, gl8, gl9, gf⟩ := base
        refine ⟨g2, g19, g18, g8, g9, gl8, gl9, fun c u1 u2 u3 u4 u5 u6 u7 => ?_⟩
        rw [nst_n (by omega), nst_n (by omega)]
        exact gf c u1 u2 u3 u4 u5 u6 u7
      · rw [if_neg c3]
        refine ⟨base, fun _ => ⟨h1, rfl⟩, fun z => ?_⟩
        exfalso
        apply c3
        rcases w2 with w | w
        · rw [w, if_neg (by decide)]; omega
        · rw [w, if_pos rfl]; omega
    · rw [if_neg c2]
      have ii : 1 ≤ i ∧ i ≤ 4 := by omega
      refine ⟨⟨hs.symm, ?_, ?_, ?_, ?_, c17_lt _ _, c21_lt _ _, fun c u1 u2 u3 u4 u5 u6 u7 => ?_⟩, fun _ => ⟨h1, rfl⟩, fun z => by omega⟩
      · show 2 * h 19 + b = _
        rw [f19, show min i 5 - 1 = i - 1 by omega, show min (i + 1) 5 - 1 = (i - 1) + 1 by omega]
        show _ = 2 * num (fun j => s (e + j)) 1 (i - 1) + s (e + (1 + (i - 1)))
        rw [show 1 + (i - 1) = i by omega, hs]
      · show h 18 = tld s e (i + 1)
        unfold tld
        rw [if_pos (by omega)]
        exact f18
      · show c17 (h 8) b = _
        rw [f8, show min i 5 - 1 = i - 1 by omega, show e + (min (i + 1) 5 - 1) = (e + (i - 1)) + 1 by omega]
        show _ = crcS (2 ^ 16) 92251 (crcF (2 ^ 16) 92251 65536 (scS s e) (e + (i - 1))) (scS s e (e + (i - 1)))
        rw [show scS s e (e + (i - 1)) = b by unfold scS; rw [if_neg (by omega), show e + (i - 1) + 1 = e + i by omega]; exact hs]
        rfl
      · show c21 (h 9) b = _
        rw [f9, show min i 5 - 1 = i - 1 by omega, show e + (min (i + 1) 5 - 1) = (e + (i - 1)) + 1 by omega]
        show _ = crcS (2 ^ 20) 1058969 (crcF (2 ^ 20) 1058969 1048576 (scS s e) (e + (i - 1))) (scS s e (e + (i - 1)))
        rw [show scS s e (e + (i - 1)) = b by unfold scS; rw [if_neg (by omega), show e + (i - 1) + 1 = e + i by omega]; exact hs]
        rfl
      · rw [nst_n (by omega), nst_n (by omega), nst_n (by omega), nst_n (by omega), nst_n (by omega)]
        exact fr c u1 u2 u3 u4 u5 u6 u7
/-- the whole of it -/
def hAll (b : Nat) (h : Nat → Nat) : Nat → Nat := if h 1 = 1 then hFix b h else if h 1 = 2 then nst h 6 (h 6 + 1) else hBody b h
def rAll (b : Nat) (h : Nat → Nat) : Nat := if h 1 = 1 then rFix b h else if h 1 = 2 then rTail b h else rBody b h
def oAll (b : Nat) (h o : Nat → Nat) : Nat → Nat := if h 1 = 0 then oBody b h o else o
def pAll (b : Nat) (p h : Nat → Nat) : Nat → Nat := if h 1 = 0 then pBody b p h else p
/-- behind the body: e bits of it, i bits more -/
def ET (s : Nat → Nat) (e i : Nat) (p he h o : Nat → Nat) : Prop := ED s e p he o ∧
  ((he 13 = 0 ∧ h = nst he 6 i ∧ i ≤ 9) ∨
   (he 13 = 1 ∧ i < Wd he ∧ FX s e he h i ∧ h 1 = 1 ∧ h 6 = i) ∨
   (he 13 = 1 ∧ ∃ g, FX s e he g (Wd he) ∧ g 1 = 2 ∧ Wd he ≤ i ∧ i - Wd he ≤ 9 ∧ h = nst g 6 (i - Wd he)))
theorem nst_nst {h : Nat → Nat} {i x y : Nat} : nst (nst h i x) i y = nst h i y := by
  funext j
  unfold nst
  by_cases q : j = i
  · rw [if_pos q, if_pos q]
  · rw [if_neg q, if_neg q, if_neg q]
theorem nst_id {h : Nat → Nat} {i x : Nat} (e : h i = x) : nst h i x = h := by
  funext j
  unfold nst
  by_cases q : j = i
  · rw [if_pos q, q, e]
  · rw [if_neg q]
theorem ET_0 {s p h o : Nat → Nat} {e : Nat} (hD : ED s e p h o) : ET s e 0 p h h o := by
  refine ⟨hD, ?_⟩
  have wb := Wd_b h
  have h6 := hD.1.2.2.2.2.2.2.1
  rcases hD.2 with z | z
  · exact Or.inr (Or.inl ⟨z.1, by omega, FX_0 hD z.1, z.2.1, h6⟩)
  · exact Or.inl ⟨z.1, (nst_id h6).symm, by omega⟩
theorem rTail_9 {b : Nat} {h : Nat → Nat} (h6 : h 6 = 9) : rTail b h = 5 ∨ rTail b h = 7 := by
  unfold rTail
  rw [h6, if_neg (show ¬ 9 = 1 by decide)]
  by_cases z : b = 0
  · rw [if_pos z, if_pos rfl]
    exact Or.inl rfl
  · rw [if_neg z, if_neg (show ¬ (9 = 2 ∧ hRight h = false) from fun y => by omega), if_neg (show ¬ 9 = 8 by decide), if_neg (show ¬ 9 < 9 by decide)]
    exact Or.inr rfl
theorem ET_s {s p he h o : Nat → Nat} {e i b : Nat} (hT : ET s e i p he h o) (hs : s (e + i) = b) (hr : rAll b h = 0 ∨ rAll b h = 6) : ET s e (i + 1) p he (hAll b h) o ∧ h 1 ≠ 0 := by
  obtain ⟨hD, hc⟩ := hT
  have wb := Wd_b he
  rcases hc with ⟨c1, c2, c3⟩ | ⟨c1, c2, c3, c4, c5⟩ | ⟨c1, g, c2, c3, c4, c5, c6⟩
  · have h1 : h 1 = 2 := by
      rw [c2]
      rcases hD.2 with z | z
      · omega
      · exact z.2.1
    have h6 : h 6 = i := by rw [c2, nst_s]
    have n9 : i ≠ 9 := by
      intro z
      have : rAll b h = 5 ∨ rAll b h = 7 := by
        unfold rAll
        rw [if_neg (by omega), if_pos h1]
        exact rTail_9 (by omega)
      omega
    refine ⟨⟨hD, Or.inl ⟨c1, ?_, by omega⟩⟩, by omega⟩
    unfold hAll
    rw [if_neg (by omega), if_pos h1, h6, c2, nst_nst]
  · refine ⟨⟨hD, ?_⟩, by omega⟩
    obtain ⟨a1, a2, a3⟩ := FX_s c3 c5 c4 c2 hs
    have e1 : hAll b h = hFix b h := if_pos c4
    rw [e1]
    by_cases z : i + 1 < Wd he
    · exact Or.inr (Or.inl ⟨c1, z, a1, a2 z⟩)
    · have z2 : i + 1 = Wd he := by omega
      rw [z2] at a1
      obtain ⟨a4, a5⟩ := a3 z2
      refine Or.inr (Or.inr ⟨c1, _, a1, a4, by omega, by omega, ?_⟩)
      rw [show i + 1 - Wd he = 0 by omega]
      exact (nst_id a5).symm
  · have h1 : h 1 = 2 := by rw [c6]; exact c3
    have h6 : h 6 = i - Wd he := by rw [c6, nst_s]
    have n9 : i - Wd he ≠ 9 := by
      intro z
      have : rAll b h = 5 ∨ rAll b h = 7 := by
        unfold rAll
        rw [if_neg (by omega), if_pos h1]
        exact rTail_9 (by omega)
      omega
    refine ⟨⟨hD, Or.inr (Or.inr ⟨c1, g, c2, c3, by omega, by omega, ?_⟩)⟩, by omega⟩
    unfold hAll
    rw [if_neg (by omega), if_pos h1, h6, c6, nst_nst, show i + 1 - Wd he = i - Wd he + 1 by omega]
/-! the ear: a row of bits -/
def hq (s : Nat → Nat) : Nat → Nat → Nat
  | 0 => h00
  | K + 1 => if K = 0 then h00 else hAll (s K) (hq s K)
def pq (s : Nat → Nat) : Nat → Nat → Nat
  | 0 => fun _ => 0
  | K + 1 => if K = 0 then (fun _ => 0) else pAll (s K) (pq s K) (hq s K)
def oq (s o0 : Nat → Nat) : Nat → Nat → Nat
  | 0 => o0
  | K + 1 => if K = 0 then o0 else oAll (s K) (hq s K) (oq s o0 K)
theorem hq_s {s : Nat → Nat} {K : Nat} (h : 1 ≤ K) : hq s (K + 1) = hAll (s K) (hq s K) := if_neg (by omega)
theorem pq_s {s : Nat → Nat} {K : Nat} (h : 1 ≤ K) : pq s (K + 1) = pAll (s K) (pq s K) (hq s K) := if_neg (by omega)
theorem oq_s {s o0 : Nat → Nat} {K : Nat} (h : 1 ≤ K) : oq s o0 (K + 1) = oAll (s K) (hq s K) (oq s o0 K) := if_neg (by omega)
def Gd (s : Nat → Nat) (K : Nat) : Prop := ∀ j, 1 ≤ j → j < K → rAll (s j) (hq s j) = 0 ∨ rAll (s j) (hq s j) = 6
def BE (s o0 : Nat → Nat) (K e : Nat) : Prop := 2 ≤ e ∧ e ≤ K + 1 ∧ (∀ j, 1 ≤ j → j ≤ K → j < e → ES s j (pq s j) (hq s j) (oq s o0 j)) ∧ ∀ i, e + i ≤ K → ET s e i (pq s e) (hq s e) (hq s (e + i)) (oq s o0 e) ∧ pq s (e + i) = pq s e ∧ oq s o0 (e + i) = oq s o0 e
theorem rBody_6 {b : Nat} {h : Nat → Nat} : rBody b h ≠ 6 := by
  unfold rBody
  split
  · split <;> omega
  · by_cases z : b = 1 ∧ hPl0 b h 13 = 1 ∧ h 5 = (if hPl0 b h 12 = 1 then 34 else 15)
    · rw [if_pos z]; decide
    · rw [if_neg z]; decide
theorem BE_K {s : Nat → Nat} (o0 : Nat → Nat) : ∀ K, 1 ≤ K → s 0 = 0 → (∀ i, i < K → s i < 2) → Gd s K → ∃ e, BE s o0 K e := by
  intro K
  induction K with
  | zero => intro h; omega
  | succ K ih =>
    intro _ h0 hs hg
    by_cases k0 : K = 0
    · subst k0
      refine ⟨2, by omega, by omega, fun j u1 u2 u3 => ?_, fun i u => by omega⟩
      have : j = 1 := by omega
      subst this
      exact ES_0 h0 rfl
    · obtain ⟨e, b1, b2, b3, b4⟩ := ih (by omega) h0 (fun i u => hs i (by omega)) (fun j u1 u2 => hg j u1 (by omega))
      have hr := hg K (by omega) (by omega)
      by_cases ce : K < e
      · have e1 := b3 K (by omega) (by omega) ce
        have e2 := e1.2.1
        have ra : rAll (s K) (hq s K) = rBody (s K) (hq s K) := by
          unfold rAll
          rw [if_neg (by omega), if_neg (by omega)]
        have ha : hAll (s K) (hq s K) = hBody (s K) (hq s K) := by
          unfold hAll
          rw [if_neg (by omega), if_neg (by omega)]
        have rz : rBody (s K) (hq s K) = 0 := by
          rw [ra] at hr
          rcases hr with z | z
          · exact z
          · exact absurd z rBody_6
        obtain ⟨q1, q2⟩ := ES_step e1 (by omega) (hs K (by omega)) rfl rz
        have hh : hq s (K + 1) = hBody (s K) (hq s K) := by rw [hq_s (by omega), ha]
        have pp : pq s (K + 1) = pBody (s K) (pq s K) (hq s K) := by
          rw [pq_s (by omega)]
          exact if_pos e2
        have oo : oq s o0 (K + 1) = oBody (s K) (hq s K) (oq s o0 K) := by
          rw [oq_s (by omega)]
          exact if_pos e2
        rw [← hh, ← pp, ← oo] at q1 q2
        by_cases cs : hq s (K + 1) 1 = 0
        · refine ⟨K + 2, by omega, by omega, fun j u1 u2 u3 => ?_, fun i u => by omega⟩
          by_cases z : j = K + 1
          · rw [z]; exact q1 cs
          · exact b3 j u1 (by omega) (by omega)
        · refine ⟨K + 1, by omega, by omega, fun j u1 u2 u3 => b3 j u1 (by omega) (by omega), fun i u => ?_⟩
          have : i = 0 := by omega
          subst this
          exact ⟨ET_0 (q2 cs), rfl, rfl⟩
      · refine ⟨e, b1, by omega, fun j u1 u2 u3 => b3 j u1 (by omega) u3, fun i u => ?_⟩
        by_cases z : e + i ≤ K
        · exact b4 i z
        · obtain ⟨i', rfl⟩ : ∃ i', i = i' + 1 := ⟨i - 1, by omega⟩
          obtain ⟨t1, t2, t3⟩ := b4 i' (by omega)
          have ek : e + i' = K := by omega
          obtain ⟨t4, t5⟩ := ET_s t1 rfl (by rw [ek]; exact hr)
          rw [show e + (i' + 1) = (e + i') + 1 by omega, hq_s (by omega), pq_s (by omega), oq_s (by omega)]
          refine ⟨t4, ?_, ?_⟩
          · rw [← t2]
            exact if_neg t5
          · rw [← t3]
            exact if_neg t5
/-- bounds in the tail -/
theorem ET_b {s p he h o : Nat → Nat} {e i : Nat} (hT : ET s e i p he h o) (hs : ∀ j, j < e + i → s j < 2) : h 2 < 2 ∧ h 1 < 3 ∧ 1 ≤ h 1 ∧ h 6 < 1000 ∧ h 13 < 2 ∧ h 16 < 1000 ∧ h 18 < 2097152 ∧ h 7 < 32768 ∧ h 8 < 131072 ∧ h 9 < 2097152 ∧ h 4 < 2000000000 ∧ (h 1 = 1 → h 19 < 1000) ∧ e < 1000 ∧ i < 50 := by
  obtain ⟨⟨⟨e1, e2, e3, e4, e5, e6, e7, e8, e9, e10, e11, e12⟩, hd⟩, hc⟩ := hT
  obtain ⟨_, q12, q13, q15, q17, q16, q7, _, _, _, b2, b3, b4, b5⟩ := PI_b e1
  have f11 := (PI_x.mp e1).2.2.2.2.2.2.2.2.2.2.1
  have f1 := (PI_x.mp e1).1
  have k17 : he 17 < 100000 := by
    by_cases y : he 17 < 100000
    · exact y
    · have := b3 (by omega)
      omega
  have k := b2 k17
  have l4 : he 4 < 1000 ∧ e < 1000 := by omega
  have wb := Wd_b he
  have l2 : he 2 < 2 := by rw [e2]; exact hs _ (by omega)
  rcases hc with ⟨c1, c2, c3⟩ | ⟨c1, c2, c3, c4, c5⟩ | ⟨c1, g, c2, c3, c4, c5, c6⟩
  · have d := hd.resolve_left (by omega)
    have l18 : he 18 < 2097152 := by
      rw [f11, d.2.2, show he 17 + 15 - he 17 = 15 by omega]
      have := num_lt (p := p) (a := he 17) 15 (fun j u1 u2 => f1 j (by omega))
      omega
    have h6 : h 6 = i := by rw [c2, nst_s]
    rw [h6]
    rw [c2]
    refine ⟨l2, ?_, ?_, by omega, by show he 13 < 2; omega, by show he 16 < 1000; omega, l18, q7, e10, e11, by show he 4 < 2000000000; omega, fun z => by show he 19 < 1000; omega, l4.2, by omega⟩
    · show he 1 < 3
      omega
    · show 1 ≤ he 1
      omega
  · obtain ⟨f2, f19, f18, f8, f9, l8, l9, fr⟩ := c3
    have g13 := fr 13 (by omega) (by omega) (by omega) (by omega) (by omega) (by omega) (by omega)
    have g16 := fr 16 (by omega) (by omega) (by omega) (by omega) (by omega) (by omega) (by omega)
    have g7 := fr 7 (by omega) (by omega) (by omega) (by omega) (by omega) (by omega) (by omega)
    have g4 := fr 4 (by omega) (by omega) (by omega) (by omega) (by omega) (by omega) (by omega)
    have t1 := tld_lt (s := s) (e := e) i (fun j u => hs j (by omega))
    have t2 : 2 ^ (i - (i + 4) / 5 - 4) ≤ 2 ^ 21 := Nat.pow_le_pow_right (by omega) (by omega)
    have t3 := num_lt (p := fun j => s (e + j)) (a := 1) (min i 5 - 1) (fun j u1 u2 => hs _ (by omega))
    have t4 : 2 ^ (min i 5 - 1) ≤ 2 ^ 4 := Nat.pow_le_pow_right (by omega) (by omega)
    refine ⟨?_, by omega, by omega, by omega, by omega, by omega, by omega, by omega, l8, l9, by omega, fun _ => by omega, l4.2, by omega⟩
    rw [f2]
    exact hs _ (by omega)
  · obtain ⟨f2, f19, f18, f8, f9, l8, l9, fr⟩ := c2
    have g13 := fr 13 (by omega) (by omega) (by omega) (by omega) (by omega) (by omega) (by omega)
    have g16 := fr 16 (by omega) (by omega) (by omega) (by omega) (by omega) (by omega) (by omega)
    have g7 := fr 7 (by omega) (by omega) (by omega) (by omega) (by omega) (by omega) (by omega)
    have g4 := fr 4 (by omega) (by omega) (by omega) (by omega) (by omega) (by omega) (by omega)
    have t1 := tld_lt (s := s) (e := e) (Wd he) (fun j u => hs j (by omega))
    have t2 : 2 ^ (Wd he - (Wd he + 4) / 5 - 4) ≤ 2 ^ 21 := Nat.pow_le_pow_right (by omega) (by omega)
    have h6 : h 6 = i - Wd he := by rw [c6, nst_s]
    rw [h6]
    rw [c6]
    refine ⟨?_, by show g 1 < 3; omega, by show 1 ≤ g 1; omega, by omega, by show g 13 < 2; omega, by show g 16 < 1000; omega, by show g 18 < 2097152; omega, by show g 7 < 32768; omega, l8, l9, by show g 4 < 2000000000; omega, fun z => ?_, l4.2, by omega⟩
    · show g 2 < 2
      rw [f2]
      exact hs _ (by omega)
    · have z' : g 1 = 1 := z
      omega
theorem c_hearK {fu k K : Nat} {s o0 : Nat → Nat} {A : mwM} {L : mwL} (hE : EaR A k (hq s K)) (hO : OcR A k (oq s o0 K)) (hK : 1 ≤ K) (h0 : s 0 = 0) (hs : ∀ i, i ≤ K → s i < 2) (hg : Gd s K) : wq (DX5_hear fu k (sI (s K)) A L) (fun z => z.1 = rI (rAll (s K) (hq s K)) ∧ z.2.2 = L ∧ ((rAll (s K) (hq s K) = 0 ∨ rAll (s K) (hq s K) = 6) → EaR z.2.1 k (hq s (K + 1)) ∧ OcR z.2.1 k (oq s o0 (K + 1))) ∧ (∃ o, OcR z.2.1 k o) ∧ ∀ a y, a ≠ k → a ≠ k + 1 → z.2.1 a y = A a y) := by
  obtain ⟨e, b1, b2, b3, b4⟩ := BE_K o0 K hK h0 (fun i u => hs i (by omega)) hg
  have hb := hs K (by omega)
  rw [hq_s hK, oq_s hK]
  by_cases ce : K < e
  · obtain ⟨⟨e1, e2, e3, e4, e5, e6, e7, e8, e9, e10, e11, e12⟩, h1, hend⟩ := b3 K hK (by omega) ce
    obtain ⟨q11, q12, q13, q15, q17, q16, q7, q14, q14b, qo, p2, p3, p4, p5⟩ := PI_b e1
    have l2 : hq s K 2 < 2 := by rw [e2]; exact hs _ (by omega)
    have ha : hAll (s K) (hq s K) = hBody (s K) (hq s K) := by
      unfold hAll
      rw [if_neg (by omega), if_neg (by omega)]
    have ra : rAll (s K) (hq s K) = rBody (s K) (hq s K) := by
      unfold rAll
      rw [if_neg (by omega), if_neg (by omega)]
    have oa : oAll (s K) (hq s K) (oq s o0 K) = oBody (s K) (hq s K) (oq s o0 K) := if_pos h1
    have l5 : hq s K 5 < 100000 := by
      by_cases y : hq s K 17 < 100000
      · have := p2 y
        unfold sEnd at hend
        split at hend <;> omega
      · have := p3 (by omega)
        omega
    rw [ha, ra, oa]
    generalize hq s K = h at *
    generalize s K = b at *
    unfold hBody rBody oBody
    by_cases c3 : h 3 = 5
    · rw [if_pos c3, if_pos c3, if_pos c3]
      refine wq_mono (c_hearS (fu := fu) (L := L) hE hO hb h1 l2 c3 (by omega) e10 e11 q13 q17) ?_
      rintro z ⟨z1, z2, z3, z4⟩
      refine ⟨z1, z2, fun y => ?_, ⟨_, OcR_f hO (fun y => z4 _ y (by omega))⟩, fun a x u1 u2 => z4 a x u1⟩
      apply z3
      intro w
      rw [if_pos w] at y
      omega
    · rw [if_neg c3, if_neg c3, if_neg c3]
      have hG := PI_s e1 hb
      obtain ⟨_, r12, r13, _, r17, _⟩ := PI_b hG
      refine wq_mono (c_hearP (fu := fu) (L := L) hE hO hb h1 l2 (by omega) l5 q7 e10 e11 q11 q12 q13 q15 q17 (fun z => by have := q14b z; omega) qo r12 r13 r17) ?_
      rintro z ⟨z1, z2, z3, z5, z4⟩
      refine ⟨z1, z2, fun y => ⟨?_, z5⟩, ⟨_, z5⟩, z4⟩
      apply z3
      intro w
      rw [if_pos w] at y
      omega
  · obtain ⟨i, rfl⟩ : ∃ i, K = e + i := ⟨K - e, by omega⟩
    obtain ⟨t1, t2, t3⟩ := b4 i (by omega)
    obtain ⟨l2, l1, l1', l6, l13, l16, l18, l7, l8, l9, l4, l19, _⟩ := ET_b t1 (fun j u => hs j (by omega))
    have oa : oAll (s (e + i)) (hq s (e + i)) (oq s o0 (e + i)) = oq s o0 (e + i) := if_neg (by omega)
    rw [oa]
    generalize hq s (e + i) = h at *
    generalize s (e + i) = b at *
    unfold hAll rAll
    by_cases c1 : h 1 = 1
    · rw [if_pos c1, if_pos c1]
      refine wq_mono (c_hearF (fu := fu) (L := L) hE hb c1 l2 l4 l6 l8 l9 l16 (l19 c1)) ?_
      rintro z ⟨z1, z2, z3, z4⟩
      exact ⟨z1, z2, fun _ => ⟨z3, OcR_f hO (fun y => z4 _ y (by omega))⟩, ⟨_, OcR_f hO (fun y => z4 _ y (by omega))⟩, fun a x u1 u2 => z4 a x u1⟩
    · have c2 : h 1 = 2 := by omega
      rw [if_neg c1, if_neg c1, if_pos c2, if_pos c2]
      refine wq_mono (c_hearT (fu := fu) (L := L) hE hb c2 l6 l13 l16 (by omega) l7 l8 l9) ?_
      rintro z ⟨z1, z2, z3, z4⟩
      exact ⟨z1, z2, fun _ => ⟨z3, OcR_f hO (fun y => z4 _ y (by omega))⟩, ⟨_, OcR_f hO (fun y => z4 _ y (by omega))⟩, fun a x u1 u2 => z4 a x u1⟩
def putK (h : Nat → Nat) : Nat := if h 1 = 2 ∧ h 6 = 1 ∧ hRight h = true then 0 else 1
theorem c_putK {fu k K : Nat} {s : Nat → Nat} {A : mwM} {L : mwL} (hE : EaR A k (hq s K)) (hK : 1 ≤ K) (h0 : s 0 = 0) (hs : ∀ i, i < K → s i < 2) (hg : Gd s K) : DX5_putBit fu k A L = some (sI (putK (hq s K)), A, L) := by
  obtain ⟨e, b1, b2, b3, b4⟩ := BE_K (fun _ => 0) K hK h0 hs hg
  by_cases ce : K < e
  · obtain ⟨⟨e1, e2, e3, e4, e5, e6, e7, e8, e9, e10, e11, e12⟩, h1, hend⟩ := b3 K hK (by omega) ce
    unfold DX5_putBit fX5_putBit_b27 fX5_putBit_b28
    rw [hE 1 (by omega) (by omega), h1, if_neg (show ¬ sI 0 = 2 by decide)]
    unfold putK
    rw [if_neg (fun z => by omega)]
    rfl
  · obtain ⟨i, rfl⟩ : ∃ i, K = e + i := ⟨K - e, by omega⟩
    obtain ⟨t1, t2, t3⟩ := b4 i (by omega)
    obtain ⟨l2, l1, l1', l6, l13, l16, l18, l7, l8, l9, l4, l19, _⟩ := ET_b t1 hs
    exact c_putBit hE l1 l6 l13 l16 (by omega) l7 l8 l9
/-! the reference's bus: numbers, checks -/
theorem nb2 : ∀ b, b < 2 → vp_nar .byte (sI b).toInt8.toInt32 = sI b := by decide
theorem nb2' : ∀ b, b < 2 → vp_nar .byte (sI b) = sI b := by decide
theorem m_number {fu a n : Nat} {p : Nat → Nat} {M : mwM} {L : mwL} (hf : n < fu) (ha : a + n ≤ 700) (hp : ∀ i, a ≤ i → i < a + n → M 848 i = sI (p i)) : DX12_number fu (sI a) (sI n) M L = some (sI (num p a n), M, L) := by
  unfold DX12_number
  have key : ∀ (m j f : Nat), j + m = n → m < f → fX12_number_h5 fu (sI a) (sI n) f (sI (num p a j), sI (a + j), M, L) = some (sI (num p a n), M, L) := by
    intro m
    induction m with
    | zero =>
      intro j f hj hf1
      obtain ⟨g, rfl⟩ : ∃ g, f = g + 1 := ⟨f - 1, by omega⟩
      have : j = n := by omega
      subst this
      unfold fX12_number_h5
      rw [mloop_S]
      show fX12_number_i5 fu (sI a) (sI j) _ (sI (num p a j)) (sI (a + j)) M L = _
      unfold fX12_number_i5
      rw [sI_add, if_pos (by rw [sI_le (by omega) (by omega)]; omega)]
    | succ m ih =>
      intro j f hj hf1
      obtain ⟨g, rfl⟩ : ∃ g, f = g + 1 := ⟨f - 1, by omega⟩
      unfold fX12_number_h5
      rw [mloop_S]
      show fX12_number_i5 fu (sI a) (sI n) (fX12_number_h5 fu (sI a) (sI n) g) (sI (num p a j)) (sI (a + j)) M L = _
      unfold fX12_number_i5
      rw [sI_add, if_neg (by rw [sI_le (by omega) (by omega)]; omega), mck_s (by omega) (by omega), sI_nn (by omega), hp _ (by omega) (by omega), sI_lml, sI_add, sI_1]
      simp only [mlet]
      exact ih (j + 1) g (by omega) (by omega)
  exact key n 0 fu (by omega) hf
theorem m_check {fu c b : Nat} {M : mwM} {L : mwL} (hc : M 821 41 = sI c) (hc2 : c < 1200) (hb : b < 2) : DX12_check fu (sI b) M L = some (mset (mset M 852 c (sI b)) 821 41 (sI (c + 1)), L) := by
  unfold DX12_check
  simp only [mlet]
  rw [hc, mck_s hc2 (by omega), sI_nn (by omega), nb2 b hb, mset_n (by omega), hc, sI_1]
def wTop (w : Nat) : Nat := if w = 15 then 14 else if w = 17 then 16 else 20
def wSh (w : Nat) : Nat := if w = 15 then 17817 else if w = 17 then 92251 else 1058969
def wV0 (w : Nat) : Nat := if w = 15 then 0 else 2 ^ wTop w
theorem m_checkOf {fu w c : Nat} {s : Nat → Nat} {M : mwM} {L : mwL} (hf : c < fu) (hw : w = 15 ∨ w = 17 ∨ w = 21) (hc : M 821 41 = sI c) (hc2 : c ≤ 1200) (hs : ∀ i, i < c → M 852 i = sI (s i) ∧ s i < 2) : DX12_checkOf fu (sI w) M L = some (sI (crcF (2 ^ wTop w) (wSh w) (wV0 w) s c), M, L) := by
  have main : ∀ (m sh v0 : Nat) (x : Int32), m ≤ 20 → sh < 2 ^ (m + 1) → v0 < 2 ^ (m + 1) → fX12_checkOf_h48 fu x fu (sI sh, sI (2 ^ m), sI v0, 0, M, L) = some (sI (crcF (2 ^ m) sh v0 s c), M, L) := by
    intro m sh v0 x hm hsh hv0
    have pl : 2 ^ (m + 1) ≤ 2 ^ 21 := Nat.pow_le_pow_right (by omega) (by omega)
    have pl0 : 2 ^ m ≤ 2 ^ 20 := Nat.pow_le_pow_right (by omega) (by omega)
    have pp : 0 < 2 ^ m := Nat.two_pow_pos m
    have lt : ∀ j, crcF (2 ^ m) sh v0 s j < 2 ^ (m + 1) := by
      intro j
      cases j with
      | zero => exact hv0
      | succ j => exact crcS_lt hsh
    have key : ∀ (r j f : Nat), j + r = c → r < f → fX12_checkOf_h48 fu x f (sI sh, sI (2 ^ m), sI (crcF (2 ^ m) sh v0 s j), sI j, M, L) = some (sI (crcF (2 ^ m) sh v0 s c), M, L) := by
      intro r
      induction r with
      | zero =>
        intro j f hj hf1
        obtain ⟨g, rfl⟩ : ∃ g, f = g + 1 := ⟨f - 1, by omega⟩
        have : j = c := by omega
        subst this
        unfold fX12_checkOf_h48
        rw [mloop_S]
        show fX12_checkOf_i48 fu x _ (sI sh) (sI (2 ^ m)) (sI (crcF (2 ^ m) sh v0 s j)) (sI j) M L = _
        unfold fX12_checkOf_i48
        rw [hc, if_pos (by rw [sI_le (by omega) (by omega)]; omega)]
      | succ r ih =>
        intro j f hj hf1
        obtain ⟨g, rfl⟩ : ∃ g, f = g + 1 := ⟨f - 1, by omega⟩
        unfold fX12_checkOf_h48
        rw [mloop_S]
        show fX12_checkOf_i48 fu x (fX12_checkOf_h48 fu x g) (sI sh) (sI (2 ^ m)) (sI (crcF (2 ^ m) sh v0 s j)) (sI j) M L = _
        unfold fX12_checkOf_i48 fX12_checkOf_b89
        obtain ⟨s1, s2⟩ := hs j (by omega)
        have lj := lt j
        have nz : ∀ {β : Type} {y : Option β}, mnz (sI (2 ^ m)) y = y := by
          intro β y
          unfold mnz
          rw [if_neg (by rw [sI_eql (by omega) (by decide)]; exact Nat.pos_iff_ne_zero.mp pp)]
        rw [hc, if_neg (by rw [sI_le (by omega) (by omega)]; omega), nz]
        simp only [mlet]
        rw [nz, sI_mod (by omega) (by omega), sI_div (by omega) (by omega), sI_lml, mck_s (by omega) (by omega), sI_nn (by omega), s1, sI_xor, sI_1]
        have nx : crcF (2 ^ m) sh v0 s (j + 1) = crcS (2 ^ m) sh (crcF (2 ^ m) sh v0 s j) (s j) := rfl
        have ihj := ih (j + 1) g (by omega) (by omega)
        have dl : crcF (2 ^ m) sh v0 s j / 2 ^ m < 2000000000 := Nat.lt_of_le_of_lt (Nat.div_le_self _ _) (by omega)
        rw [nx] at ihj
        unfold crcS at ihj
        by_cases q : crcF (2 ^ m) sh v0 s j / 2 ^ m = s j
        · rw [if_pos (by rw [q])]
          rw [if_pos q] at ihj
          exact ihj
        · rw [if_neg (by rw [sI_eq dl (by omega)]; exact q)]
          rw [if_neg q] at ihj
          exact ihj
    exact key c 0 fu (by omega) hf
  unfold DX12_checkOf fX12_checkOf_b25 fX12_checkOf_b43
  simp only [mlet]
  rcases hw with rfl | rfl | rfl
  · rw [if_pos (show sI 15 = 15 from rfl), if_pos (show sI 15 = 15 from rfl), show (1 : Int32) <<< ((sI 15 - 1) &&& 31) = sI (2 ^ 14) by decide]
    exact main 14 17817 0 (sI 15) (by omega) (by decide) (by decide)
  · rw [if_neg (show ¬ sI 17 = 15 by decide), if_pos (show sI 17 = 17 from rfl), if_neg (show ¬ sI 17 = 15 by decide), show (1 : Int32) <<< ((sI 17 - 1) &&& 31) = sI (2 ^ 16) by decide]
    exact main 16 92251 (2 ^ 16) (sI 17) (by omega) (by decide) (by decide)
  · rw [if_neg (show ¬ sI 21 = 15 by decide), if_neg (show ¬ sI 21 = 17 by decide), if_neg (show ¬ sI 21 = 15 by decide), show (1 : Int32) <<< ((sI 21 - 1) &&& 31) = sI (2 ^ 20) by decide]
    exact main 20 1058969 (2 ^ 20) (sI 21) (by omega) (by decide) (by decide)
def kdE (e f r : Nat) : Nat := e + (if f = 1 then 2 else if r = 1 then 4 else 0)
theorem m_octetsOf {fu e f r c : Nat} {M : mwM} {L : mwL} (he : e < 2) (hf : f < 2) (hr : r < 2) (hc : c < 16) : DX12_octetsOf fu (sI (kdE e f r)) (sI c) M L = some (sI (ocE f r c), M, L) := by
  have all : ∀ e, e < 2 → ∀ f, f < 2 → ∀ r, r < 2 → ∀ c, c < 16 → (if sI (kdE e f r) ≤ 3 then (if 2 ≤ sI (kdE e f r) then (if 9 ≤ sI c then (if sI c = 9 then (12 : Int32) else (if sI c = 10 then 16 else (if sI c = 11 then 20 else (if sI c = 12 then 24 else (if sI c = 13 then 32 else (if sI c = 14 then 48 else 64)))))) else sI c) else (if sI c ≤ 8 then sI c else 8)) else 0) = sI (ocE f r c) := by decide +kernel
  rw [← all e he f hf r hr c hc]
  unfold DX12_octetsOf fX12_octetsOf_b24 fX12_octetsOf_b103
  generalize sI (kdE e f r) = x
  generalize sI c = y
  by_cases a1 : x ≤ 3
  · simp only [if_pos a1]
    by_cases a2 : 2 ≤ x
    · simp only [if_pos a2]
      by_cases a3 : 9 ≤ y
      · simp only [if_pos a3]
        by_cases b1 : y = 9
        · simp only [if_pos b1]
        · simp only [if_neg b1]
          by_cases b2 : y = 10
          · simp only [if_pos b2]
          · simp only [if_neg b2]
            by_cases b3 : y = 11
            · simp only [if_pos b3]
            · simp only [if_neg b3]
              by_cases b4 : y = 12
              · simp only [if_pos b4]
              · simp only [if_neg b4]
                by_cases b5 : y = 13
                · simp only [if_pos b5]
                · simp only [if_neg b5]
                  by_cases b6 : y = 14
                  · simp only [if_pos b6]
                  · simp only [if_neg b6]
      · simp only [if_neg a3]
    · simp only [if_neg a2]
      by_cases a3 : y ≤ 8
      · simp only [if_pos a3]
      · simp only [if_neg a3]
  · simp only [if_neg a1]
def idE (e : Nat) (q : Nat → Nat) : Nat := if e = 1 then num q 1 11 * 262144 + num q 14 18 else num q 1 11
theorem m_find {fu e f ce : Nat} {q : Nat → Nat} {M : mwM} {L : mwL} (hfu : 20 ≤ fu) (he : e < 2) (hf : f < 2) (hce : 19 ≤ ce) (hce2 : ce ≤ 41) (he1 : e = 1 → 33 ≤ ce) (hq : ∀ i, i < ce → M 848 i = sI (q i) ∧ q i < 2) : wq (DX12_find fu (sI e) (sI f) (sI ce) M L) (fun z => z.2 = L ∧ z.1 821 42 = sI (kdE e f (q (if e = 1 then 32 else 12))) ∧ z.1 821 43 = sI (num q (ce - 4) 4) ∧ z.1 821 44 = sI (idE e q) ∧ ∀ a y, ¬ (a = 821 ∧ 42 ≤ y ∧ y ≤ 44) → z.1 a y = M a y) := by
  unfold DX12_find fX12_find_b15 fX12_find_b25 fX12_find_b37
  -- from the kind on
  have b55 : ∀ x : Nat, wq (fX12_find_b55 fu (sI e) (sI f) (sI ce) (sI e) (sI x) M L) (fun z => z.2 = L ∧ z.1 821 42 = sI (e + x) ∧ z.1 821 43 = sI (num q (ce - 4) 4) ∧ z.1 821 44 = sI (idE e q) ∧ ∀ a y, ¬ (a = 821 ∧ 42 ≤ y ∧ y ≤ 44) → z.1 a y = M a y) := by
    intro x
    unfold fX12_find_b55 fX12_find_b106
    simp only [mlet]
    rw [sI_add, show sI ce - 4 = sI (ce - 4) from sI_sub (b := 4) (by omega)]
    have n1 : ∀ (X : mwM), (∀ i, X 848 i = M 848 i) → DX12_number fu (sI (ce - 4)) 4 X L = some (sI (num q (ce - 4) 4), X, L) := fun X hX => m_number (n := 4) (by omega) (by omega) (fun i u1 u2 => by rw [hX]; exact (hq i (by omega)).1)
    have n2 : ∀ (X : mwM), (∀ i, X 848 i = M 848 i) → DX12_number fu 1 11 X L = some (sI (num q 1 11), X, L) := fun X hX => m_number (a := 1) (n := 11) (by omega) (by omega) (fun i u1 u2 => by rw [hX]; exact (hq i (by omega)).1)
    rw [n1 _ (fun i => mset_n (by omega)), mb3_s, n2 _ (fun i => by rw [mset_n (by omega), mset_n (by omega)]), mb3_s]
    unfold idE
    by_cases c1 : e = 1
    · have n3 : ∀ (X : mwM), (∀ i, X 848 i = M 848 i) → DX12_number fu 14 18 X L = some (sI (num q 14 18), X, L) := fun X hX => m_number (a := 14) (n := 18) (by omega) (by omega) (fun i u1 u2 => by rw [hX]; exact (hq i (by have := he1 c1; omega)).1)
      rw [if_neg (by rw [sI_eql (by omega) (by decide)]; omega), n3 _ (fun i => by rw [mset_n (by omega), mset_n (by omega), mset_n (by omega)]), mb3_s, if_pos c1, mset_s, show sI (num q 1 11) * 262144 = sI (num q 1 11 * 262144) from sI_mul, sI_add]
      refine wq_some ⟨rfl, ?_, ?_, ?_, fun a y u => ?_⟩
      · dsimp only
        simp (disch := omega) only [mset_n]
        rw [mset_s]
      · dsimp only
        simp (disch := omega) only [mset_n]
        rw [mset_s]
      · dsimp only
        rw [mset_s]
      · dsimp only
        simp (disch := omega) only [mset_n]
    · rw [if_pos (by rw [show e = 0 by omega]; rfl), if_neg c1]
      refine wq_some ⟨rfl, ?_, ?_, ?_, fun a y u => ?_⟩
      · dsimp only
        simp (disch := omega) only [mset_n]
        rw [mset_s]
      · dsimp only
        simp (disch := omega) only [mset_n]
        rw [mset_s]
      · dsimp only
        rw [mset_s]
      · dsimp only
        simp (disch := omega) only [mset_n]
  have main : ∀ r, r < 2 → wq (if sI f = 0 then (if sI r = 0 then fX12_find_b55 fu (sI e) (sI f) (sI ce) (sI e) 0 M L else fX12_find_b55 fu (sI e) (sI f) (sI ce) (sI e) 4 M L) else fX12_find_b55 fu (sI e) (sI f) (sI ce) (sI e) 2 M L) (fun z => z.2 = L ∧ z.1 821 42 = sI (kdE e f r) ∧ z.1 821 43 = sI (num q (ce - 4) 4) ∧ z.1 821 44 = sI (idE e q) ∧ ∀ a y, ¬ (a = 821 ∧ 42 ≤ y ∧ y ≤ 44) → z.1 a y = M a y) := by
    intro r hr
    unfold kdE
    by_cases c1 : f = 1
    · rw [if_neg (by rw [sI_eql (by omega) (by decide)]; omega), if_pos c1]
      exact b55 2
    · rw [if_pos (by rw [show f = 0 by omega]; rfl), if_neg c1]
      by_cases c2 : r = 1
      · rw [if_neg (by rw [sI_eql (by omega) (by decide)]; omega), if_pos c2]
        exact b55 4
      · rw [if_pos (by rw [show r = 0 by omega]; rfl), if_neg c2]
        exact b55 0
  by_cases c1 : e = 1
  · have h32 := hq 32 (by have := he1 c1; omega)
    rw [if_neg (show ¬ sI e = 0 by rw [sI_eql (by omega) (by decide)]; omega), if_pos c1, mck_in (show vp_in 32 700 from sI_in (k := 32) (by omega) (by omega)), show (32 : Int32).toNatClampNeg = 32 by decide, h32.1]
    simp only [if_neg (show ¬ sI e = 0 by rw [sI_eql (by omega) (by decide)]; omega)]
    have hm := main (q 32) h32.2
    rw [show sI e = 1 by rw [c1]; rfl] at hm ⊢
    by_cases c2 : q 32 = 1
    · rw [if_pos (show sI (q 32) = 1 by rw [c2]; rfl)]
      rw [c2] at hm ⊢
      exact hm
    · rw [if_neg (show ¬ sI (q 32) = 1 by rw [sI_eql (by omega) (by decide)]; exact c2)]
      rw [show q 32 = 0 by omega] at hm ⊢
      exact hm
  · have h12 := hq 12 (by omega)
    have e0 : sI e = 0 := by rw [show e = 0 by omega]; rfl
    rw [if_pos e0, if_neg c1, mck_in (show vp_in 12 700 from sI_in (k := 12) (by omega) (by omega)), show (12 : Int32).toNatClampNeg = 12 by decide, h12.1]
    simp only [if_pos e0]
    have hm := main (q 12) h12.2
    rw [e0] at hm ⊢
    by_cases c2 : q 12 = 1
    · rw [if_pos (show sI (q 12) = 1 by rw [c2]; rfl)]
      rw [c2] at hm ⊢
      exact hm
    · rw [if_neg (show ¬ sI (q 12) = 1 by rw [sI_eql (by omega) (by decide)]; exact c2)]
      rw [show q 12 = 0 by omega] at hm ⊢
      exact hm
/-! the reference's body, bit by bit -/
def ckA (h : Nat → Nat) : Nat := if h 17 < 100000 then h 17 else 20000
theorem hPlain_17 {n b : Nat} {h : Nat → Nat} (hn : n ≠ h 15 + 3) : hPlain n b h 17 = h 17 := by
  unfold hPlain
  split
  · split
    · split
      · exact hC_n (by omega)
      · first
          | (rw [if_neg hn, nst_n (by omega)]; exact hC_n (by omega))
          | (rw [nst_n (by omega)]; exact hC_n (by omega))
    · rw [hHead_n (by omega)]
      exact hC_n (by omega)
  · rw [nst_n (by omega)]
theorem rf_12 {p h : Nat → Nat} {b : Nat} (hI : PI p h) (hb : b < 2) : hPl0 b h 12 = (if h 5 + 1 = 14 then b else h 12) := by
  have hG := PI_s hI hb
  obtain ⟨_, _, j3, _⟩ := PI_x.mp hG
  obtain ⟨_, _, i3, _⟩ := PI_x.mp hI
  have g5 := (hPl0_n (b := b) (h := h)).2.2.2.2.1
  rw [j3, g5]
  by_cases c : h 5 + 1 = 14
  · rw [if_pos c, if_pos (by omega), show (13 : Nat) = h 5 by omega]
    exact nst_s
  · rw [if_neg c, i3]
    by_cases d : 14 ≤ h 5
    · rw [if_pos d, if_pos (by omega), nst_n (by omega)]
    · rw [if_neg d, if_neg (by omega)]
theorem rf_13 {p h : Nat → Nat} {b : Nat} (hI : PI p h) (hb : b < 2) : hPl0 b h 13 = (if 13 < h 5 + 1 ∧ h 5 + 1 = atE (hPl0 b h 12) + 1 then b else h 13) := by
  have hG := PI_s hI hb
  obtain ⟨_, _, j3, j4, _⟩ := PI_x.mp hG
  obtain ⟨_, _, i3, i4, _⟩ := PI_x.mp hI
  have g5 := (hPl0_n (b := b) (h := h)).2.2.2.2.1
  have e12 := rf_12 hI hb
  have ab : 14 ≤ atE (hPl0 b h 12) := by unfold atE; split <;> omega
  rw [j4, g5]
  by_cases c : h 5 + 1 = atE (hPl0 b h 12) + 1
  · rw [if_pos (show atE (hPl0 b h 12) < h 5 + 1 by omega), if_pos (show 13 < h 5 + 1 ∧ h 5 + 1 = atE (hPl0 b h 12) + 1 by omega), show atE (hPl0 b h 12) = h 5 by omega]
    exact nst_s
  · rw [if_neg (show ¬ (13 < h 5 + 1 ∧ h 5 + 1 = atE (hPl0 b h 12) + 1) from fun z => c z.2), i4]
    by_cases d : 14 ≤ h 5
    · rw [if_neg (show ¬ h 5 + 1 = 14 by omega)] at e12
      rw [e12] at c ⊢
      by_cases f : atE (h 12) < h 5
      · rw [if_pos f, if_pos (show atE (h 12) < h 5 + 1 by omega), nst_n (by omega)]
      · rw [if_neg f, if_neg (show ¬ atE (h 12) < h 5 + 1 by omega)]
    · have ab2 : 14 ≤ atE (h 12) := by unfold atE; split <;> omega
      rw [if_neg (show ¬ atE (hPl0 b h 12) < h 5 + 1 by omega), if_neg (show ¬ atE (h 12) < h 5 by omega)]
theorem rf_ce {e f : Nat} (he : e < 2) (hf : f < 2) : caE e f + 4 = atE e + (if f = 0 then (if e = 0 then 5 else 6) else 8) := by
  have all : ∀ e, e < 2 → ∀ f, f < 2 → caE e f + 4 = atE e + (if f = 0 then (if e = 0 then 5 else 6) else 8) := by decide
  exact all e he f hf
theorem rf_17 {p h : Nat → Nat} {b : Nat} (hI : PI p h) (hb : b < 2) : ckA (hPl0 b h) = (if atE (hPl0 b h 12) < h 5 + 1 ∧ h 5 + 1 = caE (hPl0 b h 12) (hPl0 b h 13) + 4 then caE (hPl0 b h 12) (hPl0 b h 13) + 4 + 8 * ocE (hPl0 b h 13) (hPl0 b h 11) (hPl0 b h 14) else ckA h) := by
  have hG := PI_s hI hb
  obtain ⟨_, r12, r13, _, _, r16, _, _, _, _, _, _, _, _⟩ := PI_b hG
  obtain ⟨_, _, _, _, _, _, _, j8, j9, _⟩ := PI_x.mp hG
  have g5 := (hPl0_n (b := b) (h := h)).2.2.2.2.1
  by_cases c : atE (hPl0 b h 12) < h 5 + 1 ∧ h 5 + 1 = caE (hPl0 b h 12) (hPl0 b h 13) + 4
  · rw [if_pos c]
    have k : atE (hPl0 b h 12) < hPl0 b h 5 ∧ caE (hPl0 b h 12) (hPl0 b h 13) + 4 ≤ hPl0 b h 5 := by omega
    rw [if_pos k] at j8 j9
    have cb := caE_b r12 r13
    have ab : atE (hPl0 b h 12) ≤ 33 := by unfold atE; split <;> omega
    unfold ckA
    rw [if_pos (by omega), j9, j8]
  · rw [if_neg c]
    have e17 : hPl0 b h 17 = h 17 := by
      apply hPlain_17
      intro z
      have z' : h 5 = h 15 + 3 := z
      obtain ⟨_, q12, q13, _, _, _, _, _, _, _, b2, b3, b4, b5⟩ := PI_b hI
      have k15 : h 15 < 100000 := by
        by_cases y : h 15 < 100000
        · exact y
        · have i5 := (PI_x.mp hI).2.2.2.2.1
          by_cases w : atE (h 12) < h 5
          · rw [if_pos w] at i5
            have cb := caE_b q12 q13
            have ab : atE (h 12) ≤ 33 := by unfold atE; split <;> omega
            omega
          · have k17 : h 17 ≥ 100000 := by
              by_cases v : h 17 < 100000
              · have := b2 v
                omega
              · omega
            have := b3 k17
            omega
      obtain ⟨y1, y2, y3⟩ := PI_k hI hG (fun i u => nst_n (by omega)) g5 k15
      have i5 := (PI_x.mp hI).2.2.2.2.1
      have at1 : atE (h 12) < h 5 := by
        by_cases w : atE (h 12) < h 5
        · exact w
        · rw [if_neg w] at i5
          omega
      rw [if_pos at1] at i5
      apply c
      rw [y1, y2]
      omega
    unfold ckA
    rw [e17]
/-- what is found, where the code ends -/
theorem rf_fd {p h : Nat → Nat} {b : Nat} (hI : PI p h) (hb : b < 2) (h1 : atE (hPl0 b h 12) < h 5 + 1) (h2 : h 5 + 1 = caE (hPl0 b h 12) (hPl0 b h 13) + 4) : hPl0 b h 14 = num (nst p (h 5) b) (h 5 + 1 - 4) 4 ∧ hPl0 b h 10 = idE (hPl0 b h 12) (nst p (h 5) b) ∧ hPl0 b h 11 = (nst p (h 5) b) (if hPl0 b h 12 = 1 then 32 else 12) := by
  have hG := PI_s hI hb
  obtain ⟨_, _, _, _, _, j6, j7, _, _, j10, _⟩ := PI_x.mp hG
  obtain ⟨_, r12, r13, _⟩ := PI_b hG
  have cb := caE_b r12 r13
  have g5 := (hPl0_n (b := b) (h := h)).2.2.2.2.1
  rw [g5] at j6 j7 j10
  rw [if_pos h1, show min (h 5 + 1) (caE (hPl0 b h 12) (hPl0 b h 13) + 4) - caE (hPl0 b h 12) (hPl0 b h 13) = 4 by omega] at j6
  refine ⟨?_, ?_, ?_⟩
  · rw [j6, show h 5 + 1 - 4 = caE (hPl0 b h 12) (hPl0 b h 13) by omega]
  · rw [j10]
    unfold idE jE
    have a14 : 14 ≤ atE (hPl0 b h 12) := by unfold atE; split <;> omega
    by_cases c : hPl0 b h 12 = 1
    · have : atE (hPl0 b h 12) = 33 := by unfold atE; rw [if_pos c]
      rw [if_pos c, if_pos c, show min (h 5 + 1) 12 - 1 = 11 by omega, show min (h 5 + 1) 32 - 14 = 18 by omega]
    · rw [if_neg c, if_neg c, show min (h 5 + 1) 12 - 1 = 11 by omega]
      show _ * 1 + 0 = _
      omega
  · rw [j7]
    have a14 : 14 ≤ atE (hPl0 b h 12) := by unfold atE; split <;> omega
    by_cases c : hPl0 b h 12 = 1
    · have : atE (hPl0 b h 12) = 33 := by unfold atE; rw [if_pos c]
      rw [if_pos ⟨c, by omega⟩, if_pos c]
    · rw [if_neg (fun z => c z.1), if_pos (by omega), if_neg c]
/-- what was found stays -/
theorem rf_st {p h : Nat → Nat} {b : Nat} (hI : PI p h) (hk : h 17 < 100000) : hPl0 b h 10 = h 10 ∧ hPl0 b h 11 = h 11 ∧ hPl0 b h 12 = h 12 ∧ hPl0 b h 13 = h 13 ∧ hPl0 b h 14 = h 14 := by
  obtain ⟨_, _, _, _, _, _, _, _, _, _, b2, _⟩ := PI_b hI
  have k := b2 hk
  by_cases c2 : h 5 < h 17
  · have e : hPl0 b h = hC b (nst (nst (nst h 3 (if b = h 2 then h 3 + 1 else 1)) 2 b) 5 (h 5 + 1)) := hPlain_2 (show h 5 < h 17 from c2) (show h 15 + 4 ≤ h 5 by omega)
    rw [e]
    exact ⟨rfl, rfl, rfl, rfl, rfl⟩
  · have e : hPl0 b h = nst (nst (nst (nst h 3 (if b = h 2 then h 3 + 1 else 1)) 2 b) 5 (h 5 + 1)) 18 (2 * h 18 + b) := hPlain_5 (show h 17 ≤ h 5 by omega)
    rw [e]
    exact ⟨rfl, rfl, rfl, rfl, rfl⟩
def kdH (h : Nat → Nat) : Nat := kdE (h 12) (h 13) (h 11)
def BM (M : mwM) (s : Nat → Nat) (k : Nat) (p h : Nat → Nat) : Prop := M 821 34 = sI (h 5) ∧ (∀ i, i < h 5 → M 848 i = sI (p i)) ∧ M 821 46 = sI (h 4) ∧ M 821 41 = sI k ∧ (∀ i, i < k → M 852 i = sI (s i)) ∧ (h 17 < 100000 → M 821 42 = sI (kdH h) ∧ M 821 43 = sI (h 14) ∧ M 821 44 = sI (h 10))
def bF0 (M M' : mwM) : Prop := ∀ a y, ¬ (a = 821 ∧ (y = 34 ∨ (41 ≤ y ∧ y ≤ 46))) → a ≠ 848 → a ≠ 852 → M' a y = M a y
theorem m_bitAt {fu n k b : Nat} {M : mwM} {L : mwL} (hn : n < 7) (hk : k < 1200) (h : M 837 (1200 * n + k) = sI b) : DX12_bitAt fu (sI n) (sI k) M L = some (sI b, M, L) := by
  unfold DX12_bitAt
  rw [sI_lml, sI_add, mck_s (by omega) (by omega), sI_nn (by omega), h]
/-- the end of the loop's body -/
theorem m_b328 {fu : Nat} {x v2 v3 v6 v8 : Int32} {P S C f k : Nat} {M : mwM} {L : mwL} {r : Int32 × Int32 × Int32 × Int32 × Int32 × Int32 × Int32 × mwM × mwL → Option (Int32 × mwM × mwL)} {Q : Int32 × mwM × mwL → Prop} (hP : M 821 34 = sI P) (hPl : P < 100000) (hC : C < 100000) (hS : S < 1000) (hf : f < 2) (h8 : v8 = sI k)
    (h1 : (f = 1 ∧ P = C) ∨ (f = 0 ∧ P = C + 15 ∧ S < 5) → Q (-1, mset M 821 45 (sI (k + 1)), L))
    (h2 : ¬ ((f = 1 ∧ P = C) ∨ (f = 0 ∧ P = C + 15 ∧ S < 5)) → wq (r (v2, v3, sI S, sI C, v6, sI f, sI (k + 1), M, L)) Q) : wq (fX12_bodyAnew_b328 fu x r v2 v3 (sI S) (sI C) v6 (sI f) v8 M L) Q := by
  unfold fX12_bodyAnew_b328 fX12_bodyAnew_b372 fX12_bodyAnew_b373 fX12_bodyAnew_b390
  simp (decide := true) only [mlet, ite_true, ite_false]
  subst h8
  rw [hP, sI_adl, sI_1]
  by_cases c1 : f = 1
  · rw [if_neg (show ¬ sI f = 0 by rw [sI_eql (by omega) (by decide)]; omega)]
    by_cases c2 : P = C
    · rw [if_pos (show sI P = sI C by rw [c2])]
      exact wq_some (h1 (Or.inl ⟨c1, c2⟩))
    · rw [if_neg (show ¬ sI P = sI C by rw [sI_eq (by omega) (by omega)]; exact c2)]
      exact h2 (fun z => by omega)
  · rw [if_pos (show sI f = 0 by rw [show f = 0 by omega]; rfl)]
    by_cases c2 : P = C + 15
    · rw [if_pos (show sI P = sI (C + 15) by rw [c2])]
      by_cases c3 : S < 5
      · rw [if_neg (show ¬ 5 ≤ sI S by rw [sI_lle (by decide) (by omega)]; omega)]
        exact wq_some (h1 (Or.inr ⟨by omega, c2, c3⟩))
      · rw [if_pos (show 5 ≤ sI S by rw [sI_lle (by decide) (by omega)]; omega)]
        exact h2 (fun z => by omega)
    · rw [if_neg (show ¬ sI P = sI (C + 15) by rw [sI_eq (by omega) (by omega)]; exact c2)]
      exact h2 (fun z => by omega)
/-! the reference's body: one bit -/
theorem bF0_t {A B C : mwM} (h1 : bF0 A B) (h2 : bF0 B C) : bF0 A C := fun a y u1 u2 u3 => (h2 a y u1 u2 u3).trans (h1 a y u1 u2 u3)
def fmE (b : Nat) (h : Nat → Nat) : Prop := b = 1 ∧ hPl0 b h 13 = 1 ∧ h 5 = (if hPl0 b h 12 = 1 then 34 else 15)
theorem m_bplain {fu k b S : Nat} {x v2 : Int32} {s p h : Nat → Nat} {M : mwM} {L : mwL} {r : Int32 × Int32 × Int32 × Int32 × Int32 × Int32 × Int32 × mwM × mwL → Option (Int32 × mwM × mwL)} {Q : Int32 × mwM × mwL → Prop} (hfu : 20 ≤ fu) (hI : PI p h) (hb : b < 2) (h5 : h 5 < 600) (hS : S = hPl0 b h 3) (hS2 : S ≤ 5)
    (h34 : M 821 34 = sI (h 5)) (hpl : ∀ i, i < h 5 → M 848 i = sI (p i)) (h46 : M 821 46 = sI (h 4)) (h41 : M 821 41 = sI (k + 1)) (hch : ∀ i, i < k + 1 → M 852 i = sI (s i)) (hfd : h 17 < 100000 → M 821 42 = sI (kdH h) ∧ M 821 43 = sI (h 14) ∧ M 821 44 = sI (h 10))
    (h1z : h 1 = 0)
    (q1 : fmE b h → ∀ M', bF0 M M' → Q (2, M', L))
    (q2 : ¬ fmE b h → hPl1 (hPl0 b h) 1 ≠ 0 → ∀ M', bF0 M M' → M' 821 45 = sI (k + 1) → BM M' s (k + 1) (nst p (h 5) b) (hPl0 b h) → Q (-1, M', L))
    (q3 : ¬ fmE b h → hPl1 (hPl0 b h) 1 = 0 → ∀ M', bF0 M M' → M' 821 45 = M 821 45 → BM M' s (k + 1) (nst p (h 5) b) (hPl0 b h) → wq (r (v2, sI b, sI S, sI (ckA (hPl0 b h)), sI (hPl0 b h 12), sI (hPl0 b h 13), sI (k + 1), M', L)) Q) :
    wq (fX12_bodyAnew_b135 fu x r v2 (sI (ckA h)) (sI (h 12)) (sI (h 13)) (sI k) (sI b) (sI S) M L) Q := by
  have e12 := rf_12 hI hb
  have e13 := rf_13 hI hb
  have e17 := rf_17 hI hb
  have efd := rf_fd (b := b) hI hb
  have est := rf_st (b := b) hI
  have hG := PI_s hI hb
  obtain ⟨r11, r12, r13, _, _, r16, _, r14, _, _, d2, d3, _, _⟩ := PI_b hG
  obtain ⟨_, w12, w13, _, _, _, _, _, _, _, b2, b3, _, _⟩ := PI_b hI
  have ce := rf_ce r12 r13
  have cb := caE_b r12 r13
  obtain ⟨g1, g2, g3, g4, g5, _⟩ := hPl0_n (b := b) (h := h)
  have bits := (PI_x.mp hG).1
  rw [g5] at bits
  have lck : ckA h < 50000 := by
    unfold ckA
    split
    · have := b2 (by assumption)
      omega
    · omega
  unfold fmE at q1 q2 q3
  generalize hPl0 b h = g at *
  have ab : 14 ≤ atE (g 12) ∧ atE (g 12) ≤ 33 := by unfold atE; split <;> omega
  unfold fX12_bodyAnew_b135 fX12_bodyAnew_b182
  simp only [mlet]
  rw [h34, mck_s (by omega) (by omega), sI_nn (by omega), nb2 b hb, mset_n (show ¬ (821 = 848 ∧ 34 = h 5) by omega), h34, sI_1]
  generalize hM1 : mset (mset M 848 (h 5) (sI b)) 821 34 (sI (h 5 + 1)) = M1
  have p34 : M1 821 34 = sI (h 5 + 1) := by rw [← hM1, mset_s]
  have pf : ∀ a y, ¬ (a = 848 ∧ y = h 5) → ¬ (a = 821 ∧ y = 34) → M1 a y = M a y := fun a y u1 u2 => by rw [← hM1, mset_n u2, mset_n u1]
  have ppl : ∀ i, i < h 5 + 1 → M1 848 i = sI (nst p (h 5) b i) := fun i u => by
    by_cases z : i = h 5
    · rw [z, nst_s, ← hM1, mset_n (by omega), mset_s]
    · rw [nst_n z, pf 848 i (by omega) (by omega)]
      exact hpl i (by omega)
  have bF1 : bF0 M M1 := fun a y u1 u2 u3 => pf a y (by omega) (by omega)
  rw [p34]
  -- long or not
  have toA : wq (fX12_bodyAnew_b184 fu x r v2 (sI b) (sI S) (sI (ckA h)) (sI (g 12)) (sI (h 13)) (sI k) (sI b) M1 L) Q → wq (if sI (h 5 + 1) = 14 then (if sI b = 1 then fX12_bodyAnew_b184 fu x r v2 (sI b) (sI S) (sI (ckA h)) 1 (sI (h 13)) (sI k) (sI b) M1 L else fX12_bodyAnew_b184 fu x r v2 (sI b) (sI S) (sI (ckA h)) 0 (sI (h 13)) (sI k) (sI b) M1 L) else fX12_bodyAnew_b184 fu x r v2 (sI b) (sI S) (sI (ckA h)) (sI (h 12)) (sI (h 13)) (sI k) (sI b) M1 L) Q := by
    intro hx
    by_cases c : h 5 + 1 = 14
    · rw [if_pos c] at e12
      rw [if_pos (show sI (h 5 + 1) = 14 by rw [c]; rfl)]
      rw [e12] at hx
      by_cases d : b = 1
      · rw [if_pos (show sI b = 1 by rw [d]; rfl)]
        rw [d] at hx ⊢
        exact hx
      · rw [if_neg (show ¬ sI b = 1 by rw [sI_eql (by omega) (by decide)]; exact d)]
        rw [show b = 0 by omega] at hx ⊢
        exact hx
    · rw [if_neg c] at e12
      rw [if_neg (show ¬ sI (h 5 + 1) = 14 by rw [sI_eql (by omega) (by decide)]; exact c)]
      rw [e12] at hx
      exact hx
  apply toA
  unfold fX12_bodyAnew_b184
  have toB : wq (fX12_bodyAnew_b196 fu x r v2 (sI b) (sI S) (sI (ckA h)) (sI (g 12)) (sI (h 13)) (sI k) (sI b) (sI (atE (g 12))) M1 L) Q → wq (if sI (g 12) = 0 then fX12_bodyAnew_b196 fu x r v2 (sI b) (sI S) (sI (ckA h)) (sI (g 12)) (sI (h 13)) (sI k) (sI b) 14 M1 L else fX12_bodyAnew_b196 fu x r v2 (sI b) (sI S) (sI (ckA h)) (sI (g 12)) (sI (h 13)) (sI k) (sI b) 33 M1 L) Q := by
    intro hx
    by_cases c : g 12 = 1
    · rw [if_neg (show ¬ sI (g 12) = 0 by rw [sI_eql (by omega) (by decide)]; omega)]
      rw [show atE (g 12) = 33 by unfold atE; rw [if_pos c]] at hx
      exact hx
    · rw [if_pos (show sI (g 12) = 0 by rw [show g 12 = 0 by omega]; rfl)]
      rw [show atE (g 12) = 14 by unfold atE; rw [if_neg c]] at hx
      exact hx
  apply toB
  unfold fX12_bodyAnew_b196 fX12_bodyAnew_b229
  rw [p34, sI_1]
  have toC : wq (fX12_bodyAnew_b231 fu x r v2 (sI b) (sI S) (sI (ckA h)) (sI (g 12)) (sI (g 13)) (sI k) (sI b) (sI (atE (g 12))) M1 L) Q → wq (if sI (h 5 + 1) ≤ 13 then fX12_bodyAnew_b231 fu x r v2 (sI b) (sI S) (sI (ckA h)) (sI (g 12)) (sI (h 13)) (sI k) (sI b) (sI (atE (g 12))) M1 L else if sI (h 5 + 1) = sI (atE (g 12) + 1) then (if sI b = 1 then fX12_bodyAnew_b231 fu x r v2 (sI b) (sI S) (sI (ckA h)) (sI (g 12)) 1 (sI k) (sI b) (sI (atE (g 12))) M1 L else fX12_bodyAnew_b231 fu x r v2 (sI b) (sI S) (sI (ckA h)) (sI (g 12)) 0 (sI k) (sI b) (sI (atE (g 12))) M1 L) else fX12_bodyAnew_b231 fu x r v2 (sI b) (sI S) (sI (ckA h)) (sI (g 12)) (sI (h 13)) (sI k) (sI b) (sI (atE (g 12))) M1 L) Q := by
    intro hx
    by_cases c : h 5 + 1 ≤ 13
    · rw [if_pos (show sI (h 5 + 1) ≤ 13 by rw [sI_lel (by omega) (by decide)]; exact c)]
      rw [if_neg (show ¬ (13 < h 5 + 1 ∧ h 5 + 1 = atE (g 12) + 1) by omega)] at e13
      rw [e13] at hx
      exact hx
    · rw [if_neg (show ¬ sI (h 5 + 1) ≤ 13 by rw [sI_lel (by omega) (by decide)]; exact c)]
      by_cases d : h 5 + 1 = atE (g 12) + 1
      · rw [if_pos (show 13 < h 5 + 1 ∧ h 5 + 1 = atE (g 12) + 1 by omega)] at e13
        rw [if_pos (show sI (h 5 + 1) = sI (atE (g 12) + 1) by rw [d])]
        rw [e13] at hx
        by_cases f : b = 1
        · rw [if_pos (show sI b = 1 by rw [f]; rfl)]
          rw [f] at hx ⊢
          exact hx
        · rw [if_neg (show ¬ sI b = 1 by rw [sI_eql (by omega) (by decide)]; exact f)]
          rw [show b = 0 by omega] at hx ⊢
          exact hx
      · rw [if_neg (show ¬ (13 < h 5 + 1 ∧ h 5 + 1 = atE (g 12) + 1) from fun z => d z.2)] at e13
        rw [if_neg (show ¬ sI (h 5 + 1) = sI (atE (g 12) + 1) by rw [sI_eq (by omega) (by omega)]; exact d)]
        rw [e13] at hx
        exact hx
  apply toC
  unfold fX12_bodyAnew_b231 fX12_bodyAnew_b255
  rw [p34, show sI (atE (g 12)) + 2 = sI (atE (g 12) + 2) from sI_add (b := 2)]
  -- a false flag
  have af : (h 5 = (if g 12 = 1 then 34 else 15)) = (h 5 + 1 = atE (g 12) + 2) := by
    unfold atE
    by_cases c : g 12 = 1
    · rw [if_pos c, if_pos c]
      apply propext
      omega
    · rw [if_neg c, if_neg c]
      apply propext
      omega
  rw [af] at q1 q2 q3
  -- on
  have go : ¬ (b = 1 ∧ g 13 = 1 ∧ h 5 + 1 = atE (g 12) + 2) → wq (if sI (g 13) = 0 then (if sI (g 12) = 0 then fX12_bodyAnew_b278 fu x r v2 (sI b) (sI S) (sI (ckA h)) (sI (g 12)) (sI (g 13)) (sI k) (sI (atE (g 12))) (sI (atE (g 12))) 5 M1 L else fX12_bodyAnew_b278 fu x r v2 (sI b) (sI S) (sI (ckA h)) (sI (g 12)) (sI (g 13)) (sI k) (sI (atE (g 12))) (sI (atE (g 12))) 6 M1 L) else fX12_bodyAnew_b278 fu x r v2 (sI b) (sI S) (sI (ckA h)) (sI (g 12)) (sI (g 13)) (sI k) (sI (atE (g 12))) (sI (atE (g 12))) 8 M1 L) Q := by
    intro hno
    -- the last stretch
    have last : ∀ M', bF0 M M' → M' 821 45 = M 821 45 → BM M' s (k + 1) (nst p (h 5) b) g → wq (fX12_bodyAnew_b328 fu x r v2 (sI b) (sI S) (sI (ckA g)) (sI (g 12)) (sI (g 13)) (sI k) M' L) Q := by
      intro M' hF h45 hB
      have ga : ckA g < 50000 := by
        unfold ckA
        split
        · have := d2 (by assumption)
          omega
        · omega
      have eqv : ((g 13 = 1 ∧ h 5 + 1 = ckA g) ∨ (g 13 = 0 ∧ h 5 + 1 = ckA g + 15 ∧ S < 5)) ↔ hPl1 g 1 ≠ 0 := by
        unfold hPl1
        rw [g5]
        have e1 : ∀ (c : g 13 = 1), (h 5 + 1 = sEnd g ↔ h 5 + 1 = ckA g) := fun c => by
          unfold sEnd ckA
          rw [if_pos c]
          by_cases z : g 17 < 100000
          · rw [if_pos z]
          · rw [if_neg z]
            have := d3 (by omega)
            omega
        have e2 : ∀ (c : ¬ g 13 = 1), (h 5 + 1 = sEnd g ↔ h 5 + 1 = ckA g + 15) := fun c => by
          unfold sEnd ckA
          rw [if_neg c]
          by_cases z : g 17 < 100000
          · rw [if_pos z]
          · rw [if_neg z]
            have := d3 (by omega)
            omega
        by_cases c1 : g 13 = 1
        · by_cases c2 : h 5 + 1 = sEnd g
          · rw [if_pos c2, if_pos c1]
            exact ⟨fun _ => by rw [nst_s]; omega, fun _ => Or.inl ⟨c1, (e1 c1).mp c2⟩⟩
          · rw [if_neg c2]
            constructor
            · intro z
              rcases z with z | z
              · exact absurd ((e1 c1).mpr z.2) c2
              · omega
            · intro z
              omega
        · by_cases c2 : h 5 + 1 = sEnd g
          · rw [if_pos c2, if_neg c1, ← hS]
            by_cases c3 : S < 5
            · rw [if_pos c3]
              exact ⟨fun _ => by rw [nst_s]; omega, fun _ => Or.inr ⟨by omega, (e2 c1).mp c2, c3⟩⟩
            · rw [if_neg c3]
              constructor
              · intro z
                omega
              · intro z
                omega
          · rw [if_neg c2]
            constructor
            · intro z
              rcases z with z | z
              · omega
              · exact absurd ((e2 c1).mpr z.2.1) c2
            · intro z
              omega
      refine m_b328 (P := h 5 + 1) (k := k) (by rw [hB.1, g5]) (by omega) (by omega) (by omega) r13 rfl (fun z => ?_) (fun z => ?_)
      · refine q2 hno (eqv.mp z) _ (fun a y u1 u2 u3 => by rw [mset_n (by omega)]; exact hF a y u1 u2 u3) mset_s ?_
        obtain ⟨m1, m2, m3, m4, m5, m6⟩ := hB
        refine ⟨?_, fun i u => ?_, ?_, ?_, fun i u => ?_, fun w => ?_⟩
        · rw [mset_n (by omega)]; exact m1
        · rw [mset_n (by omega)]; exact m2 i u
        · rw [mset_n (by omega)]; exact m3
        · rw [mset_n (by omega)]; exact m4
        · rw [mset_n (by omega)]; exact m5 i u
        · rw [mset_n (by omega), mset_n (by omega), mset_n (by omega)]; exact m6 w
      · refine q3 hno ?_ _ hF h45 hB
        by_cases w : hPl1 g 1 = 0
        · exact w
        · exact absurd (eqv.mpr w) z
    have b278 : ∀ d : Nat, atE (g 12) + d = caE (g 12) (g 13) + 4 → wq (fX12_bodyAnew_b278 fu x r v2 (sI b) (sI S) (sI (ckA h)) (sI (g 12)) (sI (g 13)) (sI k) (sI (atE (g 12))) (sI (atE (g 12))) (sI d) M1 L) Q := by
      intro d hd
      unfold fX12_bodyAnew_b278
      simp only [mlet]
      rw [p34, sI_add, hd]
      have stay : ¬ (atE (g 12) < h 5 + 1 ∧ h 5 + 1 = caE (g 12) (g 13) + 4) → wq (fX12_bodyAnew_b328 fu x r v2 (sI b) (sI S) (sI (ckA h)) (sI (g 12)) (sI (g 13)) (sI k) M1 L) Q := by
        intro hn
        rw [if_neg hn] at e17
        rw [← e17]
        refine last M1 bF1 (pf 821 45 (by omega) (by omega)) ⟨by rw [p34, g5], by rw [g5]; exact ppl, by rw [pf 821 46 (by omega) (by omega), h46, g4], by rw [pf 821 41 (by omega) (by omega), h41], fun i u => by rw [pf 852 i (by omega) (by omega)]; exact hch i u, fun w => ?_⟩
        have w' : h 17 < 100000 := by
          by_cases z : h 17 < 100000
          · exact z
          · exfalso
            unfold ckA at e17
            rw [if_pos w, if_neg z] at e17
            have := d2 w
            omega
        obtain ⟨y1, y2, y3⟩ := hfd w'
        obtain ⟨z1, z2, z3, z4, z5⟩ := est w'
        rw [pf 821 42 (by omega) (by omega), pf 821 43 (by omega) (by omega), pf 821 44 (by omega) (by omega), y1, y2, y3]
        unfold kdH
        rw [z1, z2, z3, z4, z5]
        exact ⟨rfl, rfl, rfl⟩
      by_cases c1 : h 5 + 1 ≤ atE (g 12)
      · rw [if_pos (show sI (h 5 + 1) ≤ sI (atE (g 12)) by rw [sI_le (by omega) (by omega)]; exact c1)]
        exact stay (by omega)
      · rw [if_neg (show ¬ sI (h 5 + 1) ≤ sI (atE (g 12)) by rw [sI_le (by omega) (by omega)]; exact c1)]
        by_cases c2 : h 5 + 1 = caE (g 12) (g 13) + 4
        · rw [if_pos (show sI (h 5 + 1) = sI (caE (g 12) (g 13) + 4) by rw [c2])]
          obtain ⟨y1, y2, y3⟩ := efd (by omega) c2
          have a33 : g 12 = 1 → atE (g 12) = 33 := fun z => by unfold atE; rw [if_pos z]
          refine wq_b2 (m_find (e := g 12) (f := g 13) (ce := caE (g 12) (g 13) + 4) (q := nst p (h 5) b) hfu r12 r13 (by omega) (by omega) (fun z => by have := a33 z; omega) (fun i u => ⟨ppl i (by omega), bits i (by omega)⟩)) ?_
          rintro M2 L2 ⟨z1, z2, z3, z4, z5⟩
          dsimp only at z1 z2 z3 z4 z5
          subst z1
          rw [← y3] at z2
          rw [show caE (g 12) (g 13) + 4 - 4 = h 5 + 1 - 4 by omega, ← y1] at z3
          rw [← y2] at z4
          rw [z2, z3, m_octetsOf r12 r13 r11 r14, mb3_s, sI_lml, sI_add]
          rw [if_pos ⟨by omega, c2⟩] at e17
          rw [← e17]
          refine last M2 (bF0_t bF1 (fun a y u1 u2 u3 => z5 a y (by omega))) (by rw [z5 821 45 (by omega), pf 821 45 (by omega) (by omega)]) ⟨by rw [z5 821 34 (by omega), p34, g5], fun i u => by rw [z5 848 i (by omega)]; exact ppl i (by omega), by rw [z5 821 46 (by omega), pf 821 46 (by omega) (by omega), h46, g4], by rw [z5 821 41 (by omega), pf 821 41 (by omega) (by omega), h41], fun i u => by rw [z5 852 i (by omega), pf 852 i (by omega) (by omega)]; exact hch i u, fun _ => ⟨z2, z3, z4⟩⟩
        · rw [if_neg (show ¬ sI (h 5 + 1) = sI (caE (g 12) (g 13) + 4) by rw [sI_eq (by omega) (by omega)]; exact c2)]
          exact stay (fun z => c2 z.2)
    by_cases c1 : g 13 = 0
    · rw [if_pos (show sI (g 13) = 0 by rw [c1]; rfl)]
      rw [if_pos c1] at ce
      by_cases c2 : g 12 = 0
      · rw [if_pos (show sI (g 12) = 0 by rw [c2]; rfl)]
        rw [if_pos c2] at ce
        exact b278 5 ce.symm
      · rw [if_neg (show ¬ sI (g 12) = 0 by rw [sI_eql (by omega) (by decide)]; exact c2)]
        rw [if_neg c2] at ce
        exact b278 6 ce.symm
    · rw [if_neg (show ¬ sI (g 13) = 0 by rw [sI_eql (by omega) (by decide)]; exact c1)]
      rw [if_neg c1] at ce
      exact b278 8 ce.symm
  by_cases c1 : h 5 + 1 = atE (g 12) + 2
  · rw [if_pos (show sI (h 5 + 1) = sI (atE (g 12) + 2) by rw [c1])]
    by_cases c2 : g 13 = 0
    · have gx := go (fun z => by omega)
      rw [if_pos (show sI (g 13) = 0 by rw [c2]; rfl)] at gx ⊢
      rw [if_pos (show sI (g 13) = 0 by rw [c2]; rfl)]
      exact gx
    · rw [if_neg (show ¬ sI (g 13) = 0 by rw [sI_eql (by omega) (by decide)]; exact c2)]
      by_cases c3 : b = 1
      · rw [if_pos (show sI b = 1 by rw [c3]; rfl)]
        exact wq_some (q1 ⟨c3, by omega, c1⟩ M1 bF1)
      · rw [if_neg (show ¬ sI b = 1 by rw [sI_eql (by omega) (by decide)]; exact c3)]
        exact go (fun z => c3 z.1)
  · rw [if_neg (show ¬ sI (h 5 + 1) = sI (atE (g 12) + 2) by rw [sI_eq (by omega) (by omega)]; exact c1)]
    exact go (fun z => c1 z.2.2)
