/-! the ear: plain bits -/
theorem c_findEnds {fu k : Nat} {h : Nat → Nat} {A : mwM} {L : mwL} (hE : EaR A k h) (h11 : h 11 < 2) (h13 : h 13 < 2) (h14 : h 14 < 16) (h15 : h 15 < 200000) : wq (DX5_findEnds fu k A L) (fun z => z.2 = L ∧ EaR z.1 k (hEnds h) ∧ ∀ a y, a ≠ k → z.1 a y = A a y) := by
  unfold DX5_findEnds fX5_findEnds_b45 fX5_findEnds_b48
  simp only [mlet]
  rw [hE 11 (by omega) (by omega), hE 13 (by omega) (by omega), hE 14 (by omega) (by omega)]
  have e15 := hE 15 (by omega) (by omega)
  have gg : ∀ x, wq (some (mset (mset A k 16 (sI x)) k 17 ((((mset A k 16 (sI x)) k 15) + 4) + (8 * ((mset A k 16 (sI x)) k 16))), L)) (fun z => z.2 = L ∧ EaR z.1 k (nst (nst h 16 x) 17 (h 15 + 4 + 8 * x)) ∧ ∀ a y, a ≠ k → z.1 a y = A a y) := fun x => by
    rw [mset_s, mset_n (show ¬ (k = k ∧ 15 = 16) by omega), e15, sI_lml, sI_adl, sI_add]
    refine wq_some ⟨rfl, EaR_s (EaR_s hE), fun a y u => ?_⟩
    dsimp only
    rw [mset_n (by omega), mset_n (by omega)]
  unfold hEnds hOc
  by_cases a1 : h 13 = 1
  · rw [if_pos (show sI (h 13) = 1 by rw [a1]; rfl), if_pos a1, mck_s h14 (by omega), sI_nn (by omega), flex_o _ h14]
    exact gg _
  · rw [if_neg (show ¬ sI (h 13) = 1 by rw [sI_eql (by omega) (by decide)]; exact a1), if_neg a1]
    by_cases a2 : h 11 = 1
    · rw [if_pos (show sI (h 11) = 1 by rw [a2]; rfl), if_pos a2]
      exact gg 0
    · rw [if_neg (show ¬ sI (h 11) = 1 by rw [sI_eql (by omega) (by decide)]; exact a2), if_neg a2]
      by_cases a3 : 8 < h 14
      · rw [if_pos (show 8 < sI (h 14) by rw [sI_llt (by decide) (by omega)]; exact a3), if_pos a3]
        exact gg 8
      · rw [if_neg (show ¬ 8 < sI (h 14) by rw [sI_llt (by decide) (by omega)]; exact a3), if_neg a3]
        exact gg _
theorem and255n (n : Nat) : sI n &&& 255 = sI (n % 256) := sI_and (m := 8)
theorem c_hearPlain {fu k n b : Nat} {h o : Nat → Nat} {A : mwM} {L : mwL} (hE : EaR A k h) (hO : OcR A k o) (hn : n < 200000) (hb : b < 2) (h7 : h 7 < 32768) (h8 : h 8 < 131072) (h9 : h 9 < 2097152) (h11 : h 11 < 2) (h12 : h 12 < 2) (h13 : h 13 < 2) (h15 : h 15 < 200000) (h17 : h 17 < 200000) (h14 : n = h 15 + 3 → 2 * h 14 + b < 16) (ho : n < h 17 → h 15 + 4 ≤ n → (n - h 15 - 4) / 8 < 64) : wq (DX5_hearPlain fu k (sI n) (sI b) A L) (fun z => z.2 = L ∧ EaR z.1 k (hPlain n b h) ∧ OcR z.1 k (oPlain n b h o) ∧ ∀ a y, a ≠ k → a ≠ k + 1 → z.1 a y = A a y) := by
  unfold DX5_hearPlain fX5_hearPlain_b158
  simp only [mlet]
  rw [hE 17 (by omega) (by omega), hE 18 (by omega) (by omega), hE 7 (by omega) (by omega)]
  have e8 := hE 8 (by omega) (by omega)
  have e9 := hE 9 (by omega) (by omega)
  unfold hPlain oPlain
  by_cases a1 : n < h 17
  · rw [if_pos (show sI n < sI (h 17) by rw [sI_lt (by omega) (by omega)]; exact a1), if_pos a1, c_crc15 h7 hb, mb3_s, mset_n (show ¬ (k = k ∧ 8 = 7) by omega), e8, c_crc17 h8 hb, mb3_s, mset_n (show ¬ (k = k ∧ 9 = 8) by omega), mset_n (show ¬ (k = k ∧ 9 = 7) by omega), e9, c_crc21 h9 hb, mb3_s]
    generalize hA1 : mset (mset (mset A k 7 (sI (c15 (h 7) b))) k 8 (sI (c17 (h 8) b))) k 9 (sI (c21 (h 9) b)) = A1
    have E1 : EaR A1 k (hC b h) := by
      rw [← hA1]
      exact EaR_s (EaR_s (EaR_s hE))
    have f1 : ∀ a y, a ≠ k → A1 a y = A a y := fun a y u => by rw [← hA1, mset_n (by omega), mset_n (by omega), mset_n (by omega)]
    have v14 : hC b h 14 = h 14 := rfl
    have v15 : hC b h 15 = h 15 := rfl
    have e14 := E1 14 (by omega) (by omega)
    have e15 := E1 15 (by omega) (by omega)
    rw [v14] at e14
    rw [v15] at e15
    rw [e15]
    by_cases a2 : h 15 ≤ n
    · rw [if_pos (show sI (h 15) ≤ sI n by rw [sI_le (by omega) (by omega)]; exact a2), if_pos a2, sI_adl]
      by_cases a3 : h 15 + 4 ≤ n
      · have hi := ho a1 a3
        rw [if_pos (show sI (h 15 + 4) ≤ sI n by rw [sI_le (by omega) (by omega)]; exact a3), if_pos a3, if_pos ⟨a1, a3⟩, sI_sub (by omega), show sI (n - h 15) - 4 = sI (n - h 15 - 4) from sI_sub (b := 4) (by omega), show sI (n - h 15 - 4) / 8 = sI ((n - h 15 - 4) / 8) from sI_div (b := 8) (by omega) (by omega)]
        generalize (n - h 15 - 4) / 8 = i at hi
        obtain ⟨o1, o2⟩ := hO i hi
        rw [mck_s hi (by omega), mck_s hi (by omega), sI_nn (by omega), f1 (k + 1) i (by omega), o1, sh1or _ _ hb, and255n]
        refine wq_some ⟨rfl, EaR_o E1 (by omega), fun j u => ?_, fun a y u1 u2 => ?_⟩
        · by_cases q : j = i
          · rw [q, nst_s]
            exact ⟨mset_s, Nat.mod_lt _ (by decide)⟩
          · rw [nst_n q]
            dsimp only
            rw [mset_n (by omega), f1 _ _ (by omega)]
            exact hO j u
        · dsimp only
          rw [mset_n (by omega), f1 a y u1]
      · rw [if_neg (show ¬ sI (h 15 + 4) ≤ sI n by rw [sI_le (by omega) (by omega)]; exact a3), if_neg a3, if_neg (show ¬ (n < h 17 ∧ h 15 + 4 ≤ n) from fun z => a3 z.2), e14, sh1or _ _ hb]
        have E2 : EaR (mset A1 k 14 (sI (2 * h 14 + b))) k (nst (hC b h) 14 (2 * h 14 + b)) := EaR_s E1
        rw [mset_n (show ¬ (k = k ∧ 15 = 14) by omega), e15, sI_adl]
        by_cases a4 : n = h 15 + 3
        · rw [if_pos (show sI n = sI (h 15 + 3) by rw [a4]), if_pos a4]
          refine wq_b2 (c_findEnds E2 (show h 11 < 2 from h11) (show h 13 < 2 from h13) (show 2 * h 14 + b < 16 from h14 a4) (show h 15 < 200000 from h15)) ?_
          rintro A2 L2 ⟨y1, y2, y3⟩
          dsimp only at y1 y2 y3
          refine wq_some ⟨y1, y2, fun j u => ?_, fun a y u1 u2 => ?_⟩
          · dsimp only
            rw [y3 _ _ (by omega), mset_n (by omega), f1 _ _ (by omega)]
            exact hO j u
          · dsimp only
            rw [y3 a y u1, mset_n (by omega), f1 a y u1]
        · rw [if_neg (show ¬ sI n = sI (h 15 + 3) by rw [sI_eq (by omega) (by omega)]; exact a4), if_neg a4]
          refine wq_some ⟨rfl, E2, fun j u => ?_, fun a y u1 u2 => ?_⟩
          · dsimp only
            rw [mset_n (by omega), f1 _ _ (by omega)]
            exact hO j u
          · dsimp only
            rw [mset_n (by omega), f1 a y u1]
    · rw [if_neg (show ¬ sI (h 15) ≤ sI n by rw [sI_le (by omega) (by omega)]; exact a2), if_neg a2, if_neg (show ¬ (n < h 17 ∧ h 15 + 4 ≤ n) from fun z => by omega)]
      refine wq_b2 (c_hearHead E1 hn hb (show h 12 < 2 from h12)) ?_
      rintro A2 L2 ⟨y1, y2, y3⟩
      dsimp only at y1 y2 y3
      refine wq_some ⟨y1, y2, fun j u => ?_, fun a y u1 u2 => ?_⟩
      · dsimp only
        rw [y3 _ _ (by omega), f1 _ _ (by omega)]
        exact hO j u
      · dsimp only
        rw [y3 a y u1, f1 a y u1]
  · rw [if_neg (show ¬ sI n < sI (h 17) by rw [sI_lt (by omega) (by omega)]; exact a1), if_neg a1, if_neg (show ¬ (n < h 17 ∧ h 15 + 4 ≤ n) from fun z => a1 z.1), sh1or _ _ hb]
    refine wq_some ⟨rfl, EaR_s hE, fun j u => ?_, fun a y u1 u2 => mset_n (by omega)⟩
    dsimp only
    rw [mset_n (by omega)]
    exact hO j u
/-! the ear: one bit -/
def sEnd (h : Nat → Nat) : Nat := if h 13 = 1 then h 17 else h 17 + 15
theorem c_stuffedEnd {fu k : Nat} {h : Nat → Nat} {A : mwM} {L : mwL} (hE : EaR A k h) (h13 : h 13 < 2) : DX5_stuffedEnd fu k A L = some (sI (sEnd h), A, L) := by
  unfold DX5_stuffedEnd fX5_stuffedEnd_b22 sEnd
  rw [hE 13 (by omega) (by omega), hE 17 (by omega) (by omega), sI_adl]
  by_cases a1 : h 13 = 1
  · rw [if_pos (show sI (h 13) = 1 by rw [a1]; rfl), if_pos a1]
  · rw [if_neg (show ¬ sI (h 13) = 1 by rw [sI_eql (by omega) (by decide)]; exact a1), if_neg a1]
def hStuff (b : Nat) (h : Nat → Nat) : Nat → Nat := nst (nst (nst (nst (nst h 2 b) 3 1) 4 (h 4 + 1)) 8 (c17 (h 8) b)) 9 (c21 (h 9) b)
def hPl0 (b : Nat) (h : Nat → Nat) : Nat → Nat := hPlain (h 5) b (nst (nst (nst h 3 (if b = h 2 then h 3 + 1 else 1)) 2 b) 5 (h 5 + 1))
def hPl1 (h : Nat → Nat) : Nat → Nat := if h 5 = sEnd h then (if h 13 = 1 then nst h 1 1 else if h 3 < 5 then nst h 1 2 else h) else h
def rI (r : Nat) : Int32 := if r = 0 then -1 else if r = 6 then -2 else if r = 7 then -3 else sI r
def cntF (s : Nat) : Nat := [0, 3, 6, 5, 12, 15, 10, 9].getD (s % 8) 0
theorem cnt_c : ∀ n, n < 8 → ∀ (A : mwM) (L : mwL) (fu : Nat), (mb3 (DX6_bitCount_0f7a4 fu (sI n ^^^ (sI n / 2)) A L) (fun r7 M5 L6 => some (((sI n ^^^ (sI n / 2)) <<< (1 &&& 31)) ||| (r7 &&& 1), M5, L6)) : Option (Int32 × mwM × mwL)) = some (sI (cntF n), A, L) := by
  intro n hn A L fu
  unfold DX6_bitCount_0f7a4
  simp only [mlet, mb3_s]
  rcases (show n = 0 ∨ n = 1 ∨ n = 2 ∨ n = 3 ∨ n = 4 ∨ n = 5 ∨ n = 6 ∨ n = 7 by omega) with rfl | rfl | rfl | rfl | rfl | rfl | rfl | rfl <;> rfl
theorem c_count {fu k : Nat} {h : Nat → Nat} {A : mwM} {L : mwL} (hE : EaR A k h) (h4 : h 4 < 2000000000) : DX5_countOfStuffs fu k A L = some (sI (cntF (h 4)), A, L) := by
  unfold DX5_countOfStuffs
  rw [hE 4 (by omega) (by omega), show sI (h 4) - sI (h 4) / 8 * 8 = sI (h 4 % 8) from sI_mod (b := 8) h4 (by omega)]
  simp only [mlet]
  rw [cnt_c _ (Nat.mod_lt _ (by decide))]
  unfold cntF
  rw [Nat.mod_mod]
def hRight (h : Nat → Nat) : Bool := if h 13 = 0 then decide (h 18 = h 7) else decide (h 18 = (if 16 < h 16 then h 9 else h 8))
theorem c_right {fu k : Nat} {h : Nat → Nat} {A : mwM} {L : mwL} (hE : EaR A k h) (h13 : h 13 < 2) (h16 : h 16 < 1000) (h18 : h 18 < 2000000000) (h7 : h 7 < 32768) (h8 : h 8 < 131072) (h9 : h 9 < 2097152) : DX5_isCheckRight fu k A L = some (bI (hRight h), A, L) := by
  unfold DX5_isCheckRight fX5_isCheckRight_b23 fX5_isCheckRight_b48 fX5_isCheckRight_b56
  rw [hE 13 (by omega) (by omega), hE 16 (by omega) (by omega), hE 18 (by omega) (by omega), hE 7 (by omega) (by omega), hE 8 (by omega) (by omega), hE 9 (by omega) (by omega)]
  simp only [mzz_0, mzz_1]
  by_cases a1 : h 13 = 0
  · rw [if_pos (show sI (h 13) = 0 by rw [a1]; rfl)]
    by_cases a2 : h 18 = h 7
    · rw [if_pos (show sI (h 18) = sI (h 7) by rw [a2]), show hRight h = true by unfold hRight; rw [if_pos a1]; exact decide_eq_true a2]
      rfl
    · rw [if_neg (show ¬ sI (h 18) = sI (h 7) by rw [sI_eq (by omega) (by omega)]; exact a2), show hRight h = false by unfold hRight; rw [if_pos a1]; exact decide_eq_false a2]
      rfl
  · rw [if_neg (show ¬ sI (h 13) = 0 by rw [sI_eql (by omega) (by decide)]; exact a1)]
    have gg : ∀ x, x < 2000000000 → (if 16 < h 16 then h 9 else h 8) = x → (if sI (h 18) = sI x then some ((1 : Int32), A, L) else some ((0 : Int32), A, L)) = some (bI (hRight h), A, L) := by
      intro x hx hx2
      by_cases a2 : h 18 = x
      · rw [if_pos (show sI (h 18) = sI x by rw [a2]), show hRight h = true by unfold hRight; rw [if_neg a1, hx2]; exact decide_eq_true a2]
        rfl
      · rw [if_neg (show ¬ sI (h 18) = sI x by rw [sI_eq (by omega) (by omega)]; exact a2), show hRight h = false by unfold hRight; rw [if_neg a1, hx2]; exact decide_eq_false a2]
        rfl
    by_cases a3 : 16 < h 16
    · rw [if_pos (show 16 < sI (h 16) by rw [sI_llt (by decide) (by omega)]; exact a3)]
      exact gg _ (by omega) (if_pos a3)
    · rw [if_neg (show ¬ 16 < sI (h 16) by rw [sI_llt (by decide) (by omega)]; exact a3)]
      exact gg _ (by omega) (if_neg a3)
