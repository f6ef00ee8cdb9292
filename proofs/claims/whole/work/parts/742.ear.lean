/-! the ear: one bit, in each stage -/
theorem hC_n {b i : Nat} {h : Nat → Nat} (hi : i ≠ 7 ∧ i ≠ 8 ∧ i ≠ 9) : hC b h i = h i := by
  unfold hC
  rw [nst_n (by omega), nst_n (by omega), nst_n (by omega)]
theorem hEnds_n {i : Nat} {h : Nat → Nat} (hi : i ≠ 16 ∧ i ≠ 17) : hEnds h i = h i := by
  unfold hEnds
  rw [nst_n (by omega), nst_n (by omega)]
theorem hHead_n {n b i : Nat} {h : Nat → Nat} (hi : i ≠ 10 ∧ i ≠ 11 ∧ i ≠ 12 ∧ i ≠ 13 ∧ i ≠ 15) : hHead n b h i = h i := by
  unfold hHead
  split
  · rw [nst_n (by omega)]
  · split
    · rw [nst_n (by omega)]
    · split
      · rw [nst_n (by omega)]
      · split
        · rw [nst_n (by omega), nst_n (by omega)]
        · rfl
theorem hPlain_n {n b i : Nat} {h : Nat → Nat} (hi : i < 7 ∨ i = 19) : hPlain n b h i = h i := by
  unfold hPlain
  split
  · split
    · split
      · exact hC_n (by omega)
      · split
        · rw [hEnds_n (by omega), nst_n (by omega)]
          exact hC_n (by omega)
        · rw [nst_n (by omega)]
          exact hC_n (by omega)
    · rw [hHead_n (by omega)]
      exact hC_n (by omega)
  · rw [nst_n (by omega)]
theorem c_rest {fu k : Nat} {x : Int32} {g : Nat → Nat} {A : mwM} {L : mwL} (hE : EaR A k g) (g3 : g 3 < 1000) (g5 : g 5 < 200000) (g13 : g 13 < 2) (g17 : g 17 < 200000) : wq (fX5_hear_b124 fu k x A L) (fun z => z.1 = -1 ∧ z.2.2 = L ∧ EaR z.2.1 k (hPl1 g) ∧ ∀ a y, a ≠ k → z.2.1 a y = A a y) := by
  unfold fX5_hear_b124 fX5_hear_b151 fX5_hear_b175
  have sb : sEnd g < 1000000 := by unfold sEnd; split <;> omega
  rw [c_stuffedEnd hE g13, mb3_s, c_stuffedEnd hE g13, mb3_s, hE 3 (by omega) (by omega), hE 5 (by omega) (by omega), hE 13 (by omega) (by omega)]
  simp only [mlet]
  unfold hPl1
  by_cases a1 : g 5 = sEnd g
  · rw [if_pos (show sI (g 5) = sI (sEnd g) by rw [a1]), if_pos a1]
    by_cases a2 : g 13 = 1
    · rw [if_pos (show sI (g 13) = 1 by rw [a2]; rfl), if_pos a2]
      exact wq_some ⟨rfl, rfl, EaR_s (v := 1) hE, fun a y u => mset_n (by omega)⟩
    · rw [if_neg (show ¬ sI (g 13) = 1 by rw [sI_eql (by omega) (by decide)]; exact a2), if_neg a2, if_pos (show sI (g 5) = sI (sEnd g) by rw [a1])]
      by_cases a3 : g 3 < 5
      · rw [if_neg (show ¬ 5 ≤ sI (g 3) by rw [sI_lle (by decide) (by omega)]; omega), if_pos a3]
        exact wq_some ⟨rfl, rfl, EaR_s (v := 2) hE, fun a y u => mset_n (by omega)⟩
      · rw [if_pos (show 5 ≤ sI (g 3) by rw [sI_lle (by decide) (by omega)]; omega), if_neg a3]
        exact wq_some ⟨rfl, rfl, hE, fun _ _ _ => rfl⟩
  · have n1 : ¬ sI (g 5) = sI (sEnd g) := by rw [sI_eq (by omega) (by omega)]; exact a1
    simp only [if_neg n1]
    rw [if_neg a1]
    exact wq_some ⟨rfl, rfl, hE, fun _ _ _ => rfl⟩
theorem mb3_id3 {o : Option (Int32 × mwM × mwL)} : mb3 o (fun r M L => some (r, M, L)) = o := by
  cases o with
  | none => rfl
  | some p => rfl
theorem c_hearS {fu k b : Nat} {h o : Nat → Nat} {A : mwM} {L : mwL} (hE : EaR A k h) (hO : OcR A k o) (hb : b < 2) (h1 : h 1 = 0) (h2 : h 2 < 2) (h3 : h 3 = 5) (h5 : h 5 < 200000) (h8 : h 8 < 131072) (h9 : h 9 < 2097152) (h13 : h 13 < 2) (h17 : h 17 < 200000) : wq (DX5_hear fu k (sI b) A L) (fun z => z.1 = rI (if b = h 2 then 1 else 0) ∧ z.2.2 = L ∧ (b ≠ h 2 → EaR z.2.1 k (if h 5 = sEnd h then nst (hStuff b h) 1 2 else hStuff b h) ∧ OcR z.2.1 k o) ∧ ∀ a y, a ≠ k → z.2.1 a y = A a y) := by
  unfold DX5_hear DX5_hearStuffBit fX5_hearStuffBit_b78
  have e1 := hE 1 (by omega) (by omega)
  have e2 := hE 2 (by omega) (by omega)
  have e3 := hE 3 (by omega) (by omega)
  have e4 := hE 4 (by omega) (by omega)
  have e5 := hE 5 (by omega) (by omega)
  have e8 := hE 8 (by omega) (by omega)
  have e9 := hE 9 (by omega) (by omega)
  rw [h1] at e1
  rw [h3] at e3
  rw [e1, e2, e3, if_neg (show ¬ sI 0 = 1 by decide), if_neg (show ¬ sI 0 = 2 by decide), if_pos (show sI 5 = 5 from rfl)]
  by_cases a1 : b = h 2
  · rw [if_pos (show sI b = sI (h 2) by rw [a1]), if_pos a1, mb3_s]
    exact wq_some ⟨rfl, rfl, fun z => absurd a1 z, fun _ _ _ => rfl⟩
  · rw [if_neg (show ¬ sI b = sI (h 2) by rw [sI_eq (by omega) (by omega)]; exact a1), if_neg a1]
    simp only [mlet]
    simp (disch := omega) only [mset_n, e4, e8, e9, sI_1]
    rw [c_crc17 h8 hb, mb3_s]
    simp (disch := omega) only [mset_n, e9]
    rw [c_crc21 h9 hb, mb3_s]
    generalize hA1 : mset (mset (mset (mset (mset A k 2 (sI b)) k 3 1) k 4 (sI (h 4 + 1))) k 8 (sI (c17 (h 8) b))) k 9 (sI (c21 (h 9) b)) = A1
    have E1 : EaR A1 k (hStuff b h) := by
      rw [← hA1]
      exact EaR_s (EaR_s (EaR_s (EaR_s (v := 1) (EaR_s hE))))
    have f1 : ∀ a y, a ≠ k → A1 a y = A a y := fun a y u => by rw [← hA1, mset_n (by omega), mset_n (by omega), mset_n (by omega), mset_n (by omega), mset_n (by omega)]
    have sv : sEnd (hStuff b h) = sEnd h := rfl
    have s5 : hStuff b h 5 = h 5 := rfl
    have sb : sEnd h < 1000000 := by unfold sEnd; split <;> omega
    rw [c_stuffedEnd E1 (show h 13 < 2 from h13), mb3_s, sv]
    simp (disch := omega) only [mset_n, e5]
    by_cases a2 : h 5 = sEnd h
    · rw [if_pos (show sI (h 5) = sI (sEnd h) by rw [a2]), if_pos a2, mb3_s]
      refine wq_some ⟨rfl, rfl, fun _ => ⟨EaR_s (v := 2) E1, fun j u => ?_⟩, fun a y u => ?_⟩
      · dsimp only
        rw [mset_n (by omega), f1 _ _ (by omega)]
        exact hO j u
      · dsimp only
        rw [mset_n (by omega), f1 a y u]
    · rw [if_neg (show ¬ sI (h 5) = sI (sEnd h) by rw [sI_eq (by omega) (by omega)]; exact a2), if_neg a2, mb3_s]
      refine wq_some ⟨rfl, rfl, fun _ => ⟨E1, fun j u => ?_⟩, fun a y u => ?_⟩
      · dsimp only
        rw [f1 _ _ (by omega)]
        exact hO j u
      · dsimp only
        rw [f1 a y u]
/-- a plain bit -/
theorem c_hearP {fu k b : Nat} {h o : Nat → Nat} {A : mwM} {L : mwL} (hE : EaR A k h) (hO : OcR A k o) (hb : b < 2) (h1 : h 1 = 0) (h2 : h 2 < 2) (h3 : h 3 < 5) (h5 : h 5 < 100000) (h7 : h 7 < 32768) (h8 : h 8 < 131072) (h9 : h 9 < 2097152) (h11 : h 11 < 2) (h12 : h 12 < 2) (h13 : h 13 < 2) (h15 : h 15 < 200000) (h17 : h 17 < 200000) (h14 : h 5 = h 15 + 3 → 2 * h 14 + b < 16) (ho : h 5 < h 17 → h 15 + 4 ≤ h 5 → (h 5 - h 15 - 4) / 8 < 64) (g12 : hPl0 b h 12 < 2) (g13 : hPl0 b h 13 < 2) (g17 : hPl0 b h 17 < 200000) : wq (DX5_hear fu k (sI b) A L) (fun z => z.1 = rI (if b = 1 ∧ hPl0 b h 13 = 1 ∧ h 5 = (if hPl0 b h 12 = 1 then 34 else 15) then 2 else 0) ∧ z.2.2 = L ∧ (¬ (b = 1 ∧ hPl0 b h 13 = 1 ∧ h 5 = (if hPl0 b h 12 = 1 then 34 else 15)) → EaR z.2.1 k (hPl1 (hPl0 b h))) ∧ OcR z.2.1 k (oPlain (h 5) b h o) ∧ ∀ a y, a ≠ k → a ≠ k + 1 → z.2.1 a y = A a y) := by
  unfold DX5_hear
  have e1 := hE 1 (by omega) (by omega)
  have e2 := hE 2 (by omega) (by omega)
  have e3 := hE 3 (by omega) (by omega)
  have e5 := hE 5 (by omega) (by omega)
  rw [h1] at e1
  rw [e1, e2, e3, if_neg (show ¬ sI 0 = 1 by decide), if_neg (show ¬ sI 0 = 2 by decide), if_neg (show ¬ sI (h 3) = 5 by rw [sI_eql (by omega) (by decide)]; omega)]
  rw [sI_1]
  -- the number of like bits
  have both : ∀ (Q : Int32 × mwM × mwL → Prop), wq (fX5_hear_b61 fu k (sI b) (sI (if b = h 2 then h 3 + 1 else 1)) A L) Q → wq (if sI b = sI (h 2) then fX5_hear_b61 fu k (sI b) (sI (h 3 + 1)) A L else fX5_hear_b61 fu k (sI b) 1 A L) Q := by
    intro Q hF
    by_cases a1 : b = h 2
    · rw [if_pos (show sI b = sI (h 2) by rw [a1])]
      rw [if_pos a1] at hF
      exact hF
    · rw [if_neg (show ¬ sI b = sI (h 2) by rw [sI_eq (by omega) (by omega)]; exact a1)]
      rw [if_neg a1] at hF
      exact hF
  refine both _ ?_
  unfold fX5_hear_b61 fX5_hear_b119
  simp only [mlet]
  simp (disch := omega) only [mset_n, e5, sI_1]
  have E0 : EaR (mset (mset (mset A k 3 (sI (if b = h 2 then h 3 + 1 else 1))) k 2 (sI b)) k 5 (sI (h 5 + 1))) k (nst (nst (nst h 3 (if b = h 2 then h 3 + 1 else 1)) 2 b) 5 (h 5 + 1)) := EaR_s (EaR_s (EaR_s hE))
  have O0 : OcR (mset (mset (mset A k 3 (sI (if b = h 2 then h 3 + 1 else 1))) k 2 (sI b)) k 5 (sI (h 5 + 1))) k o := fun j u => by
    rw [mset_n (by omega), mset_n (by omega), mset_n (by omega)]
    exact hO j u
  refine wq_b2 (c_hearPlain (n := h 5) (b := b) E0 O0 (by omega) hb (show h 7 < 32768 from h7) (show h 8 < 131072 from h8) (show h 9 < 2097152 from h9) (show h 11 < 2 from h11) (show h 12 < 2 from h12) (show h 13 < 2 from h13) (show h 15 < 200000 from h15) (show h 17 < 200000 from h17) h14 ho) ?_
  rintro A1 L1 ⟨y1, y2, y3, y4⟩
  dsimp only at y1 y2 y3 y4
  subst y1
  have y2' : EaR A1 k (hPl0 b h) := y2
  have y3' : OcR A1 k (oPlain (h 5) b h o) := y3
  have f1 : ∀ a y, a ≠ k → a ≠ k + 1 → A1 a y = A a y := fun a y u1 u2 => by rw [y4 a y u1 u2, mset_n (by omega), mset_n (by omega), mset_n (by omega)]
  clear y2 y3 y4
  have g3 : hPl0 b h 3 < 1000 := by
    unfold hPl0
    rw [hPlain_n (by omega)]
    show (if b = h 2 then h 3 + 1 else 1) < 1000
    split <;> omega
  have g5 : hPl0 b h 5 < 200000 := by
    unfold hPl0
    rw [hPlain_n (by omega)]
    show h 5 + 1 < 200000
    omega
  generalize hPl0 b h = g at *
  have rest := wq_mono (Q := fun z => z.1 = rI 0 ∧ z.2.2 = L1 ∧ (EaR z.2.1 k (hPl1 g) ∧ OcR z.2.1 k (oPlain (h 5) b h o)) ∧ ∀ a y, a ≠ k → a ≠ k + 1 → z.2.1 a y = A a y) (c_rest (fu := fu) (x := sI b) (L := L1) y2' g3 g5 g13 g17) (fun z hz => ⟨hz.1, hz.2.1, ⟨hz.2.2.1, OcR_f y3' (fun y => hz.2.2.2 _ y (by omega))⟩, fun a y u1 u2 => by rw [hz.2.2.2 a y u1]; exact f1 a y u1 u2⟩)
  rw [y2' 12 (by omega) (by omega), y2' 13 (by omega) (by omega)]
  have fin : ¬ (b = 1 ∧ g 13 = 1 ∧ h 5 = (if g 12 = 1 then 34 else 15)) → wq (fX5_hear_b124 fu k (sI b) A1 L1) (fun z => z.1 = rI (if b = 1 ∧ g 13 = 1 ∧ h 5 = (if g 12 = 1 then 34 else 15) then 2 else 0) ∧ z.2.2 = L1 ∧ (¬ (b = 1 ∧ g 13 = 1 ∧ h 5 = (if g 12 = 1 then 34 else 15)) → EaR z.2.1 k (hPl1 g)) ∧ OcR z.2.1 k (oPlain (h 5) b h o) ∧ ∀ a y, a ≠ k → a ≠ k + 1 → z.2.1 a y = A a y) := by
    intro hno
    rw [if_neg hno]
    exact wq_mono rest (fun z hz => ⟨hz.1, hz.2.1, fun _ => hz.2.2.1.1, hz.2.2.1.2, hz.2.2.2⟩)
  by_cases a1 : b = 1
  · rw [if_pos (show sI b = 1 by rw [a1]; rfl)]
    by_cases a2 : g 13 = 1
    · rw [if_pos (show sI (g 13) = 1 by rw [a2]; rfl)]
      by_cases a3 : g 12 = 1
      · rw [if_pos (show sI (g 12) = 1 by rw [a3]; rfl)]
        by_cases a4 : h 5 = 34
        · have yes : b = 1 ∧ g 13 = 1 ∧ h 5 = (if g 12 = 1 then 34 else 15) := ⟨a1, a2, by rw [if_pos a3]; exact a4⟩
          rw [if_pos (show sI (h 5) = 34 by rw [a4]; rfl), if_pos yes]
          exact wq_some ⟨rfl, rfl, fun z => absurd yes z, y3', f1⟩
        · rw [if_neg (show ¬ sI (h 5) = 34 by rw [sI_eql (by omega) (by decide)]; exact a4)]
          exact fin (fun z => a4 (by have := z.2.2; rw [if_pos a3] at this; exact this))
      · rw [if_neg (show ¬ sI (g 12) = 1 by rw [sI_eql (by omega) (by decide)]; exact a3)]
        by_cases a4 : h 5 = 15
        · have yes : b = 1 ∧ g 13 = 1 ∧ h 5 = (if g 12 = 1 then 34 else 15) := ⟨a1, a2, by rw [if_neg a3]; exact a4⟩
          rw [if_pos (show sI (h 5) = 15 by rw [a4]; rfl), if_pos yes]
          exact wq_some ⟨rfl, rfl, fun z => absurd yes z, y3', f1⟩
        · rw [if_neg (show ¬ sI (h 5) = 15 by rw [sI_eql (by omega) (by decide)]; exact a4)]
          exact fin (fun z => a4 (by have := z.2.2; rw [if_neg a3] at this; exact this))
    · rw [if_neg (show ¬ sI (g 13) = 1 by rw [sI_eql (by omega) (by decide)]; exact a2)]
      exact fin (fun z => a2 z.2.1)
  · rw [if_neg (show ¬ sI b = 1 by rw [sI_eql (by omega) (by decide)]; exact a1)]
    exact fin (fun z => a1 z.1)
/-- behind the stuffed bits of a flexible frame -/
def hFix (b : Nat) (h : Nat → Nat) : Nat → Nat :=
  if h 6 % 5 = 0 then nst (nst h 6 (h 6 + 1)) 2 b
  else if 4 ≤ h 6 - h 6 / 5 - 1 then
    (if h 6 - h 6 / 5 - 1 = 3 + (if 16 < h 16 then 21 else 17) then nst (nst (nst (nst (nst h 6 (h 6 + 1)) 2 b) 18 (2 * h 18 + b)) 1 2) 6 0 else nst (nst (nst h 6 (h 6 + 1)) 2 b) 18 (2 * h 18 + b))
  else nst (nst (nst (nst (nst h 6 (h 6 + 1)) 2 b) 19 (2 * h 19 + b)) 8 (c17 (h 8) b)) 9 (c21 (h 9) b)
def rFix (b : Nat) (h : Nat → Nat) : Nat :=
  if h 6 % 5 = 0 then (if b = h 2 then 1 else 0)
  else if h 6 - h 6 / 5 - 1 = 3 ∧ 2 * h 19 + b ≠ cntF (h 4) then 1 else 0
theorem cntF_lt (s : Nat) : cntF s < 16 := by
  have : ∀ s, s < 8 → cntF s < 16 := by decide
  have h2 := this (s % 8) (Nat.mod_lt _ (by decide))
  unfold cntF at h2 ⊢
  rw [Nat.mod_mod] at h2
  exact h2
theorem c_hearF {fu k b : Nat} {h : Nat → Nat} {A : mwM} {L : mwL} (hE : EaR A k h) (hb : b < 2) (h1 : h 1 = 1) (h2 : h 2 < 2) (h4 : h 4 < 2000000000) (h6 : h 6 < 1000) (h8 : h 8 < 131072) (h9 : h 9 < 2097152) (h16 : h 16 < 1000) (h19 : h 19 < 1000) : wq (DX5_hear fu k (sI b) A L) (fun z => z.1 = rI (rFix b h) ∧ z.2.2 = L ∧ EaR z.2.1 k (hFix b h) ∧ ∀ a y, a ≠ k → z.2.1 a y = A a y) := by
  unfold DX5_hear DX5_hearFixed
  have e1 := hE 1 (by omega) (by omega)
  rw [h1] at e1
  rw [e1, if_pos (show sI 1 = 1 from rfl)]
  simp only [mb3_id3, mlet]
  rw [hE 2 (by omega) (by omega), hE 6 (by omega) (by omega)]
  have both : ∀ (Q : Int32 × mwM × mwL → Prop), (∀ s : Int32, (s = 0 ↔ b ≠ h 2) → wq (fX5_hearFixed_b18 fu k (sI b) (sI (h 6)) s A L) Q) → wq (if sI b = sI (h 2) then fX5_hearFixed_b18 fu k (sI b) (sI (h 6)) 1 A L else fX5_hearFixed_b18 fu k (sI b) (sI (h 6)) 0 A L) Q := by
    intro Q hF
    by_cases a1 : b = h 2
    · rw [if_pos (show sI b = sI (h 2) by rw [a1])]
      exact hF 1 ⟨fun z => absurd z (by decide), fun z => absurd a1 z⟩
    · rw [if_neg (show ¬ sI b = sI (h 2) by rw [sI_eq (by omega) (by omega)]; exact a1)]
      exact hF 0 ⟨fun _ => a1, fun _ => rfl⟩
  refine both _ (fun s hs => ?_)
  unfold fX5_hearFixed_b18 fX5_hearFixed_b49 fX5_hearFixed_b130 fX5_hearFixed_b131 fX5_hearFixed_b163 fX5_hearFixed_b177
  simp only [mlet]
  rw [hE 6 (by omega) (by omega), sI_1, show sI (h 6) - sI (h 6) / 5 * 5 = sI (h 6 % 5) from sI_mod (b := 5) (by omega) (by omega), show sI (h 6) / 5 = sI (h 6 / 5) from sI_div (b := 5) (by omega) (by omega)]
  generalize hA1 : mset (mset A k 6 (sI (h 6 + 1))) k 2 (sI b) = A1
  have E1 : EaR A1 k (nst (nst h 6 (h 6 + 1)) 2 b) := by
    rw [← hA1]
    exact EaR_s (EaR_s hE)
  have f1 : ∀ a y, a ≠ k → A1 a y = A a y := fun a y u => by rw [← hA1, mset_n (by omega), mset_n (by omega)]
  unfold hFix rFix
  by_cases a1 : h 6 % 5 = 0
  · rw [if_pos (show sI (h 6 % 5) = 0 by rw [a1]; rfl), if_pos a1, if_pos a1]
    by_cases a2 : b = h 2
    · rw [if_neg (show ¬ s = 0 from fun z => (hs.mp z) a2), if_pos a2]
      exact wq_some ⟨rfl, rfl, E1, f1⟩
    · rw [if_pos (show s = 0 from hs.mpr a2), if_neg a2]
      exact wq_some ⟨rfl, rfl, E1, f1⟩
  · rw [if_neg (show ¬ sI (h 6 % 5) = 0 by rw [sI_eql (by omega) (by decide)]; exact a1), if_neg a1, if_neg a1, sI_sub (by omega), show sI (h 6 - h 6 / 5) - 1 = sI (h 6 - h 6 / 5 - 1) from sI_sub (b := 1) (by omega)]
    generalize hn : h 6 - h 6 / 5 - 1 = n at *
    by_cases a2 : 4 ≤ n
    · rw [if_pos (show 4 ≤ sI n by rw [sI_lle (by decide) (by omega)]; exact a2), if_pos a2, if_neg (show ¬ (n = 3 ∧ 2 * h 19 + b ≠ cntF (h 4)) from fun z => by omega), E1 18 (by omega) (by omega), show (nst (nst h 6 (h 6 + 1)) 2 b) 18 = h 18 from rfl, sh1or _ _ hb, mset_n (show ¬ (k = k ∧ 16 = 18) by omega), E1 16 (by omega) (by omega), show (nst (nst h 6 (h 6 + 1)) 2 b) 16 = h 16 from rfl]
      have gg : ∀ w : Nat, w < 100 → (if 16 < h 16 then 21 else 17) = w → wq (if sI n = 3 + sI w then some ((-1 : Int32), mset (mset (mset A1 k 18 (sI (2 * h 18 + b))) k 1 2) k 6 0, L) else some (-1, mset A1 k 18 (sI (2 * h 18 + b)), L)) (fun z => z.1 = rI 0 ∧ z.2.2 = L ∧ EaR z.2.1 k (if n = 3 + (if 16 < h 16 then 21 else 17) then nst (nst (nst (nst (nst h 6 (h 6 + 1)) 2 b) 18 (2 * h 18 + b)) 1 2) 6 0 else nst (nst (nst h 6 (h 6 + 1)) 2 b) 18 (2 * h 18 + b)) ∧ ∀ a y, a ≠ k → z.2.1 a y = A a y) := by
        intro w hw hw2
        rw [hw2, sI_lad]
        by_cases a3 : n = 3 + w
        · rw [if_pos (show sI n = sI (3 + w) by rw [a3]), if_pos a3]
          refine wq_some ⟨rfl, rfl, EaR_s (v := 0) (EaR_s (v := 2) (EaR_s E1)), fun a y u => ?_⟩
          dsimp only
          rw [mset_n (by omega), mset_n (by omega), mset_n (by omega), f1 a y u]
        · rw [if_neg (show ¬ sI n = sI (3 + w) by rw [sI_eq (by omega) (by omega)]; exact a3), if_neg a3]
          refine wq_some ⟨rfl, rfl, EaR_s E1, fun a y u => ?_⟩
          dsimp only
          rw [mset_n (by omega), f1 a y u]
      by_cases a4 : 16 < h 16
      · rw [if_pos (show 16 < sI (h 16) by rw [sI_llt (by decide) (by omega)]; exact a4)]
        exact gg 21 (by omega) (if_pos a4)
      · rw [if_neg (show ¬ 16 < sI (h 16) by rw [sI_llt (by decide) (by omega)]; exact a4)]
        exact gg 17 (by omega) (if_neg a4)
    · rw [if_neg (show ¬ 4 ≤ sI n by rw [sI_lle (by decide) (by omega)]; exact a2), if_neg a2, E1 19 (by omega) (by omega), show (nst (nst h 6 (h 6 + 1)) 2 b) 19 = h 19 from rfl, sh1or _ _ hb, mset_n (show ¬ (k = k ∧ 8 = 19) by omega), E1 8 (by omega) (by omega), show (nst (nst h 6 (h 6 + 1)) 2 b) 8 = h 8 from rfl, c_crc17 h8 hb, mb3_s, mset_n (show ¬ (k = k ∧ 9 = 8) by omega), mset_n (show ¬ (k = k ∧ 9 = 19) by omega), E1 9 (by omega) (by omega), show (nst (nst h 6 (h 6 + 1)) 2 b) 9 = h 9 from rfl, c_crc21 h9 hb, mb3_s]
      generalize hA2 : mset (mset (mset A1 k 19 (sI (2 * h 19 + b))) k 8 (sI (c17 (h 8) b))) k 9 (sI (c21 (h 9) b)) = A2
      have E2 : EaR A2 k (nst (nst (nst (nst (nst h 6 (h 6 + 1)) 2 b) 19 (2 * h 19 + b)) 8 (c17 (h 8) b)) 9 (c21 (h 9) b)) := by
        rw [← hA2]
        exact EaR_s (EaR_s (EaR_s E1))
      have f2 : ∀ a y, a ≠ k → A2 a y = A a y := fun a y u => by rw [← hA2, mset_n (by omega), mset_n (by omega), mset_n (by omega), f1 a y u]
      by_cases a3 : n = 3
      · have hlt := cntF_lt (h 4)
        rw [if_pos (show sI n = 3 by rw [a3]; rfl), c_count E2 h4, mb3_s, E2 19 (by omega) (by omega), show (nst (nst (nst (nst (nst h 6 (h 6 + 1)) 2 b) 19 (2 * h 19 + b)) 8 (c17 (h 8) b)) 9 (c21 (h 9) b)) 19 = 2 * h 19 + b from rfl, show (nst (nst (nst (nst (nst h 6 (h 6 + 1)) 2 b) 19 (2 * h 19 + b)) 8 (c17 (h 8) b)) 9 (c21 (h 9) b)) 4 = h 4 from rfl]
        by_cases a4 : 2 * h 19 + b = cntF (h 4)
        · rw [if_pos (show sI (2 * h 19 + b) = sI (cntF (h 4)) by rw [a4]), if_neg (show ¬ (n = 3 ∧ 2 * h 19 + b ≠ cntF (h 4)) from fun z => z.2 a4)]
          exact wq_some ⟨rfl, rfl, E2, f2⟩
        · rw [if_neg (show ¬ sI (2 * h 19 + b) = sI (cntF (h 4)) by rw [sI_eq (by omega) (by omega)]; exact a4), if_pos (show n = 3 ∧ 2 * h 19 + b ≠ cntF (h 4) from ⟨a3, a4⟩)]
          exact wq_some ⟨rfl, rfl, E2, f2⟩
      · rw [if_neg (show ¬ sI n = 3 by rw [sI_eql (by omega) (by decide)]; exact a3), if_neg (show ¬ (n = 3 ∧ 2 * h 19 + b ≠ cntF (h 4)) from fun z => a3 z.1)]
        exact wq_some ⟨rfl, rfl, E2, f2⟩
/-- behind the check -/
def rTail (b : Nat) (h : Nat → Nat) : Nat :=
  if h 6 = 1 then 0 else if b = 0 then (if h 6 = 9 then 5 else 2) else if h 6 = 2 ∧ hRight h = false then 3 else if h 6 = 8 then 6 else if h 6 < 9 then 0 else 7
theorem c_hearT {fu k b : Nat} {h : Nat → Nat} {A : mwM} {L : mwL} (hE : EaR A k h) (hb : b < 2) (h1 : h 1 = 2) (h6 : h 6 < 1000) (h13 : h 13 < 2) (h16 : h 16 < 1000) (h18 : h 18 < 2000000000) (h7 : h 7 < 32768) (h8 : h 8 < 131072) (h9 : h 9 < 2097152) : wq (DX5_hear fu k (sI b) A L) (fun z => z.1 = rI (rTail b h) ∧ z.2.2 = L ∧ EaR z.2.1 k (nst h 6 (h 6 + 1)) ∧ ∀ a y, a ≠ k → z.2.1 a y = A a y) := by
  unfold DX5_hear DX5_hearTail fX5_hearTail_b37 fX5_hearTail_b52 fX5_hearTail_b75
  have e1 := hE 1 (by omega) (by omega)
  rw [h1] at e1
  rw [e1, if_neg (show ¬ sI 2 = 1 by decide), if_pos (show sI 2 = 2 from rfl)]
  simp only [mb3_id3, mlet]
  rw [hE 6 (by omega) (by omega), sI_1]
  have E1 : EaR (mset A k 6 (sI (h 6 + 1))) k (nst h 6 (h 6 + 1)) := EaR_s hE
  have f1 : ∀ a y, a ≠ k → mset A k 6 (sI (h 6 + 1)) a y = A a y := fun a y u => mset_n (by omega)
  rw [c_right (fu := fu) (L := L) E1 (show h 13 < 2 from h13) (show h 16 < 1000 from h16) (show h 18 < 2000000000 from h18) (show h 7 < 32768 from h7) (show h 8 < 131072 from h8) (show h 9 < 2097152 from h9), mb3_s, show hRight (nst h 6 (h 6 + 1)) = hRight h from rfl]
  generalize mset A k 6 (sI (h 6 + 1)) = A1 at *
  unfold rTail
  by_cases a1 : h 6 = 1
  · rw [if_pos (show sI (h 6) = 1 by rw [a1]; rfl), if_pos a1]
    exact wq_some ⟨rfl, rfl, E1, f1⟩
  · rw [if_neg (show ¬ sI (h 6) = 1 by rw [sI_eql (by omega) (by decide)]; exact a1), if_neg a1]
    by_cases a2 : b = 0
    · rw [if_pos (show sI b = 0 by rw [a2]; rfl), if_pos a2]
      by_cases a3 : h 6 = 9
      · rw [if_pos (show sI (h 6) = 9 by rw [a3]; rfl), if_pos a3]
        exact wq_some ⟨rfl, rfl, E1, f1⟩
      · rw [if_neg (show ¬ sI (h 6) = 9 by rw [sI_eql (by omega) (by decide)]; exact a3), if_neg a3]
        exact wq_some ⟨rfl, rfl, E1, f1⟩
    · rw [if_neg (show ¬ sI b = 0 by rw [sI_eql (by omega) (by decide)]; exact a2), if_neg a2]
      have last : ¬ (h 6 = 2 ∧ hRight h = false) → wq (if sI (h 6) = 8 then some ((-2 : Int32), A1, L) else if sI (h 6) < 9 then some (-1, A1, L) else some (-3, A1, L)) (fun z => z.1 = rI (if h 6 = 2 ∧ hRight h = false then 3 else if h 6 = 8 then 6 else if h 6 < 9 then 0 else 7) ∧ z.2.2 = L ∧ EaR z.2.1 k (nst h 6 (h 6 + 1)) ∧ ∀ a y, a ≠ k → z.2.1 a y = A a y) := by
        intro hno
        rw [if_neg hno]
        by_cases a3 : h 6 = 8
        · rw [if_pos (show sI (h 6) = 8 by rw [a3]; rfl), if_pos a3]
          exact wq_some ⟨rfl, rfl, E1, f1⟩
        · rw [if_neg (show ¬ sI (h 6) = 8 by rw [sI_eql (by omega) (by decide)]; exact a3), if_neg a3]
          by_cases a4 : h 6 < 9
          · rw [if_pos (show sI (h 6) < 9 by rw [sI_ltl (by omega) (by decide)]; exact a4), if_pos a4]
            exact wq_some ⟨rfl, rfl, E1, f1⟩
          · rw [if_neg (show ¬ sI (h 6) < 9 by rw [sI_ltl (by omega) (by decide)]; exact a4), if_neg a4]
            exact wq_some ⟨rfl, rfl, E1, f1⟩
      by_cases a5 : h 6 = 2
      · rw [if_pos (show sI (h 6) = 2 by rw [a5]; rfl)]
        cases hr : hRight h with
        | false =>
          rw [if_pos (show bI false = 0 from rfl), if_pos ⟨a5, rfl⟩]
          exact wq_some ⟨rfl, rfl, E1, f1⟩
        | true =>
          rw [if_neg (show ¬ bI true = 0 by decide)]
          rw [hr] at last
          exact last (fun z => by cases z.2)
      · rw [if_neg (show ¬ sI (h 6) = 2 by rw [sI_eql (by omega) (by decide)]; exact a5)]
        exact last (fun z => a5 z.1)
theorem c_putBit {fu k : Nat} {h : Nat → Nat} {A : mwM} {L : mwL} (hE : EaR A k h) (h1 : h 1 < 3) (h6 : h 6 < 1000) (h13 : h 13 < 2) (h16 : h 16 < 1000) (h18 : h 18 < 2000000000) (h7 : h 7 < 32768) (h8 : h 8 < 131072) (h9 : h 9 < 2097152) : DX5_putBit fu k A L = some (sI (if h 1 = 2 ∧ h 6 = 1 ∧ hRight h = true then 0 else 1), A, L) := by
  unfold DX5_putBit fX5_putBit_b27 fX5_putBit_b28
  rw [hE 1 (by omega) (by omega), hE 6 (by omega) (by omega), c_right (fu := fu) (L := L) hE h13 h16 h18 h7 h8 h9, mb3_s]
  by_cases a1 : h 1 = 2
  · rw [if_pos (show sI (h 1) = 2 by rw [a1]; rfl)]
    by_cases a2 : h 6 = 1
    · rw [if_pos (show sI (h 6) = 1 by rw [a2]; rfl)]
      cases hr : hRight h with
      | false =>
        rw [if_pos (show bI false = 0 from rfl), if_neg (show ¬ (h 1 = 2 ∧ h 6 = 1 ∧ false = true) from fun z => by cases z.2.2)]
        rfl
      | true =>
        rw [if_neg (show ¬ bI true = 0 by decide), if_pos (show h 1 = 2 ∧ h 6 = 1 ∧ true = true from ⟨a1, a2, rfl⟩)]
        rfl
    · rw [if_neg (show ¬ sI (h 6) = 1 by rw [sI_eql (by omega) (by decide)]; exact a2), if_neg (show ¬ (h 1 = 2 ∧ h 6 = 1 ∧ hRight h = true) from fun z => a2 z.2.1)]
      rfl
  · rw [if_neg (show ¬ sI (h 1) = 2 by rw [sI_eql (by omega) (by decide)]; exact a1), if_neg (show ¬ (h 1 = 2 ∧ h 6 = 1 ∧ hRight h = true) from fun z => a1 z.1)]
    rfl
/-- the beginning -/
def h00 : Nat → Nat := fun i => if i = 3 ∨ i = 5 then 1 else if i = 7 then c15 0 0 else if i = 8 then c17 65536 0 else if i = 9 then c21 1048576 0 else if i = 15 ∨ i = 17 then 100000 else 0
theorem c_begin5 {fu k : Nat} {A : mwM} {L : mwL} : wq (DX5_begin fu k A L) (fun z => z.2 = L ∧ EaR z.1 k h00 ∧ ∀ a y, a ≠ k → z.1 a y = A a y) := by
  unfold DX5_begin
  simp only [mlet]
  have q1 : ∀ (A : mwM) (L : mwL), DX5_nextCheck fu 0 0 15 17817 A L = some (sI (c15 0 0), A, L) := fun A L => c_crc15 (v := 0) (b := 0) (by omega) (by omega)
  have q2 : ∀ (A : mwM) (L : mwL), DX5_nextCheck fu 65536 0 17 92251 A L = some (sI (c17 65536 0), A, L) := fun A L => c_crc17 (v := 65536) (b := 0) (by omega) (by omega)
  have q3 : ∀ (A : mwM) (L : mwL), DX5_nextCheck fu 1048576 0 21 1058969 A L = some (sI (c21 1048576 0), A, L) := fun A L => c_crc21 (v := 1048576) (b := 0) (by omega) (by omega)
  rw [q1, mb3_s, q2, mb3_s, q3, mb3_s]
  refine wq_some ⟨rfl, fun i u1 u2 => ?_, fun a y u => ?_⟩
  · dsimp only
    rcases (show i = 1 ∨ i = 2 ∨ i = 3 ∨ i = 4 ∨ i = 5 ∨ i = 6 ∨ i = 7 ∨ i = 8 ∨ i = 9 ∨ i = 10 ∨ i = 11 ∨ i = 12 ∨ i = 13 ∨ i = 14 ∨ i = 15 ∨ i = 16 ∨ i = 17 ∨ i = 18 ∨ i = 19 by omega) with rfl | rfl | rfl | rfl | rfl | rfl | rfl | rfl | rfl | rfl | rfl | rfl | rfl | rfl | rfl | rfl | rfl | rfl | rfl
    all_goals
      simp (disch := omega) only [mset_n, mset_s]
      try rfl
  · dsimp only
    simp (disch := omega) only [mset_n]
