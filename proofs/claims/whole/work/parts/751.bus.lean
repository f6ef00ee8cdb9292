/-! the reference's body, bit by bit -/
def ckA (h : Nat → Nat) : Nat := if h 17 < 100000 then h 17 else 20000
theorem hPlain_17 {n b : Nat} {h : Nat → Nat} (hn : n ≠ h 15 + 3) : hPlain n b h 17 = h 17 := by
  unfold hPlain
  split
  · split
    · split
      · exact hC_n (by omega)
      · first
          | (rw [if_neg hn, nst_n (by omega)]; exact hC_n (by omega))
          | (rw [nst_n (by omega)]; exact hC_n (by omega))
    · rw [hHead_n (by omega)]
      exact hC_n (by omega)
  · rw [nst_n (by omega)]
theorem rf_12 {p h : Nat → Nat} {b : Nat} (hI : PI p h) (hb : b < 2) : hPl0 b h 12 = (if h 5 + 1 = 14 then b else h 12) := by
  have hG := PI_s hI hb
  obtain ⟨_, _, j3, _⟩ := PI_x.mp hG
  obtain ⟨_, _, i3, _⟩ := PI_x.mp hI
  have g5 := (hPl0_n (b := b) (h := h)).2.2.2.2.1
  rw [j3, g5]
  by_cases c : h 5 + 1 = 14
  · rw [if_pos c, if_pos (by omega), show (13 : Nat) = h 5 by omega]
    exact nst_s
  · rw [if_neg c, i3]
    by_cases d : 14 ≤ h 5
    · rw [if_pos d, if_pos (by omega), nst_n (by omega)]
    · rw [if_neg d, if_neg (by omega)]
theorem rf_13 {p h : Nat → Nat} {b : Nat} (hI : PI p h) (hb : b < 2) : hPl0 b h 13 = (if 13 < h 5 + 1 ∧ h 5 + 1 = atE (hPl0 b h 12) + 1 then b else h 13) := by
  have hG := PI_s hI hb
  obtain ⟨_, _, j3, j4, _⟩ := PI_x.mp hG
  obtain ⟨_, _, i3, i4, _⟩ := PI_x.mp hI
  have g5 := (hPl0_n (b := b) (h := h)).2.2.2.2.1
  have e12 := rf_12 hI hb
  have ab : 14 ≤ atE (hPl0 b h 12) := by unfold atE; split <;> omega
  rw [j4, g5]
  by_cases c : h 5 + 1 = atE (hPl0 b h 12) + 1
  · rw [if_pos (show atE (hPl0 b h 12) < h 5 + 1 by omega), if_pos (show 13 < h 5 + 1 ∧ h 5 + 1 = atE (hPl0 b h 12) + 1 by omega), show atE (hPl0 b h 12) = h 5 by omega]
    exact nst_s
  · rw [if_neg (show ¬ (13 < h 5 + 1 ∧ h 5 + 1 = atE (hPl0 b h 12) + 1) from fun z => c z.2), i4]
    by_cases d : 14 ≤ h 5
    · rw [if_neg (show ¬ h 5 + 1 = 14 by omega)] at e12
      rw [e12] at c ⊢
      by_cases f : atE (h 12) < h 5
      · rw [if_pos f, if_pos (show atE (h 12) < h 5 + 1 by omega), nst_n (by omega)]
      · rw [if_neg f, if_neg (show ¬ atE (h 12) < h 5 + 1 by omega)]
    · have ab2 : 14 ≤ atE (h 12) := by unfold atE; split <;> omega
      rw [if_neg (show ¬ atE (hPl0 b h 12) < h 5 + 1 by omega), if_neg (show ¬ atE (h 12) < h 5 by omega)]
theorem rf_ce {e f : Nat} (he : e < 2) (hf : f < 2) : caE e f + 4 = atE e + (if f = 0 then (if e = 0 then 5 else 6) else 8) := by
  have all : ∀ e, e < 2 → ∀ f, f < 2 → caE e f + 4 = atE e + (if f = 0 then (if e = 0 then 5 else 6) else 8) := by decide
  exact all e he f hf
theorem rf_17 {p h : Nat → Nat} {b : Nat} (hI : PI p h) (hb : b < 2) : ckA (hPl0 b h) = (if atE (hPl0 b h 12) < h 5 + 1 ∧ h 5 + 1 = caE (hPl0 b h 12) (hPl0 b h 13) + 4 then caE (hPl0 b h 12) (hPl0 b h 13) + 4 + 8 * ocE (hPl0 b h 13) (hPl0 b h 11) (hPl0 b h 14) else ckA h) := by
  have hG := PI_s hI hb
  obtain ⟨_, r12, r13, _, _, r16, _, _, _, _, _, _, _, _⟩ := PI_b hG
  obtain ⟨_, _, _, _, _, _, _, j8, j9, _⟩ := PI_x.mp hG
  have g5 := (hPl0_n (b := b) (h := h)).2.2.2.2.1
  by_cases c : atE (hPl0 b h 12) < h 5 + 1 ∧ h 5 + 1 = caE (hPl0 b h 12) (hPl0 b h 13) + 4
  · rw [if_pos c]
    have k : atE (hPl0 b h 12) < hPl0 b h 5 ∧ caE (hPl0 b h 12) (hPl0 b h 13) + 4 ≤ hPl0 b h 5 := by omega
    rw [if_pos k] at j8 j9
    have cb := caE_b r12 r13
    have ab : atE (hPl0 b h 12) ≤ 33 := by unfold atE; split <;> omega
    unfold ckA
    rw [if_pos (by omega), j9, j8]
  · rw [if_neg c]
    have e17 : hPl0 b h 17 = h 17 := by
      apply hPlain_17
      intro z
      have z' : h 5 = h 15 + 3 := z
      obtain ⟨_, q12, q13, _, _, _, _, _, _, _, b2, b3, b4, b5⟩ := PI_b hI
      have k15 : h 15 < 100000 := by
        by_cases y : h 15 < 100000
        · exact y
        · have i5 := (PI_x.mp hI).2.2.2.2.1
          by_cases w : atE (h 12) < h 5
          · rw [if_pos w] at i5
            have cb := caE_b q12 q13
            have ab : atE (h 12) ≤ 33 := by unfold atE; split <;> omega
            omega
          · have k17 : h 17 ≥ 100000 := by
              by_cases v : h 17 < 100000
              · have := b2 v
                omega
              · omega
            have := b3 k17
            omega
      obtain ⟨y1, y2, y3⟩ := PI_k hI hG (fun i u => nst_n (by omega)) g5 k15
      have i5 := (PI_x.mp hI).2.2.2.2.1
      have at1 : atE (h 12) < h 5 := by
        by_cases w : atE (h 12) < h 5
        · exact w
        · rw [if_neg w] at i5
          omega
      rw [if_pos at1] at i5
      apply c
      rw [y1, y2]
      omega
    unfold ckA
    rw [e17]
/-- what is found, where the code ends -/
theorem rf_fd {p h : Nat → Nat} {b : Nat} (hI : PI p h) (hb : b < 2) (h1 : atE (hPl0 b h 12) < h 5 + 1) (h2 : h 5 + 1 = caE (hPl0 b h 12) (hPl0 b h 13) + 4) : hPl0 b h 14 = num (nst p (h 5) b) (h 5 + 1 - 4) 4 ∧ hPl0 b h 10 = idE (hPl0 b h 12) (nst p (h 5) b) ∧ hPl0 b h 11 = (nst p (h 5) b) (if hPl0 b h 12 = 1 then 32 else 12) := by
  have hG := PI_s hI hb
  obtain ⟨_, _, _, _, _, j6, j7, _, _, j10, _⟩ := PI_x.mp hG
  obtain ⟨_, r12, r13, _⟩ := PI_b hG
  have cb := caE_b r12 r13
  have g5 := (hPl0_n (b := b) (h := h)).2.2.2.2.1
  rw [g5] at j6 j7 j10
  rw [if_pos h1, show min (h 5 + 1) (caE (hPl0 b h 12) (hPl0 b h 13) + 4) - caE (hPl0 b h 12) (hPl0 b h 13) = 4 by omega] at j6
  refine ⟨?_, ?_, ?_⟩
  · rw [j6, show h 5 + 1 - 4 = caE (hPl0 b h 12) (hPl0 b h 13) by omega]
  · rw [j10]
    unfold idE jE
    have a14 : 14 ≤ atE (hPl0 b h 12) := by unfold atE; split <;> omega
    by_cases c : hPl0 b h 12 = 1
    · have : atE (hPl0 b h 12) = 33 := by unfold atE; rw [if_pos c]
      rw [if_pos c, if_pos c, show min (h 5 + 1) 12 - 1 = 11 by omega, show min (h 5 + 1) 32 - 14 = 18 by omega]
    · rw [if_neg c, if_neg c, show min (h 5 + 1) 12 - 1 = 11 by omega]
      show _ * 1 + 0 = _
      omega
  · rw [j7]
    have a14 : 14 ≤ atE (hPl0 b h 12) := by unfold atE; split <;> omega
    by_cases c : hPl0 b h 12 = 1
    · have : atE (hPl0 b h 12) = 33 := by unfold atE; rw [if_pos c]
      rw [if_pos ⟨c, by omega⟩, if_pos c]
    · rw [if_neg (fun z => c z.1), if_pos (by omega), if_neg c]
/-- what was found stays -/
theorem rf_st {p h : Nat → Nat} {b : Nat} (hI : PI p h) (hk : h 17 < 100000) : hPl0 b h 10 = h 10 ∧ hPl0 b h 11 = h 11 ∧ hPl0 b h 12 = h 12 ∧ hPl0 b h 13 = h 13 ∧ hPl0 b h 14 = h 14 := by
  obtain ⟨_, _, _, _, _, _, _, _, _, _, b2, _⟩ := PI_b hI
  have k := b2 hk
  by_cases c2 : h 5 < h 17
  · have e : hPl0 b h = hC b (nst (nst (nst h 3 (if b = h 2 then h 3 + 1 else 1)) 2 b) 5 (h 5 + 1)) := hPlain_2 (show h 5 < h 17 from c2) (show h 15 + 4 ≤ h 5 by omega)
    rw [e]
    exact ⟨rfl, rfl, rfl, rfl, rfl⟩
  · have e : hPl0 b h = nst (nst (nst (nst h 3 (if b = h 2 then h 3 + 1 else 1)) 2 b) 5 (h 5 + 1)) 18 (2 * h 18 + b) := hPlain_5 (show h 17 ≤ h 5 by omega)
    rw [e]
    exact ⟨rfl, rfl, rfl, rfl, rfl⟩
def kdH (h : Nat → Nat) : Nat := kdE (h 12) (h 13) (h 11)
def BM (M : mwM) (s : Nat → Nat) (k : Nat) (p h : Nat → Nat) : Prop := M 821 34 = sI (h 5) ∧ (∀ i, i < h 5 → M 848 i = sI (p i)) ∧ M 821 46 = sI (h 4) ∧ M 821 41 = sI k ∧ (∀ i, i < k → M 852 i = sI (s i)) ∧ (h 17 < 100000 → M 821 42 = sI (kdH h) ∧ M 821 43 = sI (h 14) ∧ M 821 44 = sI (h 10))
def bF0 (M M' : mwM) : Prop := ∀ a y, ¬ (a = 821 ∧ (y = 34 ∨ (41 ≤ y ∧ y ≤ 46))) → a ≠ 848 → a ≠ 852 → M' a y = M a y
theorem m_bitAt {fu n k b : Nat} {M : mwM} {L : mwL} (hn : n < 7) (hk : k < 1200) (h : M 837 (1200 * n + k) = sI b) : DX12_bitAt fu (sI n) (sI k) M L = some (sI b, M, L) := by
  unfold DX12_bitAt
  rw [sI_lml, sI_add, mck_s (by omega) (by omega), sI_nn (by omega), h]
/-- the end of the loop's body -/
theorem m_b328 {fu : Nat} {x v2 v3 v6 v8 : Int32} {P S C f k : Nat} {M : mwM} {L : mwL} {r : Int32 × Int32 × Int32 × Int32 × Int32 × Int32 × Int32 × mwM × mwL → Option (Int32 × mwM × mwL)} {Q : Int32 × mwM × mwL → Prop} (hP : M 821 34 = sI P) (hPl : P < 100000) (hC : C < 100000) (hS : S < 1000) (hf : f < 2) (h8 : v8 = sI k)
    (h1 : (f = 1 ∧ P = C) ∨ (f = 0 ∧ P = C + 15 ∧ S < 5) → Q (-1, mset M 821 45 (sI (k + 1)), L))
    (h2 : ¬ ((f = 1 ∧ P = C) ∨ (f = 0 ∧ P = C + 15 ∧ S < 5)) → wq (r (v2, v3, sI S, sI C, v6, sI f, sI (k + 1), M, L)) Q) : wq (fX12_bodyAnew_b328 fu x r v2 v3 (sI S) (sI C) v6 (sI f) v8 M L) Q := by
  unfold fX12_bodyAnew_b328 fX12_bodyAnew_b372 fX12_bodyAnew_b373 fX12_bodyAnew_b390
  simp (decide := true) only [mlet, ite_true, ite_false]
  subst h8
  rw [hP, sI_adl, sI_1]
  by_cases c1 : f = 1
  · rw [if_neg (show ¬ sI f = 0 by rw [sI_eql (by omega) (by decide)]; omega)]
    by_cases c2 : P = C
    · rw [if_pos (show sI P = sI C by rw [c2])]
      exact wq_some (h1 (Or.inl ⟨c1, c2⟩))
    · rw [if_neg (show ¬ sI P = sI C by rw [sI_eq (by omega) (by omega)]; exact c2)]
      exact h2 (fun z => by omega)
  · rw [if_pos (show sI f = 0 by rw [show f = 0 by omega]; rfl)]
    by_cases c2 : P = C + 15
    · rw [if_pos (show sI P = sI (C + 15) by rw [c2])]
      by_cases c3 : S < 5
      · rw [if_neg (show ¬ 5 ≤ sI S by rw [sI_lle (by decide) (by omega)]; omega)]
        exact wq_some (h1 (Or.inr ⟨by omega, c2, c3⟩))
      · rw [if_pos (show 5 ≤ sI S by rw [sI_lle (by decide) (by omega)]; omega)]
        exact h2 (fun z => by omega)
    · rw [if_neg (show ¬ sI P = sI (C + 15) by rw [sI_eq (by omega) (by omega)]; exact c2)]
      exact h2 (fun z => by omega)
