/-! what doesn't touch a chart leaves it as it is -/
theorem ReM_f {q : Nat} {M M' : mwM} {L L' : mwL} {c : Nat → Nat → Nat} {b : Nat → Nat → Bool} {va : Nat → Int32} {D : Nat → Int64} {x : Nat → Int32} (h : ReM q M L c b va D x) (hM : ∀ a y, q ≤ a → a ≤ q + 21 → ¬ (a = q ∧ (y = 0 ∨ y = 33 ∨ y = 35)) → M' a y = M a y) (hL : ∀ a, q + 5 ≤ a → a ≤ q + 21 → L' a = L a) : ReM q M' L' c b va D x := by
  obtain ⟨h1, h2, h3, h4, h5, h6, h7, h8⟩ := h
  refine ⟨?_, ?_, ?_, ?_, ?_, ?_, ?_, ?_⟩
  · exact TrM_f h1 (hM _ _ (by omega) (by omega) (by omega)) (fun a s u1 u2 => hM _ _ (by omega) (by omega) (by omega))
  · refine ⟨?_, fun e u1 u2 => ?_⟩
    · simp (disch := omega) only [hM]; exact h2.1
    · simp (disch := omega) only [hM]; exact h2.2 e u1 u2
  · refine ⟨?_, fun i hi => ?_⟩
    · simp (disch := omega) only [hM]; exact h3.1
    · simp (disch := omega) only [hM, hL]; exact h3.2 i hi
  · simp (disch := omega) only [hM, hL]; exact h4
  · intro s hs
    simp (disch := omega) only [hM, hL]; exact h5 s hs
  · intro s u1 hs
    simp (disch := omega) only [hM, hL]; exact h6 s u1 hs
  · simp (disch := omega) only [hM]; exact h7
  · intro e u1 u2
    simp (disch := omega) only [hM]; exact h8 e u1 u2
theorem ClM_f {q : Nat} {M M' : mwM} {L L' : mwL} {c : Nat → Nat → Nat} (h : ClM q M L c) (hM : ∀ a y, q ≤ a → a ≤ q + 21 → ¬ (a = q ∧ (y = 0 ∨ y = 33 ∨ y = 35)) → M' a y = M a y) (hL : ∀ a, q + 5 ≤ a → a ≤ q + 21 → L' a = L a) : ClM q M' L' c := by
  refine ⟨fun s u1 u2 => ?_, fun e u1 u2 => ?_⟩
  · simp (disch := omega) only [hM, hL]; exact h.1 s u1 u2
  · simp (disch := omega) only [hM]; exact h.2 e u1 u2
theorem ReC_f {k : Nat} {A A' : mwM} {L L' : mwL} {c : Nat → Nat → Nat} {b : Nat → Nat → Bool} {va : Nat → Int32} {D : Nat → Int64} {x : Nat → Int32} (h : ReC k A L c b va D x) (hA : ∀ a y, k ≤ a → a ≤ k + 33 → ¬ (a = k ∧ (y = 5 ∨ y = 11 ∨ y = 12 ∨ y = 13)) → ¬ (k + 12 ≤ a ∧ a ≤ k + 16) → a ≠ k + 25 → a ≠ k + 27 → A' a y = A a y) (hL : L' (k + 34) = L (k + 34)) : ReC k A' L' c b va D x := by
  obtain ⟨h1, h2, h3, h4, h5, h6, h7, h8⟩ := h
  refine ⟨?_, ?_, ?_, ?_, ?_, ?_, ?_, ?_⟩
  · exact TrC_f h1 (hA _ _ (by omega) (by omega) (by omega) (by omega) (by omega) (by omega)) (fun a s u1 u2 => hA _ _ (by omega) (by omega) (by omega) (by omega) (by omega) (by omega))
  · refine ⟨?_, fun e u1 u2 => ?_⟩
    · simp (disch := omega) only [hA]; exact h2.1
    · simp (disch := omega) only [hA]; exact h2.2 e u1 u2
  · refine ⟨?_, fun i hi => ?_⟩
    · simp (disch := omega) only [hA]; exact h3.1
    · simp (disch := omega) only [hA]; exact h3.2 i hi
  · rw [hL]
    simp (disch := omega) only [hA]; exact h4
  · intro s hs
    simp (disch := omega) only [hA]; exact h5 s hs
  · intro s u1 hs
    simp (disch := omega) only [hA]; exact h6 s u1 hs
  · refine ⟨fun i v hv => ?_, fun i v hv => ?_⟩
    · simp (disch := omega) only [hA]; exact h7.1 i v hv
    · simp (disch := omega) only [hA]; exact h7.2 i v hv
  · intro e u1 u2
    simp (disch := omega) only [hA]; exact h8 e u1 u2
/-! the reference: a new state -/
theorem m_noneC {fu : Nat} {M : mwM} {L : mwL} {q N p : Nat} (h : M q 2 = sI N) (hN : N ≤ 200) (hp : p ≤ 2000) : DX13_none fu q (sI p) M L = some (bI (decide (N < p)), M, L) := by
  unfold DX13_none fX13_none_b12 fX13_none_b17
  simp (disch := omega) only [h, mck_s, sI_nn, nn_s, sI_lt, sI_le, sI_eq, sI_ltl, sI_lel, sI_eql, sI_llt, sI_lle, sI_1, bI_0, bI_1, bI_n, mlet, mb3_s, mb2_s]
  rw [if_neg (by omega)]
  by_cases hq : N < p
  · rw [if_neg (by omega), decide_eq_true hq]; rfl
  · rw [if_pos (by omega), decide_eq_false hq]; rfl
theorem m_state {fu : Nat} {M : mwM} {L : mwL} {q p t : Nat} {c : Nat → Nat → Nat} {va : Nat → Int32} {D : Nat → Int64} {x : Nat → Int32} (hv : Cv c) (h : ReM q M L c b00 va D x) (hcl : ClM q M L c) (hp : p ≤ c 0 0) (ht : t ≤ 5) : wq (DX13_state fu q (sI p) (sI t) M L) (fun z => z.2.2 = L ∧ (∀ a y, ¬ (q ≤ a ∧ a ≤ q + 3) → z.2.1 a y = M a y) ∧ if 2 ≤ c 2 p ∨ 40 ≤ c 3 p then z.1 = -2 ∧ ReM q z.2.1 L c b00 va D x ∧ ClM q z.2.1 L c else if 200 ≤ c 0 0 then z.1 = -4 ∧ ReM q z.2.1 L c b00 va D x ∧ ClM q z.2.1 L c else z.1 = sI (c 0 0 + 1) ∧ ReM q z.2.1 L (cst c p t) b00 va D x ∧ ClM q z.2.1 L (cst c p t)) := by
  have hT := hv.1
  have hN := hT.1
  have hpp := Tr_pa hT hp
  have h0 : ReM q (mset M q 0 0) L c b00 va D x := ReM_f h (fun a y _ _ u => mset_n (by omega)) (fun _ _ _ => rfl)
  have hcl0 : ClM q (mset M q 0 0) L c := ClM_f hcl (fun a y _ _ u => mset_n (by omega)) (fun _ _ _ => rfl)
  have h0' := h0
  obtain ⟨hM, hEM, hXM, hf4, h5, h6, h7, h8⟩ := h0'
  have e1 := m_noneC (fu := fu) (L := L) (p := p) hM.1 hN (by omega)
  rw [decide_eq_false (by omega)] at e1
  have e2 := m_mark (fu := fu) (L := L) hT hM hp
  have e3 := (hM.2 p hp).2.2
  have e27 : mset M q 0 0 q 27 = bI false := hf4.2.2.2.2.1
  have e27' := e27
  rw [mset_j (by omega)] at e27'
  have e2N := h.1.1
  have e3' := e3
  rw [mset_k (by omega)] at e3'
  unfold DX13_state fX13_state_b43
  simp (disch := omega) only [e1, e2, mck_s, sI_nn, nn_s, sI_lt, sI_le, sI_eq, sI_ltl, sI_lel, sI_eql, sI_llt, sI_lle, sI_1, bI_0, bI_1, bI_n, mlet, mb3_s, mb2_s]
  simp (disch := omega) only [e27, e3, mset_n, e27', e2N, e3', mset_s, mck_s, sI_nn, nn_s, sI_lt, sI_le, sI_eq, sI_ltl, sI_lel, sI_eql, sI_llt, sI_lle, sI_1, bI_0, bI_1, bI_n, mlet, mb3_s, mb2_s]
  rw [if_pos trivial, if_neg (by omega), if_neg (by omega)]
  have fr : ∀ a y, ¬ (q ≤ a ∧ a ≤ q + 3) → mset M q 0 0 a y = M a y := fun a y u => mset_n (by omega)
  by_cases hm : 2 ≤ c 2 p
  · rw [if_neg (by simp [hm])]
    refine wq_some ⟨rfl, fr, ?_⟩
    rw [if_pos (Or.inl hm)]
    exact ⟨rfl, h0, hcl0⟩
  rw [if_pos (by simp [hm])]
  by_cases hd : 40 ≤ c 3 p
  · rw [if_pos (by omega)]
    refine wq_some ⟨rfl, fr, ?_⟩
    rw [if_pos (Or.inr hd)]
    exact ⟨rfl, h0, hcl0⟩
  rw [if_neg (by omega), if_pos trivial]
  by_cases h200 : 200 ≤ c 0 0
  · rw [if_pos (by omega)]
    refine wq_some ⟨rfl, fr, ?_⟩
    rw [if_neg (by omega), if_pos h200]
    exact ⟨rfl, h0, hcl0⟩
  rw [if_neg (by omega)]
  refine wq_some ⟨rfl, ?_, ?_⟩
  all_goals (try dsimp only)
  · intro a y u
    simp (disch := omega) only [mset_n]
  rw [if_neg (by omega), if_neg h200]
  refine ⟨rfl, ?_, ?_⟩
  · refine ⟨?_, ?_, ?_, ?_, ?_, ?_, ?_, ?_⟩
    · rw [cst_N]
      refine ⟨?_, fun s hs => ?_⟩
      · simp (disch := omega) only [mset_s, mset_n]
      · by_cases hq : s = c 0 0 + 1
        · subst hq
          rw [cst_1, cst_2, cst_3]
          simp (disch := omega) only [mset_s, mset_n, true_and, and_true]
        · have := h.1.2 s (by omega)
          rw [cst_s (by omega) hq, cst_s (by omega) hq, cst_s (by omega) hq]
          simp (disch := omega) only [mset_n]
          exact this
    · rw [cst_0 (by omega), cst_r (i := 4) (by omega) (by omega), cst_r (i := 5) (by omega) (by omega), cst_r (i := 6) (by omega) (by omega), cst_r (i := 7) (by omega) (by omega)]
      refine ⟨?_, fun e u1 u2 => ?_⟩
      · simp (disch := omega) only [mset_n]; exact h.2.1.1
      · simp (disch := omega) only [mset_n]; exact h.2.1.2 e u1 u2
    · rw [cst_0 (by omega)]
      refine ⟨?_, fun i hi => ?_⟩
      · simp (disch := omega) only [mset_n]; exact h.2.2.1.1
      · have := h.2.2.1.2 i hi
        dsimp only at this ⊢
        rw [cst_ax 0 (by omega), cst_ax 1 (by omega), cst_ax 2 (by omega), cst_ax 3 (by omega)]
        simp (disch := omega) only [mset_n]; exact this
    · rw [cst_0 (by omega), cst_0 (by omega)]
      simp (disch := omega) only [mset_n]; exact h.2.2.2.1
    · intro s hs
      rw [cst_N] at hs
      simp (disch := omega) only [mset_n]
      by_cases hq : s = c 0 0 + 1
      · subst hq
        rw [cst_z (Or.inl rfl), cst_z (Or.inr (Or.inl rfl))]
        have := hcl.1 (c 0 0 + 1) (by omega) (by omega)
        exact ⟨this.1, this.2.1⟩
      · rw [cst_s (by omega) hq, cst_s (by omega) hq]
        exact h.2.2.2.2.1 s (by omega)
    · intro s u1 hs
      rw [cst_N] at hs
      simp (disch := omega) only [mset_n]
      by_cases hq : s = c 0 0 + 1
      · subst hq
        rw [cst_z (Or.inr (Or.inr rfl))]
        have := hcl.1 (c 0 0 + 1) (by omega) (by omega)
        exact this.2.2
      · rw [cst_s (by omega) hq]
        exact h.2.2.2.2.2.1 s u1 (by omega)
    · simp (disch := omega) only [mset_n]; exact h.2.2.2.2.2.2.1
    · intro e u1 u2
      rw [cst_0 (by omega)] at u2
      simp (disch := omega) only [mset_n]; exact h.2.2.2.2.2.2.2 e u1 u2
  · refine ⟨fun s u1 u2 => ?_, fun e u1 u2 => ?_⟩
    · rw [cst_N] at u1
      simp (disch := omega) only [mset_n]; exact hcl.1 s (by omega) u2
    · rw [cst_0 (by omega)] at u1
      simp (disch := omega) only [mset_n]; exact hcl.2 e u1 u2
