/-! a new edge -/
def ced (c : Nat → Nat → Nat) (f t e g : Nat) : Nat → Nat → Nat := fun i j => if i = 0 ∧ j = 1 then c 0 1 + 1 else if i = 4 ∧ j = c 0 1 + 1 then f else if i = 5 ∧ j = c 0 1 + 1 then t else if i = 6 ∧ j = c 0 1 + 1 then e else if i = 7 ∧ j = c 0 1 + 1 then g else c i j
section CED
variable {c : Nat → Nat → Nat} {f t e g : Nat}
theorem ced_E : ced c f t e g 0 1 = c 0 1 + 1 := by simp [ced]
theorem ced_0 {j : Nat} (h : j ≠ 1) : ced c f t e g 0 j = c 0 j := by simp [ced, h]
theorem ced_s {i j : Nat} (h0 : i ≠ 0) (h : j ≠ c 0 1 + 1) : ced c f t e g i j = c i j := by simp [ced, h, h0]
theorem ced_r {i : Nat} (h : 1 ≤ i) (h0 : i ≤ 3 ∨ 8 ≤ i) : ced c f t e g i = c i := by
  funext j
  unfold ced
  rw [if_neg (by omega), if_neg (by omega), if_neg (by omega), if_neg (by omega), if_neg (by omega)]
theorem ced_4 : ced c f t e g 4 (c 0 1 + 1) = f := by simp [ced]
theorem ced_5 : ced c f t e g 5 (c 0 1 + 1) = t := by simp [ced]
theorem ced_6 : ced c f t e g 6 (c 0 1 + 1) = e := by simp [ced]
theorem ced_7 : ced c f t e g 7 (c 0 1 + 1) = g := by simp [ced]
theorem ced_ax (n : Nat) (h : n ≤ 3) : ced c f t e g (8 + n) = c (8 + n) := ced_r (by omega) (by omega)
theorem Cv_ed (h : Cv c) (hf : 1 ≤ f ∧ f ≤ c 0 0) (ht : 1 ≤ t ∧ t ≤ c 0 0) (h2 : ¬ (c 2 f = 2 ∨ c 2 f = 3)) (hE : ¬ 400 ≤ c 0 1) (he : e < 2000) (hg : g < 16384) (hg2 : g = 0 ∨ (1 ≤ g % 8 ∧ g % 8 ≤ 6)) : Cv (ced c f t e g) := by
  obtain ⟨hT, hEd, hX, hl, hd, hk, ha⟩ := h
  refine ⟨?_, ?_, ?_, ?_, ?_, ?_, ?_⟩
  · rw [ced_0 (by omega), ced_r (i := 1) (by omega) (by omega), ced_r (i := 2) (by omega) (by omega), ced_r (i := 3) (by omega) (by omega)]
    exact hT
  · rw [ced_0 (by omega), ced_E, ced_r (i := 2) (by omega) (by omega)]
    refine ⟨by omega, fun j u1 u2 => ?_⟩
    by_cases hq : j = c 0 1 + 1
    · subst hq
      rw [ced_4, ced_5, ced_6, ced_7]
      exact ⟨hf.1, hf.2, ht.1, ht.2, by omega, by omega, he, hg, hg2⟩
    · rw [ced_s (by omega) hq, ced_s (by omega) hq, ced_s (by omega) hq, ced_s (by omega) hq]
      exact hEd.2 j u1 (by omega)
  · rw [ced_0 (by omega)]
    refine ⟨hX.1, fun i hi => ?_⟩
    have := hX.2 i hi
    dsimp only at this ⊢
    rw [ced_ax 0 (by omega), ced_ax 1 (by omega), ced_ax 2 (by omega), ced_ax 3 (by omega)]
    exact this
  · rw [ced_0 (by omega)]; exact hl
  · rw [ced_0 (by omega)]; exact hd
  · rw [ced_0 (by omega), ced_r (i := 12) (by omega) (by omega)]; exact hk
  · rw [ced_0 (by omega), ced_r (i := 9) (by omega) (by omega), ced_r (i := 8) (by omega) (by omega)]
    exact ha
theorem c_addEdge {fu : Nat} {A : mwM} {L : mwL} {k : Nat} {va : Nat → Int32} {D : Nat → Int64} {x : Nat → Int32} (hv : Cv c) (h : ReC k A L c b00 va D x) (hf : f ≤ c 0 0) : wq (DX2_addEdge fu k (sI f) (sI t) (sI e) (sI g) A L) (fun z => if c 2 f = 2 ∨ c 2 f = 3 then z = (-2, A, L) else if 400 ≤ c 0 1 then z = (-4, A, L) else z.1 = sI (c 0 1 + 1) ∧ z.2.2 = L ∧ ReC k z.2.1 L (ced c f t e g) b00 va D x ∧ ∀ b y, ¬ (k + 1 ≤ b ∧ b ≤ k + 33) → ¬ (b = k ∧ y = 8) → z.2.1 b y = A b y) := by
  have hT := hv.1
  have hN := hT.1
  have hE4 := hv.2.1.1
  have hpp := Tr_pa hT hf
  obtain ⟨hC, hEC, hXC, hf4, h5, h6, h7, h8⟩ := h
  have e1 := (hC.2 f hf).2.1
  have e8 := hEC.1
  unfold DX2_addEdge fX2_addEdge_b24
  simp (disch := omega) only [e1, e8, mset_s, mset_n, mck_s, sI_nn, nn_s, sI_lt, sI_le, sI_eq, sI_ltl, sI_lel, sI_eql, sI_llt, sI_lle, sI_1, bI_0, bI_1, bI_n, mlet, mb3_s, mb2_s]
  by_cases h2 : c 2 f = 2
  · rw [if_pos h2]
    exact wq_some (by rw [if_pos (Or.inl h2)])
  rw [if_neg h2]
  by_cases h3 : c 2 f = 3
  · rw [if_pos h3]
    exact wq_some (by rw [if_pos (Or.inr h3)])
  rw [if_neg h3]
  by_cases h400 : 400 ≤ c 0 1
  · rw [if_neg (by omega)]
    exact wq_some (by rw [if_neg (by omega), if_pos h400])
  rw [if_pos (by omega)]
  refine wq_some ?_
  rw [if_neg (by omega), if_neg h400]
  refine ⟨rfl, rfl, ?_, ?_⟩
  all_goals (try dsimp only)
  · refine ⟨?_, ?_, ?_, ?_, ?_, ?_, ?_, ?_⟩
    · rw [ced_0 (by omega), ced_r (i := 1) (by omega) (by omega), ced_r (i := 2) (by omega) (by omega), ced_r (i := 3) (by omega) (by omega)]
      refine ⟨?_, fun s hs => ?_⟩
      · simp (disch := omega) only [mset_n]; exact hC.1
      · simp (disch := omega) only [mset_n]; exact hC.2 s hs
    · rw [ced_E]
      refine ⟨?_, fun j u1 u2 => ?_⟩
      · simp (disch := omega) only [mset_n, mset_s]
      · by_cases hq : j = c 0 1 + 1
        · subst hq
          rw [ced_4, ced_5, ced_6, ced_7]
          simp (disch := omega) only [mset_n, mset_s, true_and, and_true]
        · rw [ced_s (by omega) hq, ced_s (by omega) hq, ced_s (by omega) hq, ced_s (by omega) hq]
          simp (disch := omega) only [mset_n]; exact hEC.2 j u1 (by omega)
    · rw [ced_0 (by omega)]
      refine ⟨?_, fun i hi => ?_⟩
      · simp (disch := omega) only [mset_n]; exact hXC.1
      · have := hXC.2 i hi
        dsimp only at this ⊢
        rw [ced_ax 0 (by omega), ced_ax 1 (by omega), ced_ax 2 (by omega), ced_ax 3 (by omega)]
        simp (disch := omega) only [mset_n]; exact this
    · rw [ced_0 (by omega), ced_0 (by omega)]
      simp (disch := omega) only [mset_n]; exact hf4
    · rw [ced_0 (by omega), ced_r (i := 12) (by omega) (by omega), ced_r (i := 1) (by omega) (by omega), ced_r (i := 2) (by omega) (by omega), ced_r (i := 13) (by omega) (by omega)]
      intro s hs
      rw [chK_0]
      simp (disch := omega) only [mset_n]
      have := h5 s hs
      rw [chK_0] at this
      exact this
    · rw [ced_0 (by omega), ced_r (i := 14) (by omega) (by omega)]
      intro s u1 hs
      simp (disch := omega) only [mset_n]; exact h6 s u1 hs
    · rw [ced_0 (by omega), ced_r (i := 3) (by omega) (by omega)]
      refine ⟨fun i v hv => ?_, fun i v hv => ?_⟩
      · simp (disch := omega) only [mset_n]; exact h7.1 i v hv
      · simp (disch := omega) only [mset_n]; exact h7.2 i v hv
    · rw [ced_E]
      intro j u1 u2
      by_cases hq : j = c 0 1 + 1
      · subst hq
        rw [mset_s]
        rfl
      · simp (disch := omega) only [mset_n]; exact h8 j u1 (by omega)
  · intro b y u1 u2
    simp (disch := omega) only [mset_n]
theorem sI_a7 {g : Nat} : sI g &&& 7 = sI (g % 8) := sI_and (m := 3)
theorem m_edge {fu : Nat} {M : mwM} {L : mwL} {q : Nat} {va : Nat → Int32} {D : Nat → Int64} {x : Nat → Int32} (hv : Cv c) (h : ReM q M L c b00 va D x) (hcl : ClM q M L c) (hf : 1 ≤ f ∧ f ≤ c 0 0) (ht : 1 ≤ t ∧ t ≤ c 0 0) (he : e < 1000 ∨ (1000 < e ∧ e < 1201)) (hg : g < 16384) (hg2 : g = 0 ∨ (1 ≤ g % 8 ∧ g % 8 ≤ 6)) : wq (DX13_edge fu q (sI f) (sI t) (sI e) (sI g) M L) (fun z => z.2.2 = L ∧ (∀ a y, ¬ (q ≤ a ∧ a ≤ q + 13) → z.2.1 a y = M a y) ∧ if c 2 f = 2 ∨ c 2 f = 3 then z.1 = -2 ∧ ReM q z.2.1 L c b00 va D x ∧ ClM q z.2.1 L c else if 400 ≤ c 0 1 then z.1 = -4 ∧ ReM q z.2.1 L c b00 va D x ∧ ClM q z.2.1 L c else z.1 = sI (c 0 1 + 1) ∧ ReM q z.2.1 L (ced c f t e g) b00 va D x ∧ ClM q z.2.1 L (ced c f t e g)) := by
  have hT := hv.1
  have hN := hT.1
  have hE4 := hv.2.1.1
  have hpp := Tr_pa hT hf.2
  have h0 : ReM q (mset M q 0 0) L c b00 va D x := ReM_f h (fun a y _ _ u => mset_n (by omega)) (fun _ _ _ => rfl)
  have hcl0 : ClM q (mset M q 0 0) L c := ClM_f hcl (fun a y _ _ u => mset_n (by omega)) (fun _ _ _ => rfl)
  have fr : ∀ a y, ¬ (q ≤ a ∧ a ≤ q + 13) → mset M q 0 0 a y = M a y := fun a y u => mset_n (by omega)
  have h0' := h0
  obtain ⟨hM, hEM, hXM, hf4, h5, h6, h7, h8⟩ := h0'
  have e1 := m_noneC (fu := fu) (L := L) (p := f) hM.1 hN (by omega)
  have e1' := m_noneC (fu := fu) (L := L) (p := t) hM.1 hN (by omega)
  rw [decide_eq_false (by omega)] at e1 e1'
  have e2 := (h.1.2 f hf.2).2.1
  have e27 : M q 27 = bI false := h.2.2.2.1.2.2.2.2.1
  have e12 := h.2.1.1
  have main : ∀ v : Int32, v = 1 → wq (fX13_edge_b104 fu q (sI f) (sI t) (sI e) (sI g) v 1 (mset M q 0 0) L) (fun z => z.2.2 = L ∧ (∀ a y, ¬ (q ≤ a ∧ a ≤ q + 13) → z.2.1 a y = M a y) ∧ if c 2 f = 2 ∨ c 2 f = 3 then z.1 = -2 ∧ ReM q z.2.1 L c b00 va D x ∧ ClM q z.2.1 L c else if 400 ≤ c 0 1 then z.1 = -4 ∧ ReM q z.2.1 L c b00 va D x ∧ ClM q z.2.1 L c else z.1 = sI (c 0 1 + 1) ∧ ReM q z.2.1 L (ced c f t e g) b00 va D x ∧ ClM q z.2.1 L (ced c f t e g)) := by
    intro v hv1
    subst hv1
    unfold fX13_edge_b104 fX13_edge_b136
    simp (disch := omega) only [e2, e27, e12, mset_n, mset_s, mck_s, sI_nn, nn_s, sI_lt, sI_le, sI_eq, sI_ltl, sI_lel, sI_eql, sI_llt, sI_lle, sI_1, bI_0, bI_1, bI_n, mlet, mb3_s, mb2_s]
    by_cases h2 : c 2 f = 2
    · rw [if_pos h2]
      refine wq_some ⟨rfl, fr, ?_⟩
      rw [if_pos (Or.inl h2)]
      exact ⟨rfl, h0, hcl0⟩
    rw [if_neg h2]
    by_cases h3 : c 2 f = 3
    · rw [if_pos h3]
      refine wq_some ⟨rfl, fr, ?_⟩
      rw [if_pos (Or.inr h3)]
      exact ⟨rfl, h0, hcl0⟩
    rw [if_neg h3, if_neg (by decide), if_neg (by decide), if_pos trivial]
    by_cases h400 : 400 ≤ c 0 1
    · rw [if_pos (by omega)]
      refine wq_some ⟨rfl, fr, ?_⟩
      rw [if_neg (by omega), if_pos h400]
      exact ⟨rfl, h0, hcl0⟩
    rw [if_neg (by omega)]
    refine wq_some ⟨rfl, ?_, ?_⟩
    all_goals (try dsimp only)
    · intro a y u
      simp (disch := omega) only [mset_n]
    rw [if_neg (by omega), if_neg h400]
    refine ⟨rfl, ?_, ?_⟩
    · refine ⟨?_, ?_, ?_, ?_, ?_, ?_, ?_, ?_⟩
      · rw [ced_0 (by omega), ced_r (i := 1) (by omega) (by omega), ced_r (i := 2) (by omega) (by omega), ced_r (i := 3) (by omega) (by omega)]
        refine ⟨?_, fun s hs => ?_⟩
        · simp (disch := omega) only [mset_n]; exact h.1.1
        · simp (disch := omega) only [mset_n]; exact h.1.2 s hs
      · rw [ced_E]
        refine ⟨?_, fun j u1 u2 => ?_⟩
        · simp (disch := omega) only [mset_n, mset_s]
        · by_cases hq : j = c 0 1 + 1
          · subst hq
            rw [ced_4, ced_5, ced_6, ced_7]
            simp (disch := omega) only [mset_n, mset_s, true_and, and_true]
          · rw [ced_s (by omega) hq, ced_s (by omega) hq, ced_s (by omega) hq, ced_s (by omega) hq]
            simp (disch := omega) only [mset_n]; exact h.2.1.2 j u1 (by omega)
      · rw [ced_0 (by omega)]
        refine ⟨?_, fun i hi => ?_⟩
        · simp (disch := omega) only [mset_n]; exact h.2.2.1.1
        · have := h.2.2.1.2 i hi
          dsimp only at this ⊢
          rw [ced_ax 0 (by omega), ced_ax 1 (by omega), ced_ax 2 (by omega), ced_ax 3 (by omega)]
          simp (disch := omega) only [mset_n]; exact this
      · rw [ced_0 (by omega), ced_0 (by omega)]
        simp (disch := omega) only [mset_n]; exact h.2.2.2.1
      · rw [ced_0 (by omega), ced_r (i := 12) (by omega) (by omega), ced_r (i := 13) (by omega) (by omega)]
        intro s hs
        simp (disch := omega) only [mset_n]; exact h.2.2.2.2.1 s hs
      · rw [ced_0 (by omega), ced_r (i := 14) (by omega) (by omega)]
        intro s u1 hs
        simp (disch := omega) only [mset_n]; exact h.2.2.2.2.2.1 s u1 hs
      · simp (disch := omega) only [mset_n]; exact h.2.2.2.2.2.2.1
      · rw [ced_E]
        intro j u1 u2
        simp (disch := omega) only [mset_n]
        by_cases hq : j = c 0 1 + 1
        · exact hcl.2 j (by omega) (by omega)
        · exact h.2.2.2.2.2.2.2 j u1 (by omega)
    · refine ⟨?_, ?_⟩
      · rw [ced_0 (by omega)]
        intro s u1 u2
        simp (disch := omega) only [mset_n]; exact hcl.1 s u1 u2
      · rw [ced_E]
        intro j u1 u2
        simp (disch := omega) only [mset_n]; exact hcl.2 j (by omega) u2
  have b61 : ∀ v : Int32, v = 1 → wq (fX13_edge_b61 fu q (sI f) (sI t) (sI e) (sI g) v (mset M q 0 0) L) (fun z => z.2.2 = L ∧ (∀ a y, ¬ (q ≤ a ∧ a ≤ q + 13) → z.2.1 a y = M a y) ∧ if c 2 f = 2 ∨ c 2 f = 3 then z.1 = -2 ∧ ReM q z.2.1 L c b00 va D x ∧ ClM q z.2.1 L c else if 400 ≤ c 0 1 then z.1 = -4 ∧ ReM q z.2.1 L c b00 va D x ∧ ClM q z.2.1 L c else z.1 = sI (c 0 1 + 1) ∧ ReM q z.2.1 L (ced c f t e g) b00 va D x ∧ ClM q z.2.1 L (ced c f t e g)) := by
    intro v hv1
    unfold fX13_edge_b61 fX13_edge_b99
    simp (disch := omega) only [sI_a7, mck_s, sI_nn, nn_s, sI_lt, sI_le, sI_eq, sI_ltl, sI_lel, sI_eql, sI_llt, sI_lle, sI_1, bI_0, bI_1, bI_n, mlet, mb3_s, mb2_s]
    by_cases g0 : g = 0
    · rw [if_pos g0]
      exact main v hv1
    · rw [if_neg g0, if_neg (by omega), if_neg (by omega), if_neg (by omega), if_neg (by omega)]
      exact main v hv1
  unfold DX13_edge
  simp (disch := omega) only [e1, e1', fX13_edge_b42, fX13_edge_b56, mck_s, sI_nn, nn_s, sI_lt, sI_le, sI_eq, sI_ltl, sI_lel, sI_eql, sI_llt, sI_lle, sI_1, bI_0, bI_1, bI_n, mlet, mb3_s, mb2_s]
  rw [if_pos trivial, if_pos trivial, if_neg (by omega), if_neg (by omega), if_neg (by omega)]
  by_cases he1 : e < 1000
  · rw [if_pos he1]
    exact b61 1 rfl
  · rw [if_neg he1, if_neg (by omega), if_neg (by omega)]
    exact b61 1 rfl
end CED
