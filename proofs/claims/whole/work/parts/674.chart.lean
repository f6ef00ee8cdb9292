/-! data and ticks -/
def cda (c : Nat → Nat → Nat) : Nat → Nat → Nat := fun i j => if i = 0 ∧ j = 4 then c 0 4 + 1 else c i j
def Dda (D : Nat → Int64) (n : Nat) (v : Int64) : Nat → Int64 := fun j => if j = n then v else D j
def ctk (c : Nat → Nat → Nat) (s n : Nat) : Nat → Nat → Nat := fun i j => if i = 12 ∧ j = s then n else c i j
theorem cda_r {c : Nat → Nat → Nat} {i : Nat} (h : 1 ≤ i) : cda c i = c i := by
  funext j
  unfold cda
  rw [if_neg (by omega)]
theorem cda_0 {c : Nat → Nat → Nat} {j : Nat} (h : j ≠ 4) : cda c 0 j = c 0 j := by simp [cda, h]
theorem cda_4 {c : Nat → Nat → Nat} : cda c 0 4 = c 0 4 + 1 := by simp [cda]
theorem ctk_r {c : Nat → Nat → Nat} {s n i : Nat} (h : i ≠ 12) : ctk c s n i = c i := by
  funext j
  unfold ctk
  rw [if_neg (by omega)]
theorem ctk_s {c : Nat → Nat → Nat} {s n : Nat} : ctk c s n 12 s = n := by simp [ctk]
theorem ctk_n {c : Nat → Nat → Nat} {s n j : Nat} (h : j ≠ s) : ctk c s n 12 j = c 12 j := by simp [ctk, h]
theorem Cv_da {c : Nat → Nat → Nat} (h : Cv c) (hd : ¬ 32 ≤ c 0 4) : Cv (cda c) := by
  unfold Cv at *
  simp only [cda_0 (c := c) (j := 0) (by omega), cda_0 (c := c) (j := 1) (by omega), cda_0 (c := c) (j := 2) (by omega), cda_0 (c := c) (j := 3) (by omega), cda_4, cda_r (c := c) (i := 1) (by omega), cda_r (c := c) (i := 2) (by omega), cda_r (c := c) (i := 3) (by omega), cda_r (c := c) (i := 4) (by omega), cda_r (c := c) (i := 5) (by omega), cda_r (c := c) (i := 6) (by omega), cda_r (c := c) (i := 7) (by omega), cda_r (c := c) (i := 8) (by omega), cda_r (c := c) (i := 9) (by omega), cda_r (c := c) (i := 12) (by omega)]
  have e : (fun i => cda c (8 + i)) = fun i => c (8 + i) := by
    funext i
    exact cda_r (by omega)
  rw [e]
  exact ⟨h.1, h.2.1, h.2.2.1, h.2.2.2.1, by omega, h.2.2.2.2.2⟩
theorem Cv_tk {c : Nat → Nat → Nat} {s n : Nat} (h : Cv c) (hn : n ≤ 20000) : Cv (ctk c s n) := by
  unfold Cv at *
  simp only [ctk_r (c := c) (s := s) (n := n) (i := 0) (by omega), ctk_r (c := c) (s := s) (n := n) (i := 1) (by omega), ctk_r (c := c) (s := s) (n := n) (i := 2) (by omega), ctk_r (c := c) (s := s) (n := n) (i := 3) (by omega), ctk_r (c := c) (s := s) (n := n) (i := 4) (by omega), ctk_r (c := c) (s := s) (n := n) (i := 5) (by omega), ctk_r (c := c) (s := s) (n := n) (i := 6) (by omega), ctk_r (c := c) (s := s) (n := n) (i := 7) (by omega), ctk_r (c := c) (s := s) (n := n) (i := 8) (by omega), ctk_r (c := c) (s := s) (n := n) (i := 9) (by omega)]
  refine ⟨h.1, h.2.1, ?_, h.2.2.2.1, h.2.2.2.2.1, ?_, h.2.2.2.2.2.2⟩
  · refine ⟨h.2.2.1.1, fun i hi => ?_⟩
    have := h.2.2.1.2 i hi
    dsimp only at this ⊢
    rw [ctk_r (by omega), ctk_r (by omega), ctk_r (by omega), ctk_r (by omega)]
    exact this
  · intro t ht
    by_cases hq : t = s
    · rw [hq, ctk_s]; exact hn
    · rw [ctk_n hq]; exact h.2.2.2.2.2.1 t ht
theorem c_addDatum {fu : Nat} {A : mwM} {L : mwL} {k : Nat} {c : Nat → Nat → Nat} {b : Nat → Nat → Bool} {va : Nat → Int32} {D : Nat → Int64} {x : Nat → Int32} {v : Int32} (hv : Cv c) (h : ReC k A L c b va D x) : wq (DX2_addDatum fu k v A L) (fun z => if 32 ≤ c 0 4 then z = (-4, A, L) else z.1 = sI (c 0 4) ∧ ReC k z.2.1 z.2.2 (cda c) b va (Dda D (c 0 4) v.toInt64) x ∧ (∀ a y, ¬ (a = k ∧ y = 10) → z.2.1 a y = A a y) ∧ ∀ a, a ≠ k + 34 → z.2.2 a = L a) := by
  have hd := hv.2.2.2.2.1
  obtain ⟨h1, h2, h3, h4, h5, h6, h7, h8⟩ := h
  have e10 := h4.2.1
  unfold DX2_addDatum
  simp (disch := omega) only [e10, mset_s, mck_s, sI_nn, nn_s, sI_lt, sI_le, sI_eq, sI_ltl, sI_lel, sI_eql, sI_llt, sI_lle, sI_1, bI_0, bI_1, bI_n, mlet, mb3_s, mb2_s, sI_m1]
  by_cases hq : 32 ≤ c 0 4
  · rw [if_neg (by omega)]
    exact wq_some (by rw [if_pos hq])
  rw [if_pos (by omega)]
  refine wq_some ?_
  rw [if_neg hq]
  refine ⟨rfl, ?_, fun a y u => mset_n u, fun a u => mset_rown u⟩
  try dsimp only
  have e : (fun i => cda c (8 + i)) = fun i => c (8 + i) := by
    funext i
    exact cda_r (by omega)
  have hK : ∀ s, chK (cda c) b s = chK c b s := fun s => chK_c (cda_0 (by omega)) (cda_r (by omega)) (cda_r (by omega))
  unfold ReC ReC'
  simp only [hK, e, cda_0 (c := c) (j := 0) (by omega), cda_0 (c := c) (j := 1) (by omega), cda_0 (c := c) (j := 2) (by omega), cda_0 (c := c) (j := 3) (by omega), cda_4, cda_r (c := c) (i := 1) (by omega), cda_r (c := c) (i := 2) (by omega), cda_r (c := c) (i := 3) (by omega), cda_r (c := c) (i := 4) (by omega), cda_r (c := c) (i := 5) (by omega), cda_r (c := c) (i := 6) (by omega), cda_r (c := c) (i := 7) (by omega), cda_r (c := c) (i := 12) (by omega), cda_r (c := c) (i := 13) (by omega), cda_r (c := c) (i := 14) (by omega)]
  refine ⟨?_, ?_, ?_, ?_, ?_, ?_, ?_, ?_⟩
  · exact TrC_f h1 (mset_j (by omega)) (fun a s u1 u2 => mset_k (by omega))
  · refine ⟨?_, fun e u1 u2 => ?_⟩
    · simp (disch := omega) only [mset_n]; exact h2.1
    · simp (disch := omega) only [mset_n]; exact h2.2 e u1 u2
  · refine ⟨?_, fun i hi => ?_⟩
    · simp (disch := omega) only [mset_n]; exact h3.1
    · simp (disch := omega) only [mset_n]; exact h3.2 i hi
  · refine ⟨?_, ?_, ?_, ?_, ?_, ?_⟩
    · simp (disch := omega) only [mset_n]; exact h4.1
    · rw [mset_s]
    · simp (disch := omega) only [mset_n]; exact h4.2.2.1
    · simp (disch := omega) only [mset_n]; exact h4.2.2.2.1
    · simp (disch := omega) only [mset_n]; exact h4.2.2.2.2.1
    · rw [mset_row, h4.2.2.2.2.2]; rfl
  · intro s hs
    simp (disch := omega) only [mset_n]; exact h5 s hs
  · intro s u1 hs
    simp (disch := omega) only [mset_n]; exact h6 s u1 hs
  · refine ⟨fun i v hv => ?_, fun i v hv => ?_⟩
    · simp (disch := omega) only [mset_n]; exact h7.1 i v hv
    · simp (disch := omega) only [mset_n]; exact h7.2 i v hv
  · intro e u1 u2
    simp (disch := omega) only [mset_n]; exact h8 e u1 u2
theorem m_data {fu : Nat} {M : mwM} {L : mwL} {q : Nat} {c : Nat → Nat → Nat} {b : Nat → Nat → Bool} {va : Nat → Int32} {D : Nat → Int64} {x : Nat → Int32} {v : Int64} (hv : Cv c) (h : ReM q M L c b va D x) (hcl : ClM q M L c) : wq (DX13_data fu q v M L) (fun z => (∀ a y, a ≠ q → z.2.1 a y = M a y) ∧ (∀ a, a ≠ q + 21 → z.2.2 a = L a) ∧ if 32 ≤ c 0 4 then z.1 = 0 ∧ z.2.1 q 0 = 1 ∧ ReM q z.2.1 z.2.2 c b va D x ∧ ClM q z.2.1 z.2.2 c else z.1 = sI (c 0 4) ∧ z.2.1 q 0 = 0 ∧ ReM q z.2.1 z.2.2 (cda c) b va (Dda D (c 0 4) v) x ∧ ClM q z.2.1 z.2.2 (cda c)) := by
  have hd := hv.2.2.2.2.1
  have h' := h
  obtain ⟨h1, h2, h3, h4, h5, h6, h7, h8⟩ := h'
  have e26 := h4.2.1
  unfold DX13_data fX13_data_b15
  simp (disch := omega) only [e26, mset_s, mset_n, mck_s, sI_nn, nn_s, sI_lt, sI_le, sI_eq, sI_ltl, sI_lel, sI_eql, sI_llt, sI_lle, sI_1, bI_0, bI_1, bI_n, mlet, mb3_s, mb2_s, sI_m1]
  by_cases hq : 32 ≤ c 0 4
  · rw [if_pos (by omega), if_neg (by decide)]
    refine wq_some ⟨fun a y u => mset_k u, fun _ _ => rfl, ?_⟩
    rw [if_pos hq]
    exact ⟨rfl, mset_s, ReM_f h (fun a y _ _ u => mset_n (by omega)) (fun _ _ _ => rfl), ClM_f hcl (fun a y _ _ u => mset_n (by omega)) (fun _ _ _ => rfl)⟩
  rw [if_neg (by omega), if_pos (by decide)]
  refine wq_some ⟨?_, fun a u => mset_rown u, ?_⟩
  all_goals (try dsimp only)
  · intro a y u
    simp (disch := omega) only [mset_n]
  rw [if_neg hq]
  refine ⟨rfl, ?_, ?_, ?_⟩
  · simp (disch := omega) only [mset_n, mset_s]
  · have e : (fun i => cda c (8 + i)) = fun i => c (8 + i) := by
      funext i
      exact cda_r (by omega)
    unfold ReM
    simp only [e, cda_0 (c := c) (j := 0) (by omega), cda_0 (c := c) (j := 1) (by omega), cda_0 (c := c) (j := 2) (by omega), cda_0 (c := c) (j := 3) (by omega), cda_4, cda_r (c := c) (i := 1) (by omega), cda_r (c := c) (i := 2) (by omega), cda_r (c := c) (i := 3) (by omega), cda_r (c := c) (i := 4) (by omega), cda_r (c := c) (i := 5) (by omega), cda_r (c := c) (i := 6) (by omega), cda_r (c := c) (i := 7) (by omega), cda_r (c := c) (i := 12) (by omega), cda_r (c := c) (i := 13) (by omega), cda_r (c := c) (i := 14) (by omega)]
    refine ⟨?_, ?_, ?_, ?_, ?_, ?_, ?_, ?_⟩
    · refine ⟨?_, fun s hs => ?_⟩
      · simp (disch := omega) only [mset_n]; exact h1.1
      · simp (disch := omega) only [mset_n]; exact h1.2 s hs
    · refine ⟨?_, fun e u1 u2 => ?_⟩
      · simp (disch := omega) only [mset_n]; exact h2.1
      · simp (disch := omega) only [mset_n]; exact h2.2 e u1 u2
    · refine ⟨?_, fun i hi => ?_⟩
      · simp (disch := omega) only [mset_n]; exact h3.1
      · simp (disch := omega) only [mset_n]; exact h3.2 i hi
    · refine ⟨?_, ?_, ?_, ?_, ?_, ?_, ?_⟩
      · simp (disch := omega) only [mset_n]; exact h4.1
      · rw [mset_s]
      · simp (disch := omega) only [mset_n]; exact h4.2.2.1
      · simp (disch := omega) only [mset_n]; exact h4.2.2.2.1
      · simp (disch := omega) only [mset_n]; exact h4.2.2.2.2.1
      · rw [mset_row, h4.2.2.2.2.2.1]; rfl
      · simp (disch := omega) only [mset_n]; exact h4.2.2.2.2.2.2
    · intro s hs
      simp (disch := omega) only [mset_n]; exact h5 s hs
    · intro s u1 hs
      simp (disch := omega) only [mset_n]; exact h6 s u1 hs
    · simp (disch := omega) only [mset_n]; exact h7
    · intro e u1 u2
      simp (disch := omega) only [mset_n]; exact h8 e u1 u2
  · unfold ClM
    rw [cda_0 (by omega), cda_0 (by omega)]
    refine ⟨fun s u1 u2 => ?_, fun s u1 u2 => ?_⟩
    · simp (disch := omega) only [mset_n]; exact hcl.1 s u1 u2
    · simp (disch := omega) only [mset_n]; exact hcl.2 s u1 u2
theorem c_setTicks {fu : Nat} {A : mwM} {L : mwL} {k s n : Nat} {c : Nat → Nat → Nat} {b : Nat → Nat → Bool} {va : Nat → Int32} {D : Nat → Int64} {x : Nat → Int32} (hv : Cv c) (h : ReC k A L c b va D x) (hs : s ≤ c 0 0) : wq (DX2_setTicks fu k (sI s) (sI n) A L) (fun z => if 2 ≤ c 2 s then z = (-2, A, L) else z.1 = sI (1000 + s) ∧ z.2.2 = L ∧ ReC k z.2.1 L (ctk c s n) b va D x ∧ ∀ a y, a ≠ k + 5 → z.2.1 a y = A a y) := by
  have hN := hv.1.1
  have em := c_isMark (fu := fu) (L := L) hv.1 h.1 hs
  obtain ⟨h1, h2, h3, h4, h5, h6, h7, h8⟩ := h
  unfold DX2_setTicks
  simp (disch := omega) only [em, mck_s, sI_nn, nn_s, sI_lt, sI_le, sI_eq, sI_ltl, sI_lel, sI_eql, sI_llt, sI_lle, sI_1, bI_0, bI_1, bI_n, mlet, mb3_s, mb2_s, sI_lad]
  by_cases hq : 2 ≤ c 2 s
  · rw [if_neg (by simp [hq])]
    exact wq_some (by rw [if_pos hq])
  rw [if_pos (by simp [hq])]
  refine wq_some ?_
  rw [if_neg hq]
  refine ⟨rfl, rfl, ?_, fun a y u => mset_k u⟩
  try dsimp only
  have e : (fun i => ctk c s n (8 + i)) 0 = c 8 ∧ (fun i => ctk c s n (8 + i)) 1 = c 9 ∧ (fun i => ctk c s n (8 + i)) 2 = c 10 ∧ (fun i => ctk c s n (8 + i)) 3 = c 11 := ⟨ctk_r (by omega), ctk_r (by omega), ctk_r (by omega), ctk_r (by omega)⟩
  have hK : ∀ t, chK (ctk c s n) b t = chK c b t := fun t => chK_c (by rw [ctk_r (by omega)]) (ctk_r (by omega)) (ctk_r (by omega))
  unfold ReC ReC'
  simp only [hK, ctk_r (c := c) (s := s) (n := n) (i := 0) (by omega), ctk_r (c := c) (s := s) (n := n) (i := 1) (by omega), ctk_r (c := c) (s := s) (n := n) (i := 2) (by omega), ctk_r (c := c) (s := s) (n := n) (i := 3) (by omega), ctk_r (c := c) (s := s) (n := n) (i := 4) (by omega), ctk_r (c := c) (s := s) (n := n) (i := 5) (by omega), ctk_r (c := c) (s := s) (n := n) (i := 6) (by omega), ctk_r (c := c) (s := s) (n := n) (i := 7) (by omega), ctk_r (c := c) (s := s) (n := n) (i := 13) (by omega), ctk_r (c := c) (s := s) (n := n) (i := 14) (by omega)]
  refine ⟨?_, ?_, ?_, ?_, ?_, ?_, ?_, ?_⟩
  · exact TrC_f h1 (mset_k (by omega)) (fun a s u1 u2 => mset_k (by omega))
  · refine ⟨?_, fun e u1 u2 => ?_⟩
    · simp (disch := omega) only [mset_n]; exact h2.1
    · simp (disch := omega) only [mset_n]; exact h2.2 e u1 u2
  · refine ⟨?_, fun i hi => ?_⟩
    · simp (disch := omega) only [mset_n]; exact h3.1
    · simp (disch := omega) only [mset_n]
      try dsimp only
      rw [ctk_r (by omega), ctk_r (by omega), ctk_r (by omega), ctk_r (by omega)]
      exact h3.2 i hi
  · simp (disch := omega) only [mset_n]; exact h4
  · intro t ht
    have := h5 t ht
    refine ⟨?_, ?_⟩
    · by_cases hts : t = s
      · subst hts
        rw [mset_s, ctk_s]
      · rw [mset_j hts, ctk_n hts]; exact this.1
    · simp (disch := omega) only [mset_n]; exact this.2
  · intro s u1 hs
    simp (disch := omega) only [mset_n]; exact h6 s u1 hs
  · refine ⟨fun i v hv => ?_, fun i v hv => ?_⟩
    · simp (disch := omega) only [mset_n]; exact h7.1 i v hv
    · simp (disch := omega) only [mset_n]; exact h7.2 i v hv
  · intro e u1 u2
    simp (disch := omega) only [mset_n]; exact h8 e u1 u2
theorem m_after {fu : Nat} {M : mwM} {L : mwL} {q s n : Nat} {c : Nat → Nat → Nat} {va : Nat → Int32} {D : Nat → Int64} {x : Nat → Int32} (hv : Cv c) (h : ReM q M L c b00 va D x) (hcl : ClM q M L c) (hs : 1 ≤ s ∧ s ≤ c 0 0) (hn : 1 ≤ n ∧ n ≤ 20000) : wq (DX13_after fu q (sI s) (sL n) M L) (fun z => (∀ a y, a ≠ q → z.2.1 a y = M a y) ∧ (∀ a, a ≠ q + 5 → z.2.2 a = L a) ∧ if 2 ≤ c 2 s then z.1 = -2 ∧ ReM q z.2.1 z.2.2 c b00 va D x ∧ ClM q z.2.1 z.2.2 c else z.1 = sI (1000 + s) ∧ ReM q z.2.1 z.2.2 (ctk c s n) b00 va D x ∧ ClM q z.2.1 z.2.2 (ctk c s n)) := by
  have hN := hv.1.1
  have h0 : ReM q (mset M q 0 0) L c b00 va D x := ReM_f h (fun a y _ _ u => mset_n (by omega)) (fun _ _ _ => rfl)
  have hcl0 : ClM q (mset M q 0 0) L c := ClM_f hcl (fun a y _ _ u => mset_n (by omega)) (fun _ _ _ => rfl)
  have e1 := m_noneC (fu := fu) (L := L) (p := s) h0.1.1 hN (by omega)
  rw [decide_eq_false (by omega)] at e1
  have em := m_mark (fu := fu) (L := L) hv.1 h0.1 hs.2
  have e27 : mset M q 0 0 q 27 = bI false := h0.2.2.2.1.2.2.2.2.1
  obtain ⟨h1, h2, h3, h4, h5, h6, h7, h8⟩ := h
  unfold DX13_after
  simp (disch := omega) only [e1, em, e27, mck_s, sI_nn, nn_s, sI_lt, sI_le, sI_eq, sI_ltl, sI_lel, sI_eql, sI_llt, sI_lle, sI_1, bI_0, bI_1, bI_n, mlet, mb3_s, mb2_s, sI_lad]
  rw [if_neg (by omega), if_pos trivial]
  by_cases hq : 2 ≤ c 2 s
  · rw [if_neg (by simp [hq])]
    unfold fX13_after_b41
    refine wq_some ⟨fun a y u => mset_k u, fun _ _ => rfl, ?_⟩
    rw [if_pos hq]
    exact ⟨rfl, h0, hcl0⟩
  rw [if_pos (by simp [hq]), if_neg (fun z => by
    have := (lg_cmp_lt _ _).mp z
    rw [show (1 : Int64) = sL 1 from rfl, sL_lt (by omega) (by omega)] at this
    omega), if_pos ((lg_cmp_le _ _).mpr (by
    rw [show (1099511627776 : Int64) = sL 1099511627776 from rfl, sL_le (by omega) (by omega)]
    omega)), if_pos trivial]
  refine wq_some ⟨fun a y u => mset_k u, fun a u => mset_rown u, ?_⟩
  rw [if_neg hq]
  refine ⟨rfl, ?_, ?_⟩
  all_goals (try dsimp only)
  · have e : (fun i => ctk c s n (8 + i)) 0 = c 8 ∧ (fun i => ctk c s n (8 + i)) 1 = c 9 ∧ (fun i => ctk c s n (8 + i)) 2 = c 10 ∧ (fun i => ctk c s n (8 + i)) 3 = c 11 := ⟨ctk_r (by omega), ctk_r (by omega), ctk_r (by omega), ctk_r (by omega)⟩
    unfold ReM
    simp only [ctk_r (c := c) (s := s) (n := n) (i := 0) (by omega), ctk_r (c := c) (s := s) (n := n) (i := 1) (by omega), ctk_r (c := c) (s := s) (n := n) (i := 2) (by omega), ctk_r (c := c) (s := s) (n := n) (i := 3) (by omega), ctk_r (c := c) (s := s) (n := n) (i := 4) (by omega), ctk_r (c := c) (s := s) (n := n) (i := 5) (by omega), ctk_r (c := c) (s := s) (n := n) (i := 6) (by omega), ctk_r (c := c) (s := s) (n := n) (i := 7) (by omega), ctk_r (c := c) (s := s) (n := n) (i := 13) (by omega), ctk_r (c := c) (s := s) (n := n) (i := 14) (by omega)]
    refine ⟨h0.1, h0.2.1, ?_, ?_, ?_, ?_, h0.2.2.2.2.2.2.1, h0.2.2.2.2.2.2.2⟩
    · refine ⟨h0.2.2.1.1, fun i hi => ?_⟩
      try dsimp only
      rw [ctk_r (by omega), ctk_r (by omega), ctk_r (by omega), ctk_r (by omega)]
      have := h0.2.2.1.2 i hi
      rw [mset_k (M := L) (by omega)]
      exact this
    · have := h0.2.2.2.1
      rw [mset_rown (M := L) (by omega)]
      exact this
    · intro t ht
      have := h0.2.2.2.2.1 t ht
      refine ⟨?_, this.2⟩
      by_cases hts : t = s
      · subst hts
        rw [mset_s, ctk_s]
      · rw [mset_j hts, ctk_n hts]; exact this.1
    · intro t u1 ht
      have := h0.2.2.2.2.2.1 t u1 ht
      rw [mset_k (M := L) (by omega)]
      exact this
  · unfold ClM
    rw [ctk_r (by omega)]
    refine ⟨fun t u1 u2 => ?_, hcl0.2⟩
    have := hcl0.1 t u1 u2
    rw [mset_j (M := L) (by omega), mset_k (M := L) (by omega)]
    exact this
