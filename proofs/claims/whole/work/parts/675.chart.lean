/-! a chart begins -/
def c00 (l : Nat) : Nat → Nat → Nat := fun i j => if i = 0 ∧ j = 3 then l else 0
def D00 (D : Nat → Int64) : Nat → Int64 := fun j => if j < 32 then 0 else D j
theorem c00_r {l i j : Nat} (h : 1 ≤ i) : c00 l i j = 0 := by
  unfold c00
  rw [if_neg (by omega)]
theorem c00_0 {l j : Nat} (h : j ≠ 3) : c00 l 0 j = 0 := by
  unfold c00
  rw [if_neg (by omega)]
theorem c00_3 {l : Nat} : c00 l 0 3 = l := rfl
theorem Cv_00 {l : Nat} (h : l ≤ 50) : Cv (c00 l) := by
  refine ⟨⟨by rw [c00_0 (by omega)]; omega, c00_r (by omega), c00_r (by omega), c00_r (by omega), ?_⟩, ⟨by rw [c00_0 (by omega)]; omega, ?_⟩, ⟨by rw [c00_0 (by omega)]; omega, ?_⟩, by rw [c00_3]; exact h, by rw [c00_0 (by omega)]; omega, ?_, ?_⟩
  · intro s h1 h2
    rw [c00_0 (by omega)] at h2
    omega
  · intro s h1 h2
    rw [c00_0 (by omega)] at h2
    omega
  · intro s h1
    rw [c00_0 (by omega)] at h1
    omega
  · intro s h1
    rw [c00_r (by omega)]
    omega
  · intro s h1
    rw [c00_0 (by omega)] at h1
    omega
theorem c_begin {fu k l : Nat} {A : mwM} {L : mwL} {a : Int32} {va : Nat → Int32} (hf : 33 ≤ fu) (hl : l ≤ 50) : wq (DX2_begin fu k a (sI l) A L) (fun z => ReC k z.1 z.2 (c00 l) b00 va (D00 (L (k + 34))) (fun _ => 0) ∧ z.1 k 5 = a ∧ z.1 k 11 = 0 ∧ z.1 k 12 = 0 ∧ z.1 k 13 = 0 ∧ (∀ b y, ¬ (k ≤ b ∧ b ≤ k + 33) → z.1 b y = A b y) ∧ ∀ b, b ≠ k + 34 → z.2 b = L b) := by
  have hv := Cv_00 hl
  unfold DX2_begin
  simp only [mlet]
  generalize hB : mset (mset (mset (mset (mset (mset (mset (mset (mset (mset (mset (mset A k 5 a) k 6 (sI l)) k 7 0) k 8 0) k 9 0) k 10 0) k 11 0) k 12 0) k 13 0) k 14 0) k 15 0) k 16 0 = B
  have BF : ∀ b y, b ≠ k → B b y = A b y := by
    intro b y hb
    subst hB
    simp (disch := omega) only [mset_k]
  have B5 : B k 5 = a := by subst hB; simp (disch := omega) only [mset_n, mset_s]
  have B6 : B k 6 = sI l := by subst hB; simp (disch := omega) only [mset_n, mset_s]
  have B7 : B k 7 = 0 := by subst hB; simp (disch := omega) only [mset_n, mset_s]
  have B8 : B k 8 = 0 := by subst hB; simp (disch := omega) only [mset_n, mset_s]
  have B9 : B k 9 = 0 := by subst hB; simp (disch := omega) only [mset_n, mset_s]
  have B10 : B k 10 = 0 := by subst hB; simp (disch := omega) only [mset_n, mset_s]
  have B11 : B k 11 = 0 := by subst hB; simp (disch := omega) only [mset_n, mset_s]
  have B12 : B k 12 = 0 := by subst hB; simp (disch := omega) only [mset_n, mset_s]
  have B13 : B k 13 = 0 := by subst hB; simp (disch := omega) only [mset_n, mset_s]
  have B14 : B k 14 = 0 := by subst hB; simp (disch := omega) only [mset_n, mset_s]
  have B15 : B k 15 = 0 := by subst hB; simp (disch := omega) only [mset_n, mset_s]
  have B16 : B k 16 = 0 := by subst hB; simp (disch := omega) only [mset_n, mset_s]
  refine wq_for (body := fun r z => fX2_begin_i62 fu k a (sI l) r z.1 z.2.1 z.2.2) (fun i (u : mwL) => (sI i, B, u)) (fun i u => (∀ j, u (k + 34) j = if j < i then 0 else L (k + 34) j) ∧ ∀ b, b ≠ k + 34 → u b = L b) 32 ?_ ?_ 32 0 L fu (by omega) (by omega) ⟨fun j => by rw [if_neg (by omega)], fun _ _ => rfl⟩
  · intro i u r hi ⟨p1, p2⟩ ih
    show wq (fX2_begin_i62 fu k a (sI l) r (sI i) B u) _
    unfold fX2_begin_i62
    simp (disch := omega) only [mck_s, sI_nn, nn_s, sI_lt, sI_le, sI_eq, sI_ltl, sI_lel, sI_eql, sI_llt, sI_lle, sI_1, bI_0, bI_1, bI_n, mlet, mb3_s, mb2_s]
    rw [if_neg (by omega)]
    refine ih _ ⟨fun j => ?_, fun b hb => ?_⟩
    · by_cases hj : j = i
      · rw [hj, mset_s, if_pos (by omega)]
      · rw [mset_j hj, p1]
        by_cases h2 : j < i
        · rw [if_pos h2, if_pos (by omega)]
        · rw [if_neg h2, if_neg (by omega)]
    · rw [mset_rown hb]; exact p2 b hb
  · intro u r ⟨p1, p2⟩
    show wq (fX2_begin_i62 fu k a (sI l) r (sI 32) B u) _
    unfold fX2_begin_i62
    simp (disch := omega) only [mck_s, sI_nn, nn_s, sI_lt, sI_le, sI_eq, sI_ltl, sI_lel, sI_eql, sI_llt, sI_lle, sI_1, bI_0, bI_1, bI_n, mlet, mb3_s, mb2_s]
    rw [if_pos (by omega)]
    refine wq_b2 (c_clearState (s := 0) (by omega) (by omega)) ?_
    rintro M1 L1 ⟨y1, y2⟩
    dsimp only at y1 y2
    subst y1
    have fr : ∀ b y, ¬ (k + 2 ≤ b ∧ b ≤ k + 17 ∧ y = 0) → M1 b y = B b y := fun b y u => by rw [y2, if_neg u]
    have z0 : ∀ b, k + 2 ≤ b → b ≤ k + 17 → M1 b 0 = 0 := fun b u1 u2 => by rw [y2, if_pos ⟨u1, u2, rfl⟩]
    refine wq_some ⟨?_, ?_, ?_, ?_, ?_, ?_, p2⟩
    all_goals (try dsimp only)
    · unfold ReC ReC'
      rw [c00_0 (j := 0) (by omega), c00_0 (j := 1) (by omega), c00_0 (j := 2) (by omega), c00_0 (j := 4) (by omega), c00_3]
      refine ⟨⟨?_, fun s hs => ?_⟩, ⟨?_, fun e u1 u2 => by omega⟩, ⟨?_, fun i hi => by omega⟩, ⟨?_, ?_, ?_, ?_, ?_, ?_⟩, fun s hs => ?_, fun s u1 u2 => by omega, ⟨?_, ?_⟩, fun e u1 u2 => by omega⟩
      · rw [fr _ _ (by omega)]; exact B7
      · have : s = 0 := by omega
        subst this
        rw [z0 _ (by omega) (by omega), z0 _ (by omega) (by omega), z0 _ (by omega) (by omega), c00_r (by omega), c00_r (by omega), c00_r (by omega)]
        exact ⟨rfl, rfl, rfl⟩
      · rw [fr _ _ (by omega)]; exact B8
      · rw [fr _ _ (by omega)]; exact B9
      · rw [fr _ _ (by omega)]; exact B6
      · rw [fr _ _ (by omega)]; exact B10
      · rw [fr _ _ (by omega)]; exact B14
      · rw [fr _ _ (by omega)]; exact B15
      · rw [fr _ _ (by omega)]; exact B16
      · funext j
        rw [p1 j]
        rfl
      · have : s = 0 := by omega
        subst this
        rw [chK_0, z0 _ (by omega) (by omega), z0 _ (by omega) (by omega), z0 _ (by omega) (by omega), z0 _ (by omega) (by omega), c00_r (by omega), c00_r (by omega)]
        exact ⟨rfl, rfl, rfl, rfl⟩
      · intro i v hv2
        have := ri_len hv.1
        rw [c00_0 (by omega)] at this
        rw [List.getElem?_eq_none (by omega)] at hv2
        cases hv2
      · intro i v hv2
        have := fa_len hv.1
        rw [c00_0 (by omega)] at this
        rw [List.getElem?_eq_none (by omega)] at hv2
        cases hv2
    · rw [fr _ _ (by omega)]; exact B5
    · rw [fr _ _ (by omega)]; exact B11
    · rw [fr _ _ (by omega)]; exact B12
    · rw [fr _ _ (by omega)]; exact B13
    · intro b y u
      rw [fr _ _ (by omega)]; exact BF _ _ (by omega)
theorem m_anew {fu q l : Nat} {M : mwM} {L : mwL} {va : Nat → Int32} (hf : 402 ≤ fu) (hl : l ≤ 50) (hz : M (q + 1) 0 = 0 ∧ M (q + 2) 0 = 0 ∧ M (q + 3) 0 = 0) : wq (DX13_anew fu q (sI l) M L) (fun z => ReM q z.1 z.2 (c00 l) b00 va (D00 (L (q + 21))) (fun _ => 0) ∧ ClM q z.1 z.2 (c00 l) ∧ z.2 q 28 = 0 ∧ (∀ b y, ¬ (q ≤ b ∧ b ≤ q + 16) → z.1 b y = M b y) ∧ ∀ b, ¬ (b = q ∨ b = q + 5 ∨ b = q + 6 ∨ b = q + 21) → z.2 b = L b) := by
  have hv := Cv_00 hl
  have b0 : vp_nar .boolean (0 : Int32) = bI false := by decide
  unfold DX13_anew
  simp only [mlet]
  generalize hB : mset (mset (mset (mset (mset (mset (mset (mset (mset M q 1 (sI l)) q 2 0) q 12 0) q 20 0) q 26 0) q 27 0) q 29 0) q 30 0) q 31 0 = B
  generalize hG : mset L q 28 0 = G
  have BF : ∀ b y, b ≠ q → B b y = M b y := by
    intro b y hb
    subst hB
    simp (disch := omega) only [mset_k]
  have GF : ∀ b, b ≠ q → G b = L b := by
    intro b hb
    subst hG
    exact mset_rown hb
  have G28 : G q 28 = 0 := by subst hG; rw [mset_s]
  have B1 : B q 1 = sI l := by subst hB; simp (disch := omega) only [mset_n, mset_s]
  have B2 : B q 2 = 0 := by subst hB; simp (disch := omega) only [mset_n, mset_s]
  have B12 : B q 12 = 0 := by subst hB; simp (disch := omega) only [mset_n, mset_s]
  have B20 : B q 20 = 0 := by subst hB; simp (disch := omega) only [mset_n, mset_s]
  have B26 : B q 26 = 0 := by subst hB; simp (disch := omega) only [mset_n, mset_s]
  have B27 : B q 27 = 0 := by subst hB; simp (disch := omega) only [mset_n, mset_s]
  have B29 : B q 29 = 0 := by subst hB; simp (disch := omega) only [mset_n, mset_s]
  have B30 : B q 30 = 0 := by subst hB; simp (disch := omega) only [mset_n, mset_s]
  have B31 : B q 31 = 0 := by subst hB; simp (disch := omega) only [mset_n, mset_s]
  -- the states
  refine wq_for (body := fun r z => fX13_anew_i52 fu q (sI l) r z.1 z.2.1 z.2.2) (fun i (u : mwM × mwL) => (sI i, u.1, u.2)) (fun i u => (∀ s, s < i → u.1 (q + 4) s = sI 0 ∧ u.2 (q + 5) s = sL 0 ∧ u.2 (q + 6) s = sL 0 ∧ u.1 (q + 7) s = bI false ∧ u.1 (q + 8) s = bI false ∧ u.1 (q + 9) s = bI false) ∧ (∀ b y, ¬ (b = q + 4 ∨ (q + 7 ≤ b ∧ b ≤ q + 9)) → u.1 b y = B b y) ∧ ∀ b, b ≠ q + 5 → b ≠ q + 6 → u.2 b = G b) 201 ?_ ?_ 201 0 (B, G) fu (by omega) (by omega) ⟨fun s hs => by omega, fun _ _ _ => rfl, fun _ _ _ => rfl⟩
  · rintro i ⟨a, u⟩ r hi ⟨p1, p2, p3⟩ ih
    dsimp only at p1 p2 p3
    show wq (fX13_anew_i52 fu q (sI l) r (sI i) a u) _
    unfold fX13_anew_i52
    simp (disch := omega) only [mck_s, sI_nn, nn_s, sI_lt, sI_le, sI_eq, sI_ltl, sI_lel, sI_eql, sI_llt, sI_lle, sI_1, bI_0, bI_1, bI_n, mlet, mb3_s, mb2_s, b0]
    rw [if_neg (by omega)]
    have key := fun (X : mwM) (Y : mwL) => ih (X, Y)
    dsimp only at key
    refine key _ _ ⟨fun s hs => ?_, fun b y hb => ?_, fun b h5 h6 => ?_⟩
    · by_cases hq : s = i
      · subst hq
        simp (disch := omega) only [mset_n, mset_s, and_true, true_and]
        exact ⟨rfl, rfl, rfl⟩
      · simp (disch := omega) only [mset_n]
        exact p1 s (by omega)
    · simp (disch := omega) only [mset_n]
      exact p2 b y hb
    · rw [mset_rown h6, mset_rown h5]
      exact p3 b h5 h6
  rintro ⟨a, u⟩ r ⟨p1, p2, p3⟩
  dsimp only at p1 p2 p3
  show wq (fX13_anew_i52 fu q (sI l) r (sI 201) a u) _
  unfold fX13_anew_i52
  simp (disch := omega) only [mck_s, sI_nn, nn_s, sI_lt, sI_le, sI_eq, sI_ltl, sI_lel, sI_eql, sI_llt, sI_lle, sI_1, bI_0, bI_1, bI_n, mlet, mb3_s, mb2_s]
  rw [if_pos (by omega)]
  -- the edges
  refine wq_for (body := fun r z => fX13_anew_i109 fu q (sI l) r z.1 z.2.1 z.2.2) (fun i (v : mwM) => (sI i, v, u)) (fun i v => (∀ s, s < i → v (q + 14) s = bI false ∧ v (q + 15) s = bI false ∧ v (q + 16) s = bI false) ∧ ∀ b y, ¬ (q + 14 ≤ b ∧ b ≤ q + 16) → v b y = a b y) 401 ?_ ?_ 401 0 a fu (by omega) (by omega) ⟨fun s hs => by omega, fun _ _ _ => rfl⟩
  · intro i v r hi ⟨o1, o2⟩ ih
    show wq (fX13_anew_i109 fu q (sI l) r (sI i) v u) _
    unfold fX13_anew_i109
    simp (disch := omega) only [mck_s, sI_nn, nn_s, sI_lt, sI_le, sI_eq, sI_ltl, sI_lel, sI_eql, sI_llt, sI_lle, sI_1, bI_0, bI_1, bI_n, mlet, mb3_s, mb2_s, b0]
    rw [if_neg (by omega)]
    refine ih _ ⟨fun s hs => ?_, fun b y hb => ?_⟩
    · by_cases hq : s = i
      · subst hq
        simp (disch := omega) only [mset_n, mset_s, and_true, true_and]
      · simp (disch := omega) only [mset_n]
        exact o1 s (by omega)
    · simp (disch := omega) only [mset_n]
      exact o2 b y hb
  intro v r ⟨o1, o2⟩
  show wq (fX13_anew_i109 fu q (sI l) r (sI 401) v u) _
  unfold fX13_anew_i109
  simp (disch := omega) only [mck_s, sI_nn, nn_s, sI_lt, sI_le, sI_eq, sI_ltl, sI_lel, sI_eql, sI_llt, sI_lle, sI_1, bI_0, bI_1, bI_n, mlet, mb3_s, mb2_s]
  rw [if_pos (by omega)]
  -- the data
  refine wq_for (body := fun r z => fX13_anew_i145 fu q (sI l) r z.1 z.2.1 z.2.2) (fun i (w : mwL) => (sI i, v, w)) (fun i w => (∀ j, w (q + 21) j = if j < i then 0 else u (q + 21) j) ∧ ∀ b, b ≠ q + 21 → w b = u b) 32 ?_ ?_ 32 0 u fu (by omega) (by omega) ⟨fun j => by rw [if_neg (by omega)], fun _ _ => rfl⟩
  · intro i w r hi ⟨n1, n2⟩ ih
    show wq (fX13_anew_i145 fu q (sI l) r (sI i) v w) _
    unfold fX13_anew_i145
    simp (disch := omega) only [mck_s, sI_nn, nn_s, sI_lt, sI_le, sI_eq, sI_ltl, sI_lel, sI_eql, sI_llt, sI_lle, sI_1, bI_0, bI_1, bI_n, mlet, mb3_s, mb2_s]
    rw [if_neg (by omega)]
    refine ih _ ⟨fun j => ?_, fun b hb => ?_⟩
    · by_cases hj : j = i
      · rw [hj, mset_s, if_pos (by omega)]
      · rw [mset_j hj, n1]
        by_cases h2 : j < i
        · rw [if_pos h2, if_pos (by omega)]
        · rw [if_neg h2, if_neg (by omega)]
    · rw [mset_rown hb]; exact n2 b hb
  intro w r ⟨n1, n2⟩
  show wq (fX13_anew_i145 fu q (sI l) r (sI 32) v w) _
  unfold fX13_anew_i145
  simp (disch := omega) only [mck_s, sI_nn, nn_s, sI_lt, sI_le, sI_eq, sI_ltl, sI_lel, sI_eql, sI_llt, sI_lle, sI_1, bI_0, bI_1, bI_n, mlet, mb3_s, mb2_s]
  rw [if_pos (by omega)]
  have vq : ∀ y, v q y = B q y := fun y => by rw [o2 _ _ (by omega), p2 _ _ (by omega)]
  have v0 : ∀ b, q + 1 ≤ b → b ≤ q + 3 → v b 0 = M b 0 := fun b u1 u2 => by rw [o2 _ _ (by omega), p2 _ _ (by omega), BF _ _ (by omega)]
  have wL : ∀ s, s ≤ 200 → w (q + 5) s = sL 0 ∧ w (q + 6) s = sL 0 ∧ v (q + 4) s = sI 0 ∧ v (q + 7) s = bI false ∧ v (q + 8) s = bI false ∧ v (q + 9) s = bI false := by
    intro s hs
    have := p1 s (by omega)
    rw [n2 _ (by omega), n2 _ (by omega), o2 _ _ (by omega), o2 _ _ (by omega), o2 _ _ (by omega), o2 _ _ (by omega)]
    exact ⟨this.2.1, this.2.2.1, this.1, this.2.2.2⟩
  refine wq_some ⟨?_, ?_, ?_, ?_, ?_⟩
  all_goals (try dsimp only)
  · unfold ReM
    rw [c00_0 (j := 0) (by omega), c00_0 (j := 1) (by omega), c00_0 (j := 2) (by omega), c00_0 (j := 4) (by omega), c00_3]
    refine ⟨⟨?_, fun s hs => ?_⟩, ⟨?_, fun e u1 u2 => by omega⟩, ⟨?_, fun i hi => by omega⟩, ⟨?_, ?_, ?_, ?_, ?_, ?_, ?_⟩, fun s hs => ?_, fun s u1 u2 => by omega, ?_, fun e u1 u2 => by omega⟩
    · rw [vq]; exact B2
    · have : s = 0 := by omega
      subst this
      rw [v0 _ (by omega) (by omega), v0 _ (by omega) (by omega), v0 _ (by omega) (by omega), c00_r (by omega), c00_r (by omega), c00_r (by omega)]
      exact ⟨hz.2.1, hz.1, hz.2.2⟩
    · rw [vq]; exact B12
    · rw [vq]; exact B20
    · rw [vq]; exact B1
    · rw [vq]; exact B26
    · rw [vq]; exact B29
    · rw [vq]; exact B30
    · rw [vq]; exact B27
    · funext j
      rw [n1 j, p3 _ (by omega) (by omega), GF _ (by omega)]
      rfl
    · exact ⟨0, by omega, by rw [vq]; exact B31⟩
    · rw [c00_r (by omega), c00_r (by omega)]
      have := wL s (by omega)
      exact ⟨this.1, this.2.2.1⟩
    · exact (wL 0 (by omega)).2.2.2.2.2
  · refine ⟨fun s u1 u2 => ?_, fun e u1 u2 => ?_⟩
    · have := wL s u2
      exact ⟨this.1, this.2.2.1, this.2.2.2.2.2, this.2.1, this.2.2.2.1, this.2.2.2.2.1⟩
    · exact o1 e (by omega)
  · rw [n2 _ (by omega), p3 _ (by omega) (by omega)]; exact G28
  · intro b y hb
    rw [o2 _ _ (by omega), p2 _ _ (by omega), BF _ _ (by omega)]
  · intro b hb
    rw [n2 _ (by omega), p3 _ (by omega) (by omega), GF _ (by omega)]
