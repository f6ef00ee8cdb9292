/-- how many they are -/
theorem lv_sum {de : Nat → Nat} {N : Nat} : ∀ j, (∀ s, 1 ≤ s → s ≤ N → de s < j) → (riL de N j).length = N := by
  induction N with
  | zero =>
    intro j _
    induction j with
    | zero => rfl
    | succ j ih =>
      show (riL de 0 j ++ lv de 0 j).length = 0
      rw [List.length_append, ih (fun s a b => by omega)]
      rfl
  | succ N ih =>
    intro j h
    obtain ⟨P, Q, h1, h2, _, _⟩ := ri_ins (de := de) (N := N) j (h (N + 1) (by omega) (by omega))
    have := ih j (fun s u1 u2 => h s u1 (by omega))
    rw [h1, List.length_append] at this
    rw [h2, List.length_append, List.length_cons]
    omega
theorem fa_sum {de : Nat → Nat} {N : Nat} : ∀ j, (∀ s, 1 ≤ s → s ≤ N → 1 ≤ de s ∧ de s ≤ j) → (faL de N j).length = N := by
  induction N with
  | zero =>
    intro j _
    induction j with
    | zero => rfl
    | succ j ih =>
      show (lv de 0 (j + 1) ++ faL de 0 j).length = 0
      rw [List.length_append, ih (fun s a b => by omega)]
      rfl
  | succ N ih =>
    intro j h
    obtain ⟨P, Q, h1, h2, _, _⟩ := fa_ins (de := de) (N := N) (h (N + 1) (by omega) (by omega)).1 j (h (N + 1) (by omega) (by omega)).2
    have := ih j (fun s u1 u2 => h s u1 (by omega))
    rw [h1, List.length_append] at this
    rw [h2, List.length_append, List.length_cons]
    omega
theorem ri_len {N : Nat} {pa kd de : Nat → Nat} (hT : Tr N pa kd de) : (riL de N 42).length = N := lv_sum 42 (fun s h1 h2 => by have := (hT.2.2.2.2 s h1 h2).2.2.1; omega)
theorem fa_len {N : Nat} {pa kd de : Nat → Nat} (hT : Tr N pa kd de) : (faL de N 41).length = N := fa_sum 41 (fun s h1 h2 => by have := hT.2.2.2.2 s h1 h2; omega)
/-! a new state: the class -/
theorem ch_le {pa kd : Nat → Nat} {N s : Nat} {o : Nat → Bool} : chF pa kd N o s ≤ N := by
  by_cases h : chF pa kd N o s = 0
  · omega
  · have := (fst_p (p := chP pa kd o s) N 1 (by omega) h).2.2
    unfold chF
    omega
theorem c_addState {fu : Nat} {A : mwM} {L : mwL} {k p t : Nat} {c : Nat → Nat → Nat} {va : Nat → Int32} {D : Nat → Int64} {x : Nat → Int32} (hf : 202 ≤ fu) (hv : Cv c) (h : ReC k A L c b00 va D x) (hp : p ≤ c 0 0) (ht : t ≤ 5) : wq (DX2_addState fu k (sI p) (sI t) A L) (fun z => if 2 ≤ c 2 p ∨ 40 ≤ c 3 p then z = (-2, A, L) else if 200 ≤ c 0 0 then z = (-4, A, L) else z.1 = sI (c 0 0 + 1) ∧ z.2.2 = L ∧ ReC k z.2.1 L (cst c p t) b00 va D x ∧ ∀ b y, ¬ (k + 1 ≤ b ∧ b ≤ k + 33) → ¬ (b = k ∧ y = 7) → z.2.1 b y = A b y) := by
  have hT := hv.1
  have hN := hT.1
  have hpp := Tr_pa hT hp
  obtain ⟨hC, hEC, hXC, hf4, h5, h6, h7, h8⟩ := h
  have e7 := hC.1
  have e4 := (hC.2 p hp).2.2
  have em := c_isMark (fu := fu) (L := L) hT hC hp
  unfold DX2_addState fX2_addState_b25
  simp (disch := omega) only [e4, em, e7, mset_s, mck_s, sI_nn, nn_s, sI_lt, sI_le, sI_eq, sI_ltl, sI_lel, sI_eql, sI_llt, sI_lle, sI_1, bI_0, bI_1, bI_n, mlet, mb3_s, mb2_s]
  by_cases hm : 2 ≤ c 2 p
  · rw [if_neg (by simp [hm])]
    refine wq_some ?_
    rw [if_pos (Or.inl hm)]
  rw [if_pos (by simp [hm])]
  by_cases hd : 40 ≤ c 3 p
  · rw [if_neg (by omega)]
    refine wq_some ?_
    rw [if_pos (Or.inr hd)]
  rw [if_pos (by omega)]
  by_cases h200 : 200 ≤ c 0 0
  · rw [if_neg (by omega)]
    refine wq_some ?_
    rw [if_neg (by omega), if_pos h200]
  rw [if_pos (by omega)]
  have hv' := Cv_st hv hp ht hm hd h200
  have hT' := hv'.1
  rw [cst_N] at hT'
  refine wq_b2 (c_clearState (s := c 0 0 + 1) (by omega) (by omega)) ?_
  rintro M15 L16 ⟨y1, y2⟩
  dsimp only at y1 y2
  subst y1
  have f7 : M15 k 7 = sI (c 0 0 + 1) := by rw [y2, if_neg (by omega), mset_s]
  have fr : ∀ b y, ¬ (k + 2 ≤ b ∧ b ≤ k + 17 ∧ y = c 0 0 + 1) → ¬ (b = k ∧ y = 7) → M15 b y = A b y := fun b y u1 u2 => by rw [y2, if_neg u1, mset_n u2]
  have f6 : M15 (k + 6) p = sI (chF (c 1) (c 2) (c 0 0) (fun _ => true) p) := by rw [fr _ _ (by omega) (by omega)]; exact (h5 p hp).2.1
  simp (disch := omega) only [f7, mset_k, mck_s, sI_nn, nn_s, sI_lt, sI_le, sI_eq, sI_ltl, sI_lel, sI_eql, sI_llt, sI_lle, sI_1, bI_0, bI_1, bI_n, mlet, mb3_s, mb2_s]
  -- behind the rows of the new state
  generalize hB : mset (mset (mset M15 (k + 2) (c 0 0 + 1) (sI p)) (k + 3) (c 0 0 + 1) (sI t)) (k + 4) (c 0 0 + 1) (sI (c 3 p + 1)) = B
  have B2 : ∀ s, s ≤ c 0 0 + 1 → B (k + 2) s = sI (cst c p t 1 s) ∧ B (k + 3) s = sI (cst c p t 2 s) ∧ B (k + 4) s = sI (cst c p t 3 s) := by
    intro s hs
    subst hB
    by_cases hq : s = c 0 0 + 1
    · subst hq
      rw [cst_1, cst_2, cst_3, mset_k (by omega), mset_k (by omega), mset_s, mset_k (by omega), mset_s, mset_s]
      exact ⟨rfl, rfl, rfl⟩
    · rw [cst_s (by omega) hq, cst_s (by omega) hq, cst_s (by omega) hq, mset_k (by omega), mset_k (by omega), mset_j (by omega), mset_k (by omega), mset_j (by omega), mset_k (by omega), mset_j (by omega), mset_k (by omega), mset_k (by omega), fr _ _ (by omega) (by omega), fr _ _ (by omega) (by omega), fr _ _ (by omega) (by omega)]
      exact hC.2 s (by omega)
  have BF : ∀ b y, ¬ (k + 2 ≤ b ∧ b ≤ k + 17 ∧ y = c 0 0 + 1) → ¬ (b = k ∧ y = 7) → B b y = A b y := by
    intro b y u1 u2
    subst hB
    rw [mset_n (by omega), mset_n (by omega), mset_n (by omega)]
    exact fr b y u1 u2
  have BZ : ∀ b, k + 5 ≤ b → b ≤ k + 17 → B b (c 0 0 + 1) = 0 := by
    intro b u1 u2
    subst hB
    rw [mset_k (by omega), mset_k (by omega), mset_k (by omega), y2, if_pos (by omega)]
  have B7 : B k 7 = sI (c 0 0 + 1) := by
    subst hB
    rw [mset_k (by omega), mset_k (by omega), mset_k (by omega)]
    exact f7
  have B6 : B (k + 6) p = sI (chF (c 1) (c 2) (c 0 0) (fun _ => true) p) := by rw [BF _ _ (by omega) (by omega)]; exact (h5 p hp).2.1
  have BT : TrC B k (c 0 0 + 1) (cst c p t 1) (cst c p t 2) (cst c p t 3) := ⟨B7, B2⟩
  have bm := c_isMark (fu := fu) (L := L16) hT' BT (Nat.le_refl _)
  rw [cst_2] at bm
  -- the end: the orders
  have fin : ∀ G : mwM, (∀ b y, ¬ (b = k + 6 ∧ y = p) → G b y = B b y) → G (k + 6) p = sI (chF (cst c p t 1) (cst c p t 2) (cst c p t 0 0) (fun _ => true) p) → wq (fX2_addState_b129 fu k (sI p) (sI t) G L16) (fun z => if 2 ≤ c 2 p ∨ 40 ≤ c 3 p then z = (-2, A, L16) else if 200 ≤ c 0 0 then z = (-4, A, L16) else z.1 = sI (c 0 0 + 1) ∧ z.2.2 = L16 ∧ ReC k z.2.1 L16 (cst c p t) b00 va D x ∧ ∀ b y, ¬ (k + 1 ≤ b ∧ b ≤ k + 33) → ¬ (b = k ∧ y = 7) → z.2.1 b y = A b y) := by
    intro G g1 g2
    have hde : ∀ s, 1 ≤ s → s ≤ c 0 0 → cst c p t 3 s = c 3 s := fun s u1 u2 => cst_s (by omega) (by omega)
    have g4 : ∀ s, s ≤ c 0 0 + 1 → G (k + 4) s = sI (cst c p t 3 s) := fun s hs => (g1 _ _ (by omega)).trans (B2 s hs).2.2
    have d40 : ∀ s, s ≤ c 0 0 + 1 → cst c p t 3 s ≤ 40 := fun s hs => (Tr_pa hT' hs).2.2.2.2
    have dN : cst c p t 3 (c 0 0 + 1) = c 3 p + 1 := cst_3
    obtain ⟨P, Q, i1, i2, i3, i4⟩ := ri_ins (de := cst c p t 3) (N := c 0 0) 42 (by omega)
    obtain ⟨P2, Q2, j1, j2, j3, j4⟩ := fa_ins (de := cst c p t 3) (N := c 0 0) (by omega) 41 (by omega)
    have l1 := ri_f hde 42
    have l2 := fa_f hde 41
    have mr : ∀ v ∈ riL (cst c p t 3) (c 0 0) 42, v ≤ c 0 0 := fun v hv => ((ri_mem 42).mp hv).2.1
    have mf : ∀ v ∈ faL (cst c p t 3) (c 0 0) 41, v ≤ c 0 0 := fun v hv => ((fa_mem 41).mp hv).2.1
    unfold fX2_addState_b129
    refine wq_b2 (c_putInOrder (de := cst c p t 3) (N := c 0 0) (r := 16) (P := P) (Q := Q) hf (by omega) (by omega) (by omega) ((g1 _ _ (by omega)).trans B7) g4 (by rw [← i1]; rw [l1]; exact ri_len hT) (by rw [← i1]; exact mr) ?_ ?_ ?_) ?_
    · rw [← i1, l1]
      intro i v hv
      rw [g1 _ _ (by omega), BF _ _ (by omega) (by omega)]
      exact h7.1 i v hv
    · intro v hv
      have := mr v (by rw [i1]; exact List.mem_append_left _ hv)
      rw [mul1_le (by have := d40 v (by omega); omega) (by omega)]
      exact i3 v hv
    · intro v hv
      have := mr v (by rw [i1]; exact List.mem_append_right _ hv)
      rw [mul1_le (by have := d40 v (by omega); omega) (by omega)]
      have := i4 v hv
      omega
    rintro M1 L1 ⟨w1, w2, w3⟩
    dsimp only at w1 w2 w3
    subst w1
    refine wq_b2 (c_putInOrder (de := cst c p t 3) (N := c 0 0) (r := 17) (P := P2) (Q := Q2) hf (by omega) (by omega) (by omega) ((w3 _ _ (by omega)).trans ((g1 _ _ (by omega)).trans B7)) (fun s hs => (w3 _ _ (by omega)).trans (g4 s hs)) (by rw [← j1]; rw [l2]; exact fa_len hT) (by rw [← j1]; exact mf) ?_ ?_ ?_) ?_
    · rw [← j1, l2]
      intro i v hv
      rw [w3 _ _ (by omega), g1 _ _ (by omega), BF _ _ (by omega) (by omega)]
      exact h7.2 i v hv
    · intro v hv
      have := mf v (by rw [j1]; exact List.mem_append_left _ hv)
      rw [mulm_le (by have := d40 v (by omega); omega) (by omega)]
      exact j3 v hv
    · intro v hv
      have := mf v (by rw [j1]; exact List.mem_append_right _ hv)
      rw [mulm_le (by have := d40 v (by omega); omega) (by omega)]
      have := j4 v hv
      omega
    rintro M3 L3 ⟨x1, x2, x3⟩
    dsimp only at x1 x2 x3
    subst x1
    have fr3 : ∀ b y, b ≠ k + 18 → b ≠ k + 19 → ¬ (b = k + 6 ∧ y = p) → M3 b y = B b y := fun b y u1 u2 u3 => by rw [x3 _ _ (by omega), w3 _ _ (by omega), g1 _ _ u3]
    have k7 : M3 k 7 = sI (c 0 0 + 1) := (fr3 _ _ (by omega) (by omega) (by omega)).trans B7
    refine wq_some ?_
    rw [if_neg (by omega), if_neg h200]
    refine ⟨k7, rfl, ?_, ?_⟩
    all_goals (try dsimp only)
    · refine ⟨?_, ?_, ?_, ?_, ?_, ?_, ?_, ?_⟩
      · rw [cst_N]
        refine ⟨k7, fun s hs => ?_⟩
        rw [fr3 _ _ (by omega) (by omega) (by omega), fr3 _ _ (by omega) (by omega) (by omega), fr3 _ _ (by omega) (by omega) (by omega)]
        exact B2 s hs
      · rw [cst_0 (by omega), cst_r (i := 4) (by omega) (by omega), cst_r (i := 5) (by omega) (by omega), cst_r (i := 6) (by omega) (by omega), cst_r (i := 7) (by omega) (by omega)]
        refine ⟨?_, fun e u1 u2 => ?_⟩
        · rw [fr3 _ _ (by omega) (by omega) (by omega), BF _ _ (by omega) (by omega)]; exact hEC.1
        · rw [fr3 _ _ (by omega) (by omega) (by omega), BF _ _ (by omega) (by omega), fr3 _ _ (by omega) (by omega) (by omega), BF _ _ (by omega) (by omega), fr3 _ _ (by omega) (by omega) (by omega), BF _ _ (by omega) (by omega), fr3 _ _ (by omega) (by omega) (by omega), BF _ _ (by omega) (by omega)]
          exact hEC.2 e u1 u2
      · rw [cst_0 (by omega)]
        refine ⟨?_, fun i hi => ?_⟩
        · rw [fr3 _ _ (by omega) (by omega) (by omega), BF _ _ (by omega) (by omega)]; exact hXC.1
        · have := hXC.2 i hi
          dsimp only at this ⊢
          rw [cst_ax 0 (by omega), cst_ax 1 (by omega), cst_ax 2 (by omega), cst_ax 3 (by omega)]
          rw [fr3 _ _ (by omega) (by omega) (by omega), BF _ _ (by omega) (by omega), fr3 _ _ (by omega) (by omega) (by omega), BF _ _ (by omega) (by omega), fr3 _ _ (by omega) (by omega) (by omega), BF _ _ (by omega) (by omega), fr3 _ _ (by omega) (by omega) (by omega), BF _ _ (by omega) (by omega), fr3 _ _ (by omega) (by omega) (by omega), BF _ _ (by omega) (by omega)]
          exact this
      · rw [cst_0 (by omega), cst_0 (by omega)]
        rw [fr3 _ _ (by omega) (by omega) (by omega), BF _ _ (by omega) (by omega), fr3 _ _ (by omega) (by omega) (by omega), BF _ _ (by omega) (by omega), fr3 _ _ (by omega) (by omega) (by omega), BF _ _ (by omega) (by omega), fr3 _ _ (by omega) (by omega) (by omega), BF _ _ (by omega) (by omega), fr3 _ _ (by omega) (by omega) (by omega), BF _ _ (by omega) (by omega)]
        exact hf4
      · intro s hs
        rw [cst_N] at hs
        rw [chK_0]
        by_cases hq : s = c 0 0 + 1
        · subst hq
          rw [cst_z (Or.inl rfl), cst_z (Or.inr (Or.inl rfl)), fr3 _ _ (by omega) (by omega) (by omega), fr3 _ _ (by omega) (by omega) (by omega), fr3 _ _ (by omega) (by omega) (by omega), fr3 _ _ (by omega) (by omega) (by omega), BZ _ (by omega) (by omega), BZ _ (by omega) (by omega), BZ _ (by omega) (by omega), BZ _ (by omega) (by omega)]
          refine ⟨rfl, ?_, rfl, rfl⟩
          have : chF (cst c p t 1) (cst c p t 2) (cst c p t 0 0) (fun _ => true) (c 0 0 + 1) = 0 := by
            unfold chF
            refine fst_0 _ _ (fun j u1 u2 => ?_)
            rw [cst_N] at u2
            unfold chP
            have := (hT'.2.2.2.2 j u1 (by omega)).1
            rw [decide_eq_false (by omega)]
            rfl
          rw [this]
          rfl
        · have hs' := h5 s (by omega)
          rw [chK_0] at hs'
          rw [cst_s (by omega) hq, cst_s (by omega) hq, fr3 _ _ (by omega) (by omega) (by omega), BF _ _ (by omega) (by omega)]
          refine ⟨hs'.1, ?_, ?_, ?_⟩
          · by_cases hsp : s = p
            · subst hsp
              rw [x3 _ _ (by omega), w3 _ _ (by omega)]
              exact g2
            · rw [fr3 _ _ (by omega) (by omega) (by omega), BF _ _ (by omega) (by omega), hs'.2.1, ch_st hv]
              by_cases z : chF (c 1) (c 2) (c 0 0) (fun _ => true) s = 0
              · rw [if_pos z, if_neg (by omega), z]
              · rw [if_neg z]
          · rw [fr3 _ _ (by omega) (by omega) (by omega), BF _ _ (by omega) (by omega)]
            exact hs'.2.2.1
          · rw [fr3 _ _ (by omega) (by omega) (by omega), BF _ _ (by omega) (by omega)]
            exact hs'.2.2.2
      · intro s u1 hs
        rw [cst_N] at hs
        by_cases hq : s = c 0 0 + 1
        · subst hq
          rw [cst_z (Or.inr (Or.inr rfl)), fr3 _ _ (by omega) (by omega) (by omega), fr3 _ _ (by omega) (by omega) (by omega), fr3 _ _ (by omega) (by omega) (by omega), fr3 _ _ (by omega) (by omega) (by omega), BZ _ (by omega) (by omega), BZ _ (by omega) (by omega), BZ _ (by omega) (by omega), BZ _ (by omega) (by omega)]
          exact ⟨rfl, rfl, rfl, rfl⟩
        · rw [cst_s (by omega) hq, fr3 _ _ (by omega) (by omega) (by omega), BF _ _ (by omega) (by omega), fr3 _ _ (by omega) (by omega) (by omega), BF _ _ (by omega) (by omega), fr3 _ _ (by omega) (by omega) (by omega), BF _ _ (by omega) (by omega), fr3 _ _ (by omega) (by omega) (by omega), BF _ _ (by omega) (by omega)]
          exact h6 s u1 (by omega)
      · rw [cst_N, i2, j2]
        refine ⟨?_, x2⟩
        intro i v hv
        rw [x3 _ _ (by omega)]
        exact w2 i v hv
      · intro e u1 u2
        rw [cst_0 (by omega)] at u2
        rw [fr3 _ _ (by omega) (by omega) (by omega), BF _ _ (by omega) (by omega)]
        exact h8 e u1 u2
    · intro b y u1 u2
      rw [fr3 _ _ (by omega) (by omega) (by omega), BF _ _ (by omega) (by omega)]
  have hle := ch_le (pa := c 1) (kd := c 2) (N := c 0 0) (s := p) (o := fun _ => true)
  simp (disch := omega) only [f6, bm, B7, mck_s, sI_nn, nn_s, sI_lt, sI_le, sI_eq, sI_ltl, sI_lel, sI_eql, sI_llt, sI_lle, sI_1, bI_0, bI_1, bI_n, mlet, mb3_s, mb2_s]
  by_cases z : chF (c 1) (c 2) (c 0 0) (fun _ => true) p = 0
  · rw [if_pos z]
    by_cases t1 : t ≤ 1
    · rw [if_pos (by simp; omega)]
      refine fin _ (fun b y u => mset_n u) ?_
      rw [mset_s, ch_st hv, if_pos z, if_pos ⟨rfl, t1⟩]
    · rw [if_neg (by simp; omega)]
      refine fin _ (fun b y u => rfl) ?_
      rw [B6, ch_st hv, if_pos z, if_neg (by omega), z]
  · rw [if_neg z]
    refine fin _ (fun b y u => rfl) ?_
    rw [B6, ch_st hv, if_neg z]
