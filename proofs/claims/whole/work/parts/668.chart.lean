/-! the class builds its chart: marks, rows, orders -/
theorem c_isMark {fu : Nat} {A : mwM} {L : mwL} {k N s : Nat} {pa kd de : Nat → Nat} (hT : Tr N pa kd de) (hC : TrC A k N pa kd de) (hs : s ≤ N) : DX2_isMark fu k (sI s) A L = some (bI (decide (2 ≤ kd s)), A, L) := by
  have hp := Tr_pa hT hs
  have e1 := (hC.2 s hs).2.1
  unfold DX2_isMark fX2_isMark_b17
  simp (disch := omega) only [e1, mck_s, sI_nn, nn_s, sI_lt, sI_le, sI_eq, sI_ltl, sI_lel, sI_eql, sI_llt, sI_lle, sI_1, bI_0, bI_1, bI_n, mlet, mb3_s, mb2_s]
  by_cases h : 2 ≤ kd s
  · rw [if_neg (by omega), decide_eq_true h]; rfl
  · rw [if_pos (by omega), decide_eq_false h]; rfl
theorem c_clearState {fu : Nat} {A : mwM} {L : mwL} {k s : Nat} (hf : 18 ≤ fu) (hs : s ≤ 200) : wq (DX2_clearState fu k (sI s) A L) (fun z => z.2 = L ∧ ∀ b y, z.1 b y = if k + 2 ≤ b ∧ b ≤ k + 17 ∧ y = s then 0 else A b y) := by
  unfold DX2_clearState
  refine wq_for (body := fun r z => fX2_clearState_i2 fu k (sI s) r z.1 z.2.1 z.2.2) (fun i (a : mwM) => (sI i, a, L)) (fun i a => ∀ b y, a b y = if k + 2 ≤ b ∧ b < k + 2 + i ∧ y = s then 0 else A b y) 16 ?_ ?_ 16 0 A fu (by omega) (by omega) ?_
  · intro i a r hi p ih
    show wq (fX2_clearState_i2 fu k (sI s) r (sI i) a L) _
    unfold fX2_clearState_i2
    simp (disch := omega) only [mck_s, sI_nn, nn_s, sI_lt, sI_le, sI_eq, sI_ltl, sI_lel, sI_eql, sI_llt, sI_lle, sI_1, bI_0, bI_1, bI_n, mlet, mb3_s, mb2_s]
    rw [if_neg (by omega)]
    refine ih _ ?_
    intro b y
    by_cases hq : b = k + 2 + i ∧ y = s
    · rw [hq.1, hq.2, mset_s, if_pos (by omega)]
    · rw [mset_n hq, p b y]
      by_cases h2 : k + 2 ≤ b ∧ b < k + 2 + i ∧ y = s
      · rw [if_pos h2, if_pos (by omega)]
      · rw [if_neg h2, if_neg (by omega)]
  · intro a r p
    show wq (fX2_clearState_i2 fu k (sI s) r (sI 16) a L) _
    unfold fX2_clearState_i2
    simp (disch := omega) only [mck_s, sI_nn, nn_s, sI_lt, sI_le, sI_eq, sI_ltl, sI_lel, sI_eql, sI_llt, sI_lle, sI_1, bI_0, bI_1, bI_n, mlet, mb3_s, mb2_s]
    rw [if_pos (by omega)]
    refine wq_some ⟨rfl, ?_⟩
    intro b y
    try dsimp only
    rw [p b y]
    by_cases h2 : k + 2 ≤ b ∧ b < k + 2 + 16 ∧ y = s
    · rw [if_pos h2, if_pos (by omega)]
    · rw [if_neg h2, if_neg (by omega)]
  · intro b y
    rw [if_neg (by omega)]
def LiC (A : mwM) (w : Nat) (l : List Nat) : Prop := ∀ i v, l[i]? = some v → A w (i + 1) = sI v
theorem sI_pm {a : Nat} : sI (a + 1) + (-1) = sI a := by
  rw [← sI_1, Int32.add_assoc, show (1 : Int32) + (-1) = 0 from by decide, Int32.add_zero]
theorem c_putInOrder {fu : Nat} {A : mwM} {L : mwL} {k N r : Nat} {d : Int32} {de : Nat → Nat} {P Q : List Nat} (hf : 202 ≤ fu) (hN : N + 1 ≤ 200) (hr : 16 ≤ r) (hr2 : r < 18) (h7 : A k 7 = sI (N + 1)) (hde : ∀ s, s ≤ N + 1 → A (k + 4) s = sI (de s)) (hl : (P ++ Q).length = N) (hm : ∀ v ∈ P ++ Q, v ≤ N) (hA : LiC A (k + 2 + r) (P ++ Q)) (hP : ∀ v ∈ P, d * sI (de v) ≤ d * sI (de (N + 1))) (hQ : ∀ v ∈ Q, ¬ d * sI (de v) ≤ d * sI (de (N + 1))) : wq (DX2_putInOrder fu k (sI r) d A L) (fun z => z.2 = L ∧ LiC z.1 (k + 2 + r) (P ++ (N + 1) :: Q) ∧ ∀ b y, b ≠ k + 2 + r → z.1 b y = A b y) := by
  have key := wq_loop (body := fun rr z => fX2_putInOrder_i20 fu k (sI r) d rr z.1 z.2.1 z.2.2.1 z.2.2.2) (Q := fun z => z.2 = L ∧ LiC z.1 (k + 2 + r) (P ++ (N + 1) :: Q) ∧ ∀ b y, b ≠ k + 2 + r → z.1 b y = A b y) (fun z => z.1 = d * sI (de (N + 1)) ∧ z.2.2.2 = L ∧ ∃ a, P.length ≤ a ∧ a ≤ N ∧ z.2.1 = sI (a + 1) ∧ (∀ i v, i < a → (P ++ Q)[i]? = some v → z.2.2.1 (k + 2 + r) (i + 1) = sI v) ∧ (∀ i v, a ≤ i → (P ++ Q)[i]? = some v → z.2.2.1 (k + 2 + r) (i + 2) = sI v) ∧ ∀ b y, b ≠ k + 2 + r → z.2.2.1 b y = A b y) (fun z => nn z.2.1) ?_ fu (d * sI (de (N + 1)), sI (N + 1), A, L) (by dsimp only; rw [nn_s (by omega)]; omega) ⟨rfl, rfl, N, by rw [List.length_append] at hl; omega, Nat.le_refl _, rfl, fun i v _ h => hA i v h, ?_, fun _ _ _ => rfl⟩
  · unfold DX2_putInOrder
    have e1 := hde (N + 1) (Nat.le_refl _)
    simp (disch := omega) only [h7, e1, mck_s, sI_nn, nn_s, sI_lt, sI_le, sI_eq, sI_ltl, sI_lel, sI_eql, sI_llt, sI_lle, sI_1, bI_0, bI_1, bI_n, mlet, mb3_s, mb2_s]
    exact key
  · rintro ⟨v3, v4, a', l'⟩ rr ⟨h1, h2, a, ha1, ha2, h4, p1, p2, p3⟩ ih
    dsimp only at h1 h2 h4 p1 p2 p3
    subst h1 h2 h4
    show wq (fX2_putInOrder_i20 fu k (sI r) d rr (d * sI (de (N + 1))) (sI (a + 1)) a' l') _
    have e7 : a' k 7 = sI (N + 1) := (p3 k 7 (by omega)).trans h7
    have fin : P.length = a → wq (fX2_putInOrder_b76 fu k (sI r) d (sI (a + 1)) a' l') (fun z => z.2 = l' ∧ LiC z.1 (k + 2 + r) (P ++ (N + 1) :: Q) ∧ ∀ b y, b ≠ k + 2 + r → z.1 b y = A b y) := by
      intro hPa
      unfold fX2_putInOrder_b76
      simp (disch := omega) only [e7, mck_s, sI_nn, nn_s, sI_lt, sI_le, sI_eq, sI_ltl, sI_lel, sI_eql, sI_llt, sI_lle, sI_1, bI_0, bI_1, bI_n, mlet, mb3_s, mb2_s]
      refine wq_some ⟨rfl, ?_, ?_⟩
      all_goals (try dsimp only)
      · intro i v hv
        rcases Nat.lt_trichotomy i a with hi | hi | hi
        · rw [List.getElem?_append_left (by omega)] at hv
          rw [mset_j (by omega)]
          exact p1 i v hi (by rw [List.getElem?_append_left (by omega)]; exact hv)
        · subst hi
          rw [List.getElem?_append_right (by omega), show i - P.length = 0 by omega] at hv
          have : v = N + 1 := by simpa using hv.symm
          rw [this, mset_s]
        · rw [List.getElem?_append_right (by omega), show i - P.length = (i - 1 - P.length) + 1 by omega, List.getElem?_cons_succ] at hv
          rw [mset_j (by omega)]
          have := p2 (i - 1) v (by omega) (by rw [List.getElem?_append_right (by omega)]; exact hv)
          rw [show i - 1 + 2 = i + 1 by omega] at this
          exact this
      · intro b y hb
        rw [mset_k hb]
        exact p3 b y hb
    by_cases ha0 : a = 0
    · have := fin (by omega)
      unfold fX2_putInOrder_i20
      rw [if_pos (by rw [ha0]; decide)]
      exact this
    · obtain ⟨a0, rfl⟩ : ∃ a0, a = a0 + 1 := ⟨a - 1, by omega⟩
      have hlen : a0 < (P ++ Q).length := by omega
      have hv := List.getElem?_eq_getElem hlen
      have hmem : (P ++ Q)[a0] ∈ P ++ Q := List.getElem_mem hlen
      have e5 := p1 a0 _ (by omega) hv
      have hvN := hm _ hmem
      have e6 : a' (k + 4) ((P ++ Q)[a0]) = sI (de ((P ++ Q)[a0])) := (p3 _ _ (by omega)).trans (hde _ (by omega))
      unfold fX2_putInOrder_i20
      have em : sI (a0 + 1 + 1) - 1 = sI (a0 + 1) := sI_m1
      have ep : sI (a0 + 1 + 1) + (-1) = sI (a0 + 1) := sI_pm
      simp (disch := omega) only [em, ep, e5, e6, mck_s, sI_nn, nn_s, sI_lt, sI_le, sI_eq, sI_ltl, sI_lel, sI_eql, sI_llt, sI_lle, sI_1, bI_0, bI_1, bI_n, mlet, mb3_s, mb2_s]
      rw [if_neg (by omega)]
      by_cases hq : a0 < P.length
      · rw [if_pos]
        · exact fin (by omega)
        · refine hP _ ?_
          rw [List.getElem_append_left hq]
          exact List.getElem_mem hq
      · rw [if_neg]
        · refine ih _ ⟨rfl, rfl, a0, by omega, by omega, rfl, ?_, ?_, ?_⟩ ?_
          · intro i v hi hiv
            try dsimp only
            rw [mset_j (by omega)]
            exact p1 i v (by omega) hiv
          · intro i v hi hiv
            try dsimp only
            by_cases hi0 : i = a0
            · subst hi0
              rw [hv] at hiv
              rw [mset_s]
              rw [Option.some.inj hiv]
            · rw [mset_j (by omega)]
              exact p2 i v (by omega) hiv
          · intro b y hb
            try dsimp only
            rw [mset_k hb]
            exact p3 b y hb
          · show nn (sI (a0 + 1)) < nn (sI (a0 + 1 + 1))
            rw [nn_s (by omega), nn_s (by omega)]
            omega
        · refine hQ _ ?_
          rw [List.getElem_append_right (by omega)]
          exact List.getElem_mem _
  · intro i v hi hv
    exfalso
    have : i < (P ++ Q).length := by
      rcases Nat.lt_or_ge i (P ++ Q).length with g | g
      · exact g
      · rw [List.getElem?_eq_none g] at hv; cases hv
    omega
theorem mul1_le {a b : Nat} (ha : a < 2000000000) (hb : b < 2000000000) : ((1 : Int32) * sI a ≤ 1 * sI b) ↔ a ≤ b := by
  rw [Int32.one_mul, Int32.one_mul, sI_le ha hb]
theorem mulm_le {a b : Nat} (ha : a < 2000000000) (hb : b < 2000000000) : ((-1 : Int32) * sI a ≤ (-1) * sI b) ↔ b ≤ a := by
  have h : ∀ c : Nat, c < 2000000000 → ((-1 : Int32) * sI c).toInt = -(c : Int) := by
    intro c hc
    rw [Int32.toInt_mul, sI_toInt hc, show (-1 : Int32).toInt = -1 from by decide]
    unfold Int.bmod
    simp only [Int.neg_mul, Int.one_mul]
    split <;> omega
  rw [Int32.le_iff_toInt_le, h a ha, h b hb]
  omega
