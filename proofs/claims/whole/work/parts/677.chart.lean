/-! the ready edges in their order -/
def slv (κ : Nat → Nat) (l : List Nat) (d : Nat) : List Nat := l.filter (fun e => decide (κ e = d))
def soL (κ : Nat → Nat) (l : List Nat) : Nat → List Nat
  | 0 => []
  | j + 1 => slv κ l (j + 1) ++ soL κ l j
theorem so_mem {κ : Nat → Nat} {l : List Nat} {x : Nat} : ∀ j, x ∈ soL κ l j ↔ x ∈ l ∧ 1 ≤ κ x ∧ κ x ≤ j := by
  intro j
  induction j with
  | zero =>
    constructor
    · intro h; cases h
    · intro h; omega
  | succ j ih =>
    show x ∈ slv κ l (j + 1) ++ soL κ l j ↔ _
    unfold slv
    rw [List.mem_append, ih, List.mem_filter, decide_eq_true_eq]
    constructor
    · rintro (⟨h1, h2⟩ | ⟨h1, h2⟩)
      · exact ⟨h1, by omega, by omega⟩
      · exact ⟨h1, by omega, by omega⟩
    · rintro ⟨h1, h2, h3⟩
      by_cases hq : κ x = j + 1
      · exact Or.inl ⟨h1, hq⟩
      · exact Or.inr ⟨h1, h2, by omega⟩
theorem so_less {κ : Nat → Nat} {l : List Nat} {e : Nat} : ∀ j, j < κ e → soL κ (l ++ [e]) j = soL κ l j := by
  intro j
  induction j with
  | zero => intro _; rfl
  | succ j ih =>
    intro h
    show slv κ (l ++ [e]) (j + 1) ++ soL κ (l ++ [e]) j = slv κ l (j + 1) ++ soL κ l j
    rw [ih (by omega)]
    unfold slv
    rw [List.filter_append, List.filter_cons_of_neg (by simp; omega), List.filter_nil, List.append_nil]
theorem so_ins {κ : Nat → Nat} {l : List Nat} {e : Nat} (h0 : 1 ≤ κ e) : ∀ j, κ e ≤ j → ∃ P Q, soL κ l j = P ++ Q ∧ soL κ (l ++ [e]) j = P ++ e :: Q ∧ (∀ x ∈ P, κ e ≤ κ x) ∧ ∀ x ∈ Q, κ x < κ e := by
  intro j
  induction j with
  | zero => intro h; omega
  | succ j ih =>
    intro h
    by_cases hj : κ e = j + 1
    · refine ⟨slv κ l (j + 1), soL κ l j, rfl, ?_, ?_, ?_⟩
      · show slv κ (l ++ [e]) (j + 1) ++ soL κ (l ++ [e]) j = _
        rw [so_less j (by omega)]
        unfold slv
        rw [List.filter_append, List.filter_cons_of_pos (by simp [hj]), List.filter_nil, List.append_assoc]
        rfl
      · intro x hx
        unfold slv at hx
        rw [List.mem_filter, decide_eq_true_eq] at hx
        omega
      · intro x hx
        have := (so_mem j).mp hx
        omega
    · obtain ⟨P, Q, h1, h2, h3, h4⟩ := ih (by omega)
      refine ⟨slv κ l (j + 1) ++ P, Q, ?_, ?_, ?_, h4⟩
      · show slv κ l (j + 1) ++ soL κ l j = _
        rw [h1, List.append_assoc]
      · show slv κ (l ++ [e]) (j + 1) ++ soL κ (l ++ [e]) j = _
        rw [h2]
        unfold slv
        rw [List.filter_append, List.filter_cons_of_neg (by simp; omega), List.filter_nil, List.append_nil, List.append_assoc]
      · intro x hx
        rw [List.mem_append] at hx
        rcases hx with hx | hx
        · unfold slv at hx
          rw [List.mem_filter, decide_eq_true_eq] at hx
          omega
        · exact h3 x hx
theorem so_nil {κ : Nat → Nat} : ∀ j, soL κ [] j = [] := by
  intro j
  induction j with
  | zero => rfl
  | succ j ih =>
    show slv κ [] (j + 1) ++ soL κ [] j = []
    rw [ih]
    rfl
theorem so_len {κ : Nat → Nat} {j : Nat} : ∀ (n : Nat) (l : List Nat), l.length = n → (∀ x ∈ l, 1 ≤ κ x ∧ κ x ≤ j) → (soL κ l j).length = n := by
  intro n
  induction n with
  | zero =>
    intro l hl _
    rw [List.eq_nil_of_length_eq_zero hl, so_nil]
    rfl
  | succ n ih =>
    intro l hl h
    obtain ⟨l0, e, rfl⟩ : ∃ l0 e, l = l0 ++ [e] := ⟨l.dropLast, l.getLast (by intro z; rw [z] at hl; simp at hl), (List.dropLast_concat_getLast _).symm⟩
    rw [List.length_append, List.length_singleton] at hl
    have he := h e (List.mem_append_right _ (List.mem_singleton.mpr rfl))
    obtain ⟨P, Q, h1, h2, _, _⟩ := so_ins (l := l0) he.1 j he.2
    have := ih l0 (by omega) (fun x hx => h x (List.mem_append_left _ hx))
    rw [h1, List.length_append] at this
    rw [h2, List.length_append, List.length_cons]
    omega
def LiZ (A : mwM) (w : Nat) (l : List Nat) : Prop := ∀ i v, l[i]? = some v → A w i = sI v
theorem c_putReady {fu : Nat} {A : mwM} {L : mwL} {k N E n e : Nat} {pa kd de fr to ev gu : Nat → Nat} {P Q : List Nat} (hf : 402 ≤ fu) (hT : Tr N pa kd de) (hC : TrC A k N pa kd de) (hE : Ed N E kd fr to ev gu) (hEC : EdC A k E fr to ev gu) (he : 1 ≤ e ∧ e ≤ E) (hl : (P ++ Q).length = n) (hn : n ≤ 400) (hm : ∀ v ∈ P ++ Q, 1 ≤ v ∧ v ≤ E) (hA : LiZ A (k + 27) (P ++ Q)) (hP : ∀ v ∈ P, de (fr e) ≤ de (fr v)) (hQ : ∀ v ∈ Q, de (fr v) < de (fr e)) : wq (DX2_putReady fu k (sI e) (sI n) A L) (fun z => z.1 = sI (n + 1) ∧ z.2.2 = L ∧ LiZ z.2.1 (k + 27) (P ++ e :: Q) ∧ ∀ b y, b ≠ k + 27 → z.2.1 b y = A b y) := by
  have hN := hT.1
  have hE4 := hE.1
  have key := wq_loop (body := fun rr z => fX2_putReady_i19 fu k (sI e) (sI n) rr z.1 z.2.1 z.2.2.1 z.2.2.2) (Q := fun z => z.1 = sI (n + 1) ∧ z.2.2 = L ∧ LiZ z.2.1 (k + 27) (P ++ e :: Q) ∧ ∀ b y, b ≠ k + 27 → z.2.1 b y = A b y) (fun z => z.1 = sI (de (fr e)) ∧ z.2.2.2 = L ∧ ∃ a, P.length ≤ a ∧ a ≤ n ∧ z.2.1 = sI a ∧ (∀ i v, i < a → (P ++ Q)[i]? = some v → z.2.2.1 (k + 27) i = sI v) ∧ (∀ i v, a ≤ i → (P ++ Q)[i]? = some v → z.2.2.1 (k + 27) (i + 1) = sI v) ∧ ∀ b y, b ≠ k + 27 → z.2.2.1 b y = A b y) (fun z => nn z.2.1) ?_ fu (sI (de (fr e)), sI n, A, L) (by dsimp only; rw [nn_s (by omega)]; omega) ⟨rfl, rfl, n, by rw [List.length_append] at hl; omega, Nat.le_refl _, rfl, fun i v _ h => hA i v h, ?_, fun _ _ _ => rfl⟩
  · unfold DX2_putReady
    have hj := hE.2 e he.1 he.2
    have e1 := (hEC.2 e he.1 he.2).1
    have e2 := (hC.2 (fr e) hj.2.1).2.2
    simp (disch := omega) only [e1, e2, mck_s, sI_nn, nn_s, sI_lt, sI_le, sI_eq, sI_ltl, sI_lel, sI_eql, sI_llt, sI_lle, sI_1, bI_0, bI_1, bI_n, mlet, mb3_s, mb2_s]
    exact key
  · rintro ⟨v3, v4, a', l'⟩ rr ⟨h1, h2, a, ha1, ha2, h4, p1, p2, p3⟩ ih
    dsimp only at h1 h2 h4 p1 p2 p3
    subst h1 h2 h4
    show wq (fX2_putReady_i19 fu k (sI e) (sI n) rr (sI (de (fr e))) (sI a) a' l') _
    have fin : P.length = a → wq (fX2_putReady_b82 fu k (sI e) (sI n) (sI a) a' l') (fun z => z.1 = sI (n + 1) ∧ z.2.2 = l' ∧ LiZ z.2.1 (k + 27) (P ++ e :: Q) ∧ ∀ b y, b ≠ k + 27 → z.2.1 b y = A b y) := by
      intro hPa
      unfold fX2_putReady_b82
      simp (disch := omega) only [mck_s, sI_nn, nn_s, sI_lt, sI_le, sI_eq, sI_ltl, sI_lel, sI_eql, sI_llt, sI_lle, sI_1, bI_0, bI_1, bI_n, mlet, mb3_s, mb2_s]
      refine wq_some ⟨rfl, rfl, ?_, ?_⟩
      all_goals (try dsimp only)
      · intro i v hv
        rcases Nat.lt_trichotomy i a with hi | hi | hi
        · rw [List.getElem?_append_left (by omega)] at hv
          rw [mset_j (by omega)]
          exact p1 i v hi (by rw [List.getElem?_append_left (by omega)]; exact hv)
        · subst hi
          rw [List.getElem?_append_right (by omega), show i - P.length = 0 by omega] at hv
          have : v = e := by simpa using hv.symm
          rw [this, mset_s]
        · rw [List.getElem?_append_right (by omega), show i - P.length = (i - 1 - P.length) + 1 by omega, List.getElem?_cons_succ] at hv
          rw [mset_j (by omega)]
          have := p2 (i - 1) v (by omega) (by rw [List.getElem?_append_right (by omega)]; exact hv)
          rw [show i - 1 + 1 = i by omega] at this
          exact this
      · intro b y hb
        rw [mset_k hb]
        exact p3 b y hb
    by_cases ha0 : a = 0
    · have := fin (by omega)
      unfold fX2_putReady_i19
      rw [if_pos (by rw [ha0]; decide)]
      exact this
    · obtain ⟨a0, rfl⟩ : ∃ a0, a = a0 + 1 := ⟨a - 1, by omega⟩
      have hlen : a0 < (P ++ Q).length := by omega
      have hv := List.getElem?_eq_getElem hlen
      have hmem : (P ++ Q)[a0] ∈ P ++ Q := List.getElem_mem hlen
      have e5 := p1 a0 _ (by omega) hv
      have hvN := hm _ hmem
      have hj := hE.2 _ hvN.1 hvN.2
      have hj2 := Tr_pa hT hj.2.1
      have hje := Tr_pa hT (hE.2 e he.1 he.2).2.1
      have e6 : a' (k + 21) ((P ++ Q)[a0]) = sI (fr ((P ++ Q)[a0])) := (p3 _ _ (by omega)).trans (hEC.2 _ hvN.1 hvN.2).1
      have e7 : a' (k + 4) (fr ((P ++ Q)[a0])) = sI (de (fr ((P ++ Q)[a0]))) := (p3 _ _ (by omega)).trans (hC.2 _ hj.2.1).2.2
      unfold fX2_putReady_i19
      have em : sI (a0 + 1) - 1 = sI a0 := sI_m1
      have ep : sI (a0 + 1) + (-1) = sI a0 := sI_pm
      simp (disch := omega) only [em, ep, e5, e6, e7, mck_s, sI_nn, nn_s, sI_lt, sI_le, sI_eq, sI_ltl, sI_lel, sI_eql, sI_llt, sI_lle, sI_1, bI_0, bI_1, bI_n, mlet, mb3_s, mb2_s]
      rw [if_neg (by omega)]
      by_cases hq : a0 < P.length
      · rw [if_pos]
        · exact fin (by omega)
        · refine hP _ ?_
          rw [List.getElem_append_left hq]
          exact List.getElem_mem hq
      · rw [if_neg]
        · refine ih _ ⟨rfl, rfl, a0, by omega, by omega, rfl, ?_, ?_, ?_⟩ ?_
          · intro i v hi hiv
            try dsimp only
            rw [mset_j (by omega)]
            exact p1 i v (by omega) hiv
          · intro i v hi hiv
            try dsimp only
            by_cases hi0 : i = a0
            · subst hi0
              rw [hv] at hiv
              rw [mset_s]
              rw [Option.some.inj hiv]
            · rw [mset_j (by omega)]
              exact p2 i v (by omega) hiv
          · intro b y hb
            try dsimp only
            rw [mset_k hb]
            exact p3 b y hb
          · show nn (sI a0) < nn (sI (a0 + 1))
            rw [nn_s (by omega), nn_s (by omega)]
            omega
        · have : de (fr ((P ++ Q)[a0])) < de (fr e) := by
            refine hQ _ ?_
            rw [List.getElem_append_right (by omega)]
            exact List.getElem_mem _
          omega
  · intro i v hi hv
    exfalso
    have : i < (P ++ Q).length := by
      rcases Nat.lt_or_ge i (P ++ Q).length with g | g
      · exact g
      · rw [List.getElem?_eq_none g] at hv; cases hv
    omega
/-! claiming what is left -/
def exB (pa de : Nat → Nat) (ac : Nat → Bool) (d s : Nat) : Bool := ac s && insB pa de d s
def apB (pa de : Nat → Nat) (ac : Nat → Bool) (N d : Nat) (g : Nat → Bool) : Bool := allN (fun s => !(exB pa de ac d s && g s)) N
theorem c_claim {fu : Nat} {A : mwM} {L : mwL} {k N d : Nat} {pa kd de : Nat → Nat} {ac g : Nat → Bool} (hf : 202 ≤ fu) (hT : Tr N pa kd de) (hC : TrC A k N pa kd de) (hd : d ≤ N) (hac : ∀ s, 1 ≤ s → s ≤ N → A (k + 7) s = bI (ac s)) (hg : ∀ s, 1 ≤ s → s ≤ N → A (k + 15) s = bI (g s)) : wq (DX2_claim fu k (sI d) A L) (fun z => z.1 = bI (apB pa de ac N d g) ∧ z.2.2 = L ∧ (∀ s, 1 ≤ s → s ≤ N → z.2.1 (k + 15) s = bI (g s || (apB pa de ac N d g && exB pa de ac d s))) ∧ ∀ b y, b ≠ k + 15 → b ≠ k + 16 → z.2.1 b y = A b y) := by
  have hN := hT.1
  unfold DX2_claim
  refine wq_b2 (c_markInside hf hT hC hd) ?_
  rintro M1 L1 ⟨y1, y2, y3⟩
  dsimp only at y1 y2 y3
  subst y1
  have e7 : M1 k 7 = sI N := (y3 _ _ (by omega)).trans hC.1
  -- the second loop
  have second : ∀ B : mwM, B = M1 → apB pa de ac N d g = true → wq (fX2_claim_h63 fu k (sI d) fu (1, B, L1)) (fun z => z.1 = bI (apB pa de ac N d g) ∧ z.2.2 = L1 ∧ (∀ s, 1 ≤ s → s ≤ N → z.2.1 (k + 15) s = bI (g s || (apB pa de ac N d g && exB pa de ac d s))) ∧ ∀ b y, b ≠ k + 15 → b ≠ k + 16 → z.2.1 b y = A b y) := by
    intro B hB ha
    rw [ha]
    refine wq_for (body := fun r z => fX2_claim_i63 fu k (sI d) r z.1 z.2.1 z.2.2) (fun i (a : mwM) => (sI i, a, L1)) (fun i a => 1 ≤ i ∧ (∀ s, 1 ≤ s → s ≤ N → a (k + 15) s = bI (g s || (decide (s < i) && exB pa de ac d s))) ∧ ∀ b y, b ≠ k + 15 → a b y = M1 b y) (N + 1) ?_ ?_ N 1 B fu (by omega) (by omega) ⟨Nat.le_refl _, ?_, fun b y _ => by rw [hB]⟩
    · intro i a r hi ⟨h1i, p1, p2⟩ ih
      show wq (fX2_claim_i63 fu k (sI d) r (sI i) a L1) _
      have f1 : a k 7 = sI N := (p2 _ _ (by omega)).trans e7
      have f2 : a (k + 16) i = bI (insB pa de d i) := (p2 _ _ (by omega)).trans (y2 i (by omega))
      have f3 : a (k + 7) i = bI (ac i) := by rw [p2 _ _ (by omega), y3 _ _ (by omega)]; exact hac i h1i (by omega)
      have go : ∀ a2 : mwM, a2 (k + 15) i = bI (g i || exB pa de ac d i) → (∀ b y, ¬ (b = k + 15 ∧ y = i) → a2 b y = a b y) → wq (r (sI (i + 1), a2, L1)) (fun z => z.1 = bI true ∧ z.2.2 = L1 ∧ (∀ s, 1 ≤ s → s ≤ N → z.2.1 (k + 15) s = bI (g s || (true && exB pa de ac d s))) ∧ ∀ b y, b ≠ k + 15 → b ≠ k + 16 → z.2.1 b y = A b y) := by
        intro a2 g1 g2
        refine ih _ ⟨by omega, fun s u1 u2 => ?_, fun b y u => (g2 b y (by omega)).trans (p2 b y u)⟩
        by_cases hq : s = i
        · subst hq
          rw [g1, decide_eq_true (by omega), Bool.true_and]
        · rw [g2 _ _ (by omega), p1 s u1 u2]
          by_cases hs : s < i
          · rw [decide_eq_true hs, decide_eq_true (by omega)]
          · rw [decide_eq_false hs, decide_eq_false (by omega)]
      have f4 := p1 i h1i (by omega)
      rw [decide_eq_false (by omega), Bool.false_and, Bool.or_false] at f4
      unfold fX2_claim_i63 fX2_claim_b106
      simp (disch := omega) only [f1, f2, f3, mck_s, sI_nn, nn_s, sI_lt, sI_le, sI_eq, sI_ltl, sI_lel, sI_eql, sI_llt, sI_lle, sI_1, bI_0, bI_1, bI_n, mlet, mb3_s, mb2_s]
      rw [if_neg (by omega)]
      cases h1 : insB pa de d i with
      | false =>
        rw [if_neg (by decide)]
        refine go a ?_ (fun _ _ _ => rfl)
        rw [f4]
        unfold exB
        rw [h1]
        simp
      | true =>
        rw [if_pos rfl]
        cases h2 : ac i with
        | false =>
          rw [if_neg (by decide)]
          refine go a ?_ (fun _ _ _ => rfl)
          rw [f4]
          unfold exB
          rw [h2]
          simp
        | true =>
          rw [if_pos rfl]
          refine go _ ?_ (fun b y u => mset_n u)
          rw [mset_s]
          unfold exB
          rw [h1, h2]
          simp [bI]
    · intro a r ⟨_, p1, p2⟩
      show wq (fX2_claim_i63 fu k (sI d) r (sI (N + 1)) a L1) _
      have f1 : a k 7 = sI N := (p2 _ _ (by omega)).trans e7
      unfold fX2_claim_i63
      rw [f1, if_pos (by rw [sI_lt (by omega) (by omega)]; omega)]
      refine wq_some ⟨rfl, rfl, fun s u1 u2 => ?_, fun b y u1 u2 => ?_⟩
      all_goals (try dsimp only)
      · rw [p1 s u1 u2, decide_eq_true (by omega)]
      · rw [p2 b y u1, y3 b y u2]
    · intro s u1 u2
      rw [hB, y3 _ _ (by omega), hg s u1 u2, decide_eq_false (by omega)]
      simp
  -- the first loop
  refine wq_for (body := fun r z => fX2_claim_i7 fu k (sI d) r z.1 z.2.1 z.2.2) (fun i (_ : Unit) => (sI i, M1, L1)) (fun i _ => 1 ≤ i ∧ allN (fun s => !(exB pa de ac d s && g s)) (i - 1) = true) (N + 1) ?_ ?_ N 1 () fu (by omega) (by omega) ⟨Nat.le_refl _, rfl⟩
  · intro i _ r hi ⟨h1i, p1⟩ ih
    obtain ⟨n, rfl⟩ : ∃ n, i = n + 1 := ⟨i - 1, by omega⟩
    show wq (fX2_claim_i7 fu k (sI d) r (sI (n + 1)) M1 L1) _
    have f2 := y2 (n + 1) (by omega)
    have f3 : M1 (k + 7) (n + 1) = bI (ac (n + 1)) := by rw [y3 _ _ (by omega)]; exact hac _ h1i (by omega)
    have f4 : M1 (k + 15) (n + 1) = bI (g (n + 1)) := by rw [y3 _ _ (by omega)]; exact hg _ h1i (by omega)
    unfold fX2_claim_i7 fX2_claim_b55
    simp (disch := omega) only [e7, f2, f3, f4, mck_s, sI_nn, nn_s, sI_lt, sI_le, sI_eq, sI_ltl, sI_lel, sI_eql, sI_llt, sI_lle, sI_1, bI_0, bI_1, bI_n, mlet, mb3_s, mb2_s]
    rw [if_neg (by omega)]
    have go : (exB pa de ac d (n + 1) && g (n + 1)) = false → wq (r (sI (n + 1 + 1), M1, L1)) (fun z => z.1 = bI (apB pa de ac N d g) ∧ z.2.2 = L1 ∧ (∀ s, 1 ≤ s → s ≤ N → z.2.1 (k + 15) s = bI (g s || (apB pa de ac N d g && exB pa de ac d s))) ∧ ∀ b y, b ≠ k + 15 → b ≠ k + 16 → z.2.1 b y = A b y) := by
      intro hx
      refine ih () ⟨by omega, ?_⟩
      show (allN (fun s => !(exB pa de ac d s && g s)) n && !(exB pa de ac d (n + 1) && g (n + 1))) = true
      rw [hx]
      simpa using p1
    cases h1 : insB pa de d (n + 1) with
    | false =>
      rw [if_neg (by decide)]
      exact go (by unfold exB; rw [h1]; simp)
    | true =>
      rw [if_pos rfl]
      cases h2 : ac (n + 1) with
      | false =>
        rw [if_neg (by decide)]
        exact go (by unfold exB; rw [h2]; simp)
      | true =>
        rw [if_pos rfl]
        cases h3 : g (n + 1) with
        | false =>
          rw [if_neg (by decide)]
          exact go (by rw [h3]; simp)
        | true =>
          rw [if_pos rfl]
          have ha : apB pa de ac N d g = false := by
            by_cases hx : apB pa de ac N d g = true
            · unfold apB at hx
              have := (allN_iff N).mp hx (n + 1) h1i (by omega)
              unfold exB at this
              rw [h1, h2, h3] at this
              cases this
            · simpa using hx
          rw [ha]
          refine wq_some ⟨rfl, rfl, fun s u1 u2 => ?_, fun b y u1 u2 => y3 b y u2⟩
          try dsimp only
          rw [y3 _ _ (by omega), hg s u1 u2]
          simp
  · intro _ r ⟨_, p1⟩
    show wq (fX2_claim_i7 fu k (sI d) r (sI (N + 1)) M1 L1) _
    unfold fX2_claim_i7
    rw [e7, if_pos (by rw [sI_lt (by omega) (by omega)]; omega)]
    exact second M1 rfl p1
