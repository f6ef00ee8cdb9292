/-! the order in which states are left and entered -/
def lv (de : Nat → Nat) : Nat → Nat → List Nat
  | 0, _ => []
  | n + 1, d => lv de n d ++ (if de (n + 1) = d then [n + 1] else [])
def faL (de : Nat → Nat) (N : Nat) : Nat → List Nat
  | 0 => []
  | j + 1 => lv de N (j + 1) ++ faL de N j
def riL (de : Nat → Nat) (N : Nat) : Nat → List Nat
  | 0 => []
  | j + 1 => riL de N j ++ lv de N j
theorem lv_mem {de : Nat → Nat} {d x : Nat} : ∀ n, x ∈ lv de n d ↔ 1 ≤ x ∧ x ≤ n ∧ de x = d := by
  intro n
  induction n with
  | zero =>
    constructor
    · intro h; cases h
    · intro h; omega
  | succ n ih =>
    show x ∈ lv de n d ++ (if de (n + 1) = d then [n + 1] else []) ↔ _
    rw [List.mem_append, ih]
    by_cases hq : de (n + 1) = d
    · rw [if_pos hq, List.mem_singleton]
      constructor
      · rintro (h | rfl)
        · omega
        · exact ⟨by omega, by omega, hq⟩
      · intro h
        by_cases hx : x = n + 1
        · exact Or.inr hx
        · exact Or.inl ⟨h.1, by omega, h.2.2⟩
    · rw [if_neg hq]
      constructor
      · rintro (h | h)
        · omega
        · cases h
      · intro h
        refine Or.inl ⟨h.1, ?_, h.2.2⟩
        rcases Nat.lt_or_ge n x with g | g
        · exfalso
          have : x = n + 1 := by omega
          rw [this] at h
          exact hq h.2.2
        · exact g
theorem lv_nd {de : Nat → Nat} {d : Nat} : ∀ n, List.Pairwise (fun a b => a ≠ b) (lv de n d) := by
  intro n
  induction n with
  | zero => exact List.Pairwise.nil
  | succ n ih =>
    show List.Pairwise (fun a b => a ≠ b) (lv de n d ++ (if de (n + 1) = d then [n + 1] else []))
    rw [List.pairwise_append]
    refine ⟨ih, ?_, ?_⟩
    · split
      · exact List.pairwise_singleton _ _
      · exact List.Pairwise.nil
    · intro a ha b hb
      have h1 := (lv_mem n).mp ha
      split at hb
      · rw [List.mem_singleton] at hb
        omega
      · cases hb
theorem fa_mem {de : Nat → Nat} {N x : Nat} : ∀ j, x ∈ faL de N j ↔ 1 ≤ x ∧ x ≤ N ∧ 1 ≤ de x ∧ de x ≤ j := by
  intro j
  induction j with
  | zero =>
    constructor
    · intro h; cases h
    · intro h; omega
  | succ j ih =>
    show x ∈ lv de N (j + 1) ++ faL de N j ↔ _
    rw [List.mem_append, ih, lv_mem]
    omega
theorem fa_nd {de : Nat → Nat} {N : Nat} : ∀ j, List.Pairwise (fun a b => a ≠ b) (faL de N j) := by
  intro j
  induction j with
  | zero => exact List.Pairwise.nil
  | succ j ih =>
    show List.Pairwise (fun a b => a ≠ b) (lv de N (j + 1) ++ faL de N j)
    rw [List.pairwise_append]
    refine ⟨lv_nd N, ih, ?_⟩
    intro a ha b hb q
    have h1 := (lv_mem N).mp ha
    have h2 := (fa_mem j).mp hb
    rw [q] at h1
    omega
theorem ri_mem {de : Nat → Nat} {N x : Nat} : ∀ j, x ∈ riL de N j ↔ 1 ≤ x ∧ x ≤ N ∧ de x < j := by
  intro j
  induction j with
  | zero =>
    constructor
    · intro h; cases h
    · intro h; omega
  | succ j ih =>
    show x ∈ riL de N j ++ lv de N j ↔ _
    rw [List.mem_append, ih, lv_mem]
    omega
theorem ri_nd {de : Nat → Nat} {N : Nat} : ∀ j, List.Pairwise (fun a b => a ≠ b) (riL de N j) := by
  intro j
  induction j with
  | zero => exact List.Pairwise.nil
  | succ j ih =>
    show List.Pairwise (fun a b => a ≠ b) (riL de N j ++ lv de N j)
    rw [List.pairwise_append]
    refine ⟨ih, lv_nd N, ?_⟩
    intro a ha b hb q
    have h1 := (ri_mem j).mp ha
    have h2 := (lv_mem N).mp hb
    rw [q] at h1
    omega
theorem lv_f {de de' : Nat → Nat} {d : Nat} : ∀ n, (∀ s, 1 ≤ s → s ≤ n → de' s = de s) → lv de' n d = lv de n d := by
  intro n
  induction n with
  | zero => intro _; rfl
  | succ n ih =>
    intro h
    show lv de' n d ++ (if de' (n + 1) = d then [n + 1] else []) = lv de n d ++ (if de (n + 1) = d then [n + 1] else [])
    rw [ih (fun s h1 h2 => h s h1 (by omega)), h (n + 1) (by omega) (by omega)]
theorem fa_f {de de' : Nat → Nat} {n : Nat} (h : ∀ s, 1 ≤ s → s ≤ n → de' s = de s) : ∀ j, faL de' n j = faL de n j := by
  intro j
  induction j with
  | zero => rfl
  | succ j ih =>
    show lv de' n (j + 1) ++ faL de' n j = lv de n (j + 1) ++ faL de n j
    rw [ih, lv_f n h]
theorem ri_f {de de' : Nat → Nat} {n : Nat} (h : ∀ s, 1 ≤ s → s ≤ n → de' s = de s) : ∀ j, riL de' n j = riL de n j := by
  intro j
  induction j with
  | zero => rfl
  | succ j ih =>
    show riL de' n j ++ lv de' n j = riL de n j ++ lv de n j
    rw [ih, lv_f n h]
/-- one more state: where it comes to stand -/
theorem lv_no {de : Nat → Nat} {N d : Nat} (h : de (N + 1) ≠ d) : lv de (N + 1) d = lv de N d := by
  show lv de N d ++ (if de (N + 1) = d then [N + 1] else []) = lv de N d
  rw [if_neg h, List.append_nil]
theorem lv_yes {de : Nat → Nat} {N d : Nat} (h : de (N + 1) = d) : lv de (N + 1) d = lv de N d ++ [N + 1] := by
  show lv de N d ++ (if de (N + 1) = d then [N + 1] else []) = lv de N d ++ [N + 1]
  rw [if_pos h]
theorem fa_less {de : Nat → Nat} {N : Nat} : ∀ j, j < de (N + 1) → faL de (N + 1) j = faL de N j := by
  intro j
  induction j with
  | zero => intro _; rfl
  | succ j ih =>
    intro h
    show lv de (N + 1) (j + 1) ++ faL de (N + 1) j = lv de N (j + 1) ++ faL de N j
    rw [ih (by omega), lv_no (by omega)]
theorem fa_ins {de : Nat → Nat} {N : Nat} (h0 : 1 ≤ de (N + 1)) : ∀ j, de (N + 1) ≤ j → ∃ P Q, faL de N j = P ++ Q ∧ faL de (N + 1) j = P ++ (N + 1) :: Q ∧ (∀ x ∈ P, de (N + 1) ≤ de x) ∧ ∀ x ∈ Q, de x < de (N + 1) := by
  intro j
  induction j with
  | zero => intro h; omega
  | succ j ih =>
    intro h
    by_cases hj : de (N + 1) = j + 1
    · refine ⟨lv de N (j + 1), faL de N j, rfl, ?_, ?_, ?_⟩
      · show lv de (N + 1) (j + 1) ++ faL de (N + 1) j = _
        rw [fa_less j (by omega), lv_yes hj, List.append_assoc]
        rfl
      · intro x hx
        rw [((lv_mem N).mp hx).2.2]
        omega
      · intro x hx
        have := (fa_mem j).mp hx
        omega
    · obtain ⟨P, Q, h1, h2, h3, h4⟩ := ih (by omega)
      refine ⟨lv de N (j + 1) ++ P, Q, ?_, ?_, ?_, h4⟩
      · show lv de N (j + 1) ++ faL de N j = _
        rw [h1, List.append_assoc]
      · show lv de (N + 1) (j + 1) ++ faL de (N + 1) j = _
        rw [h2, lv_no hj, List.append_assoc]
      · intro x hx
        rw [List.mem_append] at hx
        rcases hx with hx | hx
        · rw [((lv_mem N).mp hx).2.2]
          omega
        · exact h3 x hx
theorem ri_less {de : Nat → Nat} {N : Nat} : ∀ j, j ≤ de (N + 1) → riL de (N + 1) j = riL de N j := by
  intro j
  induction j with
  | zero => intro _; rfl
  | succ j ih =>
    intro h
    show riL de (N + 1) j ++ lv de (N + 1) j = riL de N j ++ lv de N j
    rw [ih (by omega), lv_no (by omega)]
theorem ri_ins {de : Nat → Nat} {N : Nat} : ∀ j, de (N + 1) < j → ∃ P Q, riL de N j = P ++ Q ∧ riL de (N + 1) j = P ++ (N + 1) :: Q ∧ (∀ x ∈ P, de x ≤ de (N + 1)) ∧ ∀ x ∈ Q, de (N + 1) < de x := by
  intro j
  induction j with
  | zero => intro h; omega
  | succ j ih =>
    intro h
    by_cases hj : de (N + 1) = j
    · refine ⟨riL de N j ++ lv de N j, [], ?_, ?_, ?_, ?_⟩
      · rw [List.append_nil]; rfl
      · show riL de (N + 1) j ++ lv de (N + 1) j = _
        rw [ri_less j (by omega), lv_yes hj, List.append_assoc]
      · intro x hx
        rw [List.mem_append] at hx
        rcases hx with hx | hx
        · have := (ri_mem j).mp hx
          omega
        · rw [((lv_mem N).mp hx).2.2]
          omega
      · intro x hx; cases hx
    · obtain ⟨P, Q, h1, h2, h3, h4⟩ := ih (by omega)
      refine ⟨P, Q ++ lv de N j, ?_, ?_, h3, ?_⟩
      · show riL de N j ++ lv de N j = _
        rw [h1, List.append_assoc]
      · show riL de (N + 1) j ++ lv de (N + 1) j = _
        rw [h2, lv_no hj, List.append_assoc]
        rfl
      · intro x hx
        rw [List.mem_append] at hx
        rcases hx with hx | hx
        · exact h4 x hx
        · rw [((lv_mem N).mp hx).2.2]
          omega
/-! going through them: by levels, and along the row -/
def nsI {σ : Type} (p : Nat → Bool) (f : Nat → σ → σ) : Nat → σ → σ
  | 0, D => D
  | i + 1, D => if p (i + 1) = true then f (i + 1) (nsI p f i D) else nsI p f i D
def alo {σ : Type} (p : Nat → Bool) (f : Nat → σ → σ) : List Nat → σ → σ
  | [], D => D
  | x :: l, D => alo p f l (if p x = true then f x D else D)
theorem alo_app {σ : Type} {p : Nat → Bool} {f : Nat → σ → σ} : ∀ (l1 l2 : List Nat) (D : σ), alo p f (l1 ++ l2) D = alo p f l2 (alo p f l1 D) := by
  intro l1
  induction l1 with
  | nil => intro l2 D; rfl
  | cons x l ih => intro l2 D; exact ih l2 _
theorem ns_lv {σ : Type} {de : Nat → Nat} {d : Nat} {p : Nat → Bool} {f : Nat → σ → σ} {D : σ} : ∀ n, nsI (fun s => p s && decide (de s = d)) f n D = alo p f (lv de n d) D := by
  intro n
  induction n with
  | zero => rfl
  | succ n ih =>
    show (if (p (n + 1) && decide (de (n + 1) = d)) = true then f (n + 1) (nsI (fun s => p s && decide (de s = d)) f n D) else nsI (fun s => p s && decide (de s = d)) f n D) = alo p f (lv de n d ++ (if de (n + 1) = d then [n + 1] else [])) D
    rw [ih, alo_app]
    by_cases hq : de (n + 1) = d
    · rw [if_pos hq, decide_eq_true hq, Bool.and_true]
      rfl
    · rw [if_neg hq, decide_eq_false hq, Bool.and_false]
      rfl
def faI {σ : Type} (de : Nat → Nat) (N : Nat) (p : Nat → Bool) (f : Nat → σ → σ) : Nat → σ → σ
  | 0, D => D
  | j + 1, D => faI de N p f j (nsI (fun s => p s && decide (de s = j + 1)) f N D)
theorem fa_alo {σ : Type} {de : Nat → Nat} {N : Nat} {p : Nat → Bool} {f : Nat → σ → σ} : ∀ j (D : σ), faI de N p f j D = alo p f (faL de N j) D := by
  intro j
  induction j with
  | zero => intro D; rfl
  | succ j ih =>
    intro D
    show faI de N p f j (nsI (fun s => p s && decide (de s = j + 1)) f N D) = alo p f (lv de N (j + 1) ++ faL de N j) D
    rw [ih, alo_app, ns_lv]
def riI {σ : Type} (de : Nat → Nat) (N : Nat) (p : Nat → Bool) (f : Nat → σ → σ) (D : σ) : Nat → σ
  | 0 => D
  | j + 1 => nsI (fun s => p s && decide (de s = j)) f N (riI de N p f D j)
theorem ri_alo {σ : Type} {de : Nat → Nat} {N : Nat} {p : Nat → Bool} {f : Nat → σ → σ} {D : σ} : ∀ j, riI de N p f D j = alo p f (riL de N j) D := by
  intro j
  induction j with
  | zero => rfl
  | succ j ih =>
    show nsI (fun s => p s && decide (de s = j)) f N (riI de N p f D j) = alo p f (riL de N j ++ lv de N j) D
    rw [alo_app, ns_lv, ih]
theorem alo_congr {σ : Type} {p r : Nat → Bool} {f : Nat → σ → σ} : ∀ (l : List Nat) (D : σ), (∀ x ∈ l, p x = r x) → alo p f l D = alo r f l D := by
  intro l
  induction l with
  | nil => intro D _; rfl
  | cons x l ih =>
    intro D h
    show alo p f l (if p x = true then f x D else D) = alo r f l (if r x = true then f x D else D)
    rw [h x (List.mem_cons_self ..)]
    exact ih _ (fun y hy => h y (List.mem_cons_of_mem _ hy))
/-! the class builds its chart: marks, rows, orders -/
theorem c_isMark {fu : Nat} {A : mwM} {L : mwL} {k N s : Nat} {pa kd de : Nat → Nat} (hT : Tr N pa kd de) (hC : TrC A k N pa kd de) (hs : s ≤ N) : DX2_isMark fu k (sI s) A L = some (bI (decide (2 ≤ kd s)), A, L) := by
  have hp := Tr_pa hT hs
  have e1 := (hC.2 s hs).2.1
  unfold DX2_isMark fX2_isMark_b17
  simp (disch := omega) only [e1, mck_s, sI_nn, nn_s, sI_lt, sI_le, sI_eq, sI_ltl, sI_lel, sI_eql, sI_llt, sI_lle, sI_1, bI_0, bI_1, bI_n, mlet, mb3_s, mb2_s]
  by_cases h : 2 ≤ kd s
  · rw [if_neg (by omega), decide_eq_true h]; rfl
  · rw [if_pos (by omega), decide_eq_false h]; rfl
theorem c_clearState {fu : Nat} {A : mwM} {L : mwL} {k s : Nat} (hf : 18 ≤ fu) (hs : s ≤ 200) : wq (DX2_clearState fu k (sI s) A L) (fun z => z.2 = L ∧ ∀ b y, z.1 b y = if k + 2 ≤ b ∧ b ≤ k + 17 ∧ y = s then 0 else A b y) := by
  unfold DX2_clearState
  refine wq_for (body := fun r z => fX2_clearState_i2 fu k (sI s) r z.1 z.2.1 z.2.2) (fun i (a : mwM) => (sI i, a, L)) (fun i a => ∀ b y, a b y = if k + 2 ≤ b ∧ b < k + 2 + i ∧ y = s then 0 else A b y) 16 ?_ ?_ 16 0 A fu (by omega) (by omega) ?_
  · intro i a r hi p ih
    show wq (fX2_clearState_i2 fu k (sI s) r (sI i) a L) _
    unfold fX2_clearState_i2
    simp (disch := omega) only [mck_s, sI_nn, nn_s, sI_lt, sI_le, sI_eq, sI_ltl, sI_lel, sI_eql, sI_llt, sI_lle, sI_1, bI_0, bI_1, bI_n, mlet, mb3_s, mb2_s]
    rw [if_neg (by omega)]
    refine ih _ ?_
    intro b y
    by_cases hq : b = k + 2 + i ∧ y = s
    · rw [hq.1, hq.2, mset_s, if_pos (by omega)]
    · rw [mset_n hq, p b y]
      by_cases h2 : k + 2 ≤ b ∧ b < k + 2 + i ∧ y = s
      · rw [if_pos h2, if_pos (by omega)]
      · rw [if_neg h2, if_neg (by omega)]
  · intro a r p
    show wq (fX2_clearState_i2 fu k (sI s) r (sI 16) a L) _
    unfold fX2_clearState_i2
    simp (disch := omega) only [mck_s, sI_nn, nn_s, sI_lt, sI_le, sI_eq, sI_ltl, sI_lel, sI_eql, sI_llt, sI_lle, sI_1, bI_0, bI_1, bI_n, mlet, mb3_s, mb2_s]
    rw [if_pos (by omega)]
    refine wq_some ⟨rfl, ?_⟩
    intro b y
    try dsimp only
    rw [p b y]
    by_cases h2 : k + 2 ≤ b ∧ b < k + 2 + 16 ∧ y = s
    · rw [if_pos h2, if_pos (by omega)]
    · rw [if_neg h2, if_neg (by omega)]
  · intro b y
    rw [if_neg (by omega)]
def LiC (A : mwM) (w : Nat) (l : List Nat) : Prop := ∀ i v, l[i]? = some v → A w (i + 1) = sI v
theorem sI_pm {a : Nat} : sI (a + 1) + (-1) = sI a := by
  rw [← sI_1, Int32.add_assoc, show (1 : Int32) + (-1) = 0 from by decide, Int32.add_zero]
theorem c_putInOrder {fu : Nat} {A : mwM} {L : mwL} {k N r : Nat} {d : Int32} {de : Nat → Nat} {P Q : List Nat} (hf : 202 ≤ fu) (hN : N + 1 ≤ 200) (hr : 16 ≤ r) (hr2 : r < 18) (h7 : A k 7 = sI (N + 1)) (hde : ∀ s, s ≤ N + 1 → A (k + 4) s = sI (de s)) (hl : (P ++ Q).length = N) (hm : ∀ v ∈ P ++ Q, v ≤ N) (hA : LiC A (k + 2 + r) (P ++ Q)) (hP : ∀ v ∈ P, d * sI (de v) ≤ d * sI (de (N + 1))) (hQ : ∀ v ∈ Q, ¬ d * sI (de v) ≤ d * sI (de (N + 1))) : wq (DX2_putInOrder fu k (sI r) d A L) (fun z => z.2 = L ∧ LiC z.1 (k + 2 + r) (P ++ (N + 1) :: Q) ∧ ∀ b y, b ≠ k + 2 + r → z.1 b y = A b y) := by
  have key := wq_loop (body := fun rr z => fX2_putInOrder_i20 fu k (sI r) d rr z.1 z.2.1 z.2.2.1 z.2.2.2) (Q := fun z => z.2 = L ∧ LiC z.1 (k + 2 + r) (P ++ (N + 1) :: Q) ∧ ∀ b y, b ≠ k + 2 + r → z.1 b y = A b y) (fun z => z.1 = d * sI (de (N + 1)) ∧ z.2.2.2 = L ∧ ∃ a, P.length ≤ a ∧ a ≤ N ∧ z.2.1 = sI (a + 1) ∧ (∀ i v, i < a → (P ++ Q)[i]? = some v → z.2.2.1 (k + 2 + r) (i + 1) = sI v) ∧ (∀ i v, a ≤ i → (P ++ Q)[i]? = some v → z.2.2.1 (k + 2 + r) (i + 2) = sI v) ∧ ∀ b y, b ≠ k + 2 + r → z.2.2.1 b y = A b y) (fun z => nn z.2.1) ?_ fu (d * sI (de (N + 1)), sI (N + 1), A, L) (by dsimp only; rw [nn_s (by omega)]; omega) ⟨rfl, rfl, N, by rw [List.length_append] at hl; omega, Nat.le_refl _, rfl, fun i v _ h => hA i v h, ?_, fun _ _ _ => rfl⟩
  · unfold DX2_putInOrder
    have e1 := hde (N + 1) (Nat.le_refl _)
    simp (disch := omega) only [h7, e1, mck_s, sI_nn, nn_s, sI_lt, sI_le, sI_eq, sI_ltl, sI_lel, sI_eql, sI_llt, sI_lle, sI_1, bI_0, bI_1, bI_n, mlet, mb3_s, mb2_s]
    exact key
  · rintro ⟨v3, v4, a', l'⟩ rr ⟨h1, h2, a, ha1, ha2, h4, p1, p2, p3⟩ ih
    dsimp only at h1 h2 h4 p1 p2 p3
    subst h1 h2 h4
    show wq (fX2_putInOrder_i20 fu k (sI r) d rr (d * sI (de (N + 1))) (sI (a + 1)) a' l') _
    have e7 : a' k 7 = sI (N + 1) := (p3 k 7 (by omega)).trans h7
    have fin : P.length = a → wq (fX2_putInOrder_b76 fu k (sI r) d (sI (a + 1)) a' l') (fun z => z.2 = l' ∧ LiC z.1 (k + 2 + r) (P ++ (N + 1) :: Q) ∧ ∀ b y, b ≠ k + 2 + r → z.1 b y = A b y) := by
      intro hPa
      unfold fX2_putInOrder_b76
      simp (disch := omega) only [e7, mck_s, sI_nn, nn_s, sI_lt, sI_le, sI_eq, sI_ltl, sI_lel, sI_eql, sI_llt, sI_lle, sI_1, bI_0, bI_1, bI_n, mlet, mb3_s, mb2_s]
      refine wq_some ⟨rfl, ?_, ?_⟩
      all_goals (try dsimp only)
      · intro i v hv
        rcases Nat.lt_trichotomy i a with hi | hi | hi
        · rw [List.getElem?_append_left (by omega)] at hv
          rw [mset_j (by omega)]
          exact p1 i v hi (by rw [List.getElem?_append_left (by omega)]; exact hv)
        · subst hi
          rw [List.getElem?_append_right (by omega), show i - P.length = 0 by omega] at hv
          have : v = N + 1 := by simpa using hv.symm
          rw [this, mset_s]
        · rw [List.getElem?_append_right (by omega), show i - P.length = (i - 1 - P.length) + 1 by omega, List.getElem?_cons_succ] at hv
          rw [mset_j (by omega)]
          have := p2 (i - 1) v (by omega) (by rw [List.getElem?_append_right (by omega)]; exact hv)
          rw [show i - 1 + 2 = i + 1 by omega] at this
          exact this
      · intro b y hb
        rw [mset_k hb]
        exact p3 b y hb
    by_cases ha0 : a = 0
    · have := fin (by omega)
      unfold fX2_putInOrder_i20
      rw [if_pos (by rw [ha0]; decide)]
      exact this
    · obtain ⟨a0, rfl⟩ : ∃ a0, a = a0 + 1 := ⟨a - 1, by omega⟩
      have hlen : a0 < (P ++ Q).length := by omega
      have hv := List.getElem?_eq_getElem hlen
      have hmem : (P ++ Q)[a0] ∈ P ++ Q := List.getElem_mem hlen
      have e5 := p1 a0 _ (by omega) hv
      have hvN := hm _ hmem
      have e6 : a' (k + 4) ((P ++ Q)[a0]) = sI (de ((P ++ Q)[a0])) := (p3 _ _ (by omega)).trans (hde _ (by omega))
      unfold fX2_putInOrder_i20
      have em : sI (a0 + 1 + 1) - 1 = sI (a0 + 1) := sI_m1
      have ep : sI (a0 + 1 + 1) + (-1) = sI (a0 + 1) := sI_pm
      simp (disch := omega) only [em, ep, e5, e6, mck_s, sI_nn, nn_s, sI_lt, sI_le, sI_eq, sI_ltl, sI_lel, sI_eql, sI_llt, sI_lle, sI_1, bI_0, bI_1, bI_n, mlet, mb3_s, mb2_s]
      rw [if_neg (by omega)]
      by_cases hq : a0 < P.length
      · rw [if_pos]
        · exact fin (by omega)
        · refine hP _ ?_
          rw [List.getElem_append_left hq]
          exact List.getElem_mem hq
      · rw [if_neg]
        · refine ih _ ⟨rfl, rfl, a0, by omega, by omega, rfl, ?_, ?_, ?_⟩ ?_
          · intro i v hi hiv
            try dsimp only
            rw [mset_j (by omega)]
            exact p1 i v (by omega) hiv
          · intro i v hi hiv
            try dsimp only
            by_cases hi0 : i = a0
            · subst hi0
              rw [hv] at hiv
              rw [mset_s]
              rw [Option.some.inj hiv]
            · rw [mset_j (by omega)]
              exact p2 i v (by omega) hiv
          · intro b y hb
            try dsimp only
            rw [mset_k hb]
            exact p3 b y hb
          · show nn (sI (a0 + 1)) < nn (sI (a0 + 1 + 1))
            rw [nn_s (by omega), nn_s (by omega)]
            omega
        · refine hQ _ ?_
          rw [List.getElem_append_right (by omega)]
          exact List.getElem_mem _
  · intro i v hi hv
    exfalso
    have : i < (P ++ Q).length := by
      rcases Nat.lt_or_ge i (P ++ Q).length with g | g
      · exact g
      · rw [List.getElem?_eq_none g] at hv; cases hv
    omega
theorem mul1_le {a b : Nat} (ha : a < 2000000000) (hb : b < 2000000000) : ((1 : Int32) * sI a ≤ 1 * sI b) ↔ a ≤ b := by
  rw [Int32.one_mul, Int32.one_mul, sI_le ha hb]
theorem mulm_le {a b : Nat} (ha : a < 2000000000) (hb : b < 2000000000) : ((-1 : Int32) * sI a ≤ (-1) * sI b) ↔ b ≤ a := by
  have h : ∀ c : Nat, c < 2000000000 → ((-1 : Int32) * sI c).toInt = -(c : Int) := by
    intro c hc
    rw [Int32.toInt_mul, sI_toInt hc, show (-1 : Int32).toInt = -1 from by decide]
    unfold Int.bmod
    simp only [Int.neg_mul, Int.one_mul]
    split <;> omega
  rw [Int32.le_iff_toInt_le, h a ha, h b hb]
  omega
/-! what a chart is, on both sides -/
theorem fst_0 {p : Nat → Bool} : ∀ m i, (∀ j, i ≤ j → j < i + m → p j = false) → fstN p m i = 0 := by
  intro m
  induction m with
  | zero => intro i _; rfl
  | succ m ih =>
    intro i h
    show (if p i = true then i else fstN p m (i + 1)) = 0
    rw [h i (by omega) (by omega), if_neg (by decide)]
    exact ih (i + 1) (fun j h1 h2 => h j (by omega) (by omega))
theorem fst_p {p : Nat → Bool} : ∀ m i, 1 ≤ i → fstN p m i ≠ 0 → p (fstN p m i) = true ∧ i ≤ fstN p m i ∧ fstN p m i < i + m := by
  intro m
  induction m with
  | zero => intro i _ h; exact absurd rfl h
  | succ m ih =>
    intro i hi h
    have e : fstN p (m + 1) i = if p i = true then i else fstN p m (i + 1) := rfl
    rw [e] at h ⊢
    by_cases hp : p i = true
    · rw [if_pos hp]; exact ⟨hp, by omega, by omega⟩
    · rw [if_neg hp] at h ⊢
      have := ih (i + 1) (by omega) h
      exact ⟨this.1, by omega, by omega⟩
theorem fst_n {p : Nat → Bool} : ∀ m i, 1 ≤ i → fstN p m i = 0 → ∀ j, i ≤ j → j < i + m → p j = false := by
  intro m
  induction m with
  | zero => intro i _ _ j h1 h2; omega
  | succ m ih =>
    intro i hi h j h1 h2
    have e : fstN p (m + 1) i = if p i = true then i else fstN p m (i + 1) := rfl
    rw [e] at h
    by_cases hp : p i = true
    · rw [if_pos hp] at h; omega
    · rw [if_neg hp] at h
      by_cases hj : j = i
      · rw [hj]; simpa using hp
      · exact ih (i + 1) (by omega) h j (by omega) (by omega)
theorem fst_S {p : Nat → Bool} : ∀ m i, 1 ≤ i → fstN p (m + 1) i = if fstN p m i = 0 then (if p (i + m) = true then i + m else 0) else fstN p m i := by
  intro m
  induction m with
  | zero =>
    intro i hi
    show (if p i = true then i else 0) = if (0 : Nat) = 0 then (if p (i + 0) = true then i + 0 else 0) else 0
    rw [if_pos rfl]
    rfl
  | succ m ih =>
    intro i hi
    have e1 : fstN p (m + 1 + 1) i = if p i = true then i else fstN p (m + 1) (i + 1) := rfl
    have e2 : fstN p (m + 1) i = if p i = true then i else fstN p m (i + 1) := rfl
    rw [e1, e2, ih (i + 1) (by omega)]
    by_cases hp : p i = true
    · rw [if_pos hp, if_pos hp, if_neg (by omega)]
    · rw [if_neg hp, if_neg hp, show i + 1 + m = i + (m + 1) by omega]
theorem fst_congr {p r : Nat → Bool} : ∀ m i, (∀ j, i ≤ j → j < i + m → p j = r j) → fstN p m i = fstN r m i := by
  intro m
  induction m with
  | zero => intro i _; rfl
  | succ m ih =>
    intro i h
    show (if p i = true then i else fstN p m (i + 1)) = if r i = true then i else fstN r m (i + 1)
    rw [h i (by omega) (by omega), ih (i + 1) (fun j h1 h2 => h j (by omega) (by omega))]
def chK (c : Nat → Nat → Nat) (b : Nat → Nat → Bool) (s : Nat) : Nat := if c 2 s = 0 ∧ (s = 0 ∨ b 0 s = true) then chF (c 1) (c 2) (c 0 0) (b 0) s else 0
def Cv (c : Nat → Nat → Nat) : Prop := Tr (c 0 0) (c 1) (c 2) (c 3) ∧ Ed (c 0 0) (c 0 1) (c 2) (c 4) (c 5) (c 6) (c 7) ∧ Ax (c 0 2) (fun i => c (8 + i)) ∧ c 0 3 ≤ 50 ∧ c 0 4 ≤ 32 ∧ (∀ s, s ≤ c 0 0 → c 12 s ≤ 20000) ∧ ∀ i, i < c 0 2 → c 9 i = 2 ∨ c 8 i ≤ 200
def ReC' (l1 l2 : List Nat) (k : Nat) (A : mwM) (L : mwL) (c : Nat → Nat → Nat) (b : Nat → Nat → Bool) (va : Nat → Int32) (D : Nat → Int64) (x : Nat → Int32) : Prop :=
  TrC A k (c 0 0) (c 1) (c 2) (c 3) ∧ EdC A k (c 0 1) (c 4) (c 5) (c 6) (c 7) ∧ AxC A k (c 0 2) (fun i => c (8 + i)) va ∧
  (A k 6 = sI (c 0 3) ∧ A k 10 = sI (c 0 4) ∧ A k 14 = x 0 ∧ A k 15 = x 1 ∧ A k 16 = bI (b 6 0) ∧ L (k + 34) = D) ∧
  (∀ s, s ≤ c 0 0 → A (k + 5) s = sI (c 12 s) ∧ A (k + 6) s = sI (chF (c 1) (c 2) (c 0 0) (fun _ => true) s) ∧ A (k + 8) s = sI (chK c b s) ∧ A (k + 9) s = sI (c 13 s)) ∧
  (∀ s, 1 ≤ s → s ≤ c 0 0 → A (k + 7) s = bI (b 0 s) ∧ A (k + 10) s = sI (c 14 s) ∧ A (k + 11) s = bI (b 1 s) ∧ A (k + 17) s = bI (b 2 s)) ∧
  (LiC A (k + 18) l1 ∧ LiC A (k + 19) l2) ∧
  ∀ e, 1 ≤ e → e ≤ c 0 1 → A (k + 26) e = sI (sn (b 3 e) (b 4 e) (b 5 e))
def ReC (k : Nat) (A : mwM) (L : mwL) (c : Nat → Nat → Nat) (b : Nat → Nat → Bool) (va : Nat → Int32) (D : Nat → Int64) (x : Nat → Int32) : Prop := ReC' (riL (c 3) (c 0 0) 42) (faL (c 3) (c 0 0) 41) k A L c b va D x
def ReM (q : Nat) (M : mwM) (L : mwL) (c : Nat → Nat → Nat) (b : Nat → Nat → Bool) (va : Nat → Int32) (D : Nat → Int64) (x : Nat → Int32) : Prop :=
  TrM M q (c 0 0) (c 1) (c 2) (c 3) ∧ EdM M q (c 0 1) (c 4) (c 5) (c 6) (c 7) ∧ AxM M L q (c 0 2) (fun i => c (8 + i)) va ∧
  (M q 1 = sI (c 0 3) ∧ M q 26 = sI (c 0 4) ∧ M q 29 = x 0 ∧ M q 30 = x 1 ∧ M q 27 = bI (b 6 0) ∧ L (q + 21) = D ∧ ∃ r, r ≤ 500 ∧ M q 31 = sI r) ∧
  (∀ s, s ≤ c 0 0 → L (q + 5) s = sL (c 12 s) ∧ M (q + 4) s = sI (c 13 s)) ∧
  (∀ s, 1 ≤ s → s ≤ c 0 0 → M (q + 9) s = bI (b 0 s) ∧ L (q + 6) s = sL (c 14 s) ∧ M (q + 7) s = bI (b 1 s) ∧ M (q + 8) s = bI (b 2 s)) ∧
  M (q + 9) 0 = bI (b 6 0) ∧
  ∀ e, 1 ≤ e → e ≤ c 0 1 → M (q + 14) e = bI (b 3 e) ∧ M (q + 15) e = bI (b 4 e) ∧ M (q + 16) e = bI (b 5 e)
/-- before the first event: nothing is active, nothing was seen -/
def b00 : Nat → Nat → Bool := fun _ _ => false
def ClM (q : Nat) (M : mwM) (L : mwL) (c : Nat → Nat → Nat) : Prop := (∀ s, c 0 0 < s → s ≤ 200 → L (q + 5) s = sL 0 ∧ M (q + 4) s = sI 0 ∧ M (q + 9) s = bI false ∧ L (q + 6) s = sL 0 ∧ M (q + 7) s = bI false ∧ M (q + 8) s = bI false) ∧ ∀ e, c 0 1 < e → e ≤ 400 → M (q + 14) e = bI false ∧ M (q + 15) e = bI false ∧ M (q + 16) e = bI false
theorem chK_0 {c : Nat → Nat → Nat} {s : Nat} : chK c b00 s = 0 := by
  unfold chK
  split
  · unfold chF
    refine fst_0 _ _ (fun j _ _ => ?_)
    unfold chP b00
    simp
  · rfl
/-! a new state -/
def cst (c : Nat → Nat → Nat) (p t : Nat) : Nat → Nat → Nat := fun i j => if i = 0 ∧ j = 0 then c 0 0 + 1 else if i = 1 ∧ j = c 0 0 + 1 then p else if i = 2 ∧ j = c 0 0 + 1 then t else if i = 3 ∧ j = c 0 0 + 1 then c 3 p + 1 else if (i = 12 ∨ i = 13 ∨ i = 14) ∧ j = c 0 0 + 1 then 0 else c i j
theorem cst_N {c : Nat → Nat → Nat} {p t : Nat} : cst c p t 0 0 = c 0 0 + 1 := by simp [cst]
theorem cst_0 {c : Nat → Nat → Nat} {p t j : Nat} (h : j ≠ 0) : cst c p t 0 j = c 0 j := by simp [cst, h]
theorem cst_s {c : Nat → Nat → Nat} {p t i j : Nat} (h0 : i ≠ 0) (h : j ≠ c 0 0 + 1) : cst c p t i j = c i j := by simp [cst, h, h0]
theorem cst_r {c : Nat → Nat → Nat} {p t i : Nat} (h0 : 4 ≤ i) (h1 : i ≤ 11) : cst c p t i = c i := by
  funext j
  unfold cst
  rw [if_neg (by omega), if_neg (by omega), if_neg (by omega), if_neg (by omega), if_neg (by omega)]
theorem cst_1 {c : Nat → Nat → Nat} {p t : Nat} : cst c p t 1 (c 0 0 + 1) = p := by simp [cst]
theorem cst_2 {c : Nat → Nat → Nat} {p t : Nat} : cst c p t 2 (c 0 0 + 1) = t := by simp [cst]
theorem cst_3 {c : Nat → Nat → Nat} {p t : Nat} : cst c p t 3 (c 0 0 + 1) = c 3 p + 1 := by simp [cst]
theorem cst_z {c : Nat → Nat → Nat} {p t i : Nat} (h : i = 12 ∨ i = 13 ∨ i = 14) : cst c p t i (c 0 0 + 1) = 0 := by
  unfold cst
  rw [if_neg (by omega), if_neg (by omega), if_neg (by omega), if_neg (by omega), if_pos ⟨h, rfl⟩]
theorem cst_ax {c : Nat → Nat → Nat} {p t : Nat} (n : Nat) (h : n ≤ 3) : cst c p t (8 + n) = c (8 + n) := cst_r (by omega) (by omega)
theorem Cv_st {c : Nat → Nat → Nat} {p t : Nat} (h : Cv c) (hp : p ≤ c 0 0) (ht : t ≤ 5) (h2 : ¬ 2 ≤ c 2 p) (h40 : ¬ 40 ≤ c 3 p) (hN : ¬ 200 ≤ c 0 0) : Cv (cst c p t) := by
  obtain ⟨hT, hE, hX, hl, hd, hk, ha⟩ := h
  refine ⟨?_, ?_, ?_, ?_, ?_, ?_, ?_⟩
  · obtain ⟨t1, t2, t3, t4, t5⟩ := hT
    rw [cst_N]
    refine ⟨by omega, ?_, ?_, ?_, ?_⟩
    · rw [cst_s (by omega) (by omega)]; exact t2
    · rw [cst_s (by omega) (by omega)]; exact t3
    · rw [cst_s (by omega) (by omega)]; exact t4
    · intro s h1 hs
      by_cases hq : s = c 0 0 + 1
      · subst hq
        rw [cst_1, cst_2, cst_3, cst_s (by omega) (by omega), cst_s (by omega) (by omega)]
        omega
      · have := t5 s h1 (by omega)
        rw [cst_s (by omega) (by omega), cst_s (by omega) (by omega), cst_s (by omega) (by omega), cst_s (by omega) (by omega), cst_s (by omega) (by omega)]
        exact this
  · rw [cst_N, cst_0 (by omega), cst_r (i := 4) (by omega) (by omega), cst_r (i := 5) (by omega) (by omega), cst_r (i := 6) (by omega) (by omega), cst_r (i := 7) (by omega) (by omega)]
    refine ⟨hE.1, fun e h1 h2 => ?_⟩
    have := hE.2 e h1 h2
    rw [cst_s (by omega) (by omega)]
    exact ⟨this.1, by omega, this.2.2.1, by omega, this.2.2.2.2⟩
  · rw [cst_0 (by omega)]
    refine ⟨hX.1, fun i hi => ?_⟩
    have := hX.2 i hi
    dsimp only at this ⊢
    rw [cst_ax 0 (by omega), cst_ax 1 (by omega), cst_ax 2 (by omega), cst_ax 3 (by omega)]
    exact this
  · rw [cst_0 (by omega)]; exact hl
  · rw [cst_0 (by omega)]; exact hd
  · intro s hs
    rw [cst_N] at hs
    by_cases hq : s = c 0 0 + 1
    · rw [hq, cst_z (Or.inl rfl)]; omega
    · rw [cst_s (by omega) (by omega)]; exact hk s (by omega)
  · intro i hi
    rw [cst_0 (by omega)] at hi
    rw [cst_r (i := 9) (by omega) (by omega), cst_r (i := 8) (by omega) (by omega)]
    exact ha i hi
theorem ch_st {c : Nat → Nat → Nat} {p t s : Nat} (h : Cv c) : chF (cst c p t 1) (cst c p t 2) (cst c p t 0 0) (fun _ => true) s = if chF (c 1) (c 2) (c 0 0) (fun _ => true) s = 0 then (if p = s ∧ t ≤ 1 then c 0 0 + 1 else 0) else chF (c 1) (c 2) (c 0 0) (fun _ => true) s := by
  unfold chF
  rw [cst_N, fst_S _ _ (by omega)]
  have e : fstN (chP (cst c p t 1) (cst c p t 2) (fun _ => true) s) (c 0 0) 1 = fstN (chP (c 1) (c 2) (fun _ => true) s) (c 0 0) 1 := by
    refine fst_congr _ _ (fun j h1 h2 => ?_)
    unfold chP
    rw [cst_s (by omega) (by omega), cst_s (by omega) (by omega)]
  rw [e, show 1 + c 0 0 = c 0 0 + 1 by omega]
  have e2 : (chP (cst c p t 1) (cst c p t 2) (fun _ => true) s (c 0 0 + 1) = true) ↔ (p = s ∧ t ≤ 1) := by
    unfold chP
    rw [cst_1, cst_2]
    simp
  by_cases hq : p = s ∧ t ≤ 1
  · rw [if_pos (e2.mpr hq), if_pos hq]
  · rw [if_neg (fun z => hq (e2.mp z)), if_neg hq]
/-- how many they are -/
theorem lv_sum {de : Nat → Nat} {N : Nat} : ∀ j, (∀ s, 1 ≤ s → s ≤ N → de s < j) → (riL de N j).length = N := by
  induction N with
  | zero =>
    intro j _
    induction j with
    | zero => rfl
    | succ j ih =>
      show (riL de 0 j ++ lv de 0 j).length = 0
      rw [List.length_append, ih (fun s a b => by omega)]
      rfl
  | succ N ih =>
    intro j h
    obtain ⟨P, Q, h1, h2, _, _⟩ := ri_ins (de := de) (N := N) j (h (N + 1) (by omega) (by omega))
    have := ih j (fun s u1 u2 => h s u1 (by omega))
    rw [h1, List.length_append] at this
    rw [h2, List.length_append, List.length_cons]
    omega
theorem fa_sum {de : Nat → Nat} {N : Nat} : ∀ j, (∀ s, 1 ≤ s → s ≤ N → 1 ≤ de s ∧ de s ≤ j) → (faL de N j).length = N := by
  induction N with
  | zero =>
    intro j _
    induction j with
    | zero => rfl
    | succ j ih =>
      show (lv de 0 (j + 1) ++ faL de 0 j).length = 0
      rw [List.length_append, ih (fun s a b => by omega)]
      rfl
  | succ N ih =>
    intro j h
    obtain ⟨P, Q, h1, h2, _, _⟩ := fa_ins (de := de) (N := N) (h (N + 1) (by omega) (by omega)).1 j (h (N + 1) (by omega) (by omega)).2
    have := ih j (fun s u1 u2 => h s u1 (by omega))
    rw [h1, List.length_append] at this
    rw [h2, List.length_append, List.length_cons]
    omega
theorem ri_len {N : Nat} {pa kd de : Nat → Nat} (hT : Tr N pa kd de) : (riL de N 42).length = N := lv_sum 42 (fun s h1 h2 => by have := (hT.2.2.2.2 s h1 h2).2.2.1; omega)
theorem fa_len {N : Nat} {pa kd de : Nat → Nat} (hT : Tr N pa kd de) : (faL de N 41).length = N := fa_sum 41 (fun s h1 h2 => by have := hT.2.2.2.2 s h1 h2; omega)
/-! a new state: the class -/
theorem ch_le {pa kd : Nat → Nat} {N s : Nat} {o : Nat → Bool} : chF pa kd N o s ≤ N := by
  by_cases h : chF pa kd N o s = 0
  · omega
  · have := (fst_p (p := chP pa kd o s) N 1 (by omega) h).2.2
    unfold chF
    omega
theorem c_addState {fu : Nat} {A : mwM} {L : mwL} {k p t : Nat} {c : Nat → Nat → Nat} {va : Nat → Int32} {D : Nat → Int64} {x : Nat → Int32} (hf : 202 ≤ fu) (hv : Cv c) (h : ReC k A L c b00 va D x) (hp : p ≤ c 0 0) (ht : t ≤ 5) : wq (DX2_addState fu k (sI p) (sI t) A L) (fun z => if 2 ≤ c 2 p ∨ 40 ≤ c 3 p then z = (-2, A, L) else if 200 ≤ c 0 0 then z = (-4, A, L) else z.1 = sI (c 0 0 + 1) ∧ z.2.2 = L ∧ ReC k z.2.1 L (cst c p t) b00 va D x ∧ ∀ b y, ¬ (k + 1 ≤ b ∧ b ≤ k + 33) → ¬ (b = k ∧ y = 7) → z.2.1 b y = A b y) := by
  have hT := hv.1
  have hN := hT.1
  have hpp := Tr_pa hT hp
  obtain ⟨hC, hEC, hXC, hf4, h5, h6, h7, h8⟩ := h
  have e7 := hC.1
  have e4 := (hC.2 p hp).2.2
  have em := c_isMark (fu := fu) (L := L) hT hC hp
  unfold DX2_addState fX2_addState_b25
  simp (disch := omega) only [e4, em, e7, mset_s, mck_s, sI_nn, nn_s, sI_lt, sI_le, sI_eq, sI_ltl, sI_lel, sI_eql, sI_llt, sI_lle, sI_1, bI_0, bI_1, bI_n, mlet, mb3_s, mb2_s]
  by_cases hm : 2 ≤ c 2 p
  · rw [if_neg (by simp [hm])]
    refine wq_some ?_
    rw [if_pos (Or.inl hm)]
  rw [if_pos (by simp [hm])]
  by_cases hd : 40 ≤ c 3 p
  · rw [if_neg (by omega)]
    refine wq_some ?_
    rw [if_pos (Or.inr hd)]
  rw [if_pos (by omega)]
  by_cases h200 : 200 ≤ c 0 0
  · rw [if_neg (by omega)]
    refine wq_some ?_
    rw [if_neg (by omega), if_pos h200]
  rw [if_pos (by omega)]
  have hv' := Cv_st hv hp ht hm hd h200
  have hT' := hv'.1
  rw [cst_N] at hT'
  refine wq_b2 (c_clearState (s := c 0 0 + 1) (by omega) (by omega)) ?_
  rintro M15 L16 ⟨y1, y2⟩
  dsimp only at y1 y2
  subst y1
  have f7 : M15 k 7 = sI (c 0 0 + 1) := by rw [y2, if_neg (by omega), mset_s]
  have fr : ∀ b y, ¬ (k + 2 ≤ b ∧ b ≤ k + 17 ∧ y = c 0 0 + 1) → ¬ (b = k ∧ y = 7) → M15 b y = A b y := fun b y u1 u2 => by rw [y2, if_neg u1, mset_n u2]
  have f6 : M15 (k + 6) p = sI (chF (c 1) (c 2) (c 0 0) (fun _ => true) p) := by rw [fr _ _ (by omega) (by omega)]; exact (h5 p hp).2.1
  simp (disch := omega) only [f7, mset_k, mck_s, sI_nn, nn_s, sI_lt, sI_le, sI_eq, sI_ltl, sI_lel, sI_eql, sI_llt, sI_lle, sI_1, bI_0, bI_1, bI_n, mlet, mb3_s, mb2_s]
  -- behind the rows of the new state
  generalize hB : mset (mset (mset M15 (k + 2) (c 0 0 + 1) (sI p)) (k + 3) (c 0 0 + 1) (sI t)) (k + 4) (c 0 0 + 1) (sI (c 3 p + 1)) = B
  have B2 : ∀ s, s ≤ c 0 0 + 1 → B (k + 2) s = sI (cst c p t 1 s) ∧ B (k + 3) s = sI (cst c p t 2 s) ∧ B (k + 4) s = sI (cst c p t 3 s) := by
    intro s hs
    subst hB
    by_cases hq : s = c 0 0 + 1
    · subst hq
      rw [cst_1, cst_2, cst_3, mset_k (by omega), mset_k (by omega), mset_s, mset_k (by omega), mset_s, mset_s]
      exact ⟨rfl, rfl, rfl⟩
    · rw [cst_s (by omega) hq, cst_s (by omega) hq, cst_s (by omega) hq, mset_k (by omega), mset_k (by omega), mset_j (by omega), mset_k (by omega), mset_j (by omega), mset_k (by omega), mset_j (by omega), mset_k (by omega), mset_k (by omega), fr _ _ (by omega) (by omega), fr _ _ (by omega) (by omega), fr _ _ (by omega) (by omega)]
      exact hC.2 s (by omega)
  have BF : ∀ b y, ¬ (k + 2 ≤ b ∧ b ≤ k + 17 ∧ y = c 0 0 + 1) → ¬ (b = k ∧ y = 7) → B b y = A b y := by
    intro b y u1 u2
    subst hB
    rw [mset_n (by omega), mset_n (by omega), mset_n (by omega)]
    exact fr b y u1 u2
  have BZ : ∀ b, k + 5 ≤ b → b ≤ k + 17 → B b (c 0 0 + 1) = 0 := by
    intro b u1 u2
    subst hB
    rw [mset_k (by omega), mset_k (by omega), mset_k (by omega), y2, if_pos (by omega)]
  have B7 : B k 7 = sI (c 0 0 + 1) := by
    subst hB
    rw [mset_k (by omega), mset_k (by omega), mset_k (by omega)]
    exact f7
  have B6 : B (k + 6) p = sI (chF (c 1) (c 2) (c 0 0) (fun _ => true) p) := by rw [BF _ _ (by omega) (by omega)]; exact (h5 p hp).2.1
  have BT : TrC B k (c 0 0 + 1) (cst c p t 1) (cst c p t 2) (cst c p t 3) := ⟨B7, B2⟩
  have bm := c_isMark (fu := fu) (L := L16) hT' BT (Nat.le_refl _)
  rw [cst_2] at bm
  -- the end: the orders
  have fin : ∀ G : mwM, (∀ b y, ¬ (b = k + 6 ∧ y = p) → G b y = B b y) → G (k + 6) p = sI (chF (cst c p t 1) (cst c p t 2) (cst c p t 0 0) (fun _ => true) p) → wq (fX2_addState_b129 fu k (sI p) (sI t) G L16) (fun z => if 2 ≤ c 2 p ∨ 40 ≤ c 3 p then z = (-2, A, L16) else if 200 ≤ c 0 0 then z = (-4, A, L16) else z.1 = sI (c 0 0 + 1) ∧ z.2.2 = L16 ∧ ReC k z.2.1 L16 (cst c p t) b00 va D x ∧ ∀ b y, ¬ (k + 1 ≤ b ∧ b ≤ k + 33) → ¬ (b = k ∧ y = 7) → z.2.1 b y = A b y) := by
    intro G g1 g2
    have hde : ∀ s, 1 ≤ s → s ≤ c 0 0 → cst c p t 3 s = c 3 s := fun s u1 u2 => cst_s (by omega) (by omega)
    have g4 : ∀ s, s ≤ c 0 0 + 1 → G (k + 4) s = sI (cst c p t 3 s) := fun s hs => (g1 _ _ (by omega)).trans (B2 s hs).2.2
    have d40 : ∀ s, s ≤ c 0 0 + 1 → cst c p t 3 s ≤ 40 := fun s hs => (Tr_pa hT' hs).2.2.2.2
    have dN : cst c p t 3 (c 0 0 + 1) = c 3 p + 1 := cst_3
    obtain ⟨P, Q, i1, i2, i3, i4⟩ := ri_ins (de := cst c p t 3) (N := c 0 0) 42 (by omega)
    obtain ⟨P2, Q2, j1, j2, j3, j4⟩ := fa_ins (de := cst c p t 3) (N := c 0 0) (by omega) 41 (by omega)
    have l1 := ri_f hde 42
    have l2 := fa_f hde 41
    have mr : ∀ v ∈ riL (cst c p t 3) (c 0 0) 42, v ≤ c 0 0 := fun v hv => ((ri_mem 42).mp hv).2.1
    have mf : ∀ v ∈ faL (cst c p t 3) (c 0 0) 41, v ≤ c 0 0 := fun v hv => ((fa_mem 41).mp hv).2.1
    unfold fX2_addState_b129
    refine wq_b2 (c_putInOrder (de := cst c p t 3) (N := c 0 0) (r := 16) (P := P) (Q := Q) hf (by omega) (by omega) (by omega) ((g1 _ _ (by omega)).trans B7) g4 (by rw [← i1]; rw [l1]; exact ri_len hT) (by rw [← i1]; exact mr) ?_ ?_ ?_) ?_
    · rw [← i1, l1]
      intro i v hv
      rw [g1 _ _ (by omega), BF _ _ (by omega) (by omega)]
      exact h7.1 i v hv
    · intro v hv
      have := mr v (by rw [i1]; exact List.mem_append_left _ hv)
      rw [mul1_le (by have := d40 v (by omega); omega) (by omega)]
      exact i3 v hv
    · intro v hv
      have := mr v (by rw [i1]; exact List.mem_append_right _ hv)
      rw [mul1_le (by have := d40 v (by omega); omega) (by omega)]
      have := i4 v hv
      omega
    rintro M1 L1 ⟨w1, w2, w3⟩
    dsimp only at w1 w2 w3
    subst w1
    refine wq_b2 (c_putInOrder (de := cst c p t 3) (N := c 0 0) (r := 17) (P := P2) (Q := Q2) hf (by omega) (by omega) (by omega) ((w3 _ _ (by omega)).trans ((g1 _ _ (by omega)).trans B7)) (fun s hs => (w3 _ _ (by omega)).trans (g4 s hs)) (by rw [← j1]; rw [l2]; exact fa_len hT) (by rw [← j1]; exact mf) ?_ ?_ ?_) ?_
    · rw [← j1, l2]
      intro i v hv
      rw [w3 _ _ (by omega), g1 _ _ (by omega), BF _ _ (by omega) (by omega)]
      exact h7.2 i v hv
    · intro v hv
      have := mf v (by rw [j1]; exact List.mem_append_left _ hv)
      rw [mulm_le (by have := d40 v (by omega); omega) (by omega)]
      exact j3 v hv
    · intro v hv
      have := mf v (by rw [j1]; exact List.mem_append_right _ hv)
      rw [mulm_le (by have := d40 v (by omega); omega) (by omega)]
      have := j4 v hv
      omega
    rintro M3 L3 ⟨x1, x2, x3⟩
    dsimp only at x1 x2 x3
    subst x1
    have fr3 : ∀ b y, b ≠ k + 18 → b ≠ k + 19 → ¬ (b = k + 6 ∧ y = p) → M3 b y = B b y := fun b y u1 u2 u3 => by rw [x3 _ _ (by omega), w3 _ _ (by omega), g1 _ _ u3]
    have k7 : M3 k 7 = sI (c 0 0 + 1) := (fr3 _ _ (by omega) (by omega) (by omega)).trans B7
    refine wq_some ?_
    rw [if_neg (by omega), if_neg h200]
    refine ⟨k7, rfl, ?_, ?_⟩
    all_goals (try dsimp only)
    · refine ⟨?_, ?_, ?_, ?_, ?_, ?_, ?_, ?_⟩
      · rw [cst_N]
        refine ⟨k7, fun s hs => ?_⟩
        rw [fr3 _ _ (by omega) (by omega) (by omega), fr3 _ _ (by omega) (by omega) (by omega), fr3 _ _ (by omega) (by omega) (by omega)]
        exact B2 s hs
      · rw [cst_0 (by omega), cst_r (i := 4) (by omega) (by omega), cst_r (i := 5) (by omega) (by omega), cst_r (i := 6) (by omega) (by omega), cst_r (i := 7) (by omega) (by omega)]
        refine ⟨?_, fun e u1 u2 => ?_⟩
        · rw [fr3 _ _ (by omega) (by omega) (by omega), BF _ _ (by omega) (by omega)]; exact hEC.1
        · rw [fr3 _ _ (by omega) (by omega) (by omega), BF _ _ (by omega) (by omega), fr3 _ _ (by omega) (by omega) (by omega), BF _ _ (by omega) (by omega), fr3 _ _ (by omega) (by omega) (by omega), BF _ _ (by omega) (by omega), fr3 _ _ (by omega) (by omega) (by omega), BF _ _ (by omega) (by omega)]
          exact hEC.2 e u1 u2
      · rw [cst_0 (by omega)]
        refine ⟨?_, fun i hi => ?_⟩
        · rw [fr3 _ _ (by omega) (by omega) (by omega), BF _ _ (by omega) (by omega)]; exact hXC.1
        · have := hXC.2 i hi
          dsimp only at this ⊢
          rw [cst_ax 0 (by omega), cst_ax 1 (by omega), cst_ax 2 (by omega), cst_ax 3 (by omega)]
          rw [fr3 _ _ (by omega) (by omega) (by omega), BF _ _ (by omega) (by omega), fr3 _ _ (by omega) (by omega) (by omega), BF _ _ (by omega) (by omega), fr3 _ _ (by omega) (by omega) (by omega), BF _ _ (by omega) (by omega), fr3 _ _ (by omega) (by omega) (by omega), BF _ _ (by omega) (by omega), fr3 _ _ (by omega) (by omega) (by omega), BF _ _ (by omega) (by omega)]
          exact this
      · rw [cst_0 (by omega), cst_0 (by omega)]
        rw [fr3 _ _ (by omega) (by omega) (by omega), BF _ _ (by omega) (by omega), fr3 _ _ (by omega) (by omega) (by omega), BF _ _ (by omega) (by omega), fr3 _ _ (by omega) (by omega) (by omega), BF _ _ (by omega) (by omega), fr3 _ _ (by omega) (by omega) (by omega), BF _ _ (by omega) (by omega), fr3 _ _ (by omega) (by omega) (by omega), BF _ _ (by omega) (by omega)]
        exact hf4
      · intro s hs
        rw [cst_N] at hs
        rw [chK_0]
        by_cases hq : s = c 0 0 + 1
        · subst hq
          rw [cst_z (Or.inl rfl), cst_z (Or.inr (Or.inl rfl)), fr3 _ _ (by omega) (by omega) (by omega), fr3 _ _ (by omega) (by omega) (by omega), fr3 _ _ (by omega) (by omega) (by omega), fr3 _ _ (by omega) (by omega) (by omega), BZ _ (by omega) (by omega), BZ _ (by omega) (by omega), BZ _ (by omega) (by omega), BZ _ (by omega) (by omega)]
          refine ⟨rfl, ?_, rfl, rfl⟩
          have : chF (cst c p t 1) (cst c p t 2) (cst c p t 0 0) (fun _ => true) (c 0 0 + 1) = 0 := by
            unfold chF
            refine fst_0 _ _ (fun j u1 u2 => ?_)
            rw [cst_N] at u2
            unfold chP
            have := (hT'.2.2.2.2 j u1 (by omega)).1
            rw [decide_eq_false (by omega)]
            rfl
          rw [this]
          rfl
        · have hs' := h5 s (by omega)
          rw [chK_0] at hs'
          rw [cst_s (by omega) hq, cst_s (by omega) hq, fr3 _ _ (by omega) (by omega) (by omega), BF _ _ (by omega) (by omega)]
          refine ⟨hs'.1, ?_, ?_, ?_⟩
          · by_cases hsp : s = p
            · subst hsp
              rw [x3 _ _ (by omega), w3 _ _ (by omega)]
              exact g2
            · rw [fr3 _ _ (by omega) (by omega) (by omega), BF _ _ (by omega) (by omega), hs'.2.1, ch_st hv]
              by_cases z : chF (c 1) (c 2) (c 0 0) (fun _ => true) s = 0
              · rw [if_pos z, if_neg (by omega), z]
              · rw [if_neg z]
          · rw [fr3 _ _ (by omega) (by omega) (by omega), BF _ _ (by omega) (by omega)]
            exact hs'.2.2.1
          · rw [fr3 _ _ (by omega) (by omega) (by omega), BF _ _ (by omega) (by omega)]
            exact hs'.2.2.2
      · intro s u1 hs
        rw [cst_N] at hs
        by_cases hq : s = c 0 0 + 1
        · subst hq
          rw [cst_z (Or.inr (Or.inr rfl)), fr3 _ _ (by omega) (by omega) (by omega), fr3 _ _ (by omega) (by omega) (by omega), fr3 _ _ (by omega) (by omega) (by omega), fr3 _ _ (by omega) (by omega) (by omega), BZ _ (by omega) (by omega), BZ _ (by omega) (by omega), BZ _ (by omega) (by omega), BZ _ (by omega) (by omega)]
          exact ⟨rfl, rfl, rfl, rfl⟩
        · rw [cst_s (by omega) hq, fr3 _ _ (by omega) (by omega) (by omega), BF _ _ (by omega) (by omega), fr3 _ _ (by omega) (by omega) (by omega), BF _ _ (by omega) (by omega), fr3 _ _ (by omega) (by omega) (by omega), BF _ _ (by omega) (by omega), fr3 _ _ (by omega) (by omega) (by omega), BF _ _ (by omega) (by omega)]
          exact h6 s u1 (by omega)
      · rw [cst_N, i2, j2]
        refine ⟨?_, x2⟩
        intro i v hv
        rw [x3 _ _ (by omega)]
        exact w2 i v hv
      · intro e u1 u2
        rw [cst_0 (by omega)] at u2
        rw [fr3 _ _ (by omega) (by omega) (by omega), BF _ _ (by omega) (by omega)]
        exact h8 e u1 u2
    · intro b y u1 u2
      rw [fr3 _ _ (by omega) (by omega) (by omega), BF _ _ (by omega) (by omega)]
  have hle := ch_le (pa := c 1) (kd := c 2) (N := c 0 0) (s := p) (o := fun _ => true)
  simp (disch := omega) only [f6, bm, B7, mck_s, sI_nn, nn_s, sI_lt, sI_le, sI_eq, sI_ltl, sI_lel, sI_eql, sI_llt, sI_lle, sI_1, bI_0, bI_1, bI_n, mlet, mb3_s, mb2_s]
  by_cases z : chF (c 1) (c 2) (c 0 0) (fun _ => true) p = 0
  · rw [if_pos z]
    by_cases t1 : t ≤ 1
    · rw [if_pos (by simp; omega)]
      refine fin _ (fun b y u => mset_n u) ?_
      rw [mset_s, ch_st hv, if_pos z, if_pos ⟨rfl, t1⟩]
    · rw [if_neg (by simp; omega)]
      refine fin _ (fun b y u => rfl) ?_
      rw [B6, ch_st hv, if_pos z, if_neg (by omega), z]
  · rw [if_neg z]
    refine fin _ (fun b y u => rfl) ?_
    rw [B6, ch_st hv, if_neg z]
/-! what doesn't touch a chart leaves it as it is -/
theorem ReM_f {q : Nat} {M M' : mwM} {L L' : mwL} {c : Nat → Nat → Nat} {b : Nat → Nat → Bool} {va : Nat → Int32} {D : Nat → Int64} {x : Nat → Int32} (h : ReM q M L c b va D x) (hM : ∀ a y, q ≤ a → a ≤ q + 21 → ¬ (a = q ∧ (y = 0 ∨ y = 33 ∨ y = 35)) → M' a y = M a y) (hL : ∀ a, q + 5 ≤ a → a ≤ q + 21 → L' a = L a) : ReM q M' L' c b va D x := by
  obtain ⟨h1, h2, h3, h4, h5, h6, h7, h8⟩ := h
  refine ⟨?_, ?_, ?_, ?_, ?_, ?_, ?_, ?_⟩
  · exact TrM_f h1 (hM _ _ (by omega) (by omega) (by omega)) (fun a s u1 u2 => hM _ _ (by omega) (by omega) (by omega))
  · refine ⟨?_, fun e u1 u2 => ?_⟩
    · simp (disch := omega) only [hM]; exact h2.1
    · simp (disch := omega) only [hM]; exact h2.2 e u1 u2
  · refine ⟨?_, fun i hi => ?_⟩
    · simp (disch := omega) only [hM]; exact h3.1
    · simp (disch := omega) only [hM, hL]; exact h3.2 i hi
  · simp (disch := omega) only [hM, hL]; exact h4
  · intro s hs
    simp (disch := omega) only [hM, hL]; exact h5 s hs
  · intro s u1 hs
    simp (disch := omega) only [hM, hL]; exact h6 s u1 hs
  · simp (disch := omega) only [hM]; exact h7
  · intro e u1 u2
    simp (disch := omega) only [hM]; exact h8 e u1 u2
theorem ClM_f {q : Nat} {M M' : mwM} {L L' : mwL} {c : Nat → Nat → Nat} (h : ClM q M L c) (hM : ∀ a y, q ≤ a → a ≤ q + 21 → ¬ (a = q ∧ (y = 0 ∨ y = 33 ∨ y = 35)) → M' a y = M a y) (hL : ∀ a, q + 5 ≤ a → a ≤ q + 21 → L' a = L a) : ClM q M' L' c := by
  refine ⟨fun s u1 u2 => ?_, fun e u1 u2 => ?_⟩
  · simp (disch := omega) only [hM, hL]; exact h.1 s u1 u2
  · simp (disch := omega) only [hM]; exact h.2 e u1 u2
theorem ReC_f {k : Nat} {A A' : mwM} {L L' : mwL} {c : Nat → Nat → Nat} {b : Nat → Nat → Bool} {va : Nat → Int32} {D : Nat → Int64} {x : Nat → Int32} (h : ReC k A L c b va D x) (hA : ∀ a y, k ≤ a → a ≤ k + 33 → ¬ (a = k ∧ (y = 5 ∨ y = 11 ∨ y = 12 ∨ y = 13)) → ¬ (k + 12 ≤ a ∧ a ≤ k + 16) → a ≠ k + 25 → a ≠ k + 27 → A' a y = A a y) (hL : L' (k + 34) = L (k + 34)) : ReC k A' L' c b va D x := by
  obtain ⟨h1, h2, h3, h4, h5, h6, h7, h8⟩ := h
  refine ⟨?_, ?_, ?_, ?_, ?_, ?_, ?_, ?_⟩
  · exact TrC_f h1 (hA _ _ (by omega) (by omega) (by omega) (by omega) (by omega) (by omega)) (fun a s u1 u2 => hA _ _ (by omega) (by omega) (by omega) (by omega) (by omega) (by omega))
  · refine ⟨?_, fun e u1 u2 => ?_⟩
    · simp (disch := omega) only [hA]; exact h2.1
    · simp (disch := omega) only [hA]; exact h2.2 e u1 u2
  · refine ⟨?_, fun i hi => ?_⟩
    · simp (disch := omega) only [hA]; exact h3.1
    · simp (disch := omega) only [hA]; exact h3.2 i hi
  · rw [hL]
    simp (disch := omega) only [hA]; exact h4
  · intro s hs
    simp (disch := omega) only [hA]; exact h5 s hs
  · intro s u1 hs
    simp (disch := omega) only [hA]; exact h6 s u1 hs
  · refine ⟨fun i v hv => ?_, fun i v hv => ?_⟩
    · simp (disch := omega) only [hA]; exact h7.1 i v hv
    · simp (disch := omega) only [hA]; exact h7.2 i v hv
  · intro e u1 u2
    simp (disch := omega) only [hA]; exact h8 e u1 u2
/-! the reference: a new state -/
theorem m_noneC {fu : Nat} {M : mwM} {L : mwL} {q N p : Nat} (h : M q 2 = sI N) (hN : N ≤ 200) (hp : p ≤ 2000) : DX13_none fu q (sI p) M L = some (bI (decide (N < p)), M, L) := by
  unfold DX13_none fX13_none_b12 fX13_none_b17
  simp (disch := omega) only [h, mck_s, sI_nn, nn_s, sI_lt, sI_le, sI_eq, sI_ltl, sI_lel, sI_eql, sI_llt, sI_lle, sI_1, bI_0, bI_1, bI_n, mlet, mb3_s, mb2_s]
  rw [if_neg (by omega)]
  by_cases hq : N < p
  · rw [if_neg (by omega), decide_eq_true hq]; rfl
  · rw [if_pos (by omega), decide_eq_false hq]; rfl
theorem m_state {fu : Nat} {M : mwM} {L : mwL} {q p t : Nat} {c : Nat → Nat → Nat} {va : Nat → Int32} {D : Nat → Int64} {x : Nat → Int32} (hv : Cv c) (h : ReM q M L c b00 va D x) (hcl : ClM q M L c) (hp : p ≤ c 0 0) (ht : t ≤ 5) : wq (DX13_state fu q (sI p) (sI t) M L) (fun z => z.2.2 = L ∧ (∀ a y, ¬ (q ≤ a ∧ a ≤ q + 3) → z.2.1 a y = M a y) ∧ if 2 ≤ c 2 p ∨ 40 ≤ c 3 p then z.1 = -2 ∧ ReM q z.2.1 L c b00 va D x ∧ ClM q z.2.1 L c else if 200 ≤ c 0 0 then z.1 = -4 ∧ ReM q z.2.1 L c b00 va D x ∧ ClM q z.2.1 L c else z.1 = sI (c 0 0 + 1) ∧ ReM q z.2.1 L (cst c p t) b00 va D x ∧ ClM q z.2.1 L (cst c p t)) := by
  have hT := hv.1
  have hN := hT.1
  have hpp := Tr_pa hT hp
  have h0 : ReM q (mset M q 0 0) L c b00 va D x := ReM_f h (fun a y _ _ u => mset_n (by omega)) (fun _ _ _ => rfl)
  have hcl0 : ClM q (mset M q 0 0) L c := ClM_f hcl (fun a y _ _ u => mset_n (by omega)) (fun _ _ _ => rfl)
  have h0' := h0
  obtain ⟨hM, hEM, hXM, hf4, h5, h6, h7, h8⟩ := h0'
  have e1 := m_noneC (fu := fu) (L := L) (p := p) hM.1 hN (by omega)
  rw [decide_eq_false (by omega)] at e1
  have e2 := m_mark (fu := fu) (L := L) hT hM hp
  have e3 := (hM.2 p hp).2.2
  have e27 : mset M q 0 0 q 27 = bI false := hf4.2.2.2.2.1
  have e27' := e27
  rw [mset_j (by omega)] at e27'
  have e2N := h.1.1
  have e3' := e3
  rw [mset_k (by omega)] at e3'
  unfold DX13_state fX13_state_b43
  simp (disch := omega) only [e1, e2, mck_s, sI_nn, nn_s, sI_lt, sI_le, sI_eq, sI_ltl, sI_lel, sI_eql, sI_llt, sI_lle, sI_1, bI_0, bI_1, bI_n, mlet, mb3_s, mb2_s]
  simp (disch := omega) only [e27, e3, mset_n, e27', e2N, e3', mset_s, mck_s, sI_nn, nn_s, sI_lt, sI_le, sI_eq, sI_ltl, sI_lel, sI_eql, sI_llt, sI_lle, sI_1, bI_0, bI_1, bI_n, mlet, mb3_s, mb2_s]
  rw [if_pos trivial, if_neg (by omega), if_neg (by omega)]
  have fr : ∀ a y, ¬ (q ≤ a ∧ a ≤ q + 3) → mset M q 0 0 a y = M a y := fun a y u => mset_n (by omega)
  by_cases hm : 2 ≤ c 2 p
  · rw [if_neg (by simp [hm])]
    refine wq_some ⟨rfl, fr, ?_⟩
    rw [if_pos (Or.inl hm)]
    exact ⟨rfl, h0, hcl0⟩
  rw [if_pos (by simp [hm])]
  by_cases hd : 40 ≤ c 3 p
  · rw [if_pos (by omega)]
    refine wq_some ⟨rfl, fr, ?_⟩
    rw [if_pos (Or.inr hd)]
    exact ⟨rfl, h0, hcl0⟩
  rw [if_neg (by omega), if_pos trivial]
  by_cases h200 : 200 ≤ c 0 0
  · rw [if_pos (by omega)]
    refine wq_some ⟨rfl, fr, ?_⟩
    rw [if_neg (by omega), if_pos h200]
    exact ⟨rfl, h0, hcl0⟩
  rw [if_neg (by omega)]
  refine wq_some ⟨rfl, ?_, ?_⟩
  all_goals (try dsimp only)
  · intro a y u
    simp (disch := omega) only [mset_n]
  rw [if_neg (by omega), if_neg h200]
  refine ⟨rfl, ?_, ?_⟩
  · refine ⟨?_, ?_, ?_, ?_, ?_, ?_, ?_, ?_⟩
    · rw [cst_N]
      refine ⟨?_, fun s hs => ?_⟩
      · simp (disch := omega) only [mset_s, mset_n]
      · by_cases hq : s = c 0 0 + 1
        · subst hq
          rw [cst_1, cst_2, cst_3]
          simp (disch := omega) only [mset_s, mset_n, true_and, and_true]
        · have := h.1.2 s (by omega)
          rw [cst_s (by omega) hq, cst_s (by omega) hq, cst_s (by omega) hq]
          simp (disch := omega) only [mset_n]
          exact this
    · rw [cst_0 (by omega), cst_r (i := 4) (by omega) (by omega), cst_r (i := 5) (by omega) (by omega), cst_r (i := 6) (by omega) (by omega), cst_r (i := 7) (by omega) (by omega)]
      refine ⟨?_, fun e u1 u2 => ?_⟩
      · simp (disch := omega) only [mset_n]; exact h.2.1.1
      · simp (disch := omega) only [mset_n]; exact h.2.1.2 e u1 u2
    · rw [cst_0 (by omega)]
      refine ⟨?_, fun i hi => ?_⟩
      · simp (disch := omega) only [mset_n]; exact h.2.2.1.1
      · have := h.2.2.1.2 i hi
        dsimp only at this ⊢
        rw [cst_ax 0 (by omega), cst_ax 1 (by omega), cst_ax 2 (by omega), cst_ax 3 (by omega)]
        simp (disch := omega) only [mset_n]; exact this
    · rw [cst_0 (by omega), cst_0 (by omega)]
      simp (disch := omega) only [mset_n]; exact h.2.2.2.1
    · intro s hs
      rw [cst_N] at hs
      simp (disch := omega) only [mset_n]
      by_cases hq : s = c 0 0 + 1
      · subst hq
        rw [cst_z (Or.inl rfl), cst_z (Or.inr (Or.inl rfl))]
        have := hcl.1 (c 0 0 + 1) (by omega) (by omega)
        exact ⟨this.1, this.2.1⟩
      · rw [cst_s (by omega) hq, cst_s (by omega) hq]
        exact h.2.2.2.2.1 s (by omega)
    · intro s u1 hs
      rw [cst_N] at hs
      simp (disch := omega) only [mset_n]
      by_cases hq : s = c 0 0 + 1
      · subst hq
        rw [cst_z (Or.inr (Or.inr rfl))]
        have := hcl.1 (c 0 0 + 1) (by omega) (by omega)
        exact this.2.2
      · rw [cst_s (by omega) hq]
        exact h.2.2.2.2.2.1 s u1 (by omega)
    · simp (disch := omega) only [mset_n]; exact h.2.2.2.2.2.2.1
    · intro e u1 u2
      rw [cst_0 (by omega)] at u2
      simp (disch := omega) only [mset_n]; exact h.2.2.2.2.2.2.2 e u1 u2
  · refine ⟨fun s u1 u2 => ?_, fun e u1 u2 => ?_⟩
    · rw [cst_N] at u1
      simp (disch := omega) only [mset_n]; exact hcl.1 s (by omega) u2
    · rw [cst_0 (by omega)] at u1
      simp (disch := omega) only [mset_n]; exact hcl.2 e u1 u2
/-! a new edge -/
def ced (c : Nat → Nat → Nat) (f t e g : Nat) : Nat → Nat → Nat := fun i j => if i = 0 ∧ j = 1 then c 0 1 + 1 else if i = 4 ∧ j = c 0 1 + 1 then f else if i = 5 ∧ j = c 0 1 + 1 then t else if i = 6 ∧ j = c 0 1 + 1 then e else if i = 7 ∧ j = c 0 1 + 1 then g else c i j
section CED
variable {c : Nat → Nat → Nat} {f t e g : Nat}
theorem ced_E : ced c f t e g 0 1 = c 0 1 + 1 := by simp [ced]
theorem ced_0 {j : Nat} (h : j ≠ 1) : ced c f t e g 0 j = c 0 j := by simp [ced, h]
theorem ced_s {i j : Nat} (h0 : i ≠ 0) (h : j ≠ c 0 1 + 1) : ced c f t e g i j = c i j := by simp [ced, h, h0]
theorem ced_r {i : Nat} (h : 1 ≤ i) (h0 : i ≤ 3 ∨ 8 ≤ i) : ced c f t e g i = c i := by
  funext j
  unfold ced
  rw [if_neg (by omega), if_neg (by omega), if_neg (by omega), if_neg (by omega), if_neg (by omega)]
theorem ced_4 : ced c f t e g 4 (c 0 1 + 1) = f := by simp [ced]
theorem ced_5 : ced c f t e g 5 (c 0 1 + 1) = t := by simp [ced]
theorem ced_6 : ced c f t e g 6 (c 0 1 + 1) = e := by simp [ced]
theorem ced_7 : ced c f t e g 7 (c 0 1 + 1) = g := by simp [ced]
theorem ced_ax (n : Nat) (h : n ≤ 3) : ced c f t e g (8 + n) = c (8 + n) := ced_r (by omega) (by omega)
theorem Cv_ed (h : Cv c) (hf : 1 ≤ f ∧ f ≤ c 0 0) (ht : 1 ≤ t ∧ t ≤ c 0 0) (h2 : ¬ (c 2 f = 2 ∨ c 2 f = 3)) (hE : ¬ 400 ≤ c 0 1) (he : e < 2000) (hg : g < 16384) (hg2 : g = 0 ∨ (1 ≤ g % 8 ∧ g % 8 ≤ 6)) : Cv (ced c f t e g) := by
  obtain ⟨hT, hEd, hX, hl, hd, hk, ha⟩ := h
  refine ⟨?_, ?_, ?_, ?_, ?_, ?_, ?_⟩
  · rw [ced_0 (by omega), ced_r (i := 1) (by omega) (by omega), ced_r (i := 2) (by omega) (by omega), ced_r (i := 3) (by omega) (by omega)]
    exact hT
  · rw [ced_0 (by omega), ced_E, ced_r (i := 2) (by omega) (by omega)]
    refine ⟨by omega, fun j u1 u2 => ?_⟩
    by_cases hq : j = c 0 1 + 1
    · subst hq
      rw [ced_4, ced_5, ced_6, ced_7]
      exact ⟨hf.1, hf.2, ht.1, ht.2, by omega, by omega, he, hg, hg2⟩
    · rw [ced_s (by omega) hq, ced_s (by omega) hq, ced_s (by omega) hq, ced_s (by omega) hq]
      exact hEd.2 j u1 (by omega)
  · rw [ced_0 (by omega)]
    refine ⟨hX.1, fun i hi => ?_⟩
    have := hX.2 i hi
    dsimp only at this ⊢
    rw [ced_ax 0 (by omega), ced_ax 1 (by omega), ced_ax 2 (by omega), ced_ax 3 (by omega)]
    exact this
  · rw [ced_0 (by omega)]; exact hl
  · rw [ced_0 (by omega)]; exact hd
  · rw [ced_0 (by omega), ced_r (i := 12) (by omega) (by omega)]; exact hk
  · rw [ced_0 (by omega), ced_r (i := 9) (by omega) (by omega), ced_r (i := 8) (by omega) (by omega)]
    exact ha
theorem c_addEdge {fu : Nat} {A : mwM} {L : mwL} {k : Nat} {va : Nat → Int32} {D : Nat → Int64} {x : Nat → Int32} (hv : Cv c) (h : ReC k A L c b00 va D x) (hf : f ≤ c 0 0) : wq (DX2_addEdge fu k (sI f) (sI t) (sI e) (sI g) A L) (fun z => if c 2 f = 2 ∨ c 2 f = 3 then z = (-2, A, L) else if 400 ≤ c 0 1 then z = (-4, A, L) else z.1 = sI (c 0 1 + 1) ∧ z.2.2 = L ∧ ReC k z.2.1 L (ced c f t e g) b00 va D x ∧ ∀ b y, ¬ (k + 1 ≤ b ∧ b ≤ k + 33) → ¬ (b = k ∧ y = 8) → z.2.1 b y = A b y) := by
  have hT := hv.1
  have hN := hT.1
  have hE4 := hv.2.1.1
  have hpp := Tr_pa hT hf
  obtain ⟨hC, hEC, hXC, hf4, h5, h6, h7, h8⟩ := h
  have e1 := (hC.2 f hf).2.1
  have e8 := hEC.1
  unfold DX2_addEdge fX2_addEdge_b24
  simp (disch := omega) only [e1, e8, mset_s, mset_n, mck_s, sI_nn, nn_s, sI_lt, sI_le, sI_eq, sI_ltl, sI_lel, sI_eql, sI_llt, sI_lle, sI_1, bI_0, bI_1, bI_n, mlet, mb3_s, mb2_s]
  by_cases h2 : c 2 f = 2
  · rw [if_pos h2]
    exact wq_some (by rw [if_pos (Or.inl h2)])
  rw [if_neg h2]
  by_cases h3 : c 2 f = 3
  · rw [if_pos h3]
    exact wq_some (by rw [if_pos (Or.inr h3)])
  rw [if_neg h3]
  by_cases h400 : 400 ≤ c 0 1
  · rw [if_neg (by omega)]
    exact wq_some (by rw [if_neg (by omega), if_pos h400])
  rw [if_pos (by omega)]
  refine wq_some ?_
  rw [if_neg (by omega), if_neg h400]
  refine ⟨rfl, rfl, ?_, ?_⟩
  all_goals (try dsimp only)
  · refine ⟨?_, ?_, ?_, ?_, ?_, ?_, ?_, ?_⟩
    · rw [ced_0 (by omega), ced_r (i := 1) (by omega) (by omega), ced_r (i := 2) (by omega) (by omega), ced_r (i := 3) (by omega) (by omega)]
      refine ⟨?_, fun s hs => ?_⟩
      · simp (disch := omega) only [mset_n]; exact hC.1
      · simp (disch := omega) only [mset_n]; exact hC.2 s hs
    · rw [ced_E]
      refine ⟨?_, fun j u1 u2 => ?_⟩
      · simp (disch := omega) only [mset_n, mset_s]
      · by_cases hq : j = c 0 1 + 1
        · subst hq
          rw [ced_4, ced_5, ced_6, ced_7]
          simp (disch := omega) only [mset_n, mset_s, true_and, and_true]
        · rw [ced_s (by omega) hq, ced_s (by omega) hq, ced_s (by omega) hq, ced_s (by omega) hq]
          simp (disch := omega) only [mset_n]; exact hEC.2 j u1 (by omega)
    · rw [ced_0 (by omega)]
      refine ⟨?_, fun i hi => ?_⟩
      · simp (disch := omega) only [mset_n]; exact hXC.1
      · have := hXC.2 i hi
        dsimp only at this ⊢
        rw [ced_ax 0 (by omega), ced_ax 1 (by omega), ced_ax 2 (by omega), ced_ax 3 (by omega)]
        simp (disch := omega) only [mset_n]; exact this
    · rw [ced_0 (by omega), ced_0 (by omega)]
      simp (disch := omega) only [mset_n]; exact hf4
    · rw [ced_0 (by omega), ced_r (i := 12) (by omega) (by omega), ced_r (i := 1) (by omega) (by omega), ced_r (i := 2) (by omega) (by omega), ced_r (i := 13) (by omega) (by omega)]
      intro s hs
      rw [chK_0]
      simp (disch := omega) only [mset_n]
      have := h5 s hs
      rw [chK_0] at this
      exact this
    · rw [ced_0 (by omega), ced_r (i := 14) (by omega) (by omega)]
      intro s u1 hs
      simp (disch := omega) only [mset_n]; exact h6 s u1 hs
    · rw [ced_0 (by omega), ced_r (i := 3) (by omega) (by omega)]
      refine ⟨fun i v hv => ?_, fun i v hv => ?_⟩
      · simp (disch := omega) only [mset_n]; exact h7.1 i v hv
      · simp (disch := omega) only [mset_n]; exact h7.2 i v hv
    · rw [ced_E]
      intro j u1 u2
      by_cases hq : j = c 0 1 + 1
      · subst hq
        rw [mset_s]
        rfl
      · simp (disch := omega) only [mset_n]; exact h8 j u1 (by omega)
  · intro b y u1 u2
    simp (disch := omega) only [mset_n]
theorem sI_a7 {g : Nat} : sI g &&& 7 = sI (g % 8) := sI_and (m := 3)
theorem m_edge {fu : Nat} {M : mwM} {L : mwL} {q : Nat} {va : Nat → Int32} {D : Nat → Int64} {x : Nat → Int32} (hv : Cv c) (h : ReM q M L c b00 va D x) (hcl : ClM q M L c) (hf : 1 ≤ f ∧ f ≤ c 0 0) (ht : 1 ≤ t ∧ t ≤ c 0 0) (he : e < 1000 ∨ (1000 < e ∧ e < 1201)) (hg : g < 16384) (hg2 : g = 0 ∨ (1 ≤ g % 8 ∧ g % 8 ≤ 6)) : wq (DX13_edge fu q (sI f) (sI t) (sI e) (sI g) M L) (fun z => z.2.2 = L ∧ (∀ a y, ¬ (q ≤ a ∧ a ≤ q + 13) → z.2.1 a y = M a y) ∧ if c 2 f = 2 ∨ c 2 f = 3 then z.1 = -2 ∧ ReM q z.2.1 L c b00 va D x ∧ ClM q z.2.1 L c else if 400 ≤ c 0 1 then z.1 = -4 ∧ ReM q z.2.1 L c b00 va D x ∧ ClM q z.2.1 L c else z.1 = sI (c 0 1 + 1) ∧ ReM q z.2.1 L (ced c f t e g) b00 va D x ∧ ClM q z.2.1 L (ced c f t e g)) := by
  have hT := hv.1
  have hN := hT.1
  have hE4 := hv.2.1.1
  have hpp := Tr_pa hT hf.2
  have h0 : ReM q (mset M q 0 0) L c b00 va D x := ReM_f h (fun a y _ _ u => mset_n (by omega)) (fun _ _ _ => rfl)
  have hcl0 : ClM q (mset M q 0 0) L c := ClM_f hcl (fun a y _ _ u => mset_n (by omega)) (fun _ _ _ => rfl)
  have fr : ∀ a y, ¬ (q ≤ a ∧ a ≤ q + 13) → mset M q 0 0 a y = M a y := fun a y u => mset_n (by omega)
  have h0' := h0
  obtain ⟨hM, hEM, hXM, hf4, h5, h6, h7, h8⟩ := h0'
  have e1 := m_noneC (fu := fu) (L := L) (p := f) hM.1 hN (by omega)
  have e1' := m_noneC (fu := fu) (L := L) (p := t) hM.1 hN (by omega)
  rw [decide_eq_false (by omega)] at e1 e1'
  have e2 := (h.1.2 f hf.2).2.1
  have e27 : M q 27 = bI false := h.2.2.2.1.2.2.2.2.1
  have e12 := h.2.1.1
  have main : ∀ v : Int32, v = 1 → wq (fX13_edge_b104 fu q (sI f) (sI t) (sI e) (sI g) v 1 (mset M q 0 0) L) (fun z => z.2.2 = L ∧ (∀ a y, ¬ (q ≤ a ∧ a ≤ q + 13) → z.2.1 a y = M a y) ∧ if c 2 f = 2 ∨ c 2 f = 3 then z.1 = -2 ∧ ReM q z.2.1 L c b00 va D x ∧ ClM q z.2.1 L c else if 400 ≤ c 0 1 then z.1 = -4 ∧ ReM q z.2.1 L c b00 va D x ∧ ClM q z.2.1 L c else z.1 = sI (c 0 1 + 1) ∧ ReM q z.2.1 L (ced c f t e g) b00 va D x ∧ ClM q z.2.1 L (ced c f t e g)) := by
    intro v hv1
    subst hv1
    unfold fX13_edge_b104 fX13_edge_b136
    simp (disch := omega) only [e2, e27, e12, mset_n, mset_s, mck_s, sI_nn, nn_s, sI_lt, sI_le, sI_eq, sI_ltl, sI_lel, sI_eql, sI_llt, sI_lle, sI_1, bI_0, bI_1, bI_n, mlet, mb3_s, mb2_s]
    by_cases h2 : c 2 f = 2
    · rw [if_pos h2]
      refine wq_some ⟨rfl, fr, ?_⟩
      rw [if_pos (Or.inl h2)]
      exact ⟨rfl, h0, hcl0⟩
    rw [if_neg h2]
    by_cases h3 : c 2 f = 3
    · rw [if_pos h3]
      refine wq_some ⟨rfl, fr, ?_⟩
      rw [if_pos (Or.inr h3)]
      exact ⟨rfl, h0, hcl0⟩
    rw [if_neg h3, if_neg (by decide), if_neg (by decide), if_pos trivial]
    by_cases h400 : 400 ≤ c 0 1
    · rw [if_pos (by omega)]
      refine wq_some ⟨rfl, fr, ?_⟩
      rw [if_neg (by omega), if_pos h400]
      exact ⟨rfl, h0, hcl0⟩
    rw [if_neg (by omega)]
    refine wq_some ⟨rfl, ?_, ?_⟩
    all_goals (try dsimp only)
    · intro a y u
      simp (disch := omega) only [mset_n]
    rw [if_neg (by omega), if_neg h400]
    refine ⟨rfl, ?_, ?_⟩
    · refine ⟨?_, ?_, ?_, ?_, ?_, ?_, ?_, ?_⟩
      · rw [ced_0 (by omega), ced_r (i := 1) (by omega) (by omega), ced_r (i := 2) (by omega) (by omega), ced_r (i := 3) (by omega) (by omega)]
        refine ⟨?_, fun s hs => ?_⟩
        · simp (disch := omega) only [mset_n]; exact h.1.1
        · simp (disch := omega) only [mset_n]; exact h.1.2 s hs
      · rw [ced_E]
        refine ⟨?_, fun j u1 u2 => ?_⟩
        · simp (disch := omega) only [mset_n, mset_s]
        · by_cases hq : j = c 0 1 + 1
          · subst hq
            rw [ced_4, ced_5, ced_6, ced_7]
            simp (disch := omega) only [mset_n, mset_s, true_and, and_true]
          · rw [ced_s (by omega) hq, ced_s (by omega) hq, ced_s (by omega) hq, ced_s (by omega) hq]
            simp (disch := omega) only [mset_n]; exact h.2.1.2 j u1 (by omega)
      · rw [ced_0 (by omega)]
        refine ⟨?_, fun i hi => ?_⟩
        · simp (disch := omega) only [mset_n]; exact h.2.2.1.1
        · have := h.2.2.1.2 i hi
          dsimp only at this ⊢
          rw [ced_ax 0 (by omega), ced_ax 1 (by omega), ced_ax 2 (by omega), ced_ax 3 (by omega)]
          simp (disch := omega) only [mset_n]; exact this
      · rw [ced_0 (by omega), ced_0 (by omega)]
        simp (disch := omega) only [mset_n]; exact h.2.2.2.1
      · rw [ced_0 (by omega), ced_r (i := 12) (by omega) (by omega), ced_r (i := 13) (by omega) (by omega)]
        intro s hs
        simp (disch := omega) only [mset_n]; exact h.2.2.2.2.1 s hs
      · rw [ced_0 (by omega), ced_r (i := 14) (by omega) (by omega)]
        intro s u1 hs
        simp (disch := omega) only [mset_n]; exact h.2.2.2.2.2.1 s u1 hs
      · simp (disch := omega) only [mset_n]; exact h.2.2.2.2.2.2.1
      · rw [ced_E]
        intro j u1 u2
        simp (disch := omega) only [mset_n]
        by_cases hq : j = c 0 1 + 1
        · exact hcl.2 j (by omega) (by omega)
        · exact h.2.2.2.2.2.2.2 j u1 (by omega)
    · refine ⟨?_, ?_⟩
      · rw [ced_0 (by omega)]
        intro s u1 u2
        simp (disch := omega) only [mset_n]; exact hcl.1 s u1 u2
      · rw [ced_E]
        intro j u1 u2
        simp (disch := omega) only [mset_n]; exact hcl.2 j (by omega) u2
  have b61 : ∀ v : Int32, v = 1 → wq (fX13_edge_b61 fu q (sI f) (sI t) (sI e) (sI g) v (mset M q 0 0) L) (fun z => z.2.2 = L ∧ (∀ a y, ¬ (q ≤ a ∧ a ≤ q + 13) → z.2.1 a y = M a y) ∧ if c 2 f = 2 ∨ c 2 f = 3 then z.1 = -2 ∧ ReM q z.2.1 L c b00 va D x ∧ ClM q z.2.1 L c else if 400 ≤ c 0 1 then z.1 = -4 ∧ ReM q z.2.1 L c b00 va D x ∧ ClM q z.2.1 L c else z.1 = sI (c 0 1 + 1) ∧ ReM q z.2.1 L (ced c f t e g) b00 va D x ∧ ClM q z.2.1 L (ced c f t e g)) := by
    intro v hv1
    unfold fX13_edge_b61 fX13_edge_b99
    simp (disch := omega) only [sI_a7, mck_s, sI_nn, nn_s, sI_lt, sI_le, sI_eq, sI_ltl, sI_lel, sI_eql, sI_llt, sI_lle, sI_1, bI_0, bI_1, bI_n, mlet, mb3_s, mb2_s]
    by_cases g0 : g = 0
    · rw [if_pos g0]
      exact main v hv1
    · rw [if_neg g0, if_neg (by omega), if_neg (by omega), if_neg (by omega), if_neg (by omega)]
      exact main v hv1
  unfold DX13_edge
  simp (disch := omega) only [e1, e1', fX13_edge_b42, fX13_edge_b56, mck_s, sI_nn, nn_s, sI_lt, sI_le, sI_eq, sI_ltl, sI_lel, sI_eql, sI_llt, sI_lle, sI_1, bI_0, bI_1, bI_n, mlet, mb3_s, mb2_s]
  rw [if_pos trivial, if_pos trivial, if_neg (by omega), if_neg (by omega), if_neg (by omega)]
  by_cases he1 : e < 1000
  · rw [if_pos he1]
    exact b61 1 rfl
  · rw [if_neg he1, if_neg (by omega), if_neg (by omega)]
    exact b61 1 rfl
end CED
/-! acts, data, ticks -/
theorem chK_c {c c' : Nat → Nat → Nat} {b : Nat → Nat → Bool} {s : Nat} (h0 : c' 0 0 = c 0 0) (h1 : c' 1 = c 1) (h2 : c' 2 = c 2) : chK c' b s = chK c b s := by
  unfold chK
  rw [h0, h1, h2]
theorem ReC_x {k : Nat} {A A' : mwM} {L : mwL} {c c' : Nat → Nat → Nat} {b : Nat → Nat → Bool} {va va' : Nat → Int32} {D : Nat → Int64} {x : Nat → Int32} (h : ReC k A L c b va D x) (hA : ∀ a y, ¬ (a = k ∧ y = 9) → ¬ (k + 29 ≤ a ∧ a ≤ k + 33) → A' a y = A a y) (hc0 : ∀ j, j ≠ 2 → c' 0 j = c 0 j) (hc : ∀ i, 1 ≤ i → i ≤ 7 ∨ 12 ≤ i → c' i = c i) (hX : AxC A' k (c' 0 2) (fun i => c' (8 + i)) va') : ReC k A' L c' b va' D x := by
  have hK : ∀ s, chK c' b s = chK c b s := fun s => chK_c (hc0 0 (by omega)) (hc 1 (by omega) (by omega)) (hc 2 (by omega) (by omega))
  obtain ⟨h1, h2, h3, h4, h5, h6, h7, h8⟩ := h
  unfold ReC ReC'
  rw [hc0 0 (by omega), hc0 1 (by omega), hc0 3 (by omega), hc0 4 (by omega), hc 1 (by omega) (by omega), hc 2 (by omega) (by omega), hc 3 (by omega) (by omega), hc 4 (by omega) (by omega), hc 5 (by omega) (by omega), hc 6 (by omega) (by omega), hc 7 (by omega) (by omega), hc 12 (by omega) (by omega), hc 13 (by omega) (by omega), hc 14 (by omega) (by omega)]
  refine ⟨?_, ?_, hX, ?_, ?_, ?_, ?_, ?_⟩
  · refine ⟨?_, fun s hs => ?_⟩
    · simp (disch := omega) only [hA]; exact h1.1
    · simp (disch := omega) only [hA]; exact h1.2 s hs
  · refine ⟨?_, fun e u1 u2 => ?_⟩
    · simp (disch := omega) only [hA]; exact h2.1
    · simp (disch := omega) only [hA]; exact h2.2 e u1 u2
  · simp (disch := omega) only [hA]; exact h4
  · intro s hs
    rw [hK]
    simp (disch := omega) only [hA]; exact h5 s hs
  · intro s u1 hs
    simp (disch := omega) only [hA]; exact h6 s u1 hs
  · refine ⟨fun i v hv => ?_, fun i v hv => ?_⟩
    · simp (disch := omega) only [hA]; exact h7.1 i v hv
    · simp (disch := omega) only [hA]; exact h7.2 i v hv
  · intro e u1 u2
    simp (disch := omega) only [hA]; exact h8 e u1 u2
theorem ReM_x {q : Nat} {M M' : mwM} {L L' : mwL} {c c' : Nat → Nat → Nat} {b : Nat → Nat → Bool} {va va' : Nat → Int32} {D : Nat → Int64} {x : Nat → Int32} (h : ReM q M L c b va D x) (hM : ∀ a y, ¬ (a = q ∧ (y = 20 ∨ y = 0)) → ¬ (q + 17 ≤ a ∧ a ≤ q + 19) → M' a y = M a y) (hL : ∀ a, a ≠ q + 20 → L' a = L a) (hc0 : ∀ j, j ≠ 2 → c' 0 j = c 0 j) (hc : ∀ i, 1 ≤ i → i ≤ 7 ∨ 12 ≤ i → c' i = c i) (hX : AxM M' L' q (c' 0 2) (fun i => c' (8 + i)) va') : ReM q M' L' c' b va' D x := by
  obtain ⟨h1, h2, h3, h4, h5, h6, h7, h8⟩ := h
  unfold ReM
  rw [hc0 0 (by omega), hc0 1 (by omega), hc0 3 (by omega), hc0 4 (by omega), hc 1 (by omega) (by omega), hc 2 (by omega) (by omega), hc 3 (by omega) (by omega), hc 4 (by omega) (by omega), hc 5 (by omega) (by omega), hc 6 (by omega) (by omega), hc 7 (by omega) (by omega), hc 12 (by omega) (by omega), hc 13 (by omega) (by omega), hc 14 (by omega) (by omega)]
  refine ⟨?_, ?_, hX, ?_, ?_, ?_, ?_, ?_⟩
  · refine ⟨?_, fun s hs => ?_⟩
    · simp (disch := omega) only [hM]; exact h1.1
    · simp (disch := omega) only [hM]; exact h1.2 s hs
  · refine ⟨?_, fun e u1 u2 => ?_⟩
    · simp (disch := omega) only [hM]; exact h2.1
    · simp (disch := omega) only [hM]; exact h2.2 e u1 u2
  · simp (disch := omega) only [hM, hL]; exact h4
  · intro s hs
    simp (disch := omega) only [hM, hL]; exact h5 s hs
  · intro s u1 hs
    simp (disch := omega) only [hM, hL]; exact h6 s u1 hs
  · simp (disch := omega) only [hM]; exact h7
  · intro e u1 u2
    simp (disch := omega) only [hM]; exact h8 e u1 u2
def cax (c : Nat → Nat → Nat) (o w m a : Nat) : Nat → Nat → Nat := fun i j => if i = 0 ∧ j = 2 then c 0 2 + 1 else if i = 8 ∧ j = c 0 2 then o else if i = 9 ∧ j = c 0 2 then w else if i = 10 ∧ j = c 0 2 then m else if i = 11 ∧ j = c 0 2 then a else c i j
def vax (va : Nat → Int32) (n : Nat) (v : Int32) : Nat → Int32 := fun j => if j = n then v else va j
section CAX
variable {c : Nat → Nat → Nat} {o w m a : Nat}
theorem cax_n : cax c o w m a 0 2 = c 0 2 + 1 := by simp [cax]
theorem cax_0 {j : Nat} (h : j ≠ 2) : cax c o w m a 0 j = c 0 j := by simp [cax, h]
theorem cax_r {i : Nat} (h : 1 ≤ i) (h0 : i ≤ 7 ∨ 12 ≤ i) : cax c o w m a i = c i := by
  funext j
  unfold cax
  rw [if_neg (by omega), if_neg (by omega), if_neg (by omega), if_neg (by omega), if_neg (by omega)]
theorem cax_s {i j : Nat} (h : 1 ≤ i) (h0 : j ≠ c 0 2) : cax c o w m a i j = c i j := by
  unfold cax
  rw [if_neg (by omega), if_neg (by omega), if_neg (by omega), if_neg (by omega), if_neg (by omega)]
theorem cax_8 : cax c o w m a 8 (c 0 2) = o := by simp [cax]
theorem cax_9 : cax c o w m a 9 (c 0 2) = w := by simp [cax]
theorem cax_10 : cax c o w m a 10 (c 0 2) = m := by simp [cax]
theorem cax_11 : cax c o w m a 11 (c 0 2) = a := by simp [cax]
theorem Cv_ax (h : Cv c) (ho : o ≤ 400) (ho2 : w = 2 ∨ o ≤ 200) (hw : w ≤ 2) (hm : m < 32) (ha : a ≤ 1) (hn : ¬ 600 ≤ c 0 2) : Cv (cax c o w m a) := by
  obtain ⟨hT, hEd, hX, hl, hd, hk, hA⟩ := h
  unfold Cv
  rw [cax_0 (j := 0) (by omega), cax_0 (j := 1) (by omega), cax_0 (j := 3) (by omega), cax_0 (j := 4) (by omega), cax_r (i := 1) (by omega) (by omega), cax_r (i := 2) (by omega) (by omega), cax_r (i := 3) (by omega) (by omega), cax_r (i := 4) (by omega) (by omega), cax_r (i := 5) (by omega) (by omega), cax_r (i := 6) (by omega) (by omega), cax_r (i := 7) (by omega) (by omega), cax_r (i := 12) (by omega) (by omega)]
  refine ⟨hT, hEd, ?_, hl, hd, hk, ?_⟩
  · rw [cax_n]
    refine ⟨by omega, fun i hi => ?_⟩
    show cax c o w m a 8 i ≤ 400 ∧ cax c o w m a 9 i ≤ 2 ∧ cax c o w m a 10 i < 32 ∧ cax c o w m a 11 i ≤ 1
    by_cases hq : i = c 0 2
    · subst hq
      rw [cax_8, cax_9, cax_10, cax_11]
      exact ⟨ho, hw, hm, ha⟩
    · rw [cax_s (by omega) hq, cax_s (by omega) hq, cax_s (by omega) hq, cax_s (by omega) hq]
      exact hX.2 i (by omega)
  · rw [cax_n]
    intro i hi
    by_cases hq : i = c 0 2
    · subst hq
      rw [cax_8, cax_9]
      exact ho2
    · rw [cax_s (by omega) hq, cax_s (by omega) hq]
      exact hA i (by omega)
theorem c_addAct {fu : Nat} {A : mwM} {L : mwL} {k : Nat} {va : Nat → Int32} {D : Nat → Int64} {x : Nat → Int32} {v : Int32} {ad : Bool} (hv : Cv c) (h : ReC k A L c b00 va D x) (ho : o ≤ 400) (ho2 : w ≠ 2 → o ≤ c 0 0) (hw : w ≤ 2) (hm : m < 32) : wq (DX2_addAct fu k (sI o) (sI w) (sI m) v (bI ad) A L) (fun z => if o = 0 then z = (-1, A, L) else if w ≠ 2 ∧ 2 ≤ c 2 o then z = (-2, A, L) else if 600 ≤ c 0 2 then z = (-4, A, L) else z.1 = sI (c 0 2 + 1) ∧ z.2.2 = L ∧ ReC k z.2.1 L (cax c o w m (if ad = true then 1 else 0)) b00 (vax va (c 0 2) v) D x ∧ ∀ b y, ¬ (k + 29 ≤ b ∧ b ≤ k + 33) → ¬ (b = k ∧ y = 9) → z.2.1 b y = A b y) := by
  have hn := hv.2.2.1.1
  have e9 := h.2.2.1.1
  have main : (w ≠ 2 ∧ 2 ≤ c 2 o → False) → o ≠ 0 → wq (fX2_addAct_b22 fu k (sI o) (sI w) (sI m) v (bI ad) A L) (fun z => if o = 0 then z = (-1, A, L) else if w ≠ 2 ∧ 2 ≤ c 2 o then z = (-2, A, L) else if 600 ≤ c 0 2 then z = (-4, A, L) else z.1 = sI (c 0 2 + 1) ∧ z.2.2 = L ∧ ReC k z.2.1 L (cax c o w m (if ad = true then 1 else 0)) b00 (vax va (c 0 2) v) D x ∧ ∀ b y, ¬ (k + 29 ≤ b ∧ b ≤ k + 33) → ¬ (b = k ∧ y = 9) → z.2.1 b y = A b y) := by
    intro hm0 ho0
    unfold fX2_addAct_b22 fX2_addAct_b104
    simp (disch := omega) only [e9, mset_n, mset_s, mck_s, sI_nn, nn_s, sI_lt, sI_le, sI_eq, sI_ltl, sI_lel, sI_eql, sI_llt, sI_lle, sI_1, bI_0, bI_1, bI_n, mlet, mb3_s, mb2_s]
    by_cases h6 : 600 ≤ c 0 2
    · rw [if_neg (by omega)]
      exact wq_some (by rw [if_neg ho0, if_neg hm0, if_pos h6])
    rw [if_pos (by omega)]
    have fin : ∀ u : Int32, u = sI (if ad = true then 1 else 0) → ∀ A' : mwM, (∀ b y, ¬ (k + 29 ≤ b ∧ b ≤ k + 33 ∧ y = c 0 2) → ¬ (b = k ∧ y = 9) → A' b y = A b y) → A' k 9 = sI (c 0 2 + 1) → A' (k + 29) (c 0 2) = sI o → A' (k + 30) (c 0 2) = sI w → A' (k + 31) (c 0 2) = sI m → A' (k + 32) (c 0 2) = v → A' (k + 33) (c 0 2) = u → (sI (c 0 2 + 1) = sI (c 0 2 + 1) ∧ L = L ∧ ReC k A' L (cax c o w m (if ad = true then 1 else 0)) b00 (vax va (c 0 2) v) D x ∧ ∀ b y, ¬ (k + 29 ≤ b ∧ b ≤ k + 33) → ¬ (b = k ∧ y = 9) → A' b y = A b y) := by
      intro u hu A' g1 g2 g3 g4 g5 g6 g7
      refine ⟨rfl, rfl, ?_, fun b y u1 u2 => g1 b y (by omega) u2⟩
      refine ReC_x h (fun b y u1 u2 => g1 b y (by omega) u1) (fun j hj => cax_0 hj) (fun i u1 u2 => cax_r u1 u2) ?_
      rw [cax_n]
      refine ⟨g2, fun i hi => ?_⟩
      show A' (k + 29) i = sI (cax c o w m (if ad = true then 1 else 0) 8 i) ∧ A' (k + 30) i = sI (cax c o w m (if ad = true then 1 else 0) 9 i) ∧ A' (k + 31) i = sI (cax c o w m (if ad = true then 1 else 0) 10 i) ∧ A' (k + 32) i = vax va (c 0 2) v i ∧ A' (k + 33) i = sI (cax c o w m (if ad = true then 1 else 0) 11 i)
      unfold vax
      by_cases hq : i = c 0 2
      · subst hq
        rw [cax_8, cax_9, cax_10, cax_11, if_pos rfl]
        exact ⟨g3, g4, g5, g6, g7.trans hu⟩
      · rw [cax_s (by omega) hq, cax_s (by omega) hq, cax_s (by omega) hq, cax_s (by omega) hq, if_neg hq]
        simp (disch := omega) only [g1]
        exact h.2.2.1.2 i (by omega)
    cases ad with
    | false =>
      rw [if_pos rfl]
      refine wq_some ?_
      rw [if_neg ho0, if_neg hm0, if_neg h6]
      refine fin (sI 0) rfl _ ?_ ?_ ?_ ?_ ?_ ?_ ?_
      · intro b y u1 u2
        simp (disch := omega) only [mset_n]
      all_goals simp (disch := omega) only [mset_n, mset_s]
      rfl
    | true =>
      rw [if_neg (by decide)]
      refine wq_some ?_
      rw [if_neg ho0, if_neg hm0, if_neg h6]
      refine fin (sI 1) rfl _ ?_ ?_ ?_ ?_ ?_ ?_ ?_
      · intro b y u1 u2
        simp (disch := omega) only [mset_n]
      all_goals simp (disch := omega) only [mset_n, mset_s]
      rfl
  unfold DX2_addAct
  simp (disch := omega) only [mck_s, sI_nn, nn_s, sI_lt, sI_le, sI_eq, sI_ltl, sI_lel, sI_eql, sI_llt, sI_lle, sI_1, bI_0, bI_1, bI_n, mlet, mb3_s, mb2_s]
  by_cases ho0 : o = 0
  · rw [if_pos ho0]
    exact wq_some (by rw [if_pos ho0])
  rw [if_neg ho0]
  by_cases hw2 : w = 2
  · rw [if_pos hw2]
    exact main (fun z => z.1 hw2) ho0
  rw [if_neg hw2, c_isMark hv.1 h.1 (ho2 hw2)]
  simp (disch := omega) only [mck_s, sI_nn, nn_s, sI_lt, sI_le, sI_eq, sI_ltl, sI_lel, sI_eql, sI_llt, sI_lle, sI_1, bI_0, bI_1, bI_n, mlet, mb3_s, mb2_s]
  by_cases hk : 2 ≤ c 2 o
  · rw [if_neg (by simp [hk])]
    exact wq_some (by rw [if_neg ho0, if_pos ⟨hw2, hk⟩])
  · rw [if_pos (by simp [hk])]
    exact main (fun z => hk z.2) ho0
theorem m_act {fu : Nat} {M : mwM} {L : mwL} {q : Nat} {va : Nat → Int32} {D : Nat → Int64} {x : Nat → Int32} {v : Int32} {ad : Bool} (hv : Cv c) (h : ReM q M L c b00 va D x) (hcl : ClM q M L c) (ho : o ≤ 400) (ho2 : w ≠ 2 → o ≤ c 0 0) (ho3 : w = 2 → o ≤ c 0 1) (hw : w ≤ 2) (hm : m < 32) : wq (DX13_act fu q (sI o) (sI (w + 3 * (if ad = true then 1 else 0))) (sI m) v.toInt64 M L) (fun z => (∀ b, b ≠ q + 20 → z.2.2 b = L b) ∧ (∀ b y, ¬ (q ≤ b ∧ b ≤ q + 19) → z.2.1 b y = M b y) ∧ if o = 0 then z.1 = -1 ∧ ReM q z.2.1 z.2.2 c b00 va D x ∧ ClM q z.2.1 z.2.2 c else if w ≠ 2 ∧ 2 ≤ c 2 o then z.1 = -2 ∧ ReM q z.2.1 z.2.2 c b00 va D x ∧ ClM q z.2.1 z.2.2 c else if 600 ≤ c 0 2 then z.1 = -4 ∧ ReM q z.2.1 z.2.2 c b00 va D x ∧ ClM q z.2.1 z.2.2 c else z.1 = sI (c 0 2 + 1) ∧ ReM q z.2.1 z.2.2 (cax c o w m (if ad = true then 1 else 0)) b00 (vax va (c 0 2) v) D x ∧ ClM q z.2.1 z.2.2 (cax c o w m (if ad = true then 1 else 0))) := by
  have hT := hv.1
  have hN := hT.1
  have hE4 := hv.2.1.1
  have hn := hv.2.2.1.1
  have h0 : ReM q (mset M q 0 0) L c b00 va D x := ReM_f h (fun a y _ _ u => mset_n (by omega)) (fun _ _ _ => rfl)
  have hcl0 : ClM q (mset M q 0 0) L c := ClM_f hcl (fun a y _ _ u => mset_n (by omega)) (fun _ _ _ => rfl)
  have fr : ∀ b y, ¬ (q ≤ b ∧ b ≤ q + 19) → mset M q 0 0 b y = M b y := fun a y u => mset_n (by omega)
  have e2 : M q 2 = sI (c 0 0) := h.1.1
  have e12 : M q 12 = sI (c 0 1) := h.2.1.1
  have e20 : M q 20 = sI (c 0 2) := h.2.2.1.1
  have e27 : M q 27 = bI false := h.2.2.2.1.2.2.2.2.1
  obtain ⟨a, ha⟩ : ∃ a, a = (if ad = true then 1 else 0 : Nat) := ⟨_, rfl⟩
  have ha1 : a ≤ 1 := by rw [ha]; split <;> omega
  rw [← ha]
  have main : (w ≠ 2 ∧ 2 ≤ c 2 o → False) → o ≠ 0 → wq (fX13_act_b84 fu q (sI o) (sI (w + 3 * a)) (sI m) v.toInt64 (mset M q 0 0) L) (fun z => (∀ b, b ≠ q + 20 → z.2.2 b = L b) ∧ (∀ b y, ¬ (q ≤ b ∧ b ≤ q + 19) → z.2.1 b y = M b y) ∧ if o = 0 then z.1 = -1 ∧ ReM q z.2.1 z.2.2 c b00 va D x ∧ ClM q z.2.1 z.2.2 c else if w ≠ 2 ∧ 2 ≤ c 2 o then z.1 = -2 ∧ ReM q z.2.1 z.2.2 c b00 va D x ∧ ClM q z.2.1 z.2.2 c else if 600 ≤ c 0 2 then z.1 = -4 ∧ ReM q z.2.1 z.2.2 c b00 va D x ∧ ClM q z.2.1 z.2.2 c else z.1 = sI (c 0 2 + 1) ∧ ReM q z.2.1 z.2.2 (cax c o w m a) b00 (vax va (c 0 2) v) D x ∧ ClM q z.2.1 z.2.2 (cax c o w m a)) := by
    intro hm0 ho0
    unfold fX13_act_b84
    simp (disch := omega) only [e20, e27, mset_n, mset_s, mck_s, sI_nn, nn_s, sI_lt, sI_le, sI_eq, sI_ltl, sI_lel, sI_eql, sI_llt, sI_lle, sI_1, bI_0, bI_1, bI_n, mlet, mb3_s, mb2_s]
    rw [if_pos trivial]
    by_cases h6 : 600 ≤ c 0 2
    · rw [if_pos (by omega)]
      refine wq_some ⟨fun _ _ => rfl, fr, ?_⟩
      rw [if_neg ho0, if_neg hm0, if_pos h6]
      exact ⟨rfl, h0, hcl0⟩
    rw [if_neg (by omega)]
    refine wq_some ⟨fun b hb => mset_rown hb, ?_, ?_⟩
    all_goals (try dsimp only)
    · intro b y u1
      simp (disch := omega) only [mset_n]
    rw [if_neg ho0, if_neg hm0, if_neg h6]
    refine ⟨rfl, ?_, ?_⟩
    · refine ReM_x h (fun b y u1 u2 => by simp (disch := omega) only [mset_n]) (fun b hb => mset_rown hb) (fun j hj => cax_0 hj) (fun i u1 u2 => cax_r u1 u2) ?_
      rw [cax_n]
      refine ⟨by simp (disch := omega) only [mset_n, mset_s], fun i hi => ?_⟩
      show _ = sI (cax c o w m a 8 i) ∧ _ = sI (cax c o w m a 9 i + 3 * cax c o w m a 11 i) ∧ _ = sI (cax c o w m a 10 i) ∧ _ = (vax va (c 0 2) v i).toInt64
      unfold vax
      by_cases hq : i = c 0 2
      · subst hq
        rw [cax_8, cax_9, cax_10, cax_11, if_pos rfl]
        simp (disch := omega) only [mset_n, mset_s, and_true, true_and]
      · rw [cax_s (by omega) hq, cax_s (by omega) hq, cax_s (by omega) hq, cax_s (by omega) hq, if_neg hq]
        simp (disch := omega) only [mset_n]
        exact h.2.2.1.2 i (by omega)
    · refine ⟨?_, ?_⟩
      · rw [cax_0 (by omega)]
        intro s u1 u2
        simp (disch := omega) only [mset_n]
        exact hcl.1 s u1 u2
      · rw [cax_0 (by omega)]
        intro s u1 u2
        simp (disch := omega) only [mset_n]
        exact hcl.2 s u1 u2
  have stop1 : o = 0 → wq (fX13_act_b47 fu q (sI o) (sI (w + 3 * a)) (sI m) v.toInt64 (mset M q 0 0) L) (fun z => (∀ b, b ≠ q + 20 → z.2.2 b = L b) ∧ (∀ b y, ¬ (q ≤ b ∧ b ≤ q + 19) → z.2.1 b y = M b y) ∧ if o = 0 then z.1 = -1 ∧ ReM q z.2.1 z.2.2 c b00 va D x ∧ ClM q z.2.1 z.2.2 c else if w ≠ 2 ∧ 2 ≤ c 2 o then z.1 = -2 ∧ ReM q z.2.1 z.2.2 c b00 va D x ∧ ClM q z.2.1 z.2.2 c else if 600 ≤ c 0 2 then z.1 = -4 ∧ ReM q z.2.1 z.2.2 c b00 va D x ∧ ClM q z.2.1 z.2.2 c else z.1 = sI (c 0 2 + 1) ∧ ReM q z.2.1 z.2.2 (cax c o w m a) b00 (vax va (c 0 2) v) D x ∧ ClM q z.2.1 z.2.2 (cax c o w m a)) := by
    intro ho0
    unfold fX13_act_b47
    refine wq_some ⟨fun _ _ => rfl, fr, ?_⟩
    rw [if_pos ho0]
    exact ⟨rfl, h0, hcl0⟩
  have n2 : mset M q 0 0 q 2 = sI (c 0 0) := (mset_j (by omega)).trans e2
  have n12 : mset M q 0 0 q 12 = sI (c 0 1) := (mset_j (by omega)).trans e12
  have ko : sI o < 1 ↔ o < 1 := sI_ltl (by omega) (by decide)
  have b44 : ∀ (v6 : Int32) (n : Nat), n ≤ 400 → o ≤ n → o ≠ 0 → fX13_act_b44 fu q (sI o) (sI (w + 3 * a)) (sI m) v.toInt64 v6 (sI n) (mset M q 0 0) L = if v6 = 0 then mb3 (DX13_mark fu q (sI o) (mset M q 0 0) L) (fun r11 M9 L10 => (if r11 = 0 then fX13_act_b84 fu q (sI o) (sI (w + 3 * a)) (sI m) v.toInt64 M9 L10 else fX13_act_b81 fu q (sI o) (sI (w + 3 * a)) (sI m) v.toInt64 M9 L10)) else fX13_act_b84 fu q (sI o) (sI (w + 3 * a)) (sI m) v.toInt64 (mset M q 0 0) L := by
    intro v6 n hn1 hn2 ho0
    unfold fX13_act_b44
    rw [if_pos (by rw [sI_le (by omega) (by omega)]; exact hn2), if_neg (by rw [sI_ltl (by omega) (by decide)]; omega), if_neg (by rw [sI_llt (by decide) (by omega)]; omega), if_neg (by rw [sI_ltl (by omega) (by decide)]; omega), if_neg (by rw [sI_llt (by decide) (by omega)]; omega)]
  unfold DX13_act
  simp only [mlet]
  by_cases ho0 : o = 0
  · have := stop1 ho0
    have e0 : sI o < 1 := ko.mpr (by omega)
    have s20 : ∀ s0, fX13_act_b20 fu q (sI o) (sI (w + 3 * a)) (sI m) v.toInt64 s0 (mset M q 0 0) L = fX13_act_b47 fu q (sI o) (sI (w + 3 * a)) (sI m) v.toInt64 (mset M q 0 0) L := by
      intro s0
      unfold fX13_act_b20
      rw [if_pos e0]
    unfold fX13_act_b15
    rw [s20, s20]
    exact wq_if (fun _ => this) (fun _ => wq_if (fun _ => this) (fun _ => this))
  have e0 : ¬ (sI o < 1) := fun z => by have := ko.mp z; omega
  by_cases hw2 : w = 2
  · have : ∀ G : Option (Int32 × mwM × mwL), (if sI (w + 3 * a) = 2 then fX13_act_b15 fu q (sI o) (sI (w + 3 * a)) (sI m) v.toInt64 (mset M q 0 0) L else if sI (w + 3 * a) = 5 then fX13_act_b15 fu q (sI o) (sI (w + 3 * a)) (sI m) v.toInt64 (mset M q 0 0) L else G) = fX13_act_b15 fu q (sI o) (sI (w + 3 * a)) (sI m) v.toInt64 (mset M q 0 0) L := by
      intro G
      by_cases ha0 : a = 0
      · rw [if_pos (by rw [hw2, ha0]; rfl)]
      · rw [if_neg (by rw [sI_eql (by omega) (by decide)]; omega), if_pos (by rw [hw2, show a = 1 by omega]; rfl)]
    rw [this]
    unfold fX13_act_b15 fX13_act_b20
    rw [if_neg e0, if_neg (by decide), n12, b44 _ _ (by omega) (ho3 hw2) ho0, if_neg (by decide)]
    exact main (fun z => z.1 hw2) ho0
  · rw [if_neg (by rw [sI_eql (by omega) (by decide)]; omega), if_neg (by rw [sI_eql (by omega) (by decide)]; omega)]
    unfold fX13_act_b20
    rw [if_neg e0, if_pos rfl, n2, b44 _ _ (by omega) (ho2 hw2) ho0, if_pos rfl, m_mark hT h0.1 (ho2 hw2), mb3_s]
    by_cases hk : 2 ≤ c 2 o
    · rw [decide_eq_true hk, if_neg (by decide)]
      unfold fX13_act_b81
      refine wq_some ⟨fun _ _ => rfl, fr, ?_⟩
      rw [if_neg ho0, if_pos ⟨hw2, hk⟩]
      exact ⟨rfl, h0, hcl0⟩
    · rw [decide_eq_false hk, if_pos bI_f]
      exact main (fun z => hk z.2) ho0
end CAX
/-! data and ticks -/
def cda (c : Nat → Nat → Nat) : Nat → Nat → Nat := fun i j => if i = 0 ∧ j = 4 then c 0 4 + 1 else c i j
def Dda (D : Nat → Int64) (n : Nat) (v : Int64) : Nat → Int64 := fun j => if j = n then v else D j
def ctk (c : Nat → Nat → Nat) (s n : Nat) : Nat → Nat → Nat := fun i j => if i = 12 ∧ j = s then n else c i j
theorem cda_r {c : Nat → Nat → Nat} {i : Nat} (h : 1 ≤ i) : cda c i = c i := by
  funext j
  unfold cda
  rw [if_neg (by omega)]
theorem cda_0 {c : Nat → Nat → Nat} {j : Nat} (h : j ≠ 4) : cda c 0 j = c 0 j := by simp [cda, h]
theorem cda_4 {c : Nat → Nat → Nat} : cda c 0 4 = c 0 4 + 1 := by simp [cda]
theorem ctk_r {c : Nat → Nat → Nat} {s n i : Nat} (h : i ≠ 12) : ctk c s n i = c i := by
  funext j
  unfold ctk
  rw [if_neg (by omega)]
theorem ctk_s {c : Nat → Nat → Nat} {s n : Nat} : ctk c s n 12 s = n := by simp [ctk]
theorem ctk_n {c : Nat → Nat → Nat} {s n j : Nat} (h : j ≠ s) : ctk c s n 12 j = c 12 j := by simp [ctk, h]
theorem Cv_da {c : Nat → Nat → Nat} (h : Cv c) (hd : ¬ 32 ≤ c 0 4) : Cv (cda c) := by
  unfold Cv at *
  simp only [cda_0 (c := c) (j := 0) (by omega), cda_0 (c := c) (j := 1) (by omega), cda_0 (c := c) (j := 2) (by omega), cda_0 (c := c) (j := 3) (by omega), cda_4, cda_r (c := c) (i := 1) (by omega), cda_r (c := c) (i := 2) (by omega), cda_r (c := c) (i := 3) (by omega), cda_r (c := c) (i := 4) (by omega), cda_r (c := c) (i := 5) (by omega), cda_r (c := c) (i := 6) (by omega), cda_r (c := c) (i := 7) (by omega), cda_r (c := c) (i := 8) (by omega), cda_r (c := c) (i := 9) (by omega), cda_r (c := c) (i := 12) (by omega)]
  have e : (fun i => cda c (8 + i)) = fun i => c (8 + i) := by
    funext i
    exact cda_r (by omega)
  rw [e]
  exact ⟨h.1, h.2.1, h.2.2.1, h.2.2.2.1, by omega, h.2.2.2.2.2⟩
theorem Cv_tk {c : Nat → Nat → Nat} {s n : Nat} (h : Cv c) (hn : n ≤ 20000) : Cv (ctk c s n) := by
  unfold Cv at *
  simp only [ctk_r (c := c) (s := s) (n := n) (i := 0) (by omega), ctk_r (c := c) (s := s) (n := n) (i := 1) (by omega), ctk_r (c := c) (s := s) (n := n) (i := 2) (by omega), ctk_r (c := c) (s := s) (n := n) (i := 3) (by omega), ctk_r (c := c) (s := s) (n := n) (i := 4) (by omega), ctk_r (c := c) (s := s) (n := n) (i := 5) (by omega), ctk_r (c := c) (s := s) (n := n) (i := 6) (by omega), ctk_r (c := c) (s := s) (n := n) (i := 7) (by omega), ctk_r (c := c) (s := s) (n := n) (i := 8) (by omega), ctk_r (c := c) (s := s) (n := n) (i := 9) (by omega)]
  refine ⟨h.1, h.2.1, ?_, h.2.2.2.1, h.2.2.2.2.1, ?_, h.2.2.2.2.2.2⟩
  · refine ⟨h.2.2.1.1, fun i hi => ?_⟩
    have := h.2.2.1.2 i hi
    dsimp only at this ⊢
    rw [ctk_r (by omega), ctk_r (by omega), ctk_r (by omega), ctk_r (by omega)]
    exact this
  · intro t ht
    by_cases hq : t = s
    · rw [hq, ctk_s]; exact hn
    · rw [ctk_n hq]; exact h.2.2.2.2.2.1 t ht
theorem c_addDatum {fu : Nat} {A : mwM} {L : mwL} {k : Nat} {c : Nat → Nat → Nat} {b : Nat → Nat → Bool} {va : Nat → Int32} {D : Nat → Int64} {x : Nat → Int32} {v : Int32} (hv : Cv c) (h : ReC k A L c b va D x) : wq (DX2_addDatum fu k v A L) (fun z => if 32 ≤ c 0 4 then z = (-4, A, L) else z.1 = sI (c 0 4) ∧ ReC k z.2.1 z.2.2 (cda c) b va (Dda D (c 0 4) v.toInt64) x ∧ (∀ a y, ¬ (a = k ∧ y = 10) → z.2.1 a y = A a y) ∧ ∀ a, a ≠ k + 34 → z.2.2 a = L a) := by
  have hd := hv.2.2.2.2.1
  obtain ⟨h1, h2, h3, h4, h5, h6, h7, h8⟩ := h
  have e10 := h4.2.1
  unfold DX2_addDatum
  simp (disch := omega) only [e10, mset_s, mck_s, sI_nn, nn_s, sI_lt, sI_le, sI_eq, sI_ltl, sI_lel, sI_eql, sI_llt, sI_lle, sI_1, bI_0, bI_1, bI_n, mlet, mb3_s, mb2_s, sI_m1]
  by_cases hq : 32 ≤ c 0 4
  · rw [if_neg (by omega)]
    exact wq_some (by rw [if_pos hq])
  rw [if_pos (by omega)]
  refine wq_some ?_
  rw [if_neg hq]
  refine ⟨rfl, ?_, fun a y u => mset_n u, fun a u => mset_rown u⟩
  try dsimp only
  have e : (fun i => cda c (8 + i)) = fun i => c (8 + i) := by
    funext i
    exact cda_r (by omega)
  have hK : ∀ s, chK (cda c) b s = chK c b s := fun s => chK_c (cda_0 (by omega)) (cda_r (by omega)) (cda_r (by omega))
  unfold ReC ReC'
  simp only [hK, e, cda_0 (c := c) (j := 0) (by omega), cda_0 (c := c) (j := 1) (by omega), cda_0 (c := c) (j := 2) (by omega), cda_0 (c := c) (j := 3) (by omega), cda_4, cda_r (c := c) (i := 1) (by omega), cda_r (c := c) (i := 2) (by omega), cda_r (c := c) (i := 3) (by omega), cda_r (c := c) (i := 4) (by omega), cda_r (c := c) (i := 5) (by omega), cda_r (c := c) (i := 6) (by omega), cda_r (c := c) (i := 7) (by omega), cda_r (c := c) (i := 12) (by omega), cda_r (c := c) (i := 13) (by omega), cda_r (c := c) (i := 14) (by omega)]
  refine ⟨?_, ?_, ?_, ?_, ?_, ?_, ?_, ?_⟩
  · exact TrC_f h1 (mset_j (by omega)) (fun a s u1 u2 => mset_k (by omega))
  · refine ⟨?_, fun e u1 u2 => ?_⟩
    · simp (disch := omega) only [mset_n]; exact h2.1
    · simp (disch := omega) only [mset_n]; exact h2.2 e u1 u2
  · refine ⟨?_, fun i hi => ?_⟩
    · simp (disch := omega) only [mset_n]; exact h3.1
    · simp (disch := omega) only [mset_n]; exact h3.2 i hi
  · refine ⟨?_, ?_, ?_, ?_, ?_, ?_⟩
    · simp (disch := omega) only [mset_n]; exact h4.1
    · rw [mset_s]
    · simp (disch := omega) only [mset_n]; exact h4.2.2.1
    · simp (disch := omega) only [mset_n]; exact h4.2.2.2.1
    · simp (disch := omega) only [mset_n]; exact h4.2.2.2.2.1
    · rw [mset_row, h4.2.2.2.2.2]; rfl
  · intro s hs
    simp (disch := omega) only [mset_n]; exact h5 s hs
  · intro s u1 hs
    simp (disch := omega) only [mset_n]; exact h6 s u1 hs
  · refine ⟨fun i v hv => ?_, fun i v hv => ?_⟩
    · simp (disch := omega) only [mset_n]; exact h7.1 i v hv
    · simp (disch := omega) only [mset_n]; exact h7.2 i v hv
  · intro e u1 u2
    simp (disch := omega) only [mset_n]; exact h8 e u1 u2
theorem m_data {fu : Nat} {M : mwM} {L : mwL} {q : Nat} {c : Nat → Nat → Nat} {b : Nat → Nat → Bool} {va : Nat → Int32} {D : Nat → Int64} {x : Nat → Int32} {v : Int64} (hv : Cv c) (h : ReM q M L c b va D x) (hcl : ClM q M L c) : wq (DX13_data fu q v M L) (fun z => (∀ a y, a ≠ q → z.2.1 a y = M a y) ∧ (∀ a, a ≠ q + 21 → z.2.2 a = L a) ∧ if 32 ≤ c 0 4 then z.1 = 0 ∧ z.2.1 q 0 = 1 ∧ ReM q z.2.1 z.2.2 c b va D x ∧ ClM q z.2.1 z.2.2 c else z.1 = sI (c 0 4) ∧ z.2.1 q 0 = 0 ∧ ReM q z.2.1 z.2.2 (cda c) b va (Dda D (c 0 4) v) x ∧ ClM q z.2.1 z.2.2 (cda c)) := by
  have hd := hv.2.2.2.2.1
  have h' := h
  obtain ⟨h1, h2, h3, h4, h5, h6, h7, h8⟩ := h'
  have e26 := h4.2.1
  unfold DX13_data fX13_data_b15
  simp (disch := omega) only [e26, mset_s, mset_n, mck_s, sI_nn, nn_s, sI_lt, sI_le, sI_eq, sI_ltl, sI_lel, sI_eql, sI_llt, sI_lle, sI_1, bI_0, bI_1, bI_n, mlet, mb3_s, mb2_s, sI_m1]
  by_cases hq : 32 ≤ c 0 4
  · rw [if_pos (by omega), if_neg (by decide)]
    refine wq_some ⟨fun a y u => mset_k u, fun _ _ => rfl, ?_⟩
    rw [if_pos hq]
    exact ⟨rfl, mset_s, ReM_f h (fun a y _ _ u => mset_n (by omega)) (fun _ _ _ => rfl), ClM_f hcl (fun a y _ _ u => mset_n (by omega)) (fun _ _ _ => rfl)⟩
  rw [if_neg (by omega), if_pos (by decide)]
  refine wq_some ⟨?_, fun a u => mset_rown u, ?_⟩
  all_goals (try dsimp only)
  · intro a y u
    simp (disch := omega) only [mset_n]
  rw [if_neg hq]
  refine ⟨rfl, ?_, ?_, ?_⟩
  · simp (disch := omega) only [mset_n, mset_s]
  · have e : (fun i => cda c (8 + i)) = fun i => c (8 + i) := by
      funext i
      exact cda_r (by omega)
    unfold ReM
    simp only [e, cda_0 (c := c) (j := 0) (by omega), cda_0 (c := c) (j := 1) (by omega), cda_0 (c := c) (j := 2) (by omega), cda_0 (c := c) (j := 3) (by omega), cda_4, cda_r (c := c) (i := 1) (by omega), cda_r (c := c) (i := 2) (by omega), cda_r (c := c) (i := 3) (by omega), cda_r (c := c) (i := 4) (by omega), cda_r (c := c) (i := 5) (by omega), cda_r (c := c) (i := 6) (by omega), cda_r (c := c) (i := 7) (by omega), cda_r (c := c) (i := 12) (by omega), cda_r (c := c) (i := 13) (by omega), cda_r (c := c) (i := 14) (by omega)]
    refine ⟨?_, ?_, ?_, ?_, ?_, ?_, ?_, ?_⟩
    · refine ⟨?_, fun s hs => ?_⟩
      · simp (disch := omega) only [mset_n]; exact h1.1
      · simp (disch := omega) only [mset_n]; exact h1.2 s hs
    · refine ⟨?_, fun e u1 u2 => ?_⟩
      · simp (disch := omega) only [mset_n]; exact h2.1
      · simp (disch := omega) only [mset_n]; exact h2.2 e u1 u2
    · refine ⟨?_, fun i hi => ?_⟩
      · simp (disch := omega) only [mset_n]; exact h3.1
      · simp (disch := omega) only [mset_n]; exact h3.2 i hi
    · refine ⟨?_, ?_, ?_, ?_, ?_, ?_, ?_⟩
      · simp (disch := omega) only [mset_n]; exact h4.1
      · rw [mset_s]
      · simp (disch := omega) only [mset_n]; exact h4.2.2.1
      · simp (disch := omega) only [mset_n]; exact h4.2.2.2.1
      · simp (disch := omega) only [mset_n]; exact h4.2.2.2.2.1
      · rw [mset_row, h4.2.2.2.2.2.1]; rfl
      · simp (disch := omega) only [mset_n]; exact h4.2.2.2.2.2.2
    · intro s hs
      simp (disch := omega) only [mset_n]; exact h5 s hs
    · intro s u1 hs
      simp (disch := omega) only [mset_n]; exact h6 s u1 hs
    · simp (disch := omega) only [mset_n]; exact h7
    · intro e u1 u2
      simp (disch := omega) only [mset_n]; exact h8 e u1 u2
  · unfold ClM
    rw [cda_0 (by omega), cda_0 (by omega)]
    refine ⟨fun s u1 u2 => ?_, fun s u1 u2 => ?_⟩
    · simp (disch := omega) only [mset_n]; exact hcl.1 s u1 u2
    · simp (disch := omega) only [mset_n]; exact hcl.2 s u1 u2
theorem c_setTicks {fu : Nat} {A : mwM} {L : mwL} {k s n : Nat} {c : Nat → Nat → Nat} {b : Nat → Nat → Bool} {va : Nat → Int32} {D : Nat → Int64} {x : Nat → Int32} (hv : Cv c) (h : ReC k A L c b va D x) (hs : s ≤ c 0 0) : wq (DX2_setTicks fu k (sI s) (sI n) A L) (fun z => if 2 ≤ c 2 s then z = (-2, A, L) else z.1 = sI (1000 + s) ∧ z.2.2 = L ∧ ReC k z.2.1 L (ctk c s n) b va D x ∧ ∀ a y, a ≠ k + 5 → z.2.1 a y = A a y) := by
  have hN := hv.1.1
  have em := c_isMark (fu := fu) (L := L) hv.1 h.1 hs
  obtain ⟨h1, h2, h3, h4, h5, h6, h7, h8⟩ := h
  unfold DX2_setTicks
  simp (disch := omega) only [em, mck_s, sI_nn, nn_s, sI_lt, sI_le, sI_eq, sI_ltl, sI_lel, sI_eql, sI_llt, sI_lle, sI_1, bI_0, bI_1, bI_n, mlet, mb3_s, mb2_s, sI_lad]
  by_cases hq : 2 ≤ c 2 s
  · rw [if_neg (by simp [hq])]
    exact wq_some (by rw [if_pos hq])
  rw [if_pos (by simp [hq])]
  refine wq_some ?_
  rw [if_neg hq]
  refine ⟨rfl, rfl, ?_, fun a y u => mset_k u⟩
  try dsimp only
  have e : (fun i => ctk c s n (8 + i)) 0 = c 8 ∧ (fun i => ctk c s n (8 + i)) 1 = c 9 ∧ (fun i => ctk c s n (8 + i)) 2 = c 10 ∧ (fun i => ctk c s n (8 + i)) 3 = c 11 := ⟨ctk_r (by omega), ctk_r (by omega), ctk_r (by omega), ctk_r (by omega)⟩
  have hK : ∀ t, chK (ctk c s n) b t = chK c b t := fun t => chK_c (by rw [ctk_r (by omega)]) (ctk_r (by omega)) (ctk_r (by omega))
  unfold ReC ReC'
  simp only [hK, ctk_r (c := c) (s := s) (n := n) (i := 0) (by omega), ctk_r (c := c) (s := s) (n := n) (i := 1) (by omega), ctk_r (c := c) (s := s) (n := n) (i := 2) (by omega), ctk_r (c := c) (s := s) (n := n) (i := 3) (by omega), ctk_r (c := c) (s := s) (n := n) (i := 4) (by omega), ctk_r (c := c) (s := s) (n := n) (i := 5) (by omega), ctk_r (c := c) (s := s) (n := n) (i := 6) (by omega), ctk_r (c := c) (s := s) (n := n) (i := 7) (by omega), ctk_r (c := c) (s := s) (n := n) (i := 13) (by omega), ctk_r (c := c) (s := s) (n := n) (i := 14) (by omega)]
  refine ⟨?_, ?_, ?_, ?_, ?_, ?_, ?_, ?_⟩
  · exact TrC_f h1 (mset_k (by omega)) (fun a s u1 u2 => mset_k (by omega))
  · refine ⟨?_, fun e u1 u2 => ?_⟩
    · simp (disch := omega) only [mset_n]; exact h2.1
    · simp (disch := omega) only [mset_n]; exact h2.2 e u1 u2
  · refine ⟨?_, fun i hi => ?_⟩
    · simp (disch := omega) only [mset_n]; exact h3.1
    · simp (disch := omega) only [mset_n]
      try dsimp only
      rw [ctk_r (by omega), ctk_r (by omega), ctk_r (by omega), ctk_r (by omega)]
      exact h3.2 i hi
  · simp (disch := omega) only [mset_n]; exact h4
  · intro t ht
    have := h5 t ht
    refine ⟨?_, ?_⟩
    · by_cases hts : t = s
      · subst hts
        rw [mset_s, ctk_s]
      · rw [mset_j hts, ctk_n hts]; exact this.1
    · simp (disch := omega) only [mset_n]; exact this.2
  · intro s u1 hs
    simp (disch := omega) only [mset_n]; exact h6 s u1 hs
  · refine ⟨fun i v hv => ?_, fun i v hv => ?_⟩
    · simp (disch := omega) only [mset_n]; exact h7.1 i v hv
    · simp (disch := omega) only [mset_n]; exact h7.2 i v hv
  · intro e u1 u2
    simp (disch := omega) only [mset_n]; exact h8 e u1 u2
theorem m_after {fu : Nat} {M : mwM} {L : mwL} {q s n : Nat} {c : Nat → Nat → Nat} {va : Nat → Int32} {D : Nat → Int64} {x : Nat → Int32} (hv : Cv c) (h : ReM q M L c b00 va D x) (hcl : ClM q M L c) (hs : 1 ≤ s ∧ s ≤ c 0 0) (hn : 1 ≤ n ∧ n ≤ 20000) : wq (DX13_after fu q (sI s) (sL n) M L) (fun z => (∀ a y, a ≠ q → z.2.1 a y = M a y) ∧ (∀ a, a ≠ q + 5 → z.2.2 a = L a) ∧ if 2 ≤ c 2 s then z.1 = -2 ∧ ReM q z.2.1 z.2.2 c b00 va D x ∧ ClM q z.2.1 z.2.2 c else z.1 = sI (1000 + s) ∧ ReM q z.2.1 z.2.2 (ctk c s n) b00 va D x ∧ ClM q z.2.1 z.2.2 (ctk c s n)) := by
  have hN := hv.1.1
  have h0 : ReM q (mset M q 0 0) L c b00 va D x := ReM_f h (fun a y _ _ u => mset_n (by omega)) (fun _ _ _ => rfl)
  have hcl0 : ClM q (mset M q 0 0) L c := ClM_f hcl (fun a y _ _ u => mset_n (by omega)) (fun _ _ _ => rfl)
  have e1 := m_noneC (fu := fu) (L := L) (p := s) h0.1.1 hN (by omega)
  rw [decide_eq_false (by omega)] at e1
  have em := m_mark (fu := fu) (L := L) hv.1 h0.1 hs.2
  have e27 : mset M q 0 0 q 27 = bI false := h0.2.2.2.1.2.2.2.2.1
  obtain ⟨h1, h2, h3, h4, h5, h6, h7, h8⟩ := h
  unfold DX13_after
  simp (disch := omega) only [e1, em, e27, mck_s, sI_nn, nn_s, sI_lt, sI_le, sI_eq, sI_ltl, sI_lel, sI_eql, sI_llt, sI_lle, sI_1, bI_0, bI_1, bI_n, mlet, mb3_s, mb2_s, sI_lad]
  rw [if_neg (by omega), if_pos trivial]
  by_cases hq : 2 ≤ c 2 s
  · rw [if_neg (by simp [hq])]
    unfold fX13_after_b41
    refine wq_some ⟨fun a y u => mset_k u, fun _ _ => rfl, ?_⟩
    rw [if_pos hq]
    exact ⟨rfl, h0, hcl0⟩
  rw [if_pos (by simp [hq]), if_neg (fun z => by
    have := (lg_cmp_lt _ _).mp z
    rw [show (1 : Int64) = sL 1 from rfl, sL_lt (by omega) (by omega)] at this
    omega), if_pos ((lg_cmp_le _ _).mpr (by
    rw [show (1099511627776 : Int64) = sL 1099511627776 from rfl, sL_le (by omega) (by omega)]
    omega)), if_pos trivial]
  refine wq_some ⟨fun a y u => mset_k u, fun a u => mset_rown u, ?_⟩
  rw [if_neg hq]
  refine ⟨rfl, ?_, ?_⟩
  all_goals (try dsimp only)
  · have e : (fun i => ctk c s n (8 + i)) 0 = c 8 ∧ (fun i => ctk c s n (8 + i)) 1 = c 9 ∧ (fun i => ctk c s n (8 + i)) 2 = c 10 ∧ (fun i => ctk c s n (8 + i)) 3 = c 11 := ⟨ctk_r (by omega), ctk_r (by omega), ctk_r (by omega), ctk_r (by omega)⟩
    unfold ReM
    simp only [ctk_r (c := c) (s := s) (n := n) (i := 0) (by omega), ctk_r (c := c) (s := s) (n := n) (i := 1) (by omega), ctk_r (c := c) (s := s) (n := n) (i := 2) (by omega), ctk_r (c := c) (s := s) (n := n) (i := 3) (by omega), ctk_r (c := c) (s := s) (n := n) (i := 4) (by omega), ctk_r (c := c) (s := s) (n := n) (i := 5) (by omega), ctk_r (c := c) (s := s) (n := n) (i := 6) (by omega), ctk_r (c := c) (s := s) (n := n) (i := 7) (by omega), ctk_r (c := c) (s := s) (n := n) (i := 13) (by omega), ctk_r (c := c) (s := s) (n := n) (i := 14) (by omega)]
    refine ⟨h0.1, h0.2.1, ?_, ?_, ?_, ?_, h0.2.2.2.2.2.2.1, h0.2.2.2.2.2.2.2⟩
    · refine ⟨h0.2.2.1.1, fun i hi => ?_⟩
      try dsimp only
      rw [ctk_r (by omega), ctk_r (by omega), ctk_r (by omega), ctk_r (by omega)]
      have := h0.2.2.1.2 i hi
      rw [mset_k (M := L) (by omega)]
      exact this
    · have := h0.2.2.2.1
      rw [mset_rown (M := L) (by omega)]
      exact this
    · intro t ht
      have := h0.2.2.2.2.1 t ht
      refine ⟨?_, this.2⟩
      by_cases hts : t = s
      · subst hts
        rw [mset_s, ctk_s]
      · rw [mset_j hts, ctk_n hts]; exact this.1
    · intro t u1 ht
      have := h0.2.2.2.2.2.1 t u1 ht
      rw [mset_k (M := L) (by omega)]
      exact this
  · unfold ClM
    rw [ctk_r (by omega)]
    refine ⟨fun t u1 u2 => ?_, hcl0.2⟩
    have := hcl0.1 t u1 u2
    rw [mset_j (M := L) (by omega), mset_k (M := L) (by omega)]
    exact this
/-! a chart begins -/
def c00 (l : Nat) : Nat → Nat → Nat := fun i j => if i = 0 ∧ j = 3 then l else 0
def D00 (D : Nat → Int64) : Nat → Int64 := fun j => if j < 32 then 0 else D j
theorem c00_r {l i j : Nat} (h : 1 ≤ i) : c00 l i j = 0 := by
  unfold c00
  rw [if_neg (by omega)]
theorem c00_0 {l j : Nat} (h : j ≠ 3) : c00 l 0 j = 0 := by
  unfold c00
  rw [if_neg (by omega)]
theorem c00_3 {l : Nat} : c00 l 0 3 = l := rfl
theorem Cv_00 {l : Nat} (h : l ≤ 50) : Cv (c00 l) := by
  refine ⟨⟨by rw [c00_0 (by omega)]; omega, c00_r (by omega), c00_r (by omega), c00_r (by omega), ?_⟩, ⟨by rw [c00_0 (by omega)]; omega, ?_⟩, ⟨by rw [c00_0 (by omega)]; omega, ?_⟩, by rw [c00_3]; exact h, by rw [c00_0 (by omega)]; omega, ?_, ?_⟩
  · intro s h1 h2
    rw [c00_0 (by omega)] at h2
    omega
  · intro s h1 h2
    rw [c00_0 (by omega)] at h2
    omega
  · intro s h1
    rw [c00_0 (by omega)] at h1
    omega
  · intro s h1
    rw [c00_r (by omega)]
    omega
  · intro s h1
    rw [c00_0 (by omega)] at h1
    omega
theorem c_begin {fu k l : Nat} {A : mwM} {L : mwL} {a : Int32} {va : Nat → Int32} (hf : 33 ≤ fu) (hl : l ≤ 50) : wq (DX2_begin fu k a (sI l) A L) (fun z => ReC k z.1 z.2 (c00 l) b00 va (D00 (L (k + 34))) (fun _ => 0) ∧ z.1 k 5 = a ∧ z.1 k 11 = 0 ∧ z.1 k 12 = 0 ∧ z.1 k 13 = 0 ∧ (∀ b y, ¬ (k ≤ b ∧ b ≤ k + 33) → z.1 b y = A b y) ∧ ∀ b, b ≠ k + 34 → z.2 b = L b) := by
  have hv := Cv_00 hl
  unfold DX2_begin
  simp only [mlet]
  generalize hB : mset (mset (mset (mset (mset (mset (mset (mset (mset (mset (mset (mset A k 5 a) k 6 (sI l)) k 7 0) k 8 0) k 9 0) k 10 0) k 11 0) k 12 0) k 13 0) k 14 0) k 15 0) k 16 0 = B
  have BF : ∀ b y, b ≠ k → B b y = A b y := by
    intro b y hb
    subst hB
    simp (disch := omega) only [mset_k]
  have B5 : B k 5 = a := by subst hB; simp (disch := omega) only [mset_n, mset_s]
  have B6 : B k 6 = sI l := by subst hB; simp (disch := omega) only [mset_n, mset_s]
  have B7 : B k 7 = 0 := by subst hB; simp (disch := omega) only [mset_n, mset_s]
  have B8 : B k 8 = 0 := by subst hB; simp (disch := omega) only [mset_n, mset_s]
  have B9 : B k 9 = 0 := by subst hB; simp (disch := omega) only [mset_n, mset_s]
  have B10 : B k 10 = 0 := by subst hB; simp (disch := omega) only [mset_n, mset_s]
  have B11 : B k 11 = 0 := by subst hB; simp (disch := omega) only [mset_n, mset_s]
  have B12 : B k 12 = 0 := by subst hB; simp (disch := omega) only [mset_n, mset_s]
  have B13 : B k 13 = 0 := by subst hB; simp (disch := omega) only [mset_n, mset_s]
  have B14 : B k 14 = 0 := by subst hB; simp (disch := omega) only [mset_n, mset_s]
  have B15 : B k 15 = 0 := by subst hB; simp (disch := omega) only [mset_n, mset_s]
  have B16 : B k 16 = 0 := by subst hB; simp (disch := omega) only [mset_n, mset_s]
  refine wq_for (body := fun r z => fX2_begin_i62 fu k a (sI l) r z.1 z.2.1 z.2.2) (fun i (u : mwL) => (sI i, B, u)) (fun i u => (∀ j, u (k + 34) j = if j < i then 0 else L (k + 34) j) ∧ ∀ b, b ≠ k + 34 → u b = L b) 32 ?_ ?_ 32 0 L fu (by omega) (by omega) ⟨fun j => by rw [if_neg (by omega)], fun _ _ => rfl⟩
  · intro i u r hi ⟨p1, p2⟩ ih
    show wq (fX2_begin_i62 fu k a (sI l) r (sI i) B u) _
    unfold fX2_begin_i62
    simp (disch := omega) only [mck_s, sI_nn, nn_s, sI_lt, sI_le, sI_eq, sI_ltl, sI_lel, sI_eql, sI_llt, sI_lle, sI_1, bI_0, bI_1, bI_n, mlet, mb3_s, mb2_s]
    rw [if_neg (by omega)]
    refine ih _ ⟨fun j => ?_, fun b hb => ?_⟩
    · by_cases hj : j = i
      · rw [hj, mset_s, if_pos (by omega)]
      · rw [mset_j hj, p1]
        by_cases h2 : j < i
        · rw [if_pos h2, if_pos (by omega)]
        · rw [if_neg h2, if_neg (by omega)]
    · rw [mset_rown hb]; exact p2 b hb
  · intro u r ⟨p1, p2⟩
    show wq (fX2_begin_i62 fu k a (sI l) r (sI 32) B u) _
    unfold fX2_begin_i62
    simp (disch := omega) only [mck_s, sI_nn, nn_s, sI_lt, sI_le, sI_eq, sI_ltl, sI_lel, sI_eql, sI_llt, sI_lle, sI_1, bI_0, bI_1, bI_n, mlet, mb3_s, mb2_s]
    rw [if_pos (by omega)]
    refine wq_b2 (c_clearState (s := 0) (by omega) (by omega)) ?_
    rintro M1 L1 ⟨y1, y2⟩
    dsimp only at y1 y2
    subst y1
    have fr : ∀ b y, ¬ (k + 2 ≤ b ∧ b ≤ k + 17 ∧ y = 0) → M1 b y = B b y := fun b y u => by rw [y2, if_neg u]
    have z0 : ∀ b, k + 2 ≤ b → b ≤ k + 17 → M1 b 0 = 0 := fun b u1 u2 => by rw [y2, if_pos ⟨u1, u2, rfl⟩]
    refine wq_some ⟨?_, ?_, ?_, ?_, ?_, ?_, p2⟩
    all_goals (try dsimp only)
    · unfold ReC ReC'
      rw [c00_0 (j := 0) (by omega), c00_0 (j := 1) (by omega), c00_0 (j := 2) (by omega), c00_0 (j := 4) (by omega), c00_3]
      refine ⟨⟨?_, fun s hs => ?_⟩, ⟨?_, fun e u1 u2 => by omega⟩, ⟨?_, fun i hi => by omega⟩, ⟨?_, ?_, ?_, ?_, ?_, ?_⟩, fun s hs => ?_, fun s u1 u2 => by omega, ⟨?_, ?_⟩, fun e u1 u2 => by omega⟩
      · rw [fr _ _ (by omega)]; exact B7
      · have : s = 0 := by omega
        subst this
        rw [z0 _ (by omega) (by omega), z0 _ (by omega) (by omega), z0 _ (by omega) (by omega), c00_r (by omega), c00_r (by omega), c00_r (by omega)]
        exact ⟨rfl, rfl, rfl⟩
      · rw [fr _ _ (by omega)]; exact B8
      · rw [fr _ _ (by omega)]; exact B9
      · rw [fr _ _ (by omega)]; exact B6
      · rw [fr _ _ (by omega)]; exact B10
      · rw [fr _ _ (by omega)]; exact B14
      · rw [fr _ _ (by omega)]; exact B15
      · rw [fr _ _ (by omega)]; exact B16
      · funext j
        rw [p1 j]
        rfl
      · have : s = 0 := by omega
        subst this
        rw [chK_0, z0 _ (by omega) (by omega), z0 _ (by omega) (by omega), z0 _ (by omega) (by omega), z0 _ (by omega) (by omega), c00_r (by omega), c00_r (by omega)]
        exact ⟨rfl, rfl, rfl, rfl⟩
      · intro i v hv2
        have := ri_len hv.1
        rw [c00_0 (by omega)] at this
        rw [List.getElem?_eq_none (by omega)] at hv2
        cases hv2
      · intro i v hv2
        have := fa_len hv.1
        rw [c00_0 (by omega)] at this
        rw [List.getElem?_eq_none (by omega)] at hv2
        cases hv2
    · rw [fr _ _ (by omega)]; exact B5
    · rw [fr _ _ (by omega)]; exact B11
    · rw [fr _ _ (by omega)]; exact B12
    · rw [fr _ _ (by omega)]; exact B13
    · intro b y u
      rw [fr _ _ (by omega)]; exact BF _ _ (by omega)
theorem m_anew {fu q l : Nat} {M : mwM} {L : mwL} {va : Nat → Int32} (hf : 402 ≤ fu) (hl : l ≤ 50) (hz : M (q + 1) 0 = 0 ∧ M (q + 2) 0 = 0 ∧ M (q + 3) 0 = 0) : wq (DX13_anew fu q (sI l) M L) (fun z => ReM q z.1 z.2 (c00 l) b00 va (D00 (L (q + 21))) (fun _ => 0) ∧ ClM q z.1 z.2 (c00 l) ∧ z.2 q 28 = 0 ∧ (∀ b y, ¬ (q ≤ b ∧ b ≤ q + 16) → z.1 b y = M b y) ∧ ∀ b, ¬ (b = q ∨ b = q + 5 ∨ b = q + 6 ∨ b = q + 21) → z.2 b = L b) := by
  have hv := Cv_00 hl
  have b0 : vp_nar .boolean (0 : Int32) = bI false := by decide
  unfold DX13_anew
  simp only [mlet]
  generalize hB : mset (mset (mset (mset (mset (mset (mset (mset (mset M q 1 (sI l)) q 2 0) q 12 0) q 20 0) q 26 0) q 27 0) q 29 0) q 30 0) q 31 0 = B
  generalize hG : mset L q 28 0 = G
  have BF : ∀ b y, b ≠ q → B b y = M b y := by
    intro b y hb
    subst hB
    simp (disch := omega) only [mset_k]
  have GF : ∀ b, b ≠ q → G b = L b := by
    intro b hb
    subst hG
    exact mset_rown hb
  have G28 : G q 28 = 0 := by subst hG; rw [mset_s]
  have B1 : B q 1 = sI l := by subst hB; simp (disch := omega) only [mset_n, mset_s]
  have B2 : B q 2 = 0 := by subst hB; simp (disch := omega) only [mset_n, mset_s]
  have B12 : B q 12 = 0 := by subst hB; simp (disch := omega) only [mset_n, mset_s]
  have B20 : B q 20 = 0 := by subst hB; simp (disch := omega) only [mset_n, mset_s]
  have B26 : B q 26 = 0 := by subst hB; simp (disch := omega) only [mset_n, mset_s]
  have B27 : B q 27 = 0 := by subst hB; simp (disch := omega) only [mset_n, mset_s]
  have B29 : B q 29 = 0 := by subst hB; simp (disch := omega) only [mset_n, mset_s]
  have B30 : B q 30 = 0 := by subst hB; simp (disch := omega) only [mset_n, mset_s]
  have B31 : B q 31 = 0 := by subst hB; simp (disch := omega) only [mset_n, mset_s]
  -- the states
  refine wq_for (body := fun r z => fX13_anew_i52 fu q (sI l) r z.1 z.2.1 z.2.2) (fun i (u : mwM × mwL) => (sI i, u.1, u.2)) (fun i u => (∀ s, s < i → u.1 (q + 4) s = sI 0 ∧ u.2 (q + 5) s = sL 0 ∧ u.2 (q + 6) s = sL 0 ∧ u.1 (q + 7) s = bI false ∧ u.1 (q + 8) s = bI false ∧ u.1 (q + 9) s = bI false) ∧ (∀ b y, ¬ (b = q + 4 ∨ (q + 7 ≤ b ∧ b ≤ q + 9)) → u.1 b y = B b y) ∧ ∀ b, b ≠ q + 5 → b ≠ q + 6 → u.2 b = G b) 201 ?_ ?_ 201 0 (B, G) fu (by omega) (by omega) ⟨fun s hs => by omega, fun _ _ _ => rfl, fun _ _ _ => rfl⟩
  · rintro i ⟨a, u⟩ r hi ⟨p1, p2, p3⟩ ih
    dsimp only at p1 p2 p3
    show wq (fX13_anew_i52 fu q (sI l) r (sI i) a u) _
    unfold fX13_anew_i52
    simp (disch := omega) only [mck_s, sI_nn, nn_s, sI_lt, sI_le, sI_eq, sI_ltl, sI_lel, sI_eql, sI_llt, sI_lle, sI_1, bI_0, bI_1, bI_n, mlet, mb3_s, mb2_s, b0]
    rw [if_neg (by omega)]
    have key := fun (X : mwM) (Y : mwL) => ih (X, Y)
    dsimp only at key
    refine key _ _ ⟨fun s hs => ?_, fun b y hb => ?_, fun b h5 h6 => ?_⟩
    · by_cases hq : s = i
      · subst hq
        simp (disch := omega) only [mset_n, mset_s, and_true, true_and]
        exact ⟨rfl, rfl, rfl⟩
      · simp (disch := omega) only [mset_n]
        exact p1 s (by omega)
    · simp (disch := omega) only [mset_n]
      exact p2 b y hb
    · rw [mset_rown h6, mset_rown h5]
      exact p3 b h5 h6
  rintro ⟨a, u⟩ r ⟨p1, p2, p3⟩
  dsimp only at p1 p2 p3
  show wq (fX13_anew_i52 fu q (sI l) r (sI 201) a u) _
  unfold fX13_anew_i52
  simp (disch := omega) only [mck_s, sI_nn, nn_s, sI_lt, sI_le, sI_eq, sI_ltl, sI_lel, sI_eql, sI_llt, sI_lle, sI_1, bI_0, bI_1, bI_n, mlet, mb3_s, mb2_s]
  rw [if_pos (by omega)]
  -- the edges
  refine wq_for (body := fun r z => fX13_anew_i109 fu q (sI l) r z.1 z.2.1 z.2.2) (fun i (v : mwM) => (sI i, v, u)) (fun i v => (∀ s, s < i → v (q + 14) s = bI false ∧ v (q + 15) s = bI false ∧ v (q + 16) s = bI false) ∧ ∀ b y, ¬ (q + 14 ≤ b ∧ b ≤ q + 16) → v b y = a b y) 401 ?_ ?_ 401 0 a fu (by omega) (by omega) ⟨fun s hs => by omega, fun _ _ _ => rfl⟩
  · intro i v r hi ⟨o1, o2⟩ ih
    show wq (fX13_anew_i109 fu q (sI l) r (sI i) v u) _
    unfold fX13_anew_i109
    simp (disch := omega) only [mck_s, sI_nn, nn_s, sI_lt, sI_le, sI_eq, sI_ltl, sI_lel, sI_eql, sI_llt, sI_lle, sI_1, bI_0, bI_1, bI_n, mlet, mb3_s, mb2_s, b0]
    rw [if_neg (by omega)]
    refine ih _ ⟨fun s hs => ?_, fun b y hb => ?_⟩
    · by_cases hq : s = i
      · subst hq
        simp (disch := omega) only [mset_n, mset_s, and_true, true_and]
      · simp (disch := omega) only [mset_n]
        exact o1 s (by omega)
    · simp (disch := omega) only [mset_n]
      exact o2 b y hb
  intro v r ⟨o1, o2⟩
  show wq (fX13_anew_i109 fu q (sI l) r (sI 401) v u) _
  unfold fX13_anew_i109
  simp (disch := omega) only [mck_s, sI_nn, nn_s, sI_lt, sI_le, sI_eq, sI_ltl, sI_lel, sI_eql, sI_llt, sI_lle, sI_1, bI_0, bI_1, bI_n, mlet, mb3_s, mb2_s]
  rw [if_pos (by omega)]
  -- the data
  refine wq_for (body := fun r z => fX13_anew_i145 fu q (sI l) r z.1 z.2.1 z.2.2) (fun i (w : mwL) => (sI i, v, w)) (fun i w => (∀ j, w (q + 21) j = if j < i then 0 else u (q + 21) j) ∧ ∀ b, b ≠ q + 21 → w b = u b) 32 ?_ ?_ 32 0 u fu (by omega) (by omega) ⟨fun j => by rw [if_neg (by omega)], fun _ _ => rfl⟩
  · intro i w r hi ⟨n1, n2⟩ ih
    show wq (fX13_anew_i145 fu q (sI l) r (sI i) v w) _
    unfold fX13_anew_i145
    simp (disch := omega) only [mck_s, sI_nn, nn_s, sI_lt, sI_le, sI_eq, sI_ltl, sI_lel, sI_eql, sI_llt, sI_lle, sI_1, bI_0, bI_1, bI_n, mlet, mb3_s, mb2_s]
    rw [if_neg (by omega)]
    refine ih _ ⟨fun j => ?_, fun b hb => ?_⟩
    · by_cases hj : j = i
      · rw [hj, mset_s, if_pos (by omega)]
      · rw [mset_j hj, n1]
        by_cases h2 : j < i
        · rw [if_pos h2, if_pos (by omega)]
        · rw [if_neg h2, if_neg (by omega)]
    · rw [mset_rown hb]; exact n2 b hb
  intro w r ⟨n1, n2⟩
  show wq (fX13_anew_i145 fu q (sI l) r (sI 32) v w) _
  unfold fX13_anew_i145
  simp (disch := omega) only [mck_s, sI_nn, nn_s, sI_lt, sI_le, sI_eq, sI_ltl, sI_lel, sI_eql, sI_llt, sI_lle, sI_1, bI_0, bI_1, bI_n, mlet, mb3_s, mb2_s]
  rw [if_pos (by omega)]
  have vq : ∀ y, v q y = B q y := fun y => by rw [o2 _ _ (by omega), p2 _ _ (by omega)]
  have v0 : ∀ b, q + 1 ≤ b → b ≤ q + 3 → v b 0 = M b 0 := fun b u1 u2 => by rw [o2 _ _ (by omega), p2 _ _ (by omega), BF _ _ (by omega)]
  have wL : ∀ s, s ≤ 200 → w (q + 5) s = sL 0 ∧ w (q + 6) s = sL 0 ∧ v (q + 4) s = sI 0 ∧ v (q + 7) s = bI false ∧ v (q + 8) s = bI false ∧ v (q + 9) s = bI false := by
    intro s hs
    have := p1 s (by omega)
    rw [n2 _ (by omega), n2 _ (by omega), o2 _ _ (by omega), o2 _ _ (by omega), o2 _ _ (by omega), o2 _ _ (by omega)]
    exact ⟨this.2.1, this.2.2.1, this.1, this.2.2.2⟩
  refine wq_some ⟨?_, ?_, ?_, ?_, ?_⟩
  all_goals (try dsimp only)
  · unfold ReM
    rw [c00_0 (j := 0) (by omega), c00_0 (j := 1) (by omega), c00_0 (j := 2) (by omega), c00_0 (j := 4) (by omega), c00_3]
    refine ⟨⟨?_, fun s hs => ?_⟩, ⟨?_, fun e u1 u2 => by omega⟩, ⟨?_, fun i hi => by omega⟩, ⟨?_, ?_, ?_, ?_, ?_, ?_, ?_⟩, fun s hs => ?_, fun s u1 u2 => by omega, ?_, fun e u1 u2 => by omega⟩
    · rw [vq]; exact B2
    · have : s = 0 := by omega
      subst this
      rw [v0 _ (by omega) (by omega), v0 _ (by omega) (by omega), v0 _ (by omega) (by omega), c00_r (by omega), c00_r (by omega), c00_r (by omega)]
      exact ⟨hz.2.1, hz.1, hz.2.2⟩
    · rw [vq]; exact B12
    · rw [vq]; exact B20
    · rw [vq]; exact B1
    · rw [vq]; exact B26
    · rw [vq]; exact B29
    · rw [vq]; exact B30
    · rw [vq]; exact B27
    · funext j
      rw [n1 j, p3 _ (by omega) (by omega), GF _ (by omega)]
      rfl
    · exact ⟨0, by omega, by rw [vq]; exact B31⟩
    · rw [c00_r (by omega), c00_r (by omega)]
      have := wL s (by omega)
      exact ⟨this.1, this.2.2.1⟩
    · exact (wL 0 (by omega)).2.2.2.2.2
  · refine ⟨fun s u1 u2 => ?_, fun e u1 u2 => ?_⟩
    · have := wL s u2
      exact ⟨this.1, this.2.2.1, this.2.2.2.2.2, this.2.1, this.2.2.2.1, this.2.2.2.2.1⟩
    · exact o1 e (by omega)
  · rw [n2 _ (by omega), p3 _ (by omega) (by omega)]; exact G28
  · intro b y hb
    rw [o2 _ _ (by omega), p2 _ _ (by omega), BF _ _ (by omega)]
  · intro b hb
    rw [n2 _ (by omega), p3 _ (by omega) (by omega), GF _ (by omega)]
/-! the class finds the domains of its edges -/
def DoC (k : Nat) (A : mwM) (c : Nat → Nat → Nat) : Prop := ∀ e, 1 ≤ e → e ≤ c 0 1 → ∀ j, 1 ≤ j → j ≤ c 0 1 → sS (c 2) (c 4) (c 5) e j = true → A (k + 25) e = sI (bst (c 1) (c 2) (c 3) (c 4) (c 5) (c 0 1) e (c 0 0))
theorem c_firstInto {fu : Nat} {A : mwM} {L : mwL} {k N E g : Nat} {kd fr to ev gu : Nat → Nat} (hf : 402 ≤ fu) (hE : Ed N E kd fr to ev gu) (hN : N ≤ 200) (hEC : EdC A k E fr to ev gu) (hg : g ≤ N) : DX2_firstInto fu k (sI g) A L = some (sI (if fstN (fun j => decide (to j = g)) E 1 = 0 then g else fr (fstN (fun j => decide (to j = g)) E 1)), A, L) := by
  have hE4 := hE.1
  have key : ∀ (m i f : Nat), 1 ≤ i → i + m = E + 1 → m < f → fX2_firstInto_h2 fu k (sI g) f (sI i, A, L) = some (sI (if fstN (fun j => decide (to j = g)) m i = 0 then g else fr (fstN (fun j => decide (to j = g)) m i)), A, L) := by
    intro m
    induction m with
    | zero =>
      intro i f h1 h2 h3
      obtain ⟨u, rfl⟩ : ∃ u, f = u + 1 := ⟨f - 1, by omega⟩
      unfold fX2_firstInto_h2
      rw [mloop_S]
      show fX2_firstInto_i2 fu k (sI g) (fX2_firstInto_h2 fu k (sI g) u) (sI i) A L = _
      unfold fX2_firstInto_i2
      rw [hEC.1, if_pos (by rw [sI_lt (by omega) (by omega)]; omega)]
      rfl
    | succ m ih =>
      intro i f h1 h2 h3
      obtain ⟨u, rfl⟩ : ∃ u, f = u + 1 := ⟨f - 1, by omega⟩
      unfold fX2_firstInto_h2
      rw [mloop_S]
      show fX2_firstInto_i2 fu k (sI g) (fX2_firstInto_h2 fu k (sI g) u) (sI i) A L = _
      have hi := hE.2 i h1 (by omega)
      obtain ⟨e1, e2, _⟩ := hEC.2 i h1 (by omega)
      have e6 : fstN (fun j => decide (to j = g)) (m + 1) i = if decide (to i = g) = true then i else fstN (fun j => decide (to j = g)) m (i + 1) := rfl
      have ih2 := ih (i + 1) u (by omega) (by omega) (by omega)
      rw [e6]
      unfold fX2_firstInto_i2
      simp (disch := omega) only [hEC.1, e1, e2, ih2, mck_s, sI_nn, nn_s, sI_lt, sI_le, sI_eq, sI_ltl, sI_lel, sI_eql, sI_llt, sI_lle, sI_1, bI_0, bI_1, bI_n, mlet, mb3_s, mb2_s]
      rw [if_neg (by omega)]
      by_cases hq : to i = g
      · rw [if_pos hq, if_pos (show decide (to i = g) = true by simp [hq]), if_neg (by omega)]
      · rw [if_neg hq, if_neg (show ¬ decide (to i = g) = true by simp [hq])]
  unfold DX2_firstInto
  exact key E 1 fu (by omega) (by omega) (by omega)
theorem c_findDomains {fu : Nat} {A : mwM} {L : mwL} {k : Nat} {c : Nat → Nat → Nat} (hf : 402 ≤ fu) (hv : Cv c) (hC : TrC A k (c 0 0) (c 1) (c 2) (c 3)) (hEC : EdC A k (c 0 1) (c 4) (c 5) (c 6) (c 7)) : wq (DX2_findDomains fu k A L) (fun z => z.2 = L ∧ DoC k z.1 c ∧ ∀ b y, b ≠ k + 25 → z.1 b y = A b y) := by
  have hT := hv.1
  have hE := hv.2.1
  have hN := hT.1
  have hE4 := hE.1
  unfold DX2_findDomains
  refine wq_for (body := fun r z => fX2_findDomains_i2 fu k r z.1 z.2.1 z.2.2) (fun i (a : mwM) => (sI i, a, L)) (fun i a => 1 ≤ i ∧ (∀ e, 1 ≤ e → e < i → ∀ j, 1 ≤ j → j ≤ c 0 1 → sS (c 2) (c 4) (c 5) e j = true → a (k + 25) e = sI (bst (c 1) (c 2) (c 3) (c 4) (c 5) (c 0 1) e (c 0 0))) ∧ ∀ b y, b ≠ k + 25 → a b y = A b y) (c 0 1 + 1) ?_ ?_ (c 0 1) 1 A fu (by omega) (by omega) ⟨Nat.le_refl _, fun e h1 h2 => by omega, fun _ _ _ => rfl⟩
  · intro e a r hi ⟨h1e, p1, p2⟩ ih
    show wq (fX2_findDomains_i2 fu k r (sI e) a L) _
    have aC : TrC a k (c 0 0) (c 1) (c 2) (c 3) := TrC_f hC (p2 _ _ (by omega)) (fun b s u1 u2 => p2 _ _ (by omega))
    have aE : EdC a k (c 0 1) (c 4) (c 5) (c 6) (c 7) := ⟨(p2 _ _ (by omega)).trans hEC.1, fun j u1 u2 => by rw [p2 _ _ (by omega), p2 _ _ (by omega), p2 _ _ (by omega), p2 _ _ (by omega)]; exact hEC.2 j u1 u2⟩
    obtain ⟨j1, j2, j3, j4, _⟩ := hE.2 e h1e (by omega)
    have hp := Tr_pa hT j2
    -- the end of the climb
    have fin : ∀ d, d ≤ c 0 0 → (∀ j, 1 ≤ j → j ≤ c 0 1 → sS (c 2) (c 4) (c 5) e j = true → d = bst (c 1) (c 2) (c 3) (c 4) (c 5) (c 0 1) e (c 0 0)) → wq (fX2_findDomains_b101 fu k r (sI e) (sI d) a L) (fun z => z.2 = L ∧ DoC k z.1 c ∧ ∀ b y, b ≠ k + 25 → z.1 b y = A b y) := by
      intro d hd hdb
      unfold fX2_findDomains_b101
      simp (disch := omega) only [mck_s, sI_nn, nn_s, sI_lt, sI_le, sI_eq, sI_ltl, sI_lel, sI_eql, sI_llt, sI_lle, sI_1, bI_0, bI_1, bI_n, mlet, mb3_s, mb2_s]
      refine ih _ ⟨by omega, fun e' u1 u2 j v1 v2 v3 => ?_, fun b y hb => by rw [mset_k hb]; exact p2 b y hb⟩
      by_cases hq : e' = e
      · subst hq
        rw [mset_s, hdb j v1 v2 v3]
      · rw [mset_j hq]
        exact p1 e' u1 (by omega) j v1 v2 v3
    have climb : ∀ (m d v f : Nat), c 3 d = m → d ≤ c 0 0 → v + m ≤ 40 → m < f → (∀ j, 1 ≤ j → j ≤ c 0 1 → sS (c 2) (c 4) (c 5) e j = true → clB (c 1) (fun d => decide (c 2 d = 0) && goodB (c 1) (c 2) (c 3) (c 4) (c 5) (c 0 1) d e) m d = bst (c 1) (c 2) (c 3) (c 4) (c 5) (c 0 1) e (c 0 0)) → wq (fX2_findDomains_h67 fu k r f (sI e, sI d, sI v, a, L)) (fun z => z.2 = L ∧ DoC k z.1 c ∧ ∀ b y, b ≠ k + 25 → z.1 b y = A b y) := by
      intro m
      induction m with
      | zero =>
        intro d v f hm hd hv hf1 hb
        obtain ⟨u, rfl⟩ : ∃ u, f = u + 1 := ⟨f - 1, by omega⟩
        have h0 : d = 0 := by
          rcases Nat.eq_zero_or_pos d with q | q
          · exact q
          · have := (hT.2.2.2.2 d q hd).2.1
            omega
        unfold fX2_findDomains_h67
        rw [mloop_S]
        show wq (fX2_findDomains_i67 fu k r (fX2_findDomains_h67 fu k r u) (sI e) (sI d) (sI v) a L) _
        unfold fX2_findDomains_i67
        rw [if_neg (by rw [sI_llt (by omega) (by omega)]; omega), if_pos (by rw [h0]; rfl)]
        exact fin d hd (fun j v1 v2 v3 => hb j v1 v2 v3)
      | succ m ih2 =>
        intro d v f hm hd hv hf1 hb
        obtain ⟨u, rfl⟩ : ∃ u, f = u + 1 := ⟨f - 1, by omega⟩
        have h1 : 1 ≤ d := by
          rcases Nat.eq_zero_or_pos d with q | q
          · rw [q, hT.2.2.2.1] at hm; omega
          · exact q
        obtain ⟨w1, w2, w3, w4, w5⟩ := hT.2.2.2.2 d h1 hd
        have hb' : ∀ j, 1 ≤ j → j ≤ c 0 1 → sS (c 2) (c 4) (c 5) e j = true → (if d = 0 then 0 else if (decide (c 2 d = 0) && goodB (c 1) (c 2) (c 3) (c 4) (c 5) (c 0 1) d e) = true then d else clB (c 1) (fun d => decide (c 2 d = 0) && goodB (c 1) (c 2) (c 3) (c 4) (c 5) (c 0 1) d e) m (c 1 d)) = bst (c 1) (c 2) (c 3) (c 4) (c 5) (c 0 1) e (c 0 0) := hb
        have ea := c_isAround (fu := fu) (L := L) (by omega) hT aC hE aE hd h1e (show e ≤ c 0 1 by omega)
        have e2 := (aC.2 d hd).1
        unfold fX2_findDomains_h67
        rw [mloop_S]
        show wq (fX2_findDomains_i67 fu k r (fX2_findDomains_h67 fu k r u) (sI e) (sI d) (sI v) a L) _
        unfold fX2_findDomains_i67
        simp (disch := omega) only [ea, e2, mck_s, sI_nn, nn_s, sI_lt, sI_le, sI_eq, sI_ltl, sI_lel, sI_eql, sI_llt, sI_lle, sI_1, bI_0, bI_1, bI_n, mlet, mb3_s, mb2_s]
        rw [if_neg (by omega), if_neg (by omega)]
        cases hg : (decide (c 2 d = 0) && goodB (c 1) (c 2) (c 3) (c 4) (c 5) (c 0 1) d e) with
        | true =>
          rw [if_neg (by decide)]
          refine fin d hd (fun j v1 v2 v3 => ?_)
          have := hb' j v1 v2 v3
          rw [if_neg (by omega), hg, if_pos rfl] at this
          exact this
        | false =>
          rw [if_pos rfl]
          refine ih2 (c 1 d) (v + 1) u (by omega) (by omega) (by omega) (by omega) (fun j v1 v2 v3 => ?_)
          have := hb' j v1 v2 v3
          rw [if_neg (by omega), hg, if_neg (by decide)] at this
          exact this
    have e1 := (aE.2 e h1e (by omega)).1
    have e2 := aC.2 (c 4 e) j2
    have efi := c_firstInto (fu := fu) (L := L) (g := c 4 e) (by omega) hE hN aE j2
    unfold fX2_findDomains_i2 fX2_findDomains_b65
    simp (disch := omega) only [aE.1, e1, e2.1, e2.2.1, efi, mck_s, sI_nn, nn_s, sI_lt, sI_le, sI_eq, sI_ltl, sI_lel, sI_eql, sI_llt, sI_lle, sI_1, bI_0, bI_1, bI_n, mlet, mb3_s, mb2_s]
    rw [if_neg (by omega)]
    by_cases h5 : c 2 (c 4 e) = 5
    · rw [if_pos h5]
      have hF : ∃ s, s ≤ c 0 0 ∧ (if fstN (fun j => decide (c 5 j = c 4 e)) (c 0 1) 1 = 0 then c 4 e else c 4 (fstN (fun j => decide (c 5 j = c 4 e)) (c 0 1) 1)) = s ∧ ∀ j, 1 ≤ j → j ≤ c 0 1 → sS (c 2) (c 4) (c 5) e j = true → clB (c 1) (fun d => decide (c 2 d = 0) && goodB (c 1) (c 2) (c 3) (c 4) (c 5) (c 0 1) d e) (c 3 (c 1 s)) (c 1 s) = bst (c 1) (c 2) (c 3) (c 4) (c 5) (c 0 1) e (c 0 0) := by
        by_cases hz : fstN (fun j => decide (c 5 j = c 4 e)) (c 0 1) 1 = 0
        · refine ⟨c 4 e, j2, by rw [if_pos hz], fun j v1 v2 v3 => ?_⟩
          exfalso
          have := fst_n _ _ (by omega) hz j v1 (by omega)
          unfold sS at v3
          rw [if_pos h5] at v3
          rw [this] at v3
          cases v3
        · have hz2 := fst_p _ _ (by omega) hz
          refine ⟨_, ?_, by rw [if_neg hz], fun j v1 v2 v3 => ?_⟩
          · exact (hE.2 _ (by omega) (by omega)).2.1
          · refine cl_bst hT hE (by omega) (by omega) ?_
            unfold sS
            rw [if_pos h5]
            exact hz2.1
      obtain ⟨s, s1, s2, s3⟩ := hF
      rw [s2]
      have hps := Tr_pa hT s1
      have e3 := (aC.2 s s1).1
      simp (disch := omega) only [e3, mck_s, sI_nn, nn_s, sI_lt, sI_le, sI_eq, sI_ltl, sI_lel, sI_eql, sI_llt, sI_lle, sI_1, bI_0, bI_1, bI_n, mlet, mb3_s, mb2_s]
      refine climb _ (c 1 s) 0 fu rfl (by omega) ?_ ?_ s3
      · have := (Tr_pa hT hps.1).2.2.2.2; omega
      · have := (Tr_pa hT hps.1).2.2.2.2; omega
    · rw [if_neg h5]
      refine climb _ (c 1 (c 4 e)) 0 fu rfl (by omega) ?_ ?_ (fun j v1 v2 v3 => ?_)
      · have := (Tr_pa hT hp.1).2.2.2.2; omega
      · have := (Tr_pa hT hp.1).2.2.2.2; omega
      · have hj := v3
        unfold sS at hj
        rw [if_neg h5, decide_eq_true_eq] at hj
        subst hj
        exact cl_bst hT hE v1 v2 v3
  · intro a r ⟨_, p1, p2⟩
    show wq (fX2_findDomains_i2 fu k r (sI (c 0 1 + 1)) a L) _
    unfold fX2_findDomains_i2
    rw [p2 _ _ (by omega), hEC.1, if_pos (by rw [sI_lt (by omega) (by omega)]; omega)]
    exact wq_some ⟨rfl, fun e h1 h2 => p1 e h1 (by omega), p2⟩
/-! the ready edges in their order -/
def slv (κ : Nat → Nat) (l : List Nat) (d : Nat) : List Nat := l.filter (fun e => decide (κ e = d))
def soL (κ : Nat → Nat) (l : List Nat) : Nat → List Nat
  | 0 => []
  | j + 1 => slv κ l (j + 1) ++ soL κ l j
theorem so_mem {κ : Nat → Nat} {l : List Nat} {x : Nat} : ∀ j, x ∈ soL κ l j ↔ x ∈ l ∧ 1 ≤ κ x ∧ κ x ≤ j := by
  intro j
  induction j with
  | zero =>
    constructor
    · intro h; cases h
    · intro h; omega
  | succ j ih =>
    show x ∈ slv κ l (j + 1) ++ soL κ l j ↔ _
    unfold slv
    rw [List.mem_append, ih, List.mem_filter, decide_eq_true_eq]
    constructor
    · rintro (⟨h1, h2⟩ | ⟨h1, h2⟩)
      · exact ⟨h1, by omega, by omega⟩
      · exact ⟨h1, by omega, by omega⟩
    · rintro ⟨h1, h2, h3⟩
      by_cases hq : κ x = j + 1
      · exact Or.inl ⟨h1, hq⟩
      · exact Or.inr ⟨h1, h2, by omega⟩
theorem so_less {κ : Nat → Nat} {l : List Nat} {e : Nat} : ∀ j, j < κ e → soL κ (l ++ [e]) j = soL κ l j := by
  intro j
  induction j with
  | zero => intro _; rfl
  | succ j ih =>
    intro h
    show slv κ (l ++ [e]) (j + 1) ++ soL κ (l ++ [e]) j = slv κ l (j + 1) ++ soL κ l j
    rw [ih (by omega)]
    unfold slv
    rw [List.filter_append, List.filter_cons_of_neg (by simp; omega), List.filter_nil, List.append_nil]
theorem so_ins {κ : Nat → Nat} {l : List Nat} {e : Nat} (h0 : 1 ≤ κ e) : ∀ j, κ e ≤ j → ∃ P Q, soL κ l j = P ++ Q ∧ soL κ (l ++ [e]) j = P ++ e :: Q ∧ (∀ x ∈ P, κ e ≤ κ x) ∧ ∀ x ∈ Q, κ x < κ e := by
  intro j
  induction j with
  | zero => intro h; omega
  | succ j ih =>
    intro h
    by_cases hj : κ e = j + 1
    · refine ⟨slv κ l (j + 1), soL κ l j, rfl, ?_, ?_, ?_⟩
      · show slv κ (l ++ [e]) (j + 1) ++ soL κ (l ++ [e]) j = _
        rw [so_less j (by omega)]
        unfold slv
        rw [List.filter_append, List.filter_cons_of_pos (by simp [hj]), List.filter_nil, List.append_assoc]
        rfl
      · intro x hx
        unfold slv at hx
        rw [List.mem_filter, decide_eq_true_eq] at hx
        omega
      · intro x hx
        have := (so_mem j).mp hx
        omega
    · obtain ⟨P, Q, h1, h2, h3, h4⟩ := ih (by omega)
      refine ⟨slv κ l (j + 1) ++ P, Q, ?_, ?_, ?_, h4⟩
      · show slv κ l (j + 1) ++ soL κ l j = _
        rw [h1, List.append_assoc]
      · show slv κ (l ++ [e]) (j + 1) ++ soL κ (l ++ [e]) j = _
        rw [h2]
        unfold slv
        rw [List.filter_append, List.filter_cons_of_neg (by simp; omega), List.filter_nil, List.append_nil, List.append_assoc]
      · intro x hx
        rw [List.mem_append] at hx
        rcases hx with hx | hx
        · unfold slv at hx
          rw [List.mem_filter, decide_eq_true_eq] at hx
          omega
        · exact h3 x hx
theorem so_nil {κ : Nat → Nat} : ∀ j, soL κ [] j = [] := by
  intro j
  induction j with
  | zero => rfl
  | succ j ih =>
    show slv κ [] (j + 1) ++ soL κ [] j = []
    rw [ih]
    rfl
theorem so_len {κ : Nat → Nat} {j : Nat} : ∀ (n : Nat) (l : List Nat), l.length = n → (∀ x ∈ l, 1 ≤ κ x ∧ κ x ≤ j) → (soL κ l j).length = n := by
  intro n
  induction n with
  | zero =>
    intro l hl _
    rw [List.eq_nil_of_length_eq_zero hl, so_nil]
    rfl
  | succ n ih =>
    intro l hl h
    obtain ⟨l0, e, rfl⟩ : ∃ l0 e, l = l0 ++ [e] := ⟨l.dropLast, l.getLast (by intro z; rw [z] at hl; simp at hl), (List.dropLast_concat_getLast _).symm⟩
    rw [List.length_append, List.length_singleton] at hl
    have he := h e (List.mem_append_right _ (List.mem_singleton.mpr rfl))
    obtain ⟨P, Q, h1, h2, _, _⟩ := so_ins (l := l0) he.1 j he.2
    have := ih l0 (by omega) (fun x hx => h x (List.mem_append_left _ hx))
    rw [h1, List.length_append] at this
    rw [h2, List.length_append, List.length_cons]
    omega
def LiZ (A : mwM) (w : Nat) (l : List Nat) : Prop := ∀ i v, l[i]? = some v → A w i = sI v
theorem c_putReady {fu : Nat} {A : mwM} {L : mwL} {k N E n e : Nat} {pa kd de fr to ev gu : Nat → Nat} {P Q : List Nat} (hf : 402 ≤ fu) (hT : Tr N pa kd de) (hC : TrC A k N pa kd de) (hE : Ed N E kd fr to ev gu) (hEC : EdC A k E fr to ev gu) (he : 1 ≤ e ∧ e ≤ E) (hl : (P ++ Q).length = n) (hn : n ≤ 400) (hm : ∀ v ∈ P ++ Q, 1 ≤ v ∧ v ≤ E) (hA : LiZ A (k + 27) (P ++ Q)) (hP : ∀ v ∈ P, de (fr e) ≤ de (fr v)) (hQ : ∀ v ∈ Q, de (fr v) < de (fr e)) : wq (DX2_putReady fu k (sI e) (sI n) A L) (fun z => z.1 = sI (n + 1) ∧ z.2.2 = L ∧ LiZ z.2.1 (k + 27) (P ++ e :: Q) ∧ ∀ b y, b ≠ k + 27 → z.2.1 b y = A b y) := by
  have hN := hT.1
  have hE4 := hE.1
  have key := wq_loop (body := fun rr z => fX2_putReady_i19 fu k (sI e) (sI n) rr z.1 z.2.1 z.2.2.1 z.2.2.2) (Q := fun z => z.1 = sI (n + 1) ∧ z.2.2 = L ∧ LiZ z.2.1 (k + 27) (P ++ e :: Q) ∧ ∀ b y, b ≠ k + 27 → z.2.1 b y = A b y) (fun z => z.1 = sI (de (fr e)) ∧ z.2.2.2 = L ∧ ∃ a, P.length ≤ a ∧ a ≤ n ∧ z.2.1 = sI a ∧ (∀ i v, i < a → (P ++ Q)[i]? = some v → z.2.2.1 (k + 27) i = sI v) ∧ (∀ i v, a ≤ i → (P ++ Q)[i]? = some v → z.2.2.1 (k + 27) (i + 1) = sI v) ∧ ∀ b y, b ≠ k + 27 → z.2.2.1 b y = A b y) (fun z => nn z.2.1) ?_ fu (sI (de (fr e)), sI n, A, L) (by dsimp only; rw [nn_s (by omega)]; omega) ⟨rfl, rfl, n, by rw [List.length_append] at hl; omega, Nat.le_refl _, rfl, fun i v _ h => hA i v h, ?_, fun _ _ _ => rfl⟩
  · unfold DX2_putReady
    have hj := hE.2 e he.1 he.2
    have e1 := (hEC.2 e he.1 he.2).1
    have e2 := (hC.2 (fr e) hj.2.1).2.2
    simp (disch := omega) only [e1, e2, mck_s, sI_nn, nn_s, sI_lt, sI_le, sI_eq, sI_ltl, sI_lel, sI_eql, sI_llt, sI_lle, sI_1, bI_0, bI_1, bI_n, mlet, mb3_s, mb2_s]
    exact key
  · rintro ⟨v3, v4, a', l'⟩ rr ⟨h1, h2, a, ha1, ha2, h4, p1, p2, p3⟩ ih
    dsimp only at h1 h2 h4 p1 p2 p3
    subst h1 h2 h4
    show wq (fX2_putReady_i19 fu k (sI e) (sI n) rr (sI (de (fr e))) (sI a) a' l') _
    have fin : P.length = a → wq (fX2_putReady_b82 fu k (sI e) (sI n) (sI a) a' l') (fun z => z.1 = sI (n + 1) ∧ z.2.2 = l' ∧ LiZ z.2.1 (k + 27) (P ++ e :: Q) ∧ ∀ b y, b ≠ k + 27 → z.2.1 b y = A b y) := by
      intro hPa
      unfold fX2_putReady_b82
      simp (disch := omega) only [mck_s, sI_nn, nn_s, sI_lt, sI_le, sI_eq, sI_ltl, sI_lel, sI_eql, sI_llt, sI_lle, sI_1, bI_0, bI_1, bI_n, mlet, mb3_s, mb2_s]
      refine wq_some ⟨rfl, rfl, ?_, ?_⟩
      all_goals (try dsimp only)
      · intro i v hv
        rcases Nat.lt_trichotomy i a with hi | hi | hi
        · rw [List.getElem?_append_left (by omega)] at hv
          rw [mset_j (by omega)]
          exact p1 i v hi (by rw [List.getElem?_append_left (by omega)]; exact hv)
        · subst hi
          rw [List.getElem?_append_right (by omega), show i - P.length = 0 by omega] at hv
          have : v = e := by simpa using hv.symm
          rw [this, mset_s]
        · rw [List.getElem?_append_right (by omega), show i - P.length = (i - 1 - P.length) + 1 by omega, List.getElem?_cons_succ] at hv
          rw [mset_j (by omega)]
          have := p2 (i - 1) v (by omega) (by rw [List.getElem?_append_right (by omega)]; exact hv)
          rw [show i - 1 + 1 = i by omega] at this
          exact this
      · intro b y hb
        rw [mset_k hb]
        exact p3 b y hb
    by_cases ha0 : a = 0
    · have := fin (by omega)
      unfold fX2_putReady_i19
      rw [if_pos (by rw [ha0]; decide)]
      exact this
    · obtain ⟨a0, rfl⟩ : ∃ a0, a = a0 + 1 := ⟨a - 1, by omega⟩
      have hlen : a0 < (P ++ Q).length := by omega
      have hv := List.getElem?_eq_getElem hlen
      have hmem : (P ++ Q)[a0] ∈ P ++ Q := List.getElem_mem hlen
      have e5 := p1 a0 _ (by omega) hv
      have hvN := hm _ hmem
      have hj := hE.2 _ hvN.1 hvN.2
      have hj2 := Tr_pa hT hj.2.1
      have hje := Tr_pa hT (hE.2 e he.1 he.2).2.1
      have e6 : a' (k + 21) ((P ++ Q)[a0]) = sI (fr ((P ++ Q)[a0])) := (p3 _ _ (by omega)).trans (hEC.2 _ hvN.1 hvN.2).1
      have e7 : a' (k + 4) (fr ((P ++ Q)[a0])) = sI (de (fr ((P ++ Q)[a0]))) := (p3 _ _ (by omega)).trans (hC.2 _ hj.2.1).2.2
      unfold fX2_putReady_i19
      have em : sI (a0 + 1) - 1 = sI a0 := sI_m1
      have ep : sI (a0 + 1) + (-1) = sI a0 := sI_pm
      simp (disch := omega) only [em, ep, e5, e6, e7, mck_s, sI_nn, nn_s, sI_lt, sI_le, sI_eq, sI_ltl, sI_lel, sI_eql, sI_llt, sI_lle, sI_1, bI_0, bI_1, bI_n, mlet, mb3_s, mb2_s]
      rw [if_neg (by omega)]
      by_cases hq : a0 < P.length
      · rw [if_pos]
        · exact fin (by omega)
        · refine hP _ ?_
          rw [List.getElem_append_left hq]
          exact List.getElem_mem hq
      · rw [if_neg]
        · refine ih _ ⟨rfl, rfl, a0, by omega, by omega, rfl, ?_, ?_, ?_⟩ ?_
          · intro i v hi hiv
            try dsimp only
            rw [mset_j (by omega)]
            exact p1 i v (by omega) hiv
          · intro i v hi hiv
            try dsimp only
            by_cases hi0 : i = a0
            · subst hi0
              rw [hv] at hiv
              rw [mset_s]
              rw [Option.some.inj hiv]
            · rw [mset_j (by omega)]
              exact p2 i v (by omega) hiv
          · intro b y hb
            try dsimp only
            rw [mset_k hb]
            exact p3 b y hb
          · show nn (sI a0) < nn (sI (a0 + 1))
            rw [nn_s (by omega), nn_s (by omega)]
            omega
        · have : de (fr ((P ++ Q)[a0])) < de (fr e) := by
            refine hQ _ ?_
            rw [List.getElem_append_right (by omega)]
            exact List.getElem_mem _
          omega
  · intro i v hi hv
    exfalso
    have : i < (P ++ Q).length := by
      rcases Nat.lt_or_ge i (P ++ Q).length with g | g
      · exact g
      · rw [List.getElem?_eq_none g] at hv; cases hv
    omega
/-! claiming what is left -/
def exB (pa de : Nat → Nat) (ac : Nat → Bool) (d s : Nat) : Bool := ac s && insB pa de d s
def apB (pa de : Nat → Nat) (ac : Nat → Bool) (N d : Nat) (g : Nat → Bool) : Bool := allN (fun s => !(exB pa de ac d s && g s)) N
theorem c_claim {fu : Nat} {A : mwM} {L : mwL} {k N d : Nat} {pa kd de : Nat → Nat} {ac g : Nat → Bool} (hf : 202 ≤ fu) (hT : Tr N pa kd de) (hC : TrC A k N pa kd de) (hd : d ≤ N) (hac : ∀ s, 1 ≤ s → s ≤ N → A (k + 7) s = bI (ac s)) (hg : ∀ s, 1 ≤ s → s ≤ N → A (k + 15) s = bI (g s)) : wq (DX2_claim fu k (sI d) A L) (fun z => z.1 = bI (apB pa de ac N d g) ∧ z.2.2 = L ∧ (∀ s, 1 ≤ s → s ≤ N → z.2.1 (k + 15) s = bI (g s || (apB pa de ac N d g && exB pa de ac d s))) ∧ ∀ b y, b ≠ k + 15 → b ≠ k + 16 → z.2.1 b y = A b y) := by
  have hN := hT.1
  unfold DX2_claim
  refine wq_b2 (c_markInside hf hT hC hd) ?_
  rintro M1 L1 ⟨y1, y2, y3⟩
  dsimp only at y1 y2 y3
  subst y1
  have e7 : M1 k 7 = sI N := (y3 _ _ (by omega)).trans hC.1
  -- the second loop
  have second : ∀ B : mwM, B = M1 → apB pa de ac N d g = true → wq (fX2_claim_h63 fu k (sI d) fu (1, B, L1)) (fun z => z.1 = bI (apB pa de ac N d g) ∧ z.2.2 = L1 ∧ (∀ s, 1 ≤ s → s ≤ N → z.2.1 (k + 15) s = bI (g s || (apB pa de ac N d g && exB pa de ac d s))) ∧ ∀ b y, b ≠ k + 15 → b ≠ k + 16 → z.2.1 b y = A b y) := by
    intro B hB ha
    rw [ha]
    refine wq_for (body := fun r z => fX2_claim_i63 fu k (sI d) r z.1 z.2.1 z.2.2) (fun i (a : mwM) => (sI i, a, L1)) (fun i a => 1 ≤ i ∧ (∀ s, 1 ≤ s → s ≤ N → a (k + 15) s = bI (g s || (decide (s < i) && exB pa de ac d s))) ∧ ∀ b y, b ≠ k + 15 → a b y = M1 b y) (N + 1) ?_ ?_ N 1 B fu (by omega) (by omega) ⟨Nat.le_refl _, ?_, fun b y _ => by rw [hB]⟩
    · intro i a r hi ⟨h1i, p1, p2⟩ ih
      show wq (fX2_claim_i63 fu k (sI d) r (sI i) a L1) _
      have f1 : a k 7 = sI N := (p2 _ _ (by omega)).trans e7
      have f2 : a (k + 16) i = bI (insB pa de d i) := (p2 _ _ (by omega)).trans (y2 i (by omega))
      have f3 : a (k + 7) i = bI (ac i) := by rw [p2 _ _ (by omega), y3 _ _ (by omega)]; exact hac i h1i (by omega)
      have go : ∀ a2 : mwM, a2 (k + 15) i = bI (g i || exB pa de ac d i) → (∀ b y, ¬ (b = k + 15 ∧ y = i) → a2 b y = a b y) → wq (r (sI (i + 1), a2, L1)) (fun z => z.1 = bI true ∧ z.2.2 = L1 ∧ (∀ s, 1 ≤ s → s ≤ N → z.2.1 (k + 15) s = bI (g s || (true && exB pa de ac d s))) ∧ ∀ b y, b ≠ k + 15 → b ≠ k + 16 → z.2.1 b y = A b y) := by
        intro a2 g1 g2
        refine ih _ ⟨by omega, fun s u1 u2 => ?_, fun b y u => (g2 b y (by omega)).trans (p2 b y u)⟩
        by_cases hq : s = i
        · subst hq
          rw [g1, decide_eq_true (by omega), Bool.true_and]
        · rw [g2 _ _ (by omega), p1 s u1 u2]
          by_cases hs : s < i
          · rw [decide_eq_true hs, decide_eq_true (by omega)]
          · rw [decide_eq_false hs, decide_eq_false (by omega)]
      have f4 := p1 i h1i (by omega)
      rw [decide_eq_false (by omega), Bool.false_and, Bool.or_false] at f4
      unfold fX2_claim_i63 fX2_claim_b106
      simp (disch := omega) only [f1, f2, f3, mck_s, sI_nn, nn_s, sI_lt, sI_le, sI_eq, sI_ltl, sI_lel, sI_eql, sI_llt, sI_lle, sI_1, bI_0, bI_1, bI_n, mlet, mb3_s, mb2_s]
      rw [if_neg (by omega)]
      cases h1 : insB pa de d i with
      | false =>
        rw [if_neg (by decide)]
        refine go a ?_ (fun _ _ _ => rfl)
        rw [f4]
        unfold exB
        rw [h1]
        simp
      | true =>
        rw [if_pos rfl]
        cases h2 : ac i with
        | false =>
          rw [if_neg (by decide)]
          refine go a ?_ (fun _ _ _ => rfl)
          rw [f4]
          unfold exB
          rw [h2]
          simp
        | true =>
          rw [if_pos rfl]
          refine go _ ?_ (fun b y u => mset_n u)
          rw [mset_s]
          unfold exB
          rw [h1, h2]
          simp [bI]
    · intro a r ⟨_, p1, p2⟩
      show wq (fX2_claim_i63 fu k (sI d) r (sI (N + 1)) a L1) _
      have f1 : a k 7 = sI N := (p2 _ _ (by omega)).trans e7
      unfold fX2_claim_i63
      rw [f1, if_pos (by rw [sI_lt (by omega) (by omega)]; omega)]
      refine wq_some ⟨rfl, rfl, fun s u1 u2 => ?_, fun b y u1 u2 => ?_⟩
      all_goals (try dsimp only)
      · rw [p1 s u1 u2, decide_eq_true (by omega)]
      · rw [p2 b y u1, y3 b y u2]
    · intro s u1 u2
      rw [hB, y3 _ _ (by omega), hg s u1 u2, decide_eq_false (by omega)]
      simp
  -- the first loop
  refine wq_for (body := fun r z => fX2_claim_i7 fu k (sI d) r z.1 z.2.1 z.2.2) (fun i (_ : Unit) => (sI i, M1, L1)) (fun i _ => 1 ≤ i ∧ allN (fun s => !(exB pa de ac d s && g s)) (i - 1) = true) (N + 1) ?_ ?_ N 1 () fu (by omega) (by omega) ⟨Nat.le_refl _, rfl⟩
  · intro i _ r hi ⟨h1i, p1⟩ ih
    obtain ⟨n, rfl⟩ : ∃ n, i = n + 1 := ⟨i - 1, by omega⟩
    show wq (fX2_claim_i7 fu k (sI d) r (sI (n + 1)) M1 L1) _
    have f2 := y2 (n + 1) (by omega)
    have f3 : M1 (k + 7) (n + 1) = bI (ac (n + 1)) := by rw [y3 _ _ (by omega)]; exact hac _ h1i (by omega)
    have f4 : M1 (k + 15) (n + 1) = bI (g (n + 1)) := by rw [y3 _ _ (by omega)]; exact hg _ h1i (by omega)
    unfold fX2_claim_i7 fX2_claim_b55
    simp (disch := omega) only [e7, f2, f3, f4, mck_s, sI_nn, nn_s, sI_lt, sI_le, sI_eq, sI_ltl, sI_lel, sI_eql, sI_llt, sI_lle, sI_1, bI_0, bI_1, bI_n, mlet, mb3_s, mb2_s]
    rw [if_neg (by omega)]
    have go : (exB pa de ac d (n + 1) && g (n + 1)) = false → wq (r (sI (n + 1 + 1), M1, L1)) (fun z => z.1 = bI (apB pa de ac N d g) ∧ z.2.2 = L1 ∧ (∀ s, 1 ≤ s → s ≤ N → z.2.1 (k + 15) s = bI (g s || (apB pa de ac N d g && exB pa de ac d s))) ∧ ∀ b y, b ≠ k + 15 → b ≠ k + 16 → z.2.1 b y = A b y) := by
      intro hx
      refine ih () ⟨by omega, ?_⟩
      show (allN (fun s => !(exB pa de ac d s && g s)) n && !(exB pa de ac d (n + 1) && g (n + 1))) = true
      rw [hx]
      simpa using p1
    cases h1 : insB pa de d (n + 1) with
    | false =>
      rw [if_neg (by decide)]
      exact go (by unfold exB; rw [h1]; simp)
    | true =>
      rw [if_pos rfl]
      cases h2 : ac (n + 1) with
      | false =>
        rw [if_neg (by decide)]
        exact go (by unfold exB; rw [h2]; simp)
      | true =>
        rw [if_pos rfl]
        cases h3 : g (n + 1) with
        | false =>
          rw [if_neg (by decide)]
          exact go (by rw [h3]; simp)
        | true =>
          rw [if_pos rfl]
          have ha : apB pa de ac N d g = false := by
            by_cases hx : apB pa de ac N d g = true
            · unfold apB at hx
              have := (allN_iff N).mp hx (n + 1) h1i (by omega)
              unfold exB at this
              rw [h1, h2, h3] at this
              cases this
            · simpa using hx
          rw [ha]
          refine wq_some ⟨rfl, rfl, fun s u1 u2 => ?_, fun b y u1 u2 => y3 b y u2⟩
          try dsimp only
          rw [y3 _ _ (by omega), hg s u1 u2]
          simp
  · intro _ r ⟨_, p1⟩
    show wq (fX2_claim_i7 fu k (sI d) r (sI (N + 1)) M1 L1) _
    unfold fX2_claim_i7
    rw [e7, if_pos (by rw [sI_lt (by omega) (by omega)]; omega)]
    exact second M1 rfl p1
/-! what a step takes -/
def kyE (c : Nat → Nat → Nat) (e : Nat) : Nat := c 3 (c 4 e)
def doE (c : Nat → Nat → Nat) (e : Nat) : Nat := bst (c 1) (c 2) (c 3) (c 4) (c 5) (c 0 1) e (c 0 0)
def cnB (c : Nat → Nat → Nat) (b : Nat → Nat → Bool) (v e : Nat) : Bool := decide (c 6 e = v) && goB (c 2) (c 4) (c 5) (c 0 1) (b 0) e
def rdB (c : Nat → Nat → Nat) (b : Nat → Nat → Bool) (D : Nat → Int64) (v e : Nat) : Bool := cnB c b v e && hdB D (c 7 e)
def rlL (c : Nat → Nat → Nat) (b : Nat → Nat → Bool) (D : Nat → Int64) (v : Nat) : Nat → List Nat
  | 0 => []
  | i + 1 => rlL c b D v i ++ (if rdB c b D v (i + 1) = true then [i + 1] else [])
def seb (c : Nat → Nat → Nat) (b : Nat → Nat → Bool) (D : Nat → Int64) (v n : Nat) : Nat → Nat → Bool := fun r e => if r = 4 then b 4 e || (decide (e ≤ n) && (cnB c b v e && (decide (c 7 e ≠ 0) && hdB D (c 7 e)))) else if r = 5 then b 5 e || (decide (e ≤ n) && (cnB c b v e && (decide (c 7 e ≠ 0) && !hdB D (c 7 e)))) else b r e
def zcN (c : Nat → Nat → Nat) (b : Nat → Nat → Bool) (D : Nat → Int64) (v : Nat) (z : Int32) : Nat → Int32
  | 0 => z
  | i + 1 => if (cnB c b v (i + 1) && hzB D (c 7 (i + 1))) = true then zcN c b D v z i + 1 else zcN c b D v z i
def sex (c : Nat → Nat → Nat) (b : Nat → Nat → Bool) (D : Nat → Int64) (x : Nat → Int32) (v n : Nat) : Nat → Int32 := fun i => if i = 1 then zcN c b D v (x 1) n else x i
def clS (c : Nat → Nat → Nat) (b : Nat → Nat → Bool) (st : (Nat → Bool) × List Nat) (e : Nat) : (Nat → Bool) × List Nat := if apB (c 1) (c 3) (b 0) (c 0 0) (doE c e) st.1 = true then (fun s => st.1 s || exB (c 1) (c 3) (b 0) (doE c e) s, st.2 ++ [e]) else st
def clL (c : Nat → Nat → Nat) (b : Nat → Nat → Bool) (l : List Nat) : (Nat → Bool) × List Nat := l.foldl (clS c b) (fun _ => false, [])
def srL (c : Nat → Nat → Nat) (b : Nat → Nat → Bool) (D : Nat → Int64) (v : Nat) : List Nat := soL (kyE c) (rlL c b D v (c 0 1)) 41
def tkL (c : Nat → Nat → Nat) (b : Nat → Nat → Bool) (D : Nat → Int64) (v : Nat) : List Nat := (clL c b (srL c b D v)).2
theorem rl_mem {c : Nat → Nat → Nat} {b : Nat → Nat → Bool} {D : Nat → Int64} {v x : Nat} : ∀ n, x ∈ rlL c b D v n → 1 ≤ x ∧ x ≤ n ∧ rdB c b D v x = true := by
  intro n
  induction n with
  | zero => intro h; cases h
  | succ n ih =>
    intro h
    have h' : x ∈ rlL c b D v n ++ (if rdB c b D v (n + 1) = true then [n + 1] else []) := h
    rw [List.mem_append] at h'
    rcases h' with h' | h'
    · have := ih h'
      exact ⟨this.1, by omega, this.2.2⟩
    · split at h'
      · rename_i hr
        rw [List.mem_singleton] at h'
        subst h'
        exact ⟨by omega, by omega, hr⟩
      · cases h'
theorem rl_len {c : Nat → Nat → Nat} {b : Nat → Nat → Bool} {D : Nat → Int64} {v : Nat} : ∀ n, (rlL c b D v n).length ≤ n := by
  intro n
  induction n with
  | zero => exact Nat.le_refl _
  | succ n ih =>
    show (rlL c b D v n ++ (if rdB c b D v (n + 1) = true then [n + 1] else [])).length ≤ n + 1
    rw [List.length_append]
    split
    · rw [List.length_singleton]; omega
    · rw [List.length_nil]; omega
theorem rd_src {c : Nat → Nat → Nat} {b : Nat → Nat → Bool} {D : Nat → Int64} {v e : Nat} (h : rdB c b D v e = true) : ∃ j, 1 ≤ j ∧ j ≤ c 0 1 ∧ sS (c 2) (c 4) (c 5) e j = true ∧ b 0 (c 4 j) = true := by
  unfold rdB cnB goB wtB at h
  simp only [Bool.and_eq_true] at h
  obtain ⟨j, h1, h2, h3⟩ := (anyN_iff _).mp h.1.2.2.2.1
  refine ⟨j, h1, h2, h3, ?_⟩
  have := (allN_iff _).mp h.1.2.2.2.2 j h1 h2
  rw [h3] at this
  simpa using this
theorem ky_le {c : Nat → Nat → Nat} (hv : Cv c) {e : Nat} (h1 : 1 ≤ e) (h2 : e ≤ c 0 1) : 1 ≤ kyE c e ∧ kyE c e ≤ 40 := by
  obtain ⟨j1, j2, _⟩ := hv.2.1.2 e h1 h2
  have := hv.1.2.2.2.2 _ j1 j2
  unfold kyE
  omega
theorem sr_mem {c : Nat → Nat → Nat} {b : Nat → Nat → Bool} {D : Nat → Int64} {v x : Nat} (h : x ∈ srL c b D v) : 1 ≤ x ∧ x ≤ c 0 1 ∧ rdB c b D v x = true := rl_mem _ ((so_mem 41).mp h).1
theorem sr_len {c : Nat → Nat → Nat} {b : Nat → Nat → Bool} {D : Nat → Int64} {v n : Nat} (hv : Cv c) (hn : n ≤ c 0 1) : (soL (kyE c) (rlL c b D v n) 41).length = (rlL c b D v n).length := so_len _ _ rfl (fun x hx => by
  have h := rl_mem _ hx
  have := ky_le hv h.1 (by omega)
  omega)
theorem doE_le {c : Nat → Nat → Nat} {e : Nat} : doE c e ≤ c 0 0 := bst_le _
/-- the class selects -/
theorem c_select {fu : Nat} {A : mwM} {L : mwL} {k v : Nat} {c : Nat → Nat → Nat} {b : Nat → Nat → Bool} {va : Nat → Int32} {D : Nat → Int64} {x : Nat → Int32} (hf : 402 ≤ fu) (hv : Cv c) (h : ReC k A L c b va D x) (hD : DoC k A c) (hvv : v < 2000) : wq (DX2_select fu k (sI v) A L) (fun z => z.1 = sI (tkL c b D v).length ∧ z.2.2 = L ∧ ReC k z.2.1 L c (seb c b D v (c 0 1)) va D (sex c b D x v (c 0 1)) ∧ LiZ z.2.1 (k + 27) (tkL c b D v) ∧ ∀ a y, ¬ (a = k + 15 ∨ a = k + 16 ∨ a = k + 26 ∨ a = k + 27) → ¬ (a = k ∧ y = 15) → z.2.1 a y = A a y) := by
  have hT := hv.1
  have hE := hv.2.1
  have hN := hT.1
  have hE4 := hE.1
  obtain ⟨hC, hEC, hXC, hf4, h5, h6, h7, h8⟩ := h
  have hac : ∀ s, 1 ≤ s → s ≤ c 0 0 → A (k + 7) s = bI (b 0 s) := fun s u1 u2 => (h6 s u1 u2).1
  have hLD : L (k + 34) = D := hf4.2.2.2.2.2
  -- what holds behind the first way through
  have build : ∀ B : mwM, (∀ e, 1 ≤ e → e ≤ c 0 1 → B (k + 26) e = sI (sn (b 3 e) (seb c b D v (c 0 1) 4 e) (seb c b D v (c 0 1) 5 e))) → B k 15 = zcN c b D v (x 1) (c 0 1) → (∀ a y, ¬ (a = k + 15 ∨ a = k + 16 ∨ a = k + 26 ∨ a = k + 27) → ¬ (a = k ∧ y = 15) → B a y = A a y) → ReC k B L c (seb c b D v (c 0 1)) va D (sex c b D x v (c 0 1)) := by
    intro B g1 g2 g3
    have hb : ∀ r, r ≠ 4 → r ≠ 5 → seb c b D v (c 0 1) r = b r := by
      intro r u1 u2
      funext e
      unfold seb
      rw [if_neg u1, if_neg u2]
    have hK : ∀ s, chK c (seb c b D v (c 0 1)) s = chK c b s := by
      intro s
      unfold chK
      rw [hb 0 (by omega) (by omega)]
    unfold ReC ReC'
    rw [hb 0 (by omega) (by omega), hb 1 (by omega) (by omega), hb 2 (by omega) (by omega), hb 3 (by omega) (by omega), hb 6 (by omega) (by omega)]
    refine ⟨TrC_f hC (g3 _ _ (by omega) (by omega)) (fun a s u1 u2 => g3 _ _ (by omega) (by omega)), ?_, ?_, ?_, ?_, ?_, ?_, ?_⟩
    · refine ⟨?_, fun e u1 u2 => ?_⟩
      · simp (disch := omega) only [g3]; exact hEC.1
      · simp (disch := omega) only [g3]; exact hEC.2 e u1 u2
    · refine ⟨?_, fun e u1 => ?_⟩
      · simp (disch := omega) only [g3]; exact hXC.1
      · simp (disch := omega) only [g3]; exact hXC.2 e u1
    · simp (disch := omega) only [g3]
      exact ⟨hf4.1, hf4.2.1, hf4.2.2.1, g2, hf4.2.2.2.2⟩
    · intro s hs
      rw [hK]
      simp (disch := omega) only [g3]; exact h5 s hs
    · intro s u1 hs
      simp (disch := omega) only [g3]; exact h6 s u1 hs
    · refine ⟨fun i w hw => ?_, fun i w hw => ?_⟩
      · simp (disch := omega) only [g3]; exact h7.1 i w hw
      · simp (disch := omega) only [g3]; exact h7.2 i w hw
    · intro e u1 u2
      exact g1 e u1 u2
  -- the last way: claiming
  have claiming : ∀ B : mwM, LiZ B (k + 27) (srL c b D v) → (∀ s, 1 ≤ s → s ≤ c 0 0 → B (k + 15) s = bI false) → (∀ e, 1 ≤ e → e ≤ c 0 1 → B (k + 26) e = sI (sn (b 3 e) (seb c b D v (c 0 1) 4 e) (seb c b D v (c 0 1) 5 e))) → B k 15 = zcN c b D v (x 1) (c 0 1) → (∀ a y, ¬ (a = k + 15 ∨ a = k + 16 ∨ a = k + 26 ∨ a = k + 27) → ¬ (a = k ∧ y = 15) → B a y = A a y) → wq (fX2_select_h90 fu k (sI v) fu (sI (srL c b D v).length, 0, 0, B, L)) (fun z => z.1 = sI (tkL c b D v).length ∧ z.2.2 = L ∧ ReC k z.2.1 L c (seb c b D v (c 0 1)) va D (sex c b D x v (c 0 1)) ∧ LiZ z.2.1 (k + 27) (tkL c b D v) ∧ ∀ a y, ¬ (a = k + 15 ∨ a = k + 16 ∨ a = k + 26 ∨ a = k + 27) → ¬ (a = k ∧ y = 15) → z.2.1 a y = A a y) := by
    intro B o1 o2 o3 o4 o5
    have hsl : (srL c b D v).length ≤ c 0 1 := by
      unfold srL
      rw [sr_len hv (Nat.le_refl _)]
      exact rl_len _
    refine wq_for (body := fun r z => fX2_select_i90 fu k (sI v) r z.1 z.2.1 z.2.2.1 z.2.2.2.1 z.2.2.2.2) (fun i (a : mwM) => (sI (srL c b D v).length, sI (clL c b ((srL c b D v).take i)).2.length, sI i, a, L)) (fun i a => (clL c b ((srL c b D v).take i)).2.length ≤ i ∧ LiZ a (k + 27) (clL c b ((srL c b D v).take i)).2 ∧ (∀ j w, i ≤ j → (srL c b D v)[j]? = some w → a (k + 27) j = sI w) ∧ (∀ s, 1 ≤ s → s ≤ c 0 0 → a (k + 15) s = bI ((clL c b ((srL c b D v).take i)).1 s)) ∧ ∀ d y, d ≠ k + 15 → d ≠ k + 16 → d ≠ k + 27 → a d y = B d y) (srL c b D v).length ?_ ?_ (srL c b D v).length 0 B fu (by omega) (by omega) ⟨Nat.le_refl _, fun j w hw => absurd hw (by simp [clL]), fun j w _ hw => o1 j w hw, o2, fun _ _ _ _ _ => rfl⟩
    · intro i a r hi ⟨q1, q2, q3, q4, q5⟩ ih
      show wq (fX2_select_i90 fu k (sI v) r (sI (srL c b D v).length) (sI (clL c b ((srL c b D v).take i)).2.length) (sI i) a L) _
      have hg := List.getElem?_eq_getElem hi
      generalize hew : (srL c b D v)[i] = e at hg
      have hmem : e ∈ srL c b D v := by rw [← hew]; exact List.getElem_mem hi
      obtain ⟨e1, e2, e3⟩ := sr_mem hmem
      obtain ⟨j, j1, j2, j3, _⟩ := rd_src e3
      have f1 := q3 i e (Nat.le_refl _) hg
      have f2 : a (k + 25) e = sI (doE c e) := by
        rw [q5 _ _ (by omega) (by omega) (by omega), o5 _ _ (by omega) (by omega)]
        exact hD e e1 e2 j j1 j2 j3
      have hdl := doE_le (c := c) (e := e)
      have aC : TrC a k (c 0 0) (c 1) (c 2) (c 3) := TrC_f hC (by rw [q5 _ _ (by omega) (by omega) (by omega), o5 _ _ (by omega) (by omega)]) (fun d s u1 u2 => by rw [q5 _ _ (by omega) (by omega) (by omega), o5 _ _ (by omega) (by omega)])
      have aac : ∀ s, 1 ≤ s → s ≤ c 0 0 → a (k + 7) s = bI (b 0 s) := fun s u1 u2 => by rw [q5 _ _ (by omega) (by omega) (by omega), o5 _ _ (by omega) (by omega)]; exact hac s u1 u2
      have htake : (srL c b D v).take (i + 1) = (srL c b D v).take i ++ [e] := by
        rw [List.take_succ, hg]
        rfl
      have hst : clL c b ((srL c b D v).take (i + 1)) = clS c b (clL c b ((srL c b D v).take i)) e := by
        unfold clL
        rw [htake, List.foldl_append]
        rfl
      unfold fX2_select_i90
      simp (disch := omega) only [f1, f2, mck_s, sI_nn, nn_s, sI_lt, sI_le, sI_eq, sI_ltl, sI_lel, sI_eql, sI_llt, sI_lle, sI_1, bI_0, bI_1, bI_n, mlet, mb3_s, mb2_s]
      rw [if_neg (by omega)]
      refine wq_b3 (c_claim (by omega) hT aC hdl aac q4) ?_
      rintro r1 M1 L1 ⟨y1, y2, y3, y4⟩
      dsimp only at y1 y2 y3 y4
      subst y1 y2
      unfold fX2_select_b138
      rw [hst] at ih
      generalize hG : clL c b ((srL c b D v).take i) = G at *
      cases hap : apB (c 1) (c 3) (b 0) (c 0 0) (doE c e) G.1 with
      | false =>
        rw [if_pos bI_f]
        simp only [mlet]
        rw [sI_1]
        have hs2 : clS c b G e = G := by
          unfold clS
          rw [hap, if_neg (by decide)]
        rw [hs2] at ih
        refine ih M1 ⟨by omega, fun j w hw => ?_, fun j w hj hw => ?_, fun s u1 u2 => ?_, fun d y u1 u2 u3 => ?_⟩
        · rw [y4 _ _ (by omega) (by omega)]; exact q2 j w hw
        · rw [y4 _ _ (by omega) (by omega)]; exact q3 j w (by omega) hw
        · rw [y3 s u1 u2, hap]; simp
        · rw [y4 _ _ u1 u2]; exact q5 d y u1 u2 u3
      | true =>
        rw [if_neg (by decide)]
        simp (disch := omega) only [mck_s, sI_nn, nn_s, sI_lt, sI_le, sI_eq, sI_ltl, sI_lel, sI_eql, sI_llt, sI_lle, sI_1, bI_0, bI_1, bI_n, mlet, mb3_s, mb2_s]
        have hs2 : clS c b G e = (fun s => G.1 s || exB (c 1) (c 3) (b 0) (doE c e) s, G.2 ++ [e]) := by
          unfold clS
          rw [hap, if_pos rfl]
        rw [hs2] at ih
        dsimp only at ih
        rw [List.length_append, List.length_singleton] at ih
        refine ih _ ⟨by omega, fun j w hw => ?_, fun j w hj hw => ?_, fun s u1 u2 => ?_, fun d y u1 u2 u3 => ?_⟩
        · rcases Nat.lt_trichotomy j G.2.length with g | g | g
          · rw [List.getElem?_append_left g] at hw
            rw [mset_j (by omega), y4 _ _ (by omega) (by omega)]
            exact q2 j w hw
          · rw [List.getElem?_append_right (by omega), g, Nat.sub_self] at hw
            have : w = e := by simpa using hw.symm
            rw [g, mset_s, this]
          · rw [List.getElem?_eq_none (by rw [List.length_append, List.length_singleton]; omega)] at hw
            cases hw
        · rw [mset_j (by omega), y4 _ _ (by omega) (by omega)]; exact q3 j w (by omega) hw
        · rw [mset_k (by omega), y3 s u1 u2, hap]; simp
        · rw [mset_k (by omega), y4 _ _ u1 u2]; exact q5 d y u1 u2 u3
    · intro a r ⟨q1, q2, q3, q4, q5⟩
      show wq (fX2_select_i90 fu k (sI v) r (sI (srL c b D v).length) (sI (clL c b ((srL c b D v).take (srL c b D v).length)).2.length) (sI (srL c b D v).length) a L) _
      rw [List.take_length] at q1 q2 ⊢
      unfold fX2_select_i90
      rw [if_pos (by rw [sI_le (by omega) (by omega)]; exact Nat.le_refl _)]
      refine wq_some ⟨rfl, rfl, ?_, q2, ?_⟩
      all_goals (try dsimp only)
      · refine build a (fun e u1 u2 => ?_) ?_ (fun d y u1 u2 => ?_)
        · rw [q5 _ _ (by omega) (by omega) (by omega)]; exact o3 e u1 u2
        · rw [q5 _ _ (by omega) (by omega) (by omega)]; exact o4
        · rw [q5 _ _ (by omega) (by omega) (by omega)]; exact o5 d y u1 u2
      · intro d y u1 u2
        rw [q5 _ _ (by omega) (by omega) (by omega)]; exact o5 d y u1 u2
  -- the first way
  unfold DX2_select
  refine wq_for (body := fun r z => fX2_select_i4 fu k (sI v) r z.1 z.2.1 z.2.2.1 z.2.2.2) (fun i (a : mwM) => (sI (rlL c b D v (i - 1)).length, sI i, a, L)) (fun i a => 1 ≤ i ∧ LiZ a (k + 27) (soL (kyE c) (rlL c b D v (i - 1)) 41) ∧ (∀ e, 1 ≤ e → e ≤ c 0 1 → a (k + 26) e = sI (sn (b 3 e) (seb c b D v (i - 1) 4 e) (seb c b D v (i - 1) 5 e))) ∧ a k 15 = zcN c b D v (x 1) (i - 1) ∧ ∀ d y, ¬ (d = k + 26 ∨ d = k + 27) → ¬ (d = k ∧ y = 15) → a d y = A d y) (c 0 1 + 1) ?_ ?_ (c 0 1) 1 A fu (by omega) (by omega) ⟨Nat.le_refl _, ?_, ?_, hf4.2.2.2.1, fun _ _ _ _ => rfl⟩
  · intro i a r hi ⟨h1i, q1, q2, q3, q4⟩ ih
    obtain ⟨n, rfl⟩ : ∃ n, i = n + 1 := ⟨i - 1, by omega⟩
    rw [Nat.add_sub_cancel] at q1 q2 q3
    have ih2 := ih
    simp only [show n + 1 + 1 - 1 = n + 1 from rfl] at ih2
    show wq (fX2_select_i4 fu k (sI v) r (sI (rlL c b D v n).length) (sI (n + 1)) a L) _
    have aC : TrC a k (c 0 0) (c 1) (c 2) (c 3) := TrC_f hC (q4 _ _ (by omega) (by omega)) (fun d s u1 u2 => q4 _ _ (by omega) (by omega))
    have aE : EdC a k (c 0 1) (c 4) (c 5) (c 6) (c 7) := ⟨(q4 _ _ (by omega) (by omega)).trans hEC.1, fun j u1 u2 => by simp (disch := omega) only [q4]; exact hEC.2 j u1 u2⟩
    have aac : ∀ s, 1 ≤ s → s ≤ c 0 0 → a (k + 7) s = bI (b 0 s) := fun s u1 u2 => (q4 _ _ (by omega) (by omega)).trans (hac s u1 u2)
    obtain ⟨j1, j2, j3, j4, j5, j6, j7, j8, j9⟩ := hE.2 (n + 1) (by omega) (by omega)
    obtain ⟨a1, a2, a3, a4⟩ := aE.2 (n + 1) (by omega) (by omega)
    have hky := ky_le hv (e := n + 1) (by omega) (by omega)
    have hrl := rl_len (c := c) (b := b) (D := D) (v := v) n
    have em := c_mayGo (fu := fu) (L := L) (by omega) hT aC hE aE aac (show 1 ≤ n + 1 by omega) (show n + 1 ≤ c 0 1 by omega)
    have erl : rlL c b D v (n + 1) = rlL c b D v n ++ (if rdB c b D v (n + 1) = true then [n + 1] else []) := rfl
    have ezc : zcN c b D v (x 1) (n + 1) = if (cnB c b v (n + 1) && hzB D (c 7 (n + 1))) = true then zcN c b D v (x 1) n + 1 else zcN c b D v (x 1) n := rfl
    -- edges other than this one
    have oth : ∀ e, e ≠ n + 1 → seb c b D v (n + 1) 4 e = seb c b D v n 4 e ∧ seb c b D v (n + 1) 5 e = seb c b D v n 5 e := by
      intro e he
      have : decide (e ≤ n + 1) = decide (e ≤ n) := by
        by_cases hq : e ≤ n
        · rw [decide_eq_true hq, decide_eq_true (by omega)]
        · rw [decide_eq_false hq, decide_eq_false (by omega)]
      unfold seb
      simp only [this]
      exact ⟨trivial, trivial⟩
    have own0 : seb c b D v n 4 (n + 1) = b 4 (n + 1) ∧ seb c b D v n 5 (n + 1) = b 5 (n + 1) := by
      unfold seb
      rw [decide_eq_false (show ¬ n + 1 ≤ n by omega)]
      simp
    have own1 : seb c b D v (n + 1) 4 (n + 1) = (b 4 (n + 1) || (cnB c b v (n + 1) && (decide (c 7 (n + 1) ≠ 0) && hdB D (c 7 (n + 1))))) ∧ seb c b D v (n + 1) 5 (n + 1) = (b 5 (n + 1) || (cnB c b v (n + 1) && (decide (c 7 (n + 1) ≠ 0) && !hdB D (c 7 (n + 1))))) := by
      unfold seb
      rw [decide_eq_true (Nat.le_refl (n + 1))]
      simp
    -- nothing comes of this edge
    have skip : cnB c b v (n + 1) = false → wq (r (sI (rlL c b D v n).length, sI (n + 1 + 1), a, L)) (fun z => z.1 = sI (tkL c b D v).length ∧ z.2.2 = L ∧ ReC k z.2.1 L c (seb c b D v (c 0 1)) va D (sex c b D x v (c 0 1)) ∧ LiZ z.2.1 (k + 27) (tkL c b D v) ∧ ∀ a y, ¬ (a = k + 15 ∨ a = k + 16 ∨ a = k + 26 ∨ a = k + 27) → ¬ (a = k ∧ y = 15) → z.2.1 a y = A a y) := by
      intro hcn
      have hr0 : rdB c b D v (n + 1) = false := by unfold rdB; rw [hcn]; rfl
      have er : rlL c b D v (n + 1) = rlL c b D v n := by rw [erl, hr0, if_neg (by decide), List.append_nil]
      rw [er] at ih2
      refine ih2 a ⟨by omega, q1, fun e u1 u2 => ?_, ?_, q4⟩
      · by_cases he : e = n + 1
        · subst he
          have := q2 (n + 1) u1 u2
          rw [own0.1, own0.2] at this
          rw [own1.1, own1.2, hcn]
          simpa using this
        · rw [(oth e he).1, (oth e he).2]
          exact q2 e u1 u2
      · rw [ezc, hcn]
        exact q3
    unfold fX2_select_i4 fX2_select_b47
    simp (disch := omega) only [aE.1, a3, em, mck_s, sI_nn, nn_s, sI_lt, sI_le, sI_eq, sI_ltl, sI_lel, sI_eql, sI_llt, sI_lle, sI_1, bI_0, bI_1, bI_n, mlet, mb3_s, mb2_s]
    rw [if_neg (by omega)]
    by_cases hev : c 6 (n + 1) = v
    · rw [if_pos hev]
      cases hgo : goB (c 2) (c 4) (c 5) (c 0 1) (b 0) (n + 1) with
      | false =>
        rw [if_pos rfl]
        exact skip (by unfold cnB; rw [hgo]; simp)
      | true =>
        rw [if_neg (by decide)]
        have hcn : cnB c b v (n + 1) = true := by unfold cnB; rw [hgo]; simp [hev]
        have a26 := q2 (n + 1) (by omega) (by omega)
        rw [own0.1, own0.2] at a26
        refine wq_b3 (c_holds (g := c 7 (n + 1)) (by omega) j8 j9 a4 a26) ?_
        rintro r1 M1 L1 ⟨y1, y2, y3, y4, y5⟩
        dsimp only at y1 y2 y3 y4 y5
        subst y1 y2
        rw [hLD] at y3 y4 ⊢
        rw [hcn, Bool.true_and, Bool.true_and] at own1
        rw [hcn, Bool.true_and] at ezc
        have m26 : ∀ e, 1 ≤ e → e ≤ c 0 1 → M1 (k + 26) e = sI (sn (b 3 e) (seb c b D v (n + 1) 4 e) (seb c b D v (n + 1) 5 e)) := by
          intro e u1 u2
          by_cases he : e = n + 1
          · subst he
            rw [own1.1, own1.2]
            exact y3
          · rw [(oth e he).1, (oth e he).2, y5 _ _ (by omega) (by omega)]
            exact q2 e u1 u2
        have m15 : M1 k 15 = zcN c b D v (x 1) (n + 1) := by
          rw [y4, ezc, q3]
        have mfr : ∀ d y, ¬ (d = k + 26 ∨ d = k + 27) → ¬ (d = k ∧ y = 15) → M1 d y = A d y := by
          intro d y u1 u2
          rw [y5 _ _ (by omega) (by omega)]
          exact q4 d y u1 u2
        cases hhd : hdB D (c 7 (n + 1)) with
        | false =>
          rw [if_pos bI_f]
          have hr0 : rdB c b D v (n + 1) = false := by unfold rdB; rw [hhd]; simp
          have er : rlL c b D v (n + 1) = rlL c b D v n := by rw [erl, hr0, if_neg (by decide), List.append_nil]
          rw [er] at ih2
          refine ih2 M1 ⟨by omega, fun j w hw => ?_, m26, m15, mfr⟩
          rw [y5 _ _ (by omega) (by omega)]
          exact q1 j w hw
        | true =>
          rw [if_neg (by decide)]
          have hr1 : rdB c b D v (n + 1) = true := by unfold rdB; rw [hcn, hhd]; rfl
          have er : rlL c b D v (n + 1) = rlL c b D v n ++ [n + 1] := by rw [erl, hr1, if_pos rfl]
          obtain ⟨P, Q, i1, i2, i3, i4⟩ := so_ins (κ := kyE c) (l := rlL c b D v n) (e := n + 1) hky.1 41 (by omega)
          have mC : TrC M1 k (c 0 0) (c 1) (c 2) (c 3) := TrC_f hC (mfr _ _ (by omega) (by omega)) (fun d s u1 u2 => mfr _ _ (by omega) (by omega))
          have mE : EdC M1 k (c 0 1) (c 4) (c 5) (c 6) (c 7) := ⟨(mfr _ _ (by omega) (by omega)).trans hEC.1, fun j u1 u2 => by simp (disch := omega) only [mfr]; exact hEC.2 j u1 u2⟩
          have hln := sr_len (b := b) (D := D) (v := v) hv (show n ≤ c 0 1 by omega)
          refine wq_b3 (c_putReady (P := P) (Q := Q) hf hT mC hE mE ⟨by omega, by omega⟩ (by rw [← i1]; exact hln) (by omega) (fun w hw => ?_) ?_ i3 i4) ?_
          · rw [← i1] at hw
            have := rl_mem _ ((so_mem 41).mp hw).1
            omega
          · rw [← i1]
            intro j w hw
            rw [y5 _ _ (by omega) (by omega)]
            exact q1 j w hw
          rintro r2 M2 L2 ⟨w1, w2, w3, w4⟩
          dsimp only at w1 w2 w3 w4
          subst w1 w2
          rw [er] at ih2
          rw [List.length_append, List.length_singleton] at ih2
          refine ih2 M2 ⟨by omega, ?_, fun e u1 u2 => ?_, ?_, fun d y u1 u2 => ?_⟩
          · rw [i2]; exact w3
          · rw [w4 _ _ (by omega)]; exact m26 e u1 u2
          · rw [w4 _ _ (by omega)]; exact m15
          · rw [w4 _ _ (by omega)]; exact mfr d y u1 u2
    · rw [if_neg hev]
      exact skip (by unfold cnB; rw [decide_eq_false hev]; rfl)
  · intro a r ⟨_, q1, q2, q3, q4⟩
    rw [Nat.add_sub_cancel] at q1 q2 q3
    show wq (fX2_select_i4 fu k (sI v) r (sI (rlL c b D v (c 0 1)).length) (sI (c 0 1 + 1)) a L) _
    have hln : (srL c b D v).length = (rlL c b D v (c 0 1)).length := sr_len hv (Nat.le_refl _)
    have hrl := rl_len (c := c) (b := b) (D := D) (v := v) (c 0 1)
    have e8 : a k 8 = sI (c 0 1) := (q4 _ _ (by omega) (by omega)).trans hEC.1
    unfold fX2_select_i4
    rw [e8, if_pos (by rw [sI_lt (by omega) (by omega)]; omega)]
    by_cases h0 : (rlL c b D v (c 0 1)).length = 0
    · rw [if_pos (by rw [h0]; rfl)]
      have hsr : srL c b D v = [] := List.eq_nil_of_length_eq_zero (by omega)
      have htk : tkL c b D v = [] := by unfold tkL; rw [hsr]; rfl
      refine wq_some ⟨?_, rfl, build a q2 q3 (fun d y u1 u2 => q4 d y (by omega) u2), ?_, fun d y u1 u2 => q4 d y (by omega) u2⟩
      · rw [htk]; rfl
      · rw [htk]; intro j w hw; cases hw
    · rw [if_neg (by rw [sI_eql (by omega) (by decide)]; exact h0)]
      refine wq_for (body := fun r z => fX2_select_i61 fu k (sI v) r z.1 z.2.1 z.2.2.1 z.2.2.2) (fun i (o : mwM) => (sI (rlL c b D v (c 0 1)).length, sI i, o, L)) (fun i o => 1 ≤ i ∧ (∀ s, 1 ≤ s → s < i → o (k + 15) s = bI false) ∧ ∀ d y, d ≠ k + 15 → o d y = a d y) (c 0 0 + 1) ?_ ?_ (c 0 0) 1 a fu (by omega) (by omega) ⟨Nat.le_refl _, fun s u1 u2 => by omega, fun _ _ _ => rfl⟩
      · intro i o r hi ⟨h1i, s1, s2⟩ ih
        show wq (fX2_select_i61 fu k (sI v) r (sI (rlL c b D v (c 0 1)).length) (sI i) o L) _
        have o7 : o k 7 = sI (c 0 0) := by rw [s2 _ _ (by omega), q4 _ _ (by omega) (by omega)]; exact hC.1
        unfold fX2_select_i61
        simp (disch := omega) only [o7, mck_s, sI_nn, nn_s, sI_lt, sI_le, sI_eq, sI_ltl, sI_lel, sI_eql, sI_llt, sI_lle, sI_1, bI_0, bI_1, bI_n, mlet, mb3_s, mb2_s]
        rw [if_neg (by omega)]
        refine ih _ ⟨by omega, fun s u1 u2 => ?_, fun d y u => by rw [mset_k u]; exact s2 d y u⟩
        by_cases hs : s = i
        · rw [hs, mset_s]; rfl
        · rw [mset_j hs]; exact s1 s u1 (by omega)
      · intro o r ⟨_, s1, s2⟩
        show wq (fX2_select_i61 fu k (sI v) r (sI (rlL c b D v (c 0 1)).length) (sI (c 0 0 + 1)) o L) _
        have o7 : o k 7 = sI (c 0 0) := by rw [s2 _ _ (by omega), q4 _ _ (by omega) (by omega)]; exact hC.1
        unfold fX2_select_i61
        rw [o7, if_pos (by rw [sI_lt (by omega) (by omega)]; omega), ← hln]
        refine claiming o (fun j w hw => ?_) (fun s u1 u2 => s1 s u1 (by omega)) (fun e u1 u2 => ?_) ?_ (fun d y u1 u2 => ?_)
        · rw [s2 _ _ (by omega)]; exact q1 j w hw
        · rw [s2 _ _ (by omega)]; exact q2 e u1 u2
        · rw [s2 _ _ (by omega)]; exact q3
        · rw [s2 _ _ (by omega)]; exact q4 d y (by omega) u2
  · intro j w hw
    show A (k + 27) j = sI w
    have : soL (kyE c) (rlL c b D v 0) 41 = [] := so_nil 41
    rw [show (1 : Nat) - 1 = 0 from rfl, this] at hw
    cases hw
  · intro e u1 u2
    have := h8 e u1 u2
    unfold seb
    rw [decide_eq_false (show ¬ e ≤ 1 - 1 by omega)]
    simpa using this
