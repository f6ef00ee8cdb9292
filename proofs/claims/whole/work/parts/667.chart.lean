/-! the order in which states are left and entered -/
def lv (de : Nat → Nat) : Nat → Nat → List Nat
  | 0, _ => []
  | n + 1, d => lv de n d ++ (if de (n + 1) = d then [n + 1] else [])
def faL (de : Nat → Nat) (N : Nat) : Nat → List Nat
  | 0 => []
  | j + 1 => lv de N (j + 1) ++ faL de N j
def riL (de : Nat → Nat) (N : Nat) : Nat → List Nat
  | 0 => []
  | j + 1 => riL de N j ++ lv de N j
theorem lv_mem {de : Nat → Nat} {d x : Nat} : ∀ n, x ∈ lv de n d ↔ 1 ≤ x ∧ x ≤ n ∧ de x = d := by
  intro n
  induction n with
  | zero =>
    constructor
    · intro h; cases h
    · intro h; omega
  | succ n ih =>
    show x ∈ lv de n d ++ (if de (n + 1) = d then [n + 1] else []) ↔ _
    rw [List.mem_append, ih]
    by_cases hq : de (n + 1) = d
    · rw [if_pos hq, List.mem_singleton]
      constructor
      · rintro (h | rfl)
        · omega
        · exact ⟨by omega, by omega, hq⟩
      · intro h
        by_cases hx : x = n + 1
        · exact Or.inr hx
        · exact Or.inl ⟨h.1, by omega, h.2.2⟩
    · rw [if_neg hq]
      constructor
      · rintro (h | h)
        · omega
        · cases h
      · intro h
        refine Or.inl ⟨h.1, ?_, h.2.2⟩
        rcases Nat.lt_or_ge n x with g | g
        · exfalso
          have : x = n + 1 := by omega
          rw [this] at h
          exact hq h.2.2
        · exact g
theorem lv_nd {de : Nat → Nat} {d : Nat} : ∀ n, List.Pairwise (fun a b => a ≠ b) (lv de n d) := by
  intro n
  induction n with
  | zero => exact List.Pairwise.nil
  | succ n ih =>
    show List.Pairwise (fun a b => a ≠ b) (lv de n d ++ (if de (n + 1) = d then [n + 1] else []))
    rw [List.pairwise_append]
    refine ⟨ih, ?_, ?_⟩
    · split
      · exact List.pairwise_singleton _ _
      · exact List.Pairwise.nil
    · intro a ha b hb
      have h1 := (lv_mem n).mp ha
      split at hb
      · rw [List.mem_singleton] at hb
        omega
      · cases hb
theorem fa_mem {de : Nat → Nat} {N x : Nat} : ∀ j, x ∈ faL de N j ↔ 1 ≤ x ∧ x ≤ N ∧ 1 ≤ de x ∧ de x ≤ j := by
  intro j
  induction j with
  | zero =>
    constructor
    · intro h; cases h
    · intro h; omega
  | succ j ih =>
    show x ∈ lv de N (j + 1) ++ faL de N j ↔ _
    rw [List.mem_append, ih, lv_mem]
    omega
theorem fa_nd {de : Nat → Nat} {N : Nat} : ∀ j, List.Pairwise (fun a b => a ≠ b) (faL de N j) := by
  intro j
  induction j with
  | zero => exact List.Pairwise.nil
  | succ j ih =>
    show List.Pairwise (fun a b => a ≠ b) (lv de N (j + 1) ++ faL de N j)
    rw [List.pairwise_append]
    refine ⟨lv_nd N, ih, ?_⟩
    intro a ha b hb q
    have h1 := (lv_mem N).mp ha
    have h2 := (fa_mem j).mp hb
    rw [q] at h1
    omega
theorem ri_mem {de : Nat → Nat} {N x : Nat} : ∀ j, x ∈ riL de N j ↔ 1 ≤ x ∧ x ≤ N ∧ de x < j := by
  intro j
  induction j with
  | zero =>
    constructor
    · intro h; cases h
    · intro h; omega
  | succ j ih =>
    show x ∈ riL de N j ++ lv de N j ↔ _
    rw [List.mem_append, ih, lv_mem]
    omega
theorem ri_nd {de : Nat → Nat} {N : Nat} : ∀ j, List.Pairwise (fun a b => a ≠ b) (riL de N j) := by
  intro j
  induction j with
  | zero => exact List.Pairwise.nil
  | succ j ih =>
    show List.Pairwise (fun a b => a ≠ b) (riL de N j ++ lv de N j)
    rw [List.pairwise_append]
    refine ⟨ih, lv_nd N, ?_⟩
    intro a ha b hb q
    have h1 := (ri_mem j).mp ha
    have h2 := (lv_mem N).mp hb
    rw [q] at h1
    omega
theorem lv_f {de de' : Nat → Nat} {d : Nat} : ∀ n, (∀ s, 1 ≤ s → s ≤ n → de' s = de s) → lv de' n d = lv de n d := by
  intro n
  induction n with
  | zero => intro _; rfl
  | succ n ih =>
    intro h
    show lv de' n d ++ (if de' (n + 1) = d then [n + 1] else []) = lv de n d ++ (if de (n + 1) = d then [n + 1] else [])
    rw [ih (fun s h1 h2 => h s h1 (by omega)), h (n + 1) (by omega) (by omega)]
theorem fa_f {de de' : Nat → Nat} {n : Nat} (h : ∀ s, 1 ≤ s → s ≤ n → de' s = de s) : ∀ j, faL de' n j = faL de n j := by
  intro j
  induction j with
  | zero => rfl
  | succ j ih =>
    show lv de' n (j + 1) ++ faL de' n j = lv de n (j + 1) ++ faL de n j
    rw [ih, lv_f n h]
theorem ri_f {de de' : Nat → Nat} {n : Nat} (h : ∀ s, 1 ≤ s → s ≤ n → de' s = de s) : ∀ j, riL de' n j = riL de n j := by
  intro j
  induction j with
  | zero => rfl
  | succ j ih =>
    show riL de' n j ++ lv de' n j = riL de n j ++ lv de n j
    rw [ih, lv_f n h]
/-- one more state: where it comes to stand -/
theorem lv_no {de : Nat → Nat} {N d : Nat} (h : de (N + 1) ≠ d) : lv de (N + 1) d = lv de N d := by
  show lv de N d ++ (if de (N + 1) = d then [N + 1] else []) = lv de N d
  rw [if_neg h, List.append_nil]
theorem lv_yes {de : Nat → Nat} {N d : Nat} (h : de (N + 1) = d) : lv de (N + 1) d = lv de N d ++ [N + 1] := by
  show lv de N d ++ (if de (N + 1) = d then [N + 1] else []) = lv de N d ++ [N + 1]
  rw [if_pos h]
theorem fa_less {de : Nat → Nat} {N : Nat} : ∀ j, j < de (N + 1) → faL de (N + 1) j = faL de N j := by
  intro j
  induction j with
  | zero => intro _; rfl
  | succ j ih =>
    intro h
    show lv de (N + 1) (j + 1) ++ faL de (N + 1) j = lv de N (j + 1) ++ faL de N j
    rw [ih (by omega), lv_no (by omega)]
theorem fa_ins {de : Nat → Nat} {N : Nat} (h0 : 1 ≤ de (N + 1)) : ∀ j, de (N + 1) ≤ j → ∃ P Q, faL de N j = P ++ Q ∧ faL de (N + 1) j = P ++ (N + 1) :: Q ∧ (∀ x ∈ P, de (N + 1) ≤ de x) ∧ ∀ x ∈ Q, de x < de (N + 1) := by
  intro j
  induction j with
  | zero => intro h; omega
  | succ j ih =>
    intro h
    by_cases hj : de (N + 1) = j + 1
    · refine ⟨lv de N (j + 1), faL de N j, rfl, ?_, ?_, ?_⟩
      · show lv de (N + 1) (j + 1) ++ faL de (N + 1) j = _
        rw [fa_less j (by omega), lv_yes hj, List.append_assoc]
        rfl
      · intro x hx
        rw [((lv_mem N).mp hx).2.2]
        omega
      · intro x hx
        have := (fa_mem j).mp hx
        omega
    · obtain ⟨P, Q, h1, h2, h3, h4⟩ := ih (by omega)
      refine ⟨lv de N (j + 1) ++ P, Q, ?_, ?_, ?_, h4⟩
      · show lv de N (j + 1) ++ faL de N j = _
        rw [h1, List.append_assoc]
      · show lv de (N + 1) (j + 1) ++ faL de (N + 1) j = _
        rw [h2, lv_no hj, List.append_assoc]
      · intro x hx
        rw [List.mem_append] at hx
        rcases hx with hx | hx
        · rw [((lv_mem N).mp hx).2.2]
          omega
        · exact h3 x hx
theorem ri_less {de : Nat → Nat} {N : Nat} : ∀ j, j ≤ de (N + 1) → riL de (N + 1) j = riL de N j := by
  intro j
  induction j with
  | zero => intro _; rfl
  | succ j ih =>
    intro h
    show riL de (N + 1) j ++ lv de (N + 1) j = riL de N j ++ lv de N j
    rw [ih (by omega), lv_no (by omega)]
theorem ri_ins {de : Nat → Nat} {N : Nat} : ∀ j, de (N + 1) < j → ∃ P Q, riL de N j = P ++ Q ∧ riL de (N + 1) j = P ++ (N + 1) :: Q ∧ (∀ x ∈ P, de x ≤ de (N + 1)) ∧ ∀ x ∈ Q, de (N + 1) < de x := by
  intro j
  induction j with
  | zero => intro h; omega
  | succ j ih =>
    intro h
    by_cases hj : de (N + 1) = j
    · refine ⟨riL de N j ++ lv de N j, [], ?_, ?_, ?_, ?_⟩
      · rw [List.append_nil]; rfl
      · show riL de (N + 1) j ++ lv de (N + 1) j = _
        rw [ri_less j (by omega), lv_yes hj, List.append_assoc]
      · intro x hx
        rw [List.mem_append] at hx
        rcases hx with hx | hx
        · have := (ri_mem j).mp hx
          omega
        · rw [((lv_mem N).mp hx).2.2]
          omega
      · intro x hx; cases hx
    · obtain ⟨P, Q, h1, h2, h3, h4⟩ := ih (by omega)
      refine ⟨P, Q ++ lv de N j, ?_, ?_, h3, ?_⟩
      · show riL de N j ++ lv de N j = _
        rw [h1, List.append_assoc]
      · show riL de (N + 1) j ++ lv de (N + 1) j = _
        rw [h2, lv_no hj, List.append_assoc]
        rfl
      · intro x hx
        rw [List.mem_append] at hx
        rcases hx with hx | hx
        · exact h4 x hx
        · rw [((lv_mem N).mp hx).2.2]
          omega
/-! going through them: by levels, and along the row -/
def nsI {σ : Type} (p : Nat → Bool) (f : Nat → σ → σ) : Nat → σ → σ
  | 0, D => D
  | i + 1, D => if p (i + 1) = true then f (i + 1) (nsI p f i D) else nsI p f i D
def alo {σ : Type} (p : Nat → Bool) (f : Nat → σ → σ) : List Nat → σ → σ
  | [], D => D
  | x :: l, D => alo p f l (if p x = true then f x D else D)
theorem alo_app {σ : Type} {p : Nat → Bool} {f : Nat → σ → σ} : ∀ (l1 l2 : List Nat) (D : σ), alo p f (l1 ++ l2) D = alo p f l2 (alo p f l1 D) := by
  intro l1
  induction l1 with
  | nil => intro l2 D; rfl
  | cons x l ih => intro l2 D; exact ih l2 _
theorem ns_lv {σ : Type} {de : Nat → Nat} {d : Nat} {p : Nat → Bool} {f : Nat → σ → σ} {D : σ} : ∀ n, nsI (fun s => p s && decide (de s = d)) f n D = alo p f (lv de n d) D := by
  intro n
  induction n with
  | zero => rfl
  | succ n ih =>
    show (if (p (n + 1) && decide (de (n + 1) = d)) = true then f (n + 1) (nsI (fun s => p s && decide (de s = d)) f n D) else nsI (fun s => p s && decide (de s = d)) f n D) = alo p f (lv de n d ++ (if de (n + 1) = d then [n + 1] else [])) D
    rw [ih, alo_app]
    by_cases hq : de (n + 1) = d
    · rw [if_pos hq, decide_eq_true hq, Bool.and_true]
      rfl
    · rw [if_neg hq, decide_eq_false hq, Bool.and_false]
      rfl
def faI {σ : Type} (de : Nat → Nat) (N : Nat) (p : Nat → Bool) (f : Nat → σ → σ) : Nat → σ → σ
  | 0, D => D
  | j + 1, D => faI de N p f j (nsI (fun s => p s && decide (de s = j + 1)) f N D)
theorem fa_alo {σ : Type} {de : Nat → Nat} {N : Nat} {p : Nat → Bool} {f : Nat → σ → σ} : ∀ j (D : σ), faI de N p f j D = alo p f (faL de N j) D := by
  intro j
  induction j with
  | zero => intro D; rfl
  | succ j ih =>
    intro D
    show faI de N p f j (nsI (fun s => p s && decide (de s = j + 1)) f N D) = alo p f (lv de N (j + 1) ++ faL de N j) D
    rw [ih, alo_app, ns_lv]
def riI {σ : Type} (de : Nat → Nat) (N : Nat) (p : Nat → Bool) (f : Nat → σ → σ) (D : σ) : Nat → σ
  | 0 => D
  | j + 1 => nsI (fun s => p s && decide (de s = j)) f N (riI de N p f D j)
theorem ri_alo {σ : Type} {de : Nat → Nat} {N : Nat} {p : Nat → Bool} {f : Nat → σ → σ} {D : σ} : ∀ j, riI de N p f D j = alo p f (riL de N j) D := by
  intro j
  induction j with
  | zero => rfl
  | succ j ih =>
    show nsI (fun s => p s && decide (de s = j)) f N (riI de N p f D j) = alo p f (riL de N j ++ lv de N j) D
    rw [alo_app, ns_lv, ih]
theorem alo_congr {σ : Type} {p r : Nat → Bool} {f : Nat → σ → σ} : ∀ (l : List Nat) (D : σ), (∀ x ∈ l, p x = r x) → alo p f l D = alo r f l D := by
  intro l
  induction l with
  | nil => intro D _; rfl
  | cons x l ih =>
    intro D h
    show alo p f l (if p x = true then f x D else D) = alo r f l (if r x = true then f x D else D)
    rw [h x (List.mem_cons_self ..)]
    exact ih _ (fun y hy => h y (List.mem_cons_of_mem _ hy))
