/-! what goes on: sending and its end may be told apart -/
theorem mset_cm {α : Type} {M : Nat → Nat → α} {a b c d : Nat} {x y : α} (h : ¬ (a = c ∧ b = d)) : mset (mset M a b x) c d y = mset (mset M c d y) a b x := by
  funext i j
  by_cases h1 : i = c ∧ j = d
  · rw [h1.1, h1.2, mset_s, mset_n (by omega), mset_s]
  · rw [mset_n h1]
    by_cases h2 : i = a ∧ j = b
    · rw [h2.1, h2.2, mset_s, mset_s]
    · rw [mset_n h2, mset_n h2, mset_n h1]
theorem mset_ii {α : Type} {M : Nat → Nat → α} {a b : Nat} {x y : α} : mset (mset M a b x) a b y = mset M a b y := by
  funext i j
  by_cases h1 : i = a ∧ j = b
  · rw [h1.1, h1.2, mset_s, mset_s]
  · rw [mset_n h1, mset_n h1, mset_n h1]
def sdP (m : Nat) (p : PB) : PB := if p.1 3 m = 2 then (mset (coP m (csN (p.1 2 m)) p).1 3 m 3, (coP m (csN (p.1 2 m)) p).2) else p
def toP (m t : Nat) (p : PB) : PB := if p.1 3 m = 1 ∧ 1000 ≤ t - p.1 4 m then (mset p.1 3 m 4, mset p.2 2 0 true) else p
def sdA : Nat → PB → PB
  | 0, p => p
  | i + 1, p => sdP (i + 1) (sdA i p)
def toA (t : Nat) : Nat → PB → PB
  | 0, p => p
  | i + 1, p => toP (i + 1) t (toA t i p)
theorem sdP_1 {m : Nat} {n : Nat → Nat → Nat} {b : Nat → Nat → Bool} (h : n 3 m = 2) : sdP m (n, b) = (mset (coP m (csN (n 2 m)) (n, b)).1 3 m 3, (coP m (csN (n 2 m)) (n, b)).2) := by
  unfold sdP
  rw [if_pos h]
theorem sdP_0 {m : Nat} {n : Nat → Nat → Nat} {b : Nat → Nat → Bool} (h : n 3 m ≠ 2) : sdP m (n, b) = (n, b) := by
  unfold sdP
  rw [if_neg h]
theorem toP_1 {m t : Nat} {n : Nat → Nat → Nat} {b : Nat → Nat → Bool} (h : n 3 m = 1 ∧ 1000 ≤ t - n 4 m) : toP m t (n, b) = (mset n 3 m 4, mset b 2 0 true) := by
  unfold toP
  rw [if_pos h]
theorem toP_0 {m t : Nat} {n : Nat → Nat → Nat} {b : Nat → Nat → Bool} (h : ¬ (n 3 m = 1 ∧ 1000 ≤ t - n 4 m)) : toP m t (n, b) = (n, b) := by
  unfold toP
  rw [if_neg h]
theorem rcS_1 {r t : Nat} {n : Nat → Nat → Nat} {b : Nat → Nat → Bool} (h : n 5 r = 1 ∧ 1000 ≤ t - n 9 r) : rcS t r (n, b) = (mset n 5 r 3, mset b 2 0 true) := by
  unfold rcS
  rw [if_pos h]
theorem rcS_0 {r t : Nat} {n : Nat → Nat → Nat} {b : Nat → Nat → Bool} (h : ¬ (n 5 r = 1 ∧ 1000 ≤ t - n 9 r)) : rcS t r (n, b) = (n, b) := by
  unfold rcS
  rw [if_neg h]
theorem go_sp {m t : Nat} {p : PB} : goP m t p = toP m t (sdP m p) := by
  obtain ⟨n, b⟩ := p
  by_cases h2 : n 3 m = 2
  · rw [sdP_1 h2, toP_0 (by rw [mset_s]; omega)]
    unfold goP
    rw [if_pos h2]
  · rw [sdP_0 h2]
    unfold goP toP
    rw [if_neg h2]
theorem co_cm {m j v : Nat} : ∀ k (p : PB), coP m k (mset p.1 3 j v, mset p.2 2 0 true) = (mset (coP m k p).1 3 j v, mset (coP m k p).2 2 0 true) := by
  intro k
  induction k with
  | zero => intro p; rfl
  | succ k ih =>
    intro p
    have e1 : coP m (k + 1) (mset p.1 3 j v, mset p.2 2 0 true) = (mkN (coP m k (mset p.1 3 j v, mset p.2 2 0 true)).1 2 m (k + 1), mkB (coP m k (mset p.1 3 j v, mset p.2 2 0 true)).1 (coP m k (mset p.1 3 j v, mset p.2 2 0 true)).2) := rfl
    have e2 : coP m (k + 1) p = (mkN (coP m k p).1 2 m (k + 1), mkB (coP m k p).1 (coP m k p).2) := rfl
    rw [e1, e2, ih p]
    dsimp only
    generalize coP m k p = q
    unfold mkN mkB
    have e0 : mset q.1 3 j v 0 1 = q.1 0 1 := mset_n (by omega)
    rw [e0]
    congr 1
    · rw [mset_cm (a := 3) (c := 10) (by omega), mset_cm (a := 3) (c := 11) (by omega), mset_cm (a := 3) (c := 12) (by omega), mset_cm (a := 3) (c := 0) (by omega)]
    · rw [mset_cm (by omega)]
theorem to_sd {j m t : Nat} {p : PB} (h : j ≠ m) : toP j t (sdP m p) = sdP m (toP j t p) := by
  obtain ⟨n, b⟩ := p
  have a1 : n 3 m = 2 → mset (coP m (csN (n 2 m)) (n, b)).1 3 m 3 3 j = n 3 j := fun _ => by rw [mset_j h, co_r (by omega) (by omega)]
  have a2 : n 3 m = 2 → mset (coP m (csN (n 2 m)) (n, b)).1 3 m 3 4 j = n 4 j := fun _ => by rw [mset_n (by omega), co_r (by omega) (by omega)]
  have a3 : mset n 3 j 4 3 m = n 3 m := mset_j (Ne.symm h)
  have a4 : mset n 3 j 4 2 m = n 2 m := mset_n (by omega)
  by_cases c1 : n 3 j = 1 ∧ 1000 ≤ t - n 4 j
  · rw [toP_1 (b := b) c1]
    by_cases c2 : n 3 m = 2
    · have e3 := co_cm (m := m) (j := j) (v := 4) (csN (n 2 m)) (n, b)
      dsimp only at e3
      rw [sdP_1 c2, toP_1 (by rw [a1 c2, a2 c2]; exact c1), sdP_1 (by rw [a3]; exact c2), a4, e3]
      dsimp only
      rw [mset_cm (by omega)]
    · rw [sdP_0 c2, toP_1 c1, sdP_0 (by rw [a3]; exact c2)]
  · rw [toP_0 (b := b) c1]
    by_cases c2 : n 3 m = 2
    · rw [sdP_1 c2, toP_0 (by rw [a1 c2, a2 c2]; exact c1)]
    · rw [sdP_0 c2, toP_0 c1]
theorem toA_sd {m t : Nat} : ∀ k, k < m → ∀ p, toA t k (sdP m p) = sdP m (toA t k p) := by
  intro k
  induction k with
  | zero => intro _ p; rfl
  | succ k ih =>
    intro hk p
    show toP (k + 1) t (toA t k (sdP m p)) = sdP m (toP (k + 1) t (toA t k p))
    rw [ih (by omega), to_sd (by omega)]
theorem goA_sp {t : Nat} : ∀ k p, goA t k p = toA t k (sdA k p) := by
  intro k
  induction k with
  | zero => intro p; rfl
  | succ k ih =>
    intro p
    show goP (k + 1) t (goA t k p) = toP (k + 1) t (toA t k (sdP (k + 1) (sdA k p)))
    rw [go_sp, ih, toA_sd k (by omega)]
theorem sd_r {m i j : Nat} {p : PB} (h : i ≠ 0 ∨ j ≠ 1) (h2 : ¬ (10 ≤ i ∧ i ≤ 12)) (h3 : ¬ (i = 3 ∧ j = m)) : (sdP m p).1 i j = p.1 i j := by
  unfold sdP
  split
  · dsimp only
    rw [mset_n h3]; exact co_r h h2 _ _
  · rfl
theorem sd_m {m : Nat} {p : PB} : (sdP m p).1 3 m = if p.1 3 m = 2 then 3 else p.1 3 m := by
  unfold sdP
  split
  · dsimp only
    rw [mset_s]
  · rfl
theorem sdA_3 : ∀ k p j, (sdA k p).1 3 j = if 1 ≤ j ∧ j ≤ k ∧ p.1 3 j = 2 then 3 else p.1 3 j := by
  intro k
  induction k with
  | zero =>
    intro p j
    rw [if_neg (by omega)]
    rfl
  | succ k ih =>
    intro p j
    show (sdP (k + 1) (sdA k p)).1 3 j = _
    by_cases hq : j = k + 1
    · subst hq
      rw [sd_m, ih, if_neg (show ¬ (1 ≤ k + 1 ∧ k + 1 ≤ k ∧ p.1 3 (k + 1) = 2) by omega)]
      by_cases h2 : p.1 3 (k + 1) = 2
      · rw [if_pos h2, if_pos ⟨by omega, by omega, h2⟩]
      · rw [if_neg h2, if_neg (fun z => h2 z.2.2)]
    · rw [sd_r (by omega) (by omega) (by omega), ih]
      by_cases h2 : 1 ≤ j ∧ j ≤ k ∧ p.1 3 j = 2
      · rw [if_pos h2, if_pos ⟨by omega, by omega, h2.2.2⟩]
      · rw [if_neg h2, if_neg (fun z => h2 ⟨z.1, by omega, z.2.2⟩)]
theorem sdA_4 {j : Nat} : ∀ k p, (sdA k p).1 4 j = p.1 4 j := by
  intro k
  induction k with
  | zero => intro p; rfl
  | succ k ih => intro p; exact (sd_r (by omega) (by omega) (by omega)).trans (ih p)
theorem toA_no {t : Nat} {p : PB} : ∀ k, (∀ m, 1 ≤ m → m ≤ k → p.1 3 m = 1 → t - p.1 4 m < 1000) → toA t k p = p := by
  intro k
  induction k with
  | zero => intro _; rfl
  | succ k ih =>
    intro h
    show toP (k + 1) t (toA t k p) = p
    rw [ih (fun m u v => h m u (by omega))]
    unfold toP
    rw [if_neg]
    intro z
    have := h (k + 1) (by omega) (by omega) z.1
    omega
theorem sdA_no {p : PB} : ∀ k, (∀ m, 1 ≤ m → m ≤ k → p.1 3 m ≠ 2) → sdA k p = p := by
  intro k
  induction k with
  | zero => intro _; rfl
  | succ k ih =>
    intro h
    show sdP (k + 1) (sdA k p) = p
    rw [ih (fun m u v => h m u (by omega))]
    unfold sdP
    rw [if_neg (h (k + 1) (by omega) (by omega))]
/-- no end at the time before: twice is once -/
theorem go_two {s t k : Nat} {p : PB} (h : ∀ m, 1 ≤ m → m ≤ k → p.1 3 m = 1 → s - p.1 4 m < 1000) : goA t k (goA s k p) = goA t k p := by
  have e1 : goA s k p = sdA k p := by
    rw [goA_sp]
    refine toA_no k (fun m u v w => ?_)
    rw [sdA_3] at w
    rw [sdA_4]
    by_cases h2 : 1 ≤ m ∧ m ≤ k ∧ p.1 3 m = 2
    · rw [if_pos h2] at w; omega
    · rw [if_neg h2] at w
      exact h m u v w
  rw [e1, goA_sp, goA_sp]
  rw [sdA_no (p := sdA k p) k (fun m u v w => ?_)]
  rw [sdA_3] at w
  by_cases h2 : 1 ≤ m ∧ m ≤ k ∧ p.1 3 m = 2
  · rw [if_pos h2] at w; omega
  · rw [if_neg h2] at w
    exact h2 ⟨u, v, w⟩
theorem gA_2 {s k m : Nat} {p : PB} (h1 : 1 ≤ m) (h2 : m ≤ k) : (goA s k p).1 3 m ≠ 2 := by
  rw [goA_sp]
  have key : ∀ i q, q.1 3 m ≠ 2 → (toA s i q).1 3 m ≠ 2 := by
    intro i
    induction i with
    | zero => intro q h; exact h
    | succ i ih =>
      intro q h
      show (toP (i + 1) s (toA s i q)).1 3 m ≠ 2
      have := ih q h
      unfold toP
      split
      · dsimp only
        by_cases hq : m = i + 1
        · rw [hq, mset_s]; omega
        · rw [mset_j hq]; exact this
      · exact this
  refine key k _ ?_
  rw [sdA_3]
  split
  · omega
  · intro z
    rename_i hn
    exact hn ⟨h1, h2, z⟩
theorem gA_3 {s j : Nat} {p : PB} : ∀ k, k < j → (goA s k p).1 3 j = p.1 3 j := by
  intro k
  induction k with
  | zero => intro _; rfl
  | succ k ih =>
    intro hk
    show (goP (k + 1) s (goA s k p)).1 3 j = p.1 3 j
    rw [← ih (by omega)]
    unfold goP
    split
    · dsimp only
      rw [mset_j (by omega)]; exact co_r (by omega) (by omega) _ _
    · split
      · exact mset_j (by omega)
      · rfl
/-! the receivers, in another order -/
def rcO (t : Nat) : Nat → PB → PB
  | 0, p => p
  | k + 1, p => rcS t ((k + 1) % 4) (rcO t k p)
theorem rc_cm {t r r' : Nat} {p : PB} (h : r ≠ r') : rcS t r (rcS t r' p) = rcS t r' (rcS t r p) := by
  obtain ⟨n, b⟩ := p
  have a1 : mset n 5 r' 3 5 r = n 5 r := mset_j h
  have a2 : mset n 5 r' 3 9 r = n 9 r := mset_n (by omega)
  have a3 : mset n 5 r 3 5 r' = n 5 r' := mset_j (Ne.symm h)
  have a4 : mset n 5 r 3 9 r' = n 9 r' := mset_n (by omega)
  by_cases c1 : n 5 r = 1 ∧ 1000 ≤ t - n 9 r
  · by_cases c2 : n 5 r' = 1 ∧ 1000 ≤ t - n 9 r'
    · rw [rcS_1 c1, rcS_1 c2, rcS_1 (by rw [a1, a2]; exact c1), rcS_1 (by rw [a3, a4]; exact c2), mset_cm (by omega)]
    · rw [rcS_1 c1, rcS_0 c2, rcS_1 c1, rcS_0 (by rw [a3, a4]; exact c2)]
  · by_cases c2 : n 5 r' = 1 ∧ 1000 ≤ t - n 9 r'
    · rw [rcS_0 c1, rcS_1 c2, rcS_0 (by rw [a1, a2]; exact c1)]
    · rw [rcS_0 c1, rcS_0 c2, rcS_0 c1]
theorem rcO_4 {t : Nat} {p : PB} : rcO t 4 p = rcA t 4 p := by
  show rcS t 0 (rcS t 3 (rcS t 2 (rcS t 1 p))) = rcS t 3 (rcS t 2 (rcS t 1 (rcS t 0 p)))
  rw [rc_cm (r := 0) (r' := 3) (by omega), rc_cm (r := 0) (r' := 2) (by omega), rc_cm (r := 0) (r' := 1) (by omega)]
theorem rcO_no {t : Nat} {p : PB} (h : ∀ r, r < 4 → p.1 5 r = 1 → t - p.1 9 r < 1000) : ∀ k, rcO t k p = p := by
  intro k
  induction k with
  | zero => rfl
  | succ k ih =>
    show rcS t ((k + 1) % 4) (rcO t k p) = p
    rw [ih]
    unfold rcS
    rw [if_neg]
    intro z
    have := h ((k + 1) % 4) (Nat.mod_lt _ (by omega)) z.1
    omega
