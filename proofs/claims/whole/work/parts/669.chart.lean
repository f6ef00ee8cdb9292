/-! what a chart is, on both sides -/
theorem fst_0 {p : Nat → Bool} : ∀ m i, (∀ j, i ≤ j → j < i + m → p j = false) → fstN p m i = 0 := by
  intro m
  induction m with
  | zero => intro i _; rfl
  | succ m ih =>
    intro i h
    show (if p i = true then i else fstN p m (i + 1)) = 0
    rw [h i (by omega) (by omega), if_neg (by decide)]
    exact ih (i + 1) (fun j h1 h2 => h j (by omega) (by omega))
theorem fst_p {p : Nat → Bool} : ∀ m i, 1 ≤ i → fstN p m i ≠ 0 → p (fstN p m i) = true ∧ i ≤ fstN p m i ∧ fstN p m i < i + m := by
  intro m
  induction m with
  | zero => intro i _ h; exact absurd rfl h
  | succ m ih =>
    intro i hi h
    have e : fstN p (m + 1) i = if p i = true then i else fstN p m (i + 1) := rfl
    rw [e] at h ⊢
    by_cases hp : p i = true
    · rw [if_pos hp]; exact ⟨hp, by omega, by omega⟩
    · rw [if_neg hp] at h ⊢
      have := ih (i + 1) (by omega) h
      exact ⟨this.1, by omega, by omega⟩
theorem fst_n {p : Nat → Bool} : ∀ m i, 1 ≤ i → fstN p m i = 0 → ∀ j, i ≤ j → j < i + m → p j = false := by
  intro m
  induction m with
  | zero => intro i _ _ j h1 h2; omega
  | succ m ih =>
    intro i hi h j h1 h2
    have e : fstN p (m + 1) i = if p i = true then i else fstN p m (i + 1) := rfl
    rw [e] at h
    by_cases hp : p i = true
    · rw [if_pos hp] at h; omega
    · rw [if_neg hp] at h
      by_cases hj : j = i
      · rw [hj]; simpa using hp
      · exact ih (i + 1) (by omega) h j (by omega) (by omega)
theorem fst_S {p : Nat → Bool} : ∀ m i, 1 ≤ i → fstN p (m + 1) i = if fstN p m i = 0 then (if p (i + m) = true then i + m else 0) else fstN p m i := by
  intro m
  induction m with
  | zero =>
    intro i hi
    show (if p i = true then i else 0) = if (0 : Nat) = 0 then (if p (i + 0) = true then i + 0 else 0) else 0
    rw [if_pos rfl]
    rfl
  | succ m ih =>
    intro i hi
    have e1 : fstN p (m + 1 + 1) i = if p i = true then i else fstN p (m + 1) (i + 1) := rfl
    have e2 : fstN p (m + 1) i = if p i = true then i else fstN p m (i + 1) := rfl
    rw [e1, e2, ih (i + 1) (by omega)]
    by_cases hp : p i = true
    · rw [if_pos hp, if_pos hp, if_neg (by omega)]
    · rw [if_neg hp, if_neg hp, show i + 1 + m = i + (m + 1) by omega]
theorem fst_congr {p r : Nat → Bool} : ∀ m i, (∀ j, i ≤ j → j < i + m → p j = r j) → fstN p m i = fstN r m i := by
  intro m
  induction m with
  | zero => intro i _; rfl
  | succ m ih =>
    intro i h
    show (if p i = true then i else fstN p m (i + 1)) = if r i = true then i else fstN r m (i + 1)
    rw [h i (by omega) (by omega), ih (i + 1) (fun j h1 h2 => h j (by omega) (by omega))]
def chK (c : Nat → Nat → Nat) (b : Nat → Nat → Bool) (s : Nat) : Nat := if c 2 s = 0 ∧ (s = 0 ∨ b 0 s = true) then chF (c 1) (c 2) (c 0 0) (b 0) s else 0
def Cv (c : Nat → Nat → Nat) : Prop := Tr (c 0 0) (c 1) (c 2) (c 3) ∧ Ed (c 0 0) (c 0 1) (c 2) (c 4) (c 5) (c 6) (c 7) ∧ Ax (c 0 2) (fun i => c (8 + i)) ∧ c 0 3 ≤ 50 ∧ c 0 4 ≤ 32 ∧ (∀ s, s ≤ c 0 0 → c 12 s ≤ 20000) ∧ ∀ i, i < c 0 2 → c 9 i = 2 ∨ c 8 i ≤ 200
def ReC' (l1 l2 : List Nat) (k : Nat) (A : mwM) (L : mwL) (c : Nat → Nat → Nat) (b : Nat → Nat → Bool) (va : Nat → Int32) (D : Nat → Int64) (x : Nat → Int32) : Prop :=
  TrC A k (c 0 0) (c 1) (c 2) (c 3) ∧ EdC A k (c 0 1) (c 4) (c 5) (c 6) (c 7) ∧ AxC A k (c 0 2) (fun i => c (8 + i)) va ∧
  (A k 6 = sI (c 0 3) ∧ A k 10 = sI (c 0 4) ∧ A k 14 = x 0 ∧ A k 15 = x 1 ∧ A k 16 = bI (b 6 0) ∧ L (k + 34) = D) ∧
  (∀ s, s ≤ c 0 0 → A (k + 5) s = sI (c 12 s) ∧ A (k + 6) s = sI (chF (c 1) (c 2) (c 0 0) (fun _ => true) s) ∧ A (k + 8) s = sI (chK c b s) ∧ A (k + 9) s = sI (c 13 s)) ∧
  (∀ s, 1 ≤ s → s ≤ c 0 0 → A (k + 7) s = bI (b 0 s) ∧ A (k + 10) s = sI (c 14 s) ∧ A (k + 11) s = bI (b 1 s) ∧ A (k + 17) s = bI (b 2 s)) ∧
  (LiC A (k + 18) l1 ∧ LiC A (k + 19) l2) ∧
  ∀ e, 1 ≤ e → e ≤ c 0 1 → A (k + 26) e = sI (sn (b 3 e) (b 4 e) (b 5 e))
def ReC (k : Nat) (A : mwM) (L : mwL) (c : Nat → Nat → Nat) (b : Nat → Nat → Bool) (va : Nat → Int32) (D : Nat → Int64) (x : Nat → Int32) : Prop := ReC' (riL (c 3) (c 0 0) 42) (faL (c 3) (c 0 0) 41) k A L c b va D x
def ReM (q : Nat) (M : mwM) (L : mwL) (c : Nat → Nat → Nat) (b : Nat → Nat → Bool) (va : Nat → Int32) (D : Nat → Int64) (x : Nat → Int32) : Prop :=
  TrM M q (c 0 0) (c 1) (c 2) (c 3) ∧ EdM M q (c 0 1) (c 4) (c 5) (c 6) (c 7) ∧ AxM M L q (c 0 2) (fun i => c (8 + i)) va ∧
  (M q 1 = sI (c 0 3) ∧ M q 26 = sI (c 0 4) ∧ M q 29 = x 0 ∧ M q 30 = x 1 ∧ M q 27 = bI (b 6 0) ∧ L (q + 21) = D ∧ ∃ r, r ≤ 500 ∧ M q 31 = sI r) ∧
  (∀ s, s ≤ c 0 0 → L (q + 5) s = sL (c 12 s) ∧ M (q + 4) s = sI (c 13 s)) ∧
  (∀ s, 1 ≤ s → s ≤ c 0 0 → M (q + 9) s = bI (b 0 s) ∧ L (q + 6) s = sL (c 14 s) ∧ M (q + 7) s = bI (b 1 s) ∧ M (q + 8) s = bI (b 2 s)) ∧
  M (q + 9) 0 = bI (b 6 0) ∧
  ∀ e, 1 ≤ e → e ≤ c 0 1 → M (q + 14) e = bI (b 3 e) ∧ M (q + 15) e = bI (b 4 e) ∧ M (q + 16) e = bI (b 5 e)
/-- before the first event: nothing is active, nothing was seen -/
def b00 : Nat → Nat → Bool := fun _ _ => false
def ClM (q : Nat) (M : mwM) (L : mwL) (c : Nat → Nat → Nat) : Prop := (∀ s, c 0 0 < s → s ≤ 200 → L (q + 5) s = sL 0 ∧ M (q + 4) s = sI 0 ∧ M (q + 9) s = bI false ∧ L (q + 6) s = sL 0 ∧ M (q + 7) s = bI false ∧ M (q + 8) s = bI false) ∧ ∀ e, c 0 1 < e → e ≤ 400 → M (q + 14) e = bI false ∧ M (q + 15) e = bI false ∧ M (q + 16) e = bI false
theorem chK_0 {c : Nat → Nat → Nat} {s : Nat} : chK c b00 s = 0 := by
  unfold chK
  split
  · unfold chF
    refine fst_0 _ _ (fun j _ _ => ?_)
    unfold chP b00
    simp
  · rfl
/-! a new state -/
def cst (c : Nat → Nat → Nat) (p t : Nat) : Nat → Nat → Nat := fun i j => if i = 0 ∧ j = 0 then c 0 0 + 1 else if i = 1 ∧ j = c 0 0 + 1 then p else if i = 2 ∧ j = c 0 0 + 1 then t else if i = 3 ∧ j = c 0 0 + 1 then c 3 p + 1 else if (i = 12 ∨ i = 13 ∨ i = 14) ∧ j = c 0 0 + 1 then 0 else c i j
theorem cst_N {c : Nat → Nat → Nat} {p t : Nat} : cst c p t 0 0 = c 0 0 + 1 := by simp [cst]
theorem cst_0 {c : Nat → Nat → Nat} {p t j : Nat} (h : j ≠ 0) : cst c p t 0 j = c 0 j := by simp [cst, h]
theorem cst_s {c : Nat → Nat → Nat} {p t i j : Nat} (h0 : i ≠ 0) (h : j ≠ c 0 0 + 1) : cst c p t i j = c i j := by simp [cst, h, h0]
theorem cst_r {c : Nat → Nat → Nat} {p t i : Nat} (h0 : 4 ≤ i) (h1 : i ≤ 11) : cst c p t i = c i := by
  funext j
  unfold cst
  rw [if_neg (by omega), if_neg (by omega), if_neg (by omega), if_neg (by omega), if_neg (by omega)]
theorem cst_1 {c : Nat → Nat → Nat} {p t : Nat} : cst c p t 1 (c 0 0 + 1) = p := by simp [cst]
theorem cst_2 {c : Nat → Nat → Nat} {p t : Nat} : cst c p t 2 (c 0 0 + 1) = t := by simp [cst]
theorem cst_3 {c : Nat → Nat → Nat} {p t : Nat} : cst c p t 3 (c 0 0 + 1) = c 3 p + 1 := by simp [cst]
theorem cst_z {c : Nat → Nat → Nat} {p t i : Nat} (h : i = 12 ∨ i = 13 ∨ i = 14) : cst c p t i (c 0 0 + 1) = 0 := by
  unfold cst
  rw [if_neg (by omega), if_neg (by omega), if_neg (by omega), if_neg (by omega), if_pos ⟨h, rfl⟩]
theorem cst_ax {c : Nat → Nat → Nat} {p t : Nat} (n : Nat) (h : n ≤ 3) : cst c p t (8 + n) = c (8 + n) := cst_r (by omega) (by omega)
theorem Cv_st {c : Nat → Nat → Nat} {p t : Nat} (h : Cv c) (hp : p ≤ c 0 0) (ht : t ≤ 5) (h2 : ¬ 2 ≤ c 2 p) (h40 : ¬ 40 ≤ c 3 p) (hN : ¬ 200 ≤ c 0 0) : Cv (cst c p t) := by
  obtain ⟨hT, hE, hX, hl, hd, hk, ha⟩ := h
  refine ⟨?_, ?_, ?_, ?_, ?_, ?_, ?_⟩
  · obtain ⟨t1, t2, t3, t4, t5⟩ := hT
    rw [cst_N]
    refine ⟨by omega, ?_, ?_, ?_, ?_⟩
    · rw [cst_s (by omega) (by omega)]; exact t2
    · rw [cst_s (by omega) (by omega)]; exact t3
    · rw [cst_s (by omega) (by omega)]; exact t4
    · intro s h1 hs
      by_cases hq : s = c 0 0 + 1
      · subst hq
        rw [cst_1, cst_2, cst_3, cst_s (by omega) (by omega), cst_s (by omega) (by omega)]
        omega
      · have := t5 s h1 (by omega)
        rw [cst_s (by omega) (by omega), cst_s (by omega) (by omega), cst_s (by omega) (by omega), cst_s (by omega) (by omega), cst_s (by omega) (by omega)]
        exact this
  · rw [cst_N, cst_0 (by omega), cst_r (i := 4) (by omega) (by omega), cst_r (i := 5) (by omega) (by omega), cst_r (i := 6) (by omega) (by omega), cst_r (i := 7) (by omega) (by omega)]
    refine ⟨hE.1, fun e h1 h2 => ?_⟩
    have := hE.2 e h1 h2
    rw [cst_s (by omega) (by omega)]
    exact ⟨this.1, by omega, this.2.2.1, by omega, this.2.2.2.2⟩
  · rw [cst_0 (by omega)]
    refine ⟨hX.1, fun i hi => ?_⟩
    have := hX.2 i hi
    dsimp only at this ⊢
    rw [cst_ax 0 (by omega), cst_ax 1 (by omega), cst_ax 2 (by omega), cst_ax 3 (by omega)]
    exact this
  · rw [cst_0 (by omega)]; exact hl
  · rw [cst_0 (by omega)]; exact hd
  · intro s hs
    rw [cst_N] at hs
    by_cases hq : s = c 0 0 + 1
    · rw [hq, cst_z (Or.inl rfl)]; omega
    · rw [cst_s (by omega) (by omega)]; exact hk s (by omega)
  · intro i hi
    rw [cst_0 (by omega)] at hi
    rw [cst_r (i := 9) (by omega) (by omega), cst_r (i := 8) (by omega) (by omega)]
    exact ha i hi
theorem ch_st {c : Nat → Nat → Nat} {p t s : Nat} (h : Cv c) : chF (cst c p t 1) (cst c p t 2) (cst c p t 0 0) (fun _ => true) s = if chF (c 1) (c 2) (c 0 0) (fun _ => true) s = 0 then (if p = s ∧ t ≤ 1 then c 0 0 + 1 else 0) else chF (c 1) (c 2) (c 0 0) (fun _ => true) s := by
  unfold chF
  rw [cst_N, fst_S _ _ (by omega)]
  have e : fstN (chP (cst c p t 1) (cst c p t 2) (fun _ => true) s) (c 0 0) 1 = fstN (chP (c 1) (c 2) (fun _ => true) s) (c 0 0) 1 := by
    refine fst_congr _ _ (fun j h1 h2 => ?_)
    unfold chP
    rw [cst_s (by omega) (by omega), cst_s (by omega) (by omega)]
  rw [e, show 1 + c 0 0 = c 0 0 + 1 by omega]
  have e2 : (chP (cst c p t 1) (cst c p t 2) (fun _ => true) s (c 0 0 + 1) = true) ↔ (p = s ∧ t ≤ 1) := by
    unfold chP
    rw [cst_1, cst_2]
    simp
  by_cases hq : p = s ∧ t ≤ 1
  · rw [if_pos (e2.mpr hq), if_pos hq]
  · rw [if_neg (fun z => hq (e2.mp z)), if_neg hq]
