/-! the clock of the transfer goes on: the class -/
def bgA : Nat → PB → PB
  | 0, p => p
  | i + 1, p => if (bgA i p).1 3 (i + 1) = 0 then (bgN (bgA i p).1 (i + 1), mkB (bgA i p).1 (bgA i p).2) else bgA i p
def goA (t : Nat) : Nat → PB → PB
  | 0, p => p
  | i + 1, p => goP (i + 1) t (goA t i p)
def seN (n : Nat → Nat → Nat) : Nat → Nat → Nat
  | 0, s => s
  | f + 1, s => if s < n 0 0 ∧ 3 ≤ n 3 (s + 1) then seN n f (s + 1) else s
def rcS (t r : Nat) (p : PB) : PB := if p.1 5 r = 1 ∧ 1000 ≤ t - p.1 9 r then (mset p.1 5 r 3, mset p.2 2 0 true) else p
def rcA (t : Nat) : Nat → PB → PB
  | 0, p => p
  | i + 1, p => rcS t i (rcA t i p)
def seP (p : PB) : PB := (mset p.1 0 4 (seN p.1 101 (p.1 0 4)), p.2)
def clP (t : Nat) (p : PB) : PB := (mset p.1 0 3 t, p.2)
def tkP (t : Nat) (p : PB) : PB := clP t (rcA t 4 (seP (goA t (p.1 0 0) (bgA (p.1 0 0) p))))
theorem bg_r {n : Nat → Nat → Nat} {m i j : Nat} (h : i ≠ 0 ∨ j ≠ 1) (h2 : ¬ (10 ≤ i ∧ i ≤ 12)) (h3 : i ≠ 3) (h4 : i ≠ 4) : bgN n m i j = n i j := by
  unfold bgN
  rw [mset_n (by omega), mset_n (by omega), mk_r h h2]
theorem bg_3 {n : Nat → Nat → Nat} {m j : Nat} (h : j ≠ m) : bgN n m 3 j = n 3 j := by
  unfold bgN
  rw [mset_n (by omega), mset_n (by omega), mk_r (by omega) (by omega)]
theorem bA_r {i j : Nat} (h : i ≠ 0 ∨ j ≠ 1) (h2 : ¬ (10 ≤ i ∧ i ≤ 12)) (h3 : i ≠ 3) (h4 : i ≠ 4) : ∀ k p, (bgA k p).1 i j = p.1 i j := by
  intro k
  induction k with
  | zero => intro p; rfl
  | succ k ih =>
    intro p
    have e : bgA (k + 1) p = if (bgA k p).1 3 (k + 1) = 0 then (bgN (bgA k p).1 (k + 1), mkB (bgA k p).1 (bgA k p).2) else bgA k p := rfl
    rw [e]
    split
    · exact (bg_r h h2 h3 h4).trans (ih p)
    · exact ih p
theorem bA_3 {j : Nat} : ∀ k p, p.1 3 j ≠ 0 → (bgA k p).1 3 j = p.1 3 j := by
  intro k
  induction k with
  | zero => intro p _; rfl
  | succ k ih =>
    intro p h
    have e : bgA (k + 1) p = if (bgA k p).1 3 (k + 1) = 0 then (bgN (bgA k p).1 (k + 1), mkB (bgA k p).1 (bgA k p).2) else bgA k p := rfl
    rw [e]
    split
    · rename_i h0
      by_cases hq : j = k + 1
      · rw [hq] at h ⊢
        rw [← hq, ih p (by rw [hq]; exact h), hq] at h0
        exact absurd h0 h
      · exact (bg_3 hq).trans (ih p h)
    · exact ih p h
theorem bA_no {s : Nat} {p : PB} (h : ∀ m, 1 ≤ m → m ≤ s → p.1 3 m ≠ 0) : bgA s p = p := by
  induction s with
  | zero => rfl
  | succ s ih =>
    have h1 := ih (fun m u1 u2 => h m u1 (by omega))
    have e : bgA (s + 1) p = if (bgA s p).1 3 (s + 1) = 0 then (bgN (bgA s p).1 (s + 1), mkB (bgA s p).1 (bgA s p).2) else bgA s p := rfl
    rw [e, h1, if_neg (h (s + 1) (by omega) (Nat.le_refl _))]
theorem bA_V : ∀ k p, k ≤ p.1 0 0 → TfV p.1 p.2 → TfV (bgA k p).1 (bgA k p).2 := by
  intro k
  induction k with
  | zero => intro p _ h; exact h
  | succ k ih =>
    intro p hk h
    have h1 := ih p (by omega) h
    have e : bgA (k + 1) p = if (bgA k p).1 3 (k + 1) = 0 then (bgN (bgA k p).1 (k + 1), mkB (bgA k p).1 (bgA k p).2) else bgA k p := rfl
    rw [e]
    split
    · rename_i h0
      exact V_bg h1 (by omega) (by rw [bA_r (by omega) (by omega) (by omega) (by omega)]; exact hk) h0
    · exact h1
theorem go_r {m t i j : Nat} {p : PB} (h : i ≠ 0 ∨ j ≠ 1) (h2 : ¬ (10 ≤ i ∧ i ≤ 12)) (h3 : i ≠ 3) : (goP m t p).1 i j = p.1 i j := by
  unfold goP
  split
  · dsimp only
    rw [mset_n (by omega)]; exact co_r h h2 _ _
  · split
    · dsimp only
      rw [mset_n (by omega)]
    · rfl
theorem go_no {m t : Nat} {p : PB} (h : 3 ≤ p.1 3 m) : goP m t p = p := by
  unfold goP
  rw [if_neg (by omega), if_neg (by omega)]
theorem gA_r {t i j : Nat} (h : i ≠ 0 ∨ j ≠ 1) (h2 : ¬ (10 ≤ i ∧ i ≤ 12)) (h3 : i ≠ 3) : ∀ k p, (goA t k p).1 i j = p.1 i j := by
  intro k
  induction k with
  | zero => intro p; rfl
  | succ k ih => intro p; exact (go_r h h2 h3).trans (ih p)
theorem gA_no {t s : Nat} {p : PB} (h : ∀ m, 1 ≤ m → m ≤ s → 3 ≤ p.1 3 m) : goA t s p = p := by
  induction s with
  | zero => rfl
  | succ s ih =>
    have h1 := ih (fun m u1 u2 => h m u1 (by omega))
    show goP (s + 1) t (goA t s p) = p
    rw [h1]
    exact go_no (h (s + 1) (by omega) (Nat.le_refl _))
theorem gA_V {t : Nat} : ∀ k p, k ≤ p.1 0 0 → TfV p.1 p.2 → TfV (goA t k p).1 (goA t k p).2 := by
  intro k
  induction k with
  | zero => intro p _ h; exact h
  | succ k ih =>
    intro p hk h
    exact V_go (ih p (by omega) h) (by omega) (by rw [gA_r (by omega) (by omega) (by omega)]; exact hk)
theorem se_ok {n : Nat → Nat → Nat} : ∀ f s, s ≤ n 0 0 → (∀ m, 1 ≤ m → m ≤ s → 3 ≤ n 3 m) → s ≤ seN n f s ∧ seN n f s ≤ n 0 0 ∧ ∀ m, 1 ≤ m → m ≤ seN n f s → 3 ≤ n 3 m := by
  intro f
  induction f with
  | zero => intro s h1 h2; exact ⟨Nat.le_refl _, h1, h2⟩
  | succ f ih =>
    intro s h1 h2
    have e : seN n (f + 1) s = if s < n 0 0 ∧ 3 ≤ n 3 (s + 1) then seN n f (s + 1) else s := rfl
    rw [e]
    split
    · rename_i h
      have := ih (s + 1) (by omega) (fun m u1 u2 => by
        by_cases hq : m = s + 1
        · rw [hq]; exact h.2
        · exact h2 m u1 (by omega))
      exact ⟨by omega, this.2.1, this.2.2⟩
    · exact ⟨Nat.le_refl _, h1, h2⟩
theorem V_se {p : PB} (h : TfV p.1 p.2) : TfV (seP p).1 (seP p).2 := by
  obtain ⟨⟨w1, w2, w3, w4, w5⟩, w6, w7, w8⟩ := h
  have hs := se_ok (n := p.1) 101 (p.1 0 4) w4 (fun m u1 u2 => (w6 m u1 (by omega)).2.2.2.2.2.2.1 u2)
  have fo : ∀ i j, i ≠ 0 ∨ j ≠ 4 → (seP p).1 i j = p.1 i j := fun i j u => mset_n (by omega)
  have f4 : (seP p).1 0 4 = seN p.1 101 (p.1 0 4) := by
    show mset p.1 0 4 (seN p.1 101 (p.1 0 4)) 0 4 = _
    rw [mset_s]
  have ecb : cbF (seP p).1 (seP p).2 = cbF p.1 p.2 := by
    funext m
    unfold cbF
    rw [fo 3 m (by omega), fo 2 m (by omega)]
    rfl
  refine ⟨?_, ?_, ?_, ?_⟩
  · rw [fo 0 0 (by omega), fo 0 1 (by omega), fo 0 2 (by omega), fo 0 3 (by omega), f4, ecb]
    exact ⟨w1, w2, w3, hs.2.1, w5⟩
  · intro m u1 u2
    rw [fo 0 0 (by omega)] at u2
    have := w6 m u1 u2
    rw [fo 1 m (by omega), fo 2 m (by omega), fo 3 m (by omega), fo 4 m (by omega), fo 0 3 (by omega), f4]
    exact ⟨this.1, this.2.1, this.2.2.1, this.2.2.2.1, this.2.2.2.2.1, this.2.2.2.2.2.1, fun z => hs.2.2 m u1 z, this.2.2.2.2.2.2.2⟩
  · intro r u
    rw [fo 5 r (by omega), fo 6 r (by omega), fo 7 r (by omega), fo 8 r (by omega), fo 9 r (by omega), fo 0 0 (by omega), fo 0 3 (by omega), fo 2 _ (by omega)]
    exact w7 r u
  · intro f u
    rw [fo 0 1 (by omega)] at u
    have := w8 f u
    rw [fo 10 f (by omega), fo 11 f (by omega), fo 12 f (by omega), fo 0 0 (by omega), fo 0 1 (by omega), fo 2 _ (by omega), fo 3 _ (by omega)]
    refine ⟨this.1, this.2.1, this.2.2.1, this.2.2.2.1, this.2.2.2.2.1, this.2.2.2.2.2.1, this.2.2.2.2.2.2.1, this.2.2.2.2.2.2.2.1, fun hk => ⟨(this.2.2.2.2.2.2.2.2 hk).1, fun f' v1 v2 v3 => ?_⟩⟩
    rw [fo 10 f' (by omega)] at v2
    rw [fo 11 f' (by omega)] at v3
    exact (this.2.2.2.2.2.2.2.2 hk).2 f' v1 v2 v3
theorem V_rc {t r : Nat} {p : PB} (h : TfV p.1 p.2) : TfV (rcS t r p).1 (rcS t r p).2 := by
  unfold rcS
  by_cases hc : p.1 5 r = 1 ∧ 1000 ≤ t - p.1 9 r
  · rw [if_pos hc]
    dsimp only
    obtain ⟨⟨w1, w2, w3, w4, w5⟩, w6, w7, w8⟩ := h
    have fo : ∀ i j, i ≠ 5 → mset p.1 5 r 3 i j = p.1 i j := fun i j u => mset_n (by omega)
    have fb : ∀ i j, i ≠ 2 → mset p.2 2 0 true i j = p.2 i j := fun i j u => mset_n (by omega)
    have ecb : cbF (mset p.1 5 r 3) (mset p.2 2 0 true) = cbF p.1 p.2 := by
      funext m
      unfold cbF
      rw [fo 3 m (by omega), fo 2 m (by omega), fb 3 m (by omega)]
    refine ⟨?_, ?_, ?_, ?_⟩
    · rw [fo 0 0 (by omega), fo 0 1 (by omega), fo 0 2 (by omega), fo 0 3 (by omega), fo 0 4 (by omega), ecb]
      exact ⟨w1, w2, w3, w4, w5⟩
    · intro m u1 u2
      rw [fo 0 0 (by omega)] at u2
      rw [fo 1 m (by omega), fo 2 m (by omega), fo 3 m (by omega), fo 4 m (by omega), fo 0 3 (by omega), fo 0 4 (by omega), fb 3 m (by omega)]
      exact w6 m u1 u2
    · intro r' u
      rw [fo 6 r' (by omega), fo 7 r' (by omega), fo 8 r' (by omega), fo 9 r' (by omega), fo 0 0 (by omega), fo 0 3 (by omega), fo 2 _ (by omega)]
      by_cases hq : r' = r
      · rw [hq, mset_s]
        exact ⟨by omega, fun z => by omega⟩
      · rw [mset_j hq]
        exact w7 r' u
    · intro f u
      rw [fo 0 1 (by omega)] at u
      have := w8 f u
      rw [fo 10 f (by omega), fo 11 f (by omega), fo 12 f (by omega), fo 0 0 (by omega), fo 0 1 (by omega), fo 2 _ (by omega), fo 3 _ (by omega), fb 1 f (by omega), fb 3 _ (by omega)]
      refine ⟨this.1, this.2.1, this.2.2.1, this.2.2.2.1, this.2.2.2.2.1, this.2.2.2.2.2.1, this.2.2.2.2.2.2.1, this.2.2.2.2.2.2.2.1, fun hk => ⟨(this.2.2.2.2.2.2.2.2 hk).1, fun f' v1 v2 v3 => ?_⟩⟩
      rw [fo 10 f' (by omega)] at v2
      rw [fo 11 f' (by omega)] at v3
      exact (this.2.2.2.2.2.2.2.2 hk).2 f' v1 v2 v3
  · rw [if_neg hc]
    exact h
theorem rA_V {t : Nat} : ∀ k p, TfV p.1 p.2 → TfV (rcA t k p).1 (rcA t k p).2 := by
  intro k
  induction k with
  | zero => intro p h; exact h
  | succ k ih => intro p h; exact V_rc (ih p h)
theorem V_cl {t : Nat} {p : PB} (h : TfV p.1 p.2) (ht : t ≤ 20000) (htc : p.1 0 3 ≤ t) : TfV (clP t p).1 (clP t p).2 := by
  obtain ⟨⟨w1, w2, w3, w4, w5⟩, w6, w7, w8⟩ := h
  have fo : ∀ i j, i ≠ 0 ∨ j ≠ 3 → (clP t p).1 i j = p.1 i j := fun i j u => mset_n (by omega)
  have f3 : (clP t p).1 0 3 = t := by
    show mset p.1 0 3 t 0 3 = _
    rw [mset_s]
  have ecb : cbF (clP t p).1 (clP t p).2 = cbF p.1 p.2 := by
    funext m
    unfold cbF
    rw [fo 3 m (by omega), fo 2 m (by omega)]
    rfl
  refine ⟨?_, ?_, ?_, ?_⟩
  · rw [fo 0 0 (by omega), fo 0 1 (by omega), fo 0 2 (by omega), fo 0 4 (by omega), f3, ecb]
    exact ⟨w1, w2, ht, w4, w5⟩
  · intro m u1 u2
    rw [fo 0 0 (by omega)] at u2
    have := w6 m u1 u2
    rw [fo 1 m (by omega), fo 2 m (by omega), fo 3 m (by omega), fo 4 m (by omega), fo 0 4 (by omega), f3]
    exact ⟨this.1, this.2.1, this.2.2.1, this.2.2.2.1, by omega, this.2.2.2.2.2⟩
  · intro r u
    have := w7 r u
    rw [fo 5 r (by omega), fo 6 r (by omega), fo 7 r (by omega), fo 8 r (by omega), fo 9 r (by omega), fo 0 0 (by omega), f3, fo 2 _ (by omega)]
    refine ⟨this.1, fun z => ?_⟩
    have h2 := this.2 z
    exact ⟨h2.1, h2.2.1, h2.2.2.1, h2.2.2.2.1, h2.2.2.2.2.1, h2.2.2.2.2.2.1, h2.2.2.2.2.2.2.1, by omega⟩
  · intro f u
    rw [fo 0 1 (by omega)] at u
    have := w8 f u
    rw [fo 10 f (by omega), fo 11 f (by omega), fo 12 f (by omega), fo 0 0 (by omega), fo 0 1 (by omega), fo 2 _ (by omega), fo 3 _ (by omega)]
    refine ⟨this.1, this.2.1, this.2.2.1, this.2.2.2.1, this.2.2.2.2.1, this.2.2.2.2.2.1, this.2.2.2.2.2.2.1, this.2.2.2.2.2.2.2.1, fun hk => ⟨(this.2.2.2.2.2.2.2.2 hk).1, fun f' v1 v2 v3 => ?_⟩⟩
    rw [fo 10 f' (by omega)] at v2
    rw [fo 11 f' (by omega)] at v3
    exact (this.2.2.2.2.2.2.2.2 hk).2 f' v1 v2 v3
theorem rA_r {t i j : Nat} (h : i ≠ 5) : ∀ k p, (rcA t k p).1 i j = p.1 i j := by
  intro k
  induction k with
  | zero => intro p; rfl
  | succ k ih =>
    intro p
    have e : (rcA t (k + 1) p).1 i j = (rcA t k p).1 i j := by
      show (rcS t k (rcA t k p)).1 i j = (rcA t k p).1 i j
      unfold rcS
      split
      · exact mset_n (by omega)
      · rfl
    exact e.trans (ih p)
theorem c_tick9 {fu t : Nat} {A : mwM} {L : mwL} {p : PB} {o : Nat → Nat → Nat} (hf : 200 ≤ fu) (hv : TfV p.1 p.2) (h : TfC A p.1 p.2 o) (ht : t ≤ 20000) (htc : p.1 0 3 ≤ t) : wq (DX9_tick fu (sI t) A L) (fun z => z.2 = L ∧ TfC z.1 (tkP t p).1 (tkP t p).2 o ∧ TfV (tkP t p).1 (tkP t p).2 ∧ ∀ a y, ¬ (a = 154 ∨ a = 159 ∨ a = 160 ∨ a = 264 ∨ (270 ≤ a ∧ a ≤ 273)) → z.1 a y = A a y) := by
  have hK := hv.1.1
  have hS := hv.1.2.2.2.1
  have hst : ∀ m, 1 ≤ m → m ≤ p.1 0 4 → 3 ≤ p.1 3 m := fun m u1 u2 => (hv.2.1 m u1 (by omega)).2.2.2.2.2.2.1 u2
  generalize hQ : (fun z : mwM × mwL => z.2 = L ∧ TfC z.1 (tkP t p).1 (tkP t p).2 o ∧ TfV (tkP t p).1 (tkP t p).2 ∧ ∀ a y, ¬ (a = 154 ∨ a = 159 ∨ a = 160 ∨ a = 264 ∨ (270 ≤ a ∧ a ≤ 273)) → z.1 a y = A a y) = Q
  have vB := bA_V (p.1 0 0) p (Nat.le_refl _) hv
  have kB : (bgA (p.1 0 0) p).1 0 0 = p.1 0 0 := bA_r (by omega) (by omega) (by omega) (by omega) _ _
  have vG := gA_V (t := t) (p.1 0 0) (bgA (p.1 0 0) p) (by rw [kB]; exact Nat.le_refl _) vB
  generalize hq1 : bgA (p.1 0 0) p = q1 at *
  have kG : (goA t (p.1 0 0) q1).1 0 0 = p.1 0 0 := by rw [gA_r (by omega) (by omega) (by omega)]; exact kB
  generalize hq2 : goA t (p.1 0 0) q1 = q2 at *
  have vS := V_se vG
  have vR := rA_V (t := t) 4 _ vS
  have c1 : q1.1 0 3 = p.1 0 3 := by rw [← hq1]; exact bA_r (by omega) (by omega) (by omega) (by omega) _ _
  have c2 : q2.1 0 3 = p.1 0 3 := by rw [← hq2, gA_r (by omega) (by omega) (by omega)]; exact c1
  have c3 : (rcA t 4 (seP q2)).1 0 3 = p.1 0 3 := by
    rw [rA_r (by omega)]
    show mset q2.1 0 4 (seN q2.1 101 (q2.1 0 4)) 0 3 = p.1 0 3
    rw [mset_n (by omega)]; exact c2
  have etk : tkP t p = clP t (rcA t 4 (seP q2)) := by
    unfold tkP
    rw [hq1, hq2]
  have vC : TfV (tkP t p).1 (tkP t p).2 := by
    rw [etk]
    exact V_cl vR ht (by rw [c3]; exact htc)
  -- the receivers, and the clock
  have receivers : ∀ a : mwM, TfC a (seP q2).1 (seP q2).2 o → (∀ b y, ¬ (b = 154 ∨ b = 159 ∨ b = 160 ∨ b = 264 ∨ (270 ≤ b ∧ b ≤ 273)) → a b y = A b y) → wq (fX9_tick_b105 fu (sI t) a L) Q := by
    intro a hr p1
    unfold fX9_tick_b105
    refine wq_for (body := fun r z => fX9_tick_i107 fu (sI t) r z.1 z.2.1 z.2.2) (fun i (a : mwM) => (sI i, a, L)) (fun i a => TfC a (rcA t i (seP q2)).1 (rcA t i (seP q2)).2 o ∧ ∀ b y, ¬ (b = 154 ∨ b = 159 ∨ b = 160 ∨ b = 264 ∨ (270 ≤ b ∧ b ≤ 273)) → a b y = A b y) 4 ?_ ?_ 4 0 a fu (by omega) (by omega) ⟨hr, p1⟩
    · intro i a r hi ⟨hr, p1⟩ ih
      show wq (fX9_tick_i107 fu (sI t) r (sI i) a L) _
      have vi := rA_V (t := t) i _ vS
      have ci : (rcA t i (seP q2)).1 0 3 = p.1 0 3 := by
        rw [rA_r (by omega)]
        show mset q2.1 0 4 (seN q2.1 101 (q2.1 0 4)) 0 3 = p.1 0 3
        rw [mset_n (by omega)]; exact c2
      have hKi : (rcA t i (seP q2)).1 0 0 = p.1 0 0 := by
        rw [rA_r (by omega)]
        show mset q2.1 0 4 (seN q2.1 101 (q2.1 0 4)) 0 0 = p.1 0 0
        rw [mset_n (by omega)]; exact kG
      have e0 : rcA t (i + 1) (seP q2) = rcS t i (rcA t i (seP q2)) := rfl
      rw [e0] at ih
      generalize rcA t i (seP q2) = u at *
      have e264 := hr.2.2.1 i hi
      have hvi := vi.2.2.1 i hi
      have hcl := cmo_le hvi.1
      have skip : ¬ (u.1 5 i = 1 ∧ 1000 ≤ t - u.1 9 i) → wq (r (sI (i + 1), a, L)) Q := by
        intro hno
        have es : rcS t i u = u := by unfold rcS; rw [if_neg hno]
        rw [es] at ih
        exact ih a ⟨hr, p1⟩
      unfold fX9_tick_i107 fX9_tick_b154
      rw [if_neg (by rw [sI_lle (by decide) (by omega)]; omega), mck_s (by omega) (by omega), sI_nn (by omega), e264.1]
      simp only [mlet]
      rw [sI_1]
      by_cases h1 : u.1 5 i = 1
      · have h2 := hvi.2 h1
        rw [if_pos (by rw [h1]; rfl), mck_s (by omega) (by omega), (e264.2 h1).2.2.2, sI_sub (by omega), mck_s (by omega) (by omega)]
        by_cases h3 : 1000 ≤ t - u.1 9 i
        · rw [if_neg (by rw [sI_ltl (by omega) (by decide)]; omega)]
          have es : rcS t i u = (mset u.1 5 i 3, mset u.2 2 0 true) := by unfold rcS; rw [if_pos ⟨h1, h3⟩]
          rw [es] at ih
          dsimp only at ih
          refine ih _ ⟨?_, fun b y w => by rw [mset_n (by omega), mset_n (by omega)]; exact p1 b y w⟩
          obtain ⟨k1, k2, k3, k4⟩ := hr
          have fo : ∀ i' j, i' ≠ 5 → mset u.1 5 i 3 i' j = u.1 i' j := fun i' j w => mset_n (by omega)
          have fb : ∀ i' j, i' ≠ 2 → mset u.2 2 0 true i' j = u.2 i' j := fun i' j w => mset_n (by omega)
          refine ⟨?_, ?_, ?_, ?_⟩
          · rw [fo 0 0 (by omega), fo 0 1 (by omega), fo 0 2 (by omega), fo 0 3 (by omega), fo 0 4 (by omega), mset_s (M := u.2)]
            simp (disch := omega) only [mset_n, mset_s]
            exact ⟨k1.1, k1.2.1, k1.2.2.1, k1.2.2.2.1, k1.2.2.2.2.1, rfl⟩
          · intro m u1 u2
            rw [fo 0 0 (by omega)] at u2
            rw [fo 1 m (by omega), fo 2 m (by omega), fo 3 m (by omega), fo 4 m (by omega), fb 0 m (by omega)]
            simp (disch := omega) only [mset_n]
            exact k2 m u1 u2
          · intro r' w
            have := k3 r' w
            rw [fo 6 r' (by omega), fo 7 r' (by omega), fo 8 r' (by omega), fo 9 r' (by omega)]
            by_cases hq : r' = i
            · subst hq
              rw [mset_s, mset_n (show ¬ (264 = 154 ∧ r' = 10) by omega), mset_s]
              exact ⟨rfl, fun z => by omega⟩
            · rw [mset_j hq]
              simp (disch := omega) only [mset_n]
              exact this
          · intro f w
            rw [fo 0 1 (by omega)] at w
            rw [fo 10 f (by omega), fo 11 f (by omega), fo 12 f (by omega), fb 1 f (by omega)]
            simp (disch := omega) only [mset_n]
            exact k4 f w
        · rw [if_pos (by rw [sI_ltl (by omega) (by decide)]; omega)]
          exact skip (fun z => h3 z.2)
      · rw [if_neg (by rw [sI_eql (by omega) (by decide)]; exact fun z => h1 (cmo_1.mp z))]
        exact skip (fun z => h1 z.1)
    · intro a r ⟨hr, p1⟩
      show wq (fX9_tick_i107 fu (sI t) r (sI 4) a L) _
      unfold fX9_tick_i107
      rw [if_pos (by decide), ← hQ]
      simp only [mlet]
      refine wq_some ⟨rfl, ?_, vC, fun b y w => by dsimp only; rw [mset_n (by omega)]; exact p1 b y w⟩
      dsimp only
      rw [etk]
      have hKr : (rcA t 4 (seP q2)).1 0 0 = p.1 0 0 := by
        rw [rA_r (by omega)]
        show mset q2.1 0 4 (seN q2.1 101 (q2.1 0 4)) 0 0 = p.1 0 0
        rw [mset_n (by omega)]; exact kG
      generalize rcA t 4 (seP q2) = u at *
      have fo : ∀ i j, i ≠ 0 ∨ j ≠ 3 → (clP t u).1 i j = u.1 i j := fun i j w => mset_n (by omega)
      have f3 : (clP t u).1 0 3 = t := by
        show mset u.1 0 3 t 0 3 = _
        rw [mset_s]
      have fb : (clP t u).2 = u.2 := rfl
      obtain ⟨k1, k2, k3, k4⟩ := hr
      refine ⟨?_, ?_, ?_, ?_⟩
      · rw [fo 0 0 (by omega), fo 0 1 (by omega), fo 0 2 (by omega), f3, fo 0 4 (by omega), fb]
        simp (disch := omega) only [mset_n, mset_s]
        exact ⟨k1.1, k1.2.1, k1.2.2.1, k1.2.2.2.1, trivial, k1.2.2.2.2.2⟩
      · intro m u1 u2
        rw [fo 0 0 (by omega)] at u2
        rw [fo 1 m (by omega), fo 2 m (by omega), fo 3 m (by omega), fo 4 m (by omega), fb]
        simp (disch := omega) only [mset_n]
        exact k2 m u1 u2
      · intro r' w
        rw [fo 5 r' (by omega), fo 6 r' (by omega), fo 7 r' (by omega), fo 8 r' (by omega), fo 9 r' (by omega)]
        simp (disch := omega) only [mset_n]
        exact k3 r' w
      · intro f w
        rw [fo 0 1 (by omega)] at w
        rw [fo 10 f (by omega), fo 11 f (by omega), fo 12 f (by omega), fb]
        simp (disch := omega) only [mset_n]
        exact k4 f w
  -- what is settled
  have settle : ∀ (g s f : Nat) (a : mwM), s ≤ p.1 0 0 → p.1 0 0 < s + g → g < f → seN q2.1 g s = seN q2.1 101 (q2.1 0 4) → TfC a (mset q2.1 0 4 s) q2.2 o → (∀ b y, ¬ (b = 154 ∨ b = 159 ∨ b = 160 ∨ b = 264 ∨ (270 ≤ b ∧ b ≤ 273)) → a b y = A b y) → wq (fX9_tick_h64 fu (sI t) f (a, L)) Q := by
    intro g
    induction g with
    | zero => intro s f a h1 h2; omega
    | succ g ih =>
      intro s f a h1 h2 hf1 hse hr p1
      obtain ⟨f', rfl⟩ : ∃ f', f = f' + 1 := ⟨f - 1, by omega⟩
      have e0 : seN q2.1 (g + 1) s = if s < q2.1 0 0 ∧ 3 ≤ q2.1 3 (s + 1) then seN q2.1 g (s + 1) else s := rfl
      rw [e0, kG] at hse
      have k5 : a 154 5 = sI (p.1 0 0) := by rw [hr.1.1, mset_n (by omega), kG]
      have k8 : a 154 8 = sI s := by rw [hr.1.2.2.2.1, mset_s]
      have done : seN q2.1 101 (q2.1 0 4) = s → wq (fX9_tick_b105 fu (sI t) a L) Q := by
        intro hs
        refine receivers a ?_ p1
        show TfC a (mset q2.1 0 4 (seN q2.1 101 (q2.1 0 4))) q2.2 o
        rw [hs]
        exact hr
      unfold fX9_tick_h64
      rw [mloop_S]
      show wq (fX9_tick_i64 fu (sI t) (fX9_tick_h64 fu (sI t) f') a L) Q
      unfold fX9_tick_i64
      rw [k5, k8]
      by_cases a1 : s < p.1 0 0
      · have k159 := (hr.2.1 (s + 1) (by omega) (by rw [mset_n (by omega), kG]; omega)).2.2.2.1
        rw [mset_n (by omega)] at k159
        have h34 := (vG.2.1 (s + 1) (by omega) (by rw [kG]; omega)).2.2.2.1
        rw [if_neg (by rw [sI_le (by omega) (by omega)]; omega), sI_1, mck_s (by omega) (by omega), sI_nn (by omega), k159]
        by_cases a2 : 3 ≤ q2.1 3 (s + 1)
        · rw [if_pos ⟨a1, a2⟩] at hse
          rw [if_neg (by rw [sI_ltl (by omega) (by decide)]; omega)]
          simp only [mlet]
          refine ih (s + 1) f' _ (by omega) (by omega) (by omega) hse ?_ (fun b y w => by rw [mset_n (by omega)]; exact p1 b y w)
          obtain ⟨c1', c2', c3', c4'⟩ := hr
          have fo : ∀ v i j, i ≠ 0 ∨ j ≠ 4 → mset q2.1 0 4 v i j = q2.1 i j := fun v i j w => mset_n (by omega)
          refine ⟨?_, ?_, ?_, ?_⟩
          · rw [fo _ 0 0 (by omega), fo _ 0 1 (by omega), fo _ 0 2 (by omega), fo _ 0 3 (by omega)] at c1'
            rw [fo _ 0 0 (by omega), fo _ 0 1 (by omega), fo _ 0 2 (by omega), fo _ 0 3 (by omega), mset_s]
            simp (disch := omega) only [mset_n, mset_s]
            exact ⟨c1'.1, c1'.2.1, c1'.2.2.1, trivial, c1'.2.2.2.2.1, c1'.2.2.2.2.2⟩
          · intro m u1 u2
            rw [fo _ 0 0 (by omega)] at u2
            have := c2' m u1 (by rw [fo _ 0 0 (by omega)]; exact u2)
            rw [kG] at u2
            rw [fo _ 1 m (by omega), fo _ 2 m (by omega), fo _ 3 m (by omega), fo _ 4 m (by omega)] at this ⊢
            simp (disch := omega) only [mset_n]
            exact this
          · intro r' w
            have := c3' r' w
            rw [fo _ 5 r' (by omega), fo _ 6 r' (by omega), fo _ 7 r' (by omega), fo _ 8 r' (by omega), fo _ 9 r' (by omega)] at this ⊢
            simp (disch := omega) only [mset_n]
            exact this
          · intro f w
            rw [fo _ 0 1 (by omega)] at w
            have := c4' f (by rw [fo _ 0 1 (by omega)]; exact w)
            rw [fo _ 10 f (by omega), fo _ 11 f (by omega), fo _ 12 f (by omega)] at this ⊢
            simp (disch := omega) only [mset_n]
            exact this
        · rw [if_neg (fun z => a2 z.2)] at hse
          rw [if_pos (by rw [sI_ltl (by omega) (by decide)]; omega)]
          exact done hse.symm
      · rw [if_neg (fun z => a1 z.1)] at hse
        rw [if_pos (by rw [sI_le (by omega) (by omega)]; omega)]
        exact done hse.symm
  -- messages go on
  have goes : ∀ a : mwM, TfC a q1.1 q1.2 o → (∀ b y, ¬ (b = 154 ∨ b = 159 ∨ b = 160 ∨ b = 264 ∨ (270 ≤ b ∧ b ≤ 273)) → a b y = A b y) → wq (fX9_tick_h44 fu (sI t) fu (sI (p.1 0 4 + 1), a, L)) Q := by
    intro a hr p1
    have hg0 : goA t (p.1 0 4) q1 = q1 := gA_no (fun m u1 u2 => by
      have h3 := hst m u1 u2
      rw [← hq1, bA_3 _ _ (by omega)]
      exact h3)
    refine wq_for (body := fun r z => fX9_tick_i44 fu (sI t) r z.1 z.2.1 z.2.2) (fun i (a : mwM) => (sI (i + 1), a, L)) (fun i a => TfC a (goA t i q1).1 (goA t i q1).2 o ∧ ∀ b y, ¬ (b = 154 ∨ b = 159 ∨ b = 160 ∨ b = 264 ∨ (270 ≤ b ∧ b ≤ 273)) → a b y = A b y) (p.1 0 0) ?_ ?_ (p.1 0 0 - p.1 0 4) (p.1 0 4) a fu (by omega) (by omega) ⟨by rw [hg0]; exact hr, p1⟩
    · intro i a r hi ⟨hr, p1⟩ ih
      show wq (fX9_tick_i44 fu (sI t) r (sI (i + 1)) a L) _
      have vi := gA_V (t := t) i q1 (by rw [kB]; omega) vB
      have ki : (goA t i q1).1 0 0 = p.1 0 0 := by rw [gA_r (by omega) (by omega) (by omega)]; exact kB
      have ci : (goA t i q1).1 0 3 = p.1 0 3 := by rw [gA_r (by omega) (by omega) (by omega)]; exact c1
      have e0 : goA t (i + 1) q1 = goP (i + 1) t (goA t i q1) := rfl
      rw [e0] at ih
      generalize goA t i q1 = u at *
      unfold fX9_tick_i44
      rw [hr.1.1, ki, if_neg (by rw [sI_lt (by omega) (by omega)]; omega)]
      refine wq_b2 (c_goOn9 (by omega) vi hr (by omega) (by omega) ht (by omega)) ?_
      rintro M1 L1 ⟨y1, y2, y3⟩
      dsimp only at y1 y2 y3
      subst y1
      simp only [mlet]
      rw [sI_1]
      exact ih M1 ⟨y2, fun b y w => (y3 b y (by omega) (by omega) (by omega)).trans (p1 b y w)⟩
    · intro a r ⟨hr, p1⟩
      show wq (fX9_tick_i44 fu (sI t) r (sI (p.1 0 0 + 1)) a L) _
      unfold fX9_tick_i44
      rw [hq2] at hr
      rw [hr.1.1, kG, if_pos (by rw [sI_lt (by omega) (by omega)]; omega)]
      refine settle 101 (q2.1 0 4) fu a (by have := vG.1.2.2.2.1; omega) (by omega) (by omega) rfl ?_ p1
      have : mset q2.1 0 4 (q2.1 0 4) = q2.1 := by
        funext i j
        by_cases hc : i = 0 ∧ j = 4
        · rw [hc.1, hc.2, mset_s]
        · rw [mset_n hc]
      rw [this]
      exact hr
  unfold DX9_tick
  simp only [mlet]
  rw [h.1.2.2.2.1, sI_1]
  refine wq_for (body := fun r z => fX9_tick_i7 fu (sI t) r z.1 z.2.1 z.2.2) (fun i (a : mwM) => (sI (i + 1), a, L)) (fun i a => TfC a (bgA i p).1 (bgA i p).2 o ∧ ∀ b y, ¬ (b = 154 ∨ b = 159 ∨ b = 160 ∨ b = 264 ∨ (270 ≤ b ∧ b ≤ 273)) → a b y = A b y) (p.1 0 0) ?_ ?_ (p.1 0 0 - p.1 0 4) (p.1 0 4) A fu (by omega) (by omega) ⟨by rw [bA_no (fun m u1 u2 => by have := hst m u1 u2; omega)]; exact h, fun _ _ _ => rfl⟩
  · intro i a r hi ⟨hr, p1⟩ ih
    show wq (fX9_tick_i7 fu (sI t) r (sI (i + 1)) a L) _
    have vi := bA_V i p (by omega) hv
    have vj := bA_V (i + 1) p (by omega) hv
    have ki : (bgA i p).1 0 0 = p.1 0 0 := bA_r (by omega) (by omega) (by omega) (by omega) _ _
    have e0 : bgA (i + 1) p = if (bgA i p).1 3 (i + 1) = 0 then (bgN (bgA i p).1 (i + 1), mkB (bgA i p).1 (bgA i p).2) else bgA i p := rfl
    rw [e0] at ih vj
    generalize bgA i p = u at *
    have hm := vi.2.1 (i + 1) (by omega) (by omega)
    have e159 := (hr.2.1 (i + 1) (by omega) (by omega)).2.2.2.1
    unfold fX9_tick_i7 fX9_tick_b31
    simp only [mlet]
    rw [hr.1.1, ki, if_neg (by rw [sI_lt (by omega) (by omega)]; omega), mck_s (by omega) (by omega), sI_nn (by omega), e159]
    by_cases h0 : u.1 3 (i + 1) = 0
    · rw [if_pos h0] at ih vj
      rw [if_pos (by rw [h0]; rfl)]
      dsimp only at ih vj
      have hF := Tf_F vj
      have hF1 : bgN u.1 (i + 1) 0 1 = u.1 0 1 + 1 := by
        unfold bgN
        rw [mset_n (by omega), mset_n (by omega), mk_F]
      refine wq_b2 (c_begin9 hr (by omega) (by omega) (by omega) hm.2.2.1) ?_
      rintro M1 L1 ⟨y1, y2, y3⟩
      dsimp only at y1 y2 y3
      subst y1
      rw [sI_1]
      exact ih M1 ⟨y2, fun b y w => (y3 b y (by omega) (by omega) (by omega) (by omega)).trans (p1 b y w)⟩
    · rw [if_neg h0] at ih
      rw [if_neg (by rw [sI_eql (by omega) (by decide)]; exact h0), sI_1]
      exact ih a ⟨hr, p1⟩
  · intro a r ⟨hr, p1⟩
    show wq (fX9_tick_i7 fu (sI t) r (sI (p.1 0 0 + 1)) a L) _
    unfold fX9_tick_i7
    rw [hq1] at hr
    have k4 : q1.1 0 4 = p.1 0 4 := by rw [← hq1]; exact bA_r (by omega) (by omega) (by omega) (by omega) _ _
    rw [hr.1.1, kB, if_pos (by rw [sI_lt (by omega) (by omega)]; omega), hr.1.2.2.2.1, k4, sI_1]
    exact goes a hr p1
