/-! CHARTS: the tree of states, on both sides -/
def Tr (N : Nat) (pa kd de : Nat → Nat) : Prop := N ≤ 200 ∧ pa 0 = 0 ∧ kd 0 = 0 ∧ de 0 = 0 ∧ ∀ s, 1 ≤ s → s ≤ N → pa s < s ∧ de s = de (pa s) + 1 ∧ de s ≤ 40 ∧ kd s ≤ 5 ∧ kd (pa s) ≤ 1
def TrC (A : mwM) (k N : Nat) (pa kd de : Nat → Nat) : Prop := A k 7 = sI N ∧ ∀ s, s ≤ N → A (k + 2) s = sI (pa s) ∧ A (k + 3) s = sI (kd s) ∧ A (k + 4) s = sI (de s)
def TrM (M : mwM) (q N : Nat) (pa kd de : Nat → Nat) : Prop := M q 2 = sI N ∧ ∀ s, s ≤ N → M (q + 2) s = sI (pa s) ∧ M (q + 1) s = sI (kd s) ∧ M (q + 3) s = sI (de s)
theorem Tr_pa {N : Nat} {pa kd de : Nat → Nat} (h : Tr N pa kd de) {s : Nat} (hs : s ≤ N) : pa s ≤ N ∧ pa s ≤ 200 ∧ s ≤ 200 ∧ kd s ≤ 5 ∧ de s ≤ 40 := by
  obtain ⟨h1, h2, h3, h4, h5⟩ := h
  rcases Nat.eq_zero_or_pos s with rfl | q
  · rw [h2, h3, h4]; omega
  · obtain ⟨w1, w2, w3, w4, w5⟩ := h5 s q hs
    omega
/-- whether s lies inside d -/
def insF (pa : Nat → Nat) (d : Nat) : Nat → Nat → Bool
  | 0, _ => false
  | f + 1, s => if s = 0 then false else if pa s = d then true else insF pa d f (pa s)
def insB (pa de : Nat → Nat) (d s : Nat) : Bool := insF pa d (de s) s
theorem ins_0 {N : Nat} {pa kd de : Nat → Nat} (h : Tr N pa kd de) (d : Nat) : insB pa de d 0 = false := by
  unfold insB
  rw [h.2.2.2.1]
  rfl
theorem ins_S {N : Nat} {pa kd de : Nat → Nat} (h : Tr N pa kd de) {d s : Nat} (h1 : 1 ≤ s) (hs : s ≤ N) : insB pa de d s = (decide (pa s = d) || insB pa de d (pa s)) := by
  obtain ⟨w1, w2, w3, w4, w5⟩ := h.2.2.2.2 s h1 hs
  unfold insB
  rw [w2]
  show (if s = 0 then false else if pa s = d then true else insF pa d (de (pa s)) (pa s)) = _
  rw [if_neg (by omega)]
  by_cases hq : pa s = d
  · rw [if_pos hq]; simp [hq]
  · rw [if_neg hq]; simp [hq]
/-- every state lies inside the root -/
theorem ins_root {N : Nat} {pa kd de : Nat → Nat} (h : Tr N pa kd de) : ∀ s, 1 ≤ s → s ≤ N → insB pa de 0 s = true := by
  intro s
  induction s using Nat.strongRecOn with
  | _ s ih =>
    intro h1 hs
    obtain ⟨w1, w2, w3, w4, w5⟩ := h.2.2.2.2 s h1 hs
    rw [ins_S h h1 hs]
    by_cases hq : pa s = 0
    · simp [hq]
    · rw [ih (pa s) w1 (by omega) (by omega)]
      simp
/-- what lies inside d has a greater number, and is deeper -/
theorem ins_lt {N : Nat} {pa kd de : Nat → Nat} (h : Tr N pa kd de) {d : Nat} : ∀ s, s ≤ N → insB pa de d s = true → d < s ∧ de d < de s := by
  intro s
  induction s using Nat.strongRecOn with
  | _ s ih =>
    intro hs hi
    rcases Nat.eq_zero_or_pos s with rfl | q
    · rw [ins_0 h] at hi; cases hi
    · obtain ⟨w1, w2, w3, w4, w5⟩ := h.2.2.2.2 s q hs
      rw [ins_S h q hs, Bool.or_eq_true, decide_eq_true_eq] at hi
      rcases hi with rfl | hi
      · omega
      · have := ih (pa s) w1 (by omega) hi
        omega
def bI (b : Bool) : Int32 := if b = true then 1 else 0
theorem bI_t : bI true = 1 := rfl
theorem bI_f : bI false = 0 := rfl
theorem bI_1 {b : Bool} : (bI b = 1) ↔ b = true := by cases b <;> decide
theorem bI_0 {b : Bool} : (bI b = 0) ↔ b = false := by cases b <;> decide
theorem bI_z {b : Bool} : bI b = 0 ∨ bI b = 1 := by cases b <;> decide
theorem bI_n {b : Bool} : vp_nar .boolean (bI b) = bI b := by cases b <;> decide
/-- the class: up the tree -/
theorem c_isIn {fu : Nat} {A : mwM} {L : mwL} {k N s d : Nat} {pa kd de : Nat → Nat} (hf : 43 ≤ fu) (hT : Tr N pa kd de) (hC : TrC A k N pa kd de) (hs : s ≤ N) (hd : d ≤ N) : DX2_isIn fu k (sI s) (sI d) A L = some (bI (insB pa de d s), A, L) := by
  have key : ∀ (n s v f : Nat), de s = n → s ≤ N → v + n ≤ 40 → n < f → fX2_isIn_h5 fu k (sI s) (sI d) f (sI s, sI v, A, L) = some (bI (insB pa de d s), A, L) ∧ ∀ s0, fX2_isIn_h5 fu k s0 (sI d) f (sI s, sI v, A, L) = some (bI (insB pa de d s), A, L) := by
    intro n
    induction n with
    | zero =>
      intro s v f hn hs hv hf1
      obtain ⟨g, rfl⟩ : ∃ g, f = g + 1 := ⟨f - 1, by omega⟩
      have h0 : s = 0 := by
        rcases Nat.eq_zero_or_pos s with q | q
        · exact q
        · have := (hT.2.2.2.2 s q hs).2.1
          omega
      subst h0
      have e : ∀ s0, fX2_isIn_h5 fu k s0 (sI d) (g + 1) (sI 0, sI v, A, L) = some (bI (insB pa de d 0), A, L) := by
        intro s0
        unfold fX2_isIn_h5
        rw [mloop_S]
        show fX2_isIn_i5 fu k s0 (sI d) _ (sI 0) (sI v) A L = _
        unfold fX2_isIn_i5 fX2_isIn_b38
        rw [if_neg (by rw [sI_llt (by omega) (by omega)]; omega), if_pos (show sI 0 = 0 from rfl), ins_0 hT]
        rfl
      exact ⟨e _, e⟩
    | succ n ih =>
      intro s v f hn hs hv hf1
      obtain ⟨g, rfl⟩ : ∃ g, f = g + 1 := ⟨f - 1, by omega⟩
      have h1 : 1 ≤ s := by
        rcases Nat.eq_zero_or_pos s with q | q
        · rw [q, hT.2.2.2.1] at hn; omega
        · exact q
      have hp := Tr_pa hT hs
      obtain ⟨w1, w2, w3, w4, w5⟩ := hT.2.2.2.2 s h1 hs
      have e : ∀ s0, fX2_isIn_h5 fu k s0 (sI d) (g + 1) (sI s, sI v, A, L) = some (bI (insB pa de d s), A, L) := by
        intro s0
        unfold fX2_isIn_h5
        rw [mloop_S]
        show fX2_isIn_i5 fu k s0 (sI d) (fX2_isIn_h5 fu k s0 (sI d) g) (sI s) (sI v) A L = _
        unfold fX2_isIn_i5
        have hN := hT.1
        rw [if_neg (by rw [sI_llt (by omega) (by omega)]; omega), if_neg (by rw [sI_eql (by omega) (by decide)]; show ¬ s = 0; omega), mck_s (by omega) (by omega), sI_nn (by omega), (hC.2 s hs).1]
        simp only [mlet]
        rw [ins_S hT h1 hs]
        by_cases hq : pa s = d
        · rw [if_pos (by rw [hq])]
          simp [hq, bI_t]
        · rw [if_neg (by rw [sI_eq (by omega) (by omega)]; exact hq), sI_1, (ih (pa s) (v + 1) g (by omega) (by omega) (by omega) (by omega)).2 s0]
          simp [hq]
      exact ⟨e _, e⟩
  have hp := Tr_pa hT hs
  unfold DX2_isIn
  exact (key (de s) s 0 fu rfl hs (by omega) (by omega)).2 (sI s)
/-- the reference: up the tree -/
theorem m_inside {fu : Nat} {M : mwM} {L : mwL} {q N s d : Nat} {pa kd de : Nat → Nat} (hf : 42 ≤ fu) (hT : Tr N pa kd de) (hM : TrM M q N pa kd de) (hs : s ≤ N) (hd : d ≤ N) : DX13_inside fu q (sI s) (sI d) M L = some (bI (insB pa de d s), M, L) := by
  have key : ∀ (n s f : Nat), de s = n → s ≤ N → n < f → ∀ s0, fX13_inside_h2 fu q s0 (sI d) f (sI s, M, L) = some (bI (insB pa de d s), M, L) := by
    intro n
    induction n with
    | zero =>
      intro s f hn hs hf1 s0
      obtain ⟨g, rfl⟩ : ∃ g, f = g + 1 := ⟨f - 1, by omega⟩
      have h0 : s = 0 := by
        rcases Nat.eq_zero_or_pos s with q | q
        · exact q
        · have := (hT.2.2.2.2 s q hs).2.1
          omega
      subst h0
      unfold fX13_inside_h2
      rw [mloop_S]
      show fX13_inside_i2 fu q s0 (sI d) _ (sI 0) M L = _
      unfold fX13_inside_i2
      rw [if_pos (show sI 0 = 0 from rfl), ins_0 hT]
      rfl
    | succ n ih =>
      intro s f hn hs hf1 s0
      obtain ⟨g, rfl⟩ : ∃ g, f = g + 1 := ⟨f - 1, by omega⟩
      have h1 : 1 ≤ s := by
        rcases Nat.eq_zero_or_pos s with q | q
        · rw [q, hT.2.2.2.1] at hn; omega
        · exact q
      have hp := Tr_pa hT hs
      have hN := hT.1
      obtain ⟨w1, w2, w3, w4, w5⟩ := hT.2.2.2.2 s h1 hs
      unfold fX13_inside_h2
      rw [mloop_S]
      show fX13_inside_i2 fu q s0 (sI d) (fX13_inside_h2 fu q s0 (sI d) g) (sI s) M L = _
      unfold fX13_inside_i2
      rw [if_neg (by rw [sI_eql (by omega) (by decide)]; show ¬ s = 0; omega), mck_s (by omega) (by omega), sI_nn (by omega), (hM.2 s hs).1]
      simp only [mlet]
      rw [ins_S hT h1 hs]
      by_cases hq : pa s = d
      · rw [if_pos (by rw [hq])]
        simp [hq, bI_t]
      · rw [if_neg (by rw [sI_eq (by omega) (by omega)]; exact hq), ih (pa s) g (by omega) (by omega) (by omega) s0]
        simp [hq]
  have hp := Tr_pa hT hs
  unfold DX13_inside
  exact key (de s) s fu rfl hs (by omega) (sI s)
theorem TrC_f {A A' : mwM} {k N : Nat} {pa kd de : Nat → Nat} (h : TrC A k N pa kd de) (h7 : A' k 7 = A k 7) (hf : ∀ b s, k + 2 ≤ b → b ≤ k + 4 → A' b s = A b s) : TrC A' k N pa kd de := by
  refine ⟨h7.trans h.1, fun s hs => ?_⟩
  rw [hf _ _ (by omega) (by omega), hf _ _ (by omega) (by omega), hf _ _ (by omega) (by omega)]
  exact h.2 s hs
theorem TrM_f {M M' : mwM} {q N : Nat} {pa kd de : Nat → Nat} (h : TrM M q N pa kd de) (h2 : M' q 2 = M q 2) (hf : ∀ b s, q + 1 ≤ b → b ≤ q + 3 → M' b s = M b s) : TrM M' q N pa kd de := by
  refine ⟨h2.trans h.1, fun s hs => ?_⟩
  rw [hf _ _ (by omega) (by omega), hf _ _ (by omega) (by omega), hf _ _ (by omega) (by omega)]
  exact h.2 s hs
/-- the class: what lies inside d is marked -/
theorem c_markInside {fu : Nat} {A : mwM} {L : mwL} {k N d : Nat} {pa kd de : Nat → Nat} (hf : 202 ≤ fu) (hT : Tr N pa kd de) (hC : TrC A k N pa kd de) (hd : d ≤ N) : wq (DX2_markInside fu k (sI d) A L) (fun q => q.2 = L ∧ (∀ s, s ≤ N → q.1 (k + 16) s = bI (insB pa de d s)) ∧ ∀ b y, b ≠ k + 16 → q.1 b y = A b y) := by
  have hN := hT.1
  unfold DX2_markInside
  simp only [mlet]
  refine wq_for (body := fun r s => fX2_markInside_i12 fu k (sI d) r s.1 s.2.1 s.2.2) (fun i (a : mwM) => (sI i, a, L)) (fun i a => 1 ≤ i ∧ (∀ s, s < i → a (k + 16) s = bI (insB pa de d s)) ∧ ∀ b y, b ≠ k + 16 → a b y = A b y) (N + 1) ?_ ?_ N 1 _ fu (by omega) (by omega) ⟨Nat.le_refl _, ?_, ?_⟩
  · intro i a r hi ⟨h1i, p1, p2⟩ ih
    have hp := Tr_pa hT (s := i) (by omega)
    obtain ⟨w1, w2, w3, w4, w5⟩ := hT.2.2.2.2 i (by omega) (by omega)
    show wq (fX2_markInside_i12 fu k (sI d) r (sI i) a L) _
    unfold fX2_markInside_i12 fX2_markInside_b55 fX2_markInside_b60
    rw [p2 k 7 (by omega), hC.1, if_neg (by rw [sI_lt (by omega) (by omega)]; omega), mck_s (by omega) (by omega), sI_nn (by omega), p2 (k + 2) i (by omega), (hC.2 i (by omega)).1]
    simp only [mlet]
    rw [mck_s (by omega) (by omega), mck_s (by omega) (by omega), sI_nn (by omega), p1 (pa i) w1, sI_1]
    have go : ∀ v, v = bI (insB pa de d i) → wq (r (sI (i + 1), mset a (k + 16) i v, L)) (fun q => q.2 = L ∧ (∀ s, s ≤ N → q.1 (k + 16) s = bI (insB pa de d s)) ∧ ∀ b y, b ≠ k + 16 → q.1 b y = A b y) := by
      intro v hv
      refine ih _ ⟨by omega, ?_, ?_⟩
      · intro s hs
        by_cases hsi : s = i
        · rw [hsi, mset_s]; exact hv
        · rw [mset_j hsi]; exact p1 s (by omega)
      · intro b y hb
        rw [mset_k hb]; exact p2 b y hb
    have e := ins_S hT (d := d) (s := i) (by omega) (by omega)
    by_cases hq : pa i = d
    · rw [if_pos (by rw [hq])]
      refine go 1 ?_
      rw [e, hq]; simp [bI_t]
    · rw [if_neg (by rw [sI_eq (by omega) (by omega)]; exact hq)]
      by_cases hb : insB pa de d (pa i) = true
      · rw [if_pos (bI_1.mpr hb)]
        refine go 1 ?_
        rw [e, hb]; simp [bI_t]
      · have hb' : insB pa de d (pa i) = false := by simpa using hb
        rw [if_neg (fun q => hb (bI_1.mp q)), mck_s (by omega) (by omega)]
        refine go 0 ?_
        rw [e, hb']; simp [hq, bI_f]
  · intro a r ⟨_, p1, p2⟩
    show wq (fX2_markInside_i12 fu k (sI d) r (sI (N + 1)) a L) _
    unfold fX2_markInside_i12
    rw [p2 k 7 (by omega), hC.1, if_pos (by rw [sI_lt (by omega) (by omega)]; omega)]
    exact wq_some ⟨rfl, fun s hs => p1 s (by omega), p2⟩
  · intro s hs
    have : s = 0 := by omega
    subst this
    rw [ins_0 hT]
    exact mset_s
  · intro b y hb
    exact mset_k hb
