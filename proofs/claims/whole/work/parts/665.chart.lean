/-! the reference: what waits, what is left, children -/
theorem m_findExits {fu : Nat} {M : mwM} {L : mwL} {q N d : Nat} {pa kd de : Nat → Nat} {ac : Nat → Bool} (hf : 202 ≤ fu) (hT : Tr N pa kd de) (hM : TrM M q N pa kd de) (hA : ∀ s, 1 ≤ s → s ≤ N → M (q + 9) s = bI (ac s)) (hd : d ≤ N) : wq (DX13_findExits fu q (sI d) M L) (fun z => z.2 = L ∧ (∀ s, 1 ≤ s → s ≤ N → z.1 (q + 26) s = bI (ac s && insB pa de d s)) ∧ ∀ b y, b ≠ q + 26 → z.1 b y = M b y) := by
  have hN := hT.1
  unfold DX13_findExits
  refine wq_for (body := fun r s => fX13_findExits_i2 fu q (sI d) r s.1 s.2.1 s.2.2) (fun i (a : mwM) => (sI i, a, L)) (fun i a => 1 ≤ i ∧ (∀ s, 1 ≤ s → s < i → a (q + 26) s = bI (ac s && insB pa de d s)) ∧ ∀ b y, b ≠ q + 26 → a b y = M b y) (N + 1) ?_ ?_ N 1 _ fu (by omega) (by omega) ⟨Nat.le_refl _, fun s a b => by omega, fun _ _ _ => rfl⟩
  · intro i a r hi ⟨h1i, p1, p2⟩ ih
    show wq (fX13_findExits_i2 fu q (sI d) r (sI i) a L) _
    have e1 : a q 2 = sI N := (p2 q 2 (by omega)).trans hM.1
    have e2 : a (q + 9) i = bI (ac i) := (p2 (q + 9) i (by omega)).trans (hA i (by omega) (by omega))
    have e3 := m_inside (fu := fu) (L := L) (by omega) hT (TrM_f hM (p2 q 2 (by omega)) (fun b s h1 h2 => p2 b s (by omega))) (show i ≤ N by omega) hd
    unfold fX13_findExits_i2 fX13_findExits_b37 fX13_findExits_b38
    simp (disch := omega) only [e1, e2, e3, mck_s, sI_nn, nn_s, sI_lt, sI_le, sI_eq, sI_ltl, sI_lel, sI_eql, sI_llt, sI_lle, sI_1, bI_0, bI_1, bI_n, mlet, mb3_s, mb2_s]
    rw [if_neg (by omega)]
    have go : ∀ v, v = bI (ac i && insB pa de d i) → wq (r (sI (i + 1), mset a (q + 26) i (vp_nar .boolean v), L)) (fun z => z.2 = L ∧ (∀ s, 1 ≤ s → s ≤ N → z.1 (q + 26) s = bI (ac s && insB pa de d s)) ∧ ∀ b y, b ≠ q + 26 → z.1 b y = M b y) := by
      intro v hv
      refine ih _ ⟨by omega, ?_, ?_⟩
      · intro s h1 hs
        by_cases hsi : s = i
        · rw [hsi, mset_s, hv, bI_n]
        · rw [mset_j hsi]; exact p1 s h1 (by omega)
      · intro b y hb
        rw [mset_k hb]; exact p2 b y hb
    cases h1 : ac i <;> cases h2 : insB pa de d i <;> simp only [h1, h2, Bool.false_eq_true, reduceIte, if_true, if_false, Bool.true_eq_false] <;> exact go _ (by rw [h1, h2]; rfl)
  · intro a r ⟨_, p1, p2⟩
    show wq (fX13_findExits_i2 fu q (sI d) r (sI (N + 1)) a L) _
    have e1 : a q 2 = sI N := (p2 q 2 (by omega)).trans hM.1
    unfold fX13_findExits_i2
    simp (disch := omega) only [e1, mck_s, sI_nn, nn_s, sI_lt, sI_le, sI_eq, sI_ltl, sI_lel, sI_eql, sI_llt, sI_lle, sI_1, bI_0, bI_1, bI_n, mlet, mb3_s, mb2_s]
    rw [if_pos (by omega)]
    exact wq_some ⟨rfl, fun s h1 hs => p1 s h1 (by omega), p2⟩
/-- the first child -/
def chP (pa kd : Nat → Nat) (o : Nat → Bool) (s c : Nat) : Bool := decide (pa c = s) && decide (kd c ≤ 1) && o c
def fstN (p : Nat → Bool) : Nat → Nat → Nat
  | 0, _ => 0
  | m + 1, i => if p i = true then i else fstN p m (i + 1)
def chF (pa kd : Nat → Nat) (N : Nat) (o : Nat → Bool) (s : Nat) : Nat := fstN (chP pa kd o s) N 1
theorem m_mark {fu : Nat} {M : mwM} {L : mwL} {q N s : Nat} {pa kd de : Nat → Nat} (hT : Tr N pa kd de) (hM : TrM M q N pa kd de) (hs : s ≤ N) : DX13_mark fu q (sI s) M L = some (bI (decide (2 ≤ kd s)), M, L) := by
  have hp := Tr_pa hT hs
  have e1 := (hM.2 s hs).2.1
  unfold DX13_mark fX13_mark_b15
  simp (disch := omega) only [e1, mck_s, sI_nn, nn_s, sI_lt, sI_le, sI_eq, sI_ltl, sI_lel, sI_eql, sI_llt, sI_lle, sI_1, bI_0, bI_1, bI_n, mlet, mb3_s, mb2_s]
  by_cases h : 2 ≤ kd s
  · rw [if_neg (by omega), decide_eq_true h]; rfl
  · rw [if_pos (by omega), decide_eq_false h]; rfl
theorem m_child {fu : Nat} {M : mwM} {L : mwL} {q N s : Nat} {pa kd de : Nat → Nat} {ac : Nat → Bool} {w : Bool} (hf : 202 ≤ fu) (hT : Tr N pa kd de) (hM : TrM M q N pa kd de) (hA : w = true → ∀ s, 1 ≤ s → s ≤ N → M (q + 9) s = bI (ac s)) (hs : s ≤ N) : DX13_child fu q (sI s) (bI w) M L = some (sI (chF pa kd N (fun c => !w || ac c) s), M, L) := by
  have hN := hT.1
  unfold DX13_child chF
  have key : ∀ (m i f : Nat), 1 ≤ i → i + m = N + 1 → m < f → fX13_child_h2 fu q (sI s) (bI w) f (sI i, M, L) = some (sI (fstN (chP pa kd (fun c => !w || ac c) s) m i), M, L) := by
    intro m
    induction m with
    | zero =>
      intro i f h1 h2 h3
      obtain ⟨g, rfl⟩ : ∃ g, f = g + 1 := ⟨f - 1, by omega⟩
      unfold fX13_child_h2
      rw [mloop_S]
      show fX13_child_i2 fu q (sI s) (bI w) (fX13_child_h2 fu q (sI s) (bI w) g) (sI i) M L = _
      unfold fX13_child_i2
      simp (disch := omega) only [hM.1, mck_s, sI_nn, nn_s, sI_lt, sI_le, sI_eq, sI_ltl, sI_lel, sI_eql, sI_llt, sI_lle, sI_1, bI_0, bI_1, bI_n, mlet, mb3_s, mb2_s]
      rw [if_pos (by omega)]
      rfl
    | succ m ih =>
      intro i f h1 h2 h3
      obtain ⟨g, rfl⟩ : ∃ g, f = g + 1 := ⟨f - 1, by omega⟩
      unfold fX13_child_h2
      rw [mloop_S]
      show fX13_child_i2 fu q (sI s) (bI w) (fX13_child_h2 fu q (sI s) (bI w) g) (sI i) M L = _
      have hi : i ≤ N := by omega
      have hp := Tr_pa hT hi
      have ih2 := ih (i + 1) g (by omega) (by omega) (by omega)
      have e1 := (hM.2 i hi).1
      have e4 := m_mark (fu := fu) (L := L) hT hM hi
      have e5 : w = true → M (q + 9) i = bI (ac i) := fun h => hA h i h1 hi
      have e6 : fstN (chP pa kd (fun c => !w || ac c) s) (m + 1) i = if chP pa kd (fun c => !w || ac c) s i = true then i else fstN (chP pa kd (fun c => !w || ac c) s) m (i + 1) := rfl
      rw [e6]
      unfold fX13_child_i2 fX13_child_b43 fX13_child_b41
      simp (disch := omega) only [hM.1, e1, e4, mck_s, sI_nn, nn_s, sI_lt, sI_le, sI_eq, sI_ltl, sI_lel, sI_eql, sI_llt, sI_lle, sI_1, bI_0, bI_1, bI_n, mlet, mb3_s, mb2_s, ih2]
      rw [if_neg (by omega)]
      unfold chP
      by_cases a1 : pa i = s
      · rw [if_pos a1, decide_eq_true a1]
        by_cases a2 : 2 ≤ kd i
        · rw [decide_eq_true a2, decide_eq_false (by omega)]; simp
        · rw [decide_eq_false a2, decide_eq_true (by omega)]
          cases w with
          | false => simp
          | true =>
            rw [e5 rfl]
            cases hq : ac i <;> simp [bI, hq]
      · rw [if_neg a1, decide_eq_false a1]; simp
  exact key N 1 fu (by omega) (by omega) (by omega)
