/-! the class finds the domains of its edges -/
def DoC (k : Nat) (A : mwM) (c : Nat → Nat → Nat) : Prop := ∀ e, 1 ≤ e → e ≤ c 0 1 → ∀ j, 1 ≤ j → j ≤ c 0 1 → sS (c 2) (c 4) (c 5) e j = true → A (k + 25) e = sI (bst (c 1) (c 2) (c 3) (c 4) (c 5) (c 0 1) e (c 0 0))
theorem c_firstInto {fu : Nat} {A : mwM} {L : mwL} {k N E g : Nat} {kd fr to ev gu : Nat → Nat} (hf : 402 ≤ fu) (hE : Ed N E kd fr to ev gu) (hN : N ≤ 200) (hEC : EdC A k E fr to ev gu) (hg : g ≤ N) : DX2_firstInto fu k (sI g) A L = some (sI (if fstN (fun j => decide (to j = g)) E 1 = 0 then g else fr (fstN (fun j => decide (to j = g)) E 1)), A, L) := by
  have hE4 := hE.1
  have key : ∀ (m i f : Nat), 1 ≤ i → i + m = E + 1 → m < f → fX2_firstInto_h2 fu k (sI g) f (sI i, A, L) = some (sI (if fstN (fun j => decide (to j = g)) m i = 0 then g else fr (fstN (fun j => decide (to j = g)) m i)), A, L) := by
    intro m
    induction m with
    | zero =>
      intro i f h1 h2 h3
      obtain ⟨u, rfl⟩ : ∃ u, f = u + 1 := ⟨f - 1, by omega⟩
      unfold fX2_firstInto_h2
      rw [mloop_S]
      show fX2_firstInto_i2 fu k (sI g) (fX2_firstInto_h2 fu k (sI g) u) (sI i) A L = _
      unfold fX2_firstInto_i2
      rw [hEC.1, if_pos (by rw [sI_lt (by omega) (by omega)]; omega)]
      rfl
    | succ m ih =>
      intro i f h1 h2 h3
      obtain ⟨u, rfl⟩ : ∃ u, f = u + 1 := ⟨f - 1, by omega⟩
      unfold fX2_firstInto_h2
      rw [mloop_S]
      show fX2_firstInto_i2 fu k (sI g) (fX2_firstInto_h2 fu k (sI g) u) (sI i) A L = _
      have hi := hE.2 i h1 (by omega)
      obtain ⟨e1, e2, _⟩ := hEC.2 i h1 (by omega)
      have e6 : fstN (fun j => decide (to j = g)) (m + 1) i = if decide (to i = g) = true then i else fstN (fun j => decide (to j = g)) m (i + 1) := rfl
      have ih2 := ih (i + 1) u (by omega) (by omega) (by omega)
      rw [e6]
      unfold fX2_firstInto_i2
      simp (disch := omega) only [hEC.1, e1, e2, ih2, mck_s, sI_nn, nn_s, sI_lt, sI_le, sI_eq, sI_ltl, sI_lel, sI_eql, sI_llt, sI_lle, sI_1, bI_0, bI_1, bI_n, mlet, mb3_s, mb2_s]
      rw [if_neg (by omega)]
      by_cases hq : to i = g
      · rw [if_pos hq, if_pos (show decide (to i = g) = true by simp [hq]), if_neg (by omega)]
      · rw [if_neg hq, if_neg (show ¬ decide (to i = g) = true by simp [hq])]
  unfold DX2_firstInto
  exact key E 1 fu (by omega) (by omega) (by omega)
theorem c_findDomains {fu : Nat} {A : mwM} {L : mwL} {k : Nat} {c : Nat → Nat → Nat} (hf : 402 ≤ fu) (hv : Cv c) (hC : TrC A k (c 0 0) (c 1) (c 2) (c 3)) (hEC : EdC A k (c 0 1) (c 4) (c 5) (c 6) (c 7)) : wq (DX2_findDomains fu k A L) (fun z => z.2 = L ∧ DoC k z.1 c ∧ ∀ b y, b ≠ k + 25 → z.1 b y = A b y) := by
  have hT := hv.1
  have hE := hv.2.1
  have hN := hT.1
  have hE4 := hE.1
  unfold DX2_findDomains
  refine wq_for (body := fun r z => fX2_findDomains_i2 fu k r z.1 z.2.1 z.2.2) (fun i (a : mwM) => (sI i, a, L)) (fun i a => 1 ≤ i ∧ (∀ e, 1 ≤ e → e < i → ∀ j, 1 ≤ j → j ≤ c 0 1 → sS (c 2) (c 4) (c 5) e j = true → a (k + 25) e = sI (bst (c 1) (c 2) (c 3) (c 4) (c 5) (c 0 1) e (c 0 0))) ∧ ∀ b y, b ≠ k + 25 → a b y = A b y) (c 0 1 + 1) ?_ ?_ (c 0 1) 1 A fu (by omega) (by omega) ⟨Nat.le_refl _, fun e h1 h2 => by omega, fun _ _ _ => rfl⟩
  · intro e a r hi ⟨h1e, p1, p2⟩ ih
    show wq (fX2_findDomains_i2 fu k r (sI e) a L) _
    have aC : TrC a k (c 0 0) (c 1) (c 2) (c 3) := TrC_f hC (p2 _ _ (by omega)) (fun b s u1 u2 => p2 _ _ (by omega))
    have aE : EdC a k (c 0 1) (c 4) (c 5) (c 6) (c 7) := ⟨(p2 _ _ (by omega)).trans hEC.1, fun j u1 u2 => by rw [p2 _ _ (by omega), p2 _ _ (by omega), p2 _ _ (by omega), p2 _ _ (by omega)]; exact hEC.2 j u1 u2⟩
    obtain ⟨j1, j2, j3, j4, _⟩ := hE.2 e h1e (by omega)
    have hp := Tr_pa hT j2
    -- the end of the climb
    have fin : ∀ d, d ≤ c 0 0 → (∀ j, 1 ≤ j → j ≤ c 0 1 → sS (c 2) (c 4) (c 5) e j = true → d = bst (c 1) (c 2) (c 3) (c 4) (c 5) (c 0 1) e (c 0 0)) → wq (fX2_findDomains_b101 fu k r (sI e) (sI d) a L) (fun z => z.2 = L ∧ DoC k z.1 c ∧ ∀ b y, b ≠ k + 25 → z.1 b y = A b y) := by
      intro d hd hdb
      unfold fX2_findDomains_b101
      simp (disch := omega) only [mck_s, sI_nn, nn_s, sI_lt, sI_le, sI_eq, sI_ltl, sI_lel, sI_eql, sI_llt, sI_lle, sI_1, bI_0, bI_1, bI_n, mlet, mb3_s, mb2_s]
      refine ih _ ⟨by omega, fun e' u1 u2 j v1 v2 v3 => ?_, fun b y hb => by rw [mset_k hb]; exact p2 b y hb⟩
      by_cases hq : e' = e
      · subst hq
        rw [mset_s, hdb j v1 v2 v3]
      · rw [mset_j hq]
        exact p1 e' u1 (by omega) j v1 v2 v3
    have climb : ∀ (m d v f : Nat), c 3 d = m → d ≤ c 0 0 → v + m ≤ 40 → m < f → (∀ j, 1 ≤ j → j ≤ c 0 1 → sS (c 2) (c 4) (c 5) e j = true → clB (c 1) (fun d => decide (c 2 d = 0) && goodB (c 1) (c 2) (c 3) (c 4) (c 5) (c 0 1) d e) m d = bst (c 1) (c 2) (c 3) (c 4) (c 5) (c 0 1) e (c 0 0)) → wq (fX2_findDomains_h67 fu k r f (sI e, sI d, sI v, a, L)) (fun z => z.2 = L ∧ DoC k z.1 c ∧ ∀ b y, b ≠ k + 25 → z.1 b y = A b y) := by
      intro m
      induction m with
      | zero =>
        intro d v f hm hd hv hf1 hb
        obtain ⟨u, rfl⟩ : ∃ u, f = u + 1 := ⟨f - 1, by omega⟩
        have h0 : d = 0 := by
          rcases Nat.eq_zero_or_pos d with q | q
          · exact q
          · have := (hT.2.2.2.2 d q hd).2.1
            omega
        unfold fX2_findDomains_h67
        rw [mloop_S]
        show wq (fX2_findDomains_i67 fu k r (fX2_findDomains_h67 fu k r u) (sI e) (sI d) (sI v) a L) _
        unfold fX2_findDomains_i67
        rw [if_neg (by rw [sI_llt (by omega) (by omega)]; omega), if_pos (by rw [h0]; rfl)]
        exact fin d hd (fun j v1 v2 v3 => hb j v1 v2 v3)
      | succ m ih2 =>
        intro d v f hm hd hv hf1 hb
        obtain ⟨u, rfl⟩ : ∃ u, f = u + 1 := ⟨f - 1, by omega⟩
        have h1 : 1 ≤ d := by
          rcases Nat.eq_zero_or_pos d with q | q
          · rw [q, hT.2.2.2.1] at hm; omega
          · exact q
        obtain ⟨w1, w2, w3, w4, w5⟩ := hT.2.2.2.2 d h1 hd
        have hb' : ∀ j, 1 ≤ j → j ≤ c 0 1 → sS (c 2) (c 4) (c 5) e j = true → (if d = 0 then 0 else if (decide (c 2 d = 0) && goodB (c 1) (c 2) (c 3) (c 4) (c 5) (c 0 1) d e) = true then d else clB (c 1) (fun d => decide (c 2 d = 0) && goodB (c 1) (c 2) (c 3) (c 4) (c 5) (c 0 1) d e) m (c 1 d)) = bst (c 1) (c 2) (c 3) (c 4) (c 5) (c 0 1) e (c 0 0) := hb
        have ea := c_isAround (fu := fu) (L := L) (by omega) hT aC hE aE hd h1e (show e ≤ c 0 1 by omega)
        have e2 := (aC.2 d hd).1
        unfold fX2_findDomains_h67
        rw [mloop_S]
        show wq (fX2_findDomains_i67 fu k r (fX2_findDomains_h67 fu k r u) (sI e) (sI d) (sI v) a L) _
        unfold fX2_findDomains_i67
        simp (disch := omega) only [ea, e2, mck_s, sI_nn, nn_s, sI_lt, sI_le, sI_eq, sI_ltl, sI_lel, sI_eql, sI_llt, sI_lle, sI_1, bI_0, bI_1, bI_n, mlet, mb3_s, mb2_s]
        rw [if_neg (by omega), if_neg (by omega)]
        cases hg : (decide (c 2 d = 0) && goodB (c 1) (c 2) (c 3) (c 4) (c 5) (c 0 1) d e) with
        | true =>
          rw [if_neg (by decide)]
          refine fin d hd (fun j v1 v2 v3 => ?_)
          have := hb' j v1 v2 v3
          rw [if_neg (by omega), hg, if_pos rfl] at this
          exact this
        | false =>
          rw [if_pos rfl]
          refine ih2 (c 1 d) (v + 1) u (by omega) (by omega) (by omega) (by omega) (fun j v1 v2 v3 => ?_)
          have := hb' j v1 v2 v3
          rw [if_neg (by omega), hg, if_neg (by decide)] at this
          exact this
    have e1 := (aE.2 e h1e (by omega)).1
    have e2 := aC.2 (c 4 e) j2
    have efi := c_firstInto (fu := fu) (L := L) (g := c 4 e) (by omega) hE hN aE j2
    unfold fX2_findDomains_i2 fX2_findDomains_b65
    simp (disch := omega) only [aE.1, e1, e2.1, e2.2.1, efi, mck_s, sI_nn, nn_s, sI_lt, sI_le, sI_eq, sI_ltl, sI_lel, sI_eql, sI_llt, sI_lle, sI_1, bI_0, bI_1, bI_n, mlet, mb3_s, mb2_s]
    rw [if_neg (by omega)]
    by_cases h5 : c 2 (c 4 e) = 5
    · rw [if_pos h5]
      have hF : ∃ s, s ≤ c 0 0 ∧ (if fstN (fun j => decide (c 5 j = c 4 e)) (c 0 1) 1 = 0 then c 4 e else c 4 (fstN (fun j => decide (c 5 j = c 4 e)) (c 0 1) 1)) = s ∧ ∀ j, 1 ≤ j → j ≤ c 0 1 → sS (c 2) (c 4) (c 5) e j = true → clB (c 1) (fun d => decide (c 2 d = 0) && goodB (c 1) (c 2) (c 3) (c 4) (c 5) (c 0 1) d e) (c 3 (c 1 s)) (c 1 s) = bst (c 1) (c 2) (c 3) (c 4) (c 5) (c 0 1) e (c 0 0) := by
        by_cases hz : fstN (fun j => decide (c 5 j = c 4 e)) (c 0 1) 1 = 0
        · refine ⟨c 4 e, j2, by rw [if_pos hz], fun j v1 v2 v3 => ?_⟩
          exfalso
          have := fst_n _ _ (by omega) hz j v1 (by omega)
          unfold sS at v3
          rw [if_pos h5] at v3
          rw [this] at v3
          cases v3
        · have hz2 := fst_p _ _ (by omega) hz
          refine ⟨_, ?_, by rw [if_neg hz], fun j v1 v2 v3 => ?_⟩
          · exact (hE.2 _ (by omega) (by omega)).2.1
          · refine cl_bst hT hE (by omega) (by omega) ?_
            unfold sS
            rw [if_pos h5]
            exact hz2.1
      obtain ⟨s, s1, s2, s3⟩ := hF
      rw [s2]
      have hps := Tr_pa hT s1
      have e3 := (aC.2 s s1).1
      simp (disch := omega) only [e3, mck_s, sI_nn, nn_s, sI_lt, sI_le, sI_eq, sI_ltl, sI_lel, sI_eql, sI_llt, sI_lle, sI_1, bI_0, bI_1, bI_n, mlet, mb3_s, mb2_s]
      refine climb _ (c 1 s) 0 fu rfl (by omega) ?_ ?_ s3
      · have := (Tr_pa hT hps.1).2.2.2.2; omega
      · have := (Tr_pa hT hps.1).2.2.2.2; omega
    · rw [if_neg h5]
      refine climb _ (c 1 (c 4 e)) 0 fu rfl (by omega) ?_ ?_ (fun j v1 v2 v3 => ?_)
      · have := (Tr_pa hT hp.1).2.2.2.2; omega
      · have := (Tr_pa hT hp.1).2.2.2.2; omega
      · have hj := v3
        unfold sS at hj
        rw [if_neg h5, decide_eq_true_eq] at hj
        subst hj
        exact cl_bst hT hE v1 v2 v3
  · intro a r ⟨_, p1, p2⟩
    show wq (fX2_findDomains_i2 fu k r (sI (c 0 1 + 1)) a L) _
    unfold fX2_findDomains_i2
    rw [p2 _ _ (by omega), hEC.1, if_pos (by rw [sI_lt (by omega) (by omega)]; omega)]
    exact wq_some ⟨rfl, fun e h1 h2 => p1 e h1 (by omega), p2⟩
