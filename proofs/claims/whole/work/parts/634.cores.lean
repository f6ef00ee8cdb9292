theorem m_nextPart {fu : Nat} {M : mwM} {L : mwL} {i T nx : Nat} (hf : 13 ≤ fu) (hT : T ≤ 12) (hi : i < T) (h7 : M 787 7 = sI T) (hp : ∀ k, k < T → M 793 k = sI (k + 1)) (hn : M 799 (i + 1) = sI nx) (hn2 : nx < 2) : DX15_nextPart fu (sI (i + 1)) M L = some ((if nx = 0 then sI i else -1), M, L) := by
  unfold DX15_nextPart
  have h := wq_for (body := fun r s => fX15_nextPart_i4 fu (sI (i + 1)) r s.1 s.2.1 s.2.2.1 s.2.2.2) (Q := fun q => q = ((if nx = 0 then sI i else -1), M, L)) (fun k (v : Nat) => (sI v, sI k, M, L)) (fun k v => (k ≤ i → v = 0) ∧ (i < k → v = 1 ∧ nx = 1)) T ?_ ?_ T 0 0 fu (by omega) (by omega) ⟨fun _ => rfl, fun h => by omega⟩
  · obtain ⟨q, e, rfl⟩ := h
    exact e
  · intro k v r hk ⟨p1, p2⟩ ih
    show wq (fX15_nextPart_i4 fu (sI (i + 1)) r (sI v) (sI k) M L) _
    unfold fX15_nextPart_i4 fX15_nextPart_b37
    rw [h7, if_neg (by rw [sI_le (by omega) (by omega)]; omega), mck_s (by omega) (by omega), sI_nn (by omega), hp k hk]
    simp only [mlet]
    rw [sI_1]
    by_cases hki : k = i
    · subst hki
      have hv := p1 (Nat.le_refl _)
      rw [if_pos rfl, mck_s (by omega) (by omega), sI_nn (by omega), hn, hv]
      by_cases h0 : nx = 0
      · rw [if_pos (by rw [h0])]
        exact wq_some (by rw [if_pos h0])
      · rw [if_neg (by rw [sI_eq (by omega) (by omega)]; omega), sI_1]
        exact ih 1 ⟨fun h => by omega, fun _ => ⟨rfl, by omega⟩⟩
    · rw [if_neg (by rw [sI_eq (by omega) (by omega)]; omega), sI_1]
      refine ih v ⟨fun h => p1 (by omega), fun h => ?_⟩
      by_cases hik : i < k
      · exact p2 hik
      · omega
  · intro v r ⟨p1, p2⟩
    show wq (fX15_nextPart_i4 fu (sI (i + 1)) r (sI v) (sI T) M L) _
    unfold fX15_nextPart_i4
    rw [h7, if_pos (by rw [sI_le (by omega) (by omega)]; omega)]
    have := (p2 hi).2
    exact wq_some (by rw [if_neg (by omega)])
theorem cmp_l0 {k : Nat} (h : k < 1000000) : (0 ≤ lg_cmp (sL k) 0) := by
  rw [lg_cmp_ge]
  show sL 0 ≤ sL k
  rw [sL_le (by omega) (by omega)]
  omega
theorem cmp_m1 : ¬ (0 ≤ lg_cmp (-1) 0) := by
  rw [lg_cmp_ge]
  decide
theorem m_pass {fu : Nat} {M : mwM} {L : mwL} {i T mi lf us : Nat} (hf : 13 ≤ fu) (hT : T ≤ 12) (hi : i < T) (hmi : 1 ≤ mi) (hmi2 : mi ≤ 1000) (h7 : M 787 7 = sI T) (hp : ∀ k, k < T → M 793 k = sI (k + 1)) (h795 : L 795 i = sL mi) (h810 : M 810 (i + 1) = 0) (hu : L 805 (i + 1) = sL us) (hlf : 0 < lf) (hl : lfR M L i mi lf) : wq (DX15_pass fu (sI (i + 1)) M L) (fun q => lfR q.1 q.2 i mi (lf - 1) ∧ q.2 805 (i + 1) = sL (us + 1) ∧ (∀ b j, ¬ (j = i + 1 ∧ (b = 799 ∨ b = 801)) → q.1 b j = M b j) ∧ ∀ b j, ¬ (j = i + 1 ∧ (b = 800 ∨ b = 805)) → q.2 b j = L b j) := by
  unfold DX15_pass
  simp (disch := omega) only [mlet, mck_s, sI_nn]
  rw [hu, sL_1, h810, if_pos (by decide)]
  -- the end of a part
  have fin : ∀ (k : Nat) (L1 : mwL), 0 < k → k ≤ 1000 → M 799 (i + 1) = 0 → M 801 (i + 1) = 0 → L1 800 (i + 1) = sL k → lf = k → k ≤ mi → L1 805 (i + 1) = sL (us + 1) → (∀ b j, ¬ (j = i + 1 ∧ (b = 800 ∨ b = 805)) → L1 b j = L b j) → wq (fX15_pass_b73 fu (sI (i + 1)) M L1) (fun q => lfR q.1 q.2 i mi (lf - 1) ∧ q.2 805 (i + 1) = sL (us + 1) ∧ (∀ b j, ¬ (j = i + 1 ∧ (b = 799 ∨ b = 801)) → q.1 b j = M b j) ∧ ∀ b j, ¬ (j = i + 1 ∧ (b = 800 ∨ b = 805)) → q.2 b j = L b j) := by
    intro k L1 hk0 hk1 h799 h801 h800 hlk hkm h805 hfr
    obtain ⟨k', rfl⟩ : ∃ k', k = k' + 1 := ⟨k - 1, by omega⟩
    unfold fX15_pass_b73
    simp (disch := omega) only [mlet, mck_s, sI_nn]
    rw [h800, sL_m1]
    rw [show mset L1 800 (i + 1) (sL k') 800 (i + 1) = sL k' from mset_s]
    by_cases hz : k' = 0
    · subst hz
      rw [if_pos (by decide)]
      refine wq_some ⟨?_, ?_, ?_, ?_⟩
      all_goals (try dsimp only)
      · right; right; right
        refine ⟨by rw [mset_k (by decide)]; exact h801, ?_, by omega⟩
        rw [mset_s, h799]; rfl
      · rw [mset_k (by decide), mset_k (by decide)]; exact h805
      · intro b j h
        rw [mset_n (by omega)]
      · intro b j h
        rw [mset_n (by omega), mset_n (by omega)]
        exact hfr b j h
    · rw [if_neg (by
        rw [lg_cmp_le]
        show ¬ sL k' ≤ sL 0
        rw [sL_le (by omega) (by omega)]
        omega)]
      refine wq_some ⟨?_, ?_, fun _ _ _ => rfl, ?_⟩
      all_goals (try dsimp only)
      · right; right; left
        refine ⟨h801, h799, ?_, by omega, by omega⟩
        rw [mset_s]
        congr 1
        omega
      · rw [mset_k (by decide)]; exact h805
      · intro b j h
        rw [mset_n (by omega)]
        exact hfr b j h
  rcases hl with ⟨q1, q2, q3⟩ | ⟨q1, q2, q3, q4⟩ | ⟨q1, q2, q3, q4, q5⟩ | ⟨q1, q2, q3⟩
  · rw [q1, if_neg (by decide)]
    refine wq_some ⟨?_, ?_, ?_, ?_⟩
    all_goals (try dsimp only)
    · right; left
      refine ⟨by rw [mset_s]; exact bo_0, by rw [mset_k (by decide)]; exact q2, mset_s, by omega⟩
    · rw [mset_k (by decide), mset_s]
    · intro b j h
      rw [mset_n (by omega)]
    · intro b j h
      rw [mset_n (by omega), mset_n (by omega)]
  · rw [q1, if_pos rfl]
    rw [show mset L 805 (i + 1) (sL (us + 1)) 800 (i + 1) = -1 from by rw [mset_k (by decide)]; exact q3]
    rw [if_neg cmp_m1, m_nextPart (nx := 0) hf hT hi h7 hp q2 (by decide), mb3_s]
    first | rw [if_pos rfl] | skip
    rw [mck_s (by omega) (by omega), sI_nn (by omega)]
    rw [show mset L 805 (i + 1) (sL (us + 1)) 795 i = sL mi from by rw [mset_k (by decide)]; exact h795]
    refine fin mi _ (by omega) hmi2 q2 q1 mset_s q4 (Nat.le_refl _) (by rw [mset_k (by decide), mset_s]) ?_
    intro b j h
    rw [mset_n (by omega), mset_n (by omega)]
  · rw [q1, if_pos rfl]
    rw [show mset L 805 (i + 1) (sL (us + 1)) 800 (i + 1) = sL lf from by rw [mset_k (by decide)]; exact q3]
    rw [if_pos (cmp_l0 (by omega))]
    refine fin lf _ q4 (by omega) q2 q1 (by rw [mset_k (by decide)]; exact q3) rfl (by omega) mset_s ?_
    intro b j h
    rw [mset_n (by omega)]
  · omega
theorem c_use {fu : Nat} {A : mwM} {L : mwL} {i us lf dn : Nat} (hi : i < 12) (hlf : lf < 2000) (h16 : A 16 i = sI us) (h13 : A 13 i = sI (lf + 1)) (h17 : A 17 i = sI dn) : DX4_use fu (sI i) A L = some ((if lf = 0 then mset (mset (mset (mset (mset A 16 i (sI (us + 1))) 13 i (sI lf)) 17 i (sI (dn + 1))) 5 5 (A 5 5 ||| (1 <<< (sI i &&& 31)))) 5 6 0 else mset (mset A 16 i (sI (us + 1))) 13 i (sI lf)), L) := by
  unfold DX4_use fX4_use_b68
  simp (disch := omega) only [mlet, mck_s, sI_nn]
  rw [h16, sI_1]
  rw [show mset A 16 i (sI (us + 1)) 13 i = sI (lf + 1) from by rw [mset_k (by decide)]; exact h13, sI_m1]
  rw [show mset (mset A 16 i (sI (us + 1))) 13 i (sI lf) 13 i = sI lf from mset_s]
  rw [show mset (mset A 16 i (sI (us + 1))) 13 i (sI lf) 17 i = sI dn from by rw [mset_k (by decide), mset_k (by decide)]; exact h17, sI_1]
  rw [show mset (mset (mset A 16 i (sI (us + 1))) 13 i (sI lf)) 17 i (sI (dn + 1)) 5 5 = A 5 5 from by rw [mset_k (by decide), mset_k (by decide), mset_k (by decide)]]
  by_cases hz : lf = 0
  · subst hz
    rw [if_pos rfl, if_pos (show sI 0 = 0 from rfl)]
  · rw [if_neg (by rw [sI_eql (by omega) (by decide)]; exact hz), if_neg hz]
