/-- the reference: a failed test; the class has done its part -/
theorem m_fails {fu : Nat} {A M : mwM} {L : mwL} {N i n p t a g k t0 G : Nat} {l : List Nat} {sd : Nat → Nat} (hf : 31 ≤ fu) (hN : N ≤ 30) (hi : i < N) (hr : rg n p t a g k) (hm : cm M i n p t a g k) (hc : cc A i (fN n (tN n t) p) p (tN n t) 0 0 k) (hk : ∀ x, x < N → x ≠ i → okc A M x) (h8 : l.length ≤ 8) (ht : t0 < 1000000000) (hl : ∀ x ∈ l, x < N) (hs : l.Pairwise (fun x y => sd x < sd y)) (hC : M 902 2 = sI N) (hR : M 902 1 = 8) (hT : M 902 19 = sI t0) (hT2 : ∀ x, x < N → sd x ≤ t0) (hG : M 902 20 = sI G) (hG2 : G ≤ 500) (hS : ∀ i, i < N → M 916 (i + 1) = sI (sd i)) (hS0 : ∀ i, i < N → (0 < sd i ↔ i ∈ l)) : wq (DX18_fails fu (sI (i + 1)) M L) (fun q => q.2 = L ∧ cm q.1 i (fN n (tN n t) p) p (tN n t) 0 0 k ∧ (n % 2 = 0 → stP A N i p t0 l sd M q.1) ∧ (n % 2 ≠ 0 → (∀ j, q.1 916 j = M 916 j) ∧ (∀ j, q.1 918 j = M 918 j) ∧ q.1 902 19 = M 902 19 ∧ q.1 902 20 = M 902 20) ∧ ∀ b j, ¬ (b = 908 ∧ 8 * (i + 1) ≤ j ∧ j < 8 * (i + 1) + 8) → ¬ (j = i + 1 ∧ (b = 909 ∨ b = 910 ∨ b = 911)) → b ≠ 916 → b ≠ 917 → b ≠ 918 → b ≠ 919 → ¬ (b = 902 ∧ (j = 19 ∨ j = 20)) → q.1 b j = M b j) := by
  obtain ⟨r1, r2, r3, r4, r5, r6, r7⟩ := hr
  obtain ⟨c1, c2, c3, c4, c5, c6⟩ := hc
  obtain ⟨m1, m2, m3, m4, m5, m6, m7, m8, m9⟩ := hm
  have ht2 := tN_lt (n := n) r4
  have kk : ∀ m b v, m < 256 → b < 8 → v < 2 → sb m b v < 256 := fun m b v hm hb hv => sb_lt m hm b hb v hv
  have n1 : sb n 4 0 < 256 := kk _ 4 0 r1 (by omega) (by omega)
  have n2 : sb (sb n 4 0) 6 0 < 256 := kk _ 6 0 n1 (by omega) (by omega)
  have n3 : sb (sb (sb n 4 0) 6 0) 3 1 < 256 := kk _ 3 1 n2 (by omega) (by omega)
  have n4 : sb (sb (sb (sb n 4 0) 6 0) 3 1) 7 1 < 256 := kk _ 7 1 n3 (by omega) (by omega)
  have hi1 : i + 1 ≤ 200 := by omega
  have b0 : ∀ m, m < 256 → m / 2^0 % 2 = m % 2 := fun m _ => by simp
  -- the end, from the four bits that always are set
  have fin : ∀ (M1 : mwM) (m : Nat), m < 256 → m % 2 = n % 2 → sb (sb (sb (sb m 1 1) 2 1) 5 1) 0 1 = fN n (tN n t) p → dg M1 (i + 1) m → M1 909 (i + 1) = sI (tN n t) → (∀ b j, ¬ (b = 908 ∧ 8 * (i + 1) ≤ j ∧ j < 8 * (i + 1) + 8) → ¬ (j = i + 1 ∧ b = 909) → M1 b j = M b j) → wq (fX18_fails_b82 fu (sI (i + 1)) M1 L) (fun q => q.2 = L ∧ cm q.1 i (fN n (tN n t) p) p (tN n t) 0 0 k ∧ (n % 2 = 0 → stP A N i p t0 l sd M q.1) ∧ (n % 2 ≠ 0 → (∀ j, q.1 916 j = M 916 j) ∧ (∀ j, q.1 918 j = M 918 j) ∧ q.1 902 19 = M 902 19 ∧ q.1 902 20 = M 902 20) ∧ ∀ b j, ¬ (b = 908 ∧ 8 * (i + 1) ≤ j ∧ j < 8 * (i + 1) + 8) → ¬ (j = i + 1 ∧ (b = 909 ∨ b = 910 ∨ b = 911)) → b ≠ 916 → b ≠ 917 → b ≠ 918 → b ≠ 919 → ¬ (b = 902 ∧ (j = 19 ∨ j = 20)) → q.1 b j = M b j) := by
    intro M1 m hm hmn hfn hd h909 hfr
    have s1 : sb m 1 1 < 256 := kk _ 1 1 hm (by omega) (by omega)
    have s2 : sb (sb m 1 1) 2 1 < 256 := kk _ 2 1 s1 (by omega) (by omega)
    have s3 : sb (sb (sb m 1 1) 2 1) 5 1 < 256 := kk _ 5 1 s2 (by omega) (by omega)
    unfold fX18_fails_b82 fX18_fails_b148
    rw [m_set hi1 (by omega), mb2_s, m_set hi1 (by omega), mb2_s, m_set hi1 (by omega), mb2_s]
    simp (disch := omega) only [mlet, mck_s, sI_nn]
    have d1 := dg_set (b := 1) (v := 1) hd hm (by omega) (by omega) bo_1
    have d2' := dg_set (b := 2) (v := 1) d1 s1 (by omega) (by omega) bo_1
    have d3 := dg_set (b := 5) (v := 1) d2' s2 (by omega) (by omega) bo_1
    have d4 := dg_o (a := 911) (j := i + 1) (x := 0) (dg_o (a := 910) (j := i + 1) (x := 0) d3 (by decide)) (by decide)
    rw [m_is d4 hi1 (by omega), mb3_s, m_set hi1 (by omega), mb2_s]
    have d5 := dg_set (b := 0) (v := 1) d4 s3 (by omega) (by omega) bo_1
    rw [hfn] at d5
    have e0 : sb (sb (sb m 1 1) 2 1) 5 1 / 2^0 % 2 = n % 2 := by
      rw [sb_dig _ s2 5 (by omega) 1 (by omega) 0 (by omega), if_neg (by decide), sb_dig _ s1 2 (by omega) 1 (by omega) 0 (by omega), if_neg (by decide), sb_dig _ hm 1 (by omega) 1 (by omega) 0 (by omega), if_neg (by decide), b0 m hm, hmn]
    rw [e0]
    revert d5
    generalize hM2 : mset (mset (mset (mset (mset (mset M1 908 (8 * (i + 1) + 1) (vp_nar FieldType.boolean 1)) 908 (8 * (i + 1) + 2) (vp_nar FieldType.boolean 1)) 908 (8 * (i + 1) + 5) (vp_nar FieldType.boolean 1)) 910 (i + 1) 0) 911 (i + 1) 0) 908 (8 * (i + 1) + 0) (vp_nar FieldType.boolean 1) = M2
    intro d5
    have f0 : ∀ b j, ¬ (b = 908 ∧ 8 * (i + 1) ≤ j ∧ j < 8 * (i + 1) + 8) → ¬ (j = i + 1 ∧ (b = 909 ∨ b = 910 ∨ b = 911)) → M2 b j = M b j := by
      intro b j h1 h2
      rw [← hM2, mset_n (by omega), mset_n (by omega), mset_n (by omega), mset_n (by omega), mset_n (by omega), mset_n (by omega), hfr b j h1 (by omega)]
    have cm2 : cm M2 i (fN n (tN n t) p) p (tN n t) 0 0 k := by
      refine ⟨?_, d5, ?_, ?_, ?_, ?_, ?_, ?_, ?_⟩
      all_goals (try dsimp only)
      · rw [f0 _ _ (by omega) (by omega)]; exact m1
      · rw [f0 _ _ (by omega) (by omega)]; exact m3
      · rw [← hM2, mset_k (by decide), mset_k (by decide), mset_k (by decide), mset_k (by decide), mset_k (by decide), mset_k (by decide), h909]
      · rw [← hM2, mset_k (by decide), mset_k (by decide), mset_s]; rfl
      · rw [← hM2, mset_k (by decide), mset_s]; rfl
      · rw [f0 _ _ (by omega) (by omega)]; exact m7
      · rw [f0 _ _ (by omega) (by omega)]; exact m8
      · rw [f0 _ _ (by omega) (by omega)]; exact m9
    by_cases hn0 : n % 2 = 0
    · rw [if_pos (by rw [hn0]; rfl)]
      have hhid : DX18_hidden fu (sI (i + 1)) M2 L = some (0, M2, L) := by
        obtain ⟨f, rfl⟩ : ∃ f, fu = f + 1 := ⟨fu - 1, by omega⟩
        unfold DX18_hidden
        simp (disch := omega) only [mlet, mck_s, sI_nn]
        rw [cm2.2.2.2.2.2.2.2.2]
        unfold fX18_hidden_h7
        rw [mloop_S]
        show fX18_hidden_i7 (f + 1) (sI (i + 1)) _ 0 M2 L = _
        unfold fX18_hidden_i7
        rw [if_pos (by decide)]
      have hp2 : pr A i = p := by
        unfold pr
        rw [c1, nn_s (by omega)]
      have hk2 : okp A M2 N := by
        intro x hx
        by_cases hxi : x = i
        · subst hxi
          exact ⟨p, fN n (tN n t) p, r2, r3, fN_lt r1, c1, c2, cm2.1, d5⟩
        · obtain ⟨n', p', t', a', g', k', q1, q2, q3⟩ := hk x hx hxi
          refine ⟨p', n', q1.2.1, q1.2.2.1, q1.1, q2.1, q2.2.1, by rw [f0 _ _ (by omega) (by omega)]; exact q3.1, dg_f q3.2.1 (fun b hb => f0 _ _ (by omega) (by omega))⟩
      rw [hhid, mb3_s, if_pos rfl]
      refine wq_b2 (m_store (t := t0) (G := G) hf hN hi hp2 h8 ht hl hs hk2 (by rw [f0 _ _ (by omega) (by omega)]; exact hC) (by rw [f0 _ _ (by omega) (by omega)]; exact hR) (by rw [f0 _ _ (by omega) (by omega)]; exact hT) hT2 (by rw [f0 _ _ (by omega) (by omega)]; exact hG) hG2 (fun x hx => by rw [f0 _ _ (by omega) (by omega)]; exact hS x hx) hS0) ?_
      rintro M3 L3 ⟨rfl, ⟨l', sd', t', G', g1, g2, g3, g4, g5, g6, g7, g8, g9, g10, g11⟩, g12⟩
      dsimp only at g3 g5 g7 g10 g11 g12
      refine wq_some ⟨rfl, ?_, fun _ => ⟨l', sd', t', G', g1, g2, g3, g4, g5, g6, g7, g8, g9, ?_, ?_⟩, fun h => absurd hn0 h, ?_⟩
      all_goals (try dsimp only)
      · obtain ⟨d1, d2, d3, d4, d5, d6, d7, d8, d9⟩ := cm2
        refine ⟨?_, dg_f d2 (fun b hb => g12 _ _ (by omega) (by omega) (by decide) (by decide) (by omega)), ?_, ?_, ?_, ?_, ?_, ?_, ?_⟩
        all_goals (try dsimp only)
        · (try dsimp only); rw [g12 _ _ (by omega) (by omega) (by decide) (by decide) (by omega), d1]
        · (try dsimp only); rw [g12 _ _ (by omega) (by omega) (by decide) (by decide) (by omega), d3]
        · (try dsimp only); rw [g12 _ _ (by omega) (by omega) (by decide) (by decide) (by omega), d4]
        · (try dsimp only); rw [g12 _ _ (by omega) (by omega) (by decide) (by decide) (by omega), d5]
        · (try dsimp only); rw [g12 _ _ (by omega) (by omega) (by decide) (by decide) (by omega), d6]
        · (try dsimp only); rw [g12 _ _ (by omega) (by omega) (by decide) (by decide) (by omega), d7]
        · (try dsimp only); rw [g12 _ _ (by omega) (by omega) (by decide) (by decide) (by omega), d8]
        · (try dsimp only); rw [g12 _ _ (by omega) (by omega) (by decide) (by decide) (by omega), d9]
      · intro h
        obtain ⟨e1, e2, e3⟩ := g10 h
        exact ⟨e1.trans (f0 _ _ (by omega) (by omega)), fun h => (e2 h).trans (f0 _ _ (by omega) (by omega)), fun h => (e3 h).trans (f0 _ _ (by omega) (by omega))⟩
      · intro j hj
        rw [g11 j hj, f0 _ _ (by omega) (by omega)]
      · intro b j h1 h2 h3 h4 h5 h6 h7
        try dsimp only
        rw [g12 b j h3 h4 h5 h6 h7, f0 b j h1 h2]
    · rw [if_neg (by rw [sI_eql (by omega) (by omega)]; exact hn0)]
      refine wq_some ⟨rfl, cm2, fun h => absurd h hn0, fun _ => ⟨fun j => f0 _ _ (by omega) (by omega), fun j => f0 _ _ (by omega) (by omega), f0 _ _ (by omega) (by omega), f0 _ _ (by omega) (by omega)⟩, ?_⟩
      all_goals (try dsimp only)
      intro b j h1 h2 _ _ _ _ _
      exact f0 b j h1 h2
  -- bits 3 and 7
  have mid : ∀ (M1 : mwM), dg M1 (i + 1) (sb (sb n 4 0) 6 0) → M1 909 (i + 1) = sI (tN n t) → (∀ b j, ¬ (b = 908 ∧ 8 * (i + 1) ≤ j ∧ j < 8 * (i + 1) + 8) → ¬ (j = i + 1 ∧ b = 909) → M1 b j = M b j) → wq (fX18_fails_b46 fu (sI (i + 1)) M1 L) (fun q => q.2 = L ∧ cm q.1 i (fN n (tN n t) p) p (tN n t) 0 0 k ∧ (n % 2 = 0 → stP A N i p t0 l sd M q.1) ∧ (n % 2 ≠ 0 → (∀ j, q.1 916 j = M 916 j) ∧ (∀ j, q.1 918 j = M 918 j) ∧ q.1 902 19 = M 902 19 ∧ q.1 902 20 = M 902 20) ∧ ∀ b j, ¬ (b = 908 ∧ 8 * (i + 1) ≤ j ∧ j < 8 * (i + 1) + 8) → ¬ (j = i + 1 ∧ (b = 909 ∨ b = 910 ∨ b = 911)) → b ≠ 916 → b ≠ 917 → b ≠ 918 → b ≠ 919 → ¬ (b = 902 ∧ (j = 19 ∨ j = 20)) → q.1 b j = M b j) := by
    intro M1 hd h909 hfr
    have z2 : sb (sb n 4 0) 6 0 % 2 = n % 2 := by
      have := sb_dig _ n1 6 (by omega) 0 (by omega) 0 (by omega)
      rw [if_neg (by decide), sb_dig _ r1 4 (by omega) 0 (by omega) 0 (by omega), if_neg (by decide)] at this
      simpa using this
    have z3 : sb (sb (sb n 4 0) 6 0) 3 1 % 2 = n % 2 := by
      have := sb_dig _ n2 3 (by omega) 1 (by omega) 0 (by omega)
      rw [if_neg (by decide)] at this
      rw [← z2]
      simpa using this
    have z4 : sb (sb (sb (sb n 4 0) 6 0) 3 1) 7 1 % 2 = n % 2 := by
      have := sb_dig _ n3 7 (by omega) 1 (by omega) 0 (by omega)
      rw [if_neg (by decide)] at this
      rw [← z3]
      simpa using this
    unfold fX18_fails_b46
    rw [mck_s (by omega) (by omega), sI_nn (by omega), h909]
    by_cases hlt : tN n t < 2
    · rw [if_pos (by rw [sI_lel (by omega) (by omega)]; omega)]
      exact fin M1 _ n2 z2 (by unfold fN; rw [if_pos hlt]) hd h909 hfr
    · rw [if_neg (by rw [sI_lel (by omega) (by omega)]; omega), m_set hi1 (by omega), mb2_s, mck_s (by omega) (by omega), mset_k (a := 903) (by decide), hfr 903 _ (by omega) (by omega), m1]
      have d3 := dg_set (b := 3) (v := 1) hd n2 (by omega) (by omega) bo_1
      have fr3 : ∀ b j, ¬ (b = 908 ∧ 8 * (i + 1) ≤ j ∧ j < 8 * (i + 1) + 8) → ¬ (j = i + 1 ∧ b = 909) → mset M1 908 (8 * (i + 1) + 3) (vp_nar FieldType.boolean 1) b j = M b j := by
        intro b j h1 h2
        rw [mset_n (by omega)]
        exact hfr b j h1 h2
      by_cases hp : 64 < p
      · rw [if_pos (by rw [sI_lle (by omega) (by omega)]; omega)]
        exact fin _ _ n3 z3 (by unfold fN; rw [if_neg hlt, if_pos hp]) d3 (by rw [mset_k (by decide)]; exact h909) fr3
      · rw [if_neg (by rw [sI_lle (by omega) (by omega)]; omega), m_set hi1 (by omega), mb2_s]
        refine fin _ _ n4 z4 (by unfold fN; rw [if_neg hlt, if_neg hp]) (dg_set (b := 7) (v := 1) d3 n3 (by omega) (by omega) bo_1) (by rw [mset_k (by decide), mset_k (by decide)]; exact h909) ?_
        intro b j h1 h2
        rw [mset_n (by omega)]
        exact fr3 b j h1 h2
  unfold DX18_fails
  rw [m_set hi1 (by omega), mb2_s, m_set hi1 (by omega), mb2_s]
  have d4 := dg_set (b := 4) (v := 0) m2 r1 (by omega) (by omega) bo_0
  have d6 := dg_set (b := 6) (v := 0) d4 n1 (by omega) (by omega) bo_0
  have fr6 : ∀ b j, ¬ (b = 908 ∧ 8 * (i + 1) ≤ j ∧ j < 8 * (i + 1) + 8) → mset (mset M 908 (8 * (i + 1) + 4) (vp_nar FieldType.boolean 0)) 908 (8 * (i + 1) + 6) (vp_nar FieldType.boolean 0) b j = M b j := by
    intro b j h1
    rw [mset_n (by omega), mset_n (by omega)]
  rw [m_is d6 hi1 (by omega), mb3_s]
  have e1 : sb (sb n 4 0) 6 0 / 2^1 % 2 = n / 2 % 2 := by
    rw [sb_dig _ n1 6 (by omega) 0 (by omega) 1 (by omega), if_neg (by decide), sb_dig _ r1 4 (by omega) 0 (by omega) 1 (by omega), if_neg (by decide)]
  rw [e1]
  by_cases h2 : n / 2 % 2 = 0
  · rw [if_pos (by rw [h2]; rfl), mck_s (by omega) (by omega), sI_nn (by omega), fr6 909 _ (by omega), m4]
    by_cases h255 : 255 ≤ t
    · rw [if_pos (by rw [sI_lle (by omega) (by omega)]; exact h255)]
      refine mid _ d6 ?_ (fun b j h1 _ => fr6 b j h1)
      rw [fr6 909 _ (by omega), m4]
      unfold tN
      rw [if_pos h2, if_neg (by omega)]
    · rw [if_neg (by rw [sI_lle (by omega) (by omega)]; exact h255)]
      simp (disch := omega) only [mlet, mck_s, sI_nn]
      refine mid _ (dg_o d6 (by decide)) ?_ ?_
      · rw [mset_s, sI_1]
        unfold tN
        rw [if_pos h2, if_pos (by omega)]
      · intro b j h1 h3
        rw [mset_n (by omega)]
        exact fr6 b j h1
  · rw [if_neg (by rw [sI_eql (by omega) (by omega)]; exact h2)]
    refine mid _ d6 ?_ (fun b j h1 _ => fr6 b j h1)
    rw [fr6 909 _ (by omega), m4]
    unfold tN
    rw [if_neg h2]
