/-! a test that passed, on both sides -/
def nP (n : Nat) : Nat := sb (sb (sb n 0 0) 4 0) 6 0
theorem nP_c : ∀ n, n < 256 → sI n &&& (-82) = sI (nP n) := by decide +kernel
theorem nP_lt {n : Nat} (h : n < 256) : nP n < 256 := sb_lt _ (sb_lt _ (sb_lt _ h 0 (by omega) 0 (by omega)) 4 (by omega) 0 (by omega)) 6 (by omega) 0 (by omega)
theorem st_passed {fu : Nat} {A M : mwM} {L L2 : mwL} {N E i : Nat} {tm : Int32} (hf : 31 ≤ fu) (hE : E < 900000000) (hi : i < N) (h : RTr A M N E) : ∃ A' r M', DX10_notePassed fu (sI i) tm A L = some (A', L) ∧ DX18_event fu (sI (i + 1)) 0 M L2 = some (r, M', L2) ∧ RTr A' M' N (E + 1) ∧ A' 144 i = tm ∧ (∀ b j, ¬ (b = 139 ∧ j = 5) → ¬ (j = i ∧ 144 ≤ b ∧ b ≤ 147) → A' b j = A b j) ∧ (∀ b j, ¬ (902 ≤ b ∧ b ≤ 920) → M' b j = M b j) := by
  obtain ⟨hN, a1, a2, a3, a4, a5, a6, a7, a8, ⟨G, hG, a9⟩, a10, l, sd, ⟨b1, b2, b3, b4⟩, ⟨e1, e2, e3, t0, e4, e5, e6⟩, hF⟩ := h
  obtain ⟨n, p, t, a, g, k, hr, hc, hm⟩ := a10 i hi
  have hr' := hr
  obtain ⟨r1, r2, r3, r4, r5, r6, r7⟩ := hr'
  have hk1 := kP_lt r7
  have hn1 := nP_lt r1
  -- whatever the two sides have become: it fits
  have fit : ∀ (A' M' : mwM) (n' : Nat), n' < 256 → cc A' i n' p t a g (kP k) → cm M' i n' p t a g (kP k) → A' 139 5 = sI (E + 1) → M' 902 25 = sI (E + 1) → (∀ b j, ¬ (b = 139 ∧ j = 5) → ¬ (j = i ∧ 144 ≤ b ∧ b ≤ 147) → A' b j = A b j) → (∀ b j, ¬ (b = 902 ∧ (j = 0 ∨ j = 25)) → ¬ (b = 907 ∧ j = i + 1) → ¬ (b = 908 ∧ 8 * (i + 1) ≤ j ∧ j < 8 * (i + 1) + 8) → M' b j = M b j) → RTr A' M' N (E + 1) := by
    intro A' M' n' hn' h1 h2 h3 h4 h5 h6
    refine ⟨hN, ?_, ?_, ?_, ?_, ?_, h3, h4, ?_, ⟨G, hG, ?_⟩, ?_, l, sd, ⟨b1, b2, ?_, ?_⟩, ⟨?_, e2, e3, t0, by omega, ?_, e6⟩, ?_⟩
    all_goals (try dsimp only)
    · rw [h5 _ _ (by omega) (by omega)]; exact a1
    · rw [h6 _ _ (by omega) (by omega) (by omega)]; exact a2
    · rw [h6 _ _ (by omega) (by omega) (by omega)]; exact a3
    · rw [h6 _ _ (by omega) (by omega) (by omega)]; exact a4
    · rw [h5 _ _ (by omega) (by omega), h6 _ _ (by omega) (by omega) (by omega)]; exact a5
    · intro x hx
      rw [h6 _ _ (by omega) (by omega) (by omega)]; exact a8 x hx
    · rw [h6 _ _ (by omega) (by omega) (by omega)]; exact a9
    · intro x hx
      by_cases hxi : x = i
      · subst hxi
        exact ⟨_, _, _, _, _, _, ⟨hn', r2, r3, r4, r5, r6, hk1⟩, h1, h2⟩
      · obtain ⟨n', p', t', a', g', k', q1, q2, q3⟩ := a10 x hx
        exact ⟨n', p', t', a', g', k', q1, cc_f q2 (fun b h1 h2 => h5 b x (by omega) (by omega)), cm_f q3 (fun b hb => h6 _ _ (by omega) (by omega) (by omega)) (fun b hb => h6 _ _ (by omega) (by omega) (by omega))⟩
    · rw [h5 _ _ (by omega) (by omega)]; exact b3
    · intro e he
      rw [h5 _ _ (by omega) (by omega)]; exact b4 e he
    · intro x hx
      rw [h6 _ _ (by omega) (by omega) (by omega)]; exact e1 x hx
    · rw [h6 _ _ (by omega) (by omega) (by omega)]; exact e5
    · intro x hx
      rw [h5 _ _ (by omega) (by omega), h5 _ _ (by omega) (by omega), h6 _ _ (by omega) (by omega) (by omega), h6 _ _ (by omega) (by omega) (by omega)]
      exact hF x hx
  -- the class
  have hC : DX10_notePassed fu (sI i) tm A L = (if kP k = 0 then some (mset (mset (mset (mset A 144 i tm) 139 5 (sI (E + 1))) 147 i (sk (kP k))) 146 i (sI (nP n)), L) else some (mset (mset (mset A 144 i tm) 139 5 (sI (E + 1))) 147 i (sk (kP k)), L)) := by
    obtain ⟨c1, c2, c3, c4, c5, c6⟩ := hc
    unfold DX10_notePassed fX10_notePassed_b76
    simp (disch := omega) only [mlet, mck_s, sI_nn]
    rw [mset_k (a := 139) (by decide), a6, sI_1, mset_k (a := 147) (k := 139) (by decide), mset_k (a := 147) (k := 144) (by decide), c3, kP_c k r7]
    rw [show mset (mset (mset A 144 i tm) 139 5 (sI (E + 1))) 147 i (sk (kP k)) 147 i = sk (kP k) from mset_s]
    rw [mset_k (a := 146) (by decide), mset_k (a := 146) (by decide), mset_k (a := 146) (by decide), c2, nP_c n r1]
    by_cases hk : kP k = 0
    · rw [if_pos hk, if_pos ((sk_128 _ hk1).mpr hk)]
    · rw [if_neg hk, if_neg (fun h => hk ((sk_128 _ hk1).mp h))]
  -- the reference
  have hev : DX18_event fu (sI (i + 1)) 0 M L2 = (if kP k = 0 then some (sI (nP n), mset (mset (mset (mset (mset (mset M 902 0 0) 902 25 (sI (E + 1))) 907 (i + 1) (sk (kP k))) 908 (8 * (i + 1) + 0) (vp_nar .boolean 0)) 908 (8 * (i + 1) + 4) (vp_nar .boolean 0)) 908 (8 * (i + 1) + 6) (vp_nar .boolean 0), L2) else some (sI n, mset (mset (mset M 902 0 0) 902 25 (sI (E + 1))) 907 (i + 1) (sk (kP k)), L2)) := by
    obtain ⟨m1, m2, m3, m4, m5, m6, m7, m8, m9⟩ := hm
    have hkm := kP_m k r7
    unfold DX18_event fX18_event_b155 fX18_event_b190
    rw [m_none hN a2 hi, mb3_s, if_pos rfl, mset_j (a := 902) (b := 23) (by decide), a4, if_pos rfl]
    simp only [mlet]
    rw [off_32 _ (by omega), mck_s (by omega) (by omega), sI_nn (by omega), mset_k (a := 920) (by decide), mset_k (a := 920) (by decide), a8 _ (by omega), if_pos rfl, if_pos trivial]
    simp (disch := omega) only [mck_s]
    rw [mset_j (a := 902) (b := 25) (by decide), a7, sI_1, mset_k (a := 907) (by decide), mset_k (a := 907) (by decide), m3]
    simp only [mset_s]
    simp only [mset_k (show (905 : Nat) ≠ 902 by decide), m8]
    have hover : ∀ x y, mset (mset (mset (mset M 902 0 0) 902 25 (sI (E + 1))) 907 (i + 1) x) 907 (i + 1) y = mset (mset (mset M 902 0 0) 902 25 (sI (E + 1))) 907 (i + 1) y := by
      intro x y
      funext a b
      simp only [mset]
      split <;> rfl
    simp only [hover]
    have hd0 : dg (mset (mset (mset M 902 0 0) 902 25 (sI (E + 1))) 907 (i + 1) (sk (kP k))) (i + 1) n := dg_o (dg_o (dg_o m2 (by decide)) (by decide)) (by decide)
    have fin : ∀ x, x = sk (kP k) → (if x = (-128) then mb2 (DX18_set fu (sI (i + 1)) 0 0 (mset (mset (mset M 902 0 0) 902 25 (sI (E + 1))) 907 (i + 1) x) L2) (fun M23 L24 => mb2 (DX18_set fu (sI (i + 1)) 4 0 M23 L24) (fun M25 L26 => mb2 (DX18_set fu (sI (i + 1)) 6 0 M25 L26) (fun M27 L28 => fX18_event_b224 fu (sI (i + 1)) 0 M27 L28))) else fX18_event_b224 fu (sI (i + 1)) 0 (mset (mset (mset M 902 0 0) 902 25 (sI (E + 1))) 907 (i + 1) x) L2) = (if kP k = 0 then some (sI (nP n), mset (mset (mset (mset (mset (mset M 902 0 0) 902 25 (sI (E + 1))) 907 (i + 1) (sk (kP k))) 908 (8 * (i + 1) + 0) (vp_nar .boolean 0)) 908 (8 * (i + 1) + 4) (vp_nar .boolean 0)) 908 (8 * (i + 1) + 6) (vp_nar .boolean 0), L2) else some (sI n, mset (mset (mset M 902 0 0) 902 25 (sI (E + 1))) 907 (i + 1) (sk (kP k)), L2)) := by
      intro x hx
      subst hx
      by_cases hk : kP k = 0
      · rw [if_pos hk, if_pos ((sk_128 _ hk1).mpr hk), m_set (by omega) (by omega), mb2_s, m_set (by omega) (by omega), mb2_s, m_set (by omega) (by omega), mb2_s]
        have d0 := dg_set (b := 0) (v := 0) hd0 r1 (by omega) (by omega) bo_0
        have s0 := sb_lt n r1 0 (by omega) 0 (by omega)
        have d4 := dg_set (b := 4) (v := 0) d0 s0 (by omega) (by omega) bo_0
        have s4 := sb_lt _ s0 4 (by omega) 0 (by omega)
        have d6 := dg_set (b := 6) (v := 0) d4 s4 (by omega) (by omega) bo_0
        unfold fX18_event_b224
        rw [m_statusOf d6 hn1 (by omega) (by omega), mb3_s]
        rfl
      · rw [if_neg hk, if_neg (fun h => hk ((sk_128 _ hk1).mp h))]
        unfold fX18_event_b224
        rw [m_statusOf hd0 r1 (by omega) (by omega), mb3_s]
    by_cases h0 : sk k ≤ 0
    · simp only [if_pos h0] at hkm ⊢
      by_cases h1 : (-128) ≤ sk k - 127
      · rw [if_pos h1] at hkm ⊢
        exact fin _ hkm
      · rw [if_neg h1] at hkm ⊢
        exact fin _ hkm
    · simp only [if_neg h0] at hkm ⊢
      by_cases h1 : (-128) ≤ (0 : Int32) - 127
      · rw [if_pos h1] at hkm ⊢
        exact fin _ hkm
      · exact absurd (by decide) h1
  have h147 : ∀ x y, mset (mset (mset A 144 i tm) 139 5 x) 147 i y 144 i = tm := fun x y => by rw [mset_k (by decide), mset_k (by decide), mset_s]
  by_cases hk : kP k = 0
  · rw [if_pos hk] at hC hev
    refine ⟨_, _, _, hC, hev, fit _ _ (nP n) hn1 ?_ ?_ ?_ ?_ ?_ ?_, ?_, ?_, ?_⟩
    all_goals (try dsimp only)
    · obtain ⟨c1, c2, c3, c4, c5, c6⟩ := hc
      refine ⟨?_, ?_, ?_, ?_, ?_, ?_⟩ <;> simp [mset, *]
    · obtain ⟨m1, m2, m3, m4, m5, m6, m7, m8, m9⟩ := hm
      have hd0 : dg (mset (mset (mset M 902 0 0) 902 25 (sI (E + 1))) 907 (i + 1) (sk (kP k))) (i + 1) n := dg_o (dg_o (dg_o m2 (by decide)) (by decide)) (by decide)
      have d0 := dg_set (b := 0) (v := 0) hd0 r1 (by omega) (by omega) bo_0
      have s0 := sb_lt n r1 0 (by omega) 0 (by omega)
      have d4 := dg_set (b := 4) (v := 0) d0 s0 (by omega) (by omega) bo_0
      have s4 := sb_lt _ s0 4 (by omega) 0 (by omega)
      have d6 := dg_set (b := 6) (v := 0) d4 s4 (by omega) (by omega) bo_0
      refine ⟨?_, d6, ?_, ?_, ?_, ?_, ?_, ?_, ?_⟩ <;> simp [mset, *]
    · simp [mset]
    · simp [mset]
    · intro b j h1 h2
      rw [mset_n (by omega), mset_n (by omega), mset_n (by omega), mset_n (by omega)]
    · intro b j h1 h2 h3
      rw [mset_n (by omega), mset_n (by omega), mset_n (by omega), mset_n (by omega), mset_n (by omega), mset_n (by omega)]
    · rw [mset_k (by decide)]; exact h147 _ _
    · intro b j h1 h2
      rw [mset_n (by omega), mset_n (by omega), mset_n (by omega), mset_n (by omega)]
    · intro b j h1
      rw [mset_n (by omega), mset_n (by omega), mset_n (by omega), mset_n (by omega), mset_n (by omega), mset_n (by omega)]
  · rw [if_neg hk] at hC hev
    refine ⟨_, _, _, hC, hev, fit _ _ n r1 ?_ ?_ ?_ ?_ ?_ ?_, h147 _ _, ?_, ?_⟩
    all_goals (try dsimp only)
    · obtain ⟨c1, c2, c3, c4, c5, c6⟩ := hc
      refine ⟨?_, ?_, ?_, ?_, ?_, ?_⟩ <;> simp [mset, *]
    · obtain ⟨m1, m2, m3, m4, m5, m6, m7, m8, m9⟩ := hm
      have hd0 : dg (mset (mset (mset M 902 0 0) 902 25 (sI (E + 1))) 907 (i + 1) (sk (kP k))) (i + 1) n := dg_o (dg_o (dg_o m2 (by decide)) (by decide)) (by decide)
      refine ⟨?_, hd0, ?_, ?_, ?_, ?_, ?_, ?_, ?_⟩ <;> simp [mset, *]
    · simp [mset]
    · simp [mset]
    · intro b j h1 h2
      rw [mset_n (by omega), mset_n (by omega), mset_n (by omega)]
    · intro b j h1 h2 h3
      rw [mset_n (by omega), mset_n (by omega), mset_n (by omega)]
    · intro b j h1 h2
      rw [mset_n (by omega), mset_n (by omega), mset_n (by omega)]
    · intro b j h1
      rw [mset_n (by omega), mset_n (by omega), mset_n (by omega)]
