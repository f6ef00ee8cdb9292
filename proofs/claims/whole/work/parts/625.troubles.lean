theorem dg_uni {M : mwM} {c n n' : Nat} (h : dg M c n) (h' : dg M c n') (hn : n < 256) (hn' : n' < 256) (hc : c ≤ 200) : n = n' := by
  have e1 := m_statusOf (fu := 9) (L := fun _ _ => 0) h hn hc (by omega)
  have e2 := m_statusOf (fu := 9) (L := fun _ _ => 0) h' hn' hc (by omega)
  rw [e1] at e2
  have e3 : sI n = sI n' := congrArg (fun z => z.1) (Option.some.inj e2)
  exact (sI_eq (by omega) (by omega)).mp e3
theorem sk_inj {k k' : Nat} (hk : k < 256) (hk' : k' < 256) (h : sk k = sk k') : k = k' := by
  have h2 : sI k = sI k' := by
    have := congrArg (fun z => z + 128) h
    simpa [sk] using this
  exact (sI_eq (by omega) (by omega)).mp h2
theorem cm_uni {M : mwM} {x n p t a g k n' p' t' a' g' k' : Nat} (hx : x < 30) (hr : rg n p t a g k) (hr' : rg n' p' t' a' g' k') (h : cm M x n p t a g k) (h' : cm M x n' p' t' a' g' k') : n = n' ∧ p = p' ∧ t = t' ∧ a = a' ∧ g = g' ∧ k = k' := by
  obtain ⟨q1, q2, q3, q4, q5, q6, q7⟩ := hr'
  obtain ⟨w1, w2, w3, w4, w5, w6, w7⟩ := hr
  obtain ⟨d1, d2, d3, d4, d5, d6, _⟩ := h
  obtain ⟨e1, e2, e3, e4, e5, e6, _⟩ := h'
  rw [d1] at e1
  rw [d3] at e3
  rw [d4] at e4
  rw [d5] at e5
  rw [d6] at e6
  exact ⟨dg_uni d2 e2 w1 q1 (by omega), (sI_eq (by omega) (by omega)).mp e1, (sI_eq (by omega) (by omega)).mp e4, (sI_eq (by omega) (by omega)).mp e5, (sI_eq (by omega) (by omega)).mp e6, sk_inj w7 q7 e3⟩
theorem st_cycle {fu : Nat} {A M : mwM} {L L2 : mwL} {N E ts : Nat} (hf : 31 ≤ fu) (hts : ts < 2) (h : RTr A M N E) : ∃ x A' M', DX10_endCycle fu (sI ts) A L = some (x, A', L) ∧ DX18_cycle fu (sI ts) M L2 = some (x, M', L2) ∧ RTr A' M' N E ∧ (∀ b j, ¬ (b = 139 ∧ (j = 3 ∨ j = 4)) → ¬ (b = 146 ∨ b = 148 ∨ b = 149 ∨ b = 150 ∨ b = 153) → A' b j = A b j) ∧ (∀ b j, ¬ (902 ≤ b ∧ b ≤ 920) → M' b j = M b j) := by
  obtain ⟨hN, a1, a2, a3, a4, a5, a6, a7, a8, ⟨G, hG, a9⟩, a10, l, sd, ho, ⟨e1, e2, e3, t0, e4, e5, e6⟩, hF⟩ := h
  have hnd := oke_nodup e3
  obtain ⟨⟨x, A', L'⟩, hA, c0, c1, c2, c3, c4, c5⟩ := c_cycle (fu := fu) (L := L) (ts := ts) hf hN hts a1 (fun x hx => by obtain ⟨n, p, t, a, g, k, hr, hc, _⟩ := a10 x hx; exact ⟨n, p, t, a, g, k, hr, hc⟩) hnd ho
  obtain ⟨⟨y, M', L''⟩, hM, d0, d1, d2, d3, d4⟩ := m_cycle (fu := fu) (L := L2) (ts := ts) hf hN hts a2 a4 (fun x hx => by obtain ⟨n, p, t, a, g, k, hr, _, hm⟩ := a10 x hx; exact ⟨n, p, t, a, g, k, hr, hm⟩)
  dsimp only at c0 c1 c2 c3 c4 c5 d0 d1 d2 d3 d4
  subst c0 c1 d0 d1
  -- each code
  have each : ∀ x, x < N → okc A' M' x ∧ M' 916 (x + 1) = (if rmA A ts x = true then 0 else M 916 (x + 1)) := by
    intro x hx
    obtain ⟨n, p, t, a, g, k, hr, hc, hm⟩ := a10 x hx
    obtain ⟨n', p', t', a', g', k', hr', hm', u1, u2⟩ := d3 x hx
    obtain ⟨s1, s2, s3, s4, s5, s6⟩ := cm_uni (by omega) hr hr' hm hm'
    subst s1 s2 s3 s4 s5 s6
    obtain ⟨v1, v2, v3, v4⟩ := cyF_rg (ts := ts) hr
    refine ⟨⟨_, _, _, _, _, _, ⟨sb_l (sb_l v1 (by omega) (by omega)) (by omega) (by omega), hr.2.1, hr.2.2.1, v2, v3, v4, hr.2.2.2.2.2.2⟩, c4 x hx n p t a g k hr hc, u1⟩, ?_⟩
    rw [u2, rmA_v hr hc]
  have hmem : ∀ x, x ∈ lcy A ts N l ↔ (x ∈ l ∧ ¬ rmA A ts x = true) := by
    intro x
    unfold lcy
    rw [List.mem_filter]
    constructor
    · rintro ⟨h1, h2⟩
      have := ho.2.1 x h1
      refine ⟨h1, ?_⟩
      simpa [this] using h2
    · rintro ⟨h1, h2⟩
      have := ho.2.1 x h1
      refine ⟨h1, ?_⟩
      simpa [this] using h2
  refine ⟨_, A', M', hA, by rw [a5]; exact hM, ?_, c5, fun b j hb => d4 b j (by omega) (by omega)⟩
  refine ⟨hN, ?_, ?_, ?_, ?_, ?_, ?_, ?_, ?_, ⟨G, hG, ?_⟩, fun x hx => (each x hx).1, lcy A ts N l, (fun x => if rmA A ts x = true then 0 else sd x), c3, ⟨?_, ?_, ?_, t0, e4, ?_, ?_⟩, ?_⟩
  all_goals (try dsimp only)
  · rw [c5 _ _ (by omega) (by omega)]; exact a1
  · rw [d4 _ _ (by omega) (by omega)]; exact a2
  · rw [d4 _ _ (by omega) (by omega)]; exact a3
  · rw [d4 _ _ (by omega) (by omega)]; exact a4
  · rw [c2, d2, a5]
  · rw [c5 _ _ (by omega) (by omega)]; exact a6
  · rw [d4 _ _ (by omega) (by omega)]; exact a7
  · intro k hk
    rw [d4 _ _ (by omega) (by omega)]; exact a8 k hk
  · rw [d4 _ _ (by omega) (by omega)]; exact a9
  · intro x hx
    rw [(each x hx).2]
    by_cases hrm : rmA A ts x = true
    · rw [if_pos hrm, if_pos hrm]; rfl
    · rw [if_neg hrm, if_neg hrm]; exact e1 x hx
  · intro x hx
    rw [hmem]
    by_cases hrm : rmA A ts x = true
    · rw [if_pos hrm]
      exact ⟨fun h => absurd h (Nat.lt_irrefl 0), fun h => absurd hrm h.2⟩
    · rw [if_neg hrm, e2 x hx]
      exact ⟨fun h => ⟨h, hrm⟩, fun h => h.1⟩
  · refine List.Pairwise.imp_of_mem ?_ (List.Pairwise.sublist (List.filter_sublist) e3)
    intro x y hx hy hxy
    rw [if_neg ((hmem x).mp hx).2, if_neg ((hmem y).mp hy).2]
    exact hxy
  · rw [d4 _ _ (by omega) (by omega)]; exact e5
  · intro x hx
    by_cases hrm : rmA A ts x = true
    · rw [if_pos hrm]; exact Nat.zero_le _
    · rw [if_neg hrm]; exact e6 x hx
  · intro x hx
    rw [c5 _ _ (by omega) (by omega), c5 _ _ (by omega) (by omega), d4 _ _ (by omega) (by omega), d4 _ _ (by omega) (by omega)]
    exact hF x ((hmem x).mp hx).1
/-! what is told of troubles -/
theorem st_status {fu : Nat} {A M : mwM} {L L2 : mwL} {N E i : Nat} (hf : 31 ≤ fu) (hi : i < N) (h : RTr A M N E) : ∃ n, n < 256 ∧ A 146 i = sI n ∧ DX10_statusOf fu (sI i) A L = some (sI n, A, L) ∧ DX18_status fu (sI (i + 1)) M L2 = some (sI n, mset M 902 0 0, L2) := by
  obtain ⟨hN, a1, a2, a3, a4, a5, a6, a7, a8, _, a10, _⟩ := h
  obtain ⟨n, p, t, a, g, k, hr, hc, hm⟩ := a10 i hi
  refine ⟨n, hr.1, hc.2.1, ?_, ?_⟩
  · unfold DX10_statusOf
    rw [mck_s (by omega) (by omega), sI_nn (by omega), hc.2.1]
  · unfold DX18_status fX18_status_b17
    rw [m_none hN a2 hi, mb3_s, if_pos rfl, m_statusOf (dg_o hm.2.1 (by decide)) hr.1 (by omega) (by omega), mb3_s]
theorem st_age {fu : Nat} {A M : mwM} {L2 : mwL} {N E i : Nat} (hi : i < N) (h : RTr A M N E) : DX18_age fu (sI (i + 1)) M L2 = some (A 149 i, mset M 902 0 0, L2) := by
  obtain ⟨hN, a1, a2, a3, a4, a5, a6, a7, a8, _, a10, _⟩ := h
  obtain ⟨n, p, t, a, g, k, hr, hc, hm⟩ := a10 i hi
  unfold DX18_age fX18_age_b18
  rw [m_none hN a2 hi, mb3_s, if_pos rfl, mck_s (by omega) (by omega), sI_nn (by omega), mset_k (a := 910) (by decide), hm.2.2.2.2.1, hc.2.2.2.2.1]
theorem st_snap {fu : Nat} {A M : mwM} {L L2 : mwL} {N E i w : Nat} (hf : 31 ≤ fu) (hE : E < 900000000) (hi : i < N) (hw : w < 2) (h : RTr A M N E) : ∃ x, DX10_tell fu (sI i) (sI (2 + w)) A L = some (x, A, L) ∧ DX18_snapshot fu (sI (i + 1)) (sI w) 1 M L2 = some (x, mset M 902 0 0, L2) := by
  obtain ⟨hN, a1, a2, a3, a4, a5, a6, a7, a8, _, a10, l, sd, ⟨b1, b2, b3, b4⟩, ⟨e1, e2, e3, t0, e4, e5, e6⟩, hF⟩ := h
  have hsd := e6 i hi
  obtain ⟨⟨r, A1, L1⟩, hq, hq1, hq2⟩ := c_entryOf (fu := fu) (L := L) (i := i) (by omega) (by omega) b1 (fun x hx => by have := b2 x hx; omega) b3 b4
  obtain ⟨rfl, rfl⟩ : A1 = A ∧ L1 = L := by simpa using hq1
  dsimp only at hq2
  have hm : DX18_snapshot fu (sI (i + 1)) (sI w) 1 M L2 = some ((if sd i = 0 then -1 else M 918 (8 * (i + 1) + 4 * w + 1)), mset M 902 0 0, L2) := by
    unfold DX18_snapshot fX18_snapshot_b17 fX18_snapshot_b37
    rw [m_none hN a2 hi, mb3_s, if_pos rfl, mck_s (by omega) (by omega), sI_nn (by omega), mset_k (a := 916) (by decide), e1 i hi]
    by_cases hz : sd i = 0
    · rw [if_pos (by rw [hz]; rfl), if_pos hz]
    · rw [if_neg (by rw [sI_eql (by omega) (by omega)]; exact hz), if_neg hz, if_neg (by rw [sI_ltl (by omega) (by decide)]; exact Nat.not_lt_zero _), if_neg (by rw [sI_llt (by omega) (by omega)]; omega), if_neg (by decide), if_pos (by decide), sI_lml, sI_lml, sI_add, sI_1, mck_s (by omega) (by omega), sI_nn (by omega), mset_k (a := 918) (by decide)]
  rcases hq2 with ⟨rfl, hil⟩ | ⟨e, he, rfl, hel⟩
  · have hz : sd i = 0 := by
      have := e2 i hi
      rcases Nat.eq_zero_or_pos (sd i) with h | h
      · exact h
      · exact absurd (this.mp h) hil
    refine ⟨-1, ?_, by rw [hm, if_pos hz]⟩
    unfold DX10_tell fX10_tell_b72 fX10_tell_b94
    simp only [mlet]
    have : w = 0 ∨ w = 1 := by omega
    rcases this with rfl | rfl
    · rw [if_neg (by decide), if_neg (by decide), if_pos (by decide), hq, mb3_s, if_neg (by decide)]
    · rw [if_neg (by decide), if_neg (by decide), if_neg (by decide), if_pos (by decide), hq, mb3_s, if_neg (by decide)]
  · have hil : i ∈ l := hel ▸ List.getElem_mem he
    have hz : sd i ≠ 0 := by
      have := (e2 i hi).mpr hil
      omega
    have : w = 0 ∨ w = 1 := by omega
    rcases this with rfl | rfl
    · refine ⟨A1 151 i, ?_, by rw [hm, if_neg hz, (hF i hil).1]⟩
      unfold DX10_tell fX10_tell_b72
      simp only [mlet]
      rw [if_neg (by decide), if_neg (by decide), if_pos (by decide), hq, mb3_s, if_pos (by rw [sI_lle (by decide) (by omega)]; exact Nat.zero_le _), mck_s (by omega) (by omega), sI_nn (by omega)]
    · refine ⟨A1 152 i, ?_, by rw [hm, if_neg hz, (hF i hil).2]⟩
      unfold DX10_tell fX10_tell_b94
      simp only [mlet]
      rw [if_neg (by decide), if_neg (by decide), if_neg (by decide), if_pos (by decide), hq, mb3_s, if_pos (by rw [sI_lle (by decide) (by omega)]; exact Nat.zero_le _), mck_s (by omega) (by omega), sI_nn (by omega)]
