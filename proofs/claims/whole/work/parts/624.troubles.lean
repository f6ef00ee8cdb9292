theorem cy_66b : ∀ n, n < 256 → ((sI n &&& 66 = 0) ↔ (bt n 1 = 0 ∧ bt n 6 = 0)) := by decide +kernel
/-- whether a code's entry goes at the end of the cycle -/
def rmA (A : mwM) (ts x : Nat) : Bool := (cyF ts (nn (A 146 x)) (nn (A 148 x)) (nn (A 149 x)) (nn (A 150 x))).2.2.2.2
theorem rmA_v {A : mwM} {ts x n p t a g k : Nat} (hr : rg n p t a g k) (hc : cc A x n p t a g k) : rmA A ts x = (cyF ts n t a g).2.2.2.2 := by
  obtain ⟨r1, r2, r3, r4, r5, r6, r7⟩ := hr
  obtain ⟨c1, c2, c3, c4, c5, c6⟩ := hc
  unfold rmA
  rw [c2, c4, c5, c6, nn_s (by omega), nn_s (by omega), nn_s (by omega), nn_s (by omega)]
def lcy (A : mwM) (ts j : Nat) (l : List Nat) : List Nat := l.filter (fun x => !(decide (x < j) && rmA A ts x))
theorem lcy_0 (A : mwM) (ts : Nat) (l : List Nat) : lcy A ts 0 l = l := by
  unfold lcy
  rw [List.filter_eq_self]
  intro x _
  simp
theorem lcy_S {A : mwM} {ts j : Nat} {l : List Nat} : lcy A ts (j + 1) l = if rmA A ts j = true then (lcy A ts j l).filter (fun x => decide (x ≠ j)) else lcy A ts j l := by
  unfold lcy
  by_cases h : rmA A ts j = true
  · rw [if_pos h, List.filter_filter]
    apply List.filter_congr
    intro x _
    by_cases hx : x = j
    · subst hx
      simp [h]
    · by_cases hl : x < j
      · have : x < j + 1 := by omega
        simp [hl, this, hx]
      · have : ¬ x < j + 1 := by omega
        simp [hl, this, hx]
  · rw [if_neg h]
    apply List.filter_congr
    intro x _
    by_cases hx : x = j
    · subst hx
      simp [h]
    · by_cases hl : x < j
      · have : x < j + 1 := by omega
        simp [hl, this]
      · have : ¬ x < j + 1 := by omega
        simp [hl, this]
theorem c_cycle {fu : Nat} {A : mwM} {L : mwL} {N ts : Nat} {l : List Nat} (hf : 31 ≤ fu) (hN : N ≤ 30) (hts : ts < 2) (h2 : A 139 2 = sI N) (hv : ∀ x, x < N → ∃ n p t a g k, rg n p t a g k ∧ cc A x n p t a g k) (hnd : l.Nodup) (ho : okeC A N l) : wq (DX10_endCycle fu (sI ts) A L) (fun q => q.2.2 = L ∧ q.1 = A 139 4 + 1 ∧ q.2.1 139 4 = A 139 4 + 1 ∧ okeC q.2.1 N (lcy A ts N l) ∧ (∀ x, x < N → ∀ n p t a g k, rg n p t a g k → cc A x n p t a g k → cc q.2.1 x (sb (sb (cyF ts n t a g).1 1 0) 6 1) p (cyF ts n t a g).2.1 (cyF ts n t a g).2.2.1 (cyF ts n t a g).2.2.2.1 k) ∧ ∀ b j, ¬ (b = 139 ∧ (j = 3 ∨ j = 4)) → ¬ (b = 146 ∨ b = 148 ∨ b = 149 ∨ b = 150 ∨ b = 153) → q.2.1 b j = A b j) := by
  have l2 : ∀ (A0 : mwM), A0 139 4 = A 139 4 → okeC A0 N (lcy A ts N l) → (∀ x, x < N → ∀ n p t a g k, rg n p t a g k → cc A x n p t a g k → cc A0 x (cyF ts n t a g).1 p (cyF ts n t a g).2.1 (cyF ts n t a g).2.2.1 (cyF ts n t a g).2.2.2.1 k) → (∀ b j, ¬ (b = 139 ∧ (j = 3 ∨ j = 4)) → ¬ (b = 146 ∨ b = 148 ∨ b = 149 ∨ b = 150 ∨ b = 153) → A0 b j = A b j) → wq (fX10_endCycle_h38 fu (sI ts) fu (0, A0, L)) (fun q => q.2.2 = L ∧ q.1 = A 139 4 + 1 ∧ q.2.1 139 4 = A 139 4 + 1 ∧ okeC q.2.1 N (lcy A ts N l) ∧ (∀ x, x < N → ∀ n p t a g k, rg n p t a g k → cc A x n p t a g k → cc q.2.1 x (sb (sb (cyF ts n t a g).1 1 0) 6 1) p (cyF ts n t a g).2.1 (cyF ts n t a g).2.2.1 (cyF ts n t a g).2.2.2.1 k) ∧ ∀ b j, ¬ (b = 139 ∧ (j = 3 ∨ j = 4)) → ¬ (b = 146 ∨ b = 148 ∨ b = 149 ∨ b = 150 ∨ b = 153) → q.2.1 b j = A b j) := by
    intro A0 g1 g2 g3 g4
    refine wq_for (body := fun r s => fX10_endCycle_i38 fu (sI ts) r s.1 s.2.1 s.2.2) (fun j (a : mwM) => (sI j, a, L)) (fun j a1 => (∀ x, x < N → ∀ n p t a g k, rg n p t a g k → cc A x n p t a g k → cc a1 x (if x < j then sb (sb (cyF ts n t a g).1 1 0) 6 1 else (cyF ts n t a g).1) p (cyF ts n t a g).2.1 (cyF ts n t a g).2.2.1 (cyF ts n t a g).2.2.2.1 k) ∧ ∀ b y, b ≠ 146 → a1 b y = A0 b y) N ?_ ?_ N 0 A0 fu (by omega) (by omega) ⟨?_, fun _ _ _ => rfl⟩
    · intro j a1 r hj ⟨p1, p2⟩ ih
      show wq (fX10_endCycle_i38 fu (sI ts) r (sI j) a1 L) _
      unfold fX10_endCycle_i38
      obtain ⟨n, p, t, a, g, k, hr, hc⟩ := hv j hj
      have hcj := p1 j hj n p t a g k hr hc
      rw [if_neg (by omega)] at hcj
      have hn' := (cyF_rg (ts := ts) hr).1
      rw [p2 139 2 (by omega), g4 139 2 (by omega) (by omega), h2, if_neg (by rw [sI_le (by omega) (by omega)]; omega), mck_s (by omega) (by omega), mck_s (by omega) (by omega)]
      simp only [mlet]
      rw [sI_nn (by omega), hcj.2.1, cy_e _ hn', sI_1]
      refine ih (mset a1 146 j (sI (sb (sb (cyF ts n t a g).1 1 0) 6 1))) ⟨?_, ?_⟩
      · intro x hx n' p' t' a' g' k' hr' hc'
        by_cases hxj : x = j
        · subst hxj
          obtain ⟨c1, c2, c3, c4, c5, c6⟩ := hcj
          obtain ⟨d1, d2, d3, d4, d5, d6⟩ := hc
          obtain ⟨d1', d2', d3', d4', d5', d6'⟩ := hc'
          have hh := p1 x hx n' p' t' a' g' k' hr' ⟨d1', d2', d3', d4', d5', d6'⟩
          obtain ⟨q1, q2, q3, q4, q5, q6⟩ := hr'
          obtain ⟨w1, w2, w3, w4, w5, w6, w7⟩ := hr
          have en : n = n' := by rw [d2] at d2'; exact (sI_eq (by omega) (by omega)).mp d2'
          have et : t = t' := by rw [d4] at d4'; exact (sI_eq (by omega) (by omega)).mp d4'
          have ea : a = a' := by rw [d5] at d5'; exact (sI_eq (by omega) (by omega)).mp d5'
          have eg : g = g' := by rw [d6] at d6'; exact (sI_eq (by omega) (by omega)).mp d6'
          subst en et ea eg
          rw [if_pos (by omega)]
          rw [if_neg (by omega)] at hh
          obtain ⟨y1, y2, y3, y4, y5, y6⟩ := hh
          exact ⟨by rw [mset_k (by decide)]; exact y1, mset_s, by rw [mset_k (by decide)]; exact y3, by rw [mset_k (by decide)]; exact y4, by rw [mset_k (by decide)]; exact y5, by rw [mset_k (by decide)]; exact y6⟩
        · have hh := p1 x hx n' p' t' a' g' k' hr' hc'
          have e : (if x < j + 1 then sb (sb (cyF ts n' t' a' g').1 1 0) 6 1 else (cyF ts n' t' a' g').1) = (if x < j then sb (sb (cyF ts n' t' a' g').1 1 0) 6 1 else (cyF ts n' t' a' g').1) := by
            by_cases hl : x < j
            · rw [if_pos hl, if_pos (by omega)]
            · rw [if_neg hl, if_neg (by omega)]
          rw [e]
          exact cc_f hh (fun b h1 h2 => mset_n (by omega))
      · intro b y hb
        rw [mset_k hb]
        exact p2 b y hb
    · intro a1 r ⟨p1, p2⟩
      show wq (fX10_endCycle_i38 fu (sI ts) r (sI N) a1 L) _
      unfold fX10_endCycle_i38
      rw [p2 139 2 (by omega), g4 139 2 (by omega) (by omega), h2, if_pos (by rw [sI_le (by omega) (by omega)]; omega)]
      simp only [mlet]
      have e4 : a1 139 4 = A 139 4 := by rw [p2 _ _ (by omega)]; exact g1
      rw [e4, mset_s]
      refine wq_some ⟨rfl, rfl, ?_, ⟨g2.1, g2.2.1, ?_, ?_⟩, ?_, ?_⟩
      all_goals (try dsimp only)
      · rw [mset_s]
      · rw [mset_j (by decide), p2 _ _ (by omega)]; exact g2.2.2.1
      · intro e he
        rw [mset_k (by decide), p2 _ _ (by omega)]; exact g2.2.2.2 e he
      · intro x hx n p t a g k hr hc
        have hh := p1 x hx n p t a g k hr hc
        rw [if_pos hx] at hh
        exact cc_f hh (fun b h1 h2 => mset_n (by omega))
      · intro b y h3 h4
        rw [mset_n (by omega), p2 _ _ (by omega)]
        exact g4 b y h3 h4
    · intro x hx n p t a g k hr hc
      rw [if_neg (by omega)]
      exact g3 x hx n p t a g k hr hc
  unfold DX10_endCycle
  refine wq_for (body := fun r s => fX10_endCycle_i2 fu (sI ts) r s.1 s.2.1 s.2.2) (fun j (a : mwM) => (sI j, a, L)) (fun j a1 => okeC a1 N (lcy A ts j l) ∧ (∀ x, x < N → ∀ n p t a g k, rg n p t a g k → cc A x n p t a g k → (x < j → cc a1 x (cyF ts n t a g).1 p (cyF ts n t a g).2.1 (cyF ts n t a g).2.2.1 (cyF ts n t a g).2.2.2.1 k) ∧ (j ≤ x → cc a1 x n p t a g k)) ∧ ∀ b y, ¬ (b = 139 ∧ y = 3) → ¬ (b = 146 ∨ b = 148 ∨ b = 149 ∨ b = 150 ∨ b = 153) → a1 b y = A b y) N ?_ ?_ N 0 A fu (by omega) (by omega) ⟨by rw [lcy_0]; exact ho, fun x hx n p t a g k _ hc => ⟨fun h => by omega, fun _ => hc⟩, fun _ _ _ _ => rfl⟩
  · intro j a1 r hj ⟨p0, p1, p2⟩ ih
    show wq (fX10_endCycle_i2 fu (sI ts) r (sI j) a1 L) _
    unfold fX10_endCycle_i2 fX10_endCycle_b30
    obtain ⟨n, p, t, a, g, k, hr, hc⟩ := hv j hj
    have hcj := (p1 j hj n p t a g k hr hc).2 (Nat.le_refl _)
    rw [p2 139 2 (by omega) (by omega), h2, if_neg (by rw [sI_le (by omega) (by omega)]; omega), mck_s (by omega) (by omega), sI_nn (by omega), hcj.2.1]
    simp only [mlet]
    rw [sI_1]
    have hrm := rmA_v (ts := ts) hr hc
    have same : ∀ (n' p' t' a' g' k' : Nat), rg n' p' t' a' g' k' → cc A j n' p' t' a' g' k' → n = n' ∧ t = t' ∧ a = a' ∧ g = g' ∧ p = p' ∧ k = k' := by
      intro n' p' t' a' g' k' hr' hc'
      obtain ⟨q1, q2, q3, q4, q5, q6, q7⟩ := hr'
      obtain ⟨w1, w2, w3, w4, w5, w6, w7⟩ := hr
      obtain ⟨d1, d2, d3, d4, d5, d6⟩ := hc
      obtain ⟨d1', d2', d3', d4', d5', d6'⟩ := hc'
      rw [d1] at d1'
      rw [d2] at d2'
      rw [d3] at d3'
      rw [d4] at d4'
      rw [d5] at d5'
      rw [d6] at d6'
      have hk : sI k = sI k' := by
        have := congrArg (fun z => z + 128) d3'
        simpa [sk] using this
      exact ⟨(sI_eq (by omega) (by omega)).mp d2', (sI_eq (by omega) (by omega)).mp d4', (sI_eq (by omega) (by omega)).mp d5', (sI_eq (by omega) (by omega)).mp d6', (sI_eq (by omega) (by omega)).mp d1', (sI_eq (by omega) (by omega)).mp hk⟩
    by_cases hg : bt n 1 = 0 ∧ bt n 6 = 0
    · rw [if_pos ((cy_66b n hr.1).mpr hg)]
      have hF : cyF ts n t a g = gy ts n t a g := by unfold cyF; rw [if_pos hg]
      have hnd2 : (lcy A ts j l).Nodup := hnd.filter _
      refine wq_b2 (c_good (by omega) hN hj hts hr hcj hnd2 p0) ?_
      rintro A2 L2 ⟨hL2, q1, q2, q3⟩
      dsimp only at hL2 q1 q2 q3
      subst hL2
      rw [← hF] at q1 q2
      refine ih A2 ⟨?_, ?_, ?_⟩
      · rw [lcy_S, hrm]; exact q2
      · intro x hx n' p' t' a' g' k' hr' hc'
        by_cases hxj : x = j
        · subst hxj
          obtain ⟨s1, s2, s3, s4, s5, s6⟩ := same n' p' t' a' g' k' hr' hc'
          subst s1 s2 s3 s4 s5 s6
          exact ⟨fun _ => q1, fun h => by omega⟩
        · obtain ⟨u1, u2⟩ := p1 x hx n' p' t' a' g' k' hr' hc'
          exact ⟨fun h => cc_f (u1 (by omega)) (fun b h1 h2 => q3 _ _ (by omega) (by omega) (by omega)), fun h => cc_f (u2 (by omega)) (fun b h1 h2 => q3 _ _ (by omega) (by omega) (by omega))⟩
      · intro b y h3 h4
        rw [q3 b y h3 (by omega) (by omega)]
        exact p2 b y h3 h4
    · rw [if_neg (fun h => hg ((cy_66b n hr.1).mp h))]
      have hF : cyF ts n t a g = (n, t, a, g, false) := by unfold cyF; rw [if_neg hg]
      refine ih a1 ⟨?_, ?_, p2⟩
      · rw [lcy_S, hrm, hF]; exact p0
      · intro x hx n' p' t' a' g' k' hr' hc'
        by_cases hxj : x = j
        · subst hxj
          obtain ⟨s1, s2, s3, s4, s5, s6⟩ := same n' p' t' a' g' k' hr' hc'
          subst s1 s2 s3 s4 s5 s6
          exact ⟨fun _ => by rw [hF]; exact hcj, fun h => by omega⟩
        · obtain ⟨u1, u2⟩ := p1 x hx n' p' t' a' g' k' hr' hc'
          exact ⟨fun h => u1 (by omega), fun h => u2 (by omega)⟩
  · intro a1 r ⟨p0, p1, p2⟩
    show wq (fX10_endCycle_i2 fu (sI ts) r (sI N) a1 L) _
    unfold fX10_endCycle_i2
    rw [p2 139 2 (by omega) (by omega), h2, if_pos (by rw [sI_le (by omega) (by omega)]; omega)]
    exact l2 a1 (p2 _ _ (by omega) (by omega)) p0 (fun x hx n p t a g k hr hc => (p1 x hx n p t a g k hr hc).1 hx) (fun b j h3 h4 => p2 b j (by omega) h4)
theorem m_cycle {fu : Nat} {M : mwM} {L : mwL} {N ts : Nat} (hf : 31 ≤ fu) (hN : N ≤ 30) (hts : ts < 2) (h2 : M 902 2 = sI N) (h23 : M 902 23 = 0) (hv : ∀ x, x < N → ∃ n p t a g k, rg n p t a g k ∧ cm M x n p t a g k) : wq (DX18_cycle fu (sI ts) M L) (fun q => q.2.2 = L ∧ q.1 = M 902 24 + 1 ∧ q.2.1 902 24 = M 902 24 + 1 ∧ (∀ x, x < N → ∃ n p t a g k, rg n p t a g k ∧ cm M x n p t a g k ∧ cm q.2.1 x (sb (sb (cyF ts n t a g).1 1 0) 6 1) p (cyF ts n t a g).2.1 (cyF ts n t a g).2.2.1 (cyF ts n t a g).2.2.2.1 k ∧ q.2.1 916 (x + 1) = (if (cyF ts n t a g).2.2.2.2 = true then 0 else M 916 (x + 1))) ∧ ∀ b j, ¬ (b = 902 ∧ (j = 0 ∨ j = 24)) → ¬ (908 ≤ b ∧ b ≤ 916) → q.2.1 b j = M b j) := by
  unfold DX18_cycle
  simp only [mlet]
  rw [mset_j (a := 902) (b := 23) (by decide), h23, if_pos rfl]
  refine wq_for (body := fun r s => fX18_cycle_i17 fu (sI ts) r s.1 s.2.1 s.2.2) (fun j (a : mwM) => (sI (j + 1), a, L)) (fun j a1 => (∀ x, x < N → ∃ n p t a g k, rg n p t a g k ∧ cm M x n p t a g k ∧ (x < j → cm a1 x (sb (sb (cyF ts n t a g).1 1 0) 6 1) p (cyF ts n t a g).2.1 (cyF ts n t a g).2.2.1 (cyF ts n t a g).2.2.2.1 k ∧ a1 916 (x + 1) = (if (cyF ts n t a g).2.2.2.2 = true then 0 else M 916 (x + 1))) ∧ (j ≤ x → cm a1 x n p t a g k ∧ a1 916 (x + 1) = M 916 (x + 1))) ∧ ∀ b y, ¬ (b = 902 ∧ y = 0) → ¬ (908 ≤ b ∧ b ≤ 916) → a1 b y = M b y) N ?_ ?_ N 0 (mset M 902 0 0) fu (by omega) (by omega) ⟨?_, fun b y h _ => mset_n h⟩
  · intro j a1 r hj ⟨p1, p2⟩ ih
    show wq (fX18_cycle_i17 fu (sI ts) r (sI (j + 1)) a1 L) _
    obtain ⟨n, p, t, a, g, k, hr, hc, _, hge⟩ := p1 j hj
    obtain ⟨hcj, h916⟩ := hge (Nat.le_refl _)
    refine m_cyc (by omega) hN hj hts hr hcj (by rw [p2 _ _ (by omega) (by omega)]; exact h2) ?_
    rintro q ⟨q1, q2, q3⟩
    refine ih q ⟨?_, ?_⟩
    · intro x hx
      by_cases hxj : x = j
      · subst hxj
        exact ⟨n, p, t, a, g, k, hr, hc, fun _ => ⟨q1, by rw [q2, h916]⟩, fun h => by omega⟩
      · obtain ⟨n', p', t', a', g', k', hr', hc', hl', hge'⟩ := p1 x hx
        refine ⟨n', p', t', a', g', k', hr', hc', fun h => ?_, fun h => ?_⟩
        · obtain ⟨u1, u2⟩ := hl' (by omega)
          exact ⟨cm_f u1 (fun b hb => q3 _ _ (by omega) (by omega) (by omega) (by omega) (by omega) (by omega)) (fun b hb => q3 _ _ (by omega) (by omega) (by omega) (by omega) (by omega) (by omega)), by rw [q3 _ _ (by omega) (by omega) (by omega) (by omega) (by omega) (by omega)]; exact u2⟩
        · obtain ⟨u1, u2⟩ := hge' (by omega)
          exact ⟨cm_f u1 (fun b hb => q3 _ _ (by omega) (by omega) (by omega) (by omega) (by omega) (by omega)) (fun b hb => q3 _ _ (by omega) (by omega) (by omega) (by omega) (by omega) (by omega)), by rw [q3 _ _ (by omega) (by omega) (by omega) (by omega) (by omega) (by omega)]; exact u2⟩
    · intro b y h3 h4
      rw [q3 _ _ (by omega) (by omega) (by omega) (by omega) (by omega) (by omega)]
      exact p2 b y h3 h4
  · intro a1 r ⟨p1, p2⟩
    show wq (fX18_cycle_i17 fu (sI ts) r (sI (N + 1)) a1 L) _
    unfold fX18_cycle_i17
    rw [p2 _ _ (by omega) (by omega), h2, if_pos (by rw [sI_lt (by omega) (by omega)]; omega)]
    simp only [mlet]
    have e4 : a1 902 24 = M 902 24 := p2 _ _ (by omega) (by omega)
    rw [e4, mset_s]
    refine wq_some ⟨rfl, rfl, ?_, ?_, ?_⟩
    all_goals (try dsimp only)
    · rw [mset_s]
    · intro x hx
      obtain ⟨n, p, t, a, g, k, hr, hc, hl, _⟩ := p1 x hx
      obtain ⟨u1, u2⟩ := hl hx
      exact ⟨n, p, t, a, g, k, hr, hc, cm_f u1 (fun b hb => mset_n (by omega)) (fun b hb => mset_n (by omega)), by rw [mset_k (by decide)]; exact u2⟩
    · intro b y h3 h4
      rw [mset_n (by omega)]
      exact p2 b y (by omega) h4
  · intro x hx
    obtain ⟨n, p, t, a, g, k, hr, hc⟩ := hv x hx
    exact ⟨n, p, t, a, g, k, hr, hc, fun h => by omega, fun _ => ⟨cm_f hc (fun b hb => mset_n (by omega)) (fun b hb => mset_n (by omega)), mset_k (by decide)⟩⟩
