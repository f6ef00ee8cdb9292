/-! one event on both sides: the class's memory is A, the reference's is M -/
abbrev okeC (A : mwM) (N : Nat) (l : List Nat) : Prop := l.length ≤ 8 ∧ (∀ x ∈ l, x < N) ∧ A 139 3 = sI l.length ∧ ∀ e (h : e < l.length), A 153 e = sI (l[e]'h)
abbrev okeM (M : mwM) (N : Nat) (l : List Nat) (sd : Nat → Nat) (E : Nat) : Prop := (∀ i, i < N → M 916 (i + 1) = sI (sd i)) ∧ (∀ i, i < N → (0 < sd i ↔ i ∈ l)) ∧ l.Pairwise (fun x y => sd x < sd y) ∧ ∃ t, t ≤ E ∧ M 902 19 = sI t ∧ ∀ i, i < N → sd i ≤ t
abbrev okeF (A M : mwM) (l : List Nat) : Prop := ∀ i ∈ l, A 151 i = M 918 (8 * (i + 1) + 1) ∧ A 152 i = M 918 (8 * (i + 1) + 5)
/-- what both sides know of troubles, E events having been -/
def RTr (A M : mwM) (N E : Nat) : Prop := N ≤ 30 ∧ A 139 2 = sI N ∧ M 902 2 = sI N ∧ M 902 1 = 8 ∧ M 902 23 = 0 ∧ A 139 4 = M 902 24 ∧ A 139 5 = sI E ∧ M 902 25 = sI E ∧ (∀ k, k < 32 → M 920 k = 0) ∧ (∃ G, G ≤ 500 ∧ M 902 20 = sI G) ∧ (∀ i, i < N → okc A M i) ∧ ∃ (l : List Nat) (sd : Nat → Nat), okeC A N l ∧ okeM M N l sd E ∧ okeF A M l
theorem cc_f {M M' : mwM} {i n p t a g k : Nat} (h : cc M i n p t a g k) (hf : ∀ b, 145 ≤ b → b ≤ 150 → M' b i = M b i) : cc M' i n p t a g k := by
  obtain ⟨h1, h2, h3, h4, h5, h6⟩ := h
  exact ⟨by rw [hf _ (by omega) (by omega), h1], by rw [hf _ (by omega) (by omega), h2], by rw [hf _ (by omega) (by omega), h3], by rw [hf _ (by omega) (by omega), h4], by rw [hf _ (by omega) (by omega), h5], by rw [hf _ (by omega) (by omega), h6]⟩
theorem cm_f {M M' : mwM} {i n p t a g k : Nat} (h : cm M i n p t a g k) (hf : ∀ b, (903 ≤ b ∧ b ≤ 907 ∨ 909 ≤ b ∧ b ≤ 911) → M' b (i + 1) = M b (i + 1)) (hf2 : ∀ b, b < 8 → M' 908 (8 * (i + 1) + b) = M 908 (8 * (i + 1) + b)) : cm M' i n p t a g k := by
  obtain ⟨h1, h2, h3, h4, h5, h6, h7, h8, h9⟩ := h
  exact ⟨by rw [hf _ (by omega), h1], dg_f h2 hf2, by rw [hf _ (by omega), h3], by rw [hf _ (by omega), h4], by rw [hf _ (by omega), h5], by rw [hf _ (by omega), h6], by rw [hf _ (by omega), h7], by rw [hf _ (by omega), h8], by rw [hf _ (by omega), h9]⟩
/-- the counter behind a failed test, and behind one that passed -/
def kF (k : Nat) : Nat := if (if k < 128 then 128 else k) + 64 < 255 then (if k < 128 then 128 else k) + 64 else 255
def kP (k : Nat) : Nat := if k < 128 then k - 127 else 1
theorem kF_lt {k : Nat} (h : k < 256) : kF k < 256 := by unfold kF; split <;> (try split) <;> omega
theorem kP_lt {k : Nat} (h : k < 256) : kP k < 256 := by unfold kP; split <;> omega
theorem kF_c : ∀ k, k < 256 → (if 127 < ((if sk k < 0 then 0 else sk k) + 64) then 127 else ((if sk k < 0 then 0 else sk k) + 64)) = sk (kF k) := by decide +kernel
theorem kF_m : ∀ k, k < 256 → (if (if 0 ≤ sk k then sk k else 0) + 64 ≤ 127 then (if 0 ≤ sk k then sk k else 0) + 64 else 127) = sk (kF k) := by decide +kernel
theorem kP_c : ∀ k, k < 256 → (if ((if 0 < sk k then 0 else sk k) - 127) < (-128) then (-128) else ((if 0 < sk k then 0 else sk k) - 127)) = sk (kP k) := by decide +kernel
theorem kP_m : ∀ k, k < 256 → (if (-128) ≤ ((if sk k ≤ 0 then sk k else 0) - 127) then ((if sk k ≤ 0 then sk k else 0) - 127) else (-128)) = sk (kP k) := by decide +kernel
theorem sk_127 : ∀ k, k < 256 → (sk k = 127 ↔ k = 255) := by decide +kernel
theorem sk_128 : ∀ k, k < 256 → (sk k = (-128) ↔ k = 0) := by decide +kernel
theorem nxt_sub {M : mwM} {l l' : List Nat} {sd : Nat → Nat} {p i x : Nat} (h : nxt M l sd p i l') (hx : x ∈ l') (hxi : x ≠ i) : x ∈ l := by
  rcases h with ⟨_, rfl⟩ | ⟨_, _, rfl⟩ | ⟨_, _, _, rfl⟩ | ⟨_, _, e, he, _, rfl⟩
  · exact hx
  · rw [List.mem_append] at hx
    rcases hx with hx | hx
    · exact hx
    · simp at hx; exact absurd hx hxi
  · exact hx
  · rw [List.mem_append] at hx
    rcases hx with hx | hx
    · exact List.mem_of_mem_eraseIdx hx
    · simp at hx; exact absurd hx hxi
theorem m_none {fu : Nat} {M : mwM} {L : mwL} {N i : Nat} (hN : N ≤ 30) (hC : M 902 2 = sI N) (hi : i < N) : DX18_none fu (sI (i + 1)) M L = some (0, mset M 902 0 0, L) := by
  unfold DX18_none fX18_none_b23
  simp only [mlet]
  rw [if_neg (by rw [sI_ltl (by omega) (by omega)]; omega), mset_j (a := 902) (by decide), hC, if_pos (by rw [sI_le (by omega) (by omega)]; omega)]
  rfl
theorem off_32 : ∀ c, c < 31 → sI c - sI c / 32 * 32 = sI c := by decide +kernel
theorem st_failed {fu : Nat} {A M : mwM} {L L2 : mwL} {N E i : Nat} {tm : Int32} (hf : 31 ≤ fu) (hE : E < 900000000) (hi : i < N) (h : RTr A M N E) : ∃ A' r M', DX10_noteFailed fu (sI i) tm A L = some (A', L) ∧ DX18_event fu (sI (i + 1)) 1 M L2 = some (r, M', L2) ∧ RTr A' M' N (E + 1) ∧ A' 144 i = tm ∧ (∀ b j, ¬ (b = 139 ∧ (j = 3 ∨ j = 5)) → ¬ (j = i ∧ 144 ≤ b ∧ b ≤ 152) → b ≠ 153 → A' b j = A b j) ∧ (∀ b j, ¬ (902 ≤ b ∧ b ≤ 920) → M' b j = M b j) := by
  obtain ⟨hN, a1, a2, a3, a4, a5, a6, a7, a8, ⟨G, hG, a9⟩, a10, l, sd, ⟨b1, b2, b3, b4⟩, ⟨e1, e2, e3, t0, e4, e5, e6⟩, hF⟩ := h
  obtain ⟨n, p, t, a, g, k, hr, hc, hm⟩ := a10 i hi
  have hr' := hr
  obtain ⟨r1, r2, r3, r4, r5, r6, r7⟩ := hr'
  have hk1 := kF_lt r7
  -- the class
  have hC : wq (DX10_noteFailed fu (sI i) tm A L) (fun q => q.2 = L ∧ ∃ l', q.1 139 3 = sI l'.length ∧ (∀ e (h : e < l'.length), q.1 153 e = sI (l'[e]'h)) ∧ q.1 139 5 = sI (E + 1) ∧ q.1 144 i = tm ∧ (∀ b j, ¬ (b = 139 ∧ (j = 3 ∨ j = 5)) → ¬ (j = i ∧ 144 ≤ b ∧ b ≤ 152) → b ≠ 153 → q.1 b j = A b j) ∧ (kF k ≠ 255 → cc q.1 i n p t a g (kF k) ∧ l' = l ∧ q.1 152 i = A 152 i ∧ q.1 151 i = A 151 i) ∧ (kF k = 255 → cc q.1 i (fN n (tN n t) p) p (tN n t) 0 0 255 ∧ (n % 2 = 0 → nxt q.1 l sd p i l' ∧ (i ∈ l' → q.1 152 i = sI (E + 1) ∧ (i ∈ l → q.1 151 i = A 151 i) ∧ (i ∉ l → q.1 151 i = sI (E + 1)))) ∧ (n % 2 ≠ 0 → l' = l ∧ q.1 152 i = A 152 i ∧ q.1 151 i = A 151 i))) := by
    obtain ⟨c1, c2, c3, c4, c5, c6⟩ := hc
    unfold DX10_noteFailed fX10_noteFailed_b68
    simp (disch := omega) only [mlet, mck_s, sI_nn]
    rw [mset_k (a := 139) (by decide), a6, sI_1, mset_k (a := 147) (k := 139) (by decide), mset_k (a := 147) (k := 144) (by decide), c3, kF_c k r7]
    generalize hA1 : mset (mset (mset A 144 i tm) 139 5 (sI (E + 1))) 147 i (sk (kF k)) = A1
    have f0 : ∀ b j, ¬ (b = 139 ∧ j = 5) → ¬ (j = i ∧ (b = 144 ∨ b = 147)) → A1 b j = A b j := by
      intro b j h1 h2
      rw [← hA1, mset_n (by omega), mset_n (by omega), mset_n (by omega)]
    have g1 : A1 139 5 = sI (E + 1) := by rw [← hA1, mset_k (by decide), mset_s]
    have g2 : A1 144 i = tm := by rw [← hA1, mset_k (by decide), mset_k (by decide), mset_s]
    have g3 : A1 147 i = sk (kF k) := by rw [← hA1, mset_s]
    have cc1 : cc A1 i n p t a g (kF k) := ⟨by rw [f0 _ _ (by omega) (by omega), c1], by rw [f0 _ _ (by omega) (by omega), c2], g3, by rw [f0 _ _ (by omega) (by omega), c4], by rw [f0 _ _ (by omega) (by omega), c5], by rw [f0 _ _ (by omega) (by omega), c6]⟩
    rw [g3]
    by_cases hk : kF k = 255
    · rw [if_pos ((sk_127 _ hk1).mpr hk)]
      have hq : okq A1 N := by
        intro x hx
        obtain ⟨n', p', t', a', g', k', q1, q2, q3⟩ := a10 x hx
        exact ⟨p', n', q1.2.2.1, q1.1, by rw [f0 _ _ (by omega) (by omega)]; exact q2.1, by rw [f0 _ _ (by omega) (by omega)]; exact q2.2.1⟩
      refine wq_b2 (c_testFailed (sd := sd) (by omega) hN hi (by exact ⟨r1, r2, r3, r4, r5, r6, hk1⟩) cc1 b1 b2 e3 hq (by rw [f0 _ _ (by omega) (by omega)]; exact b3) (fun e he => by rw [f0 _ _ (by omega) (by omega)]; exact b4 e he)) ?_
      rintro A2 L3 ⟨rfl, d1, ⟨l', d2, d3, d4, d5⟩, d6⟩
      dsimp only at d1 d2 d3 d4 d5 d6
      refine wq_some ⟨rfl, l', d4, d5, ?_, ?_, ?_, fun h => absurd hk h, fun _ => ⟨by rw [← hk]; exact d1, ?_, ?_⟩⟩
      all_goals (try dsimp only)
      · try dsimp only
        rw [d6 _ _ (by omega) (by omega) (by omega), g1]
      · try dsimp only
        rw [d6 _ _ (by omega) (by omega) (by omega), g2]
      · intro b j h1 h2 h3
        try dsimp only
        rw [d6 b j h3 (by omega) (by omega), f0 b j (by omega) (by omega)]
      · intro hn
        obtain ⟨u1, u2⟩ := d2 hn
        refine ⟨u1, fun h => ?_⟩
        all_goals (try dsimp only)
        obtain ⟨u3, u4, u5⟩ := u2 h
        exact ⟨u3.trans g1, fun h => (u4 h).trans (f0 _ _ (by omega) (by omega)), fun h => (u5 h).trans g1⟩
      · intro hn
        obtain ⟨u1, u2, u3⟩ := d3 hn
        exact ⟨u1, u2.trans (f0 _ _ (by omega) (by omega)), u3.trans (f0 _ _ (by omega) (by omega))⟩
    · rw [if_neg (fun h => hk ((sk_127 _ hk1).mp h))]
      refine wq_some ⟨rfl, l, by dsimp only; rw [f0 _ _ (by omega) (by omega)]; exact b3, fun e he => by dsimp only; rw [f0 _ _ (by omega) (by omega)]; exact b4 e he, g1, g2, ?_, fun _ => ⟨cc1, rfl, f0 _ _ (by omega) (by omega), f0 _ _ (by omega) (by omega)⟩, fun h => absurd h hk⟩
      all_goals (try dsimp only)
      intro b j h1 h2 h3
      exact f0 b j (by omega) (by omega)
  obtain ⟨⟨A', L'⟩, hC1, rfl, l', u1, u2, u3, u4, u5, u6, u7⟩ := hC
  dsimp only at u1 u2 u3 u4 u5 u6 u7
  -- the reference
  have hk2 : ∀ x, x < N → x ≠ i → okc A' (mset (mset (mset M 902 0 0) 902 25 (sI (E + 1))) 907 (i + 1) (sk (kF k))) x := by
    intro x hx hxi
    obtain ⟨n', p', t', a', g', k', q1, q2, q3⟩ := a10 x hx
    refine ⟨n', p', t', a', g', k', q1, cc_f q2 (fun b h1 h2 => u5 b x (by omega) (by omega) (by omega)), cm_f q3 (fun b hb => ?_) (fun b hb => ?_)⟩
    all_goals (try dsimp only)
    · rw [mset_n (by omega), mset_n (by omega), mset_n (by omega)]
    · rw [mset_n (by omega), mset_n (by omega), mset_n (by omega)]
  generalize hM2 : mset (mset (mset M 902 0 0) 902 25 (sI (E + 1))) 907 (i + 1) (sk (kF k)) = M2 at hk2
  have f0 : ∀ b j, ¬ (b = 902 ∧ (j = 0 ∨ j = 25)) → ¬ (b = 907 ∧ j = i + 1) → M2 b j = M b j := by
    intro b j h1 h2
    rw [← hM2, mset_n (by omega), mset_n (by omega), mset_n (by omega)]
  have g25 : M2 902 25 = sI (E + 1) := by rw [← hM2, mset_k (by decide), mset_s]
  have cm2 : cm M2 i n p t a g (kF k) := by
    obtain ⟨m1, m2, m3, m4, m5, m6, m7, m8, m9⟩ := hm
    exact ⟨by rw [f0 _ _ (by omega) (by omega), m1], dg_f m2 (fun b hb => f0 _ _ (by omega) (by omega)), by rw [← hM2, mset_s], by rw [f0 _ _ (by omega) (by omega), m4], by rw [f0 _ _ (by omega) (by omega), m5], by rw [f0 _ _ (by omega) (by omega), m6], by rw [f0 _ _ (by omega) (by omega), m7], by rw [f0 _ _ (by omega) (by omega), m8], by rw [f0 _ _ (by omega) (by omega), m9]⟩
  have hev : DX18_event fu (sI (i + 1)) 1 M L2 = (if sk (kF k) = 127 then mb2 (DX18_fails fu (sI (i + 1)) M2 L2) (fun M11 L12 => fX18_event_b224 fu (sI (i + 1)) 1 M11 L12) else fX18_event_b224 fu (sI (i + 1)) 1 M2 L2) := by
    obtain ⟨m1, m2, m3, m4, m5, m6, m7, m8, m9⟩ := hm
    have hkm := kF_m k r7
    unfold DX18_event fX18_event_b76 fX18_event_b111
    rw [m_none hN a2 hi, mb3_s, if_pos rfl, mset_j (a := 902) (b := 23) (by decide), a4, if_pos rfl]
    simp only [mlet]
    rw [off_32 _ (by omega), mck_s (by omega) (by omega), sI_nn (by omega), mset_k (a := 920) (by decide), mset_k (a := 920) (by decide), a8 _ (by omega), if_pos rfl, if_neg (by decide)]
    simp (disch := omega) only [mck_s]
    rw [mset_j (a := 902) (b := 25) (by decide), a7, sI_1, mset_k (a := 907) (by decide), mset_k (a := 907) (by decide), m3]
    simp only [mset_s]
    simp only [mset_k (show (904 : Nat) ≠ 902 by decide), m7]
    have hover : ∀ x y, mset (mset (mset (mset M 902 0 0) 902 25 (sI (E + 1))) 907 (i + 1) x) 907 (i + 1) y = mset (mset (mset M 902 0 0) 902 25 (sI (E + 1))) 907 (i + 1) y := by
      intro x y
      funext a b
      simp only [mset]
      split <;> rfl
    simp only [hover]
    by_cases h0 : 0 ≤ sk k
    · simp only [if_pos h0] at hkm ⊢
      by_cases h1 : sk k + 64 ≤ 127
      · rw [if_pos h1] at hkm ⊢
        rw [hkm, hM2]
      · rw [if_neg h1] at hkm ⊢
        rw [if_pos hkm.symm]
        rw [hkm, hM2]
        simp
    · simp only [if_neg h0] at hkm ⊢
      by_cases h1 : (0 : Int32) + 64 ≤ 127
      · rw [if_pos h1] at hkm ⊢
        rw [hkm, hM2]
      · exact absurd (by decide) h1
  have hst : ∀ (M3 : mwM) (n' : Nat), n' < 256 → dg M3 (i + 1) n' → fX18_event_b224 fu (sI (i + 1)) 1 M3 L2 = some (sI n', M3, L2) := by
    intro M3 n' hn hd
    unfold fX18_event_b224
    rw [m_statusOf hd hn (by omega) (by omega), mb3_s]
  by_cases hk : kF k = 255
  · obtain ⟨v1, v2, v3⟩ := u7 hk
    have hmf := m_fails (fu := fu) (A := A') (M := M2) (L := L2) (G := G) (t0 := t0) (l := l) (sd := sd) hf hN hi ⟨r1, r2, r3, r4, r5, r6, hk1⟩ cm2 (by rw [hk]; exact v1) hk2 b1 (by omega) b2 e3 (by rw [f0 _ _ (by omega) (by omega)]; exact a2) (by rw [f0 _ _ (by omega) (by omega)]; exact a3) (by rw [f0 _ _ (by omega) (by omega)]; exact e5) e6 (by rw [f0 _ _ (by omega) (by omega)]; exact a9) hG (fun x hx => by rw [f0 _ _ (by omega) (by omega)]; exact e1 x hx) e2
    obtain ⟨⟨M', L'⟩, hM1, rfl, w1, w2, w3, w4⟩ := hmf
    dsimp only at w1 w2 w3 w4
    have w5 : ∀ b j, ¬ (b = 902 ∧ (j = 0 ∨ j = 25 ∨ j = 19 ∨ j = 20)) → ¬ (b = 907 ∧ j = i + 1) → ¬ (b = 908 ∧ 8 * (i + 1) ≤ j ∧ j < 8 * (i + 1) + 8) → ¬ (j = i + 1 ∧ (b = 909 ∨ b = 910 ∨ b = 911)) → b ≠ 916 → b ≠ 917 → b ≠ 918 → b ≠ 919 → M' b j = M b j := by
      intro b j h1 h2 h3 h4 h5 h6 h7 h8
      rw [w4 b j h3 h4 h5 h6 h7 h8 (by omega), f0 b j (by omega) h2]
    refine ⟨A', sI (fN n (tN n t) p), M', hC1, ?_, ?_, u4, u5, fun b j h => w5 b j (by omega) (by omega) (by omega) (by omega) (by omega) (by omega) (by omega) (by omega)⟩
    all_goals (try dsimp only)
    · rw [hev, if_pos ((sk_127 _ hk1).mpr hk), hM1, mb2_s, hst M' _ (fN_lt r1) w1.2.1]
    · have hokc : ∀ x, x < N → okc A' M' x := by
        intro x hx
        by_cases hxi : x = i
        · subst hxi
          exact ⟨_, _, _, _, _, _, ⟨fN_lt r1, r2, r3, tN_lt r4, by omega, by omega, by omega⟩, v1, by rw [← hk]; exact w1⟩
        · obtain ⟨n', p', t', a', g', k', q1, q2, q3⟩ := a10 x hx
          exact ⟨n', p', t', a', g', k', q1, cc_f q2 (fun b h1 h2 => u5 b x (by omega) (by omega) (by omega)), cm_f q3 (fun b hb => w5 _ _ (by omega) (by omega) (by omega) (by omega) (by omega) (by omega) (by omega) (by omega)) (fun b hb => w5 _ _ (by omega) (by omega) (by omega) (by omega) (by omega) (by omega) (by omega) (by omega))⟩
      have base : ∀ G', G' ≤ 500 → M' 902 20 = sI G' → (∃ (l : List Nat) (sd : Nat → Nat), okeC A' N l ∧ okeM M' N l sd (E + 1) ∧ okeF A' M' l) → RTr A' M' N (E + 1) := by
        intro G' hG1 hG2 hh
        refine ⟨hN, ?_, ?_, ?_, ?_, ?_, u3, ?_, ?_, ⟨G', hG1, hG2⟩, hokc, hh⟩
        all_goals (try dsimp only)
        · rw [u5 _ _ (by omega) (by omega) (by omega)]; exact a1
        · rw [w5 _ _ (by omega) (by omega) (by omega) (by omega) (by omega) (by omega) (by omega) (by omega)]; exact a2
        · rw [w5 _ _ (by omega) (by omega) (by omega) (by omega) (by omega) (by omega) (by omega) (by omega)]; exact a3
        · rw [w5 _ _ (by omega) (by omega) (by omega) (by omega) (by omega) (by omega) (by omega) (by omega)]; exact a4
        · rw [u5 _ _ (by omega) (by omega) (by omega), w5 _ _ (by omega) (by omega) (by omega) (by omega) (by omega) (by omega) (by omega) (by omega)]; exact a5
        · rw [w4 _ _ (by omega) (by omega) (by omega) (by omega) (by omega) (by omega) (by omega)]; exact g25
        · intro x hx
          rw [w5 _ _ (by omega) (by omega) (by omega) (by omega) (by omega) (by omega) (by omega) (by omega)]; exact a8 x hx
      by_cases hn0 : n % 2 = 0
      · obtain ⟨l2, sd', t', G', s1, s2, s3, s4, s5, s6, s7, s8, s9, s10, s11⟩ := w2 hn0
        obtain ⟨x1, x2⟩ := v2 hn0
        have hll : l2 = l' := nxt_uni e3 s1 x1
        subst hll
        obtain ⟨y1, y2⟩ := nxt_mem hi b2 s1
        refine base G' s6 s5 ⟨l2, sd', ⟨y2 b1, y1, u1, u2⟩, ⟨s7, s8, s9, t', by omega, s3, s4⟩, ?_⟩
        intro x hx
        by_cases hxi : x = i
        · subst hxi
          obtain ⟨z1, z2, z3⟩ := x2 hx
          obtain ⟨z4, z5, z6⟩ := s10 hx
          refine ⟨?_, by rw [z1, z4, g25]⟩
          all_goals (try dsimp only)
          by_cases hil : x ∈ l
          · rw [z2 hil, z5 hil, f0 _ _ (by omega) (by omega)]
            exact (hF x hil).1
          · rw [z3 hil, z6 hil, g25]
        · have hxl := nxt_sub s1 hx hxi
          rw [u5 _ _ (by omega) (by omega) (by omega), u5 _ _ (by omega) (by omega) (by omega), s11 _ (by omega), s11 _ (by omega), f0 _ _ (by omega) (by omega), f0 _ _ (by omega) (by omega)]
          exact hF x hxl
      · obtain ⟨x1, x2, x3⟩ := v3 hn0
        obtain ⟨z1, z2, z3, z4⟩ := w3 hn0
        subst x1
        refine base G hG (by rw [z4, f0 _ _ (by omega) (by omega)]; exact a9) ⟨l', sd, ⟨b1, b2, u1, u2⟩, ⟨fun x hx => by rw [z1, f0 _ _ (by omega) (by omega)]; exact e1 x hx, e2, e3, t0, by omega, by rw [z3, f0 _ _ (by omega) (by omega)]; exact e5, e6⟩, ?_⟩
        intro x hx
        rw [z2, z2, f0 _ _ (by omega) (by omega), f0 _ _ (by omega) (by omega)]
        by_cases hxi : x = i
        · subst hxi
          rw [x2, x3]
          exact hF x hx
        · rw [u5 _ _ (by omega) (by omega) (by omega), u5 _ _ (by omega) (by omega) (by omega)]
          exact hF x hx
  · obtain ⟨v1, v2, v3, v4⟩ := u6 hk
    subst v2
    refine ⟨A', sI n, M2, hC1, ?_, ?_, u4, u5, fun b j h => f0 b j (by omega) (by omega)⟩
    all_goals (try dsimp only)
    · rw [hev, if_neg (fun h => hk ((sk_127 _ hk1).mp h)), hst M2 n r1 cm2.2.1]
    · refine ⟨hN, ?_, ?_, ?_, ?_, ?_, u3, g25, ?_, ⟨G, hG, ?_⟩, ?_, l', sd, ⟨b1, b2, u1, u2⟩, ⟨fun x hx => by rw [f0 _ _ (by omega) (by omega)]; exact e1 x hx, e2, e3, t0, by omega, by rw [f0 _ _ (by omega) (by omega)]; exact e5, e6⟩, ?_⟩
      all_goals (try dsimp only)
      · rw [u5 _ _ (by omega) (by omega) (by omega)]; exact a1
      · rw [f0 _ _ (by omega) (by omega)]; exact a2
      · rw [f0 _ _ (by omega) (by omega)]; exact a3
      · rw [f0 _ _ (by omega) (by omega)]; exact a4
      · rw [u5 _ _ (by omega) (by omega) (by omega), f0 _ _ (by omega) (by omega)]; exact a5
      · intro x hx
        rw [f0 _ _ (by omega) (by omega)]; exact a8 x hx
      · rw [f0 _ _ (by omega) (by omega)]; exact a9
      · intro x hx
        by_cases hxi : x = i
        · subst hxi
          exact ⟨_, _, _, _, _, _, ⟨r1, r2, r3, r4, r5, r6, hk1⟩, v1, cm2⟩
        · exact hk2 x hx hxi
      · intro x hx
        rw [f0 _ _ (by omega) (by omega), f0 _ _ (by omega) (by omega)]
        by_cases hxi : x = i
        · subst hxi
          rw [v3, v4]
          exact hF x hx
        · rw [u5 _ _ (by omega) (by omega) (by omega), u5 _ _ (by omega) (by omega) (by omega)]
          exact hF x hx
