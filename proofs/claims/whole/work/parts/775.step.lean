/-! one bit on the bus: a node that loses -/
theorem ly_pos {f : Nat → Nat} : ∀ j i, i < (lyN f j).1 → lyF f j i = 0 → ∃ m, m < j ∧ i = (lyN f m).1 := by
  intro j
  induction j with
  | zero => intro i hi; exact absurd hi (by show ¬ i < 0; omega)
  | succ j ih =>
    intro i hi hz
    by_cases c : i < (lyN f j).1
    · have := (ly_st (f := f) j 1 i c).2.1
      rw [this] at hz
      obtain ⟨m, h1, h2⟩ := ih i c hz
      exact ⟨m, by omega, h2⟩
    · by_cases d : lyS f j = 5
      · rw [lyN_5 d] at hi
        have hi' : i < (lyN f j).1 + 2 := hi
        by_cases e : i = (lyN f j).1
        · exact ⟨j, by omega, e⟩
        · exfalso
          rw [(lyR_5 d).2.1, show i = (lyN f j).1 + 1 by omega, nst_s] at hz
          omega
      · rw [lyN_n d] at hi
        have hi' : i < (lyN f j).1 + 1 := hi
        exact ⟨j, by omega, by omega⟩
/-- a short head: no stage, no false flag -/
theorem hd_s {s p h o : Nat → Nat} {K b : Nat} (hE : ES s K p h o) (hb : b < 2) (h5 : h 5 ≤ 13) : (h 3 < 5 → rBody b h = 0 ∧ hBody b h = hPl0 b h) ∧ (h 3 = 5 → b ≠ h 2 → rBody b h = 0 ∧ hBody b h = hStuff b h) := by
  obtain ⟨⟨e1, e2, e3, e4, e5, e6, _⟩, h1, hend⟩ := hE
  obtain ⟨_, _, _, _, _, _, _, _, _, _, b2, b3, _, b5⟩ := PI_b e1
  have k17 : ¬ h 17 < 100000 := fun z => by
    have := b2 z
    have := b5 (by omega)
    omega
  constructor
  · intro c
    have hG := PI_s e1 hb
    obtain ⟨_, _, _, _, _, _, _, _, _, _, d2, d3, _, d5⟩ := PI_b hG
    obtain ⟨_, _, _, j4, _⟩ := PI_x.mp hG
    obtain ⟨g1, g2, g3, g4, g5, _⟩ := hPl0_n (b := b) (h := h)
    have g13 : hPl0 b h 13 = 0 := by
      rw [j4, if_neg]
      have : 14 ≤ atE (hPl0 b h 12) := by unfold atE; split <;> omega
      omega
    have g17 : ¬ hPl0 b h 17 < 100000 := fun z => by
      have := d2 z
      have := d5 (by omega)
      omega
    unfold rBody hBody
    rw [if_neg (by omega), if_neg (by omega), if_neg (fun z => by omega)]
    refine ⟨rfl, ?_⟩
    unfold hPl1
    rw [if_neg]
    unfold sEnd
    split <;> omega
  · intro c d
    unfold rBody hBody
    rw [if_pos c, if_pos c, if_neg d]
    refine ⟨rfl, ?_⟩
    rw [if_neg]
    unfold sEnd
    split <;> omega
theorem Gd_s {s : Nat → Nat} {K : Nat} (hg : Gd s K) (hr : rAll (s K) (hq s K) = 0) : Gd s (K + 1) := by
  intro j u1 u2
  by_cases z : j = K
  · rw [z]; exact Or.inl hr
  · exact hg j u1 (by omega)
theorem ES_of {s : Nat → Nat} {K : Nat} (hK : 1 ≤ K) (h0 : s 0 = 0) (hs : ∀ i, i < K → s i < 2) (hg : Gd s K) (h1 : hq s K 1 = 0) : ES s K (pq s K) (hq s K) (oq s z0 K) := by
  obtain ⟨e, b1, b2, b3, b4⟩ := BE_K z0 K hK h0 hs hg
  by_cases c : K < e
  · exact b3 K hK (by omega) c
  · exfalso
    obtain ⟨i, hi⟩ : ∃ i, K = e + i := ⟨K - e, by omega⟩
    have t := (b4 i (by omega)).1
    rw [← hi] at t
    have := (ET_b t (fun j u => hs j (by omega))).2.2.1
    omega
theorem sync {f s : Nat → Nat} (hf : ∀ i, f i < 2) (hf0 : f 0 = 0) : ∀ j, 1 ≤ j → j ≤ 14 → (∀ i, i < (lyN f j).1 → s i = lyR f j i) → 1 ≤ (lyN f j).1 ∧ s 0 = 0 ∧ (∀ i, i < (lyN f j).1 → s i < 2) ∧ Gd s (lyN f j).1 ∧ hq s (lyN f j).1 1 = 0 ∧ hq s (lyN f j).1 2 = (lyN f j).2.2 ∧ hq s (lyN f j).1 3 = (lyN f j).2.1 ∧ hq s (lyN f j).1 5 = j := by
  intro j
  induction j with
  | zero => intro h; omega
  | succ j ih =>
    intro _ hj hs
    have bits : ∀ i, i < (lyN f (j + 1)).1 → s i < 2 := fun i u => by rw [hs i u]; exact (ly_b hf (j + 1) i u).1
    by_cases j0 : j = 0
    · subst j0
      have h1 : ¬ lyS f 0 = 5 := by
        unfold lyS
        rw [hf0]
        show ¬ (if 0 = 1 then 0 + 1 else 1) = 5
        simp
      have n1 : lyN f 1 = (1, 1, 0) := by
        rw [lyN_n h1]
        unfold lyS
        rw [hf0]
        rfl
      rw [n1] at hs bits ⊢
      have s0 : s 0 = 0 := by
        rw [hs 0 (by show 0 < 1; omega), (lyR_n h1).1]
        show nst z0 0 (f 0) 0 = 0
        rw [nst_s, hf0]
      exact ⟨by show 1 ≤ 1; omega, s0, bits, fun j u1 u2 => absurd u2 (by show ¬ j < 1; omega), rfl, rfl, rfl, rfl⟩
    · obtain ⟨i1, i2, i3, i4, i5, i6, i7, i8⟩ := ih (by omega) (by omega) (fun i u => by
        have up := lyN_up (f := f) j
        rw [hs i (by omega), (ly_st (f := f) j 1 i u).1])
      have hj2 := hf j
      obtain ⟨l1, l2, l3, l4, l5⟩ := lyN_b hf j
      have eS := ES_of i1 i2 i3 i4 i5
      have up := lyN_up (f := f) j
      have sK : s (lyN f j).1 = f j := by
        rw [hs _ up]
        by_cases c : lyS f j = 5
        · rw [(lyR_5 c).1, nst_a]
        · rw [(lyR_n c).1, nst_s]
      obtain ⟨p1, _⟩ := hd_s (b := f j) eS hj2 (by omega)
      obtain ⟨p2, p3⟩ := p1 (by omega)
      have hS : lyS f j = (if f j = hq s (lyN f j).1 2 then hq s (lyN f j).1 3 + 1 else 1) := by rw [i6, i7]; rfl
      obtain ⟨q1, q2, q3, q4, q5, q6, _⟩ := hPl0_n (b := f j) (h := hq s (lyN f j).1)
      have r0 : rAll (s (lyN f j).1) (hq s (lyN f j).1) = 0 := by rw [(rAll_0 i5).1, sK]; exact p2
      have g1 := Gd_s i4 r0
      have hh : hq s ((lyN f j).1 + 1) = hPl0 (f j) (hq s (lyN f j).1) := by rw [hq_s i1, (rAll_0 i5).2, sK]; exact p3
      have v1 : hq s ((lyN f j).1 + 1) 1 = 0 := by rw [hh, q1]; exact i5
      have v2 : hq s ((lyN f j).1 + 1) 2 = f j := by rw [hh, q2]
      have v3 : hq s ((lyN f j).1 + 1) 3 = lyS f j := by rw [hh, q3, hS]
      have v5 : hq s ((lyN f j).1 + 1) 5 = j + 1 := by rw [hh, q5, i8]
      by_cases c : lyS f j = 5
      · have n := lyN_5 c
        rw [n] at bits hs ⊢
        have bits' : ∀ i, i < (lyN f j).1 + 2 → s i < 2 := bits
        have hs' : ∀ i, i < (lyN f j).1 + 2 → s i = lyR f (j + 1) i := hs
        have e2 := ES_of (by omega) i2 (fun i u => bits' i (by omega)) g1 v1
        have sK1 : s ((lyN f j).1 + 1) = 1 - f j := by
          rw [hs' _ (by omega), (lyR_5 c).1, nst_s]
        -- the fourteenth plain bit may have been the fifth of its kind
        have st2 : rBody (1 - f j) (hq s ((lyN f j).1 + 1)) = 0 ∧ hBody (1 - f j) (hq s ((lyN f j).1 + 1)) = hStuff (1 - f j) (hq s ((lyN f j).1 + 1)) := by
          have ne : 1 - f j ≠ hq s ((lyN f j).1 + 1) 2 := by rw [v2]; omega
          unfold rBody hBody
          have c5 : hq s ((lyN f j).1 + 1) 3 = 5 := by rw [v3]; exact c
          rw [if_pos c5, if_neg ne, if_pos c5]
          refine ⟨rfl, if_neg ?_⟩
          obtain ⟨⟨x1, _⟩, _⟩ := e2
          obtain ⟨_, _, _, _, _, _, _, _, _, _, d2, d3, _, d5⟩ := PI_b x1
          have k17 : ¬ hq s ((lyN f j).1 + 1) 17 < 100000 := fun z => by
            have := d2 z
            have := d5 (by omega)
            omega
          unfold sEnd
          split <;> omega
        have r1 : rAll (s ((lyN f j).1 + 1)) (hq s ((lyN f j).1 + 1)) = 0 := by rw [(rAll_0 v1).1, sK1]; exact st2.1
        have g2 := Gd_s g1 r1
        have hh2 : hq s ((lyN f j).1 + 2) = hStuff (1 - f j) (hq s ((lyN f j).1 + 1)) := by
          have := hq_s (s := s) (K := (lyN f j).1 + 1) (by omega)
          rw [(rAll_0 v1).2, sK1] at this
          rw [show (lyN f j).1 + 2 = (lyN f j).1 + 1 + 1 by omega, this]
          exact st2.2
        refine ⟨by show 1 ≤ (lyN f j).1 + 2; omega, i2, bits', g2, ?_, ?_, ?_, ?_⟩
        · show hq s ((lyN f j).1 + 2) 1 = 0
          rw [hh2]
          exact v1
        · show hq s ((lyN f j).1 + 2) 2 = 1 - f j
          rw [hh2]
          rfl
        · show hq s ((lyN f j).1 + 2) 3 = 1
          rw [hh2]
          rfl
        · show hq s ((lyN f j).1 + 2) 5 = j + 1
          rw [hh2]
          exact v5
      · have n := lyN_n c
        rw [n] at bits hs ⊢
        exact ⟨by show 1 ≤ (lyN f j).1 + 1; omega, i2, bits, g1, v1, v2, v3, v5⟩
/-- the bits seen up to a loss go on -/
theorem lose_g {f s : Nat → Nat} {K : Nat} (hf : ∀ i, f i < 2) (hf0 : f 0 = 0) (hK1 : 1 ≤ K) (hKN : K < wN f) (hK : K < (lyN f 13).1 + 1) (hz : lyF f 98 K = 0) (hs : ∀ i, i < K → s i = wR f i) (hsK : s K = 0) : s 0 = 0 ∧ (∀ i, i < K + 1 → s i < 2) ∧ Gd s (K + 1) ∧ hq s (K + 1) 1 = 0 := by
  obtain ⟨j, hj, hjK⟩ : ∃ j, j ≤ 13 ∧ K = (lyN f j).1 := by
    obtain ⟨m, h1, h2⟩ := ly_pos 98 K hKN hz
    refine ⟨m, ?_, h2⟩
    by_cases c : m ≤ 13
    · exact c
    · have := lyN_le (f := f) 13 (m - 13)
      rw [show 13 + (m - 13) = m by omega] at this
      omega
  have j1 : 1 ≤ j := by
    by_cases c : j = 0
    · subst c
      have : (lyN f 0).1 = 0 := rfl
      omega
    · omega
  have hs' : ∀ i, i < (lyN f j).1 → s i = lyR f j i := fun i u => by
    rw [hs i (by omega)]
    unfold wR
    rw [if_pos (by omega)]
    have := (ly_st (f := f) j (98 - j) i u).1
    rw [show j + (98 - j) = 98 by omega] at this
    exact this
  obtain ⟨i1, i2, i3, i4, i5, i6, i7, i8⟩ := sync hf hf0 j j1 (by omega) hs'
  obtain ⟨l1, _⟩ := lyN_b hf j
  rw [← hjK] at i1 i3 i4 i5 i6 i7 i8
  have eS := ES_of i1 i2 i3 i4 i5
  obtain ⟨p1, _⟩ := hd_s (b := 0) eS (by omega) (by omega)
  obtain ⟨p2, p3⟩ := p1 (by omega)
  have r0 : rAll (s K) (hq s K) = 0 := by rw [(rAll_0 i5).1, hsK]; exact p2
  refine ⟨i2, fun i u => ?_, Gd_s i4 r0, ?_⟩
  · by_cases z : i = K
    · rw [z, hsK]; omega
    · exact i3 i (by omega)
  · rw [hq_s hK1, (rAll_0 i5).2, hsK, p3]
    have := (hPl0_n (b := 0) (h := hq s K)).1
    rw [this]
    exact i5
theorem wv_1 {x y : Nat} (hx : x < 2) : sI (x + 2 * y) &&& 1 = sI x := by
  have := sI_and (a := x + 2 * y) (m := 1)
  rw [show (x + 2 * y) % 2 ^ 1 = x by omega] at this
  exact this
theorem c_lose0 {fu n K : Nat} {f s : Nat → Nat} {A : mwM} {L : mwL} (hfu : 300 ≤ fu) (hn : n < 7) (hf : ∀ i, f i < 2) (hK1 : 1 ≤ K) (hK : K < wN f) (h28 : A 28 n = sI K) (hW : WvR A n f) (hOc : ∃ o, OcR A (47 + 2 * n) o) (hs : ∀ i, i < K → s i = wR f i) (hsK : s K = 0) (h0 : s 0 = 0) (hb : ∀ i, i < K + 1 → s i < 2) (hg : Gd s (K + 1)) : wq (DX0_loseArbitration fu (sI n) A L) (fun z => z.2 = L ∧ z.1 25 n = sI 2 ∧ EaR z.1 (47 + 2 * n) (hq s (K + 1)) ∧ (∃ o0, OcR z.1 (47 + 2 * n) (oq s o0 (K + 1))) ∧ ∀ a y, a ≠ 47 + 2 * n → a ≠ 48 + 2 * n → ¬ (a = 25 ∧ y = n) → z.1 a y = A a y) := by
  obtain ⟨o0, ho⟩ := hOc
  have wb := wN_b hf
  unfold DX0_loseArbitration
  refine wq_b2 (c_beginL (A := A) (L := L) hn) ?_
  rintro A1 L1 ⟨b1, b2, b3, b4⟩
  dsimp only at b1 b2 b3 b4
  subst b1
  have good : ∀ j, 1 ≤ j → j < K + 1 → rAll (s j) (hq s j) = 0 ∨ rAll (s j) (hq s j) = 6 := hg
  have key : ∀ (m j fz : Nat) (X : mwM), j + m = K → m < fz → 1 ≤ j → EaR X (47 + 2 * n) (hq s j) → OcR X (47 + 2 * n) (oq s o0 j) → (∀ a y, a ≠ 47 + 2 * n → a ≠ 48 + 2 * n → X a y = A1 a y) → wq (fX0_loseArbitration_h7 fu (sI n) fz (sI j, X, L1)) (fun z => z.2 = L1 ∧ z.1 25 n = sI 2 ∧ EaR z.1 (47 + 2 * n) (hq s (K + 1)) ∧ (∃ o0, OcR z.1 (47 + 2 * n) (oq s o0 (K + 1))) ∧ ∀ a y, a ≠ 47 + 2 * n → a ≠ 48 + 2 * n → ¬ (a = 25 ∧ y = n) → z.1 a y = A a y) := by
    intro m
    induction m with
    | zero =>
      intro j fz X hj hf1 hj1 hE hO hX
      obtain ⟨g, rfl⟩ : ∃ g, fz = g + 1 := ⟨fz - 1, by omega⟩
      have : j = K := by omega
      subst this
      unfold fX0_loseArbitration_h7
      rw [mloop_S]
      show wq (fX0_loseArbitration_i7 fu (sI n) _ (sI j) X L1) _
      unfold fX0_loseArbitration_i7
      rw [mck_s hn (by omega), sI_nn (by omega), hX 28 n (by omega) (by omega), b4 28 n (by omega) (by omega), h28, if_pos (by rw [sI_le (by omega) (by omega)]; omega), mck_s hn (by omega)]
      have he := c_hearK (fu := fu) (L := L1) hE hO hj1 h0 (fun i u => hb i (by omega)) (fun x u1 u2 => good x u1 (by omega))
      rw [hsK] at he
      refine wq_b3 (show wq (DX5_hear fu (47 + 2 * n) 0 X L1) _ from he) ?_
      rintro r Y L2 ⟨y1, y2, y3, y4, y5⟩
      dsimp only at y1 y2 y3 y4 y5
      have gj := good j hj1 (by omega)
      rw [hsK] at gj
      obtain ⟨e1, e2⟩ := y3 gj
      refine wq_some ⟨y2, ?_, e1, ⟨o0, e2⟩, fun a y u1 u2 u3 => ?_⟩
      · dsimp only
        rw [y5 25 n (by omega) (by omega), hX 25 n (by omega) (by omega)]
        exact b2
      · dsimp only
        rw [y5 a y u1 (by omega), hX a y u1 u2, b4 a y u1 u3]
    | succ m ih =>
      intro j fz X hj hf1 hj1 hE hO hX
      obtain ⟨g, rfl⟩ : ∃ g, fz = g + 1 := ⟨fz - 1, by omega⟩
      unfold fX0_loseArbitration_h7
      rw [mloop_S]
      show wq (fX0_loseArbitration_i7 fu (sI n) (fX0_loseArbitration_h7 fu (sI n) g) (sI j) X L1) _
      unfold fX0_loseArbitration_i7
      have wv : X (34 + n) j &&& 1 = sI (s j) := by
        rw [hX (34 + n) j (by omega) (by omega), b4 (34 + n) j (by omega) (by omega), hW.1 j (by omega), wv_1 (ly_b hf 98 j (show j < (lyN f 98).1 by have : wN f = (lyN f 98).1 := rfl; omega)).1, hs j (by omega)]
        unfold wR
        rw [if_pos (by omega)]
      rw [mck_s hn (by omega), sI_nn (by omega), hX 28 n (by omega) (by omega), b4 28 n (by omega) (by omega), h28, if_neg (by rw [sI_le (by omega) (by omega)]; omega), mck_s hn (by omega), mck_s hn (by omega), mck_s (by omega) (by omega), sI_nn (by omega), wv]
      refine wq_b3 (c_hearK (fu := fu) (L := L1) hE hO hj1 h0 (fun i u => hb i (by omega)) (fun x u1 u2 => good x u1 (by omega))) ?_
      rintro r Y L2 ⟨y1, y2, y3, y4, y5⟩
      dsimp only at y1 y2 y3 y4 y5
      subst y2
      obtain ⟨e1, e2⟩ := y3 (good j hj1 (by omega))
      simp only [mlet]
      rw [sI_1]
      exact ih (j + 1) g Y (by omega) (by omega) (by omega) e1 e2 (fun a y u1 u2 => by rw [y5 a y u1 (by omega), hX a y u1 u2])
  refine key (K - 1) 1 fu A1 (by omega) (by omega) (by omega) b3 ?_ (fun _ _ _ _ => rfl)
  exact OcR_f ho (fun y => b4 _ y (by omega) (by omega))
