/-! SYSTEM: all is cleared on both sides -/
theorem c_clr47 {fu : Nat} {A : mwM} {L : mwL} {o : Nat → Nat → Nat} (hf : 300 ≤ fu) : wq (fX1_clear_h47 fu fu (0, A, L)) (fun z => z.2 = L ∧ ClA z.1 o ∧ (∀ c, c < 6 → z.1 284 c = 0) ∧ ∀ a y, a ≠ 284 → ¬ (a = 3 ∧ 13 ≤ y ∧ y ≤ 18) → ¬ (a = 5 ∧ 3 ≤ y ∧ y ≤ 6) → a ≠ 18 → ¬ (a = 61 ∧ 10 ≤ y ∧ y ≤ 14) → ¬ (a = 139 ∧ 2 ≤ y ∧ y ≤ 5) → a ≠ 154 → a ≠ 264 → ¬ (275 ≤ a ∧ a ≤ 280) → a ≠ 292 → z.1 a y = A a y) := by
  refine wq_for (body := fun r s => fX1_clear_i47 fu r s.1 s.2.1 s.2.2) (fun i (a : mwM × mwL) => (sI i, a.1, a.2)) (fun i a => a.2 = L ∧ (∀ c, c < i → a.1 284 c = 0) ∧ ∀ b y, b ≠ 284 → a.1 b y = A b y) 6 ?_ ?_ 6 0 (A, L) fu (by omega) (by omega) ⟨rfl, fun c h => by omega, fun _ _ _ => rfl⟩
  · rintro i ⟨a, l⟩ r hi ⟨p1, p2, p3⟩ ih
    dsimp only at p1 p2 p3
    show wq (fX1_clear_i47 fu r (sI i) a l) _
    unfold fX1_clear_i47
    rw [if_neg (show ¬ (6 : Int32) ≤ sI i by rw [show (6 : Int32) = sI 6 from rfl, sI_le (by omega) (by omega)]; omega), mck_s hi (by omega), sI_nn (by omega), mlet_e, mlet_e, sI_1, nar_f]
    refine ih (mset a 284 i 0, l) ⟨p1, fun c hc => ?_, fun b y u1 => ?_⟩
    · dsimp only
      by_cases e : c = i
      · rw [e, mset_s]
      · rw [mset_n (by omega)]
        exact p2 c (by omega)
    · dsimp only
      rw [mset_n (by omega)]
      exact p3 b y u1
  · rintro ⟨a, l⟩ r ⟨p1, p2, p3⟩
    dsimp only at p1 p2 p3
    subst p1
    show wq (fX1_clear_i47 fu r (sI 6) a l) _
    unfold fX1_clear_i47
    rw [if_pos (show (6 : Int32) ≤ sI 6 by decide)]
    obtain ⟨A1, L1, e1, e2, e3, e4⟩ := wq_ex (c_clr68 (fu := fu) (A := a) (L := l) (o := o) hf)
    dsimp only at e2 e3 e4
    exact ⟨_, e1, e2, e3, fun c hc => by dsimp only; rw [e4 _ _ (by omega) (by omega) (by omega) (by omega) (by omega) (by omega) (by omega) (by omega) (by omega)]; exact p2 c hc, fun b y u0 u1 u2 u3 u4 u5 u6 u7 u8 u9 => by dsimp only; rw [e4 b y u1 u2 u3 u4 u5 u6 u7 u8 u9, p3 b y u0]⟩
theorem c_clr23 {fu : Nat} {A : mwM} {L : mwL} {o : Nat → Nat → Nat} (hf : 300 ≤ fu) : wq (fX1_clear_h23 fu fu (0, A, L)) (fun z => z.2 = L ∧ ClA z.1 o ∧ (∀ c, c < 6 → z.1 284 c = 0) ∧ (∀ x, x < 12 → z.1 (293 + 36 * x) 5 = -1) ∧ ∀ a y, ¬ (293 ≤ a ∧ (a - 293) % 36 = 0 ∧ y = 5) → a ≠ 284 → ¬ (a = 3 ∧ 13 ≤ y ∧ y ≤ 18) → ¬ (a = 5 ∧ 3 ≤ y ∧ y ≤ 6) → a ≠ 18 → ¬ (a = 61 ∧ 10 ≤ y ∧ y ≤ 14) → ¬ (a = 139 ∧ 2 ≤ y ∧ y ≤ 5) → a ≠ 154 → a ≠ 264 → ¬ (275 ≤ a ∧ a ≤ 280) → a ≠ 292 → z.1 a y = A a y) := by
  refine wq_for (body := fun r s => fX1_clear_i23 fu r s.1 s.2.1 s.2.2) (fun i (a : mwM × mwL) => (sI i, a.1, a.2)) (fun i a => a.2 = L ∧ (∀ c, c < i → a.1 (293 + 36 * c) 5 = -1) ∧ ∀ b y, ¬ (293 ≤ b ∧ (b - 293) % 36 = 0 ∧ y = 5) → a.1 b y = A b y) 12 ?_ ?_ 12 0 (A, L) fu (by omega) (by omega) ⟨rfl, fun c h => by omega, fun _ _ _ => rfl⟩
  · rintro i ⟨a, l⟩ r hi ⟨p1, p2, p3⟩ ih
    dsimp only at p1 p2 p3
    show wq (fX1_clear_i23 fu r (sI i) a l) _
    unfold fX1_clear_i23
    rw [if_neg (show ¬ (12 : Int32) ≤ sI i by rw [show (12 : Int32) = sI 12 from rfl, sI_le (by omega) (by omega)]; omega), mck_s hi (by omega), sI_nn (by omega), mlet_e, mlet_e, sI_1]
    refine ih (mset a (293 + 36 * i + 0) 5 (-1), l) ⟨p1, fun c hc => ?_, fun b y u1 => ?_⟩
    · dsimp only
      by_cases e : c = i
      · rw [e]
        exact mset_s
      · rw [mset_n (by omega)]
        exact p2 c (by omega)
    · dsimp only
      rw [mset_n (by omega)]
      exact p3 b y u1
  · rintro ⟨a, l⟩ r ⟨p1, p2, p3⟩
    dsimp only at p1 p2 p3
    subst p1
    show wq (fX1_clear_i23 fu r (sI 12) a l) _
    unfold fX1_clear_i23
    rw [if_pos (show (12 : Int32) ≤ sI 12 by decide)]
    obtain ⟨A1, L1, e1, e2, e3, e4, e5⟩ := wq_ex (c_clr47 (fu := fu) (A := a) (L := l) (o := o) hf)
    dsimp only at e2 e3 e4 e5
    exact ⟨_, e1, e2, e3, e4, fun x hx => by dsimp only; rw [e5 _ _ (by omega) (by omega) (by omega) (by omega) (by omega) (by omega) (by omega) (by omega) (by omega) (by omega)]; exact p2 x hx, fun b y u u0 u1 u2 u3 u4 u5 u6 u7 u8 u9 => by dsimp only; rw [e5 b y u0 u1 u2 u3 u4 u5 u6 u7 u8 u9, p3 b y u]⟩
abbrev ClG (A A' : mwM) : Prop := ∀ a y, a ≠ 283 → ¬ (293 ≤ a ∧ (a - 293) % 36 = 0 ∧ y = 5) → a ≠ 284 → ¬ (a = 3 ∧ 13 ≤ y ∧ y ≤ 18) → ¬ (a = 5 ∧ 3 ≤ y ∧ y ≤ 6) → a ≠ 18 → ¬ (a = 61 ∧ 10 ≤ y ∧ y ≤ 14) → ¬ (a = 139 ∧ 2 ≤ y ∧ y ≤ 5) → a ≠ 154 → a ≠ 264 → ¬ (275 ≤ a ∧ a ≤ 280) → a ≠ 292 → A' a y = A a y
theorem c_clear1 {fu : Nat} {A : mwM} {L : mwL} {o : Nat → Nat → Nat} (hf : 300 ≤ fu) : wq (DX1_clear fu A L) (fun z => z.2 = L ∧ ClA z.1 o ∧ (∀ c, c < 6 → z.1 284 c = 0) ∧ (∀ x, x < 12 → z.1 (293 + 36 * x) 5 = -1) ∧ (∀ i, i < 12 → z.1 283 i = -1) ∧ ClG A z.1) := by
  refine wq_for (body := fun r s => fX1_clear_i2 fu r s.1 s.2.1 s.2.2) (fun i (a : mwM × mwL) => (sI i, a.1, a.2)) (fun i a => a.2 = L ∧ (∀ c, c < i → a.1 283 c = -1) ∧ ∀ b y, b ≠ 283 → a.1 b y = A b y) 12 ?_ ?_ 12 0 (A, L) fu (by omega) (by omega) ⟨rfl, fun c h => by omega, fun _ _ _ => rfl⟩
  · rintro i ⟨a, l⟩ r hi ⟨p1, p2, p3⟩ ih
    dsimp only at p1 p2 p3
    show wq (fX1_clear_i2 fu r (sI i) a l) _
    unfold fX1_clear_i2
    rw [if_neg (show ¬ (12 : Int32) ≤ sI i by rw [show (12 : Int32) = sI 12 from rfl, sI_le (by omega) (by omega)]; omega), mck_s hi (by omega), sI_nn (by omega), mlet_e, mlet_e, sI_1]
    refine ih (mset a 283 i (-1), l) ⟨p1, fun c hc => ?_, fun b y u1 => ?_⟩
    · dsimp only
      by_cases e : c = i
      · rw [e, mset_s]
      · rw [mset_n (by omega)]
        exact p2 c (by omega)
    · dsimp only
      rw [mset_n (by omega)]
      exact p3 b y u1
  · rintro ⟨a, l⟩ r ⟨p1, p2, p3⟩
    dsimp only at p1 p2 p3
    subst p1
    show wq (fX1_clear_i2 fu r (sI 12) a l) _
    unfold fX1_clear_i2
    rw [if_pos (show (12 : Int32) ≤ sI 12 by decide)]
    obtain ⟨A1, L1, e1, e2, e3, e4, e5, e6⟩ := wq_ex (c_clr23 (fu := fu) (A := a) (L := l) (o := o) hf)
    dsimp only at e2 e3 e4 e5 e6
    exact ⟨_, e1, e2, e3, e4, e5, fun x hx => by dsimp only; rw [e6 _ _ (by omega) (by omega) (by omega) (by omega) (by omega) (by omega) (by omega) (by omega) (by omega) (by omega) (by omega)]; exact p2 x hx, fun b y u' u u0 u1 u2 u3 u4 u5 u6 u7 u8 u9 => by dsimp only; rw [e6 b y u u0 u1 u2 u3 u4 u5 u6 u7 u8 u9, p3 b y u']⟩
/-- the reference's troubles -/
theorem m_anew58 {fu : Nat} {a1 : Int32} {M : mwM} {L : mwL} (hf : 300 ≤ fu) : wq (fX18_anew_h58 fu a1 fu (0, M, L)) (fun z => z.2 = L ∧ (∀ j, j < 201 → z.1 906 j = 0 ∧ z.1 916 j = 0) ∧ ∀ a y, a ≠ 906 → a ≠ 916 → a ≠ 917 → z.1 a y = M a y) := by
  refine wq_for (body := fun r s => fX18_anew_i58 fu a1 r s.1 s.2.1 s.2.2) (fun i (a : mwM × mwL) => (sI i, a.1, a.2)) (fun i a => a.2 = L ∧ (∀ c, c < i → a.1 906 c = 0 ∧ a.1 916 c = 0) ∧ ∀ b y, b ≠ 906 → b ≠ 916 → b ≠ 917 → a.1 b y = M b y) 201 ?_ ?_ 201 0 (M, L) fu (by omega) (by omega) ⟨rfl, fun c h => by omega, fun _ _ _ _ _ => rfl⟩
  · rintro i ⟨a, l⟩ r hi ⟨p1, p2, p3⟩ ih
    dsimp only at p1 p2 p3
    show wq (fX18_anew_i58 fu a1 r (sI i) a l) _
    unfold fX18_anew_i58
    rw [if_neg (show ¬ (201 : Int32) ≤ sI i by rw [show (201 : Int32) = sI 201 from rfl, sI_le (by omega) (by omega)]; omega)]
    simp (disch := omega) only [mck_s, sI_nn, mlet_e, sI_1]
    refine ih (mset (mset (mset a 906 i 0) 916 i 0) 917 i 0, l) ⟨p1, fun c hc => ?_, fun b y u1 u2 u3 => ?_⟩
    · dsimp only
      by_cases e : c = i
      · subst e
        simp (disch := omega) only [mset_n, mset_s]
        exact ⟨trivial, trivial⟩
      · have := p2 c (by omega)
        simp (disch := omega) only [mset_n]
        exact this
    · dsimp only
      simp (disch := omega) only [mset_n]
      exact p3 b y u1 u2 u3
  · rintro ⟨a, l⟩ r ⟨p1, p2, p3⟩
    dsimp only at p1 p2 p3
    show wq (fX18_anew_i58 fu a1 r (sI 201) a l) _
    unfold fX18_anew_i58
    rw [if_pos (show (201 : Int32) ≤ sI 201 by decide)]
    exact wq_some ⟨p1, p2, p3⟩
theorem m_anew18 {fu : Nat} {M : mwM} {L : mwL} (hf : 300 ≤ fu) : wq (DX18_anew fu 8 M L) (fun z => z.2 = L ∧ (z.1 902 1 = 8 ∧ z.1 902 2 = 0 ∧ z.1 902 19 = 0 ∧ z.1 902 20 = 0 ∧ z.1 902 23 = 0 ∧ z.1 902 24 = 0 ∧ z.1 902 25 = 0) ∧ (∀ k, k < 32 → z.1 920 k = 0) ∧ (∀ j, j < 201 → z.1 906 j = 0 ∧ z.1 916 j = 0) ∧ ∀ a y, ¬ (902 ≤ a ∧ a ≤ 920) → z.1 a y = M a y) := by
  unfold DX18_anew
  simp only [mlet_e]
  generalize hM1 : mset (mset (mset (mset (mset (mset (mset M 902 1 8) 902 2 0) 902 19 0) 902 20 0) 902 23 0) 902 24 0) 902 25 0 = M1
  have h1 : M1 902 1 = 8 ∧ M1 902 2 = 0 ∧ M1 902 19 = 0 ∧ M1 902 20 = 0 ∧ M1 902 23 = 0 ∧ M1 902 24 = 0 ∧ M1 902 25 = 0 := by
    rw [← hM1]
    simp (disch := omega) only [mset_n, mset_s]
    exact ⟨trivial, trivial, trivial, trivial, trivial, trivial, trivial⟩
  have f1 : ∀ b y, b ≠ 902 → M1 b y = M b y := fun b y u => by
    rw [← hM1]
    simp (disch := omega) only [mset_n]
  refine wq_for (body := fun r s => fX18_anew_i37 fu 8 r s.1 s.2.1 s.2.2) (fun i (a : mwM × mwL) => (sI i, a.1, a.2)) (fun i a => a.2 = L ∧ (∀ c, c < i → a.1 920 c = 0) ∧ ∀ b y, b ≠ 920 → a.1 b y = M1 b y) 32 ?_ ?_ 32 0 (M1, L) fu (by omega) (by omega) ⟨rfl, fun c h => by omega, fun _ _ _ => rfl⟩
  · rintro i ⟨a, l⟩ r hi ⟨p1, p2, p3⟩ ih
    dsimp only at p1 p2 p3
    show wq (fX18_anew_i37 fu 8 r (sI i) a l) _
    unfold fX18_anew_i37
    rw [if_neg (show ¬ (32 : Int32) ≤ sI i by rw [show (32 : Int32) = sI 32 from rfl, sI_le (by omega) (by omega)]; omega), mck_s hi (by omega), sI_nn (by omega), mlet_e, mlet_e, sI_1, nar_f]
    refine ih (mset a 920 i 0, l) ⟨p1, fun c hc => ?_, fun b y u1 => ?_⟩
    · dsimp only
      by_cases e : c = i
      · rw [e, mset_s]
      · rw [mset_n (by omega)]
        exact p2 c (by omega)
    · dsimp only
      rw [mset_n (by omega)]
      exact p3 b y u1
  · rintro ⟨a, l⟩ r ⟨p1, p2, p3⟩
    dsimp only at p1 p2 p3
    subst p1
    show wq (fX18_anew_i37 fu 8 r (sI 32) a l) _
    unfold fX18_anew_i37
    rw [if_pos (show (32 : Int32) ≤ sI 32 by decide)]
    obtain ⟨M2, L2, e1, e2, e3, e4⟩ := wq_ex (m_anew58 (fu := fu) (a1 := 8) (M := a) (L := l) hf)
    dsimp only at e2 e3 e4
    refine ⟨_, e1, e2, ?_, fun k hk => ?_, e3, fun b y u => ?_⟩
    · dsimp only
      rw [e4 _ _ (by omega) (by omega) (by omega), e4 _ _ (by omega) (by omega) (by omega), e4 _ _ (by omega) (by omega) (by omega), e4 _ _ (by omega) (by omega) (by omega), e4 _ _ (by omega) (by omega) (by omega), e4 _ _ (by omega) (by omega) (by omega), e4 _ _ (by omega) (by omega) (by omega), p3 _ _ (by omega), p3 _ _ (by omega), p3 _ _ (by omega), p3 _ _ (by omega), p3 _ _ (by omega), p3 _ _ (by omega), p3 _ _ (by omega)]
      exact h1
    · dsimp only
      rw [e4 _ _ (by omega) (by omega) (by omega)]
      exact p2 k hk
    · dsimp only
      rw [e4 b y (by omega) (by omega) (by omega), p3 b y (by omega), f1 b y (by omega)]
/-- nothing is read yet -/
theorem PR_0 {A M : mwM} {Lc Lm : mwL} {n : Nat} {o : Nat → Nat → Nat} (hA : ClA A o) (hx : ∀ x, x < 12 → A (293 + 36 * x) 5 = -1) (h283 : ∀ i, i < 12 → A 283 i = -1) (h13 : A 1 3 = 0) (hM : M 732 14 = 0 ∧ M 732 19 = 0 ∧ M 732 20 = 0 ∧ M 732 24 = 0 ∧ M 732 33 = 0 ∧ M 732 45 = 0 ∧ M 732 55 = 0 ∧ M 732 62 = 0) (h902 : M 902 1 = 8 ∧ M 902 2 = 0 ∧ M 902 19 = 0 ∧ M 902 20 = 0 ∧ M 902 23 = 0 ∧ M 902 24 = 0 ∧ M 902 25 = 0) (h920 : ∀ k, k < 32 → M 920 k = 0) (h906 : ∀ j, j < 201 → M 906 j = 0 ∧ M 916 j = 0) (hB : PrB M Lc Lm) : PE A M Lc Lm n 0 := by
  obtain ⟨c1, ⟨c2, c3, c4, c5, c6, c7⟩, ⟨c8, c9, c10, c11⟩, c12, ⟨c13, c14, c15⟩, ⟨c16, c17, c18, c19⟩, _⟩ := hA
  obtain ⟨m14, m19, m20, m24, m33, m45, m55, m62⟩ := hM
  obtain ⟨t1, t2, t19, t20, t23, t24, t25⟩ := h902
  refine ⟨0, 0, 0, 0, 0, 0, 0, [], fun _ => 0, fun _ => 0, fun _ _ => 0, fun _ => false, fun _ _ => 0, fun _ _ => 0, fun _ _ => 0, ⟨⟨c2, m19, by omega⟩, ⟨c8, m24, by omega, fun i hi => absurd hi (by omega), fun i _ h => h283 i h⟩, ⟨c3, m33, by omega, fun x hx => absurd hx (by omega), fun x _ h => hx x h⟩, hB, ⟨c13, m45, by omega, fun s hs => absurd hs (by omega)⟩, ⟨⟨c15, by omega, fun i hi => absurd hi (by omega)⟩, ⟨m20, by omega, fun i hi => absurd hi (by omega)⟩, fun i hi => absurd hi (by omega)⟩, ⟨c4, m55, by omega, fun r hr => absurd hr (by omega)⟩, ⟨⟨c16, m62, by omega, fun w hw => absurd hw (by omega)⟩, ⟨by omega, c16, t2, t1, t23, by rw [c18, t24], c19, t25, h920, ⟨0, by omega, t20⟩, fun i hi => absurd hi (by omega), [], fun _ => 0, ⟨by decide, fun x hx => absurd hx (by simp), c17, fun e he => absurd he (by simp)⟩, ⟨fun i hi => absurd hi (by omega), fun i hi => absurd hi (by omega), List.Pairwise.nil, 0, by omega, t19, fun i hi => absurd hi (by omega)⟩, fun i hi => absurd hi (by simp)⟩, fun w hw => absurd hw (by omega), fun j j1 j2 => h906 j (by omega)⟩, ⟨⟨h13, by decide, fun i hi => absurd hi (by simp)⟩, fun q hq => absurd hq (by simp), ⟨m14, by decide, fun k hk => absurd hk (by simp [nsL])⟩, by omega, fun x hx => absurd hx (by omega)⟩, ⟨rfl, fun q hq => absurd hq (by simp)⟩⟩, by decide, by decide⟩
