/-! SYSTEM: the class clears -/
theorem c_clr7 {fu : Nat} {A : mwM} {L : mwL} (hf : 300 ≤ fu) : wq (DX7_clear fu A L) (fun z => z.2 = L ∧ z.1 275 8 = 0 ∧ (∀ c, c < 6 → z.1 276 c = 1 ∧ z.1 277 c = 0 ∧ z.1 278 c = 0 ∧ z.1 280 c = 0) ∧ ∀ a y, ¬ (275 ≤ a ∧ a ≤ 280) → z.1 a y = A a y) := by
  unfold DX7_clear
  rw [mlet_e]
  refine wq_for (body := fun r s => fX7_clear_i7 fu r s.1 s.2.1 s.2.2) (fun i (a : mwM × mwL) => (sI i, a.1, a.2)) (fun i a => a.2 = L ∧ a.1 275 8 = 0 ∧ (∀ c, c < i → a.1 276 c = 1 ∧ a.1 277 c = 0 ∧ a.1 278 c = 0 ∧ a.1 280 c = 0) ∧ ∀ b y, ¬ (275 ≤ b ∧ b ≤ 280) → a.1 b y = A b y) 6 ?_ ?_ 6 0 (mset A 275 8 0, L) fu (by omega) (by omega) ⟨rfl, (by dsimp only; rw [mset_s]), fun c h => by omega, fun b y u => (by dsimp only; rw [mset_n (by omega)])⟩
  · rintro i ⟨a, l⟩ r hi ⟨p1, p0, p2, p3⟩ ih
    dsimp only at p1 p0 p2 p3
    show wq (fX7_clear_i7 fu r (sI i) a l) _
    unfold fX7_clear_i7
    rw [if_neg (show ¬ (6 : Int32) ≤ sI i by rw [show (6 : Int32) = sI 6 from rfl, sI_le (by omega) (by omega)]; omega), nar_f]
    simp (disch := omega) only [mck_s, sI_nn, mlet_e, sI_1]
    refine ih (mset (mset (mset (mset a 276 i 1) 277 i 0) 278 i 0) 280 i 0, l) ⟨p1, by dsimp only; rw [mset_n (by omega), mset_n (by omega), mset_n (by omega), mset_n (by omega)]; exact p0, fun c hc => ?_, fun b y u1 => ?_⟩
    · dsimp only
      by_cases e : c = i
      · subst e
        simp (disch := omega) only [mset_n, mset_s]
        exact ⟨trivial, trivial, trivial, trivial⟩
      · have := p2 c (by omega)
        simp (disch := omega) only [mset_n]
        exact this
    · dsimp only
      simp (disch := omega) only [mset_n]
      exact p3 b y u1
  · rintro ⟨a, l⟩ r ⟨p1, p0, p2, p3⟩
    dsimp only at p1 p0 p2 p3
    show wq (fX7_clear_i7 fu r (sI 6) a l) _
    unfold fX7_clear_i7
    rw [if_pos (show (6 : Int32) ≤ sI 6 by decide)]
    exact wq_some ⟨p1, p0, p2, p3⟩
theorem c_clr4 {fu : Nat} {A : mwM} {L : mwL} (hf : 300 ≤ fu) : wq (DX4_clear fu A L) (fun z => z.2 = L ∧ (z.1 5 3 = 0 ∧ z.1 5 4 = 0 ∧ z.1 5 5 = 0 ∧ z.1 5 6 = 1) ∧ (∀ c, c < 6 → z.1 18 c = -1) ∧ ∀ a y, ¬ (a = 5 ∧ 3 ≤ y ∧ y ≤ 6) → a ≠ 18 → z.1 a y = A a y) := by
  unfold DX4_clear
  simp only [mlet_e]
  refine wq_for (body := fun r s => fX4_clear_i22 fu r s.1 s.2.1 s.2.2) (fun i (a : mwM × mwL) => (sI i, a.1, a.2)) (fun i a => a.2 = L ∧ (a.1 5 3 = 0 ∧ a.1 5 4 = 0 ∧ a.1 5 5 = 0 ∧ a.1 5 6 = 1) ∧ (∀ c, c < i → a.1 18 c = -1) ∧ ∀ b y, ¬ (b = 5 ∧ 3 ≤ y ∧ y ≤ 6) → b ≠ 18 → a.1 b y = A b y) 6 ?_ ?_ 6 0 (mset (mset (mset (mset A 5 3 0) 5 4 0) 5 5 0) 5 6 1, L) fu (by omega) (by omega) ⟨rfl, ?_, fun c h => by omega, fun b y u1 u2 => by dsimp only; rw [mset_n (by omega), mset_n (by omega), mset_n (by omega), mset_n (by omega)]⟩
  · rintro i ⟨a, l⟩ r hi ⟨p1, p0, p2, p3⟩ ih
    dsimp only at p1 p0 p2 p3
    show wq (fX4_clear_i22 fu r (sI i) a l) _
    unfold fX4_clear_i22
    rw [if_neg (show ¬ (6 : Int32) ≤ sI i by rw [show (6 : Int32) = sI 6 from rfl, sI_le (by omega) (by omega)]; omega), mck_s hi (by omega), sI_nn (by omega), mlet_e, mlet_e, sI_1]
    refine ih (mset a 18 i (-1), l) ⟨p1, by dsimp only; rw [mset_n (by omega), mset_n (by omega), mset_n (by omega), mset_n (by omega)]; exact p0, fun c hc => ?_, fun b y u1 u2 => ?_⟩
    · dsimp only
      by_cases e : c = i
      · rw [e, mset_s]
      · rw [mset_n (by omega)]
        exact p2 c (by omega)
    · dsimp only
      rw [mset_n (by omega)]
      exact p3 b y u1 u2
  · rintro ⟨a, l⟩ r ⟨p1, p0, p2, p3⟩
    dsimp only at p1 p0 p2 p3
    show wq (fX4_clear_i22 fu r (sI 6) a l) _
    unfold fX4_clear_i22
    rw [if_pos (show (6 : Int32) ≤ sI 6 by decide)]
    exact wq_some ⟨p1, p0, p2, p3⟩
  · dsimp only
    simp (disch := omega) only [mset_n, mset_s]
    exact ⟨trivial, trivial, trivial, trivial⟩
/-- what is cleared -/
abbrev ClA (A : mwM) (o : Nat → Nat → Nat) : Prop := (∀ k, k < 5 → A 292 k = 0) ∧ (A 3 13 = 0 ∧ A 3 14 = 0 ∧ A 3 15 = 0 ∧ A 3 16 = 0 ∧ A 3 17 = -1 ∧ A 3 18 = 0) ∧ (A 5 3 = 0 ∧ A 5 4 = 0 ∧ A 5 5 = 0 ∧ A 5 6 = 1) ∧ (∀ c, c < 6 → A 18 c = -1) ∧ (A 61 10 = 0 ∧ A 61 11 = 0 ∧ A 61 12 = 0) ∧ (A 139 2 = 0 ∧ A 139 3 = 0 ∧ A 139 4 = 0 ∧ A 139 5 = 0) ∧ TfC A tn0 tb0 o ∧ A 275 8 = 0 ∧ ∀ c, c < 6 → A 276 c = 1 ∧ A 277 c = 0 ∧ A 278 c = 0 ∧ A 280 c = 0
abbrev ClF (A A' : mwM) : Prop := ∀ a y, ¬ (a = 3 ∧ 13 ≤ y ∧ y ≤ 18) → ¬ (a = 5 ∧ 3 ≤ y ∧ y ≤ 6) → a ≠ 18 → ¬ (a = 61 ∧ 10 ≤ y ∧ y ≤ 14) → ¬ (a = 139 ∧ 2 ≤ y ∧ y ≤ 5) → a ≠ 154 → a ≠ 264 → ¬ (275 ≤ a ∧ a ≤ 280) → a ≠ 292 → A' a y = A a y
theorem c_clr68 {fu : Nat} {A : mwM} {L : mwL} {o : Nat → Nat → Nat} (hf : 300 ≤ fu) : wq (fX1_clear_h68 fu fu (0, A, L)) (fun z => z.2 = L ∧ ClA z.1 o ∧ ClF A z.1) := by
  refine wq_for (body := fun r s => fX1_clear_i68 fu r s.1 s.2.1 s.2.2) (fun i (a : mwM × mwL) => (sI i, a.1, a.2)) (fun i a => a.2 = L ∧ (∀ c, c < i → a.1 292 c = 0) ∧ ∀ b y, b ≠ 292 → a.1 b y = A b y) 5 ?_ ?_ 5 0 (A, L) fu (by omega) (by omega) ⟨rfl, fun c h => by omega, fun _ _ _ => rfl⟩
  · rintro i ⟨a, l⟩ r hi ⟨p1, p2, p3⟩ ih
    dsimp only at p1 p2 p3
    show wq (fX1_clear_i68 fu r (sI i) a l) _
    unfold fX1_clear_i68
    rw [if_neg (show ¬ (5 : Int32) ≤ sI i by rw [show (5 : Int32) = sI 5 from rfl, sI_le (by omega) (by omega)]; omega), mck_s hi (by omega), sI_nn (by omega), mlet_e, mlet_e, sI_1]
    refine ih (mset a 292 i 0, l) ⟨p1, fun c hc => ?_, fun b y u1 => ?_⟩
    · dsimp only
      by_cases e : c = i
      · rw [e, mset_s]
      · rw [mset_n (by omega)]
        exact p2 c (by omega)
    · dsimp only
      rw [mset_n (by omega)]
      exact p3 b y u1
  · rintro ⟨a, l⟩ r ⟨p1, p2, p3⟩
    dsimp only at p1 p2 p3
    subst p1
    show wq (fX1_clear_i68 fu r (sI 5) a l) _
    unfold fX1_clear_i68
    rw [if_pos (show (5 : Int32) ≤ sI 5 by decide)]
    simp only [mlet_e]
    generalize hA1 : mset (mset (mset (mset (mset (mset a 3 13 0) 3 14 0) 3 15 0) 3 16 0) 3 17 (-1)) 3 18 0 = A1
    have h3 : A1 3 13 = 0 ∧ A1 3 14 = 0 ∧ A1 3 15 = 0 ∧ A1 3 16 = 0 ∧ A1 3 17 = -1 ∧ A1 3 18 = 0 := by
      rw [← hA1]
      simp (disch := omega) only [mset_n, mset_s]
      exact ⟨trivial, trivial, trivial, trivial, trivial, trivial⟩
    have f1 : ∀ b y, ¬ (b = 3 ∧ 13 ≤ y ∧ y ≤ 18) → A1 b y = a b y := fun b y u => by
      rw [← hA1]
      simp (disch := omega) only [mset_n]
    obtain ⟨A2, L2, e1, e2, e3, e4, e5⟩ := wq_ex (c_clr4 (fu := fu) (A := A1) (L := l) hf)
    dsimp only at e2 e3 e4 e5
    subst e2
    rw [e1, mb2_s]
    unfold DX6_clear DX10_clear
    simp only [mlet_e, mb2_s]
    generalize hA3 : mset (mset (mset (mset (mset (mset (mset (mset A2 61 10 0) 61 11 0) 61 12 0) 61 14 1000000) 139 2 0) 139 3 0) 139 4 0) 139 5 0 = A3
    have h61 : (A3 61 10 = 0 ∧ A3 61 11 = 0 ∧ A3 61 12 = 0) ∧ (A3 139 2 = 0 ∧ A3 139 3 = 0 ∧ A3 139 4 = 0 ∧ A3 139 5 = 0) := by
      rw [← hA3]
      simp (disch := omega) only [mset_n, mset_s]
      exact ⟨⟨trivial, trivial, trivial⟩, trivial, trivial, trivial, trivial⟩
    have f3 : ∀ b y, ¬ (b = 61 ∧ 10 ≤ y ∧ y ≤ 14) → ¬ (b = 139 ∧ 2 ≤ y ∧ y ≤ 5) → A3 b y = A2 b y := fun b y u1 u2 => by
      rw [← hA3]
      simp (disch := omega) only [mset_n]
    obtain ⟨A4, L4, g1, g2, g3, g4⟩ := wq_ex (c_clear9 (fu := fu) (A := A3) (L := L2) (o := o) (by omega))
    dsimp only at g2 g3 g4
    subst g2
    rw [g1, mb2_s]
    obtain ⟨A5, L5, k1, k2, k3, k4, k5⟩ := wq_ex (c_clr7 (fu := fu) (A := A4) (L := L4) hf)
    dsimp only at k2 k3 k4 k5
    subst k2
    rw [k1, mb2_s]
    have F5 : ∀ b y, ¬ (275 ≤ b ∧ b ≤ 280) → b ≠ 154 → b ≠ 264 → A5 b y = A3 b y := fun b y u1 u2 u3 => by rw [k5 b y u1, g4 b y (by omega)]
    have F2 : ∀ b y, ¬ (275 ≤ b ∧ b ≤ 280) → b ≠ 154 → b ≠ 264 → ¬ (b = 61 ∧ 10 ≤ y ∧ y ≤ 14) → ¬ (b = 139 ∧ 2 ≤ y ∧ y ≤ 5) → A5 b y = A2 b y := fun b y u1 u2 u3 u4 u5 => by rw [F5 b y u1 u2 u3, f3 b y u4 u5]
    have F1 : ∀ b y, ¬ (275 ≤ b ∧ b ≤ 280) → b ≠ 154 → b ≠ 264 → ¬ (b = 61 ∧ 10 ≤ y ∧ y ≤ 14) → ¬ (b = 139 ∧ 2 ≤ y ∧ y ≤ 5) → ¬ (b = 5 ∧ 3 ≤ y ∧ y ≤ 6) → b ≠ 18 → A5 b y = A1 b y := fun b y u1 u2 u3 u4 u5 u6 u7 => by rw [F2 b y u1 u2 u3 u4 u5, e5 b y u6 u7]
    refine wq_some ⟨rfl, ⟨fun k hk => ?_, ?_, ?_, fun c hc => ?_, ?_, ?_, TfC_w g3 (by decide) (fun b y u1 u2 => k5 b y (by omega)), k3, k4⟩, fun b y u1 u2 u3 u4 u5 u6 u7 u8 u9 => ?_⟩
    · dsimp only
      rw [F1 _ _ (by omega) (by omega) (by omega) (by omega) (by omega) (by omega) (by omega), f1 _ _ (by omega)]
      exact p2 k hk
    · dsimp only
      rw [F1 _ _ (by omega) (by omega) (by omega) (by omega) (by omega) (by omega) (by omega), F1 _ _ (by omega) (by omega) (by omega) (by omega) (by omega) (by omega) (by omega), F1 _ _ (by omega) (by omega) (by omega) (by omega) (by omega) (by omega) (by omega), F1 _ _ (by omega) (by omega) (by omega) (by omega) (by omega) (by omega) (by omega), F1 _ _ (by omega) (by omega) (by omega) (by omega) (by omega) (by omega) (by omega), F1 _ _ (by omega) (by omega) (by omega) (by omega) (by omega) (by omega) (by omega)]
      exact h3
    · dsimp only
      rw [F2 _ _ (by omega) (by omega) (by omega) (by omega) (by omega), F2 _ _ (by omega) (by omega) (by omega) (by omega) (by omega), F2 _ _ (by omega) (by omega) (by omega) (by omega) (by omega), F2 _ _ (by omega) (by omega) (by omega) (by omega) (by omega)]
      exact e3
    · dsimp only
      rw [F2 _ _ (by omega) (by omega) (by omega) (by omega) (by omega)]
      exact e4 c hc
    · dsimp only
      rw [F5 _ _ (by omega) (by omega) (by omega), F5 _ _ (by omega) (by omega) (by omega), F5 _ _ (by omega) (by omega) (by omega)]
      exact h61.1
    · dsimp only
      rw [F5 _ _ (by omega) (by omega) (by omega), F5 _ _ (by omega) (by omega) (by omega), F5 _ _ (by omega) (by omega) (by omega), F5 _ _ (by omega) (by omega) (by omega)]
      exact h61.2
    · dsimp only
      rw [F1 b y u8 u6 u7 u4 u5 u2 u3, f1 b y u1, p3 b y u9]
