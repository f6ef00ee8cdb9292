/-! JOINING: the reference's numbers at the start -/
/-- cleared one by one -/
abbrev b4M (M : mwM) : Prop := (∀ k, k < 7 → M 924 k = 0) ∧ (∀ k, k < 5 → M 939 k = 0) ∧ ∀ c, c < 6 → M 923 c = 0 ∧ M 934 c = 1 ∧ M 935 c = 0 ∧ M 936 c = 0 ∧ M 937 c = 0 ∧ M 938 c = 0
theorem m_b256 {fu : Nat} {M : mwM} {L : mwL} (hf : 300 ≤ fu) : wq (fX19_build_h256 fu fu (0, M, L)) (fun z => z.1 = 1 ∧ z.2.2 = L ∧ (∀ c, c < 6 → z.2.1 923 c = 0 ∧ z.2.1 934 c = 1 ∧ z.2.1 935 c = 0 ∧ z.2.1 936 c = 0 ∧ z.2.1 937 c = 0 ∧ z.2.1 938 c = 0) ∧ ∀ a y, a ≠ 923 → ¬ (934 ≤ a ∧ a ≤ 938) → z.2.1 a y = M a y) := by
  refine wq_for (body := fun r s => fX19_build_i256 fu r s.1 s.2.1 s.2.2) (fun i (a : mwM × mwL) => (sI i, a.1, a.2)) (fun i a => a.2 = L ∧ (∀ c, c < i → a.1 923 c = 0 ∧ a.1 934 c = 1 ∧ a.1 935 c = 0 ∧ a.1 936 c = 0 ∧ a.1 937 c = 0 ∧ a.1 938 c = 0) ∧ ∀ b y, b ≠ 923 → ¬ (934 ≤ b ∧ b ≤ 938) → a.1 b y = M b y) 6 ?_ ?_ 6 0 (M, L) fu (by omega) (by omega) ⟨rfl, fun c h => by omega, fun _ _ _ _ => rfl⟩
  · rintro i ⟨a, l⟩ r hi ⟨p1, p2, p3⟩ ih
    dsimp only at p1 p2 p3
    show wq (fX19_build_i256 fu r (sI i) a l) _
    unfold fX19_build_i256
    rw [if_neg (show ¬ (6 : Int32) ≤ sI i by rw [show (6 : Int32) = sI 6 from rfl, sI_le (by omega) (by omega)]; omega), nar_f]
    simp (disch := omega) only [mck_s, sI_nn, mlet_e, sI_1]
    refine ih (mset (mset (mset (mset (mset (mset a 923 i 0) 934 i 1) 935 i 0) 936 i 0) 937 i 0) 938 i 0, l) ⟨p1, fun c hc => ?_, fun b y u1 u2 => ?_⟩
    · dsimp only
      by_cases e : c = i
      · subst e
        simp (disch := omega) only [mset_n, mset_s]
        exact ⟨trivial, trivial, trivial, trivial, trivial, trivial⟩
      · have := p2 c (by omega)
        simp (disch := omega) only [mset_n]
        exact this
    · dsimp only
      simp (disch := omega) only [mset_n]
      exact p3 b y u1 u2
  · rintro ⟨a, l⟩ r ⟨p1, p2, p3⟩
    dsimp only at p1 p2 p3
    show wq (fX19_build_i256 fu r (sI 6) a l) _
    unfold fX19_build_i256
    rw [if_pos (show (6 : Int32) ≤ sI 6 by decide)]
    exact wq_some ⟨rfl, p1, p2, p3⟩
theorem m_b234 {fu : Nat} {M : mwM} {L : mwL} (hf : 300 ≤ fu) : wq (fX19_build_h234 fu fu (0, M, L)) (fun z => z.1 = 1 ∧ (∀ k, k < 240 → z.2.2 786 k = 0) ∧ (∀ a y, a ≠ 786 → z.2.2 a y = L a y) ∧ (∀ c, c < 6 → z.2.1 923 c = 0 ∧ z.2.1 934 c = 1 ∧ z.2.1 935 c = 0 ∧ z.2.1 936 c = 0 ∧ z.2.1 937 c = 0 ∧ z.2.1 938 c = 0) ∧ ∀ a y, a ≠ 923 → ¬ (934 ≤ a ∧ a ≤ 938) → z.2.1 a y = M a y) := by
  refine wq_for (body := fun r s => fX19_build_i234 fu r s.1 s.2.1 s.2.2) (fun i (a : mwM × mwL) => (sI i, a.1, a.2)) (fun i a => a.1 = M ∧ (∀ c, c < i → a.2 786 c = 0) ∧ ∀ b y, b ≠ 786 → a.2 b y = L b y) 240 ?_ ?_ 240 0 (M, L) fu (by omega) (by omega) ⟨rfl, fun c h => by omega, fun _ _ _ => rfl⟩
  · rintro i ⟨a, l⟩ r hi ⟨p1, p2, p3⟩ ih
    dsimp only at p1 p2 p3
    show wq (fX19_build_i234 fu r (sI i) a l) _
    unfold fX19_build_i234
    rw [if_neg (show ¬ (240 : Int32) ≤ sI i by rw [show (240 : Int32) = sI 240 from rfl, sI_le (by omega) (by omega)]; omega), mck_s hi (by omega), sI_nn (by omega), mlet_e, mlet_e, sI_1]
    refine ih (a, mset l 786 i 0) ⟨p1, fun c hc => ?_, fun b y u1 => ?_⟩
    · dsimp only
      by_cases e : c = i
      · rw [e, mset_s]
      · rw [mset_n (by omega)]
        exact p2 c (by omega)
    · dsimp only
      rw [mset_n (by omega)]
      exact p3 b y u1
  · rintro ⟨a, l⟩ r ⟨p1, p2, p3⟩
    dsimp only at p1 p2 p3
    subst p1
    show wq (fX19_build_i234 fu r (sI 240) a l) _
    unfold fX19_build_i234
    rw [if_pos (show (240 : Int32) ≤ sI 240 by decide)]
    obtain ⟨⟨r1, M1, L1⟩, e, z1, z2, z3, z4⟩ := m_b256 (fu := fu) (M := a) (L := l) hf
    dsimp only at z1 z2 z3 z4
    subst z2
    exact ⟨_, e, z1, p2, p3, z3, z4⟩
theorem m_b214 {fu : Nat} {M : mwM} {L : mwL} (hf : 300 ≤ fu) : wq (fX19_build_h214 fu fu (0, M, L)) (fun z => z.1 = 1 ∧ (∀ k, k < 5 → z.2.1 939 k = 0) ∧ (∀ k, k < 240 → z.2.2 786 k = 0) ∧ (∀ a y, a ≠ 786 → z.2.2 a y = L a y) ∧ (∀ c, c < 6 → z.2.1 923 c = 0 ∧ z.2.1 934 c = 1 ∧ z.2.1 935 c = 0 ∧ z.2.1 936 c = 0 ∧ z.2.1 937 c = 0 ∧ z.2.1 938 c = 0) ∧ ∀ a y, a ≠ 923 → ¬ (934 ≤ a ∧ a ≤ 939) → z.2.1 a y = M a y) := by
  refine wq_for (body := fun r s => fX19_build_i214 fu r s.1 s.2.1 s.2.2) (fun i (a : mwM × mwL) => (sI i, a.1, a.2)) (fun i a => a.2 = L ∧ (∀ c, c < i → a.1 939 c = 0) ∧ ∀ b y, b ≠ 939 → a.1 b y = M b y) 5 ?_ ?_ 5 0 (M, L) fu (by omega) (by omega) ⟨rfl, fun c h => by omega, fun _ _ _ => rfl⟩
  · rintro i ⟨a, l⟩ r hi ⟨p1, p2, p3⟩ ih
    dsimp only at p1 p2 p3
    show wq (fX19_build_i214 fu r (sI i) a l) _
    unfold fX19_build_i214
    rw [if_neg (show ¬ (5 : Int32) ≤ sI i by rw [show (5 : Int32) = sI 5 from rfl, sI_le (by omega) (by omega)]; omega), mck_s hi (by omega), sI_nn (by omega), mlet_e, mlet_e, sI_1]
    refine ih (mset a 939 i 0, l) ⟨p1, fun c hc => ?_, fun b y u1 => ?_⟩
    · dsimp only
      by_cases e : c = i
      · rw [e, mset_s]
      · rw [mset_n (by omega)]
        exact p2 c (by omega)
    · dsimp only
      rw [mset_n (by omega)]
      exact p3 b y u1
  · rintro ⟨a, l⟩ r ⟨p1, p2, p3⟩
    dsimp only at p1 p2 p3
    subst p1
    show wq (fX19_build_i214 fu r (sI 5) a l) _
    unfold fX19_build_i214
    rw [if_pos (show (5 : Int32) ≤ sI 5 by decide)]
    obtain ⟨⟨r1, M1, L1⟩, e, z1, z2, z3, z4, z5⟩ := m_b234 (fu := fu) (M := a) (L := l) hf
    dsimp only at z1 z2 z3 z4 z5
    exact ⟨_, e, z1, fun k hk => by dsimp only; rw [z5 _ _ (by omega) (by omega)]; exact p2 k hk, z2, z3, z4, fun b y u1 u2 => by dsimp only; rw [z5 b y u1 (by omega), p3 b y (by omega)]⟩
theorem m_b193 {fu : Nat} {M : mwM} {L : mwL} (hf : 300 ≤ fu) : wq (fX19_build_h193 fu fu (0, M, L)) (fun z => z.1 = 1 ∧ b4M z.2.1 ∧ (∀ k, k < 240 → z.2.2 786 k = 0) ∧ (∀ a y, a ≠ 786 → z.2.2 a y = L a y) ∧ ∀ a y, a ≠ 923 → a ≠ 924 → ¬ (934 ≤ a ∧ a ≤ 939) → z.2.1 a y = M a y) := by
  refine wq_for (body := fun r s => fX19_build_i193 fu r s.1 s.2.1 s.2.2) (fun i (a : mwM × mwL) => (sI i, a.1, a.2)) (fun i a => a.2 = L ∧ (∀ c, c < i → a.1 924 c = 0) ∧ ∀ b y, b ≠ 924 → a.1 b y = M b y) 7 ?_ ?_ 7 0 (M, L) fu (by omega) (by omega) ⟨rfl, fun c h => by omega, fun _ _ _ => rfl⟩
  · rintro i ⟨a, l⟩ r hi ⟨p1, p2, p3⟩ ih
    dsimp only at p1 p2 p3
    show wq (fX19_build_i193 fu r (sI i) a l) _
    unfold fX19_build_i193
    rw [if_neg (show ¬ (7 : Int32) ≤ sI i by rw [show (7 : Int32) = sI 7 from rfl, sI_le (by omega) (by omega)]; omega), mck_s hi (by omega), sI_nn (by omega), mlet_e, mlet_e, sI_1]
    refine ih (mset a 924 i 0, l) ⟨p1, fun c hc => ?_, fun b y u1 => ?_⟩
    · dsimp only
      by_cases e : c = i
      · rw [e, mset_s]
      · rw [mset_n (by omega)]
        exact p2 c (by omega)
    · dsimp only
      rw [mset_n (by omega)]
      exact p3 b y u1
  · rintro ⟨a, l⟩ r ⟨p1, p2, p3⟩
    dsimp only at p1 p2 p3
    subst p1
    show wq (fX19_build_i193 fu r (sI 7) a l) _
    unfold fX19_build_i193
    rw [if_pos (show (7 : Int32) ≤ sI 7 by decide)]
    obtain ⟨⟨r1, M1, L1⟩, e, z1, z2, z3, z4, z5, z6⟩ := m_b214 (fu := fu) (M := a) (L := l) hf
    dsimp only at z1 z2 z3 z4 z5 z6
    exact ⟨_, e, z1, ⟨fun k hk => by dsimp only; rw [z6 _ _ (by omega) (by omega)]; exact p2 k hk, z2, z5⟩, z3, z4, fun b y u1 u2 u3 => by dsimp only; rw [z6 b y u1 (by omega), p3 b y u2]⟩
theorem m_btail {fu T : Nat} {M : mwM} {L : mwL} {r : (Int32 × mwM × mwL) → Option (Int32 × mwM × mwL)} (hf : 300 ≤ fu) (hT : T ≤ 12) (h24 : M 732 24 = sI T) : wq (fX19_build_i36 fu r (sI T) M L) (fun z => z.1 = 1 ∧ b4M z.2.1 ∧ (∀ k, k < 240 → z.2.2 786 k = 0) ∧ (∀ a y, a ≠ 786 → z.2.2 a y = L a y) ∧ (z.2.1 732 83 = 0 ∧ z.2.1 732 88 = 0 ∧ z.2.1 732 91 = 0 ∧ z.2.1 732 94 = 0 ∧ z.2.1 732 95 = 0 ∧ z.2.1 732 96 = 0 ∧ z.2.1 732 97 = -1 ∧ z.2.1 732 98 = 0 ∧ z.2.1 732 108 = 0) ∧ ∀ a y, a ≠ 923 → a ≠ 924 → ¬ (934 ≤ a ∧ a ≤ 939) → ¬ (a = 732 ∧ 83 ≤ y) → z.2.1 a y = M a y) := by
  unfold fX19_build_i36
  rw [h24, if_pos (show sI T ≤ sI T by rw [sI_le (by omega) (by omega)]; omega)]
  simp only [mlet_e]
  obtain ⟨⟨r1, M1, L1⟩, e, z1, z2, z3, z4, z5⟩ := m_b193 (fu := fu) (M := mset (mset (mset (mset (mset (mset (mset (mset (mset M 732 83 0) 732 88 0) 732 91 0) 732 94 0) 732 95 0) 732 96 0) 732 97 (-1)) 732 98 0) 732 108 0) (L := L) hf
  dsimp only at z1 z2 z3 z4 z5
  refine ⟨_, e, z1, z2, z3, z4, ?_, fun a y u1 u2 u3 u4 => ?_⟩
  · dsimp only
    rw [z5 732 83 (by omega) (by omega) (by omega), z5 732 88 (by omega) (by omega) (by omega), z5 732 91 (by omega) (by omega) (by omega), z5 732 94 (by omega) (by omega) (by omega), z5 732 95 (by omega) (by omega) (by omega), z5 732 96 (by omega) (by omega) (by omega), z5 732 97 (by omega) (by omega) (by omega), z5 732 98 (by omega) (by omega) (by omega), z5 732 108 (by omega) (by omega) (by omega)]
    simp (disch := omega) only [mset_n, mset_s]
    exact ⟨trivial, trivial, trivial, trivial, trivial, trivial, trivial, trivial, trivial⟩
  · dsimp only
    rw [z5 a y u1 u2 u3]
    simp (disch := omega) only [mset_n]
