/-! CODES, as both sides keep them -/
def scN (S : Nat → Nat) (key : Nat) : Nat → Nat := schL S (fun i => key + i) 160
def KnC (A : mwM) (S : Nat → Nat) (key : Nat) : Prop := A 136 key = 1 ∧ bytes A (101 + key) 176 (scN S key) ∧ bytes A (119 + key) 16 (dbS (dbS (encN S dblN (scN S key) (fun _ => 0) 10)))
def RCd (A M : mwM) (S : Nat → Nat) : Prop :=
  bytes A 98 256 S ∧ bytes A 99 256 dblN ∧ bytes M 868 256 S ∧ M 854 1 = 16 ∧ M 854 6 = 0 ∧ (∀ k, 1 ≤ k → k ≤ 16 → ∀ i, i < 16 → M 855 (16 * k + i) = sI (k + i)) ∧ ∀ key, key < 17 → A 136 key = 0 ∨ KnC A S key
theorem RCd_fr {A A' M M' : mwM} {S : Nat → Nat} (h : RCd A M S) (hA : ∀ a y, 98 ≤ a → a ≤ 136 → A' a y = A a y) (hM : ∀ a y, (a = 854 ∧ (y = 1 ∨ y = 6)) ∨ a = 855 ∨ a = 868 → M' a y = M a y) : RCd A' M' S := by
  obtain ⟨h1, h2, h3, h4, h5, h6, h7⟩ := h
  refine ⟨fun i u => ?_, fun i u => ?_, fun i u => ?_, ?_, ?_, fun k u1 u2 i u => ?_, fun key u => ?_⟩
  · rw [hA 98 i (by omega) (by omega)]; exact h1 i u
  · rw [hA 99 i (by omega) (by omega)]; exact h2 i u
  · rw [hM 868 i (by omega)]; exact h3 i u
  · rw [hM 854 1 (by omega)]; exact h4
  · rw [hM 854 6 (by omega)]; exact h5
  · rw [hM 855 _ (by omega)]; exact h6 k u1 u2 i u
  · rcases h7 key u with q | ⟨q1, q2, q3⟩
    · left
      rw [hA 136 key (by omega) (by omega)]; exact q
    · right
      refine ⟨by rw [hA 136 key (by omega) (by omega)]; exact q1, fun i w => ?_, fun i w => ?_⟩
      · rw [hA _ i (by omega) (by omega)]; exact q2 i w
      · rw [hA _ i (by omega) (by omega)]; exact q3 i w
theorem c_learn3 {fu key : Nat} {A M : mwM} {L : mwL} {S : Nat → Nat} (hf : 200 ≤ fu) (hk : key < 17) (h : RCd A M S) : wq (DX3_learn fu (sI key) A L) (fun z => z.2 = L ∧ RCd z.1 M S ∧ KnC z.1 S key ∧ (∀ k, k < 17 → KnC A S k → KnC z.1 S k) ∧ ∀ a y, ¬ (101 ≤ a ∧ a ≤ 138) → z.1 a y = A a y) := by
  obtain ⟨h1, h2, h3, h4, h5, h6, h7⟩ := h
  unfold DX3_learn fX3_learn_b26
  rw [mck_s hk (by omega), sI_nn (by omega), mck_s hk (by omega)]
  simp only [mlet]
  rw [show vp_nar .boolean 1 = 1 by decide]
  rcases h7 key hk with q | q
  · rw [if_pos q]
    refine wq_b2 (c_spread (S := S) (by omega) hk (fun i u => by rw [mset_n (by omega)]; exact h1 i u) (fun i u => by rw [mset_n (by omega)]; exact h2 i u)) ?_
    rintro M1 L1 ⟨y1, y2, y3⟩
    dsimp only at y1 y2 y3
    subst y1
    refine wq_b2 (c_second (S := S) (rk := scN S key) (by omega) hk (fun i u => by rw [y3 98 i (by omega), mset_n (by omega)]; exact h1 i u) (fun i u => by rw [y3 99 i (by omega), mset_n (by omega)]; exact h2 i u) y2) ?_
    rintro M2 L2 ⟨w1, w2, w3⟩
    dsimp only at w1 w2 w3
    subst w1
    have fr : ∀ a y, a ≠ 137 → a ≠ 138 → a ≠ 119 + key → a ≠ 101 + key → ¬ (a = 136 ∧ y = key) → M2 a y = A a y := fun a y u1 u2 u3 u4 u5 => by
      rw [w3 a y u1 u2 u3, y3 a y u4, mset_n u5]
    have kn : KnC M2 S key := by
      refine ⟨?_, fun i u => ?_, w2⟩
      · rw [w3 136 key (by omega) (by omega) (by omega), y3 136 key (by omega), mset_s]
      · rw [w3 _ i (by omega) (by omega) (by omega)]; exact y2 i u
    have oth : ∀ k, k < 17 → KnC A S k → KnC M2 S k := by
      intro k hk2 ⟨q1, q2, q3⟩
      by_cases hq : k = key
      · rw [hq]; exact kn
      · refine ⟨by rw [fr 136 k (by omega) (by omega) (by omega) (by omega) (by omega)]; exact q1, fun i u => ?_, fun i u => ?_⟩
        · rw [fr _ i (by omega) (by omega) (by omega) (by omega) (by omega)]; exact q2 i u
        · rw [fr _ i (by omega) (by omega) (by omega) (by omega) (by omega)]; exact q3 i u
    refine wq_some ⟨rfl, ⟨fun i u => ?_, fun i u => ?_, h3, h4, h5, h6, fun k u => ?_⟩, kn, oth, fun a y u => ?_⟩
    · dsimp only
      rw [fr 98 i (by omega) (by omega) (by omega) (by omega) (by omega)]; exact h1 i u
    · dsimp only
      rw [fr 99 i (by omega) (by omega) (by omega) (by omega) (by omega)]; exact h2 i u
    · dsimp only
      by_cases hq : k = key
      · rw [hq]; exact Or.inr kn
      · rcases h7 k u with z | z
        · left
          rw [fr 136 k (by omega) (by omega) (by omega) (by omega) (by omega)]; exact z
        · exact Or.inr (oth k u z)
    · exact fr a y (by omega) (by omega) (by omega) (by omega) (by omega)
  · rw [if_neg (by rw [q.1]; decide)]
    exact wq_some ⟨rfl, ⟨h1, h2, h3, h4, h5, h6, h7⟩, q, fun _ _ z => z, fun _ _ _ => rfl⟩
def sam4 (x w : Nat → Nat) : Bool := x 0 == w 0 && (x 1 == w 1 && (x 2 == w 2 && x 3 == w 3))
theorem sam4_t {x w : Nat → Nat} (h : ∀ i, i < 4 → x i = w i) : sam4 x w = true := by
  unfold sam4
  rw [h 0 (by omega), h 1 (by omega), h 2 (by omega), h 3 (by omega)]
  simp
theorem sam4_f {x w : Nat → Nat} {i : Nat} (hi : i < 4) (h : x i ≠ w i) : sam4 x w = false := by
  unfold sam4
  rcases (show i = 0 ∨ i = 1 ∨ i = 2 ∨ i = 3 by omega) with rfl | rfl | rfl | rfl <;> simp [h]
theorem c_isOut3 {fu row n1 fr : Nat} {A : mwM} {L : mwL} {x w : Nat → Nat} (hf : 10 ≤ fu) (hn : fr + 4 ≤ n1) (hn2 : n1 < 1000) (hr : ∀ i, i < 4 → A row (fr + i) = sI (x i) ∧ x i < 256) (ho : ∀ i, i < 4 → A 138 i = sI (w i) ∧ w i < 256) : DX3_isOut fu row n1 (sI fr) A L = some (bI (sam4 x w), A, L) := by
  unfold DX3_isOut
  have key : ∀ (m i f : Nat), i + m = 4 → m < f → (∀ j, j < i → x j = w j) → fX3_isOut_h2 fu row n1 (sI fr) f (sI i, A, L) = some (bI (sam4 x w), A, L) := by
    intro m
    induction m with
    | zero =>
      intro i f hi hf1 hj
      obtain ⟨g, rfl⟩ : ∃ g, f = g + 1 := ⟨f - 1, by omega⟩
      have : i = 4 := by omega
      subst this
      unfold fX3_isOut_h2
      rw [mloop_S]
      show fX3_isOut_i2 fu row n1 (sI fr) _ (sI 4) A L = _
      unfold fX3_isOut_i2
      rw [if_pos (by decide), sam4_t hj]
      rfl
    | succ m ih =>
      intro i f hi hf1 hj
      obtain ⟨g, rfl⟩ : ∃ g, f = g + 1 := ⟨f - 1, by omega⟩
      unfold fX3_isOut_h2
      rw [mloop_S]
      show fX3_isOut_i2 fu row n1 (sI fr) (fX3_isOut_h2 fu row n1 (sI fr) g) (sI i) A L = _
      unfold fX3_isOut_i2
      obtain ⟨r1, r2⟩ := hr i (by omega)
      obtain ⟨o1, o2⟩ := ho i (by omega)
      rw [if_neg (by rw [sI_lle (by decide) (by omega)]; omega), sI_add, mck_s (by omega) (by omega), mck_s (by omega) (by omega), sI_nn (by omega), sI_nn (by omega), r1, o1]
      simp only [mlet]
      rw [sI_1]
      by_cases hq : x i = w i
      · rw [if_pos (by rw [hq])]
        refine ih (i + 1) g (by omega) (by omega) (fun j u => ?_)
        by_cases hji : j = i
        · rw [hji]; exact hq
        · exact hj j (by omega)
      · rw [if_neg (by rw [sI_eq (by omega) (by omega)]; exact hq), sam4_f (show i < 4 by omega) hq]
        rfl
  exact key 4 0 fu (by omega) (by omega) (fun j u => by omega)
