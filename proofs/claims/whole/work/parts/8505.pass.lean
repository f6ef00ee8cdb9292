/-! the transfer's microsecond, whole -/
theorem mset_own {α : Type} {M : Nat → Nat → α} {a b : Nat} : mset M a b (M a b) = M := by
  funext x y
  by_cases c : x = a ∧ y = b
  · rw [c.1, c.2, mset_s]
  · rw [mset_n c]
/-- the numbers of a transfer that has handed its frames on -/
def SmN (n n' : Nat → Nat → Nat) (b b' : Nat → Nat → Bool) : Prop := (∀ i, i ≠ 0 → n' i = n i) ∧ (n' 0 0 = n 0 0 ∧ n' 0 1 = n 0 1 ∧ n' 0 3 = n 0 3 ∧ n' 0 4 = n 0 4) ∧ b' 0 = b 0 ∧ b' 1 = b 1 ∧ b' 3 = b 3
theorem TfV_sm {n n' : Nat → Nat → Nat} {b b' : Nat → Nat → Bool} (h : TfV n b) (hs : SmN n n' b b') (h2 : n' 0 2 ≤ n' 0 1) : TfV n' b' := by
  obtain ⟨s1, ⟨s2, s3, s4, s5⟩, s6, s7, s8⟩ := hs
  have ec : cbF n' b' = cbF n b := by
    funext m
    unfold cbF
    rw [s1 3 (by omega), s1 2 (by omega), s8]
  obtain ⟨⟨h1, h1', h1'', h1''', h1'4⟩, h3, h4, h5⟩ := h
  refine ⟨⟨by rw [s2]; exact h1, h2, by rw [s4]; exact h1'', by rw [s5, s2]; exact h1''', by rw [s3, s2, ec]; exact h1'4⟩, ?_, ?_, ?_⟩
  · rw [s2, s1 1 (by omega), s1 2 (by omega), s1 3 (by omega), s1 4 (by omega), s4, s5, s8]
    exact h3
  · rw [s1 5 (by omega), s1 6 (by omega), s1 7 (by omega), s1 8 (by omega), s1 9 (by omega), s1 2 (by omega), s2, s4]
    exact h4
  · rw [s1 10 (by omega), s1 11 (by omega), s1 12 (by omega), s1 3 (by omega), s1 2 (by omega), s2, s3, s7, s8]
    exact h5
theorem TfM_sm {M : mwM} {L : mwL} {τ : Nat} {n n' : Nat → Nat → Nat} {b b' : Nat → Nat → Bool} {o : Nat → Nat → Nat} {e : Nat → Nat} (h : TfM M L τ n b o e) (hs : SmN n n' b b') : TfM M L τ n' b' o e := by
  obtain ⟨s1, ⟨s2, s3, s4, s5⟩, s6, s7, s8⟩ := hs
  have en : nuO n' = nuO n := by
    funext m
    unfold nuO
    rw [s1 10 (by omega), s1 2 (by omega), s1 11 (by omega), s1 12 (by omega)]
  have ec : coO n' = coO n := by
    funext m
    unfold coO
    rw [s1 10 (by omega), s1 2 (by omega), s1 11 (by omega), s1 12 (by omega)]
  obtain ⟨h1, h2, h3, h4, h5, h6, h7⟩ := h
  refine ⟨?_, ?_, ?_, ?_, ?_, ?_, h7⟩
  · unfold TmG
    rw [s2, s3]
    exact h1
  · rw [s2, s1 2 (by omega)]
    exact h2
  · unfold TmM TmS
    rw [s2, s1 2 (by omega), s1 3 (by omega), s1 4 (by omega)]
    exact h3
  · rw [s2]
    exact h4
  · unfold TmR
    rw [s1 5 (by omega), s1 6 (by omega), s1 7 (by omega), s1 8 (by omega), s1 9 (by omega), s1 2 (by omega)]
    exact h5
  · unfold TmF
    rw [s3, en, ec, s1 10 (by omega), s1 11 (by omega), s1 12 (by omega), s7]
    exact h6
theorem TfT_sm {n n' : Nat → Nat → Nat} {b b' : Nat → Nat → Bool} {τ : Nat} (h : TfT n τ) (hs : SmN n n' b b') : TfT n' τ := by
  obtain ⟨s1, ⟨s2, s3, s4, s5⟩, _⟩ := hs
  unfold TfT
  rw [s2, s1 3 (by omega), s1 4 (by omega), s1 5 (by omega), s1 9 (by omega)]
  exact h
theorem TfC_sm {A A' : mwM} {n n' : Nat → Nat → Nat} {b b' : Nat → Nat → Bool} {o : Nat → Nat → Nat} (h : TfC A n b o) (hs : SmN n n' b b') (hK : n 0 0 ≤ 100) (hA : ∀ a y, 154 ≤ a → a ≤ 273 → ¬ (a = 154 ∧ (y = 7 ∨ y = 10)) → A' a y = A a y) (h7 : A' 154 7 = sI (n' 0 2)) (h10 : A' 154 10 = bI (b' 2 0)) : TfC A' n' b' o := by
  obtain ⟨s1, ⟨s2, s3, s4, s5⟩, s6, s7, s8⟩ := hs
  have hC : TfC A' (mset n 0 2 (n' 0 2)) (mset b 2 0 (b' 2 0)) o := by
    have hx : TfC (mset (mset A' 154 7 (A 154 7)) 154 10 (A 154 10)) n b o := TfC_w h hK (fun a y u1 u2 => by
      by_cases c1 : a = 154 ∧ y = 10
      · rw [c1.1, c1.2, mset_s]
      · rw [mset_n c1]
        by_cases c2 : a = 154 ∧ y = 7
        · rw [c2.1, c2.2, mset_s]
        · rw [mset_n c2]
          exact hA a y u1 u2 (by omega))
    obtain ⟨⟨k1, k2, k3, k4, k5, k6⟩, k7, k8, k9⟩ := hx
    have t : ∀ a y, ¬ (a = 154 ∧ (y = 7 ∨ y = 10)) → mset (mset A' 154 7 (A 154 7)) 154 10 (A 154 10) a y = A' a y := fun a y u => by rw [mset_n (by omega), mset_n (by omega)]
    have m0 : mset n 0 2 (n' 0 2) 0 0 = n 0 0 := mset_n (by omega)
    have m1 : mset n 0 2 (n' 0 2) 0 1 = n 0 1 := mset_n (by omega)
    have m3 : mset n 0 2 (n' 0 2) 0 3 = n 0 3 := mset_n (by omega)
    have m4 : mset n 0 2 (n' 0 2) 0 4 = n 0 4 := mset_n (by omega)
    have mi : ∀ i j, i ≠ 0 → mset n 0 2 (n' 0 2) i j = n i j := fun i j u => mset_n (by omega)
    have mb : ∀ i j, i ≠ 2 → mset b 2 0 (b' 2 0) i j = b i j := fun i j u => mset_n (by omega)
    refine ⟨⟨by rw [m0, ← t 154 5 (by omega)]; exact k1, by rw [m1, ← t 154 6 (by omega)]; exact k2, by rw [mset_s]; exact h7, by rw [m4, ← t 154 8 (by omega)]; exact k4, by rw [m3, ← t 154 9 (by omega)]; exact k5, by rw [mset_s]; exact h10⟩, fun m u1 u2 => ?_, fun r u => ?_, fun f u => ?_⟩
    · rw [m0] at u2
      obtain ⟨q1, q2, q3, q4, q5, q6⟩ := k7 m u1 u2
      exact ⟨by rw [mi _ _ (by omega), ← t _ _ (by omega)]; exact q1, by rw [mb _ _ (by omega), ← t _ _ (by omega)]; exact q2, by rw [mi _ _ (by omega), ← t _ _ (by omega)]; exact q3, by rw [mi _ _ (by omega), ← t _ _ (by omega)]; exact q4, fun w => by rw [mi _ _ (by omega)] at w; rw [mi _ _ (by omega), ← t _ _ (by omega)]; exact q5 w, fun i w => by rw [mi _ _ (by omega)] at w; rw [← t _ _ (by omega)]; exact q6 i w⟩
    · obtain ⟨q1, q2⟩ := k8 r u
      refine ⟨by rw [mi _ _ (by omega), ← t _ _ (by omega)]; exact q1, fun w => ?_⟩
      rw [mi _ _ (by omega)] at w
      obtain ⟨q3, q4, q5, q6⟩ := q2 w
      exact ⟨by rw [mi _ _ (by omega), ← t _ _ (by omega)]; exact q3, by rw [mi _ _ (by omega), ← t _ _ (by omega)]; exact q4, by rw [mi _ _ (by omega), ← t _ _ (by omega)]; exact q5, by rw [mi _ _ (by omega), ← t _ _ (by omega)]; exact q6⟩
    · rw [m1] at u
      obtain ⟨q1, q2, q3, q4⟩ := k9 f u
      exact ⟨by rw [mi _ _ (by omega), ← t _ _ (by omega)]; exact q1, by rw [mi _ _ (by omega), ← t _ _ (by omega)]; exact q2, by rw [mi _ _ (by omega), ← t _ _ (by omega)]; exact q3, by rw [mb _ _ (by omega), ← t _ _ (by omega)]; exact q4⟩
  obtain ⟨⟨k1, k2, k3, k4, k5, k6⟩, k7, k8, k9⟩ := hC
  rw [mset_n (by omega)] at k1 k2 k4 k5
  refine ⟨⟨by rw [s2]; exact k1, by rw [s3]; exact k2, h7, by rw [s5]; exact k4, by rw [s4]; exact k5, h10⟩, fun m u1 u2 => ?_, fun r u => ?_, fun f u => ?_⟩
  · rw [s2] at u2
    have := k7 m u1 (by rw [mset_n (by omega)]; exact u2)
    rw [mset_n (by omega), mset_n (by omega), mset_n (by omega), mset_n (by omega), mset_n (by omega)] at this
    rw [s1 1 (by omega), s6, s1 2 (by omega), s1 3 (by omega), s1 4 (by omega)]
    exact this
  · have := k8 r u
    rw [mset_n (by omega), mset_n (by omega), mset_n (by omega), mset_n (by omega), mset_n (by omega)] at this
    rw [s1 5 (by omega), s1 6 (by omega), s1 7 (by omega), s1 8 (by omega), s1 9 (by omega)]
    exact this
  · rw [s3] at u
    have := k9 f (by rw [mset_n (by omega)]; exact u)
    rw [mset_n (by omega), mset_n (by omega), mset_n (by omega), mset_n (by omega)] at this
    rw [s1 10 (by omega), s1 11 (by omega), s1 12 (by omega), s7]
    exact this
