/-! both sides' tasks -/
def RC (A M : mwM) (L : mwL) (T C tn cn U : Nat) : Prop :=
  T ≤ 12 ∧ C ≤ 6 ∧ tn < 100000000 ∧ cn < 100000000 ∧ A 5 3 = sI T ∧ M 787 1 = sI T ∧ M 787 7 = sI T ∧ M 787 0 = sI C ∧ A 5 4 = sI tn ∧ L 787 21 = sL tn ∧ M 787 29 = 0 ∧ M 787 35 = 0 ∧ (∀ r, 1 ≤ r → r ≤ 32 → M 806 r = 0) ∧ (∀ r, 1 ≤ r → r ≤ 16 → M 809 r = 0) ∧ M 787 39 = sI cn ∧ (∀ i, i < T → ∃ rk co pe mi nx st lf wa tu us dn, ti C tn U rk co pe mi nx st lf wa tu us dn ∧ tk A i rk co pe mi nx st lf wa tu us dn ∧ tm M L i rk co mi st lf wa tu us) ∧ ∀ c, c < 6 → ∃ w, A 18 c = oI w ∧ (∀ x, w = some x → x < T) ∧ ∀ i, i < T → ((A 8 i = sI c ∧ A 12 i = 2) ↔ w = some i)
theorem tk_f {A A' : mwM} {i rk co pe mi nx st lf wa tu us dn : Nat} (h : tk A i rk co pe mi nx st lf wa tu us dn) (hf : ∀ b, 7 ≤ b → b ≤ 17 → A' b i = A b i) : tk A' i rk co pe mi nx st lf wa tu us dn := by
  obtain ⟨h1, h2, h3, h4, h5, h6, h7, h8, h9, h10, h11⟩ := h
  exact ⟨(hf _ (by omega) (by omega)).trans h1, (hf _ (by omega) (by omega)).trans h2, (hf _ (by omega) (by omega)).trans h3, (hf _ (by omega) (by omega)).trans h4, (hf _ (by omega) (by omega)).trans h5, (hf _ (by omega) (by omega)).trans h6, (hf _ (by omega) (by omega)).trans h7, (hf _ (by omega) (by omega)).trans h8, (hf _ (by omega) (by omega)).trans h9, (hf _ (by omega) (by omega)).trans h10, (hf _ (by omega) (by omega)).trans h11⟩
theorem lfR_f {M M' : mwM} {L L' : mwL} {i mi lf : Nat} (h : lfR M L i mi lf) (h1 : M' 801 (i + 1) = M 801 (i + 1)) (h2 : M' 799 (i + 1) = M 799 (i + 1)) (h3 : L' 800 (i + 1) = L 800 (i + 1)) : lfR M' L' i mi lf := by
  unfold lfR at h ⊢
  rw [h1, h2, h3]
  exact h
theorem tm_f {M M' : mwM} {L L' : mwL} {i rk co mi st lf wa tu us : Nat} (h : tm M L i rk co mi st lf wa tu us) (hf : ∀ b, 788 ≤ b → b ≤ 810 → b ≠ 793 → b ≠ 794 → b ≠ 802 → b ≠ 803 → b ≠ 806 → b ≠ 808 → b ≠ 809 → M' b (i + 1) = M b (i + 1)) (h793 : M' 793 i = M 793 i) (h794 : M' 794 i = M 794 i) (h795 : L' 795 i = L 795 i) (hl : ∀ b, 797 ≤ b → b ≤ 805 → L' b (i + 1) = L b (i + 1)) : tm M' L' i rk co mi st lf wa tu us := by
  obtain ⟨h1, h2, h3, h4, h5, h6, h7, h8, h9, h10, h11, h12, h13⟩ := h
  refine ⟨?_, ?_, ?_, ?_, h793.trans h5, h794.trans h6, h795.trans h7, ?_, ?_, ?_, ?_, (hl _ (by omega) (by omega)).trans h12, fun hs => ⟨(hl _ (by omega) (by omega)).trans (h13 hs).1, lfR_f (h13 hs).2 ?_ ?_ (hl _ (by omega) (by omega))⟩⟩
  · exact (hf _ (by omega) (by omega) (by omega) (by omega) (by omega) (by omega) (by omega) (by omega) (by omega)).trans h1
  · exact (hf _ (by omega) (by omega) (by omega) (by omega) (by omega) (by omega) (by omega) (by omega) (by omega)).trans h2
  · exact (hf _ (by omega) (by omega) (by omega) (by omega) (by omega) (by omega) (by omega) (by omega) (by omega)).trans h3
  · exact (hf _ (by omega) (by omega) (by omega) (by omega) (by omega) (by omega) (by omega) (by omega) (by omega)).trans h4
  · exact (hf _ (by omega) (by omega) (by omega) (by omega) (by omega) (by omega) (by omega) (by omega) (by omega)).trans h8
  · exact (hf _ (by omega) (by omega) (by omega) (by omega) (by omega) (by omega) (by omega) (by omega) (by omega)).trans h9
  · exact (hf _ (by omega) (by omega) (by omega) (by omega) (by omega) (by omega) (by omega) (by omega) (by omega)).trans h10
  · exact (hf _ (by omega) (by omega) (by omega) (by omega) (by omega) (by omega) (by omega) (by omega) (by omega)).trans h11
  · exact hf _ (by omega) (by omega) (by omega) (by omega) (by omega) (by omega) (by omega) (by omega) (by omega)
  · exact hf _ (by omega) (by omega) (by omega) (by omega) (by omega) (by omega) (by omega) (by omega) (by omega)
/-- one task is activated, on the class's side -/
def act1 (A : mwM) (t j : Nat) : mwM :=
  if A 11 j = sI t then
    (if A 12 j = 0 then mset (mset (mset (mset (mset (mset A 11 j (A 11 j + A 9 j)) 5 6 0) 5 4 (A 5 4 + 1)) 12 j 1) 15 j (A 5 4 + 1)) 13 j (A 10 j + 1)
     else if A 14 j = 0 then mset (mset (mset A 11 j (A 11 j + A 9 j)) 5 6 0) 14 j 1 else mset (mset A 11 j (A 11 j + A 9 j)) 5 6 0)
  else A
def actN (A : mwM) (t : Nat) : Nat → mwM
  | 0 => A
  | j + 1 => act1 (actN A t j) t j
theorem act1_f {A : mwM} {t j b y : Nat} (h : ¬ (y = j ∧ (11 ≤ b ∧ b ≤ 15))) (h2 : ¬ (b = 5 ∧ (y = 4 ∨ y = 6))) : act1 A t j b y = A b y := by
  unfold act1
  split
  · split
    · rw [mset_n (by omega), mset_n (by omega), mset_n (by omega), mset_n (by omega), mset_n (by omega), mset_n (by omega)]
    · split
      · rw [mset_n (by omega), mset_n (by omega), mset_n (by omega)]
      · rw [mset_n (by omega), mset_n (by omega)]
  · rfl
theorem actN_f {A : mwM} {t b y : Nat} (h2 : ¬ (b = 5 ∧ (y = 4 ∨ y = 6))) : ∀ j, j ≤ y → actN A t j b y = A b y := by
  intro j
  induction j with
  | zero => intro _; rfl
  | succ j ih =>
    intro hj
    show act1 (actN A t j) t j b y = _
    rw [act1_f (by omega) h2, ih (by omega)]
theorem actN_g {A : mwM} {t b y : Nat} (h : ¬ (11 ≤ b ∧ b ≤ 15)) (h2 : ¬ (b = 5 ∧ (y = 4 ∨ y = 6))) : ∀ j, actN A t j b y = A b y := by
  intro j
  induction j with
  | zero => rfl
  | succ j ih =>
    show act1 (actN A t j) t j b y = _
    rw [act1_f (by omega) h2, ih]
theorem c_activate {fu : Nat} {A : mwM} {L : mwL} {T t : Nat} (hf : 13 ≤ fu) (hT : T ≤ 12) (h3 : A 5 3 = sI T) (hwa : ∀ j, j < T → A 14 j = 0 ∨ A 14 j = 1) : DX4_activateAll fu (sI t) A L = some (actN A t T, L) := by
  unfold DX4_activateAll
  have h := wq_for (body := fun r s => fX4_activateAll_i2 fu (sI t) r s.1 s.2.1 s.2.2) (Q := fun q => q = (actN A t T, L)) (fun j (_ : Unit) => (sI j, actN A t j, L)) (fun _ _ => True) T ?_ ?_ T 0 () fu (by omega) (by omega) trivial
  · obtain ⟨q, e, rfl⟩ := h
    exact e
  · intro j _ r hj _ ih
    show wq (fX4_activateAll_i2 fu (sI t) r (sI j) (actN A t j) L) _
    have hn := ih () trivial
    have e14 : actN A t j 14 j = A 14 j := actN_f (by omega) j (Nat.le_refl _)
    have hw := hwa j hj
    rw [← e14] at hw
    have h3' : actN A t j 5 3 = sI T := by rw [actN_g (by omega) (by omega)]; exact h3
    unfold fX4_activateAll_i2 fX4_activateAll_b93
    change wq (r (sI (j + 1), act1 (actN A t j) t j, L)) _ at hn
    generalize actN A t j = B at *
    rw [h3', if_neg (by rw [sI_le (by omega) (by omega)]; omega), mck_s (by omega) (by omega), sI_nn (by omega)]
    unfold act1 at hn
    by_cases h11 : B 11 j = sI t
    · rw [if_pos h11] at hn ⊢
      simp (disch := omega) only [mlet, mck_s, sI_nn]
      rw [sI_1]
      rw [show mset (mset B 11 j (B 11 j + B 9 j)) 5 6 0 12 j = B 12 j from by rw [mset_k (by decide), mset_k (by decide)]]
      rw [show mset (mset B 11 j (B 11 j + B 9 j)) 5 6 0 14 j = B 14 j from by rw [mset_k (by decide), mset_k (by decide)]]
      by_cases h12 : B 12 j = 0
      · rw [if_pos h12] at hn ⊢
        have hr : DX4_makeReady fu (sI j) (mset (mset B 11 j (B 11 j + B 9 j)) 5 6 0) L = some (mset (mset (mset (mset (mset (mset B 11 j (B 11 j + B 9 j)) 5 6 0) 5 4 (B 5 4 + 1)) 12 j 1) 15 j (B 5 4 + 1)) 13 j (B 10 j + 1), L) := by
          unfold DX4_makeReady
          simp (disch := omega) only [mlet, mck_s, sI_nn]
          rw [show mset (mset B 11 j (B 11 j + B 9 j)) 5 6 0 5 4 = B 5 4 from by rw [mset_j (by decide), mset_k (by decide)]]
          rw [show mset (mset (mset (mset B 11 j (B 11 j + B 9 j)) 5 6 0) 5 4 (B 5 4 + 1)) 12 j 1 5 4 = B 5 4 + 1 from by rw [mset_k (by decide), mset_s]]
          rw [show mset (mset (mset (mset (mset B 11 j (B 11 j + B 9 j)) 5 6 0) 5 4 (B 5 4 + 1)) 12 j 1) 15 j (B 5 4 + 1) 10 j = B 10 j from by rw [mset_k (by decide), mset_k (by decide), mset_k (by decide), mset_k (by decide), mset_k (by decide)]]
        rw [hr, mb2_s]
        exact hn
      · rw [if_neg h12] at hn ⊢
        rcases hw with h14 | h14
        · rw [h14, if_pos rfl] at hn
          rw [h14, if_neg (by decide)]
          exact hn
        · rw [h14, if_neg (by decide)] at hn
          rw [h14, if_pos (by decide)]
          exact hn
    · rw [if_neg h11] at hn ⊢
      simp only [mlet]
      rw [sI_1]
      exact hn
  · intro _ r _
    show wq (fX4_activateAll_i2 fu (sI t) r (sI T) (actN A t T) L) _
    unfold fX4_activateAll_i2
    rw [actN_g (by omega) (by omega), h3, if_pos (by rw [sI_le (by omega) (by omega)]; omega)]
    exact wq_some rfl
