/-! the reference's cores, made anew and filled with tasks -/
def CZ (M : mwM) (L : mwL) (C : Nat) : Prop := M 787 0 = sI C ∧ L 787 21 = sL 0 ∧ L 787 43 = sL 0 ∧ M 787 29 = 0 ∧ M 787 35 = 0 ∧ M 787 39 = sI 0 ∧ (∀ r, 1 ≤ r → r ≤ 32 → M 806 r = 0) ∧ (∀ r, 1 ≤ r → r ≤ 16 → M 809 r = 0) ∧ ∀ t, t < 101 → M 796 t = 0 ∧ M 798 t = 0 ∧ M 804 t = 0 ∧ M 810 t = 0 ∧ L 805 t = sL 0
theorem m_anew15 {fu : Nat} {M : mwM} {L : mwL} {C : Nat} (hf : 102 ≤ fu) : wq (DX15_anew fu (sI C) M L) (fun q => CZ q.1 q.2 C ∧ q.1 787 1 = sI 0 ∧ q.1 787 7 = sI 0 ∧ q.1 787 32 = sI 0 ∧ (∀ b y, (b < 787 ∨ 820 < b) → q.1 b y = M b y) ∧ ∀ b y, (b < 787 ∨ 820 < b) → q.2 b y = L b y) := by
  unfold DX15_anew
  simp only [mlet]
  refine wq_for (body := fun r s => fX15_anew_i57 fu (sI C) r s.1 s.2.1 s.2.2) (fun i (a : mwM × mwL) => (sI i, a.1, a.2)) (fun i a => (a.1 787 0 = sI C ∧ a.2 787 21 = sL 0 ∧ a.2 787 43 = sL 0 ∧ a.1 787 29 = 0 ∧ a.1 787 35 = 0 ∧ a.1 787 39 = sI 0 ∧ a.1 787 1 = sI 0 ∧ a.1 787 7 = sI 0 ∧ a.1 787 32 = sI 0) ∧ (∀ t, t < i → a.1 796 t = 0 ∧ a.1 798 t = 0 ∧ a.1 804 t = 0 ∧ a.1 810 t = 0 ∧ a.2 805 t = sL 0) ∧ (∀ b y, (b < 787 ∨ 820 < b) → a.1 b y = M b y) ∧ ∀ b y, (b < 787 ∨ 820 < b) → a.2 b y = L b y) 101 ?_ ?_ 101 0 (mset (mset (mset (mset (mset (mset (mset (mset M 787 0 (sI C)) 787 1 0) 787 7 0) 787 29 0) 787 31 0) 787 32 0) 787 35 0) 787 39 0, mset (mset (mset L 787 21 0) 787 28 0) 787 43 0) fu (by omega) (by omega) ⟨⟨?_, ?_, ?_, ?_, ?_, ?_, ?_, ?_, ?_⟩, fun t ht => by omega, ?_, ?_⟩
  · rintro i ⟨a, l⟩ r hi ⟨⟨p1, p2, p3, p4, p5, p6, p7, p8, p9⟩, q1, q2, q3⟩ ih
    dsimp only at p1 p2 p3 p4 p5 p6 p7 p8 p9 q1 q2 q3
    show wq (fX15_anew_i57 fu (sI C) r (sI i) a l) _
    unfold fX15_anew_i57
    rw [if_neg (by rw [sI_lle (by omega) (by omega)]; omega)]
    simp (disch := omega) only [mlet, mck_s, sI_nn, sI_1]
    have hb : ∀ v : Int32, v = 0 → vp_nar .boolean v = 0 := by
      intro v hv
      rw [hv]; rfl
    have hb0 : vp_nar .boolean (0 : Int32) = 0 := hb 0 rfl
    rw [hb0]
    refine ih (mset (mset (mset (mset (mset (mset (mset (mset a 796 i 0) 798 i 0) 799 i 0) 801 i 0) 802 i 0) 803 i 0) 804 i 0) 810 i 0, mset (mset l 800 i 0) 805 i 0) ⟨⟨?_, ?_, ?_, ?_, ?_, ?_, ?_, ?_, ?_⟩, ?_, ?_, ?_⟩
    all_goals (try dsimp only)
    · simp only [mset_k (show (787 : Nat) ≠ 796 by decide), mset_k (show (787 : Nat) ≠ 798 by decide), mset_k (show (787 : Nat) ≠ 799 by decide), mset_k (show (787 : Nat) ≠ 801 by decide), mset_k (show (787 : Nat) ≠ 802 by decide), mset_k (show (787 : Nat) ≠ 803 by decide), mset_k (show (787 : Nat) ≠ 804 by decide), mset_k (show (787 : Nat) ≠ 810 by decide)]; exact p1
    · rw [mset_k (by decide), mset_k (by decide)]; exact p2
    · rw [mset_k (by decide), mset_k (by decide)]; exact p3
    · simp only [mset_k (show (787 : Nat) ≠ 796 by decide), mset_k (show (787 : Nat) ≠ 798 by decide), mset_k (show (787 : Nat) ≠ 799 by decide), mset_k (show (787 : Nat) ≠ 801 by decide), mset_k (show (787 : Nat) ≠ 802 by decide), mset_k (show (787 : Nat) ≠ 803 by decide), mset_k (show (787 : Nat) ≠ 804 by decide), mset_k (show (787 : Nat) ≠ 810 by decide)]; exact p4
    · simp only [mset_k (show (787 : Nat) ≠ 796 by decide), mset_k (show (787 : Nat) ≠ 798 by decide), mset_k (show (787 : Nat) ≠ 799 by decide), mset_k (show (787 : Nat) ≠ 801 by decide), mset_k (show (787 : Nat) ≠ 802 by decide), mset_k (show (787 : Nat) ≠ 803 by decide), mset_k (show (787 : Nat) ≠ 804 by decide), mset_k (show (787 : Nat) ≠ 810 by decide)]; exact p5
    · simp only [mset_k (show (787 : Nat) ≠ 796 by decide), mset_k (show (787 : Nat) ≠ 798 by decide), mset_k (show (787 : Nat) ≠ 799 by decide), mset_k (show (787 : Nat) ≠ 801 by decide), mset_k (show (787 : Nat) ≠ 802 by decide), mset_k (show (787 : Nat) ≠ 803 by decide), mset_k (show (787 : Nat) ≠ 804 by decide), mset_k (show (787 : Nat) ≠ 810 by decide)]; exact p6
    · simp only [mset_k (show (787 : Nat) ≠ 796 by decide), mset_k (show (787 : Nat) ≠ 798 by decide), mset_k (show (787 : Nat) ≠ 799 by decide), mset_k (show (787 : Nat) ≠ 801 by decide), mset_k (show (787 : Nat) ≠ 802 by decide), mset_k (show (787 : Nat) ≠ 803 by decide), mset_k (show (787 : Nat) ≠ 804 by decide), mset_k (show (787 : Nat) ≠ 810 by decide)]; exact p7
    · simp only [mset_k (show (787 : Nat) ≠ 796 by decide), mset_k (show (787 : Nat) ≠ 798 by decide), mset_k (show (787 : Nat) ≠ 799 by decide), mset_k (show (787 : Nat) ≠ 801 by decide), mset_k (show (787 : Nat) ≠ 802 by decide), mset_k (show (787 : Nat) ≠ 803 by decide), mset_k (show (787 : Nat) ≠ 804 by decide), mset_k (show (787 : Nat) ≠ 810 by decide)]; exact p8
    · simp only [mset_k (show (787 : Nat) ≠ 796 by decide), mset_k (show (787 : Nat) ≠ 798 by decide), mset_k (show (787 : Nat) ≠ 799 by decide), mset_k (show (787 : Nat) ≠ 801 by decide), mset_k (show (787 : Nat) ≠ 802 by decide), mset_k (show (787 : Nat) ≠ 803 by decide), mset_k (show (787 : Nat) ≠ 804 by decide), mset_k (show (787 : Nat) ≠ 810 by decide)]; exact p9
    · intro t ht
      by_cases hti : t = i
      · subst hti
        refine ⟨?_, ?_, ?_, ?_, ?_⟩
        · rw [mset_k (by decide), mset_k (by decide), mset_k (by decide), mset_k (by decide), mset_k (by decide), mset_k (by decide), mset_k (by decide), mset_s]
        · rw [mset_k (by decide), mset_k (by decide), mset_k (by decide), mset_k (by decide), mset_k (by decide), mset_k (by decide), mset_s]
        · rw [mset_k (by decide), mset_s]
        · rw [mset_s]
        · rw [mset_s]; rfl
      · obtain ⟨w1, w2, w3, w4, w5⟩ := q1 t (by omega)
        refine ⟨?_, ?_, ?_, ?_, ?_⟩
        · rw [mset_j hti, mset_j hti, mset_j hti, mset_j hti, mset_j hti, mset_j hti, mset_j hti, mset_j hti]; exact w1
        · rw [mset_j hti, mset_j hti, mset_j hti, mset_j hti, mset_j hti, mset_j hti, mset_j hti, mset_j hti]; exact w2
        · rw [mset_j hti, mset_j hti, mset_j hti, mset_j hti, mset_j hti, mset_j hti, mset_j hti, mset_j hti]; exact w3
        · rw [mset_j hti, mset_j hti, mset_j hti, mset_j hti, mset_j hti, mset_j hti, mset_j hti, mset_j hti]; exact w4
        · rw [mset_j hti, mset_j hti]; exact w5
    · intro b y hb'
      rw [mset_k (by omega), mset_k (by omega), mset_k (by omega), mset_k (by omega), mset_k (by omega), mset_k (by omega), mset_k (by omega), mset_k (by omega)]
      exact q2 b y hb'
    · intro b y hb'
      rw [mset_k (by omega), mset_k (by omega)]
      exact q3 b y hb'
  · rintro ⟨a, l⟩ r ⟨⟨p1, p2, p3, p4, p5, p6, p7, p8, p9⟩, q1, q2, q3⟩
    dsimp only at p1 p2 p3 p4 p5 p6 p7 p8 p9 q1 q2 q3
    show wq (fX15_anew_i57 fu (sI C) r (sI 101) a l) _
    unfold fX15_anew_i57
    rw [if_pos (by decide)]
    refine wq_for (body := fun r s => fX15_anew_i141 fu (sI C) r s.1 s.2.1 s.2.2) (fun i (a : mwM) => (sI i, a, l)) (fun i b => (∀ r, r < i → b 806 r = 0) ∧ ∀ x y, x ≠ 806 → b x y = a x y) 33 ?_ ?_ 33 0 a fu (by omega) (by omega) ⟨fun r h => by omega, fun _ _ _ => rfl⟩
    · intro i b r2 hi ⟨u1, u2⟩ ih
      show wq (fX15_anew_i141 fu (sI C) r2 (sI i) b l) _
      unfold fX15_anew_i141
      rw [if_neg (by rw [sI_lle (by omega) (by omega)]; omega)]
      simp (disch := omega) only [mlet, mck_s, sI_nn, sI_1]
      refine ih _ ⟨?_, ?_⟩
      · intro r3 hr3
        by_cases hri : r3 = i
        · rw [hri, mset_s]
        · rw [mset_j hri]; exact u1 r3 (by omega)
      · intro x y hx
        rw [mset_k hx]; exact u2 x y hx
    · intro b r2 ⟨u1, u2⟩
      show wq (fX15_anew_i141 fu (sI C) r2 (sI 33) b l) _
      unfold fX15_anew_i141
      rw [if_pos (by decide)]
      refine wq_for (body := fun r s => fX15_anew_i162 fu (sI C) r s.1 s.2.1 s.2.2) (fun i (a : mwM) => (sI i, a, l)) (fun i c => (∀ r, r < i → c 809 r = 0) ∧ ∀ x y, x ≠ 809 → c x y = b x y) 17 ?_ ?_ 17 0 b fu (by omega) (by omega) ⟨fun r h => by omega, fun _ _ _ => rfl⟩
      · intro i c r3 hi ⟨u3, u4⟩ ih
        show wq (fX15_anew_i162 fu (sI C) r3 (sI i) c l) _
        unfold fX15_anew_i162
        rw [if_neg (by rw [sI_lle (by omega) (by omega)]; omega)]
        simp (disch := omega) only [mlet, mck_s, sI_nn, sI_1]
        refine ih _ ⟨?_, ?_⟩
        · intro r4 hr4
          by_cases hri : r4 = i
          · rw [hri, mset_s]
          · rw [mset_j hri]; exact u3 r4 (by omega)
        · intro x y hx
          rw [mset_k hx]; exact u4 x y hx
      · intro c r3 ⟨u3, u4⟩
        show wq (fX15_anew_i162 fu (sI C) r3 (sI 17) c l) _
        unfold fX15_anew_i162
        rw [if_pos (by decide)]
        have hc : ∀ x y, x ≠ 806 → x ≠ 809 → c x y = a x y := fun x y h1 h2 => (u4 x y h2).trans (u2 x y h1)
        refine wq_some ⟨⟨?_, p2, p3, ?_, ?_, ?_, ?_, ?_, ?_⟩, ?_, ?_, ?_, ?_, q3⟩
        all_goals (try dsimp only)
        · rw [hc _ _ (by omega) (by omega)]; exact p1
        · rw [hc _ _ (by omega) (by omega)]; exact p4
        · rw [hc _ _ (by omega) (by omega)]; exact p5
        · rw [hc _ _ (by omega) (by omega)]; exact p6
        · intro r4 _ h2
          rw [u4 _ _ (by omega)]
          exact u1 r4 (by omega)
        · intro r4 _ h2
          exact u3 r4 (by omega)
        · intro t ht
          obtain ⟨w1, w2, w3, w4, w5⟩ := q1 t ht
          exact ⟨by rw [hc _ _ (by omega) (by omega)]; exact w1, by rw [hc _ _ (by omega) (by omega)]; exact w2, by rw [hc _ _ (by omega) (by omega)]; exact w3, by rw [hc _ _ (by omega) (by omega)]; exact w4, w5⟩
        · rw [hc _ _ (by omega) (by omega)]; exact p7
        · rw [hc _ _ (by omega) (by omega)]; exact p8
        · rw [hc _ _ (by omega) (by omega)]; exact p9
        · intro x y hx
          rw [hc _ _ (by omega) (by omega)]
          exact q2 x y hx
  all_goals (try dsimp only)
  · rw [mset_j (by decide), mset_j (by decide), mset_j (by decide), mset_j (by decide), mset_j (by decide), mset_j (by decide), mset_j (by decide), mset_s]
  · rw [mset_j (by decide), mset_j (by decide), mset_s]; rfl
  · rw [mset_s]; rfl
  · rw [mset_j (by decide), mset_j (by decide), mset_j (by decide), mset_j (by decide), mset_s]
  · rw [mset_j (by decide), mset_s]
  · rw [mset_s]; rfl
  · rw [mset_j (by decide), mset_j (by decide), mset_j (by decide), mset_j (by decide), mset_j (by decide), mset_j (by decide), mset_s]; rfl
  · rw [mset_j (by decide), mset_j (by decide), mset_j (by decide), mset_j (by decide), mset_j (by decide), mset_s]; rfl
  · rw [mset_j (by decide), mset_j (by decide), mset_s]; rfl
  · intro b y hb
    rw [mset_k (by omega), mset_k (by omega), mset_k (by omega), mset_k (by omega), mset_k (by omega), mset_k (by omega), mset_k (by omega), mset_k (by omega)]
  · intro b y hb
    rw [mset_k (by omega), mset_k (by omega), mset_k (by omega)]
/-! one task -/
theorem m_task15 {fu : Nat} {M : mwM} {L : mwL} {C i rk co : Nat} (hi : i < 12) (hC : C ≤ 6) (hco : co < C) (hrk : rk < 256) (h0 : M 787 0 = sI C) (h1 : M 787 1 = sI i) (h43 : L 787 43 = sL 0) : wq (DX15_task fu (sI rk) (sI co) 2 0 M L) (fun q => q.1 = sI (i + 1) ∧ q.2.2 = L ∧ q.2.1 787 1 = sI (i + 1) ∧ q.2.1 788 (i + 1) = sI rk ∧ q.2.1 789 (i + 1) = sI co ∧ q.2.1 790 (i + 1) = 2 ∧ q.2.1 792 (i + 1) = 1 ∧ ∀ b y, ¬ (b = 787 ∧ y = 1) → ¬ (y = i + 1 ∧ 788 ≤ b ∧ b ≤ 792) → q.2.1 b y = M b y) := by
  unfold DX15_task
  rw [if_neg (by rw [sI_ltl (by omega) (by decide)]; exact Nat.not_lt_zero _), h0, if_pos (by rw [sI_lt (by omega) (by omega)]; exact hco), if_neg (by rw [sI_ltl (by omega) (by decide)]; exact Nat.not_lt_zero _), if_neg (by rw [sI_llt (by omega) (by omega)]; omega), if_neg (by decide), if_neg (by decide), if_pos rfl]
  unfold fX15_task_b49
  rw [h43, if_pos (by decide), h1, if_neg (by rw [sI_eql (by omega) (by omega)]; omega)]
  simp only [mlet]
  have e1 : ∀ (X : mwM), X 787 1 = sI (i + 1) → X 787 1 = sI (i + 1) := fun _ h => h
  simp (disch := omega) only [mset_s, mset_k (show (787 : Nat) ≠ 788 by decide), mset_k (show (787 : Nat) ≠ 789 by decide), mset_k (show (787 : Nat) ≠ 790 by decide), mset_k (show (787 : Nat) ≠ 791 by decide), mset_k (show (787 : Nat) ≠ 792 by decide), sI_1, mck_s, sI_nn]
  refine wq_some ⟨rfl, rfl, ?_, ?_, ?_, ?_, ?_, ?_⟩
  all_goals (try dsimp only)
  · simp only [mset_s, mset_k (show (787 : Nat) ≠ 788 by decide), mset_k (show (787 : Nat) ≠ 789 by decide), mset_k (show (787 : Nat) ≠ 790 by decide), mset_k (show (787 : Nat) ≠ 791 by decide), mset_k (show (787 : Nat) ≠ 792 by decide)]
  · rw [mset_k (by decide), mset_k (by decide), mset_k (by decide), mset_k (by decide), mset_s]
  · rw [mset_k (by decide), mset_k (by decide), mset_k (by decide), mset_s]
  · rw [mset_k (by decide), mset_k (by decide), mset_s]
  · rw [mset_s]; rfl
  · intro b y w1 w2
    rw [mset_n (by omega), mset_n (by omega), mset_n (by omega), mset_n (by omega), mset_n (by omega), mset_n (by omega)]
theorem m_part15 {fu : Nat} {M : mwM} {L : mwL} {i mi : Nat} (hf : 13 ≤ fu) (hi : i < 12) (hmi : 1 ≤ mi) (hmi2 : mi ≤ 1000) (h1 : M 787 1 = sI (i + 1)) (h7 : M 787 7 = sI i) (h43 : L 787 43 = sL 0) : wq (DX15_part fu (sI (i + 1)) 0 (sI mi).toInt64 M L) (fun q => q.2.1 787 7 = sI (i + 1) ∧ q.2.1 793 i = sI (i + 1) ∧ q.2.1 794 i = 0 ∧ q.2.2 795 i = sL mi ∧ (∀ b y, ¬ (b = 787 ∧ y = 7) → ¬ (y = i ∧ (b = 793 ∨ b = 794)) → q.2.1 b y = M b y) ∧ ∀ b y, ¬ (b = 795 ∧ y = i) → q.2.2 b y = L b y) := by
  unfold DX15_part
  rw [m_no (T := i + 1) (by omega) (by omega) h1, mb3_s, if_pos rfl, if_neg (by decide), if_neg (by decide), sI_L (by omega)]
  have hg : DX15_good fu 0 (sL mi) M L = some (1, M, L) := by
    unfold DX15_good fX15_good_b10 fX15_good_b29
    rw [if_pos rfl, if_neg (by
      rw [lg_cmp_lt]
      show ¬ sL mi < sL 1
      rw [sL_lt (by omega) (by omega)]
      omega), if_neg (by
      rw [lg_cmp_gt]
      show ¬ sL 50000 < sL mi
      rw [sL_lt (by omega) (by omega)]
      omega)]
    rfl
  rw [hg, mb3_s, if_neg (by decide), h43, if_pos (by decide), h7, if_neg (by rw [sI_eql (by omega) (by omega)]; omega)]
  simp (disch := omega) only [mlet, mset_s, h7, mset_k (show (787 : Nat) ≠ 793 by decide), mset_k (show (787 : Nat) ≠ 794 by decide), sI_1, mck_s, sI_nn]
  refine wq_for (body := fun r s => fX15_part_i102 fu (sI (i + 1)) 0 (sL mi) r s.1 s.2.1 s.2.2.1 s.2.2.2) (fun j (a : Int32) => (a, sI j, mset (mset (mset M 793 i (sI (i + 1))) 794 i 0) 787 7 (sI (i + 1)), mset L 795 i (sL mi))) (fun _ _ => True) (i + 1) ?_ ?_ (i + 1) 0 0 fu (by omega) (by omega) trivial
  · intro j a r hj _ ih
    show wq (fX15_part_i102 fu (sI (i + 1)) 0 (sL mi) r a (sI j) (mset (mset (mset M 793 i (sI (i + 1))) 794 i 0) 787 7 (sI (i + 1))) (mset L 795 i (sL mi))) _
    unfold fX15_part_i102 fX15_part_b131
    rw [mset_s, if_neg (by rw [sI_le (by omega) (by omega)]; omega), mck_s (by omega) (by omega)]
    simp only [mlet]
    rw [sI_1]
    exact wq_if (fun _ => ih (a + 1) trivial) (fun _ => ih a trivial)
  · intro a r _
    show wq (fX15_part_i102 fu (sI (i + 1)) 0 (sL mi) r a (sI (i + 1)) (mset (mset (mset M 793 i (sI (i + 1))) 794 i 0) 787 7 (sI (i + 1))) (mset L 795 i (sL mi))) _
    unfold fX15_part_i102
    rw [mset_s, if_pos (by rw [sI_le (by omega) (by omega)]; omega)]
    refine wq_some ⟨?_, ?_, ?_, ?_, ?_, ?_⟩
    all_goals (try dsimp only)
    · rw [mset_s]
    · rw [mset_k (by decide), mset_k (by decide), mset_s]
    · rw [mset_k (by decide), mset_s]
    · rw [mset_s]
    · intro b y w1 w2
      rw [mset_n w1, mset_n (by omega), mset_n (by omega)]
    · intro b y w1
      rw [mset_n w1]
theorem m_activate15 {fu : Nat} {M : mwM} {L : mwL} {i T al at' : Nat} (hi : i < T) (hT : T ≤ 12) (hal : al < 480) (hat : at' < 20000) (h1 : M 787 1 = sI T) (h32 : M 787 32 = sI al) (h43 : L 787 43 = sL 0) : DX15_activate fu (sI (i + 1)) (sI at').toInt64 M L = some (1, mset (mset M 812 al (sI (i + 1))) 787 32 (sI (al + 1)), mset L 813 al (sL at')) := by
  unfold DX15_activate
  rw [m_no hT hi h1, mb3_s, if_pos rfl, sI_L (by omega), h43, if_neg (by
    rw [lg_cmp_lt, sL_lt (by omega) (by omega)]
    omega), if_pos (by
    rw [lg_cmp_le]
    show sL at' ≤ sL 50000
    rw [sL_le (by omega) (by omega)]
    omega), h32, if_neg (by rw [sI_eql (by omega) (by omega)]; omega)]
  simp (disch := omega) only [mlet, h32, mset_k (show (787 : Nat) ≠ 812 by decide), sI_1, mck_s, sI_nn]
