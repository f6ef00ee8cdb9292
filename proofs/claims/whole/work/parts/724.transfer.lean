/-! the reference: all begins anew -/
theorem m_anew17 {fu : Nat} {M : mwM} {L : mwL} {o : Nat → Nat → Nat} (hfu : 20100 ≤ fu) (h870 : M 870 1 = sI 0) : wq (DX17_anew fu 4095 M L) (fun z => TfM z.1 z.2 0 tn0 tb0 o (fun _ => 0) ∧ (∀ a y, ¬ (869 ≤ a ∧ a ≤ 901) → z.1 a y = M a y) ∧ ∀ a y, a ≠ 869 → z.2 a y = L a y) := by
  unfold DX17_anew
  simp only [mlet]
  generalize hN : mset (mset (mset (mset (mset (mset (mset (mset (mset M 869 1 4095) 869 3 0) 869 26 0) 869 35 0) 869 36 0) 869 37 0) 869 38 3) 869 39 0) 869 40 0 = N
  have g1 : N 869 1 = sI 4095 ∧ N 869 3 = sI 0 ∧ N 869 26 = sI 0 ∧ N 869 35 = sI 0 ∧ N 869 36 = sI 0 ∧ N 869 37 = sI 0 ∧ N 869 39 = 0 := by
    rw [← hN]
    simp (disch := omega) only [mset_n, mset_s]
    exact ⟨rfl, rfl, rfl, rfl, rfl, rfl, trivial⟩
  have gf : ∀ a y, a ≠ 869 → N a y = M a y := fun a y u => by
    rw [← hN]
    simp (disch := omega) only [mset_n]
  clear hN
  generalize hL : mset L 869 2 0 = L1
  have gl : L1 869 2 = sL 0 ∧ ∀ a y, a ≠ 869 → L1 a y = L a y := by
    rw [← hL]
    exact ⟨mset_s, fun a y u => mset_n (by omega)⟩
  clear hL
  -- what each loop leaves
  have data : ∀ M1 : mwM, (∀ a y, a ≠ 871 → a ≠ 872 → a ≠ 873 → a ≠ 874 → a ≠ 875 → a ≠ 876 → a ≠ 877 → a ≠ 879 → a ≠ 882 → a ≠ 901 → M1 a y = N a y) → (∀ m, m < 101 → M1 872 m = 0 ∧ M1 873 m = 0 ∧ M1 875 m = sI 0) → (∀ r, r < 4 → M1 882 r = sI 0) → (∀ k, k < 8 → M1 901 k = sI 0) → wq (fX17_anew_h156 fu 4095 fu (0, M1, L1)) (fun z => TfM z.1 z.2 0 tn0 tb0 o (fun _ => 0) ∧ (∀ a y, ¬ (869 ≤ a ∧ a ≤ 901) → z.1 a y = M a y) ∧ ∀ a y, a ≠ 869 → z.2 a y = L a y) := by
    intro M1 c1 c2 c3 c4
    refine wq_for (body := fun r z => fX17_anew_i156 fu 4095 r z.1 z.2.1 z.2.2) (fun i (w : mwM) => (sI i, w, L1)) (fun _ w => ∀ a y, a ≠ 871 → w a y = M1 a y) 20000 ?_ ?_ 20000 0 M1 fu (by omega) (by omega) (fun _ _ _ => rfl)
    · intro i w r hi q ih
      show wq (fX17_anew_i156 fu 4095 r (sI i) w L1) _
      unfold fX17_anew_i156
      rw [if_neg (by rw [sI_lle (by decide) (by omega)]; omega), mck_s (by omega) (by omega)]
      simp only [mlet]
      rw [sI_1]
      exact ih _ (fun a y u => by rw [mset_n (by omega)]; exact q a y u)
    · intro w r q
      show wq (fX17_anew_i156 fu 4095 r (sI 20000) w L1) _
      unfold fX17_anew_i156
      rw [if_pos (by decide)]
      refine wq_some ⟨⟨?_, fun m u => ?_, fun m u1 u2 => ?_, fun m u1 u2 => ?_, fun r u => ⟨?_, fun z => ?_⟩, fun f u => ?_, fun k u => ?_⟩, fun a y u => ?_, gl.2⟩
      all_goals (try dsimp only)
      · unfold TmG
        have : ∀ y, w 869 y = N 869 y := fun y => by rw [q 869 y (by omega)]; exact c1 869 y (by omega) (by omega) (by omega) (by omega) (by omega) (by omega) (by omega) (by omega) (by omega) (by omega)
        rw [this, this, this, this, this, this, this]
        exact ⟨g1.1, gl.1, g1.2.1, g1.2.2.1, g1.2.2.2.1, g1.2.2.2.2.1, g1.2.2.2.2.2.1, g1.2.2.2.2.2.2⟩
      · have : m = 0 := by
          have : m ≤ 0 := u
          omega
        subst this
        rw [q 870 _ (by omega), c1 870 _ (by omega) (by omega) (by omega) (by omega) (by omega) (by omega) (by omega) (by omega) (by omega) (by omega), gf 870 _ (by omega)]
        exact h870
      · have : m ≤ 0 := u2
        omega
      · rw [q 872 m (by omega), q 873 m (by omega), q 875 m (by omega)]
        exact c2 m (by omega)
      · rw [q 882 r (by omega)]
        exact c3 r u
      · have : (0 : Nat) = 1 := z
        omega
      · have : f < 0 := u
        omega
      · rw [q 901 k (by omega)]
        exact c4 k u
      · rw [q a y (by omega), c1 a y (by omega) (by omega) (by omega) (by omega) (by omega) (by omega) (by omega) (by omega) (by omega) (by omega), gf a y (by omega)]
  have ends : ∀ M1 : mwM, (∀ a y, a ≠ 872 → a ≠ 873 → a ≠ 874 → a ≠ 875 → a ≠ 876 → a ≠ 877 → a ≠ 879 → a ≠ 882 → M1 a y = N a y) → (∀ m, m < 101 → M1 872 m = 0 ∧ M1 873 m = 0 ∧ M1 875 m = sI 0) → (∀ r, r < 4 → M1 882 r = sI 0) → wq (fX17_anew_h135 fu 4095 fu (0, M1, L1)) (fun z => TfM z.1 z.2 0 tn0 tb0 o (fun _ => 0) ∧ (∀ a y, ¬ (869 ≤ a ∧ a ≤ 901) → z.1 a y = M a y) ∧ ∀ a y, a ≠ 869 → z.2 a y = L a y) := by
    intro M1 c1 c2 c3
    refine wq_for (body := fun r z => fX17_anew_i135 fu 4095 r z.1 z.2.1 z.2.2) (fun i (w : mwM) => (sI i, w, L1)) (fun i w => (∀ k, k < i → w 901 k = sI 0) ∧ ∀ a y, a ≠ 901 → w a y = M1 a y) 8 ?_ ?_ 8 0 M1 fu (by omega) (by omega) ⟨fun k u => by omega, fun _ _ _ => rfl⟩
    · intro i w r hi ⟨q1, q2⟩ ih
      show wq (fX17_anew_i135 fu 4095 r (sI i) w L1) _
      unfold fX17_anew_i135
      rw [if_neg (by rw [sI_lle (by decide) (by omega)]; omega), mck_s (by omega) (by omega), sI_nn (by omega)]
      simp only [mlet]
      rw [sI_1]
      refine ih _ ⟨fun k u => ?_, fun a y u => by rw [mset_n (by omega)]; exact q2 a y u⟩
      by_cases hq : k = i
      · rw [hq, mset_s]; rfl
      · rw [mset_j hq]; exact q1 k (by omega)
    · intro w r ⟨q1, q2⟩
      show wq (fX17_anew_i135 fu 4095 r (sI 8) w L1) _
      unfold fX17_anew_i135
      rw [if_pos (by decide)]
      refine data w (fun a y u0 u1 u2 u3 u4 u5 u6 u7 u8 u9 => ?_) (fun m u => ?_) (fun r u => ?_) (fun k u => q1 k u)
      · rw [q2 a y u9]; exact c1 a y u1 u2 u3 u4 u5 u6 u7 u8
      · rw [q2 872 m (by omega), q2 873 m (by omega), q2 875 m (by omega)]; exact c2 m u
      · rw [q2 882 r (by omega)]; exact c3 r u
  have places : ∀ M1 : mwM, (∀ a y, a ≠ 872 → a ≠ 873 → a ≠ 874 → a ≠ 875 → a ≠ 876 → a ≠ 877 → a ≠ 879 → M1 a y = N a y) → (∀ m, m < 101 → M1 872 m = 0 ∧ M1 873 m = 0 ∧ M1 875 m = sI 0) → wq (fX17_anew_h115 fu 4095 fu (0, M1, L1)) (fun z => TfM z.1 z.2 0 tn0 tb0 o (fun _ => 0) ∧ (∀ a y, ¬ (869 ≤ a ∧ a ≤ 901) → z.1 a y = M a y) ∧ ∀ a y, a ≠ 869 → z.2 a y = L a y) := by
    intro M1 c1 c2
    refine wq_for (body := fun r z => fX17_anew_i115 fu 4095 r z.1 z.2.1 z.2.2) (fun i (w : mwM) => (sI i, w, L1)) (fun i w => (∀ k, k < i → w 882 k = sI 0) ∧ ∀ a y, a ≠ 882 → w a y = M1 a y) 4 ?_ ?_ 4 0 M1 fu (by omega) (by omega) ⟨fun k u => by omega, fun _ _ _ => rfl⟩
    · intro i w r hi ⟨q1, q2⟩ ih
      show wq (fX17_anew_i115 fu 4095 r (sI i) w L1) _
      unfold fX17_anew_i115
      rw [if_neg (by rw [sI_lle (by decide) (by omega)]; omega), mck_s (by omega) (by omega), sI_nn (by omega)]
      simp only [mlet]
      rw [sI_1]
      refine ih _ ⟨fun k u => ?_, fun a y u => by rw [mset_n (by omega)]; exact q2 a y u⟩
      by_cases hq : k = i
      · rw [hq, mset_s]; rfl
      · rw [mset_j hq]; exact q1 k (by omega)
    · intro w r ⟨q1, q2⟩
      show wq (fX17_anew_i115 fu 4095 r (sI 4) w L1) _
      unfold fX17_anew_i115
      rw [if_pos (by decide)]
      refine ends w (fun a y u1 u2 u3 u4 u5 u6 u7 u8 => ?_) (fun m u => ?_) (fun r u => q1 r u)
      · rw [q2 a y u8]; exact c1 a y u1 u2 u3 u4 u5 u6 u7
      · rw [q2 872 m (by omega), q2 873 m (by omega), q2 875 m (by omega)]; exact c2 m u
  refine wq_for (body := fun r z => fX17_anew_i52 fu 4095 r z.1 z.2.1 z.2.2) (fun i (w : mwM) => (sI i, w, L1)) (fun i w => (∀ m, m < i → w 872 m = 0 ∧ w 873 m = 0 ∧ w 875 m = sI 0) ∧ ∀ a y, a ≠ 872 → a ≠ 873 → a ≠ 874 → a ≠ 875 → a ≠ 876 → a ≠ 877 → a ≠ 879 → w a y = N a y) 101 ?_ ?_ 101 0 N fu (by omega) (by omega) ⟨fun k u => by omega, fun _ _ _ _ _ _ _ _ _ => rfl⟩
  · intro i w r hi ⟨q1, q2⟩ ih
    show wq (fX17_anew_i52 fu 4095 r (sI i) w L1) _
    unfold fX17_anew_i52
    rw [if_neg (by rw [sI_lle (by decide) (by omega)]; omega)]
    simp (disch := omega) only [mck_s, sI_nn, mlet, sI_1]
    refine ih _ ⟨fun k u => ?_, fun a y u1 u2 u3 u4 u5 u6 u7 => ?_⟩
    · by_cases hq : k = i
      · subst hq
        simp (disch := omega) only [mset_n, mset_s]
        exact ⟨rfl, trivial, rfl⟩
      · simp (disch := omega) only [mset_n]
        exact q1 k (by omega)
    · simp (disch := omega) only [mset_n]
      exact q2 a y u1 u2 u3 u4 u5 u6 u7
  · intro w r ⟨q1, q2⟩
    show wq (fX17_anew_i52 fu 4095 r (sI 101) w L1) _
    unfold fX17_anew_i52
    rw [if_pos (by decide)]
    exact places w q2 q1
