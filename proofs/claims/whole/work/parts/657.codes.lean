theorem m_code {fu : Nat} {M : mwM} {L : mwL} {k n : Nat} {S k0 v : Nat → Nat} (hf : 161 ≤ fu) (hk1 : 1 ≤ k) (hk2 : k ≤ 16) (hn : n < 16) (hn1 : 1 ≤ n) (h1 : M 854 1 = 16) (h6 : M 854 6 = sI n) (hS : bytes M 868 256 S) (hk : ∀ i, i < 16 → M 855 (16 * k + i) = sI (k0 i) ∧ k0 i < 256) (hv : bytes M 858 n v) : wq (DX14_code fu (sI k) 32 M L) (fun q => q.2.2 = L ∧ bytes q.2.1 859 4 (cmac S (schL S k0 160) n v) ∧ q.2.1 854 6 = 0 ∧ q.2.1 854 7 = 4 ∧ ∀ b y, ¬ (b = 854 ∧ (y = 0 ∨ y = 6 ∨ y = 7)) → b ≠ 859 → ¬ (863 ≤ b ∧ b ≤ 867) → q.2.1 b y = M b y) := by
  unfold DX14_code DX14_noKey fX14_noKey_b23
  simp only [mlet]
  rw [if_neg (by rw [sI_ltl (by omega) (by omega)]; omega), mset_j (a := 854) (by decide), h1, if_pos (by rw [sI_lel (by omega) (by omega)]; exact hk2)]
  show wq (mb3 (some ((0 : Int32), mset M 854 0 0, L)) _) _
  rw [mb3_s, if_pos rfl, if_neg (by decide), if_pos (by decide)]
  refine wq_for (body := fun r s => fX14_code_i28 fu (sI k) 32 r s.1 s.2.1 s.2.2) (fun i (a : mwM) => (sI i, a, L)) (fun i a => (∀ y, y < i → a 867 y = sI (v y)) ∧ ∀ b y, b ≠ 867 → a b y = mset M 854 0 0 b y) n ?_ ?_ n 0 (mset M 854 0 0) fu (by omega) (by omega) ⟨fun y hy => by omega, fun _ _ _ => rfl⟩
  · intro i a r hi ⟨s1, s2⟩ ih
    show wq (fX14_code_i28 fu (sI k) 32 r (sI i) a L) _
    unfold fX14_code_i28
    rw [s2 854 6 (by decide), mset_j (a := 854) (by decide), h6, if_neg (by rw [sI_le (by omega) (by omega)]; omega), mck_s (by omega) (by omega), mck_s (by omega) (by omega), sI_nn (by omega), s2 858 _ (by decide), mset_k (a := 858) (by decide), (hv i hi).1]
    simp only [mlet]
    rw [sI_1]
    refine ih (mset a 867 i (sI (v i))) ⟨?_, ?_⟩
    · intro y hy
      by_cases hyi : y = i
      · rw [hyi, mset_s]
      · rw [mset_j hyi]; exact s1 y (by omega)
    · intro b y q
      rw [mset_k q]; exact s2 b y q
  · intro a r ⟨s1, s2⟩
    show wq (fX14_code_i28 fu (sI k) 32 r (sI n) a L) _
    unfold fX14_code_i28
    have e6 : a 854 6 = sI n := by rw [s2 854 6 (by decide), mset_j (by decide)]; exact h6
    rw [e6, if_pos (by rw [sI_le (by omega) (by omega)]; omega), sI_lml]
    refine wq_b2 (m_codeOf (S := S) (k0 := k0) (v := v) hf (show 16 * k ≤ 256 by omega) hn hn1 (fun y hy => by rw [s2 _ _ (by decide), mset_k (by decide)]; exact hS y hy) (fun i hi => by rw [s2 _ _ (by decide), mset_k (by decide)]; exact hk i hi) (fun y hy => ⟨s1 y hy, (hv y hy).2⟩)) ?_
    rintro M1 L1 ⟨hL, c1, c2⟩
    dsimp only at hL c1 c2
    subst hL
    -- the four octets are told
    have tell : wq (DX14_tell fu 4 M1 L1) (fun q => q.1 = 4 ∧ q.2.2 = L1 ∧ bytes q.2.1 859 4 (cmac S (schL S k0 160) n v) ∧ q.2.1 854 6 = 0 ∧ q.2.1 854 7 = 4 ∧ ∀ b y, ¬ (b = 854 ∧ (y = 6 ∨ y = 7)) → b ≠ 859 → q.2.1 b y = M1 b y) := by
      unfold DX14_tell
      refine wq_for (body := fun r s => fX14_tell_i2 fu 4 r s.1 s.2.1 s.2.2) (fun i (a2 : mwM) => (sI i, a2, L1)) (fun i a2 => (∀ y, y < i → a2 859 y = sI (cmac S (schL S k0 160) n v y)) ∧ ∀ b y, b ≠ 859 → a2 b y = M1 b y) 4 ?_ ?_ 4 0 M1 fu (by omega) (by omega) ⟨fun y hy => by omega, fun _ _ _ => rfl⟩
      · intro i a2 r2 hi ⟨t1, t2⟩ ih
        show wq (fX14_tell_i2 fu 4 r2 (sI i) a2 L1) _
        unfold fX14_tell_i2
        rw [if_neg (by rw [sI_lle (by omega) (by omega)]; omega), mck_s (by omega) (by omega), mck_s (by omega) (by omega), sI_nn (by omega), t2 863 _ (by decide), (c1 i (by omega)).1]
        simp only [mlet]
        rw [sI_1]
        refine ih (mset a2 859 i (sI (cmac S (schL S k0 160) n v i))) ⟨?_, ?_⟩
        · intro y hy
          by_cases hyi : y = i
          · rw [hyi, mset_s]
          · rw [mset_j hyi]; exact t1 y (by omega)
        · intro b y q
          rw [mset_k q]; exact t2 b y q
      · intro a2 r2 ⟨t1, t2⟩
        show wq (fX14_tell_i2 fu 4 r2 (sI 4) a2 L1) _
        unfold fX14_tell_i2
        rw [if_pos (by decide)]
        simp only [mlet]
        refine wq_some ⟨rfl, rfl, ?_, ?_, ?_, ?_⟩
        all_goals (try dsimp only)
        · intro i hi
          refine ⟨?_, (c1 i (by omega)).2⟩
          rw [mset_k (by decide), mset_k (by decide)]; exact t1 i hi
        · rw [mset_s]
        · rw [mset_j (by decide), mset_s]
        · intro b y q1 q2
          rw [mset_n (by omega), mset_n (by omega)]; exact t2 b y q2
    rw [show ((32 : Int32) + 7) / 8 = 4 from by decide]
    refine wq_b3 tell ?_
    rintro r4 M2 L2 ⟨e1, e2, e3, e4, e5, e7⟩
    dsimp only at e1 e2 e3 e4 e5 e7
    subst e1 e2
    obtain ⟨g, hg⟩ : ∃ g, fu = g + 1 := ⟨fu - 1, by omega⟩
    have hend : fX14_code_h81 fu (sI k) 32 fu (4, 32, M2, L2) = some (4, M2, L2) := by
      unfold fX14_code_h81
      conv => lhs; rw [show mloop (fun r81 s => fX14_code_i81 fu (sI k) 32 r81 s.1 s.2.1 s.2.2.1 s.2.2.2) fu = mloop (fun r81 s => fX14_code_i81 fu (sI k) 32 r81 s.1 s.2.1 s.2.2.1 s.2.2.2) (g + 1) from by rw [hg]]
      rw [mloop_S]
      show fX14_code_i81 fu (sI k) 32 _ 4 32 M2 L2 = _
      unfold fX14_code_i81
      rw [if_pos (by decide)]
    rw [hend]
    refine wq_some ⟨rfl, e3, e4, e5, ?_⟩
    intro b y q1 q2 q3
    dsimp only
    rw [e7 b y (by omega) q2, c2 b y (by omega) (by omega) (by omega) (by omega), s2 b y (by omega), mset_n (by omega)]
/-- an octet of a code, as the reference tells it: with its sign, which a mask takes away -/
theorem m_out {fu : Nat} {M : mwM} {L : mwL} {i x : Nat} (hi : i < 4) (h7 : M 854 7 = 4) (hx : M 859 i = sI x) (hx2 : x < 256) : ∃ z, DX14_out fu (sI i) M L = some (z, mset M 854 0 0, L) ∧ z &&& 255 = sI x := by
  have h8 : ∀ x, x < 256 → (sI x).toInt8.toInt32.toInt8.toInt32 = (sI x).toInt8.toInt32 ∧ (sI x).toInt8.toInt32 &&& 255 = sI x := by decide +kernel
  obtain ⟨q1, q2⟩ := h8 x hx2
  refine ⟨(sI x).toInt8.toInt32, ?_, q2⟩
  unfold DX14_out fX14_out_b18 fX14_out_b39
  rw [if_neg (by rw [sI_ltl (by omega) (by decide)]; exact Nat.not_lt_zero _), h7, if_pos (by rw [sI_ltl (by omega) (by omega)]; exact hi)]
  simp only [mlet]
  rw [mset_s, if_pos (by decide), mck_s (by omega) (by omega), sI_nn (by omega), mset_k (a := 859) (by decide), hx]
  unfold mbb
  rw [if_pos q1]
theorem m_octet {fu : Nat} {M : mwM} {L : mwL} {n x : Nat} (hn : n < 300) (h6 : M 854 6 = sI n) (hx : x < 256) (z : Int32) (hz : z &&& 255 = sI x) : DX14_octet fu z M L = some (mset (mset (mset M 854 0 0) 858 n (sI x)) 854 6 (sI (n + 1)), L) := by
  unfold DX14_octet
  simp only [mlet]
  rw [mset_j (a := 854) (by decide), h6, if_neg (by rw [sI_eql (by omega) (by omega)]; omega), mck_s hn (by omega), sI_nn (by omega), hz, mset_k (a := 854) (k := 858) (by decide), mset_j (a := 854) (by decide), h6, sI_1]
