/-! all troubles forgotten; a new watch -/
theorem sk_0 : (0 : Int32) = sk 128 := by decide +kernel
theorem c_forget {fu : Nat} {A : mwM} {L : mwL} {i : Nat} (hi : i < 30) : DX10_forget fu (sI i) A L = some (mset (mset (mset (mset (mset A 146 i 80) 147 i 0) 148 i 0) 149 i 0) 150 i 0, L) := by
  simp (disch := omega) only [DX10_forget, mlet, mck_s, sI_nn]
theorem c_forgetAll {fu : Nat} {A : mwM} {L : mwL} {N : Nat} (hf : 31 ≤ fu) (hN : N ≤ 30) (hA : A 139 2 = sI N) : wq (DX10_forgetAll fu A L) (fun q => q.2 = L ∧ q.1 139 3 = 0 ∧ (∀ x, x < N → q.1 146 x = 80 ∧ q.1 147 x = 0 ∧ q.1 148 x = 0 ∧ q.1 149 x = 0 ∧ q.1 150 x = 0) ∧ ∀ b j, ¬ (b = 139 ∧ j = 3) → ¬ (146 ≤ b ∧ b ≤ 150) → q.1 b j = A b j) := by
  refine wq_for (body := fun r s => fX10_forgetAll_i2 fu r s.1 s.2.1 s.2.2) (fun j (a : mwM) => (sI j, a, L)) (fun j a => (∀ x, x < j → a 146 x = 80 ∧ a 147 x = 0 ∧ a 148 x = 0 ∧ a 149 x = 0 ∧ a 150 x = 0) ∧ ∀ b y, ¬ (146 ≤ b ∧ b ≤ 150) → a b y = A b y) N ?_ ?_ N 0 A fu (by omega) (by omega) ⟨fun x hx => by omega, fun _ _ _ => rfl⟩
  · intro j a r hj ⟨h1, h2⟩ ih
    show wq (fX10_forgetAll_i2 fu r (sI j) a L) _
    unfold fX10_forgetAll_i2
    rw [h2 139 2 (by omega), hA, if_neg (by rw [sI_le (by omega) (by omega)]; omega), c_forget (by omega), mb2_s]
    simp only [mlet]
    rw [sI_1]
    refine ih _ ⟨?_, ?_⟩
    · intro x hx
      by_cases hxj : x = j
      · subst hxj
        simp [mset]
      · have := h1 x (by omega)
        simp [mset, hxj, this]
    · intro b y hb
      rw [mset_n (by omega), mset_n (by omega), mset_n (by omega), mset_n (by omega), mset_n (by omega)]
      exact h2 b y hb
  · intro a r ⟨h1, h2⟩
    show wq (fX10_forgetAll_i2 fu r (sI N) a L) _
    unfold fX10_forgetAll_i2
    rw [h2 139 2 (by omega), hA, if_pos (by rw [sI_le (by omega) (by omega)]; omega)]
    simp only [mlet]
    refine wq_some ⟨rfl, ?_, ?_, ?_⟩
    all_goals (try dsimp only)
    · rw [mset_s]
    · intro x hx
      have := h1 x hx
      simp [mset, this]
    · intro b y h3 h4
      rw [mset_n h3]
      exact h2 b y h4
theorem m_clear {fu : Nat} {M : mwM} {L : mwL} {N : Nat} (hf : 31 ≤ fu) (hN : N ≤ 30) (h2 : M 902 2 = sI N) (h23 : M 902 23 = 0) (h31 : M 920 31 = 0) : wq (DX18_clear fu 0 M L) (fun q => q.2.2 = L ∧ (∀ x, x < N → dg q.2.1 (x + 1) 80 ∧ q.2.1 907 (x + 1) = 0 ∧ q.2.1 909 (x + 1) = 0 ∧ q.2.1 910 (x + 1) = 0 ∧ q.2.1 911 (x + 1) = 0 ∧ q.2.1 916 (x + 1) = 0) ∧ ∀ b j, ¬ (b = 902 ∧ j = 0) → ¬ (b = 907 ∨ b = 908 ∨ b = 909 ∨ b = 910 ∨ b = 911 ∨ b = 912 ∨ b = 913 ∨ b = 914 ∨ b = 915 ∨ b = 916) → q.2.1 b j = M b j) := by
  unfold DX18_clear
  simp only [mlet]
  rw [if_neg (by decide), if_pos (by decide), mset_j (a := 902) (b := 23) (by decide), h23, if_pos rfl, mset_k (a := 920) (by decide)]
  rw [show (31 : Int32).toNatClampNeg = 31 from by decide, h31, if_pos rfl]
  refine wq_for (body := fun r s => fX18_clear_i42 fu 0 r s.1 s.2.1 s.2.2.1 s.2.2.2) (fun j (a : Int32 × mwM) => (a.1, sI (j + 1), a.2, L)) (fun j a => (∀ x, x < j → dg a.2 (x + 1) 80 ∧ a.2 907 (x + 1) = 0 ∧ a.2 909 (x + 1) = 0 ∧ a.2 910 (x + 1) = 0 ∧ a.2 911 (x + 1) = 0 ∧ a.2 916 (x + 1) = 0) ∧ ∀ b y, ¬ (b = 902 ∧ y = 0) → ¬ (b = 907 ∨ b = 908 ∨ b = 909 ∨ b = 910 ∨ b = 911 ∨ b = 912 ∨ b = 913 ∨ b = 914 ∨ b = 915 ∨ b = 916) → a.2 b y = M b y) N ?_ ?_ N 0 (0, mset M 902 0 0) fu (by omega) (by omega) ⟨fun x hx => by omega, fun b y h3 _ => mset_n h3⟩
  · rintro j ⟨v, a⟩ r hj ⟨h1, h3⟩ ih
    show wq (fX18_clear_i42 fu 0 r v (sI (j + 1)) a L) _
    dsimp only at h1 h3
    unfold fX18_clear_i42 fX18_clear_b70 fX18_clear_b90
    rw [h3 902 2 (by omega) (by omega), h2, if_neg (by rw [sI_lt (by omega) (by omega)]; omega), if_pos rfl]
    refine wq_b2 (m_freshen (by omega) (by omega)) ?_
    rintro M1 L1 ⟨rfl, f1, f2, f3, f4, f5, f6⟩
    dsimp only at f1 f2 f3 f4 f5 f6
    refine wq_b2 (m_keep f1 (by omega) (by omega)) ?_
    rintro M2 L2 ⟨rfl, k1⟩
    dsimp only at k1
    rw [mck_s (by omega) (by omega), sI_nn (by omega)]
    simp only [mlet]
    rw [sI_1]
    refine ih (v + 1, mset M2 916 (j + 1) 0) ⟨?_, ?_⟩
    · intro x hx
      dsimp only
      have kk : ∀ b y, b ≠ 912 → b ≠ 913 → b ≠ 914 → b ≠ 915 → b ≠ 916 → mset M2 916 (j + 1) 0 b y = M1 b y := by
        intro b y q1 q2 q3 q4 q5
        rw [mset_k q5, k1 b y q1 q2 q3 q4]
      by_cases hxj : x = j
      · subst hxj
        refine ⟨dg_f f1 (fun b _ => kk _ _ (by omega) (by omega) (by omega) (by omega) (by omega)), ?_, ?_, ?_, ?_, mset_s⟩
        all_goals (try dsimp only)
        · rw [kk _ _ (by omega) (by omega) (by omega) (by omega) (by omega)]; exact f2
        · rw [kk _ _ (by omega) (by omega) (by omega) (by omega) (by omega)]; exact f3
        · rw [kk _ _ (by omega) (by omega) (by omega) (by omega) (by omega)]; exact f4
        · rw [kk _ _ (by omega) (by omega) (by omega) (by omega) (by omega)]; exact f5
      · obtain ⟨q1, q2, q3, q4, q5, q6⟩ := h1 x (by omega)
        refine ⟨dg_f q1 (fun b hb => ?_), ?_, ?_, ?_, ?_, ?_⟩
        all_goals (try dsimp only)
        · rw [kk _ _ (by omega) (by omega) (by omega) (by omega) (by omega), f6 _ _ (by omega) (by omega)]
        · rw [kk _ _ (by omega) (by omega) (by omega) (by omega) (by omega), f6 _ _ (by omega) (by omega)]; exact q2
        · rw [kk _ _ (by omega) (by omega) (by omega) (by omega) (by omega), f6 _ _ (by omega) (by omega)]; exact q3
        · rw [kk _ _ (by omega) (by omega) (by omega) (by omega) (by omega), f6 _ _ (by omega) (by omega)]; exact q4
        · rw [kk _ _ (by omega) (by omega) (by omega) (by omega) (by omega), f6 _ _ (by omega) (by omega)]; exact q5
        · rw [mset_j (by omega), k1 _ _ (by omega) (by omega) (by omega) (by omega), f6 _ _ (by omega) (by omega)]; exact q6
    · intro b y q1 q2
      dsimp only
      rw [mset_k (by omega), k1 _ _ (by omega) (by omega) (by omega) (by omega), f6 _ _ (by omega) (by omega)]
      exact h3 b y q1 q2
  · rintro ⟨v, a⟩ r ⟨h1, h3⟩
    show wq (fX18_clear_i42 fu 0 r v (sI (N + 1)) a L) _
    dsimp only at h1 h3
    unfold fX18_clear_i42
    rw [h3 902 2 (by omega) (by omega), h2, if_pos (by rw [sI_lt (by omega) (by omega)]; omega)]
    exact wq_some ⟨rfl, h1, h3⟩
theorem st_clear {fu : Nat} {A M : mwM} {L L2 : mwL} {N E : Nat} (hf : 31 ≤ fu) (h : RTr A M N E) : ∃ A' r M', DX10_forgetAll fu A L = some (A', L) ∧ DX18_clear fu 0 M L2 = some (r, M', L2) ∧ RTr A' M' N E ∧ (∀ b j, ¬ (b = 139 ∧ j = 3) → ¬ (146 ≤ b ∧ b ≤ 150) → A' b j = A b j) ∧ (∀ b j, ¬ (902 ≤ b ∧ b ≤ 920) → M' b j = M b j) := by
  obtain ⟨hN, a1, a2, a3, a4, a5, a6, a7, a8, ⟨G, hG, a9⟩, a10, l, sd, ⟨b1, b2, b3, b4⟩, ⟨e1, e2, e3, t0, e4, e5, e6⟩, hF⟩ := h
  obtain ⟨⟨A', L'⟩, hA, rfl, c1, c2, c3⟩ := c_forgetAll (fu := fu) (L := L) hf hN a1
  obtain ⟨⟨r, M', L''⟩, hM, rfl, d1, d2⟩ := m_clear (fu := fu) (L := L2) hf hN a2 a4 (a8 31 (by omega))
  dsimp only at c1 c2 c3 d1 d2
  refine ⟨A', r, M', hA, hM, ?_, c3, fun b j hb => d2 b j (by omega) (by omega)⟩
  all_goals (try dsimp only)
  refine ⟨hN, ?_, ?_, ?_, ?_, ?_, ?_, ?_, ?_, ⟨G, hG, ?_⟩, ?_, [], (fun _ => 0), ⟨Nat.zero_le _, fun x hx => absurd hx List.not_mem_nil, ?_, fun e h => absurd h (Nat.not_lt_zero _)⟩, ⟨?_, fun i _ => ⟨fun h => absurd h (Nat.lt_irrefl 0), fun h => absurd h List.not_mem_nil⟩, List.Pairwise.nil, t0, e4, ?_, fun _ _ => Nat.zero_le _⟩, fun x hx => absurd hx List.not_mem_nil⟩
  all_goals (try dsimp only)
  · rw [c3 _ _ (by omega) (by omega)]; exact a1
  · rw [d2 _ _ (by omega) (by omega)]; exact a2
  · rw [d2 _ _ (by omega) (by omega)]; exact a3
  · rw [d2 _ _ (by omega) (by omega)]; exact a4
  · rw [c3 _ _ (by omega) (by omega), d2 _ _ (by omega) (by omega)]; exact a5
  · rw [c3 _ _ (by omega) (by omega)]; exact a6
  · rw [d2 _ _ (by omega) (by omega)]; exact a7
  · intro x hx
    rw [d2 _ _ (by omega) (by omega)]; exact a8 x hx
  · rw [d2 _ _ (by omega) (by omega)]; exact a9
  · intro i hi
    obtain ⟨n, p, t, a, g, k, hr, hc, hm⟩ := a10 i hi
    obtain ⟨q1, q2, q3, q4, q5⟩ := c2 i hi
    obtain ⟨s1, s2, s3, s4, s5, s6⟩ := d1 i hi
    refine ⟨80, p, 0, 0, 0, 128, ⟨by omega, hr.2.1, hr.2.2.1, by omega, by omega, by omega, by omega⟩, ⟨?_, q1, by rw [q2]; exact sk_0, q3, q4, q5⟩, ⟨?_, s1, by rw [s2]; exact sk_0, s3, s4, s5, ?_, ?_, ?_⟩⟩
    all_goals (try dsimp only)
    · rw [c3 _ _ (by omega) (by omega)]; exact hc.1
    · rw [d2 _ _ (by omega) (by omega)]; exact hm.1
    · rw [d2 _ _ (by omega) (by omega)]; exact hm.2.2.2.2.2.2.1
    · rw [d2 _ _ (by omega) (by omega)]; exact hm.2.2.2.2.2.2.2.1
    · rw [d2 _ _ (by omega) (by omega)]; exact hm.2.2.2.2.2.2.2.2
  · exact c1
  · intro i hi
    exact (d1 i hi).2.2.2.2.2
  · rw [d2 _ _ (by omega) (by omega)]; exact e5
/-- a watch more -/
theorem st_code {fu : Nat} {A M : mwM} {L L2 : mwL} {N E p : Nat} {s c pt : Int32} (hf : 31 ≤ fu) (hN30 : N < 30) (hp1 : 1 ≤ p) (hp2 : p < 256) (hpar : M 906 (N + 1) = 0) (hst : M 916 (N + 1) = 0) (h : RTr A M N E) : ∃ A' M', DX10_addWatch fu s c (sI p) pt A L = some (sI (N + 1), A', L) ∧ DX18_code fu (sI p) 64 127 M L2 = some (sI (N + 1), M', L2) ∧ RTr A' M' (N + 1) E ∧ A' 141 N = s ∧ A' 142 N = c ∧ A' 143 N = pt ∧ A' 144 N = 0 ∧ (∀ b j, ¬ (b = 139 ∧ j = 2) → ¬ (j = N ∧ 141 ≤ b ∧ b ≤ 150) → A' b j = A b j) ∧ (∀ j, M' 906 j = M 906 j) ∧ (∀ j, M' 916 j = M 916 j) ∧ (∀ b j, ¬ (902 ≤ b ∧ b ≤ 920) → M' b j = M b j) := by
  obtain ⟨hN, a1, a2, a3, a4, a5, a6, a7, a8, ⟨G, hG, a9⟩, a10, l, sd, ⟨b1, b2, b3, b4⟩, ⟨e1, e2, e3, t0, e4, e5, e6⟩, hF⟩ := h
  have hC : wq (DX10_addWatch fu s c (sI p) pt A L) (fun q => q.1 = sI (N + 1) ∧ q.2.2 = L ∧ q.2.1 139 2 = sI (N + 1) ∧ cc q.2.1 N 80 p 0 0 0 128 ∧ q.2.1 141 N = s ∧ q.2.1 142 N = c ∧ q.2.1 143 N = pt ∧ q.2.1 144 N = 0 ∧ ∀ b j, ¬ (b = 139 ∧ j = 2) → ¬ (j = N ∧ 141 ≤ b ∧ b ≤ 150) → q.2.1 b j = A b j) := by
    unfold DX10_addWatch
    rw [a1, if_pos (by rw [sI_ltl (by omega) (by omega)]; exact hN30)]
    simp (disch := omega) only [mlet, mck_s, sI_nn, mset_k (show (139 : Nat) ≠ 141 by decide), mset_k (show (139 : Nat) ≠ 142 by decide), mset_k (show (139 : Nat) ≠ 143 by decide), mset_k (show (139 : Nat) ≠ 144 by decide), mset_k (show (139 : Nat) ≠ 145 by decide), a1]
    rw [c_forget hN30, mb2_s]
    simp only [mset_k (show (139 : Nat) ≠ 146 by decide), mset_k (show (139 : Nat) ≠ 147 by decide), mset_k (show (139 : Nat) ≠ 148 by decide), mset_k (show (139 : Nat) ≠ 149 by decide), mset_k (show (139 : Nat) ≠ 150 by decide), mset_k (show (139 : Nat) ≠ 141 by decide), mset_k (show (139 : Nat) ≠ 142 by decide), mset_k (show (139 : Nat) ≠ 143 by decide), mset_k (show (139 : Nat) ≠ 144 by decide), mset_k (show (139 : Nat) ≠ 145 by decide), a1, mset_s, sI_1]
    refine wq_some ⟨rfl, rfl, ?_, ⟨?_, ?_, ?_, ?_, ?_, ?_⟩, ?_, ?_, ?_, ?_, ?_⟩
    all_goals (try dsimp only)
    · simp [mset]
    · simp [mset]
    · simp [mset]; rfl
    · simp [mset]; exact sk_0
    · simp [mset]; rfl
    · simp [mset]; rfl
    · simp [mset]; rfl
    · simp [mset]
    · simp [mset]
    · simp [mset]
    · simp [mset]
    · intro b j h1 h2
      rw [mset_n (by omega), mset_n (by omega), mset_n (by omega), mset_n (by omega), mset_n (by omega), mset_n (by omega), mset_n (by omega), mset_n (by omega), mset_n (by omega), mset_n (by omega), mset_n (by omega)]
  have hM : wq (DX18_code fu (sI p) 64 127 M L2) (fun q => q.1 = sI (N + 1) ∧ q.2.2 = L2 ∧ q.2.1 902 2 = sI (N + 1) ∧ (q.2.1 903 (N + 1) = sI p ∧ dg q.2.1 (N + 1) 80 ∧ q.2.1 907 (N + 1) = 0 ∧ q.2.1 909 (N + 1) = 0 ∧ q.2.1 910 (N + 1) = 0 ∧ q.2.1 911 (N + 1) = 0 ∧ q.2.1 904 (N + 1) = 64 ∧ q.2.1 905 (N + 1) = 127) ∧ ∀ b j, ¬ (b = 902 ∧ (j = 0 ∨ j = 2)) → ¬ (j = N + 1 ∧ (903 ≤ b ∧ b ≤ 905 ∨ b = 907 ∨ 909 ≤ b ∧ b ≤ 911)) → ¬ (b = 908 ∧ 8 * (N + 1) ≤ j ∧ j < 8 * (N + 1) + 8) → b ≠ 912 → b ≠ 913 → b ≠ 914 → b ≠ 915 → q.2.1 b j = M b j) := by
    unfold DX18_code fX18_code_b39
    simp only [mlet]
    rw [if_neg (by rw [sI_ltl (by omega) (by omega)]; omega), if_neg (by rw [sI_llt (by omega) (by omega)]; omega), if_neg (by decide), if_neg (by decide), if_neg (by decide), if_pos (by decide), mset_j (a := 902) (b := 23) (by decide), a4, if_pos rfl, mset_j (a := 902) (b := 2) (by decide), a2, if_neg (by rw [sI_eql (by omega) (by omega)]; omega), sI_1]
    simp (disch := omega) only [mset_s, mck_s, sI_nn, mset_k (show (902 : Nat) ≠ 903 by decide), mset_k (show (902 : Nat) ≠ 904 by decide), mset_k (show (902 : Nat) ≠ 905 by decide)]
    refine wq_b2 (m_freshen (by omega) (by omega)) ?_
    rintro M1 L1 ⟨rfl, f1, f2, f3, f4, f5, f6⟩
    dsimp only at f1 f2 f3 f4 f5 f6
    have m12 : M1 902 2 = sI (N + 1) := by
      rw [f6 _ _ (by omega) (by omega)]
      simp [mset]
    rw [m12]
    refine wq_b2 (m_keep f1 (by omega) (by omega)) ?_
    rintro M2 L3 ⟨rfl, k1⟩
    dsimp only at k1
    have m22 : M2 902 2 = sI (N + 1) := by rw [k1 _ _ (by omega) (by omega) (by omega) (by omega)]; exact m12
    refine wq_some ⟨m22, rfl, m22, ⟨?_, dg_f f1 (fun b _ => k1 _ _ (by omega) (by omega) (by omega) (by omega)), ?_, ?_, ?_, ?_, ?_, ?_⟩, ?_⟩
    all_goals (try dsimp only)
    · rw [k1 _ _ (by omega) (by omega) (by omega) (by omega), f6 _ _ (by omega) (by omega)]
      simp [mset]
    · rw [k1 _ _ (by omega) (by omega) (by omega) (by omega)]; exact f2
    · rw [k1 _ _ (by omega) (by omega) (by omega) (by omega)]; exact f3
    · rw [k1 _ _ (by omega) (by omega) (by omega) (by omega)]; exact f4
    · rw [k1 _ _ (by omega) (by omega) (by omega) (by omega)]; exact f5
    · rw [k1 _ _ (by omega) (by omega) (by omega) (by omega), f6 _ _ (by omega) (by omega)]
      simp [mset]
    · rw [k1 _ _ (by omega) (by omega) (by omega) (by omega), f6 _ _ (by omega) (by omega)]
      simp [mset]
    · intro b j h1 h2 h3 h4 h5 h6 h7
      rw [k1 _ _ h4 h5 h6 h7, f6 _ _ (by omega) (by omega), mset_n (by omega), mset_n (by omega), mset_n (by omega), mset_n (by omega), mset_n (by omega)]
  obtain ⟨⟨x, A', L'⟩, hA, q0, q1, q2, q3, q4, q5, q6, q7, q8⟩ := hC
  obtain ⟨⟨y, M', L''⟩, hMM, s0, s1, s2, ⟨s3, s4, s5, s6, s7, s8, s9, s10⟩, s11⟩ := hM
  dsimp only at q0 q1 q2 q3 q4 q5 q6 q7 q8 s0 s1 s2 s3 s4 s5 s6 s7 s8 s9 s10 s11
  subst q0 q1 s0 s1
  refine ⟨A', M', hA, hMM, ?_, q4, q5, q6, q7, q8, fun j => s11 _ _ (by omega) (by omega) (by omega) (by omega) (by omega) (by omega) (by omega), fun j => s11 _ _ (by omega) (by omega) (by omega) (by omega) (by omega) (by omega) (by omega), fun b j hb => s11 _ _ (by omega) (by omega) (by omega) (by omega) (by omega) (by omega) (by omega)⟩
  all_goals (try dsimp only)
  refine ⟨by omega, q2, s2, ?_, ?_, ?_, ?_, ?_, ?_, ⟨G, hG, ?_⟩, ?_, l, (fun x => if x = N then 0 else sd x), ⟨b1, fun x hx => by have := b2 x hx; omega, ?_, ?_⟩, ⟨?_, ?_, ?_, t0, e4, ?_, ?_⟩, ?_⟩
  all_goals (try dsimp only)
  · rw [s11 _ _ (by omega) (by omega) (by omega) (by omega) (by omega) (by omega) (by omega)]; exact a3
  · rw [s11 _ _ (by omega) (by omega) (by omega) (by omega) (by omega) (by omega) (by omega)]; exact a4
  · rw [q8 _ _ (by omega) (by omega), s11 _ _ (by omega) (by omega) (by omega) (by omega) (by omega) (by omega) (by omega)]; exact a5
  · rw [q8 _ _ (by omega) (by omega)]; exact a6
  · rw [s11 _ _ (by omega) (by omega) (by omega) (by omega) (by omega) (by omega) (by omega)]; exact a7
  · intro x hx
    rw [s11 _ _ (by omega) (by omega) (by omega) (by omega) (by omega) (by omega) (by omega)]; exact a8 x hx
  · rw [s11 _ _ (by omega) (by omega) (by omega) (by omega) (by omega) (by omega) (by omega)]; exact a9
  · intro i hi
    by_cases hiN : i = N
    · subst hiN
      exact ⟨80, p, 0, 0, 0, 128, ⟨by omega, hp1, hp2, by omega, by omega, by omega, by omega⟩, q3, ⟨s3, s4, by rw [s5]; exact sk_0, s6, s7, s8, s9, s10, by rw [s11 _ _ (by omega) (by omega) (by omega) (by omega) (by omega) (by omega) (by omega)]; exact hpar⟩⟩
    · obtain ⟨n', p', t', a', g', k', r1, r2, r3⟩ := a10 i (by omega)
      exact ⟨n', p', t', a', g', k', r1, cc_f r2 (fun b h1 h2 => q8 b i (by omega) (by omega)), cm_f r3 (fun b hb => s11 _ _ (by omega) (by omega) (by omega) (by omega) (by omega) (by omega) (by omega)) (fun b hb => s11 _ _ (by omega) (by omega) (by omega) (by omega) (by omega) (by omega) (by omega))⟩
  · rw [q8 _ _ (by omega) (by omega)]; exact b3
  · intro e he
    rw [q8 _ _ (by omega) (by omega)]; exact b4 e he
  · intro i hi
    rw [s11 _ _ (by omega) (by omega) (by omega) (by omega) (by omega) (by omega) (by omega)]
    by_cases hiN : i = N
    · rw [if_pos hiN, hiN]; exact hst
    · rw [if_neg hiN]; exact e1 i (by omega)
  · intro i hi
    by_cases hiN : i = N
    · rw [if_pos hiN]
      exact ⟨fun h => by omega, fun h => by have := b2 i h; omega⟩
    · rw [if_neg hiN]; exact e2 i (by omega)
  · refine List.Pairwise.imp_of_mem ?_ e3
    intro x y hx hy hxy
    have := b2 x hx
    have := b2 y hy
    rw [if_neg (by omega), if_neg (by omega)]
    exact hxy
  · rw [s11 _ _ (by omega) (by omega) (by omega) (by omega) (by omega) (by omega) (by omega)]; exact e5
  · intro i hi
    by_cases hiN : i = N
    · rw [if_pos hiN]; omega
    · rw [if_neg hiN]; exact e6 i (by omega)
  · intro x hx
    have := b2 x hx
    rw [q8 _ _ (by omega) (by omega), q8 _ _ (by omega) (by omega), s11 _ _ (by omega) (by omega) (by omega) (by omega) (by omega) (by omega) (by omega), s11 _ _ (by omega) (by omega) (by omega) (by omega) (by omega) (by omega) (by omega)]
    exact hF x hx
/-! the end of a cycle -/
/-- what a good cycle makes of status, trips, age and good cycles; whether the entry goes -/
def gy (ts n t a g : Nat) : Nat × Nat × Nat × Nat × Bool :=
  if ts = 0 ∨ n / 8 % 2 = 0 ∨ n % 2 = 1 then (if (if g < 255 then g + 1 else 255) < 3 then sb n 2 0 else sb (sb n 2 0) 7 0, if n / 8 % 2 = 0 then 0 else t, a, if g < 255 then g + 1 else 255, false)
  else if a + 1 < 40 then (if (if g < 255 then g + 1 else 255) < 3 then sb n 2 0 else sb (sb n 2 0) 7 0, t, a + 1, if g < 255 then g + 1 else 255, false)
  else (sb (if (if g < 255 then g + 1 else 255) < 3 then sb n 2 0 else sb (sb n 2 0) 7 0) 3 0, 0, 0, 0, true)
theorem cy_5 : ∀ n, n < 256 → sI n &&& (-5) = sI (sb n 2 0) := by decide +kernel
theorem cy_8 : ∀ n, n < 256 → sI n &&& 8 = sI (n / 8 % 2 * 8) := by decide +kernel
theorem cy_129 : ∀ n, n < 256 → sI n &&& (-129) = sI (sb n 7 0) := by decide +kernel
theorem cy_9 : ∀ n, n < 256 → sI n &&& 9 = sI (n / 8 % 2 * 8 + n % 2) := by decide +kernel
theorem cy_n9 : ∀ n, n < 256 → sI n &&& (-9) = sI (sb n 3 0) := by decide +kernel
theorem cy_66 : ∀ n, n < 256 → sI n &&& 66 = sI (n / 2 % 2 * 2 + n / 64 % 2 * 64) := by decide +kernel
theorem cy_e : ∀ n, n < 256 → (sI n &&& (-3)) ||| 64 = sI (sb (sb n 1 0) 6 1) := by decide +kernel
theorem cy_b1 : ∀ n, n < 256 → sI (sb n 2 0) &&& 8 = sI (n / 8 % 2 * 8) := by decide +kernel
theorem cy_b2 : ∀ n, n < 256 → sI (sb n 2 0) &&& 9 = sI (n / 8 % 2 * 8 + n % 2) ∧ sI (sb (sb n 2 0) 7 0) &&& 9 = sI (n / 8 % 2 * 8 + n % 2) := by decide +kernel
theorem cy_b4 : ∀ n, n < 256 → sI (sb n 2 0) &&& (-129) = sI (sb (sb n 2 0) 7 0) := by decide +kernel
theorem cy_b5 : ∀ n, n < 256 → sI (sb n 2 0) &&& (-9) = sI (sb (sb n 2 0) 3 0) ∧ sI (sb (sb n 2 0) 7 0) &&& (-9) = sI (sb (sb (sb n 2 0) 7 0) 3 0) := by decide +kernel
theorem er_filter {l : List Nat} (hd : l.Nodup) : ∀ (e : Nat) (h : e < l.length), l.eraseIdx e = l.filter (fun x => decide (x ≠ l[e]'h)) := by
  induction l with
  | nil => intro e h; simp at h
  | cons a l ih =>
    rw [List.nodup_cons] at hd
    intro e h
    cases e with
    | zero =>
      show l = _
      rw [List.filter_cons_of_neg (by simp)]
      symm
      rw [List.filter_eq_self]
      intro x hx
      have : x ≠ a := fun q => hd.1 (q ▸ hx)
      simpa using this
    | succ e =>
      have he : e < l.length := by simpa using h
      have hne : a ≠ l[e] := fun q => hd.1 (q ▸ List.getElem_mem he)
      show a :: l.eraseIdx e = _
      rw [ih hd.2 e he, List.filter_cons_of_pos (by simpa using hne)]
      rfl
theorem c_good0 {fu : Nat} {A : mwM} {L : mwL} {N i n p t a g k ts e8 e0 n1 n7 n2 n3 g1 : Nat} {w : Nat × Nat × Nat × Nat × Bool} {l : List Nat} (hf : 9 ≤ fu) (hN : N ≤ 30) (hi : i < N) (hts : ts < 2) (hg : g < 256) (ha40 : a < 40) (he8 : e8 < 2) (he0 : e0 < 2) (y1 : sI n &&& (-5) = sI n1) (y2 : sI n1 &&& 8 = sI (e8 * 8)) (y3 : sI n1 &&& (-129) = sI n7) (hn2 : (if g1 < 3 then n1 else n7) = n2) (y4 : sI n2 &&& 9 = sI (e8 * 8 + e0)) (y5 : sI n2 &&& (-9) = sI n3) (hg1 : (if g < 255 then g + 1 else 255) = g1) (hg2 : g1 < 256) (hgy : w = if ts = 0 ∨ e8 = 0 ∨ e0 = 1 then (n2, if e8 = 0 then 0 else t, a, g1, false) else if a + 1 < 40 then (n2, t, a + 1, g1, false) else (n3, 0, 0, 0, true)) (hc : cc A i n p t a g k) (hnd : l.Nodup) (ho : okeC A N l) : wq (DX10_endGoodCycle fu (sI i) (sI ts) A L) (fun q => q.2 = L ∧ cc q.1 i w.1 p w.2.1 w.2.2.1 w.2.2.2.1 k ∧ okeC q.1 N (if w.2.2.2.2 = true then l.filter (fun x => decide (x ≠ i)) else l) ∧ ∀ b j, ¬ (b = 139 ∧ j = 3) → ¬ (j = i ∧ (b = 146 ∨ b = 148 ∨ b = 149 ∨ b = 150)) → b ≠ 153 → q.1 b j = A b j) := by
  obtain ⟨c1, c2, c3, c4, c5, c6⟩ := hc
  obtain ⟨o1, o2, o3, o4⟩ := ho
  -- from the age on
  have last : ∀ (A1 : mwM), A1 146 i = sI n2 → A1 148 i = sI (if e8 = 0 then 0 else t) → A1 150 i = sI g1 → (∀ b j, ¬ (j = i ∧ (b = 146 ∨ b = 148 ∨ b = 150)) → A1 b j = A b j) → wq (fX10_endGoodCycle_b90 fu (sI i) (sI ts) A1 L) (fun q => q.2 = L ∧ cc q.1 i w.1 p w.2.1 w.2.2.1 w.2.2.2.1 k ∧ okeC q.1 N (if w.2.2.2.2 = true then l.filter (fun x => decide (x ≠ i)) else l) ∧ ∀ b j, ¬ (b = 139 ∧ j = 3) → ¬ (j = i ∧ (b = 146 ∨ b = 148 ∨ b = 149 ∨ b = 150)) → b ≠ 153 → q.1 b j = A b j) := by
    intro A1 h146 h148 h150 hfr
    have h149 : A1 149 i = sI a := by rw [hfr _ _ (by omega)]; exact c5
    unfold fX10_endGoodCycle_b90 fX10_endGoodCycle_b110 fX10_endGoodCycle_b190
    have stay : (ts = 0 ∨ e8 = 0 ∨ e0 = 1) → wq (some (A1, L)) (fun q => q.2 = L ∧ cc q.1 i w.1 p w.2.1 w.2.2.1 w.2.2.2.1 k ∧ okeC q.1 N (if w.2.2.2.2 = true then l.filter (fun x => decide (x ≠ i)) else l) ∧ ∀ b j, ¬ (b = 139 ∧ j = 3) → ¬ (j = i ∧ (b = 146 ∨ b = 148 ∨ b = 149 ∨ b = 150)) → b ≠ 153 → q.1 b j = A b j) := by
      intro hs
      rw [hgy, if_pos hs]
      refine wq_some ⟨rfl, ⟨?_, h146, ?_, h148, h149, h150⟩, ⟨o1, o2, ?_, ?_⟩, ?_⟩
      all_goals (try dsimp only)
      · rw [hfr _ _ (by omega)]; exact c1
      · rw [hfr _ _ (by omega)]; exact c3
      · rw [hfr _ _ (by omega)]; exact o3
      · intro e he
        rw [hfr _ _ (by omega)]; exact o4 e he
      · intro b j h1 h2 h3
        exact hfr b j (by omega)
    by_cases ht0 : ts = 0
    · rw [if_pos (by rw [ht0]; rfl)]
      exact stay (Or.inl ht0)
    · rw [if_neg (by rw [sI_eql (by omega) (by omega)]; exact ht0), mck_s (by omega) (by omega), sI_nn (by omega), h146, y4]
      by_cases h8 : e8 = 1 ∧ e0 = 0
      · have hs : ¬ (ts = 0 ∨ e8 = 0 ∨ e0 = 1) := by omega
        rw [if_pos (by rw [h8.1, h8.2]; rfl)]
        simp (disch := omega) only [mlet, mck_s, sI_nn, mset_s, h149, sI_1]
        have t148 : A1 148 i = sI t := by rw [h148, if_neg (by omega)]
        by_cases ha : a + 1 < 40
        · rw [if_pos (by rw [sI_ltl (by omega) (by omega)]; exact ha), hgy, if_neg hs, if_pos ha]
          refine wq_some ⟨rfl, ⟨?_, ?_, ?_, ?_, ?_, ?_⟩, ⟨o1, o2, ?_, ?_⟩, ?_⟩
          all_goals (try dsimp only)
          · rw [mset_k (by decide), hfr _ _ (by omega)]; exact c1
          · rw [mset_k (by decide)]; exact h146
          · rw [mset_k (by decide), hfr _ _ (by omega)]; exact c3
          · rw [mset_k (by decide)]; exact t148
          · rw [mset_s]
          · rw [mset_k (by decide)]; exact h150
          · rw [mset_k (by decide), hfr _ _ (by omega)]; exact o3
          · intro e he
            rw [mset_k (by decide), hfr _ _ (by omega)]; exact o4 e he
          · intro b j h1 h2 h3
            rw [mset_n (by omega)]
            exact hfr b j (by omega)
        · rw [if_neg (by rw [sI_ltl (by omega) (by omega)]; exact ha), hgy, if_neg hs, if_neg ha]
          rw [mset_k (a := 146) (by decide), h146, y5]
          generalize hA2 : mset (mset (mset (mset (mset A1 149 i (sI (a + 1))) 146 i (sI (n3))) 148 i 0) 149 i 0) 150 i 0 = A2
          have f0 : ∀ b j, ¬ (j = i ∧ (b = 146 ∨ b = 148 ∨ b = 149 ∨ b = 150)) → A2 b j = A b j := by
            intro b j h
            rw [← hA2, mset_n (by omega), mset_n (by omega), mset_n (by omega), mset_n (by omega), mset_n (by omega), hfr b j (by omega)]
          have cc2 : cc A2 i (n3) p 0 0 0 k := by
            refine ⟨?_, ?_, ?_, ?_, ?_, ?_⟩
            · rw [f0 _ _ (by omega)]; exact c1
            · rw [← hA2]; simp [mset]
            · rw [f0 _ _ (by omega)]; exact c3
            · rw [← hA2]; simp [mset]; rfl
            · rw [← hA2]; simp [mset]; rfl
            · rw [← hA2]; simp [mset]; rfl
          have E3 : A2 139 3 = sI l.length := by rw [f0 _ _ (by omega)]; exact o3
          have E4 : ∀ e (h : e < l.length), A2 153 e = sI (l[e]'h) := fun e he => by rw [f0 _ _ (by omega)]; exact o4 e he
          refine wq_b3 (c_entryOf hf (by omega) o1 (fun x hx => by have := o2 x hx; omega) E3 E4) ?_
          rintro r M1 L1 ⟨hq, hrr⟩
          obtain ⟨rfl, rfl⟩ : M1 = A2 ∧ L1 = L := by simpa using hq
          dsimp only at hrr
          rcases hrr with ⟨rfl, hil⟩ | ⟨e, he, rfl, hel⟩
          · have hrem : DX10_removeEntry fu (-1) M1 L1 = some (M1, L1) := by
              unfold DX10_removeEntry
              rw [if_neg (by decide)]
            rw [hrem, mb2_s]
            have hfl : l.filter (fun x => decide (x ≠ i)) = l := by
              rw [List.filter_eq_self]
              intro x hx
              have : x ≠ i := fun q => hil (q ▸ hx)
              simpa using this
            refine wq_some ⟨rfl, cc2, ?_, fun b j h1 h2 h3 => f0 b j h2⟩
            rw [if_pos rfl, hfl]
            exact ⟨o1, o2, E3, E4⟩
          · refine wq_b2 (c_remove hf o1 he E3 E4) ?_
            rintro M3 L3 ⟨hL3, hE3, hM3, hfr3⟩
            dsimp only at hL3 hE3 hM3 hfr3
            subst hL3
            refine wq_some ⟨rfl, cc_f cc2 (fun b h1 h2 => hfr3 _ _ (by omega) (by omega)), ?_, ?_⟩
            · rw [if_pos rfl, ← hel, ← er_filter hnd e he]
              have hlen := List.length_eraseIdx_of_lt he
              exact ⟨by omega, fun x hx => o2 x (List.mem_of_mem_eraseIdx hx), hE3, hM3⟩
            · intro b j h1 h2 h3
              dsimp only
              rw [hfr3 b j h3 h1, f0 b j h2]
      · rw [if_neg (by rw [sI_eql (by omega) (by omega)]; omega)]
        exact stay (by omega)
  have mid : ∀ (A1 : mwM), A1 146 i = sI n1 → A1 148 i = sI (if e8 = 0 then 0 else t) → (∀ b j, ¬ (j = i ∧ (b = 146 ∨ b = 148)) → A1 b j = A b j) → wq (fX10_endGoodCycle_b37 fu (sI i) (sI ts) A1 L) (fun q => q.2 = L ∧ cc q.1 i w.1 p w.2.1 w.2.2.1 w.2.2.2.1 k ∧ okeC q.1 N (if w.2.2.2.2 = true then l.filter (fun x => decide (x ≠ i)) else l) ∧ ∀ b j, ¬ (b = 139 ∧ j = 3) → ¬ (j = i ∧ (b = 146 ∨ b = 148 ∨ b = 149 ∨ b = 150)) → b ≠ 153 → q.1 b j = A b j) := by
    intro A1 h146 h148 hfr
    have h150 : A1 150 i = sI g := by rw [hfr _ _ (by omega)]; exact c6
    unfold fX10_endGoodCycle_b37
    simp (disch := omega) only [mlet, mck_s, sI_nn, mset_s, h150, sI_1]
    have hm : (if 255 < sI (g + 1) then (255 : Int32) else sI (g + 1)) = sI g1 := by
      rw [← hg1]
      by_cases h : g < 255
      · rw [if_pos h, if_neg (by rw [sI_llt (by omega) (by omega)]; omega)]
      · rw [if_neg h, if_pos (by rw [sI_llt (by omega) (by omega)]; omega)]; rfl
    rw [hm]
    by_cases h3 : g1 < 3
    · rw [if_pos (by rw [sI_ltl (by omega) (by omega)]; exact h3)]
      refine last _ ?_ ?_ mset_s ?_
      · rw [mset_k (by decide), h146, ← hn2, if_pos h3]
      · rw [mset_k (by decide)]; exact h148
      · intro b j h
        rw [mset_n (by omega)]
        exact hfr b j (by omega)
    · rw [if_neg (by rw [sI_ltl (by omega) (by omega)]; exact h3), mset_k (a := 146) (by decide), h146, y3]
      refine last _ ?_ ?_ ?_ ?_
      · rw [mset_s, ← hn2, if_neg h3]
      · rw [mset_k (by decide), mset_k (by decide)]; exact h148
      · rw [mset_k (by decide), mset_s]
      · intro b j h
        rw [mset_n (by omega), mset_n (by omega)]
        exact hfr b j (by omega)
  unfold DX10_endGoodCycle
  simp (disch := omega) only [mlet, mck_s, sI_nn, mset_s, c2, y1]
  rw [y2]
  by_cases h8 : e8 = 0
  · rw [if_pos (by rw [h8]; rfl)]
    refine mid _ ?_ ?_ ?_
    · rw [mset_k (by decide), mset_s]
    · rw [mset_s, if_pos h8]; rfl
    · intro b j h
      rw [mset_n (by omega), mset_n (by omega)]
  · rw [if_neg (by rw [sI_eql (by omega) (by omega)]; omega)]
    refine mid _ mset_s ?_ ?_
    · rw [mset_k (by decide), if_neg h8]; exact c4
    · intro b j h
      rw [mset_n (by omega)]
theorem c_good {fu : Nat} {A : mwM} {L : mwL} {N i n p t a g k ts : Nat} {l : List Nat} (hf : 9 ≤ fu) (hN : N ≤ 30) (hi : i < N) (hts : ts < 2) (hr : rg n p t a g k) (hc : cc A i n p t a g k) (hnd : l.Nodup) (ho : okeC A N l) : wq (DX10_endGoodCycle fu (sI i) (sI ts) A L) (fun q => q.2 = L ∧ cc q.1 i (gy ts n t a g).1 p (gy ts n t a g).2.1 (gy ts n t a g).2.2.1 (gy ts n t a g).2.2.2.1 k ∧ okeC q.1 N (if (gy ts n t a g).2.2.2.2 = true then l.filter (fun x => decide (x ≠ i)) else l) ∧ ∀ b j, ¬ (b = 139 ∧ j = 3) → ¬ (j = i ∧ (b = 146 ∨ b = 148 ∨ b = 149 ∨ b = 150)) → b ≠ 153 → q.1 b j = A b j) := by
  have r1 := hr.1
  have hg1 : (if g < 255 then g + 1 else 255) < 256 := by split <;> omega
  have h6 := hr.2.2.2.2.2.1
  have h5 := hr.2.2.2.2.1
  refine c_good0 (e8 := n / 8 % 2) (e0 := n % 2) (w := gy ts n t a g) hf hN hi hts h6 h5 (by omega) (by omega) (cy_5 n r1) (cy_b1 n r1) (cy_b4 n r1) rfl ?_ (n3 := sb (if (if g < 255 then g + 1 else 255) < 3 then sb n 2 0 else sb (sb n 2 0) 7 0) 3 0) ?_ rfl hg1 rfl hc hnd ho
  · by_cases h3 : (if g < 255 then g + 1 else 255) < 3
    · rw [if_pos h3]; exact (cy_b2 n r1).1
    · rw [if_neg h3]; exact (cy_b2 n r1).2
  · by_cases h3 : (if g < 255 then g + 1 else 255) < 3
    · rw [if_pos h3]; exact (cy_b5 n r1).1
    · rw [if_neg h3]; exact (cy_b5 n r1).2
/-- bit b of n -/
def bt (n b : Nat) : Nat := n / 2^b % 2
theorem bt_lt (n b : Nat) : bt n b < 2 := Nat.mod_lt _ (by decide)
theorem bt_sb {n b v c : Nat} (hn : n < 256) (hb : b < 8) (hv : v < 2) (hc : c < 8) : bt (sb n b v) c = if c = b then v else bt n c := sb_dig n hn b hb v hv c hc
theorem m_isb {fu : Nat} {M : mwM} {L : mwL} {c n b : Nat} (hd : dg M c n) (hc : c ≤ 200) (hb : (OfNat.ofNat b : Nat) < 8) : DX18_is fu (sI c) (no_index (OfNat.ofNat b)) M L = some (sI (bt n (OfNat.ofNat b : Nat)), M, L) := m_is hd hc hb
theorem sb_l {n b v : Nat} (hn : n < 256) (hb : b < 8) (hv : v < 2) : sb n b v < 256 := sb_lt n hn b hb v hv
/-- one code at the end of a cycle -/
def cyF (ts n t a g : Nat) : Nat × Nat × Nat × Nat × Bool := if bt n 1 = 0 ∧ bt n 6 = 0 then gy ts n t a g else (n, t, a, g, false)
theorem gy_bt (ts n t a g : Nat) : gy ts n t a g = if ts = 0 ∨ bt n 3 = 0 ∨ bt n 0 = 1 then (if (if g < 255 then g + 1 else 255) < 3 then sb n 2 0 else sb (sb n 2 0) 7 0, if bt n 3 = 0 then 0 else t, a, if g < 255 then g + 1 else 255, false) else if a + 1 < 40 then (if (if g < 255 then g + 1 else 255) < 3 then sb n 2 0 else sb (sb n 2 0) 7 0, t, a + 1, if g < 255 then g + 1 else 255, false) else (sb (if (if g < 255 then g + 1 else 255) < 3 then sb n 2 0 else sb (sb n 2 0) 7 0) 3 0, 0, 0, 0, true) := by
  have h0 : bt n 0 = n % 2 := by unfold bt; simp
  have h3 : bt n 3 = n / 8 % 2 := rfl
  unfold gy
  rw [h0, h3]
theorem gy_rg {ts n p t a g k : Nat} (hr : rg n p t a g k) : (gy ts n t a g).1 < 256 ∧ (gy ts n t a g).2.1 < 256 ∧ (gy ts n t a g).2.2.1 < 40 ∧ (gy ts n t a g).2.2.2.1 < 256 := by
  obtain ⟨r1, r2, r3, r4, r5, r6, r7⟩ := hr
  have hg : (if g < 255 then g + 1 else 255) < 256 := by split <;> omega
  generalize hG : (if g < 255 then g + 1 else 255) = g1 at hg
  have hn : (if g1 < 3 then sb n 2 0 else sb (sb n 2 0) 7 0) < 256 := by
    split
    · exact sb_l r1 (by omega) (by omega)
    · exact sb_l (sb_l r1 (by omega) (by omega)) (by omega) (by omega)
  generalize hN : (if g1 < 3 then sb n 2 0 else sb (sb n 2 0) 7 0) = n2 at hn
  rw [gy_bt, hG, hN]
  have ht : (if bt n 3 = 0 then 0 else t) < 256 := by split <;> omega
  by_cases hc : ts = 0 ∨ bt n 3 = 0 ∨ bt n 0 = 1
  · rw [if_pos hc]
    exact ⟨hn, ht, r5, hg⟩
  · rw [if_neg hc]
    by_cases ha : a + 1 < 40
    · rw [if_pos ha]
      exact ⟨hn, r4, ha, hg⟩
    · rw [if_neg ha]
      exact ⟨sb_l hn (by omega) (by omega), (show 0 < 256 by decide), (show 0 < 40 by decide), (show 0 < 256 by decide)⟩
theorem cyF_rg {ts n p t a g k : Nat} (hr : rg n p t a g k) : (cyF ts n t a g).1 < 256 ∧ (cyF ts n t a g).2.1 < 256 ∧ (cyF ts n t a g).2.2.1 < 40 ∧ (cyF ts n t a g).2.2.2.1 < 256 := by
  unfold cyF
  split
  · exact gy_rg hr
  · exact ⟨hr.1, hr.2.2.2.1, hr.2.2.2.2.1, hr.2.2.2.2.2.1⟩
abbrev cyP (ts i n p t a g k : Nat) (M q : mwM) : Prop := cm q i (sb (sb (cyF ts n t a g).1 1 0) 6 1) p (cyF ts n t a g).2.1 (cyF ts n t a g).2.2.1 (cyF ts n t a g).2.2.2.1 k ∧ q 916 (i + 1) = (if (cyF ts n t a g).2.2.2.2 = true then 0 else M 916 (i + 1)) ∧ ∀ b j, ¬ (b = 908 ∧ 8 * (i + 1) ≤ j ∧ j < 8 * (i + 1) + 8) → ¬ (j = i + 1 ∧ (b = 909 ∨ b = 910 ∨ b = 911 ∨ b = 916)) → b ≠ 912 → b ≠ 913 → b ≠ 914 → b ≠ 915 → q b j = M b j
theorem m_cyc {fu : Nat} {M : mwM} {L : mwL} {N i n p t a g k ts : Nat} {r : Int32 × mwM × mwL → Option (Int32 × mwM × mwL)} {Q : Int32 × mwM × mwL → Prop} (hf : 9 ≤ fu) (hN : N ≤ 30) (hi : i < N) (hts : ts < 2) (hr : rg n p t a g k) (hm : cm M i n p t a g k) (h2 : M 902 2 = sI N) (hQ : ∀ q, cyP ts i n p t a g k M q → wq (r (sI (i + 1 + 1), q, L)) Q) : wq (fX18_cycle_i17 fu (sI ts) r (sI (i + 1)) M L) Q := by
  obtain ⟨r1, r2, r3, r4, r5, r6, r7⟩ := hr
  obtain ⟨m1, m2, m3, m4, m5, m6, m7, m8, m9⟩ := hm
  have hi1 : i + 1 ≤ 200 := by omega
  -- the end: bits 1 and 6, what is kept
  have fin : ∀ (M1 : mwM) (n' t' a' g' : Nat), n' < 256 → dg M1 (i + 1) n' → M1 909 (i + 1) = sI t' → M1 910 (i + 1) = sI a' → M1 911 (i + 1) = sI g' → (∀ b j, ¬ (b = 908 ∧ 8 * (i + 1) ≤ j ∧ j < 8 * (i + 1) + 8) → ¬ (j = i + 1 ∧ (b = 909 ∨ b = 910 ∨ b = 911 ∨ b = 916)) → M1 b j = M b j) → (∃ rm, cyF ts n t a g = (n', t', a', g', rm) ∧ M1 916 (i + 1) = (if rm = true then 0 else M 916 (i + 1))) → wq (fX18_cycle_b204 fu (sI ts) r (sI (i + 1)) M1 L) Q := by
    intro M1 n' t' a' g' hn hd h909 h910 h911 hfr ⟨rm, hcy, h916⟩
    have s1 : sb n' 1 0 < 256 := sb_l hn (by omega) (by omega)
    unfold fX18_cycle_b204
    rw [m_set hi1 (by omega), mb2_s, m_set hi1 (by omega), mb2_s]
    have d1 := dg_set (b := 1) (v := 0) hd hn (by omega) (by omega) bo_0
    have d6 := dg_set (b := 6) (v := 1) d1 s1 (by omega) (by omega) bo_1
    refine wq_b2 (m_keep d6 hi1 (by omega)) ?_
    rintro M2 L2 ⟨hL2, k1⟩
    dsimp only at hL2 k1
    subst hL2
    simp only [mlet]
    rw [sI_1]
    refine hQ M2 ⟨?_, ?_, ?_⟩
    · rw [hcy]
      refine ⟨?_, dg_f d6 (fun b _ => k1 _ _ (by omega) (by omega) (by omega) (by omega)), ?_, ?_, ?_, ?_, ?_, ?_, ?_⟩
      · rw [k1 _ _ (by omega) (by omega) (by omega) (by omega), mset_n (by omega), mset_n (by omega), hfr _ _ (by omega) (by omega)]; exact m1
      · rw [k1 _ _ (by omega) (by omega) (by omega) (by omega), mset_n (by omega), mset_n (by omega), hfr _ _ (by omega) (by omega)]; exact m3
      · rw [k1 _ _ (by omega) (by omega) (by omega) (by omega), mset_n (by omega), mset_n (by omega)]; exact h909
      · rw [k1 _ _ (by omega) (by omega) (by omega) (by omega), mset_n (by omega), mset_n (by omega)]; exact h910
      · rw [k1 _ _ (by omega) (by omega) (by omega) (by omega), mset_n (by omega), mset_n (by omega)]; exact h911
      · rw [k1 _ _ (by omega) (by omega) (by omega) (by omega), mset_n (by omega), mset_n (by omega), hfr _ _ (by omega) (by omega)]; exact m7
      · rw [k1 _ _ (by omega) (by omega) (by omega) (by omega), mset_n (by omega), mset_n (by omega), hfr _ _ (by omega) (by omega)]; exact m8
      · rw [k1 _ _ (by omega) (by omega) (by omega) (by omega), mset_n (by omega), mset_n (by omega), hfr _ _ (by omega) (by omega)]; exact m9
    · rw [hcy, k1 _ _ (by omega) (by omega) (by omega) (by omega), mset_n (by omega), mset_n (by omega)]; exact h916
    · intro b j h1 h2 h3 h4 h5 h6
      rw [k1 _ _ h3 h4 h5 h6, mset_n (by omega), mset_n (by omega), hfr _ _ h1 h2]
  have b1 : bt n 1 < 2 := bt_lt n 1
  have b6 : bt n 6 < 2 := bt_lt n 6
  have b3 : bt n 3 < 2 := bt_lt n 3
  have b0 : bt n 0 < 2 := bt_lt n 0
  unfold fX18_cycle_i17
  rw [h2, if_neg (by rw [sI_lt (by omega) (by omega)]; omega), m_isb m2 hi1 (by omega), mb3_s]
  by_cases e1 : bt n 1 = 0
  · rw [if_pos (by rw [e1]; rfl), m_isb m2 hi1 (by omega), mb3_s]
    by_cases e6 : bt n 6 = 0
    · rw [if_pos (by rw [e6]; rfl), m_set hi1 (by omega), mb2_s]
      have hF : cyF ts n t a g = gy ts n t a g := by unfold cyF; rw [if_pos ⟨e1, e6⟩]
      rw [gy_bt] at hF
      have s2 : sb n 2 0 < 256 := sb_l r1 (by omega) (by omega)
      have d2' := dg_set (b := 2) (v := 0) m2 r1 (by omega) (by omega) bo_0
      have t3 : bt (sb n 2 0) 3 = bt n 3 := by rw [bt_sb r1 (by omega) (by omega) (by omega), if_neg (by decide)]
      have t0 : bt (sb n 2 0) 0 = bt n 0 := by rw [bt_sb r1 (by omega) (by omega) (by omega), if_neg (by decide)]
      have t73 : bt (sb (sb n 2 0) 7 0) 3 = bt n 3 := by rw [bt_sb s2 (by omega) (by omega) (by omega), if_neg (by decide), t3]
      have t70 : bt (sb (sb n 2 0) 7 0) 0 = bt n 0 := by rw [bt_sb s2 (by omega) (by omega) (by omega), if_neg (by decide), t0]
      have hg : (if g < 255 then g + 1 else 255) < 256 := by split <;> omega
      generalize hG : (if g < 255 then g + 1 else 255) = g1 at hg hF
      generalize hn2 : (if g1 < 3 then sb n 2 0 else sb (sb n 2 0) 7 0) = n2 at hF
      have hn2' : n2 < 256 ∧ bt n2 3 = bt n 3 ∧ bt n2 0 = bt n 0 := by
        rw [← hn2]
        split
        · exact ⟨s2, t3, t0⟩
        · exact ⟨sb_l s2 (by omega) (by omega), t73, t70⟩
      -- from the age on
      have age : ∀ (M1 : mwM), dg M1 (i + 1) n2 → M1 909 (i + 1) = sI (if bt n 3 = 0 then 0 else t) → M1 911 (i + 1) = sI g1 → (∀ b j, ¬ (b = 908 ∧ 8 * (i + 1) ≤ j ∧ j < 8 * (i + 1) + 8) → ¬ (j = i + 1 ∧ (b = 909 ∨ b = 911)) → M1 b j = M b j) → wq (fX18_cycle_b126 fu (sI ts) r (sI (i + 1)) M1 L) Q := by
        intro M1 hd h909 h911 hfr
        have h910 : M1 910 (i + 1) = sI a := by rw [hfr _ _ (by omega) (by omega)]; exact m5
        have h916 : M1 916 (i + 1) = M 916 (i + 1) := hfr _ _ (by omega) (by omega)
        have stay : (ts = 0 ∨ bt n 3 = 0 ∨ bt n 0 = 1) → wq (fX18_cycle_b158 fu (sI ts) r (sI (i + 1)) M1 L) Q := by
          intro hs
          unfold fX18_cycle_b158
          rw [mck_s (by omega) (by omega), sI_nn (by omega), h910, if_neg (by rw [sI_eql (by omega) (by omega)]; omega)]
          refine fin M1 _ _ _ _ hn2'.1 hd h909 h910 h911 (fun b j h1 h2 => hfr b j h1 (by omega)) ⟨false, ?_, ?_⟩
          · rw [hF, if_pos hs]
          · rw [h916]; rfl
        unfold fX18_cycle_b126
        by_cases ht0 : ts = 0
        · rw [if_pos (by rw [ht0]; rfl)]
          exact stay (Or.inl ht0)
        · rw [if_neg (by rw [sI_eql (by omega) (by omega)]; exact ht0), m_isb hd hi1 (by omega), mb3_s]
          rw [show bt n2 (OfNat.ofNat 3) = bt n 3 from hn2'.2.1]
          by_cases e3 : bt n 3 = 0
          · rw [if_pos (by rw [e3]; rfl)]
            exact stay (Or.inr (Or.inl e3))
          · rw [if_neg (by rw [sI_eql (by omega) (by omega)]; exact e3), m_isb hd hi1 (by decide), mb3_s]
            rw [show bt n2 (OfNat.ofNat 0) = bt n 0 from hn2'.2.2]
            by_cases e0 : bt n 0 = 0
            · have hs : ¬ (ts = 0 ∨ bt n 3 = 0 ∨ bt n 0 = 1) := by omega
              rw [if_pos (by rw [e0]; rfl)]
              simp (disch := omega) only [mlet, mck_s, sI_nn, h910, sI_1]
              unfold fX18_cycle_b158
              rw [mck_s (by omega) (by omega), sI_nn (by omega), mset_s]
              have t909 : M1 909 (i + 1) = sI t := by rw [h909, if_neg e3]
              by_cases ha : a + 1 < 40
              · rw [if_neg (by rw [sI_eql (by omega) (by omega)]; omega)]
                refine fin _ n2 t (a + 1) g1 hn2'.1 (dg_o hd (by decide)) (by rw [mset_k (by decide)]; exact t909) mset_s (by rw [mset_k (by decide)]; exact h911) ?_ ⟨false, ?_, ?_⟩
                · intro b j h1 h2
                  rw [mset_n (by omega)]
                  exact hfr b j h1 (by omega)
                · rw [hF, if_neg hs, if_pos ha]
                · rw [mset_k (by decide), h916]; rfl
              · rw [if_pos (by rw [sI_eql (by omega) (by omega)]; show a + 1 = 40; omega), m_set hi1 (by omega), mb2_s]
                simp (disch := omega) only [mlet, mck_s, sI_nn]
                refine fin _ (sb n2 3 0) 0 0 0 (sb_l hn2'.1 (by omega) (by omega)) (dg_o (dg_o (dg_o (dg_o (dg_set (dg_o hd (by decide)) hn2'.1 (by omega) (by omega) bo_0) (by decide)) (by decide)) (by decide)) (by decide)) ?_ ?_ ?_ ?_ ⟨true, ?_, ?_⟩
                · rw [mset_k (by decide), mset_k (by decide), mset_k (by decide), mset_s]; rfl
                · rw [mset_k (by decide), mset_k (by decide), mset_s]; rfl
                · rw [mset_k (by decide), mset_s]; rfl
                · intro b j h1 h2
                  rw [mset_n (by omega), mset_n (by omega), mset_n (by omega), mset_n (by omega), mset_n (by omega), mset_n (by omega)]
                  exact hfr b j h1 (by omega)
                · rw [hF, if_neg hs, if_neg ha]
                · rw [mset_s]; rfl
            · rw [if_neg (by rw [sI_eql (by omega) (by omega)]; exact e0)]
              exact stay (Or.inr (Or.inr (by omega)))
      -- from the good cycles on
      have gc : ∀ (M1 : mwM) (x : Int32), x = sI g1 → dg M1 (i + 1) (sb n 2 0) → M1 909 (i + 1) = sI (if bt n 3 = 0 then 0 else t) → (∀ b j, ¬ (b = 908 ∧ 8 * (i + 1) ≤ j ∧ j < 8 * (i + 1) + 8) → ¬ (j = i + 1 ∧ b = 909) → M1 b j = M b j) → wq (fX18_cycle_b107 fu (sI ts) r (sI (i + 1)) (sI (i + 1)) x M1 L) Q := by
        intro M1 x hx hd h909 hfr
        subst hx
        unfold fX18_cycle_b107
        simp (disch := omega) only [mlet, mck_s, sI_nn, mset_s]
        by_cases h3 : g1 < 3
        · rw [if_pos (by rw [sI_lel (by omega) (by omega)]; omega)]
          refine age _ (dg_o (by rw [← hn2, if_pos h3]; exact hd) (by decide)) (by rw [mset_k (by decide)]; exact h909) mset_s ?_
          intro b j h1 h2
          rw [mset_n (by omega)]
          exact hfr b j h1 (by omega)
        · rw [if_neg (by rw [sI_lel (by omega) (by omega)]; omega), m_set hi1 (by omega), mb2_s]
          refine age _ ?_ (by rw [mset_k (by decide), mset_k (by decide)]; exact h909) (by rw [mset_k (by decide), mset_s]) ?_
          · rw [← hn2, if_neg h3]
            exact dg_set (dg_o hd (by decide)) s2 (by omega) (by omega) bo_0
          · intro b j h1 h2
            rw [mset_n (by omega), mset_n (by omega)]
            exact hfr b j h1 (by omega)
      -- from the trips on
      have tc : ∀ (M1 : mwM) (x : Int32), x = sI (if bt n 3 = 0 then 0 else t) → dg M1 (i + 1) (sb n 2 0) → (∀ b j, ¬ (b = 908 ∧ 8 * (i + 1) ≤ j ∧ j < 8 * (i + 1) + 8) → M1 b j = M b j) → wq (fX18_cycle_b75 fu (sI ts) r (sI (i + 1)) (sI (i + 1)) x M1 L) Q := by
        intro M1 x hx hd hfr
        subst hx
        unfold fX18_cycle_b75
        simp (disch := omega) only [mlet, mck_s, sI_nn]
        have h911 : mset M1 909 (i + 1) (sI (if bt n 3 = 0 then 0 else t)) 911 (i + 1) = sI g := by rw [mset_k (by decide), hfr _ _ (by omega)]; exact m6
        rw [h911, sI_1]
        have hfr2 : ∀ b j, ¬ (b = 908 ∧ 8 * (i + 1) ≤ j ∧ j < 8 * (i + 1) + 8) → ¬ (j = i + 1 ∧ b = 909) → mset M1 909 (i + 1) (sI (if bt n 3 = 0 then 0 else t)) b j = M b j := by
          intro b j h1 h2
          rw [mset_n (by omega)]
          exact hfr b j h1
        by_cases h255 : g < 255
        · rw [if_neg (by rw [sI_lle (by omega) (by omega)]; omega)]
          exact gc _ _ (by rw [← hG, if_pos h255]) (dg_o hd (by decide)) mset_s hfr2
        · rw [if_pos (by rw [sI_lle (by omega) (by omega)]; omega)]
          exact gc _ _ (by rw [← hG, if_neg h255]; rfl) (dg_o hd (by decide)) mset_s hfr2
      have fr2 : ∀ b j, ¬ (b = 908 ∧ 8 * (i + 1) ≤ j ∧ j < 8 * (i + 1) + 8) → mset M 908 (8 * (i + 1) + OfNat.ofNat 2) (vp_nar FieldType.boolean 0) b j = M b j := by
        intro b j h1
        refine mset_n (fun q => h1 ⟨q.1, ?_, ?_⟩)
        · rw [q.2]; exact Nat.le_add_right _ _
        · rw [q.2]; exact Nat.add_lt_add_left (by decide) _
      rw [m_isb d2' hi1 (by omega), mb3_s]
      rw [show bt (sb n (OfNat.ofNat 2) 0) (OfNat.ofNat 3) = bt n 3 from t3]
      by_cases e3 : bt n 3 = 0
      · rw [if_pos (by rw [e3]; rfl)]
        exact tc _ 0 (by rw [if_pos e3]; rfl) d2' fr2
      · rw [if_neg (by rw [sI_eql (by omega) (by omega)]; exact e3), mck_s (by omega) (by omega), sI_nn (by omega)]
        refine tc _ _ ?_ d2' fr2
        rw [if_neg e3, fr2 _ _ (by omega)]; exact m4
    · rw [if_neg (by rw [sI_eql (by omega) (by omega)]; exact e6)]
      refine fin M n t a g r1 m2 m4 m5 m6 (fun _ _ _ _ => rfl) ⟨false, ?_, rfl⟩
      unfold cyF
      rw [if_neg (fun q => e6 q.2)]
  · rw [if_neg (by rw [sI_eql (by omega) (by omega)]; exact e1)]
    refine fin M n t a g r1 m2 m4 m5 m6 (fun _ _ _ _ => rfl) ⟨false, ?_, rfl⟩
    unfold cyF
    rw [if_neg (fun q => e1 q.1)]
theorem cy_66b : ∀ n, n < 256 → ((sI n &&& 66 = 0) ↔ (bt n 1 = 0 ∧ bt n 6 = 0)) := by decide +kernel
/-- whether a code's entry goes at the end of the cycle -/
def rmA (A : mwM) (ts x : Nat) : Bool := (cyF ts (nn (A 146 x)) (nn (A 148 x)) (nn (A 149 x)) (nn (A 150 x))).2.2.2.2
theorem rmA_v {A : mwM} {ts x n p t a g k : Nat} (hr : rg n p t a g k) (hc : cc A x n p t a g k) : rmA A ts x = (cyF ts n t a g).2.2.2.2 := by
  obtain ⟨r1, r2, r3, r4, r5, r6, r7⟩ := hr
  obtain ⟨c1, c2, c3, c4, c5, c6⟩ := hc
  unfold rmA
  rw [c2, c4, c5, c6, nn_s (by omega), nn_s (by omega), nn_s (by omega), nn_s (by omega)]
def lcy (A : mwM) (ts j : Nat) (l : List Nat) : List Nat := l.filter (fun x => !(decide (x < j) && rmA A ts x))
theorem lcy_0 (A : mwM) (ts : Nat) (l : List Nat) : lcy A ts 0 l = l := by
  unfold lcy
  rw [List.filter_eq_self]
  intro x _
  simp
theorem lcy_S {A : mwM} {ts j : Nat} {l : List Nat} : lcy A ts (j + 1) l = if rmA A ts j = true then (lcy A ts j l).filter (fun x => decide (x ≠ j)) else lcy A ts j l := by
  unfold lcy
  by_cases h : rmA A ts j = true
  · rw [if_pos h, List.filter_filter]
    apply List.filter_congr
    intro x _
    by_cases hx : x = j
    · subst hx
      simp [h]
    · by_cases hl : x < j
      · have : x < j + 1 := by omega
        simp [hl, this, hx]
      · have : ¬ x < j + 1 := by omega
        simp [hl, this, hx]
  · rw [if_neg h]
    apply List.filter_congr
    intro x _
    by_cases hx : x = j
    · subst hx
      simp [h]
    · by_cases hl : x < j
      · have : x < j + 1 := by omega
        simp [hl, this]
      · have : ¬ x < j + 1 := by omega
        simp [hl, this]
theorem c_cycle {fu : Nat} {A : mwM} {L : mwL} {N ts : Nat} {l : List Nat} (hf : 31 ≤ fu) (hN : N ≤ 30) (hts : ts < 2) (h2 : A 139 2 = sI N) (hv : ∀ x, x < N → ∃ n p t a g k, rg n p t a g k ∧ cc A x n p t a g k) (hnd : l.Nodup) (ho : okeC A N l) : wq (DX10_endCycle fu (sI ts) A L) (fun q => q.2.2 = L ∧ q.1 = A 139 4 + 1 ∧ q.2.1 139 4 = A 139 4 + 1 ∧ okeC q.2.1 N (lcy A ts N l) ∧ (∀ x, x < N → ∀ n p t a g k, rg n p t a g k → cc A x n p t a g k → cc q.2.1 x (sb (sb (cyF ts n t a g).1 1 0) 6 1) p (cyF ts n t a g).2.1 (cyF ts n t a g).2.2.1 (cyF ts n t a g).2.2.2.1 k) ∧ ∀ b j, ¬ (b = 139 ∧ (j = 3 ∨ j = 4)) → ¬ (b = 146 ∨ b = 148 ∨ b = 149 ∨ b = 150 ∨ b = 153) → q.2.1 b j = A b j) := by
  have l2 : ∀ (A0 : mwM), A0 139 4 = A 139 4 → okeC A0 N (lcy A ts N l) → (∀ x, x < N → ∀ n p t a g k, rg n p t a g k → cc A x n p t a g k → cc A0 x (cyF ts n t a g).1 p (cyF ts n t a g).2.1 (cyF ts n t a g).2.2.1 (cyF ts n t a g).2.2.2.1 k) → (∀ b j, ¬ (b = 139 ∧ (j = 3 ∨ j = 4)) → ¬ (b = 146 ∨ b = 148 ∨ b = 149 ∨ b = 150 ∨ b = 153) → A0 b j = A b j) → wq (fX10_endCycle_h38 fu (sI ts) fu (0, A0, L)) (fun q => q.2.2 = L ∧ q.1 = A 139 4 + 1 ∧ q.2.1 139 4 = A 139 4 + 1 ∧ okeC q.2.1 N (lcy A ts N l) ∧ (∀ x, x < N → ∀ n p t a g k, rg n p t a g k → cc A x n p t a g k → cc q.2.1 x (sb (sb (cyF ts n t a g).1 1 0) 6 1) p (cyF ts n t a g).2.1 (cyF ts n t a g).2.2.1 (cyF ts n t a g).2.2.2.1 k) ∧ ∀ b j, ¬ (b = 139 ∧ (j = 3 ∨ j = 4)) → ¬ (b = 146 ∨ b = 148 ∨ b = 149 ∨ b = 150 ∨ b = 153) → q.2.1 b j = A b j) := by
    intro A0 g1 g2 g3 g4
    refine wq_for (body := fun r s => fX10_endCycle_i38 fu (sI ts) r s.1 s.2.1 s.2.2) (fun j (a : mwM) => (sI j, a, L)) (fun j a1 => (∀ x, x < N → ∀ n p t a g k, rg n p t a g k → cc A x n p t a g k → cc a1 x (if x < j then sb (sb (cyF ts n t a g).1 1 0) 6 1 else (cyF ts n t a g).1) p (cyF ts n t a g).2.1 (cyF ts n t a g).2.2.1 (cyF ts n t a g).2.2.2.1 k) ∧ ∀ b y, b ≠ 146 → a1 b y = A0 b y) N ?_ ?_ N 0 A0 fu (by omega) (by omega) ⟨?_, fun _ _ _ => rfl⟩
    · intro j a1 r hj ⟨p1, p2⟩ ih
      show wq (fX10_endCycle_i38 fu (sI ts) r (sI j) a1 L) _
      unfold fX10_endCycle_i38
      obtain ⟨n, p, t, a, g, k, hr, hc⟩ := hv j hj
      have hcj := p1 j hj n p t a g k hr hc
      rw [if_neg (by omega)] at hcj
      have hn' := (cyF_rg (ts := ts) hr).1
      rw [p2 139 2 (by omega), g4 139 2 (by omega) (by omega), h2, if_neg (by rw [sI_le (by omega) (by omega)]; omega), mck_s (by omega) (by omega), mck_s (by omega) (by omega)]
      simp only [mlet]
      rw [sI_nn (by omega), hcj.2.1, cy_e _ hn', sI_1]
      refine ih (mset a1 146 j (sI (sb (sb (cyF ts n t a g).1 1 0) 6 1))) ⟨?_, ?_⟩
      · intro x hx n' p' t' a' g' k' hr' hc'
        by_cases hxj : x = j
        · subst hxj
          obtain ⟨c1, c2, c3, c4, c5, c6⟩ := hcj
          obtain ⟨d1, d2, d3, d4, d5, d6⟩ := hc
          obtain ⟨d1', d2', d3', d4', d5', d6'⟩ := hc'
          have hh := p1 x hx n' p' t' a' g' k' hr' ⟨d1', d2', d3', d4', d5', d6'⟩
          obtain ⟨q1, q2, q3, q4, q5, q6⟩ := hr'
          obtain ⟨w1, w2, w3, w4, w5, w6, w7⟩ := hr
          have en : n = n' := by rw [d2] at d2'; exact (sI_eq (by omega) (by omega)).mp d2'
          have et : t = t' := by rw [d4] at d4'; exact (sI_eq (by omega) (by omega)).mp d4'
          have ea : a = a' := by rw [d5] at d5'; exact (sI_eq (by omega) (by omega)).mp d5'
          have eg : g = g' := by rw [d6] at d6'; exact (sI_eq (by omega) (by omega)).mp d6'
          subst en et ea eg
          rw [if_pos (by omega)]
          rw [if_neg (by omega)] at hh
          obtain ⟨y1, y2, y3, y4, y5, y6⟩ := hh
          exact ⟨by rw [mset_k (by decide)]; exact y1, mset_s, by rw [mset_k (by decide)]; exact y3, by rw [mset_k (by decide)]; exact y4, by rw [mset_k (by decide)]; exact y5, by rw [mset_k (by decide)]; exact y6⟩
        · have hh := p1 x hx n' p' t' a' g' k' hr' hc'
          have e : (if x < j + 1 then sb (sb (cyF ts n' t' a' g').1 1 0) 6 1 else (cyF ts n' t' a' g').1) = (if x < j then sb (sb (cyF ts n' t' a' g').1 1 0) 6 1 else (cyF ts n' t' a' g').1) := by
            by_cases hl : x < j
            · rw [if_pos hl, if_pos (by omega)]
            · rw [if_neg hl, if_neg (by omega)]
          rw [e]
          exact cc_f hh (fun b h1 h2 => mset_n (by omega))
      · intro b y hb
        rw [mset_k hb]
        exact p2 b y hb
    · intro a1 r ⟨p1, p2⟩
      show wq (fX10_endCycle_i38 fu (sI ts) r (sI N) a1 L) _
      unfold fX10_endCycle_i38
      rw [p2 139 2 (by omega), g4 139 2 (by omega) (by omega), h2, if_pos (by rw [sI_le (by omega) (by omega)]; omega)]
      simp only [mlet]
      have e4 : a1 139 4 = A 139 4 := by rw [p2 _ _ (by omega)]; exact g1
      rw [e4, mset_s]
      refine wq_some ⟨rfl, rfl, ?_, ⟨g2.1, g2.2.1, ?_, ?_⟩, ?_, ?_⟩
      all_goals (try dsimp only)
      · rw [mset_s]
      · rw [mset_j (by decide), p2 _ _ (by omega)]; exact g2.2.2.1
      · intro e he
        rw [mset_k (by decide), p2 _ _ (by omega)]; exact g2.2.2.2 e he
      · intro x hx n p t a g k hr hc
        have hh := p1 x hx n p t a g k hr hc
        rw [if_pos hx] at hh
        exact cc_f hh (fun b h1 h2 => mset_n (by omega))
      · intro b y h3 h4
        rw [mset_n (by omega), p2 _ _ (by omega)]
        exact g4 b y h3 h4
    · intro x hx n p t a g k hr hc
      rw [if_neg (by omega)]
      exact g3 x hx n p t a g k hr hc
  unfold DX10_endCycle
  refine wq_for (body := fun r s => fX10_endCycle_i2 fu (sI ts) r s.1 s.2.1 s.2.2) (fun j (a : mwM) => (sI j, a, L)) (fun j a1 => okeC a1 N (lcy A ts j l) ∧ (∀ x, x < N → ∀ n p t a g k, rg n p t a g k → cc A x n p t a g k → (x < j → cc a1 x (cyF ts n t a g).1 p (cyF ts n t a g).2.1 (cyF ts n t a g).2.2.1 (cyF ts n t a g).2.2.2.1 k) ∧ (j ≤ x → cc a1 x n p t a g k)) ∧ ∀ b y, ¬ (b = 139 ∧ y = 3) → ¬ (b = 146 ∨ b = 148 ∨ b = 149 ∨ b = 150 ∨ b = 153) → a1 b y = A b y) N ?_ ?_ N 0 A fu (by omega) (by omega) ⟨by rw [lcy_0]; exact ho, fun x hx n p t a g k _ hc => ⟨fun h => by omega, fun _ => hc⟩, fun _ _ _ _ => rfl⟩
  · intro j a1 r hj ⟨p0, p1, p2⟩ ih
    show wq (fX10_endCycle_i2 fu (sI ts) r (sI j) a1 L) _
    unfold fX10_endCycle_i2 fX10_endCycle_b30
    obtain ⟨n, p, t, a, g, k, hr, hc⟩ := hv j hj
    have hcj := (p1 j hj n p t a g k hr hc).2 (Nat.le_refl _)
    rw [p2 139 2 (by omega) (by omega), h2, if_neg (by rw [sI_le (by omega) (by omega)]; omega), mck_s (by omega) (by omega), sI_nn (by omega), hcj.2.1]
    simp only [mlet]
    rw [sI_1]
    have hrm := rmA_v (ts := ts) hr hc
    have same : ∀ (n' p' t' a' g' k' : Nat), rg n' p' t' a' g' k' → cc A j n' p' t' a' g' k' → n = n' ∧ t = t' ∧ a = a' ∧ g = g' ∧ p = p' ∧ k = k' := by
      intro n' p' t' a' g' k' hr' hc'
      obtain ⟨q1, q2, q3, q4, q5, q6, q7⟩ := hr'
      obtain ⟨w1, w2, w3, w4, w5, w6, w7⟩ := hr
      obtain ⟨d1, d2, d3, d4, d5, d6⟩ := hc
      obtain ⟨d1', d2', d3', d4', d5', d6'⟩ := hc'
      rw [d1] at d1'
      rw [d2] at d2'
      rw [d3] at d3'
      rw [d4] at d4'
      rw [d5] at d5'
      rw [d6] at d6'
      have hk : sI k = sI k' := by
        have := congrArg (fun z => z + 128) d3'
        simpa [sk] using this
      exact ⟨(sI_eq (by omega) (by omega)).mp d2', (sI_eq (by omega) (by omega)).mp d4', (sI_eq (by omega) (by omega)).mp d5', (sI_eq (by omega) (by omega)).mp d6', (sI_eq (by omega) (by omega)).mp d1', (sI_eq (by omega) (by omega)).mp hk⟩
    by_cases hg : bt n 1 = 0 ∧ bt n 6 = 0
    · rw [if_pos ((cy_66b n hr.1).mpr hg)]
      have hF : cyF ts n t a g = gy ts n t a g := by unfold cyF; rw [if_pos hg]
      have hnd2 : (lcy A ts j l).Nodup := hnd.filter _
      refine wq_b2 (c_good (by omega) hN hj hts hr hcj hnd2 p0) ?_
      rintro A2 L2 ⟨hL2, q1, q2, q3⟩
      dsimp only at hL2 q1 q2 q3
      subst hL2
      rw [← hF] at q1 q2
      refine ih A2 ⟨?_, ?_, ?_⟩
      · rw [lcy_S, hrm]; exact q2
      · intro x hx n' p' t' a' g' k' hr' hc'
        by_cases hxj : x = j
        · subst hxj
          obtain ⟨s1, s2, s3, s4, s5, s6⟩ := same n' p' t' a' g' k' hr' hc'
          subst s1 s2 s3 s4 s5 s6
          exact ⟨fun _ => q1, fun h => by omega⟩
        · obtain ⟨u1, u2⟩ := p1 x hx n' p' t' a' g' k' hr' hc'
          exact ⟨fun h => cc_f (u1 (by omega)) (fun b h1 h2 => q3 _ _ (by omega) (by omega) (by omega)), fun h => cc_f (u2 (by omega)) (fun b h1 h2 => q3 _ _ (by omega) (by omega) (by omega))⟩
      · intro b y h3 h4
        rw [q3 b y h3 (by omega) (by omega)]
        exact p2 b y h3 h4
    · rw [if_neg (fun h => hg ((cy_66b n hr.1).mp h))]
      have hF : cyF ts n t a g = (n, t, a, g, false) := by unfold cyF; rw [if_neg hg]
      refine ih a1 ⟨?_, ?_, p2⟩
      · rw [lcy_S, hrm, hF]; exact p0
      · intro x hx n' p' t' a' g' k' hr' hc'
        by_cases hxj : x = j
        · subst hxj
          obtain ⟨s1, s2, s3, s4, s5, s6⟩ := same n' p' t' a' g' k' hr' hc'
          subst s1 s2 s3 s4 s5 s6
          exact ⟨fun _ => by rw [hF]; exact hcj, fun h => by omega⟩
        · obtain ⟨u1, u2⟩ := p1 x hx n' p' t' a' g' k' hr' hc'
          exact ⟨fun h => u1 (by omega), fun h => u2 (by omega)⟩
  · intro a1 r ⟨p0, p1, p2⟩
    show wq (fX10_endCycle_i2 fu (sI ts) r (sI N) a1 L) _
    unfold fX10_endCycle_i2
    rw [p2 139 2 (by omega) (by omega), h2, if_pos (by rw [sI_le (by omega) (by omega)]; omega)]
    exact l2 a1 (p2 _ _ (by omega) (by omega)) p0 (fun x hx n p t a g k hr hc => (p1 x hx n p t a g k hr hc).1 hx) (fun b j h3 h4 => p2 b j (by omega) h4)
theorem m_cycle {fu : Nat} {M : mwM} {L : mwL} {N ts : Nat} (hf : 31 ≤ fu) (hN : N ≤ 30) (hts : ts < 2) (h2 : M 902 2 = sI N) (h23 : M 902 23 = 0) (hv : ∀ x, x < N → ∃ n p t a g k, rg n p t a g k ∧ cm M x n p t a g k) : wq (DX18_cycle fu (sI ts) M L) (fun q => q.2.2 = L ∧ q.1 = M 902 24 + 1 ∧ q.2.1 902 24 = M 902 24 + 1 ∧ (∀ x, x < N → ∃ n p t a g k, rg n p t a g k ∧ cm M x n p t a g k ∧ cm q.2.1 x (sb (sb (cyF ts n t a g).1 1 0) 6 1) p (cyF ts n t a g).2.1 (cyF ts n t a g).2.2.1 (cyF ts n t a g).2.2.2.1 k ∧ q.2.1 916 (x + 1) = (if (cyF ts n t a g).2.2.2.2 = true then 0 else M 916 (x + 1))) ∧ ∀ b j, ¬ (b = 902 ∧ (j = 0 ∨ j = 24)) → ¬ (908 ≤ b ∧ b ≤ 916) → q.2.1 b j = M b j) := by
  unfold DX18_cycle
  simp only [mlet]
  rw [mset_j (a := 902) (b := 23) (by decide), h23, if_pos rfl]
  refine wq_for (body := fun r s => fX18_cycle_i17 fu (sI ts) r s.1 s.2.1 s.2.2) (fun j (a : mwM) => (sI (j + 1), a, L)) (fun j a1 => (∀ x, x < N → ∃ n p t a g k, rg n p t a g k ∧ cm M x n p t a g k ∧ (x < j → cm a1 x (sb (sb (cyF ts n t a g).1 1 0) 6 1) p (cyF ts n t a g).2.1 (cyF ts n t a g).2.2.1 (cyF ts n t a g).2.2.2.1 k ∧ a1 916 (x + 1) = (if (cyF ts n t a g).2.2.2.2 = true then 0 else M 916 (x + 1))) ∧ (j ≤ x → cm a1 x n p t a g k ∧ a1 916 (x + 1) = M 916 (x + 1))) ∧ ∀ b y, ¬ (b = 902 ∧ y = 0) → ¬ (908 ≤ b ∧ b ≤ 916) → a1 b y = M b y) N ?_ ?_ N 0 (mset M 902 0 0) fu (by omega) (by omega) ⟨?_, fun b y h _ => mset_n h⟩
  · intro j a1 r hj ⟨p1, p2⟩ ih
    show wq (fX18_cycle_i17 fu (sI ts) r (sI (j + 1)) a1 L) _
    obtain ⟨n, p, t, a, g, k, hr, hc, _, hge⟩ := p1 j hj
    obtain ⟨hcj, h916⟩ := hge (Nat.le_refl _)
    refine m_cyc (by omega) hN hj hts hr hcj (by rw [p2 _ _ (by omega) (by omega)]; exact h2) ?_
    rintro q ⟨q1, q2, q3⟩
    refine ih q ⟨?_, ?_⟩
    · intro x hx
      by_cases hxj : x = j
      · subst hxj
        exact ⟨n, p, t, a, g, k, hr, hc, fun _ => ⟨q1, by rw [q2, h916]⟩, fun h => by omega⟩
      · obtain ⟨n', p', t', a', g', k', hr', hc', hl', hge'⟩ := p1 x hx
        refine ⟨n', p', t', a', g', k', hr', hc', fun h => ?_, fun h => ?_⟩
        · obtain ⟨u1, u2⟩ := hl' (by omega)
          exact ⟨cm_f u1 (fun b hb => q3 _ _ (by omega) (by omega) (by omega) (by omega) (by omega) (by omega)) (fun b hb => q3 _ _ (by omega) (by omega) (by omega) (by omega) (by omega) (by omega)), by rw [q3 _ _ (by omega) (by omega) (by omega) (by omega) (by omega) (by omega)]; exact u2⟩
        · obtain ⟨u1, u2⟩ := hge' (by omega)
          exact ⟨cm_f u1 (fun b hb => q3 _ _ (by omega) (by omega) (by omega) (by omega) (by omega) (by omega)) (fun b hb => q3 _ _ (by omega) (by omega) (by omega) (by omega) (by omega) (by omega)), by rw [q3 _ _ (by omega) (by omega) (by omega) (by omega) (by omega) (by omega)]; exact u2⟩
    · intro b y h3 h4
      rw [q3 _ _ (by omega) (by omega) (by omega) (by omega) (by omega) (by omega)]
      exact p2 b y h3 h4
  · intro a1 r ⟨p1, p2⟩
    show wq (fX18_cycle_i17 fu (sI ts) r (sI (N + 1)) a1 L) _
    unfold fX18_cycle_i17
    rw [p2 _ _ (by omega) (by omega), h2, if_pos (by rw [sI_lt (by omega) (by omega)]; omega)]
    simp only [mlet]
    have e4 : a1 902 24 = M 902 24 := p2 _ _ (by omega) (by omega)
    rw [e4, mset_s]
    refine wq_some ⟨rfl, rfl, ?_, ?_, ?_⟩
    all_goals (try dsimp only)
    · rw [mset_s]
    · intro x hx
      obtain ⟨n, p, t, a, g, k, hr, hc, hl, _⟩ := p1 x hx
      obtain ⟨u1, u2⟩ := hl hx
      exact ⟨n, p, t, a, g, k, hr, hc, cm_f u1 (fun b hb => mset_n (by omega)) (fun b hb => mset_n (by omega)), by rw [mset_k (by decide)]; exact u2⟩
    · intro b y h3 h4
      rw [mset_n (by omega)]
      exact p2 b y (by omega) h4
  · intro x hx
    obtain ⟨n, p, t, a, g, k, hr, hc⟩ := hv x hx
    exact ⟨n, p, t, a, g, k, hr, hc, fun h => by omega, fun _ => ⟨cm_f hc (fun b hb => mset_n (by omega)) (fun b hb => mset_n (by omega)), mset_k (by decide)⟩⟩
theorem dg_uni {M : mwM} {c n n' : Nat} (h : dg M c n) (h' : dg M c n') (hn : n < 256) (hn' : n' < 256) (hc : c ≤ 200) : n = n' := by
  have e1 := m_statusOf (fu := 9) (L := fun _ _ => 0) h hn hc (by omega)
  have e2 := m_statusOf (fu := 9) (L := fun _ _ => 0) h' hn' hc (by omega)
  rw [e1] at e2
  have e3 : sI n = sI n' := congrArg (fun z => z.1) (Option.some.inj e2)
  exact (sI_eq (by omega) (by omega)).mp e3
theorem sk_inj {k k' : Nat} (hk : k < 256) (hk' : k' < 256) (h : sk k = sk k') : k = k' := by
  have h2 : sI k = sI k' := by
    have := congrArg (fun z => z + 128) h
    simpa [sk] using this
  exact (sI_eq (by omega) (by omega)).mp h2
theorem cm_uni {M : mwM} {x n p t a g k n' p' t' a' g' k' : Nat} (hx : x < 30) (hr : rg n p t a g k) (hr' : rg n' p' t' a' g' k') (h : cm M x n p t a g k) (h' : cm M x n' p' t' a' g' k') : n = n' ∧ p = p' ∧ t = t' ∧ a = a' ∧ g = g' ∧ k = k' := by
  obtain ⟨q1, q2, q3, q4, q5, q6, q7⟩ := hr'
  obtain ⟨w1, w2, w3, w4, w5, w6, w7⟩ := hr
  obtain ⟨d1, d2, d3, d4, d5, d6, _⟩ := h
  obtain ⟨e1, e2, e3, e4, e5, e6, _⟩ := h'
  rw [d1] at e1
  rw [d3] at e3
  rw [d4] at e4
  rw [d5] at e5
  rw [d6] at e6
  exact ⟨dg_uni d2 e2 w1 q1 (by omega), (sI_eq (by omega) (by omega)).mp e1, (sI_eq (by omega) (by omega)).mp e4, (sI_eq (by omega) (by omega)).mp e5, (sI_eq (by omega) (by omega)).mp e6, sk_inj w7 q7 e3⟩
theorem st_cycle {fu : Nat} {A M : mwM} {L L2 : mwL} {N E ts : Nat} (hf : 31 ≤ fu) (hts : ts < 2) (h : RTr A M N E) : ∃ x A' M', DX10_endCycle fu (sI ts) A L = some (x, A', L) ∧ DX18_cycle fu (sI ts) M L2 = some (x, M', L2) ∧ RTr A' M' N E ∧ (∀ b j, ¬ (b = 139 ∧ (j = 3 ∨ j = 4)) → ¬ (b = 146 ∨ b = 148 ∨ b = 149 ∨ b = 150 ∨ b = 153) → A' b j = A b j) ∧ (∀ b j, ¬ (902 ≤ b ∧ b ≤ 920) → M' b j = M b j) := by
  obtain ⟨hN, a1, a2, a3, a4, a5, a6, a7, a8, ⟨G, hG, a9⟩, a10, l, sd, ho, ⟨e1, e2, e3, t0, e4, e5, e6⟩, hF⟩ := h
  have hnd := oke_nodup e3
  obtain ⟨⟨x, A', L'⟩, hA, c0, c1, c2, c3, c4, c5⟩ := c_cycle (fu := fu) (L := L) (ts := ts) hf hN hts a1 (fun x hx => by obtain ⟨n, p, t, a, g, k, hr, hc, _⟩ := a10 x hx; exact ⟨n, p, t, a, g, k, hr, hc⟩) hnd ho
  obtain ⟨⟨y, M', L''⟩, hM, d0, d1, d2, d3, d4⟩ := m_cycle (fu := fu) (L := L2) (ts := ts) hf hN hts a2 a4 (fun x hx => by obtain ⟨n, p, t, a, g, k, hr, _, hm⟩ := a10 x hx; exact ⟨n, p, t, a, g, k, hr, hm⟩)
  dsimp only at c0 c1 c2 c3 c4 c5 d0 d1 d2 d3 d4
  subst c0 c1 d0 d1
  -- each code
  have each : ∀ x, x < N → okc A' M' x ∧ M' 916 (x + 1) = (if rmA A ts x = true then 0 else M 916 (x + 1)) := by
    intro x hx
    obtain ⟨n, p, t, a, g, k, hr, hc, hm⟩ := a10 x hx
    obtain ⟨n', p', t', a', g', k', hr', hm', u1, u2⟩ := d3 x hx
    obtain ⟨s1, s2, s3, s4, s5, s6⟩ := cm_uni (by omega) hr hr' hm hm'
    subst s1 s2 s3 s4 s5 s6
    obtain ⟨v1, v2, v3, v4⟩ := cyF_rg (ts := ts) hr
    refine ⟨⟨_, _, _, _, _, _, ⟨sb_l (sb_l v1 (by omega) (by omega)) (by omega) (by omega), hr.2.1, hr.2.2.1, v2, v3, v4, hr.2.2.2.2.2.2⟩, c4 x hx n p t a g k hr hc, u1⟩, ?_⟩
    rw [u2, rmA_v hr hc]
  have hmem : ∀ x, x ∈ lcy A ts N l ↔ (x ∈ l ∧ ¬ rmA A ts x = true) := by
    intro x
    unfold lcy
    rw [List.mem_filter]
    constructor
    · rintro ⟨h1, h2⟩
      have := ho.2.1 x h1
      refine ⟨h1, ?_⟩
      simpa [this] using h2
    · rintro ⟨h1, h2⟩
      have := ho.2.1 x h1
      refine ⟨h1, ?_⟩
      simpa [this] using h2
  refine ⟨_, A', M', hA, by rw [a5]; exact hM, ?_, c5, fun b j hb => d4 b j (by omega) (by omega)⟩
  refine ⟨hN, ?_, ?_, ?_, ?_, ?_, ?_, ?_, ?_, ⟨G, hG, ?_⟩, fun x hx => (each x hx).1, lcy A ts N l, (fun x => if rmA A ts x = true then 0 else sd x), c3, ⟨?_, ?_, ?_, t0, e4, ?_, ?_⟩, ?_⟩
  all_goals (try dsimp only)
  · rw [c5 _ _ (by omega) (by omega)]; exact a1
  · rw [d4 _ _ (by omega) (by omega)]; exact a2
  · rw [d4 _ _ (by omega) (by omega)]; exact a3
  · rw [d4 _ _ (by omega) (by omega)]; exact a4
  · rw [c2, d2, a5]
  · rw [c5 _ _ (by omega) (by omega)]; exact a6
  · rw [d4 _ _ (by omega) (by omega)]; exact a7
  · intro k hk
    rw [d4 _ _ (by omega) (by omega)]; exact a8 k hk
  · rw [d4 _ _ (by omega) (by omega)]; exact a9
  · intro x hx
    rw [(each x hx).2]
    by_cases hrm : rmA A ts x = true
    · rw [if_pos hrm, if_pos hrm]; rfl
    · rw [if_neg hrm, if_neg hrm]; exact e1 x hx
  · intro x hx
    rw [hmem]
    by_cases hrm : rmA A ts x = true
    · rw [if_pos hrm]
      exact ⟨fun h => absurd h (Nat.lt_irrefl 0), fun h => absurd hrm h.2⟩
    · rw [if_neg hrm, e2 x hx]
      exact ⟨fun h => ⟨h, hrm⟩, fun h => h.1⟩
  · refine List.Pairwise.imp_of_mem ?_ (List.Pairwise.sublist (List.filter_sublist) e3)
    intro x y hx hy hxy
    rw [if_neg ((hmem x).mp hx).2, if_neg ((hmem y).mp hy).2]
    exact hxy
  · rw [d4 _ _ (by omega) (by omega)]; exact e5
  · intro x hx
    by_cases hrm : rmA A ts x = true
    · rw [if_pos hrm]; exact Nat.zero_le _
    · rw [if_neg hrm]; exact e6 x hx
  · intro x hx
    rw [c5 _ _ (by omega) (by omega), c5 _ _ (by omega) (by omega), d4 _ _ (by omega) (by omega), d4 _ _ (by omega) (by omega)]
    exact hF x ((hmem x).mp hx).1
/-! what is told of troubles -/
theorem st_status {fu : Nat} {A M : mwM} {L L2 : mwL} {N E i : Nat} (hf : 31 ≤ fu) (hi : i < N) (h : RTr A M N E) : ∃ n, n < 256 ∧ A 146 i = sI n ∧ DX10_statusOf fu (sI i) A L = some (sI n, A, L) ∧ DX18_status fu (sI (i + 1)) M L2 = some (sI n, mset M 902 0 0, L2) := by
  obtain ⟨hN, a1, a2, a3, a4, a5, a6, a7, a8, _, a10, _⟩ := h
  obtain ⟨n, p, t, a, g, k, hr, hc, hm⟩ := a10 i hi
  refine ⟨n, hr.1, hc.2.1, ?_, ?_⟩
  · unfold DX10_statusOf
    rw [mck_s (by omega) (by omega), sI_nn (by omega), hc.2.1]
  · unfold DX18_status fX18_status_b17
    rw [m_none hN a2 hi, mb3_s, if_pos rfl, m_statusOf (dg_o hm.2.1 (by decide)) hr.1 (by omega) (by omega), mb3_s]
theorem st_age {fu : Nat} {A M : mwM} {L2 : mwL} {N E i : Nat} (hi : i < N) (h : RTr A M N E) : DX18_age fu (sI (i + 1)) M L2 = some (A 149 i, mset M 902 0 0, L2) := by
  obtain ⟨hN, a1, a2, a3, a4, a5, a6, a7, a8, _, a10, _⟩ := h
  obtain ⟨n, p, t, a, g, k, hr, hc, hm⟩ := a10 i hi
  unfold DX18_age fX18_age_b18
  rw [m_none hN a2 hi, mb3_s, if_pos rfl, mck_s (by omega) (by omega), sI_nn (by omega), mset_k (a := 910) (by decide), hm.2.2.2.2.1, hc.2.2.2.2.1]
theorem st_snap {fu : Nat} {A M : mwM} {L L2 : mwL} {N E i w : Nat} (hf : 31 ≤ fu) (hE : E < 900000000) (hi : i < N) (hw : w < 2) (h : RTr A M N E) : ∃ x, DX10_tell fu (sI i) (sI (2 + w)) A L = some (x, A, L) ∧ DX18_snapshot fu (sI (i + 1)) (sI w) 1 M L2 = some (x, mset M 902 0 0, L2) := by
  obtain ⟨hN, a1, a2, a3, a4, a5, a6, a7, a8, _, a10, l, sd, ⟨b1, b2, b3, b4⟩, ⟨e1, e2, e3, t0, e4, e5, e6⟩, hF⟩ := h
  have hsd := e6 i hi
  obtain ⟨⟨r, A1, L1⟩, hq, hq1, hq2⟩ := c_entryOf (fu := fu) (L := L) (i := i) (by omega) (by omega) b1 (fun x hx => by have := b2 x hx; omega) b3 b4
  obtain ⟨rfl, rfl⟩ : A1 = A ∧ L1 = L := by simpa using hq1
  dsimp only at hq2
  have hm : DX18_snapshot fu (sI (i + 1)) (sI w) 1 M L2 = some ((if sd i = 0 then -1 else M 918 (8 * (i + 1) + 4 * w + 1)), mset M 902 0 0, L2) := by
    unfold DX18_snapshot fX18_snapshot_b17 fX18_snapshot_b37
    rw [m_none hN a2 hi, mb3_s, if_pos rfl, mck_s (by omega) (by omega), sI_nn (by omega), mset_k (a := 916) (by decide), e1 i hi]
    by_cases hz : sd i = 0
    · rw [if_pos (by rw [hz]; rfl), if_pos hz]
    · rw [if_neg (by rw [sI_eql (by omega) (by omega)]; exact hz), if_neg hz, if_neg (by rw [sI_ltl (by omega) (by decide)]; exact Nat.not_lt_zero _), if_neg (by rw [sI_llt (by omega) (by omega)]; omega), if_neg (by decide), if_pos (by decide), sI_lml, sI_lml, sI_add, sI_1, mck_s (by omega) (by omega), sI_nn (by omega), mset_k (a := 918) (by decide)]
  rcases hq2 with ⟨rfl, hil⟩ | ⟨e, he, rfl, hel⟩
  · have hz : sd i = 0 := by
      have := e2 i hi
      rcases Nat.eq_zero_or_pos (sd i) with h | h
      · exact h
      · exact absurd (this.mp h) hil
    refine ⟨-1, ?_, by rw [hm, if_pos hz]⟩
    unfold DX10_tell fX10_tell_b72 fX10_tell_b94
    simp only [mlet]
    have : w = 0 ∨ w = 1 := by omega
    rcases this with rfl | rfl
    · rw [if_neg (by decide), if_neg (by decide), if_pos (by decide), hq, mb3_s, if_neg (by decide)]
    · rw [if_neg (by decide), if_neg (by decide), if_neg (by decide), if_pos (by decide), hq, mb3_s, if_neg (by decide)]
  · have hil : i ∈ l := hel ▸ List.getElem_mem he
    have hz : sd i ≠ 0 := by
      have := (e2 i hi).mpr hil
      omega
    have : w = 0 ∨ w = 1 := by omega
    rcases this with rfl | rfl
    · refine ⟨A1 151 i, ?_, by rw [hm, if_neg hz, (hF i hil).1]⟩
      unfold DX10_tell fX10_tell_b72
      simp only [mlet]
      rw [if_neg (by decide), if_neg (by decide), if_pos (by decide), hq, mb3_s, if_pos (by rw [sI_lle (by decide) (by omega)]; exact Nat.zero_le _), mck_s (by omega) (by omega), sI_nn (by omega)]
    · refine ⟨A1 152 i, ?_, by rw [hm, if_neg hz, (hF i hil).2]⟩
      unfold DX10_tell fX10_tell_b94
      simp only [mlet]
      rw [if_neg (by decide), if_neg (by decide), if_neg (by decide), if_pos (by decide), hq, mb3_s, if_pos (by rw [sI_lle (by decide) (by omega)]; exact Nat.zero_le _), mck_s (by omega) (by omega), sI_nn (by omega)]
/-! the memory in its order -/
theorem before_k {N : Nat} {l : List Nat} {sd : Nat → Nat} (hl : ∀ x ∈ l, x < N) (hs : l.Pairwise (fun x y => sd x < sd y)) (hS0 : ∀ i, i < N → (0 < sd i ↔ i ∈ l)) (k : Nat) (hk : k < l.length) : cnt (fun e => decide (0 < sd e ∧ sd e < sd (l[k]'hk))) N = k := by
  have hsg := List.pairwise_iff_getElem.mp hs
  have hnd := oke_nodup hs
  have e : (l.take k).length = k := by rw [List.length_take]; omega
  rw [cnt_list (l := l.take k) (hnd.sublist (List.take_sublist k l)) (fun x hx => hl x (List.mem_of_mem_take hx)) ?_, e]
  intro i hi
  rw [decide_eq_true_iff]
  constructor
  · rintro ⟨h1, h2⟩
    obtain ⟨m, hm, hme⟩ := List.getElem_of_mem ((hS0 i hi).mp h1)
    have hmk : m < k := by
      rcases Nat.lt_trichotomy m k with h | h | h
      · exact h
      · subst h; rw [hme] at h2; omega
      · have := hsg k m hk hm h; rw [hme] at this; omega
    rw [List.mem_take_iff_getElem]
    exact ⟨m, by omega, hme⟩
  · intro h
    rw [List.mem_take_iff_getElem] at h
    obtain ⟨m, hm, hme⟩ := h
    have := hsg m k (by omega) hk (by omega)
    rw [hme] at this
    refine ⟨(hS0 i hi).mpr ?_, this⟩
    rw [← hme]
    exact List.getElem_mem _
theorem m_stored1 {fu : Nat} {M : mwM} {L : mwL} {N i x : Nat} {sd : Nat → Nat} {r : Int32 × mwM × mwL → Option (Int32 × mwM × mwL)} {Q : Int32 × mwM × mwL → Prop} (hf : 31 ≤ fu) (hN : N ≤ 30) (hx : x < N) (hi : i < 1000) (hsd : ∀ x, x < N → sd x < 2000000000) (hC : M 902 2 = sI N) (hS : ∀ i, i < N → M 916 (i + 1) = sI (sd i)) (hyes : 0 < sd x → cnt (fun e => decide (0 < sd e ∧ sd e < sd x)) N = i → Q (sI (x + 1), M, L)) (hno : ¬ (0 < sd x ∧ cnt (fun e => decide (0 < sd e ∧ sd e < sd x)) N = i) → wq (r (sI (x + 1 + 1), M, L)) Q) : wq (fX18_stored_h61 fu (sI i) 0 r fu (sI (x + 1), 0, 1, M, L)) Q := by
  have hsx := hsd x hx
  refine wq_for (body := fun r61 s => fX18_stored_i61 fu (sI i) 0 r r61 s.1 s.2.1 s.2.2.1 s.2.2.2.1 s.2.2.2.2) (fun j (c : Nat) => (sI (x + 1), sI c, sI (j + 1), M, L)) (fun j c => c = cnt (fun e => decide (0 < sd e ∧ sd e < sd x)) j) N ?_ ?_ N 0 0 fu (by omega) (by omega) rfl
  · intro j c r61 hj hc ih
    show wq (fX18_stored_i61 fu (sI i) 0 r r61 (sI (x + 1)) (sI c) (sI (j + 1)) M L) _
    unfold fX18_stored_i61 fX18_stored_b103 fX18_stored_b105
    have hsj := hsd j hj
    rw [hC, if_neg (by rw [sI_lt (by omega) (by omega)]; omega), mck_s (by omega) (by omega), sI_nn (by omega), hS j hj]
    simp only [mlet]
    rw [sI_1, sI_1]
    by_cases hz : sd j = 0
    · rw [if_pos (by rw [hz]; decide)]
      refine ih c ?_
      show c = cnt _ j + _
      rw [← hc]
      simp [hz]
    · rw [if_neg (by rw [sI_lel (by omega) (by decide)]; exact Nat.not_le.mpr (Nat.pos_of_ne_zero hz)), mck_s (by omega) (by omega), mck_s (by omega) (by omega), sI_nn (by omega), hS x hx]
      have hp : 0 < sd j := Nat.pos_of_ne_zero hz
      by_cases hle : sd x ≤ sd j
      · rw [if_pos (by rw [sI_le (by omega) (by omega)]; exact hle)]
        refine ih c ?_
        show c = cnt _ j + _
        rw [← hc]
        have : ¬ sd j < sd x := by omega
        simp [this]
      · rw [if_neg (by rw [sI_le (by omega) (by omega)]; exact hle)]
        refine ih (c + 1) ?_
        show c + 1 = cnt _ j + _
        rw [← hc]
        have : sd j < sd x := by omega
        simp [this, hp]
  · intro c r61 hc
    show wq (fX18_stored_i61 fu (sI i) 0 r r61 (sI (x + 1)) (sI c) (sI (N + 1)) M L) _
    have hcl : c ≤ N := by rw [hc]; exact cnt_le _ _
    unfold fX18_stored_i61 fX18_stored_b157 fX18_stored_b156
    rw [hC, if_pos (by rw [sI_lt (by omega) (by omega)]; omega), mck_s (by omega) (by omega), sI_nn (by omega), hS x hx]
    simp only [mlet]
    rw [sI_1]
    by_cases hz : sd x = 0
    · rw [if_pos (by rw [hz]; decide)]
      exact hno (by omega)
    · rw [if_neg (by rw [sI_lel (by omega) (by decide)]; exact Nat.not_le.mpr (Nat.pos_of_ne_zero hz))]
      have hp : 0 < sd x := Nat.pos_of_ne_zero hz
      by_cases hci : c = i
      · rw [if_pos (by rw [hci])]
        first | rw [if_pos rfl] | rw [if_pos trivial]
        exact wq_some (hyes hp (by rw [← hc, hci]))
      · rw [if_neg (by rw [sI_eq (by omega) (by omega)]; exact hci)]
        exact hno (fun q => hci (by rw [hc, q.2]))
theorem m_stored {fu : Nat} {M : mwM} {L : mwL} {N i : Nat} {l : List Nat} {sd : Nat → Nat} (hf : 31 ≤ fu) (hN : N ≤ 30) (hi : i < 1000) (h8 : l.length ≤ 8) (hsd : ∀ x, x < N → sd x < 2000000000) (hl : ∀ x ∈ l, x < N) (hs : l.Pairwise (fun x y => sd x < sd y)) (hC : M 902 2 = sI N) (hS : ∀ i, i < N → M 916 (i + 1) = sI (sd i)) (hS0 : ∀ i, i < N → (0 < sd i ↔ i ∈ l)) : DX18_stored fu (sI i) 0 M L = some ((if h : i < l.length then sI (l[i] + 1) else -1), mset M 902 0 0, L) := by
  have hC2 : mset M 902 0 0 902 2 = sI N := by rw [mset_j (by decide)]; exact hC
  have hS2 : ∀ i, i < N → mset M 902 0 0 916 (i + 1) = sI (sd i) := fun i hi => by rw [mset_k (by decide)]; exact hS i hi
  unfold DX18_stored fX18_stored_b19 fX18_stored_b31 fX18_stored_b42
  simp only [mlet]
  have h1 : ¬ sI i = (-1) := by
    intro q
    have q2 := congrArg Int32.toInt q
    rw [sI_toInt (by omega)] at q2
    have q3 : (-1 : Int32).toInt = -1 := by decide
    omega
  rw [if_neg h1, if_neg (by rw [sI_ltl (by omega) (by decide)]; exact Nat.not_lt_zero _), m_entries hf hN hsd hl (oke_nodup hs) hC2 hS2 hS0, mb3_s]
  by_cases hil : i < l.length
  · rw [if_pos (by rw [sI_lt (by omega) (by omega)]; exact hil), dif_pos hil]
    first | rw [if_neg (by decide), if_pos (by decide)] | simp only [if_neg (show ¬ (0 : Int32) < 0 by decide), if_pos (show (0 : Int32) ≤ 2 by decide)]
    have hb := before_k hl hs hS0 i hil
    have hli := hl _ (List.getElem_mem hil)
    have h := wq_for (body := fun r47 s => fX18_stored_i47 fu (sI i) 0 r47 s.1 s.2.1 s.2.2) (Q := fun q => q = (sI (l[i] + 1), mset M 902 0 0, L)) (fun j (_ : Unit) => (sI (j + 1), mset M 902 0 0, L)) (fun j _ => j ≤ l[i]) N ?_ ?_ N 0 () fu (by omega) (by omega) (Nat.zero_le _)
    · obtain ⟨q, e, rfl⟩ := h
      exact e
    · intro j _ r hj hP ih
      show wq (fX18_stored_i47 fu (sI i) 0 r (sI (j + 1)) (mset M 902 0 0) L) _
      unfold fX18_stored_i47
      rw [hC2, if_neg (by rw [sI_lt (by omega) (by omega)]; omega)]
      refine m_stored1 hf hN hj hi hsd hC2 hS2 ?_ ?_
      · intro q1 q2
        -- the place in the list is known by how many are before
        obtain ⟨m, hm, hme⟩ := List.getElem_of_mem ((hS0 j hj).mp q1)
        have hb2 := before_k hl hs hS0 m hm
        rw [hme] at hb2
        have : m = i := by omega
        subst this
        rw [hme]
      · intro hno
        refine ih () ?_
        have : j ≠ l[i] := by
          intro q
          apply hno
          rw [q]
          exact ⟨(hS0 _ hli).mpr (List.getElem_mem hil), hb⟩
        omega
    · intro _ r hP
      omega
  · rw [if_neg (by rw [sI_lt (by omega) (by omega)]; exact hil), dif_neg hil]
/-- the entries, as both sides tell them -/
theorem st_stored {fu : Nat} {A M : mwM} {L L2 : mwL} {N E i : Nat} (hf : 31 ≤ fu) (hE : E < 900000000) (hi : i < N) (h : RTr A M N E) : ∃ x, DX10_tell fu (sI i) 4 A L = some (x, A, L) ∧ DX18_stored fu (sI i) 0 M L2 = some (x, mset M 902 0 0, L2) := by
  obtain ⟨hN, a1, a2, a3, a4, a5, a6, a7, a8, _, a10, l, sd, ⟨b1, b2, b3, b4⟩, ⟨e1, e2, e3, t0, e4, e5, e6⟩, hF⟩ := h
  refine ⟨if h : i < l.length then sI (l[i] + 1) else -1, ?_, m_stored hf hN (by omega) b1 (fun x hx => by have := e6 x hx; omega) b2 e3 a2 e1 e2⟩
  unfold DX10_tell fX10_tell_b115
  simp only [mlet]
  rw [if_neg (by decide), if_neg (by decide), if_neg (by decide), if_neg (by decide), b3]
  by_cases hil : i < l.length
  · rw [if_neg (by rw [sI_le (by omega) (by omega)]; omega), dif_pos hil, mck_s (by omega) (by omega), sI_nn (by omega), b4 i hil, sI_1]
  · rw [if_pos (by rw [sI_le (by omega) (by omega)]; omega), dif_neg hil]
/-! small longs -/
def sL (k : Nat) : Int64 := Int64.ofNat k
theorem sL_toInt {k : Nat} (h : k < 2000000000000000000) : (sL k).toInt = k := Int64.toInt_ofNat_of_lt (by omega)
theorem sL_lt {a b : Nat} (ha : a < 2000000000000000000) (hb : b < 2000000000000000000) : (sL a < sL b) ↔ a < b := by
  rw [Int64.lt_iff_toInt_lt, sL_toInt ha, sL_toInt hb]; omega
theorem sL_le {a b : Nat} (ha : a < 2000000000000000000) (hb : b < 2000000000000000000) : (sL a ≤ sL b) ↔ a ≤ b := by
  rw [Int64.le_iff_toInt_le, sL_toInt ha, sL_toInt hb]; omega
theorem sL_eq {a b : Nat} (ha : a < 2000000000000000000) (hb : b < 2000000000000000000) : (sL a = sL b) ↔ a = b := by
  constructor
  · intro h
    have := congrArg Int64.toInt h
    rw [sL_toInt ha, sL_toInt hb] at this
    omega
  · intro h; rw [h]
theorem sL_add {a b : Nat} : sL a + sL b = sL (a + b) := by simp [sL, Int64.ofNat_add]
theorem sL_1 {a : Nat} : sL a + 1 = sL (a + 1) := by simp [sL, Int64.ofNat_add]
theorem sI_L {k : Nat} (h : k < 2000000000) : (sI k).toInt64 = sL k := by
  apply Int64.toInt_inj.mp
  rw [sL_toInt (by omega), Int32.toInt_toInt64, sI_toInt h]
theorem sL_I {k : Nat} (h : k < 2000000000) : (sL k).toInt32 = sI k := by
  rw [← sI_L h]
  simp
theorem sL_m1 {a : Nat} : sL (a + 1) - 1 = sL a := by
  rw [← sL_1]
  simp
theorem sI_m1 {a : Nat} : sI (a + 1) - 1 = sI a := by
  rw [← sI_1]
  simp
theorem m1_lt {b : Nat} (hb : b < 2000000000) : (-1 : Int32) < sI b := by
  rw [Int32.lt_iff_toInt_lt, sI_toInt hb]
  have : (-1 : Int32).toInt = -1 := by decide
  omega
/-! dividing, shifting, masking small numbers -/
theorem bmod_s {x : Nat} (h : x < 2000000000) : Int.bmod (x : Int) (2 ^ 32) = (x : Int) := by
  unfold Int.bmod
  simp only []
  split <;> omega
theorem sI_div {a b : Nat} (ha : a < 2000000000) (hb : b < 2000000000) : sI a / sI b = sI (a / b) := by
  have hd : a / b ≤ a := Nat.div_le_self a b
  apply Int32.toInt_inj.mp
  rw [Int32.toInt_div, sI_toInt ha, sI_toInt hb, sI_toInt (by omega)]
  exact bmod_s (x := a / b) (by omega)
theorem sI_sub {a b : Nat} (h : b ≤ a) : sI a - sI b = sI (a - b) := by
  have e : sI a = sI (a - b) + sI b := by rw [sI_add]; congr 1; omega
  rw [e]
  simp
theorem sI_mod {a b : Nat} (ha : a < 2000000000) (hb : b < 2000000000) : sI a - sI a / sI b * sI b = sI (a % b) := by
  have hm : a / b * b ≤ a := Nat.div_mul_le_self a b
  rw [sI_div ha hb, sI_mul, sI_sub hm]
  congr 1
  have := Nat.div_add_mod a b
  rw [Nat.mul_comm] at this
  omega
theorem sI_shr {g s : Nat} (hg : g < 2000000000) (hs : s < 32) : sI g >>> sI s = sI (g / 2 ^ s) := by
  have e : ∀ s, s < 32 → ((BitVec.ofNat 32 s).smod 32#32).toNat = s := by decide +kernel
  apply Int32.toBitVec_inj.mp
  show (BitVec.ofNat 32 g).sshiftRight ((BitVec.ofNat 32 s).smod 32#32).toNat = BitVec.ofNat 32 (g / 2 ^ s)
  rw [e s hs, BitVec.sshiftRight_eq_of_msb_false (by
    rw [BitVec.msb_eq_false_iff_two_mul_lt, BitVec.toNat_ofNat, Nat.mod_eq_of_lt (by omega)]
    omega)]
  apply BitVec.eq_of_toNat_eq
  have hd : g / 2 ^ s ≤ g := Nat.div_le_self g (2 ^ s)
  rw [BitVec.toNat_ushiftRight, BitVec.toNat_ofNat, BitVec.toNat_ofNat, Nat.mod_eq_of_lt (show g < 2 ^ 32 by omega), Nat.mod_eq_of_lt (show g / 2 ^ s < 2 ^ 32 by omega), Nat.shiftRight_eq_div_pow]
theorem sI_and {a m : Nat} : sI a &&& sI (2 ^ m - 1) = sI (a % 2 ^ m) := by
  apply Int32.toBitVec_inj.mp
  show BitVec.ofNat 32 a &&& BitVec.ofNat 32 (2 ^ m - 1) = BitVec.ofNat 32 (a % 2 ^ m)
  rw [← BitVec.ofNat_and, Nat.and_two_pow_sub_one_eq_mod]
theorem sI_or {a b : Nat} : sI a ||| sI b = sI (a ||| b) := by
  apply Int32.toBitVec_inj.mp
  show BitVec.ofNat 32 a ||| BitVec.ofNat 32 b = BitVec.ofNat 32 (a ||| b)
  rw [← BitVec.ofNat_or]
/-! CORES: which task is chosen, on both sides -/
/-- task i comes before task b -/
def befB (A : mwM) (i b : Nat) : Bool := if A 7 i = A 7 b then (decide (A 12 b ≠ 2) && decide (A 15 i < A 15 b)) else decide (A 7 b < A 7 i)
/-- the best of the first j tasks, from one that runs already -/
def bsN (A : mwM) (c : Nat) (w : Option Nat) : Nat → Option Nat
  | 0 => w
  | j + 1 => match bsN A c w j with
    | none => if A 8 j = sI c ∧ A 12 j = 1 then some j else none
    | some b => if A 8 j = sI c ∧ A 12 j = 1 ∧ befB A j b = true then some j else some b
theorem bsN_S {A : mwM} {c : Nat} {w : Option Nat} {j : Nat} : bsN A c w (j + 1) = (match bsN A c w j with
    | none => if A 8 j = sI c ∧ A 12 j = 1 then some j else none
    | some b => if A 8 j = sI c ∧ A 12 j = 1 ∧ befB A j b = true then some j else some b) := rfl
def oI : Option Nat → Int32
  | none => -1
  | some b => sI b
def oM : Option Nat → Int32
  | none => 0
  | some b => sI (b + 1)
theorem bsN_lt {A : mwM} {c : Nat} {w : Option Nat} {T : Nat} (hw : ∀ x, w = some x → x < T) : ∀ j, j ≤ T → ∀ x, bsN A c w j = some x → x < T := by
  intro j
  induction j with
  | zero => intro _ x hx; exact hw x hx
  | succ j ih =>
    intro hj x hx
    have hj' := ih (by omega)
    unfold bsN at hx
    split at hx
    · split at hx
      · injection hx with hx; omega
      · cases hx
    · split at hx
      · injection hx with hx; omega
      · rename_i b hb _
        injection hx with hx
        subst hx
        exact hj' _ hb
theorem c_isBefore {fu : Nat} {A : mwM} {L : mwL} {i b : Nat} (hi : i < 12) (hb : b < 12) : DX4_isBefore fu (sI i) (sI b) A L = some ((if befB A i b = true then 1 else 0), A, L) := by
  unfold DX4_isBefore fX4_isBefore_b43 fX4_isBefore_b81 fX4_isBefore_b82
  simp (disch := omega) only [mck_s, sI_nn]
  unfold befB
  by_cases h1 : A 7 i = A 7 b
  · rw [if_pos h1, if_pos h1]
    by_cases h2 : A 12 b = 2
    · rw [if_pos h2]
      simp [h2]
      rfl
    · rw [if_neg h2]
      by_cases h3 : A 15 b ≤ A 15 i
      · rw [if_pos h3]
        have : ¬ A 15 i < A 15 b := Int32.not_lt.mpr h3
        simp [this]
        rfl
      · rw [if_neg h3]
        have : A 15 i < A 15 b := Int32.not_le.mp h3
        simp [this, h2]
        rfl
  · rw [if_neg h1, if_neg h1]
    by_cases h3 : A 7 i ≤ A 7 b
    · rw [if_pos h3]
      have : ¬ A 7 b < A 7 i := Int32.not_lt.mpr h3
      simp [this]
      rfl
    · rw [if_neg h3]
      have : A 7 b < A 7 i := Int32.not_le.mp h3
      simp [this]
      rfl
/-- what choosing makes of the class's memory -/
def chA (A : mwM) (c : Nat) (w b : Option Nat) : mwM :=
  let A1 := match w with
    | none => A
    | some x => mset A 12 x 1
  let A2 := match b with
    | none => A1
    | some x => mset A1 12 x 2
  mset A2 18 c (oI b)
theorem oI_neg {w : Option Nat} {T : Nat} (hT : T ≤ 12) (hw : ∀ x, w = some x → x < T) : (oI w < 0) ↔ w = none := by
  cases w with
  | none => exact ⟨fun _ => rfl, fun _ => by decide⟩
  | some x =>
    have := hw x rfl
    constructor
    · intro h
      exact absurd h (by show ¬ sI x < 0; rw [sI_ltl (by omega) (by decide)]; exact Nat.not_lt_zero _)
    · intro h; cases h
theorem c_choose {fu : Nat} {A : mwM} {L : mwL} {c T : Nat} {w : Option Nat} (hf : 13 ≤ fu) (hc : c < 6) (hT : T ≤ 12) (h3 : A 5 3 = sI T) (hw : A 18 c = oI w) (hwT : ∀ x, w = some x → x < T) : DX4_choose fu (sI c) A L = some (chA A c w (bsN A c w T), L) := by
  have hlt := bsN_lt (A := A) (c := c) hwT
  unfold DX4_choose
  rw [mck_s (by omega) (by omega), sI_nn (by omega), hw]
  simp only [mlet]
  have h := wq_for (body := fun r s => fX4_choose_i9 fu (sI c) r s.1 s.2.1 s.2.2.1 s.2.2.2) (Q := fun q => q = (chA A c w (bsN A c w T), L)) (fun j (_ : Unit) => (oI (bsN A c w j), sI j, A, L)) (fun _ _ => True) T ?_ ?_ T 0 () fu (by omega) (by omega) trivial
  · obtain ⟨q, e, rfl⟩ := h
    exact e
  · intro j _ r hj _ ih
    show wq (fX4_choose_i9 fu (sI c) r (oI (bsN A c w j)) (sI j) A L) _
    unfold fX4_choose_i9 fX4_choose_b54 fX4_choose_b56
    have hn := ih () trivial
    rw [h3, if_neg (by rw [sI_le (by omega) (by omega)]; omega), mck_s (by omega) (by omega), sI_nn (by omega)]
    simp only [mlet]
    rw [sI_1]
    have hb := hlt j (by omega)
    rw [bsN_S] at hn
    by_cases h8 : A 8 j = sI c
    · rw [if_pos h8, mck_s (by omega) (by omega)]
      by_cases h12 : A 12 j = 1
      · rw [if_pos h12]
        cases hbj : bsN A c w j with
        | none =>
          rw [hbj] at hn
          simp only [h8, h12, and_self, if_true] at hn
          rw [if_pos (by decide)]
          exact hn
        | some b =>
          rw [hbj] at hn hb
          have hbT := hb b rfl
          rw [if_neg (by show ¬ sI b < 0; rw [sI_ltl (by omega) (by decide)]; exact Nat.not_lt_zero _)]
          show wq (mb3 (DX4_isBefore fu (sI j) (sI b) A L) _) _
          rw [c_isBefore (by omega) (by omega), mb3_s]
          simp only [h8, h12, true_and] at hn
          by_cases hbe : befB A j b = true
          · rw [if_pos hbe] at hn ⊢
            rw [if_neg (by decide)]
            exact hn
          · rw [if_neg hbe] at hn ⊢
            rw [if_pos rfl]
            exact hn
      · rw [if_neg h12]
        cases hbj : bsN A c w j with
        | none =>
          rw [hbj] at hn
          simp only [h12, and_false, if_false] at hn
          exact hn
        | some b =>
          rw [hbj] at hn
          simp only [h12, and_false, false_and, if_false] at hn
          exact hn
    · rw [if_neg h8]
      cases hbj : bsN A c w j with
      | none =>
        rw [hbj] at hn
        simp only [h8, false_and, if_false] at hn
        exact hn
      | some b =>
        rw [hbj] at hn
        simp only [h8, false_and, if_false] at hn
        exact hn
  · intro _ r _
    show wq (fX4_choose_i9 fu (sI c) r (oI (bsN A c w T)) (sI T) A L) _
    unfold fX4_choose_i9 fX4_choose_b85 fX4_choose_b98
    rw [h3, if_pos (by rw [sI_le (by omega) (by omega)]; omega), mck_s (by omega) (by omega), sI_nn (by omega), hw]
    have hb := hlt T (Nat.le_refl _)
    simp only [mlet]
    refine wq_eq (b := (chA A c w (bsN A c w T), L)) ?_ rfl
    unfold chA
    cases w with
    | none =>
      rw [if_pos (by decide)]
      cases hbT : bsN A c none T with
      | none =>
        rw [if_pos (by decide), mck_s (by omega) (by omega)]
      | some b =>
        have := hb b hbT
        rw [if_neg (by show ¬ sI b < 0; rw [sI_ltl (by omega) (by decide)]; exact Nat.not_lt_zero _)]
        show mck (sI b) 12 (mck (sI c) 6 (some (mset (mset A 12 (sI b).toNatClampNeg 2) 18 c (oI (some b)), L))) = _
        rw [mck_s (by omega) (by omega), mck_s (by omega) (by omega), sI_nn (by omega)]
    | some x =>
      have hx := hwT x rfl
      rw [if_neg (by show ¬ sI x < 0; rw [sI_ltl (by omega) (by decide)]; exact Nat.not_lt_zero _), mck_s (by omega) (by omega)]
      show mck (sI x) 12 _ = _
      rw [mck_s (by omega) (by omega)]
      show (if oI (bsN A c (some x) T) < 0 then mck (sI c) 6 (some (mset (mset A 12 (sI x).toNatClampNeg 1) 18 c (oI (bsN A c (some x) T)), L)) else mck (oI (bsN A c (some x) T)) 12 (mck (sI c) 6 (some (mset (mset (mset A 12 (sI x).toNatClampNeg 1) 12 (oI (bsN A c (some x) T)).toNatClampNeg 2) 18 c (oI (bsN A c (some x) T)), L)))) = _
      rw [sI_nn (by omega)]
      cases hbT : bsN A c (some x) T with
      | none =>
        rw [if_pos (by decide), mck_s (by omega) (by omega)]
      | some b =>
        have := hb b hbT
        rw [if_neg (by show ¬ sI b < 0; rw [sI_ltl (by omega) (by decide)]; exact Nat.not_lt_zero _)]
        show mck (sI b) 12 (mck (sI c) 6 (some (mset (mset (mset A 12 x 1) 12 (sI b).toNatClampNeg 2) 18 c (oI (some b)), L))) = _
        rw [mck_s (by omega) (by omega), mck_s (by omega) (by omega), sI_nn (by omega)]
theorem bsN_st {A : mwM} {c : Nat} {w : Option Nat} : ∀ (j b : Nat), bsN A c w j = some b → w = some b ∨ (A 12 b = 1 ∧ A 8 b = sI c) := by
  intro j
  induction j with
  | zero => intro b hb; exact Or.inl hb
  | succ j ih =>
    intro b hb
    unfold bsN at hb
    split at hb
    · split at hb
      · rename_i h
        injection hb with hb
        subst hb
        exact Or.inr ⟨h.2, h.1⟩
      · cases hb
    · split at hb
      · rename_i h
        injection hb with hb
        subst hb
        exact Or.inr ⟨h.2.1, h.1⟩
      · rename_i b' hb' _
        injection hb with hb
        subst hb
        exact ih _ hb'
/-- what the reference knows for choosing -/
def okCh (A M : mwM) (L : mwL) (T : Nat) : Prop := M 787 1 = sI T ∧ (∀ r, 1 ≤ r → r ≤ 32 → M 806 r = 0) ∧ ∀ i, i < T → M 788 (i + 1) = A 7 i ∧ M 789 (i + 1) = A 8 i ∧ M 796 (i + 1) = A 12 i ∧ M 792 (i + 1) = 1 ∧ (A 12 i ≠ 0 → L 797 (i + 1) = (A 15 i).toInt64) ∧ ∃ k, k < 256 ∧ A 7 i = sI k
theorem m_height {fu : Nat} {M : mwM} {L : mwL} {t : Nat} (hf : 33 ≤ fu) (ht : 1 ≤ t) (ht2 : t ≤ 100) (hh : ∀ r, 1 ≤ r → r ≤ 32 → M 806 r = 0) : DX15_height fu (sI t) M L = some (M 788 t, M, L) := by
  unfold DX15_height
  rw [mck_s (by omega) (by omega), sI_nn (by omega)]
  simp only [mlet]
  have h := wq_for (body := fun r s => fX15_height_i9 fu (sI t) r s.1 s.2.1 s.2.2.1 s.2.2.2) (Q := fun q => q = (M 788 t, M, L)) (fun j (_ : Unit) => (M 788 t, sI (j + 1), M, L)) (fun _ _ => True) 32 ?_ ?_ 32 0 () fu (by omega) (by omega) trivial
  · obtain ⟨q, e, rfl⟩ := h
    exact e
  · intro j _ r hj _ ih
    show wq (fX15_height_i9 fu (sI t) r (M 788 t) (sI (j + 1)) M L) _
    unfold fX15_height_i9 fX15_height_b44 fX15_height_b45
    rw [if_neg (by rw [sI_llt (by omega) (by omega)]; omega), mck_s (by omega) (by omega), sI_nn (by omega), hh _ (by omega) (by omega), if_neg (by
      intro q
      have q2 : sI 0 = sI t := q
      rw [sI_eq (by omega) (by omega)] at q2
      omega)]
    simp only [mlet]
    rw [sI_1]
    exact ih () trivial
  · intro _ r _
    show wq (fX15_height_i9 fu (sI t) r (M 788 t) (sI 33) M L) _
    unfold fX15_height_i9
    rw [if_pos (by decide)]
    exact wq_some rfl
theorem m_running {fu : Nat} {A M : mwM} {L : mwL} {c T : Nat} {w : Option Nat} (hf : 33 ≤ fu) (hT : T ≤ 12) (ho : okCh A M L T) (hw : ∀ i, i < T → ((A 8 i = sI c ∧ A 12 i = 2) ↔ w = some i)) (hwT : ∀ x, w = some x → x < T) : DX15_runningOf fu (sI c) M L = some (oM w, M, L) := by
  obtain ⟨h1, _, h3⟩ := ho
  unfold DX15_runningOf
  have h := wq_for (body := fun r s => fX15_runningOf_i4 fu (sI c) r s.1 s.2.1 s.2.2.1 s.2.2.2) (Q := fun q => q = (oM w, M, L)) (fun j (v : Option Nat) => (oM v, sI (j + 1), M, L)) (fun j v => (∀ x, w = some x → x < j → v = some x) ∧ (∀ x, v = some x → w = some x)) T ?_ ?_ T 0 none fu (by omega) (by omega) ⟨fun x _ h => by omega, fun x h => by cases h⟩
  · obtain ⟨q, e, rfl⟩ := h
    exact e
  · intro j v r hj ⟨p1, p2⟩ ih
    show wq (fX15_runningOf_i4 fu (sI c) r (oM v) (sI (j + 1)) M L) _
    unfold fX15_runningOf_i4 fX15_runningOf_b36 fX15_runningOf_b37
    obtain ⟨q1, q2, q3, _⟩ := h3 j hj
    rw [h1, if_neg (by rw [sI_lt (by omega) (by omega)]; omega), mck_s (by omega) (by omega), sI_nn (by omega), q2]
    simp only [mlet]
    rw [sI_1]
    have no : ¬ (A 8 j = sI c ∧ A 12 j = 2) → wq (r (oM v, sI (j + 1 + 1), M, L)) (fun q => q = (oM w, M, L)) := by
      intro hn
      refine ih v ⟨?_, p2⟩
      intro x hx hxj
      by_cases hxe : x = j
      · subst hxe; exact absurd ((hw x hj).mpr hx) hn
      · exact p1 x hx (by omega)
    by_cases h8 : A 8 j = sI c
    · rw [if_pos h8, mck_s (by omega) (by omega), q3]
      by_cases h12 : A 12 j = 2
      · rw [if_pos h12]
        have hwj := (hw j hj).mp ⟨h8, h12⟩
        refine ih (some j) ⟨?_, ?_⟩
        · intro x hx hxj
          rw [hwj] at hx
          exact hx
        · intro x hx
          rw [← hx]; exact hwj
      · rw [if_neg h12]
        exact no (fun q => h12 q.2)
    · rw [if_neg h8]
      exact no (fun q => h8 q.1)
  · intro v r ⟨p1, p2⟩
    show wq (fX15_runningOf_i4 fu (sI c) r (oM v) (sI (T + 1)) M L) _
    unfold fX15_runningOf_i4
    rw [h1, if_pos (by rw [sI_lt (by omega) (by omega)]; omega)]
    refine wq_some ?_
    have : v = w := by
      cases hw' : w with
      | none =>
        cases hv : v with
        | none => rfl
        | some x => have := p2 x hv; rw [hw'] at this; cases this
      | some x => exact p1 x hw' (hwT x hw')
    rw [this]
def chM (M : mwM) (w b : Option Nat) : mwM :=
  let M1 := match w with
    | none => M
    | some x => mset (mset M 804 (x + 1) (vp_nar .boolean 0)) 796 (x + 1) 1
  match b with
    | none => M1
    | some x => mset M1 796 (x + 1) 2
def moB (A : mwM) : Option Nat → Int32
  | none => -1
  | some b => A 7 b
theorem oM_pos {w : Option Nat} {T : Nat} (hT : T ≤ 12) (hw : ∀ x, w = some x → x < T) : (oM w ≤ 0) ↔ w = none := by
  cases w with
  | none => exact ⟨fun _ => rfl, fun _ => by decide⟩
  | some x =>
    have := hw x rfl
    constructor
    · intro h
      exact absurd h (by show ¬ sI (x + 1) ≤ 0; rw [sI_lel (by omega) (by decide)]; exact Nat.not_succ_le_zero _)
    · intro h; cases h
theorem i64_lt (a b : Int32) : (a.toInt64 < b.toInt64) ↔ a < b := by
  rw [Int64.lt_iff_toInt_lt, Int32.lt_iff_toInt_lt, Int32.toInt_toInt64, Int32.toInt_toInt64]
theorem i64_le (a b : Int32) : (a.toInt64 ≤ b.toInt64) ↔ a ≤ b := by
  rw [Int64.le_iff_toInt_le, Int32.le_iff_toInt_le, Int32.toInt_toInt64, Int32.toInt_toInt64]
theorem m_choose {fu : Nat} {A M : mwM} {L : mwL} {c T : Nat} {w : Option Nat} (hf : 33 ≤ fu) (hT : T ≤ 12) (ho : okCh A M L T) (hw : ∀ i, i < T → ((A 8 i = sI c ∧ A 12 i = 2) ↔ w = some i)) (hwT : ∀ x, w = some x → x < T) : DX15_choose fu (sI c) M L = some (oM (bsN A c w T), chM M w (bsN A c w T), L) := by
  have ho' := ho
  obtain ⟨h1, h2, h3⟩ := ho'
  have hlt := bsN_lt (A := A) (c := c) hwT
  -- the loop, from the one that runs
  have loop : wq (fX15_choose_h50 fu (sI c) fu (oM w, oM w, moB A w, 1, M, L)) (fun q => q = (oM (bsN A c w T), chM M w (bsN A c w T), L)) := by
    refine wq_for (body := fun r s => fX15_choose_i50 fu (sI c) r s.1 s.2.1 s.2.2.1 s.2.2.2.1 s.2.2.2.2.1 s.2.2.2.2.2) (fun j (_ : Unit) => (oM w, oM (bsN A c w j), moB A (bsN A c w j), sI (j + 1), M, L)) (fun _ _ => True) T ?_ ?_ T 0 () fu (by omega) (by omega) trivial
    · intro j _ r hj _ ih
      show wq (fX15_choose_i50 fu (sI c) r (oM w) (oM (bsN A c w j)) (moB A (bsN A c w j)) (sI (j + 1)) M L) _
      have hn := ih () trivial
      unfold fX15_choose_i50 fX15_choose_b128 fX15_choose_b135
      obtain ⟨q1, q2, q3, q4, q5, kj, hkj, q6⟩ := h3 j hj
      rw [h1, if_neg (by rw [sI_lt (by omega) (by omega)]; omega), mck_s (by omega) (by omega), sI_nn (by omega), q2]
      simp only [mlet]
      rw [sI_1]
      have hb := hlt j (by omega)
      have hst := bsN_st (A := A) (c := c) (w := w) j
      rw [bsN_S] at hn
      by_cases h8 : A 8 j = sI c
      · rw [if_pos h8, mck_s (by omega) (by omega), q3]
        by_cases h12 : A 12 j = 1
        · rw [if_pos h12, m_height hf (by omega) (by omega) h2, mb3_s, q1]
          cases hbj : bsN A c w j with
          | none =>
            rw [hbj] at hn
            simp only [h8, h12, and_self, if_true] at hn
            rw [if_pos (by show (-1 : Int32) < A 7 j; rw [q6]; exact m1_lt (by omega))]
            exact hn
          | some b =>
            rw [hbj] at hn
            have hbT := hb b hbj
            obtain ⟨u1, u2, u3, u4, u5, kb, hkb, u6⟩ := h3 b hbT
            simp only [h8, h12, true_and] at hn
            show wq (if A 7 b < A 7 j then _ else _) _
            by_cases hlt2 : A 7 b < A 7 j
            · have hbe : befB A j b = true := by
                unfold befB
                have hne : ¬ A 7 j = A 7 b := fun q => by rw [q] at hlt2; exact absurd hlt2 (by simp)
                rw [if_neg hne]
                simpa using hlt2
              rw [if_pos hlt2]
              rw [if_pos hbe] at hn
              exact hn
            · rw [if_neg hlt2]
              by_cases heq : A 7 j = A 7 b
              · rw [if_pos (show A 7 j = moB A (some b) from heq)]
                have hbw : (oM (some b) = oM w) ↔ A 12 b = 2 := by
                  constructor
                  · intro q
                    cases hw' : w with
                    | none =>
                      rw [hw'] at q
                      have q2 : sI (b + 1) = sI 0 := q
                      rw [sI_eq (by omega) (by omega)] at q2
                      omega
                    | some x =>
                      rw [hw'] at q
                      have hxT := hwT x hw'
                      have q2 : sI (b + 1) = sI (x + 1) := q
                      rw [sI_eq (by omega) (by omega)] at q2
                      have hbx : b = x := by omega
                      rw [hbx]
                      exact ((hw x hxT).mpr hw').2
                  · intro q
                    rcases hst b hbj with hwb | ⟨hq, _⟩
                    · rw [hwb]
                    · rw [hq] at q; exact absurd q (by decide)
                by_cases h2b : A 12 b = 2
                · rw [if_pos (hbw.mpr h2b)]
                  have hbe : ¬ befB A j b = true := by
                    unfold befB
                    rw [if_pos heq]
                    simp [h2b]
                  rw [if_neg hbe] at hn
                  show wq (r (oM w, oM (some b), A 7 b, sI (j + 1 + 1), M, L)) _
                  exact hn
                · rw [if_neg (fun q => h2b (hbw.mp q)), mck_s (by omega) (by omega)]
                  show wq (mck (sI (b + 1)) 101 (if 0 ≤ lg_cmp (L 797 (j + 1)) (L 797 (sI (b + 1)).toNatClampNeg) then _ else _)) _
                  rw [mck_s (by omega) (by omega), sI_nn (by omega)]
                  have hb0 : A 12 b ≠ 0 := by
                    rcases hst b hbj with hwb | ⟨hq, _⟩
                    · have := ((hw b hbT).mpr hwb).2
                      exact absurd this h2b
                    · rw [hq]; decide
                  rw [q5 (by rw [h12]; decide), u5 hb0]
                  by_cases hle : A 15 b ≤ A 15 j
                  · rw [if_pos ((lg_cmp_ge _ _).mpr ((i64_le _ _).mpr hle))]
                    have hbe : ¬ befB A j b = true := by
                      unfold befB
                      rw [if_pos heq]
                      have : ¬ A 15 j < A 15 b := Int32.not_lt.mpr hle
                      simp [this]
                    rw [if_neg hbe] at hn
                    exact hn
                  · rw [if_neg (fun q => hle ((i64_le _ _).mp ((lg_cmp_ge _ _).mp q)))]
                    have hbe : befB A j b = true := by
                      unfold befB
                      rw [if_pos heq]
                      have : A 15 j < A 15 b := Int32.not_le.mp hle
                      simp [this, h2b]
                    rw [if_pos hbe] at hn
                    exact hn
              · rw [if_neg (show ¬ A 7 j = moB A (some b) from heq)]
                have hbe : ¬ befB A j b = true := by
                  unfold befB
                  rw [if_neg heq]
                  simpa using hlt2
                rw [if_neg hbe] at hn
                exact hn
        · rw [if_neg h12]
          cases hbj : bsN A c w j with
          | none =>
            rw [hbj] at hn
            simp only [h12, and_false, if_false] at hn
            exact hn
          | some b =>
            rw [hbj] at hn
            simp only [h12, and_false, false_and, if_false] at hn
            exact hn
      · rw [if_neg h8]
        cases hbj : bsN A c w j with
        | none =>
          rw [hbj] at hn
          simp only [h8, false_and, if_false] at hn
          exact hn
        | some b =>
          rw [hbj] at hn
          simp only [h8, false_and, if_false] at hn
          exact hn
    · intro _ r _
      show wq (fX15_choose_i50 fu (sI c) r (oM w) (oM (bsN A c w T)) (moB A (bsN A c w T)) (sI (T + 1)) M L) _
      unfold fX15_choose_i50 fX15_choose_b159 fX15_choose_b170
      rw [h1, if_pos (by rw [sI_lt (by omega) (by omega)]; omega)]
      have hb := hlt T (Nat.le_refl _)
      simp only [mlet]
      refine wq_eq (b := (oM (bsN A c w T), chM M w (bsN A c w T), L)) ?_ rfl
      unfold chM
      cases w with
      | none =>
        rw [if_pos (by decide)]
        cases hbT : bsN A c none T with
        | none =>
          rw [if_pos (by decide)]
        | some b =>
          have := hb b hbT
          rw [if_neg (by show ¬ sI (b + 1) ≤ 0; rw [sI_lel (by omega) (by decide)]; exact Nat.not_succ_le_zero _)]
          show mck (sI (b + 1)) 101 (some (oM (some b), mset M 796 (sI (b + 1)).toNatClampNeg 2, L)) = _
          rw [mck_s (by omega) (by omega), sI_nn (by omega)]
      | some x =>
        have hx := hwT x rfl
        rw [if_neg (by show ¬ sI (x + 1) ≤ 0; rw [sI_lel (by omega) (by decide)]; exact Nat.not_succ_le_zero _)]
        show mck (sI (x + 1)) 101 (mck (sI (x + 1)) 101 (if oM (bsN A c (some x) T) ≤ 0 then some (oM (bsN A c (some x) T), mset (mset M 804 (sI (x + 1)).toNatClampNeg (vp_nar FieldType.boolean 0)) 796 (sI (x + 1)).toNatClampNeg 1, L) else mck (oM (bsN A c (some x) T)) 101 (some (oM (bsN A c (some x) T), mset (mset (mset M 804 (sI (x + 1)).toNatClampNeg (vp_nar FieldType.boolean 0)) 796 (sI (x + 1)).toNatClampNeg 1) 796 (oM (bsN A c (some x) T)).toNatClampNeg 2, L)))) = _
        rw [mck_s (by omega) (by omega), mck_s (by omega) (by omega), sI_nn (by omega)]
        cases hbT : bsN A c (some x) T with
        | none =>
          rw [if_pos (by decide)]
        | some b =>
          have := hb b hbT
          rw [if_neg (by show ¬ sI (b + 1) ≤ 0; rw [sI_lel (by omega) (by decide)]; exact Nat.not_succ_le_zero _)]
          show mck (sI (b + 1)) 101 (some (oM (some b), mset (mset (mset M 804 (x + 1) (vp_nar FieldType.boolean 0)) 796 (x + 1) 1) 796 (sI (b + 1)).toNatClampNeg 2, L)) = _
          rw [mck_s (by omega) (by omega), sI_nn (by omega)]
  obtain ⟨q, e, rfl⟩ := loop
  unfold DX15_choose fX15_choose_b30 fX15_choose_b45
  rw [m_running hf hT ho hw hwT, mb3_s]
  cases hw' : w with
  | none =>
    rw [if_pos (by decide), if_pos (by decide)]
    rw [hw'] at e
    exact e
  | some x =>
    have hx := hwT x hw'
    obtain ⟨u1, u2, u3, u4, u5, kb, hkb, u6⟩ := h3 x hx
    have hp : ¬ oM (some x) ≤ 0 := by show ¬ sI (x + 1) ≤ 0; rw [sI_lel (by omega) (by decide)]; exact Nat.not_succ_le_zero _
    rw [if_neg hp, if_neg hp]
    show mck (sI (x + 1)) 101 (if M 792 (sI (x + 1)).toNatClampNeg = 0 then _ else mb3 (DX15_height fu (sI (x + 1)) M L) _) = _
    rw [mck_s (by omega) (by omega), sI_nn (by omega), u4, if_neg (by decide), m_height hf (by omega) (by omega) h2, mb3_s, u1]
    rw [hw'] at e
    exact e
/-! one task on both sides -/
abbrev tk (A : mwM) (i rk co pe mi nx st lf wa tu us dn : Nat) : Prop := A 7 i = sI rk ∧ A 8 i = sI co ∧ A 9 i = sI pe ∧ A 10 i = sI mi ∧ A 11 i = sI nx ∧ A 12 i = sI st ∧ A 13 i = sI lf ∧ A 14 i = sI wa ∧ A 15 i = sI tu ∧ A 16 i = sI us ∧ A 17 i = sI dn
/-- how many microseconds are left of a job, as the reference keeps it -/
def lfR (M : mwM) (L : mwL) (i mi lf : Nat) : Prop := (M 801 (i + 1) = 1 ∧ M 799 (i + 1) = 0 ∧ lf = mi + 1) ∨ (M 801 (i + 1) = 0 ∧ M 799 (i + 1) = 0 ∧ L 800 (i + 1) = -1 ∧ lf = mi) ∨ (M 801 (i + 1) = 0 ∧ M 799 (i + 1) = 0 ∧ L 800 (i + 1) = sL lf ∧ 0 < lf ∧ lf < mi) ∨ (M 801 (i + 1) = 0 ∧ M 799 (i + 1) = 1 ∧ lf = 0)
abbrev tm (M : mwM) (L : mwL) (i rk co mi st lf wa tu us : Nat) : Prop := M 788 (i + 1) = sI rk ∧ M 789 (i + 1) = sI co ∧ M 790 (i + 1) = 2 ∧ M 792 (i + 1) = 1 ∧ M 793 i = sI (i + 1) ∧ M 794 i = 0 ∧ L 795 i = sL mi ∧ M 796 (i + 1) = sI st ∧ M 798 (i + 1) = sI wa ∧ M 804 (i + 1) = 0 ∧ M 810 (i + 1) = 0 ∧ L 805 (i + 1) = sL us ∧ (st ≠ 0 → L 797 (i + 1) = sL tu ∧ lfR M L i mi lf)
/-- what holds between a task's numbers -/
abbrev ti (C tn U rk co pe mi nx st lf wa tu us dn : Nat) : Prop := rk < 256 ∧ co < C ∧ 500 ≤ pe ∧ pe ≤ 20000 ∧ 1 ≤ mi ∧ mi ≤ 1000 ∧ nx < 50000 ∧ st < 3 ∧ lf ≤ mi + 1 ∧ wa < 2 ∧ tu ≤ tn ∧ us < U ∧ dn ≤ us ∧ (st = 0 → lf = 0 ∧ wa = 0) ∧ (lf = 0 → us = dn * (mi + 1)) ∧ (0 < lf → us + lf = (dn + 1) * (mi + 1))
theorem c_ready {fu : Nat} {A : mwM} {L : mwL} {i tn mi : Nat} (hi : i < 12) (h4 : A 5 4 = sI tn) (h10 : A 10 i = sI mi) : DX4_makeReady fu (sI i) A L = some (mset (mset (mset (mset A 5 4 (sI (tn + 1))) 12 i 1) 15 i (sI (tn + 1))) 13 i (sI (mi + 1)), L) := by
  unfold DX4_makeReady
  simp only [mlet]
  rw [mck_s (by omega) (by omega), mck_s (by omega) (by omega), mck_s (by omega) (by omega), mck_s (by omega) (by omega), sI_nn (by omega), h4, sI_1]
  have e1 : mset (mset A 5 4 (sI (tn + 1))) 12 i 1 5 4 = sI (tn + 1) := by rw [mset_k (by decide), mset_s]
  rw [e1]
  have e2 : mset (mset (mset A 5 4 (sI (tn + 1))) 12 i 1) 15 i (sI (tn + 1)) 10 i = sI mi := by rw [mset_k (by decide), mset_k (by decide), mset_k (by decide), h10]
  rw [e2, sI_1]
theorem m_no {fu : Nat} {M : mwM} {L : mwL} {i T : Nat} (hT : T ≤ 12) (hi : i < T) (h1 : M 787 1 = sI T) : DX15_no fu (sI (i + 1)) M L = some (0, M, L) := by
  unfold DX15_no fX15_no_b18
  rw [if_neg (by rw [sI_ltl (by omega) (by omega)]; omega), h1, if_pos (by rw [sI_le (by omega) (by omega)]; omega)]
  rfl
/-- the reference: a task that was suspended is activated -/
theorem m_begin0 {fu : Nat} {M : mwM} {L : mwL} {i tn : Nat} (hi : i < 12) (h796 : M 796 (i + 1) = 0) (ht : L 787 21 = sL tn) : DX15_begin fu (sI (i + 1)) M L = some (mset (mset (mset (mset M 796 (i + 1) 1) 802 (i + 1) 0) 799 (i + 1) 0) 801 (i + 1) (vp_nar .boolean 1), mset (mset (mset L 787 21 (sL (tn + 1))) 797 (i + 1) (sL (tn + 1))) 800 (i + 1) 1) := by
  unfold DX15_begin DX15_ready
  simp only [mlet]
  rw [mck_s (by omega) (by omega), sI_nn (by omega), h796, if_pos rfl, mck_s (by omega) (by omega), mck_s (by omega) (by omega), ht, sL_1]
  rw [show mset L 787 21 (sL (tn + 1)) 787 21 = sL (tn + 1) from mset_s]
  rw [mb2_s, mck_s (by omega) (by omega), mck_s (by omega) (by omega), mck_s (by omega) (by omega), mck_s (by omega) (by omega)]
/-- a task that is active already: it is wanted once more, or the wish is lost -/
theorem m_begin1 {fu : Nat} {M : mwM} {L : mwL} {i st wa cn : Nat} (hi : i < 12) (h796 : M 796 (i + 1) = sI st) (hst : 0 < st) (hst2 : st < 3) (h798 : M 798 (i + 1) = sI wa) (hwa : wa < 2) (h790 : M 790 (i + 1) = 2) (hcn : M 787 39 = sI cn) (hcn2 : cn < 1000000000) : wq (DX15_begin fu (sI (i + 1)) M L) (fun q => q.1 798 (i + 1) = sI 1 ∧ (∃ cn', q.1 787 39 = sI cn' ∧ cn' ≤ cn + 1) ∧ (∀ b j, ¬ (b = 798 ∧ j = i + 1) → ¬ (b = 787 ∧ j = 39) → b ≠ 817 → b ≠ 818 → q.1 b j = M b j) ∧ ∀ b j, b ≠ 819 → q.2 b j = L b j) := by
  unfold DX15_begin fX15_begin_b45 DX15_tell fX15_tell_b43
  simp (disch := omega) only [mlet, mck_s, sI_nn]
  rw [h796, if_neg (by rw [sI_eql (by omega) (by decide)]; exact Nat.ne_of_gt hst), h798, h790]
  rw [show (1 : Int32) + sI wa = sI (1 + wa) from sI_add]
  by_cases h0 : wa = 0
  · rw [if_pos (by rw [sI_ltl (by omega) (by omega)]; omega), sI_1]
    refine wq_some ⟨?_, ⟨cn, ?_, by omega⟩, ?_, fun _ _ _ => rfl⟩
    all_goals (try dsimp only)
    · rw [mset_s, h0]
    · rw [mset_k (by decide)]; exact hcn
    · intro b j h1 h2 h3 h4
      rw [mset_n h1]
  · have h1 : wa = 1 := by omega
    rw [if_neg (by rw [sI_ltl (by omega) (by omega)]; omega), hcn]
    by_cases hk : 1000 ≤ cn
    · rw [if_pos (by rw [sI_lle (by omega) (by omega)]; exact hk), mb2_s]
      refine wq_some ⟨?_, ⟨cn + 1, ?_, by omega⟩, ?_, fun _ _ _ => rfl⟩
      all_goals (try dsimp only)
      · rw [mset_k (by decide), h798, h1]
      · rw [mset_s]; exact sI_1
      · intro b j q1 q2 q3 q4
        rw [mset_n q2]
    · rw [if_neg (by rw [sI_lle (by omega) (by omega)]; exact hk)]
      have e1 : ∀ x, mset M 817 cn x 787 39 = sI cn := fun x => by rw [mset_k (by decide), hcn]
      have e2 : ∀ x y, mset (mset M 817 cn x) 818 cn y 787 39 = sI cn := fun x y => by rw [mset_k (by decide), e1]
      simp (disch := omega) only [mck_s, sI_nn, e1, e2, sI_1, mb2_s]
      refine wq_some ⟨?_, ⟨cn + 1, ?_, by omega⟩, ?_, ?_⟩
      all_goals (try dsimp only)
      · rw [mset_k (by decide), mset_k (by decide), mset_k (by decide), h798, h1]
      · rw [mset_s]
      · intro b j q1 q2 q3 q4
        rw [mset_n q2, mset_k q4, mset_k q3]
      · intro b j q1
        rw [mset_k q1]
/-- the reference: nothing is held, so ending frees the task alone -/
theorem m_holds {fu : Nat} {M : mwM} {L : mwL} {t : Nat} (hf : 33 ≤ fu) (ht : 1 ≤ t) (ht2 : t ≤ 100) (hh : ∀ r, 1 ≤ r → r ≤ 32 → M 806 r = 0) (ho : ∀ r, 1 ≤ r → r ≤ 16 → M 809 r = 0) : DX15_holdsSome fu (sI t) M L = some (0, M, L) := by
  have nz : ∀ x : Int32, x = 0 → ¬ x = sI t := by
    intro x hx q
    rw [hx] at q
    have q2 : sI 0 = sI t := q
    rw [sI_eq (by omega) (by omega)] at q2
    omega
  unfold DX15_holdsSome
  have h := wq_for (body := fun r s => fX15_holdsSome_i4 fu (sI t) r s.1 s.2.1 s.2.2.1 s.2.2.2) (Q := fun q => q = (0, M, L)) (fun j (_ : Unit) => (0, sI (j + 1), M, L)) (fun _ _ => True) 32 ?_ ?_ 32 0 () fu (by omega) (by omega) trivial
  · obtain ⟨q, e, rfl⟩ := h
    exact e
  · intro j _ r hj _ ih
    show wq (fX15_holdsSome_i4 fu (sI t) r 0 (sI (j + 1)) M L) _
    unfold fX15_holdsSome_i4 fX15_holdsSome_b29
    rw [if_neg (by rw [sI_llt (by omega) (by omega)]; omega), if_pos rfl, mck_s (by omega) (by omega), sI_nn (by omega), if_neg (nz _ (hh _ (by omega) (by omega)))]
    simp only [mlet]
    rw [sI_1]
    exact ih () trivial
  · intro _ r _
    show wq (fX15_holdsSome_i4 fu (sI t) r 0 (sI 33) M L) _
    unfold fX15_holdsSome_i4
    rw [if_pos (by decide)]
    refine wq_for (body := fun r s => fX15_holdsSome_i38 fu (sI t) r s.1 s.2.1 s.2.2.1 s.2.2.2) (fun j (_ : Unit) => (0, sI (j + 1), M, L)) (fun _ _ => True) 16 ?_ ?_ 16 0 () fu (by omega) (by omega) trivial
    · intro j _ r hj _ ih
      show wq (fX15_holdsSome_i38 fu (sI t) r 0 (sI (j + 1)) M L) _
      unfold fX15_holdsSome_i38 fX15_holdsSome_b63
      rw [if_neg (by rw [sI_llt (by omega) (by omega)]; omega), if_pos rfl, mck_s (by omega) (by omega), sI_nn (by omega), if_neg (nz _ (ho _ (by omega) (by omega)))]
      simp only [mlet]
      rw [sI_1]
      exact ih () trivial
    · intro _ r _
      show wq (fX15_holdsSome_i38 fu (sI t) r 0 (sI 17) M L) _
      unfold fX15_holdsSome_i38
      rw [if_pos (by decide)]
      exact wq_some rfl
theorem m_free {fu : Nat} {M : mwM} {L : mwL} {t : Nat} (hf : 33 ≤ fu) (ht : 1 ≤ t) (ht2 : t ≤ 100) (h29 : M 787 29 = 0) (hh : ∀ r, 1 ≤ r → r ≤ 32 → M 806 r = 0) (ho : ∀ r, 1 ≤ r → r ≤ 16 → M 809 r = 0) : wq (DX15_free fu (sI t) M L) (fun q => q.2 = L ∧ q.1 796 t = 0 ∧ q.1 804 t = 0 ∧ ∀ b j, ¬ (j = t ∧ (b = 796 ∨ b = 804)) → q.1 b j = M b j) := by
  have nz : ∀ x : Int32, x = 0 → ¬ x = sI t := by
    intro x hx q
    rw [hx] at q
    have q2 : sI 0 = sI t := q
    rw [sI_eq (by omega) (by omega)] at q2
    omega
  unfold DX15_free fX15_free_b21
  rw [m_holds hf ht ht2 hh ho, mb3_s, if_pos rfl, if_neg (nz _ h29)]
  refine wq_for (body := fun r s => fX15_free_i24 fu (sI t) r s.1 s.2.1 s.2.2.1 s.2.2.2) (fun j (a : mwM) => (0, sI (j + 1), a, L)) (fun _ a => ∀ b y, a b y = M b y) 32 ?_ ?_ 32 0 M fu (by omega) (by omega) (fun _ _ => rfl)
  · intro j a r hj hP ih
    show wq (fX15_free_i24 fu (sI t) r 0 (sI (j + 1)) a L) _
    unfold fX15_free_i24 fX15_free_b55
    rw [if_neg (by rw [sI_llt (by omega) (by omega)]; omega), mck_s (by omega) (by omega), sI_nn (by omega), if_neg (nz _ (by rw [hP]; exact hh _ (by omega) (by omega))), mck_s (by omega) (by omega), mck_s (by omega) (by omega)]
    simp only [mlet]
    rw [sI_1]
    refine ih (mset a 806 (j + 1) (a 806 (j + 1))) ?_
    intro b y
    by_cases hq : b = 806 ∧ y = j + 1
    · rw [hq.1, hq.2, mset_s, hP]
    · rw [mset_n hq, hP]
  · intro a r hP
    show wq (fX15_free_i24 fu (sI t) r 0 (sI 33) a L) _
    unfold fX15_free_i24
    rw [if_pos (by decide)]
    refine wq_for (body := fun r s => fX15_free_i64 fu (sI t) r s.1 s.2.1 s.2.2.1 s.2.2.2) (fun j (_ : Unit) => (0, sI (j + 1), a, L)) (fun _ _ => True) 16 ?_ ?_ 16 0 () fu (by omega) (by omega) trivial
    · intro j _ r hj _ ih
      show wq (fX15_free_i64 fu (sI t) r 0 (sI (j + 1)) a L) _
      unfold fX15_free_i64 fX15_free_b85
      rw [if_neg (by rw [sI_llt (by omega) (by omega)]; omega), mck_s (by omega) (by omega), sI_nn (by omega), if_neg (nz _ (by rw [hP]; exact ho _ (by omega) (by omega)))]
      simp only [mlet]
      rw [sI_1]
      exact ih () trivial
    · intro _ r _
      show wq (fX15_free_i64 fu (sI t) r 0 (sI 17) a L) _
      unfold fX15_free_i64 fX15_free_b108 fX15_free_b121
      rw [if_pos (by decide), if_neg (nz _ (by rw [hP]; exact h29))]
      simp (disch := omega) only [mlet, mck_s, sI_nn]
      first | rw [if_pos rfl] | rw [if_pos trivial] | skip
      refine wq_some ⟨rfl, ?_, ?_, ?_⟩
      all_goals (try dsimp only)
      · rw [mset_k (by decide), mset_s]
      · rw [mset_s]; exact bo_0
      · intro b j hq
        rw [mset_n (by omega), mset_n (by omega)]
        by_cases hq2 : b = 787 ∧ j = 29
        · rw [hq2.1, hq2.2, mset_s, hP]
        · rw [mset_n hq2, hP]
theorem m_nextPart {fu : Nat} {M : mwM} {L : mwL} {i T nx : Nat} (hf : 13 ≤ fu) (hT : T ≤ 12) (hi : i < T) (h7 : M 787 7 = sI T) (hp : ∀ k, k < T → M 793 k = sI (k + 1)) (hn : M 799 (i + 1) = sI nx) (hn2 : nx < 2) : DX15_nextPart fu (sI (i + 1)) M L = some ((if nx = 0 then sI i else -1), M, L) := by
  unfold DX15_nextPart
  have h := wq_for (body := fun r s => fX15_nextPart_i4 fu (sI (i + 1)) r s.1 s.2.1 s.2.2.1 s.2.2.2) (Q := fun q => q = ((if nx = 0 then sI i else -1), M, L)) (fun k (v : Nat) => (sI v, sI k, M, L)) (fun k v => (k ≤ i → v = 0) ∧ (i < k → v = 1 ∧ nx = 1)) T ?_ ?_ T 0 0 fu (by omega) (by omega) ⟨fun _ => rfl, fun h => by omega⟩
  · obtain ⟨q, e, rfl⟩ := h
    exact e
  · intro k v r hk ⟨p1, p2⟩ ih
    show wq (fX15_nextPart_i4 fu (sI (i + 1)) r (sI v) (sI k) M L) _
    unfold fX15_nextPart_i4 fX15_nextPart_b37
    rw [h7, if_neg (by rw [sI_le (by omega) (by omega)]; omega), mck_s (by omega) (by omega), sI_nn (by omega), hp k hk]
    simp only [mlet]
    rw [sI_1]
    by_cases hki : k = i
    · subst hki
      have hv := p1 (Nat.le_refl _)
      rw [if_pos rfl, mck_s (by omega) (by omega), sI_nn (by omega), hn, hv]
      by_cases h0 : nx = 0
      · rw [if_pos (by rw [h0])]
        exact wq_some (by rw [if_pos h0])
      · rw [if_neg (by rw [sI_eq (by omega) (by omega)]; omega), sI_1]
        exact ih 1 ⟨fun h => by omega, fun _ => ⟨rfl, by omega⟩⟩
    · rw [if_neg (by rw [sI_eq (by omega) (by omega)]; omega), sI_1]
      refine ih v ⟨fun h => p1 (by omega), fun h => ?_⟩
      by_cases hik : i < k
      · exact p2 hik
      · omega
  · intro v r ⟨p1, p2⟩
    show wq (fX15_nextPart_i4 fu (sI (i + 1)) r (sI v) (sI T) M L) _
    unfold fX15_nextPart_i4
    rw [h7, if_pos (by rw [sI_le (by omega) (by omega)]; omega)]
    have := (p2 hi).2
    exact wq_some (by rw [if_neg (by omega)])
theorem cmp_l0 {k : Nat} (h : k < 1000000) : (0 ≤ lg_cmp (sL k) 0) := by
  rw [lg_cmp_ge]
  show sL 0 ≤ sL k
  rw [sL_le (by omega) (by omega)]
  omega
theorem cmp_m1 : ¬ (0 ≤ lg_cmp (-1) 0) := by
  rw [lg_cmp_ge]
  decide
theorem m_pass {fu : Nat} {M : mwM} {L : mwL} {i T mi lf us : Nat} (hf : 13 ≤ fu) (hT : T ≤ 12) (hi : i < T) (hmi : 1 ≤ mi) (hmi2 : mi ≤ 1000) (h7 : M 787 7 = sI T) (hp : ∀ k, k < T → M 793 k = sI (k + 1)) (h795 : L 795 i = sL mi) (h810 : M 810 (i + 1) = 0) (hu : L 805 (i + 1) = sL us) (hlf : 0 < lf) (hl : lfR M L i mi lf) : wq (DX15_pass fu (sI (i + 1)) M L) (fun q => lfR q.1 q.2 i mi (lf - 1) ∧ q.2 805 (i + 1) = sL (us + 1) ∧ (∀ b j, ¬ (j = i + 1 ∧ (b = 799 ∨ b = 801)) → q.1 b j = M b j) ∧ ∀ b j, ¬ (j = i + 1 ∧ (b = 800 ∨ b = 805)) → q.2 b j = L b j) := by
  unfold DX15_pass
  simp (disch := omega) only [mlet, mck_s, sI_nn]
  rw [hu, sL_1, h810, if_pos (by decide)]
  -- the end of a part
  have fin : ∀ (k : Nat) (L1 : mwL), 0 < k → k ≤ 1000 → M 799 (i + 1) = 0 → M 801 (i + 1) = 0 → L1 800 (i + 1) = sL k → lf = k → k ≤ mi → L1 805 (i + 1) = sL (us + 1) → (∀ b j, ¬ (j = i + 1 ∧ (b = 800 ∨ b = 805)) → L1 b j = L b j) → wq (fX15_pass_b73 fu (sI (i + 1)) M L1) (fun q => lfR q.1 q.2 i mi (lf - 1) ∧ q.2 805 (i + 1) = sL (us + 1) ∧ (∀ b j, ¬ (j = i + 1 ∧ (b = 799 ∨ b = 801)) → q.1 b j = M b j) ∧ ∀ b j, ¬ (j = i + 1 ∧ (b = 800 ∨ b = 805)) → q.2 b j = L b j) := by
    intro k L1 hk0 hk1 h799 h801 h800 hlk hkm h805 hfr
    obtain ⟨k', rfl⟩ : ∃ k', k = k' + 1 := ⟨k - 1, by omega⟩
    unfold fX15_pass_b73
    simp (disch := omega) only [mlet, mck_s, sI_nn]
    rw [h800, sL_m1]
    rw [show mset L1 800 (i + 1) (sL k') 800 (i + 1) = sL k' from mset_s]
    by_cases hz : k' = 0
    · subst hz
      rw [if_pos (by decide)]
      refine wq_some ⟨?_, ?_, ?_, ?_⟩
      all_goals (try dsimp only)
      · right; right; right
        refine ⟨by rw [mset_k (by decide)]; exact h801, ?_, by omega⟩
        rw [mset_s, h799]; rfl
      · rw [mset_k (by decide), mset_k (by decide)]; exact h805
      · intro b j h
        rw [mset_n (by omega)]
      · intro b j h
        rw [mset_n (by omega), mset_n (by omega)]
        exact hfr b j h
    · rw [if_neg (by
        rw [lg_cmp_le]
        show ¬ sL k' ≤ sL 0
        rw [sL_le (by omega) (by omega)]
        omega)]
      refine wq_some ⟨?_, ?_, fun _ _ _ => rfl, ?_⟩
      all_goals (try dsimp only)
      · right; right; left
        refine ⟨h801, h799, ?_, by omega, by omega⟩
        rw [mset_s]
        congr 1
        omega
      · rw [mset_k (by decide)]; exact h805
      · intro b j h
        rw [mset_n (by omega)]
        exact hfr b j h
  rcases hl with ⟨q1, q2, q3⟩ | ⟨q1, q2, q3, q4⟩ | ⟨q1, q2, q3, q4, q5⟩ | ⟨q1, q2, q3⟩
  · rw [q1, if_neg (by decide)]
    refine wq_some ⟨?_, ?_, ?_, ?_⟩
    all_goals (try dsimp only)
    · right; left
      refine ⟨by rw [mset_s]; exact bo_0, by rw [mset_k (by decide)]; exact q2, mset_s, by omega⟩
    · rw [mset_k (by decide), mset_s]
    · intro b j h
      rw [mset_n (by omega)]
    · intro b j h
      rw [mset_n (by omega), mset_n (by omega)]
  · rw [q1, if_pos rfl]
    rw [show mset L 805 (i + 1) (sL (us + 1)) 800 (i + 1) = -1 from by rw [mset_k (by decide)]; exact q3]
    rw [if_neg cmp_m1, m_nextPart (nx := 0) hf hT hi h7 hp q2 (by decide), mb3_s]
    first | rw [if_pos rfl] | skip
    rw [mck_s (by omega) (by omega), sI_nn (by omega)]
    rw [show mset L 805 (i + 1) (sL (us + 1)) 795 i = sL mi from by rw [mset_k (by decide)]; exact h795]
    refine fin mi _ (by omega) hmi2 q2 q1 mset_s q4 (Nat.le_refl _) (by rw [mset_k (by decide), mset_s]) ?_
    intro b j h
    rw [mset_n (by omega), mset_n (by omega)]
  · rw [q1, if_pos rfl]
    rw [show mset L 805 (i + 1) (sL (us + 1)) 800 (i + 1) = sL lf from by rw [mset_k (by decide)]; exact q3]
    rw [if_pos (cmp_l0 (by omega))]
    refine fin lf _ q4 (by omega) q2 q1 (by rw [mset_k (by decide)]; exact q3) rfl (by omega) mset_s ?_
    intro b j h
    rw [mset_n (by omega)]
  · omega
theorem c_use {fu : Nat} {A : mwM} {L : mwL} {i us lf dn : Nat} (hi : i < 12) (hlf : lf < 2000) (h16 : A 16 i = sI us) (h13 : A 13 i = sI (lf + 1)) (h17 : A 17 i = sI dn) : DX4_use fu (sI i) A L = some ((if lf = 0 then mset (mset (mset (mset (mset A 16 i (sI (us + 1))) 13 i (sI lf)) 17 i (sI (dn + 1))) 5 5 (A 5 5 ||| (1 <<< (sI i &&& 31)))) 5 6 0 else mset (mset A 16 i (sI (us + 1))) 13 i (sI lf)), L) := by
  unfold DX4_use fX4_use_b68
  simp (disch := omega) only [mlet, mck_s, sI_nn]
  rw [h16, sI_1]
  rw [show mset A 16 i (sI (us + 1)) 13 i = sI (lf + 1) from by rw [mset_k (by decide)]; exact h13, sI_m1]
  rw [show mset (mset A 16 i (sI (us + 1))) 13 i (sI lf) 13 i = sI lf from mset_s]
  rw [show mset (mset A 16 i (sI (us + 1))) 13 i (sI lf) 17 i = sI dn from by rw [mset_k (by decide), mset_k (by decide)]; exact h17, sI_1]
  rw [show mset (mset (mset A 16 i (sI (us + 1))) 13 i (sI lf)) 17 i (sI (dn + 1)) 5 5 = A 5 5 from by rw [mset_k (by decide), mset_k (by decide), mset_k (by decide)]]
  by_cases hz : lf = 0
  · subst hz
    rw [if_pos rfl, if_pos (show sI 0 = 0 from rfl)]
  · rw [if_neg (by rw [sI_eql (by omega) (by decide)]; exact hz), if_neg hz]
/-! both sides' tasks -/
def RC (A M : mwM) (L : mwL) (T C tn cn U : Nat) : Prop :=
  T ≤ 12 ∧ C ≤ 6 ∧ tn < 100000000 ∧ cn < 100000000 ∧ A 5 3 = sI T ∧ M 787 1 = sI T ∧ M 787 7 = sI T ∧ M 787 0 = sI C ∧ A 5 4 = sI tn ∧ L 787 21 = sL tn ∧ M 787 29 = 0 ∧ M 787 35 = 0 ∧ (∀ r, 1 ≤ r → r ≤ 32 → M 806 r = 0) ∧ (∀ r, 1 ≤ r → r ≤ 16 → M 809 r = 0) ∧ M 787 39 = sI cn ∧ (∀ i, i < T → ∃ rk co pe mi nx st lf wa tu us dn, ti C tn U rk co pe mi nx st lf wa tu us dn ∧ tk A i rk co pe mi nx st lf wa tu us dn ∧ tm M L i rk co mi st lf wa tu us) ∧ ∀ c, c < 6 → ∃ w, A 18 c = oI w ∧ (∀ x, w = some x → x < T) ∧ ∀ i, i < T → ((A 8 i = sI c ∧ A 12 i = 2) ↔ w = some i)
theorem tk_f {A A' : mwM} {i rk co pe mi nx st lf wa tu us dn : Nat} (h : tk A i rk co pe mi nx st lf wa tu us dn) (hf : ∀ b, 7 ≤ b → b ≤ 17 → A' b i = A b i) : tk A' i rk co pe mi nx st lf wa tu us dn := by
  obtain ⟨h1, h2, h3, h4, h5, h6, h7, h8, h9, h10, h11⟩ := h
  exact ⟨(hf _ (by omega) (by omega)).trans h1, (hf _ (by omega) (by omega)).trans h2, (hf _ (by omega) (by omega)).trans h3, (hf _ (by omega) (by omega)).trans h4, (hf _ (by omega) (by omega)).trans h5, (hf _ (by omega) (by omega)).trans h6, (hf _ (by omega) (by omega)).trans h7, (hf _ (by omega) (by omega)).trans h8, (hf _ (by omega) (by omega)).trans h9, (hf _ (by omega) (by omega)).trans h10, (hf _ (by omega) (by omega)).trans h11⟩
theorem lfR_f {M M' : mwM} {L L' : mwL} {i mi lf : Nat} (h : lfR M L i mi lf) (h1 : M' 801 (i + 1) = M 801 (i + 1)) (h2 : M' 799 (i + 1) = M 799 (i + 1)) (h3 : L' 800 (i + 1) = L 800 (i + 1)) : lfR M' L' i mi lf := by
  unfold lfR at h ⊢
  rw [h1, h2, h3]
  exact h
theorem tm_f {M M' : mwM} {L L' : mwL} {i rk co mi st lf wa tu us : Nat} (h : tm M L i rk co mi st lf wa tu us) (hf : ∀ b, 788 ≤ b → b ≤ 810 → b ≠ 793 → b ≠ 794 → b ≠ 802 → b ≠ 803 → b ≠ 806 → b ≠ 808 → b ≠ 809 → M' b (i + 1) = M b (i + 1)) (h793 : M' 793 i = M 793 i) (h794 : M' 794 i = M 794 i) (h795 : L' 795 i = L 795 i) (hl : ∀ b, 797 ≤ b → b ≤ 805 → L' b (i + 1) = L b (i + 1)) : tm M' L' i rk co mi st lf wa tu us := by
  obtain ⟨h1, h2, h3, h4, h5, h6, h7, h8, h9, h10, h11, h12, h13⟩ := h
  refine ⟨?_, ?_, ?_, ?_, h793.trans h5, h794.trans h6, h795.trans h7, ?_, ?_, ?_, ?_, (hl _ (by omega) (by omega)).trans h12, fun hs => ⟨(hl _ (by omega) (by omega)).trans (h13 hs).1, lfR_f (h13 hs).2 ?_ ?_ (hl _ (by omega) (by omega))⟩⟩
  · exact (hf _ (by omega) (by omega) (by omega) (by omega) (by omega) (by omega) (by omega) (by omega) (by omega)).trans h1
  · exact (hf _ (by omega) (by omega) (by omega) (by omega) (by omega) (by omega) (by omega) (by omega) (by omega)).trans h2
  · exact (hf _ (by omega) (by omega) (by omega) (by omega) (by omega) (by omega) (by omega) (by omega) (by omega)).trans h3
  · exact (hf _ (by omega) (by omega) (by omega) (by omega) (by omega) (by omega) (by omega) (by omega) (by omega)).trans h4
  · exact (hf _ (by omega) (by omega) (by omega) (by omega) (by omega) (by omega) (by omega) (by omega) (by omega)).trans h8
  · exact (hf _ (by omega) (by omega) (by omega) (by omega) (by omega) (by omega) (by omega) (by omega) (by omega)).trans h9
  · exact (hf _ (by omega) (by omega) (by omega) (by omega) (by omega) (by omega) (by omega) (by omega) (by omega)).trans h10
  · exact (hf _ (by omega) (by omega) (by omega) (by omega) (by omega) (by omega) (by omega) (by omega) (by omega)).trans h11
  · exact hf _ (by omega) (by omega) (by omega) (by omega) (by omega) (by omega) (by omega) (by omega) (by omega)
  · exact hf _ (by omega) (by omega) (by omega) (by omega) (by omega) (by omega) (by omega) (by omega) (by omega)
/-- one task is activated, on the class's side -/
def act1 (A : mwM) (t j : Nat) : mwM :=
  if A 11 j = sI t then
    (if A 12 j = 0 then mset (mset (mset (mset (mset (mset A 11 j (A 11 j + A 9 j)) 5 6 0) 5 4 (A 5 4 + 1)) 12 j 1) 15 j (A 5 4 + 1)) 13 j (A 10 j + 1)
     else if A 14 j = 0 then mset (mset (mset A 11 j (A 11 j + A 9 j)) 5 6 0) 14 j 1 else mset (mset A 11 j (A 11 j + A 9 j)) 5 6 0)
  else A
def actN (A : mwM) (t : Nat) : Nat → mwM
  | 0 => A
  | j + 1 => act1 (actN A t j) t j
theorem act1_f {A : mwM} {t j b y : Nat} (h : ¬ (y = j ∧ (11 ≤ b ∧ b ≤ 15))) (h2 : ¬ (b = 5 ∧ (y = 4 ∨ y = 6))) : act1 A t j b y = A b y := by
  unfold act1
  split
  · split
    · rw [mset_n (by omega), mset_n (by omega), mset_n (by omega), mset_n (by omega), mset_n (by omega), mset_n (by omega)]
    · split
      · rw [mset_n (by omega), mset_n (by omega), mset_n (by omega)]
      · rw [mset_n (by omega), mset_n (by omega)]
  · rfl
theorem actN_f {A : mwM} {t b y : Nat} (h2 : ¬ (b = 5 ∧ (y = 4 ∨ y = 6))) : ∀ j, j ≤ y → actN A t j b y = A b y := by
  intro j
  induction j with
  | zero => intro _; rfl
  | succ j ih =>
    intro hj
    show act1 (actN A t j) t j b y = _
    rw [act1_f (by omega) h2, ih (by omega)]
theorem actN_g {A : mwM} {t b y : Nat} (h : ¬ (11 ≤ b ∧ b ≤ 15)) (h2 : ¬ (b = 5 ∧ (y = 4 ∨ y = 6))) : ∀ j, actN A t j b y = A b y := by
  intro j
  induction j with
  | zero => rfl
  | succ j ih =>
    show act1 (actN A t j) t j b y = _
    rw [act1_f (by omega) h2, ih]
theorem c_activate {fu : Nat} {A : mwM} {L : mwL} {T t : Nat} (hf : 13 ≤ fu) (hT : T ≤ 12) (h3 : A 5 3 = sI T) (hwa : ∀ j, j < T → A 14 j = 0 ∨ A 14 j = 1) : DX4_activateAll fu (sI t) A L = some (actN A t T, L) := by
  unfold DX4_activateAll
  have h := wq_for (body := fun r s => fX4_activateAll_i2 fu (sI t) r s.1 s.2.1 s.2.2) (Q := fun q => q = (actN A t T, L)) (fun j (_ : Unit) => (sI j, actN A t j, L)) (fun _ _ => True) T ?_ ?_ T 0 () fu (by omega) (by omega) trivial
  · obtain ⟨q, e, rfl⟩ := h
    exact e
  · intro j _ r hj _ ih
    show wq (fX4_activateAll_i2 fu (sI t) r (sI j) (actN A t j) L) _
    have hn := ih () trivial
    have e14 : actN A t j 14 j = A 14 j := actN_f (by omega) j (Nat.le_refl _)
    have hw := hwa j hj
    rw [← e14] at hw
    have h3' : actN A t j 5 3 = sI T := by rw [actN_g (by omega) (by omega)]; exact h3
    unfold fX4_activateAll_i2 fX4_activateAll_b93
    change wq (r (sI (j + 1), act1 (actN A t j) t j, L)) _ at hn
    generalize actN A t j = B at *
    rw [h3', if_neg (by rw [sI_le (by omega) (by omega)]; omega), mck_s (by omega) (by omega), sI_nn (by omega)]
    unfold act1 at hn
    by_cases h11 : B 11 j = sI t
    · rw [if_pos h11] at hn ⊢
      simp (disch := omega) only [mlet, mck_s, sI_nn]
      rw [sI_1]
      rw [show mset (mset B 11 j (B 11 j + B 9 j)) 5 6 0 12 j = B 12 j from by rw [mset_k (by decide), mset_k (by decide)]]
      rw [show mset (mset B 11 j (B 11 j + B 9 j)) 5 6 0 14 j = B 14 j from by rw [mset_k (by decide), mset_k (by decide)]]
      by_cases h12 : B 12 j = 0
      · rw [if_pos h12] at hn ⊢
        have hr : DX4_makeReady fu (sI j) (mset (mset B 11 j (B 11 j + B 9 j)) 5 6 0) L = some (mset (mset (mset (mset (mset (mset B 11 j (B 11 j + B 9 j)) 5 6 0) 5 4 (B 5 4 + 1)) 12 j 1) 15 j (B 5 4 + 1)) 13 j (B 10 j + 1), L) := by
          unfold DX4_makeReady
          simp (disch := omega) only [mlet, mck_s, sI_nn]
          rw [show mset (mset B 11 j (B 11 j + B 9 j)) 5 6 0 5 4 = B 5 4 from by rw [mset_j (by decide), mset_k (by decide)]]
          rw [show mset (mset (mset (mset B 11 j (B 11 j + B 9 j)) 5 6 0) 5 4 (B 5 4 + 1)) 12 j 1 5 4 = B 5 4 + 1 from by rw [mset_k (by decide), mset_s]]
          rw [show mset (mset (mset (mset (mset B 11 j (B 11 j + B 9 j)) 5 6 0) 5 4 (B 5 4 + 1)) 12 j 1) 15 j (B 5 4 + 1) 10 j = B 10 j from by rw [mset_k (by decide), mset_k (by decide), mset_k (by decide), mset_k (by decide), mset_k (by decide)]]
        rw [hr, mb2_s]
        exact hn
      · rw [if_neg h12] at hn ⊢
        rcases hw with h14 | h14
        · rw [h14, if_pos rfl] at hn
          rw [h14, if_neg (by decide)]
          exact hn
        · rw [h14, if_neg (by decide)] at hn
          rw [h14, if_pos (by decide)]
          exact hn
    · rw [if_neg h11] at hn ⊢
      simp only [mlet]
      rw [sI_1]
      exact hn
  · intro _ r _
    show wq (fX4_activateAll_i2 fu (sI t) r (sI T) (actN A t T) L) _
    unfold fX4_activateAll_i2
    rw [actN_g (by omega) (by omega), h3, if_pos (by rw [sI_le (by omega) (by omega)]; omega)]
    exact wq_some rfl
abbrev frM (i : Nat) (M M' : mwM) : Prop := ∀ b y, ¬ (y = i + 1 ∧ (b = 796 ∨ b = 798 ∨ b = 799 ∨ b = 801 ∨ b = 802 ∨ b = 804)) → ¬ (b = 787 ∧ y = 39) → b ≠ 817 → b ≠ 818 → M' b y = M b y
abbrev frL (i : Nat) (L L' : mwL) : Prop := ∀ b y, ¬ (y = i + 1 ∧ (b = 797 ∨ b = 800)) → ¬ (b = 787 ∧ y = 21) → b ≠ 819 → L' b y = L b y
/-- RC again, one task's numbers having changed -/
theorem RC_one {A A' M M' : mwM} {L L' : mwL} {T C tn cn U tn' cn' i : Nat} (h : RC A M L T C tn cn U) (hi : i < T) (htn : tn ≤ tn') (htn2 : tn' < 100000000) (hcn2 : cn' < 100000000) (hA4 : A' 5 4 = sI tn') (hA3 : A' 5 3 = A 5 3) (hA : ∀ b y, 7 ≤ b → b ≤ 17 → y ≠ i → A' b y = A b y) (h21 : L' 787 21 = sL tn') (h39 : M' 787 39 = sI cn') (hM : frM i M M') (hL : frL i L L') (hone : ∃ rk co pe mi nx st lf wa tu us dn, ti C tn' U rk co pe mi nx st lf wa tu us dn ∧ tk A' i rk co pe mi nx st lf wa tu us dn ∧ tm M' L' i rk co mi st lf wa tu us) (hch : ∀ c, c < 6 → ∃ w, A' 18 c = oI w ∧ (∀ x, w = some x → x < T) ∧ ∀ i, i < T → ((A' 8 i = sI c ∧ A' 12 i = 2) ↔ w = some i)) : RC A' M' L' T C tn' cn' U := by
  obtain ⟨h1, h2, h3, h4, h5, h6, h7, h8, h9, h10, h11, h12, h13, h14, h15, h16, h17⟩ := h
  refine ⟨h1, h2, htn2, hcn2, hA3.trans h5, (hM _ _ (by omega) (by omega) (by omega) (by omega)).trans h6, (hM _ _ (by omega) (by omega) (by omega) (by omega)).trans h7, (hM _ _ (by omega) (by omega) (by omega) (by omega)).trans h8, hA4, h21, (hM _ _ (by omega) (by omega) (by omega) (by omega)).trans h11, (hM _ _ (by omega) (by omega) (by omega) (by omega)).trans h12, fun r q1 q2 => (hM _ _ (by omega) (by omega) (by omega) (by omega)).trans (h13 r q1 q2), fun r q1 q2 => (hM _ _ (by omega) (by omega) (by omega) (by omega)).trans (h14 r q1 q2), h39, ?_, hch⟩
  intro x hx
  by_cases hxi : x = i
  · subst hxi; exact hone
  · obtain ⟨rk, co, pe, mi, nx, st, lf, wa, tu, us, dn, q1, q2, q3⟩ := h16 x hx
    refine ⟨rk, co, pe, mi, nx, st, lf, wa, tu, us, dn, ?_, tk_f q2 (fun b h1 h2 => hA b x h1 h2 hxi), tm_f q3 (fun b _ _ _ _ _ _ _ _ _ => hM _ _ (by omega) (by omega) (by omega) (by omega)) (hM _ _ (by omega) (by omega) (by omega) (by omega)) (hM _ _ (by omega) (by omega) (by omega) (by omega)) (hL _ _ (by omega) (by omega) (by omega)) (fun b _ _ => hL _ _ (by omega) (by omega) (by omega))⟩
    obtain ⟨w1, w2, w3, w4, w5, w6, w7, w8, w9, w10, w11, w12⟩ := q1
    exact ⟨w1, w2, w3, w4, w5, w6, w7, w8, w9, w10, by omega, w12⟩
theorem st_act1 {fu : Nat} {A M : mwM} {L : mwL} {T C tn cn U t j : Nat} (h : RC A M L T C tn cn U) (hj : j < T) (ht : t < 20000) (htn : tn + 1 < 100000000) (hcn : cn + 1 < 100000000) (h11 : A 11 j = sI t) : ∃ M' L' tn' cn', DX15_begin fu (sI (j + 1)) M L = some (M', L') ∧ tn ≤ tn' ∧ tn' ≤ tn + 1 ∧ cn' ≤ cn + 1 ∧ RC (act1 A t j) M' L' T C tn' cn' U ∧ frM j M M' ∧ frL j L L' := by
  have h0 := h
  obtain ⟨hT, hC, _, _, a3, _, _, _, a4, l21, _, _, _, _, m39, ht1, hch⟩ := h0
  obtain ⟨rk, co, pe, mi, nx, st, lf, wa, tu, us, dn, q1, q2, q3⟩ := ht1 j hj
  obtain ⟨w1, w2, w3, w4, w5, w6, w7, w8, w9, w10, w11, w12, w13, w14, w15, w16⟩ := q1
  have q2' := q2
  obtain ⟨k1, k2, k3, k4, k5, k6, k7, k8, k9, k10, k11⟩ := q2'
  have q3' := q3
  obtain ⟨m1, m2, m3, m4, m5, m6, m7, m8, m9, m10, m11, m12, m13⟩ := q3'
  have enx : nx = t := by
    rw [k5] at h11
    exact (sI_eq (by omega) (by omega)).mp h11
  have e11 : A 11 j + A 9 j = sI (nx + pe) := by rw [k5, k3, sI_add]
  have hwj : ∀ c, c < 6 → ∀ w, (∀ i, i < T → ((A 8 i = sI c ∧ A 12 i = 2) ↔ w = some i)) → st ≠ 2 → w ≠ some j := by
    intro c hc w hw hs q
    have := ((hw j hj).mpr q).2
    rw [k6] at this
    have : st = 2 := (sI_eq (a := st) (b := 2) (by omega) (by omega)).mp this
    exact hs this
  by_cases hst : st = 0
  · subst hst
    obtain ⟨hlf, hwa⟩ := w14 rfl
    subst hlf hwa
    have hus := w15 rfl
    refine ⟨_, _, tn + 1, cn, m_begin0 (by omega) m8 l21, by omega, by omega, by omega, ?_, ?_, ?_⟩
    · have eA : act1 A t j = mset (mset (mset (mset (mset (mset A 11 j (sI (nx + pe))) 5 6 0) 5 4 (sI (tn + 1))) 12 j 1) 15 j (sI (tn + 1))) 13 j (sI (mi + 1)) := by
        unfold act1
        rw [if_pos h11, if_pos (by rw [k6]; rfl), e11, a4, k4, sI_1, sI_1]
      rw [eA]
      refine RC_one h hj (by omega) htn (by omega) ?_ ?_ ?_ ?_ ?_ ?_ ?_ ⟨rk, co, pe, mi, nx + pe, 1, mi + 1, 0, tn + 1, us, dn, ?_, ?_, ?_⟩ ?_
      · simp [mset]
      · simp [mset]
      · intro b y h1 h2 h3
        rw [mset_n (by omega), mset_n (by omega), mset_n (by omega), mset_n (by omega), mset_n (by omega), mset_n (by omega)]
      · simp [mset]
      · rw [mset_k (by decide), mset_k (by decide), mset_k (by decide), mset_k (by decide)]; exact m39
      · intro b y h1 h2 h3 h4
        rw [mset_n (by omega), mset_n (by omega), mset_n (by omega), mset_n (by omega)]
      · intro b y h1 h2 h3
        rw [mset_n (by omega), mset_n (by omega), mset_n (by omega)]
      · refine ⟨w1, w2, w3, w4, w5, w6, by omega, by omega, by omega, by omega, by omega, w12, w13, fun h => by omega, fun h => by omega, fun _ => ?_⟩
        rw [Nat.add_mul]
        omega
      · refine ⟨?_, ?_, ?_, ?_, ?_, ?_, ?_, ?_, ?_, ?_, ?_⟩ <;> simp [mset, *]
        all_goals rfl
      · refine ⟨?_, ?_, ?_, ?_, ?_, ?_, ?_, ?_, ?_, ?_, ?_, ?_, fun _ => ⟨?_, Or.inl ⟨?_, ?_, rfl⟩⟩⟩
        · rw [mset_k (by decide), mset_k (by decide), mset_k (by decide), mset_k (by decide)]; exact m1
        · rw [mset_k (by decide), mset_k (by decide), mset_k (by decide), mset_k (by decide)]; exact m2
        · rw [mset_k (by decide), mset_k (by decide), mset_k (by decide), mset_k (by decide)]; exact m3
        · rw [mset_k (by decide), mset_k (by decide), mset_k (by decide), mset_k (by decide)]; exact m4
        · rw [mset_k (by decide), mset_k (by decide), mset_k (by decide), mset_k (by decide)]; exact m5
        · rw [mset_k (by decide), mset_k (by decide), mset_k (by decide), mset_k (by decide)]; exact m6
        · rw [mset_k (by decide), mset_k (by decide), mset_k (by decide)]; exact m7
        · rw [mset_k (by decide), mset_k (by decide), mset_k (by decide), mset_s]; rfl
        · rw [mset_k (by decide), mset_k (by decide), mset_k (by decide), mset_k (by decide)]; exact m9
        · rw [mset_k (by decide), mset_k (by decide), mset_k (by decide), mset_k (by decide)]; exact m10
        · rw [mset_k (by decide), mset_k (by decide), mset_k (by decide), mset_k (by decide)]; exact m11
        · rw [mset_k (by decide), mset_k (by decide), mset_k (by decide)]; exact m12
        · rw [mset_k (by decide), mset_s]
        · rw [mset_s]; exact bo_1
        · rw [mset_k (by decide), mset_s]
      · intro c hc
        obtain ⟨w, v1, v2, v3⟩ := hch c hc
        refine ⟨w, ?_, v2, ?_⟩
        · rw [mset_k (by decide), mset_k (by decide), mset_k (by decide), mset_k (by decide), mset_k (by decide), mset_k (by decide)]; exact v1
        · intro i hi
          by_cases hij : i = j
          · subst hij
            have hn := hwj c hc w v3 (by omega)
            constructor
            · intro q
              have q2 := q.2
              rw [mset_k (by decide), mset_k (by decide), mset_s] at q2
              exact absurd q2 (by decide)
            · intro q; exact absurd q hn
          · rw [← v3 i hi]
            rw [mset_n (by omega), mset_n (by omega), mset_n (by omega), mset_n (by omega), mset_n (by omega), mset_n (by omega), mset_n (by omega), mset_n (by omega), mset_n (by omega), mset_n (by omega), mset_n (by omega), mset_n (by omega)]
    · intro b y h1 h2 h3 h4
      rw [mset_n (by omega), mset_n (by omega), mset_n (by omega), mset_n (by omega)]
    · intro b y h1 h2 h3
      rw [mset_n (by omega), mset_n (by omega), mset_n (by omega)]
  · obtain ⟨⟨M', L'⟩, hb, b1, ⟨cn', b2, b3⟩, b4, b5⟩ := m_begin1 (fu := fu) (L := L) (i := j) (by omega) m8 (by omega) w8 m9 w10 m3 m39 (by omega)
    dsimp only at b1 b2 b4 b5
    have fM : frM j M M' := fun b y h1 h2 h3 h4 => b4 b y (by omega) h2 h3 h4
    have fL : frL j L L' := fun b y h1 h2 h3 => b5 b y h3
    refine ⟨M', L', tn, cn', hb, Nat.le_refl _, by omega, b3, ?_, fM, fL⟩
    have eA : ∀ b y, act1 A t j b y = if b = 11 ∧ y = j then sI (nx + pe) else if b = 5 ∧ y = 6 then 0 else if b = 14 ∧ y = j then 1 else A b y := by
      intro b y
      unfold act1
      rw [if_pos h11, if_neg (by rw [k6, sI_eql (by omega) (by decide)]; exact hst), e11, k8]
      have hw01 : wa = 0 ∨ wa = 1 := by omega
      rcases hw01 with hw0 | hw0
      · rw [hw0, if_pos (show sI 0 = 0 from rfl)]
        simp only [mset]
        by_cases c1 : b = 11 ∧ y = j
        · rw [if_pos c1, if_neg (by omega), if_neg (by omega), if_pos c1]
        · rw [if_neg c1]
          by_cases c2 : b = 5 ∧ y = 6
          · rw [if_pos c2, if_neg (by omega), if_pos c2, if_neg c1]
          · rw [if_neg c2]
            by_cases c3 : b = 14 ∧ y = j
            · simp only [if_pos c3, if_neg c2, if_neg c1]
            · simp only [if_neg c3, if_neg c2, if_neg c1]
      · rw [hw0, if_neg (by decide)]
        simp only [mset]
        by_cases c1 : b = 11 ∧ y = j
        · rw [if_pos c1, if_neg (by omega), if_pos c1]
        · rw [if_neg c1]
          by_cases c2 : b = 5 ∧ y = 6
          · rw [if_pos c2, if_pos c2, if_neg c1]
          · rw [if_neg c2]
            by_cases c3 : b = 14 ∧ y = j
            · rw [if_pos c3, if_neg c2, if_neg c1, c3.1, c3.2, k8, hw0]; rfl
            · rw [if_neg c3, if_neg c2, if_neg c1]
    have eo : ∀ b y, ¬ (b = 11 ∧ y = j) → ¬ (b = 5 ∧ y = 6) → ¬ (b = 14 ∧ y = j) → act1 A t j b y = A b y := by
      intro b y h1 h2 h3
      rw [eA, if_neg h1, if_neg h2, if_neg h3]
    refine RC_one h hj (Nat.le_refl _) (by omega) (by omega) ?_ (eo _ _ (by omega) (by omega) (by omega)) (fun b y _ _ hy => eo b y (by omega) (by omega) (by omega)) ?_ b2 fM fL ⟨rk, co, pe, mi, nx + pe, st, lf, 1, tu, us, dn, ?_, ?_, ?_⟩ ?_
    · rw [eo _ _ (by omega) (by omega) (by omega)]; exact a4
    · rw [b5 _ _ (by decide)]; exact l21
    · exact ⟨w1, w2, w3, w4, w5, w6, by omega, w8, w9, by omega, w11, w12, w13, fun h => absurd h hst, w15, w16⟩
    · refine ⟨?_, ?_, ?_, ?_, ?_, ?_, ?_, ?_, ?_, ?_, ?_⟩
      · rw [eo _ _ (by omega) (by omega) (by omega)]; exact k1
      · rw [eo _ _ (by omega) (by omega) (by omega)]; exact k2
      · rw [eo _ _ (by omega) (by omega) (by omega)]; exact k3
      · rw [eo _ _ (by omega) (by omega) (by omega)]; exact k4
      · rw [eA, if_pos ⟨rfl, rfl⟩]
      · rw [eo _ _ (by omega) (by omega) (by omega)]; exact k6
      · rw [eo _ _ (by omega) (by omega) (by omega)]; exact k7
      · rw [eA, if_neg (by omega), if_neg (by omega), if_pos ⟨rfl, rfl⟩]; rfl
      · rw [eo _ _ (by omega) (by omega) (by omega)]; exact k9
      · rw [eo _ _ (by omega) (by omega) (by omega)]; exact k10
      · rw [eo _ _ (by omega) (by omega) (by omega)]; exact k11
    · refine ⟨?_, ?_, ?_, ?_, ?_, ?_, ?_, ?_, b1, ?_, ?_, ?_, fun hs => ⟨?_, lfR_f (m13 hs).2 ?_ ?_ ?_⟩⟩
      · rw [b4 _ _ (by omega) (by omega) (by omega) (by omega)]; exact m1
      · rw [b4 _ _ (by omega) (by omega) (by omega) (by omega)]; exact m2
      · rw [b4 _ _ (by omega) (by omega) (by omega) (by omega)]; exact m3
      · rw [b4 _ _ (by omega) (by omega) (by omega) (by omega)]; exact m4
      · rw [b4 _ _ (by omega) (by omega) (by omega) (by omega)]; exact m5
      · rw [b4 _ _ (by omega) (by omega) (by omega) (by omega)]; exact m6
      · rw [b5 _ _ (by decide)]; exact m7
      · rw [b4 _ _ (by omega) (by omega) (by omega) (by omega)]; exact m8
      · rw [b4 _ _ (by omega) (by omega) (by omega) (by omega)]; exact m10
      · rw [b4 _ _ (by omega) (by omega) (by omega) (by omega)]; exact m11
      · rw [b5 _ _ (by decide)]; exact m12
      · rw [b5 _ _ (by decide)]; exact (m13 hs).1
      · exact b4 _ _ (by omega) (by omega) (by omega) (by omega)
      · exact b4 _ _ (by omega) (by omega) (by omega) (by omega)
      · exact b5 _ _ (by decide)
    · intro c hc
      obtain ⟨w, v1, v2, v3⟩ := hch c hc
      refine ⟨w, by rw [eo _ _ (by omega) (by omega) (by omega)]; exact v1, v2, ?_⟩
      intro i hi
      rw [eo _ _ (by omega) (by omega) (by omega), eo _ _ (by omega) (by omega) (by omega)]
      exact v3 i hi
/-! choosing, on both sides -/
theorem chA_f {A : mwM} {c : Nat} {w b : Option Nat} {a y : Nat} (h1 : a ≠ 12) (h2 : ¬ (a = 18 ∧ y = c)) : chA A c w b a y = A a y := by
  unfold chA
  cases w <;> cases b <;> simp only [] <;> rw [mset_n h2] <;> simp [mset, h1]
theorem chA_18 {A : mwM} {c : Nat} {w b : Option Nat} : chA A c w b 18 c = oI b := by
  unfold chA
  exact mset_s
theorem chA_12 {A : mwM} {c : Nat} {w b : Option Nat} (y : Nat) : chA A c w b 12 y = if b = some y then 2 else if w = some y then 1 else A 12 y := by
  unfold chA
  cases w with
  | none =>
    cases b with
    | none => simp [mset]
    | some x =>
      simp only []
      rw [mset_k (by decide)]
      by_cases h : x = y
      · subst h; simp [mset]
      · have h' : ¬ y = x := fun q => h q.symm
        simp [mset, h, h']
  | some z =>
    cases b with
    | none =>
      simp only []
      rw [mset_k (by decide)]
      by_cases h : z = y
      · subst h; simp [mset]
      · have h' : ¬ y = z := fun q => h q.symm
        simp [mset, h, h']
    | some x =>
      simp only []
      rw [mset_k (by decide)]
      by_cases h : x = y
      · subst h; simp [mset]
      · have h' : ¬ y = x := fun q => h q.symm
        by_cases h2 : z = y
        · subst h2; simp [mset, h, h']
        · have h2' : ¬ y = z := fun q => h2 q.symm
          simp [mset, h, h', h2, h2']
theorem chM_f {M : mwM} {w b : Option Nat} {a y : Nat} (h1 : a ≠ 796) (h2 : a ≠ 804) : chM M w b a y = M a y := by
  unfold chM
  cases w <;> cases b <;> simp [mset, h1, h2]
theorem chM_804 {M : mwM} {w b : Option Nat} {y : Nat} (h : M 804 y = 0) : chM M w b 804 y = 0 := by
  unfold chM
  cases w with
  | none => cases b <;> simp [mset, h]
  | some x =>
    have hb : vp_nar .boolean 0 = (0 : Int32) := bo_0
    cases b <;> simp [mset, h, hb]
theorem chM_796 {M : mwM} {w b : Option Nat} (y : Nat) : chM M w b 796 (y + 1) = if b = some y then 2 else if w = some y then 1 else M 796 (y + 1) := by
  unfold chM
  cases w with
  | none =>
    cases b with
    | none => simp
    | some x =>
      by_cases h : x = y
      · subst h; simp [mset]
      · have h' : ¬ y = x := fun q => h q.symm
        simp [mset, h, h']
  | some z =>
    cases b with
    | none =>
      by_cases h : z = y
      · subst h; simp [mset]
      · have h' : ¬ y = z := fun q => h q.symm
        simp [mset, h, h']
    | some x =>
      by_cases h : x = y
      · subst h; simp [mset]
      · have h' : ¬ y = x := fun q => h q.symm
        by_cases h2 : z = y
        · subst h2; simp [mset, h, h']
        · have h2' : ¬ y = z := fun q => h2 q.symm
          simp [mset, h, h', h2, h2']
theorem RC_ok {A M : mwM} {L : mwL} {T C tn cn U : Nat} (h : RC A M L T C tn cn U) : okCh A M L T := by
  obtain ⟨hT, hC, htn, _, a3, m1, _, _, a4, l21, _, _, hh, _, m39, ht1, hch⟩ := h
  refine ⟨m1, hh, ?_⟩
  intro i hi
  obtain ⟨rk, co, pe, mi, nx, st, lf, wa, tu, us, dn, q1, q2, q3⟩ := ht1 i hi
  obtain ⟨w1, w2, w3, w4, w5, w6, w7, w8, w9, w10, w11, w12⟩ := q1
  refine ⟨?_, ?_, ?_, q3.2.2.2.1, ?_, rk, w1, q2.1⟩
  · rw [q3.1, q2.1]
  · rw [q3.2.1, q2.2.1]
  · rw [q3.2.2.2.2.2.2.2.1, q2.2.2.2.2.2.1]
  · intro hs
    have hst : st ≠ 0 := by
      intro q
      apply hs
      rw [q2.2.2.2.2.2.1, q]
      rfl
    rw [(q3.2.2.2.2.2.2.2.2.2.2.2.2 hst).1, q2.2.2.2.2.2.2.2.2.1, sI_L (by omega)]
theorem st_choose {fu : Nat} {A M : mwM} {L Lc : mwL} {T C tn cn U c : Nat} (hf : 33 ≤ fu) (h : RC A M L T C tn cn U) (hc : c < 6) : ∃ w b, A 18 c = oI w ∧ (∀ x, w = some x → x < T) ∧ (∀ i, i < T → ((A 8 i = sI c ∧ A 12 i = 2) ↔ w = some i)) ∧ b = bsN A c w T ∧ (∀ x, b = some x → x < T ∧ A 8 x = sI c) ∧ DX4_choose fu (sI c) A Lc = some (chA A c w b, Lc) ∧ DX15_choose fu (sI c) M L = some (oM b, chM M w b, L) ∧ RC (chA A c w b) (chM M w b) L T C tn cn U := by
  have h0 := h
  obtain ⟨hT, hC, htn, hcn, a3, m1, m7, m0, a4, l21, m29, m35, hh, hg, m39, ht1, hch⟩ := h0
  obtain ⟨w, v1, v2, v3⟩ := hch c hc
  have hb := bsN_lt (A := A) (c := c) v2 T (Nat.le_refl _)
  have hbc : ∀ x, bsN A c w T = some x → x < T ∧ A 8 x = sI c := by
    intro x hx
    refine ⟨hb x hx, ?_⟩
    rcases bsN_st T x hx with hw | ⟨_, hq⟩
    · exact ((v3 x (v2 x hw)).mpr hw).1
    · exact hq
  refine ⟨w, bsN A c w T, v1, v2, v3, rfl, hbc, c_choose (by omega) hc hT a3 v1 v2, m_choose hf hT (RC_ok h) v3 v2, ?_⟩
  generalize hbe : bsN A c w T = b at hbc
  refine ⟨hT, hC, htn, hcn, ?_, ?_, ?_, ?_, ?_, l21, ?_, ?_, ?_, ?_, ?_, ?_, ?_⟩
  · rw [chA_f (by decide) (by omega)]; exact a3
  · rw [chM_f (by decide) (by decide)]; exact m1
  · rw [chM_f (by decide) (by decide)]; exact m7
  · rw [chM_f (by decide) (by decide)]; exact m0
  · rw [chA_f (by decide) (by omega)]; exact a4
  · rw [chM_f (by decide) (by decide)]; exact m29
  · rw [chM_f (by decide) (by decide)]; exact m35
  · intro r q1 q2
    rw [chM_f (by decide) (by decide)]; exact hh r q1 q2
  · intro r q1 q2
    rw [chM_f (by decide) (by decide)]; exact hg r q1 q2
  · rw [chM_f (by decide) (by decide)]; exact m39
  · intro i hi
    obtain ⟨rk, co, pe, mi, nx, st, lf, wa, tu, us, dn, q1, q2, q3⟩ := ht1 i hi
    obtain ⟨w1, w2, w3, w4, w5, w6, w7, w8, w9, w10, w11, w12, w13, w14, w15, w16⟩ := q1
    obtain ⟨k1, k2, k3, k4, k5, k6, k7, k8, k9, k10, k11⟩ := q2
    obtain ⟨n1, n2, n3, n4, n5, n6, n7, n8, n9, n10, n11, n12, n13⟩ := q3
    -- the task's new state
    have hs : ∃ st', st' < 3 ∧ (st' = 0 → st = 0) ∧ (st' ≠ 0 → st ≠ 0) ∧ chA A c w b 12 i = sI st' ∧ chM M w b 796 (i + 1) = sI st' := by
      rw [chA_12, chM_796]
      by_cases e1 : b = some i
      · rw [if_pos e1, if_pos e1]
        refine ⟨2, by omega, fun h => by omega, fun _ => ?_, rfl, rfl⟩
        rcases bsN_st T i (by rw [hbe]; exact e1) with hw | ⟨hq, _⟩
        · have := ((v3 i hi).mpr hw).2
          intro q
          rw [k6, q] at this
          exact absurd this (by decide)
        · intro q
          rw [k6, q] at hq
          exact absurd hq (by decide)
      · rw [if_neg e1, if_neg e1]
        by_cases e2 : w = some i
        · rw [if_pos e2, if_pos e2]
          refine ⟨1, by omega, fun h => by omega, fun _ => ?_, rfl, rfl⟩
          have := ((v3 i hi).mpr e2).2
          intro q
          rw [k6, q] at this
          exact absurd this (by decide)
        · rw [if_neg e2, if_neg e2]
          exact ⟨st, w8, fun h => h, fun h => h, k6, n8⟩
    obtain ⟨st', s1, s2, s3, s4, s5⟩ := hs
    refine ⟨rk, co, pe, mi, nx, st', lf, wa, tu, us, dn, ⟨w1, w2, w3, w4, w5, w6, w7, s1, w9, w10, w11, w12, w13, fun q => w14 (s2 q), w15, w16⟩, ⟨?_, ?_, ?_, ?_, ?_, s4, ?_, ?_, ?_, ?_, ?_⟩, ⟨?_, ?_, ?_, ?_, ?_, ?_, n7, s5, ?_, chM_804 n10, ?_, n12, fun q => ⟨(n13 (s3 q)).1, lfR_f (n13 (s3 q)).2 (chM_f (by decide) (by decide)) (chM_f (by decide) (by decide)) rfl⟩⟩⟩
    · rw [chA_f (by decide) (by omega)]; exact k1
    · rw [chA_f (by decide) (by omega)]; exact k2
    · rw [chA_f (by decide) (by omega)]; exact k3
    · rw [chA_f (by decide) (by omega)]; exact k4
    · rw [chA_f (by decide) (by omega)]; exact k5
    · rw [chA_f (by decide) (by omega)]; exact k7
    · rw [chA_f (by decide) (by omega)]; exact k8
    · rw [chA_f (by decide) (by omega)]; exact k9
    · rw [chA_f (by decide) (by omega)]; exact k10
    · rw [chA_f (by decide) (by omega)]; exact k11
    · rw [chM_f (by decide) (by decide)]; exact n1
    · rw [chM_f (by decide) (by decide)]; exact n2
    · rw [chM_f (by decide) (by decide)]; exact n3
    · rw [chM_f (by decide) (by decide)]; exact n4
    · rw [chM_f (by decide) (by decide)]; exact n5
    · rw [chM_f (by decide) (by decide)]; exact n6
    · rw [chM_f (by decide) (by decide)]; exact n9
    · rw [chM_f (by decide) (by decide)]; exact n11
  · intro c' hc'
    by_cases hcc : c' = c
    · subst hcc
      refine ⟨b, chA_18, fun x hx => (hbc x hx).1, ?_⟩
      intro i hi
      rw [chA_f (by decide) (by omega), chA_12]
      by_cases e1 : b = some i
      · rw [if_pos e1]
        exact ⟨fun _ => e1, fun _ => ⟨(hbc i e1).2, rfl⟩⟩
      · rw [if_neg e1]
        by_cases e2 : w = some i
        · rw [if_pos e2]
          exact ⟨fun q => absurd q.2 (by decide), fun q => absurd q e1⟩
        · rw [if_neg e2]
          exact ⟨fun q => absurd ((v3 i hi).mp q) e2, fun q => absurd q e1⟩
    · obtain ⟨w', u1, u2, u3⟩ := hch c' hc'
      refine ⟨w', by rw [chA_f (by decide) (by omega)]; exact u1, u2, ?_⟩
      intro i hi
      rw [chA_f (by decide) (by omega), chA_12]
      have hne : ∀ x, A 8 x = sI c → ¬ A 8 x = sI c' := by
        intro x q1 q2
        rw [q1] at q2
        have := (sI_eq (by omega) (by omega)).mp q2
        omega
      by_cases e1 : b = some i
      · have h8 := (hbc i e1).2
        rw [if_pos e1]
        exact ⟨fun q => absurd q.1 (hne i h8), fun q => absurd ((u3 i hi).mpr q).1 (hne i h8)⟩
      · rw [if_neg e1]
        by_cases e2 : w = some i
        · have h8 := ((v3 i hi).mpr e2).1
          rw [if_pos e2]
          exact ⟨fun q => absurd q.1 (hne i h8), fun q => absurd ((u3 i hi).mpr q).1 (hne i h8)⟩
        · rw [if_neg e2]
          exact u3 i hi
/-! who is chosen stays so, if nothing happens -/
theorem bsN_max {A : mwM} {c : Nat} {w : Option Nat} : ∀ j, (∀ x, w = some x → ∃ b, bsN A c w j = some b ∧ A 7 x ≤ A 7 b) ∧ (∀ x, x < j → A 8 x = sI c → A 12 x = 1 → ∃ b, bsN A c w j = some b ∧ A 7 x ≤ A 7 b) := by
  intro j
  induction j with
  | zero => exact ⟨fun x hx => ⟨x, hx, Int32.le_refl _⟩, fun x hx => by omega⟩
  | succ j ih =>
    obtain ⟨ih1, ih2⟩ := ih
    -- a best one only gives way to one that isn't lower
    have up : ∀ b, bsN A c w j = some b → ∃ b', bsN A c w (j + 1) = some b' ∧ A 7 b ≤ A 7 b' := by
      intro b hb
      unfold bsN
      rw [hb]
      simp only []
      by_cases hq : A 8 j = sI c ∧ A 12 j = 1 ∧ befB A j b = true
      · rw [if_pos hq]
        refine ⟨j, rfl, ?_⟩
        have hbe := hq.2.2
        unfold befB at hbe
        split at hbe
        · rename_i he
          rw [he]
          exact Int32.le_refl _
        · have := of_decide_eq_true hbe
          exact Int32.le_of_lt this
      · rw [if_neg hq]
        exact ⟨b, rfl, Int32.le_refl _⟩
    constructor
    · intro x hx
      obtain ⟨b, hb, hle⟩ := ih1 x hx
      obtain ⟨b', hb', hle'⟩ := up b hb
      exact ⟨b', hb', Int32.le_trans hle hle'⟩
    · intro x hx h8 h12
      by_cases hxj : x = j
      · subst hxj
        cases hb : bsN A c w x with
        | none =>
          refine ⟨x, ?_, Int32.le_refl _⟩
          unfold bsN
          rw [hb]
          simp only []
          rw [if_pos ⟨h8, h12⟩]
        | some b =>
          by_cases hbe : befB A x b = true
          · refine ⟨x, ?_, Int32.le_refl _⟩
            unfold bsN
            rw [hb]
            simp only []
            rw [if_pos ⟨h8, h12, hbe⟩]
          · refine ⟨b, ?_, ?_⟩
            · unfold bsN
              rw [hb]
              simp only []
              rw [if_neg (fun q => hbe q.2.2)]
            · unfold befB at hbe
              split at hbe
              · rename_i he
                rw [he]
                exact Int32.le_refl _
              · have : ¬ A 7 b < A 7 x := fun q => hbe (by simpa using q)
                exact Int32.not_lt.mp this
      · obtain ⟨b, hb, hle⟩ := ih2 x (by omega) h8 h12
        obtain ⟨b', hb', hle'⟩ := up b hb
        exact ⟨b', hb', Int32.le_trans hle hle'⟩
/-- nothing is to be chosen anew on a core -/
def stl (A : mwM) (c T : Nat) (b : Option Nat) : Prop := A 18 c = oI b ∧ ∀ x, x < T → A 8 x = sI c → A 12 x = 1 → ∃ y, b = some y ∧ A 12 y = 2 ∧ A 7 x ≤ A 7 y
theorem stl_bsN {A : mwM} {c T : Nat} {b : Option Nat} (h : stl A c T b) : ∀ j, j ≤ T → bsN A c b j = b := by
  intro j
  induction j with
  | zero => intro _; rfl
  | succ j ih =>
    intro hj
    have e := ih (by omega)
    unfold bsN
    rw [e]
    cases hb : b with
    | none =>
      simp only []
      rw [if_neg]
      rintro ⟨h8, h12⟩
      obtain ⟨y, hy, _⟩ := h.2 j (by omega) h8 h12
      rw [hb] at hy
      cases hy
    | some x =>
      simp only []
      rw [if_neg]
      rintro ⟨h8, h12, hbe⟩
      obtain ⟨y, hy, hy2, hle⟩ := h.2 j (by omega) h8 h12
      rw [hb] at hy
      injection hy with hy
      subst hy
      unfold befB at hbe
      split at hbe
      · simp [hy2] at hbe
      · have := of_decide_eq_true hbe
        exact absurd hle (Int32.not_le.mpr this)
theorem stl_choose {A : mwM} {c T : Nat} {w : Option Nat} (hw : ∀ i, i < T → ((A 8 i = sI c ∧ A 12 i = 2) ↔ w = some i)) (hwT : ∀ x, w = some x → x < T) : stl (chA A c w (bsN A c w T)) c T (bsN A c w T) := by
  refine ⟨chA_18, ?_⟩
  intro x hx h8 h12
  rw [chA_f (by decide) (by omega)] at h8
  rw [chA_12] at h12
  obtain ⟨mx1, mx2⟩ := bsN_max (A := A) (c := c) (w := w) T
  have key : ∃ b, bsN A c w T = some b ∧ A 7 x ≤ A 7 b := by
    by_cases e1 : bsN A c w T = some x
    · exact ⟨x, e1, Int32.le_refl _⟩
    · rw [if_neg e1] at h12
      by_cases e2 : w = some x
      · exact mx1 x e2
      · rw [if_neg e2] at h12
        exact mx2 x hx h8 h12
  obtain ⟨b, hb, hle⟩ := key
  refine ⟨b, hb, ?_, ?_⟩
  · rw [chA_12, if_pos hb]
  · rw [chA_f (by decide) (by omega), chA_f (by decide) (by omega)]
    exact hle
/-! a job ends, on both sides -/
def endA (A : mwM) (c i : Nat) : mwM :=
  if A 14 i = 0 then mset (mset A 12 i 0) 18 c (-1)
  else mset (mset (mset (mset (mset (mset (mset A 12 i 0) 18 c (-1)) 14 i 0) 5 4 (A 5 4 + 1)) 12 i 1) 15 i (A 5 4 + 1)) 13 i (A 10 i + 1)
theorem m_ends {fu : Nat} {M : mwM} {L : mwL} {i wa tn : Nat} (hf : 33 ≤ fu) (hi : i < 12) (h29 : M 787 29 = 0) (hh : ∀ r, 1 ≤ r → r ≤ 32 → M 806 r = 0) (ho : ∀ r, 1 ≤ r → r ≤ 16 → M 809 r = 0) (h798 : M 798 (i + 1) = sI wa) (hwa : wa < 2) (ht : L 787 21 = sL tn) : wq (DX15_ends fu (sI (i + 1)) M L) (fun q => (wa = 0 → q.1 796 (i + 1) = 0 ∧ q.1 798 (i + 1) = 0 ∧ q.2 = L) ∧ (wa = 1 → q.1 796 (i + 1) = 1 ∧ q.1 798 (i + 1) = 0 ∧ q.1 799 (i + 1) = 0 ∧ q.1 801 (i + 1) = 1 ∧ q.2 787 21 = sL (tn + 1) ∧ q.2 797 (i + 1) = sL (tn + 1)) ∧ q.1 804 (i + 1) = 0 ∧ (∀ b y, ¬ (y = i + 1 ∧ (b = 796 ∨ b = 798 ∨ b = 799 ∨ b = 801 ∨ b = 802 ∨ b = 804)) → q.1 b y = M b y) ∧ ∀ b y, ¬ (y = i + 1 ∧ (b = 797 ∨ b = 800)) → ¬ (b = 787 ∧ y = 21) → q.2 b y = L b y) := by
  unfold DX15_ends
  refine wq_b2 (m_free hf (by omega) (by omega) h29 hh ho) ?_
  rintro M1 L1 ⟨hL, f1, f2, f3⟩
  dsimp only at hL f1 f2 f3
  subst hL
  have e798 : M1 798 (i + 1) = sI wa := by rw [f3 _ _ (by omega)]; exact h798
  rw [mck_s (by omega) (by omega), sI_nn (by omega), e798]
  by_cases h0 : wa = 0
  · rw [if_pos (by rw [h0]; rfl)]
    refine wq_some ⟨fun _ => ⟨f1, by dsimp only; rw [e798, h0]; rfl, rfl⟩, fun h => by omega, f2, ?_, fun _ _ _ _ => rfl⟩
    intro b y hq
    exact f3 b y (by omega)
  · have h1 : wa = 1 := by omega
    rw [if_neg (by rw [sI_eql (by omega) (by decide)]; exact h0), mck_s (by omega) (by omega), mck_s (by omega) (by omega)]
    simp only [mlet]
    rw [h1, show sI 1 - 1 = 0 from by decide, m_begin0 (by omega) (by rw [mset_k (by decide)]; exact f1) ht, mb2_s]
    refine wq_some ⟨fun h => by omega, fun _ => ⟨?_, ?_, ?_, ?_, ?_, ?_⟩, ?_, ?_, ?_⟩
    all_goals (try dsimp only)
    · rw [mset_k (by decide), mset_k (by decide), mset_k (by decide), mset_s]
    · rw [mset_k (by decide), mset_k (by decide), mset_k (by decide), mset_k (by decide), mset_s]
    · rw [mset_k (by decide), mset_s]
    · rw [mset_s]; exact bo_1
    · rw [mset_k (by decide), mset_k (by decide), mset_s]
    · rw [mset_k (by decide), mset_s]
    · rw [mset_k (by decide), mset_k (by decide), mset_k (by decide), mset_k (by decide), mset_k (by decide)]; exact f2
    · intro b y hq
      rw [mset_n (by omega), mset_n (by omega), mset_n (by omega), mset_n (by omega), mset_n (by omega)]
      exact f3 b y (by omega)
    · intro b y h3 h4
      rw [mset_n (by omega), mset_n (by omega), mset_n (by omega)]
theorem endA_f {A : mwM} {c i b y : Nat} (h1 : ¬ (y = i ∧ 12 ≤ b ∧ b ≤ 15)) (h2 : ¬ (b = 18 ∧ y = c)) (h3 : ¬ (b = 5 ∧ y = 4)) : endA A c i b y = A b y := by
  unfold endA
  split
  · rw [mset_n h2, mset_n (by omega)]
  · rw [mset_n (by omega), mset_n (by omega), mset_n (by omega), mset_n h3, mset_n (by omega), mset_n h2, mset_n (by omega)]
theorem st_end {fu : Nat} {A M : mwM} {L : mwL} {T C tn cn U c i : Nat} (hf : 33 ≤ fu) (h : RC A M L T C tn cn U) (htn : tn + 1 < 100000000) (hc : c < 6) (hi : i < T) (h8 : A 8 i = sI c) (h12 : A 12 i = 2) (h13 : A 13 i = 0) : ∃ M' L' tn', DX15_ends fu (sI (i + 1)) M L = some (M', L') ∧ tn ≤ tn' ∧ tn' ≤ tn + 1 ∧ RC (endA A c i) M' L' T C tn' cn U ∧ (∀ b y, ¬ (y = i + 1 ∧ (b = 796 ∨ b = 798 ∨ b = 799 ∨ b = 801 ∨ b = 802 ∨ b = 804)) → M' b y = M b y) ∧ ∀ b y, ¬ (y = i + 1 ∧ (b = 797 ∨ b = 800)) → ¬ (b = 787 ∧ y = 21) → L' b y = L b y := by
  have h0 := h
  obtain ⟨hT, hC, _, hcn, a3, m1, m7, m0, a4, l21, m29, m35, hh, hg, m39, ht1, hch⟩ := h0
  obtain ⟨rk, co, pe, mi, nx, st, lf, wa, tu, us, dn, q1, q2, q3⟩ := ht1 i hi
  obtain ⟨w1, w2, w3, w4, w5, w6, w7, w8, w9, w10, w11, w12, w13, w14, w15, w16⟩ := q1
  obtain ⟨k1, k2, k3, k4, k5, k6, k7, k8, k9, k10, k11⟩ := q2
  obtain ⟨n1, n2, n3, n4, n5, n6, n7, n8, n9, n10, n11, n12, n13⟩ := q3
  have hlf : lf = 0 := by
    rw [k7] at h13
    exact (sI_eq (a := lf) (b := 0) (by omega) (by omega)).mp h13
  subst hlf
  have hus := w15 rfl
  obtain ⟨⟨M', L'⟩, he, e1, e2, e3, e4, e5⟩ := m_ends (fu := fu) (L := L) (i := i) hf (by omega) m29 hh hg n9 w10 l21
  dsimp only at e1 e2 e3 e4 e5
  have fM : frM i M M' := fun b y q1 _ _ _ => e4 b y q1
  have fL : frL i L L' := fun b y q1 q2 _ => e5 b y q1 q2
  -- the core has no chosen task now
  have hchn : ∀ A' : mwM, (∀ b y, ¬ (y = i ∧ 12 ≤ b ∧ b ≤ 15) → ¬ (b = 18 ∧ y = c) → ¬ (b = 5 ∧ y = 4) → A' b y = A b y) → A' 18 c = -1 → A' 12 i ≠ 2 → ∀ c', c' < 6 → ∃ w, A' 18 c' = oI w ∧ (∀ x, w = some x → x < T) ∧ ∀ x, x < T → ((A' 8 x = sI c' ∧ A' 12 x = 2) ↔ w = some x) := by
    intro A' hfr h18 h12' c' hc'
    by_cases hcc : c' = c
    · subst hcc
      obtain ⟨w, u1, u2, u3⟩ := hch c' hc'
      have hwi := (u3 i hi).mp ⟨h8, h12⟩
      refine ⟨none, h18, (fun x hx => by cases hx), ?_⟩
      intro x hx
      constructor
      · rintro ⟨q8, q12⟩
        exfalso
        by_cases hxi : x = i
        · subst hxi; exact h12' q12
        · rw [hfr _ _ (by omega) (by omega) (by omega)] at q8 q12
          have := (u3 x hx).mp ⟨q8, q12⟩
          rw [hwi] at this
          injection this with this
          exact hxi this.symm
      · intro q; cases q
    · obtain ⟨w, u1, u2, u3⟩ := hch c' hc'
      refine ⟨w, by rw [hfr _ _ (by omega) (by omega) (by omega)]; exact u1, u2, ?_⟩
      intro x hx
      by_cases hxi : x = i
      · subst hxi
        have hne : ¬ A 8 x = sI c' := by
          intro q
          rw [h8] at q
          have := (sI_eq (by omega) (by omega)).mp q
          omega
        rw [hfr 8 x (by omega) (by omega) (by omega)]
        exact ⟨fun q => absurd q.1 hne, fun q => absurd ((u3 x hx).mpr q).1 hne⟩
      · rw [hfr _ _ (by omega) (by omega) (by omega), hfr _ _ (by omega) (by omega) (by omega)]
        exact u3 x hx
  have hw01 : wa = 0 ∨ wa = 1 := by omega
  rcases hw01 with hw0 | hw0
  · subst hw0
    obtain ⟨g1, g2, g3⟩ := e1 rfl
    subst g3
    have eA : endA A c i = mset (mset A 12 i 0) 18 c (-1) := by
      unfold endA
      rw [if_pos (by rw [k8]; rfl)]
    refine ⟨M', L', tn, he, Nat.le_refl _, by omega, ?_, e4, e5⟩
    refine RC_one h hi (Nat.le_refl _) (by omega) hcn ?_ (endA_f (by omega) (by omega) (by omega)) (fun b y _ _ _ => endA_f (by omega) (by omega) (by omega)) l21 (by rw [e4 _ _ (by omega)]; exact m39) fM fL ⟨rk, co, pe, mi, nx, 0, 0, 0, tu, us, dn, ?_, ?_, ?_⟩ ?_
    · rw [eA, mset_k (by decide), mset_k (by decide)]; exact a4
    · exact ⟨w1, w2, w3, w4, w5, w6, w7, by omega, by omega, by omega, w11, w12, w13, fun _ => ⟨rfl, rfl⟩, fun _ => hus, fun h => by omega⟩
    · refine ⟨?_, ?_, ?_, ?_, ?_, ?_, ?_, ?_, ?_, ?_, ?_⟩
      · rw [endA_f (by omega) (by omega) (by omega)]; exact k1
      · rw [endA_f (by omega) (by omega) (by omega)]; exact k2
      · rw [endA_f (by omega) (by omega) (by omega)]; exact k3
      · rw [endA_f (by omega) (by omega) (by omega)]; exact k4
      · rw [endA_f (by omega) (by omega) (by omega)]; exact k5
      · rw [eA, mset_k (by decide), mset_s]; rfl
      · rw [eA, mset_k (by decide), mset_k (by decide)]; exact k7
      · rw [eA, mset_k (by decide), mset_k (by decide)]; exact k8
      · rw [eA, mset_k (by decide), mset_k (by decide)]; exact k9
      · rw [endA_f (by omega) (by omega) (by omega)]; exact k10
      · rw [endA_f (by omega) (by omega) (by omega)]; exact k11
    · refine ⟨?_, ?_, ?_, ?_, ?_, ?_, n7, g1, g2, e3, ?_, n12, fun q => absurd rfl q⟩
      · rw [e4 _ _ (by omega)]; exact n1
      · rw [e4 _ _ (by omega)]; exact n2
      · rw [e4 _ _ (by omega)]; exact n3
      · rw [e4 _ _ (by omega)]; exact n4
      · rw [e4 _ _ (by omega)]; exact n5
      · rw [e4 _ _ (by omega)]; exact n6
      · rw [e4 _ _ (by omega)]; exact n11
    · refine hchn _ (fun b y q1 q2 q3 => endA_f q1 q2 q3) ?_ ?_
      · rw [eA, mset_s]
      · rw [eA, mset_k (by decide), mset_s]; decide
  · subst hw0
    obtain ⟨g1, g2, g3, g4, g5, g6⟩ := e2 rfl
    have eA : endA A c i = mset (mset (mset (mset (mset (mset (mset A 12 i 0) 18 c (-1)) 14 i 0) 5 4 (sI (tn + 1))) 12 i 1) 15 i (sI (tn + 1))) 13 i (sI (mi + 1)) := by
      unfold endA
      rw [if_neg (by rw [k8]; decide), a4, k4, sI_1, sI_1]
    refine ⟨M', L', tn + 1, he, by omega, by omega, ?_, e4, e5⟩
    refine RC_one h hi (by omega) htn hcn ?_ (endA_f (by omega) (by omega) (by omega)) (fun b y _ _ _ => endA_f (by omega) (by omega) (by omega)) g5 (by rw [e4 _ _ (by omega)]; exact m39) fM fL ⟨rk, co, pe, mi, nx, 1, mi + 1, 0, tn + 1, us, dn, ?_, ?_, ?_⟩ ?_
    · rw [eA, mset_k (by decide), mset_k (by decide), mset_k (by decide), mset_s]
    · refine ⟨w1, w2, w3, w4, w5, w6, w7, by omega, by omega, by omega, by omega, w12, w13, fun h => by omega, fun h => by omega, fun _ => ?_⟩
      rw [Nat.add_mul]
      omega
    · refine ⟨?_, ?_, ?_, ?_, ?_, ?_, ?_, ?_, ?_, ?_, ?_⟩
      · rw [endA_f (by omega) (by omega) (by omega)]; exact k1
      · rw [endA_f (by omega) (by omega) (by omega)]; exact k2
      · rw [endA_f (by omega) (by omega) (by omega)]; exact k3
      · rw [endA_f (by omega) (by omega) (by omega)]; exact k4
      · rw [endA_f (by omega) (by omega) (by omega)]; exact k5
      · rw [eA, mset_k (by decide), mset_k (by decide), mset_s]; rfl
      · rw [eA, mset_s]
      · rw [eA, mset_k (by decide), mset_k (by decide), mset_k (by decide), mset_k (by decide), mset_s]; rfl
      · rw [eA, mset_k (by decide), mset_s]
      · rw [endA_f (by omega) (by omega) (by omega)]; exact k10
      · rw [endA_f (by omega) (by omega) (by omega)]; exact k11
    · refine ⟨?_, ?_, ?_, ?_, ?_, ?_, ?_, g1, g2, e3, ?_, ?_, fun _ => ⟨g6, Or.inl ⟨g4, g3, rfl⟩⟩⟩
      · rw [e4 _ _ (by omega)]; exact n1
      · rw [e4 _ _ (by omega)]; exact n2
      · rw [e4 _ _ (by omega)]; exact n3
      · rw [e4 _ _ (by omega)]; exact n4
      · rw [e4 _ _ (by omega)]; exact n5
      · rw [e4 _ _ (by omega)]; exact n6
      · rw [e5 _ _ (by omega) (by omega)]; exact n7
      · rw [e4 _ _ (by omega)]; exact n11
      · rw [e5 _ _ (by omega) (by omega)]; exact n12
    · refine hchn _ (fun b y q1 q2 q3 => endA_f q1 q2 q3) ?_ ?_
      · rw [eA, mset_k (by decide), mset_k (by decide), mset_k (by decide), mset_k (by decide), mset_k (by decide), mset_s]
      · rw [eA, mset_k (by decide), mset_k (by decide), mset_s]; decide
