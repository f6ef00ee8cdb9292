/-! all troubles forgotten; a new watch -/
theorem sk_0 : (0 : Int32) = sk 128 := by decide +kernel
theorem c_forget {fu : Nat} {A : mwM} {L : mwL} {i : Nat} (hi : i < 30) : DX10_forget fu (sI i) A L = some (mset (mset (mset (mset (mset A 146 i 80) 147 i 0) 148 i 0) 149 i 0) 150 i 0, L) := by
  simp (disch := omega) only [DX10_forget, mlet, mck_s, sI_nn]
theorem c_forgetAll {fu : Nat} {A : mwM} {L : mwL} {N : Nat} (hf : 31 ≤ fu) (hN : N ≤ 30) (hA : A 139 2 = sI N) : wq (DX10_forgetAll fu A L) (fun q => q.2 = L ∧ q.1 139 3 = 0 ∧ (∀ x, x < N → q.1 146 x = 80 ∧ q.1 147 x = 0 ∧ q.1 148 x = 0 ∧ q.1 149 x = 0 ∧ q.1 150 x = 0) ∧ ∀ b j, ¬ (b = 139 ∧ j = 3) → ¬ (146 ≤ b ∧ b ≤ 150) → q.1 b j = A b j) := by
  refine wq_for (body := fun r s => fX10_forgetAll_i2 fu r s.1 s.2.1 s.2.2) (fun j (a : mwM) => (sI j, a, L)) (fun j a => (∀ x, x < j → a 146 x = 80 ∧ a 147 x = 0 ∧ a 148 x = 0 ∧ a 149 x = 0 ∧ a 150 x = 0) ∧ ∀ b y, ¬ (146 ≤ b ∧ b ≤ 150) → a b y = A b y) N ?_ ?_ N 0 A fu (by omega) (by omega) ⟨fun x hx => by omega, fun _ _ _ => rfl⟩
  · intro j a r hj ⟨h1, h2⟩ ih
    show wq (fX10_forgetAll_i2 fu r (sI j) a L) _
    unfold fX10_forgetAll_i2
    rw [h2 139 2 (by omega), hA, if_neg (by rw [sI_le (by omega) (by omega)]; omega), c_forget (by omega), mb2_s]
    simp only [mlet]
    rw [sI_1]
    refine ih _ ⟨?_, ?_⟩
    · intro x hx
      by_cases hxj : x = j
      · subst hxj
        simp [mset]
      · have := h1 x (by omega)
        simp [mset, hxj, this]
    · intro b y hb
      rw [mset_n (by omega), mset_n (by omega), mset_n (by omega), mset_n (by omega), mset_n (by omega)]
      exact h2 b y hb
  · intro a r ⟨h1, h2⟩
    show wq (fX10_forgetAll_i2 fu r (sI N) a L) _
    unfold fX10_forgetAll_i2
    rw [h2 139 2 (by omega), hA, if_pos (by rw [sI_le (by omega) (by omega)]; omega)]
    simp only [mlet]
    refine wq_some ⟨rfl, ?_, ?_, ?_⟩
    all_goals (try dsimp only)
    · rw [mset_s]
    · intro x hx
      have := h1 x hx
      simp [mset, this]
    · intro b y h3 h4
      rw [mset_n h3]
      exact h2 b y h4
theorem m_clear {fu : Nat} {M : mwM} {L : mwL} {N : Nat} (hf : 31 ≤ fu) (hN : N ≤ 30) (h2 : M 902 2 = sI N) (h23 : M 902 23 = 0) (h31 : M 920 31 = 0) : wq (DX18_clear fu 0 M L) (fun q => q.2.2 = L ∧ (∀ x, x < N → dg q.2.1 (x + 1) 80 ∧ q.2.1 907 (x + 1) = 0 ∧ q.2.1 909 (x + 1) = 0 ∧ q.2.1 910 (x + 1) = 0 ∧ q.2.1 911 (x + 1) = 0 ∧ q.2.1 916 (x + 1) = 0) ∧ ∀ b j, ¬ (b = 902 ∧ j = 0) → ¬ (b = 907 ∨ b = 908 ∨ b = 909 ∨ b = 910 ∨ b = 911 ∨ b = 912 ∨ b = 913 ∨ b = 914 ∨ b = 915 ∨ b = 916) → q.2.1 b j = M b j) := by
  unfold DX18_clear
  simp only [mlet]
  rw [if_neg (by decide), if_pos (by decide), mset_j (a := 902) (b := 23) (by decide), h23, if_pos rfl, mset_k (a := 920) (by decide)]
  rw [show (31 : Int32).toNatClampNeg = 31 from by decide, h31, if_pos rfl]
  refine wq_for (body := fun r s => fX18_clear_i42 fu 0 r s.1 s.2.1 s.2.2.1 s.2.2.2) (fun j (a : Int32 × mwM) => (a.1, sI (j + 1), a.2, L)) (fun j a => (∀ x, x < j → dg a.2 (x + 1) 80 ∧ a.2 907 (x + 1) = 0 ∧ a.2 909 (x + 1) = 0 ∧ a.2 910 (x + 1) = 0 ∧ a.2 911 (x + 1) = 0 ∧ a.2 916 (x + 1) = 0) ∧ ∀ b y, ¬ (b = 902 ∧ y = 0) → ¬ (b = 907 ∨ b = 908 ∨ b = 909 ∨ b = 910 ∨ b = 911 ∨ b = 912 ∨ b = 913 ∨ b = 914 ∨ b = 915 ∨ b = 916) → a.2 b y = M b y) N ?_ ?_ N 0 (0, mset M 902 0 0) fu (by omega) (by omega) ⟨fun x hx => by omega, fun b y h3 _ => mset_n h3⟩
  · rintro j ⟨v, a⟩ r hj ⟨h1, h3⟩ ih
    show wq (fX18_clear_i42 fu 0 r v (sI (j + 1)) a L) _
    dsimp only at h1 h3
    unfold fX18_clear_i42 fX18_clear_b70 fX18_clear_b90
    rw [h3 902 2 (by omega) (by omega), h2, if_neg (by rw [sI_lt (by omega) (by omega)]; omega), if_pos rfl]
    refine wq_b2 (m_freshen (by omega) (by omega)) ?_
    rintro M1 L1 ⟨rfl, f1, f2, f3, f4, f5, f6⟩
    dsimp only at f1 f2 f3 f4 f5 f6
    refine wq_b2 (m_keep f1 (by omega) (by omega)) ?_
    rintro M2 L2 ⟨rfl, k1⟩
    dsimp only at k1
    rw [mck_s (by omega) (by omega), sI_nn (by omega)]
    simp only [mlet]
    rw [sI_1]
    refine ih (v + 1, mset M2 916 (j + 1) 0) ⟨?_, ?_⟩
    · intro x hx
      dsimp only
      have kk : ∀ b y, b ≠ 912 → b ≠ 913 → b ≠ 914 → b ≠ 915 → b ≠ 916 → mset M2 916 (j + 1) 0 b y = M1 b y := by
        intro b y q1 q2 q3 q4 q5
        rw [mset_k q5, k1 b y q1 q2 q3 q4]
      by_cases hxj : x = j
      · subst hxj
        refine ⟨dg_f f1 (fun b _ => kk _ _ (by omega) (by omega) (by omega) (by omega) (by omega)), ?_, ?_, ?_, ?_, mset_s⟩
        all_goals (try dsimp only)
        · rw [kk _ _ (by omega) (by omega) (by omega) (by omega) (by omega)]; exact f2
        · rw [kk _ _ (by omega) (by omega) (by omega) (by omega) (by omega)]; exact f3
        · rw [kk _ _ (by omega) (by omega) (by omega) (by omega) (by omega)]; exact f4
        · rw [kk _ _ (by omega) (by omega) (by omega) (by omega) (by omega)]; exact f5
      · obtain ⟨q1, q2, q3, q4, q5, q6⟩ := h1 x (by omega)
        refine ⟨dg_f q1 (fun b hb => ?_), ?_, ?_, ?_, ?_, ?_⟩
        all_goals (try dsimp only)
        · rw [kk _ _ (by omega) (by omega) (by omega) (by omega) (by omega), f6 _ _ (by omega) (by omega)]
        · rw [kk _ _ (by omega) (by omega) (by omega) (by omega) (by omega), f6 _ _ (by omega) (by omega)]; exact q2
        · rw [kk _ _ (by omega) (by omega) (by omega) (by omega) (by omega), f6 _ _ (by omega) (by omega)]; exact q3
        · rw [kk _ _ (by omega) (by omega) (by omega) (by omega) (by omega), f6 _ _ (by omega) (by omega)]; exact q4
        · rw [kk _ _ (by omega) (by omega) (by omega) (by omega) (by omega), f6 _ _ (by omega) (by omega)]; exact q5
        · rw [mset_j (by omega), k1 _ _ (by omega) (by omega) (by omega) (by omega), f6 _ _ (by omega) (by omega)]; exact q6
    · intro b y q1 q2
      dsimp only
      rw [mset_k (by omega), k1 _ _ (by omega) (by omega) (by omega) (by omega), f6 _ _ (by omega) (by omega)]
      exact h3 b y q1 q2
  · rintro ⟨v, a⟩ r ⟨h1, h3⟩
    show wq (fX18_clear_i42 fu 0 r v (sI (N + 1)) a L) _
    dsimp only at h1 h3
    unfold fX18_clear_i42
    rw [h3 902 2 (by omega) (by omega), h2, if_pos (by rw [sI_lt (by omega) (by omega)]; omega)]
    exact wq_some ⟨rfl, h1, h3⟩
theorem st_clear {fu : Nat} {A M : mwM} {L L2 : mwL} {N E : Nat} (hf : 31 ≤ fu) (h : RTr A M N E) : ∃ A' r M', DX10_forgetAll fu A L = some (A', L) ∧ DX18_clear fu 0 M L2 = some (r, M', L2) ∧ RTr A' M' N E ∧ (∀ b j, ¬ (b = 139 ∧ j = 3) → ¬ (146 ≤ b ∧ b ≤ 150) → A' b j = A b j) ∧ (∀ b j, ¬ (902 ≤ b ∧ b ≤ 920) → M' b j = M b j) := by
  obtain ⟨hN, a1, a2, a3, a4, a5, a6, a7, a8, ⟨G, hG, a9⟩, a10, l, sd, ⟨b1, b2, b3, b4⟩, ⟨e1, e2, e3, t0, e4, e5, e6⟩, hF⟩ := h
  obtain ⟨⟨A', L'⟩, hA, rfl, c1, c2, c3⟩ := c_forgetAll (fu := fu) (L := L) hf hN a1
  obtain ⟨⟨r, M', L''⟩, hM, rfl, d1, d2⟩ := m_clear (fu := fu) (L := L2) hf hN a2 a4 (a8 31 (by omega))
  dsimp only at c1 c2 c3 d1 d2
  refine ⟨A', r, M', hA, hM, ?_, c3, fun b j hb => d2 b j (by omega) (by omega)⟩
  all_goals (try dsimp only)
  refine ⟨hN, ?_, ?_, ?_, ?_, ?_, ?_, ?_, ?_, ⟨G, hG, ?_⟩, ?_, [], (fun _ => 0), ⟨Nat.zero_le _, fun x hx => absurd hx List.not_mem_nil, ?_, fun e h => absurd h (Nat.not_lt_zero _)⟩, ⟨?_, fun i _ => ⟨fun h => absurd h (Nat.lt_irrefl 0), fun h => absurd h List.not_mem_nil⟩, List.Pairwise.nil, t0, e4, ?_, fun _ _ => Nat.zero_le _⟩, fun x hx => absurd hx List.not_mem_nil⟩
  all_goals (try dsimp only)
  · rw [c3 _ _ (by omega) (by omega)]; exact a1
  · rw [d2 _ _ (by omega) (by omega)]; exact a2
  · rw [d2 _ _ (by omega) (by omega)]; exact a3
  · rw [d2 _ _ (by omega) (by omega)]; exact a4
  · rw [c3 _ _ (by omega) (by omega), d2 _ _ (by omega) (by omega)]; exact a5
  · rw [c3 _ _ (by omega) (by omega)]; exact a6
  · rw [d2 _ _ (by omega) (by omega)]; exact a7
  · intro x hx
    rw [d2 _ _ (by omega) (by omega)]; exact a8 x hx
  · rw [d2 _ _ (by omega) (by omega)]; exact a9
  · intro i hi
    obtain ⟨n, p, t, a, g, k, hr, hc, hm⟩ := a10 i hi
    obtain ⟨q1, q2, q3, q4, q5⟩ := c2 i hi
    obtain ⟨s1, s2, s3, s4, s5, s6⟩ := d1 i hi
    refine ⟨80, p, 0, 0, 0, 128, ⟨by omega, hr.2.1, hr.2.2.1, by omega, by omega, by omega, by omega⟩, ⟨?_, q1, by rw [q2]; exact sk_0, q3, q4, q5⟩, ⟨?_, s1, by rw [s2]; exact sk_0, s3, s4, s5, ?_, ?_, ?_⟩⟩
    all_goals (try dsimp only)
    · rw [c3 _ _ (by omega) (by omega)]; exact hc.1
    · rw [d2 _ _ (by omega) (by omega)]; exact hm.1
    · rw [d2 _ _ (by omega) (by omega)]; exact hm.2.2.2.2.2.2.1
    · rw [d2 _ _ (by omega) (by omega)]; exact hm.2.2.2.2.2.2.2.1
    · rw [d2 _ _ (by omega) (by omega)]; exact hm.2.2.2.2.2.2.2.2
  · exact c1
  · intro i hi
    exact (d1 i hi).2.2.2.2.2
  · rw [d2 _ _ (by omega) (by omega)]; exact e5
/-- a watch more -/
theorem st_code {fu : Nat} {A M : mwM} {L L2 : mwL} {N E p : Nat} {s c pt : Int32} (hf : 31 ≤ fu) (hN30 : N < 30) (hp1 : 1 ≤ p) (hp2 : p < 256) (hpar : M 906 (N + 1) = 0) (hst : M 916 (N + 1) = 0) (h : RTr A M N E) : ∃ A' M', DX10_addWatch fu s c (sI p) pt A L = some (sI (N + 1), A', L) ∧ DX18_code fu (sI p) 64 127 M L2 = some (sI (N + 1), M', L2) ∧ RTr A' M' (N + 1) E ∧ A' 141 N = s ∧ A' 142 N = c ∧ A' 143 N = pt ∧ A' 144 N = 0 ∧ (∀ b j, ¬ (b = 139 ∧ j = 2) → ¬ (j = N ∧ 141 ≤ b ∧ b ≤ 150) → A' b j = A b j) ∧ (∀ j, M' 906 j = M 906 j) ∧ (∀ j, M' 916 j = M 916 j) ∧ (∀ b j, ¬ (902 ≤ b ∧ b ≤ 920) → M' b j = M b j) := by
  obtain ⟨hN, a1, a2, a3, a4, a5, a6, a7, a8, ⟨G, hG, a9⟩, a10, l, sd, ⟨b1, b2, b3, b4⟩, ⟨e1, e2, e3, t0, e4, e5, e6⟩, hF⟩ := h
  have hC : wq (DX10_addWatch fu s c (sI p) pt A L) (fun q => q.1 = sI (N + 1) ∧ q.2.2 = L ∧ q.2.1 139 2 = sI (N + 1) ∧ cc q.2.1 N 80 p 0 0 0 128 ∧ q.2.1 141 N = s ∧ q.2.1 142 N = c ∧ q.2.1 143 N = pt ∧ q.2.1 144 N = 0 ∧ ∀ b j, ¬ (b = 139 ∧ j = 2) → ¬ (j = N ∧ 141 ≤ b ∧ b ≤ 150) → q.2.1 b j = A b j) := by
    unfold DX10_addWatch
    rw [a1, if_pos (by rw [sI_ltl (by omega) (by omega)]; exact hN30)]
    simp (disch := omega) only [mlet, mck_s, sI_nn, mset_k (show (139 : Nat) ≠ 141 by decide), mset_k (show (139 : Nat) ≠ 142 by decide), mset_k (show (139 : Nat) ≠ 143 by decide), mset_k (show (139 : Nat) ≠ 144 by decide), mset_k (show (139 : Nat) ≠ 145 by decide), a1]
    rw [c_forget hN30, mb2_s]
    simp only [mset_k (show (139 : Nat) ≠ 146 by decide), mset_k (show (139 : Nat) ≠ 147 by decide), mset_k (show (139 : Nat) ≠ 148 by decide), mset_k (show (139 : Nat) ≠ 149 by decide), mset_k (show (139 : Nat) ≠ 150 by decide), mset_k (show (139 : Nat) ≠ 141 by decide), mset_k (show (139 : Nat) ≠ 142 by decide), mset_k (show (139 : Nat) ≠ 143 by decide), mset_k (show (139 : Nat) ≠ 144 by decide), mset_k (show (139 : Nat) ≠ 145 by decide), a1, mset_s, sI_1]
    refine wq_some ⟨rfl, rfl, ?_, ⟨?_, ?_, ?_, ?_, ?_, ?_⟩, ?_, ?_, ?_, ?_, ?_⟩
    all_goals (try dsimp only)
    · simp [mset]
    · simp [mset]
    · simp [mset]; rfl
    · simp [mset]; exact sk_0
    · simp [mset]; rfl
    · simp [mset]; rfl
    · simp [mset]; rfl
    · simp [mset]
    · simp [mset]
    · simp [mset]
    · simp [mset]
    · intro b j h1 h2
      rw [mset_n (by omega), mset_n (by omega), mset_n (by omega), mset_n (by omega), mset_n (by omega), mset_n (by omega), mset_n (by omega), mset_n (by omega), mset_n (by omega), mset_n (by omega), mset_n (by omega)]
  have hM : wq (DX18_code fu (sI p) 64 127 M L2) (fun q => q.1 = sI (N + 1) ∧ q.2.2 = L2 ∧ q.2.1 902 2 = sI (N + 1) ∧ (q.2.1 903 (N + 1) = sI p ∧ dg q.2.1 (N + 1) 80 ∧ q.2.1 907 (N + 1) = 0 ∧ q.2.1 909 (N + 1) = 0 ∧ q.2.1 910 (N + 1) = 0 ∧ q.2.1 911 (N + 1) = 0 ∧ q.2.1 904 (N + 1) = 64 ∧ q.2.1 905 (N + 1) = 127) ∧ ∀ b j, ¬ (b = 902 ∧ (j = 0 ∨ j = 2)) → ¬ (j = N + 1 ∧ (903 ≤ b ∧ b ≤ 905 ∨ b = 907 ∨ 909 ≤ b ∧ b ≤ 911)) → ¬ (b = 908 ∧ 8 * (N + 1) ≤ j ∧ j < 8 * (N + 1) + 8) → b ≠ 912 → b ≠ 913 → b ≠ 914 → b ≠ 915 → q.2.1 b j = M b j) := by
    unfold DX18_code fX18_code_b39
    simp only [mlet]
    rw [if_neg (by rw [sI_ltl (by omega) (by omega)]; omega), if_neg (by rw [sI_llt (by omega) (by omega)]; omega), if_neg (by decide), if_neg (by decide), if_neg (by decide), if_pos (by decide), mset_j (a := 902) (b := 23) (by decide), a4, if_pos rfl, mset_j (a := 902) (b := 2) (by decide), a2, if_neg (by rw [sI_eql (by omega) (by omega)]; omega), sI_1]
    simp (disch := omega) only [mset_s, mck_s, sI_nn, mset_k (show (902 : Nat) ≠ 903 by decide), mset_k (show (902 : Nat) ≠ 904 by decide), mset_k (show (902 : Nat) ≠ 905 by decide)]
    refine wq_b2 (m_freshen (by omega) (by omega)) ?_
    rintro M1 L1 ⟨rfl, f1, f2, f3, f4, f5, f6⟩
    dsimp only at f1 f2 f3 f4 f5 f6
    have m12 : M1 902 2 = sI (N + 1) := by
      rw [f6 _ _ (by omega) (by omega)]
      simp [mset]
    rw [m12]
    refine wq_b2 (m_keep f1 (by omega) (by omega)) ?_
    rintro M2 L3 ⟨rfl, k1⟩
    dsimp only at k1
    have m22 : M2 902 2 = sI (N + 1) := by rw [k1 _ _ (by omega) (by omega) (by omega) (by omega)]; exact m12
    refine wq_some ⟨m22, rfl, m22, ⟨?_, dg_f f1 (fun b _ => k1 _ _ (by omega) (by omega) (by omega) (by omega)), ?_, ?_, ?_, ?_, ?_, ?_⟩, ?_⟩
    all_goals (try dsimp only)
    · rw [k1 _ _ (by omega) (by omega) (by omega) (by omega), f6 _ _ (by omega) (by omega)]
      simp [mset]
    · rw [k1 _ _ (by omega) (by omega) (by omega) (by omega)]; exact f2
    · rw [k1 _ _ (by omega) (by omega) (by omega) (by omega)]; exact f3
    · rw [k1 _ _ (by omega) (by omega) (by omega) (by omega)]; exact f4
    · rw [k1 _ _ (by omega) (by omega) (by omega) (by omega)]; exact f5
    · rw [k1 _ _ (by omega) (by omega) (by omega) (by omega), f6 _ _ (by omega) (by omega)]
      simp [mset]
    · rw [k1 _ _ (by omega) (by omega) (by omega) (by omega), f6 _ _ (by omega) (by omega)]
      simp [mset]
    · intro b j h1 h2 h3 h4 h5 h6 h7
      rw [k1 _ _ h4 h5 h6 h7, f6 _ _ (by omega) (by omega), mset_n (by omega), mset_n (by omega), mset_n (by omega), mset_n (by omega), mset_n (by omega)]
  obtain ⟨⟨x, A', L'⟩, hA, q0, q1, q2, q3, q4, q5, q6, q7, q8⟩ := hC
  obtain ⟨⟨y, M', L''⟩, hMM, s0, s1, s2, ⟨s3, s4, s5, s6, s7, s8, s9, s10⟩, s11⟩ := hM
  dsimp only at q0 q1 q2 q3 q4 q5 q6 q7 q8 s0 s1 s2 s3 s4 s5 s6 s7 s8 s9 s10 s11
  subst q0 q1 s0 s1
  refine ⟨A', M', hA, hMM, ?_, q4, q5, q6, q7, q8, fun j => s11 _ _ (by omega) (by omega) (by omega) (by omega) (by omega) (by omega) (by omega), fun j => s11 _ _ (by omega) (by omega) (by omega) (by omega) (by omega) (by omega) (by omega), fun b j hb => s11 _ _ (by omega) (by omega) (by omega) (by omega) (by omega) (by omega) (by omega)⟩
  all_goals (try dsimp only)
  refine ⟨by omega, q2, s2, ?_, ?_, ?_, ?_, ?_, ?_, ⟨G, hG, ?_⟩, ?_, l, (fun x => if x = N then 0 else sd x), ⟨b1, fun x hx => by have := b2 x hx; omega, ?_, ?_⟩, ⟨?_, ?_, ?_, t0, e4, ?_, ?_⟩, ?_⟩
  all_goals (try dsimp only)
  · rw [s11 _ _ (by omega) (by omega) (by omega) (by omega) (by omega) (by omega) (by omega)]; exact a3
  · rw [s11 _ _ (by omega) (by omega) (by omega) (by omega) (by omega) (by omega) (by omega)]; exact a4
  · rw [q8 _ _ (by omega) (by omega), s11 _ _ (by omega) (by omega) (by omega) (by omega) (by omega) (by omega) (by omega)]; exact a5
  · rw [q8 _ _ (by omega) (by omega)]; exact a6
  · rw [s11 _ _ (by omega) (by omega) (by omega) (by omega) (by omega) (by omega) (by omega)]; exact a7
  · intro x hx
    rw [s11 _ _ (by omega) (by omega) (by omega) (by omega) (by omega) (by omega) (by omega)]; exact a8 x hx
  · rw [s11 _ _ (by omega) (by omega) (by omega) (by omega) (by omega) (by omega) (by omega)]; exact a9
  · intro i hi
    by_cases hiN : i = N
    · subst hiN
      exact ⟨80, p, 0, 0, 0, 128, ⟨by omega, hp1, hp2, by omega, by omega, by omega, by omega⟩, q3, ⟨s3, s4, by rw [s5]; exact sk_0, s6, s7, s8, s9, s10, by rw [s11 _ _ (by omega) (by omega) (by omega) (by omega) (by omega) (by omega) (by omega)]; exact hpar⟩⟩
    · obtain ⟨n', p', t', a', g', k', r1, r2, r3⟩ := a10 i (by omega)
      exact ⟨n', p', t', a', g', k', r1, cc_f r2 (fun b h1 h2 => q8 b i (by omega) (by omega)), cm_f r3 (fun b hb => s11 _ _ (by omega) (by omega) (by omega) (by omega) (by omega) (by omega) (by omega)) (fun b hb => s11 _ _ (by omega) (by omega) (by omega) (by omega) (by omega) (by omega) (by omega))⟩
  · rw [q8 _ _ (by omega) (by omega)]; exact b3
  · intro e he
    rw [q8 _ _ (by omega) (by omega)]; exact b4 e he
  · intro i hi
    rw [s11 _ _ (by omega) (by omega) (by omega) (by omega) (by omega) (by omega) (by omega)]
    by_cases hiN : i = N
    · rw [if_pos hiN, hiN]; exact hst
    · rw [if_neg hiN]; exact e1 i (by omega)
  · intro i hi
    by_cases hiN : i = N
    · rw [if_pos hiN]
      exact ⟨fun h => by omega, fun h => by have := b2 i h; omega⟩
    · rw [if_neg hiN]; exact e2 i (by omega)
  · refine List.Pairwise.imp_of_mem ?_ e3
    intro x y hx hy hxy
    have := b2 x hx
    have := b2 y hy
    rw [if_neg (by omega), if_neg (by omega)]
    exact hxy
  · rw [s11 _ _ (by omega) (by omega) (by omega) (by omega) (by omega) (by omega) (by omega)]; exact e5
  · intro i hi
    by_cases hiN : i = N
    · rw [if_pos hiN]; omega
    · rw [if_neg hiN]; exact e6 i (by omega)
  · intro x hx
    have := b2 x hx
    rw [q8 _ _ (by omega) (by omega), q8 _ _ (by omega) (by omega), s11 _ _ (by omega) (by omega) (by omega) (by omega) (by omega) (by omega) (by omega), s11 _ _ (by omega) (by omega) (by omega) (by omega) (by omega) (by omega) (by omega)]
    exact hF x hx
