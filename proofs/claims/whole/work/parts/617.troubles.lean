theorem nxt_uni {M : mwM} {l l1 l2 : List Nat} {sd : Nat → Nat} {p i : Nat} (hs : l.Pairwise (fun x y => sd x < sd y)) (h1 : nxt M l sd p i l1) (h2 : nxt M l sd p i l2) : l1 = l2 := by
  rcases h1 with ⟨a, rfl⟩ | ⟨a, b, rfl⟩ | ⟨a, b, c, rfl⟩ | ⟨a, b, e, he, c, rfl⟩ <;> rcases h2 with ⟨a', rfl⟩ | ⟨a', b', rfl⟩ | ⟨a', b', c', rfl⟩ | ⟨a', b', e', he', c', rfl⟩
  all_goals first | rfl | exact absurd a a' | exact absurd a' a | (exfalso; omega) | skip
  · exfalso
    have := c _ c'.1
    have := c'.2.1
    omega
  · exfalso
    have := c' _ c.1
    have := c.2.1
    omega
  · have hb := isBest_uni hs c c'
    have hsg := List.pairwise_iff_getElem.mp hs
    have hee : e = e' := by
      rcases Nat.lt_trichotomy e e' with h | h | h
      · have h3 := hsg e e' he he' h; rw [hb] at h3; omega
      · exact h
      · have h3 := hsg e' e he' he h; rw [hb] at h3; omega
    subst hee
    rfl
theorem wt_congr {M M' : mwM} (h1 : ∀ j, M' 145 j = M 145 j) (h2 : ∀ j, M' 146 j = M 146 j) (y : Nat) : wt M' y = wt M y := by
  unfold wt
  rw [h1, h2]
theorem nxt_congr {M M' : mwM} {l l' : List Nat} {sd : Nat → Nat} {p i : Nat} (h1 : ∀ j, M' 145 j = M 145 j) (h2 : ∀ j, M' 146 j = M 146 j) (h : nxt M' l sd p i l') : nxt M l sd p i l' := by
  have hw := wt_congr h1 h2
  unfold nxt isBest at h ⊢
  simpa only [hw] using h
/-- a counter from -128 on -/
def sk (k : Nat) : Int32 := sI k - 128
/-- one code's rows, on both sides -/
def cc (M : mwM) (i n p t a g k : Nat) : Prop := M 145 i = sI p ∧ M 146 i = sI n ∧ M 147 i = sk k ∧ M 148 i = sI t ∧ M 149 i = sI a ∧ M 150 i = sI g
def cm (M : mwM) (i n p t a g k : Nat) : Prop := M 903 (i + 1) = sI p ∧ dg M (i + 1) n ∧ M 907 (i + 1) = sk k ∧ M 909 (i + 1) = sI t ∧ M 910 (i + 1) = sI a ∧ M 911 (i + 1) = sI g ∧ M 904 (i + 1) = 64 ∧ M 905 (i + 1) = 127 ∧ M 906 (i + 1) = 0
def rg (n p t a g k : Nat) : Prop := n < 256 ∧ 1 ≤ p ∧ p < 256 ∧ t < 256 ∧ a < 40 ∧ g < 256 ∧ k < 256
def okc (A M : mwM) (i : Nat) : Prop := ∃ n p t a g k, rg n p t a g k ∧ cc A i n p t a g k ∧ cm M i n p t a g k
/-- what a failed test makes of the number of trips, and of the status -/
def tN (n t : Nat) : Nat := if n / 2 % 2 = 0 then (if t < 255 then t + 1 else t) else t
def fN (n t p : Nat) : Nat := sb (sb (sb (sb (if t < 2 then sb (sb n 4 0) 6 0 else if 64 < p then sb (sb (sb n 4 0) 6 0) 3 1 else sb (sb (sb (sb n 4 0) 6 0) 3 1) 7 1) 1 1) 2 1) 5 1) 0 1
theorem fN_a : ∀ n, n < 256 → ((((sI n &&& (-81)) ||| 1) ||| 2) ||| 4) ||| 32 = sI (sb (sb (sb (sb (sb (sb n 4 0) 6 0) 1 1) 2 1) 5 1) 0 1) := by decide +kernel
theorem fN_b : ∀ n, n < 256 → (((((sI n &&& (-81)) ||| 8) ||| 1) ||| 2) ||| 4) ||| 32 = sI (sb (sb (sb (sb (sb (sb (sb n 4 0) 6 0) 3 1) 1 1) 2 1) 5 1) 0 1) := by decide +kernel
theorem fN_c : ∀ n, n < 256 → (((((sI n &&& (-81)) ||| 136) ||| 1) ||| 2) ||| 4) ||| 32 = sI (sb (sb (sb (sb (sb (sb (sb (sb n 4 0) 6 0) 3 1) 7 1) 1 1) 2 1) 5 1) 0 1) := by decide +kernel
theorem fN_1 : ∀ n, n < 256 → (sI n &&& 1) = sI (n % 2) := by decide +kernel
theorem fN_2 : ∀ n, n < 256 → (sI n &&& 2) = sI (n / 2 % 2 * 2) := by decide +kernel
theorem tN_lt {n t : Nat} (h : t < 256) : tN n t < 256 := by unfold tN; split <;> (try split) <;> omega
theorem fN_lt {n t p : Nat} (h : n < 256) : fN n t p < 256 := by
  unfold fN
  have k : ∀ m b v, m < 256 → b < 8 → v < 2 → sb m b v < 256 := fun m b v hm hb hv => sb_lt m hm b hb v hv
  have h1 := k _ 6 0 (k _ 4 0 h (by omega) (by omega)) (by omega) (by omega)
  have h2 := k _ 3 1 h1 (by omega) (by omega)
  have h3 := k _ 7 1 h2 (by omega) (by omega)
  have h4 : (if t < 2 then sb (sb n 4 0) 6 0 else if 64 < p then sb (sb (sb n 4 0) 6 0) 3 1 else sb (sb (sb (sb n 4 0) 6 0) 3 1) 7 1) < 256 := by
    split
    · exact h1
    · split
      · exact h2
      · exact h3
  exact k _ 0 1 (k _ 5 1 (k _ 2 1 (k _ 1 1 h4 (by omega) (by omega)) (by omega) (by omega)) (by omega) (by omega)) (by omega) (by omega)
/-- the class: a failed test -/
abbrev tfP (i n p t k : Nat) (l : List Nat) (sd : Nat → Nat) (M q : mwM) : Prop := cc q i (fN n (tN n t) p) p (tN n t) 0 0 k ∧ (∃ l', (n % 2 = 0 → nxt q l sd p i l' ∧ (i ∈ l' → q 152 i = M 139 5 ∧ (i ∈ l → q 151 i = M 151 i) ∧ (i ∉ l → q 151 i = M 139 5))) ∧ (n % 2 ≠ 0 → l' = l ∧ q 152 i = M 152 i ∧ q 151 i = M 151 i) ∧ q 139 3 = sI l'.length ∧ (∀ e (h : e < l'.length), q 153 e = sI (l'[e]'h))) ∧ ∀ b j, b ≠ 153 → ¬ (b = 139 ∧ j = 3) → ¬ (j = i ∧ (b = 146 ∨ b = 148 ∨ b = 149 ∨ b = 150 ∨ b = 151 ∨ b = 152)) → q b j = M b j
theorem c_testFailed {fu : Nat} {M : mwM} {L : mwL} {N i n p t a g k : Nat} {l : List Nat} {sd : Nat → Nat} (hf : 9 ≤ fu) (hN : N ≤ 30) (hi : i < N) (hr : rg n p t a g k) (hc : cc M i n p t a g k) (h8 : l.length ≤ 8) (hl : ∀ x ∈ l, x < N) (hs : l.Pairwise (fun x y => sd x < sd y)) (hk : okq M N) (hE : M 139 3 = sI l.length) (hM : ∀ e (h : e < l.length), M 153 e = sI (l[e]'h)) : wq (DX10_testFailed fu (sI i) M L) (fun q => q.2 = L ∧ tfP i n p t k l sd M q.1) := by
  obtain ⟨r1, r2, r3, r4, r5, r6, r7⟩ := hr
  obtain ⟨c1, c2, c3, c4, c5, c6⟩ := hc
  have ht2 := tN_lt (n := n) r4
  -- behind the number of trips
  have tail : ∀ (M1 : mwM) (v3 : Nat), v3 = n % 2 → M1 148 i = sI (tN n t) → (∀ b j, ¬ (b = 148 ∧ j = i) → M1 b j = M b j) → wq (fX10_testFailed_b53 fu (sI i) (sI n) (sI v3) M1 L) (fun q => q.2 = L ∧ tfP i n p t k l sd M q.1) := by
    intro M1 v3 hv3 m1 m2
    have fin : ∀ (x : Int32), (((x ||| 1) ||| 2) ||| 4) ||| 32 = sI (fN n (tN n t) p) → wq (fX10_testFailed_b95 fu (sI i) x (sI v3) M1 L) (fun q => q.2 = L ∧ tfP i n p t k l sd M q.1) := by
      intro x hx
      have hfn := fN_lt (n := n) (t := tN n t) (p := p) r1
      unfold fX10_testFailed_b95 fX10_testFailed_b142
      simp (disch := omega) only [mlet, mck_s, sI_nn]
      rw [hx]
      generalize hM2 : mset (mset (mset M1 146 i (sI (fN n (tN n t) p))) 149 i 0) 150 i 0 = M2
      have f0 : ∀ b j, ¬ (j = i ∧ (b = 146 ∨ b = 148 ∨ b = 149 ∨ b = 150)) → M2 b j = M b j := by
        intro b j h
        rw [← hM2, mset_n (by omega), mset_n (by omega), mset_n (by omega), m2 b j (by omega)]
      have c2' : cc M2 i (fN n (tN n t) p) p (tN n t) 0 0 k := by
        refine ⟨?_, ?_, ?_, ?_, ?_, ?_⟩
        · rw [f0 _ _ (by omega)]; exact c1
        · rw [← hM2, mset_k (by decide), mset_k (by decide), mset_s]
        · rw [f0 _ _ (by omega)]; exact c3
        · rw [← hM2, mset_k (by decide), mset_k (by decide), mset_k (by decide), m1]
        · rw [← hM2, mset_k (by decide), mset_s]; rfl
        · rw [← hM2, mset_s]; rfl
      by_cases hn0 : n % 2 = 0
      · rw [if_pos (by rw [hv3, hn0]; rfl)]
        have hk2 : okq M2 N := by
          intro x hx
          by_cases hxi : x = i
          · subst hxi
            exact ⟨p, fN n (tN n t) p, r3, hfn, c2'.1, c2'.2.1⟩
          · obtain ⟨p', n', q1, q2, q3, q4⟩ := hk x hx
            exact ⟨p', n', q1, q2, by rw [f0 _ _ (by omega)]; exact q3, by rw [f0 _ _ (by omega)]; exact q4⟩
        refine wq_b2 (c_store hf hN hi c2'.1 r3 h8 hl hs hk2 (by rw [f0 _ _ (by omega)]; exact hE) (fun e he => by rw [f0 _ _ (by omega)]; exact hM e he)) ?_
        rintro M3 L3 ⟨rfl, l', g1, g2, g3, g4, g5⟩
        dsimp only at g2 g3 g4 g5
        refine wq_some ⟨rfl, ?_, ⟨l', ?_, fun h => absurd hn0 h, g2, g3⟩, ?_⟩
        · obtain ⟨d1, d2, d3, d4, d5, d6⟩ := c2'
          exact ⟨by dsimp only; rw [g5 _ _ (by omega) (by omega) (by omega), d1], by dsimp only; rw [g5 _ _ (by omega) (by omega) (by omega), d2], by dsimp only; rw [g5 _ _ (by omega) (by omega) (by omega), d3], by dsimp only; rw [g5 _ _ (by omega) (by omega) (by omega), d4], by dsimp only; rw [g5 _ _ (by omega) (by omega) (by omega), d5], by dsimp only; rw [g5 _ _ (by omega) (by omega) (by omega), d6]⟩
        · intro _
          refine ⟨nxt_congr (M := M3) (M' := M2) (fun j => (g5 _ _ (by omega) (by omega) (by omega)).symm) (fun j => (g5 _ _ (by omega) (by omega) (by omega)).symm) g1, ?_⟩
          intro hil
          obtain ⟨e1, e2, e3⟩ := g4 hil
          exact ⟨e1.trans (f0 _ _ (by omega)), fun h => (e2 h).trans (f0 _ _ (by omega)), fun h => (e3 h).trans (f0 _ _ (by omega))⟩
        · intro b j h1 h2 h3
          dsimp only
          rw [g5 b j h1 h2 (by omega), f0 b j (by omega)]
      · rw [if_neg (by rw [hv3, sI_eql (by omega) (by omega)]; exact hn0)]
        refine wq_some ⟨rfl, c2', ⟨l, fun h => absurd h hn0, fun _ => ⟨rfl, f0 _ _ (by omega), f0 _ _ (by omega)⟩, by dsimp only; rw [f0 _ _ (by omega)]; exact hE, fun e he => by dsimp only; rw [f0 _ _ (by omega)]; exact hM e he⟩, ?_⟩
        intro b j h1 h2 h3
        dsimp only
        rw [f0 b j (by omega)]
    unfold fX10_testFailed_b53 fX10_testFailed_b93
    simp (disch := omega) only [mlet, mck_s, sI_nn]
    rw [m1, m2 145 i (by omega), c1]
    by_cases ht : tN n t < 2
    · rw [if_pos (by rw [sI_ltl (by omega) (by omega)]; exact ht)]
      refine fin _ ?_
      rw [fN_a n r1]
      unfold fN
      rw [if_pos ht]
    · rw [if_neg (by rw [sI_ltl (by omega) (by omega)]; exact ht)]
      by_cases hp : 64 < p
      · rw [if_pos (by rw [sI_llt (by omega) (by omega)]; exact hp)]
        refine fin _ ?_
        rw [fN_b n r1]
        unfold fN
        rw [if_neg ht, if_pos hp]
      · rw [if_neg (by rw [sI_llt (by omega) (by omega)]; exact hp)]
        refine fin _ ?_
        rw [fN_c n r1]
        unfold fN
        rw [if_neg ht, if_neg hp]
  have mid : ∀ (s0 : Int32), s0 = sI (n % 2) → wq (fX10_testFailed_b20 fu (sI i) (sI n) s0 M L) (fun q => q.2 = L ∧ tfP i n p t k l sd M q.1) := by
    intro s0 hs0
    subst hs0
    unfold fX10_testFailed_b20
    rw [fN_2 n r1]
    by_cases h2 : n / 2 % 2 = 0
    · rw [if_pos (by rw [h2]; rfl)]
      simp (disch := omega) only [mlet, mck_s, sI_nn]
      rw [c4, sI_1]
      refine tail _ (n % 2) rfl ?_ ?_
      · rw [mset_s]
        unfold tN
        rw [if_pos h2]
        by_cases h255 : t < 255
        · rw [if_pos h255, if_neg (by rw [sI_llt (by omega) (by omega)]; omega)]
        · rw [if_neg h255, if_pos (by rw [sI_llt (by omega) (by omega)]; omega)]
          have : t = 255 := by omega
          rw [this]; rfl
      · intro b j h
        rw [mset_n h]
    · rw [if_neg (by rw [sI_eql (by omega) (by omega)]; omega)]
      refine tail M (n % 2) rfl ?_ (fun _ _ _ => rfl)
      rw [c4]
      unfold tN
      rw [if_neg h2]
  unfold DX10_testFailed
  simp (disch := omega) only [mlet, mck_s, sI_nn]
  rw [c2, fN_1 n r1]
  by_cases hn0 : n % 2 = 0
  · rw [if_pos (by rw [hn0]; rfl)]
    exact mid 0 (by rw [hn0]; rfl)
  · rw [if_neg (by rw [sI_eql (by omega) (by omega)]; exact hn0)]
    exact mid 1 (by have : n % 2 = 1 := by omega
                    rw [this]; rfl)
