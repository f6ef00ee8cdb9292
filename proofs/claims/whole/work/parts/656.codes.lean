/-- a short row, filled up -/
def pad (n : Nat) (v : Nat → Nat) (i : Nat) : Nat := if i < n then v i else if i = n then 128 else 0
theorem pad_lt {n : Nat} {v : Nat → Nat} (hv : ∀ i, i < n → v i < 256) (i : Nat) : pad n v i < 256 := by
  unfold pad
  split
  · exact hv i (by assumption)
  · split <;> decide
/-- the code of a short row -/
def cmac (S rk : Nat → Nat) (n : Nat) (v : Nat → Nat) : Nat → Nat := encN S dblN rk (fun i => pad n v i ^^^ dbS (dbS (encN S dblN rk (fun _ => 0) 10)) i) 10
/-- the class: a code, under a key that was learnt -/
theorem c_make {fu : Nat} {A : mwM} {L : mwL} {key row len n : Nat} {S rk v : Nat → Nat} (hf : 17 ≤ fu) (hkey : key < 17) (hS : bytes A 98 256 S) (hD : bytes A 99 256 dblN) (hk : bytes A (101 + key) 176 rk) (h2 : bytes A (119 + key) 16 (dbS (dbS (encN S dblN rk (fun _ => 0) 10)))) (hn : n < 16) (hnl : n ≤ len) (hrow : row ≠ 137) (hv : bytes A row n v) : wq (DX3_make fu (sI key) row len (sI n) A L) (fun q => q.2 = L ∧ bytes q.1 138 16 (cmac S rk n v) ∧ ∀ b y, b ≠ 137 → b ≠ 138 → q.1 b y = A b y) := by
  have hv' : ∀ i, i < n → v i < 256 := fun i hi => (hv i hi).2
  unfold DX3_make
  refine wq_for (body := fun r s => fX3_make_i3 fu (sI key) row len (sI n) r s.1 s.2.1 s.2.2) (fun i (a : mwM) => (sI i, a, L)) (fun i a => (∀ y, y < i → a 137 y = sI (pad n v y ^^^ dbS (dbS (encN S dblN rk (fun _ => 0) 10)) y)) ∧ ∀ b y, b ≠ 137 → a b y = A b y) 16 ?_ ?_ 16 0 A fu (by omega) (by omega) ⟨fun y hy => by omega, fun _ _ _ => rfl⟩
  · intro i a r hi ⟨s1, s2⟩ ih
    show wq (fX3_make_i3 fu (sI key) row len (sI n) r (sI i) a L) _
    have fin : ∀ (z : Nat), z = pad n v i → wq (fX3_make_b42 fu (sI key) row len (sI n) r (sI i) (sI i) (sI z) a L) (fun q => q.2 = L ∧ bytes q.1 138 16 (cmac S rk n v) ∧ ∀ b y, b ≠ 137 → b ≠ 138 → q.1 b y = A b y) := by
      intro z hz
      unfold fX3_make_b42
      rw [mck_s hkey (by omega), mck_s hi (by omega), mck_s hi (by omega), sI_nn (by omega), sI_nn (by omega), s2 (119 + key) _ (by omega), (h2 i hi).1, sI_xor, hz]
      simp only [mlet]
      rw [sI_1]
      refine ih (mset a 137 i (sI (pad n v i ^^^ dbS (dbS (encN S dblN rk (fun _ => 0) 10)) i))) ⟨?_, ?_⟩
      · intro y hy
        by_cases hyi : y = i
        · rw [hyi, mset_s]
        · rw [mset_j hyi]; exact s1 y (by omega)
      · intro b y q
        rw [mset_k q]; exact s2 b y q
    unfold fX3_make_i3
    rw [if_neg (by rw [sI_lle (by omega) (by omega)]; omega)]
    by_cases h1 : i < n
    · rw [if_neg (by rw [sI_le (by omega) (by omega)]; omega), mck_s (by omega) (by omega), sI_nn (by omega), s2 row _ hrow, (hv i h1).1]
      exact fin _ (by unfold pad; rw [if_pos h1])
    · rw [if_pos (by rw [sI_le (by omega) (by omega)]; omega)]
      by_cases h3 : i = n
      · rw [if_pos (by rw [h3])]
        exact fin 128 (by unfold pad; rw [if_neg h1, if_pos h3])
      · rw [if_neg (by rw [sI_eq (by omega) (by omega)]; exact h3)]
        exact fin 0 (by unfold pad; rw [if_neg h1, if_neg h3])
  · intro a r ⟨s1, s2⟩
    show wq (fX3_make_i3 fu (sI key) row len (sI n) r (sI 16) a L) _
    unfold fX3_make_i3
    rw [if_pos (by decide)]
    refine wq_b2 (c_encrypt (x := fun i => pad n v i ^^^ dbS (dbS (encN S dblN rk (fun _ => 0) 10)) i) hf hkey (fun y hy => by rw [s2 _ _ (by decide)]; exact hS y hy) (fun y hy => by rw [s2 _ _ (by decide)]; exact hD y hy) (fun y hy => by rw [s2 _ _ (by omega)]; exact hk y hy) (fun y hy => ⟨s1 y hy, xor_8 (pad_lt hv' y) (h2 y hy).2⟩)) ?_
    rintro A1 L1 ⟨hL, e1, e2⟩
    dsimp only at hL e1 e2
    subst hL
    refine wq_some ⟨rfl, e1, ?_⟩
    intro b y q1 q2
    dsimp only
    rw [e2 b y q1 q2, s2 b y q1]
theorem ix_n : ∀ n, n < 16 → sI n / 16 * 16 + 16 = 16 ∧ (1 ≤ n → ¬ (sI n - sI n / 16 * 16 = 0)) := by decide +kernel
/-- the reference: the code of a short row -/
theorem m_codeOf {fu : Nat} {M : mwM} {L : mwL} {base n : Nat} {S k0 v : Nat → Nat} (hf : 161 ≤ fu) (hb : base ≤ 256) (hn : n < 16) (hn1 : 1 ≤ n) (hS : bytes M 868 256 S) (hk : ∀ i, i < 16 → M 855 (base + i) = sI (k0 i) ∧ k0 i < 256) (hv : bytes M 867 n v) : wq (DX14_codeOf fu (sI base) (sI n) M L) (fun q => q.2 = L ∧ bytes q.1 863 16 (cmac S (schL S k0 160) n v) ∧ ∀ b y, b ≠ 863 → b ≠ 864 → b ≠ 865 → b ≠ 866 → q.1 b y = M b y) := by
  have hv' : ∀ i, i < n → v i < 256 := fun i hi => (hv i hi).2
  obtain ⟨x1, x2⟩ := ix_n n hn
  have x3 := x2 hn1
  -- the last block
  have lastb : ∀ (M1 : mwM) (m : Nat → Nat), bytes M1 866 16 m → (∀ b y, b ≠ 863 → b ≠ 864 → b ≠ 865 → b ≠ 866 → M1 b y = M b y) → wq (fX14_codeOf_h104 fu (sI base) (sI n) fu (sI 16, 0, M1, L)) (fun q => q.2 = L ∧ bytes q.1 863 16 (encN S dblN (schL S k0 160) (fun i => pad n v i ^^^ m i) 10) ∧ ∀ b y, b ≠ 863 → b ≠ 864 → b ≠ 865 → b ≠ 866 → q.1 b y = M b y) := by
    intro M1 m hm hfr
    refine wq_for (body := fun r s => fX14_codeOf_i104 fu (sI base) (sI n) r s.1 s.2.1 s.2.2.1 s.2.2.2) (fun i (a : mwM) => (sI 16, sI i, a, L)) (fun i a => (∀ y, y < i → a 863 y = 0) ∧ ∀ b y, b ≠ 863 → a b y = M1 b y) 16 ?_ ?_ 16 0 M1 fu (by omega) (by omega) ⟨fun y hy => by omega, fun _ _ _ => rfl⟩
    · intro i a r hi ⟨s1, s2⟩ ih
      show wq (fX14_codeOf_i104 fu (sI base) (sI n) r (sI 16) (sI i) a L) _
      unfold fX14_codeOf_i104
      rw [if_neg (by rw [sI_lle (by omega) (by omega)]; omega), mck_s hi (by omega), sI_nn (by omega)]
      simp only [mlet]
      rw [sI_1]
      refine ih (mset a 863 i 0) ⟨?_, ?_⟩
      · intro y hy
        by_cases hyi : y = i
        · rw [hyi, mset_s]
        · rw [mset_j hyi]; exact s1 y (by omega)
      · intro b y q
        rw [mset_k q]; exact s2 b y q
    · intro a r ⟨s1, s2⟩
      show wq (fX14_codeOf_i104 fu (sI base) (sI n) r (sI 16) (sI 16) a L) _
      unfold fX14_codeOf_i104
      rw [if_pos (by decide)]
      obtain ⟨g, hg⟩ : ∃ g, fu = g + 2 := ⟨fu - 2, by omega⟩
      have h128 : fX14_codeOf_h128 fu (sI base) (sI n) fu (sI 16, 0, a, L) = fX14_codeOf_i128 fu (sI base) (sI n) (fX14_codeOf_h128 fu (sI base) (sI n) (g + 1)) (sI 16) 0 a L := by
        unfold fX14_codeOf_h128
        conv => lhs; rw [show mloop (fun r128 s => fX14_codeOf_i128 fu (sI base) (sI n) r128 s.1 s.2.1 s.2.2.1 s.2.2.2) fu = mloop (fun r128 s => fX14_codeOf_i128 fu (sI base) (sI n) r128 s.1 s.2.1 s.2.2.1 s.2.2.2) (g + 2) from by rw [hg]]
        rfl
      rw [h128]
      unfold fX14_codeOf_i128
      rw [if_neg (by decide)]
      refine wq_for (body := fun r s => fX14_codeOf_i138 fu (sI base) (sI n) (fX14_codeOf_h128 fu (sI base) (sI n) (g + 1)) r s.1 s.2.1 s.2.2.1 s.2.2.2.1 s.2.2.2.2) (fun i (a2 : mwM) => (sI 16, 0, sI i, a2, L)) (fun i a2 => (∀ y, y < i → a2 863 y = sI (pad n v y ^^^ m y)) ∧ (∀ y, i ≤ y → y < 16 → a2 863 y = 0) ∧ ∀ b y, b ≠ 863 → a2 b y = M1 b y) 16 ?_ ?_ 16 0 a fu (by omega) (by omega) ⟨fun y hy => by omega, fun y _ hy => s1 y hy, s2⟩
      · intro i a2 r2 hi ⟨t1, t2, t3⟩ ih
        show wq (fX14_codeOf_i138 fu (sI base) (sI n) (fX14_codeOf_h128 fu (sI base) (sI n) (g + 1)) r2 (sI 16) 0 (sI i) a2 L) _
        have fin : ∀ (z : Nat), z = pad n v i → wq (fX14_codeOf_b183 fu (sI base) (sI n) (fX14_codeOf_h128 fu (sI base) (sI n) (g + 1)) r2 (sI 16) 0 (sI i) (sI z) a2 L) (fun q => q.2 = L ∧ bytes q.1 863 16 (encN S dblN (schL S k0 160) (fun i => pad n v i ^^^ m i) 10) ∧ ∀ b y, b ≠ 863 → b ≠ 864 → b ≠ 865 → b ≠ 866 → q.1 b y = M b y) := by
          intro z hz
          unfold fX14_codeOf_b183 fX14_codeOf_b234
          rw [mck_s hi (by omega), mck_s hi (by omega), sI_nn (by omega), t2 i (Nat.le_refl _) hi]
          simp only [mlet]
          rw [show (0 : Int32) ^^^ sI z = sI z from by rw [show (0 : Int32) = sI 0 from rfl, sI_xor, Nat.zero_xor]]
          rw [if_pos (show (0 : Int32) + 16 = sI 16 from by decide), mck_s hi (by omega), mck_s hi (by omega), mck_s hi (by omega), mset_s, mset_k (a := 866) (by decide), t3 866 _ (by decide), (hm i hi).1, sI_xor, hz, sI_1, mset_mset]
          refine ih (mset a2 863 i (sI (pad n v i ^^^ m i))) ⟨?_, ?_, ?_⟩
          · intro y hy
            by_cases hyi : y = i
            · rw [hyi, mset_s]
            · rw [mset_j hyi]; exact t1 y (by omega)
          · intro y h1 h2
            rw [mset_j (by omega)]; exact t2 y (by omega) h2
          · intro b y q
            rw [mset_k q]; exact t3 b y q
        unfold fX14_codeOf_i138
        rw [if_neg (by rw [sI_lle (by omega) (by omega)]; omega), show (0 : Int32) + sI i = sI i from Int32.zero_add _]
        by_cases h1 : i < n
        · rw [if_neg (by rw [sI_le (by omega) (by omega)]; omega), mck_s (by omega) (by omega), sI_nn (by omega), t3 867 _ (by decide), hfr 867 _ (by decide) (by decide) (by decide) (by decide), (hv i h1).1]
          exact fin _ (by unfold pad; rw [if_pos h1])
        · rw [if_pos (by rw [sI_le (by omega) (by omega)]; omega)]
          by_cases h3 : i = n
          · rw [if_pos (by rw [h3])]
            exact fin 128 (by unfold pad; rw [if_neg h1, if_pos h3])
          · rw [if_neg (by rw [sI_eq (by omega) (by omega)]; exact h3)]
            exact fin 0 (by unfold pad; rw [if_neg h1, if_neg h3])
      · intro a2 r2 ⟨t1, t2, t3⟩
        show wq (fX14_codeOf_i138 fu (sI base) (sI n) (fX14_codeOf_h128 fu (sI base) (sI n) (g + 1)) r2 (sI 16) 0 (sI 16) a2 L) _
        unfold fX14_codeOf_i138
        rw [if_pos (by decide)]
        refine wq_b2 (m_cipher (x := fun i => pad n v i ^^^ m i) hf hb (fun y hy => by rw [t3 _ _ (by decide), hfr _ _ (by decide) (by decide) (by decide) (by decide)]; exact hS y hy) (fun i hi => by rw [t3 _ _ (by decide), hfr _ _ (by decide) (by decide) (by decide) (by decide)]; exact hk i hi) (fun y hy => ⟨t1 y hy, xor_8 (pad_lt hv' y) (hm y hy).2⟩)) ?_
        rintro M3 L3 ⟨hL, e1, e2⟩
        dsimp only at hL e1 e2
        subst hL
        simp only [mlet]
        have hend : fX14_codeOf_h128 fu (sI base) (sI n) (g + 1) (sI 16, 0 + 16, M3, L3) = some (M3, L3) := by
          unfold fX14_codeOf_h128
          rw [mloop_S]
          show fX14_codeOf_i128 fu (sI base) (sI n) _ (sI 16) (0 + 16) M3 L3 = _
          unfold fX14_codeOf_i128
          rw [if_pos (by decide)]
        rw [hend]
        refine wq_some ⟨rfl, e1, ?_⟩
        intro b y h1 h2 h3 h4
        dsimp only
        rw [e2 b y h1 h2 h3, t3 b y h1, hfr b y h1 h2 h3 h4]
  unfold DX14_codeOf
  refine wq_for (body := fun r s => fX14_codeOf_i2 fu (sI base) (sI n) r s.1 s.2.1 s.2.2) (fun i (a : mwM) => (sI i, a, L)) (fun i a => (∀ y, y < i → a 863 y = sI 0) ∧ ∀ b y, b ≠ 863 → a b y = M b y) 16 ?_ ?_ 16 0 M fu (by omega) (by omega) ⟨fun y hy => by omega, fun _ _ _ => rfl⟩
  · intro i a r hi ⟨s1, s2⟩ ih
    show wq (fX14_codeOf_i2 fu (sI base) (sI n) r (sI i) a L) _
    unfold fX14_codeOf_i2
    rw [if_neg (by rw [sI_lle (by omega) (by omega)]; omega), mck_s hi (by omega), sI_nn (by omega)]
    simp only [mlet]
    rw [sI_1]
    refine ih (mset a 863 i 0) ⟨?_, ?_⟩
    · intro y hy
      by_cases hyi : y = i
      · rw [hyi, mset_s]; rfl
      · rw [mset_j hyi]; exact s1 y (by omega)
    · intro b y q
      rw [mset_k q]; exact s2 b y q
  · intro a r ⟨s1, s2⟩
    show wq (fX14_codeOf_i2 fu (sI base) (sI n) r (sI 16) a L) _
    unfold fX14_codeOf_i2
    rw [if_pos (by decide)]
    refine wq_b2 (m_cipher (x := fun _ => 0) hf hb (fun y hy => by rw [s2 _ _ (by decide)]; exact hS y hy) (fun i hi => by rw [s2 _ _ (by decide)]; exact hk i hi) (fun y hy => ⟨s1 y hy, (by decide : 0 < 256)⟩)) ?_
    rintro M1 L1 ⟨hL, e1, e2⟩
    dsimp only at hL e1 e2
    subst hL
    refine wq_for (body := fun r s => fX14_codeOf_i28 fu (sI base) (sI n) r s.1 s.2.1 s.2.2) (fun i (a2 : mwM) => (sI i, a2, L1)) (fun i a2 => (∀ y, y < i → a2 866 y = sI (encN S dblN (schL S k0 160) (fun _ => 0) 10 y)) ∧ ∀ b y, b ≠ 866 → a2 b y = M1 b y) 16 ?_ ?_ 16 0 M1 fu (by omega) (by omega) ⟨fun y hy => by omega, fun _ _ _ => rfl⟩
    · intro i a2 r2 hi ⟨t1, t2⟩ ih
      show wq (fX14_codeOf_i28 fu (sI base) (sI n) r2 (sI i) a2 L1) _
      unfold fX14_codeOf_i28
      rw [if_neg (by rw [sI_lle (by omega) (by omega)]; omega), mck_s hi (by omega), mck_s hi (by omega), sI_nn (by omega), t2 863 _ (by decide), (e1 i hi).1]
      simp only [mlet]
      rw [sI_1]
      refine ih (mset a2 866 i (sI (encN S dblN (schL S k0 160) (fun _ => 0) 10 i))) ⟨?_, ?_⟩
      · intro y hy
        by_cases hyi : y = i
        · rw [hyi, mset_s]
        · rw [mset_j hyi]; exact t1 y (by omega)
      · intro b y q
        rw [mset_k q]; exact t2 b y q
    · intro a2 r2 ⟨t1, t2⟩
      show wq (fX14_codeOf_i28 fu (sI base) (sI n) r2 (sI 16) a2 L1) _
      unfold fX14_codeOf_i28 fX14_codeOf_b71 fX14_codeOf_b72 fX14_codeOf_b81 fX14_codeOf_b99
      rw [if_pos (by decide)]
      refine wq_b2 (m_doubled (by omega) (fun y hy => ⟨t1 y hy, (e1 y hy).2⟩)) ?_
      rintro M2 L2 ⟨hL2, d1, d2⟩
      dsimp only at hL2 d1 d2
      subst hL2
      rw [if_neg (by rw [sI_lel (by omega) (by decide)]; exact fun q => by have := Nat.le_zero.mp q; omega), if_neg x3, if_pos rfl]
      refine wq_b2 (m_doubled (by omega) d1) ?_
      rintro M3 L3 ⟨hL3, f1, f2⟩
      dsimp only at hL3 f1 f2
      subst hL3
      rw [if_pos rfl, x1]
      refine lastb M3 _ f1 ?_
      intro b y h1 h2 h3 h4
      rw [f2 b y h4, d2 b y h4, t2 b y h4, e2 b y h1 h2 h3, s2 b y h1]
