/-! the round keys -/
def powN : Nat → Nat
  | 0 => 1
  | n + 1 => dblN (powN n)
theorem powN_lt : ∀ n, powN n < 256 := by
  intro n
  induction n with
  | zero => decide
  | succ n ih => exact dblN_lt _ ih
def frst (k : Nat) : Bool := decide (k % 16 < 4)
def zero16 (k : Nat) : Bool := decide (k % 16 = 0)
def rt4 (k : Nat) : Nat := k - 4 - k % 4 + (k % 4 + 1) % 4
def pwB (k : Nat) : Nat := powN (k / 16 - 1)
/-- the octet k of the round keys, out of those before it -/
def schV (S f : Nat → Nat) (k : Nat) : Nat := f (k - 16) ^^^ (if frst k = true then (if zero16 k = true then S (f (rt4 k)) ^^^ pwB k else S (f (rt4 k))) else f (k - 4))
def schL (S k0 : Nat → Nat) : Nat → Nat → Nat
  | 0 => k0
  | n + 1 => fun i => if i = 16 + n then schV S (schL S k0 n) (16 + n) else schL S k0 n i
theorem rt4_lt : ∀ k, k < 176 → 16 ≤ k → rt4 k < k := by decide +kernel
theorem schL_lt {S k0 : Nat → Nat} (hS : ∀ y, y < 256 → S y < 256) (hk : ∀ i, i < 16 → k0 i < 256) : ∀ n, n ≤ 160 → ∀ i, i < 16 + n → schL S k0 n i < 256 := by
  intro n
  induction n with
  | zero => intro _ i hi; exact hk i (by omega)
  | succ n ih =>
    intro hn i hi
    have ihn := ih (by omega)
    show (if i = 16 + n then schV S (schL S k0 n) (16 + n) else schL S k0 n i) < 256
    split
    · unfold schV
      have hr := rt4_lt (16 + n) (by omega) (by omega)
      have hs := hS _ (ihn _ hr)
      refine xor_8 (ihn _ (by omega)) ?_
      split
      · split
        · exact xor_8 hs (powN_lt _)
        · exact hs
      · exact ihn _ (by omega)
    · exact ihn i (by omega)
/-- powers, as the reference keeps them before octet k -/
def pwA (k : Nat) : Nat := if zero16 k = true then powN (k / 16 - 1) else powN (k / 16)
theorem pwA_1 : ∀ k, k < 176 → 16 ≤ k → (zero16 k = true → pwA k = pwB k ∧ dblN (pwA k) = pwA (k + 1)) ∧ (zero16 k = false → pwA (k + 1) = pwA k) := by decide +kernel
theorem pwA_lt (k : Nat) : pwA k < 256 := by
  unfold pwA
  split <;> exact powN_lt _
theorem ix_k : ∀ k, k < 176 → 16 ≤ k → (sI k - sI k / 4 * 4 = sI (k % 4)) ∧ ((4 ≤ sI k - sI k / 16 * 16) ↔ frst k = false) ∧ (((sI k - 4) - sI (k % 4)) + ((sI (k % 4) + 1) - (sI (k % 4) + 1) / 4 * 4) = sI (rt4 k)) ∧ (sI k - 4 = sI (k - 4)) ∧ (sI k - 16 = sI (k - 16)) ∧ (frst k = true → ((sI (k % 4) = 0) ↔ zero16 k = true)) ∧ (frst k = false → zero16 k = false) := by decide +kernel
theorem m_makeRound {fu : Nat} {M : mwM} {L : mwL} {base : Nat} {S k0 : Nat → Nat} (hf : 161 ≤ fu) (hb : base ≤ 256) (hS : bytes M 868 256 S) (hk : ∀ i, i < 16 → M 855 (base + i) = sI (k0 i) ∧ k0 i < 256) : wq (DX14_makeRound fu (sI base) M L) (fun q => q.2 = L ∧ bytes q.1 865 176 (schL S k0 160) ∧ ∀ b y, b ≠ 865 → q.1 b y = M b y) := by
  have hS' : ∀ y, y < 256 → S y < 256 := fun y hy => (hS y hy).2
  have hlt := schL_lt (k0 := k0) hS' (fun i hi => (hk i hi).2)
  have sched : ∀ (M1 : mwM), (∀ i, i < 16 → M1 865 i = sI (k0 i)) → (∀ b y, b ≠ 865 → M1 b y = M b y) → wq (fX14_makeRound_h33 fu (sI base) fu (1, 16, M1, L)) (fun q => q.2 = L ∧ bytes q.1 865 176 (schL S k0 160) ∧ ∀ b y, b ≠ 865 → q.1 b y = M b y) := by
    intro M1 h1 h2
    refine wq_for (body := fun r s => fX14_makeRound_i33 fu (sI base) r s.1 s.2.1 s.2.2.1 s.2.2.2) (fun n (a : mwM) => (sI (pwA (16 + n)), sI (16 + n), a, L)) (fun n a => (∀ i, i < 16 + n → a 865 i = sI (schL S k0 n i)) ∧ ∀ b y, b ≠ 865 → a b y = M b y) 160 ?_ ?_ 160 0 M1 fu (by omega) (by omega) ⟨h1, h2⟩
    · intro n a r hn ⟨p1, p2⟩ ih
      show wq (fX14_makeRound_i33 fu (sI base) r (sI (pwA (16 + n))) (sI (16 + n)) a L) _
      have hR := rt4_lt (16 + n) (by omega) (by omega)
      obtain ⟨x1, x2, x3, x4, x5, x6, x7⟩ := ix_k (16 + n) (by omega) (by omega)
      obtain ⟨z1, z2⟩ := pwA_1 (16 + n) (by omega) (by omega)
      have hpl := pwA_lt (16 + n)
      have hl := hlt n (by omega)
      have hrl := hl _ hR
      clear hlt
      generalize hk4 : (16 + n) % 4 = k4 at x1 x3 x6
      -- the end of a step
      have fin : ∀ (v p : Nat), p < 256 → p = pwA (16 + n + 1) → schL S k0 n (16 + n - 16) ^^^ v = schL S k0 (n + 1) (16 + n) → wq (fX14_makeRound_b140 fu (sI base) r (sI (16 + n)) (sI v) (sI p) a L) (fun q => q.2 = L ∧ bytes q.1 865 176 (schL S k0 160) ∧ ∀ b y, b ≠ 865 → q.1 b y = M b y) := by
        intro v p hp hpe hv
        unfold fX14_makeRound_b140
        rw [x5, mck_s (by omega) (by omega), mck_s (by omega) (by omega), sI_nn (by omega), sI_nn (by omega), p1 _ (by omega), sI_xor, hv]
        simp only [mlet]
        rw [sI_1, hpe]
        refine ih (mset a 865 (16 + n) (sI (schL S k0 (n + 1) (16 + n)))) ⟨?_, ?_⟩
        · intro i hi
          by_cases hin : i = 16 + n
          · rw [hin, mset_s]
          · rw [mset_j hin, p1 i (by omega)]
            show _ = sI (if i = 16 + n then _ else schL S k0 n i)
            rw [if_neg hin]
        · intro b y q
          rw [mset_k q]; exact p2 b y q
      have hval : schL S k0 (n + 1) (16 + n) = schV S (schL S k0 n) (16 + n) := by
        show (if 16 + n = 16 + n then _ else _) = _
        rw [if_pos rfl]
      unfold fX14_makeRound_i33
      rw [if_neg (by rw [sI_lle (by omega) (by omega)]; omega)]
      simp only [mlet]
      rw [x1]
      unfold fX14_makeRound_b58 fX14_makeRound_b98 fX14_makeRound_b117 fX14_makeRound_b119 fX14_makeRound_b139 DX14_substitute
      by_cases hF : frst (16 + n) = true
      · rw [if_neg (fun q => by have := x2.mp q; rw [hF] at this; cases this), if_neg (by decide), x3, mck_s (by omega) (by omega), sI_nn (by omega), p1 _ hR, mck_s hrl (by omega), mb3_s, sI_nn (by omega), p2 868 _ (by omega), (hS _ hrl).1]
        rw [if_neg (by decide)]
        have hsl := hS' _ hrl
        by_cases hZ : zero16 (16 + n) = true
        · obtain ⟨z3, z4⟩ := z1 hZ
          rw [if_pos ((x6 hF).mpr hZ), if_neg (by decide), if_pos ((x6 hF).mpr hZ), sI_xor, m_prod2 (by omega) hpl, mb3_s]
          refine fin _ _ (dblN_lt _ hpl) z4 ?_
          rw [hval]
          unfold schV
          rw [if_pos hF, if_pos hZ, z3]
        · have hZ' : zero16 (16 + n) = false := by simpa using hZ
          rw [if_neg (fun q => hZ ((x6 hF).mp q)), if_neg (by decide), if_neg (fun q => hZ ((x6 hF).mp q))]
          refine fin _ _ hpl (z2 hZ').symm ?_
          rw [hval]
          unfold schV
          rw [if_pos hF, if_neg hZ]
      · have hF' : frst (16 + n) = false := by simpa using hF
        rw [if_pos (x2.mpr hF'), if_pos rfl, x4, mck_s (by omega) (by omega), sI_nn (by omega), p1 _ (by omega), if_pos rfl, if_pos rfl]
        refine fin _ _ hpl (z2 (x7 hF')).symm ?_
        rw [hval]
        unfold schV
        rw [if_neg hF]
    · intro a r ⟨p1, p2⟩
      show wq (fX14_makeRound_i33 fu (sI base) r (sI (pwA (16 + 160))) (sI (16 + 160)) a L) _
      unfold fX14_makeRound_i33
      rw [if_pos (by decide)]
      exact wq_some ⟨rfl, fun i hi => ⟨p1 i (by omega), hlt 160 (Nat.le_refl _) i (by omega)⟩, p2⟩
  unfold DX14_makeRound
  refine wq_for (body := fun r s => fX14_makeRound_i2 fu (sI base) r s.1 s.2.1 s.2.2) (fun i (a : mwM) => (sI i, a, L)) (fun i a => (∀ y, y < i → a 865 y = sI (k0 y)) ∧ ∀ b y, b ≠ 865 → a b y = M b y) 16 ?_ ?_ 16 0 M fu (by omega) (by omega) ⟨fun y hy => by omega, fun _ _ _ => rfl⟩
  · intro i a r hi ⟨s1, s2⟩ ih
    show wq (fX14_makeRound_i2 fu (sI base) r (sI i) a L) _
    unfold fX14_makeRound_i2
    rw [if_neg (by rw [sI_lle (by omega) (by omega)]; omega), sI_add, mck_s (by omega) (by omega), mck_s (by omega) (by omega), sI_nn (by omega), sI_nn (by omega), s2 855 _ (by omega), (hk i hi).1]
    simp only [mlet]
    rw [sI_1]
    refine ih (mset a 865 i (sI (k0 i))) ⟨?_, ?_⟩
    · intro y hy
      by_cases hyi : y = i
      · rw [hyi, mset_s]
      · rw [mset_j hyi]; exact s1 y (by omega)
    · intro b y q
      rw [mset_k q]; exact s2 b y q
  · intro a r ⟨s1, s2⟩
    show wq (fX14_makeRound_i2 fu (sI base) r (sI 16) a L) _
    unfold fX14_makeRound_i2
    rw [if_pos (by decide)]
    exact sched a s1 s2
