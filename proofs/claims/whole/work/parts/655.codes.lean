/-! the reference: the code of a short row -/
def kd (i : Nat) : Int32 := sI 15 - sI i
theorem kd_1 : ∀ i, i < 16 → kd i + (-1) = kd (i + 1) ∧ kd i = sI (15 - i) ∧ ¬ kd i < 0 := by decide +kernel
theorem kd_16 : kd 16 < 0 := by decide +kernel
theorem m_doubled {fu : Nat} {M : mwM} {L : mwL} {x : Nat → Nat} (hf : 17 ≤ fu) (hx : bytes M 866 16 x) : wq (DX14_doubled fu M L) (fun q => q.2 = L ∧ bytes q.1 866 16 (dbS x) ∧ ∀ b y, b ≠ 866 → q.1 b y = M b y) := by
  have hx' : ∀ i, i < 16 → x i < 256 := fun i hi => (hx i hi).2
  unfold DX14_doubled
  refine wq_for (body := fun r s => fX14_doubled_i5 fu r s.1 s.2.1 s.2.2.1 s.2.2.2) (fun i (a : Nat × mwM) => (sI a.1, kd i, a.2, L)) (fun i a => a.1 < 2 ∧ (0 < i → a.1 = hi7 (x (16 - i))) ∧ (i = 0 → a.1 = 0) ∧ (∀ y, y < 16 → y + i < 16 → a.2 866 y = sI (x y)) ∧ (∀ y, y < 16 → 16 ≤ y + i → a.2 866 y = sI (if y < 15 then lo7 (x y) (hi7 (x (y + 1))) else lo7 (x y) 0)) ∧ ∀ b y, b ≠ 866 → a.2 b y = M b y) 16 ?_ ?_ 16 0 (0, M) fu (by omega) (by omega) ⟨(by decide : 0 < 2), fun h => by omega, fun _ => rfl, fun y hy _ => (hx y hy).1, fun y h1 h2 => by omega, fun _ _ _ => rfl⟩
  · rintro i ⟨c, a⟩ r hi ⟨p0, p1, p1', p2, p3, p4⟩ ih
    dsimp only at p0 p1 p1' p2 p3 p4
    show wq (fX14_doubled_i5 fu r (sI c) (kd i) a L) _
    obtain ⟨k1, k2, k3⟩ := kd_1 i hi
    have hxl := hx' (15 - i) (by omega)
    obtain ⟨e1, e2⟩ := sh_m _ hxl c p0
    unfold fX14_doubled_i5
    rw [if_neg k3, k1, k2, mck_s (by omega) (by omega), sI_nn (by omega), p2 (15 - i) (by omega) (by omega)]
    simp only [mlet]
    rw [mck_s (by omega) (by omega), e1, e2]
    refine ih (hi7 (x (15 - i)), mset a 866 (15 - i) (sI (lo7 (x (15 - i)) c))) ⟨hi7_lt _ hxl, fun _ => ?_, fun h => by omega, ?_, ?_, ?_⟩
    · show hi7 (x (15 - i)) = hi7 (x (16 - (i + 1)))
      rw [show 16 - (i + 1) = 15 - i by omega]
    · intro y h1 h2
      dsimp only
      rw [mset_j (by omega)]; exact p2 y h1 (by omega)
    · intro y h1 h2
      dsimp only
      by_cases hy : y = 15 - i
      · rw [hy, mset_s]
        by_cases hi0 : i = 0
        · rw [p1' hi0, if_neg (by omega)]
        · rw [p1 (by omega), if_pos (by omega), show 15 - i + 1 = 16 - i by omega]
      · rw [mset_j hy]; exact p3 y h1 (by omega)
    · intro b y q
      dsimp only
      rw [mset_k q]; exact p4 b y q
  · rintro ⟨c, a⟩ r ⟨p0, p1, _, p2, p3, p4⟩
    dsimp only at p0 p1 p2 p3 p4
    show wq (fX14_doubled_i5 fu r (sI c) (kd 16) a L) _
    unfold fX14_doubled_i5
    have hc := p1 (by omega)
    rw [if_pos kd_16, show (15 : Int32).toNatClampNeg = 15 from by decide, p3 15 (by omega) (by omega), if_neg (by omega)]
    simp only [mlet]
    have h135 : (135 : Int32) * sI c = sI (if hi7 (x 0) = 1 then 135 else 0) := by
      have hc01 : c = 0 ∨ c = 1 := by omega
      have hc' : c = hi7 (x 0) := hc
      rcases hc01 with h | h
      · rw [h] at hc' ⊢
        rw [if_neg (by omega)]
        decide
      · rw [h] at hc' ⊢
        rw [if_pos hc'.symm]
        decide
    rw [h135, sI_xor]
    refine wq_some ⟨rfl, ?_, ?_⟩
    · intro i hi
      refine ⟨?_, dbS_lt hx' i hi⟩
      dsimp only
      unfold dbS
      by_cases hi15 : i = 15
      · rw [hi15, mset_s, if_neg (show ¬ 15 < 15 by omega)]
      · rw [mset_j hi15, p3 i hi (by omega), if_pos (by omega), if_pos (by omega)]
    · intro b y q
      dsimp only
      rw [mset_k q]; exact p4 b y q
theorem m_cipher {fu : Nat} {M : mwM} {L : mwL} {base : Nat} {S k0 x : Nat → Nat} (hf : 161 ≤ fu) (hb : base ≤ 256) (hS : bytes M 868 256 S) (hk : ∀ i, i < 16 → M 855 (base + i) = sI (k0 i) ∧ k0 i < 256) (hx : bytes M 863 16 x) : wq (DX14_cipher fu (sI base) M L) (fun q => q.2 = L ∧ bytes q.1 863 16 (encN S dblN (schL S k0 160) x 10) ∧ ∀ b y, b ≠ 863 → b ≠ 864 → b ≠ 865 → q.1 b y = M b y) := by
  have hx' : ∀ i, i < 16 → x i < 256 := fun i hi => (hx i hi).2
  have hS' : ∀ y, y < 256 → S y < 256 := fun y hy => (hS y hy).2
  unfold DX14_cipher
  refine wq_b2 (m_makeRound hf hb hS hk) ?_
  rintro M1 L1 ⟨hL, r1, r2⟩
  dsimp only at hL r1 r2
  subst hL
  refine wq_for (body := fun r s => fX14_cipher_i7 fu (sI base) r s.1 s.2.1 s.2.2) (fun i (a : mwM) => (sI i, a, L1)) (fun i a => (∀ y, y < i → a 863 y = sI (encN S dblN (schL S k0 160) x 0 y)) ∧ (∀ y, i ≤ y → y < 16 → a 863 y = sI (x y)) ∧ ∀ b y, b ≠ 863 → a b y = M1 b y) 16 ?_ ?_ 16 0 M1 fu (by omega) (by omega) ⟨fun y hy => by omega, fun y _ hy => by rw [r2 _ _ (by decide)]; exact (hx y hy).1, fun _ _ _ => rfl⟩
  · intro i a r hi ⟨s1, s2, s3⟩ ih
    show wq (fX14_cipher_i7 fu (sI base) r (sI i) a L1) _
    unfold fX14_cipher_i7
    rw [if_neg (by rw [sI_lle (by omega) (by omega)]; omega), mck_s hi (by omega), mck_s (by omega) (by omega), mck_s hi (by omega), sI_nn (by omega), s2 i (Nat.le_refl _) hi, s3 865 _ (by omega), (r1 i (by omega)).1, sI_xor]
    simp only [mlet]
    rw [sI_1]
    refine ih (mset a 863 i (sI (x i ^^^ schL S k0 160 i))) ⟨?_, ?_, ?_⟩
    · intro y hy
      by_cases hyi : y = i
      · rw [hyi, mset_s]; rfl
      · rw [mset_j hyi]; exact s1 y (by omega)
    · intro y h1 h2
      rw [mset_j (by omega)]; exact s2 y (by omega) h2
    · intro b y q
      rw [mset_k q]; exact s3 b y q
  · intro a r ⟨s1, s2, s3⟩
    show wq (fX14_cipher_i7 fu (sI base) r (sI 16) a L1) _
    unfold fX14_cipher_i7
    rw [if_pos (by decide)]
    have hk' : ∀ i, i < 176 → schL S k0 160 i < 256 := fun i hi => (r1 i hi).2
    refine wq_mono (m_rounds (x := x) (rk := schL S k0 160) (S := S) (by omega) (fun y hy => by rw [s3 _ _ (by decide), r2 _ _ (by decide)]; exact hS y hy) (fun y hy => by rw [s3 _ _ (by decide)]; exact r1 y hy) (fun y hy => ⟨s1 y hy, encN_lt hS' dblN_lt hk' hx' 0 (by omega) y hy⟩) hx') ?_
    rintro ⟨M2, L2⟩ ⟨q1, q2, q3⟩
    dsimp only at q1 q2 q3
    refine ⟨q1, q2, ?_⟩
    intro b y h1 h2 h3
    dsimp only
    rw [q3 b y h1 h2, s3 b y h1, r2 b y h3]
