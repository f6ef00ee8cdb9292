/-! the reference's run of one microsecond -/
theorem RC_M {A M M' : mwM} {L : mwL} {T C tn cn U : Nat} (h : RC A M L T C tn cn U) (hM : ∀ b y, b ≠ 808 → M' b y = M b y) : RC A M' L T C tn cn U := by
  obtain ⟨h1, h2, h3, h4, h5, h6, h7, h8, h9, h10, h11, h12, h13, h14, h15, h16, h17⟩ := h
  refine ⟨h1, h2, h3, h4, h5, by rw [hM _ _ (by omega)]; exact h6, by rw [hM _ _ (by omega)]; exact h7, by rw [hM _ _ (by omega)]; exact h8, h9, h10, by rw [hM _ _ (by omega)]; exact h11, by rw [hM _ _ (by omega)]; exact h12, fun r q1 q2 => by rw [hM _ _ (by omega)]; exact h13 r q1 q2, fun r q1 q2 => by rw [hM _ _ (by omega)]; exact h14 r q1 q2, by rw [hM _ _ (by omega)]; exact h15, ?_, h17⟩
  intro i hi
  obtain ⟨rk, co, pe, mi, nx, st, lf, wa, tu, us, dn, q1, q2, q3⟩ := h16 i hi
  exact ⟨rk, co, pe, mi, nx, st, lf, wa, tu, us, dn, q1, q2, tm_f q3 (fun b _ _ _ _ _ _ _ h8 _ => hM b _ h8) (hM _ _ (by omega)) (hM _ _ (by omega)) rfl (fun _ _ _ => rfl)⟩
theorem RCo_M {A M M' : mwM} {L : mwL} {T C t : Nat} (h : RCo A M L T C t) (hM : ∀ b y, b ≠ 808 → M' b y = M b y) : RCo A M' L T C t := by
  obtain ⟨tn, cn, U, cut, hR, ⟨c0, cT, c32, hseg⟩, h43, ht2, b1, b2, b3, h56, hSA, hW⟩ := h
  refine ⟨tn, cn, U, cut, RC_M hR hM, ⟨c0, cT, (hM _ _ (by omega)).trans c32, ?_⟩, h43, ht2, b1, b2, b3, h56, hSA, ?_⟩
  · intro j hj
    obtain ⟨s1, s2, s3, s4⟩ := hseg j hj
    exact ⟨s1, s2, fun k w1 w2 => (hM _ _ (by omega)).trans (s3 k w1 w2), s4⟩
  · intro s hs
    obtain ⟨v, v1, v2, v3⟩ := hW s hs
    exact ⟨v, v1, v2, fun c hc => (hM _ _ (by omega)).trans (v3 c hc)⟩
theorem m_ceil {fu : Nat} {M : mwM} {L : mwL} {T : Nat} (hf : 34 ≤ fu) (hT : T ≤ 12) (h7 : M 787 7 = sI T) (hk : ∀ k, k < T → M 794 k = 0) : wq (DX15_findCeilings fu M L) (fun q => q.2 = L ∧ ∀ b y, b ≠ 808 → q.1 b y = M b y) := by
  unfold DX15_findCeilings
  refine wq_for (body := fun r s => fX15_findCeilings_i2 fu r s.1 s.2.1 s.2.2) (fun i (a : mwM) => (sI i, a, L)) (fun _ a => ∀ b y, b ≠ 808 → a b y = M b y) 33 ?_ ?_ 32 1 M fu (by omega) (by omega) (fun _ _ _ => rfl)
  · intro i a r hi hP ih
    show wq (fX15_findCeilings_i2 fu r (sI i) a L) _
    unfold fX15_findCeilings_i2
    rw [if_neg (by rw [sI_llt (by omega) (by omega)]; omega), mck_s (by omega) (by omega), sI_nn (by omega)]
    simp only [mlet]
    rw [sI_1]
    exact ih (mset a 808 i 0) (fun b y hb => by rw [mset_k hb]; exact hP b y hb)
  · intro a r hP
    show wq (fX15_findCeilings_i2 fu r (sI 33) a L) _
    unfold fX15_findCeilings_i2
    rw [if_pos (by decide)]
    refine wq_for (body := fun r s => fX15_findCeilings_i23 fu r s.1 s.2.1 s.2.2) (fun i (_ : Unit) => (sI i, a, L)) (fun _ _ => True) T ?_ ?_ T 0 () fu (by omega) (by omega) trivial
    · intro i _ r2 hi _ ih
      show wq (fX15_findCeilings_i23 fu r2 (sI i) a L) _
      unfold fX15_findCeilings_i23 fX15_findCeilings_b87
      rw [hP 787 7 (by omega), h7, if_neg (by rw [sI_le (by omega) (by omega)]; omega), mck_s (by omega) (by omega), sI_nn (by omega)]
      simp only [mlet]
      rw [mck_s (by omega) (by omega), hP 794 i (by omega), hk i hi, if_neg (by decide), sI_1]
      exact ih () trivial
    · intro _ r2 _
      show wq (fX15_findCeilings_i23 fu r2 (sI T) a L) _
      unfold fX15_findCeilings_i23
      rw [hP 787 7 (by omega), h7, if_pos (by rw [sI_le (by omega) (by omega)]; omega)]
      exact wq_some ⟨rfl, hP⟩
theorem sL_sub {a b : Nat} (h : b ≤ a) : sL a - sL b = sL (a - b) := by
  have e : sL a = sL (a - b) + sL b := by rw [sL_add]; congr 1; omega
  rw [e]
  simp
theorem m_run1 {fu : Nat} {M : mwM} {L : mwL} {T t : Nat} {P : mwM × mwL → Prop} (hf : 34 ≤ fu) (ht : t < 20000) (hT : T ≤ 12) (h7 : M 787 7 = sI T) (hk : ∀ k, k < T → M 794 k = 0) (hN : L 787 43 = sL t) (h : ∀ M', (∀ b y, b ≠ 808 → M' b y = M b y) → wq (DX15_microsecond fu M' L) (fun q => P (q.2.1, q.2.2))) : wq (DX15_run fu 1 M L) (fun q => P (q.2.1, q.2.2)) := by
  unfold DX15_run
  rw [if_neg (by decide), hN, show (50000 : Int64) - sL t = sL (50000 - t) from sL_sub (a := 50000) (by omega), if_pos (by
    rw [lg_cmp_le]
    show sL 1 ≤ _
    rw [sL_le (by omega) (by omega)]
    omega)]
  refine wq_b2 (m_ceil hf hT h7 hk) ?_
  rintro M1 L1 ⟨hL1, hM1⟩
  dsimp only at hL1 hM1
  subst hL1
  obtain ⟨g, hg⟩ : ∃ g, fu = g + 2 := ⟨fu - 2, by omega⟩
  have hgo : wq (fX15_run_h31 fu 1 (g + 2) (0, 0, M1, L1)) (fun q => P (q.2.1, q.2.2)) := by
    unfold fX15_run_h31
    rw [mloop_S]
    show wq (fX15_run_i31 fu 1 (fX15_run_h31 fu 1 (g + 1)) 0 0 M1 L1) _
    unfold fX15_run_i31
    rw [if_neg (by decide)]
    refine wq_b3 (h M1 hM1) ?_
    rintro r M2 L2 hP
    dsimp only at hP
    simp only [mlet]
    unfold fX15_run_h31
    rw [mloop_S]
    show wq (fX15_run_i31 fu 1 _ (0 + r) (0 + 1) M2 L2) _
    unfold fX15_run_i31
    rw [if_pos (by decide)]
    exact wq_some hP
  rw [← hg] at hgo
  exact hgo
/-- the cores' microsecond, as both sides call it -/
theorem st_cores {fu : Nat} {A M : mwM} {L Lc : mwL} {T C t : Nat} (hf : 500 ≤ fu) (ht : t < 20000) (h : RCo A M L T C t) : ∃ A', DX4_passMicrosecond fu (sI t) A Lc = some (A', Lc) ∧ wq (DX15_run fu 1 M L) (fun q => RCo A' q.2.1 q.2.2 T C (t + 1) ∧ (∃ fr, fr < 2 ^ T ∧ A' 5 5 = sI fr ∧ ∀ i, i < T → ∃ us us' mi dn, L 805 (i + 1) = sL us ∧ q.2.2 805 (i + 1) = sL us' ∧ us' < 1000000 ∧ us ≤ us' ∧ A 10 i = sI mi ∧ mi ≤ 1000 ∧ (fr.testBit i = true ↔ us < us' ∧ us' % (mi + 1) = 0) ∧ A 17 i = sI dn ∧ dn < 1000000 ∧ A' 17 i = sI (if fr.testBit i = true then dn + 1 else dn)) ∧ (∀ b y, b ≠ 5 → ¬ (11 ≤ b ∧ b ≤ 19) → A' b y = A b y) ∧ (∀ b y, (b < 787 ∨ 820 < b) → q.2.1 b y = M b y) ∧ ∀ b y, (b < 787 ∨ 820 < b) → q.2.2 b y = L b y) := by
  have h0 := h
  obtain ⟨tn, cn, U, cut, hR, _, h43, _, _, _, _, _, _, _⟩ := h0
  have hT := hR.1
  have h7 := hR.2.2.2.2.2.2.1
  have h794 : ∀ k, k < T → M 794 k = 0 := by
    obtain ⟨_, _, _, _, _, _, _, _, _, _, _, _, _, _, _, htA, _⟩ := hR
    intro k hk
    obtain ⟨rk, co, pe, mi, nx, st, lf, wa, tu, us, dn, q1, q2, q3⟩ := htA k hk
    exact q3.2.2.2.2.2.1
  obtain ⟨A', e1, _⟩ := st_micro (Lc := Lc) hf ht h
  refine ⟨A', e1, ?_⟩
  refine m_run1 (P := fun q => RCo A' q.1 q.2 T C (t + 1) ∧ (∃ fr, fr < 2 ^ T ∧ A' 5 5 = sI fr ∧ ∀ i, i < T → ∃ us us' mi dn, L 805 (i + 1) = sL us ∧ q.2 805 (i + 1) = sL us' ∧ us' < 1000000 ∧ us ≤ us' ∧ A 10 i = sI mi ∧ mi ≤ 1000 ∧ (fr.testBit i = true ↔ us < us' ∧ us' % (mi + 1) = 0) ∧ A 17 i = sI dn ∧ dn < 1000000 ∧ A' 17 i = sI (if fr.testBit i = true then dn + 1 else dn)) ∧ (∀ b y, b ≠ 5 → ¬ (11 ≤ b ∧ b ≤ 19) → A' b y = A b y) ∧ (∀ b y, (b < 787 ∨ 820 < b) → q.1 b y = M b y) ∧ ∀ b y, (b < 787 ∨ 820 < b) → q.2 b y = L b y) (by omega) ht hT h7 h794 h43 ?_
  intro M' hM'
  obtain ⟨A2, e2, e3⟩ := st_micro (Lc := Lc) hf ht (RCo_M h hM')
  rw [e1] at e2
  injection e2 with e2
  injection e2 with e2 _
  subst e2
  refine wq_mono e3 ?_
  rintro q ⟨q1, q2, q3, q4, q5⟩
  exact ⟨q1, q2, q3, fun b y hb => (q4 b y hb).trans (hM' b y (by omega)), q5⟩
/-! what the calls ask of the cores -/
theorem rwS_dig {v : Nat → Nat} (h : ∀ c, c < 6 → v c < 16) : ∀ n, n ≤ 6 → rwS v n < 16 ^ n ∧ ∀ c, c < n → rwS v n / 16 ^ c % 16 = v c := by
  intro n
  induction n with
  | zero => intro _; exact ⟨Nat.one_pos, fun c hc => by omega⟩
  | succ n ih =>
    intro hn
    obtain ⟨i1, i2⟩ := ih (by omega)
    have hv := h n (by omega)
    have e : rwS v (n + 1) = rwS v n + v n * 16 ^ n := rfl
    have hp : 0 < 16 ^ n := Nat.pow_pos (by omega)
    refine ⟨?_, ?_⟩
    · rw [e, Nat.pow_succ]
      have : (v n + 1) * 16 ^ n ≤ 16 * 16 ^ n := Nat.mul_le_mul_right _ (by omega)
      rw [Nat.add_mul, Nat.one_mul, Nat.mul_comm 16] at this
      omega
    · intro c hc
      rw [e]
      by_cases hcn : c = n
      · subst hcn
        rw [Nat.add_mul_div_right _ _ hp, Nat.div_eq_of_lt i1, Nat.zero_add, Nat.mod_eq_of_lt hv]
      · have hlt : c < n := by omega
        obtain ⟨d, hd⟩ : ∃ d, n = c + (d + 1) := ⟨n - c - 1, by omega⟩
        have hpc : 0 < 16 ^ c := Nat.pow_pos (by omega)
        have e2 : v n * 16 ^ n = v n * 16 ^ d * 16 * 16 ^ c := by
          rw [hd, Nat.pow_add, Nat.pow_succ]
          simp only [Nat.mul_assoc, Nat.mul_comm, Nat.mul_left_comm]
        rw [e2, Nat.add_mul_div_right _ _ hpc, Nat.add_mul_mod_self_right]
        exact i2 c hlt
theorem c_who {fu : Nat} {A : mwM} {L : mwL} {v : Nat → Nat} {c s : Nat} (hs : s < 20000) (hc : c < 6) (hv : ∀ c, c < 6 → v c < 16) (h : A 19 s = sI (rwS v 6)) : DX4_whoRan fu (sI c) (sI s) A L = some (sI (v c), A, L) := by
  obtain ⟨d1, d2⟩ := rwS_dig hv 6 (Nat.le_refl _)
  unfold DX4_whoRan
  rw [mck_s hs (by omega), sI_nn (by omega), h]
  have e1 : ∀ c, c < 6 → (4 * sI c) &&& 31 = sI (4 * c) := by decide +kernel
  rw [e1 c hc]
  have d3 := d2 c hc
  generalize rwS v 6 = R at *
  have d1' : R < 16777216 := d1
  have e2 : (sI R >>> sI (4 * c)) &&& 15 = sI (R / 16 ^ c % 16) := by
    apply Int32.toBitVec_inj.mp
    show (BitVec.ofNat 32 R).sshiftRight ((BitVec.ofNat 32 (4 * c)).smod 32).toNat &&& 15#32 = BitVec.ofNat 32 (R / 16 ^ c % 16)
    have e3 : ∀ c, c < 6 → ((BitVec.ofNat 32 (4 * c)).smod 32).toNat = 4 * c := by decide +kernel
    rw [e3 c hc, BitVec.sshiftRight_eq_of_msb_false (by
      rw [BitVec.msb_eq_false_iff_two_mul_lt, BitVec.toNat_ofNat, Nat.mod_eq_of_lt (by omega)]
      omega)]
    apply BitVec.eq_of_toNat_eq
    rw [BitVec.toNat_and, BitVec.toNat_ushiftRight, BitVec.toNat_ofNat, BitVec.toNat_ofNat, Nat.mod_eq_of_lt (show R < 2 ^ 32 by omega), Nat.shiftRight_eq_div_pow]
    have h16 : (16 : Nat) ^ c = 2 ^ (4 * c) := by rw [Nat.pow_mul]
    rw [← h16]
    have h15 : (15 % 2 ^ 32 : Nat) = 2 ^ 4 - 1 := by decide
    have h17 : R / 16 ^ c % 16 < 16 := Nat.mod_lt _ (by decide)
    rw [h15, Nat.and_two_pow_sub_one_eq_mod, BitVec.toNat_ofNat, Nat.mod_eq_of_lt (show R / 16 ^ c % 16 < 2 ^ 32 by omega)]
  rw [e2, d3]
