/-! all activations of a microsecond -/
theorem alM_tr {M M1 M2 : mwM} {L L1 L2 : mwL} (h1 : alM M M1 L L1) (h2 : alM M1 M2 L1 L2) : alM M M2 L L2 := ⟨fun b y w1 w2 => (h2.1 b y w1 w2).trans (h1.1 b y w1 w2), fun b y w1 w2 => (h2.2 b y w1 w2).trans (h1.2 b y w1 w2)⟩
theorem m_alarms {fu : Nat} {A M0 : mwM} {L0 : mwL} {T C U t tn0 cn0 : Nat} {cut : Nat → Nat} {P : Option (Int32 × mwM × mwL) → Prop} (hT : T ≤ 12) (ht : t < 20000) (htn : tn0 + 12 < 100000000) (hcn : cn0 + 12 < 100000000) (hAL : AL A M0 L0 T t cut) (h43 : L0 787 43 = sL t) (hQ : ∀ M' L' tn' cn', RC (actN A t T) M' L' T C tn' cn' U → tn' ≤ tn0 + T → cn' ≤ cn0 + T → alM M0 M' L0 L' → P (fX15_microsecond_h42 fu fu (1, M', L'))) : ∀ (m j f tn cn : Nat) (M : mwM) (L : mwL), j + m = T → cut T - cut j < f → tn ≤ tn0 + j → cn ≤ cn0 + j → alM M0 M L0 L → RC (actN A t j) M L T C tn cn U → P (fX15_microsecond_h2 fu f (sI (cut j), M, L)) := by
  obtain ⟨c0, cT, c32, hseg⟩ := hAL
  intro m
  induction m with
  | zero =>
    intro j f tn cn M L hj hf h1 h2 hal hR
    have hjT : j = T := by omega
    subst hjT
    obtain ⟨g, rfl⟩ : ∃ g, f = g + 1 := ⟨f - 1, by omega⟩
    unfold fX15_microsecond_h2
    rw [mloop_S]
    show P (fX15_microsecond_i2 fu (fX15_microsecond_h2 fu g) (sI (cut j)) M L)
    unfold fX15_microsecond_i2
    rw [hal.1 787 32 (by omega) (by omega), c32, if_pos (by rw [sI_le (by omega) (by omega)]; omega)]
    exact hQ M L tn cn hR h1 h2 hal
  | succ m ih =>
    intro j f tn cn M L hj hf h1 h2 hal hR
    obtain ⟨s1, s2, s3, kx, nx, pe, k1, k2, k3, k4, k5, k6, k7, k8, k9, k10, k11⟩ := hseg j (by omega)
    have hend : kx = cut (j + 1) → 20000 ≤ nx := by
      intro q
      rw [q, Nat.sub_self, Nat.zero_mul, Nat.add_zero] at k11
      exact k11
    refine m_segment (fu := fu) (A := actN A t j) (C := C) (U := U) (P := P) (lo := cut j) (hi := cut (j + 1)) (al := cut T) (kx := kx) (nx := nx) (pe := pe) (j := j) (by omega) ht cT s2 (by rw [actN_f (by omega) j (Nat.le_refl _)]; exact k3) k7 k6 k8 k1 k2 hend (cut (j + 1) - cut j) (cut j) f M L tn cn (by omega) (Nat.le_refl _) hf (by omega) (by omega) (by rw [hal.1 787 32 (by omega) (by omega)]; exact c32) (by rw [hal.2 787 43 (by omega) (by omega)]; exact h43) ?_ ?_ ?_ (fun k hk => by omega) k5 (Or.inr ⟨fun q => by omega, hR⟩) ?_
    · intro k w1 w2
      rw [hal.1 812 k (by omega) (by omega)]
      exact s3 k w1 w2
    · intro k w1 w2
      rw [hal.2 813 k (by omega) (by omega)]
      exact k9 k w1 w2
    · intro k w1 w2
      rw [hal.2 813 k (by omega) (by omega)]
      exact k10 k w1 w2
    · intro M' L' tn' cn' hR' q1 q2 hal' f' hf'
      exact ih (j + 1) f' tn' cn' M' L' (by omega) hf' (by omega) (by omega) (alM_tr hal hal') hR'
theorem actN_11 {A : mwM} {t T : Nat} : ∀ j, j ≤ T → ∀ y, actN A t j 11 y = if y < j ∧ A 11 y = sI t then A 11 y + A 9 y else A 11 y := by
  intro j
  induction j with
  | zero => intro _ y; rw [if_neg (by omega)]; rfl
  | succ j ih =>
    intro hj y
    have ih1 := ih (by omega)
    show act1 (actN A t j) t j 11 y = _
    by_cases hy : y = j
    · subst hy
      have e11 : actN A t y 11 y = A 11 y := actN_f (by omega) y (Nat.le_refl _)
      have e9 : actN A t y 9 y = A 9 y := actN_f (by omega) y (Nat.le_refl _)
      unfold act1
      rw [e11, e9]
      by_cases ht : A 11 y = sI t
      · rw [if_pos ht, if_pos (show y < y + 1 ∧ A 11 y = sI t from ⟨Nat.lt_succ_self y, ht⟩)]
        split
        · rw [mset_k (by decide), mset_k (by decide), mset_k (by decide), mset_k (by decide), mset_k (by decide), mset_s]
        · split
          · rw [mset_k (by decide), mset_k (by decide), mset_s]
          · rw [mset_k (by decide), mset_s]
      · rw [if_neg ht, if_neg (fun q => ht q.2), e11]
    · rw [act1_f (by omega) (by omega), ih1 y]
      by_cases hc : y < j ∧ A 11 y = sI t
      · rw [if_pos hc, if_pos ⟨by omega, hc.2⟩]
      · rw [if_neg hc, if_neg (fun q => hc ⟨by omega, q.2⟩)]
/-- nothing was due: nothing has changed -/
theorem actN_56 {A : mwM} {t T : Nat} : ∀ j, j ≤ T → actN A t j = A ∨ actN A t j 5 6 = 0 := by
  intro j
  induction j with
  | zero => intro _; exact Or.inl rfl
  | succ j ih =>
    intro hj
    show act1 (actN A t j) t j = A ∨ act1 (actN A t j) t j 5 6 = 0
    unfold act1
    split
    · right
      split
      · rw [mset_k (by decide), mset_k (by decide), mset_k (by decide), mset_j (by decide), mset_s]
      · split
        · rw [mset_k (by decide), mset_s]
        · rw [mset_s]
    · exact ih (by omega)
/-- the table a microsecond later -/
theorem AL_next {A A' M M' : mwM} {L L' : mwL} {T t : Nat} {cut : Nat → Nat} (ht : t < 20000) (h : AL A M L T t cut) (h11 : ∀ j, j < T → A' 11 j = if A 11 j = sI t then A 11 j + A 9 j else A 11 j) (h9 : ∀ j, j < T → A' 9 j = A 9 j) (h32 : M' 787 32 = M 787 32) (h812 : ∀ k, M' 812 k = M 812 k) (h813 : ∀ k, L' 813 k = L 813 k) : AL A' M' L' T (t + 1) cut := by
  obtain ⟨c0, cT, c32, hseg⟩ := h
  refine ⟨c0, cT, h32.trans c32, ?_⟩
  intro j hj
  obtain ⟨s1, s2, s3, kx, nx, pe, k1, k2, k3, k4, k5, k6, k7, k8, k9, k10, k11⟩ := hseg j hj
  refine ⟨s1, s2, fun k w1 w2 => (h812 k).trans (s3 k w1 w2), ?_⟩
  by_cases hn : nx = t
  · have hkx : kx < cut (j + 1) := by
      rcases Nat.lt_or_ge kx (cut (j + 1)) with q | q
      · exact q
      · have e : kx = cut (j + 1) := by omega
        rw [e, Nat.sub_self, Nat.zero_mul] at k11
        omega
    obtain ⟨d, hd⟩ : ∃ d, cut (j + 1) - kx = d + 1 := ⟨cut (j + 1) - kx - 1, by omega⟩
    refine ⟨kx + 1, nx + pe, pe, by omega, by omega, ?_, (h9 j hj).trans k4, k5, k6, by omega, by omega, ?_, ?_, ?_⟩
    · rw [h11 j hj, if_pos (by rw [k3, hn]), k3, k4, sI_add]
    · intro k w1 w2
      rw [h813]
      by_cases hk : k < kx
      · obtain ⟨z, z1, z2⟩ := k9 k w1 hk
        exact ⟨z, z1, by omega⟩
      · have e : k = kx := by omega
        refine ⟨nx, ?_, by omega⟩
        rw [k10 k (by omega) (by omega), e, Nat.sub_self, Nat.zero_mul, Nat.add_zero]
    · intro k w1 w2
      rw [h813, k10 k (by omega) w2]
      obtain ⟨e, he⟩ : ∃ e, k - kx = e + 1 := ⟨k - kx - 1, by omega⟩
      have he2 : k - (kx + 1) = e := by omega
      rw [he, he2, Nat.add_mul, Nat.one_mul]
      congr 1
      omega
    · have e2 : cut (j + 1) - (kx + 1) = d := by omega
      rw [hd, Nat.add_mul, Nat.one_mul] at k11
      rw [e2]
      omega
  · refine ⟨kx, nx, pe, k1, k2, ?_, (h9 j hj).trans k4, k5, k6, k7, by omega, ?_, ?_, k11⟩
    · rw [h11 j hj, if_neg (by rw [k3, sI_eq (by omega) (by omega)]; exact hn)]
      exact k3
    · intro k w1 w2
      rw [h813]
      obtain ⟨z, z1, z2⟩ := k9 k w1 w2
      exact ⟨z, z1, by omega⟩
    · intro k w1 w2
      rw [h813]
      exact k10 k w1 w2
/-! which tasks have used all their microseconds -/
def ran (B : mwM) (c i : Nat) : Prop := ∃ c', c' < c ∧ chs B c' = some i
theorem or_bit {fr x : Nat} (hx : x < 12) : sI fr ||| (1 <<< (sI x &&& 31)) = sI (fr ||| 2 ^ x) := by
  have e1 : ∀ x, x < 12 → (1 : Int32) <<< (sI x &&& 31) = sI (2 ^ x) := by decide +kernel
  rw [e1 x hx]
  apply Int32.toBitVec_inj.mp
  show BitVec.ofNat 32 fr ||| BitVec.ofNat 32 (2 ^ x) = BitVec.ofNat 32 (fr ||| 2 ^ x)
  rw [← BitVec.ofNat_or]
theorem usN_S {B : mwM} {c x : Nat} (h : chs B c = some x) : usN B (c + 1) = useA (usN B c) x := by
  show (match chs B c with
    | none => usN B c
    | some x => useA (usN B c) x) = _
  rw [h]
theorem usN_N {B : mwM} {c : Nat} (h : chs B c = none) : usN B (c + 1) = usN B c := by
  show (match chs B c with
    | none => usN B c
    | some x => useA (usN B c) x) = _
  rw [h]
theorem ran_S {B : mwM} {c x i : Nat} (h : chs B c = some x) : ran B (c + 1) i ↔ ran B c i ∨ i = x := by
  constructor
  · rintro ⟨c', h1, h2⟩
    by_cases hc : c' = c
    · subst hc
      rw [h] at h2
      injection h2 with h2
      exact Or.inr h2.symm
    · exact Or.inl ⟨c', by omega, h2⟩
  · rintro (⟨c', h1, h2⟩ | rfl)
    · exact ⟨c', by omega, h2⟩
    · exact ⟨c, by omega, h⟩
theorem ran_N {B : mwM} {c i : Nat} (h : chs B c = none) : ran B (c + 1) i ↔ ran B c i := by
  constructor
  · rintro ⟨c', h1, h2⟩
    by_cases hc : c' = c
    · subst hc
      rw [h] at h2
      cases h2
    · exact ⟨c', by omega, h2⟩
  · rintro ⟨c', h1, h2⟩
    exact ⟨c', by omega, h2⟩
theorem us_bits {B : mwM} {T : Nat} (hT : T ≤ 12) (hb : ∀ c, c < 6 → ∀ x, chs B c = some x → x < T ∧ B 8 x = sI c) (h55 : B 5 5 = 0) : ∀ c, c ≤ 6 → (∃ fr, fr < 2 ^ T ∧ usN B c 5 5 = sI fr ∧ ∀ i, i < T → (fr.testBit i = true ↔ ran B c i ∧ B 13 i = 1)) ∧ (∀ i, ran B c i → usN B c 16 i = B 16 i + 1 ∧ usN B c 13 i = B 13 i - 1 ∧ usN B c 17 i = (if B 13 i = 1 then B 17 i + 1 else B 17 i)) ∧ (usN B c 5 6 = B 5 6 ∨ usN B c 5 6 = 0) ∧ (usN B c 5 6 ≠ 0 → ∀ i, ran B c i → B 13 i ≠ 1) := by
  intro c
  induction c with
  | zero =>
    intro _
    refine ⟨⟨0, Nat.two_pow_pos T, h55, ?_⟩, ?_, Or.inl rfl, ?_⟩
    · intro i _
      constructor
      · intro h; simp at h
      · rintro ⟨⟨c', h, _⟩, _⟩; omega
    · rintro i ⟨c', h, _⟩; omega
    · rintro _ i ⟨c', h, _⟩; omega
  | succ c ih =>
    intro hc
    obtain ⟨⟨fr, f1, f2, f3⟩, ih2, ih3, ih4⟩ := ih (by omega)
    cases hx : chs B c with
    | none =>
      rw [usN_N hx]
      refine ⟨⟨fr, f1, f2, fun i hi => by rw [ran_N hx]; exact f3 i hi⟩, fun i hi => ih2 i ((ran_N hx).mp hi), ih3, fun h i hi => ih4 h i ((ran_N hx).mp hi)⟩
    | some x =>
      obtain ⟨hxT, h8⟩ := hb c (by omega) x hx
      have hpre : ∀ c', c' < c → chs B c' ≠ some x := by
        intro c' hc' q
        have := (hb c' (by omega) x q).2
        rw [h8] at this
        have := (sI_eq (by omega) (by omega)).mp this
        omega
      have hnr : ¬ ran B c x := by
        rintro ⟨c', h1, h2⟩
        exact hpre c' h1 h2
      have e13 := usN_13 c hpre 13 (Or.inl rfl)
      have e16 := usN_13 c hpre 16 (Or.inr (Or.inl rfl))
      have e17 := usN_13 c hpre 17 (Or.inr (Or.inr rfl))
      rw [usN_S hx]
      have hoth : ∀ i, i ≠ x → ∀ b, (b = 13 ∨ b = 16 ∨ b = 17) → useA (usN B c) x b i = usN B c b i := fun i hi b hb' => useA_f (by omega) (by omega)
      have hx16 : useA (usN B c) x 16 x = B 16 x + 1 := by
        unfold useA
        split
        · rw [mset_k (by decide), mset_k (by decide), mset_k (by decide), mset_k (by decide), mset_s, e16]
        · rw [mset_k (by decide), mset_s, e16]
      have hx13 : useA (usN B c) x 13 x = B 13 x - 1 := by
        unfold useA
        split
        · rw [mset_k (by decide), mset_k (by decide), mset_k (by decide), mset_s, e13]
        · rw [mset_s, e13]
      have hx17 : useA (usN B c) x 17 x = if B 13 x = 1 then B 17 x + 1 else B 17 x := by
        unfold useA
        rw [e13]
        split
        · rw [mset_k (by decide), mset_k (by decide), mset_s, e17]
        · rw [mset_k (by decide), mset_k (by decide), e17]
      have hvals : ∀ i, ran B (c + 1) i → useA (usN B c) x 16 i = B 16 i + 1 ∧ useA (usN B c) x 13 i = B 13 i - 1 ∧ useA (usN B c) x 17 i = (if B 13 i = 1 then B 17 i + 1 else B 17 i) := by
        intro i hi
        by_cases hix : i = x
        · rw [hix]; exact ⟨hx16, hx13, hx17⟩
        · have hri : ran B c i := by
            rcases (ran_S hx).mp hi with q | q
            · exact q
            · exact absurd q hix
          rw [hoth i hix 16 (by omega), hoth i hix 13 (by omega), hoth i hix 17 (by omega)]
          exact ih2 i hri
      by_cases h1 : B 13 x = 1
      · have e55 : useA (usN B c) x 5 5 = sI (fr ||| 2 ^ x) := by
          unfold useA
          rw [e13, if_pos h1, mset_j (by decide), mset_s, f2, or_bit (by omega)]
        have e56 : useA (usN B c) x 5 6 = 0 := by
          unfold useA
          rw [e13, if_pos h1, mset_s]
        refine ⟨⟨fr ||| 2 ^ x, Nat.or_lt_two_pow f1 (Nat.pow_lt_pow_right (by omega) hxT), e55, ?_⟩, hvals, Or.inr e56, fun q => absurd e56 q⟩
        intro i hi
        rw [Nat.testBit_or, Nat.testBit_two_pow, ran_S hx, Bool.or_eq_true, f3 i hi, decide_eq_true_eq]
        constructor
        · rintro (⟨q1, q2⟩ | rfl)
          · exact ⟨Or.inl q1, q2⟩
          · exact ⟨Or.inr rfl, h1⟩
        · rintro ⟨q1 | rfl, q2⟩
          · exact Or.inl ⟨q1, q2⟩
          · exact Or.inr rfl
      · have e55 : useA (usN B c) x 5 5 = sI fr := by
          unfold useA
          rw [e13, if_neg h1, mset_k (by decide), mset_k (by decide), f2]
        have e56 : useA (usN B c) x 5 6 = usN B c 5 6 := by
          unfold useA
          rw [e13, if_neg h1, mset_k (by decide), mset_k (by decide)]
        refine ⟨⟨fr, f1, e55, ?_⟩, hvals, by rw [e56]; exact ih3, ?_⟩
        · intro i hi
          rw [f3 i hi, ran_S hx]
          constructor
          · rintro ⟨q1, q2⟩; exact ⟨Or.inl q1, q2⟩
          · rintro ⟨q1 | rfl, q2⟩
            · exact ⟨q1, q2⟩
            · exact absurd q2 h1
        · intro hq i hi
          rw [e56] at hq
          rcases (ran_S hx).mp hi with q | rfl
          · exact ih4 hq i q
          · exact h1
