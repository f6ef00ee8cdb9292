/-! a job ends, on both sides -/
def endA (A : mwM) (c i : Nat) : mwM :=
  if A 14 i = 0 then mset (mset A 12 i 0) 18 c (-1)
  else mset (mset (mset (mset (mset (mset (mset A 12 i 0) 18 c (-1)) 14 i 0) 5 4 (A 5 4 + 1)) 12 i 1) 15 i (A 5 4 + 1)) 13 i (A 10 i + 1)
theorem m_ends {fu : Nat} {M : mwM} {L : mwL} {i wa tn : Nat} (hf : 33 ≤ fu) (hi : i < 12) (h29 : M 787 29 = 0) (hh : ∀ r, 1 ≤ r → r ≤ 32 → M 806 r = 0) (ho : ∀ r, 1 ≤ r → r ≤ 16 → M 809 r = 0) (h798 : M 798 (i + 1) = sI wa) (hwa : wa < 2) (ht : L 787 21 = sL tn) : wq (DX15_ends fu (sI (i + 1)) M L) (fun q => (wa = 0 → q.1 796 (i + 1) = 0 ∧ q.1 798 (i + 1) = 0 ∧ q.2 = L) ∧ (wa = 1 → q.1 796 (i + 1) = 1 ∧ q.1 798 (i + 1) = 0 ∧ q.1 799 (i + 1) = 0 ∧ q.1 801 (i + 1) = 1 ∧ q.2 787 21 = sL (tn + 1) ∧ q.2 797 (i + 1) = sL (tn + 1)) ∧ q.1 804 (i + 1) = 0 ∧ (∀ b y, ¬ (y = i + 1 ∧ (b = 796 ∨ b = 798 ∨ b = 799 ∨ b = 801 ∨ b = 802 ∨ b = 804)) → q.1 b y = M b y) ∧ ∀ b y, ¬ (y = i + 1 ∧ (b = 797 ∨ b = 800)) → ¬ (b = 787 ∧ y = 21) → q.2 b y = L b y) := by
  unfold DX15_ends
  refine wq_b2 (m_free hf (by omega) (by omega) h29 hh ho) ?_
  rintro M1 L1 ⟨hL, f1, f2, f3⟩
  dsimp only at hL f1 f2 f3
  subst hL
  have e798 : M1 798 (i + 1) = sI wa := by rw [f3 _ _ (by omega)]; exact h798
  rw [mck_s (by omega) (by omega), sI_nn (by omega), e798]
  by_cases h0 : wa = 0
  · rw [if_pos (by rw [h0]; rfl)]
    refine wq_some ⟨fun _ => ⟨f1, by dsimp only; rw [e798, h0]; rfl, rfl⟩, fun h => by omega, f2, ?_, fun _ _ _ _ => rfl⟩
    intro b y hq
    exact f3 b y (by omega)
  · have h1 : wa = 1 := by omega
    rw [if_neg (by rw [sI_eql (by omega) (by decide)]; exact h0), mck_s (by omega) (by omega), mck_s (by omega) (by omega)]
    simp only [mlet]
    rw [h1, show sI 1 - 1 = 0 from by decide, m_begin0 (by omega) (by rw [mset_k (by decide)]; exact f1) ht, mb2_s]
    refine wq_some ⟨fun h => by omega, fun _ => ⟨?_, ?_, ?_, ?_, ?_, ?_⟩, ?_, ?_, ?_⟩
    all_goals (try dsimp only)
    · rw [mset_k (by decide), mset_k (by decide), mset_k (by decide), mset_s]
    · rw [mset_k (by decide), mset_k (by decide), mset_k (by decide), mset_k (by decide), mset_s]
    · rw [mset_k (by decide), mset_s]
    · rw [mset_s]; exact bo_1
    · rw [mset_k (by decide), mset_k (by decide), mset_s]
    · rw [mset_k (by decide), mset_s]
    · rw [mset_k (by decide), mset_k (by decide), mset_k (by decide), mset_k (by decide), mset_k (by decide)]; exact f2
    · intro b y hq
      rw [mset_n (by omega), mset_n (by omega), mset_n (by omega), mset_n (by omega), mset_n (by omega)]
      exact f3 b y (by omega)
    · intro b y h3 h4
      rw [mset_n (by omega), mset_n (by omega), mset_n (by omega)]
theorem endA_f {A : mwM} {c i b y : Nat} (h1 : ¬ (y = i ∧ 12 ≤ b ∧ b ≤ 15)) (h2 : ¬ (b = 18 ∧ y = c)) (h3 : ¬ (b = 5 ∧ y = 4)) : endA A c i b y = A b y := by
  unfold endA
  split
  · rw [mset_n h2, mset_n (by omega)]
  · rw [mset_n (by omega), mset_n (by omega), mset_n (by omega), mset_n h3, mset_n (by omega), mset_n h2, mset_n (by omega)]
theorem st_end {fu : Nat} {A M : mwM} {L : mwL} {T C tn cn U c i : Nat} (hf : 33 ≤ fu) (h : RC A M L T C tn cn U) (htn : tn + 1 < 100000000) (hc : c < 6) (hi : i < T) (h8 : A 8 i = sI c) (h12 : A 12 i = 2) (h13 : A 13 i = 0) : ∃ M' L' tn', DX15_ends fu (sI (i + 1)) M L = some (M', L') ∧ tn ≤ tn' ∧ tn' ≤ tn + 1 ∧ RC (endA A c i) M' L' T C tn' cn U ∧ (∀ b y, ¬ (y = i + 1 ∧ (b = 796 ∨ b = 798 ∨ b = 799 ∨ b = 801 ∨ b = 802 ∨ b = 804)) → M' b y = M b y) ∧ ∀ b y, ¬ (y = i + 1 ∧ (b = 797 ∨ b = 800)) → ¬ (b = 787 ∧ y = 21) → L' b y = L b y := by
  have h0 := h
  obtain ⟨hT, hC, _, hcn, a3, m1, m7, m0, a4, l21, m29, m35, hh, hg, m39, ht1, hch⟩ := h0
  obtain ⟨rk, co, pe, mi, nx, st, lf, wa, tu, us, dn, q1, q2, q3⟩ := ht1 i hi
  obtain ⟨w1, w2, w3, w4, w5, w6, w7, w8, w9, w10, w11, w12, w13, w14, w15, w16⟩ := q1
  obtain ⟨k1, k2, k3, k4, k5, k6, k7, k8, k9, k10, k11⟩ := q2
  obtain ⟨n1, n2, n3, n4, n5, n6, n7, n8, n9, n10, n11, n12, n13⟩ := q3
  have hlf : lf = 0 := by
    rw [k7] at h13
    exact (sI_eq (a := lf) (b := 0) (by omega) (by omega)).mp h13
  subst hlf
  have hus := w15 rfl
  obtain ⟨⟨M', L'⟩, he, e1, e2, e3, e4, e5⟩ := m_ends (fu := fu) (L := L) (i := i) hf (by omega) m29 hh hg n9 w10 l21
  dsimp only at e1 e2 e3 e4 e5
  have fM : frM i M M' := fun b y q1 _ _ _ => e4 b y q1
  have fL : frL i L L' := fun b y q1 q2 _ => e5 b y q1 q2
  -- the core has no chosen task now
  have hchn : ∀ A' : mwM, (∀ b y, ¬ (y = i ∧ 12 ≤ b ∧ b ≤ 15) → ¬ (b = 18 ∧ y = c) → ¬ (b = 5 ∧ y = 4) → A' b y = A b y) → A' 18 c = -1 → A' 12 i ≠ 2 → ∀ c', c' < 6 → ∃ w, A' 18 c' = oI w ∧ (∀ x, w = some x → x < T) ∧ ∀ x, x < T → ((A' 8 x = sI c' ∧ A' 12 x = 2) ↔ w = some x) := by
    intro A' hfr h18 h12' c' hc'
    by_cases hcc : c' = c
    · subst hcc
      obtain ⟨w, u1, u2, u3⟩ := hch c' hc'
      have hwi := (u3 i hi).mp ⟨h8, h12⟩
      refine ⟨none, h18, (fun x hx => by cases hx), ?_⟩
      intro x hx
      constructor
      · rintro ⟨q8, q12⟩
        exfalso
        by_cases hxi : x = i
        · subst hxi; exact h12' q12
        · rw [hfr _ _ (by omega) (by omega) (by omega)] at q8 q12
          have := (u3 x hx).mp ⟨q8, q12⟩
          rw [hwi] at this
          injection this with this
          exact hxi this.symm
      · intro q; cases q
    · obtain ⟨w, u1, u2, u3⟩ := hch c' hc'
      refine ⟨w, by rw [hfr _ _ (by omega) (by omega) (by omega)]; exact u1, u2, ?_⟩
      intro x hx
      by_cases hxi : x = i
      · subst hxi
        have hne : ¬ A 8 x = sI c' := by
          intro q
          rw [h8] at q
          have := (sI_eq (by omega) (by omega)).mp q
          omega
        rw [hfr 8 x (by omega) (by omega) (by omega)]
        exact ⟨fun q => absurd q.1 hne, fun q => absurd ((u3 x hx).mpr q).1 hne⟩
      · rw [hfr _ _ (by omega) (by omega) (by omega), hfr _ _ (by omega) (by omega) (by omega)]
        exact u3 x hx
  have hw01 : wa = 0 ∨ wa = 1 := by omega
  rcases hw01 with hw0 | hw0
  · subst hw0
    obtain ⟨g1, g2, g3⟩ := e1 rfl
    subst g3
    have eA : endA A c i = mset (mset A 12 i 0) 18 c (-1) := by
      unfold endA
      rw [if_pos (by rw [k8]; rfl)]
    refine ⟨M', L', tn, he, Nat.le_refl _, by omega, ?_, e4, e5⟩
    refine RC_one h hi (Nat.le_refl _) (by omega) hcn ?_ (endA_f (by omega) (by omega) (by omega)) (fun b y _ _ _ => endA_f (by omega) (by omega) (by omega)) l21 (by rw [e4 _ _ (by omega)]; exact m39) fM fL ⟨rk, co, pe, mi, nx, 0, 0, 0, tu, us, dn, ?_, ?_, ?_⟩ ?_
    · rw [eA, mset_k (by decide), mset_k (by decide)]; exact a4
    · exact ⟨w1, w2, w3, w4, w5, w6, w7, by omega, by omega, by omega, w11, w12, w13, fun _ => ⟨rfl, rfl⟩, fun _ => hus, fun h => by omega⟩
    · refine ⟨?_, ?_, ?_, ?_, ?_, ?_, ?_, ?_, ?_, ?_, ?_⟩
      · rw [endA_f (by omega) (by omega) (by omega)]; exact k1
      · rw [endA_f (by omega) (by omega) (by omega)]; exact k2
      · rw [endA_f (by omega) (by omega) (by omega)]; exact k3
      · rw [endA_f (by omega) (by omega) (by omega)]; exact k4
      · rw [endA_f (by omega) (by omega) (by omega)]; exact k5
      · rw [eA, mset_k (by decide), mset_s]; rfl
      · rw [eA, mset_k (by decide), mset_k (by decide)]; exact k7
      · rw [eA, mset_k (by decide), mset_k (by decide)]; exact k8
      · rw [eA, mset_k (by decide), mset_k (by decide)]; exact k9
      · rw [endA_f (by omega) (by omega) (by omega)]; exact k10
      · rw [endA_f (by omega) (by omega) (by omega)]; exact k11
    · refine ⟨?_, ?_, ?_, ?_, ?_, ?_, n7, g1, g2, e3, ?_, n12, fun q => absurd rfl q⟩
      · rw [e4 _ _ (by omega)]; exact n1
      · rw [e4 _ _ (by omega)]; exact n2
      · rw [e4 _ _ (by omega)]; exact n3
      · rw [e4 _ _ (by omega)]; exact n4
      · rw [e4 _ _ (by omega)]; exact n5
      · rw [e4 _ _ (by omega)]; exact n6
      · rw [e4 _ _ (by omega)]; exact n11
    · refine hchn _ (fun b y q1 q2 q3 => endA_f q1 q2 q3) ?_ ?_
      · rw [eA, mset_s]
      · rw [eA, mset_k (by decide), mset_s]; decide
  · subst hw0
    obtain ⟨g1, g2, g3, g4, g5, g6⟩ := e2 rfl
    have eA : endA A c i = mset (mset (mset (mset (mset (mset (mset A 12 i 0) 18 c (-1)) 14 i 0) 5 4 (sI (tn + 1))) 12 i 1) 15 i (sI (tn + 1))) 13 i (sI (mi + 1)) := by
      unfold endA
      rw [if_neg (by rw [k8]; decide), a4, k4, sI_1, sI_1]
    refine ⟨M', L', tn + 1, he, by omega, by omega, ?_, e4, e5⟩
    refine RC_one h hi (by omega) htn hcn ?_ (endA_f (by omega) (by omega) (by omega)) (fun b y _ _ _ => endA_f (by omega) (by omega) (by omega)) g5 (by rw [e4 _ _ (by omega)]; exact m39) fM fL ⟨rk, co, pe, mi, nx, 1, mi + 1, 0, tn + 1, us, dn, ?_, ?_, ?_⟩ ?_
    · rw [eA, mset_k (by decide), mset_k (by decide), mset_k (by decide), mset_s]
    · refine ⟨w1, w2, w3, w4, w5, w6, w7, by omega, by omega, by omega, by omega, w12, w13, fun h => by omega, fun h => by omega, fun _ => ?_⟩
      rw [Nat.add_mul]
      omega
    · refine ⟨?_, ?_, ?_, ?_, ?_, ?_, ?_, ?_, ?_, ?_, ?_⟩
      · rw [endA_f (by omega) (by omega) (by omega)]; exact k1
      · rw [endA_f (by omega) (by omega) (by omega)]; exact k2
      · rw [endA_f (by omega) (by omega) (by omega)]; exact k3
      · rw [endA_f (by omega) (by omega) (by omega)]; exact k4
      · rw [endA_f (by omega) (by omega) (by omega)]; exact k5
      · rw [eA, mset_k (by decide), mset_k (by decide), mset_s]; rfl
      · rw [eA, mset_s]
      · rw [eA, mset_k (by decide), mset_k (by decide), mset_k (by decide), mset_k (by decide), mset_s]; rfl
      · rw [eA, mset_k (by decide), mset_s]
      · rw [endA_f (by omega) (by omega) (by omega)]; exact k10
      · rw [endA_f (by omega) (by omega) (by omega)]; exact k11
    · refine ⟨?_, ?_, ?_, ?_, ?_, ?_, ?_, g1, g2, e3, ?_, ?_, fun _ => ⟨g6, Or.inl ⟨g4, g3, rfl⟩⟩⟩
      · rw [e4 _ _ (by omega)]; exact n1
      · rw [e4 _ _ (by omega)]; exact n2
      · rw [e4 _ _ (by omega)]; exact n3
      · rw [e4 _ _ (by omega)]; exact n4
      · rw [e4 _ _ (by omega)]; exact n5
      · rw [e4 _ _ (by omega)]; exact n6
      · rw [e5 _ _ (by omega) (by omega)]; exact n7
      · rw [e4 _ _ (by omega)]; exact n11
      · rw [e5 _ _ (by omega) (by omega)]; exact n12
    · refine hchn _ (fun b y q1 q2 q3 => endA_f q1 q2 q3) ?_ ?_
      · rw [eA, mset_k (by decide), mset_k (by decide), mset_k (by decide), mset_k (by decide), mset_k (by decide), mset_s]
      · rw [eA, mset_k (by decide), mset_k (by decide), mset_s]; decide
