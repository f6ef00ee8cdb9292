/-! one task on both sides -/
abbrev tk (A : mwM) (i rk co pe mi nx st lf wa tu us dn : Nat) : Prop := A 7 i = sI rk ∧ A 8 i = sI co ∧ A 9 i = sI pe ∧ A 10 i = sI mi ∧ A 11 i = sI nx ∧ A 12 i = sI st ∧ A 13 i = sI lf ∧ A 14 i = sI wa ∧ A 15 i = sI tu ∧ A 16 i = sI us ∧ A 17 i = sI dn
/-- how many microseconds are left of a job, as the reference keeps it -/
def lfR (M : mwM) (L : mwL) (i mi lf : Nat) : Prop := (M 801 (i + 1) = 1 ∧ M 799 (i + 1) = 0 ∧ lf = mi + 1) ∨ (M 801 (i + 1) = 0 ∧ M 799 (i + 1) = 0 ∧ L 800 (i + 1) = -1 ∧ lf = mi) ∨ (M 801 (i + 1) = 0 ∧ M 799 (i + 1) = 0 ∧ L 800 (i + 1) = sL lf ∧ 0 < lf ∧ lf < mi) ∨ (M 801 (i + 1) = 0 ∧ M 799 (i + 1) = 1 ∧ lf = 0)
abbrev tm (M : mwM) (L : mwL) (i rk co mi st lf wa tu us : Nat) : Prop := M 788 (i + 1) = sI rk ∧ M 789 (i + 1) = sI co ∧ M 790 (i + 1) = 2 ∧ M 792 (i + 1) = 1 ∧ M 793 i = sI (i + 1) ∧ M 794 i = 0 ∧ L 795 i = sL mi ∧ M 796 (i + 1) = sI st ∧ M 798 (i + 1) = sI wa ∧ M 804 (i + 1) = 0 ∧ M 810 (i + 1) = 0 ∧ L 805 (i + 1) = sL us ∧ (st ≠ 0 → L 797 (i + 1) = sL tu ∧ lfR M L i mi lf)
/-- what holds between a task's numbers -/
abbrev ti (C tn U rk co pe mi nx st lf wa tu us dn : Nat) : Prop := rk < 256 ∧ co < C ∧ 500 ≤ pe ∧ pe ≤ 20000 ∧ 1 ≤ mi ∧ mi ≤ 1000 ∧ nx < 50000 ∧ st < 3 ∧ lf ≤ mi + 1 ∧ wa < 2 ∧ tu ≤ tn ∧ us < U ∧ dn ≤ us ∧ (st = 0 → lf = 0 ∧ wa = 0) ∧ (lf = 0 → us = dn * (mi + 1)) ∧ (0 < lf → us + lf = (dn + 1) * (mi + 1))
theorem c_ready {fu : Nat} {A : mwM} {L : mwL} {i tn mi : Nat} (hi : i < 12) (h4 : A 5 4 = sI tn) (h10 : A 10 i = sI mi) : DX4_makeReady fu (sI i) A L = some (mset (mset (mset (mset A 5 4 (sI (tn + 1))) 12 i 1) 15 i (sI (tn + 1))) 13 i (sI (mi + 1)), L) := by
  unfold DX4_makeReady
  simp only [mlet]
  rw [mck_s (by omega) (by omega), mck_s (by omega) (by omega), mck_s (by omega) (by omega), mck_s (by omega) (by omega), sI_nn (by omega), h4, sI_1]
  have e1 : mset (mset A 5 4 (sI (tn + 1))) 12 i 1 5 4 = sI (tn + 1) := by rw [mset_k (by decide), mset_s]
  rw [e1]
  have e2 : mset (mset (mset A 5 4 (sI (tn + 1))) 12 i 1) 15 i (sI (tn + 1)) 10 i = sI mi := by rw [mset_k (by decide), mset_k (by decide), mset_k (by decide), h10]
  rw [e2, sI_1]
theorem m_no {fu : Nat} {M : mwM} {L : mwL} {i T : Nat} (hT : T ≤ 12) (hi : i < T) (h1 : M 787 1 = sI T) : DX15_no fu (sI (i + 1)) M L = some (0, M, L) := by
  unfold DX15_no fX15_no_b18
  rw [if_neg (by rw [sI_ltl (by omega) (by omega)]; omega), h1, if_pos (by rw [sI_le (by omega) (by omega)]; omega)]
  rfl
/-- the reference: a task that was suspended is activated -/
theorem m_begin0 {fu : Nat} {M : mwM} {L : mwL} {i tn : Nat} (hi : i < 12) (h796 : M 796 (i + 1) = 0) (ht : L 787 21 = sL tn) : DX15_begin fu (sI (i + 1)) M L = some (mset (mset (mset (mset M 796 (i + 1) 1) 802 (i + 1) 0) 799 (i + 1) 0) 801 (i + 1) (vp_nar .boolean 1), mset (mset (mset L 787 21 (sL (tn + 1))) 797 (i + 1) (sL (tn + 1))) 800 (i + 1) 1) := by
  unfold DX15_begin DX15_ready
  simp only [mlet]
  rw [mck_s (by omega) (by omega), sI_nn (by omega), h796, if_pos rfl, mck_s (by omega) (by omega), mck_s (by omega) (by omega), ht, sL_1]
  rw [show mset L 787 21 (sL (tn + 1)) 787 21 = sL (tn + 1) from mset_s]
  rw [mb2_s, mck_s (by omega) (by omega), mck_s (by omega) (by omega), mck_s (by omega) (by omega), mck_s (by omega) (by omega)]
/-- a task that is active already: it is wanted once more, or the wish is lost -/
theorem m_begin1 {fu : Nat} {M : mwM} {L : mwL} {i st wa cn : Nat} (hi : i < 12) (h796 : M 796 (i + 1) = sI st) (hst : 0 < st) (hst2 : st < 3) (h798 : M 798 (i + 1) = sI wa) (hwa : wa < 2) (h790 : M 790 (i + 1) = 2) (hcn : M 787 39 = sI cn) (hcn2 : cn < 1000000000) : wq (DX15_begin fu (sI (i + 1)) M L) (fun q => q.1 798 (i + 1) = sI 1 ∧ (∃ cn', q.1 787 39 = sI cn' ∧ cn' ≤ cn + 1) ∧ (∀ b j, ¬ (b = 798 ∧ j = i + 1) → ¬ (b = 787 ∧ j = 39) → b ≠ 817 → b ≠ 818 → q.1 b j = M b j) ∧ ∀ b j, b ≠ 819 → q.2 b j = L b j) := by
  unfold DX15_begin fX15_begin_b45 DX15_tell fX15_tell_b43
  simp (disch := omega) only [mlet, mck_s, sI_nn]
  rw [h796, if_neg (by rw [sI_eql (by omega) (by decide)]; exact Nat.ne_of_gt hst), h798, h790]
  rw [show (1 : Int32) + sI wa = sI (1 + wa) from sI_add]
  by_cases h0 : wa = 0
  · rw [if_pos (by rw [sI_ltl (by omega) (by omega)]; omega), sI_1]
    refine wq_some ⟨?_, ⟨cn, ?_, by omega⟩, ?_, fun _ _ _ => rfl⟩
    all_goals (try dsimp only)
    · rw [mset_s, h0]
    · rw [mset_k (by decide)]; exact hcn
    · intro b j h1 h2 h3 h4
      rw [mset_n h1]
  · have h1 : wa = 1 := by omega
    rw [if_neg (by rw [sI_ltl (by omega) (by omega)]; omega), hcn]
    by_cases hk : 1000 ≤ cn
    · rw [if_pos (by rw [sI_lle (by omega) (by omega)]; exact hk), mb2_s]
      refine wq_some ⟨?_, ⟨cn + 1, ?_, by omega⟩, ?_, fun _ _ _ => rfl⟩
      all_goals (try dsimp only)
      · rw [mset_k (by decide), h798, h1]
      · rw [mset_s]; exact sI_1
      · intro b j q1 q2 q3 q4
        rw [mset_n q2]
    · rw [if_neg (by rw [sI_lle (by omega) (by omega)]; exact hk)]
      have e1 : ∀ x, mset M 817 cn x 787 39 = sI cn := fun x => by rw [mset_k (by decide), hcn]
      have e2 : ∀ x y, mset (mset M 817 cn x) 818 cn y 787 39 = sI cn := fun x y => by rw [mset_k (by decide), e1]
      simp (disch := omega) only [mck_s, sI_nn, e1, e2, sI_1, mb2_s]
      refine wq_some ⟨?_, ⟨cn + 1, ?_, by omega⟩, ?_, ?_⟩
      all_goals (try dsimp only)
      · rw [mset_k (by decide), mset_k (by decide), mset_k (by decide), h798, h1]
      · rw [mset_s]
      · intro b j q1 q2 q3 q4
        rw [mset_n q2, mset_k q4, mset_k q3]
      · intro b j q1
        rw [mset_k q1]
/-- the reference: nothing is held, so ending frees the task alone -/
theorem m_holds {fu : Nat} {M : mwM} {L : mwL} {t : Nat} (hf : 33 ≤ fu) (ht : 1 ≤ t) (ht2 : t ≤ 100) (hh : ∀ r, 1 ≤ r → r ≤ 32 → M 806 r = 0) (ho : ∀ r, 1 ≤ r → r ≤ 16 → M 809 r = 0) : DX15_holdsSome fu (sI t) M L = some (0, M, L) := by
  have nz : ∀ x : Int32, x = 0 → ¬ x = sI t := by
    intro x hx q
    rw [hx] at q
    have q2 : sI 0 = sI t := q
    rw [sI_eq (by omega) (by omega)] at q2
    omega
  unfold DX15_holdsSome
  have h := wq_for (body := fun r s => fX15_holdsSome_i4 fu (sI t) r s.1 s.2.1 s.2.2.1 s.2.2.2) (Q := fun q => q = (0, M, L)) (fun j (_ : Unit) => (0, sI (j + 1), M, L)) (fun _ _ => True) 32 ?_ ?_ 32 0 () fu (by omega) (by omega) trivial
  · obtain ⟨q, e, rfl⟩ := h
    exact e
  · intro j _ r hj _ ih
    show wq (fX15_holdsSome_i4 fu (sI t) r 0 (sI (j + 1)) M L) _
    unfold fX15_holdsSome_i4 fX15_holdsSome_b29
    rw [if_neg (by rw [sI_llt (by omega) (by omega)]; omega), if_pos rfl, mck_s (by omega) (by omega), sI_nn (by omega), if_neg (nz _ (hh _ (by omega) (by omega)))]
    simp only [mlet]
    rw [sI_1]
    exact ih () trivial
  · intro _ r _
    show wq (fX15_holdsSome_i4 fu (sI t) r 0 (sI 33) M L) _
    unfold fX15_holdsSome_i4
    rw [if_pos (by decide)]
    refine wq_for (body := fun r s => fX15_holdsSome_i38 fu (sI t) r s.1 s.2.1 s.2.2.1 s.2.2.2) (fun j (_ : Unit) => (0, sI (j + 1), M, L)) (fun _ _ => True) 16 ?_ ?_ 16 0 () fu (by omega) (by omega) trivial
    · intro j _ r hj _ ih
      show wq (fX15_holdsSome_i38 fu (sI t) r 0 (sI (j + 1)) M L) _
      unfold fX15_holdsSome_i38 fX15_holdsSome_b63
      rw [if_neg (by rw [sI_llt (by omega) (by omega)]; omega), if_pos rfl, mck_s (by omega) (by omega), sI_nn (by omega), if_neg (nz _ (ho _ (by omega) (by omega)))]
      simp only [mlet]
      rw [sI_1]
      exact ih () trivial
    · intro _ r _
      show wq (fX15_holdsSome_i38 fu (sI t) r 0 (sI 17) M L) _
      unfold fX15_holdsSome_i38
      rw [if_pos (by decide)]
      exact wq_some rfl
theorem m_free {fu : Nat} {M : mwM} {L : mwL} {t : Nat} (hf : 33 ≤ fu) (ht : 1 ≤ t) (ht2 : t ≤ 100) (h29 : M 787 29 = 0) (hh : ∀ r, 1 ≤ r → r ≤ 32 → M 806 r = 0) (ho : ∀ r, 1 ≤ r → r ≤ 16 → M 809 r = 0) : wq (DX15_free fu (sI t) M L) (fun q => q.2 = L ∧ q.1 796 t = 0 ∧ q.1 804 t = 0 ∧ ∀ b j, ¬ (j = t ∧ (b = 796 ∨ b = 804)) → q.1 b j = M b j) := by
  have nz : ∀ x : Int32, x = 0 → ¬ x = sI t := by
    intro x hx q
    rw [hx] at q
    have q2 : sI 0 = sI t := q
    rw [sI_eq (by omega) (by omega)] at q2
    omega
  unfold DX15_free fX15_free_b21
  rw [m_holds hf ht ht2 hh ho, mb3_s, if_pos rfl, if_neg (nz _ h29)]
  refine wq_for (body := fun r s => fX15_free_i24 fu (sI t) r s.1 s.2.1 s.2.2.1 s.2.2.2) (fun j (a : mwM) => (0, sI (j + 1), a, L)) (fun _ a => ∀ b y, a b y = M b y) 32 ?_ ?_ 32 0 M fu (by omega) (by omega) (fun _ _ => rfl)
  · intro j a r hj hP ih
    show wq (fX15_free_i24 fu (sI t) r 0 (sI (j + 1)) a L) _
    unfold fX15_free_i24 fX15_free_b55
    rw [if_neg (by rw [sI_llt (by omega) (by omega)]; omega), mck_s (by omega) (by omega), sI_nn (by omega), if_neg (nz _ (by rw [hP]; exact hh _ (by omega) (by omega))), mck_s (by omega) (by omega), mck_s (by omega) (by omega)]
    simp only [mlet]
    rw [sI_1]
    refine ih (mset a 806 (j + 1) (a 806 (j + 1))) ?_
    intro b y
    by_cases hq : b = 806 ∧ y = j + 1
    · rw [hq.1, hq.2, mset_s, hP]
    · rw [mset_n hq, hP]
  · intro a r hP
    show wq (fX15_free_i24 fu (sI t) r 0 (sI 33) a L) _
    unfold fX15_free_i24
    rw [if_pos (by decide)]
    refine wq_for (body := fun r s => fX15_free_i64 fu (sI t) r s.1 s.2.1 s.2.2.1 s.2.2.2) (fun j (_ : Unit) => (0, sI (j + 1), a, L)) (fun _ _ => True) 16 ?_ ?_ 16 0 () fu (by omega) (by omega) trivial
    · intro j _ r hj _ ih
      show wq (fX15_free_i64 fu (sI t) r 0 (sI (j + 1)) a L) _
      unfold fX15_free_i64 fX15_free_b85
      rw [if_neg (by rw [sI_llt (by omega) (by omega)]; omega), mck_s (by omega) (by omega), sI_nn (by omega), if_neg (nz _ (by rw [hP]; exact ho _ (by omega) (by omega)))]
      simp only [mlet]
      rw [sI_1]
      exact ih () trivial
    · intro _ r _
      show wq (fX15_free_i64 fu (sI t) r 0 (sI 17) a L) _
      unfold fX15_free_i64 fX15_free_b108 fX15_free_b121
      rw [if_pos (by decide), if_neg (nz _ (by rw [hP]; exact h29))]
      simp (disch := omega) only [mlet, mck_s, sI_nn]
      first | rw [if_pos rfl] | rw [if_pos trivial] | skip
      refine wq_some ⟨rfl, ?_, ?_, ?_⟩
      all_goals (try dsimp only)
      · rw [mset_k (by decide), mset_s]
      · rw [mset_s]; exact bo_0
      · intro b j hq
        rw [mset_n (by omega), mset_n (by omega)]
        by_cases hq2 : b = 787 ∧ j = 29
        · rw [hq2.1, hq2.2, mset_s, hP]
        · rw [mset_n hq2, hP]
