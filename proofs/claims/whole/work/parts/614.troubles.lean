theorem m_goes2 {fu : Nat} {A M : mwM} {L : mwL} {N p low a1 : Nat} {l : List Nat} {sd : Nat → Nat} (hf : 31 ≤ fu) (hN : N ≤ 30) (hsd : ∀ x, x < N → sd x < 2000000000) (hl : ∀ x ∈ l, x < N) (hk : okp A M N) (hC : M 902 2 = sI N) (hS : ∀ i, i < N → M 916 (i + 1) = sI (sd i)) (hS0 : ∀ i, i < N → (0 < sd i ↔ i ∈ l)) (hlow : low < 256) (hl0 : low = 0 → ∀ y ∈ l, wt A y ≤ 2 * p) (hl1 : 0 < low → (∃ e ∈ l, 2 * p < wt A e ∧ pr A e = low) ∧ ∀ e ∈ l, 2 * p < wt A e → pr A e ≤ low) : wq (fX18_goes_h104 fu (sI a1) fu (sI low, 0, 1, M, L)) (fun q => q.2 = (M, L) ∧ ((q.1 = 0 ∧ ∀ y ∈ l, wt A y ≤ 2 * p) ∨ ∃ x, isBest A l sd p x ∧ q.1 = sI (x + 1))) := by
  refine wq_for (body := fun r s => fX18_goes_i104 fu (sI a1) r s.1 s.2.1 s.2.2.1 s.2.2.2.1 s.2.2.2.2) (fun j (so : Nat) => (sI low, sI so, sI (j + 1), M, L)) (fun j so => so < 2 ∧ (so = 1 ↔ ∃ e, e < j ∧ e ∈ l ∧ pr A e = low ∧ fl A e = 0)) N ?_ ?_ N 0 0 fu (by omega) (by omega) ⟨by omega, ⟨fun h => by omega, fun ⟨e, h, _⟩ => by omega⟩⟩
  · rintro j so r hj ⟨hso, hP⟩ ih
    show wq (fX18_goes_i104 fu (sI a1) r (sI low) (sI so) (sI (j + 1)) M L) _
    unfold fX18_goes_i104 fX18_goes_b152 fX18_goes_b148 fX18_goes_b153
    obtain ⟨k1, k2, k3, k4, k5, k6⟩ := okp_at hN hk hj
    have hsj := hsd j hj
    rw [hC, if_neg (by rw [sI_lt (by omega) (by omega)]; omega)]
    simp only [mlet]
    rw [sI_1]
    by_cases hso0 : so = 0
    · subst hso0
      have hno : ¬ ∃ e, e < j ∧ e ∈ l ∧ pr A e = low ∧ fl A e = 0 := fun h => by have := hP.mpr h; omega
      have keep0 : ¬ (j ∈ l ∧ pr A j = low ∧ fl A j = 0) → wq (r (sI low, 0, sI (j + 1 + 1), M, L)) (fun q => q.2 = (M, L) ∧ ((q.1 = 0 ∧ ∀ y ∈ l, wt A y ≤ 2 * p) ∨ ∃ x, isBest A l sd p x ∧ q.1 = sI (x + 1))) := by
        intro hn
        refine ih 0 ⟨by omega, ⟨fun h => by omega, ?_⟩⟩
        rintro ⟨e, he, h⟩
        exfalso
        by_cases hh : e = j
        · subst hh; exact hn h
        · exact hno ⟨e, by omega, h⟩
      rw [if_pos (by rfl), mck_s (by omega) (by omega), sI_nn (by omega), hS j hj]
      by_cases hs0 : sd j = 0
      · rw [if_pos (by rw [hs0]; decide)]
        exact keep0 (fun h => by have := (hS0 j hj).mpr h.1; omega)
      · rw [if_neg (by rw [sI_lel (by omega) (by omega)]; omega), mck_s (by omega) (by omega), k2]
        have hjl := (hS0 j hj).mp (by omega)
        by_cases hpl : pr A j = low
        · rw [if_pos (by rw [hpl]), k6, mb3_s]
          by_cases hf0 : fl A j = 0
          · rw [if_pos (by rw [hf0]; rfl)]
            exact ih 1 ⟨by omega, ⟨fun _ => ⟨j, by omega, hjl, hpl, hf0⟩, fun _ => rfl⟩⟩
          · rw [if_neg (by rw [sI_eql (by omega) (by omega)]; exact hf0)]
            exact keep0 (fun h => hf0 h.2.2)
        · rw [if_neg (by rw [sI_eq (by omega) (by omega)]; exact hpl)]
          exact keep0 (fun h => hpl h.2.1)
    · rw [if_neg (by rw [sI_eql (by omega) (by omega)]; exact hso0)]
      obtain ⟨e, he, h⟩ := hP.mp (by omega)
      exact ih 1 ⟨by omega, ⟨fun _ => ⟨e, by omega, h⟩, fun _ => rfl⟩⟩
  · rintro so r ⟨hso, hP⟩
    show wq (fX18_goes_i104 fu (sI a1) r (sI low) (sI so) (sI (N + 1)) M L) _
    unfold fX18_goes_i104
    rw [hC, if_pos (by rw [sI_lt (by omega) (by omega)]; omega)]
    refine m_goes3 hf hN hsd hl hk hC hS hS0 hlow hso ?_ hl0 hl1
    constructor
    · intro h
      obtain ⟨e, _, h1, h2⟩ := hP.mp h
      exact ⟨e, h1, h2⟩
    · rintro ⟨e, h1, h2⟩
      exact hP.mpr ⟨e, hl e h1, h1, h2⟩
theorem m_goes {fu : Nat} {A M : mwM} {L : mwL} {N p i : Nat} {l : List Nat} {sd : Nat → Nat} (hf : 31 ≤ fu) (hN : N ≤ 30) (hi : i < N) (hp : pr A i = p) (hsd : ∀ x, x < N → sd x < 2000000000) (hl : ∀ x ∈ l, x < N) (hk : okp A M N) (hC : M 902 2 = sI N) (hS : ∀ i, i < N → M 916 (i + 1) = sI (sd i)) (hS0 : ∀ i, i < N → (0 < sd i ↔ i ∈ l)) : wq (DX18_goes fu (sI (i + 1)) M L) (fun q => q.2 = (M, L) ∧ ((q.1 = 0 ∧ ∀ y ∈ l, wt A y ≤ 2 * p) ∨ ∃ x, isBest A l sd p x ∧ q.1 = sI (x + 1))) := by
  obtain ⟨i1, i2, i3, i4, i5, i6⟩ := okp_at hN hk hi
  rw [hp] at i2 i3 i4
  refine wq_for (body := fun r s => fX18_goes_i4 fu (sI (i + 1)) r s.1 s.2.1 s.2.2.1 s.2.2.2) (fun j (low : Nat) => (sI low, sI (j + 1), M, L)) (fun j low => low < 256 ∧ (low = 0 → ∀ e, e < j → ¬ (e ∈ l ∧ 2 * p < wt A e)) ∧ (0 < low → ∃ e, e < j ∧ e ∈ l ∧ 2 * p < wt A e ∧ pr A e = low) ∧ ∀ e, e < j → e ∈ l → 2 * p < wt A e → pr A e ≤ low) N ?_ ?_ N 0 0 fu (by omega) (by omega) ⟨by omega, fun _ e h => by omega, fun h => by omega, fun e h => by omega⟩
  · rintro j low r hj ⟨hlow, hP0, hP1, hP2⟩ ih
    show wq (fX18_goes_i4 fu (sI (i + 1)) r (sI low) (sI (j + 1)) M L) _
    unfold fX18_goes_i4 fX18_goes_b64 fX18_goes_b60 fX18_goes_b65 fX18_goes_b91 fX18_goes_b92
    obtain ⟨k1, k2, k3, k4, k5, k6⟩ := okp_at hN hk hj
    have hsj := hsd j hj
    rw [hC, if_neg (by rw [sI_lt (by omega) (by omega)]; omega)]
    simp only [mlet]
    rw [sI_1]
    have no : ¬ (j ∈ l ∧ 2 * p < wt A j) → wq (r (sI low, sI (j + 1 + 1), M, L)) (fun q => q.2 = (M, L) ∧ ((q.1 = 0 ∧ ∀ y ∈ l, wt A y ≤ 2 * p) ∨ ∃ x, isBest A l sd p x ∧ q.1 = sI (x + 1))) := by
      intro hn
      refine ih low ⟨hlow, ?_, ?_, ?_⟩
      · intro hz e he
        by_cases hh : e = j
        · subst hh; exact hn
        · exact hP0 hz e (by omega)
      · intro hz
        obtain ⟨e, he, h⟩ := hP1 hz
        exact ⟨e, by omega, h⟩
      · intro e he h1 h2
        by_cases hh : e = j
        · subst hh; exact absurd ⟨h1, h2⟩ hn
        · exact hP2 e (by omega) h1 h2
    have yes : (j ∈ l ∧ 2 * p < wt A j) → wq (if (1 : Int32) = 0 then r (sI low, sI (j + 1 + 1), M, L) else mck (sI (j + 1)) 201 (if M 903 (sI (j + 1)).toNatClampNeg ≤ sI low then r (sI low, sI (j + 1 + 1), M, L) else mck (sI (j + 1)) 201 (r (M 903 (sI (j + 1)).toNatClampNeg, sI (j + 1 + 1), M, L)))) (fun q => q.2 = (M, L) ∧ ((q.1 = 0 ∧ ∀ y ∈ l, wt A y ≤ 2 * p) ∨ ∃ x, isBest A l sd p x ∧ q.1 = sI (x + 1))) := by
      intro hy
      rw [if_neg (by decide), mck_s (by omega) (by omega), sI_nn (by omega), k2]
      by_cases hc : pr A j ≤ low
      · rw [if_pos (by rw [sI_le (by omega) (by omega)]; exact hc)]
        refine ih low ⟨hlow, ?_, ?_, ?_⟩
        · intro hz; omega
        · intro hz
          obtain ⟨e, he, h⟩ := hP1 hz
          exact ⟨e, by omega, h⟩
        · intro e he h1 h2
          by_cases hh : e = j
          · subst hh; exact hc
          · exact hP2 e (by omega) h1 h2
      · rw [if_neg (by rw [sI_le (by omega) (by omega)]; exact hc), mck_s (by omega) (by omega)]
        refine ih (pr A j) ⟨k4, ?_, ?_, ?_⟩
        · intro hz; omega
        · intro _
          exact ⟨j, by omega, hy.1, hy.2, rfl⟩
        · intro e he h1 h2
          by_cases hh : e = j
          · subst hh; exact Nat.le_refl _
          · have := hP2 e (by omega) h1 h2; omega
    rw [mck_s (by omega) (by omega), sI_nn (by omega), hS j hj]
    by_cases hs0 : sd j = 0
    · rw [if_pos (by rw [hs0]; decide)]
      exact no (fun h => by have := (hS0 j hj).mpr h.1; omega)
    · rw [if_neg (by rw [sI_lel (by omega) (by omega)]; omega), mck_s (by omega) (by omega), mck_s (by omega) (by omega), sI_nn (by omega), k2, i2]
      have hjl := (hS0 j hj).mp (by omega)
      by_cases hpl : p < pr A j
      · rw [if_pos (by rw [sI_lt (by omega) (by omega)]; exact hpl)]
        have := yes ⟨hjl, by rw [wt_pf]; omega⟩
        rw [sI_nn (by omega), k2] at this
        exact this
      · rw [if_neg (by rw [sI_lt (by omega) (by omega)]; exact hpl), mck_s (by omega) (by omega), mck_s (by omega) (by omega)]
        by_cases hpe : pr A j = p
        · rw [if_pos (by rw [hpe]), k6, mb3_s]
          by_cases hf0 : fl A j = 0
          · rw [if_pos (by rw [hf0]; rfl)]
            have := yes ⟨hjl, by rw [wt_pf]; omega⟩
            rw [sI_nn (by omega), k2] at this
            rw [k2]
            exact this
          · rw [if_neg (by rw [sI_eql (by omega) (by omega)]; exact hf0)]
            exact no (fun h => by have := h.2; rw [wt_pf] at this; omega)
        · rw [if_neg (by rw [sI_eq (by omega) (by omega)]; exact hpe)]
          exact no (fun h => by have := h.2; rw [wt_pf] at this; omega)
  · rintro low r ⟨hlow, hP0, hP1, hP2⟩
    show wq (fX18_goes_i4 fu (sI (i + 1)) r (sI low) (sI (N + 1)) M L) _
    unfold fX18_goes_i4
    rw [hC, if_pos (by rw [sI_lt (by omega) (by omega)]; omega)]
    refine m_goes2 hf hN hsd hl hk hC hS hS0 hlow ?_ ?_
    · intro hz y hy
      have := hP0 hz y (hl y hy)
      exact Nat.not_lt.mp (fun h => this ⟨hy, h⟩)
    · intro hz
      obtain ⟨e, _, h⟩ := hP1 hz
      exact ⟨⟨e, h⟩, fun e he h => hP2 e (hl e he) he h⟩
theorem m_entries {fu : Nat} {M : mwM} {L : mwL} {N : Nat} {l : List Nat} {sd : Nat → Nat} (hf : 31 ≤ fu) (hN : N ≤ 30) (hsd : ∀ x, x < N → sd x < 2000000000) (hl : ∀ x ∈ l, x < N) (hnd : l.Nodup) (hC : M 902 2 = sI N) (hS : ∀ i, i < N → M 916 (i + 1) = sI (sd i)) (hS0 : ∀ i, i < N → (0 < sd i ↔ i ∈ l)) : DX18_entries fu M L = some (sI l.length, M, L) := by
  have h := wq_for (body := fun r4 s => fX18_entries_i4 fu r4 s.1 s.2.1 s.2.2.1 s.2.2.2) (Q := fun q => q = (sI l.length, M, L)) (fun j (a : Nat) => (sI a, sI (j + 1), M, L)) (fun j a => a = cnt (fun e => decide (0 < sd e)) j) N ?_ ?_ N 0 0 fu (by omega) (by omega) rfl
  · obtain ⟨q, e, rfl⟩ := h
    exact e
  · intro j a r hj ha ih
    show wq (fX18_entries_i4 fu r (sI a) (sI (j + 1)) M L) _
    unfold fX18_entries_i4 fX18_entries_b28
    have hsj := hsd j hj
    rw [hC, if_neg (by rw [sI_lt (by omega) (by omega)]; omega), mck_s (by omega) (by omega), sI_nn (by omega), hS j hj]
    simp only [mlet]
    rw [sI_1, sI_1]
    by_cases hs0 : sd j = 0
    · rw [if_pos (by rw [hs0]; decide)]
      refine ih a ?_
      show a = cnt _ j + _
      rw [← ha]
      simp [hs0]
    · rw [if_neg (by rw [sI_lel (by omega) (by omega)]; omega)]
      refine ih (a + 1) ?_
      show a + 1 = cnt _ j + _
      rw [← ha]
      have : 0 < sd j := by omega
      simp [this]
  · intro a r ha
    show wq (fX18_entries_i4 fu r (sI a) (sI (N + 1)) M L) _
    unfold fX18_entries_i4
    rw [hC, if_pos (by rw [sI_lt (by omega) (by omega)]; omega)]
    refine wq_some ?_
    rw [ha, cnt_list hnd hl (fun i hi => by simpa using hS0 i hi)]
