def pr (M : mwM) (e : Nat) : Nat := nn (M 145 e)
def fl (M : mwM) (e : Nat) : Nat := nn (M 146 e) % 2
theorem wt_pf (M : mwM) (e : Nat) : wt M e = 2 * pr M e + 1 - fl M e := rfl
theorem okp_at {A M : mwM} {N e : Nat} (hN : N ≤ 30) (hk : okp A M N) (he : e < N) : A 145 e = sI (pr A e) ∧ M 903 (e + 1) = sI (pr A e) ∧ 1 ≤ pr A e ∧ pr A e < 256 ∧ fl A e < 2 ∧ ∀ (fu : Nat) (L : mwL), DX18_is fu (sI (e + 1)) 0 M L = some (sI (fl A e), M, L) := by
  obtain ⟨p, n, h1, h2, h3, h4, h5, h6, h7⟩ := hk e he
  have ep : pr A e = p := by unfold pr; rw [h4, nn_s (by omega)]
  have ef : fl A e = n % 2 := by unfold fl; rw [h5, nn_s (by omega)]
  refine ⟨by rw [ep, h4], by rw [ep, h6], by omega, by omega, by omega, ?_⟩
  intro fu L
  have := m_isn (fu := fu) (L := L) (b := 0) h7 (by omega) (by omega)
  rw [ef]
  show DX18_is fu (sI (e + 1)) (sI 0) M L = _
  rw [this]
  simp
theorem m_goes3 {fu : Nat} {A M : mwM} {L : mwL} {N p low so a1 : Nat} {l : List Nat} {sd : Nat → Nat} (hf : 31 ≤ fu) (hN : N ≤ 30) (hsd : ∀ x, x < N → sd x < 2000000000) (hl : ∀ x ∈ l, x < N) (hk : okp A M N) (hC : M 902 2 = sI N) (hS : ∀ i, i < N → M 916 (i + 1) = sI (sd i)) (hS0 : ∀ i, i < N → (0 < sd i ↔ i ∈ l)) (hlow : low < 256) (hso : so < 2) (hso1 : so = 1 ↔ ∃ e ∈ l, pr A e = low ∧ fl A e = 0) (hl0 : low = 0 → ∀ y ∈ l, wt A y ≤ 2 * p) (hl1 : 0 < low → (∃ e ∈ l, 2 * p < wt A e ∧ pr A e = low) ∧ ∀ e ∈ l, 2 * p < wt A e → pr A e ≤ low) : wq (fX18_goes_h166 fu (sI a1) fu (sI low, sI so, 0, 1, M, L)) (fun q => q.2 = (M, L) ∧ ((q.1 = 0 ∧ ∀ y ∈ l, wt A y ≤ 2 * p) ∨ ∃ x, isBest A l sd p x ∧ q.1 = sI (x + 1))) := by
  refine wq_for (body := fun r s => fX18_goes_i166 fu (sI a1) r s.1 s.2.1 s.2.2.1 s.2.2.2.1 s.2.2.2.2.1 s.2.2.2.2.2) (fun j (b : Nat) => (sI low, sI so, sI b, sI (j + 1), M, L)) (fun j b => (0 < j → 0 < low) ∧ ((b = 0 ∧ ∀ e, e < j → ¬ (e ∈ l ∧ pr A e = low ∧ (so = 0 ∨ fl A e = 0))) ∨ ∃ x, b = x + 1 ∧ x < j ∧ x ∈ l ∧ pr A x = low ∧ (so = 0 ∨ fl A x = 0) ∧ ∀ e, e < j → (e ∈ l ∧ pr A e = low ∧ (so = 0 ∨ fl A e = 0)) → sd x ≤ sd e)) N ?_ ?_ N 0 0 fu (by omega) (by omega) ⟨fun h => by omega, Or.inl ⟨rfl, fun _ h => by omega⟩⟩
  · rintro j b r hj ⟨hj0, hP⟩ ih
    show wq (fX18_goes_i166 fu (sI a1) r (sI low) (sI so) (sI b) (sI (j + 1)) M L) _
    unfold fX18_goes_i166 fX18_goes_b263 fX18_goes_b218 fX18_goes_b214 fX18_goes_b219 fX18_goes_b253 fX18_goes_b248 fX18_goes_b255
    obtain ⟨k1, k2, k3, k4, k5, k6⟩ := okp_at hN hk hj
    have hb : b ≤ j := by rcases hP with ⟨h, _⟩ | ⟨x, h, h2, _⟩ <;> omega
    rw [hC, if_neg (by rw [sI_lt (by omega) (by omega)]; omega)]
    by_cases hz : low = 0
    · rw [if_pos (by rw [hz]; decide)]
      refine wq_some ⟨rfl, Or.inl ⟨?_, hl0 hz⟩⟩
      rcases hP with ⟨h, _⟩ | ⟨x, h, h2, _⟩
      · show sI b = 0
        rw [h]; rfl
      · have := hj0 (by omega); omega
    · rw [if_neg (by rw [sI_lel (by omega) (by omega)]; omega)]
      have hsj := hsd j hj
      have go : ∀ (c : Bool), (c = true ↔ (j ∈ l ∧ pr A j = low ∧ (so = 0 ∨ fl A j = 0))) → wq (if (if c then (1 : Int32) else 0) = 0 then mlet (sI (j + 1) + 1) (fun x46 => r (sI low, sI so, sI b, x46, M, L)) else (if sI b = 0 then mlet (sI (j + 1) + 1) (fun x46 => r (sI low, sI so, sI (j + 1), x46, M, L)) else mck (sI (j + 1)) 201 (mck (sI b) 201 (if (M 916 (sI b).toNatClampNeg) ≤ sI (sd j) then mlet (sI (j + 1) + 1) (fun x46 => r (sI low, sI so, sI b, x46, M, L)) else mlet (sI (j + 1) + 1) (fun x46 => r (sI low, sI so, sI (j + 1), x46, M, L)))))) (fun q => q.2 = (M, L) ∧ ((q.1 = 0 ∧ ∀ y ∈ l, wt A y ≤ 2 * p) ∨ ∃ x, isBest A l sd p x ∧ q.1 = sI (x + 1))) := by
        intro c hc
        simp only [mlet]
        rw [sI_1]
        cases c with
        | false =>
          rw [if_pos (by rfl)]
          have hn : ¬ (j ∈ l ∧ pr A j = low ∧ (so = 0 ∨ fl A j = 0)) := fun q => by have := hc.mpr q; cases this
          refine ih b ⟨fun _ => by omega, ?_⟩
          rcases hP with ⟨h1, h2⟩ | ⟨x, h1, h2, h3, h4, h5, h6⟩
          · left
            refine ⟨h1, ?_⟩
            intro e he
            by_cases hh : e = j
            · subst hh; exact hn
            · exact h2 e (by omega)
          · right
            refine ⟨x, h1, by omega, h3, h4, h5, ?_⟩
            intro e he hq
            by_cases hh : e = j
            · subst hh; exact absurd hq hn
            · exact h6 e (by omega) hq
        | true =>
          have hy := hc.mp rfl
          rw [if_neg (by decide)]
          rcases hP with ⟨h1, h2⟩ | ⟨x, h1, h2, h3, h4, h5, h6⟩
          · subst h1
            rw [if_pos (by rfl)]
            refine ih (j + 1) ⟨fun _ => by omega, Or.inr ⟨j, rfl, by omega, hy.1, hy.2.1, hy.2.2, ?_⟩⟩
            intro e he hq
            by_cases hh : e = j
            · subst hh; exact Nat.le_refl _
            · exact absurd hq (h2 e (by omega))
          · subst h1
            have hsx := hsd x (by omega)
            rw [if_neg (by rw [sI_eql (by omega) (by omega)]; omega), mck_s (by omega) (by omega), mck_s (by omega) (by omega), sI_nn (by omega), hS x (by omega)]
            by_cases hle : sd x ≤ sd j
            · rw [if_pos (by rw [sI_le (by omega) (by omega)]; exact hle)]
              refine ih (x + 1) ⟨fun _ => by omega, Or.inr ⟨x, rfl, by omega, h3, h4, h5, ?_⟩⟩
              intro e he hq
              by_cases hh : e = j
              · subst hh; exact hle
              · exact h6 e (by omega) hq
            · rw [if_neg (by rw [sI_le (by omega) (by omega)]; exact hle)]
              refine ih (j + 1) ⟨fun _ => by omega, Or.inr ⟨j, rfl, by omega, hy.1, hy.2.1, hy.2.2, ?_⟩⟩
              intro e he hq
              by_cases hh : e = j
              · subst hh; exact Nat.le_refl _
              · have := h6 e (by omega) hq; omega
      rw [mck_s (by omega) (by omega), sI_nn (by omega), hS j hj]
      by_cases hs0 : sd j = 0
      · rw [if_pos (by rw [hs0]; decide)]
        first | rw [hS j hj] | skip
        exact go false ⟨fun h => (by cases h), fun h => by have := (hS0 j hj).mpr h.1; omega⟩
      · rw [if_neg (by rw [sI_lel (by omega) (by omega)]; omega), mck_s (by omega) (by omega), k2]
        have hjl := (hS0 j hj).mp (by omega)
        by_cases hpl : pr A j = low
        · rw [if_pos (by rw [hpl])]
          by_cases hso0 : so = 0
          · rw [if_pos (by rw [hso0]; rfl)]
            first | rw [hS j hj] | skip
            exact go true ⟨fun _ => ⟨hjl, hpl, Or.inl hso0⟩, fun _ => rfl⟩
          · rw [if_neg (by rw [sI_eql (by omega) (by omega)]; exact hso0), k6, mb3_s]
            by_cases hf0 : fl A j = 0
            · rw [if_pos (by rw [hf0]; rfl)]
              first | rw [hS j hj] | skip
              exact go true ⟨fun _ => ⟨hjl, hpl, Or.inr hf0⟩, fun _ => rfl⟩
            · rw [if_neg (by rw [sI_eql (by omega) (by omega)]; exact hf0)]
              first | rw [hS j hj] | skip
              exact go false ⟨fun h => (by cases h), fun h => (by rcases h.2.2 with h | h <;> contradiction)⟩
        · rw [if_neg (by rw [sI_eq (by omega) (by omega)]; exact hpl)]
          first | rw [hS j hj] | skip
          exact go false ⟨fun h => (by cases h), fun h => absurd h.2.1 hpl⟩
  · rintro b r ⟨hj0, hP⟩
    show wq (fX18_goes_i166 fu (sI a1) r (sI low) (sI so) (sI b) (sI (N + 1)) M L) _
    unfold fX18_goes_i166 fX18_goes_b263
    rw [hC, if_pos (by rw [sI_lt (by omega) (by omega)]; omega)]
    refine wq_some ⟨rfl, ?_⟩
    by_cases hz : low = 0
    · left
      refine ⟨?_, hl0 hz⟩
      rcases hP with ⟨h, _⟩ | ⟨x, h, h2, _⟩
      · show sI b = 0
        rw [h]; rfl
      · have := hj0 (by omega); omega
    · right
      obtain ⟨⟨e0, he0, hw0, hp0⟩, hmax⟩ := hl1 (by omega)
      rcases hP with ⟨h1, h2⟩ | ⟨x, h1, h2, h3, h4, h5, h6⟩
      · exfalso
        by_cases hso0 : so = 0
        · exact h2 e0 (hl e0 he0) ⟨he0, hp0, Or.inl hso0⟩
        · obtain ⟨e, he, q1, q2⟩ := hso1.mp (by omega)
          exact h2 e (hl e he) ⟨he, q1, Or.inr q2⟩
      · refine ⟨x, ⟨h3, ?_, ?_, ?_⟩, by show sI b = sI (x + 1); rw [h1]⟩
        · have f0 := (okp_at hN hk (hl e0 he0)).2.2.2.2.1
          rw [wt_pf] at hw0 ⊢
          rcases h5 with h5 | h5
          · by_cases hff : fl A e0 = 0
            · exact absurd (hso1.mpr ⟨e0, he0, hp0, hff⟩) (by omega)
            · have fx := (okp_at hN hk (hl x h3)).2.2.2.2.1
              omega
          · omega
        · intro y hy
          have fy := (okp_at hN hk (hl y hy)).2.2.2.2.1
          have fx := (okp_at hN hk (hl x h3)).2.2.2.2.1
          by_cases hmy : 2 * p < wt A y
          · have hpy := hmax y hy hmy
            rw [wt_pf, wt_pf]
            by_cases hpe : pr A y = low
            · by_cases hfy : fl A y = 0
              · have hs1 := hso1.mpr ⟨y, hy, hpe, hfy⟩
                rcases h5 with h5 | h5 <;> omega
              · omega
            · omega
          · have f0 := (okp_at hN hk (hl e0 he0)).2.2.2.2.1
            rw [wt_pf] at hw0 hmy ⊢
            rw [wt_pf]
            rcases h5 with h5 | h5
            · by_cases hff : fl A e0 = 0
              · exact absurd (hso1.mpr ⟨e0, he0, hp0, hff⟩) (by omega)
              · omega
            · omega
        · intro y hy hwy
          have fy := (okp_at hN hk (hl y hy)).2.2.2.2.1
          have fx := (okp_at hN hk (hl x h3)).2.2.2.2.1
          rw [wt_pf, wt_pf] at hwy
          refine h6 y (hl y hy) ⟨hy, by omega, ?_⟩
          rcases h5 with h5 | h5
          · exact Or.inl h5
          · right; omega
