/-! which entry goes: the weight of a code, and the one that both sides choose -/
/-- weight: a greater number is a lower priority; of one priority those that are not failed weigh more -/
def wt (M : mwM) (i : Nat) : Nat := 2 * nn (M 145 i) + 1 - nn (M 146 i) % 2
/-- x is the one that goes for a code of priority p -/
def isBest (M : mwM) (l : List Nat) (sd : Nat → Nat) (p x : Nat) : Prop := x ∈ l ∧ 2 * p < wt M x ∧ (∀ y ∈ l, wt M y ≤ wt M x) ∧ (∀ y ∈ l, wt M y = wt M x → sd x ≤ sd y)
theorem isBest_uni {M : mwM} {l : List Nat} {sd : Nat → Nat} {p x y : Nat} (hs : l.Pairwise (fun x y => sd x < sd y)) (hx : isBest M l sd p x) (hy : isBest M l sd p y) : x = y := by
  have h1 := hx.2.2.1 y hy.1
  have h2 := hy.2.2.1 x hx.1
  have h3 := hx.2.2.2 y hy.1 (by omega)
  have h4 := hy.2.2.2 x hx.1 (by omega)
  have h5 : sd x = sd y := by omega
  obtain ⟨a, ha, ea⟩ := List.getElem_of_mem hx.1
  obtain ⟨b, hb, eb⟩ := List.getElem_of_mem hy.1
  rw [List.pairwise_iff_getElem] at hs
  rcases Nat.lt_trichotomy a b with h | h | h
  · have := hs a b ha hb h
    rw [ea, eb] at this
    omega
  · subst h; rw [← ea, ← eb]
  · have := hs b a hb ha h
    rw [ea, eb] at this
    omega
theorem wt_eq {M : mwM} {L : mwL} {fu i p n : Nat} (hi : i < 30) (h1 : M 145 i = sI p) (h2 : M 146 i = sI n) (hp : p < 256) (hn : n < 256) : wt M i = 2 * p + 1 - n % 2 ∧ DX10_weightOf fu (sI i) M L = some (sI (wt M i), M, L) := by
  have ha : ∀ n, n < 256 → sI n &&& 1 = sI (n % 2) := by decide +kernel
  have hw : wt M i = 2 * p + 1 - n % 2 := by
    unfold wt
    rw [h1, h2, nn_s (by omega), nn_s (by omega)]
  refine ⟨hw, ?_⟩
  unfold DX10_weightOf
  rw [mck_s (by omega) (by omega), mck_s (by omega) (by omega), sI_nn (by omega), h1, h2, ha n hn, sI_lml, sI_1, hw]
  have : sI (2 * p + 1) = sI (2 * p + 1 - n % 2) + sI (n % 2) := by rw [sI_add]; congr 1; omega
  rw [this]
  simp
/-- what is known of a code's priority and status -/
def okp (A M : mwM) (N : Nat) : Prop := ∀ i, i < N → ∃ p n, 1 ≤ p ∧ p < 256 ∧ n < 256 ∧ A 145 i = sI p ∧ A 146 i = sI n ∧ M 903 (i + 1) = sI p ∧ dg M (i + 1) n
def okq (M : mwM) (N : Nat) : Prop := ∀ i, i < N → ∃ p n, p < 256 ∧ n < 256 ∧ M 145 i = sI p ∧ M 146 i = sI n
theorem c_findLesser {fu : Nat} {M : mwM} {L : mwL} {N i p : Nat} {l : List Nat} {sd : Nat → Nat} (hf : 9 ≤ fu) (hN : N ≤ 30) (hi : i < N) (hp : M 145 i = sI p) (hpl : p < 256) (h8 : l.length ≤ 8) (hl : ∀ x ∈ l, x < N) (hs : l.Pairwise (fun x y => sd x < sd y)) (hk : okq M N) (hE : M 139 3 = sI l.length) (hM : ∀ e (h : e < l.length), M 153 e = sI (l[e]'h)) : wq (DX10_findLesser fu (sI i) M L) (fun q => q.2 = (M, L) ∧ ((q.1 = -1 ∧ ∀ y ∈ l, wt M y ≤ 2 * p) ∨ ∃ e, ∃ h : e < l.length, q.1 = sI e ∧ isBest M l sd p (l[e]'h))) := by
  unfold DX10_findLesser
  rw [mck_s (by omega) (by omega), sI_nn (by omega), hp, sI_lml]
  simp only [mlet]
  have hs' := List.pairwise_iff_getElem.mp hs
  refine wq_for (body := fun r2 s => fX10_findLesser_i16 fu (sI i) r2 s.1 s.2.1 s.2.2.1 s.2.2.2.1 s.2.2.2.2) (fun j (a : Int32 × Nat) => (a.1, sI a.2, sI j, M, L)) (fun j a => a.2 < 1000 ∧ ((a.1 = -1 ∧ a.2 = 2 * p ∧ ∀ e (h : e < l.length), e < j → wt M (l[e]'h) ≤ 2 * p) ∨ ∃ e, ∃ h : e < l.length, e < j ∧ a.1 = sI e ∧ a.2 = wt M (l[e]'h) ∧ 2 * p < wt M (l[e]'h) ∧ (∀ e' (h' : e' < l.length), e' < j → wt M (l[e']'h') ≤ wt M (l[e]'h)) ∧ (∀ e' (h' : e' < l.length), e' < e → wt M (l[e']'h') < wt M (l[e]'h)))) l.length ?_ ?_ l.length 0 (-1, 2 * p) fu (by omega) (by omega) ⟨by show 2 * p < 1000; omega, Or.inl ⟨rfl, rfl, fun _ _ h => by omega⟩⟩
  · rintro j ⟨v2, v3⟩ r hj ⟨hb, hP⟩ ih
    show wq (fX10_findLesser_i16 fu (sI i) r v2 (sI v3) (sI j) M L) _
    dsimp only at hb hP
    unfold fX10_findLesser_i16 fX10_findLesser_b55
    have hlj := hl _ (List.getElem_mem hj)
    obtain ⟨pj, nj, hp2, hn, e1, e2⟩ := hk _ hlj
    obtain ⟨hw, hd⟩ := wt_eq (L := L) (fu := fu) (by omega) e1 e2 hp2 hn
    rw [hE, if_neg (by rw [sI_le (by omega) (by omega)]; omega), mck_s (by omega) (by omega), sI_nn (by omega), hM j hj, hd, mb3_s]
    simp only [mlet]
    rw [sI_1]
    by_cases hc : wt M l[j] ≤ v3
    · rw [if_pos (by rw [sI_le (by omega) (by omega)]; exact hc)]
      refine ih (v2, v3) ⟨hb, ?_⟩
      rcases hP with ⟨q1, q2, q3⟩ | ⟨e, he, q0, q1, q2, q3, q4, q5⟩
      · left
        refine ⟨q1, q2, ?_⟩
        intro e he hej
        by_cases hh : e = j
        · subst hh; omega
        · exact q3 e he (by omega)
      · right
        refine ⟨e, he, by omega, q1, q2, q3, ?_, q5⟩
        intro e' he' hej
        by_cases hh : e' = j
        · subst hh; omega
        · exact q4 e' he' (by omega)
    · rw [if_neg (by rw [sI_le (by omega) (by omega)]; exact hc), mck_s (by omega) (by omega), hM j hj, hd, mb3_s]
      refine ih (sI j, wt M l[j]) ⟨by show wt M l[j] < 1000; omega, Or.inr ⟨j, hj, by omega, rfl, rfl, ?_, ?_, ?_⟩⟩
      · rcases hP with ⟨q1, q2, q3⟩ | ⟨e, he, q0, q1, q2, q3, q4, q5⟩
        · omega
        · omega
      · intro e' he' hej
        by_cases hh : e' = j
        · subst hh; omega
        · rcases hP with ⟨q1, q2, q3⟩ | ⟨e, he, q0, q1, q2, q3, q4, q5⟩
          · have := q3 e' he' (by omega); omega
          · have := q4 e' he' (by omega); omega
      · intro e' he' hej
        rcases hP with ⟨q1, q2, q3⟩ | ⟨e, he, q0, q1, q2, q3, q4, q5⟩
        · have := q3 e' he' (by omega); omega
        · have := q4 e' he' (by omega); omega
  · rintro ⟨v2, v3⟩ r ⟨hb, hP⟩
    show wq (fX10_findLesser_i16 fu (sI i) r v2 (sI v3) (sI l.length) M L) _
    unfold fX10_findLesser_i16
    rw [hE, if_pos (by rw [sI_le (by omega) (by omega)]; omega)]
    refine wq_some ⟨rfl, ?_⟩
    rcases hP with ⟨q1, q2, q3⟩ | ⟨e, he, q0, q1, q2, q3, q4, q5⟩
    · left
      refine ⟨q1, ?_⟩
      intro y hy
      obtain ⟨e, he, h⟩ := List.getElem_of_mem hy
      rw [← h]
      exact q3 e he he
    · right
      refine ⟨e, he, q1, List.getElem_mem he, q3, ?_, ?_⟩
      · intro y hy
        obtain ⟨e', he', h⟩ := List.getElem_of_mem hy
        rw [← h]
        exact q4 e' he' he'
      · intro y hy hwy
        obtain ⟨e', he', h⟩ := List.getElem_of_mem hy
        subst h
        rcases Nat.lt_trichotomy e e' with h | h | h
        · exact Nat.le_of_lt (hs' e e' he he' h)
        · subst h; exact Nat.le_refl _
        · have := q5 e' he' h
          omega
