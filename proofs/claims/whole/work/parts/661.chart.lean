/-! the edges of a chart -/
def Ed (N E : Nat) (kd fr to ev gu : Nat → Nat) : Prop := E ≤ 400 ∧ ∀ e, 1 ≤ e → e ≤ E → 1 ≤ fr e ∧ fr e ≤ N ∧ 1 ≤ to e ∧ to e ≤ N ∧ kd (fr e) ≠ 2 ∧ kd (fr e) ≠ 3 ∧ ev e < 2000 ∧ gu e < 16384 ∧ (gu e = 0 ∨ (1 ≤ gu e % 8 ∧ gu e % 8 ≤ 6))
def EdC (A : mwM) (k E : Nat) (fr to ev gu : Nat → Nat) : Prop := A k 8 = sI E ∧ ∀ e, 1 ≤ e → e ≤ E → A (k + 21) e = sI (fr e) ∧ A (k + 22) e = sI (to e) ∧ A (k + 23) e = sI (ev e) ∧ A (k + 24) e = sI (gu e)
def EdM (M : mwM) (q E : Nat) (fr to ev gu : Nat → Nat) : Prop := M q 12 = sI E ∧ ∀ e, 1 ≤ e → e ≤ E → M (q + 10) e = sI (fr e) ∧ M (q + 11) e = sI (to e) ∧ M (q + 12) e = sI (ev e) ∧ M (q + 13) e = sI (gu e)
/-- some, all of 1 .. n -/
def anyN (p : Nat → Bool) : Nat → Bool
  | 0 => false
  | n + 1 => anyN p n || p (n + 1)
def allN (p : Nat → Bool) : Nat → Bool
  | 0 => true
  | n + 1 => allN p n && p (n + 1)
theorem anyN_iff {p : Nat → Bool} : ∀ n, anyN p n = true ↔ ∃ j, 1 ≤ j ∧ j ≤ n ∧ p j = true := by
  intro n
  induction n with
  | zero => exact ⟨fun h => (by cases h), fun ⟨j, h1, h2, _⟩ => by omega⟩
  | succ n ih =>
    show (anyN p n || p (n + 1)) = true ↔ _
    rw [Bool.or_eq_true, ih]
    constructor
    · rintro (⟨j, h1, h2, h3⟩ | h)
      · exact ⟨j, h1, by omega, h3⟩
      · exact ⟨n + 1, by omega, by omega, h⟩
    · rintro ⟨j, h1, h2, h3⟩
      by_cases hj : j = n + 1
      · right; rw [← hj]; exact h3
      · left; exact ⟨j, h1, by omega, h3⟩
theorem allN_iff {p : Nat → Bool} : ∀ n, allN p n = true ↔ ∀ j, 1 ≤ j → j ≤ n → p j = true := by
  intro n
  induction n with
  | zero => exact ⟨fun _ j h1 h2 => by omega, fun _ => rfl⟩
  | succ n ih =>
    show (allN p n && p (n + 1)) = true ↔ _
    rw [Bool.and_eq_true, ih]
    constructor
    · rintro ⟨h1, h2⟩ j hj1 hj2
      by_cases hj : j = n + 1
      · rw [hj]; exact h2
      · exact h1 j hj1 (by omega)
    · intro h
      exact ⟨fun j h1 h2 => h j h1 (by omega), h (n + 1) (by omega) (by omega)⟩
theorem anyN_congr {p r : Nat → Bool} {n : Nat} (h : ∀ j, 1 ≤ j → j ≤ n → p j = r j) : anyN p n = anyN r n := by
  induction n with
  | zero => rfl
  | succ n ih =>
    show (anyN p n || p (n + 1)) = (anyN r n || r (n + 1))
    rw [ih (fun j h1 h2 => h j h1 (by omega)), h (n + 1) (by omega) (by omega)]
theorem allN_congr {p r : Nat → Bool} {n : Nat} (h : ∀ j, 1 ≤ j → j ≤ n → p j = r j) : allN p n = allN r n := by
  induction n with
  | zero => rfl
  | succ n ih =>
    show (allN p n && p (n + 1)) = (allN r n && r (n + 1))
    rw [ih (fun j h1 h2 => h j h1 (by omega)), h (n + 1) (by omega) (by omega)]
/-- which edges say where an edge comes from, and goes to -/
def sS (kd fr to : Nat → Nat) (e j : Nat) : Bool := if kd (fr e) = 5 then decide (to j = fr e) else decide (j = e)
def sT (kd fr to : Nat → Nat) (e j : Nat) : Bool := if kd (to e) = 4 then (decide (fr j = to e) && decide (kd (to j) < 4)) else decide (j = e)
theorem m_sS {fu : Nat} {M : mwM} {L : mwL} {q N E e j : Nat} {pa kd de fr to ev gu : Nat → Nat} (hT : Tr N pa kd de) (hM : TrM M q N pa kd de) (hE : Ed N E kd fr to ev gu) (hEM : EdM M q E fr to ev gu) (h1 : 1 ≤ e) (h2 : e ≤ E) (h3 : 1 ≤ j) (h4 : j ≤ E) : DX13_saysSource fu q (sI e) (sI j) M L = some (bI (sS kd fr to e j), M, L) := by
  obtain ⟨e1, e2, e3, e4, e5, e6, e7, e8, _⟩ := hE.2 e h1 h2
  obtain ⟨j1, j2, j3, j4, j5, j6, j7, j8, _⟩ := hE.2 j h3 h4
  have hE4 := hE.1
  have hN := hT.1
  have hk := (Tr_pa hT e2).2.2.2.1
  unfold DX13_saysSource fX13_saysSource_b48
  rw [mck_s (by omega) (by omega), sI_nn (by omega), (hEM.2 e h1 h2).1, mck_s (by omega) (by omega), sI_nn (by omega), (hM.2 _ e2).2.1, mck_s (by omega) (by omega), mck_s (by omega) (by omega), sI_nn (by omega), (hEM.2 j h3 h4).2.1]
  unfold sS
  by_cases hq : kd (fr e) = 5
  · rw [if_pos (by rw [hq]; rfl), if_pos hq]
    by_cases ht : to j = fr e
    · rw [if_pos (by rw [ht]), decide_eq_true ht]; rfl
    · rw [if_neg (by rw [sI_eq (by omega) (by omega)]; exact ht), decide_eq_false ht]; rfl
  · rw [if_neg (by rw [sI_eql (by omega) (by omega)]; exact hq), if_neg hq]
    by_cases ht : j = e
    · rw [if_pos (by rw [ht]), decide_eq_true ht]; rfl
    · rw [if_neg (by rw [sI_eq (by omega) (by omega)]; exact ht), decide_eq_false ht]; rfl
theorem m_sT {fu : Nat} {M : mwM} {L : mwL} {q N E e j : Nat} {pa kd de fr to ev gu : Nat → Nat} (hT : Tr N pa kd de) (hM : TrM M q N pa kd de) (hE : Ed N E kd fr to ev gu) (hEM : EdM M q E fr to ev gu) (h1 : 1 ≤ e) (h2 : e ≤ E) (h3 : 1 ≤ j) (h4 : j ≤ E) : DX13_saysTarget fu q (sI e) (sI j) M L = some (bI (sT kd fr to e j), M, L) := by
  obtain ⟨e1, e2, e3, e4, e5, e6, e7, e8, _⟩ := hE.2 e h1 h2
  obtain ⟨j1, j2, j3, j4, j5, j6, j7, j8, _⟩ := hE.2 j h3 h4
  have hE4 := hE.1
  have hN := hT.1
  have hk := (Tr_pa hT e4).2.2.2.1
  have hkj := (Tr_pa hT j4).2.2.2.1
  unfold DX13_saysTarget fX13_saysTarget_b60 fX13_saysTarget_b61 fX13_saysTarget_b25
  rw [mck_s (by omega) (by omega), sI_nn (by omega), (hEM.2 e h1 h2).2.1, mck_s (by omega) (by omega), sI_nn (by omega), (hM.2 _ e4).2.1, mck_s (by omega) (by omega), mck_s (by omega) (by omega), sI_nn (by omega), (hEM.2 j h3 h4).1, mck_s (by omega) (by omega), (hEM.2 j h3 h4).2.1, mck_s (by omega) (by omega), sI_nn (by omega), (hM.2 _ j4).2.1]
  unfold sT
  by_cases hq : kd (to e) = 4
  · rw [if_pos (by rw [hq]; rfl), if_pos hq]
    by_cases ht : fr j = to e
    · rw [if_pos (by rw [ht]), decide_eq_true ht]
      by_cases h5 : kd (to j) < 4
      · rw [if_neg (by rw [sI_lle (by omega) (by omega)]; omega), decide_eq_true h5]; rfl
      · rw [if_pos (by rw [sI_lle (by omega) (by omega)]; omega), decide_eq_false h5]; rfl
    · rw [if_neg (by rw [sI_eq (by omega) (by omega)]; exact ht), decide_eq_false ht]; rfl
  · rw [if_neg (by rw [sI_eql (by omega) (by omega)]; exact hq), if_neg hq]
    by_cases ht : j = e
    · rw [if_pos (by rw [ht]), decide_eq_true ht]; rfl
    · rw [if_neg (by rw [sI_eq (by omega) (by omega)]; exact ht), decide_eq_false ht]; rfl
/-- whether an edge's sources are all active -/
def wtB (kd fr to : Nat → Nat) (E : Nat) (ac : Nat → Bool) (e : Nat) : Bool := anyN (sS kd fr to e) E && allN (fun j => !sS kd fr to e j || ac (fr j)) E
theorem m_waitsFor {fu : Nat} {M : mwM} {L : mwL} {q N E e : Nat} {pa kd de fr to ev gu : Nat → Nat} {ac : Nat → Bool} (hf : 402 ≤ fu) (hT : Tr N pa kd de) (hM : TrM M q N pa kd de) (hE : Ed N E kd fr to ev gu) (hEM : EdM M q E fr to ev gu) (hac : ∀ s, 1 ≤ s → s ≤ N → M (q + 9) s = bI (ac s)) (h1 : 1 ≤ e) (h2 : e ≤ E) : DX13_waitsFor fu q (sI e) M L = some (bI (wtB kd fr to E ac e), M, L) := by
  have hE4 := hE.1
  have hN := hT.1
  have h := wq_for (body := fun r s => fX13_waitsFor_i7 fu q (sI e) r s.1 s.2.1 s.2.2.1 s.2.2.2.1 s.2.2.2.2) (Q := fun z => z = (bI (wtB kd fr to E ac e), M, L)) (fun i (_ : Unit) => (bI (anyN (sS kd fr to e) (i - 1)), bI (allN (fun j => !sS kd fr to e j || ac (fr j)) (i - 1)), sI i, M, L)) (fun i _ => 1 ≤ i) (E + 1) ?_ ?_ E 1 () fu (by omega) (by omega) (Nat.le_refl _)
  · obtain ⟨z, hz, rfl⟩ := h
    exact hz
  · intro i _ r hi hi1 ih
    obtain ⟨n, rfl⟩ : ∃ n, i = n + 1 := ⟨i - 1, by omega⟩
    have ih2 := ih () (by omega)
    obtain ⟨j1, j2, j3, j4, j5, j6, j7, j8, _⟩ := hE.2 (n + 1) (by omega) (by omega)
    have ea : anyN (sS kd fr to e) (n + 1) = (anyN (sS kd fr to e) n || sS kd fr to e (n + 1)) := rfl
    have el : allN (fun j => !sS kd fr to e j || ac (fr j)) (n + 1) = (allN (fun j => !sS kd fr to e j || ac (fr j)) n && (!sS kd fr to e (n + 1) || ac (fr (n + 1)))) := rfl
    rw [show n + 1 + 1 - 1 = n + 1 from rfl, ea, el] at ih2
    show wq (fX13_waitsFor_i7 fu q (sI e) r (bI (anyN (sS kd fr to e) n)) (bI (allN (fun j => !sS kd fr to e j || ac (fr j)) n)) (sI (n + 1)) M L) _
    unfold fX13_waitsFor_i7
    rw [hEM.1, if_neg (by rw [sI_lt (by omega) (by omega)]; omega)]
    generalize anyN (sS kd fr to e) n = p at *
    generalize allN (fun j => !sS kd fr to e j || ac (fr j)) n = a at *
    have hb35 : wq (fX13_waitsFor_b35 fu q (sI e) r (bI a) (sI (n + 1)) (bI (p || sS kd fr to e (n + 1))) M L) (fun z => z = (bI (wtB kd fr to E ac e), M, L)) := by
      unfold fX13_waitsFor_b35 fX13_waitsFor_b69 fX13_waitsFor_b65 fX13_waitsFor_b70
      simp only [mlet]
      rw [sI_1]
      cases a with
      | false =>
        rw [if_pos bI_f]
        exact ih2
      | true =>
        rw [if_neg (by decide), m_sS hT hM hE hEM h1 h2 (by omega) (by omega), mb3_s]
        cases hs : sS kd fr to e (n + 1) with
        | false =>
          rw [hs] at ih2
          rw [if_pos bI_f]
          exact ih2
        | true =>
          rw [hs] at ih2
          rw [if_neg (by decide), mck_s (by omega) (by omega), sI_nn (by omega), (hEM.2 (n + 1) (by omega) (by omega)).1, mck_s (by omega) (by omega), sI_nn (by omega), hac _ j1 j2]
          cases hc : ac (fr (n + 1)) with
          | false =>
            rw [hc] at ih2
            rw [if_pos bI_f]
            exact ih2
          | true =>
            rw [hc] at ih2
            rw [if_neg (by decide)]
            exact ih2
    cases p with
    | false =>
      rw [if_pos bI_f, m_sS hT hM hE hEM h1 h2 (by omega) (by omega), mb3_s]
      cases hs : sS kd fr to e (n + 1) with
      | false =>
        rw [hs] at hb35
        rw [if_pos bI_f]
        exact hb35
      | true =>
        rw [hs] at hb35
        rw [if_neg (by decide)]
        exact hb35
    | true =>
      rw [if_neg (by decide)]
      exact hb35
  · intro _ r _
    show wq (fX13_waitsFor_i7 fu q (sI e) r (bI (anyN (sS kd fr to e) E)) (bI (allN (fun j => !sS kd fr to e j || ac (fr j)) E)) (sI (E + 1)) M L) _
    unfold fX13_waitsFor_i7 fX13_waitsFor_b89 fX13_waitsFor_b90
    rw [hEM.1, if_pos (by rw [sI_lt (by omega) (by omega)]; omega)]
    unfold wtB
    cases anyN (sS kd fr to e) E with
    | false =>
      rw [if_pos bI_f]
      exact wq_some rfl
    | true =>
      rw [if_neg (by decide)]
      cases allN (fun j => !sS kd fr to e j || ac (fr j)) E with
      | false =>
        rw [if_pos bI_f]
        exact wq_some rfl
      | true =>
        rw [if_neg (by decide)]
        exact wq_some rfl
/-- the class: whether all that leads into a join is active -/
theorem c_isJoined {fu : Nat} {A : mwM} {L : mwL} {k N E g : Nat} {pa kd de fr to ev gu : Nat → Nat} {ac : Nat → Bool} (hf : 402 ≤ fu) (hT : Tr N pa kd de) (hE : Ed N E kd fr to ev gu) (hEC : EdC A k E fr to ev gu) (hac : ∀ s, 1 ≤ s → s ≤ N → A (k + 7) s = bI (ac s)) (hg : g ≤ N) : DX2_isJoined fu k (sI g) A L = some (bI (anyN (fun j => decide (to j = g)) E && allN (fun j => !decide (to j = g) || ac (fr j)) E), A, L) := by
  have hE4 := hE.1
  have hN := hT.1
  have h := wq_for (body := fun r s => fX2_isJoined_i4 fu k (sI g) r s.1 s.2.1 s.2.2.1 s.2.2.2) (Q := fun z => z = (bI (anyN (fun j => decide (to j = g)) E && allN (fun j => !decide (to j = g) || ac (fr j)) E), A, L)) (fun i (_ : Unit) => (bI (anyN (fun j => decide (to j = g)) (i - 1)), sI i, A, L)) (fun i _ => 1 ≤ i ∧ allN (fun j => !decide (to j = g) || ac (fr j)) (i - 1) = true) (E + 1) ?_ ?_ E 1 () fu (by omega) (by omega) ⟨Nat.le_refl _, rfl⟩
  · obtain ⟨z, hz, rfl⟩ := h
    exact hz
  · intro i _ r hi ⟨hi1, hal⟩ ih
    obtain ⟨n, rfl⟩ : ∃ n, i = n + 1 := ⟨i - 1, by omega⟩
    rw [show n + 1 - 1 = n from rfl] at hal
    obtain ⟨j1, j2, j3, j4, j5, j6, j7, j8, _⟩ := hE.2 (n + 1) (by omega) (by omega)
    have ea : anyN (fun j => decide (to j = g)) (n + 1) = (anyN (fun j => decide (to j = g)) n || decide (to (n + 1) = g)) := rfl
    have el : allN (fun j => !decide (to j = g) || ac (fr j)) (n + 1) = (allN (fun j => !decide (to j = g) || ac (fr j)) n && (!decide (to (n + 1) = g) || ac (fr (n + 1)))) := rfl
    have ih2 := ih ()
    rw [show n + 1 + 1 - 1 = n + 1 from rfl, ea, el, hal] at ih2
    show wq (fX2_isJoined_i4 fu k (sI g) r (bI (anyN (fun j => decide (to j = g)) n)) (sI (n + 1)) A L) _
    unfold fX2_isJoined_i4 fX2_isJoined_b46
    rw [hEC.1, if_neg (by rw [sI_lt (by omega) (by omega)]; omega), mck_s (by omega) (by omega), sI_nn (by omega), (hEC.2 (n + 1) (by omega) (by omega)).2.1]
    simp only [mlet]
    rw [sI_1]
    by_cases ht : to (n + 1) = g
    · rw [if_pos (by rw [ht]), mck_s (by omega) (by omega), (hEC.2 (n + 1) (by omega) (by omega)).1, mck_s (by omega) (by omega), sI_nn (by omega), hac _ j1 j2]
      cases hc : ac (fr (n + 1)) with
      | false =>
        rw [if_pos bI_f]
        refine wq_some ?_
        have : allN (fun j => !decide (to j = g) || ac (fr j)) E = false := by
          by_cases hx : allN (fun j => !decide (to j = g) || ac (fr j)) E = true
          · have := (allN_iff E).mp hx (n + 1) (by omega) (by omega)
            simp [ht, hc] at this
          · simpa using hx
        rw [this, Bool.and_false]
        rfl
      | true =>
        rw [if_neg (by decide)]
        have := ih2 ⟨by omega, by simp [hc]⟩
        rw [decide_eq_true ht, Bool.or_true] at this
        exact this
    · rw [if_neg (by rw [sI_eq (by omega) (by omega)]; exact ht)]
      have := ih2 ⟨by omega, by simp [ht]⟩
      rw [decide_eq_false ht, Bool.or_false] at this
      exact this
  · intro _ r ⟨_, hal⟩
    rw [show E + 1 - 1 = E from rfl] at hal
    show wq (fX2_isJoined_i4 fu k (sI g) r (bI (anyN (fun j => decide (to j = g)) E)) (sI (E + 1)) A L) _
    unfold fX2_isJoined_i4
    rw [hEC.1, if_pos (by rw [sI_lt (by omega) (by omega)]; omega), hal, Bool.and_true]
    exact wq_zz bI_z (wq_some rfl)
/-- whether an edge may go -/
def goB (kd fr to : Nat → Nat) (E : Nat) (ac : Nat → Bool) (e : Nat) : Bool := decide (kd (to e) ≠ 5) && (decide (kd (fr e) ≠ 4) && wtB kd fr to E ac e)
theorem wtB_own {kd fr to : Nat → Nat} {E e : Nat} {ac : Nat → Bool} (h1 : 1 ≤ e) (h2 : e ≤ E) (h5 : kd (fr e) ≠ 5) : wtB kd fr to E ac e = ac (fr e) := by
  unfold wtB
  have e1 : anyN (sS kd fr to e) E = true := by
    rw [anyN_iff]
    refine ⟨e, h1, h2, ?_⟩
    unfold sS
    rw [if_neg h5]
    simp
  rw [e1, Bool.true_and]
  cases hc : ac (fr e) with
  | true =>
    rw [allN_iff]
    intro j hj1 hj2
    unfold sS
    rw [if_neg h5]
    by_cases hj : j = e
    · rw [hj, hc]; simp
    · simp [hj]
  | false =>
    by_cases hx : allN (fun j => !sS kd fr to e j || ac (fr j)) E = true
    · have := (allN_iff E).mp hx e h1 h2
      unfold sS at this
      rw [if_neg h5] at this
      simp [hc] at this
    · simpa using hx
theorem wtB_join {kd fr to : Nat → Nat} {E e : Nat} {ac : Nat → Bool} (h5 : kd (fr e) = 5) : wtB kd fr to E ac e = (anyN (fun j => decide (to j = fr e)) E && allN (fun j => !decide (to j = fr e) || ac (fr j)) E) := by
  unfold wtB
  have e1 : sS kd fr to e = fun j => decide (to j = fr e) := by
    funext j
    unfold sS
    rw [if_pos h5]
  rw [e1]
theorem c_mayGo {fu : Nat} {A : mwM} {L : mwL} {k N E e : Nat} {pa kd de fr to ev gu : Nat → Nat} {ac : Nat → Bool} (hf : 402 ≤ fu) (hT : Tr N pa kd de) (hC : TrC A k N pa kd de) (hE : Ed N E kd fr to ev gu) (hEC : EdC A k E fr to ev gu) (hac : ∀ s, 1 ≤ s → s ≤ N → A (k + 7) s = bI (ac s)) (h1 : 1 ≤ e) (h2 : e ≤ E) : DX2_mayGo fu k (sI e) A L = some (bI (goB kd fr to E ac e), A, L) := by
  have hE4 := hE.1
  have hN := hT.1
  obtain ⟨e1, e2, e3, e4, e5, e6, e7, e8, _⟩ := hE.2 e h1 h2
  have hkt := (Tr_pa hT e4).2.2.2.1
  have hkf := (Tr_pa hT e2).2.2.2.1
  unfold DX2_mayGo fX2_mayGo_b40 fX2_mayGo_b79
  rw [mck_s (by omega) (by omega), sI_nn (by omega), (hEC.2 e h1 h2).1, (hEC.2 e h1 h2).2.1]
  simp only [mlet]
  rw [mck_s (by omega) (by omega), mck_s (by omega) (by omega), sI_nn (by omega), (hC.2 _ e4).2.1, mck_s (by omega) (by omega), sI_nn (by omega), (hC.2 _ e2).2.1, mck_s (by omega) (by omega), mck_s (by omega) (by omega), hac _ e1 e2]
  unfold goB
  by_cases q5 : kd (to e) = 5
  · rw [if_pos (by rw [q5]; rfl), q5]
    simp [bI_f]
  · rw [if_neg (by rw [sI_eql (by omega) (by omega)]; exact q5)]
    have t1 : decide (kd (to e) ≠ 5) = true := by simpa using q5
    rw [t1, Bool.true_and]
    by_cases q4 : kd (fr e) = 4
    · rw [if_pos (by rw [q4]; rfl), q4]
      simp [bI_f]
    · rw [if_neg (by rw [sI_eql (by omega) (by omega)]; exact q4)]
      have t2 : decide (kd (fr e) ≠ 4) = true := by simpa using q4
      rw [t2, Bool.true_and]
      by_cases q6 : kd (fr e) = 5
      · rw [if_pos (by rw [q6]; rfl), c_isJoined hf hT hE hEC hac e2, mb3_s, wtB_join q6]
        unfold mzz
        rw [if_pos bI_z]
      · rw [if_neg (by rw [sI_eql (by omega) (by omega)]; exact q6), wtB_own h1 h2 q6]
        cases ac (fr e) with
        | true => rfl
        | false => rfl
