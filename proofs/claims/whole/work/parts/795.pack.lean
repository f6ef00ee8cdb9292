/-! in their order: the greatest ones first, of one size by their numbers -/
abbrev befo (zs : Nat → Nat) (x y : Nat) : Prop := zs y < zs x ∨ (zs x = zs y ∧ x < y)
def Srt (P : Nat → Bool) (zs : Nat → Nat) (S m : Nat) (g : Nat → Nat) : Prop := (∀ j, j < m → g j < S ∧ P (g j) = true) ∧ (∀ s, s < S → P s = true → ∃ j, j < m ∧ g j = s) ∧ ∀ i j, i < j → j < m → befo zs (g i) (g j)
theorem Srt_u1 {P : Nat → Bool} {zs : Nat → Nat} {S m m' : Nat} {g g' : Nat → Nat} (h : Srt P zs S m g) (h' : Srt P zs S m' g') : m ≤ m' ∧ ∀ j, j < m → g j = g' j := by
  have all : ∀ i, i ≤ m → i ≤ m' ∧ ∀ j, j < i → g j = g' j := by
    intro i
    induction i with
    | zero => intro _; exact ⟨Nat.zero_le _, fun j hj => by omega⟩
    | succ i ih =>
      intro hi
      obtain ⟨e1, e2⟩ := ih (by omega)
      obtain ⟨p1, p2⟩ := h.1 i (by omega)
      obtain ⟨k, k1, k2⟩ := h'.2.1 (g i) p1 p2
      have hk : i ≤ k := by
        apply Nat.le_of_not_lt
        intro q
        have a := h.2.2 k i q (by omega)
        have b := e2 k q
        rw [b, k2] at a
        rcases a with a | a <;> omega
      have e3 : g i = g' i := by
        obtain ⟨q1, q2⟩ := h'.1 i (by omega)
        obtain ⟨l, l1, l2⟩ := h.2.1 (g' i) q1 q2
        by_cases ek : k = i
        · rw [← k2, ek]
        · have a := h'.2.2 i k (by omega) k1
          have hl : i ≤ l := by
            apply Nat.le_of_not_lt
            intro q
            have b := h'.2.2 l i q (by omega)
            have c := e2 l q
            rw [← c, l2] at b
            rcases b with b | b <;> omega
          by_cases el : l = i
          · rw [← l2, el]
          · have b := h.2.2 i l (by omega) l1
            rw [l2] at b
            rw [k2] at a
            rcases a with a | a <;> rcases b with b | b <;> omega
      refine ⟨by omega, fun j hj => ?_⟩
      by_cases ej : j = i
      · rw [ej]; exact e3
      · exact e2 j (by omega)
  exact all m (Nat.le_refl _)
theorem Srt_u {P : Nat → Bool} {zs : Nat → Nat} {S m m' : Nat} {g g' : Nat → Nat} (h : Srt P zs S m g) (h' : Srt P zs S m' g') : m = m' ∧ ∀ j, j < m → g j = g' j := by
  obtain ⟨a, b⟩ := Srt_u1 h h'
  obtain ⟨c, d⟩ := Srt_u1 h' h
  exact ⟨by omega, b⟩
theorem Srt_inj {P : Nat → Bool} {zs : Nat → Nat} {S m : Nat} {g : Nat → Nat} (h : Srt P zs S m g) : ∀ i j, i < m → j < m → g i = g j → i = j := by
  intro i j hi hj e
  have t : ∀ x y, x < y → y < m → g x ≠ g y := by
    intro x y h1 h2 e
    have := h.2.2 x y h1 h2
    rw [e] at this
    rcases this with q | q <;> omega
  rcases Nat.lt_trichotomy i j with q | q | q
  · exact absurd e (t i j q hj)
  · exact q
  · exact absurd e.symm (t j i q hi)
/-- one more that doesn't count -/
theorem Srt_skip {P : Nat → Bool} {zs : Nat → Nat} {s m : Nat} {g : Nat → Nat} (h : Srt P zs s m g) (hp : P s = false) : Srt P zs (s + 1) m g := by
  refine ⟨fun j hj => ⟨by have := (h.1 j hj).1; omega, (h.1 j hj).2⟩, fun x hx px => ?_, h.2.2⟩
  by_cases e : x = s
  · subst e; rw [hp] at px; cases px
  · exact h.2.1 x (by omega) px
/-- one more, put at its place -/
def ins (g : Nat → Nat) (at_ s : Nat) : Nat → Nat := fun j => if j < at_ then g j else if j = at_ then s else g (j - 1)
theorem Srt_ins {P : Nat → Bool} {zs : Nat → Nat} {s m at_ : Nat} {g : Nat → Nat} (h : Srt P zs s m g) (hp : P s = true) (ha : at_ ≤ m) (h1 : ∀ j, j < at_ → zs s ≤ zs (g j)) (h2 : ∀ j, at_ ≤ j → j < m → zs (g j) < zs s) : Srt P zs (s + 1) (m + 1) (ins g at_ s) := by
  refine ⟨fun j hj => ?_, fun x hx px => ?_, fun i j hij hj => ?_⟩
  · unfold ins
    by_cases c : j < at_
    · rw [if_pos c]; have := h.1 j (by omega); exact ⟨by omega, this.2⟩
    · rw [if_neg c]
      by_cases c2 : j = at_
      · rw [if_pos c2]; exact ⟨by omega, hp⟩
      · rw [if_neg c2]; have := h.1 (j - 1) (by omega); exact ⟨by omega, this.2⟩
  · by_cases e : x = s
    · refine ⟨at_, by omega, ?_⟩
      unfold ins
      rw [if_neg (by omega), if_pos rfl, e]
    · obtain ⟨j, j1, j2⟩ := h.2.1 x (by omega) px
      by_cases c : j < at_
      · refine ⟨j, by omega, ?_⟩
        unfold ins
        rw [if_pos c, j2]
      · refine ⟨j + 1, by omega, ?_⟩
        unfold ins
        rw [if_neg (by omega), if_neg (by omega), Nat.add_sub_cancel, j2]
  · unfold ins
    by_cases c : j < at_
    · rw [if_pos (by omega), if_pos c]; exact h.2.2 i j hij (by omega)
    · by_cases c2 : j = at_
      · rw [if_pos (by omega), if_neg c, if_pos c2]
        have a := h1 i (by omega)
        have b := (h.1 i (by omega)).1
        by_cases q : zs s < zs (g i)
        · exact Or.inl q
        · exact Or.inr ⟨by omega, b⟩
      · rw [if_neg c, if_neg c2]
        by_cases d : i < at_
        · rw [if_pos d]; exact h.2.2 i (j - 1) (by omega) (by omega)
        · rw [if_neg d]
          by_cases d2 : i = at_
          · rw [if_pos d2]; exact Or.inl (h2 (j - 1) (by omega) (by omega))
          · rw [if_neg d2]; exact h.2.2 (i - 1) (j - 1) (by omega) (by omega)
/-! the class: which signals go together -/
abbrev SgC (A : mwM) (S : Nat) (bt pe co ky : Nat → Nat) : Prop := A 61 10 = sI S ∧ S ≤ 40 ∧ ∀ s, s < S → A 63 s = sI (bt s) ∧ 1 ≤ bt s ∧ bt s ≤ 64 ∧ A 66 s = sI (pe s) ∧ 500 ≤ pe s ∧ pe s ≤ 20000 ∧ A 68 s = sI (co s) ∧ co s < 6 ∧ A 70 s = sI (ky s) ∧ ky s ≤ 16
def isO (co ky : Nat → Nat) (c : Nat) (lk : Bool) (s : Nat) : Bool := decide (co s = c) && (decide (ky s ≠ 0) == lk)
theorem c_isOf {fu S s c : Nat} {lk : Bool} {bt pe co ky : Nat → Nat} {A : mwM} {L : mwL} (hS : SgC A S bt pe co ky) (hs : s < S) (hc : c < 6) : DX6_isOf fu (sI s) (sI c) (bI lk) A L = some (bI (isO co ky c lk s), A, L) := by
  obtain ⟨h1, h2, h3⟩ := hS
  obtain ⟨a1, a2, a3, a4, a5, a6, a7, a8, a9, a10⟩ := h3 s hs
  unfold DX6_isOf
  rw [mck_s (by omega) (by omega), mck_s (by omega) (by omega), sI_nn (by omega), a7, a9]
  unfold fX6_isOf_b29 fX6_isOf_b37 fX6_isOf_b38 isO
  by_cases e : co s = c
  · rw [if_pos (by rw [e]), decide_eq_true e, Bool.true_and]
    by_cases k : ky s = 0
    · rw [if_pos (by rw [k]; rfl), decide_eq_false (fun w => w k)]
      cases lk
      · rfl
      · rfl
    · rw [if_neg (by rw [sI_eql (by omega) (by decide)]; exact k), decide_eq_true k]
      cases lk
      · rfl
      · rfl
  · rw [if_neg (by rw [sI_eq (by omega) (by omega)]; exact e), decide_eq_false e, Bool.false_and]
    rfl
/-- the next period -/
def Nxp (P : Nat → Bool) (pe : Nat → Nat) (S last r : Nat) : Prop := ((∀ s, s < S → P s = true → pe s ≤ last) ∧ r = 1000000) ∨ ((∃ s, s < S ∧ P s = true ∧ pe s = r) ∧ last < r ∧ ∀ s, s < S → P s = true → last < pe s → r ≤ pe s)
theorem c_nextPeriod {fu S c last : Nat} {lk : Bool} {bt pe co ky : Nat → Nat} {A : mwM} {L : mwL} (hfu : 50 ≤ fu) (hS : SgC A S bt pe co ky) (hc : c < 6) (hl : last ≤ 20000) : ∃ r, r ≤ 1000000 ∧ DX6_nextPeriod fu (sI c) (bI lk) (sI last) A L = some (sI r, A, L) ∧ Nxp (isO co ky c lk) pe S last r := by
  obtain ⟨h1, h2, h3⟩ := hS
  unfold DX6_nextPeriod
  have key : ∀ (n s q r : Nat), s + n = S → n < q → r ≤ 1000000 → Nxp (isO co ky c lk) pe s last r → ∃ r', r' ≤ 1000000 ∧ fX6_nextPeriod_h7 fu (sI c) (bI lk) (sI last) q (sI r, sI s, A, L) = some (sI r', A, L) ∧ Nxp (isO co ky c lk) pe S last r' := by
    intro n
    induction n with
    | zero =>
      intro s q r hs hq hr hN
      obtain ⟨q', rfl⟩ : ∃ x, q = x + 1 := ⟨q - 1, by omega⟩
      have : s = S := by omega
      subst this
      refine ⟨r, hr, ?_, hN⟩
      show fX6_nextPeriod_i7 fu (sI c) (bI lk) (sI last) (fX6_nextPeriod_h7 fu (sI c) (bI lk) (sI last) q') (sI r) (sI s) A L = _
      unfold fX6_nextPeriod_i7
      rw [h1, if_pos (by rw [sI_le (by omega) (by omega)]; omega)]
    | succ n ih =>
      intro s q r hs hq hr hN
      obtain ⟨q', rfl⟩ : ∃ x, q = x + 1 := ⟨q - 1, by omega⟩
      obtain ⟨a1, a2, a3, a4, a5, a6, a7, a8, a9, a10⟩ := h3 s (by omega)
      have un : fX6_nextPeriod_h7 fu (sI c) (bI lk) (sI last) (q' + 1) (sI r, sI s, A, L) = fX6_nextPeriod_i7 fu (sI c) (bI lk) (sI last) (fX6_nextPeriod_h7 fu (sI c) (bI lk) (sI last) q') (sI r) (sI s) A L := rfl
      rw [un]
      unfold fX6_nextPeriod_i7 fX6_nextPeriod_b56
      rw [h1, if_neg (by rw [sI_le (by omega) (by omega)]; omega), c_isOf ⟨h1, h2, h3⟩ (by omega) hc, mb3_s]
      simp only [mlet]
      rw [mck_s (by omega) (by omega), mck_s (by omega) (by omega), sI_nn (by omega), a4, sI_1]
      have skip : (isO co ky c lk s = false ∨ pe s ≤ last) → Nxp (isO co ky c lk) pe (s + 1) last r := by
        intro w
        rcases hN with ⟨n1, n2⟩ | ⟨⟨x, x1, x2, x3⟩, n2, n3⟩
        · refine Or.inl ⟨fun x hx px => ?_, n2⟩
          by_cases e : x = s
          · subst e
            rcases w with w | w
            · rw [w] at px; cases px
            · exact w
          · exact n1 x (by omega) px
        · refine Or.inr ⟨⟨x, by omega, x2, x3⟩, n2, fun y hy py ly => ?_⟩
          by_cases e : y = s
          · subst e
            rcases w with w | w
            · rw [w] at py; cases py
            · omega
          · exact n3 y (by omega) py ly
      cases hb : isO co ky c lk s with
      | false =>
        rw [bI_f, if_pos (show (0 : Int32) = 0 from rfl)]
        exact ih (s + 1) q' r (by omega) (by omega) hr (skip (Or.inl hb))
      | true =>
        rw [bI_t, if_neg (by decide)]
        by_cases c2 : pe s ≤ last
        · rw [if_pos (by rw [sI_le (by omega) (by omega)]; exact c2)]
          exact ih (s + 1) q' r (by omega) (by omega) hr (skip (Or.inr c2))
        · rw [if_neg (by rw [sI_le (by omega) (by omega)]; exact c2)]
          by_cases c3 : pe s < r
          · rw [if_pos (by rw [sI_lt (by omega) (by omega)]; exact c3)]
            refine ih (s + 1) q' (pe s) (by omega) (by omega) (by omega) (Or.inr ⟨⟨s, by omega, hb, rfl⟩, by omega, fun y hy py ly => ?_⟩)
            by_cases e : y = s
            · subst e; exact Nat.le_refl _
            · rcases hN with ⟨n1, n2⟩ | ⟨_, n2, n3⟩
              · have := n1 y (by omega) py; omega
              · have := n3 y (by omega) py ly; omega
          · rw [if_neg (by rw [sI_lt (by omega) (by omega)]; exact c3)]
            refine ih (s + 1) q' r (by omega) (by omega) hr ?_
            rcases hN with ⟨n1, n2⟩ | ⟨⟨x, x1, x2, x3⟩, n2, n3⟩
            · omega
            · refine Or.inr ⟨⟨x, by omega, x2, x3⟩, n2, fun y hy py ly => ?_⟩
              by_cases e : y = s
              · subst e; omega
              · exact n3 y (by omega) py ly
  exact key S 0 fu 1000000 (by omega) (by omega) (Nat.le_refl _) (Or.inl ⟨fun s hs => by omega, rfl⟩)
