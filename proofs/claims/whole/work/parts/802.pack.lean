/-! the reference's search: what stands while it searches -/
theorem fil_mono {ch sz : Nat → Nat} {c : Nat} : ∀ (d i : Nat), fil ch sz i c ≤ fil ch sz (i + d) c := by
  intro d
  induction d with
  | zero => intro i; exact Nat.le_refl _
  | succ d ih =>
    intro i
    have := ih i
    show fil ch sz i c ≤ fil ch sz (i + d) c + _
    omega
theorem fil_le {ch sz : Nat → Nat} {i j c : Nat} (h : i ≤ j) : fil ch sz i c ≤ fil ch sz j c := by
  have := fil_mono (ch := ch) (sz := sz) (c := c) (j - i) i
  rw [show i + (j - i) = j from by omega] at this
  exact this
theorem fil_s {ch sz : Nat → Nat} {j c : Nat} (h : ch j = c) : fil ch sz (j + 1) c = fil ch sz j c + sz j := by
  show fil ch sz j c + (if ch j = c then sz j else 0) = _
  rw [if_pos h]
theorem fil_cov {ch sz : Nat → Nat} {c : Nat} : ∀ (i x : Nat), x < fil ch sz i c → ∃ j, j < i ∧ ch j = c ∧ fil ch sz j c ≤ x ∧ x < fil ch sz j c + sz j := by
  intro i
  induction i with
  | zero => intro x hx; exact absurd hx (Nat.not_lt_zero _)
  | succ i ih =>
    intro x hx
    by_cases q : x < fil ch sz i c
    · obtain ⟨j, j1, j2⟩ := ih x q
      exact ⟨j, by omega, j2⟩
    · by_cases e : ch i = c
      · rw [fil_s e] at hx
        exact ⟨i, by omega, e, by omega, hx⟩
      · have hx2 : x < fil ch sz i c + (if ch i = c then sz i else 0) := hx
        rw [if_neg e] at hx2
        omega
theorem opn_att {ch : Nat → Nat} {c : Nat} : ∀ i, tgt ch i → c < opn ch i → ∃ j, j < i ∧ ch j = c := by
  intro i
  induction i with
  | zero => intro _ h; exact absurd h (Nat.not_lt_zero _)
  | succ i ih =>
    intro ht h
    by_cases q : c < opn ch i
    · obtain ⟨j, j1, j2⟩ := ih (fun j hj => ht j (by omega)) q
      exact ⟨j, by omega, j2⟩
    · have h2 : c < (if opn ch i < ch i + 1 then ch i + 1 else opn ch i) := h
      have h3 := ht i (by omega)
      refine ⟨i, by omega, ?_⟩
      split at h2 <;> omega
/-- before the search -/
def SB (M : mwM) (k n cap F0 m : Nat) (pl zl fr oc gl : Nat → Nat) : Prop := PvM M k n cap pl zl fr oc ∧ F0 + m ≤ 40 ∧ m ≤ n ∧ (∀ l, 1 ≤ l → l ≤ n → fr l ≤ F0) ∧ (∀ j, j < m → 1 ≤ gl j ∧ gl j ≤ n ∧ fr (gl j) = 0 ∧ M (k + 18) j = sI (gl j)) ∧ (∀ i j, i < m → j < m → gl i = gl j → i = j) ∧ ∀ f, 1 ≤ f → f ≤ F0 → ∃ l, 1 ≤ l ∧ l ≤ n ∧ fr l = f
def SR (M0 M : mwM) (k F0 m : Nat) (gl zr ch : Nat → Nat) (i w : Nat) : Prop :=
  (∀ a y, a ≠ k + 16 → a ≠ k + 17 → a ≠ k + 19 → a ≠ k + 20 → a ≠ k + 21 → M a y = M0 a y) ∧ (∀ y, (∀ j, j < m → y ≠ gl j) → M (k + 16) y = M0 (k + 16) y ∧ M (k + 17) y = M0 (k + 17) y) ∧ (∀ j, j < i → M (k + 16) (gl j) = sI (F0 + 1 + ch j) ∧ M (k + 17) (gl j) = sI (fil ch zr j (ch j))) ∧ (∀ j, i ≤ j → j < m → M (k + 16) (gl j) = 0) ∧ (∀ j, j < m → ∃ o, o ≤ 8 ∧ M (k + 17) (gl j) = sI o) ∧ (∀ j, j < opn ch i → M (k + 19) j = sI (F0 + 1 + j)) ∧ ∀ j, j < w → M (k + 20) j = sI (ch j) ∧ M (k + 21) j = bI (decide (ch j = opn ch j))
/-- the choices so far are good ones -/
abbrev SG (cap i : Nat) (zr ch : Nat → Nat) : Prop := ∀ j, j < i → ch j ≤ opn ch j ∧ fil ch zr j (ch j) + zr j ≤ cap
theorem SR_pv {M0 M : mwM} {k n cap F0 m i u : Nat} {pl zl fr oc gl ch : Nat → Nat} (hB : SB M0 k n cap F0 m pl zl fr oc gl) (h : SR M0 M k F0 m gl (fun j => zl (gl j)) ch i u) (hi : i ≤ m) (hg : SG cap i (fun j => zl (gl j)) ch) : PvM M k n cap pl zl (fun l => nn (M (k + 16) l)) (fun l => nn (M (k + 17) l)) := by
  obtain ⟨⟨p1, p2, p3, p4, p5⟩, b2, b3, b4, b5, b6, b7⟩ := hB
  obtain ⟨r1, r2, r3, r4, r5, r6, r7⟩ := h
  have ht : tgt ch i := fun j hj => (hg j hj).1
  refine ⟨by rw [r1 _ _ (by omega) (by omega) (by omega) (by omega) (by omega)]; exact p1, by rw [r1 _ _ (by omega) (by omega) (by omega) (by omega) (by omega)]; exact p2, p3, p4, fun l l1 l2 => ?_⟩
  obtain ⟨a1, a2, a3, a4, a5, a6, a7, a8, a9, a10⟩ := p5 l l1 l2
  refine ⟨by rw [r1 _ _ (by omega) (by omega) (by omega) (by omega) (by omega)]; exact a1, by rw [r1 _ _ (by omega) (by omega) (by omega) (by omega) (by omega)]; exact a2, a3, by rw [r1 _ _ (by omega) (by omega) (by omega) (by omega) (by omega)]; exact a4, a5, a6, ?_⟩
  dsimp only
  by_cases e : ∃ j, j < m ∧ l = gl j
  · obtain ⟨j, j1, j2⟩ := e
    subst j2
    obtain ⟨o, o1, o2⟩ := r5 j j1
    have e17 : nn (M (k + 17) (gl j)) = o := by rw [o2]; exact nn_s (by omega)
    by_cases q : j < i
    · obtain ⟨q1, q2⟩ := r3 j q
      have hj := (hg j q).1
      have hoj := tgt_le (ch := ch) (i := j) (fun x hx => ht x (by omega))
      have e16 : nn (M (k + 16) (gl j)) = F0 + 1 + ch j := by rw [q1]; exact nn_s (by omega)
      exact ⟨by rw [e16, q1], by rw [e16]; omega, by rw [e17, o2], by rw [e17]; exact o1⟩
    · have e16 : nn (M (k + 16) (gl j)) = 0 := by rw [r4 j (by omega) j1]; rfl
      exact ⟨by rw [e16, r4 j (by omega) j1]; rfl, by rw [e16]; omega, by rw [e17, o2], by rw [e17]; exact o1⟩
  · obtain ⟨q1, q2⟩ := r2 l (fun j hj w => e ⟨j, hj, w⟩)
    have e16 : nn (M (k + 16) l) = fr l := by rw [q1, a7]; exact nn_s (by omega)
    have e17 : nn (M (k + 17) l) = oc l := by rw [q2, a9]; exact nn_s (by omega)
    exact ⟨by rw [e16, q1, a7], by rw [e16]; exact a8, by rw [e17, q2, a9], by rw [e17]; exact a10⟩
/-- who is in a frame that the search opened -/
theorem SR_in {M0 M : mwM} {k n cap F0 m i u l f : Nat} {pl zl fr oc gl ch : Nat → Nat} (hB : SB M0 k n cap F0 m pl zl fr oc gl) (h : SR M0 M k F0 m gl (fun j => zl (gl j)) ch i u) (hi : i ≤ m) (hg : SG cap i (fun j => zl (gl j)) ch) (l1 : 1 ≤ l) (l2 : l ≤ n) (hf : F0 < f) (he : nn (M (k + 16) l) = f) : ∃ j, j < i ∧ l = gl j ∧ f = F0 + 1 + ch j ∧ nn (M (k + 17) l) = fil ch (fun j => zl (gl j)) j (ch j) := by
  obtain ⟨⟨p1, p2, p3, p4, p5⟩, b2, b3, b4, b5, b6, b7⟩ := hB
  obtain ⟨r1, r2, r3, r4, r5, r6, r7⟩ := h
  have ht : tgt ch i := fun j hj => (hg j hj).1
  by_cases e : ∃ j, j < m ∧ l = gl j
  · obtain ⟨j, j1, j2⟩ := e
    subst j2
    by_cases q : j < i
    · obtain ⟨q1, q2⟩ := r3 j q
      have hj := (hg j q)
      have hoj := tgt_le (ch := ch) (i := j) (fun x hx => ht x (by omega))
      rw [q1, nn_s (by omega)] at he
      exact ⟨j, q, rfl, he.symm, by rw [q2]; exact nn_s (by omega)⟩
    · rw [r4 j (by omega) j1] at he
      have : nn (0 : Int32) = 0 := rfl
      omega
  · obtain ⟨q1, q2⟩ := r2 l (fun j hj w => e ⟨j, hj, w⟩)
    obtain ⟨a1, a2, a3, a4, a5, a6, a7, a8, a9, a10⟩ := p5 l l1 l2
    have := b4 l l1 l2
    rw [q1, a7, nn_s (by omega)] at he
    omega
theorem SR_cov {M0 M : mwM} {k n cap F0 m i u c : Nat} {pl zl fr oc gl ch : Nat → Nat} (hB : SB M0 k n cap F0 m pl zl fr oc gl) (h : SR M0 M k F0 m gl (fun j => zl (gl j)) ch i u) (hi : i ≤ m) (hg : SG cap i (fun j => zl (gl j)) ch) : Cov (fun l => nn (M (k + 16) l)) (fun l => nn (M (k + 17) l)) zl n (F0 + 1 + c) (fil ch (fun j => zl (gl j)) i c) := by
  refine ⟨fun l l1 l2 hl => ?_, fun x hx => ?_⟩
  · obtain ⟨j, j1, j2, j3, j4⟩ := SR_in hB h hi hg l1 l2 (by omega) hl
    subst j2
    try dsimp only
    have ec : ch j = c := by omega
    have f1 := fil_s (sz := fun j => zl (gl j)) ec
    have f2 := fil_le (ch := ch) (sz := fun j => zl (gl j)) (c := c) (show j + 1 ≤ i by omega)
    try dsimp only at f1
    rw [j4, ec]
    omega
  · obtain ⟨j, j1, j2, j3, j4⟩ := fil_cov i x hx
    obtain ⟨⟨p1, p2, p3, p4, p5⟩, b2, b3, b4, b5, b6, b7⟩ := hB
    obtain ⟨r1, r2, r3, r4, r5, r6, r7⟩ := h
    obtain ⟨q1, q2⟩ := r3 j j1
    obtain ⟨g1, g2, _⟩ := b5 j (by omega)
    have hj := hg j j1
    have ht : tgt ch i := fun j hj => (hg j hj).1
    have hoj := tgt_le (ch := ch) (i := j) (fun x hx => ht x (by omega))
    refine ⟨gl j, g1, g2, ?_, ?_, ?_⟩
    · dsimp only; rw [q1, nn_s (by omega), j2]
    · dsimp only; rw [q2, nn_s (by omega), j2]; exact j3
    · dsimp only; rw [q2, nn_s (by omega), j2]; exact j4
theorem SR_new {fu k n cap F0 m i u : Nat} {M0 M : mwM} {L : mwL} {pl zl fr oc gl ch : Nat → Nat} (hfu : 70 ≤ fu) (hB : SB M0 k n cap F0 m pl zl fr oc gl) (h : SR M0 M k F0 m gl (fun j => zl (gl j)) ch i u) (hi : i < m) (hg : SG cap i (fun j => zl (gl j)) ch) : DX16_newFrame fu k M L = some (sI (F0 + 1 + opn ch i), M, L) := by
  have ht : tgt ch i := fun j hj => (hg j hj).1
  have hop := tgt_le ht
  have h40 := hB.2.1
  refine m_newFrame hfu (SR_pv hB h (by omega) hg) (by omega) (by omega) (fun f f1 f2 => ?_) (fun l l1 l2 w => ?_)
  · obtain ⟨⟨p1, p2, p3, p4, p5⟩, b2, b3, b4, b5, b6, b7⟩ := hB
    obtain ⟨r1, r2, r3, r4, r5, r6, r7⟩ := h
    by_cases q : f ≤ F0
    · obtain ⟨l, l1, l2, l3⟩ := b7 f f1 q
      refine ⟨l, l1, l2, ?_⟩
      obtain ⟨q1, q2⟩ := r2 l (fun j hj w => by have := (b5 j hj).2.2.1; rw [← w] at this; omega)
      obtain ⟨a1, a2, a3, a4, a5, a6, a7, a8, a9, a10⟩ := p5 l l1 l2
      try dsimp only
      rw [q1, a7, nn_s (by omega), l3]
    · obtain ⟨j, j1, j2⟩ := opn_att (c := f - F0 - 1) i ht (by omega)
      obtain ⟨g1, g2, _⟩ := b5 j (by omega)
      refine ⟨gl j, g1, g2, ?_⟩
      try dsimp only
      rw [(r3 j j1).1, nn_s (by omega), j2]
      omega
  · obtain ⟨j, j1, j2, j3, j4⟩ := SR_in hB h (by omega) hg l1 l2 (by omega) w
    have := opn_lt (ch := ch) j1
    omega
