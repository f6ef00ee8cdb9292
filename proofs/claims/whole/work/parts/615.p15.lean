/-! the reference's search: what stands while it searches -/
theorem fil_mono {ch sz : Nat → Nat} {c : Nat} : ∀ (d i : Nat), fil ch sz i c ≤ fil ch sz (i + d) c := by
  intro d
  induction d with
  | zero => intro i; exact Nat.le_refl _
  | succ d ih =>
    intro i
    have := ih i
    show fil ch sz i c ≤ fil ch sz (i + d) c + _
    omega
theorem fil_le {ch sz : Nat → Nat} {i j c : Nat} (h : i ≤ j) : fil ch sz i c ≤ fil ch sz j c := by
  have := fil_mono (ch := ch) (sz := sz) (c := c) (j - i) i
  rw [show i + (j - i) = j from by omega] at this
  exact this
theorem fil_s {ch sz : Nat → Nat} {j c : Nat} (h : ch j = c) : fil ch sz (j + 1) c = fil ch sz j c + sz j := by
  show fil ch sz j c + (if ch j = c then sz j else 0) = _
  rw [if_pos h]
theorem fil_cov {ch sz : Nat → Nat} {c : Nat} : ∀ (i x : Nat), x < fil ch sz i c → ∃ j, j < i ∧ ch j = c ∧ fil ch sz j c ≤ x ∧ x < fil ch sz j c + sz j := by
  intro i
  induction i with
  | zero => intro x hx; exact absurd hx (Nat.not_lt_zero _)
  | succ i ih =>
    intro x hx
    by_cases q : x < fil ch sz i c
    · obtain ⟨j, j1, j2⟩ := ih x q
      exact ⟨j, by omega, j2⟩
    · by_cases e : ch i = c
      · rw [fil_s e] at hx
        exact ⟨i, by omega, e, by omega, hx⟩
      · have hx2 : x < fil ch sz i c + (if ch i = c then sz i else 0) := hx
        rw [if_neg e] at hx2
        omega
theorem opn_att {ch : Nat → Nat} {c : Nat} : ∀ i, tgt ch i → c < opn ch i → ∃ j, j < i ∧ ch j = c := by
  intro i
  induction i with
  | zero => intro _ h; exact absurd h (Nat.not_lt_zero _)
  | succ i ih =>
    intro ht h
    by_cases q : c < opn ch i
    · obtain ⟨j, j1, j2⟩ := ih (fun j hj => ht j (by omega)) q
      exact ⟨j, by omega, j2⟩
    · have h2 : c < (if opn ch i < ch i + 1 then ch i + 1 else opn ch i) := h
      have h3 := ht i (by omega)
      refine ⟨i, by omega, ?_⟩
      split at h2 <;> omega
/-- before the search -/
def SB (M : mwM) (k n cap F0 m : Nat) (pl zl fr oc gl : Nat → Nat) : Prop := PvM M k n cap pl zl fr oc ∧ F0 + m ≤ 40 ∧ m ≤ n ∧ (∀ l, 1 ≤ l → l ≤ n → fr l ≤ F0) ∧ (∀ j, j < m → 1 ≤ gl j ∧ gl j ≤ n ∧ fr (gl j) = 0 ∧ M (k + 18) j = sI (gl j)) ∧ (∀ i j, i < m → j < m → gl i = gl j → i = j) ∧ ∀ f, 1 ≤ f → f ≤ F0 → ∃ l, 1 ≤ l ∧ l ≤ n ∧ fr l = f
def SR (M0 M : mwM) (k F0 m : Nat) (gl zr ch : Nat → Nat) (i w : Nat) : Prop :=
  (∀ a y, a ≠ k + 16 → a ≠ k + 17 → a ≠ k + 19 → a ≠ k + 20 → a ≠ k + 21 → M a y = M0 a y) ∧ (∀ y, (∀ j, j < m → y ≠ gl j) → M (k + 16) y = M0 (k + 16) y ∧ M (k + 17) y = M0 (k + 17) y) ∧ (∀ j, j < i → M (k + 16) (gl j) = sI (F0 + 1 + ch j) ∧ M (k + 17) (gl j) = sI (fil ch zr j (ch j))) ∧ (∀ j, i ≤ j → j < m → M (k + 16) (gl j) = 0) ∧ (∀ j, j < m → ∃ o, o ≤ 8 ∧ M (k + 17) (gl j) = sI o) ∧ (∀ j, j < opn ch i → M (k + 19) j = sI (F0 + 1 + j)) ∧ ∀ j, j < w → M (k + 20) j = sI (ch j) ∧ M (k + 21) j = bI (decide (ch j = opn ch j))
/-- the choices so far are good ones -/
abbrev SG (cap i : Nat) (zr ch : Nat → Nat) : Prop := ∀ j, j < i → ch j ≤ opn ch j ∧ fil ch zr j (ch j) + zr j ≤ cap
theorem SR_pv {M0 M : mwM} {k n cap F0 m i u : Nat} {pl zl fr oc gl ch : Nat → Nat} (hB : SB M0 k n cap F0 m pl zl fr oc gl) (h : SR M0 M k F0 m gl (fun j => zl (gl j)) ch i u) (hi : i ≤ m) (hg : SG cap i (fun j => zl (gl j)) ch) : PvM M k n cap pl zl (fun l => nn (M (k + 16) l)) (fun l => nn (M (k + 17) l)) := by
  obtain ⟨⟨p1, p2, p3, p4, p5⟩, b2, b3, b4, b5, b6, b7⟩ := hB
  obtain ⟨r1, r2, r3, r4, r5, r6, r7⟩ := h
  have ht : tgt ch i := fun j hj => (hg j hj).1
  refine ⟨by rw [r1 _ _ (by omega) (by omega) (by omega) (by omega) (by omega)]; exact p1, by rw [r1 _ _ (by omega) (by omega) (by omega) (by omega) (by omega)]; exact p2, p3, p4, fun l l1 l2 => ?_⟩
  obtain ⟨a1, a2, a3, a4, a5, a6, a7, a8, a9, a10⟩ := p5 l l1 l2
  refine ⟨by rw [r1 _ _ (by omega) (by omega) (by omega) (by omega) (by omega)]; exact a1, by rw [r1 _ _ (by omega) (by omega) (by omega) (by omega) (by omega)]; exact a2, a3, by rw [r1 _ _ (by omega) (by omega) (by omega) (by omega) (by omega)]; exact a4, a5, a6, ?_⟩
  dsimp only
  by_cases e : ∃ j, j < m ∧ l = gl j
  · obtain ⟨j, j1, j2⟩ := e
    subst j2
    obtain ⟨o, o1, o2⟩ := r5 j j1
    have e17 : nn (M (k + 17) (gl j)) = o := by rw [o2]; exact nn_s (by omega)
    by_cases q : j < i
    · obtain ⟨q1, q2⟩ := r3 j q
      have hj := (hg j q).1
      have hoj := tgt_le (ch := ch) (i := j) (fun x hx => ht x (by omega))
      have e16 : nn (M (k + 16) (gl j)) = F0 + 1 + ch j := by rw [q1]; exact nn_s (by omega)
      exact ⟨by rw [e16, q1], by rw [e16]; omega, by rw [e17, o2], by rw [e17]; exact o1⟩
    · have e16 : nn (M (k + 16) (gl j)) = 0 := by rw [r4 j (by omega) j1]; rfl
      exact ⟨by rw [e16, r4 j (by omega) j1]; rfl, by rw [e16]; omega, by rw [e17, o2], by rw [e17]; exact o1⟩
  · obtain ⟨q1, q2⟩ := r2 l (fun j hj w => e ⟨j, hj, w⟩)
    have e16 : nn (M (k + 16) l) = fr l := by rw [q1, a7]; exact nn_s (by omega)
    have e17 : nn (M (k + 17) l) = oc l := by rw [q2, a9]; exact nn_s (by omega)
    exact ⟨by rw [e16, q1, a7], by rw [e16]; exact a8, by rw [e17, q2, a9], by rw [e17]; exact a10⟩
/-- who is in a frame that the search opened -/
theorem SR_in {M0 M : mwM} {k n cap F0 m i u l f : Nat} {pl zl fr oc gl ch : Nat → Nat} (hB : SB M0 k n cap F0 m pl zl fr oc gl) (h : SR M0 M k F0 m gl (fun j => zl (gl j)) ch i u) (hi : i ≤ m) (hg : SG cap i (fun j => zl (gl j)) ch) (l1 : 1 ≤ l) (l2 : l ≤ n) (hf : F0 < f) (he : nn (M (k + 16) l) = f) : ∃ j, j < i ∧ l = gl j ∧ f = F0 + 1 + ch j ∧ nn (M (k + 17) l) = fil ch (fun j => zl (gl j)) j (ch j) := by
  obtain ⟨⟨p1, p2, p3, p4, p5⟩, b2, b3, b4, b5, b6, b7⟩ := hB
  obtain ⟨r1, r2, r3, r4, r5, r6, r7⟩ := h
  have ht : tgt ch i := fun j hj => (hg j hj).1
  by_cases e : ∃ j, j < m ∧ l = gl j
  · obtain ⟨j, j1, j2⟩ := e
    subst j2
    by_cases q : j < i
    · obtain ⟨q1, q2⟩ := r3 j q
      have hj := (hg j q)
      have hoj := tgt_le (ch := ch) (i := j) (fun x hx => ht x (by omega))
      rw [q1, nn_s (by omega)] at he
      exact ⟨j, q, rfl, he.symm, by rw [q2]; exact nn_s (by omega)⟩
    · rw [r4 j (by omega) j1] at he
      have : nn (0 : Int32) = 0 := rfl
      omega
  · obtain ⟨q1, q2⟩ := r2 l (fun j hj w => e ⟨j, hj, w⟩)
    obtain ⟨a1, a2, a3, a4, a5, a6, a7, a8, a9, a10⟩ := p5 l l1 l2
    have := b4 l l1 l2
    rw [q1, a7, nn_s (by omega)] at he
    omega
theorem SR_cov {M0 M : mwM} {k n cap F0 m i u c : Nat} {pl zl fr oc gl ch : Nat → Nat} (hB : SB M0 k n cap F0 m pl zl fr oc gl) (h : SR M0 M k F0 m gl (fun j => zl (gl j)) ch i u) (hi : i ≤ m) (hg : SG cap i (fun j => zl (gl j)) ch) : Cov (fun l => nn (M (k + 16) l)) (fun l => nn (M (k + 17) l)) zl n (F0 + 1 + c) (fil ch (fun j => zl (gl j)) i c) := by
  refine ⟨fun l l1 l2 hl => ?_, fun x hx => ?_⟩
  · obtain ⟨j, j1, j2, j3, j4⟩ := SR_in hB h hi hg l1 l2 (by omega) hl
    subst j2
    try dsimp only
    have ec : ch j = c := by omega
    have f1 := fil_s (sz := fun j => zl (gl j)) ec
    have f2 := fil_le (ch := ch) (sz := fun j => zl (gl j)) (c := c) (show j + 1 ≤ i by omega)
    try dsimp only at f1
    rw [j4, ec]
    omega
  · obtain ⟨j, j1, j2, j3, j4⟩ := fil_cov i x hx
    obtain ⟨⟨p1, p2, p3, p4, p5⟩, b2, b3, b4, b5, b6, b7⟩ := hB
    obtain ⟨r1, r2, r3, r4, r5, r6, r7⟩ := h
    obtain ⟨q1, q2⟩ := r3 j j1
    obtain ⟨g1, g2, _⟩ := b5 j (by omega)
    have hj := hg j j1
    have ht : tgt ch i := fun j hj => (hg j hj).1
    have hoj := tgt_le (ch := ch) (i := j) (fun x hx => ht x (by omega))
    refine ⟨gl j, g1, g2, ?_, ?_, ?_⟩
    · dsimp only; rw [q1, nn_s (by omega), j2]
    · dsimp only; rw [q2, nn_s (by omega), j2]; exact j3
    · dsimp only; rw [q2, nn_s (by omega), j2]; exact j4
theorem SR_new {fu k n cap F0 m i u : Nat} {M0 M : mwM} {L : mwL} {pl zl fr oc gl ch : Nat → Nat} (hfu : 70 ≤ fu) (hB : SB M0 k n cap F0 m pl zl fr oc gl) (h : SR M0 M k F0 m gl (fun j => zl (gl j)) ch i u) (hi : i < m) (hg : SG cap i (fun j => zl (gl j)) ch) : DX16_newFrame fu k M L = some (sI (F0 + 1 + opn ch i), M, L) := by
  have ht : tgt ch i := fun j hj => (hg j hj).1
  have hop := tgt_le ht
  have h40 := hB.2.1
  refine m_newFrame hfu (SR_pv hB h (by omega) hg) (by omega) (by omega) (fun f f1 f2 => ?_) (fun l l1 l2 w => ?_)
  · obtain ⟨⟨p1, p2, p3, p4, p5⟩, b2, b3, b4, b5, b6, b7⟩ := hB
    obtain ⟨r1, r2, r3, r4, r5, r6, r7⟩ := h
    by_cases q : f ≤ F0
    · obtain ⟨l, l1, l2, l3⟩ := b7 f f1 q
      refine ⟨l, l1, l2, ?_⟩
      obtain ⟨q1, q2⟩ := r2 l (fun j hj w => by have := (b5 j hj).2.2.1; rw [← w] at this; omega)
      obtain ⟨a1, a2, a3, a4, a5, a6, a7, a8, a9, a10⟩ := p5 l l1 l2
      try dsimp only
      rw [q1, a7, nn_s (by omega), l3]
    · obtain ⟨j, j1, j2⟩ := opn_att (c := f - F0 - 1) i ht (by omega)
      obtain ⟨g1, g2, _⟩ := b5 j (by omega)
      refine ⟨gl j, g1, g2, ?_⟩
      try dsimp only
      rw [(r3 j j1).1, nn_s (by omega), j2]
      omega
  · obtain ⟨j, j1, j2, j3, j4⟩ := SR_in hB h (by omega) hg l1 l2 (by omega) w
    have := opn_lt (ch := ch) j1
    omega
/-! the reference's search: its steps -/
theorem SR_c {M0 M : mwM} {k F0 m i u : Nat} {gl zr ch ch' : Nat → Nat} (h : SR M0 M k F0 m gl zr ch i u) (hu : u ≤ i) (hc : ∀ j, j < i → ch j = ch' j) : SR M0 M k F0 m gl zr ch' i u := by
  obtain ⟨r1, r2, r3, r4, r5, r6, r7⟩ := h
  refine ⟨r1, r2, fun j hj => ?_, r4, r5, fun j hj => ?_, fun j hj => ?_⟩
  · rw [← hc j hj, ← fil_c (ch := ch) (ch' := ch') (fun x hx => hc x (by omega))]
    exact r3 j hj
  · rw [← opn_c hc] at hj
    exact r6 j hj
  · rw [← hc j (by omega), ← opn_c (ch := ch) (ch' := ch') (fun x hx => hc x (by omega))]
    exact r7 j hj
theorem SR_x {M0 M M' : mwM} {k F0 m i u : Nat} {gl zr ch : Nat → Nat} (h : SR M0 M k F0 m gl zr ch i u) (hx : ∀ a y, ¬ ((a = k + 20 ∨ a = k + 21) ∧ u ≤ y) → M' a y = M a y) : SR M0 M' k F0 m gl zr ch i u := by
  obtain ⟨r1, r2, r3, r4, r5, r6, r7⟩ := h
  refine ⟨fun a y q1 q2 q3 q4 q5 => ?_, fun y hy => ?_, fun j hj => ?_, fun j j1 j2 => ?_, fun j hj => ?_, fun j hj => ?_, fun j hj => ?_⟩
  · rw [hx a y (by omega)]; exact r1 a y q1 q2 q3 q4 q5
  · rw [hx _ y (by omega), hx _ y (by omega)]; exact r2 y hy
  · rw [hx _ _ (by omega), hx _ _ (by omega)]; exact r3 j hj
  · rw [hx _ _ (by omega)]; exact r4 j j1 j2
  · rw [hx _ _ (by omega)]; exact r5 j hj
  · rw [hx _ _ (by omega)]; exact r6 j hj
  · rw [hx _ _ (by omega), hx _ _ (by omega)]; exact r7 j hj
theorem nar_f : vp_nar .boolean 0 = 0 := bI_n (b := false)
theorem nar_t : vp_nar .boolean 1 = 1 := bI_n (b := true)
section
variable {fu k n cap F0 m i c fresh : Nat} {M0 M : mwM} {L : mwL} {pl zl fr oc gl ch : Nat → Nat} {r : (Int32 × Int32 × mwM × mwL) → Option (Int32 × mwM × mwL)}
/-- the next group is put into frame c of those that the search opened, or into a new one -/
theorem SR_put (hB : SB M0 k n cap F0 m pl zl fr oc gl) (h : SR M0 M k F0 m gl (fun j => zl (gl j)) ch i 0) (hi : i < m) (hg : SG cap i (fun j => zl (gl j)) ch) (hc : c ≤ opn ch i) (hf : fil ch (fun j => zl (gl j)) i c + zl (gl i) ≤ cap) {M' : mwM} (h16 : M' (k + 16) (gl i) = sI (F0 + 1 + c)) (h17 : M' (k + 17) (gl i) = sI (fil ch (fun j => zl (gl j)) i c)) (h19 : c = opn ch i → M' (k + 19) c = sI (F0 + 1 + c)) (hx : ∀ a y, ¬ ((a = k + 16 ∨ a = k + 17) ∧ y = gl i) → ¬ (a = k + 19 ∧ y = opn ch i) → a ≠ k + 20 → a ≠ k + 21 → M' a y = M a y) : SR M0 M' k F0 m gl (fun j => zl (gl j)) (upd1 ch i c) (i + 1) 0 ∧ SG cap (i + 1) (fun j => zl (gl j)) (upd1 ch i c) := by
  obtain ⟨⟨p1, p2, p3, p4, p5⟩, b2, b3, b4, b5, b6, b7⟩ := hB
  obtain ⟨r1, r2, r3, r4, r5, r6, r7⟩ := h
  have ne : ∀ j, j < m → j ≠ i → gl j ≠ gl i := fun j hj q w => q (b6 j i hj hi w)
  have hgl := b5 i hi
  refine ⟨⟨fun a y q1 q2 q3 q4 q5 => ?_, fun y hy => ?_, fun j hj => ?_, fun j j1 j2 => ?_, fun j hj => ?_, fun j hj => ?_, fun j hj => absurd hj (Nat.not_lt_zero _)⟩, ?_⟩
  · rw [hx a y (by omega) (by omega) q4 q5]; exact r1 a y q1 q2 q3 q4 q5
  · have := hy i hi
    rw [hx _ y (by omega) (by omega) (by omega) (by omega), hx _ y (by omega) (by omega) (by omega) (by omega)]; exact r2 y hy
  · by_cases e : j = i
    · subst e
      rw [upd1_s, fil_u]; exact ⟨h16, h17⟩
    · have := ne j (by omega) e
      rw [upd1_n e, fil_c (ch := upd1 ch i c) (ch' := ch) (fun x hx => upd1_n (by omega)), hx _ _ (by omega) (by omega) (by omega) (by omega), hx _ _ (by omega) (by omega) (by omega) (by omega)]
      exact r3 j (by omega)
  · have := ne j j2 (by omega)
    rw [hx _ _ (by omega) (by omega) (by omega) (by omega)]; exact r4 j (by omega) j2
  · by_cases e : j = i
    · subst e
      exact ⟨_, by omega, h17⟩
    · have := ne j hj e
      rw [hx _ _ (by omega) (by omega) (by omega) (by omega)]; exact r5 j hj
  · rw [opn_u1] at hj
    by_cases e : j = opn ch i
    · have ec : c = opn ch i := by split at hj <;> omega
      rw [e, ← ec]; exact h19 ec
    · have : j < opn ch i := by split at hj <;> omega
      rw [hx _ _ (by omega) (by omega) (by omega) (by omega)]; exact r6 j this
  · intro j hj
    by_cases e : j = i
    · subst e
      rw [upd1_s, opn_u, fil_u]; exact ⟨hc, hf⟩
    · rw [upd1_n e, opn_c (ch := upd1 ch i c) (ch' := ch) (fun x hx => upd1_n (by omega)), fil_c (ch := upd1 ch i c) (ch' := ch) (fun x hx => upd1_n (by omega))]
      exact hg j (by omega)
theorem SR_0 {u : Nat} (h : SR M0 M k F0 m gl (fun j => zl (gl j)) ch i u) : SR M0 M k F0 m gl (fun j => zl (gl j)) ch i 0 := by
  obtain ⟨r1, r2, r3, r4, r5, r6, r7⟩ := h
  exact ⟨r1, r2, r3, r4, r5, r6, fun j hj => absurd hj (Nat.not_lt_zero _)⟩
theorem SR_7 {u : Nat} (h : SR M0 M k F0 m gl (fun j => zl (gl j)) ch i 0) (h7 : ∀ j, j < u → M (k + 20) j = sI (ch j) ∧ M (k + 21) j = bI (decide (ch j = opn ch j))) : SR M0 M k F0 m gl (fun j => zl (gl j)) ch i u := by
  obtain ⟨r1, r2, r3, r4, r5, r6, r7⟩ := h
  exact ⟨r1, r2, r3, r4, r5, r6, h7⟩
/-- one try more at the same group -/
theorem s97 (hfu : 70 ≤ fu) (hB : SB M0 k n cap F0 m pl zl fr oc gl) (h : SR M0 M k F0 m gl (fun j => zl (gl j)) ch i i) (hi : i < m) (hg : SG cap i (fun j => zl (gl j)) ch) (hz : ∀ j, j < m → zl (gl j) ≤ cap) (h20 : M (k + 20) i + 1 = sI c) (hc : c ≤ opn ch i + 1) (hop : opn ch i ≤ fresh) (hfr : fresh ≤ m) :
    (¬ c < (if opn ch i < fresh then opn ch i + 1 else fresh) → ∃ M', SR M0 M' k F0 m gl (fun j => zl (gl j)) ch i i ∧ fX16_search_b97 fu k (sI m) 0 (sI fresh) r (sI i) (sI (opn ch i)) (sI (gl i)) M L = r (sI i + (-1), sI (opn ch i), M', L)) ∧
    (c < (if opn ch i < fresh then opn ch i + 1 else fresh) → ¬ fil ch (fun j => zl (gl j)) i c + zl (gl i) ≤ cap → ∃ M', SR M0 M' k F0 m gl (fun j => zl (gl j)) ch i i ∧ M' (k + 20) i = sI c ∧ fX16_search_b97 fu k (sI m) 0 (sI fresh) r (sI i) (sI (opn ch i)) (sI (gl i)) M L = r (sI i, sI (opn ch i), M', L)) ∧
    (c < (if opn ch i < fresh then opn ch i + 1 else fresh) → fil ch (fun j => zl (gl j)) i c + zl (gl i) ≤ cap → ∃ M', SR M0 M' k F0 m gl (fun j => zl (gl j)) (upd1 ch i c) (i + 1) (i + 1) ∧ SG cap (i + 1) (fun j => zl (gl j)) (upd1 ch i c) ∧ M' (k + 20) (i + 1) = -1 ∧ fX16_search_b97 fu k (sI m) 0 (sI fresh) r (sI i) (sI (opn ch i)) (sI (gl i)) M L = r (sI (i + 1), sI (opn (upd1 ch i c) (i + 1)), M', L)) := by
  have ht : tgt ch i := fun j hj => (hg j hj).1
  have hopi := tgt_le ht
  obtain ⟨⟨p1, p2, p3, p4, p5⟩, b2, b3, b4, b5, b6, b7⟩ := id hB
  obtain ⟨g1, g2, g3, g4⟩ := b5 i hi
  obtain ⟨z1, z2, z3, z4, z5, z6, z7, z8, z9, z10⟩ := p5 (gl i) g1 g2
  have hszi := hz i hi
  -- behind the first two writes
  have hC : SR M0 (mset (mset M (k + 21) i 0) (k + 20) i (sI c)) k F0 m gl (fun j => zl (gl j)) ch i i := SR_x h (fun a y q => by rw [mset_n (by omega), mset_n (by omega)])
  generalize hMc : mset (mset M (k + 21) i 0) (k + 20) i (sI c) = Mc at hC
  have c20 : Mc (k + 20) i = sI c := by rw [← hMc, mset_s]
  have c21 : Mc (k + 21) i = 0 := by rw [← hMc, mset_n (by omega), mset_s]
  have e97 : fX16_search_b97 fu k (sI m) 0 (sI fresh) r (sI i) (sI (opn ch i)) (sI (gl i)) M L = (if sI (opn ch i) < sI c then fX16_search_b156 fu k (sI m) 0 (sI fresh) r (sI i) (sI (opn ch i)) Mc L else (if sI c = sI (opn ch i) then (if (sI (opn ch i) - 0) = sI fresh then fX16_search_b156 fu k (sI m) 0 (sI fresh) r (sI i) (sI (opn ch i)) Mc L else mb3 (DX16_newFrame fu k Mc L) (fun r27 M25 L26 => (if r27 = 65 then fX16_search_b156 fu k (sI m) 0 (sI fresh) r (sI i) (sI (opn ch i)) M25 L26 else fX16_search_b162 fu k (sI m) 0 (sI fresh) r (sI i) (sI (opn ch i)) (sI (gl i)) (sI c) M25 L26))) else fX16_search_b162 fu k (sI m) 0 (sI fresh) r (sI i) (sI (opn ch i)) (sI (gl i)) (sI c) Mc L)) := by
    unfold fX16_search_b97
    simp only [mlet]
    rw [mck_s (show i < 129 by omega) (by omega), mck_s (show i < 129 by omega) (by omega), mck_s (show i < 129 by omega) (by omega), mck_s (show i < 129 by omega) (by omega), sI_nn (show i < 2000000000 by omega), nar_f, mset_n (show ¬ (k + 20 = k + 21 ∧ i = i) by omega), h20, hMc, c20]
  have e156 : fX16_search_b156 fu k (sI m) 0 (sI fresh) r (sI i) (sI (opn ch i)) Mc L = r (sI i + (-1), sI (opn ch i), Mc, L) := rfl
  have s0 : sI (opn ch i) - 0 = sI (opn ch i) := by simp
  have nf := SR_new (L := L) hfu hB hC hi hg
  have n65 : ¬ sI (F0 + 1 + opn ch i) = 65 := by rw [sI_eql (by omega) (by decide)]; omega
  rw [e97, s0]
  refine ⟨fun q => ⟨Mc, hC, ?_⟩, fun q nfit => ⟨Mc, hC, c20, ?_⟩, fun q fits => ?_⟩
  · by_cases c1 : opn ch i < c
    · rw [if_pos (by rw [sI_lt (by omega) (by omega)]; exact c1), e156]
    · rw [if_neg (by rw [sI_lt (by omega) (by omega)]; exact c1)]
      have ef : opn ch i = fresh ∧ c = opn ch i := by
        split at q <;> omega
      rw [if_pos (by rw [ef.2]), if_pos (by rw [ef.1]), e156]
  · -- an open frame without room
    have clt : c < opn ch i := by
      apply Nat.lt_of_not_le
      intro w
      rw [fil_0 w] at nfit
      omega
    rw [if_neg (by rw [sI_lt (by omega) (by omega)]; omega), if_neg (by rw [sI_eq (by omega) (by omega)]; omega)]
    unfold fX16_search_b162 fX16_search_b183 fX16_search_b209
    rw [if_neg (by rw [sI_eq (by omega) (by omega)]; omega), mck_s (show c < 65 by omega) (by omega), sI_nn (show c < 2000000000 by omega), hC.2.2.2.2.2.1 c clt, if_neg (show ¬ sI c = sI (opn ch i) by rw [sI_eq (by omega) (by omega)]; omega), mck_s (show gl i < 129 by omega) (by omega), sI_nn (show gl i < 2000000000 by omega), hC.1 (k + 22) (gl i) (by omega) (by omega) (by omega) (by omega) (by omega), z4]
    have hfil : fil ch (fun j => zl (gl j)) i c ≤ 8 := by
      obtain ⟨j, j1, j2⟩ := opn_att (c := c) i ht clt
      have : ∀ x, x ≤ i → fil ch (fun j => zl (gl j)) x c ≤ cap := by
        intro x
        induction x with
        | zero => intro _; exact Nat.zero_le _
        | succ x ihx =>
          intro hx
          have a := ihx (by omega)
          show fil ch (fun j => zl (gl j)) x c + (if ch x = c then zl (gl x) else 0) ≤ cap
          by_cases w : ch x = c
          · rw [if_pos w]
            have := (hg x (by omega)).2
            rw [w] at this
            exact this
          · rw [if_neg w]; omega
      have := this i (Nat.le_refl _)
      omega
    rw [m_room (by omega) (SR_pv hB hC (by omega) hg) (by omega) z5 z6 hfil (SR_cov hB hC (by omega) hg), mb3_s, if_neg nfit, if_neg (by decide)]
  · by_cases ce : c = opn ch i
    · -- a new frame
      have hlt : opn ch i < fresh := by split at q <;> omega
      rw [if_neg (by rw [sI_lt (by omega) (by omega)]; omega), if_pos (by rw [ce]), if_neg (by rw [sI_eq (by omega) (by omega)]; omega), nf, mb3_s, if_neg n65]
      unfold fX16_search_b162 fX16_search_b183 fX16_search_b209 fX16_search_b246
      rw [if_pos (by rw [ce]), nf, mb3_s, if_pos (by rw [ce]), if_pos (show (0 : Int32) ≤ 0 by decide), if_pos (by rw [ce])]
      simp only [mlet]
      rw [mck_s (by omega) (by omega), mck_s (by omega) (by omega), mck_s (by omega) (by omega), mck_s (by omega) (by omega), sI_nn (show opn ch i < 2000000000 by omega), sI_nn (show i < 2000000000 by omega), sI_nn (show gl i < 2000000000 by omega), sI_1, sI_1, mck_s (by omega) (by omega), sI_nn (by omega), nar_t]
      have hfil : fil ch (fun j => zl (gl j)) i c = 0 := fil_0 (by omega)
      have eo : opn (upd1 ch i c) (i + 1) = opn ch i + 1 := by rw [opn_u1, if_pos (by omega), ce]
      rw [eo]
      refine ⟨_, ?_, ?_, ?_, rfl⟩
      · have pt := (SR_put hB (SR_0 hC) hi hg (by omega) fits (M' := mset (mset (mset (mset (mset Mc (k + 19) (opn ch i) (sI (F0 + 1 + opn ch i))) (k + 21) i 1) (k + 16) (gl i) (sI (F0 + 1 + opn ch i))) (k + 17) (gl i) 0) (k + 20) (i + 1) (-1)) (by rw [mset_n (by omega), mset_n (by omega), mset_s, ce]) (by rw [mset_n (by omega), mset_s, hfil]; rfl) (fun _ => by rw [mset_n (by omega), mset_n (by omega), mset_n (by omega), mset_n (by omega), ce, mset_s]) (fun a y q1 q2 q3 q4 => by rw [mset_n (by omega), mset_n (by omega), mset_n (by omega), mset_n (by omega), mset_n (by omega)])).1
        refine SR_7 pt (fun j hj => ?_)
        by_cases e : j = i
        · subst e
          rw [upd1_s, opn_u, decide_eq_true ce, bI_t, mset_n (by omega), mset_n (by omega), mset_n (by omega), mset_n (by omega), mset_n (by omega), c20, mset_n (by omega), mset_n (by omega), mset_n (by omega), mset_s]
          exact ⟨rfl, rfl⟩
        · rw [upd1_n e, opn_c (ch := upd1 ch i c) (ch' := ch) (fun x hx => upd1_n (by omega)), mset_n (by omega), mset_n (by omega), mset_n (by omega), mset_n (by omega), mset_n (by omega), mset_n (by omega), mset_n (by omega), mset_n (by omega), mset_n (by omega), mset_n (by omega)]
          exact hC.2.2.2.2.2.2 j (by omega)
      · exact (SR_put hB (SR_0 hC) hi hg (by omega) fits (M' := mset (mset (mset (mset (mset Mc (k + 19) (opn ch i) (sI (F0 + 1 + opn ch i))) (k + 21) i 1) (k + 16) (gl i) (sI (F0 + 1 + opn ch i))) (k + 17) (gl i) 0) (k + 20) (i + 1) (-1)) (by rw [mset_n (by omega), mset_n (by omega), mset_s, ce]) (by rw [mset_n (by omega), mset_s, hfil]; rfl) (fun _ => by rw [mset_n (by omega), mset_n (by omega), mset_n (by omega), mset_n (by omega), ce, mset_s]) (fun a y q1 q2 q3 q4 => by rw [mset_n (by omega), mset_n (by omega), mset_n (by omega), mset_n (by omega), mset_n (by omega)])).2
      · rw [mset_s]
    · -- an open frame with room
      have clt : c < opn ch i := by split at q <;> omega
      rw [if_neg (by rw [sI_lt (by omega) (by omega)]; omega), if_neg (by rw [sI_eq (by omega) (by omega)]; omega)]
      unfold fX16_search_b162 fX16_search_b183 fX16_search_b209 fX16_search_b246
      rw [if_neg (by rw [sI_eq (by omega) (by omega)]; omega), mck_s (show c < 65 by omega) (by omega), sI_nn (show c < 2000000000 by omega), hC.2.2.2.2.2.1 c clt, if_neg (show ¬ sI c = sI (opn ch i) by rw [sI_eq (by omega) (by omega)]; omega), mck_s (show gl i < 129 by omega) (by omega), sI_nn (show gl i < 2000000000 by omega), hC.1 (k + 22) (gl i) (by omega) (by omega) (by omega) (by omega) (by omega), z4]
      rw [m_room (by omega) (SR_pv hB hC (by omega) hg) (by omega) z5 z6 (by omega) (SR_cov hB hC (by omega) hg), mb3_s, if_pos fits, if_pos (by rw [sI_lle (by decide) (by omega)]; omega), if_neg (by rw [sI_eq (by omega) (by omega)]; omega)]
      simp only [mlet]
      rw [mck_s (by omega) (by omega), mck_s (by omega) (by omega), sI_1, mck_s (by omega) (by omega), sI_nn (by omega)]
      have eo : opn (upd1 ch i c) (i + 1) = opn ch i := by rw [opn_u1, if_neg (by omega)]
      rw [eo]
      have pt := (SR_put hB (SR_0 hC) hi hg (by omega) fits (M' := mset (mset (mset Mc (k + 16) (gl i) (sI (F0 + 1 + c))) (k + 17) (gl i) (sI (fil ch (fun j => zl (gl j)) i c))) (k + 20) (i + 1) (-1)) (by rw [mset_n (by omega), mset_n (by omega), mset_s]) (by rw [mset_n (by omega), mset_s]) (fun w => absurd w ce) (fun a y q1 q2 q3 q4 => by rw [mset_n (by omega), mset_n (by omega), mset_n (by omega)]))
      refine ⟨_, ?_, pt.2, ?_, rfl⟩
      · refine SR_7 pt.1 (fun j hj => ?_)
        by_cases e : j = i
        · subst e
          rw [upd1_s, opn_u, decide_eq_false ce, bI_f, mset_n (by omega), mset_n (by omega), mset_n (by omega), c20, mset_n (by omega), mset_n (by omega), mset_n (by omega), c21]
          exact ⟨rfl, rfl⟩
        · rw [upd1_n e, opn_c (ch := upd1 ch i c) (ch' := ch) (fun x hx => upd1_n (by omega)), mset_n (by omega), mset_n (by omega), mset_n (by omega), mset_n (by omega), mset_n (by omega), mset_n (by omega)]
          exact hC.2.2.2.2.2.2 j (by omega)
      · rw [mset_s]
end
/-! the reference's search comes to the first way -/
section
variable {fu k n cap F0 m i c fresh : Nat} {M0 M : mwM} {L : mwL} {pl zl fr oc gl ch : Nat → Nat} {r : (Int32 × Int32 × mwM × mwL) → Option (Int32 × mwM × mwL)}
/-- at a group that stands nowhere -/
theorem s13d {v : Int32} (hB : SB M0 k n cap F0 m pl zl fr oc gl) (h : SR M0 M k F0 m gl (fun j => zl (gl j)) ch i i) (hi : i < m) : fX16_search_i13 fu k (sI m) 0 (sI fresh) r (sI i) v M L = fX16_search_b97 fu k (sI m) 0 (sI fresh) r (sI i) v (sI (gl i)) M L := by
  obtain ⟨⟨p1, p2, p3, p4, p5⟩, b2, b3, b4, b5, b6, b7⟩ := hB
  obtain ⟨g1, g2, g3, g4⟩ := b5 i hi
  unfold fX16_search_i13
  rw [if_neg (by rw [sI_ltl (by omega) (by decide)]; omega), if_neg (by rw [sI_le (by omega) (by omega)]; omega), mck_s (show i < 129 by omega) (by omega), sI_nn (show i < 2000000000 by omega), h.1 (k + 18) i (by omega) (by omega) (by omega) (by omega) (by omega), g4]
  simp only [mlet]
  rw [mck_s (by omega) (by omega), sI_nn (show gl i < 2000000000 by omega), h.2.2.2.1 i (Nat.le_refl _) hi, if_pos (by decide)]
/-- back at a group that stands in frame c -/
theorem s13e (hB : SB M0 k n cap F0 m pl zl fr oc gl) (h : SR M0 M k F0 m gl (fun j => zl (gl j)) (upd1 ch i c) (i + 1) (i + 1)) (hi : i < m) (hg : SG cap i (fun j => zl (gl j)) ch) (hc : c ≤ opn ch i) : ∃ M', SR M0 M' k F0 m gl (fun j => zl (gl j)) ch i i ∧ M' (k + 20) i = sI c ∧ fX16_search_i13 fu k (sI m) 0 (sI fresh) r (sI i) (sI (opn (upd1 ch i c) (i + 1))) M L = fX16_search_b97 fu k (sI m) 0 (sI fresh) r (sI i) (sI (opn ch i)) (sI (gl i)) M' L := by
  obtain ⟨⟨p1, p2, p3, p4, p5⟩, b2, b3, b4, b5, b6, b7⟩ := hB
  obtain ⟨g1, g2, g3, g4⟩ := b5 i hi
  have ht : tgt ch i := fun j hj => (hg j hj).1
  have hopi := tgt_le ht
  obtain ⟨r1, r2, r3, r4, r5, r6, r7⟩ := h
  have ne : ∀ j, j < m → j ≠ i → gl j ≠ gl i := fun j hj q w => q (b6 j i hj hi w)
  obtain ⟨e16, e17⟩ := r3 i (by omega)
  obtain ⟨e20, e21⟩ := r7 i (by omega)
  rw [upd1_s] at e16 e20
  rw [upd1_s, opn_u] at e21
  refine ⟨mset M (k + 16) (gl i) 0, ⟨fun a y q1 q2 q3 q4 q5 => ?_, fun y hy => ?_, fun j hj => ?_, fun j j1 j2 => ?_, fun j hj => ?_, fun j hj => ?_, fun j hj => ?_⟩, ?_, ?_⟩
  · rw [mset_n (by omega)]; exact r1 a y q1 q2 q3 q4 q5
  · have := hy i hi
    rw [mset_n (by omega), mset_n (by omega)]; exact r2 y hy
  · have := ne j (by omega) (by omega)
    have a := r3 j (by omega)
    rw [upd1_n (by omega), fil_c (ch := upd1 ch i c) (ch' := ch) (fun x hx => upd1_n (by omega))] at a
    rw [mset_n (by omega), mset_n (by omega)]; exact a
  · by_cases e : j = i
    · rw [e, mset_s]
    · have := ne j j2 e
      rw [mset_n (by omega)]; exact r4 j (by omega) j2
  · rw [mset_n (by omega)]; exact r5 j hj
  · rw [mset_n (by omega)]
    refine r6 j ?_
    rw [opn_u1]
    split <;> omega
  · have a := r7 j (by omega)
    rw [upd1_n (by omega), opn_c (ch := upd1 ch i c) (ch' := ch) (fun x hx => upd1_n (by omega))] at a
    rw [mset_n (by omega), mset_n (by omega)]; exact a
  · rw [mset_n (by omega)]; exact e20
  · unfold fX16_search_i13
    rw [if_neg (by rw [sI_ltl (by omega) (by decide)]; omega), if_neg (by rw [sI_le (by omega) (by omega)]; omega), mck_s (show i < 129 by omega) (by omega), sI_nn (show i < 2000000000 by omega), r1 (k + 18) i (by omega) (by omega) (by omega) (by omega) (by omega), g4]
    simp only [mlet]
    rw [mck_s (show gl i < 129 by omega) (by omega), mck_s (show i < 129 by omega) (by omega), mck_s (show i < 129 by omega) (by omega), mck_s (show i < 129 by omega) (by omega), e20, e21, sI_nn (show gl i < 2000000000 by omega), e16, if_neg (by rw [sI_lel (by omega) (by decide)]; omega)]
    unfold fX16_search_b85 fX16_search_b87
    simp only [mlet]
    rw [mck_s (show gl i < 129 by omega) (by omega), mck_s (show gl i < 129 by omega) (by omega), sI_nn (show gl i < 2000000000 by omega)]
    by_cases ce : c = opn ch i
    · have eo : opn (upd1 ch i c) (i + 1) = c + 1 := by rw [opn_u1, if_pos (by omega)]
      rw [eo, sI_m1, if_pos (show sI c = sI c from rfl), if_neg (by rw [sI_ltl (by omega) (by decide)]; omega), decide_eq_true ce, bI_t, if_neg (show ¬ (1 : Int32) = 0 by decide), ce]
    · have eo : opn (upd1 ch i c) (i + 1) = opn ch i := by rw [opn_u1, if_neg (by omega)]
      rw [eo, decide_eq_false ce, bI_f, if_pos (show (0 : Int32) = 0 from rfl)]
      have s0 : ¬ sI c < 0 := by rw [sI_ltl (by omega) (by decide)]; omega
      rw [if_neg s0]
      split <;> rfl
end
/-- how many steps a search needs at most -/
def csr : Nat → Nat → Nat
  | 0, _ => 1
  | r + 1, o => (o + 2) * (1 + csr r (o + 1))
theorem csr_mono : ∀ (r o : Nat), csr r o ≤ csr r (o + 1) := by
  intro r
  induction r with
  | zero => intro o; exact Nat.le_refl _
  | succ r ih =>
    intro o
    have := ih (o + 1)
    show (o + 2) * (1 + csr r (o + 1)) ≤ (o + 1 + 2) * (1 + csr r (o + 1 + 1))
    exact Nat.mul_le_mul (by omega) (by omega)
theorem m_dfs {fu k n cap F0 m fresh : Nat} {M0 : mwM} {L : mwL} {pl zl fr oc gl : Nat → Nat} (hfu : 70 ≤ fu) (hB : SB M0 k n cap F0 m pl zl fr oc gl) (hz : ∀ j, j < m → zl (gl j) ≤ cap) (hfr : fresh ≤ m) : ∀ (r i f : Nat) (ch : Nat → Nat) (M : mwM), i + r = m → csr r (opn ch i) ≤ f → opn ch i ≤ fresh → SG cap i (fun j => zl (gl j)) ch → SR M0 M k F0 m gl (fun j => zl (gl j)) ch i i → (i < m → M (k + 20) i = -1) →
    (∃ ch' M', fnd (fun j => zl (gl j)) cap fresh r i ch = some ch' ∧ SR M0 M' k F0 m gl (fun j => zl (gl j)) ch' m m ∧ fX16_search_h13 fu k (sI m) 0 (sI fresh) f (sI i, sI (opn ch i), M, L) = some (1, M', L)) ∨ (fnd (fun j => zl (gl j)) cap fresh r i ch = none ∧ ∃ f' M', f ≤ f' + csr r (opn ch i) ∧ SR M0 M' k F0 m gl (fun j => zl (gl j)) ch i i ∧ fX16_search_h13 fu k (sI m) 0 (sI fresh) f (sI i, sI (opn ch i), M, L) = fX16_search_h13 fu k (sI m) 0 (sI fresh) f' (sI i + (-1), sI (opn ch i), M', L)) := by
  have h40 := hB.2.1
  have un : ∀ f v o M, fX16_search_h13 fu k (sI m) 0 (sI fresh) (f + 1) (v, o, M, L) = fX16_search_i13 fu k (sI m) 0 (sI fresh) (fX16_search_h13 fu k (sI m) 0 (sI fresh) f) v o M L := fun _ _ _ _ => rfl
  intro r
  induction r with
  | zero =>
    intro i f ch M hi hf hop hg hR h20
    have hf1 : 1 ≤ f := hf
    obtain ⟨f', rfl⟩ : ∃ x, f = x + 1 := ⟨f - 1, by omega⟩
    have : i = m := by omega
    subst this
    refine Or.inl ⟨ch, M, rfl, hR, ?_⟩
    rw [un]
    unfold fX16_search_i13 fX16_search_b278 fX16_search_b289
    rw [if_neg (by rw [sI_ltl (by omega) (by decide)]; omega), if_pos (by rw [sI_le (by omega) (by omega)]; omega), if_pos rfl]
    rfl
  | succ r ih =>
    intro i f ch M hi hf hop hg hR h20
    have ht : tgt ch i := fun j hj => (hg j hj).1
    have hopi := tgt_le ht
    generalize hC : 1 + csr r (opn ch i + 1) = D
    have hD : 1 ≤ D := by omega
    have hcs : csr (r + 1) (opn ch i) = (opn ch i + 2) * D := by rw [← hC]; rfl
    -- the tries at this group
    have inner : ∀ (nq c f : Nat) (M : mwM), c + nq = (if opn ch i < fresh then opn ch i + 1 else fresh) → (nq + 1) * D ≤ f + 1 → SR M0 M k F0 m gl (fun j => zl (gl j)) ch i i → M (k + 20) i + 1 = sI c →
        (∃ ch' M', tr (fun f => if fil ch (fun j => zl (gl j)) i f + zl (gl i) ≤ cap then fnd (fun j => zl (gl j)) cap fresh r (i + 1) (upd1 ch i f) else none) nq c = some ch' ∧ SR M0 M' k F0 m gl (fun j => zl (gl j)) ch' m m ∧ fX16_search_b97 fu k (sI m) 0 (sI fresh) (fX16_search_h13 fu k (sI m) 0 (sI fresh) f) (sI i) (sI (opn ch i)) (sI (gl i)) M L = some (1, M', L)) ∨ (tr (fun f => if fil ch (fun j => zl (gl j)) i f + zl (gl i) ≤ cap then fnd (fun j => zl (gl j)) cap fresh r (i + 1) (upd1 ch i f) else none) nq c = none ∧ ∃ f' M', f + 1 ≤ f' + (nq + 1) * D ∧ SR M0 M' k F0 m gl (fun j => zl (gl j)) ch i i ∧ fX16_search_b97 fu k (sI m) 0 (sI fresh) (fX16_search_h13 fu k (sI m) 0 (sI fresh) f) (sI i) (sI (opn ch i)) (sI (gl i)) M L = fX16_search_h13 fu k (sI m) 0 (sI fresh) f' (sI i + (-1), sI (opn ch i), M', L)) := by
      intro nq
      induction nq with
      | zero =>
        intro c f M hc hf hR h20
        obtain ⟨sa, _, _⟩ := s97 (r := fX16_search_h13 fu k (sI m) 0 (sI fresh) f) (L := L) hfu hB hR (by omega) hg hz h20 (by split at hc <;> omega) hop hfr
        obtain ⟨M', a1, a2⟩ := sa (by omega)
        exact Or.inr ⟨rfl, f, M', by omega, a1, a2⟩
      | succ nq ihn =>
        intro c f M hc hf hR h20
        have eD : (nq + 1 + 1) * D = (nq + 1) * D + D := Nat.succ_mul _ _
        have hco : c ≤ opn ch i := by split at hc <;> omega
        obtain ⟨_, sb, sc⟩ := s97 (r := fX16_search_h13 fu k (sI m) 0 (sI fresh) f) (L := L) hfu hB hR (by omega) hg hz h20 (by omega) hop hfr
        by_cases fits : fil ch (fun j => zl (gl j)) i c + zl (gl i) ≤ cap
        · obtain ⟨M', a1, a2, a3, a4⟩ := sc (by omega) fits
          have hop' : opn (upd1 ch i c) (i + 1) ≤ fresh := by rw [opn_u1]; split at hc <;> split <;> omega
          have hcl : csr r (opn (upd1 ch i c) (i + 1)) + 1 ≤ D := by
            rw [opn_u1]
            have m1 := csr_mono r (opn ch i)
            by_cases q : opn ch i < c + 1
            · rw [if_pos q, show c + 1 = opn ch i + 1 from by omega]; omega
            · rw [if_neg q]; omega
          have h0 : 0 < (nq + 1) * D := Nat.mul_pos (by omega) (by omega)
          rcases ih (i + 1) f (upd1 ch i c) M' (by omega) (by omega) hop' a2 a1 (fun _ => a3) with ⟨ch', M2, k1, k2, k3⟩ | ⟨k1, f', M2, k2, k3, k4⟩
          · refine Or.inl ⟨ch', M2, ?_, k2, by rw [a4]; exact k3⟩
            unfold tr
            rw [if_pos fits, k1]
          · obtain ⟨f2, rfl⟩ : ∃ x, f' = x + 1 := ⟨f' - 1, by omega⟩
            rw [sI_pm, un] at k4
            obtain ⟨M3, e1, e2, e3⟩ := s13e (fu := fu) (fresh := fresh) (L := L) (r := fX16_search_h13 fu k (sI m) 0 (sI fresh) f2) hB k3 (by omega) hg hco
            rw [e3] at k4
            have et : tr (fun f => if fil ch (fun j => zl (gl j)) i f + zl (gl i) ≤ cap then fnd (fun j => zl (gl j)) cap fresh r (i + 1) (upd1 ch i f) else none) (nq + 1) c = tr (fun f => if fil ch (fun j => zl (gl j)) i f + zl (gl i) ≤ cap then fnd (fun j => zl (gl j)) cap fresh r (i + 1) (upd1 ch i f) else none) nq (c + 1) := by
              conv => lhs; unfold tr
              rw [if_pos fits, k1]
            rw [et, a4, k4]
            rcases ihn (c + 1) f2 M3 (by omega) (by omega) e1 (by rw [e2, sI_1]) with ⟨ch', M4, w1, w2, w3⟩ | ⟨w1, f4, M4, w2, w3, w4⟩
            · exact Or.inl ⟨ch', M4, w1, w2, w3⟩
            · exact Or.inr ⟨w1, f4, M4, by omega, w3, w4⟩
        · obtain ⟨M', a1, a2, a3⟩ := sb (by omega) fits
          have h0 : 0 < (nq + 1) * D := Nat.mul_pos (by omega) (by omega)
          obtain ⟨f2, rfl⟩ : ∃ x, f = x + 1 := ⟨f - 1, by omega⟩
          rw [un, s13d hB a1 (by omega)] at a3
          have et : tr (fun f => if fil ch (fun j => zl (gl j)) i f + zl (gl i) ≤ cap then fnd (fun j => zl (gl j)) cap fresh r (i + 1) (upd1 ch i f) else none) (nq + 1) c = tr (fun f => if fil ch (fun j => zl (gl j)) i f + zl (gl i) ≤ cap then fnd (fun j => zl (gl j)) cap fresh r (i + 1) (upd1 ch i f) else none) nq (c + 1) := by
            conv => lhs; unfold tr
            rw [if_neg fits]
          rw [et, a3]
          rcases ihn (c + 1) f2 M' (by omega) (by omega) a1 (by rw [a2, sI_1]) with ⟨ch', M4, w1, w2, w3⟩ | ⟨w1, f4, M4, w2, w3, w4⟩
          · exact Or.inl ⟨ch', M4, w1, w2, w3⟩
          · exact Or.inr ⟨w1, f4, M4, by omega, w3, w4⟩
    have hmul : ((if opn ch i < fresh then opn ch i + 1 else fresh) + 1) * D ≤ (opn ch i + 2) * D := Nat.mul_le_mul_right _ (by split <;> omega)
    have h1 : 1 ≤ (opn ch i + 2) * D := Nat.mul_pos (by omega) (by omega)
    rw [hcs] at hf
    obtain ⟨f2, rfl⟩ : ∃ x, f = x + 1 := ⟨f - 1, by omega⟩
    rw [un, s13d hB hR (by omega)]
    have e0 : M (k + 20) i + 1 = sI 0 := by rw [h20 (by omega)]; rfl
    rcases inner (if opn ch i < fresh then opn ch i + 1 else fresh) 0 f2 M (by omega) (by omega) hR e0 with ⟨ch', M4, w1, w2, w3⟩ | ⟨w1, f4, M4, w2, w3, w4⟩
    · exact Or.inl ⟨ch', M4, w1, w2, w3⟩
    · exact Or.inr ⟨w1, f4, M4, by rw [hcs]; omega, w3, w4⟩
theorem csr_7 : ∀ m, m ≤ 7 → csr m 0 ≤ 86552 := by decide
theorem m_search {fu k n cap F0 m fresh : Nat} {M0 M : mwM} {L : mwL} {pl zl fr oc gl : Nat → Nat} (hfu : 90000 ≤ fu) (hB : SB M0 k n cap F0 m pl zl fr oc gl) (hm : 0 < m) (hm7 : m ≤ 7) (hz : ∀ j, j < m → zl (gl j) ≤ cap) (hfr : fresh ≤ m) (hR : SR M0 M k F0 m gl (fun j => zl (gl j)) (fun _ => 0) 0 0) :
    (∃ ch' M', fnd (fun j => zl (gl j)) cap fresh m 0 (fun _ => 0) = some ch' ∧ SR M0 M' k F0 m gl (fun j => zl (gl j)) ch' m m ∧ DX16_search fu k (sI m) 0 (sI fresh) M L = some (1, M', L)) ∨ (fnd (fun j => zl (gl j)) cap fresh m 0 (fun _ => 0) = none ∧ ∃ M', SR M0 M' k F0 m gl (fun j => zl (gl j)) (fun _ => 0) 0 0 ∧ DX16_search fu k (sI m) 0 (sI fresh) M L = some (0, M', L)) := by
  have e0 : (0 : Int32).toNatClampNeg = 0 := rfl
  unfold DX16_search
  simp only [mlet]
  rw [e0]
  have c7 := csr_7 m hm7
  have hR1 : SR M0 (mset M (k + 20) 0 (-1)) k F0 m gl (fun j => zl (gl j)) (fun _ => 0) 0 0 := SR_x hR (fun a y q => by rw [mset_n (by omega)])
  have o0 : opn (fun _ => 0) 0 = 0 := rfl
  rcases m_dfs (fu := fu) (L := L) (by omega) hB hz hfr m 0 fu (fun _ => 0) _ (by omega) (by rw [o0]; omega) (by rw [o0]; omega) (fun j hj => by omega) hR1 (fun _ => by rw [mset_s]) with ⟨ch', M', k1, k2, k3⟩ | ⟨k1, f', M', k2, k3, k4⟩
  · exact Or.inl ⟨ch', M', k1, k2, k3⟩
  · refine Or.inr ⟨k1, M', k3, ?_⟩
    rw [o0] at k2 k4
    have k4' : fX16_search_h13 fu k (sI m) 0 (sI fresh) fu (0, 0, mset M (k + 20) 0 (-1), L) = fX16_search_h13 fu k (sI m) 0 (sI fresh) f' (-1, 0, M', L) := k4
    rw [k4']
    obtain ⟨f2, rfl⟩ : ∃ x, f' = x + 1 := ⟨f' - 1, by omega⟩
    show fX16_search_i13 fu k (sI m) 0 (sI fresh) (fX16_search_h13 fu k (sI m) 0 (sI fresh) f2) (-1) 0 M' L = _
    unfold fX16_search_i13 fX16_search_b278 fX16_search_b289
    rw [if_pos (by decide), if_neg (sI_m1n (by omega))]
    rfl
/-! the reference: many groups, one behind another -/
theorem ffi_SG {cap i : Nat} {zr ch : Nat → Nat} (hz : ∀ j, j < i → zr j ≤ cap) (h : ∀ j, j < i → ffi zr cap ch j) : SG cap i zr ch := by
  intro j hj
  obtain ⟨h1, h2, h3⟩ := h j hj
  refine ⟨h1, ?_⟩
  by_cases q : ch j < opn ch j
  · exact h3 q
  · rw [fil_0 (by omega)]
    have := hz j hj
    omega
theorem SG_fil {cap i c : Nat} {zr ch : Nat → Nat} (hg : SG cap i zr ch) : fil ch zr i c ≤ cap := by
  have : ∀ x, x ≤ i → fil ch zr x c ≤ cap := by
    intro x
    induction x with
    | zero => intro _; exact Nat.zero_le _
    | succ x ihx =>
      intro hx
      have a := ihx (by omega)
      show fil ch zr x c + (if ch x = c then zr x else 0) ≤ cap
      by_cases w : ch x = c
      · rw [if_pos w]
        have := (hg x (by omega)).2
        rw [w] at this
        exact this
      · rw [if_neg w]; omega
  exact this i (Nat.le_refl _)
theorem m_inTurn {fu k n cap F0 m : Nat} {M0 M : mwM} {L : mwL} {pl zl fr oc gl : Nat → Nat} (hfu : 70 ≤ fu) (hB : SB M0 k n cap F0 m pl zl fr oc gl) (hz : ∀ j, j < m → zl (gl j) ≤ cap) (hR : SR M0 M k F0 m gl (fun j => zl (gl j)) (fun _ => 0) 0 0) : ∃ ch M', DX16_inTurn fu k (sI m) 0 M L = some (1, M', L) ∧ SR M0 M' k F0 m gl (fun j => zl (gl j)) ch m 0 ∧ ∀ j, j < m → ffi (fun j => zl (gl j)) cap ch j := by
  have h40 := hB.2.1
  unfold DX16_inTurn
  have key : ∀ (q i f : Nat) (ch : Nat → Nat) (M : mwM), i + q = m → q < f → SR M0 M k F0 m gl (fun j => zl (gl j)) ch i 0 → (∀ j, j < i → ffi (fun j => zl (gl j)) cap ch j) → ∃ ch' M', fX16_inTurn_h5 fu k (sI m) 0 f (sI (opn ch i), sI i, M, L) = some (1, M', L) ∧ SR M0 M' k F0 m gl (fun j => zl (gl j)) ch' m 0 ∧ ∀ j, j < m → ffi (fun j => zl (gl j)) cap ch' j := by
    intro q
    induction q with
    | zero =>
      intro i f ch M hi hf hR hw
      obtain ⟨f', rfl⟩ : ∃ x, f = x + 1 := ⟨f - 1, by omega⟩
      have : i = m := by omega
      subst this
      refine ⟨ch, M, ?_, hR, hw⟩
      show fX16_inTurn_i5 fu k (sI i) 0 (fX16_inTurn_h5 fu k (sI i) 0 f') (sI (opn ch i)) (sI i) M L = _
      unfold fX16_inTurn_i5
      rw [if_pos (by rw [sI_le (by omega) (by omega)]; omega)]
    | succ q ih =>
      intro i f ch M hi hf hR hw
      obtain ⟨f', rfl⟩ : ∃ x, f = x + 1 := ⟨f - 1, by omega⟩
      have hg := ffi_SG (zr := fun j => zl (gl j)) (fun j hj => hz j (by omega)) hw
      have ht : tgt ch i := fun j hj => (hg j hj).1
      have hopi := tgt_le ht
      obtain ⟨⟨p1, p2, p3, p4, p5⟩, b2, b3, b4, b5, b6, b7⟩ := id hB
      obtain ⟨g1, g2, g3, g4⟩ := b5 i (by omega)
      obtain ⟨z1, z2, z3, z4, z5, z6, z7, z8, z9, z10⟩ := p5 (gl i) g1 g2
      have hszi := hz i (by omega)
      show ∃ ch' M', fX16_inTurn_i5 fu k (sI m) 0 (fX16_inTurn_h5 fu k (sI m) 0 f') (sI (opn ch i)) (sI i) M L = some (1, M', L) ∧ SR M0 M' k F0 m gl (fun j => zl (gl j)) ch' m 0 ∧ ∀ j, j < m → ffi (fun j => zl (gl j)) cap ch' j
      unfold fX16_inTurn_i5
      rw [if_neg (by rw [sI_le (by omega) (by omega)]; omega), mck_s (by omega) (by omega), sI_nn (by omega), hR.1 (k + 18) i (by omega) (by omega) (by omega) (by omega) (by omega), g4]
      simp only [mlet]
      -- put into frame c
      have put : ∀ (c : Nat) (B : mwM) (v : Int32), c ≤ opn ch i → (∀ x, x < c → cap < fil ch (fun j => zl (gl j)) i x + zl (gl i)) → fil ch (fun j => zl (gl j)) i c + zl (gl i) ≤ cap → v = sI (opn (upd1 ch i c) (i + 1)) → (c = opn ch i → B (k + 19) c = sI (F0 + 1 + c)) → (∀ a y, ¬ (a = k + 19 ∧ y = opn ch i) → B a y = M a y) → ∃ ch' M', fX16_inTurn_b104 fu k (sI m) 0 (fX16_inTurn_h5 fu k (sI m) 0 f') v (sI i) (sI (gl i)) (sI (fil ch (fun j => zl (gl j)) i c)) (sI (F0 + 1 + c)) B L = some (1, M', L) ∧ SR M0 M' k F0 m gl (fun j => zl (gl j)) ch' m 0 ∧ ∀ j, j < m → ffi (fun j => zl (gl j)) cap ch' j := by
        intro c B v hc hb hfit hv h19 hx
        unfold fX16_inTurn_b104
        simp only [mlet]
        rw [mck_s (by omega) (by omega), mck_s (by omega) (by omega), sI_nn (show gl i < 2000000000 by omega)]
        rw [sI_1, hv]
        have pt := SR_put (M' := mset (mset B (k + 16) (gl i) (sI (F0 + 1 + c))) (k + 17) (gl i) (sI (fil ch (fun j => zl (gl j)) i c))) hB hR (by omega) hg hc hfit (by rw [mset_n (by omega), mset_s]) (by rw [mset_s]) (fun w => by rw [mset_n (by omega), mset_n (by omega)]; exact h19 w) (fun a y q1 q2 q3 q4 => by rw [mset_n (by omega), mset_n (by omega)]; exact hx a y q2)
        refine ih (i + 1) f' (upd1 ch i c) _ (by omega) (by omega) pt.1 (fun j hj => ?_)
        by_cases e : j = i
        · subst e
          refine ⟨by rw [upd1_s, opn_u]; exact hc, fun x hx => ?_, fun _ => ?_⟩
          · rw [upd1_s] at hx
            rw [fil_u]; exact hb x hx
          · rw [upd1_s, fil_u]; exact hfit
        · exact ffi_c (ch := ch) (fun x hx => (upd1_n (by omega)).symm) (hw j (by omega))
      -- the frames, one behind another
      have inner : ∀ (r c fq : Nat) (v7 : Int32), c + r = opn ch i → r + 1 < fq → (∀ x, x < c → cap < fil ch (fun j => zl (gl j)) i x + zl (gl i)) → ∃ ch' M', fX16_inTurn_h29 fu k (sI m) 0 (fX16_inTurn_h5 fu k (sI m) 0 f') fq (sI (opn ch i), sI i, sI (gl i), -1, v7, sI c, M, L) = some (1, M', L) ∧ SR M0 M' k F0 m gl (fun j => zl (gl j)) ch' m 0 ∧ ∀ j, j < m → ffi (fun j => zl (gl j)) cap ch' j := by
        intro r
        induction r with
        | zero =>
          intro c fq v7 hc hfq hb
          obtain ⟨fq', rfl⟩ : ∃ x, fq = x + 1 := ⟨fq - 1, by omega⟩
          show ∃ ch' M', fX16_inTurn_i29 fu k (sI m) 0 (fX16_inTurn_h5 fu k (sI m) 0 f') (fX16_inTurn_h29 fu k (sI m) 0 (fX16_inTurn_h5 fu k (sI m) 0 f') fq') (sI (opn ch i)) (sI i) (sI (gl i)) (-1) v7 (sI c) M L = some (1, M', L) ∧ SR M0 M' k F0 m gl (fun j => zl (gl j)) ch' m 0 ∧ ∀ j, j < m → ffi (fun j => zl (gl j)) cap ch' j
          unfold fX16_inTurn_i29 fX16_inTurn_b70
          rw [if_pos (by rw [sI_le (by omega) (by omega)]; omega), if_neg (by decide), SR_new hfu hB hR (by omega) hg, mb3_s, if_neg (by rw [sI_eql (by omega) (by decide)]; omega), mck_s (by omega) (by omega), sI_nn (by omega)]
          simp only [mlet]
          have ec : c = opn ch i := by omega
          have hfil : fil ch (fun j => zl (gl j)) i c = 0 := fil_0 (by omega)
          have pp := put c (mset M (k + 19) (opn ch i) (sI (F0 + 1 + opn ch i))) (sI (opn ch i) + 1) (by omega) hb (by rw [hfil]; omega) (by rw [opn_u1, if_pos (by omega), sI_1, ec]) (fun _ => by rw [ec, mset_s]) (fun a y q => by rw [mset_n q])
          rw [hfil, ec] at pp
          exact pp
        | succ r ihr =>
          intro c fq v7 hc hfq hb
          obtain ⟨fq', rfl⟩ : ∃ x, fq = x + 1 := ⟨fq - 1, by omega⟩
          show ∃ ch' M', fX16_inTurn_i29 fu k (sI m) 0 (fX16_inTurn_h5 fu k (sI m) 0 f') (fX16_inTurn_h29 fu k (sI m) 0 (fX16_inTurn_h5 fu k (sI m) 0 f') fq') (sI (opn ch i)) (sI i) (sI (gl i)) (-1) v7 (sI c) M L = some (1, M', L) ∧ SR M0 M' k F0 m gl (fun j => zl (gl j)) ch' m 0 ∧ ∀ j, j < m → ffi (fun j => zl (gl j)) cap ch' j
          unfold fX16_inTurn_i29
          have hfl := SG_fil (c := c) hg
          rw [if_neg (by rw [sI_le (by omega) (by omega)]; omega), if_neg (by decide), mck_s (show c < 65 by omega) (by omega), sI_nn (show c < 2000000000 by omega), hR.2.2.2.2.2.1 c (by omega)]
          simp only [mlet]
          rw [mck_s (show gl i < 129 by omega) (by omega), sI_nn (show gl i < 2000000000 by omega), hR.1 (k + 22) (gl i) (by omega) (by omega) (by omega) (by omega) (by omega), z4, m_room (by omega) (SR_pv hB hR (by omega) hg) (by omega) z5 z6 (by omega) (SR_cov hB hR (by omega) hg), mb3_s, sI_1]
          by_cases fits : fil ch (fun j => zl (gl j)) i c + zl (gl i) ≤ cap
          · rw [if_pos fits]
            obtain ⟨fq2, rfl⟩ : ∃ x, fq' = x + 1 := ⟨fq' - 1, by omega⟩
            show ∃ ch' M', fX16_inTurn_i29 fu k (sI m) 0 (fX16_inTurn_h5 fu k (sI m) 0 f') (fX16_inTurn_h29 fu k (sI m) 0 (fX16_inTurn_h5 fu k (sI m) 0 f') fq2) (sI (opn ch i)) (sI i) (sI (gl i)) (sI (fil ch (fun j => zl (gl j)) i c)) (sI (F0 + 1 + c)) (sI (c + 1)) M L = some (1, M', L) ∧ SR M0 M' k F0 m gl (fun j => zl (gl j)) ch' m 0 ∧ ∀ j, j < m → ffi (fun j => zl (gl j)) cap ch' j
            unfold fX16_inTurn_i29 fX16_inTurn_b70
            have h0 : (0 : Int32) ≤ sI (fil ch (fun j => zl (gl j)) i c) := by rw [sI_lle (by decide) (by omega)]; omega
            rw [if_pos h0, if_pos h0]
            have pp := put c M (sI (opn ch i)) (by omega) hb fits (by rw [opn_u1, if_neg (by omega)]) (fun w => by omega) (fun _ _ _ => rfl)
            split <;> exact pp
          · rw [if_neg fits]
            refine ihr (c + 1) fq' _ (by omega) (by omega) (fun x hx => ?_)
            by_cases e : x = c
            · subst e; omega
            · exact hb x (by omega)
      exact inner (opn ch i) 0 fu 0 (by omega) (by omega) (fun x hx => by omega)
  exact key m 0 fu (fun _ => 0) M (by omega) (by omega) hR (fun j hj => by omega)
/-! the reference: the groups of one period, in their order -/
theorem PvM_f {M M' : mwM} {k n cap : Nat} {pl zl fr oc : Nat → Nat} (h : PvM M k n cap pl zl fr oc) (hf : ∀ a y, (a = k ∧ (y = 1 ∨ y = 2)) ∨ a = k + 5 ∨ a = k + 2 ∨ a = k + 22 ∨ a = k + 16 ∨ a = k + 17 → M' a y = M a y) : PvM M' k n cap pl zl fr oc := by
  obtain ⟨h1, h2, h3, h4, h5⟩ := h
  refine ⟨by rw [hf _ _ (by omega)]; exact h1, by rw [hf _ _ (by omega)]; exact h2, h3, h4, fun l l1 l2 => ?_⟩
  obtain ⟨a1, a2, a3, a4, a5, a6, a7, a8, a9, a10⟩ := h5 l l1 l2
  exact ⟨by rw [hf _ _ (by omega)]; exact a1, by rw [hf _ _ (by omega)]; exact a2, a3, by rw [hf _ _ (by omega)]; exact a4, a5, a6, by rw [hf _ _ (by omega)]; exact a7, a8, by rw [hf _ _ (by omega)]; exact a9, a10⟩
abbrev pr6 (pl fr : Nat → Nat) (p l : Nat) : Prop := 1 ≤ l ∧ fr l = 0 ∧ pl l = p
abbrev lt6 (zl gl : Nat → Nat) (m l : Nat) : Prop := m = 0 ∨ befo zl (gl (m - 1)) l
def bv (b : Nat) : Int32 := if b = 0 then -1 else sI b
def bsl (pl fr zl gl : Nat → Nat) (p m g b : Nat) : Prop := (b = 0 → ∀ l, l ≤ g → ¬ (pr6 pl fr p l ∧ lt6 zl gl m l)) ∧ (b ≠ 0 → b ≤ g ∧ pr6 pl fr p b ∧ lt6 zl gl m b ∧ ∀ l, l ≤ g → pr6 pl fr p l → lt6 zl gl m l → l = b ∨ befo zl b l)
theorem m_listed {fu k n cap p : Nat} {M : mwM} {L : mwL} {pl zl fr oc : Nat → Nat} (hfu : 70 ≤ fu) (hP : PvM M k n cap pl zl fr oc) (hp : p ≤ 20000) : ∃ m gl M', DX16_listed fu k (sI p) M L = some (sI m, M', L) ∧ Srt (fun l => decide (pr6 pl fr p l)) zl (n + 1) m gl ∧ (∀ j, j < m → M' (k + 18) j = sI (gl j)) ∧ ∀ a y, a ≠ k + 18 → M' a y = M a y := by
  have hn := hP.2.2.1
  unfold DX16_listed
  -- one round: the next one
  have inner : ∀ (r g q m : Nat) (gl : Nat → Nat) (B : mwM) (b : Nat) (rr : (Int32 × Int32 × mwM × mwL) → Option (Int32 × mwM × mwL)), g + r = n → r < q → m ≤ 41 → PvM B k n cap pl zl fr oc → (∀ j, j < m → B (k + 18) j = sI (gl j) ∧ gl j ≤ n ∧ 1 ≤ gl j) → bsl pl fr zl gl p m g b →
      ((∀ l, l ≤ n → ¬ (pr6 pl fr p l ∧ lt6 zl gl m l)) ∧ fX16_listed_h13 fu k (sI p) rr q (sI m, bv b, sI (g + 1), B, L) = rr (sI m, -1, B, L)) ∨ (∃ x, x ≤ n ∧ pr6 pl fr p x ∧ lt6 zl gl m x ∧ (∀ l, l ≤ n → pr6 pl fr p l → lt6 zl gl m l → l = x ∨ befo zl x l) ∧ fX16_listed_h13 fu k (sI p) rr q (sI m, bv b, sI (g + 1), B, L) = rr (sI (m + 1), sI x, mset B (k + 18) m (sI x), L)) := by
    intro r
    induction r with
    | zero =>
      intro g q m gl B b rr hg hq hm hP hgl hb
      obtain ⟨q', rfl⟩ : ∃ x, q = x + 1 := ⟨q - 1, by omega⟩
      have : g = n := by omega
      subst this
      have un : ∀ v, fX16_listed_h13 fu k (sI p) rr (q' + 1) (sI m, v, sI (g + 1), B, L) = (if v ≤ 0 then rr (sI m, v, B, L) else mck (sI m) 129 (mlet (mset B (k + 18) ((sI m).toNatClampNeg) v) (fun M5 => mlet (sI m + 1) (fun x6 => rr (x6, v, M5, L))))) := by
        intro v
        show fX16_listed_i13 fu k (sI p) rr (fX16_listed_h13 fu k (sI p) rr q') (sI m) v (sI (g + 1)) B L = _
        unfold fX16_listed_i13
        rw [hP.2.1, if_pos (by rw [sI_lt (by omega) (by omega)]; omega)]
      by_cases bz : b = 0
      · refine Or.inl ⟨hb.1 bz, ?_⟩
        unfold bv
        rw [un, if_pos bz, if_pos (by decide)]
      · obtain ⟨b1, b2, b3, b4⟩ := hb.2 bz
        refine Or.inr ⟨b, b1, b2, b3, b4, ?_⟩
        unfold bv
        rw [un, if_neg bz, if_neg (by rw [sI_lel (by omega) (by decide)]; omega), mck_s (by omega) (by omega), sI_nn (by omega)]
        simp only [mlet]
        rw [sI_1]
    | succ r ih =>
      intro g q m gl B b rr hg hq hm hP hgl hb
      obtain ⟨q', rfl⟩ : ∃ x, q = x + 1 := ⟨q - 1, by omega⟩
      obtain ⟨h1, h2, h3, h4, h5⟩ := id hP
      obtain ⟨a1, a2, a3, a4, a5, a6, a7, a8, a9, a10⟩ := h5 (g + 1) (by omega) (by omega)
      -- what this one comes to
      have step : ∀ v : Int32, v = bv b → fX16_listed_h13 fu k (sI p) rr (q' + 1) (sI m, v, sI (g + 1), B, L) = fX16_listed_h13 fu k (sI p) rr q' (sI m, (if (pr6 pl fr p (g + 1) ∧ lt6 zl gl m (g + 1)) ∧ (b = 0 ∨ zl b < zl (g + 1)) then sI (g + 1) else v), sI (g + 1 + 1), B, L) := by
        intro v hv
        show fX16_listed_i13 fu k (sI p) rr (fX16_listed_h13 fu k (sI p) rr q') (sI m) v (sI (g + 1)) B L = _
        have keep : ∀ w, fX16_listed_b165 fu k (sI p) rr (fX16_listed_h13 fu k (sI p) rr q') (sI m) (sI (g + 1)) w B L = fX16_listed_h13 fu k (sI p) rr q' (sI m, w, sI (g + 1 + 1), B, L) := by
          intro w
          unfold fX16_listed_b165
          simp only [mlet]
          rw [sI_1]
        have e164 : fX16_listed_b164 fu k (sI p) rr (fX16_listed_h13 fu k (sI p) rr q') (sI m) v (sI (g + 1)) B L = fX16_listed_h13 fu k (sI p) rr q' (sI m, v, sI (g + 1 + 1), B, L) := keep v
        have e159 : fX16_listed_b159 fu k (sI p) rr (fX16_listed_h13 fu k (sI p) rr q') (sI m) (sI (g + 1)) B L = fX16_listed_h13 fu k (sI p) rr q' (sI m, sI (g + 1), sI (g + 1 + 1), B, L) := keep _
        -- it isn't one of them
        have e127z : ∀ s1, fX16_listed_b127 fu k (sI p) rr (fX16_listed_h13 fu k (sI p) rr q') (sI m) v (sI (g + 1)) 0 s1 B L = fX16_listed_h13 fu k (sI p) rr q' (sI m, v, sI (g + 1 + 1), B, L) := by
          intro s1
          unfold fX16_listed_b127
          rw [if_pos (show (0 : Int32) = 0 from rfl), e164]
        have e127n : ∀ s0, fX16_listed_b127 fu k (sI p) rr (fX16_listed_h13 fu k (sI p) rr q') (sI m) v (sI (g + 1)) s0 0 B L = fX16_listed_h13 fu k (sI p) rr q' (sI m, v, sI (g + 1 + 1), B, L) := by
          intro s0
          unfold fX16_listed_b127
          rw [if_pos (show (0 : Int32) = 0 from rfl), e164]
          split <;> rfl
        have e127t : fX16_listed_b127 fu k (sI p) rr (fX16_listed_h13 fu k (sI p) rr q') (sI m) v (sI (g + 1)) 1 1 B L = fX16_listed_h13 fu k (sI p) rr q' (sI m, (if (b = 0 ∨ zl b < zl (g + 1)) then sI (g + 1) else v), sI (g + 1 + 1), B, L) := by
          unfold fX16_listed_b127
          rw [if_neg (show ¬ (1 : Int32) = 0 by decide), if_neg (show ¬ (1 : Int32) = 0 by decide), e164, e159]
          by_cases bz : b = 0
          · rw [hv]
            unfold bv
            rw [if_pos bz, if_pos (by decide), if_pos (Or.inl bz)]
          · obtain ⟨b1, b2, b3, b4⟩ := hb.2 bz
            unfold bv at hv
            rw [if_neg bz] at hv
            rw [hv]
            obtain ⟨d1, d2, d3, d4, d5, d6, d7, d8, d9, d10⟩ := h5 b b2.1 (by omega)
            rw [if_neg (by rw [sI_ltl (by omega) (by decide)]; omega), mck_s (show g + 1 < 129 by omega) (by omega), mck_s (show b < 129 by omega) (by omega), sI_nn (show g + 1 < 2000000000 by omega), sI_nn (show b < 2000000000 by omega), a4, d4]
            by_cases w : zl b < zl (g + 1)
            · rw [if_neg (by rw [sI_le (by omega) (by omega)]; omega), if_pos (Or.inr w)]
            · rw [if_pos (by rw [sI_le (by omega) (by omega)]; omega), if_neg (fun z => z.elim bz w)]
        have e57 : ∀ is : Bool, fX16_listed_b57 fu k (sI p) rr (fX16_listed_h13 fu k (sI p) rr q') (sI m) v (sI (g + 1)) (bI is) B L = fX16_listed_h13 fu k (sI p) rr q' (sI m, (if (is = true ∧ lt6 zl gl m (g + 1)) ∧ (b = 0 ∨ zl b < zl (g + 1)) then sI (g + 1) else v), sI (g + 1 + 1), B, L) := by
          intro is
          have fin : lt6 zl gl m (g + 1) → fX16_listed_b127 fu k (sI p) rr (fX16_listed_h13 fu k (sI p) rr q') (sI m) v (sI (g + 1)) (bI is) 1 B L = fX16_listed_h13 fu k (sI p) rr q' (sI m, (if (is = true ∧ lt6 zl gl m (g + 1)) ∧ (b = 0 ∨ zl b < zl (g + 1)) then sI (g + 1) else v), sI (g + 1 + 1), B, L) := by
            intro hl
            cases is with
            | false => rw [bI_f, e127z, if_neg (fun w => by cases w.1.1)]
            | true =>
              rw [bI_t, e127t]
              by_cases w : b = 0 ∨ zl b < zl (g + 1)
              · rw [if_pos w, if_pos ⟨⟨rfl, hl⟩, w⟩]
              · rw [if_neg w, if_neg (fun z => w z.2)]
          have fno : ¬ lt6 zl gl m (g + 1) → fX16_listed_b127 fu k (sI p) rr (fX16_listed_h13 fu k (sI p) rr q') (sI m) v (sI (g + 1)) (bI is) 0 B L = fX16_listed_h13 fu k (sI p) rr q' (sI m, (if (is = true ∧ lt6 zl gl m (g + 1)) ∧ (b = 0 ∨ zl b < zl (g + 1)) then sI (g + 1) else v), sI (g + 1 + 1), B, L) := by
            intro hl
            rw [e127n, if_neg (fun w => hl w.1.2)]
          unfold fX16_listed_b57 fX16_listed_b122 fX16_listed_b126
          by_cases m0 : m = 0
          · rw [if_pos (by rw [m0]; rfl)]
            exact fin (Or.inl m0)
          · obtain ⟨m', rfl⟩ : ∃ x, m = x + 1 := ⟨m - 1, by omega⟩
            obtain ⟨l1, l2, l3⟩ := hgl m' (by omega)
            obtain ⟨d1, d2, d3, d4, d5, d6, d7, d8, d9, d10⟩ := h5 (gl m') l3 l2
            rw [if_neg (by rw [sI_eql (by omega) (by decide)]; omega), sI_m1]
            simp only [mck_s (show g + 1 < 129 by omega) (show g + 1 < 2000000000 by omega), mck_s (show m' < 129 by omega) (show m' < 2000000000 by omega), sI_nn (show g + 1 < 2000000000 by omega), sI_nn (show m' < 2000000000 by omega)]
            rw [l1]
            simp only [mck_s (show gl m' < 129 by omega) (show gl m' < 2000000000 by omega), sI_nn (show gl m' < 2000000000 by omega)]
            rw [a4, d4]
            have el : lt6 zl gl (m' + 1) (g + 1) ↔ befo zl (gl m') (g + 1) := by
              constructor
              · intro w
                rcases w with w | w
                · omega
                · exact w
              · exact fun w => Or.inr w
            by_cases c1 : zl (g + 1) < zl (gl m')
            · rw [if_pos (by rw [sI_lt (by omega) (by omega)]; exact c1)]
              exact fin (el.mpr (Or.inl c1))
            · rw [if_neg (by rw [sI_lt (by omega) (by omega)]; exact c1)]
              by_cases c2 : zl (g + 1) = zl (gl m')
              · rw [if_pos (by rw [c2])]
                by_cases c3 : g + 1 ≤ gl m'
                · rw [if_pos (by rw [sI_le (by omega) (by omega)]; exact c3)]
                  exact fno (fun w => by have := el.mp w; omega)
                · rw [if_neg (by rw [sI_le (by omega) (by omega)]; exact c3)]
                  exact fin (el.mpr (Or.inr ⟨by omega, by omega⟩))
              · rw [if_neg (by rw [sI_eq (by omega) (by omega)]; exact c2)]
                exact fno (fun w => by have := el.mp w; omega)
        unfold fX16_listed_i13 fX16_listed_b56
        rw [h2, if_neg (by rw [sI_lt (by omega) (by omega)]; omega), m_isGroup a1 (by omega), mb3_s, if_neg (show ¬ (1 : Int32) = 0 by decide), mck_s (by omega) (by omega), mck_s (by omega) (by omega), sI_nn (by omega), a7, a2]
        by_cases c1 : fr (g + 1) = 0
        · rw [if_pos (by rw [c1]; rfl)]
          by_cases c2 : pl (g + 1) = p
          · rw [if_pos (by rw [c2])]
            have := e57 true
            rw [bI_t] at this
            rw [this]
            by_cases w : lt6 zl gl m (g + 1) ∧ (b = 0 ∨ zl b < zl (g + 1))
            · rw [if_pos ⟨⟨rfl, w.1⟩, w.2⟩, if_pos ⟨⟨⟨by omega, c1, c2⟩, w.1⟩, w.2⟩]
            · rw [if_neg (fun z => w ⟨z.1.2, z.2⟩), if_neg (fun z => w ⟨z.1.2, z.2⟩)]
          · rw [if_neg (by rw [sI_eq (by omega) (by omega)]; exact c2)]
            have := e57 false
            rw [bI_f] at this
            rw [this, if_neg (fun w => by cases w.1.1), if_neg (fun w => c2 w.1.1.2.2)]
        · rw [if_neg (by rw [sI_eql (by omega) (by decide)]; exact c1)]
          have := e57 false
          rw [bI_f] at this
          rw [this, if_neg (fun w => by cases w.1.1), if_neg (fun w => c1 w.1.1.2.1)]
      rw [step _ rfl]
      by_cases cc : (pr6 pl fr p (g + 1) ∧ lt6 zl gl m (g + 1)) ∧ (b = 0 ∨ zl b < zl (g + 1))
      · rw [if_pos cc]
        have eb : bv (g + 1) = sI (g + 1) := by unfold bv; rw [if_neg (by omega)]
        rw [← eb]
        refine ih (g + 1) q' m gl B (g + 1) rr (by omega) (by omega) hm hP hgl ?_
        refine ⟨fun z => by omega, fun _ => ⟨by omega, cc.1.1, cc.1.2, fun l hl w1 w2 => ?_⟩⟩
        by_cases e : l = g + 1
        · exact Or.inl e
        · by_cases bz : b = 0
          · exact absurd ⟨w1, w2⟩ (hb.1 bz l (by omega))
          · obtain ⟨b1, b2, b3, b4⟩ := hb.2 bz
            have lt : zl b < zl (g + 1) := by
              rcases cc.2 with z | z
              · exact absurd z bz
              · exact z
            rcases b4 l (by omega) w1 w2 with w | w
            · rw [w]; exact Or.inr (Or.inl lt)
            · exact Or.inr (Or.inl (by rcases w with w | w <;> omega))
      · rw [if_neg cc]
        refine ih (g + 1) q' m gl B b rr (by omega) (by omega) hm hP hgl ?_
        refine ⟨fun bz l hl w => ?_, fun bz => ?_⟩
        · by_cases e : l = g + 1
          · subst e; exact cc ⟨w, Or.inl bz⟩
          · exact hb.1 bz l (by omega) w
        · obtain ⟨b1, b2, b3, b4⟩ := hb.2 bz
          refine ⟨by omega, b2, b3, fun l hl w1 w2 => ?_⟩
          by_cases e : l = g + 1
          · subst e
            have nz : ¬ zl b < zl (g + 1) := fun w => cc ⟨⟨w1, w2⟩, Or.inr w⟩
            right
            by_cases q : zl (g + 1) < zl b
            · exact Or.inl q
            · exact Or.inr ⟨by omega, by omega⟩
          · exact b4 l (by omega) w1 w2
  -- round by round
  have outer : ∀ (N m q : Nat) (gl : Nat → Nat) (B : mwM) (v : Int32), cnt (fun l => decide (pr6 pl fr p l ∧ lt6 zl gl m l)) (n + 1) ≤ N → N + 1 < q → m + N ≤ 41 → ¬ v < 0 → (∀ a y, a ≠ k + 18 → B a y = M a y) → (∀ j, j < m → B (k + 18) j = sI (gl j) ∧ gl j ≤ n ∧ 1 ≤ gl j) → (∀ j, j < m → pr6 pl fr p (gl j)) → (∀ i j, i < j → j < m → befo zl (gl i) (gl j)) → (∀ l, l ≤ n → pr6 pl fr p l → (∃ j, j < m ∧ gl j = l) ∨ lt6 zl gl m l) → ∃ m' gl' M', fX16_listed_h4 fu k (sI p) q (sI m, v, B, L) = some (sI m', M', L) ∧ Srt (fun l => decide (pr6 pl fr p l)) zl (n + 1) m' gl' ∧ (∀ j, j < m' → M' (k + 18) j = sI (gl' j)) ∧ ∀ a y, a ≠ k + 18 → M' a y = M a y := by
    intro N
    induction N with
    | zero =>
      intro m q gl B v hc hq hm hv hx hgl hpr hso hcov
      obtain ⟨q', rfl⟩ : ∃ x, q = x + 1 := ⟨q - 1, by omega⟩
      have hPB : PvM B k n cap pl zl fr oc := PvM_f hP (fun a y w => hx a y (by omega))
      have none : ∀ l, l ≤ n → ¬ (pr6 pl fr p l ∧ lt6 zl gl m l) := by
        intro l hl w
        have := cnt_lt (p := fun _ => false) (q := fun l => decide (pr6 pl fr p l ∧ lt6 zl gl m l)) (n := n + 1) (x := l) (by omega) rfl (decide_eq_true w) (fun i _ h => by cases h)
        omega
      have un : fX16_listed_h4 fu k (sI p) (q' + 1) (sI m, v, B, L) = fX16_listed_i4 fu k (sI p) (fX16_listed_h4 fu k (sI p) q') (sI m) v B L := rfl
      rw [un]
      unfold fX16_listed_i4
      rw [if_neg hv]
      rcases inner n 0 fu m gl B 0 (fX16_listed_h4 fu k (sI p) q') (by omega) (by omega) (by omega) hPB hgl ⟨fun _ l hl w => by have := w.1.1; omega, fun z => absurd rfl z⟩ with ⟨i1, i2⟩ | ⟨x, i1, i2, i3, i4, i5⟩
      · have e0 : bv 0 = -1 := rfl
        rw [e0, show sI (0 + 1) = (1 : Int32) from rfl] at i2
        rw [i2]
        obtain ⟨q2, rfl⟩ : ∃ x, q' = x + 1 := ⟨q' - 1, by omega⟩
        have un2 : fX16_listed_h4 fu k (sI p) (q2 + 1) (sI m, -1, B, L) = fX16_listed_i4 fu k (sI p) (fX16_listed_h4 fu k (sI p) q2) (sI m) (-1) B L := rfl
        rw [un2]
        unfold fX16_listed_i4
        rw [if_pos (by decide)]
        refine ⟨m, gl, B, rfl, ⟨fun j hj => ⟨by have := (hgl j hj).2.1; omega, decide_eq_true (hpr j hj)⟩, fun s hs ps => ?_, hso⟩, fun j hj => (hgl j hj).1, hx⟩
        rcases hcov s (by omega) (of_decide_eq_true ps) with w | w
        · exact w
        · exact absurd ⟨of_decide_eq_true ps, w⟩ (none s (by omega))
      · exact absurd ⟨i2, i3⟩ (none x i1)
    | succ N ih =>
      intro m q gl B v hc hq hm hv hx hgl hpr hso hcov
      obtain ⟨q', rfl⟩ : ∃ x, q = x + 1 := ⟨q - 1, by omega⟩
      have hPB : PvM B k n cap pl zl fr oc := PvM_f hP (fun a y w => hx a y (by omega))
      have un : fX16_listed_h4 fu k (sI p) (q' + 1) (sI m, v, B, L) = fX16_listed_i4 fu k (sI p) (fX16_listed_h4 fu k (sI p) q') (sI m) v B L := rfl
      rw [un]
      unfold fX16_listed_i4
      rw [if_neg hv]
      have e0 : bv 0 = -1 := rfl
      rcases inner n 0 fu m gl B 0 (fX16_listed_h4 fu k (sI p) q') (by omega) (by omega) (by omega) hPB hgl ⟨fun _ l hl w => by have := w.1.1; omega, fun z => absurd rfl z⟩ with ⟨i1, i2⟩ | ⟨x, i1, i2, i3, i4, i5⟩
      · rw [e0, show sI (0 + 1) = (1 : Int32) from rfl] at i2
        rw [i2]
        obtain ⟨q2, rfl⟩ : ∃ x, q' = x + 1 := ⟨q' - 1, by omega⟩
        have un2 : fX16_listed_h4 fu k (sI p) (q2 + 1) (sI m, -1, B, L) = fX16_listed_i4 fu k (sI p) (fX16_listed_h4 fu k (sI p) q2) (sI m) (-1) B L := rfl
        rw [un2]
        unfold fX16_listed_i4
        rw [if_pos (by decide)]
        refine ⟨m, gl, B, rfl, ⟨fun j hj => ⟨by have := (hgl j hj).2.1; omega, decide_eq_true (hpr j hj)⟩, fun s hs ps => ?_, hso⟩, fun j hj => (hgl j hj).1, hx⟩
        rcases hcov s (by omega) (of_decide_eq_true ps) with w | w
        · exact w
        · exact absurd ⟨of_decide_eq_true ps, w⟩ (i1 s (by omega))
      · rw [e0, show sI (0 + 1) = (1 : Int32) from rfl] at i5
        rw [i5]
        have last : lt6 zl (fun j => if j < m then gl j else x) (m + 1) = fun l => (m + 1 = 0 ∨ befo zl x l) := by
          funext l
          show (m + 1 = 0 ∨ befo zl (if m + 1 - 1 < m then gl (m + 1 - 1) else x) l) = _
          rw [if_neg (by omega)]
        have tra : ∀ l, befo zl x l → lt6 zl gl m l := by
          intro l w
          rcases i3 with z | z
          · exact Or.inl z
          · right
            rcases w with w | w <;> rcases z with z | z <;> first | exact Or.inl (by omega) | exact Or.inr (by omega)
        refine ih (m + 1) q' (fun j => if j < m then gl j else x) _ (sI x) ?_ (by omega) (by omega) ?_ (fun a y w => by rw [mset_n (by omega)]; exact hx a y w) (fun j hj => ?_) (fun j hj => ?_) (fun i j hij hj => ?_) (fun l hl w => ?_)
        · have := cnt_lt (p := fun l => decide (pr6 pl fr p l ∧ lt6 zl (fun j => if j < m then gl j else x) (m + 1) l)) (q := fun l => decide (pr6 pl fr p l ∧ lt6 zl gl m l)) (n := n + 1) (x := x) (by omega) (decide_eq_false (fun w => by
            have z := w.2
            rw [last] at z
            rcases z with z | z
            · omega
            · rcases z with z | z <;> omega)) (decide_eq_true ⟨i2, i3⟩) (fun i _ h => by
            have h' := of_decide_eq_true h
            have z := h'.2
            rw [last] at z
            rcases z with z | z
            · omega
            · exact decide_eq_true ⟨h'.1, tra i z⟩)
          omega
        · rw [sI_ltl (by omega) (by decide)]; omega
        · by_cases c : j < m
          · rw [if_pos c, mset_n (by omega)]; exact hgl j c
          · have : j = m := by omega
            subst this
            rw [if_neg c, mset_s]
            exact ⟨rfl, i1, i2.1⟩
        · by_cases c : j < m
          · rw [if_pos c]; exact hpr j c
          · rw [if_neg c]; exact i2
        · skip
          by_cases c : j < m
          · rw [if_pos (by omega), if_pos c]; exact hso i j hij c
          · have : j = m := by omega
            subst this
            rw [if_pos hij, if_neg c]
            rcases i3 with z | z
            · omega
            · by_cases e : i = j - 1
              · rw [e]; exact z
              · have w := hso i (j - 1) (by omega) (by omega)
                rcases w with w | w <;> rcases z with z | z <;> first | exact Or.inl (by omega) | exact Or.inr (by omega)
        · rcases hcov l hl w with ⟨j, j1, j2⟩ | z
          · exact Or.inl ⟨j, by omega, by rw [if_pos j1]; exact j2⟩
          · rcases i4 l hl w z with e | e
            · exact Or.inl ⟨m, by omega, by rw [if_neg (by omega)]; exact e.symm⟩
            · right
              rw [last]
              exact Or.inr e
  have hcn := cnt_le (fun l => decide (pr6 pl fr p l ∧ lt6 zl (fun _ => 0) 0 l)) (n + 1)
  exact outer (n + 1) 0 fu (fun _ => 0) M 0 hcn (by omega) (by omega) (by decide) (fun _ _ _ => rfl) (fun j hj => by omega) (fun j hj => by omega) (fun i j _ hj => by omega) (fun l _ _ => Or.inr (Or.inl rfl))
/-! the reference: one period -/
theorem cnt_cg {p q : Nat → Bool} {n : Nat} (h : ∀ i, i < n → p i = q i) : cnt p n = cnt q n := by
  induction n with
  | zero => rfl
  | succ n ih =>
    show cnt p n + (if p n then 1 else 0) = cnt q n + (if q n then 1 else 0)
    rw [ih (fun i hi => h i (by omega)), h n (by omega)]
theorem cnt_or {a b c : Nat → Bool} {n : Nat} (h : ∀ i, i < n → a i = (b i || c i) ∧ (b i && c i) = false) : cnt a n = cnt b n + cnt c n := by
  induction n with
  | zero => rfl
  | succ n ih =>
    show cnt a n + (if a n then 1 else 0) = (cnt b n + (if b n then 1 else 0)) + (cnt c n + (if c n then 1 else 0))
    rw [ih (fun i hi => h i (by omega))]
    obtain ⟨h1, h2⟩ := h n (by omega)
    rw [h1]
    cases hb : b n <;> cases hc : c n
    · simp
    · simp; omega
    · simp; omega
    · rw [hb, hc] at h2; cases h2
theorem Srt_cnt {P : Nat → Bool} {zs : Nat → Nat} : ∀ (S m : Nat) (g : Nat → Nat), Srt P zs S m g → cnt P S = m := by
  intro S
  induction S with
  | zero =>
    intro m g h
    apply Nat.le_antisymm (Nat.zero_le _)
    apply Nat.le_of_not_lt
    intro q
    have q' : 0 < m := q
    have := (h.1 0 q').1
    omega
  | succ S ih =>
    intro m g h
    by_cases e : ∃ j, j < m ∧ g j = S
    · obtain ⟨j, j1, j2⟩ := e
      have inj := Srt_inj h
      have h2 : Srt P zs S (m - 1) (fun x => if x < j then g x else g (x + 1)) := by
        have ne : ∀ x, x < m → x ≠ j → g x < S := by
          intro x hx hn
          have a := (h.1 x hx).1
          have b : g x ≠ S := fun w => hn (inj x j hx j1 (by rw [w, j2]))
          omega
        refine ⟨fun x hx => ?_, fun s hs ps => ?_, fun x y hxy hy => ?_⟩
        · dsimp only
          by_cases c : x < j
          · rw [if_pos c]; exact ⟨ne x (by omega) (by omega), (h.1 x (by omega)).2⟩
          · rw [if_neg c]; exact ⟨ne (x + 1) (by omega) (by omega), (h.1 (x + 1) (by omega)).2⟩
        · obtain ⟨k, k1, k2⟩ := h.2.1 s (by omega) ps
          have : k ≠ j := fun w => by rw [w, j2] at k2; omega
          by_cases c : k < j
          · exact ⟨k, by omega, by dsimp only; rw [if_pos c, k2]⟩
          · refine ⟨k - 1, by omega, ?_⟩
            dsimp only
            rw [if_neg (by omega), show k - 1 + 1 = k from by omega, k2]
        · dsimp only
          by_cases c : y < j
          · rw [if_pos (by omega), if_pos c]; exact h.2.2 x y hxy (by omega)
          · rw [if_neg c]
            by_cases d : x < j
            · rw [if_pos d]; exact h.2.2 x (y + 1) (by omega) (by omega)
            · rw [if_neg d]; exact h.2.2 (x + 1) (y + 1) (by omega) (by omega)
      have e2 := ih _ _ h2
      have ps := (h.1 j j1).2
      rw [j2] at ps
      show cnt P S + (if P S then 1 else 0) = m
      rw [e2, ps, if_pos rfl]
      omega
    · have h2 : Srt P zs S m g := by
        refine ⟨fun x hx => ?_, fun s hs ps => h.2.1 s (by omega) ps, h.2.2⟩
        have a := h.1 x hx
        have b : g x ≠ S := fun w => e ⟨x, hx, w⟩
        exact ⟨by omega, a.2⟩
      have e2 := ih _ _ h2
      show cnt P S + (if P S then 1 else 0) = m
      cases ps : P S with
      | false => rw [e2, if_neg (by decide)]; omega
      | true =>
        obtain ⟨j, j1, j2⟩ := h.2.1 S (by omega) ps
        exact absurd ⟨j, j1, j2⟩ e
def fac : Nat → Nat
  | 0 => 1
  | n + 1 => (n + 1) * fac n
theorem sL_mul {a b : Nat} : sL a * sL b = sL (a * b) := by simp [sL, Int64.ofNat_mul]
theorem fac_7 : ∀ m, m ≤ 7 → fac m ≤ 5040 := by decide
/-- what the packing of one period leaves -/
def PpM (M M' : mwM) (k F0 m : Nat) (gl zr ch : Nat → Nat) : Prop := (∀ j, j < m → M' (k + 16) (gl j) = sI (F0 + 1 + ch j) ∧ M' (k + 17) (gl j) = sI (fil ch zr j (ch j))) ∧ (∀ y, (∀ j, j < m → y ≠ gl j) → M' (k + 16) y = M (k + 16) y ∧ M' (k + 17) y = M (k + 17) y) ∧ ∀ a y, ¬ (k + 16 ≤ a ∧ a ≤ k + 21) → ¬ (a = k ∧ y = 14) → M' a y = M a y
theorem m_packPeriod {fu k n cap p F0 : Nat} {M : mwM} {L : mwL} {pl zl fr oc : Nat → Nat} (hfu : 90000 ≤ fu) (hP : PvM M k n cap pl zl fr oc) (hp : p ≤ 20000) (hz : ∀ l, 1 ≤ l → l ≤ n → zl l ≤ cap) (hfr : ∀ l, 1 ≤ l → l ≤ n → fr l ≤ F0) (hpl : ∀ l, 1 ≤ l → l ≤ n → pl l = p → fr l = 0) (hex : ∃ l, 1 ≤ l ∧ l ≤ n ∧ pl l = p) (hus : ∀ f, 1 ≤ f → f ≤ F0 → ∃ l, 1 ≤ l ∧ l ≤ n ∧ fr l = f) (hU : F0 + cnt (fun l => decide (pr6 pl fr p l)) (n + 1) ≤ 40) : ∃ m gl ch M', DX16_packPeriod fu k (sI p) 5040 M L = some (1, M', L) ∧ 0 < m ∧ Srt (fun l => decide (pr6 pl fr p l)) zl (n + 1) m gl ∧ PkW (fun j => zl (gl j)) cap m ch ∧ PpM M M' k F0 m gl (fun j => zl (gl j)) ch := by
  obtain ⟨m, gl, M1, e1, sr, r18, f18⟩ := m_listed (fu := fu) (L := L) (by omega) hP hp
  have hcn := Srt_cnt _ _ _ sr
  rw [hcn] at hU
  have hn := hP.2.2.1
  have hP1 : PvM M1 k n cap pl zl fr oc := PvM_f hP (fun a y w => f18 a y (by omega))
  have hgl : ∀ j, j < m → 1 ≤ gl j ∧ gl j ≤ n ∧ fr (gl j) = 0 ∧ pl (gl j) = p := fun j hj => by
    obtain ⟨q1, q2⟩ := sr.1 j hj
    have q3 := of_decide_eq_true q2
    exact ⟨q3.1, by omega, q3.2.1, q3.2.2⟩
  have hm0 : 0 < m := by
    obtain ⟨l, l1, l2, l3⟩ := hex
    obtain ⟨j, j1, _⟩ := sr.2.1 l (by omega) (decide_eq_true ⟨l1, hpl l l1 l2 l3, l3⟩)
    omega
  have hm40 : m ≤ 40 := by omega
  have hmn : m ≤ n := by
    -- one less than the row, for 0 isn't in it
    have h0 : Srt (fun l => decide (pr6 pl fr p (l + 1))) (fun l => zl (l + 1)) n m (fun j => gl j - 1) := by
      refine ⟨fun j hj => ?_, fun s hs ps => ?_, fun i j hij hj => ?_⟩
      · obtain ⟨q1, q2, q3, q4⟩ := hgl j hj
        show gl j - 1 < n ∧ decide (pr6 pl fr p (gl j - 1 + 1)) = true
        refine ⟨by omega, decide_eq_true ?_⟩
        rw [show gl j - 1 + 1 = gl j from by omega]
        exact ⟨q1, q3, q4⟩
      · obtain ⟨j, j1, j2⟩ := sr.2.1 (s + 1) (by omega) ps
        exact ⟨j, j1, by dsimp only; omega⟩
      · obtain ⟨q1, _⟩ := hgl i (by omega)
        obtain ⟨w1, _⟩ := hgl j hj
        have := sr.2.2 i j hij hj
        show befo (fun l => zl (l + 1)) (gl i - 1) (gl j - 1)
        unfold befo
        dsimp only
        rw [show gl i - 1 + 1 = gl i from by omega, show gl j - 1 + 1 = gl j from by omega]
        rcases this with w | w
        · exact Or.inl w
        · exact Or.inr (by omega)
    exact Srt_le _ _ _ h0
  unfold DX16_packPeriod
  rw [e1, mb3_s]
  -- no frame of this period is there
  have there : ∀ (r f q : Nat), f + r = 65 → r < q → 1 ≤ f → fX16_packPeriod_h13 fu k (sI p) 5040 q (sI m, 0, sI f, M1, L) = fX16_packPeriod_h63 fu k (sI p) 5040 fu (sI m, 0, 1, 2, M1, L) := by
    intro r
    induction r with
    | zero =>
      intro f q hf hq h1
      obtain ⟨q', rfl⟩ : ∃ x, q = x + 1 := ⟨q - 1, by omega⟩
      show fX16_packPeriod_i13 fu k (sI p) 5040 (fX16_packPeriod_h13 fu k (sI p) 5040 q') (sI m) 0 (sI f) M1 L = _
      unfold fX16_packPeriod_i13
      rw [if_pos (by rw [sI_lle (by decide) (by omega)]; omega)]
    | succ r ih =>
      intro f q hf hq h1
      obtain ⟨q', rfl⟩ : ∃ x, q = x + 1 := ⟨q - 1, by omega⟩
      show fX16_packPeriod_i13 fu k (sI p) 5040 (fX16_packPeriod_h13 fu k (sI p) 5040 q') (sI m) 0 (sI f) M1 L = _
      have nx := ih (f + 1) q' (by omega) (by omega) (by omega)
      have e51 : fX16_packPeriod_b51 fu k (sI p) 5040 (fX16_packPeriod_h13 fu k (sI p) 5040 q') (sI m) 0 (sI f) M1 L = fX16_packPeriod_h63 fu k (sI p) 5040 fu (sI m, 0, 1, 2, M1, L) := by
        unfold fX16_packPeriod_b51
        simp only [mlet]
        rw [sI_1]
        exact nx
      unfold fX16_packPeriod_i13
      rw [if_neg (by rw [sI_lle (by decide) (by omega)]; omega), m_isUsed (by omega) hP1 (by omega), mb3_s, e51]
      cases hb : ex1 (fun l => decide (fr l = f)) n with
      | false => rw [bI_f, if_pos (show (0 : Int32) = 0 from rfl)]
      | true =>
        rw [bI_t, if_neg (show ¬ (1 : Int32) = 0 by decide), m_hasOther (by omega) hP1 (by omega) hp, mb3_s, e51]
        obtain ⟨l, l1, l2, l3⟩ := ex1_t.mp hb
        have l3' := of_decide_eq_true l3
        have ho : ex1 (fun l => decide (fr l = f ∧ pl l ≠ p)) n = true := ex1_t.mpr ⟨l, l1, l2, decide_eq_true ⟨l3', fun w => by have := hpl l l1 l2 w; omega⟩⟩
        rw [ho, bI_t, if_neg (show ¬ (1 : Int32) = 0 by decide)]
  rw [show (1 : Int32) = sI 1 from rfl, there 64 1 fu (by omega) (by omega) (by omega)]
  -- how many ways
  have ways : ∀ (r x q : Nat), x + r = m + 1 → r < q → 1 ≤ x → (m < 8 ∨ x = 2) → ∃ v, (m < 8 → v = sL (fac m)) ∧ fX16_packPeriod_h63 fu k (sI p) 5040 q (sI m, 0, sL (fac (x - 1)), sI x, M1, L) = fX16_packPeriod_b91 fu k (sI p) 5040 (sI m) 0 v M1 L := by
    intro r
    induction r with
    | zero =>
      intro x q hx hq h1 h8
      obtain ⟨q', rfl⟩ : ∃ y, q = y + 1 := ⟨q - 1, by omega⟩
      refine ⟨sL (fac (x - 1)), fun _ => by rw [show x - 1 = m from by omega], ?_⟩
      show fX16_packPeriod_i63 fu k (sI p) 5040 (fX16_packPeriod_h63 fu k (sI p) 5040 q') (sI m) 0 (sL (fac (x - 1))) (sI x) M1 L = _
      unfold fX16_packPeriod_i63
      rw [if_pos (by rw [sI_lt (by omega) (by omega)]; omega)]
    | succ r ih =>
      intro x q hx hq h1 h8
      obtain ⟨q', rfl⟩ : ∃ y, q = y + 1 := ⟨q - 1, by omega⟩
      show ∃ v, _ ∧ fX16_packPeriod_i63 fu k (sI p) 5040 (fX16_packPeriod_h63 fu k (sI p) 5040 q') (sI m) 0 (sL (fac (x - 1))) (sI x) M1 L = _
      unfold fX16_packPeriod_i63
      rw [if_neg (by rw [sI_lt (by omega) (by omega)]; omega)]
      by_cases c : m < 8
      · rw [if_neg (by rw [sI_lle (by decide) (by omega)]; omega)]
        simp only [mlet]
        rw [sI_1, sI_L (by omega), sL_mul]
        have ef : fac (x - 1) * x = fac (x + 1 - 1) := by
          obtain ⟨y, rfl⟩ : ∃ y, x = y + 1 := ⟨x - 1, by omega⟩
          show fac y * (y + 1) = (y + 1) * fac y
          exact Nat.mul_comm _ _
        rw [ef]
        exact ih (x + 1) q' (by omega) (by omega) (by omega) (Or.inl c)
      · rw [if_pos (by rw [sI_lle (by decide) (by omega)]; omega)]
        exact ⟨_, fun w => absurd w c, rfl⟩
  have m1 : ∃ v, (m < 8 → v = sL (fac m)) ∧ fX16_packPeriod_h63 fu k (sI p) 5040 fu (sI m, 0, 1, 2, M1, L) = fX16_packPeriod_b91 fu k (sI p) 5040 (sI m) 0 v M1 L := ways (m - 1) 2 fu (by omega) (by omega) (by omega) (Or.inr rfl)
  obtain ⟨v, v1, v2⟩ := m1
  rw [v2]
  have hB : SB M1 k n cap F0 m pl zl fr oc gl := ⟨hP1, hU, hmn, hfr, fun j hj => ⟨(hgl j hj).1, (hgl j hj).2.1, (hgl j hj).2.2.1, r18 j hj⟩, Srt_inj sr, hus⟩
  have hR0 : SR M1 M1 k F0 m gl (fun j => zl (gl j)) (fun _ => 0) 0 0 := by
    refine ⟨fun _ _ _ _ _ _ _ => rfl, fun _ _ => ⟨rfl, rfl⟩, fun j hj => by omega, fun j _ hj => ?_, fun j hj => ?_, fun j hj => absurd hj (Nat.not_lt_zero _), fun j hj => by omega⟩
    · obtain ⟨q1, q2, q3, q4⟩ := hgl j hj
      obtain ⟨a1, a2, a3, a4, a5, a6, a7, a8, a9, a10⟩ := hP1.2.2.2.2 (gl j) q1 q2
      rw [a7, q3]; rfl
    · obtain ⟨q1, q2, q3, q4⟩ := hgl j hj
      obtain ⟨a1, a2, a3, a4, a5, a6, a7, a8, a9, a10⟩ := hP1.2.2.2.2 (gl j) q1 q2
      exact ⟨_, a10, a9⟩
  have hzj : ∀ j, j < m → zl (gl j) ≤ cap := fun j hj => hz _ (hgl j hj).1 (hgl j hj).2.1
  have fin : ∀ ch M' u, SR M1 M' k F0 m gl (fun j => zl (gl j)) ch m u → PpM M M' k F0 m gl (fun j => zl (gl j)) ch := by
    intro ch M' u h
    obtain ⟨q1, q2, q3, q4, q5, q6, q7⟩ := h
    refine ⟨q3, fun y hy => ?_, fun a y w1 w2 => ?_⟩
    · obtain ⟨x1, x2⟩ := q2 y hy
      rw [x1, x2, f18 _ _ (by omega), f18 _ _ (by omega)]
      exact ⟨rfl, rfl⟩
    · rw [q1 a y (by omega) (by omega) (by omega) (by omega) (by omega), f18 a y (by omega)]
  unfold fX16_packPeriod_b91
  by_cases c : 7 < m
  · rw [if_pos (by rw [sI_llt (by decide) (by omega)]; exact c)]
    unfold fX16_packPeriod_b105
    simp only [mlet]
    have hB2 : SB (mset M1 k 14 0) k n cap F0 m pl zl fr oc gl := ⟨PvM_f hP1 (fun a y w => by rw [mset_n (by omega)]), hU, hmn, hfr, fun j hj => ⟨(hgl j hj).1, (hgl j hj).2.1, (hgl j hj).2.2.1, by rw [mset_n (by omega)]; exact r18 j hj⟩, Srt_inj sr, hus⟩
    have hR2 : SR (mset M1 k 14 0) (mset M1 k 14 0) k F0 m gl (fun j => zl (gl j)) (fun _ => 0) 0 0 := by
      obtain ⟨q1, q2, q3, q4, q5, q6, q7⟩ := hR0
      exact ⟨fun _ _ _ _ _ _ _ => rfl, fun _ _ => ⟨rfl, rfl⟩, fun j hj => by omega, fun j w hj => by rw [mset_n (by omega)]; exact q4 j w hj, fun j hj => by rw [mset_n (by omega)]; exact q5 j hj, fun j hj => absurd hj (Nat.not_lt_zero _), fun j hj => by omega⟩
    obtain ⟨ch, M', k1, k2, k3⟩ := m_inTurn (fu := fu) (L := L) (by omega) hB2 hzj hR2
    rw [k1, mb3_s]
    refine ⟨m, gl, ch, M', by unfold mzz; rw [if_pos (Or.inr rfl)]; rfl, hm0, sr, ⟨fun w => by omega, fun _ => k3⟩, ?_⟩
    obtain ⟨q1, q2, q3, q4, q5, q6, q7⟩ := k2
    refine ⟨q3, fun y hy => ?_, fun a y w1 w2 => ?_⟩
    · obtain ⟨x1, x2⟩ := q2 y hy
      rw [x1, x2, mset_n (by omega), mset_n (by omega), f18 _ _ (by omega), f18 _ _ (by omega)]
      exact ⟨rfl, rfl⟩
    · rw [q1 a y (by omega) (by omega) (by omega) (by omega) (by omega), mset_n w2, f18 a y (by omega)]
  · rw [if_neg (by rw [sI_llt (by decide) (by omega)]; exact c), v1 (by omega)]
    have hle : lg_cmp (sL (fac m)) 5040 ≤ 0 := by
      rw [lg_cmp_le]
      have h1 := fac_7 m (by omega)
      have h2 : sL (fac m) ≤ sL 5040 := by rw [sL_le (by omega) (by omega)]; omega
      exact h2
    rw [if_pos hle]
    have key : ∀ (r fresh q : Nat) (B : mwM), fresh + r = m → r < q → SR M1 B k F0 m gl (fun j => zl (gl j)) (fun _ => 0) 0 0 → (∀ x, x < fresh → fnd (fun j => zl (gl j)) cap x m 0 (fun _ => 0) = none) → ∃ ch M', fX16_packPeriod_h122 fu k (sI p) 5040 q (sI m, 0, sI fresh, B, L) = some (1, M', L) ∧ PkW (fun j => zl (gl j)) cap m ch ∧ PpM M M' k F0 m gl (fun j => zl (gl j)) ch := by
      intro r
      induction r with
      | zero =>
        intro fresh q B hf hq hR hno
        obtain ⟨q', rfl⟩ : ∃ y, q = y + 1 := ⟨q - 1, by omega⟩
        have em : fresh = m := by omega
        subst em
        show ∃ ch M', fX16_packPeriod_i122 fu k (sI p) 5040 (fX16_packPeriod_h122 fu k (sI p) 5040 q') (sI fresh) 0 (sI fresh) B L = _ ∧ _
        unfold fX16_packPeriod_i122
        rw [if_neg (by rw [sI_lt (by omega) (by omega)]; omega)]
        rcases m_search (fresh := fresh) (L := L) hfu hB hm0 (by omega) hzj (Nat.le_refl _) hR with ⟨ch, M', k1, k2, k3⟩ | ⟨k1, _⟩
        · refine ⟨ch, M', ?_, ⟨fun _ => ⟨fresh, by omega, Nat.le_refl _, fun x _ x2 => hno x x2, k1⟩, fun w => by omega⟩, fin ch M' _ k2⟩
          rw [k3, mb3_s, if_neg (show ¬ (1 : Int32) = 0 by decide)]
        · exact absurd (way_own hzj) (fun w => fnd_none _ _ _ _ k1 (fun j hj => by omega) (by rw [Nat.zero_add]; exact w))
      | succ r ih =>
        intro fresh q B hf hq hR hno
        obtain ⟨q', rfl⟩ : ∃ y, q = y + 1 := ⟨q - 1, by omega⟩
        show ∃ ch M', fX16_packPeriod_i122 fu k (sI p) 5040 (fX16_packPeriod_h122 fu k (sI p) 5040 q') (sI m) 0 (sI fresh) B L = _ ∧ _
        unfold fX16_packPeriod_i122
        rw [if_neg (by rw [sI_lt (by omega) (by omega)]; omega)]
        rcases m_search (fresh := fresh) (L := L) hfu hB hm0 (by omega) hzj (by omega) hR with ⟨ch, M', k1, k2, k3⟩ | ⟨k1, M', k2, k3⟩
        · have f1 : 1 ≤ fresh := by
            apply Nat.succ_le_of_lt
            apply Nat.pos_of_ne_zero
            intro w
            subst w
            have w2 := (fnd_some _ _ _ _ k1).2 0 (by omega) (by omega)
            omega
          refine ⟨ch, M', ?_, ⟨fun _ => ⟨fresh, f1, by omega, fun x _ x2 => hno x x2, k1⟩, fun w => by omega⟩, fin ch M' _ k2⟩
          rw [k3, mb3_s, if_neg (show ¬ (1 : Int32) = 0 by decide)]
        · rw [k3, mb3_s, if_pos (show (0 : Int32) = 0 from rfl)]
          simp only [mlet]
          rw [sI_1]
          refine ih (fresh + 1) q' M' (by omega) (by omega) k2 (fun x hx => ?_)
          by_cases e : x = fresh
          · rw [e]; exact k1
          · exact hno x (by omega)
    obtain ⟨ch, M', k1, k2, k3⟩ := key m 0 fu M1 (by omega) (by omega) hR0 (fun x hx => by omega)
    exact ⟨m, gl, ch, M', k1, hm0, sr, k2, k3⟩
/-! the reference: how large a group of one signal is -/
abbrev PsG (M : mwM) (k n : Nat) (bt : Nat → Nat) (tu : Nat → Bool) : Prop := M k 2 = sI n ∧ n ≤ 40 ∧ ∀ l, 1 ≤ l → l ≤ n → M (k + 5) l = sI l ∧ M (k + 4) l = -1 ∧ M (k + 1) l = sI (bt l) ∧ 1 ≤ bt l ∧ bt l ≤ 64 ∧ M (k + 3) l = bI (tu l)
theorem m_octP {fu k n l : Nat} {bt : Nat → Nat} {tu : Nat → Bool} {M : mwM} {L : mwL} (h : PsG M k n bt tu) (h1 : 1 ≤ l) (h2 : l ≤ n) : DX16_octetsOf fu k (sI l) M L = some (sI ((bt l + 7) / 8), M, L) := by
  obtain ⟨g1, g2, g3⟩ := h
  obtain ⟨a1, a2, a3, a4, a5, a6⟩ := g3 l h1 h2
  unfold DX16_octetsOf
  rw [mck_s (by omega) (by omega), sI_nn (by omega), a3, sI_adl]
  have e : sI (bt l + 7) / 8 = sI ((bt l + 7) / 8) := sI_div (b := 8) (by omega) (by omega)
  rw [e]
theorem m_part {fu k n l x : Nat} {bt : Nat → Nat} {tu : Nat → Bool} {M : mwM} {L : mwL} (hfu : 50 ≤ fu) (h : PsG M k n bt tu) (h1 : 1 ≤ l) (h2 : l ≤ n) (hx : x = 0 ∨ x = l) : DX16_part fu k (sI l) (-1) 0 (sI x) M L = some (sI (if x = l then 0 else (bt l + 7) / 8), M, L) := by
  have h' := h
  obtain ⟨g1, g2, g3⟩ := h
  obtain ⟨l1, l2, l3, l4, l5, l6⟩ := g3 l h1 h2
  -- the second way round
  have key2 : ∀ (E : Nat), E ≤ 8 → (tu l = true → E = 0) → (tu l = false → E = (bt l + 7) / 8 ∧ x = 0) → ∀ (r s q : Nat), s + r = n + 1 → r < q → 1 ≤ s → (x = l → s ≤ l) → fX16_part_h91 fu k (sI l) (-1) 0 (sI x) q (sI (if l < s ∧ tu l = true then (bt l + 7) / 8 else E), sI s, M, L) = some (sI (if x = l then 0 else (bt l + 7) / 8), M, L) := by
    intro E hE ht hf r
    induction r with
    | zero =>
      intro s q hs hq s1 hxs
      obtain ⟨q', rfl⟩ : ∃ y, q = y + 1 := ⟨q - 1, by omega⟩
      show fX16_part_i91 fu k (sI l) (-1) 0 (sI x) (fX16_part_h91 fu k (sI l) (-1) 0 (sI x) q') _ (sI s) M L = _
      unfold fX16_part_i91
      rw [g1, if_pos (by rw [sI_lt (by omega) (by omega)]; omega)]
      have xl : x ≠ l := fun w => by have := hxs w; omega
      rw [if_neg xl]
      cases t : tu l with
      | true => rw [if_pos ⟨by omega, rfl⟩]
      | false => rw [if_neg (fun w => by cases w.2), (hf t).1]
    | succ r ih =>
      intro s q hs hq s1 hxs
      obtain ⟨q', rfl⟩ : ∃ y, q = y + 1 := ⟨q - 1, by omega⟩
      obtain ⟨a1, a2, a3, a4, a5, a6⟩ := g3 s s1 (by omega)
      show fX16_part_i91 fu k (sI l) (-1) 0 (sI x) (fX16_part_h91 fu k (sI l) (-1) 0 (sI x) q') _ (sI s) M L = _
      have nx := ih (s + 1) q' (by omega) (by omega) (by omega)
      unfold fX16_part_i91
      rw [g1, if_neg (by rw [sI_lt (by omega) (by omega)]; omega), mck_s (by omega) (by omega), sI_nn (by omega), a1]
      by_cases e : s = l
      · subst e
        rw [if_pos rfl, mck_s (by omega) (by omega), a2, if_pos rfl, mck_s (by omega) (by omega), a6]
        rw [if_neg (show ¬ (s < s ∧ tu s = true) by omega)]
        cases t : tu s with
        | false =>
          rw [bI_f, if_pos rfl]
          unfold fX16_part_b156
          simp only [mlet]
          rw [sI_1]
          have := nx (fun w => by have := (hf t).2; omega)
          rw [if_neg (fun w => by rw [t] at w; cases w.2)] at this
          exact this
        | true =>
          rw [bI_t, if_neg (show ¬ (1 : Int32) = 0 by decide), ht t]
          by_cases xl : x = s
          · rw [if_pos (by rw [xl]), if_pos xl]
            rfl
          · rw [if_neg (by rw [sI_eq (by omega) (by omega)]; omega), m_octP h' (by omega) (by omega), mb3_s]
            unfold fX16_part_b156
            simp only [mlet]
            rw [sI_1, sI_add, Nat.zero_add]
            have := nx (fun w => absurd w xl)
            rw [if_pos ⟨by omega, t⟩] at this
            exact this
      · rw [if_neg (by rw [sI_eq (by omega) (by omega)]; exact e)]
        unfold fX16_part_b156
        simp only [mlet]
        rw [sI_1]
        by_cases c : l < s
        · have := nx (fun w => by have := hxs w; omega)
          have e2 : (l < s + 1 ∧ tu l = true) = (l < s ∧ tu l = true) := by apply propext; constructor <;> (intro w; exact ⟨by omega, w.2⟩)
          simp only [e2] at this
          exact this
        · have := nx (fun w => by omega)
          rw [if_neg (show ¬ (l < s + 1 ∧ tu l = true) by omega)] at this
          rw [if_neg (show ¬ (l < s ∧ tu l = true) by omega)]
          exact this
  have key1 : ∀ (r s q : Nat), s + r = n + 1 → r < q → 1 ≤ s → (x = l → tu l = false → s ≤ l) → fX16_part_h9 fu k (sI l) (-1) 0 (sI x) q (sI (if l < s ∧ tu l = false then bt l else 0), sI s, M, L) = some (sI (if x = l then 0 else (bt l + 7) / 8), M, L) := by
    intro r
    induction r with
    | zero =>
      intro s q hs hq s1 hxs
      obtain ⟨q', rfl⟩ : ∃ y, q = y + 1 := ⟨q - 1, by omega⟩
      show fX16_part_i9 fu k (sI l) (-1) 0 (sI x) (fX16_part_h9 fu k (sI l) (-1) 0 (sI x) q') _ (sI s) M L = _
      unfold fX16_part_i9
      rw [g1, if_pos (by rw [sI_lt (by omega) (by omega)]; omega)]
      simp only [mlet]
      have e8 : ∀ v : Nat, v ≤ 64 → (sI v + 7) / 8 = sI ((v + 7) / 8) := fun v hv => by
        rw [sI_adl]
        exact sI_div (b := 8) (by omega) (by omega)
      rw [show (1 : Int32) = sI 1 from rfl]
      cases t : tu l with
      | true =>
        rw [if_neg (fun w => by cases w.2), e8 0 (by omega)]
        have := key2 0 (by omega) (fun _ => rfl) (fun w => by rw [t] at w; cases w) n 1 fu (by omega) (by omega) (by omega) (fun _ => h1)
        rw [if_neg (show ¬ (l < 1 ∧ tu l = true) by omega)] at this
        exact this
      | false =>
        rw [if_pos ⟨by omega, rfl⟩, e8 _ l5]
        have xl : x ≠ l := fun w => by have := hxs w t; omega
        have := key2 ((bt l + 7) / 8) (by omega) (fun w => by rw [t] at w; cases w) (fun _ => ⟨rfl, by omega⟩) n 1 fu (by omega) (by omega) (by omega) (fun _ => h1)
        rw [if_neg (show ¬ (l < 1 ∧ tu l = true) by omega)] at this
        exact this
    | succ r ih =>
      intro s q hs hq s1 hxs
      obtain ⟨q', rfl⟩ : ∃ y, q = y + 1 := ⟨q - 1, by omega⟩
      obtain ⟨a1, a2, a3, a4, a5, a6⟩ := g3 s s1 (by omega)
      show fX16_part_i9 fu k (sI l) (-1) 0 (sI x) (fX16_part_h9 fu k (sI l) (-1) 0 (sI x) q') _ (sI s) M L = _
      have nx := ih (s + 1) q' (by omega) (by omega) (by omega)
      unfold fX16_part_i9
      rw [g1, if_neg (by rw [sI_lt (by omega) (by omega)]; omega), mck_s (by omega) (by omega), sI_nn (by omega), a1]
      by_cases e : s = l
      · subst e
        rw [if_pos rfl, mck_s (by omega) (by omega), a2, if_pos rfl, mck_s (by omega) (by omega), a6]
        rw [if_neg (show ¬ (s < s ∧ tu s = false) by omega)]
        cases t : tu s with
        | true =>
          rw [bI_t, if_neg (show ¬ (1 : Int32) = 0 by decide)]
          unfold fX16_part_b72
          simp only [mlet]
          rw [sI_1]
          have := nx (fun _ w => by rw [t] at w; cases w)
          rw [if_neg (fun w => by rw [t] at w; cases w.2)] at this
          exact this
        | false =>
          rw [bI_f, if_pos rfl]
          by_cases xl : x = s
          · rw [if_pos (by rw [xl]), if_pos xl]
          · rw [if_neg (by rw [sI_eq (by omega) (by omega)]; omega), mck_s (by omega) (by omega), a3]
            unfold fX16_part_b72
            simp only [mlet]
            rw [sI_1, sI_add, Nat.zero_add]
            have := nx (fun w => absurd w xl)
            rw [if_pos ⟨by omega, t⟩] at this
            exact this
      · rw [if_neg (by rw [sI_eq (by omega) (by omega)]; exact e)]
        unfold fX16_part_b72
        simp only [mlet]
        rw [sI_1]
        by_cases c : l < s
        · have := nx (fun w w2 => by have := hxs w w2; omega)
          have e2 : (l < s + 1 ∧ tu l = false) = (l < s ∧ tu l = false) := by apply propext; constructor <;> (intro w; exact ⟨by omega, w.2⟩)
          simp only [e2] at this
          exact this
        · have := nx (fun w w2 => by omega)
          rw [if_neg (show ¬ (l < s + 1 ∧ tu l = false) by omega)] at this
          rw [if_neg (show ¬ (l < s ∧ tu l = false) by omega)]
          exact this
  have st := key1 n 1 fu (by omega) (by omega) (by omega) (fun _ _ => h1)
  rw [if_neg (show ¬ (l < 1 ∧ tu l = false) by omega)] at st
  exact st
theorem m_size {fu k n l : Nat} {bt : Nat → Nat} {tu : Nat → Bool} {M : mwM} {L : mwL} (hfu : 50 ≤ fu) (h : PsG M k n bt tu) (h1 : 1 ≤ l) (h2 : l ≤ n) : DX16_size fu k (sI l) M L = some (sI ((bt l + 7) / 8), M, L) := by
  have e1 := m_part (L := L) (x := 0) hfu h h1 h2 (Or.inl rfl)
  obtain ⟨g1, g2, g3⟩ := h
  rw [if_neg (by omega)] at e1
  unfold DX16_size
  have e2 : DX16_part fu k (sI l) (-1) 0 0 M L = some (sI ((bt l + 7) / 8), M, L) := e1
  rw [e2, mb3_s]
  have key : ∀ (r s q : Nat), s + r = n + 1 → r < q → 1 ≤ s → fX16_size_h14 fu k (sI l) q (sI ((bt l + 7) / 8), sI ((bt l + 7) / 8), sI s, M, L) = some (sI ((bt l + 7) / 8), M, L) := by
    intro r
    induction r with
    | zero =>
      intro s q hs hq s1
      obtain ⟨q', rfl⟩ : ∃ y, q = y + 1 := ⟨q - 1, by omega⟩
      show fX16_size_i14 fu k (sI l) (fX16_size_h14 fu k (sI l) q') (sI ((bt l + 7) / 8)) (sI ((bt l + 7) / 8)) (sI s) M L = _
      unfold fX16_size_i14
      rw [g1, if_pos (by rw [sI_lt (by omega) (by omega)]; omega)]
    | succ r ih =>
      intro s q hs hq s1
      obtain ⟨q', rfl⟩ : ∃ y, q = y + 1 := ⟨q - 1, by omega⟩
      obtain ⟨a1, a2, a3, a4, a5, a6⟩ := g3 s s1 (by omega)
      show fX16_size_i14 fu k (sI l) (fX16_size_h14 fu k (sI l) q') (sI ((bt l + 7) / 8)) (sI ((bt l + 7) / 8)) (sI s) M L = _
      have nx := ih (s + 1) q' (by omega) (by omega) (by omega)
      unfold fX16_size_i14
      rw [g1, if_neg (by rw [sI_lt (by omega) (by omega)]; omega), mck_s (by omega) (by omega), sI_nn (by omega), a1, mck_s (by omega) (by omega), a2, if_pos (show (-1 : Int32) < 0 by decide)]
      unfold fX16_size_b73
      simp only [mlet]
      rw [sI_1]
      by_cases e : sI s = sI l
      · rw [if_pos e]; exact nx
      · rw [if_neg e]; exact nx
  exact key n 1 fu (by omega) (by omega) (by omega)
theorem m_bitIn {fu k n l : Nat} {bt : Nat → Nat} {tu : Nat → Bool} {M : mwM} {L : mwL} (hfu : 50 ≤ fu) (h : PsG M k n bt tu) (h1 : 1 ≤ l) (h2 : l ≤ n) : DX16_bitInGroup fu k (sI l) M L = some (0, M, L) := by
  have e1 := m_part (L := L) (x := l) hfu h h1 h2 (Or.inr rfl)
  obtain ⟨g1, g2, g3⟩ := h
  obtain ⟨a1, a2, a3, a4, a5, a6⟩ := g3 l h1 h2
  rw [if_pos rfl] at e1
  unfold DX16_bitInGroup fX16_bitInGroup_b47
  simp only [mlet]
  rw [mck_s (by omega) (by omega), mck_s (by omega) (by omega), sI_nn (by omega), a1, a2, if_neg (show ¬ (0 : Int32) ≤ -1 by decide), e1, mb3_s]
  rfl
/-! the reference: before the periods, the next period, how many frames -/
abbrev PsM (M : mwM) (k n cap : Nat) (bt pl : Nat → Nat) (tu : Nat → Bool) : Prop := M k 1 = sI cap ∧ cap ≤ 8 ∧ PsG M k n bt tu ∧ ∀ l, 1 ≤ l → l ≤ n → M (k + 2) l = sI (pl l) ∧ 1 ≤ pl l ∧ pl l ≤ 20000 ∧ (bt l + 7) / 8 ≤ cap ∧ M (k + 7) l = 0 ∧ M (k + 8) l = 0 ∧ M (k + 11) l = 0
theorem PsG_f {M M' : mwM} {k n : Nat} {bt : Nat → Nat} {tu : Nat → Bool} (h : PsG M k n bt tu) (hf : ∀ a y, (a = k ∧ y = 2) ∨ a = k + 1 ∨ a = k + 3 ∨ a = k + 4 ∨ a = k + 5 → M' a y = M a y) : PsG M' k n bt tu := by
  obtain ⟨h1, h2, h3⟩ := h
  refine ⟨by rw [hf _ _ (by omega)]; exact h1, h2, fun l l1 l2 => ?_⟩
  obtain ⟨a1, a2, a3, a4, a5, a6⟩ := h3 l l1 l2
  exact ⟨by rw [hf _ _ (by omega)]; exact a1, by rw [hf _ _ (by omega)]; exact a2, by rw [hf _ _ (by omega)]; exact a3, a4, a5, by rw [hf _ _ (by omega)]; exact a6⟩
theorem PsM_f {M M' : mwM} {k n cap : Nat} {bt pl : Nat → Nat} {tu : Nat → Bool} (h : PsM M k n cap bt pl tu) (hf : ∀ a y, (a = k ∧ (y = 1 ∨ y = 2)) ∨ (k + 1 ≤ a ∧ a ≤ k + 5) ∨ a = k + 7 ∨ a = k + 8 ∨ a = k + 11 → M' a y = M a y) : PsM M' k n cap bt pl tu := by
  obtain ⟨h1, h2, h3, h4⟩ := h
  refine ⟨by rw [hf _ _ (by omega)]; exact h1, h2, PsG_f h3 (fun a y w => hf a y (by omega)), fun l l1 l2 => ?_⟩
  obtain ⟨a1, a2, a3, a4, a5, a6, a7⟩ := h4 l l1 l2
  exact ⟨by rw [hf _ _ (by omega)]; exact a1, a2, a3, a4, by rw [hf _ _ (by omega)]; exact a5, by rw [hf _ _ (by omega)]; exact a6, by rw [hf _ _ (by omega)]; exact a7⟩
theorem m_packs0 {fu k n cap : Nat} {bt pl : Nat → Nat} {tu : Nat → Bool} {M : mwM} {L : mwL} (hfu : 50 ≤ fu) (h : PsM M k n cap bt pl tu) : ∃ M', DX16_packs fu k 5040 M L = fX16_packs_h196 fu k 5040 fu (0, M', L) ∧ PvM M' k n cap pl (fun l => (bt l + 7) / 8) (fun _ => 0) (fun _ => 0) ∧ ∀ a y, a ≠ k + 16 → a ≠ k + 17 → a ≠ k + 22 → M' a y = M a y := by
  have hn : n ≤ 40 := h.2.2.1.2.1
  have key2 : ∀ (r s q : Nat) (B : mwM), s + r = n + 1 → r < q → 1 ≤ s → PsM B k n cap bt pl tu → fX16_packs_h77 fu k 5040 q (sI s, B, L) = fX16_packs_h196 fu k 5040 fu (0, B, L) := by
    intro r
    induction r with
    | zero =>
      intro s q B hs hq s1 hB
      obtain ⟨q', rfl⟩ : ∃ y, q = y + 1 := ⟨q - 1, by omega⟩
      obtain ⟨h1, h2, ⟨g1, g2, g3⟩, h4⟩ := hB
      show fX16_packs_i77 fu k 5040 (fX16_packs_h77 fu k 5040 q') (sI s) B L = _
      unfold fX16_packs_i77
      rw [g1, if_pos (by rw [sI_lt (by omega) (by omega)]; omega)]
    | succ r ih =>
      intro s q B hs hq s1 hB
      obtain ⟨q', rfl⟩ : ∃ y, q = y + 1 := ⟨q - 1, by omega⟩
      have nx := ih (s + 1) q' B (by omega) (by omega) (by omega) hB
      obtain ⟨h1, h2, ⟨g1, g2, g3⟩, h4⟩ := hB
      obtain ⟨a1, a2, a3, a4, a5, a6⟩ := g3 s s1 (by omega)
      obtain ⟨b1, b2, b3, b4, b5, b6, b7⟩ := h4 s s1 (by omega)
      show fX16_packs_i77 fu k 5040 (fX16_packs_h77 fu k 5040 q') (sI s) B L = _
      unfold fX16_packs_i77
      rw [g1, if_neg (by rw [sI_lt (by omega) (by omega)]; omega), m_isGroup a1 (by omega), mb3_s, if_neg (show ¬ (1 : Int32) = 0 by decide), mck_s (by omega) (by omega), sI_nn (by omega), b5, if_pos (show (0 : Int32) = 0 from rfl), mck_s (by omega) (by omega), b7, if_pos (show (0 : Int32) = 0 from rfl)]
      unfold fX16_packs_b188
      simp only [mlet]
      rw [sI_1]
      exact nx
  have key1 : ∀ (r s q : Nat) (B : mwM), s + r = n + 1 → r < q → 1 ≤ s → PsM B k n cap bt pl tu → (∀ l, 1 ≤ l → l < s → B (k + 16) l = 0 ∧ B (k + 17) l = 0 ∧ B (k + 22) l = sI ((bt l + 7) / 8)) → (∀ a y, a ≠ k + 16 → a ≠ k + 17 → a ≠ k + 22 → B a y = M a y) → ∃ M', fX16_packs_h2 fu k 5040 q (sI s, B, L) = fX16_packs_h196 fu k 5040 fu (0, M', L) ∧ PvM M' k n cap pl (fun l => (bt l + 7) / 8) (fun _ => 0) (fun _ => 0) ∧ ∀ a y, a ≠ k + 16 → a ≠ k + 17 → a ≠ k + 22 → M' a y = M a y := by
    intro r
    induction r with
    | zero =>
      intro s q B hs hq s1 hB hd hf
      obtain ⟨q', rfl⟩ : ∃ y, q = y + 1 := ⟨q - 1, by omega⟩
      refine ⟨B, ?_, ?_, hf⟩
      · have nx := key2 n 1 fu B (by omega) (by omega) (by omega) hB
        obtain ⟨h1, h2, ⟨g1, g2, g3⟩, h4⟩ := hB
        show fX16_packs_i2 fu k 5040 (fX16_packs_h2 fu k 5040 q') (sI s) B L = _
        unfold fX16_packs_i2
        rw [g1, if_pos (by rw [sI_lt (by omega) (by omega)]; omega)]
        exact nx
      · obtain ⟨h1, h2, ⟨g1, g2, g3⟩, h4⟩ := hB
        refine ⟨h1, g1, g2, h2, fun l l1 l2 => ?_⟩
        obtain ⟨a1, a2, a3, a4, a5, a6⟩ := g3 l l1 l2
        obtain ⟨b1, b2, b3, b4, b5, b6, b7⟩ := h4 l l1 l2
        obtain ⟨d1, d2, d3⟩ := hd l l1 (by omega)
        exact ⟨a1, b1, b3, d3, by dsimp only; omega, by dsimp only; omega, d1, by dsimp only; omega, d2, by dsimp only; omega⟩
    | succ r ih =>
      intro s q B hs hq s1 hB hd hf
      obtain ⟨q', rfl⟩ : ∃ y, q = y + 1 := ⟨q - 1, by omega⟩
      have hB' := hB
      obtain ⟨h1, h2, hG, h4⟩ := hB
      have hG' := hG
      obtain ⟨g1, g2, g3⟩ := hG
      obtain ⟨a1, a2, a3, a4, a5, a6⟩ := g3 s s1 (by omega)
      obtain ⟨b1, b2, b3, b4, b5, b6, b7⟩ := h4 s s1 (by omega)
      have nx := ih (s + 1) q' (mset (mset (mset B (k + 22) s (sI ((bt s + 7) / 8))) (k + 16) s 0) (k + 17) s 0) (by omega) (by omega) (by omega) (PsM_f hB' (fun a y w => by rw [mset_n (by omega), mset_n (by omega), mset_n (by omega)])) (fun l l1 l2 => ?_) (fun a y w1 w2 w3 => by rw [mset_n (by omega), mset_n (by omega), mset_n (by omega)]; exact hf a y w1 w2 w3)
      · show ∃ M', fX16_packs_i2 fu k 5040 (fX16_packs_h2 fu k 5040 q') (sI s) B L = _ ∧ _
        unfold fX16_packs_i2
        rw [g1, if_neg (by rw [sI_lt (by omega) (by omega)]; omega), m_isGroup a1 (by omega), mb3_s, if_neg (show ¬ (1 : Int32) = 0 by decide), m_size hfu hG' s1 (by omega), mb3_s]
        unfold fX16_packs_b32 fX16_packs_b56
        simp only [mlet]
        rw [mck_s (by omega) (by omega), m_isGroup (by rw [mset_n (by omega)]; exact a1) (by omega), mb3_s, if_neg (show ¬ (1 : Int32) = 0 by decide), mck_s (by omega) (by omega), mck_s (by omega) (by omega), mck_s (by omega) (by omega), mck_s (by omega) (by omega), sI_nn (by omega), sI_1]
        rw [mset_n (show ¬ (k + 7 = k + 22 ∧ s = s) by omega), b5, mset_n (show ¬ (k + 8 = k + 16 ∧ s = s) by omega), mset_n (show ¬ (k + 8 = k + 22 ∧ s = s) by omega), b6]
        exact nx
      · by_cases e : l = s
        · subst e
          refine ⟨by rw [mset_n (by omega), mset_s], by rw [mset_s], by rw [mset_n (by omega), mset_n (by omega), mset_s]⟩
        · obtain ⟨d1, d2, d3⟩ := hd l l1 (by omega)
          refine ⟨by rw [mset_n (by omega), mset_n (by omega), mset_n (by omega)]; exact d1, by rw [mset_n (by omega), mset_n (by omega), mset_n (by omega)]; exact d2, by rw [mset_n (by omega), mset_n (by omega), mset_n (by omega)]; exact d3⟩
  unfold DX16_packs
  exact key1 n 1 fu M (by omega) (by omega) (by omega) h (fun l l1 l2 => by omega) (fun _ _ _ _ _ => rfl)
/-- the next period, or the end -/
def nxv (v : Nat) : Int32 := if v = 0 then 1000001 else sI v
theorem nxv_0 : nxv 0 = 1000001 := rfl
theorem nxv_s {v : Nat} (h : v ≠ 0) : nxv v = sI v := if_neg h
def nxl (pl : Nat → Nat) (last s v : Nat) : Prop := (v = 0 ∧ ∀ l, 1 ≤ l → l < s → pl l ≤ last) ∨ (last < v ∧ v ≤ 20000 ∧ (∃ l, 1 ≤ l ∧ l < s ∧ pl l = v) ∧ ∀ l, 1 ≤ l → l < s → last < pl l → v ≤ pl l)
theorem m_packsN {fu k n cap last q : Nat} {pl zl fr oc : Nat → Nat} {M : mwM} {L : mwL} (hfu : 50 ≤ fu) (h : PvM M k n cap pl zl fr oc) (hl : last ≤ 20000) (hfr : ∀ l, 1 ≤ l → l ≤ n → (fr l = 0 ↔ last < pl l)) : (∀ l, 1 ≤ l → l ≤ n → pl l ≤ last) ∧ fX16_packs_h196 fu k 5040 (q + 1) (sI last, M, L) = fX16_packs_h196 fu k 5040 q (1000001, M, L) ∨ ∃ p, last < p ∧ p ≤ 20000 ∧ (∃ l, 1 ≤ l ∧ l ≤ n ∧ pl l = p) ∧ (∀ l, 1 ≤ l → l ≤ n → last < pl l → p ≤ pl l) ∧ fX16_packs_h196 fu k 5040 (q + 1) (sI last, M, L) = mb3 (DX16_packPeriod fu k (sI p) 5040 M L) (fun r62 M60 L61 => (if r62 = 0 then some (0, M60, L61) else fX16_packs_h196 fu k 5040 q (sI p, M60, L61))) := by
  obtain ⟨h1, h2, h3, h4, h5⟩ := h
  have key : ∀ (r s w v : Nat), s + r = n + 1 → r < w → 1 ≤ s → nxl pl last s v → (∀ l, 1 ≤ l → l ≤ n → pl l ≤ last) ∧ fX16_packs_h209 fu k 5040 (fX16_packs_h196 fu k 5040 q) w (sI last, nxv v, sI s, M, L) = fX16_packs_h196 fu k 5040 q (1000001, M, L) ∨ ∃ p, last < p ∧ p ≤ 20000 ∧ (∃ l, 1 ≤ l ∧ l ≤ n ∧ pl l = p) ∧ (∀ l, 1 ≤ l → l ≤ n → last < pl l → p ≤ pl l) ∧ fX16_packs_h209 fu k 5040 (fX16_packs_h196 fu k 5040 q) w (sI last, nxv v, sI s, M, L) = mb3 (DX16_packPeriod fu k (sI p) 5040 M L) (fun r62 M60 L61 => (if r62 = 0 then some (0, M60, L61) else fX16_packs_h196 fu k 5040 q (sI p, M60, L61))) := by
    intro r
    induction r with
    | zero =>
      intro s w v hs hw s1 hv
      obtain ⟨w', rfl⟩ : ∃ y, w = y + 1 := ⟨w - 1, by omega⟩
      have un : fX16_packs_h209 fu k 5040 (fX16_packs_h196 fu k 5040 q) (w' + 1) (sI last, nxv v, sI s, M, L) = fX16_packs_i209 fu k 5040 (fX16_packs_h196 fu k 5040 q) (fX16_packs_h209 fu k 5040 (fX16_packs_h196 fu k 5040 q) w') (sI last) (nxv v) (sI s) M L := rfl
      rw [un]
      unfold fX16_packs_i209
      rw [h2, if_pos (by rw [sI_lt (by omega) (by omega)]; omega)]
      rcases hv with ⟨v0, va⟩ | ⟨v1, v2, ⟨l, l1, l2, l3⟩, v4⟩
      · left
        refine ⟨fun l l1 l2 => va l l1 (by omega), ?_⟩
        subst v0
        rw [nxv_0, if_pos (by decide)]
        rfl
      · right
        refine ⟨v, v1, v2, ⟨l, l1, by omega, l3⟩, fun l l1 l2 => v4 l l1 (by omega), ?_⟩
        rw [nxv_s (by omega), if_neg (by rw [sI_lle (by decide) (by omega)]; omega)]
        rfl
    | succ r ih =>
      intro s w v hs hw s1 hv
      obtain ⟨w', rfl⟩ : ∃ y, w = y + 1 := ⟨w - 1, by omega⟩
      obtain ⟨a1, a2, a3, a4, a5, a6, a7, a8, a9, a10⟩ := h5 s s1 (by omega)
      have hfs := hfr s s1 (by omega)
      have un : fX16_packs_h209 fu k 5040 (fX16_packs_h196 fu k 5040 q) (w' + 1) (sI last, nxv v, sI s, M, L) = fX16_packs_i209 fu k 5040 (fX16_packs_h196 fu k 5040 q) (fX16_packs_h209 fu k 5040 (fX16_packs_h196 fu k 5040 q) w') (sI last) (nxv v) (sI s) M L := rfl
      rw [un]
      unfold fX16_packs_i209 fX16_packs_b270 fX16_packs_b272
      simp only [mlet]
      rw [h2, if_neg (by rw [sI_lt (by omega) (by omega)]; omega), m_isGroup a1 (by omega), mb3_s, if_neg (show ¬ (1 : Int32) = 0 by decide), mck_s (by omega) (by omega), sI_nn (by omega), a7, sI_1]
      have stay : nxl pl last (s + 1) v → _ := fun hh => ih (s + 1) w' v (by omega) (by omega) (by omega) hh
      by_cases c : fr s = 0
      · have c2 := hfs.mp c
        rw [if_pos (by rw [c]; rfl), mck_s (by omega) (by omega), a2, if_neg (by rw [sI_le (by omega) (by omega)]; omega), mck_s (by omega) (by omega)]
        have hge : ∀ u : Nat, v ≠ 0 → v ≤ 20000 → ((nxv v ≤ sI (pl s)) ↔ v ≤ pl s) := fun _ w1 w2 => by rw [nxv_s w1, sI_le (by omega) (by omega)]
        rcases hv with ⟨v0, va⟩ | ⟨v1, v2, ⟨l, l1, l2, l3⟩, v4⟩
        · subst v0
          rw [if_neg (by rw [nxv_0, sI_lle (by decide) (by omega)]; omega), mck_s (by omega) (by omega)]
          have nx := ih (s + 1) w' (pl s) (by omega) (by omega) (by omega) (Or.inr ⟨c2, a3, ⟨s, s1, by omega, rfl⟩, fun l l1 l2 l3 => by
            by_cases e : l = s
            · rw [e]; exact Nat.le_refl _
            · have := va l l1 (by omega); omega⟩)
          rw [nxv_s (show pl s ≠ 0 by omega)] at nx
          exact nx
        · by_cases d : v ≤ pl s
          · rw [if_pos ((hge 0 (by omega) v2).mpr d)]
            refine stay (Or.inr ⟨v1, v2, ⟨l, l1, by omega, l3⟩, fun x x1 x2 x3 => ?_⟩)
            by_cases e : x = s
            · rw [e]; exact d
            · exact v4 x x1 (by omega) x3
          · rw [if_neg (fun w => d ((hge 0 (by omega) v2).mp w)), mck_s (by omega) (by omega)]
            have nx := ih (s + 1) w' (pl s) (by omega) (by omega) (by omega) (Or.inr ⟨c2, a3, ⟨s, s1, by omega, rfl⟩, fun x x1 x2 x3 => by
              by_cases e : x = s
              · rw [e]; exact Nat.le_refl _
              · have := v4 x x1 (by omega) x3; omega⟩)
            rw [nxv_s (show pl s ≠ 0 by omega)] at nx
            exact nx
      · rw [if_neg (by rw [show (0 : Int32) = sI 0 from rfl, sI_eq (by omega) (by omega)]; exact c)]
        have c2 : ¬ last < pl s := fun w => c (hfs.mpr w)
        refine stay ?_
        rcases hv with ⟨v0, va⟩ | ⟨v1, v2, ⟨l, l1, l2, l3⟩, v4⟩
        · refine Or.inl ⟨v0, fun l l1 l2 => ?_⟩
          by_cases e : l = s
          · rw [e]; omega
          · exact va l l1 (by omega)
        · refine Or.inr ⟨v1, v2, ⟨l, l1, by omega, l3⟩, fun x x1 x2 x3 => ?_⟩
          by_cases e : x = s
          · rw [e] at x3; omega
          · exact v4 x x1 (by omega) x3
  have un : fX16_packs_h196 fu k 5040 (q + 1) (sI last, M, L) = fX16_packs_i196 fu k 5040 (fX16_packs_h196 fu k 5040 q) (sI last) M L := rfl
  rw [un]
  unfold fX16_packs_i196
  rw [if_neg (by rw [sI_lle (by decide) (by omega)]; omega)]
  exact key n 1 fu 0 (by omega) (by omega) (by omega) (Or.inl ⟨rfl, fun l l1 l2 => by omega⟩)
/-- frames 1 .. G are used, and no other -/
theorem m_frames {fu k n cap G : Nat} {pl zl fr oc : Nat → Nat} {M : mwM} {L : mwL} (hfu : 70 ≤ fu) (h : PvM M k n cap pl zl fr oc) (hG : G ≤ 40) (h0 : ∀ l, 1 ≤ l → l ≤ n → fr l ≤ G) (hu : ∀ f, 1 ≤ f → f ≤ G → ∃ l, 1 ≤ l ∧ l ≤ n ∧ fr l = f) : DX16_frames fu k M L = some (sI G, M, L) := by
  unfold DX16_frames
  have key : ∀ (r f q : Nat), f + r = 65 → r < q → 1 ≤ f → fX16_frames_h4 fu k q (sI (if f ≤ G then f - 1 else G), sI f, M, L) = some (sI G, M, L) := by
    intro r
    induction r with
    | zero =>
      intro f q hf hq f1
      obtain ⟨q', rfl⟩ : ∃ y, q = y + 1 := ⟨q - 1, by omega⟩
      show fX16_frames_i4 fu k (fX16_frames_h4 fu k q') _ (sI f) M L = _
      unfold fX16_frames_i4
      rw [if_pos (by rw [sI_lle (by decide) (by omega)]; omega), if_neg (by omega)]
    | succ r ih =>
      intro f q hf hq f1
      obtain ⟨q', rfl⟩ : ∃ y, q = y + 1 := ⟨q - 1, by omega⟩
      have nx := ih (f + 1) q' (by omega) (by omega) (by omega)
      show fX16_frames_i4 fu k (fX16_frames_h4 fu k q') _ (sI f) M L = _
      unfold fX16_frames_i4 fX16_frames_b25
      simp only [mlet]
      rw [if_neg (by rw [sI_lle (by decide) (by omega)]; omega), m_isUsed (by omega) h (by omega), mb3_s, sI_1]
      by_cases c : f ≤ G
      · obtain ⟨l, l1, l2, l3⟩ := hu f f1 c
        rw [ex1_t.mpr ⟨l, l1, l2, decide_eq_true l3⟩, bI_t, if_neg (show ¬ (1 : Int32) = 0 by decide), if_pos c, sI_1]
        rw [show f - 1 + 1 = f from by omega]
        by_cases d : f + 1 ≤ G
        · rw [if_pos d] at nx; exact nx
        · rw [if_neg d, show G = f from by omega] at nx
          rw [show G = f from by omega]; exact nx
      · rw [ex1_f.mpr (fun l l1 l2 => decide_eq_false (fun w => by have := h0 l l1 l2; omega)), bI_f, if_pos (show (0 : Int32) = 0 from rfl), if_neg c]
        rw [if_neg (by omega)] at nx
        exact nx
  have st := key 64 1 fu (by omega) (by omega) (by omega)
  by_cases c : 1 ≤ G
  · rw [if_pos c] at st; exact st
  · rw [if_neg c, show G = 0 from by omega] at st
    rw [show G = 0 from by omega]; exact st
theorem m_packsE {fu k n cap G q : Nat} {pl zl fr oc : Nat → Nat} {M : mwM} {L : mwL} (hfu : 70 ≤ fu) (h : PvM M k n cap pl zl fr oc) (hG : G ≤ 40) (h0 : ∀ l, 1 ≤ l → l ≤ n → fr l ≤ G) (hu : ∀ f, 1 ≤ f → f ≤ G → ∃ l, 1 ≤ l ∧ l ≤ n ∧ fr l = f) : fX16_packs_h196 fu k 5040 (q + 1) (1000001, M, L) = some (1, M, L) := by
  have un : fX16_packs_h196 fu k 5040 (q + 1) (1000001, M, L) = fX16_packs_i196 fu k 5040 (fX16_packs_h196 fu k 5040 q) 1000001 M L := rfl
  have hc := h.2.2.2.1
  rw [un]
  unfold fX16_packs_i196 fX16_packs_b328
  rw [if_pos (by decide), m_frames hfu h hG h0 hu, mb3_s, h.1, sI_L (by omega), sI_L (by omega), sL_mul]
  have hb : G * cap ≤ 320 := Nat.le_trans (Nat.mul_le_mul hG hc) (by omega)
  have hle : ¬ 0 < lg_cmp (sL (G * cap)) 65536 := by
    have e : lg_cmp (sL (G * cap)) 65536 ≤ 0 := by
      rw [lg_cmp_le]
      have h2 : sL (G * cap) ≤ sL 65536 := by rw [sL_le (by omega) (by omega)]; omega
      exact h2
    exact Int32.not_lt.mpr e
  rw [if_neg hle]
  unfold mzz
  rw [if_pos (Or.inr rfl)]
/-! the signals of one pack, by their numbers there -/
def lxf (P : Nat → Bool) (s : Nat) : Nat := cnt P s + 1
theorem cnt_sc {P : Nat → Bool} {s : Nat} : cnt P (s + 1) = cnt P s + (if P s = true then 1 else 0) := rfl
theorem cnt_mo {P : Nat → Bool} {s t : Nat} (h : s ≤ t) : cnt P s ≤ cnt P t := by
  induction t with
  | zero => rw [show s = 0 from by omega]; exact Nat.le_refl _
  | succ t ih =>
    by_cases e : s = t + 1
    · rw [e]; exact Nat.le_refl _
    · have := ih (by omega)
      rw [cnt_sc]
      omega
theorem cnt_in {P : Nat → Bool} {s t : Nat} (h : s < t) (hp : P s = true) : lxf P s ≤ cnt P t := by
  have h1 : cnt P (s + 1) = cnt P s + 1 := by rw [cnt_sc, if_pos hp]
  have h2 := cnt_mo (P := P) (show s + 1 ≤ t by omega)
  unfold lxf
  omega
theorem lxf_1 {P : Nat → Bool} {s : Nat} : 1 ≤ lxf P s := by unfold lxf; omega
theorem lxf_mo {P : Nat → Bool} {s t : Nat} (h : s < t) (hp : P s = true) : lxf P s < lxf P t := by
  have := cnt_in h hp
  unfold lxf at this ⊢
  omega
theorem lxf_inj {P : Nat → Bool} {s t : Nat} (hs : P s = true) (ht : P t = true) (e : lxf P s = lxf P t) : s = t := by
  rcases Nat.lt_trichotomy s t with q | q | q
  · have := lxf_mo q hs; omega
  · exact q
  · have := lxf_mo q ht; omega
theorem lxf_ex {P : Nat → Bool} {l : Nat} : ∀ {S : Nat}, 1 ≤ l → l ≤ cnt P S → ∃ s, s < S ∧ P s = true ∧ lxf P s = l := by
  intro S
  induction S with
  | zero => intro h1 h2; have h3 : cnt P 0 = 0 := rfl; omega
  | succ S ih =>
    intro h1 h2
    by_cases c : l ≤ cnt P S
    · obtain ⟨s, s1, s2, s3⟩ := ih h1 c
      exact ⟨s, by omega, s2, s3⟩
    · rw [cnt_sc] at h2
      cases hp : P S with
      | false => rw [hp, if_neg (by decide)] at h2; omega
      | true =>
        rw [hp, if_pos rfl] at h2
        exact ⟨S, by omega, hp, by unfold lxf; omega⟩
/-- the groups of a period, in the reference's numbers -/
theorem Srt_lx {P : Nat → Bool} {S m p : Nat} {g pe zs pl zl fr : Nat → Nat} (h : Srt (fun s => P s && decide (pe s = p)) zs S m g) (hz : ∀ s, s < S → P s = true → zl (lxf P s) = zs s) (hp : ∀ s, s < S → P s = true → pl (lxf P s) = pe s) (hf : ∀ s, s < S → P s = true → pe s = p → fr (lxf P s) = 0) : Srt (fun l => decide (pr6 pl fr p l)) zl (cnt P S + 1) m (fun j => lxf P (g j)) := by
  have sp : ∀ j, j < m → g j < S ∧ P (g j) = true ∧ pe (g j) = p := fun j hj => by
    obtain ⟨a, b⟩ := h.1 j hj
    dsimp only at b
    rw [Bool.and_eq_true] at b
    exact ⟨a, b.1, of_decide_eq_true b.2⟩
  refine ⟨fun j hj => ?_, fun l hl pl6 => ?_, fun i j hij hj => ?_⟩
  · obtain ⟨a, b, c⟩ := sp j hj
    have := cnt_in a b
    dsimp only
    exact ⟨by omega, decide_eq_true ⟨lxf_1, hf _ a b c, by rw [hp _ a b]; exact c⟩⟩
  · obtain ⟨q1, q2, q3⟩ := of_decide_eq_true pl6
    obtain ⟨s, s1, s2, s3⟩ := lxf_ex (P := P) (S := S) q1 (by omega)
    have q4 : pe s = p := by rw [← hp s s1 s2, s3]; exact q3
    obtain ⟨j, j1, j2⟩ := h.2.1 s s1 (by dsimp only; rw [s2, decide_eq_true q4]; rfl)
    exact ⟨j, j1, by dsimp only; rw [j2, s3]⟩
  · obtain ⟨a, b, c⟩ := sp i (by omega)
    obtain ⟨a', b', c'⟩ := sp j hj
    have w := h.2.2 i j hij hj
    dsimp only
    unfold befo at w ⊢
    rw [hz _ a b, hz _ a' b']
    rcases w with w | w
    · exact Or.inl w
    · exact Or.inr ⟨w.1, lxf_mo w.2 b⟩
theorem opn_sur {ch : Nat → Nat} {m : Nat} (h : tgt ch m) : ∀ f, f < opn ch m → ∃ j, j < m ∧ ch j = f := by
  induction m with
  | zero => intro f hf; have h3 : opn ch 0 = 0 := rfl; omega
  | succ m ih =>
    intro f hf
    have h1 := h m (by omega)
    by_cases c : f < opn ch m
    · obtain ⟨j, j1, j2⟩ := ih (fun j hj => h j (by omega)) f c
      exact ⟨j, by omega, j2⟩
    · refine ⟨m, by omega, ?_⟩
      have e : opn ch (m + 1) = if opn ch m < ch m + 1 then ch m + 1 else opn ch m := rfl
      rw [e] at hf
      split at hf <;> omega
/-- what the class has packed of a controller -/
def LkS (A0 A : mwM) (F0 G S : Nat) (P : Nat → Bool) (fr oc : Nat → Nat) : Prop :=
  A 61 11 = sI (F0 + G) ∧ (∀ s, s < S → P s = true → fr (lxf P s) ≠ 0 → A 71 s = sI (F0 + fr (lxf P s) - 1) ∧ A 72 s = sI (oc (lxf P s)) ∧ OpF A0 A (F0 + fr (lxf P s) - 1) s) ∧ (∀ s, (P s = false ∨ S ≤ s) → A 71 s = A0 71 s ∧ A 72 s = A0 72 s) ∧ ∀ a y, a ≠ 71 → a ≠ 72 → ¬ (92 ≤ a ∧ a ≤ 94) → ¬ (a = 61 ∧ (y = 11 ∨ y = 13)) → ¬ ((74 ≤ a ∧ a ≤ 77 ∨ a = 79 ∨ 86 ≤ a ∧ a ≤ 91) ∧ F0 ≤ y) → A a y = A0 a y
/-- what stands in a frame stands apart -/
def LkD (n cap : Nat) (zl fr oc : Nat → Nat) : Prop := (∀ l, 1 ≤ l → l ≤ n → fr l ≠ 0 → oc l + zl l ≤ cap) ∧ ∀ l t, 1 ≤ l → l ≤ n → 1 ≤ t → t ≤ n → l ≠ t → fr l = fr t → fr l ≠ 0 → oc l + zl l ≤ oc t ∨ oc t + zl t ≤ oc l
theorem fil_mo {ch sz : Nat → Nat} {i f : Nat} (h : ch i = f) : ∀ j, i < j → fil ch sz i f + sz i ≤ fil ch sz j f := by
  intro j
  induction j with
  | zero => intro w; omega
  | succ j ih =>
    intro w
    have e : fil ch sz (j + 1) f = fil ch sz j f + if ch j = f then sz j else 0 := rfl
    rw [e]
    by_cases q : i = j
    · subst q
      rw [if_pos h]
      exact Nat.le_refl _
    · have := ih (by omega)
      omega
/-- what the reference has packed there -/
def LkM (M0 M : mwM) (k n cap G last : Nat) (pl zl fr oc : Nat → Nat) : Prop :=
  PvM M k n cap pl zl fr oc ∧ (∀ l, 1 ≤ l → l ≤ n → (fr l = 0 ↔ last < pl l)) ∧ (∀ l, 1 ≤ l → l ≤ n → fr l ≤ G) ∧ (∀ f, 1 ≤ f → f ≤ G → ∃ l, 1 ≤ l ∧ l ≤ n ∧ fr l = f) ∧ G + cnt (fun l => decide (1 ≤ l ∧ last < pl l)) (n + 1) ≤ n ∧ LkD n cap zl fr oc ∧ ∀ a y, ¬ (k + 16 ≤ a ∧ a ≤ k + 21) → ¬ (a = k ∧ y = 14) → M a y = M0 a y
/-- how the signals stand in both -/
def LkB (S n cap : Nat) (P : Nat → Bool) (bt pe co ky pl zl : Nat → Nat) (c : Nat) : Prop := n = cnt P S ∧ (∀ s, s < S → P s = true → pl (lxf P s) = pe s ∧ zl (lxf P s) = ocs bt s ∧ ocs bt s ≤ cap ∧ co s = c) ∧ ∀ s t, s < S → t < S → P s = true → P t = true → pe s = pe t → ky s = ky t
theorem lk_step {fu k n cap S c F0 G p last : Nat} {lk : Bool} {A0 A M0 M : mwM} {L L2 : mwL} {bt pe co ky pl zl fr oc : Nat → Nat} (hfu : 90000 ≤ fu) (hS : SgC A0 S bt pe co ky) (hc : c < 6) (hB : LkB S n cap (isO co ky c lk) bt pe co ky pl zl c) (h40 : F0 + n ≤ 40) (hA : LkS A0 A F0 G S (isO co ky c lk) fr oc) (hM : LkM M0 M k n cap G last pl zl fr oc) (h1 : last < p) (h2 : p ≤ 20000) (h3 : ∃ l, 1 ≤ l ∧ l ≤ n ∧ pl l = p) (h4 : ∀ l, 1 ≤ l → l ≤ n → last < pl l → p ≤ pl l) : ∃ A1 A' M' fr' oc' G', DX6_collectGroups fu (sI c) (bI lk) (sI p) A L = some (A1, L) ∧ DX6_packGroups fu (sI cap) A1 L = some (A', L) ∧ DX16_packPeriod fu k (sI p) 5040 M L2 = some (1, M', L2) ∧ LkS A0 A' F0 G' S (isO co ky c lk) fr' oc' ∧ LkM M0 M' k n cap G' p pl zl fr' oc' := by
  obtain ⟨b1, b2, b3⟩ := hB
  obtain ⟨r1, r2, r3, r4, r5, ⟨rd1, rd2⟩, r6⟩ := hM
  obtain ⟨s1, s2, s3, s4⟩ := hA
  have hS1 : SgC A S bt pe co ky := SgC_f hS (fun a y w => s4 a y (by omega) (by omega) (by omega) (by omega) (by omega))
  have hS40 := hS.2.1
  have hn := r1.2.2.1
  have hcap := r1.2.2.2.1
  -- the counts
  have hpl0 : ∀ l, 1 ≤ l → l ≤ n → pl l = p → fr l = 0 := fun l l1 l2 l3 => (r2 l l1 l2).mpr (by omega)
  have hcn : cnt (fun l => decide (1 ≤ l ∧ last < pl l)) (n + 1) = cnt (fun l => decide (pr6 pl fr p l)) (n + 1) + cnt (fun l => decide (1 ≤ l ∧ p < pl l)) (n + 1) := by
    apply cnt_or
    intro l hl
    by_cases l0 : l = 0
    · subst l0
      rw [decide_eq_false (by omega), decide_eq_false (fun w => by have := w.1; omega), decide_eq_false (by omega)]
      exact ⟨rfl, rfl⟩
    · have w2 := r2 l (by omega) (by omega)
      have w4 := h4 l (by omega) (by omega)
      by_cases e1 : pl l = p
      · rw [decide_eq_true (show 1 ≤ l ∧ last < pl l by omega), decide_eq_true (show pr6 pl fr p l from ⟨by omega, hpl0 l (by omega) (by omega) e1, e1⟩), decide_eq_false (show ¬ (1 ≤ l ∧ p < pl l) by omega)]
        exact ⟨rfl, rfl⟩
      · rw [decide_eq_false (show ¬ pr6 pl fr p l from fun w => e1 w.2.2)]
        by_cases e2 : last < pl l
        · rw [decide_eq_true (show 1 ≤ l ∧ last < pl l by omega), decide_eq_true (show 1 ≤ l ∧ p < pl l by have := w4 e2; omega)]
          exact ⟨rfl, rfl⟩
        · rw [decide_eq_false (show ¬ (1 ≤ l ∧ last < pl l) by omega), decide_eq_false (show ¬ (1 ≤ l ∧ p < pl l) by omega)]
          exact ⟨rfl, rfl⟩
  obtain ⟨m, gl, ch, M', e1, hm, sr, pk, pp1, pp2, pp3⟩ := m_packPeriod (fu := fu) (L := L2) (F0 := G) hfu r1 h2 (fun l l1 l2 => by
    obtain ⟨s, q1, q2, q3⟩ := lxf_ex (P := isO co ky c lk) (S := S) l1 (by omega)
    obtain ⟨w1, w2, w3, w4⟩ := b2 s q1 q2
    rw [← q3, w2]; exact w3) r3 hpl0 h3 r4 (by omega)
  have hcm := Srt_cnt _ _ _ sr
  obtain ⟨m', g, A1, k1, k2, k3, k4, k5⟩ := c_collectGroups (fu := fu) (L := L) (p := p) (lk := lk) (by omega) hS1 hc h2
  have sr' := Srt_lx (zl := zl) (pl := pl) (fr := fr) k2 (fun s q1 q2 => (b2 s q1 q2).2.1) (fun s q1 q2 => (b2 s q1 q2).1) (fun s q1 q2 q3 => by
    have := cnt_in q1 q2
    exact hpl0 _ lxf_1 (by omega) (by rw [(b2 s q1 q2).1]; exact q3))
  rw [← b1] at sr'
  obtain ⟨em, eg⟩ := Srt_u sr sr'
  subst em
  have sp : ∀ j, j < m → g j < S ∧ isO co ky c lk (g j) = true ∧ pe (g j) = p := fun j hj => by
    obtain ⟨a, b⟩ := k2.1 j hj
    dsimp only at b
    rw [Bool.and_eq_true] at b
    exact ⟨a, b.1, of_decide_eq_true b.2⟩
  have hinj := Srt_inj k2
  have hz : ∀ j, j < m → zl (gl j) = ocs bt (g j) := fun j hj => by
    obtain ⟨w1, w2, w3⟩ := sp j hj
    rw [eg j hj]; exact (b2 _ w1 w2).2.1
  have hgp : GpC A1 m g (fun j => zl (gl j)) := by
    refine ⟨k3, by omega, fun j hj => ?_⟩
    obtain ⟨w1, w2, w3⟩ := sp j hj
    obtain ⟨a1, a2, a3, a4, a5, a6, a7, a8, a9, a10⟩ := hS1.2.2 (g j) w1
    have ez := hz j hj
    dsimp only
    refine ⟨k4 j hj, by omega, by rw [ez]; show 1 ≤ (bt (g j) + 7) / 8; omega, by rw [ez]; show (bt (g j) + 7) / 8 ≤ 8; omega, bt (g j), by rw [k5 _ _ (by omega) (by omega)]; exact a1, a3, by rw [ez]⟩
  have hzr : ∀ j, j < m → (fun j => zl (gl j)) j ≤ cap := fun j hj => by
    obtain ⟨w1, w2, w3⟩ := sp j hj
    dsimp only
    rw [hz j hj]; exact (b2 _ w1 w2).2.2.1
  obtain ⟨ch', A', k6, k7, pg1, pg2, pg3, pg4, pg5⟩ := c_packGroups (fu := fu) (L := L) (room := cap) (F0 := F0 + G) (by omega) hm hcap hzr hgp hinj (by rw [k5 _ _ (by omega) (by omega)]; exact s1) (by omega)
  have hch := PkW_u k7 pk
  have hway := PkW_way hm hzr pk
  have htg : tgt ch m := fun j hj => (hway j hj).1
  have hop := tgt_le htg
  have eop : opn ch' m = opn ch m := opn_c hch
  -- what stands where now
  have hgl : ∀ j, j < m → 1 ≤ gl j ∧ gl j ≤ n ∧ pl (gl j) = p := fun j hj => by
    obtain ⟨q1, q2⟩ := sr.1 j hj
    have q3 := of_decide_eq_true q2
    exact ⟨q3.1, by omega, q3.2.2⟩
  have isg : ∀ l, 1 ≤ l → l ≤ n → pl l = p → ∃ j, j < m ∧ gl j = l := fun l l1 l2 l3 => sr.2.1 l (by omega) (decide_eq_true ⟨l1, hpl0 l l1 l2 l3, l3⟩)
  have chl : ∀ j, j < m → ch j < opn ch m := fun j hj => opn_lt hj
  have frj : ∀ j, j < m → nn (M' (k + 16) (gl j)) = G + 1 + ch j ∧ nn (M' (k + 17) (gl j)) = fil ch (fun j => zl (gl j)) j (ch j) := fun j hj => by
    obtain ⟨q1, q2⟩ := pp1 j hj
    have := chl j hj
    have := (hway j hj).2
    rw [q1, q2, nn_s (by omega), nn_s (by omega)]
    exact ⟨rfl, rfl⟩
  have frn : ∀ l, 1 ≤ l → l ≤ n → pl l ≠ p → nn (M' (k + 16) l) = fr l ∧ nn (M' (k + 17) l) = oc l := fun l l1 l2 l3 => by
    obtain ⟨q1, q2⟩ := pp2 l (fun j hj w => l3 (by rw [w]; exact (hgl j hj).2.2))
    obtain ⟨a1, a2, a3, a4, a5, a6, a7, a8, a9, a10⟩ := r1.2.2.2.2 l l1 l2
    rw [q1, q2, a7, a9, nn_s (by omega), nn_s (by omega)]
    exact ⟨rfl, rfl⟩
  refine ⟨A1, A', M', fun l => nn (M' (k + 16) l), fun l => nn (M' (k + 17) l), G + opn ch m, k1, k6, e1, ?_, ?_⟩
  · -- the class
    refine ⟨by rw [pg1, eop, Nat.add_assoc], fun s q1 q2 q3 => ?_, fun s q => ?_, fun a y w1 w2 w3 w4 w5 => ?_⟩
    · dsimp only at q3 ⊢
      have hl2 := cnt_in q1 q2
      rw [← b1] at hl2
      have hl1 := lxf_1 (P := isO co ky c lk) (s := s)
      by_cases ep : pe s = p
      · obtain ⟨j, j1, j2⟩ := k2.2.1 s q1 (by dsimp only; rw [q2, decide_eq_true ep]; rfl)
        have el : gl j = lxf (isO co ky c lk) s := by rw [eg j j1, j2]
        obtain ⟨f1, f2⟩ := frj j j1
        rw [← el, f1, f2]
        obtain ⟨p1, p2⟩ := pg2 j j1
        rw [j2] at p1 p2
        have hj1 := hch j j1
        have hj2 := chl j j1
        refine ⟨by rw [p1, hj1, show F0 + (G + 1 + ch j) - 1 = F0 + G + ch j from by omega], ?_, ?_⟩
        · rw [p2, hj1, fil_c (ch' := ch) (fun i hi => hch i (by omega))]
        · have op := pg3 (F0 + G + ch j) (by omega) (by omega)
          rw [show F0 + (G + 1 + ch j) - 1 = F0 + G + ch j from by omega]
          obtain ⟨o1, o2, o3, o4, o5, o6⟩ := op
          obtain ⟨w1, w2, w3⟩ := sp 0 hm
          obtain ⟨a1, a2, a3, a4, a5, a6, a7, a8, a9, a10⟩ := hS.2.2 (g 0) w1
          obtain ⟨d1, d2, d3, d4, d5, d6, d7, d8, d9, d10⟩ := hS.2.2 s q1
          have t1 : ∀ a, a = 66 ∨ a = 68 ∨ a = 70 → A1 a (g 0) = A0 a (g 0) := fun a ha => by
            rw [k5 _ _ (by omega) (by omega)]
            exact s4 _ _ (by omega) (by omega) (by omega) (by omega) (by omega)
          have ek : ky (g 0) = ky s := b3 _ _ w1 q1 w2 q2 (by rw [w3, ep])
          have ec : co (g 0) = co s := by rw [(b2 _ w1 w2).2.2.2, (b2 _ q1 q2).2.2.2]
          exact ⟨by rw [o1, t1 68 (by omega), a7, d7, ec], by rw [o2, t1 66 (by omega), a4, d4, w3, ep], by rw [o3, t1 70 (by omega), a9, d9, ek], by rw [o4, t1 66 (by omega), a4, d4, w3, ep], o5, o6⟩
      · have np : pl (lxf (isO co ky c lk) s) ≠ p := by rw [(b2 s q1 q2).1]; exact ep
        obtain ⟨f1, f2⟩ := frn _ hl1 hl2 np
        rw [f1] at q3 ⊢
        rw [f2]
        obtain ⟨t1, t2, t3⟩ := s2 s q1 q2 q3
        have hle := r3 _ hl1 hl2
        have ng : ∀ j, j < m → s ≠ g j := fun j hj w => ep (by rw [w]; exact (sp j hj).2.2)
        obtain ⟨y1, y2⟩ := pg5 s ng
        refine ⟨by rw [y1, k5 _ _ (by omega) (by omega)]; exact t1, by rw [y2, k5 _ _ (by omega) (by omega)]; exact t2, ?_⟩
        obtain ⟨o1, o2, o3, o4, o5, o6⟩ := t3
        have t4 : ∀ a y, 74 ≤ a ∧ a ≤ 91 → y < F0 + G → A' a y = A a y := fun a y u1 u2 => by
          rw [pg4 a y (by omega) (by omega) (by omega) (by omega) (by omega) (by omega), k5 _ _ (by omega) (by omega)]
        exact ⟨by rw [t4 _ _ (by omega) (by omega)]; exact o1, by rw [t4 _ _ (by omega) (by omega)]; exact o2, by rw [t4 _ _ (by omega) (by omega)]; exact o3, by rw [t4 _ _ (by omega) (by omega)]; exact o4, by rw [t4 _ _ (by omega) (by omega)]; exact o5, fun x hx => by rw [t4 _ _ (by omega) (by omega)]; exact o6 x hx⟩
    · obtain ⟨y1, y2⟩ := pg5 s (fun j hj w => by
        obtain ⟨u1, u2, u3⟩ := sp j hj
        rcases q with q | q
        · rw [w, u2] at q; cases q
        · omega)
      rw [y1, y2, k5 _ _ (by omega) (by omega), k5 _ _ (by omega) (by omega)]
      exact s3 s q
    · rw [pg4 a y (by omega) (by omega) (by omega) (by omega) (by omega) (by omega), k5 _ _ (by omega) (by omega)]
      exact s4 a y w1 w2 w3 w4 w5
  · -- the reference
    have fle : ∀ l, 1 ≤ l → l ≤ n → M' (k + 16) l = sI (nn (M' (k + 16) l)) ∧ nn (M' (k + 16) l) ≤ G + opn ch m ∧ M' (k + 17) l = sI (nn (M' (k + 17) l)) ∧ nn (M' (k + 17) l) ≤ 8 := fun l l1 l2 => by
      by_cases e : pl l = p
      · obtain ⟨j, j1, j2⟩ := isg l l1 l2 e
        obtain ⟨f1, f2⟩ := frj j j1
        obtain ⟨u1, u2⟩ := pp1 j j1
        have v1 := chl j j1
        have v2 := (hway j j1).2
        rw [← j2, f1, f2]
        exact ⟨u1, by omega, u2, by omega⟩
      · obtain ⟨f1, f2⟩ := frn l l1 l2 e
        obtain ⟨q1, q2⟩ := pp2 l (fun j hj w => e (by rw [w]; exact (hgl j hj).2.2))
        obtain ⟨a1, a2, a3, a4, a5, a6, a7, a8, a9, a10⟩ := r1.2.2.2.2 l l1 l2
        have := r3 l l1 l2
        rw [f1, f2, q1, q2]
        exact ⟨a7, by omega, a9, a10⟩
    refine ⟨⟨by rw [pp3 _ _ (by omega) (by omega)]; exact r1.1, by rw [pp3 _ _ (by omega) (by omega)]; exact r1.2.1, hn, hcap, fun l l1 l2 => ?_⟩, fun l l1 l2 => ?_, fun l l1 l2 => (fle l l1 l2).2.1, fun f f1 f2 => ?_, by omega, ⟨fun l l1 l2 l0 => ?_, fun l t l1 l2 t1 t2 ne ef e0 => ?_⟩, fun a y w1 w2 => by rw [pp3 a y w1 w2]; exact r6 a y w1 w2⟩
    · obtain ⟨a1, a2, a3, a4, a5, a6, a7, a8, a9, a10⟩ := r1.2.2.2.2 l l1 l2
      obtain ⟨u1, u2, u3, u4⟩ := fle l l1 l2
      exact ⟨by rw [pp3 _ _ (by omega) (by omega)]; exact a1, by rw [pp3 _ _ (by omega) (by omega)]; exact a2, a3, by rw [pp3 _ _ (by omega) (by omega)]; exact a4, a5, a6, u1, by show nn (M' (k + 16) l) ≤ 64; omega, u3, u4⟩
    · dsimp only
      by_cases e : pl l = p
      · obtain ⟨j, j1, j2⟩ := isg l l1 l2 e
        obtain ⟨f1, f2⟩ := frj j j1
        rw [← j2, f1, j2]
        omega
      · obtain ⟨f1, f2⟩ := frn l l1 l2 e
        have w2 := r2 l l1 l2
        have w4 := h4 l l1 l2
        rw [f1, w2]
        constructor
        · intro w; have := w4 w; omega
        · intro w; omega
    · dsimp only
      by_cases e : f ≤ G
      · obtain ⟨l, l1, l2, l3⟩ := r4 f f1 e
        have w2 := r2 l l1 l2
        have np : pl l ≠ p := fun w => by have := hpl0 l l1 l2 w; omega
        exact ⟨l, l1, l2, by rw [(frn l l1 l2 np).1]; exact l3⟩
      · obtain ⟨j, j1, j2⟩ := opn_sur htg (f - G - 1) (by omega)
        obtain ⟨q1, q2, q3⟩ := hgl j j1
        exact ⟨gl j, q1, q2, by rw [(frj j j1).1]; omega⟩
    · dsimp only at l0 ⊢
      by_cases e : pl l = p
      · obtain ⟨j, j1, j2⟩ := isg l l1 l2 e
        rw [← j2, (frj j j1).2]
        exact (hway j j1).2
      · obtain ⟨f1, f2⟩ := frn l l1 l2 e
        rw [f1] at l0
        rw [f2]
        exact rd1 l l1 l2 l0
    · dsimp only at ef e0 ⊢
      by_cases e : pl l = p
      · obtain ⟨j, j1, j2⟩ := isg l l1 l2 e
        obtain ⟨f1, f2⟩ := frj j j1
        by_cases e' : pl t = p
        · obtain ⟨i, i1, i2⟩ := isg t t1 t2 e'
          obtain ⟨f1', f2'⟩ := frj i i1
          rw [← j2, ← i2, f1, f1'] at ef
          rw [← j2, ← i2, f2, f2']
          have ec : ch j = ch i := by omega
          rcases Nat.lt_trichotomy i j with q | q | q
          · right
            have := fil_mo (sz := fun j => zl (gl j)) ec.symm j q
            rw [← ec]
            exact this
          · exact absurd (by rw [← i2, ← j2, q]) ne
          · left
            have := fil_mo (sz := fun j => zl (gl j)) ec i q
            rw [ec]
            exact this
        · obtain ⟨f1', f2'⟩ := frn t t1 t2 e'
          have := r3 t t1 t2
          rw [← j2, f1, f1'] at ef
          omega
      · obtain ⟨f1, f2⟩ := frn l l1 l2 e
        by_cases e' : pl t = p
        · obtain ⟨i, i1, i2⟩ := isg t t1 t2 e'
          obtain ⟨f1', f2'⟩ := frj i i1
          have := r3 l l1 l2
          rw [← i2, f1, f1'] at ef
          omega
        · obtain ⟨f1', f2'⟩ := frn t t1 t2 e'
          rw [f1, f1'] at ef
          rw [f1] at e0
          rw [f2, f2']
          exact rd2 l t l1 l2 t1 t2 ne ef e0
/-! both sides step through the same periods -/
theorem cnt_z {p : Nat → Bool} (h : p 0 = false) : ∀ n, cnt p (n + 1) ≤ n := by
  intro n
  induction n with
  | zero => rw [cnt_sc, h, if_neg (by decide)]; exact Nat.le_refl _
  | succ n ih =>
    rw [cnt_sc]
    split <;> omega
theorem lk_loop {fu k n cap S c F0 : Nat} {lk : Bool} {A0 M0 : mwM} {L L2 : mwL} {bt pe co ky pl zl : Nat → Nat} (hfu : 90000 ≤ fu) (hS : SgC A0 S bt pe co ky) (hc : c < 6) (hB : LkB S n cap (isO co ky c lk) bt pe co ky pl zl c) (h40 : F0 + n ≤ 40) (hcap : cap = if lk = true then 3 else 8) : ∀ (x i q q' : Nat) (A M : mwM) (fr oc : Nat → Nat) (G last r : Nat), cnt (fun l => decide (1 ≤ l ∧ last < pl l)) (n + 1) ≤ x → i + x ≤ 40 → x < q → x + 1 < q' → last ≤ 20000 → r ≤ 1000000 → Nxp (isO co ky c lk) pe S last r → LkS A0 A F0 G S (isO co ky c lk) fr oc → LkM M0 M k n cap G last pl zl fr oc → ∃ A' M' fr' oc' G' last', fX6_packOf_h11 fu (sI c) (bI lk) q (sI r, sI i, A, L) = some (A', L) ∧ fX16_packs_h196 fu k 5040 q' (sI last, M, L2) = some (1, M', L2) ∧ LkS A0 A' F0 G' S (isO co ky c lk) fr' oc' ∧ LkM M0 M' k n cap G' last' pl zl fr' oc' ∧ ∀ l, 1 ≤ l → l ≤ n → fr' l ≠ 0 := by
  obtain ⟨b1, b2, b3⟩ := id hB
  intro x
  induction x with
  | zero =>
    intro i q q' A M fr oc G last r hx hi hq hq' hl hr hN hA hM
    obtain ⟨w, rfl⟩ : ∃ y, q = y + 1 := ⟨q - 1, by omega⟩
    obtain ⟨w', rfl⟩ : ∃ y, q' = y + 1 + 1 := ⟨q' - 2, by omega⟩
    have hn := hM.1.2.2.1
    have none : ∀ l, 1 ≤ l → l ≤ n → ¬ last < pl l := fun l l1 l2 w => by
      have := cnt_in (P := fun l => decide (1 ≤ l ∧ last < pl l)) (show l < n + 1 by omega) (decide_eq_true ⟨l1, w⟩)
      have := lxf_1 (P := fun l => decide (1 ≤ l ∧ last < pl l)) (s := l)
      omega
    rcases hN with ⟨n1, n2⟩ | ⟨⟨s, n1, n2, n3⟩, n4, n5⟩
    · rcases m_packsN (fu := fu) (L := L2) (q := w' + 1) (by omega) hM.1 hl hM.2.1 with ⟨p1, p2⟩ | ⟨p, p1, p2, ⟨l, l1, l2, l3⟩, p4⟩
      · refine ⟨A, M, fr, oc, G, last, ?_, ?_, hA, hM, fun l l1 l2 => fun u => none l l1 l2 ((hM.2.1 l l1 l2).mp u)⟩
        · show fX6_packOf_i11 fu (sI c) (bI lk) (fX6_packOf_h11 fu (sI c) (bI lk) w) (sI r) (sI i) A L = _
          unfold fX6_packOf_i11 fX6_packOf_b59
          by_cases c40 : (40 : Int32) ≤ sI i
          · rw [if_pos c40]
          · rw [if_neg c40, if_pos (by rw [n2]; decide)]
        · rw [p2, m_packsE (by omega) hM.1 (by have := hM.2.2.2.2.1; omega) hM.2.2.1 hM.2.2.2.1]
      · exact absurd (by omega : last < pl l) (none l l1 l2)
    · have h1 := (b2 s n1 n2).1
      have h2 := cnt_in n1 n2
      exact absurd (by rw [h1]; omega) (none _ lxf_1 (by omega))
  | succ x ih =>
    intro i q q' A M fr oc G last r hx hi hq hq' hl hr hN hA hM
    obtain ⟨w, rfl⟩ : ∃ y, q = y + 1 := ⟨q - 1, by omega⟩
    obtain ⟨w', rfl⟩ : ∃ y, q' = y + 1 + 1 := ⟨q' - 2, by omega⟩
    have hn := hM.1.2.2.1
    rcases hN with ⟨n1, n2⟩ | ⟨⟨s, n1, n2, n3⟩, n4, n5⟩
    · have none : ∀ l, 1 ≤ l → l ≤ n → ¬ last < pl l := fun l l1 l2 w => by
        obtain ⟨s, s1, s2, s3⟩ := lxf_ex (P := isO co ky c lk) (S := S) l1 (by omega)
        have := n1 s s1 s2
        rw [← s3, (b2 s s1 s2).1] at w
        omega
      rcases m_packsN (fu := fu) (L := L2) (q := w' + 1) (by omega) hM.1 hl hM.2.1 with ⟨p1, p2⟩ | ⟨p, p1, p2, ⟨l, l1, l2, l3⟩, p4⟩
      · refine ⟨A, M, fr, oc, G, last, ?_, ?_, hA, hM, fun l l1 l2 => fun u => none l l1 l2 ((hM.2.1 l l1 l2).mp u)⟩
        · show fX6_packOf_i11 fu (sI c) (bI lk) (fX6_packOf_h11 fu (sI c) (bI lk) w) (sI r) (sI i) A L = _
          unfold fX6_packOf_i11 fX6_packOf_b59
          by_cases c40 : (40 : Int32) ≤ sI i
          · rw [if_pos c40]
          · rw [if_neg c40, if_pos (by rw [n2]; decide)]
        · rw [p2, m_packsE (by omega) hM.1 (by have := hM.2.2.2.2.1; omega) hM.2.2.1 hM.2.2.2.1]
      · exact absurd (by omega : last < pl l) (none l l1 l2)
    · have hps := (b2 s n1 n2).1
      have hls := cnt_in n1 n2
      rcases m_packsN (fu := fu) (L := L2) (q := w' + 1) (by omega) hM.1 hl hM.2.1 with ⟨p1, p2⟩ | ⟨p, p1, p2, ⟨l, l1, l2, l3⟩, p4, p5⟩
      · have := p1 _ (lxf_1 (P := isO co ky c lk) (s := s)) (by omega)
        omega
      · have er : r = p := by
          apply Nat.le_antisymm
          · obtain ⟨t, t1, t2, t3⟩ := lxf_ex (P := isO co ky c lk) (S := S) l1 (by omega)
            have := n5 t t1 t2 (by rw [← (b2 t t1 t2).1, t3]; omega)
            rw [← (b2 t t1 t2).1, t3] at this
            omega
          · have := p4 _ (lxf_1 (P := isO co ky c lk) (s := s)) (by omega) (by omega)
            omega
        subst er
        obtain ⟨A1, A', M', fr', oc', G', k1, k2, k3, k4, k5⟩ := lk_step (fu := fu) (L := L) (L2 := L2) hfu hS hc hB h40 hA hM p1 p2 ⟨l, l1, l2, l3⟩ p4
        have hS' : SgC A' S bt pe co ky := SgC_f hS (fun a y u => k4.2.2.2 a y (by omega) (by omega) (by omega) (by omega) (by omega))
        obtain ⟨r', y1, y2, y3⟩ := c_nextPeriod (fu := fu) (L := L) (last := r) (lk := lk) (by omega) hS' hc p2
        have hlt : cnt (fun l => decide (1 ≤ l ∧ r < pl l)) (n + 1) < cnt (fun l => decide (1 ≤ l ∧ last < pl l)) (n + 1) := by
          refine cnt_lt (x := l) (by omega) (decide_eq_false (by omega)) (decide_eq_true (by omega)) (fun j _ hj => ?_)
          have := of_decide_eq_true hj
          exact decide_eq_true (by omega)
        obtain ⟨A2, M2, fr2, oc2, G2, last2, z1, z2, z3, z4, z5⟩ := ih (i + 1) w (w' + 1) A' M' fr' oc' G' r r' (by omega) (by omega) (by omega) (by omega) p2 y1 y3 k4 k5
        refine ⟨A2, M2, fr2, oc2, G2, last2, ?_, ?_, z3, z4, z5⟩
        · show fX6_packOf_i11 fu (sI c) (bI lk) (fX6_packOf_h11 fu (sI c) (bI lk) w) (sI r) (sI i) A L = _
          unfold fX6_packOf_i11
          rw [if_neg (by rw [sI_lle (by decide) (by omega)]; omega), if_neg (by rw [sI_lle (by decide) (by omega)]; omega), k1, mb2_s]
          have e42 : fX6_packOf_b42 fu (sI c) (bI lk) (fX6_packOf_h11 fu (sI c) (bI lk) w) (sI r) (sI i) (sI cap) A1 L = some (A2, L) := by
            unfold fX6_packOf_b42
            rw [k2, mb2_s, y2, mb3_s]
            simp only [mlet]
            rw [sI_1]
            exact z1
          cases lk with
          | false =>
            rw [bI_f, if_pos (show (0 : Int32) = 0 from rfl)]
            rw [if_neg (by decide)] at hcap
            rw [hcap] at e42
            exact e42
          | true =>
            rw [bI_t, if_neg (show ¬ (1 : Int32) = 0 by decide)]
            rw [if_pos rfl] at hcap
            rw [hcap] at e42
            exact e42
        · rw [p5, k3, mb3_s, if_neg (show ¬ (1 : Int32) = 0 by decide)]
          exact z2
/-- one controller's signals with or without key -/
theorem lk_packOf {fu k n cap S c F0 : Nat} {lk : Bool} {A M : mwM} {L L2 : mwL} {bt pe co ky pl btl : Nat → Nat} {tu : Nat → Bool} (hfu : 90000 ≤ fu) (hS : SgC A S bt pe co ky) (hc : c < 6) (hB : LkB S n cap (isO co ky c lk) bt pe co ky pl (fun l => (btl l + 7) / 8) c) (h40 : F0 + n ≤ 40) (hcap : cap = if lk = true then 3 else 8) (hF : A 61 11 = sI F0) (hP : PsM M k n cap btl pl tu) : ∃ A' M' fr oc G, DX6_packOf fu (sI c) (bI lk) A L = some (A', L) ∧ DX16_packs fu k 5040 M L2 = some (1, M', L2) ∧ LkS A A' F0 G S (isO co ky c lk) fr oc ∧ PvM M' k n cap pl (fun l => (btl l + 7) / 8) fr oc ∧ (∀ l, 1 ≤ l → l ≤ n → fr l ≠ 0 ∧ fr l ≤ G) ∧ (∀ f, 1 ≤ f → f ≤ G → ∃ l, 1 ≤ l ∧ l ≤ n ∧ fr l = f) ∧ G ≤ n ∧ LkD n cap (fun l => (btl l + 7) / 8) fr oc ∧ ∀ a y, ¬ (k + 16 ≤ a ∧ a ≤ k + 22) → ¬ (a = k ∧ y = 14) → M' a y = M a y := by
  have hn : n ≤ 40 := hP.2.2.1.2.1
  obtain ⟨M1, e1, e2, e3⟩ := m_packs0 (fu := fu) (L := L2) (by omega) hP
  obtain ⟨r, y1, y2, y3⟩ := c_nextPeriod (fu := fu) (L := L) (last := 0) (lk := lk) (by omega) hS hc (by omega)
  have hA : LkS A A F0 0 S (isO co ky c lk) (fun _ => 0) (fun _ => 0) := ⟨hF, fun s _ _ w => absurd rfl w, fun _ _ => ⟨rfl, rfl⟩, fun _ _ _ _ _ _ _ => rfl⟩
  have hcz := cnt_z (p := fun l => decide (1 ≤ l ∧ 0 < pl l)) (decide_eq_false (by omega)) n
  have hM : LkM M1 M1 k n cap 0 0 pl (fun l => (btl l + 7) / 8) (fun _ => 0) (fun _ => 0) := ⟨e2, fun l l1 l2 => ⟨fun _ => (hP.2.2.2 l l1 l2).2.1, fun _ => rfl⟩, fun _ _ _ => Nat.le_refl _, fun f f1 f2 => by omega, by omega, ⟨fun l l1 l2 w => absurd rfl w, fun l t l1 l2 t1 t2 ne ef w => absurd rfl w⟩, fun _ _ _ _ => rfl⟩
  obtain ⟨A', M', fr, oc, G, last, z1, z2, z3, z4, z5⟩ := lk_loop (fu := fu) (L := L) (L2 := L2) hfu hS hc hB h40 hcap n 0 fu fu A M1 _ _ 0 0 r hcz (by omega) (by omega) (by omega) (by omega) y1 y3 hA hM
  refine ⟨A', M', fr, oc, G, ?_, ?_, z3, z4.1, fun l l1 l2 => ⟨z5 l l1 l2, z4.2.2.1 l l1 l2⟩, z4.2.2.2.1, by have := z4.2.2.2.2.1; omega, z4.2.2.2.2.2.1, fun a y w1 w2 => ?_⟩
  · unfold DX6_packOf
    have y2' : DX6_nextPeriod fu (sI c) (bI lk) 0 A L = some (sI r, A, L) := y2
    rw [y2', mb3_s]
    exact z1
  · rw [e1]
    exact z2
  · rw [z4.2.2.2.2.2.2 a y (by omega) w2]
    exact e3 a y (by omega) (by omega) (by omega)
/-! the reference: what a pack leaves -/
theorem s129 {s : Nat} : (129 : Int32) * 1 + sI s = sI (129 + s) := by
  rw [show (129 : Int32) * 1 = 129 from rfl, sI_lad]
/-- what a pack leaves: where the frames begin, what they hold, where the signals are -/
def PkE (M M' : mwM) (k n cap G : Nat) (fr oc : Nat → Nat) : Prop :=
  (∀ f, 1 ≤ f → f ≤ G → M' (k + 14) f = sI ((f - 1) * cap)) ∧ (∀ y, y < G * cap → M' (k + 15) y = 0) ∧ (∀ l, 1 ≤ l → l ≤ n → M' (k + 12) (129 + l) = sI (fr l) ∧ M' (k + 13) (129 + l) = sI (8 * oc l)) ∧ ∀ a y, ¬ (k + 9 ≤ a ∧ a ≤ k + 15) → M' a y = M a y
theorem m_packT {fu k n cap G : Nat} {pl zl fr oc bt : Nat → Nat} {tu : Nat → Bool} {M : mwM} {L : mwL} (hfu : 600 ≤ fu) (h : PvM M k n cap pl zl fr oc) (hs : PsG M k n bt tu) (h15 : M k 15 = 1) (hG : G ≤ 40) (h0 : ∀ l, 1 ≤ l → l ≤ n → fr l ≤ G) (hu : ∀ f, 1 ≤ f → f ≤ G → ∃ l, 1 ≤ l ∧ l ≤ n ∧ fr l = f) : ∃ M', fX16_pack_h68 fu k 5040 fu (0, 1, M, L) = some (sI G, M', L) ∧ PkE M M' k n cap G fr oc := by
  have hn := h.2.2.1
  have hcap := h.2.2.2.1
  have hgc : G * cap ≤ 320 := Nat.le_trans (Nat.mul_le_mul hG hcap) (by omega)
  have key3 : ∀ (r s q : Nat) (B : mwM), s + r = n + 1 → r < q → 1 ≤ s → (∀ f, 1 ≤ f → f ≤ G → B (k + 14) f = sI ((f - 1) * cap)) → (∀ y, y < G * cap → B (k + 15) y = 0) → (∀ l, 1 ≤ l → l < s → B (k + 12) (129 + l) = sI (fr l) ∧ B (k + 13) (129 + l) = sI (8 * oc l)) → (∀ a y, ¬ (k + 9 ≤ a ∧ a ≤ k + 15) → B a y = M a y) → ∃ M', fX16_pack_h160 fu k 5040 q (sI G, sI s, B, L) = some (sI G, M', L) ∧ PkE M M' k n cap G fr oc := by
    intro r
    induction r with
    | zero =>
      intro s q B hs' hq s1 q1 q2 q3 q4
      obtain ⟨q', rfl⟩ : ∃ y, q = y + 1 := ⟨q - 1, by omega⟩
      refine ⟨B, ?_, q1, q2, fun l l1 l2 => q3 l l1 (by omega), q4⟩
      show fX16_pack_i160 fu k 5040 (fX16_pack_h160 fu k 5040 q') (sI G) (sI s) B L = _
      unfold fX16_pack_i160
      rw [q4 _ _ (by omega), h.2.1, if_pos (by rw [sI_lt (by omega) (by omega)]; omega)]
    | succ r ih =>
      intro s q B hs' hq s1 q1 q2 q3 q4
      obtain ⟨q', rfl⟩ : ∃ y, q = y + 1 := ⟨q - 1, by omega⟩
      obtain ⟨a1, a2, a3, a4, a5, a6, a7, a8, a9, a10⟩ := h.2.2.2.2 s s1 (by omega)
      have c1 : B (k + 5) s = sI s := by rw [q4 _ _ (by omega)]; exact a1
      have c2 : B (k + 16) s = sI (fr s) := by rw [q4 _ _ (by omega)]; exact a7
      have c3 : B (k + 17) s = sI (oc s) := by rw [q4 _ _ (by omega)]; exact a9
      have c4 : B k 15 = 1 := by rw [q4 _ _ (by omega)]; exact h15
      have c5 : B k 2 = sI n := by rw [q4 _ _ (by omega)]; exact h.2.1
      have un : fX16_pack_h160 fu k 5040 (q' + 1) (sI G, sI s, B, L) = fX16_pack_i160 fu k 5040 (fX16_pack_h160 fu k 5040 q') (sI G) (sI s) B L := rfl
      rw [un]
      unfold fX16_pack_i160
      simp only [mlet]
      rw [c5, if_neg (by rw [sI_lt (by omega) (by omega)]; omega), mck_s (by omega) (by omega), sI_nn (show s < 2000000000 by omega), c1]
      generalize hB9 : mset B (k + 9) (sI s).toNatClampNeg (B (k + 16) (sI s).toNatClampNeg) = B9
      generalize hB10 : mset B9 (k + 10) (sI s).toNatClampNeg (B9 (k + 17) (sI s).toNatClampNeg) = B10
      generalize hB11 : mset B10 (k + 11) (sI s).toNatClampNeg (vp_nar .boolean 1) = B11
      rw [sI_nn (show s < 2000000000 by omega)] at hB9 hB10 hB11
      have t0 : ∀ a y, ¬ (k + 9 ≤ a ∧ a ≤ k + 11) → B11 a y = B a y := fun a y w => by rw [← hB11, mset_n (by omega), ← hB10, mset_n (by omega), ← hB9, mset_n (by omega)]
      have t9 : B11 (k + 9) s = sI (fr s) := by rw [← hB11, mset_n (by omega), ← hB10, mset_n (by omega), ← hB9, mset_s, c2]
      have t10 : B11 (k + 10) s = sI (oc s) := by rw [← hB11, mset_n (by omega), ← hB10, mset_s, ← hB9, mset_n (by omega), c3]
      rw [t0 k 15 (by omega), c4, s129, sI_nn (show 129 + s < 2000000000 by omega), sI_nn (show s < 2000000000 by omega), t9]
      generalize hB12 : mset B11 (k + 12) (129 + s) (sI (fr s)) = B12
      have t1 : ∀ a y, ¬ (k + 9 ≤ a ∧ a ≤ k + 15) → B12 a y = M a y := fun a y w => by rw [← hB12, mset_n (by omega), t0 a y (by omega)]; exact q4 a y w
      have t15 : B12 k 15 = 1 := by rw [t1 _ _ (by omega)]; exact h15
      have t101 : B12 (k + 10) s = sI (oc s) := by rw [← hB12, mset_n (by omega)]; exact t10
      rw [m_bitIn (by omega) (PsG_f hs (fun a y w => t1 a y (by omega))) s1 (by omega), mb3_s, t15, s129, sI_nn (show 129 + s < 2000000000 by omega), t101, sI_lml, sI_1]
      rw [mck_s (show s < 129 by omega) (by omega), mck_s (show s < 129 by omega) (by omega), mck_s (show s < 129 by omega) (by omega), mck_s (show s < 129 by omega) (by omega), mck_s (show s < 129 by omega) (by omega), mck_s (show s < 129 by omega) (by omega), mck_s (show 129 + s < 2193 by omega) (by omega), mck_s (show s < 129 by omega) (by omega), mck_s (show 129 + s < 2193 by omega) (by omega)]
      have e0 : sI (8 * oc s) + 0 = sI (8 * oc s) := by rw [show (0 : Int32) = sI 0 from rfl, sI_add, Nat.add_zero]
      rw [e0]
      have t2 : ∀ a y, ¬ (k + 9 ≤ a ∧ a ≤ k + 11) → ¬ (a = k + 12 ∧ y = 129 + s) → B12 a y = B a y := fun a y w1 w2 => by rw [← hB12, mset_n (by omega)]; exact t0 a y w1
      refine ih (s + 1) q' (mset B12 (k + 13) (129 + s) (sI (8 * oc s))) (by omega) (by omega) (by omega) (fun f f1 f2 => ?_) (fun y hy => ?_) (fun l l1 l2 => ?_) (fun a y w => ?_)
      · rw [mset_n (by omega), t2 _ _ (by omega) (by omega)]; exact q1 f f1 f2
      · rw [mset_n (by omega), t2 _ _ (by omega) (by omega)]; exact q2 y hy
      · by_cases e : l = s
        · subst e
          refine ⟨by rw [mset_n (by omega), ← hB12, mset_s], by rw [mset_s]⟩
        · obtain ⟨d1, d2⟩ := q3 l l1 (by omega)
          refine ⟨by rw [mset_n (by omega), t2 _ _ (by omega) (by omega)]; exact d1, by rw [mset_n (by omega), t2 _ _ (by omega) (by omega)]; exact d2⟩
      · rw [mset_n (by omega)]; exact t1 a y w
  have key2 : ∀ (r y q : Nat) (B : mwM), y + r = G * cap → r < q → (∀ f, 1 ≤ f → f ≤ G → B (k + 14) f = sI ((f - 1) * cap)) → (∀ x, x < y → B (k + 15) x = 0) → (∀ a y, ¬ (k + 9 ≤ a ∧ a ≤ k + 15) → B a y = M a y) → ∃ M', fX16_pack_h131 fu k 5040 q (sI G, sI y, B, L) = some (sI G, M', L) ∧ PkE M M' k n cap G fr oc := by
    intro r
    induction r with
    | zero =>
      intro y q B hy hq q1 q2 q3
      obtain ⟨q', rfl⟩ : ∃ y, q = y + 1 := ⟨q - 1, by omega⟩
      have un : fX16_pack_h131 fu k 5040 (q' + 1) (sI G, sI y, B, L) = fX16_pack_i131 fu k 5040 (fX16_pack_h131 fu k 5040 q') (sI G) (sI y) B L := rfl
      rw [un]
      unfold fX16_pack_i131
      rw [q3 k 1 (by omega), h.1, sI_mul, if_pos (by rw [sI_le (by omega) (by omega)]; omega)]
      exact key3 n 1 fu B (by omega) (by omega) (by omega) q1 (fun x hx => q2 x (by omega)) (fun l l1 l2 => by omega) q3
    | succ r ih =>
      intro y q B hy hq q1 q2 q3
      obtain ⟨q', rfl⟩ : ∃ y, q = y + 1 := ⟨q - 1, by omega⟩
      have un : fX16_pack_h131 fu k 5040 (q' + 1) (sI G, sI y, B, L) = fX16_pack_i131 fu k 5040 (fX16_pack_h131 fu k 5040 q') (sI G) (sI y) B L := rfl
      rw [un]
      unfold fX16_pack_i131
      simp only [mlet]
      rw [q3 k 1 (by omega), h.1, sI_mul, if_neg (by rw [sI_le (by omega) (by omega)]; omega), mck_s (by omega) (by omega), sI_nn (by omega), sI_1]
      refine ih (y + 1) q' (mset B (k + 15) y 0) (by omega) (by omega) (fun f f1 f2 => by rw [mset_n (by omega)]; exact q1 f f1 f2) (fun x hx => ?_) (fun a x w => by rw [mset_n (by omega)]; exact q3 a x w)
      by_cases e : x = y
      · rw [e, mset_s]
      · rw [mset_n (by omega)]; exact q2 x (by omega)
  have key1 : ∀ (r f q : Nat) (B : mwM), f + r = 65 → r < q → 1 ≤ f → (∀ x, 1 ≤ x → x < f → x ≤ G → B (k + 14) x = sI ((x - 1) * cap)) → (∀ a y, ¬ (k + 9 ≤ a ∧ a ≤ k + 15) → B a y = M a y) → ∃ M', fX16_pack_h68 fu k 5040 q (sI (if f ≤ G then f - 1 else G), sI f, B, L) = some (sI G, M', L) ∧ PkE M M' k n cap G fr oc := by
    intro r
    induction r with
    | zero =>
      intro f q B hf hq f1 q1 q2
      obtain ⟨q', rfl⟩ : ∃ y, q = y + 1 := ⟨q - 1, by omega⟩
      have un : fX16_pack_h68 fu k 5040 (q' + 1) (sI (if f ≤ G then f - 1 else G), sI f, B, L) = fX16_pack_i68 fu k 5040 (fX16_pack_h68 fu k 5040 q') (sI (if f ≤ G then f - 1 else G)) (sI f) B L := rfl
      rw [un]
      unfold fX16_pack_i68
      rw [if_pos (by rw [sI_lle (by decide) (by omega)]; omega), if_neg (show ¬ f ≤ G by omega)]
      exact key2 (G * cap) 0 fu B (by omega) (by omega) (fun x x1 x2 => q1 x x1 (by omega) x2) (fun x hx => by omega) q2
    | succ r ih =>
      intro f q B hf hq f1 q1 q2
      obtain ⟨q', rfl⟩ : ∃ y, q = y + 1 := ⟨q - 1, by omega⟩
      have un : fX16_pack_h68 fu k 5040 (q' + 1) (sI (if f ≤ G then f - 1 else G), sI f, B, L) = fX16_pack_i68 fu k 5040 (fX16_pack_h68 fu k 5040 q') (sI (if f ≤ G then f - 1 else G)) (sI f) B L := rfl
      rw [un]
      have hB : PvM B k n cap pl zl fr oc := PvM_f h (fun a y w => q2 a y (by omega))
      unfold fX16_pack_i68 fX16_pack_b101 fX16_pack_b120
      simp only [mlet]
      rw [if_neg (by rw [sI_lle (by decide) (by omega)]; omega), m_isUsed (by omega) hB (by omega), mb3_s, mck_s (by omega) (by omega), mck_s (by omega) (by omega), sI_nn (by omega), hB.1, sI_1]
      by_cases c : f ≤ G
      · obtain ⟨l, l1, l2, l3⟩ := hu f f1 c
        have eu : ex1 (fun l => decide (fr l = f)) n = true := ex1_t.mpr ⟨l, l1, l2, decide_eq_true l3⟩
        rw [eu, bI_t, if_neg (show ¬ (1 : Int32) = 0 by decide), if_pos c, sI_mul]
        have nx := ih (f + 1) q' (mset B (k + 14) f (sI ((f - 1) * cap))) (by omega) (by omega) (by omega) (fun x x1 x2 x3 => by
          by_cases e : x = f
          · rw [e, mset_s]
          · rw [mset_n (by omega)]; exact q1 x x1 (by omega) x3) (fun a y w => by rw [mset_n (by omega)]; exact q2 a y w)
        have hB2 : PvM (mset B (k + 14) f (sI ((f - 1) * cap))) k n cap pl zl fr oc := PvM_f hB (fun a y w => by rw [mset_n (by omega)])
        rw [m_isUsed (by omega) hB2 (by omega), mb3_s, eu, bI_t, if_neg (show ¬ (1 : Int32) = 0 by decide), sI_1]
        have e2 : (if f + 1 ≤ G then f + 1 - 1 else G) = f - 1 + 1 := by split <;> omega
        rw [e2] at nx
        exact nx
      · have eu : ex1 (fun l => decide (fr l = f)) n = false := ex1_f.mpr (fun l l1 l2 => decide_eq_false (fun w => by have := h0 l l1 l2; omega))
        rw [eu, bI_f, if_pos (show (0 : Int32) = 0 from rfl), if_neg c]
        have nx := ih (f + 1) q' (mset B (k + 14) f (-1)) (by omega) (by omega) (by omega) (fun x x1 x2 x3 => by
          rw [mset_n (by omega)]; exact q1 x x1 (by omega) x3) (fun a y w => by rw [mset_n (by omega)]; exact q2 a y w)
        have hB2 : PvM (mset B (k + 14) f (-1)) k n cap pl zl fr oc := PvM_f hB (fun a y w => by rw [mset_n (by omega)])
        rw [m_isUsed (by omega) hB2 (by omega), mb3_s, eu, bI_f, if_pos (show (0 : Int32) = 0 from rfl)]
        rw [if_neg (by omega)] at nx
        exact nx
  have st := key1 64 1 fu M (by omega) (by omega) (by omega) (fun x x1 x2 => by omega) (fun _ _ _ => rfl)
  have e0 : (if 1 ≤ G then 1 - 1 else G) = 0 := by split <;> omega
  rw [e0] at st
  exact st
/-! keys; a pack gets its signals -/
def kyf (ka kp kn : Nat → Nat) (c p : Nat) : Nat → Nat → Nat
  | 0, _ => 0
  | r + 1, i => if ka i = c ∧ kp i = p then kn i else kyf ka kp kn c p r (i + 1)
abbrev KyC (A : mwM) (K : Nat) (ka kp kn : Nat → Nat) : Prop := A 61 12 = sI K ∧ K ≤ 400 ∧ ∀ i, i < K → A 82 i = sI (ka i) ∧ A 83 i = sI (kp i) ∧ A 84 i = sI (kn i) ∧ ka i < 6 ∧ kp i ≤ 20000 ∧ kn i ≤ 16
abbrev KyM (M : mwM) (K : Nat) (ka kp kn : Nat → Nat) : Prop := M 732 20 = sI K ∧ K ≤ 400 ∧ ∀ i, i < K → M 738 i = sI (ka i) ∧ M 739 i = sI (kp i) ∧ M 740 i = sI (kn i) ∧ ka i < 6 ∧ kp i ≤ 20000 ∧ kn i ≤ 16
theorem kyf_le {ka kp kn : Nat → Nat} {c p : Nat} : ∀ (r i : Nat), (∀ j, j < i + r → kn j ≤ 16) → kyf ka kp kn c p r i ≤ 16 := by
  intro r
  induction r with
  | zero => intro i _; exact Nat.zero_le _
  | succ r ih =>
    intro i h
    show (if ka i = c ∧ kp i = p then kn i else kyf ka kp kn c p r (i + 1)) ≤ 16
    split
    · exact h i (by omega)
    · exact ih (i + 1) (fun j hj => h j (by omega))
theorem c_keyOf {fu K c p : Nat} {ka kp kn : Nat → Nat} {A : mwM} {L : mwL} (hfu : 500 ≤ fu) (h : KyC A K ka kp kn) (hc : c < 6) (hp : p ≤ 20000) : DX6_keyOf fu (sI c) (sI p) A L = some (sI (kyf ka kp kn c p K 0), A, L) := by
  obtain ⟨h1, h2, h3⟩ := h
  unfold DX6_keyOf
  have key : ∀ (r i q : Nat), i + r = K → r < q → fX6_keyOf_h2 fu (sI c) (sI p) q (sI i, A, L) = some (sI (kyf ka kp kn c p r i), A, L) := by
    intro r
    induction r with
    | zero =>
      intro i q hi hq
      obtain ⟨q', rfl⟩ : ∃ y, q = y + 1 := ⟨q - 1, by omega⟩
      show fX6_keyOf_i2 fu (sI c) (sI p) (fX6_keyOf_h2 fu (sI c) (sI p) q') (sI i) A L = _
      unfold fX6_keyOf_i2
      rw [h1, if_pos (by rw [sI_le (by omega) (by omega)]; omega)]
      rfl
    | succ r ih =>
      intro i q hi hq
      obtain ⟨q', rfl⟩ : ∃ y, q = y + 1 := ⟨q - 1, by omega⟩
      obtain ⟨a1, a2, a3, a4, a5, a6⟩ := h3 i (by omega)
      have nx := ih (i + 1) q' (by omega) (by omega)
      show fX6_keyOf_i2 fu (sI c) (sI p) (fX6_keyOf_h2 fu (sI c) (sI p) q') (sI i) A L = _
      unfold fX6_keyOf_i2 fX6_keyOf_b43
      simp only [mlet]
      rw [h1, if_neg (by rw [sI_le (by omega) (by omega)]; omega), mck_s (by omega) (by omega), mck_s (by omega) (by omega), mck_s (by omega) (by omega), sI_nn (by omega), a1, a2, a3, sI_1]
      have e : kyf ka kp kn c p (r + 1) i = if ka i = c ∧ kp i = p then kn i else kyf ka kp kn c p r (i + 1) := rfl
      rw [e]
      by_cases c1 : ka i = c
      · rw [if_pos (by rw [c1])]
        by_cases c2 : kp i = p
        · rw [if_pos (by rw [c2]), if_pos ⟨c1, c2⟩]
        · rw [if_neg (by rw [sI_eq (by omega) (by omega)]; exact c2), if_neg (fun w => c2 w.2)]
          exact nx
      · rw [if_neg (by rw [sI_eq (by omega) (by omega)]; exact c1), if_neg (fun w => c1 w.1)]
        exact nx
  exact key K 0 fu (by omega) (by omega)
theorem m_keyOf {fu K c p : Nat} {ka kp kn : Nat → Nat} {A : mwM} {L : mwL} (hfu : 500 ≤ fu) (h : KyM A K ka kp kn) (hc : c < 6) (hp : p ≤ 20000) : DX19_keyOf fu (sI c) (sI p) A L = some (sI (kyf ka kp kn c p K 0), A, L) := by
  obtain ⟨h1, h2, h3⟩ := h
  unfold DX19_keyOf
  have key : ∀ (r i q : Nat), i + r = K → r < q → fX19_keyOf_h2 fu (sI c) (sI p) q (sI i, A, L) = some (sI (kyf ka kp kn c p r i), A, L) := by
    intro r
    induction r with
    | zero =>
      intro i q hi hq
      obtain ⟨q', rfl⟩ : ∃ y, q = y + 1 := ⟨q - 1, by omega⟩
      show fX19_keyOf_i2 fu (sI c) (sI p) (fX19_keyOf_h2 fu (sI c) (sI p) q') (sI i) A L = _
      unfold fX19_keyOf_i2
      rw [h1, if_pos (by rw [sI_le (by omega) (by omega)]; omega)]
      rfl
    | succ r ih =>
      intro i q hi hq
      obtain ⟨q', rfl⟩ : ∃ y, q = y + 1 := ⟨q - 1, by omega⟩
      obtain ⟨a1, a2, a3, a4, a5, a6⟩ := h3 i (by omega)
      have nx := ih (i + 1) q' (by omega) (by omega)
      show fX19_keyOf_i2 fu (sI c) (sI p) (fX19_keyOf_h2 fu (sI c) (sI p) q') (sI i) A L = _
      unfold fX19_keyOf_i2 fX19_keyOf_b37
      simp only [mlet]
      rw [h1, if_neg (by rw [sI_le (by omega) (by omega)]; omega), mck_s (by omega) (by omega), mck_s (by omega) (by omega), mck_s (by omega) (by omega), sI_nn (by omega), a1, a2, a3, sI_1]
      have e : kyf ka kp kn c p (r + 1) i = if ka i = c ∧ kp i = p then kn i else kyf ka kp kn c p r (i + 1) := rfl
      rw [e]
      by_cases c1 : ka i = c
      · rw [if_pos (by rw [c1])]
        by_cases c2 : kp i = p
        · rw [if_pos (by rw [c2]), if_pos ⟨c1, c2⟩]
        · rw [if_neg (by rw [sI_eq (by omega) (by omega)]; exact c2), if_neg (fun w => c2 w.2)]
          exact nx
      · rw [if_neg (by rw [sI_eq (by omega) (by omega)]; exact c1), if_neg (fun w => c1 w.1)]
        exact nx
  exact key K 0 fu (by omega) (by omega)
theorem m_anewP {fu k : Nat} {x : Int32} {M : mwM} {L : mwL} (hfu : 70 ≤ fu) : ∃ M', DX16_anew fu k x M L = some (M', L) ∧ M' k 1 = x ∧ M' k 2 = 0 ∧ M' k 15 = 0 ∧ ∀ a y, a ≠ k + 14 → ¬ (a = k ∧ (y = 1 ∨ y = 2 ∨ y = 14 ∨ y = 15)) → M' a y = M a y := by
  unfold DX16_anew
  simp only [mlet]
  generalize hB : mset (mset (mset (mset M k 1 x) k 2 0) k 15 0) k 14 0 = B
  have key : ∀ (r f q : Nat) (B : mwM), f + r = 65 → r < q → B k 1 = x ∧ B k 2 = 0 ∧ B k 15 = 0 ∧ (∀ a y, a ≠ k + 14 → ¬ (a = k ∧ (y = 1 ∨ y = 2 ∨ y = 14 ∨ y = 15)) → B a y = M a y) → ∃ M', fX16_anew_h22 fu k x q (sI f, B, L) = some (M', L) ∧ M' k 1 = x ∧ M' k 2 = 0 ∧ M' k 15 = 0 ∧ ∀ a y, a ≠ k + 14 → ¬ (a = k ∧ (y = 1 ∨ y = 2 ∨ y = 14 ∨ y = 15)) → M' a y = M a y := by
    intro r
    induction r with
    | zero =>
      intro f q B hf hq h
      obtain ⟨q', rfl⟩ : ∃ y, q = y + 1 := ⟨q - 1, by omega⟩
      refine ⟨B, ?_, h⟩
      show fX16_anew_i22 fu k x (fX16_anew_h22 fu k x q') (sI f) B L = _
      unfold fX16_anew_i22
      rw [if_pos (by rw [sI_lle (by decide) (by omega)]; omega)]
    | succ r ih =>
      intro f q B hf hq h
      obtain ⟨q', rfl⟩ : ∃ y, q = y + 1 := ⟨q - 1, by omega⟩
      have un : fX16_anew_h22 fu k x (q' + 1) (sI f, B, L) = fX16_anew_i22 fu k x (fX16_anew_h22 fu k x q') (sI f) B L := rfl
      rw [un]
      unfold fX16_anew_i22
      simp only [mlet]
      rw [if_neg (by rw [sI_lle (by decide) (by omega)]; omega), mck_s (by omega) (by omega), sI_nn (by omega), sI_1]
      obtain ⟨h1, h2, h3, h4⟩ := h
      exact ih (f + 1) q' _ (by omega) (by omega) ⟨by rw [mset_n (by omega)]; exact h1, by rw [mset_n (by omega)]; exact h2, by rw [mset_n (by omega)]; exact h3, fun a y w1 w2 => by rw [mset_n (by omega)]; exact h4 a y w1 w2⟩
  exact key 65 0 fu B (by omega) (by omega) ⟨by rw [← hB, mset_n (by omega), mset_n (by omega), mset_n (by omega), mset_s], by rw [← hB, mset_n (by omega), mset_n (by omega), mset_s], by rw [← hB, mset_n (by omega), mset_s], fun a y w1 w2 => by rw [← hB, mset_n (by omega), mset_n (by omega), mset_n (by omega), mset_n (by omega)]⟩
theorem m_signal {fu k n b p cap : Nat} {t : Bool} {M : mwM} {L : mwL} (h1 : M k 1 = sI cap) (hc : cap ≤ 8) (h2 : M k 2 = sI n) (hn : n < 40) (b1 : 1 ≤ b) (b2 : b ≤ 64) (p1 : 1 ≤ p) (p2 : p ≤ 20000) : (cap < (b + 7) / 8 → DX16_signal fu k (sI b) (sI p) (bI t) M L = some (0, mset M k 0 0, L)) ∧ ((b + 7) / 8 ≤ cap → ∃ M', DX16_signal fu k (sI b) (sI p) (bI t) M L = some (sI (n + 1), M', L) ∧ M' k 2 = sI (n + 1) ∧ M' (k + 1) (n + 1) = sI b ∧ M' (k + 2) (n + 1) = sI p ∧ M' (k + 3) (n + 1) = bI t ∧ M' (k + 4) (n + 1) = -1 ∧ M' (k + 5) (n + 1) = sI (n + 1) ∧ M' (k + 6) (n + 1) = 0 ∧ M' (k + 7) (n + 1) = 0 ∧ M' (k + 9) (n + 1) = 0 ∧ M' (k + 11) (n + 1) = 0 ∧ ∀ a y, ¬ (a = k ∧ (y = 0 ∨ y = 2)) → ¬ ((k + 1 ≤ a ∧ a ≤ k + 7 ∨ a = k + 9 ∨ a = k + 11) ∧ y = n + 1) → M' a y = M a y) := by
  have e8 : (sI b + 7) / 8 = sI ((b + 7) / 8) := by
    rw [sI_adl]
    exact sI_div (b := 8) (by omega) (by omega)
  have c1 : mset M k 0 0 k 1 = sI cap := by rw [mset_n (by omega)]; exact h1
  have c2 : mset M k 0 0 k 2 = sI n := by rw [mset_n (by omega)]; exact h2
  unfold DX16_signal
  simp only [mlet]
  rw [if_neg (by rw [sI_ltl (by omega) (by decide)]; omega), if_neg (by rw [sI_llt (by decide) (by omega)]; omega), if_neg (by rw [sI_ltl (by omega) (by decide)]; omega), if_pos (by rw [sI_lel (by omega) (by decide)]; omega), c2, if_neg (by rw [sI_eql (by omega) (by decide)]; omega), e8, c1]
  constructor
  · intro w
    rw [if_neg (by rw [sI_le (by omega) (by omega)]; omega)]
  · intro w
    rw [if_pos (by rw [sI_le (by omega) (by omega)]; omega), sI_1]
    generalize hB : mset (mset M k 0 0) k 2 (sI (n + 1)) = B
    have k2 : B k 2 = sI (n + 1) := by rw [← hB, mset_s]
    have rd : ∀ (C : mwM) (a y : Nat) (x : Int32), a ≠ k → C k 2 = sI (n + 1) → mset C a y x k 2 = sI (n + 1) := fun C a y x w1 w2 => by rw [mset_n (by omega)]; exact w2
    have bB : ∀ a y, ¬ (a = k ∧ (y = 0 ∨ y = 2)) → B a y = M a y := fun a y w => by rw [← hB, mset_n (by omega), mset_n (by omega)]
    rw [k2, mck_s (show n + 1 < 129 by omega) (by omega), sI_nn (show n + 1 < 2000000000 by omega)]
    generalize hB1 : mset B (k + 1) (n + 1) (sI b) = B1
    have k3 : B1 k 2 = sI (n + 1) := by rw [← hB1]; exact rd _ _ _ _ (by omega) k2
    rw [k3, mck_s (show n + 1 < 129 by omega) (by omega), sI_nn (show n + 1 < 2000000000 by omega)]
    generalize hB2 : mset B1 (k + 2) (n + 1) (sI p) = B2
    have k4 : B2 k 2 = sI (n + 1) := by rw [← hB2]; exact rd _ _ _ _ (by omega) k3
    rw [k4, mck_s (show n + 1 < 129 by omega) (by omega), sI_nn (show n + 1 < 2000000000 by omega), bI_n]
    generalize hB3 : mset B2 (k + 3) (n + 1) (bI t) = B3
    have k5 : B3 k 2 = sI (n + 1) := by rw [← hB3]; exact rd _ _ _ _ (by omega) k4
    rw [k5, mck_s (show n + 1 < 129 by omega) (by omega), sI_nn (show n + 1 < 2000000000 by omega)]
    generalize hB4 : mset B3 (k + 4) (n + 1) (-1) = B4
    have k6 : B4 k 2 = sI (n + 1) := by rw [← hB4]; exact rd _ _ _ _ (by omega) k5
    rw [k6, mck_s (show n + 1 < 129 by omega) (by omega), sI_nn (show n + 1 < 2000000000 by omega)]
    generalize hB5 : mset B4 (k + 5) (n + 1) (sI (n + 1)) = B5
    have k7 : B5 k 2 = sI (n + 1) := by rw [← hB5]; exact rd _ _ _ _ (by omega) k6
    rw [k7, mck_s (show n + 1 < 129 by omega) (by omega), sI_nn (show n + 1 < 2000000000 by omega)]
    generalize hB6 : mset B5 (k + 6) (n + 1) 0 = B6
    have k8 : B6 k 2 = sI (n + 1) := by rw [← hB6]; exact rd _ _ _ _ (by omega) k7
    rw [k8, mck_s (show n + 1 < 129 by omega) (by omega), sI_nn (show n + 1 < 2000000000 by omega)]
    generalize hB7 : mset B6 (k + 7) (n + 1) 0 = B7
    have k9 : B7 k 2 = sI (n + 1) := by rw [← hB7]; exact rd _ _ _ _ (by omega) k8
    rw [k9, mck_s (show n + 1 < 129 by omega) (by omega), sI_nn (show n + 1 < 2000000000 by omega)]
    generalize hB8 : mset B7 (k + 9) (n + 1) 0 = B8
    have k10 : B8 k 2 = sI (n + 1) := by rw [← hB8]; exact rd _ _ _ _ (by omega) k9
    rw [k10, mck_s (show n + 1 < 129 by omega) (by omega), sI_nn (show n + 1 < 2000000000 by omega), show vp_nar .boolean 0 = (0 : Int32) from rfl]
    refine ⟨mset B8 (k + 11) (n + 1) 0, by rw [rd _ _ _ _ (by omega) k10], rd _ _ _ _ (by omega) k10, ?_, ?_, ?_, ?_, ?_, ?_, ?_, ?_, ?_, fun a y w1 w2 => ?_⟩
    · rw [mset_n (by omega), ← hB8, mset_n (by omega), ← hB7, mset_n (by omega), ← hB6, mset_n (by omega), ← hB5, mset_n (by omega), ← hB4, mset_n (by omega), ← hB3, mset_n (by omega), ← hB2, mset_n (by omega), ← hB1, mset_s]
    · rw [mset_n (by omega), ← hB8, mset_n (by omega), ← hB7, mset_n (by omega), ← hB6, mset_n (by omega), ← hB5, mset_n (by omega), ← hB4, mset_n (by omega), ← hB3, mset_n (by omega), ← hB2, mset_s]
    · rw [mset_n (by omega), ← hB8, mset_n (by omega), ← hB7, mset_n (by omega), ← hB6, mset_n (by omega), ← hB5, mset_n (by omega), ← hB4, mset_n (by omega), ← hB3, mset_s]
    · rw [mset_n (by omega), ← hB8, mset_n (by omega), ← hB7, mset_n (by omega), ← hB6, mset_n (by omega), ← hB5, mset_n (by omega), ← hB4, mset_s]
    · rw [mset_n (by omega), ← hB8, mset_n (by omega), ← hB7, mset_n (by omega), ← hB6, mset_n (by omega), ← hB5, mset_s]
    · rw [mset_n (by omega), ← hB8, mset_n (by omega), ← hB7, mset_n (by omega), ← hB6, mset_s]
    · rw [mset_n (by omega), ← hB8, mset_n (by omega), ← hB7, mset_s]
    · rw [mset_n (by omega), ← hB8, mset_s]
    · rw [mset_s]
    · rw [mset_n (by omega), ← hB8, mset_n (by omega), ← hB7, mset_n (by omega), ← hB6, mset_n (by omega), ← hB5, mset_n (by omega), ← hB4, mset_n (by omega), ← hB3, mset_n (by omega), ← hB2, mset_n (by omega), ← hB1, mset_n (by omega)]
      exact bB a y w1
