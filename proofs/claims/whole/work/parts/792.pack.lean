/-- where the first frame with room is taken -/
abbrev ffi (sz : Nat → Nat) (room : Nat) (ch : Nat → Nat) (i : Nat) : Prop := ch i ≤ opn ch i ∧ (∀ f, f < ch i → room < fil ch sz i f + sz i) ∧ (ch i < opn ch i → fil ch sz i (ch i) + sz i ≤ room)
/-- the choices that the document asks for -/
def PkW (sz : Nat → Nat) (room m : Nat) (ch : Nat → Nat) : Prop :=
  (m ≤ 7 → ∃ most, 1 ≤ most ∧ most ≤ m ∧ (∀ x, 1 ≤ x → x < most → fnd sz room x m 0 (fun _ => 0) = none) ∧ fnd sz room most m 0 (fun _ => 0) = some ch) ∧ (7 < m → ∀ i, i < m → ffi sz room ch i)
theorem PkW_u {sz : Nat → Nat} {room m : Nat} {ch ch' : Nat → Nat} (h : PkW sz room m ch) (h' : PkW sz room m ch') : ∀ j, j < m → ch j = ch' j := by
  by_cases c : m ≤ 7
  · obtain ⟨x, x1, x2, x3, x4⟩ := h.1 c
    obtain ⟨y, y1, y2, y3, y4⟩ := h'.1 c
    have e : x = y := by
      apply Nat.le_antisymm
      · apply Nat.le_of_not_lt
        intro q
        rw [x3 y y1 q] at y4
        cases y4
      · apply Nat.le_of_not_lt
        intro q
        rw [y3 x x1 q] at x4
        cases x4
    subst e
    rw [x4] at y4
    cases y4
    exact fun _ _ => rfl
  · have a := h.2 (by omega)
    have b := h'.2 (by omega)
    have : ∀ i, i ≤ m → ∀ j, j < i → ch j = ch' j := by
      intro i
      induction i with
      | zero => intro _ j hj; omega
      | succ i ih =>
        intro hi j hj
        have e := ih (by omega)
        by_cases ej : j = i
        · subst ej
          obtain ⟨a1, a2, a3⟩ := a j (by omega)
          obtain ⟨b1, b2, b3⟩ := b j (by omega)
          have eo : opn ch j = opn ch' j := opn_c e
          have ef : ∀ f, fil ch sz j f = fil ch' sz j f := fun f => fil_c e f
          apply Nat.le_antisymm
          · apply Nat.le_of_not_lt
            intro q
            have q1 := a2 _ q
            have q2 := b3 (by omega)
            rw [ef] at q1
            omega
          · apply Nat.le_of_not_lt
            intro q
            have q1 := b2 _ q
            have q2 := a3 (by omega)
            rw [ef] at q2
            omega
        · exact e j (by omega)
    exact this m (Nat.le_refl _)
/-- what all such choices have in common -/
theorem PkW_way {sz : Nat → Nat} {room m : Nat} {ch : Nat → Nat} (hm : 0 < m) (hr : ∀ j, j < m → sz j ≤ room) (h : PkW sz room m ch) : (∀ j, j < m → ch j ≤ opn ch j ∧ fil ch sz j (ch j) + sz j ≤ room) := by
  intro j hj
  by_cases c : m ≤ 7
  · obtain ⟨x, x1, x2, x3, x4⟩ := h.1 c
    obtain ⟨w1, w2⟩ := fnd_some _ _ _ _ x4
    obtain ⟨v1, v2, v3⟩ := w2 j (by omega) (by omega)
    exact ⟨v1, v3⟩
  · obtain ⟨a1, a2, a3⟩ := h.2 (by omega) j hj
    refine ⟨a1, ?_⟩
    by_cases q : ch j < opn ch j
    · exact a3 q
    · rw [fil_0 (by omega)]
      have := hr j hj
      omega
theorem c_empty {fu m : Nat} {A : mwM} {L : mwL} (hfu : 50 ≤ fu) (h : A 61 13 = sI m) (hm : m ≤ 40) : ∃ A', DX6_emptyFrames fu A L = some (A', L) ∧ (∀ f, f < m → A' 94 f = 0) ∧ ∀ a y, a ≠ 94 → A' a y = A a y := by
  have key : ∀ (n f q : Nat) (B : mwM), f + n = m → n < q → (∀ x, x < f → B 94 x = 0) → (∀ a y, a ≠ 94 → B a y = A a y) → ∃ A', fX6_emptyFrames_h2 fu q (sI f, B, L) = some (A', L) ∧ (∀ f, f < m → A' 94 f = 0) ∧ ∀ a y, a ≠ 94 → A' a y = A a y := by
    intro n
    induction n with
    | zero =>
      intro f q B hf hq h1 h2
      obtain ⟨q', rfl⟩ : ∃ x, q = x + 1 := ⟨q - 1, by omega⟩
      have : f = m := by omega
      subst this
      refine ⟨B, ?_, h1, h2⟩
      unfold fX6_emptyFrames_h2
      rw [mloop_S]
      show fX6_emptyFrames_i2 fu _ (sI f) B L = _
      unfold fX6_emptyFrames_i2
      rw [h2 61 13 (by omega), h, if_pos (by rw [sI_le (by omega) (by omega)]; omega)]
    | succ n ih =>
      intro f q B hf hq h1 h2
      obtain ⟨q', rfl⟩ : ∃ x, q = x + 1 := ⟨q - 1, by omega⟩
      unfold fX6_emptyFrames_h2
      rw [mloop_S]
      show ∃ A', fX6_emptyFrames_i2 fu (fX6_emptyFrames_h2 fu q') (sI f) B L = some (A', L) ∧ _
      unfold fX6_emptyFrames_i2
      rw [h2 61 13 (by omega), h, if_neg (by rw [sI_le (by omega) (by omega)]; omega), mck_s (by omega) (by omega), sI_nn (by omega)]
      simp only [mlet]
      rw [sI_1]
      refine ih (f + 1) q' (mset B 94 f 0) (by omega) (by omega) (fun x hx => ?_) (fun a y q1 => by rw [mset_n (by omega)]; exact h2 a y q1)
      by_cases e : x = f
      · subst e; rw [mset_s]
      · rw [mset_n (by omega)]; exact h1 x (by omega)
  exact key m 0 fu A (by omega) (by omega) (fun x hx => by omega) (fun _ _ _ => rfl)
/-- the class: whether the groups go into so many frames -/
theorem c_fits0 {fu m most room : Nat} {g sz : Nat → Nat} {A : mwM} {L : mwL} (hfu : 50 ≤ fu) (hmost : most ≤ m) (hroom : room ≤ 8) (hG : GpC A m g sz) : ∃ A', FtC A A' ∧ ((∃ ch', fnd sz room most m 0 (fun _ => 0) = some ch' ∧ DX6_fits fu 42 0 0 (sI most) (sI room) A L = some (1, A', L) ∧ ∀ j, j < m → A' 93 j = sI (ch' j)) ∨ (fnd sz room most m 0 (fun _ => 0) = none ∧ DX6_fits fu 42 0 0 (sI most) (sI room) A L = some (0, A', L))) := by
  obtain ⟨A1, e1, z1, f1⟩ := c_empty (L := L) hfu hG.1 hG.2.1
  have hF : FtC A A1 := fun a y _ q => f1 a y q
  have e2 : DX6_fits fu 42 0 0 (sI most) (sI room) A L = fX6_fits_b8 fu (DX6_fits fu 41) (sI 0) (sI (opn (fun _ => 0) 0)) (sI most) (sI room) A1 L := by
    show BX6_fits fu (DX6_fits fu 41) 0 0 (sI most) (sI room) A L = _
    unfold BX6_fits
    rw [if_pos (show (0 : Int32) = 0 from rfl), e1]
    rfl
  have hm40 := hG.2.1
  obtain ⟨A', k1, k2⟩ := c_fits8 (L := L) hfu hmost hroom m 0 41 (fun _ => 0) A1 (by omega) (by omega) (fun j hj => by omega) (GpC_f hG hF) (fun f hf => by rw [z1 f hf]; rfl) (fun j hj => by omega)
  refine ⟨A', fun a y q1 q2 => by rw [k1 a y q1 q2]; exact hF a y q1 q2, ?_⟩
  rw [e2]
  rcases k2 with ⟨ch', s1, s2, s3⟩ | ⟨s1, s2, s3, s4⟩
  · exact Or.inl ⟨ch', s1, s2, s3⟩
  · exact Or.inr ⟨s1, s2⟩
theorem c_packBest {fu m room : Nat} {g sz : Nat → Nat} {A : mwM} {L : mwL} (hfu : 50 ≤ fu) (hm : 0 < m) (hm7 : m ≤ 7) (hroom : room ≤ 8) (hr : ∀ j, j < m → sz j ≤ room) (hG : GpC A m g sz) : ∃ ch A', DX6_packBest fu (sI room) A L = some (sI (opn ch m), A', L) ∧ PkW sz room m ch ∧ FtC A A' ∧ ∀ j, j < m → A' 93 j = sI (ch j) := by
  have fin : ∀ most ch, 1 ≤ most → most ≤ m → (∀ x, 1 ≤ x → x < most → fnd sz room x m 0 (fun _ => 0) = none) → fnd sz room most m 0 (fun _ => 0) = some ch → opn ch m = most ∧ PkW sz room m ch := by
    intro most ch h1 h2 h3 h4
    obtain ⟨w1, w2⟩ := fnd_some _ _ _ _ h4
    rw [Nat.zero_add] at w2
    exact ⟨way_all hm w2 h3, fun _ => ⟨most, h1, h2, h3, h4⟩, fun q => by omega⟩
  have key : ∀ (n most q : Nat) (B : mwM), most + n = m → n < q → 1 ≤ most → FtC A B → (∀ x, 1 ≤ x → x < most → fnd sz room x m 0 (fun _ => 0) = none) → ∃ ch A', fX6_packBest_h2 fu (sI room) q (sI most, B, L) = some (sI (opn ch m), A', L) ∧ PkW sz room m ch ∧ FtC A A' ∧ ∀ j, j < m → A' 93 j = sI (ch j) := by
    intro n
    induction n with
    | zero =>
      intro most q B hf hq h1 hF hn
      obtain ⟨q', rfl⟩ : ∃ x, q = x + 1 := ⟨q - 1, by omega⟩
      have : most = m := by omega
      subst this
      have hG' := GpC_f hG hF
      obtain ⟨A', k1, k2⟩ := c_fits0 (L := L) (most := most) hfu (by omega) hroom hG'
      have un : fX6_packBest_h2 fu (sI room) (q' + 1) (sI most, B, L) = fX6_packBest_i2 fu (sI room) (fX6_packBest_h2 fu (sI room) q') (sI most) B L := rfl
      rw [un]
      unfold fX6_packBest_i2
      rw [hG'.1, if_pos (by rw [sI_le (by omega) (by omega)]; omega)]
      have hF2 : FtC A A' := fun a y q1 q2 => by rw [k1 a y q1 q2]; exact hF a y q1 q2
      rcases k2 with ⟨ch', s1, s2, s3⟩ | ⟨s1, s2⟩
      · obtain ⟨o1, o2⟩ := fin most ch' h1 (by omega) hn s1
        refine ⟨ch', A', ?_, o2, hF2, s3⟩
        rw [s2, mb3_s, hF2 61 13 (by omega) (by omega), hG.1, o1]
      · exact absurd (way_own hr) (fun w => fnd_none _ _ _ _ s1 (fun j hj => by omega) (by rw [Nat.zero_add]; exact w))
    | succ n ih =>
      intro most q B hf hq h1 hF hn
      obtain ⟨q', rfl⟩ : ∃ x, q = x + 1 := ⟨q - 1, by omega⟩
      have hG' := GpC_f hG hF
      obtain ⟨A', k1, k2⟩ := c_fits0 (L := L) (most := most) hfu (by omega) hroom hG'
      have un : fX6_packBest_h2 fu (sI room) (q' + 1) (sI most, B, L) = fX6_packBest_i2 fu (sI room) (fX6_packBest_h2 fu (sI room) q') (sI most) B L := rfl
      rw [un]
      unfold fX6_packBest_i2
      rw [hG'.1, if_neg (by rw [sI_le (by omega) (by omega)]; omega)]
      have hF2 : FtC A A' := fun a y q1 q2 => by rw [k1 a y q1 q2]; exact hF a y q1 q2
      rcases k2 with ⟨ch', s1, s2, s3⟩ | ⟨s1, s2⟩
      · obtain ⟨o1, o2⟩ := fin most ch' h1 (by omega) hn s1
        refine ⟨ch', A', ?_, o2, hF2, s3⟩
        rw [s2, mb3_s, if_neg (by decide), o1]
      · rw [s2, mb3_s, if_pos (by decide)]
        simp only [mlet]
        rw [sI_1]
        refine ih (most + 1) q' A' (by omega) (by omega) (by omega) hF2 (fun x x1 x2 => ?_)
        by_cases e : x = most
        · subst e; exact s1
        · exact hn x x1 (by omega)
  exact key (m - 1) 1 fu A (by omega) (by omega) (by omega) (fun _ _ _ _ => rfl) (fun x x1 x2 => by omega)
