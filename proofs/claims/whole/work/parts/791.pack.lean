/-! the class: the ways to pack a few groups -/
abbrev GpC (A : mwM) (m : Nat) (g sz : Nat → Nat) : Prop := A 61 13 = sI m ∧ m ≤ 40 ∧ ∀ j, j < m → A 92 j = sI (g j) ∧ g j < 40 ∧ 1 ≤ sz j ∧ sz j ≤ 8 ∧ ∃ bt, A 63 (g j) = sI bt ∧ bt ≤ 64 ∧ sz j = (bt + 7) / 8
abbrev FtC (A A' : mwM) : Prop := ∀ a y, a ≠ 93 → a ≠ 94 → A' a y = A a y
theorem c_octetsOf {fu s bt : Nat} {A : mwM} {L : mwL} (hs : s < 40) (h : A 63 s = sI bt) (hb : bt ≤ 64) : DX6_octetsOf fu (sI s) A L = some (sI ((bt + 7) / 8), A, L) := by
  unfold DX6_octetsOf
  rw [mck_s hs (by omega), sI_nn (by omega), h, sI_adl]
  have e : sI (bt + 7) / 8 = sI ((bt + 7) / 8) := sI_div (b := 8) (by omega) (by omega)
  rw [e]
theorem GpC_f {A A' : mwM} {m : Nat} {g sz : Nat → Nat} (h : GpC A m g sz) (hf : FtC A A') : GpC A' m g sz := by
  obtain ⟨h1, h2, h3⟩ := h
  refine ⟨by rw [hf _ _ (by omega) (by omega)]; exact h1, h2, fun j hj => ?_⟩
  obtain ⟨a, b, c, d, bt, e1, e2, e3⟩ := h3 j hj
  exact ⟨by rw [hf _ _ (by omega) (by omega)]; exact a, b, c, d, bt, by rw [hf _ _ (by omega) (by omega)]; exact e1, e2, e3⟩
theorem fil_b {ch sz : Nat → Nat} {i : Nat} (h : ∀ j, j < i → sz j ≤ 8) (f : Nat) : fil ch sz i f ≤ 8 * i := by
  induction i with
  | zero => exact Nat.le_refl _
  | succ i ih =>
    have h1 := ih (fun j hj => h j (by omega))
    have h2 := h i (by omega)
    show fil ch sz i f + (if ch i = f then sz i else 0) ≤ 8 * (i + 1)
    split <;> omega
theorem c_fits8 {fu m most room : Nat} {g sz : Nat → Nat} {L : mwL} (hfu : 50 ≤ fu) (hmost : most ≤ m) (hroom : room ≤ 8) : ∀ (r i dp : Nat) (ch : Nat → Nat) (A : mwM), i + r = m → r ≤ dp → tgt ch i → GpC A m g sz → (∀ f, f < m → A 94 f = sI (fil ch sz i f)) → (∀ j, j < i → A 93 j = sI (ch j)) →
    ∃ A', FtC A A' ∧ ((∃ ch', fnd sz room most r i ch = some ch' ∧ fX6_fits_b8 fu (DX6_fits fu dp) (sI i) (sI (opn ch i)) (sI most) (sI room) A L = some (1, A', L) ∧ ∀ j, j < m → A' 93 j = sI (ch' j)) ∨ (fnd sz room most r i ch = none ∧ fX6_fits_b8 fu (DX6_fits fu dp) (sI i) (sI (opn ch i)) (sI most) (sI room) A L = some (0, A', L) ∧ (∀ f, f < m → A' 94 f = A 94 f) ∧ ∀ j, j < i → A' 93 j = A 93 j)) := by
  intro r
  induction r with
  | zero =>
    intro i dp ch A hi hd ht hG h94 h93
    obtain ⟨g1, g2, g3⟩ := hG
    have : i = m := by omega
    subst this
    refine ⟨A, fun _ _ _ _ => rfl, Or.inl ⟨ch, rfl, ?_, fun j hj => h93 j hj⟩⟩
    unfold fX6_fits_b8
    rw [g1, if_neg (by rw [sI_lt (by omega) (by omega)]; omega)]
  | succ r ih =>
    intro i dp ch A hi hd ht hG h94 h93
    obtain ⟨g1, g2, g3⟩ := hG
    obtain ⟨b1, b2, b3, b4, bt, b5, b6, b7⟩ := g3 i (by omega)
    have hop := tgt_le ht
    have hs8 : ∀ j, j < i → sz j ≤ 8 := fun j hj => (g3 j (by omega)).2.2.2.1
    obtain ⟨dp', rfl⟩ : ∃ x, dp = x + 1 := ⟨dp - 1, by omega⟩
    unfold fX6_fits_b8
    rw [g1, if_pos (by rw [sI_lt (by omega) (by omega)]; omega), mck_s (by omega) (by omega), sI_nn (by omega), b1, c_octetsOf b2 b5 b6, mb3_s, ← b7]
    -- the tries, one behind another
    have key : ∀ (n f fq : Nat) (A1 : mwM), f + n = (if opn ch i < most then opn ch i + 1 else most) → n < fq → FtC A A1 → (∀ x, x < m → A1 94 x = A 94 x) → (∀ j, j < i → A1 93 j = A 93 j) →
        ∃ A', FtC A A' ∧ ((∃ ch', tr (fun f => if fil ch sz i f + sz i ≤ room then fnd sz room most r (i + 1) (upd1 ch i f) else none) n f = some ch' ∧ fX6_fits_h33 fu (DX6_fits fu (dp' + 1)) (sI i) (sI (opn ch i)) (sI most) (sI room) fq (sI (sz i), sI f, A1, L) = some (1, A', L) ∧ ∀ j, j < m → A' 93 j = sI (ch' j)) ∨ (tr (fun f => if fil ch sz i f + sz i ≤ room then fnd sz room most r (i + 1) (upd1 ch i f) else none) n f = none ∧ fX6_fits_h33 fu (DX6_fits fu (dp' + 1)) (sI i) (sI (opn ch i)) (sI most) (sI room) fq (sI (sz i), sI f, A1, L) = some (0, A', L) ∧ (∀ x, x < m → A' 94 x = A 94 x) ∧ ∀ j, j < i → A' 93 j = A 93 j)) := by
      intro n
      induction n with
      | zero =>
        intro f fq A1 hf hq hF h4 h3
        obtain ⟨fq', rfl⟩ : ∃ x, fq = x + 1 := ⟨fq - 1, by omega⟩
        refine ⟨A1, hF, Or.inr ⟨rfl, ?_, h4, h3⟩⟩
        unfold fX6_fits_h33
        rw [mloop_S]
        show fX6_fits_i33 fu (DX6_fits fu (dp' + 1)) (sI i) (sI (opn ch i)) (sI most) (sI room) _ (sI (sz i)) (sI f) A1 L = _
        unfold fX6_fits_i33 fX6_fits_b121
        by_cases c : opn ch i < most
        · rw [if_pos c] at hf
          rw [if_pos (by rw [sI_lt (by omega) (by omega)]; omega)]
        · rw [if_neg c] at hf
          by_cases c2 : opn ch i < f
          · rw [if_pos (by rw [sI_lt (by omega) (by omega)]; omega)]
          · rw [if_neg (by rw [sI_lt (by omega) (by omega)]; omega), if_pos (by rw [sI_le (by omega) (by omega)]; omega)]
      | succ n ihn =>
        intro f fq A1 hf hq hF h4 h3
        obtain ⟨fq', rfl⟩ : ∃ x, fq = x + 1 := ⟨fq - 1, by omega⟩
        have hfo : f ≤ opn ch i ∧ f < most := by split at hf <;> omega
        have hfb := fil_b (ch := ch) hs8 f
        have e94 : A1 94 f = sI (fil ch sz i f) := by rw [h4 f (by omega), h94 f (by omega)]
        have un : ∀ q, fX6_fits_h33 fu (DX6_fits fu (dp' + 1)) (sI i) (sI (opn ch i)) (sI most) (sI room) (fq' + 1) q = fX6_fits_i33 fu (DX6_fits fu (dp' + 1)) (sI i) (sI (opn ch i)) (sI most) (sI room) (fX6_fits_h33 fu (DX6_fits fu (dp' + 1)) (sI i) (sI (opn ch i)) (sI most) (sI room) fq') q.1 q.2.1 q.2.2.1 q.2.2.2 := fun _ => rfl
        rw [un]
        dsimp only
        unfold fX6_fits_i33
        rw [if_neg (by rw [sI_lt (by omega) (by omega)]; omega), if_neg (by rw [sI_le (by omega) (by omega)]; omega)]
        simp only [mck_s (show f < 40 by omega) (show f < 2000000000 by omega), mck_s (show i < 40 by omega) (show i < 2000000000 by omega), sI_nn (show f < 2000000000 by omega), sI_nn (show i < 2000000000 by omega), mlet]
        rw [e94, sI_add]
        by_cases c : fil ch sz i f + sz i ≤ room
        · rw [if_neg (by rw [sI_lt (by omega) (by omega)]; omega)]
          have eo : (if sI (opn ch i) < sI f + 1 then sI f + 1 else sI (opn ch i)) = sI (opn (upd1 ch i f) (i + 1)) := by
            rw [opn_u1, sI_1]
            by_cases q : opn ch i < f + 1
            · rw [if_pos q, if_pos (by rw [sI_lt (by omega) (by omega)]; exact q)]
            · rw [if_neg q, if_neg (by rw [sI_lt (by omega) (by omega)]; exact q)]
          rw [eo, sI_1]
          have e1 : DX6_fits fu (dp' + 1) (sI (i + 1)) = fX6_fits_b8 fu (DX6_fits fu dp') (sI (i + 1)) := by
            show BX6_fits fu (DX6_fits fu dp') (sI (i + 1)) = _
            funext a2 a3 a4 M' L'
            unfold BX6_fits
            rw [if_neg (by rw [sI_eql (by omega) (by decide)]; omega)]
          rw [e1]
          have hF2 : FtC A (mset (mset A1 94 f (sI (fil ch sz i f + sz i))) 93 i (sI f)) := by
            intro a y q1 q2
            rw [mset_n (by omega), mset_n (by omega)]
            exact hF a y q1 q2
          obtain ⟨A2, k1, k2⟩ := ih (i + 1) dp' (upd1 ch i f) (mset (mset A1 94 f (sI (fil ch sz i f + sz i))) 93 i (sI f)) (by omega) (by omega) (tgt_u ht hfo.1) (GpC_f ⟨g1, g2, g3⟩ hF2) (by
            intro x hx
            rw [mset_n (by omega), fil_u1]
            by_cases q : f = x
            · subst q; rw [mset_s, if_pos rfl]
            · rw [mset_n (by omega), if_neg q, h4 x hx, h94 x hx, Nat.add_zero]) (by
            intro j hj
            by_cases q : j = i
            · subst q; rw [mset_s, upd1_s]
            · rw [mset_n (by omega), mset_n (by omega), upd1_n q, h3 j (by omega), h93 j (by omega)])
          have hF3 : FtC A A2 := fun a y q1 q2 => by rw [k1 a y q1 q2]; exact hF2 a y q1 q2
          rcases k2 with ⟨ch', s1, s2, s3⟩ | ⟨s1, s2, s3, s4⟩
          · refine ⟨A2, hF3, Or.inl ⟨ch', ?_, ?_, s3⟩⟩
            · unfold tr
              rw [if_pos c, s1]
            · rw [s2, mb3_s, if_neg (by decide)]
          · rw [s2, mb3_s, if_pos (by decide)]
            have e5 : A2 94 f = sI (fil ch sz i f + sz i) := by rw [s3 f (by omega), mset_n (by omega), mset_s]
            rw [e5, sI_sub (by omega), Nat.add_sub_cancel]
            unfold fX6_fits_b115
            simp only [mlet]
            rw [sI_1]
            obtain ⟨A3, m1, m2⟩ := ihn (f + 1) fq' (mset A2 94 f (sI (fil ch sz i f))) (by omega) (by omega) (fun a y q1 q2 => by rw [mset_n (by omega)]; exact hF3 a y q1 q2) (by
              intro x hx
              by_cases q : x = f
              · subst q; rw [mset_s, h94 x hx]
              · rw [mset_n (by omega), s3 x hx, mset_n (by omega), mset_n (by omega), h4 x hx]) (by
              intro j hj
              rw [mset_n (by omega), s4 j (by omega), mset_n (by omega), mset_n (by omega), h3 j hj])
            have et : tr (fun f => if fil ch sz i f + sz i ≤ room then fnd sz room most r (i + 1) (upd1 ch i f) else none) (n + 1) f = tr (fun f => if fil ch sz i f + sz i ≤ room then fnd sz room most r (i + 1) (upd1 ch i f) else none) n (f + 1) := by
              conv => lhs; unfold tr
              rw [if_pos c, s1]
            rw [et]
            exact ⟨A3, m1, m2⟩
        · rw [if_pos (by rw [sI_lt (by omega) (by omega)]; omega)]
          unfold fX6_fits_b115
          simp only [mlet]
          rw [sI_1]
          have et : tr (fun f => if fil ch sz i f + sz i ≤ room then fnd sz room most r (i + 1) (upd1 ch i f) else none) (n + 1) f = tr (fun f => if fil ch sz i f + sz i ≤ room then fnd sz room most r (i + 1) (upd1 ch i f) else none) n (f + 1) := by
            conv => lhs; unfold tr
            rw [if_neg c]
          rw [et]
          exact ihn (f + 1) fq' A1 (by omega) (by omega) hF h4 h3
    obtain ⟨A', k1, k2⟩ := key (if opn ch i < most then opn ch i + 1 else most) 0 fu A (by omega) (by split <;> omega) (fun _ _ _ _ => rfl) (fun _ _ => rfl) (fun _ _ => rfl)
    exact ⟨A', k1, k2⟩
