/-- the first c cores are settled -/
def SA (A : mwM) (T c : Nat) : Prop := ∀ c', c' < c → ∃ b, stl A c' T b ∧ ∀ x, b = some x → x < T ∧ A 13 x ≠ 0 ∧ A 8 x = sI c'
theorem bsN_none {A : mwM} {c T : Nat} (h : ∀ x, x < T → ¬ A 8 x = sI c) : ∀ j, j ≤ T → bsN A c none j = none := by
  intro j
  induction j with
  | zero => intro _; rfl
  | succ j ih =>
    intro hj
    unfold bsN
    rw [ih (by omega)]
    simp only []
    rw [if_neg (fun q => h j (by omega) q.1)]
theorem c_settle0 {fu : Nat} {A M : mwM} {L Lc : mwL} {T C tn cn U c : Nat} (hf : 33 ≤ fu) (h : RC A M L T C tn cn U) (hc : c < 6) (hC : C ≤ c) : DX4_settle fu (sI c) A Lc = some (A, Lc) ∧ stl A c T none := by
  obtain ⟨hT, _, _, _, a3, _, _, _, _, _, _, _, _, _, _, ht1, hch⟩ := h
  obtain ⟨w, v1, v2, v3⟩ := hch c hc
  have hno : ∀ x, x < T → ¬ A 8 x = sI c := by
    intro x hx q
    obtain ⟨rk, co, pe, mi, nx, st, lf, wa, tu, us, dn, q1, q2, q3⟩ := ht1 x hx
    rw [q2.2.1] at q
    have := (sI_eq (by have := q1.2.1; omega) (by omega)).mp q
    have := q1.2.1
    omega
  have hw : w = none := by
    cases hw' : w with
    | none => rfl
    | some x => exact absurd ((v3 x (v2 x hw')).mpr hw').1 (hno x (v2 x hw'))
  subst hw
  have hcc := c_choose (fu := fu) (L := Lc) (by omega) hc hT a3 v1 v2
  rw [bsN_none hno T (Nat.le_refl _), chA_id v1 (fun x hx => by cases hx)] at hcc
  refine ⟨?_, v1, fun x hx h8 _ => absurd h8 (hno x hx)⟩
  obtain ⟨f, rfl⟩ : ∃ f, fu = f + 1 := ⟨fu - 1, by omega⟩
  unfold DX4_settle fX4_settle_h2
  rw [mloop_S]
  show fX4_settle_i2 (f + 1) (sI c) _ 0 A Lc = _
  unfold fX4_settle_i2 fX4_settle_b36
  rw [if_neg (by decide), hcc, mb2_s, mck_s (by omega) (by omega), sI_nn (by omega), v1]
  rfl
abbrev gloA (A A' : mwM) : Prop := (∀ b y, b ≠ 5 → ¬ (12 ≤ b ∧ b ≤ 15) → b ≠ 18 → A' b y = A b y) ∧ ∀ y, y ≠ 4 → A' 5 y = A 5 y
theorem nend_le (A : mwM) (c T : Nat) : nend A c T ≤ T := cnt_le _ _
theorem st_all {fu : Nat} {Lc : mwL} {T C cn U t : Nat} (hf : 33 ≤ fu) : ∀ (m c : Nat) (A : mwM) (tn f : Nat), c + m = 6 → m < f → tn + 12 * m < 100000000 → SA A T c → (∃ M L, RC A M L T C tn cn U) → ∃ A' tn', fX4_passMicrosecond_h19 fu (sI t) f (sI c, A, Lc) = fX4_passMicrosecond_b36 fu (sI t) A' Lc ∧ tn ≤ tn' ∧ tn' ≤ tn + 12 * m ∧ SA A' T 6 ∧ gloA A A' ∧ (C ≤ c → A' = A ∧ tn' = tn) ∧ (∃ M0 L0, RC A' M0 L0 T C tn' cn U) ∧ ∀ (M : mwM) (L : mwL) (v1 : Int32) (r42 : Int32 × mwM × mwL → Option (Int32 × mwM × mwL)) (Q : Int32 × mwM × mwL → Prop) (f2 : Nat), RC A M L T C tn cn U → c ≤ C → m < f2 → (∀ v1' M' L', (v1' = v1 ∨ v1' = 1) → RC A' M' L' T C tn' cn U → locM M M' L L' → wq (r42 (v1', M', L')) Q) → wq (fX15_microsecond_h50 fu r42 f2 (v1, sI c, M, L)) Q := by
  intro m
  induction m with
  | zero =>
    intro c A tn f hc hf1 htn hSA ⟨Mx, Lx, h⟩
    have hc6 : c = 6 := by omega
    subst hc6
    obtain ⟨g, rfl⟩ : ∃ g, f = g + 1 := ⟨f - 1, by omega⟩
    refine ⟨A, tn, ?_, Nat.le_refl _, by omega, hSA, ⟨fun _ _ _ _ _ => rfl, fun _ _ => rfl⟩, fun _ => ⟨rfl, rfl⟩, ⟨Mx, Lx, h⟩, ?_⟩
    · unfold fX4_passMicrosecond_h19
      rw [mloop_S]
      show fX4_passMicrosecond_i19 fu (sI t) _ (sI 6) A Lc = _
      unfold fX4_passMicrosecond_i19
      rw [if_pos (by decide)]
    · intro M L v1 r42 Q f2 hR hcC hf2 hQ
      obtain ⟨g2, rfl⟩ : ∃ g2, f2 = g2 + 1 := ⟨f2 - 1, by omega⟩
      have hC6 := hR.2.1
      have m0 : M 787 0 = sI C := hR.2.2.2.2.2.2.2.1
      unfold fX15_microsecond_h50
      rw [mloop_S]
      show wq (fX15_microsecond_i50 fu r42 _ v1 (sI 6) M L) _
      unfold fX15_microsecond_i50
      rw [m0, if_pos (by rw [sI_le (by omega) (by omega)]; omega)]
      exact hQ v1 M L (Or.inl rfl) hR ⟨fun _ _ _ => rfl, fun _ _ _ _ => rfl⟩
  | succ m ih =>
    intro c A tn f hc hf1 htn hSA ⟨Mx, Lx, h⟩
    obtain ⟨g, rfl⟩ : ∃ g, f = g + 1 := ⟨f - 1, by omega⟩
    have hc6 : c < 6 := by omega
    have hT := h.1
    have hC6 := h.2.1
    by_cases hcC : c < C
    · -- a core with a controller
      obtain ⟨A1, b1, tn1, s1, s2, s3, s4, s5, s6, ⟨M0, L0, s7⟩, s8⟩ := st_settle (Lc := Lc) (T := T) (C := C) (cn := cn) hf hc6 12 A tn 0 fu (by have := nend_le A c T; omega) (by omega) (by omega) (by omega) ⟨Mx, Lx, h⟩
      have hSA1 : SA A1 T (c + 1) := by
        intro c' hc'
        by_cases hcc : c' = c
        · subst hcc
          obtain ⟨h12, _, _⟩ := m_idle hf s7 hc6 s4 (fun x hx => (s5 x hx).1)
          exact ⟨b1, s4, fun x hx => ⟨(s5 x hx).1, (s5 x hx).2, (h12 x hx).1⟩⟩
        · obtain ⟨b, u1, u2⟩ := hSA c' (by omega)
          obtain ⟨w1, w2⟩ := stl_loc (by omega) hc6 hcc s6 u1 (fun x hx => (u2 x hx).2.2)
          refine ⟨b, w1, fun x hx => ⟨(u2 x hx).1, ?_, ?_⟩⟩
          · rw [w2 x hx]; exact (u2 x hx).2.1
          · rw [s6.1 8 x (by omega) (by omega) (by omega)]; exact (u2 x hx).2.2
      obtain ⟨A', tn', i1, i2, i3, i4, i5, i6, i8, i7⟩ := ih (c + 1) A1 tn1 g (by omega) (by omega) (by omega) hSA1 ⟨M0, L0, s7⟩
      have hglo : gloA A A' := ⟨fun b y q1 q2 q3 => (i5.1 b y q1 q2 q3).trans (s6.1 b y q1 q2 (by omega)), fun y q => (i5.2 y q).trans (s6.2.1 y q)⟩
      refine ⟨A', tn', ?_, by omega, by omega, i4, hglo, fun q => by omega, i8, ?_⟩
      · unfold fX4_passMicrosecond_h19
        rw [mloop_S]
        show fX4_passMicrosecond_i19 fu (sI t) (fX4_passMicrosecond_h19 fu (sI t) g) (sI c) A Lc = _
        unfold fX4_passMicrosecond_i19
        rw [if_neg (by rw [sI_lle (by omega) (by omega)]; omega)]
        unfold DX4_settle
        show mb2 (fX4_settle_h2 fu (sI c) fu (sI 0, A, Lc)) _ = _
        rw [s1, mb2_s]
        simp only [mlet]
        rw [sI_1]
        exact i1
      · intro M L v1 r42 Q f2 hR hcC2 hf2 hQ
        obtain ⟨g2, rfl⟩ : ∃ g2, f2 = g2 + 1 := ⟨f2 - 1, by omega⟩
        have m0 : M 787 0 = sI C := hR.2.2.2.2.2.2.2.1
        unfold fX15_microsecond_h50
        rw [mloop_S]
        show wq (fX15_microsecond_i50 fu r42 (fX15_microsecond_h50 fu r42 g2) v1 (sI c) M L) _
        unfold fX15_microsecond_i50
        rw [m0, if_neg (by rw [sI_le (by omega) (by omega)]; omega)]
        refine s8 M L fu (by omega) hR v1 r42 (fX15_microsecond_h50 fu r42 g2) Q ?_
        intro v1' M' L' hv hR' hlo
        refine i7 M' L' v1' r42 Q g2 hR' (by omega) (by omega) ?_
        intro v1'' M'' L'' hv' hR'' hlo'
        refine hQ v1'' M'' L'' ?_ hR'' ⟨fun b y q => (hlo'.1 b y q).trans (hlo.1 b y q), fun b y q1 q2 => (hlo'.2 b y q1 q2).trans (hlo.2 b y q1 q2)⟩
        rcases hv' with h1 | h1
        · rcases hv with h2 | h2
          · exact Or.inl (h1.trans h2)
          · exact Or.inr (h1.trans h2)
        · exact Or.inr h1
    · -- a core without one
      obtain ⟨s1, s2⟩ := c_settle0 (Lc := Lc) hf h hc6 (by omega)
      have hSA1 : SA A T (c + 1) := by
        intro c' hc'
        by_cases hcc : c' = c
        · subst hcc
          exact ⟨none, s2, fun x hx => by cases hx⟩
        · exact hSA c' (by omega)
      obtain ⟨A', tn', i1, i2, i3, i4, i5, i6, i8, i7⟩ := ih (c + 1) A tn g (by omega) (by omega) (by omega) hSA1 ⟨Mx, Lx, h⟩
      obtain ⟨rfl, rfl⟩ := i6 (by omega)
      refine ⟨A', tn', ?_, Nat.le_refl _, by omega, i4, i5, fun _ => ⟨rfl, rfl⟩, i8, ?_⟩
      · unfold fX4_passMicrosecond_h19
        rw [mloop_S]
        show fX4_passMicrosecond_i19 fu (sI t) (fX4_passMicrosecond_h19 fu (sI t) g) (sI c) A' Lc = _
        unfold fX4_passMicrosecond_i19
        rw [if_neg (by rw [sI_lle (by omega) (by omega)]; omega), s1, mb2_s]
        simp only [mlet]
        rw [sI_1]
        exact i1
      · intro M L v1 r42 Q f2 hR hcC2 hf2 hQ
        obtain ⟨g2, rfl⟩ : ∃ g2, f2 = g2 + 1 := ⟨f2 - 1, by omega⟩
        have m0 : M 787 0 = sI C := hR.2.2.2.2.2.2.2.1
        unfold fX15_microsecond_h50
        rw [mloop_S]
        show wq (fX15_microsecond_i50 fu r42 (fX15_microsecond_h50 fu r42 g2) v1 (sI c) M L) _
        unfold fX15_microsecond_i50
        rw [m0, if_pos (by rw [sI_le (by omega) (by omega)]; omega)]
        exact hQ v1 M L (Or.inl rfl) hR ⟨fun _ _ _ => rfl, fun _ _ _ _ => rfl⟩
/-- nothing is to be done on any core: the reference goes round once -/
theorem m_round {fu : Nat} {A M : mwM} {L : mwL} {T C tn cn U : Nat} {v1 : Int32} {r42 : Int32 × mwM × mwL → Option (Int32 × mwM × mwL)} {Q : Int32 × mwM × mwL → Prop} (hf : 33 ≤ fu) (h : RC A M L T C tn cn U) (hS : SA A T 6) (hQ : wq (r42 (v1, M, L)) Q) : ∀ (m c f : Nat), c + m = C → m < f → wq (fX15_microsecond_h50 fu r42 f (v1, sI c, M, L)) Q := by
  have hC6 := h.2.1
  have m0 : M 787 0 = sI C := h.2.2.2.2.2.2.2.1
  intro m
  induction m with
  | zero =>
    intro c f hc hf1
    obtain ⟨g, rfl⟩ : ∃ g, f = g + 1 := ⟨f - 1, by omega⟩
    unfold fX15_microsecond_h50
    rw [mloop_S]
    show wq (fX15_microsecond_i50 fu r42 _ v1 (sI c) M L) _
    unfold fX15_microsecond_i50
    rw [m0, if_pos (by rw [sI_le (by omega) (by omega)]; omega)]
    exact hQ
  | succ m ih =>
    intro c f hc hf1
    obtain ⟨g, rfl⟩ : ∃ g, f = g + 1 := ⟨f - 1, by omega⟩
    obtain ⟨b, u1, u2⟩ := hS c (by omega)
    obtain ⟨_, _, hst⟩ := m_idle hf h (by omega) u1 (fun x hx => (u2 x hx).1)
    obtain ⟨g3, hg3⟩ : ∃ g3, fu = g3 + 1 := ⟨fu - 1, by omega⟩
    unfold fX15_microsecond_h50
    rw [mloop_S]
    show wq (fX15_microsecond_i50 fu r42 (fX15_microsecond_h50 fu r42 g) v1 (sI c) M L) _
    unfold fX15_microsecond_i50
    rw [m0, if_neg (by rw [sI_le (by omega) (by omega)]; omega)]
    have e : fX15_microsecond_h58 fu r42 (fX15_microsecond_h50 fu r42 g) fu (v1, sI c, M, L) = fX15_microsecond_h50 fu r42 g (v1, sI (c + 1), M, L) := by
      unfold fX15_microsecond_h58
      conv => lhs; rw [hg3]
      rw [mloop_S]
      show fX15_microsecond_i58 (g3 + 1) r42 (fX15_microsecond_h50 (g3 + 1) r42 g) _ v1 (sI c) M L = _
      unfold fX15_microsecond_i58
      rw [← hg3, hst (fun x hx => (u2 x hx).2.1), mb3_s, if_pos rfl]
      simp only [mlet]
      rw [sI_1]
    rw [e]
    exact ih (c + 1) g (by omega) (by omega)
