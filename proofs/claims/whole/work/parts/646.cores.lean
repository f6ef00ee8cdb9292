/-! the reference: the microsecond passes on all cores -/
theorem rw_16 : ∀ n, n < 16 → vp_nar .short (sI n).toInt16.toInt32 = sI n := by decide +kernel
theorem stl_us {B : mwM} {c T : Nat} {b : Option Nat} (h : stl B c T b) (c' : Nat) : stl (usN B c') c T b := by
  refine ⟨by rw [usN_f (by decide) (by decide) (by decide) (by omega)]; exact h.1, ?_⟩
  intro x hx h8 h12
  rw [usN_f (by decide) (by decide) (by decide) (by omega)] at h8 h12
  obtain ⟨y, q1, q2, q3⟩ := h.2 x hx h8 h12
  exact ⟨y, q1, by rw [usN_f (by decide) (by decide) (by decide) (by omega)]; exact q2, by rw [usN_f (by decide) (by decide) (by decide) (by omega), usN_f (by decide) (by decide) (by decide) (by omega)]; exact q3⟩
theorem m_uses {fu : Nat} {B M : mwM} {L : mwL} {T C tn cn U now : Nat} (hf : 33 ≤ fu) (hnow : now < 20000) (hU : U + 6 < 1000000) (hS : SA B T 6) (h : RC B M L T C tn cn U) (hN : L 787 43 = sL now) : wq (fX15_microsecond_b121 fu M L) (fun q => RC (usN B 6) q.2.1 q.2.2 T C tn cn (U + 6) ∧ q.2.2 787 43 = sL (now + 1) ∧ (∀ c, c < C → q.2.1 820 (20000 * c + now) = sI (rwV B c)) ∧ (∀ y, (∀ c, c < C → y ≠ 20000 * c + now) → q.2.1 820 y = M 820 y) ∧ (∀ b y, b ≠ 820 → b ≠ 799 → b ≠ 801 → q.2.1 b y = M b y) ∧ ∀ b y, b ≠ 800 → b ≠ 805 → ¬ (b = 787 ∧ y = 43) → q.2.2 b y = L b y) := by
  have hT := h.1
  have hC := h.2.1
  have hchs : ∀ c, c < 6 → ∃ b, chs B c = b ∧ stl B c T b ∧ ∀ x, b = some x → x < T ∧ B 13 x ≠ 0 ∧ B 8 x = sI c ∧ B 12 x = 2 := by
    intro c hc
    obtain ⟨b, u1, u2⟩ := hS c hc
    obtain ⟨h12, _, _⟩ := m_idle hf h hc u1 (fun x hx => (u2 x hx).1)
    exact ⟨b, chs_eq hT (fun x hx => (u2 x hx).1) u1.1, u1, fun x hx => ⟨(u2 x hx).1, (u2 x hx).2.1, (u2 x hx).2.2, (h12 x hx).2⟩⟩
  have hnone : ∀ c, C ≤ c → c < 6 → chs B c = none := by
    intro c hc1 hc2
    obtain ⟨b, e, _, u2⟩ := hchs c hc2
    rw [e]
    cases hb : b with
    | none => rfl
    | some x =>
      exfalso
      obtain ⟨hxT, _, h8, _⟩ := u2 x hb
      obtain ⟨_, _, _, _, _, _, _, _, _, _, _, _, _, _, _, ht1, _⟩ := h
      obtain ⟨rk, co, pe, mi, nx, st, lf, wa, tu, us, dn, q1, q2, _⟩ := ht1 x hxT
      rw [q2.2.1] at h8
      have hco := q1.2.1
      have := (sI_eq (by omega) (by omega)).mp h8
      omega
  have hus : ∀ m, C + m ≤ 6 → usN B (C + m) = usN B C := by
    intro m
    induction m with
    | zero => intro _; rfl
    | succ m ih =>
      intro hm
      show (match chs B (C + m) with
        | none => usN B (C + m)
        | some x => useA (usN B (C + m)) x) = _
      rw [hnone (C + m) (by omega) (by omega)]
      exact ih (by omega)
  have hus6 : usN B 6 = usN B C := by
    have := hus (6 - C) (by omega)
    rw [show C + (6 - C) = 6 by omega] at this
    exact this
  unfold fX15_microsecond_b121
  refine wq_for (body := fun r s => fX15_microsecond_i125 fu r s.1 s.2.1 s.2.2.1 s.2.2.2) (fun c (a : Int32 × mwM × mwL) => (a.1, sI c, a.2.1, a.2.2)) (fun c a => RC (usN B c) a.2.1 a.2.2 T C tn cn (U + c) ∧ a.2.2 787 43 = sL now ∧ (∀ c', c' < c → a.2.1 820 (20000 * c' + now) = sI (rwV B c')) ∧ (∀ y, (∀ c', c' < c → y ≠ 20000 * c' + now) → a.2.1 820 y = M 820 y) ∧ (∀ b y, b ≠ 820 → b ≠ 799 → b ≠ 801 → a.2.1 b y = M b y) ∧ ∀ b y, b ≠ 800 → b ≠ 805 → a.2.2 b y = L b y) C ?_ ?_ C 0 (0, M, L) fu (by omega) (by omega) ⟨h, hN, fun c' h => by omega, fun _ _ => rfl, fun _ _ _ _ _ => rfl, fun _ _ _ _ => rfl⟩
  · rintro c ⟨v2, a, l⟩ r hc ⟨p1, p2, p3, p4, p5, p6⟩ ih
    dsimp only at p1 p2 p3 p4 p5 p6
    show wq (fX15_microsecond_i125 fu r v2 (sI c) a l) _
    obtain ⟨b, e, u1, u2⟩ := hchs c (by omega)
    obtain ⟨i1, i2, _⟩ := m_idle hf p1 (by omega) (stl_us u1 c) (fun x hx => (u2 x hx).1)
    have m0 : a 787 0 = sI C := p1.2.2.2.2.2.2.2.1
    have h35 : a 787 35 = 0 := p1.2.2.2.2.2.2.2.2.2.2.2.1
    have hrv : oM b = sI (rwV B c) := by
      unfold rwV
      rw [e]
      cases b <;> rfl
    have hrl : rwV B c < 16 := by
      unfold rwV
      rw [e]
      cases hb : b with
      | none => decide
      | some x => have := (u2 x hb).1; show x + 1 < 16; omega
    -- behind the row of who runs
    have hidx : (20000 * sI c) + (l 787 43).toInt32 = sI (20000 * c + now) := by
      rw [p2, sL_I (by omega), sI_lml, sI_add]
    have fin : ∀ (s0 : Int32) (a1 : mwM), a1 = mset a 820 (20000 * c + now) (sI (rwV B c)) → wq (fX15_microsecond_b243 fu r (sI c) (oM b) (-1) s0 a1 l) (fun q => RC (usN B 6) q.2.1 q.2.2 T C tn cn (U + 6) ∧ q.2.2 787 43 = sL (now + 1) ∧ (∀ c, c < C → q.2.1 820 (20000 * c + now) = sI (rwV B c)) ∧ (∀ y, (∀ c, c < C → y ≠ 20000 * c + now) → q.2.1 820 y = M 820 y) ∧ (∀ b y, b ≠ 820 → b ≠ 799 → b ≠ 801 → q.2.1 b y = M b y) ∧ ∀ b y, b ≠ 800 → b ≠ 805 → ¬ (b = 787 ∧ y = 43) → q.2.2 b y = L b y) := by
      intro s0 a1 ha1
      have f820 : ∀ b y, b ≠ 820 → a1 b y = a b y := fun b y q => by rw [ha1, mset_k q]
      have pa : RC (usN B c) a1 l T C tn cn (U + c) := by
        obtain ⟨h1, h2, h3, h4, h5, h6, h7, h8, h9, h10, h11, h12, h13, h14, h15, h16, h17⟩ := p1
        refine ⟨h1, h2, h3, h4, h5, by rw [f820 _ _ (by decide)]; exact h6, by rw [f820 _ _ (by decide)]; exact h7, by rw [f820 _ _ (by decide)]; exact h8, h9, h10, by rw [f820 _ _ (by decide)]; exact h11, by rw [f820 _ _ (by decide)]; exact h12, fun r q1 q2 => by rw [f820 _ _ (by decide)]; exact h13 r q1 q2, fun r q1 q2 => by rw [f820 _ _ (by decide)]; exact h14 r q1 q2, by rw [f820 _ _ (by decide)]; exact h15, ?_, h17⟩
        intro i hi
        obtain ⟨rk, co, pe, mi, nx, st, lf, wa, tu, us, dn, q1, q2, q3⟩ := h16 i hi
        exact ⟨rk, co, pe, mi, nx, st, lf, wa, tu, us, dn, q1, q2, tm_f q3 (fun b _ _ _ _ _ _ _ _ _ => f820 _ _ (by omega)) (f820 _ _ (by decide)) (f820 _ _ (by decide)) rfl (fun _ _ _ => rfl)⟩
      have g3 : ∀ c', c' < c + 1 → a1 820 (20000 * c' + now) = sI (rwV B c') := by
        intro c' hc'
        rw [ha1]
        by_cases hcc : c' = c
        · rw [hcc, mset_s]
        · rw [mset_j (by omega)]; exact p3 c' (by omega)
      have g4 : ∀ y, (∀ c', c' < c + 1 → y ≠ 20000 * c' + now) → a1 820 y = M 820 y := by
        intro y hy
        rw [ha1, mset_j (hy c (by omega))]
        exact p4 y (fun c' hc' => hy c' (by omega))
      unfold fX15_microsecond_b243 fX15_microsecond_b274
      rw [if_pos (by decide)]
      simp only [mlet]
      rw [sI_1]
      cases hb : b with
      | none =>
        have e1 : usN B (c + 1) = usN B c := by
          show (match chs B c with
            | none => usN B c
            | some x => useA (usN B c) x) = _
          rw [e, hb]
        rw [if_pos (by decide)]
        refine ih (s0, a1, l) ⟨by rw [e1]; exact RC_up pa (by omega), p2, g3, g4, fun b y q1 q2 q3 => (f820 b y q1).trans (p5 b y q1 q2 q3), p6⟩
      | some x =>
        obtain ⟨hxT, h13, h8, h12⟩ := u2 x hb
        have hpre : ∀ c', c' < c → chs B c' ≠ some x := by
          intro c' hc' q
          obtain ⟨b', e', _, u2'⟩ := hchs c' (by omega)
          have := (u2' x (by rw [← e', q])).2.2.1
          rw [h8] at this
          have := (sI_eq (by omega) (by omega)).mp this
          omega
        have e12 : usN B c 12 x ≠ 0 := by rw [usN_f (by decide) (by decide) (by decide) (by omega), h12]; decide
        have e13 : usN B c 13 x ≠ 0 := by rw [usN_13 c hpre 13 (Or.inl rfl)]; exact h13
        obtain ⟨_, M2, L2, d2, d3, _, d5, d6⟩ := st_use (Lc := l) hf pa (by omega) hxT e12 e13
        have e1 : usN B (c + 1) = useA (usN B c) x := by
          show (match chs B c with
            | none => usN B c
            | some x => useA (usN B c) x) = _
          rw [e, hb]
        rw [if_neg (by show ¬ sI (x + 1) ≤ 0; rw [sI_lel (by omega) (by decide)]; exact Nat.not_succ_le_zero _)]
        show wq (mb2 (DX15_pass fu (sI (x + 1)) a1 l) _) _
        rw [d2, mb2_s]
        refine ih (s0, M2, L2) ⟨by rw [e1]; exact d3, by dsimp only; rw [d6 _ _ (by omega)]; exact p2, fun c' hc' => by dsimp only; rw [d5 _ _ (by omega)]; exact g3 c' hc', fun y hy => by dsimp only; rw [d5 _ _ (by omega)]; exact g4 y hy, fun b y q1 q2 q3 => by dsimp only; rw [d5 _ _ (by omega), f820 b y q1]; exact p5 b y q1 q2 q3, fun b y q1 q2 => by dsimp only; rw [d6 _ _ (by omega)]; exact p6 b y q1 q2⟩
    have at175 : wq (fX15_microsecond_b152 fu r v2 (sI c) (oM b) (-1) a l) (fun q => RC (usN B 6) q.2.1 q.2.2 T C tn cn (U + 6) ∧ q.2.2 787 43 = sL (now + 1) ∧ (∀ c, c < C → q.2.1 820 (20000 * c + now) = sI (rwV B c)) ∧ (∀ y, (∀ c, c < C → y ≠ 20000 * c + now) → q.2.1 820 y = M 820 y) ∧ (∀ b y, b ≠ 820 → b ≠ 799 → b ≠ 801 → q.2.1 b y = M b y) ∧ ∀ b y, b ≠ 800 → b ≠ 805 → ¬ (b = 787 ∧ y = 43) → q.2.2 b y = L b y) := by
      unfold fX15_microsecond_b152 fX15_microsecond_b175 fX15_microsecond_b227
      rw [if_pos (by decide), hidx, mck_s (by omega) (by omega), sI_nn (by omega)]
      simp only [mlet]
      rw [hrv, rw_16 _ hrl, ← hrv]
      have two : ∀ (z : Int32), wq (if oM b = z then fX15_microsecond_b243 fu r (sI c) (oM b) (-1) v2 (mset a 820 (20000 * c + now) (oM b)) l else fX15_microsecond_b243 fu r (sI c) (oM b) (-1) (v2 + 1) (mset a 820 (20000 * c + now) (oM b)) l) (fun q => RC (usN B 6) q.2.1 q.2.2 T C tn cn (U + 6) ∧ q.2.2 787 43 = sL (now + 1) ∧ (∀ c, c < C → q.2.1 820 (20000 * c + now) = sI (rwV B c)) ∧ (∀ y, (∀ c, c < C → y ≠ 20000 * c + now) → q.2.1 820 y = M 820 y) ∧ (∀ b y, b ≠ 820 → b ≠ 799 → b ≠ 801 → q.2.1 b y = M b y) ∧ ∀ b y, b ≠ 800 → b ≠ 805 → ¬ (b = 787 ∧ y = 43) → q.2.2 b y = L b y) := by
        intro z
        split
        · exact fin _ _ (by rw [hrv])
        · exact fin _ _ (by rw [hrv])
      rw [p2]
      by_cases hn0 : now = 0
      · rw [if_pos (by rw [hn0]; decide)]
        exact two 0
      · rw [if_neg (by
          rw [lg_cmp_le]
          show ¬ sL now ≤ sL 0
          rw [sL_le (by omega) (by omega)]
          omega)]
        obtain ⟨k, hk⟩ : ∃ k, 20000 * c + now = k + 1 := ⟨20000 * c + now - 1, by omega⟩
        rw [show sI (20000 * c + now) - 1 = sI k from by rw [hk]; exact sI_m1, mck_s (by omega) (by omega)]
        exact two _
    unfold fX15_microsecond_i125
    rw [m0, if_neg (by rw [sI_le (by omega) (by omega)]; omega), i2, mb3_s]
    by_cases hc0 : c = 0
    · rw [if_pos (by rw [hc0]; rfl), m_atHand (by omega) h35, mb3_s]
      exact at175
    · rw [if_neg (by rw [sI_eql (by omega) (by decide)]; exact hc0)]
      exact at175
  · rintro ⟨v2, a, l⟩ r ⟨p1, p2, p3, p4, p5, p6⟩
    dsimp only at p1 p2 p3 p4 p5 p6
    show wq (fX15_microsecond_i125 fu r v2 (sI C) a l) _
    have m0 : a 787 0 = sI C := p1.2.2.2.2.2.2.2.1
    unfold fX15_microsecond_i125
    rw [m0, if_pos (by rw [sI_le (by omega) (by omega)]; omega), p2, sL_1]
    simp only [mlet]
    refine wq_some ⟨?_, ?_, p3, p4, p5, ?_⟩
    all_goals (try dsimp only)
    · rw [hus6]
      have hup := RC_up p1 (show U + C ≤ U + 6 by omega)
      obtain ⟨h1, h2, h3, h4, h5, h6, h7, h8, h9, h10, h11, h12, h13, h14, h15, h16, h17⟩ := hup
      refine ⟨h1, h2, h3, h4, h5, h6, h7, h8, h9, by rw [mset_j (by decide)]; exact h10, h11, h12, h13, h14, h15, ?_, h17⟩
      intro i hi
      obtain ⟨rk, co, pe, mi, nx, st, lf, wa, tu, us, dn, q1, q2, q3⟩ := h16 i hi
      exact ⟨rk, co, pe, mi, nx, st, lf, wa, tu, us, dn, q1, q2, tm_f q3 (fun _ _ _ _ _ _ _ _ _ _ => rfl) rfl rfl (mset_k (by decide)) (fun b _ _ => mset_k (by omega))⟩
    · rw [mset_s]
    · intro b y q1 q2 q3
      rw [mset_n q3]; exact p6 b y q1 q2
