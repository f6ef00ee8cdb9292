/-- who is chosen on a core -/
def chs (A : mwM) (c : Nat) : Option Nat := if A 18 c < 0 then none else some (nn (A 18 c))
theorem chs_eq {A : mwM} {c T : Nat} {b : Option Nat} (hT : T ≤ 12) (hb : ∀ x, b = some x → x < T) (h : A 18 c = oI b) : chs A c = b := by
  unfold chs
  rw [h]
  cases b with
  | none => rw [if_pos (by decide)]
  | some x =>
    have := hb x rfl
    show (if sI x < 0 then none else some (nn (sI x))) = some x
    rw [if_neg (by rw [sI_ltl (by omega) (by decide)]; exact Nat.not_lt_zero _), nn_s (by omega)]
/-- the class's memory when the first c cores have used the microsecond; the row of who ran -/
def usN (A : mwM) : Nat → mwM
  | 0 => A
  | c + 1 => match chs A c with
    | none => usN A c
    | some x => useA (usN A c) x
def rwV (A : mwM) (c : Nat) : Nat := match chs A c with
  | none => 0
  | some x => x + 1
def rwN (A : mwM) : Nat → Nat
  | 0 => 0
  | c + 1 => rwN A c + rwV A c * 16 ^ c
theorem rwN_lt {A : mwM} (h : ∀ c, c < 6 → rwV A c < 16) : ∀ c, c ≤ 6 → rwN A c < 16 ^ c := by
  intro c
  induction c with
  | zero => intro _; exact Nat.one_pos
  | succ c ih =>
    intro hc
    have h1 := ih (by omega)
    have h2 := h c (by omega)
    show rwN A c + rwV A c * 16 ^ c < 16 ^ (c + 1)
    rw [Nat.pow_succ]
    have h3 : (rwV A c + 1) * 16 ^ c ≤ 16 * 16 ^ c := Nat.mul_le_mul_right _ (by omega)
    rw [Nat.add_mul, Nat.one_mul, Nat.mul_comm 16] at h3
    omega
theorem usN_f {A : mwM} {b y : Nat} (h1 : b ≠ 13) (h2 : b ≠ 16) (h3 : b ≠ 17) (h4 : ¬ (b = 5 ∧ (y = 5 ∨ y = 6))) : ∀ c, usN A c b y = A b y := by
  intro c
  induction c with
  | zero => rfl
  | succ c ih =>
    show (match chs A c with
      | none => usN A c
      | some x => useA (usN A c) x) b y = _
    cases hq : chs A c with
    | none => simp only []; exact ih
    | some x => simp only []; rw [useA_f (by omega) h4]; exact ih
/-- what the later cores have chosen isn't touched by the earlier ones -/
theorem usN_13 {A : mwM} {x : Nat} : ∀ c, (∀ c', c' < c → chs A c' ≠ some x) → ∀ b, (b = 13 ∨ b = 16 ∨ b = 17) → usN A c b x = A b x := by
  intro c
  induction c with
  | zero => intro _ b _; rfl
  | succ c ih =>
    intro hc b hb
    show (match chs A c with
      | none => usN A c
      | some z => useA (usN A c) z) b x = _
    have hn := hc c (by omega)
    have ihc := ih (fun c' hc' => hc c' (by omega)) b hb
    cases hq : chs A c with
    | none => simp only []; exact ihc
    | some z =>
      simp only []
      have hzx : x ≠ z := fun q => hn (by rw [hq, q])
      rw [useA_f (by omega) (by omega)]; exact ihc
/-- the class: all cores use the microsecond; the reference: it passes -/
theorem st_uses {fu : Nat} {A : mwM} {Lc : mwL} {T C tn cn U t : Nat} (hf : 33 ≤ fu) (ht : t < 20000) (hU : U + 6 < 1000000) (hS : SA A T 6) (hR : ∃ M L, RC A M L T C tn cn U) : fX4_passMicrosecond_b36 fu (sI t) A Lc = some (mset (usN (mset A 5 5 0) 6) 19 t (sI (rwN (mset A 5 5 0) 6)), Lc) := by
  obtain ⟨M, L, h⟩ := hR
  have hT := h.1
  -- fresh doesn't matter for what RC says
  have h0 : RC (mset A 5 5 0) M L T C tn cn U := by
    obtain ⟨h1, h2, h3, h4, h5, h6, h7, h8, h9, h10, h11, h12, h13, h14, h15, h16, h17⟩ := h
    refine ⟨h1, h2, h3, h4, by rw [mset_j (by decide)]; exact h5, h6, h7, h8, by rw [mset_j (by decide)]; exact h9, h10, h11, h12, h13, h14, h15, ?_, ?_⟩
    · intro i hi
      obtain ⟨rk, co, pe, mi, nx, st, lf, wa, tu, us, dn, q1, q2, q3⟩ := h16 i hi
      exact ⟨rk, co, pe, mi, nx, st, lf, wa, tu, us, dn, q1, tk_f q2 (fun b _ _ => mset_k (by omega)), q3⟩
    · intro c hc
      obtain ⟨w, v1, v2, v3⟩ := h17 c hc
      refine ⟨w, by rw [mset_k (by decide)]; exact v1, v2, ?_⟩
      intro i hi
      rw [mset_k (by decide), mset_k (by decide)]
      exact v3 i hi
  have hS0 : SA (mset A 5 5 0) T 6 := by
    intro c hc
    obtain ⟨b, u1, u2⟩ := hS c hc
    refine ⟨b, ⟨by rw [mset_k (by decide)]; exact u1.1, ?_⟩, fun x hx => ⟨(u2 x hx).1, by rw [mset_k (by decide)]; exact (u2 x hx).2.1, by rw [mset_k (by decide)]; exact (u2 x hx).2.2⟩⟩
    intro x hx h8 h12
    rw [mset_k (by decide)] at h8 h12
    obtain ⟨y, q1, q2, q3⟩ := u1.2 x hx h8 h12
    exact ⟨y, q1, by rw [mset_k (by decide)]; exact q2, by rw [mset_k (by decide), mset_k (by decide)]; exact q3⟩
  have hchs : ∀ c, c < 6 → ∃ b, chs (mset A 5 5 0) c = b ∧ stl (mset A 5 5 0) c T b ∧ ∀ x, b = some x → x < T ∧ mset A 5 5 0 13 x ≠ 0 ∧ mset A 5 5 0 8 x = sI c ∧ mset A 5 5 0 12 x = 2 := by
    intro c hc
    obtain ⟨b, u1, u2⟩ := hS0 c hc
    obtain ⟨h12, _, _⟩ := m_idle hf h0 hc u1 (fun x hx => (u2 x hx).1)
    exact ⟨b, chs_eq hT (fun x hx => (u2 x hx).1) u1.1, u1, fun x hx => ⟨(u2 x hx).1, (u2 x hx).2.1, (u2 x hx).2.2, (h12 x hx).2⟩⟩
  unfold fX4_passMicrosecond_b36
  simp only [mlet]
  generalize mset A 5 5 0 = B at *
  have hrv : ∀ c, c < 6 → rwV B c < 16 := by
    intro c hc
    obtain ⟨b, e, _, u⟩ := hchs c hc
    unfold rwV
    rw [e]
    cases b with
    | none => decide
    | some x => have := (u x rfl).1; show x + 1 < 16; omega
  have hrl := rwN_lt hrv
  have hloop := wq_for (body := fun r s => fX4_passMicrosecond_i45 fu (sI t) r s.1 s.2.1 s.2.2.1 s.2.2.2) (Q := fun q => q = (mset (usN B 6) 19 t (sI (rwN B 6)), Lc)) (fun c (_ : Unit) => (sI (rwN B c), sI c, usN B c, Lc)) (fun c _ => ∃ M' L', RC (usN B c) M' L' T C tn cn (U + c)) 6 ?_ ?_ 6 0 () fu (by omega) (by omega) ⟨M, L, h0⟩
  · obtain ⟨q, e, rfl⟩ := hloop
    exact e
  · rintro c _ r hc ⟨M', L', hRc⟩ ih
    show wq (fX4_passMicrosecond_i45 fu (sI t) r (sI (rwN B c)) (sI c) (usN B c) Lc) _
    obtain ⟨b, e, u1, u2⟩ := hchs c hc
    unfold fX4_passMicrosecond_i45 fX4_passMicrosecond_b85
    have e18 : usN B c 18 c = oI b := by rw [usN_f (by decide) (by decide) (by decide) (by omega)]; exact u1.1
    rw [if_neg (by rw [sI_lle (by omega) (by omega)]; omega), mck_s hc (by omega), sI_nn (by omega), e18]
    simp only [mlet]
    rw [sI_1]
    have hnext : ∀ z, usN B (c + 1) = z → rwN B (c + 1) = rwN B c + rwV B c * 16 ^ c := fun _ _ => rfl
    cases hb : b with
    | none =>
      rw [if_pos (by decide)]
      have e1 : usN B (c + 1) = usN B c := by
        show (match chs B c with
          | none => usN B c
          | some x => useA (usN B c) x) = _
        rw [e, hb]
      have e2 : rwN B (c + 1) = rwN B c := by
        show rwN B c + rwV B c * 16 ^ c = _
        have : rwV B c = 0 := by unfold rwV; rw [e, hb]
        rw [this]; omega
      have hn := ih () ⟨M', L', by rw [e1]; exact RC_up hRc (by omega)⟩
      rw [e1, e2] at hn
      exact hn
    | some x =>
      obtain ⟨hxT, h13, h8, h12⟩ := u2 x hb
      have hpre : ∀ c', c' < c → chs B c' ≠ some x := by
        intro c' hc' q
        obtain ⟨b', e', _, u2'⟩ := hchs c' (by omega)
        have := (u2' x (by rw [← e', q])).2.2.1
        rw [h8] at this
        have := (sI_eq (by omega) (by omega)).mp this
        omega
      have e12 : usN B c 12 x ≠ 0 := by rw [usN_f (by decide) (by decide) (by decide) (by omega), h12]; decide
      have e13 : usN B c 13 x ≠ 0 := by rw [usN_13 c hpre 13 (Or.inl rfl)]; exact h13
      obtain ⟨d1, M2, L2, d2, d3, _⟩ := st_use (Lc := Lc) hf hRc (by omega) hxT e12 e13
      have e1 : usN B (c + 1) = useA (usN B c) x := by
        show (match chs B c with
          | none => usN B c
          | some x => useA (usN B c) x) = _
        rw [e, hb]
      have e2 : rwN B (c + 1) = rwN B c + (x + 1) * 16 ^ c := by
        show rwN B c + rwV B c * 16 ^ c = _
        have : rwV B c = x + 1 := by unfold rwV; rw [e, hb]
        rw [this]
      have hn := ih () ⟨M2, L2, by rw [e1]; exact d3⟩
      rw [if_neg (by show ¬ sI x < 0; rw [sI_ltl (by omega) (by decide)]; exact Nat.not_lt_zero _), mck_s hc (by omega), mck_s hc (by omega)]
      show wq (mb2 (DX4_use fu (sI x) (usN B c) Lc) (fun M14 L15 => r (sI (rwN B c) ||| ((sI x + 1) <<< ((4 * sI c) &&& 31)), sI (c + 1), M14, L15))) _
      rw [d1, mb2_s, sI_1, or_add (hrl c (by omega)) (by omega) hc, ← e2, ← e1]
      exact hn
  · rintro _ r ⟨M', L', hRc⟩
    show wq (fX4_passMicrosecond_i45 fu (sI t) r (sI (rwN B 6)) (sI 6) (usN B 6) Lc) _
    unfold fX4_passMicrosecond_i45
    rw [if_pos (by decide), mck_s ht (by omega), sI_nn (by omega)]
    exact wq_some rfl
