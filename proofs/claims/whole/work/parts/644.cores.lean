/-! a microsecond of the cores, up to the choice -/
theorem m_exit {fu : Nat} {A M : mwM} {L : mwL} {T C tn cn U f : Nat} {Q : Int32 × mwM × mwL → Prop} (h : RC A M L T C tn cn U) (hQ : wq (fX15_microsecond_b121 fu M L) Q) : wq (fX15_microsecond_h42 fu (f + 1) (0, M, L)) Q := by
  have h29 : M 787 29 = 0 := h.2.2.2.2.2.2.2.2.2.2.1
  unfold fX15_microsecond_h42
  rw [mloop_S]
  show wq (fX15_microsecond_i42 fu _ 0 M L) Q
  unfold fX15_microsecond_i42
  rw [if_pos rfl, h29, if_pos (by decide)]
  exact hQ
/-- nothing is to be done on any core -/
theorem m_settled {fu : Nat} {A M : mwM} {L : mwL} {T C tn cn U f : Nat} {Q : Int32 × mwM × mwL → Prop} (hf : 33 ≤ fu) (h : RC A M L T C tn cn U) (hS : SA A T 6) (hQ : wq (fX15_microsecond_b121 fu M L) Q) : wq (fX15_microsecond_h42 fu (f + 2) (1, M, L)) Q := by
  unfold fX15_microsecond_h42
  rw [mloop_S]
  show wq (fX15_microsecond_i42 fu (fX15_microsecond_h42 fu (f + 1)) 1 M L) Q
  unfold fX15_microsecond_i42
  rw [if_neg (by decide)]
  exact m_round (v1 := 0) hf h hS (m_exit h hQ) C 0 fu (by omega) (by have := h.2.1; omega)
/-- the cores settle -/
theorem st_unsettled {fu : Nat} {Lc : mwL} {A : mwM} {T C tn cn U t : Nat} (hf : 33 ≤ fu) (htn : tn + 72 < 100000000) (h : ∃ M L, RC A M L T C tn cn U) : ∃ A' tn', fX4_passMicrosecond_h19 fu (sI t) fu (0, A, Lc) = fX4_passMicrosecond_b36 fu (sI t) A' Lc ∧ tn ≤ tn' ∧ tn' ≤ tn + 72 ∧ SA A' T 6 ∧ gloA A A' ∧ (∃ M0 L0, RC A' M0 L0 T C tn' cn U) ∧ ∀ (M : mwM) (L : mwL) (f : Nat) (Q : Int32 × mwM × mwL → Prop), RC A M L T C tn cn U → (∀ M' L', RC A' M' L' T C tn' cn U → locM M M' L L' → wq (fX15_microsecond_b121 fu M' L') Q) → wq (fX15_microsecond_h42 fu (f + 3) (1, M, L)) Q := by
  obtain ⟨A', tn', i1, i2, i3, i4, i5, _, i8, i7⟩ := st_all (Lc := Lc) (t := t) hf 6 0 A tn fu (by omega) (by omega) (by omega) (fun c' hc' => by omega) h
  refine ⟨A', tn', i1, i2, by omega, i4, i5, i8, ?_⟩
  intro M L f Q hR hQ
  unfold fX15_microsecond_h42
  rw [mloop_S]
  show wq (fX15_microsecond_i42 fu (fX15_microsecond_h42 fu (f + 2)) 1 M L) Q
  unfold fX15_microsecond_i42
  rw [if_neg (by decide)]
  refine i7 M L 0 (fX15_microsecond_h42 fu (f + 2)) Q fu hR (Nat.zero_le _) (by omega) ?_
  intro v1' M' L' hv hR' hlo
  rcases hv with rfl | rfl
  · exact m_exit hR' (hQ M' L' hR' hlo)
  · exact m_settled hf hR' i4 (hQ M' L' hR' hlo)
/-! who runs: the class's row of a microsecond -/
theorem or_add {R n c : Nat} (hR : R < 16 ^ c) (hn : n < 16) (hc : c < 6) : sI R ||| (sI n <<< ((4 * sI c) &&& 31)) = sI (R + n * 16 ^ c) := by
  have e1 : ∀ c, c < 6 → (4 * sI c) &&& 31 = sI (4 * c) := by decide +kernel
  have e2 : ∀ c, c < 6 → ∀ n, n < 16 → sI n <<< sI (4 * c) = sI (n * 16 ^ c) := by decide +kernel
  rw [e1 c hc, e2 c hc n hn]
  apply Int32.toBitVec_inj.mp
  show BitVec.ofNat 32 R ||| BitVec.ofNat 32 (n * 16 ^ c) = BitVec.ofNat 32 (R + n * 16 ^ c)
  rw [← BitVec.ofNat_or]
  congr 1
  have h16 : (16 : Nat) ^ c = 2 ^ (4 * c) := by rw [Nat.pow_mul]
  rw [h16] at hR ⊢
  rw [← Nat.shiftLeft_eq, Nat.or_comm, Nat.add_comm]
  exact (Nat.shiftLeft_add_eq_or_of_lt hR n).symm
