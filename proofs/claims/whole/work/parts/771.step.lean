/-! one bit on the bus: faults, and states without a frame -/
theorem FrC_fr {A A' : mwM} {F : Nat} {ow id : Nat → Nat} {oc : Nat → Nat → Nat} {dn : Nat → Nat} (h : FrC A F ow id oc dn) (hA : ∀ a y, (a = 20 ∧ y = 9) ∨ (43 ≤ a ∧ a ≤ 46) → A' a y = A a y) : FrC A' F ow id oc dn := by
  obtain ⟨h1, h2, h3⟩ := h
  refine ⟨by rw [hA 20 9 (by omega)]; exact h1, h2, fun f u => ?_⟩
  obtain ⟨a1, a2, a3, a4, a5, a6, a7⟩ := h3 f u
  exact ⟨by rw [hA 43 f (by omega)]; exact a1, a2, by rw [hA 44 f (by omega)]; exact a3, a4, by rw [hA 45 f (by omega)]; exact a5, a6, fun i w => by rw [hA 46 _ (by omega)]; exact a7 i w⟩
theorem FrM_fr {M M' : mwM} {F : Nat} {ow id : Nat → Nat} {oc : Nat → Nat → Nat} {dn : Nat → Nat} (h : FrM M F ow id oc dn) (hM : ∀ a y, (a = 821 ∧ y = 4) ∨ (823 ≤ a ∧ a ≤ 828) → M' a y = M a y) : FrM M' F ow id oc dn := by
  obtain ⟨h1, h2, h3⟩ := h
  refine ⟨by rw [hM 821 4 (by omega)]; exact h1, h2, fun f u => ?_⟩
  obtain ⟨a1, a2, a3, a4, a5, b1, b2, b3, b4⟩ := h3 f u
  exact ⟨by rw [hM 823 f (by omega)]; exact a1, a2, a3, by rw [hM 828 f (by omega)]; exact a4, a5, by rw [hM 824 f (by omega)]; exact b1, by rw [hM 825 f (by omega)]; exact b2, by rw [hM 826 f (by omega)]; exact b3, fun i w => by rw [hM 827 _ (by omega)]; exact b4 i w⟩
theorem WC_fr {M M' : mwM} {F : Nat} {id : Nat → Nat} {oc : Nat → Nat → Nat} (h : WC M F id oc) (hM : ∀ a y, (a = 821 ∧ (y = 37 ∨ y = 38 ∨ y = 50)) ∨ a = 849 ∨ a = 850 → M' a y = M a y) : WC M' F id oc := by
  rcases h with h | ⟨g, h1, h2, h3⟩
  · exact Or.inl (by rw [hM 821 50 (by omega)]; exact h)
  · exact Or.inr ⟨g, h1, by rw [hM 821 50 (by omega)]; exact h2, WrM_fr h3 (fun a y u => hM a y (by omega))⟩
theorem BuG_fr {A A' M M' : mwM} {N t F : Nat} {ow id : Nat → Nat} {oc : Nat → Nat → Nat} {dn ec tc : Nat → Nat} (h : BuG A M N t F ow id oc dn ec tc) (hA : ∀ a y, (a = 20 ∧ 8 ≤ y ∧ y ≤ 11) ∨ a = 23 ∨ a = 30 ∨ a = 31 ∨ (43 ≤ a ∧ a ≤ 46) → A' a y = A a y) (hM : ∀ a y, (a = 821 ∧ (y = 1 ∨ y = 2 ∨ y = 4 ∨ y = 11 ∨ y = 22 ∨ y = 29)) ∨ (823 ≤ a ∧ a ≤ 828) ∨ a = 834 ∨ a = 835 ∨ a = 839 ∨ (845 ≤ a ∧ a ≤ 847) → M' a y = M a y) (hW : WC M' F id oc) (hC : CA M') : BuG A' M' N t F ow id oc dn ec tc := by
  obtain ⟨h1, ⟨h2, h3, h4⟩, h5, h6, h7, h8, ⟨h9, h10, h11⟩, ⟨h12, h13⟩, h14, h15, ⟨tn, h16, h17⟩, h18⟩ := h
  refine ⟨h1, ⟨by rw [hA 20 8 (by omega)]; exact h2, by rw [hM 821 1 (by omega)]; exact h3, by rw [hM 821 2 (by omega)]; exact h4⟩, FrC_fr h5 (fun a y u => hA a y (by omega)), FrM_fr h6 (fun a y u => hM a y (by omega)), hW, hC, ⟨by rw [hA 20 10 (by omega)]; exact h9, by rw [hM 821 29 (by omega)]; exact h10, fun i u => ?_⟩, ⟨by rw [hA 20 11 (by omega)]; exact h12, by rw [hM 821 11 (by omega)]; exact h13⟩, fun n u => ?_, by rw [hM 821 22 (by omega)]; exact h15, ⟨tn, fun k u => by rw [hM 839 k (by omega)]; exact h16 k u, h17⟩, h18⟩
  · obtain ⟨k, n, tt, q1, q2, q3, q4, q5, q6, q7⟩ := h11 i u
    exact ⟨k, n, tt, q1, q2, q3, by rw [hA 23 i (by omega)]; exact q4, by rw [hM 845 i (by omega)]; exact q5, by rw [hM 846 i (by omega)]; exact q6, by rw [hM 847 i (by omega)]; exact q7⟩
  · obtain ⟨q1, q2, q3, q4⟩ := h14 n u
    exact ⟨by rw [hA 30 n (by omega)]; exact q1, by rw [hA 31 n (by omega)]; exact q2, by rw [hM 834 n (by omega)]; exact q3, by rw [hM 835 n (by omega)]; exact q4⟩
/-- what was taken, as both sides know it -/
def TkE (A M : mwM) (n k : Nat) : Prop := ∃ h o : Nat → Nat, EaR A (47 + 2 * n) h ∧ OcR A (47 + 2 * n) o ∧ h 11 < 2 ∧ h 12 < 2 ∧ h 13 < 2 ∧ h 14 < 16 ∧ h 16 = ocE (h 13) (h 11) (h 14) ∧ h 10 < 536870912 ∧ M 840 k = sI (h 10) ∧ M 841 k = sI (kdH h) ∧ M 842 k = sI (h 14) ∧ ∀ i, i < h 16 → M 844 (64 * k + i) = bt8 (o i)
def StQ (N t F : Nat) (ow id : Nat → Nat) (oc : Nat → Nat → Nat) (dn ec tc : Nat → Nat) (n : Nat) (A0 M0 : mwM) (Lc Lm : mwL) (oC oM : Option (mwM × mwL)) : Prop :=
  ∃ (A M : mwM) (dn' ec' tc' : Nat → Nat), oC = some (A, Lc) ∧ oM = some (M, Lm) ∧ (∃ o, OcR A (47 + 2 * n) o) ∧ BuG A M N t F ow id oc dn' ec' tc' ∧ NdR A M F ow id oc dn' n (t + 1) (ec' n) (tc' n) ∧ ndA n A0 A ∧ ndM n M0 M ∧ (∀ f, ow f ≠ n → dn' f = dn f) ∧ (∀ m, m ≠ n → ec' m = ec m ∧ tc' m = tc m) ∧ ((tc' n = tc n ∧ A 20 12 = A0 20 12) ∨ (tc' n = tc n + 1 ∧ A 20 12 = (A0 20 12) ||| (1 <<< (sI n &&& 31)) ∧ s7 tc' = s7 tc + 1 ∧ M 839 (s7 tc) = sI n ∧ TkE A M n (s7 tc))) ∧ (s7 tc' = s7 tc → ∀ a y, (839 ≤ a ∧ a ≤ 844) → M a y = M0 a y) ∧ (∀ a y, (839 ≤ a ∧ a ≤ 843) ∧ y < s7 tc ∨ a = 844 ∧ y < 64 * s7 tc → M a y = M0 a y)
theorem c_tellF {fu n k t E : Nat} {A : mwM} {L : mwL} (hn : n < 7) (hk : k < 8) (hE : A 20 10 = sI E) (hE2 : E < 17507) : DX0_tellFault fu (sI n) (sI k) (sI t) A L = some (mset (mset (mset (mset A 23 E (sI (k + 8 * n + 64 * t))) 20 10 (sI (E + 1))) 25 n 3) 26 n 6, L) := by
  unfold DX0_tellFault fX0_tellFault_b39 DX0_become
  simp only [mlet, mb2_id]
  rw [hE, if_neg (by rw [sI_lle (by decide) (by omega)]; omega), mck_s (by omega) (by omega), sI_nn (by omega), mck_s hn (by omega), mck_s hn (by omega), sI_nn (by omega), er_v hk (by omega), mset_n (by omega), hE, sI_1]
theorem nbk : ∀ k, k < 16 → vp_nar .byte (sI k).toInt8.toInt32 = sI k := by decide
theorem m_wrong12 {fu n k E : Nat} {M : mwM} {L : mwL} (hn : n < 7) (hk : k < 8) (hE : M 821 29 = sI E) (hE2 : E < 17600) : DX12_wrong fu (sI n) (sI k) M L = some (mset (mset (mset (mset (mset (mset M 845 E (sI k)) 846 E (sI n)) 847 E (M 821 2)) 821 29 (sI (E + 1))) 831 n 3) 832 n 6, L) := by
  unfold DX12_wrong
  simp only [mlet]
  simp (disch := omega) only [hE, mck_s, sI_nn, mset_n]
  rw [nbk k (by omega), nbk n (by omega), sI_1]
theorem st_fault {fu N t F n k : Nat} {ow id : Nat → Nat} {oc : Nat → Nat → Nat} {dn ec tc : Nat → Nat} {A0 M0 A M : mwM} {Lc Lm : mwL} (hn : n < 7) (hk : k < 8) (hG : BuG A M N t F ow id oc dn ec tc) (hA : ndA n A0 A) (hM : ndM n M0 M) (he : 8 * ec n ≤ t) (htc : 40 * tc n ≤ t + 1) (h12 : A 20 12 = A0 20 12) (hT : ∀ a y, (839 ≤ a ∧ a ≤ 844) → M a y = M0 a y) (hOc : ∃ o, OcR A (47 + 2 * n) o) : StQ N t F ow id oc dn ec tc n A0 M0 Lc Lm (DX0_tellFault fu (sI n) (sI k) (sI t) A Lc) (DX12_wrong fu (sI n) (sI k) M Lm) := by
  obtain ⟨h1, ⟨h2, h3, h4⟩, h5, h6, h7, h8, ⟨h9, h10, h11⟩, ⟨h12', h13⟩, h14, h15, ⟨tn, h16, h17⟩, h18⟩ := hG
  have eb : s7 ec ≤ 17500 := Nat.le_trans (s7_le (b := 2500) (fun m u => by have := (h18 m u).1; omega)) (by omega)
  rw [c_tellF hn hk h9 (by omega), m_wrong12 hn hk h10 (by omega), h4]
  generalize hA1 : mset (mset (mset (mset A 23 (s7 ec) (sI (k + 8 * n + 64 * t))) 20 10 (sI (s7 ec + 1))) 25 n 3) 26 n 6 = A1
  generalize hM1 : mset (mset (mset (mset (mset (mset M 845 (s7 ec) (sI k)) 846 (s7 ec) (sI n)) 847 (s7 ec) (sI t)) 821 29 (sI (s7 ec + 1))) 831 n 3) 832 n 6 = M1
  have fA : ∀ a y, ¬ (a = 23 ∧ y = s7 ec) → ¬ (a = 20 ∧ y = 10) → ¬ ((a = 25 ∨ a = 26) ∧ y = n) → A1 a y = A a y := fun a y u1 u2 u3 => by
    rw [← hA1, mset_n (by omega), mset_n (by omega), mset_n u2, mset_n u1]
  have fM : ∀ a y, ¬ (845 ≤ a ∧ a ≤ 847 ∧ y = s7 ec) → ¬ (a = 821 ∧ y = 29) → ¬ ((a = 831 ∨ a = 832) ∧ y = n) → M1 a y = M a y := fun a y u1 u2 u3 => by
    rw [← hM1]
    simp (disch := omega) only [mset_n]
  have vA : A1 23 (s7 ec) = sI (k + 8 * n + 64 * t) ∧ A1 20 10 = sI (s7 ec + 1) ∧ A1 25 n = sI 3 ∧ A1 26 n = sI 6 := by
    rw [← hA1]
    simp (disch := omega) only [mset_n, mset_s]
    exact ⟨(by first | trivial | rfl), (by first | trivial | rfl), (by first | trivial | rfl), (by first | trivial | rfl)⟩
  have vM : M1 845 (s7 ec) = sI k ∧ M1 846 (s7 ec) = sI n ∧ M1 847 (s7 ec) = sI t ∧ M1 821 29 = sI (s7 ec + 1) ∧ M1 831 n = sI 3 ∧ M1 832 n = sI 6 := by
    rw [← hM1]
    simp (disch := omega) only [mset_n, mset_s]
    exact ⟨(by first | trivial | rfl), (by first | trivial | rfl), (by first | trivial | rfl), (by first | trivial | rfl), (by first | trivial | rfl), (by first | trivial | rfl)⟩
  have se := s7_s (f := ec) hn
  refine ⟨A1, M1, dn, nst ec n (ec n + 1), tc, rfl, rfl, (by obtain ⟨o, ho⟩ := hOc; exact ⟨o, OcR_f ho (fun y => fA _ y (by omega) (by omega) (by omega))⟩), ⟨h1, ⟨by rw [fA 20 8 (by omega) (by omega) (by omega)]; exact h2, by rw [fM 821 1 (by omega) (by omega) (by omega)]; exact h3, by rw [fM 821 2 (by omega) (by omega) (by omega)]; exact h4⟩, FrC_fr h5 (fun a y u => fA a y (by omega) (by omega) (by omega)), FrM_fr h6 (fun a y u => fM a y (by omega) (by omega) (by omega)), WC_fr h7 (fun a y u => fM a y (by omega) (by omega) (by omega)), CA_fr h8 (fun a y u => fM a y (by omega) (by omega) (by omega)), ⟨by rw [se]; exact vA.2.1, by rw [se]; exact vM.2.2.2.1, fun i u => ?_⟩, ⟨by rw [fA 20 11 (by omega) (by omega) (by omega)]; exact h12', by rw [fM 821 11 (by omega) (by omega) (by omega)]; exact h13⟩, fun m u => ?_, by rw [fM 821 22 (by omega) (by omega) (by omega)]; exact h15, ⟨tn, fun j u => by rw [fM 839 j (by omega) (by omega) (by omega)]; exact h16 j u, h17⟩, fun m u => ?_⟩, ?_, ?_, ?_, fun _ _ => rfl, fun m u => ⟨nst_n u, rfl⟩, Or.inl ⟨rfl, by rw [fA 20 12 (by omega) (by omega) (by omega)]; exact h12⟩, fun _ a y u => ?_, fun a y u => ?_⟩
  · rw [se] at u
    by_cases z : i = s7 ec
    · rw [z]
      exact ⟨k, n, t, hk, hn, h1.2.2, vA.1, vM.1, vM.2.1, vM.2.2.1⟩
    · obtain ⟨k', n', tt, q1, q2, q3, q4, q5, q6, q7⟩ := h11 i (by omega)
      exact ⟨k', n', tt, q1, q2, q3, by rw [fA 23 i (by omega) (by omega) (by omega)]; exact q4, by rw [fM 845 i (by omega) (by omega) (by omega)]; exact q5, by rw [fM 846 i (by omega) (by omega) (by omega)]; exact q6, by rw [fM 847 i (by omega) (by omega) (by omega)]; exact q7⟩
  · obtain ⟨q1, q2, q3, q4⟩ := h14 m u
    exact ⟨by rw [fA 30 m (by omega) (by omega) (by omega)]; exact q1, by rw [fA 31 m (by omega) (by omega) (by omega)]; exact q2, by rw [fM 834 m (by omega) (by omega) (by omega)]; exact q3, by rw [fM 835 m (by omega) (by omega) (by omega)]; exact q4⟩
  · by_cases z : m = n
    · rw [z, nst_s]
      exact ⟨by omega, (h18 n hn).2⟩
    · rw [nst_n z]
      exact h18 m u
  · refine Or.inr (Or.inr (Or.inr ⟨3, 6, by omega, by omega, vA.2.2.1, vM.2.2.2.2.1, fun _ => ⟨vA.2.2.2, vM.2.2.2.2.2, by omega, by omega⟩, fun _ => by rw [nst_s]; omega, fun z => by omega, fun z => by omega, htc⟩))
  · exact ndA_t hA (fun a y u => fA a y (by omega) (by omega) (by omega))
  · exact ndM_t hM (fun a y u => fM a y (by omega) (by omega) (by omega))
  · rw [fM a y (by omega) (by omega) (by omega)]
    exact hT a y u
  · rw [fM a y (by omega) (by omega) (by omega)]
    exact hT a y (by omega)
