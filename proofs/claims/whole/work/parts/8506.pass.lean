/-! passTransfer against transferred -/
theorem st_pass {fu C t t' : Nat} {p : PB} {o : Nat → Nat → Nat} {e ec tc fl Sb : Nat → Nat} {A M : mwM} {Lc Lm : mwL} (hfu : 2000 ≤ fu) (hTr : TrB A M Lm C Sb p o e) (hB : BusE A M (C + 1) t ec tc fl) (h16 : A 3 16 = sI t') (h83 : M 732 83 = sI t') (ht : t' = p.1 0 3 + 1) (ht2 : t' ≤ 20000) (h13 : A 3 13 = sI C) (h19 : M 732 19 = sI C) (hC6 : C ≤ 6) (h0 : A 292 0 = M 939 0) (h4 : A 292 4 = M 939 4) : ∃ (A' M' : mwM) (Lm' : mwL) (p' : PB) (e' : Nat → Nat), DX1_passTransfer fu A Lc = some (A', Lc) ∧ DX19_transferred fu M Lm = some (M', Lm') ∧ TrB A' M' Lm' C Sb p' o e' ∧ p'.1 0 3 = t' ∧ BusE A' M' (C + 1) t ec tc fl ∧ A' 292 0 = M' 939 0 ∧ A' 292 4 = M' 939 4 ∧ (∀ a y, ¬ (20 ≤ a ∧ a ≤ 60) → ¬ (154 ≤ a ∧ a ≤ 274) → ¬ (a = 292 ∧ (y = 0 ∨ y = 4)) → ¬ (a = 3 ∧ y = 17) → A' a y = A a y) ∧ (∀ a y, ¬ (a = 732 ∧ (y = 91 ∨ y = 94 ∨ y = 96 ∨ y = 97)) → ¬ (821 ≤ a ∧ a ≤ 853) → ¬ (869 ≤ a ∧ a ≤ 901) → a ≠ 926 → ¬ (929 ≤ a ∧ a ≤ 930) → ¬ (a = 939 ∧ (y = 0 ∨ y = 4)) → M' a y = M a y) ∧ ∀ a y, ¬ (a = 869 ∨ a = 880 ∨ a = 881 ∨ a = 897) → Lm' a y = Lm a y := by
  obtain ⟨hv, hC, hM, hN, hT, hC1, h17, h3, hAn, hQu, hKn, hG⟩ := hTr
  have hk := Kp_tk (t := t') (p := p)
  have h03 : (tkP t' p).1 0 3 = t' := by
    unfold tkP clP
    dsimp only
    exact mset_s
  have hT' := T_tk ht hT
  obtain ⟨⟨A1, L1⟩, a1, a2, a3, a4, a5⟩ := c_tick9 (fu := fu) (L := Lc) (by omega) hv hC ht2 (by omega)
  dsimp only at a2 a3 a5
  subst a2
  obtain ⟨⟨r0, M1, Lm1⟩, m1, e1, m2, m3, m4, m5⟩ := m_tick17 (fu := fu) (by omega) hv hT hM ht ht2
  dsimp only at m2 m4 m5
  have hN1 : TfN M1 (tkP t' p).1 (tkP t' p).2 e1 := TfN_tk hv hN ht h03 m3 (fun a y u => m4 a y (by omega))
  have t00 : (tkP t' p).1 0 0 = p.1 0 0 := tk_n (by omega)
  have t02 : (tkP t' p).1 0 2 = p.1 0 2 := tk_n (by omega)
  have t1 : ∀ m, (tkP t' p).1 1 m = p.1 1 m := fun m => tk_n (by omega)
  have t2 : ∀ m, (tkP t' p).1 2 m = p.1 2 m := fun m => tk_n (by omega)
  generalize hpp : tkP t' p = pp at hk h03 hT' a3 a4 m2 m3 hN1 t00 t02 t1 t2
  obtain ⟨n, b⟩ := pp
  dsimp only at h03 hT' a3 a4 m2 m3 hN1 t00 t02 t1 t2
  obtain ⟨k1, k2, k3, k4, k5⟩ := hk
  dsimp only at k1 k2 k3 k4 k5
  have hF := Tf_F a4
  have hle := a4.1.2.1
  generalize hM2 : mset M1 869 0 0 = M2
  have tM2 : ∀ a y, ¬ (a = 869 ∧ y = 0) → M2 a y = M1 a y := fun a y u => by rw [← hM2, mset_n u]
  have fr0 := m_frame0 (fu := fu) m2
  rw [hM2] at fr0
  have TM2 : TfM M2 Lm1 t' n b o e1 := TfM_fr m2 (fun a y u1 u2 u3 u4 => tM2 a y (by omega)) (fun _ _ _ _ => rfl)
  have hfM2 : ∀ a y, ¬ (869 ≤ a ∧ a ≤ 901) → M2 a y = M a y := fun a y u => by rw [tM2 a y (by omega), m4 a y (by omega)]
  have hfA1 : ∀ a y, ¬ (154 ≤ a ∧ a ≤ 274) → A1 a y = A a y := fun a y u => a5 a y (by omega)
  obtain ⟨A3, M3, b3, z1, z2, z3, z4, z5, z6, z7, z8, z9, z10⟩ := st_putl (fu := fu) (t := t) (C := C) (n := n) (Lc := L1) (by omega) hC6 (fun m u1 u2 => by rw [t1]; exact hC1 m u1 (by omega)) (n 0 1 - n 0 2) (n 0 2) fu fu b A1 M2 (by omega) (by omega) (by omega) a4 a3 TM2 (by rw [mset_own]; exact TfN_fr hN1 (fun a y u => tM2 a y (by omega))) (fun g u1 u2 => by
    by_cases c : g < p.1 0 1
    · rw [k3 g c]; exact hG g (by omega) c
    · exact k4 g (by omega) u2) (BusE_fr hB (fun a y u1 u2 => hfA1 a y (by omega)) (fun a y u1 u2 u3 => hfM2 a y (by omega))) (by rw [hfA1 _ _ (by omega)]; exact h13) (by rw [hfM2 _ _ (by omega)]; exact h19) (by rw [hfA1 _ _ (by omega), hfM2 _ _ (by omega)]; exact h0)
  obtain ⟨j1, j2, j3, ⟨en, j4, j5, j6⟩, j7, j8, j9, j10⟩ := id z6
  have eC : DX1_passTransfer fu A L1 = fX1_passTransfer_i19 fu (fun _ => none) (sI (n 0 1)) A3 L1 := by
    unfold DX1_passTransfer
    rw [h16, a1, mb2_s, mlet_e, show A1 154 7 = sI (n 0 2) from a3.1.2.2.1]
    exact z1
  have eM : DX19_transferred fu M Lm = fX19_transferred_i295 fu (fun _ => none) (sI (eS e1)) 8 (mset M3 869 0 0) Lm1 := by
    unfold DX19_transferred
    rw [h83, sI_L (by omega), m1, mb3_s, fr0, mb3_s, z2, m_sum295 (by omega) z5.2.2.2.2.2.2]
  have hS : eS e1 < 2000000000 := by
    rw [mset_s, mset_n (by omega)] at j10
    have := a4.1.2.2.1
    omega
  have e4 : (4 : Int32).toNatClampNeg = 4 := rfl
  have v17 : A3 3 17 = M3 732 97 := by rw [z9 _ _ (by omega) (by omega) (by omega), hfA1 _ _ (by omega), z10 _ _ (by omega) (by omega) (by omega) (by omega) (by omega) (by omega) (by omega), hfM2 _ _ (by omega)]; exact h17
  have v4 : A3 292 4 = M3 939 4 := by rw [z9 _ _ (by omega) (by omega) (by omega), hfA1 _ _ (by omega), z10 _ _ (by omega) (by omega) (by omega) (by omega) (by omega) (by omega) (by omega), hfM2 _ _ (by omega)]; exact h4
  -- both ends
  have fin : ∃ (A' M' : mwM), fX1_passTransfer_i19 fu (fun _ => none) (sI (n 0 1)) A3 L1 = some (A', L1) ∧ fX19_transferred_i295 fu (fun _ => none) (sI (eS e1)) 8 (mset M3 869 0 0) Lm1 = some (M', Lm1) ∧ A' 154 7 = sI (n 0 1) ∧ A' 154 10 = bI false ∧ M' 732 96 = sI (eS e1) ∧ A' 3 17 = M' 732 97 ∧ A' 292 4 = M' 939 4 ∧ (∀ a y, ¬ (a = 154 ∧ (y = 7 ∨ y = 10)) → ¬ (a = 3 ∧ y = 17) → ¬ (a = 292 ∧ y = 4) → A' a y = A3 a y) ∧ ∀ a y, ¬ (a = 869 ∧ y = 0) → ¬ (a = 732 ∧ (y = 96 ∨ y = 97)) → ¬ (a = 939 ∧ y = 4) → M' a y = M3 a y := by
    unfold fX1_passTransfer_i19 fX19_transferred_i295 fX1_passTransfer_b87 fX19_transferred_b350
    rw [if_pos (show A3 154 6 ≤ sI (n 0 1) by rw [z4.1.2.1, sI_le (by omega) (by omega)]; omega), if_pos (show (8 : Int32) ≤ 8 by decide), mlet_e, z4.1.2.1, e4, mset_n (show ¬ (154 = 154 ∧ 10 = 7) by omega), mset_n (show ¬ (3 = 154 ∧ 17 = 7) by omega), mset_n (show ¬ (732 = 869 ∧ 96 = 0) by omega), mset_n (show ¬ (732 = 869 ∧ 97 = 0) by omega), z4.1.2.2.2.2.2, j4, v17, j6]
    by_cases c : en < eS e1
    · rw [decide_eq_true c, bI_t, if_neg (show ¬ (1 : Int32) = 0 by decide), if_neg (show ¬ sI (eS e1) ≤ sI en by rw [sI_le (by omega) (by omega)]; omega)]
      by_cases c2 : M3 732 97 < 0
      · rw [if_pos c2, if_pos c2, mlet_e, mlet_e]
        refine ⟨_, _, rfl, rfl, ?_, ?_, ?_, ?_, ?_, ?_, ?_⟩
        · rw [mset_n (by omega), mset_s]
        · exact mset_s
        · exact mset_s
        · rw [mset_n (by omega), mset_n (by omega), mset_n (by omega), mset_n (by omega)]; exact v17
        · rw [mset_n (by omega), mset_n (by omega), mset_n (by omega), mset_n (by omega)]; exact v4
        · intro a y u1 u2 u3
          rw [mset_n (by omega), mset_n (by omega)]
        · intro a y u1 u2 u3
          rw [mset_n (by omega), mset_n (by omega)]
      · rw [if_neg c2, if_neg c2, mlet_e, mlet_e, mlet_e, mlet_e, mlet_e, mlet_e]
        refine ⟨_, _, rfl, rfl, ?_, ?_, ?_, ?_, ?_, ?_, ?_⟩
        · rw [mset_n (by omega), mset_n (by omega), mset_n (by omega), mset_s]
        · exact mset_s
        · exact mset_s
        · rw [mset_n (by omega), mset_n (by omega), mset_s, mset_n (by omega), mset_s]
        · rw [mset_n (by omega), mset_s, mset_n (by omega), mset_n (by omega), mset_n (by omega), mset_n (by omega), mset_s, mset_n (by omega), v4]
        · intro a y u1 u2 u3
          rw [mset_n (by omega), mset_n (by omega), mset_n (by omega), mset_n (by omega)]
        · intro a y u1 u2 u3
          rw [mset_n (by omega), mset_n (by omega), mset_n (by omega), mset_n (by omega)]
    · rw [decide_eq_false c, bI_f, if_pos (show (0 : Int32) = 0 from rfl), if_pos (show sI (eS e1) ≤ sI en by rw [sI_le (by omega) (by omega)]; omega), mlet_e, mlet_e]
      refine ⟨_, _, rfl, rfl, ?_, ?_, ?_, ?_, ?_, ?_, ?_⟩
      · rw [mset_n (by omega), mset_s]
      · exact mset_s
      · exact mset_s
      · rw [mset_n (by omega), mset_n (by omega), mset_n (by omega), mset_n (by omega)]; exact v17
      · rw [mset_n (by omega), mset_n (by omega), mset_n (by omega), mset_n (by omega)]; exact v4
      · intro a y u1 u2 u3
        rw [mset_n (by omega), mset_n (by omega)]
      · intro a y u1 u2 u3
        rw [mset_n (by omega), mset_n (by omega)]
  obtain ⟨A4, M4, y1, y2, y3, y4, y5, y6, y7, y8, y9⟩ := fin
  have hs : SmN n (mset n 0 2 (n 0 1)) b3 (mset b3 2 0 false) := by
    refine ⟨fun i hi => ?_, ⟨mset_n (by omega), mset_n (by omega), mset_n (by omega), mset_n (by omega)⟩, ?_, ?_, ?_⟩
    · funext j
      exact mset_n (by omega)
    · funext j
      exact mset_n (by omega)
    · funext j
      exact mset_n (by omega)
    · funext j
      exact mset_n (by omega)
  have fA : ∀ a y, ¬ (20 ≤ a ∧ a ≤ 60) → ¬ (154 ≤ a ∧ a ≤ 274) → ¬ (a = 292 ∧ (y = 0 ∨ y = 4)) → ¬ (a = 3 ∧ y = 17) → A4 a y = A a y := fun a y u1 u2 u3 u4 => by rw [y8 a y (by omega) (by omega) (by omega), z9 a y (by omega) (by omega) (by omega), hfA1 a y (by omega)]
  have fM : ∀ a y, ¬ (a = 732 ∧ (y = 91 ∨ y = 94 ∨ y = 96 ∨ y = 97)) → ¬ (821 ≤ a ∧ a ≤ 853) → ¬ (869 ≤ a ∧ a ≤ 901) → a ≠ 926 → ¬ (929 ≤ a ∧ a ≤ 930) → ¬ (a = 939 ∧ (y = 0 ∨ y = 4)) → M4 a y = M a y := fun a y u1 u2 u3 u4 u5 u6 => by rw [y9 a y (by omega) (by omega) (by omega), z10 a y (by omega) (by omega) (by omega) (by omega) (by omega) (by omega) (by omega), hfM2 a y (by omega)]
  have s00 : mset n 0 2 (n 0 1) 0 0 = n 0 0 := mset_n (by omega)
  have s01 : mset n 0 2 (n 0 1) 0 1 = n 0 1 := mset_n (by omega)
  have s03 : mset n 0 2 (n 0 1) 0 3 = n 0 3 := mset_n (by omega)
  have hob : obL (mset n 0 2 (n 0 1)) (mset b3 2 0 false) = obL (mset n 0 2 (n 0 1)) b3 := by
    unfold obL
    rw [show (mset b3 2 0 false) 1 = b3 1 from hs.2.2.2.1]
  have hidO : ∀ x, idO (mset n 0 2 (n 0 1)) (mset b3 2 0 false) x = idO (mset n 0 2 (n 0 1)) b3 x := fun x => by
    unfold idO toT
    rw [show (mset b3 2 0 false) 0 = b3 0 from hs.2.2.1]
  refine ⟨A4, M4, Lm1, (mset n 0 2 (n 0 1), mset b3 2 0 false), e1, by rw [eC]; exact y1, by rw [eM]; exact y2, ⟨TfV_sm z3 hs (by dsimp only; rw [mset_s, s01]; omega), TfC_sm z4 hs z3.1.1 (fun a y u1 u2 u3 => y8 a y (by omega) (by omega) (by omega)) (by dsimp only; rw [y3, mset_s]) (by dsimp only; rw [y4, mset_s]), TfM_sm (by
      dsimp only
      rw [s03, h03]
      exact TfM_fr z5 (fun a y u1 u2 u3 u4 => y9 a y (by omega) (by omega) (by omega)) (fun _ _ _ _ => rfl)) hs, ⟨?_, ?_, ?_, ⟨eS e1, y5, Nat.le_refl _, ?_⟩, ?_, ?_, ?_, ?_⟩, TfT_sm (by
      dsimp only
      rw [s03, h03]
      exact hT') hs, ?_, y6, ?_, ?_, QuR_fr hQu (fun a y u => fA a y (by omega) (by omega) (by omega) (by omega)) (fun a y u => fM a y (by omega) (by omega) (by omega) (by omega) (by omega) (by omega)), KnC_f hKn (by omega) (fun a y u1 u2 => fA a y (by omega) (by omega) (by omega) (by omega)), ?_⟩, by dsimp only; rw [s03]; exact h03, BusE_fr z7 (fun a y u1 u2 => y8 a y (by omega) (by omega) (by omega)) (fun a y u1 u2 u3 => y9 a y (by omega) (by omega) (by omega)), ?_, y7, fA, fM, ?_⟩
  · rw [y9 _ _ (by omega) (by omega) (by omega)]; exact j1
  · intro m u1 u2
    dsimp only
    rw [y9 _ _ (by omega) (by omega) (by omega), y9 _ _ (by omega) (by omega) (by omega), show (mset b3 2 0 false) 0 = b3 0 from hs.2.2.1]
    exact j2 m u1 u2
  · rw [y9 _ _ (by omega) (by omega) (by omega)]; exact j3
  · dsimp only
    rw [mset_s, decide_eq_false (by omega)]
  · rw [y9 _ _ (by omega) (by omega) (by omega)]; exact j7
  · dsimp only
    rw [y9 _ _ (by omega) (by omega) (by omega), hob]; exact j8
  · dsimp only
    rw [hob]
    intro k hk
    rw [y9 _ _ (by omega) (by omega) (by omega), y9 _ _ (by omega) (by omega) (by omega), hidO]
    exact j9 k hk
  · dsimp only
    rw [hob]
    exact j10
  · intro m u1 u2
    dsimp only at u2 ⊢
    rw [s00] at u2
    rw [mset_n (by omega), t1]
    exact hC1 m u1 (by omega)
  · rw [fA _ _ (by omega) (by omega) (by omega) (by omega), fM _ _ (by omega) (by omega) (by omega) (by omega) (by omega) (by omega)]; exact h3
  · cases hAn with
    | inl w => exact Or.inl ⟨by rw [fA _ _ (by omega) (by omega) (by omega) (by omega)]; exact w.1, by rw [fM _ _ (by omega) (by omega) (by omega) (by omega) (by omega) (by omega)]; exact w.2⟩
    | inr w =>
      obtain ⟨m, w1, w2, w3, w4, w5⟩ := w
      refine Or.inr ⟨m, w1, ?_, by rw [fA _ _ (by omega) (by omega) (by omega) (by omega)]; exact w3, ?_, fun j hj => ?_⟩
      · dsimp only
        rw [s00, t00]
        exact w2
      · dsimp only
        rw [fM _ _ (by omega) (by omega) (by omega) (by omega) (by omega) (by omega), mset_n (by omega), t2]
        exact w4
      · dsimp only at hj
        rw [mset_n (by omega), t2] at hj
        rw [fM _ _ (by omega) (by omega) (by omega) (by omega) (by omega) (by omega)]
        exact w5 j hj
  · intro f u1 u2
    dsimp only at u1 u2
    rw [mset_s] at u1
    rw [s01] at u2
    omega
  · rw [y8 _ _ (by omega) (by omega) (by omega), y9 _ _ (by omega) (by omega) (by omega)]
    exact z8
  · intro a y u
    exact m5 a y u
